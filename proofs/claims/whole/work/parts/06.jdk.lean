/-! ===== texts ===== -/
section XS
variable {g : Cfg} {own : String} {cc : ByteArray} {nL fr lo mc ms cells slots pc idx : Nat} {w : Wt} {lv : List (Nat × Value)} {st : List Value}
theorem xr_ldcs (C : Cx g RX8 cc nL fr lo mc ms) {i : Nat} (hi : i < 8) (h1 : stIx i = idx) (h2 : stIx i = stIx i) (hd : decode cc pc = .ok (.ldc idx, 2)) (K : XE g cells slots w (pc + 2) lv (srf g i :: st)) : XE g cells slots w pc lv st := by
  sorry
theorem xr_slen (C : Cx g own cc nL fr lo mc ms) {i : Nat} (hi : i < 8) (hd : decode cc pc = .ok (.invokevirtual idx, 3)) (K : XE g cells slots w (pc + 3) lv (.int (nI (stLen.getD i 0)) :: st)) : XE g cells slots w pc lv (srf g i :: st) := by
  sorry
theorem xr_schar (C : Cx g own cc nL fr lo mc ms) {i : Nat} {k : Int32} (hi : i < 8) (hk : inb k (stLen.getD i 0) = true) (hd : decode cc pc = .ok (.invokevirtual idx, 3)) (K : XE g cells slots w (pc + 3) lv (.int ((stByt.getD i []).getD (ix k) 0) :: st)) : XE g cells slots w pc lv (.int k :: srf g i :: st) := by
  sorry
end XS
theorem so_1 {a c : Int32} {b d : Mem} (h : some (a, b) = some (c, d)) : a = c := congrArg Prod.fst (Option.some.inj h)
theorem so_w {a c : Int32} {b d : Mem} {h0 : Shp} (h : some (a, b) = some (c, d)) : ((b, h0) : Wt) = (d, h0) := congrArg (fun x => (x, h0)) (congrArg Prod.snd (Option.some.inj h))
theorem so_v {b d : Mem} {h0 : Shp} (h : some b = some d) : ((b, h0) : Wt) = (d, h0) := congrArg (fun x => (x, h0)) (Option.some.inj h)
