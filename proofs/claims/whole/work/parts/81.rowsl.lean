/-! rows of the law's own -/
/-- the script lies outside -/
def Sc (g : Cfg) (b L : Nat) (xs : Nat → Int32) : Prop := match g with
  | (B, _, _, _, s, _, _, _, _, _, _) => va_X b L xs s s.heap ∧ b < s.heap.size ∧ b < B.2.1
/-- the law's locals -/
def lvL (g : Cfg) (b i : Nat) : List (Nat × Value) := [(0, .ref b), (1, rf g 0), (2, rf g 111), (3, .int (nI i))]
section
variable {g : Cfg} {own : String} {cc : ByteArray} {nL fr lo mc ms cells slots pc idx : Nat} {w : Wt} {lv : List (Nat × Value)} {st : List Value} {b L : Nat} {xs : Nat → Int32}
theorem xs_ld (C : Cx g own cc nL fr lo mc ms) (S : Sc g b L xs) {i : Int32} (hi : inb i L = true) (hd : decode cc pc = .ok (.iaload, 1)) (K : XE g cells slots w (pc + 1) lv (.int (xs (ix i)) :: st)) : XE g cells slots w pc lv (.int i :: .ref b :: st) := by
  obtain ⟨B, p, e, Rm, s, m, args, below, meth, c, Q⟩ := g
  intro H locs ls hz hP hS hl
  exact va_sld C.1 C.2.1 S.1 S.2.1 (Nat.not_le.mpr S.2.2) hS (inb_in hi) hd (K H locs ls hz hP hS hl)
theorem xs_len (C : Cx g own cc nL fr lo mc ms) (S : Sc g b L xs) (hd : decode cc pc = .ok (.arraylength, 1)) (K : XE g cells slots w (pc + 1) lv (.int (nI L) :: st)) : XE g cells slots w pc lv (.ref b :: st) := by
  obtain ⟨B, p, e, Rm, s, m, args, below, meth, c, Q⟩ := g
  intro H locs ls hz hP hS hl
  exact va_slen C.1 C.2.1 S.1 S.2.1 (Nat.not_le.mpr S.2.2) hS hd (K H locs ls hz hP hS hl)
/-- an int of the script -/
theorem xs_arg (C : Cx g own cc nL fr lo mc ms) (S : Sc g b L xs) (hL : L ≤ 384) {i j : Nat} {n : Int} (d0 : decode cc pc = .ok (.aload_n 0, 1)) (d1 : decode cc (pc + 1) = .ok (.iload_n 3, 1)) (d2 : decode cc (pc + 2) = .ok (.iconst n, 1)) (d3 : decode cc (pc + 3) = .ok (.iadd, 1)) (d4 : decode cc (pc + 4) = .ok (.iaload, 1)) (hn : Int32.ofInt n = nI j) (hj : i + j < L) (K : XE g cells slots w (pc + 5) (lvL g b i) (.int (xs (i + j)) :: st)) : XE g cells slots w pc (lvL g b i) st := by
  refine xr_aload_n C d0 0 rfl rfl ?_
  refine xr_iload_n C d1 3 rfl rfl ?_
  refine xr_iconst (v := nI j) C d2 hn ?_
  refine xr_iadd C d3 ?_
  refine xr_nm (nI_add i j).symm ?_
  refine xs_ld C S (inb_nI hj (by omega)) d4 ?_
  rw [ix_nI (show i + j < 2 ^ 31 by omega)]
  exact K
/-- a constructor's call out of the law -/
theorem xr_callL (C : Cx g own cc nL fr lo mc ms) {y : MethodName} {cy : ByteArray} {nLy fr1 lo1 mc1 ms1 np a : Nat} {w1 : Wt} {st0 : List Value} (As : List Value) (l1 : Wk (Cond.code y cy nLy none)) (l2 : Wk (Cond.initialized y.cls)) (l3 : Wk (Cond.instanceMethod y)) (l4 : y.name = "<init>") (l5 : y.cls ≠ "java/lang/invoke/MethodHandle" ∧ y.cls ≠ "java/lang/invoke/VarHandle" ∧ (parseMethodDescriptor y.desc).map (fun d => d.parameters.length) = some np) (l6 : Wk (Cond.methodLink own idx y)) (ctr : CtrV g.1 y cy nLy fr1 lo1 mc1 ms1 (rf g a :: As) w w1) (hnp : As.length = np) (hst : (st.map fun v => v.category).sum ≤ 8) (hs : st0 = As.reverse ++ rf g a :: st) (hd : decode cc pc = .ok (.invokespecial idx, 3)) (hr : (fr1 + 1 ≤ fr ∧ 8 + (nLy + 11) + lo1 ≤ lo) ∧ cells + mc1 ≤ mc ∧ slots + ms1 ≤ ms) (hsz : w1.2.2.2.2 = w.2.2.2.2 + mc1) (K : XE g (cells + mc1) (slots + ms1) w1 (pc + 3) lv st) : XE g cells slots w pc lv st0 := by
  obtain ⟨B, p, e, Rm, s, m, args, below, meth, c, Q⟩ := g
  subst hs
  intro H locs ls hz hP hS hl T hT X
  have hsz0 : H.size = B.2.1 + w.2.2.2.2 := by rw [← hT]; exact sz_of X hz C.2.2.2.2.2.1 (by rw [hT]; exact hP)
  obtain ⟨hx, hb, hml, hown, hSW, hbs, hlk, e1, e2, e3, e4⟩ := C
  subst e1 e2 e3 e4
  have hts : ∀ w : Cond, Wk w → w.before args s = true := fun w hw => hSW.1 w hw _
  refine va_callv (va_runI (As := As) (rest := st) (Ts := []) ⟨hx, hb, hml, hown, fun w h => by cases h⟩ ctr ⟨callB_of np (fun w hw => hts w (one1 l1 w hw)) (good1 l1) rfl rfl rfl (hts _ l2) (hts _ l6) l5 hr.1, l4, hts _ l3⟩ ⟨WD.blind, fun U hU hW => ⟨rfl, by rw [hU]; exact hsz0, by rw [hU]; exact hP, hSW.step hW (fun a h1 h2 => by rw [hU]; exact hS.2.1 a h1 h2) (by rw [hU]; exact hS.1)⟩⟩ rfl hnp (by rw [← hml]; exact hl.1) rfl (lv_room hst) hd hr.2) hS (fun q _ h => h) (fun q h => h) (fun u t H1 locs1 ht hvm hw hB hz1 hk1 hS1 => ?_) T hT X
  exact K H1 locs1 ls (by rw [hsz]; have := hz; omega) (by rw [← ht]; exact hB.2.1) hS1 hl
end
theorem and31 (x : Int32) : ∃ j : Nat, j < 32 ∧ x &&& 31 = nI j := by
  have h1 : (x &&& 31).toBitVec.toNat ≤ 31 := by
    show (x.toBitVec &&& 31#32).toNat ≤ 31
    rw [BitVec.toNat_and]
    exact Nat.and_le_right
  refine ⟨(x &&& 31).toBitVec.toNat, by omega, ?_⟩
  apply Int32.toBitVec_inj.mp
  show (x &&& 31).toBitVec = BitVec.ofNat 32 (x &&& 31).toBitVec.toNat
  rw [BitVec.ofNat_toNat, BitVec.setWidth_eq]
