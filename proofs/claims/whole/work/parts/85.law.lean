/-! THE CLAIM OUT OF ONE WALK OF THE LAW'S BODY. Your part is whole_start (and what it stands on); all else here is the same for every law, but numbers. -/
def R_law : String := "BumperBallsLaw"
def lw_P (b : Addr) (xs : List Int32) (args : Array Value) (s : State) : Prop := args = #[.ref b] ∧ s.IntsAt b xs ∧ xs.length ≤ 384 ∧ (Jvm.Cond.and given_1 narrow_1).before args s = true
def lw_Q (_ : Array Value) (s : State) (o : Outcome) (t : State) : Prop := o = .returned (some (.int 1)) ∧ Framed s o t [] 600000 7302250
def lw_Z (below : List Frame) (a : Array Value) (s : State) : State → Prop := fun t => ∃ o, t.status = .running ∧ Ended t below o ∧ lw_Q a s o t
/-- the law's own end, with 1 on the stack, nothing written that was there before, its room as the claim has it -/
theorem lw_ret {p : Program} {l : Launch} {e : Env} {s : State} {m : MethodId} {below : List Frame} {meth : Method} {c : Code} {b : Nat} (hx : p.tables.exec = Jvm.exec) (hb : c.code = code) (hr : meth.sig.returnType = ret) (hlocks : meth.locks = false) {pc : Nat} {H : Heap} {ls : Array Slot} (hdg : decode code pc = .ok (.ireturn, 1)) : W p l e room_1 s m #[Value.ref b] below meth c H [] 600000 7302250 (lw_Z below #[Value.ref b] s) (F0 m pc ls [.int 1]) := by
  intro T hT X
  obtain ⟨fs, hret, hrun, hended, hW, hframe⟩ := X.leave (v := some (.int 1)) (hlocks := hlocks) (fun h => by rw [hr] at h; cases h)
  have hmeth' : T.vm.method? m = some meth := X.method'
  refine ⟨T.setFrames fs, ?_, .returned (some (.int 1)), hrun, hended, rfl, ⟨_, rfl⟩, hW, hframe⟩
  jvm_step X.here [X.here.top, hx, hb, hdg, hmeth', hr, ret, narrow_b1]
  (try refine ⟨rfl, ?_⟩); (try refine ⟨rfl, ?_⟩)
  first | (intro acts; rw [hret _ acts rfl rfl rfl]) | rw [hret _ _ rfl rfl rfl]
  exact Steps.refl _
/-- what holds at the law's entry: the machine, the code, the tables' words (any of lw_tbl by 'hts w (by decide +kernel)'), the script of L ints xs at the cell b, what the Statement gives of the start (any of its parts by flat_of_before) -/
def lw_At (p : Program) (s : State) (m : MethodId) (meth : Method) (c : Code) (b L : Nat) (xs : Nat → Int32) : Prop :=
  p.tables.exec = Jvm.exec ∧ c.code = code ∧ meth.sig.returnType = ret ∧ c.maxLocals = 4 ∧ s.vm.findClass R_law = some m.cls ∧ (∀ w ∈ lw_tbl, w.before #[Value.ref b] s = true) ∧ va_X b L xs s s.heap ∧ b < s.heap.size ∧ meth.locks = false ∧ (Jvm.Cond.and given_1 narrow_1).before #[Value.ref b] s = true
/-! the law's loop -/
theorem l_s {slots s1 k : Nat} (h : slots ≤ 25066 + 43014 * k) (z : s1 ≤ slots + 43014) : s1 ≤ 25066 + 43014 * (k + 1) := by
  rw [Nat.mul_succ, ← Nat.add_assoc]
  exact Nat.le_trans z (Nat.add_le_add_right h _)
section
variable {g : Cfg} {b L : Nat} {xs : Nat → Int32}
theorem law_body (C : Cx g "BumperBallsLaw" code 4 12 430 600000 7302250) (S : Sc g b L xs) (hL : L ≤ 384) (En : ∀ (cells slots : Nat) (w : Wt) (lv : List (Nat × Value)), cells ≤ 600000 → slots ≤ 7302250 → XE g cells slots w 971 lv [.int 1]) {k : Nat} (hk : k ≤ 64) {w : Wt} {cells slots : Nat} (v : InvL w) (hc : cells ≤ 122 + 6 * k) (hs : slots ≤ 25066 + 43014 * k) (next : 6 * k + 6 ≤ L → ∀ (w1 : Wt) (c1 s1 : Nat), InvL w1 → c1 ≤ 122 + 6 * (k + 1) → s1 ≤ 25066 + 43014 * (k + 1) → XE g c1 s1 w1 18 (lvL g b (6 * (k + 1))) []) : XE g cells slots w 18 (lvL g b (6 * k)) [] := by
  refine xr_iload_n C dL_18 3 rfl rfl ?_
  refine xr_aload_n C dL_19 0 rfl rfl ?_
  refine xs_len C S dL_20 ?_
  refine xr_bipush (v := 6) C dL_21 (by decide) ?_
  refine xr_isub C dL_23 ?_
  have e1 := lt_int (nI L - 6) (nI (6 * k))
  have e2 : (nI L - 6).toInt = (L : Int) - 6 := by
    have := pk_sub_toInt (a := L) (b := 6) (by omega) (by omega)
    exact this
  rw [e2, nI_toInt (by omega)] at e1
  by_cases hc6 : 6 * k + 6 ≤ L
  · refine xr_icmp_gt (tgt := 970) (A := some ()) (Bx := some ()) (o := ()) C dL_24 (by decide) (by split <;> rfl) (fun q _ => absurd (e1.mp q) (by omega)) (fun _ _ => ?_)
    refine xr_aload_n C dL_27 0 rfl rfl ?_
    refine xr_iload_n C dL_28 3 rfl rfl ?_
    refine xs_ld C S (inb_nI (show 6 * k < L by omega) (by omega)) dL_29 ?_
    refine xr_bipush (v := 31) C dL_30 (by decide) ?_
    refine xr_iand C dL_32 ?_
    obtain ⟨j, hj, ej⟩ := and31 (xs (ix (nI (6 * k))))
    refine sw_law C S hL (i := 6 * k) hc6 v (by omega) (by omega) (fun w1 c1 s1 v1 z1 z2 => ?_) j hj ej
    refine xr_iinc (v := nI (6 * (k + 1))) C dL_964 (k := 3) rfl (nI_add (6 * k) 6) (by decide) rfl ?_
    refine xr_goto (tgt := 18) C dL_967 (by decide) ?_
    refine xr_lv [1, 2, 3, 0] rfl ?_
    exact next hc6 w1 c1 s1 v1 (by omega) (l_s hs z2)
  · refine xr_icmp_gt (tgt := 970) (A := some ()) (Bx := some ()) (o := ()) C dL_24 (by decide) (by split <;> rfl) (fun _ _ => ?_) (fun q _ => absurd (e1.mpr (by omega)) q)
    refine xr_iconst (v := 1) C dL_970 (by decide) ?_
    exact En cells slots w _ (by omega) (by omega)
theorem law_loop (C : Cx g "BumperBallsLaw" code 4 12 430 600000 7302250) (S : Sc g b L xs) (hL : L ≤ 384) (En : ∀ (cells slots : Nat) (w : Wt) (lv : List (Nat × Value)), cells ≤ 600000 → slots ≤ 7302250 → XE g cells slots w 971 lv [.int 1]) : ∀ (n k : Nat) (w : Wt) (cells slots : Nat), 64 ≤ k + n → k ≤ 64 → InvL w → cells ≤ 122 + 6 * k → slots ≤ 25066 + 43014 * k → XE g cells slots w 18 (lvL g b (6 * k)) []
  | 0, k, w, cells, slots, h1, h2, v, hc, hs => law_body C S hL En h2 v hc hs (fun q => absurd q (by omega))
  | n + 1, k, w, cells, slots, h1, h2, v, hc, hs => law_body C S hL En h2 v hc hs (fun q w1 c1 s1 v1 z1 z2 => law_loop C S hL En n (k + 1) w1 c1 s1 (by omega) (by omega) v1 z1 z2)
/-- the law from its entry -/
theorem law_entry (C : Cx g "BumperBallsLaw" code 4 12 430 600000 7302250) (S : Sc g b L xs) (hL : L ≤ 384) (En : ∀ (cells slots : Nat) (w : Wt) (lv : List (Nat × Value)), cells ≤ 600000 → slots ≤ 7302250 → XE g cells slots w 971 lv [.int 1]) {w1 w2 : Wt} (h1 : fwX9_init 110 2252 (al wE 9 12) 0 0 0 = some w1) (z1 : w1.2.2.2.2 = 111) (h2 : fwX10_init 10 22780 (al w1 10 22) 0 0 111 = some w2) (z2 : w2.2.2.2.2 = 122) (v : InvL w2) : XE g 0 0 wE 0 [(0, .ref b)] [] := by
  refine xr_new (kd := 9) (n := 12) C Kd9 df9 wk_18 wk_19 wk_1 ⟨by omega, by omega⟩ dL_0 rfl ?_
  refine xr_dup C dL_3 rfl ?_
  refine xr_callL (np := 0) C [] wk_22 wk_1 wk_21 rfl ⟨by decide +kernel, by decide +kernel, by decide +kernel⟩ wk_20 (kwX9_init h1) rfl (Nat.le_of_ble_eq_true rfl) rfl dL_4 ⟨⟨by decide, by decide⟩, by omega, by omega⟩ (by rw [z1]; rfl) ?_
  refine xr_astore_n C dL_7 rfl (by decide) rfl ?_
  refine xr_new (kd := 10) (n := 22) C Kd10 df10 wk_814 wk_815 wk_11 ⟨by omega, by omega⟩ dL_8 rfl ?_
  refine xr_dup C dL_11 rfl ?_
  rw [z1]
  refine xr_callL (np := 0) C [] wk_818 wk_11 wk_817 rfl ⟨by decide +kernel, by decide +kernel, by decide +kernel⟩ wk_816 (kwX10_init h2) rfl (Nat.le_of_ble_eq_true rfl) rfl dL_12 ⟨⟨by decide, by decide⟩, by omega, by omega⟩ (by rw [z2]; show 122 = w1.2.2.2.2 + 1 + 10; rw [z1]) ?_
  refine xr_astore_n C dL_15 rfl (by decide) rfl ?_
  refine xr_iconst (v := 0) C dL_16 (by decide) ?_
  refine xr_istore_n C dL_17 rfl (by decide) rfl ?_
  refine xr_lv [3, 2, 1, 0] rfl ?_
  exact law_loop C S hL En 64 0 w2 _ _ (by omega) (by omega) v (by omega) (by omega)
end
