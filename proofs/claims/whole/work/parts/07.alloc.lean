/-! ===== making: objects, arrays; constructors ===== -/
def al (w : Wt) (k n : Nat) : Wt := (fun x => if x = w.2.2.2.2 then (fun _ => 0) else w.1 x, fun x => if x = w.2.2.2.2 then (fun _ => none) else w.2.1 x, fun x => if x = w.2.2.2.2 then k else w.2.2.1 x, fun x => if x = w.2.2.2.2 then n else w.2.2.2.1 x, w.2.2.2.2 + 1)
/-- an array of n arrays of m ints -/
def al2 (w : Wt) (n m : Nat) : Wt := (fun x => if w.2.2.2.2 ≤ x ∧ x ≤ w.2.2.2.2 + n then (fun _ => 0) else w.1 x, fun x => if x = w.2.2.2.2 then (fun j => if j < n then some (w.2.2.2.2 + 1 + j) else none) else if w.2.2.2.2 ≤ x ∧ x ≤ w.2.2.2.2 + n then (fun _ => none) else w.2.1 x, fun x => if x = w.2.2.2.2 then 14 else if w.2.2.2.2 ≤ x ∧ x ≤ w.2.2.2.2 + n then 11 else w.2.2.1 x, fun x => if x = w.2.2.2.2 then n else if w.2.2.2.2 ≤ x ∧ x ≤ w.2.2.2.2 + n then m else w.2.2.2.1 x, w.2.2.2.2 + 1 + n)
theorem cellE_same {b : Nat} {cs : Nat → ClassId} {I I1 : Mem} {R R1 : Rfs} {K K1 N N1 : Nat → Nat} {x : Nat} (h1 : I1 x = I x) (h2 : R1 x = R x) (h3 : K1 x = K x) (h4 : N1 x = N x) : cellE b cs I1 R1 K1 N1 x = cellE b cs I R K N x := by
  simp only [cellE, h1, h2, h3, h4]
  rw [show slV b I1 R1 (K x) x = slV b I R (K x) x from funext fun j => by simp only [slV, h1, h2]]
theorem pool_al {b : Nat} {cs : Nat → ClassId} {w : Wt} {k n : Nat} : pool b cs (al w k n) = pool b cs w ++ [(b + w.2.2.2.2, cellE b cs (al w k n).1 (al w k n).2.1 (al w k n).2.2.1 (al w k n).2.2.2.1 w.2.2.2.2)] := by
  unfold pool
  rw [show (al w k n).2.2.2.2 = w.2.2.2.2 + 1 from rfl, List.range_succ, List.map_append]
  congr 1
  apply List.map_congr_left
  intro x hx
  have hx2 : ¬ x = w.2.2.2.2 := by have := List.mem_range.mp hx; omega
  rw [cellE_same (if_neg hx2) (if_neg hx2) (if_neg hx2) (if_neg hx2)]
theorem al_I {w : Wt} {k n : Nat} : (al w k n).1 w.2.2.2.2 = fun _ => 0 := if_pos rfl
theorem al_R {w : Wt} {k n : Nat} : (al w k n).2.1 w.2.2.2.2 = fun _ => none := if_pos rfl
theorem al_K {w : Wt} {k n : Nat} : (al w k n).2.2.1 w.2.2.2.2 = k := if_pos rfl
theorem al_N {w : Wt} {k n : Nat} : (al w k n).2.2.2.1 w.2.2.2.2 = n := if_pos rfl
def isK (w : Wt) (a k : Nat) : Bool := decide (w.2.2.1 a = k) && decide (a < w.2.2.2.2)
theorem isK_ok {w : Wt} {a k : Nat} (h : isK w a k = true) : ta w.2 a k := by
  simp only [isK, Bool.and_eq_true, decide_eq_true_eq] at h
  exact h
theorem isA_ok {w : Wt} {a k : Nat} (h : isK w a k = true) : tA w.2 a k (w.2.2.2.1 a) := ⟨(isK_ok h).1, (isK_ok h).2, rfl⟩
theorem vr_outer (c : ClassId) (N h0 : Nat) : ∀ i : Nat, Jvm.Free.Multi.outerC c N h0 i = arrV c N (fun j => va_rf (if j < i then some (h0 + 1 + j) else none))
  | 0 => by
    show ({ cls := c, slots := Array.replicate N .null, vm := .none } : Cell) = _
    rw [arrV_new]
    refine congrArg (arrV c N) (funext fun j => ?_)
    simp [va_rf]
  | i + 1 => by
    show (Jvm.Free.Multi.outerC c N h0 i).setSlot i (.ref (h0 + 1 + i)) = _
    rw [vr_outer c N h0 i, arrV_store]
    refine congrArg (arrV c N) (funext fun j => ?_)
    by_cases e : j = i
    · subst e
      simp [updV, va_rf]
    · by_cases h : j < i
      · simp [updV, e, h, Nat.lt_succ_of_lt h]
      · simp [updV, e, h, show ¬ j < i + 1 by omega]
section XL
variable {g : Cfg} {own : String} {cc : ByteArray} {nL fr lo mc ms cells slots pc idx : Nat} {w : Wt} {lv : List (Nat × Value)} {st : List Value}
theorem xr_new (C : Cx g own cc nL fr lo mc ms) {kd n : Nat} {Cn : String} {T : u_T} {ty0 : Nat → FieldType} (hKd : Kd kd Cn T n ty0) (hdf : ∀ j, j < n → defaultValue (ty0 j) = if slR kd j then .null else .int 0) (w1 : Wk (Cond.classLink own idx Cn)) (w2 : Wk (Cond.instantiable Cn n)) (w3 : Wk (Cond.initialized Cn)) (hroom : cells + 1 ≤ mc ∧ slots + n ≤ ms) (hd : decode cc pc = .ok (.new idx, 3)) {u : Wt} (h1 : u = al w kd n) (K : XE g (cells + 1) (slots + n) u (pc + 3) lv (rf g w.2.2.2.2 :: st)) : XE g cells slots w pc lv st := by
  obtain ⟨B, p, e, Rm, s, m, args, below, meth, c, Q⟩ := g
  intro H locs ls hz hP hS hl T0 hT X
  have hsz : H.size = B.2.1 + w.2.2.2.2 := by rw [← hT]; exact sz_of X hz C.2.2.2.2.2.1 (by rw [hT]; exact hP)
  obtain ⟨hx, hb, hml, hown, hSW, hbs, hlk, e1, e2, e3, e4⟩ := C
  subst e1 e2 e3 e4
  have hKn := hSW.2.2.1.1 kd _ hKd.1
  refine W.newcK (g := F0 m pc ls st) hx hb hown (hSW.1 _ w1 _) (hSW.1 _ w2 _) (hSW.1 _ w3 _) rfl hd hroom.1 hroom.2 hKn.2.1 hsz (fun H1 kC hkC e1 z1 o1 => ?_) T0 hT X
  have hk : ∀ (k : Nat) (x : Nat × va_E), (pool B.2.1 B.2.2.2.1 w)[k]? = some x → H1[x.1]? = H[x.1]? := fun k x hx => o1 x.1 (by rw [← hsz]; exact (hP k x hx).lt)
  refine K H1 locs ls (by subst h1; show _ = B.2.1 + (w.2.2.2.2 + 1); have : s.heap.size + cells = B.2.1 + w.2.2.2.2 := hz; omega) ?_ ⟨Nat.le_trans hS.1 (by omega), fun x h1 h2 => (o1 x (by rw [← hsz]; exact Nat.lt_of_lt_of_le h1 hS.1)).trans (hS.2.1 x h1 h2), hS.2.2⟩ hl
  subst h1
  rw [pool_al]
  refine (hP.kept hk).app (fun k x hx => ?_)
  have hz0 : k < 1 := (List.getElem?_eq_some_iff.mp hx).1
  rw [show k = 0 by omega] at hx
  cases hx
  have hce : cellE B.2.1 B.2.2.2.1 (al w kd n).1 (al w kd n).2.1 (al w kd n).2.2.1 (al w kd n).2.2.2.1 w.2.2.2.2 = .inr (kd, (List.range n).map (fun j => if slR kd j then Value.null else .int 0)) := by
    rw [cellE_obj al_K hKd.2.2.1, hKd.2.2.2.1]
    congr 2
    apply List.map_congr_left
    intro j _
    unfold slV
    rw [al_I, al_R]
    cases slR kd j <;> rfl
  rw [hce]
  refine ⟨_, hKd.1, (u_born (ws := u_ws Cn T n) (args := args) ty0 (fun w hw => hSW.1 w (hKd.2.1 w hw) _) (fun _ h => h) hKn hkC e1 hKd.2.2.2.2.1).to (fun j hj => ?_)⟩
  rw [hdf j hj]
  show _ = vp_V _ j
  unfold vp_V
  rw [List.getD_eq_getElem?_getD, List.getElem?_map, List.getElem?_range hj]
  rfl
theorem xr_newi (C : Cx g own cc nL fr lo mc ms) {n : Int32} {N0 : Nat} (wa : Wk (Cond.arrayClass .int)) (hn : 0 ≤ n.toInt) (hN : ix n = N0) (hby : N0 ≤ 100000) (hroom : cells + 1 ≤ mc ∧ slots + N0 ≤ ms) (hd : decode cc pc = .ok (.newarray .int, 2)) {u : Wt} (h1 : u = al w 11 N0) (K : XE g (cells + 1) (slots + N0) u (pc + 2) lv (rf g w.2.2.2.2 :: st)) : XE g cells slots w pc lv (.int n :: st) := by
  obtain ⟨B, p, e, Rm, s, m, args, below, meth, c, Q⟩ := g
  intro H locs ls hz hP hS hl T0 hT X
  have hsz : H.size = B.2.1 + w.2.2.2.2 := by rw [← hT]; exact sz_of X hz C.2.2.2.2.2.1 (by rw [hT]; exact hP)
  obtain ⟨hx, hb, hml, hown, hSW, hbs, hlk, e1, e2, e3, e4⟩ := C
  subst e1 e2 e3 e4
  refine va_newaK (g := F0 m pc ls (.int n :: st)) (atype := .int) hx hb (hSW.1 _ wa _) rfl hd rfl (i32_nn hn) hN (by show N0 * 4 ≤ _; omega) hroom.1 hroom.2 hsz (fun H1 cA e1 z1 o1 hAr hNm => ?_) T0 hT X
  have hcA : cA = B.2.2.2.1 11 := Option.some.inj (hNm.symm.trans (hSW.2.2.1.2 0 _ rfl).2)
  subst hcA
  have hk : ∀ (k : Nat) (x : Nat × va_E), (pool B.2.1 B.2.2.2.1 w)[k]? = some x → H1[x.1]? = H[x.1]? := fun k x hx => o1 x.1 (by rw [← hsz]; exact (hP k x hx).lt)
  refine K H1 locs ls (by subst h1; show _ = B.2.1 + (w.2.2.2.2 + 1); have : s.heap.size + cells = B.2.1 + w.2.2.2.2 := hz; omega) ?_ ⟨Nat.le_trans hS.1 (by omega), fun x h1 h2 => (o1 x (by rw [← hsz]; exact Nat.lt_of_lt_of_le h1 hS.1)).trans (hS.2.1 x h1 h2), hS.2.2⟩ hl
  subst h1
  rw [pool_al]
  refine (hP.kept hk).app (fun k x hx => ?_)
  have hz0 : k < 1 := (List.getElem?_eq_some_iff.mp hx).1
  rw [show k = 0 by omega] at hx
  cases hx
  rw [cellE_int al_K al_N, al_I]
  show H1[B.2.1 + w.2.2.2.2]? = some (vp_cell _ _)
  rw [e1, vp_cell_i]
  rfl
theorem xr_newq (C : Cx g own cc nL fr lo mc ms) {n : Int32} {N0 kd : Nat} {Cn : String} (hkd : (kd = 12 ∧ Cn = "BumperBalls$Image") ∨ (kd = 13 ∧ Cn = "BumperBalls$Play")) (w1 : Wk (Cond.classLink own idx Cn)) (hn : 0 ≤ n.toInt) (hN : ix n = N0) (hby : N0 ≤ 100000) (hroom : cells + 1 ≤ mc ∧ slots + N0 ≤ ms) (hd : decode cc pc = .ok (.anewarray idx, 3)) {u : Wt} (h1 : u = al w kd N0) (K : XE g (cells + 1) (slots + N0) u (pc + 3) lv (rf g w.2.2.2.2 :: st)) : XE g cells slots w pc lv (.int n :: st) := by
  obtain ⟨B, p, e, Rm, s, m, args, below, meth, c, Q⟩ := g
  intro H locs ls hz hP hS hl T0 hT X
  have hsz : H.size = B.2.1 + w.2.2.2.2 := by rw [← hT]; exact sz_of X hz C.2.2.2.2.2.1 (by rw [hT]; exact hP)
  obtain ⟨hx, hb, hml, hown, hSW, hbs, hlk, e1, e2, e3, e4⟩ := C
  subst e1 e2 e3 e4
  subst hN
  have hover : va_AO Cn s := by
    rcases hkd with ⟨-, rfl⟩ | ⟨-, rfl⟩
    · exact hSW.2.2.2.2.2.2.2.2.2.2.2.2.1
    · exact hSW.2.2.2.2.2.2.2.2.2.2.2.1
  refine W.anew (g := F0 m pc ls (.int n :: st)) hx hb hown (hSW.1 _ w1 _) (va_AO.use hover) rfl hd rfl (i32_nn hn) (by show ix n * 4 ≤ _; omega) hroom.1 hroom.2 (fun cA kA comp f1 f2 f3 f4 => ?_) T0 hT X
  generalize hH1 : H.push ({ cls := cA, slots := Array.replicate n.toNatClampNeg .null, vm := .none } : Cell) = H1
  have z1 : H1.size = H.size + 1 := by rw [← hH1, Array.size_push]
  have e1 : H1[H.size]? = some (arrV cA n.toNatClampNeg (fun _ => .null)) := by rw [← hH1, Array.getElem?_push_size, ← arrV_new]
  have o1 : ∀ q : Nat, q < H.size → H1[q]? = H[q]? := fun q hq => by rw [← hH1, Array.getElem?_push, if_neg (Nat.ne_of_lt hq)]
  have hcA : cA = B.2.2.2.1 kd := by
    rcases hkd with ⟨rfl, rfl⟩ | ⟨rfl, rfl⟩
    · obtain ⟨k1, k2, -, -, -, k5⟩ := (hSW.2.2.1.2 1 _ rfl).2
      exact Option.some.inj (f1.symm.trans k5)
    · obtain ⟨k1, k2, -, -, -, k5⟩ := (hSW.2.2.1.2 2 _ rfl).2
      exact Option.some.inj (f1.symm.trans k5)
  subst hcA
  have hk : ∀ (k : Nat) (x : Nat × va_E), (pool B.2.1 B.2.2.2.1 w)[k]? = some x → H1[x.1]? = H[x.1]? := fun k x hx => o1 x.1 (hP k x hx).lt
  rw [hsz] at z1 e1 o1 ⊢
  refine K H1 locs ls (by subst h1; show _ = B.2.1 + (w.2.2.2.2 + 1); have : s.heap.size + cells = B.2.1 + w.2.2.2.2 := hz; omega) ?_ ⟨Nat.le_trans hS.1 (by omega), fun x h1 h2 => (o1 x (by rw [← hsz]; exact Nat.lt_of_lt_of_le h1 hS.1)).trans (hS.2.1 x h1 h2), hS.2.2⟩ hl
  subst h1
  rw [pool_al]
  refine (hP.kept hk).app (fun k x hx => ?_)
  have hz0 : k < 1 := (List.getElem?_eq_some_iff.mp hx).1
  rw [show k = 0 by omega] at hx
  cases hx
  rw [cellE_ref al_K (by omega) al_N, al_R]
  show H1[B.2.1 + w.2.2.2.2]? = some (vp_cell _ _)
  rw [e1, vp_cell_q]
  rfl
theorem xr_mna (C : Cx g own cc nL fr lo mc ms) {n k : Int32} {N0 K0 : Nat} (w1 : Wk (Cond.classLink own idx ("[" ++ (FieldType.array .int).toString))) (wa : Wk (Cond.arrayClass .int)) (hn : 0 ≤ n.toInt) (hk : 0 ≤ k.toInt) (hN : ix n = N0) (hM : ix k = K0) (hb1 : N0 ≤ 1000) (hb2 : K0 ≤ 1000) (hroom : cells + (1 + N0) ≤ mc ∧ slots + (N0 + N0 * K0) ≤ ms) (hd : decode cc pc = .ok (.multianewarray idx 2, 4)) {u : Wt} (h1 : u = al2 w N0 K0) (K : XE g (cells + 1 + N0) (slots + N0 + N0 * K0) u (pc + 4) lv (rf g w.2.2.2.2 :: st)) : XE g cells slots w pc lv (.int k :: .int n :: st) := by
  obtain ⟨B, p, e, Rm, s, m, args, below, meth, c, Q⟩ := g
  intro H locs ls hz hP hS hl T hT X
  have hsz : H.size = B.2.1 + w.2.2.2.2 := by rw [← hT]; exact sz_of X hz C.2.2.2.2.2.1 (by rw [hT]; exact hP)
  obtain ⟨hx, hb, hml, hown, hSW, hbs, hlk, e1, e2, e3, e4⟩ := C
  subst e1 e2 e3 e4
  subst hN hM
  obtain ⟨vm₁, cA, comp, -, fA, fC, hO, -, X1, step⟩ := X.multianewarray2F (ty := .int) hx hown (hSW.1 _ w1 _) (hSW.2.2.2.2.2.2.2.2.2.2.2.2.2 s (Vm.Alike.refl _)) (hSW.1 _ wa _) (g := F0 m pc ls (.int k :: .int n :: st)) rfl (by rw [hb]; exact hd) rfl (i32_nn hn) (i32_nn hk) (by show ix n * 4 ≤ _; omega) (by show ix k * 4 ≤ _; omega) (by show ix k ≤ _; omega) rfl rfl hroom.1 hroom.2
  have hcA : cA = B.2.2.2.1 14 := Option.some.inj (fA.symm.trans (hSW.2.2.1.2 3 _ rfl).2)
  have hcC : comp = B.2.2.2.1 11 := Option.some.inj (fC.symm.trans (hSW.2.2.1.2 0 _ rfl).2)
  subst hcA hcC
  generalize hF : Jvm.Free.Multi.fill (T.setVm vm₁) (B.2.2.2.1 14) (B.2.2.2.1 11) n.toNatClampNeg k.toNatClampNeg (defaultValue .int) n.toNatClampNeg = F at X1 step
  have hTh : (T.setVm vm₁).heap = H := hT
  obtain ⟨f1, f2, -, -⟩ := Jvm.Free.Multi.fill_facts (T.setVm vm₁) (B.2.2.2.1 14) (B.2.2.2.1 11) n.toNatClampNeg k.toNatClampNeg (defaultValue .int) n.toNatClampNeg
  rw [hF, hTh] at f1 f2
  rw [vr_outer] at f2
  have hold : ∀ x : Nat, x < H.size → F.heap[x]? = H[x]? := fun x hx => by
    have := Jvm.Free.Multi.fill_old (T.setVm vm₁) (B.2.2.2.1 14) (B.2.2.2.1 11) n.toNatClampNeg k.toNatClampNeg (defaultValue .int) (a := x) (by rw [hTh]; exact hx) n.toNatClampNeg
    rw [hF, hTh] at this
    exact this
  have hrow : ∀ j : Nat, j < n.toNatClampNeg → F.heap[H.size + 1 + j]? = some (vp_cell (B.2.2.2.1 11) (ix k, .inl (fun _ => 0))) := fun j hj => by
    have := Jvm.Free.Multi.fill_inner (T.setVm vm₁) (B.2.2.2.1 14) (B.2.2.2.1 11) n.toNatClampNeg k.toNatClampNeg (defaultValue .int) n.toNatClampNeg j hj
    rw [hF, hTh] at this
    rw [this]
    show some ({ cls := _, slots := Array.replicate _ (.int 0), vm := .none } : Cell) = _
    rw [arrV_new]
    rfl
  have hP1 : va_P B.2.2.1 vwCl (pool B.2.1 B.2.2.2.1 (al2 w (ix n) (ix k))) F.heap := by
    intro i q hq
    have hi := pool_inv hq
    have hi1 : i < w.2.2.2.2 + 1 + ix n := hi.1
    rw [pool_get hi.1] at hq
    cases hq
    by_cases c1 : i < w.2.2.2.2
    · have h0 := hP i _ (pool_get c1)
      have ne1 : ¬ (w.2.2.2.2 ≤ i ∧ i ≤ w.2.2.2.2 + ix n) := by omega
      have ne2 : ¬ i = w.2.2.2.2 := by omega
      have k1 : (al2 w (ix n) (ix k)).1 i = w.1 i := if_neg ne1
      have k2 : (al2 w (ix n) (ix k)).2.1 i = w.2.1 i := (if_neg ne2).trans (if_neg ne1)
      have k3 : (al2 w (ix n) (ix k)).2.2.1 i = w.2.2.1 i := (if_neg ne2).trans (if_neg ne1)
      have k4 : (al2 w (ix n) (ix k)).2.2.2.1 i = w.2.2.2.1 i := (if_neg ne2).trans (if_neg ne1)
      rw [cellE_same k1 k2 k3 k4]
      exact h0.kept (hold _ h0.lt)
    · by_cases c2 : i = w.2.2.2.2
      · subst c2
        have k3 : (al2 w (ix n) (ix k)).2.2.1 w.2.2.2.2 = 14 := if_pos rfl
        have k4 : (al2 w (ix n) (ix k)).2.2.2.1 w.2.2.2.2 = ix n := if_pos rfl
        rw [cellE_ref k3 (by omega) k4]
        show F.heap[B.2.1 + w.2.2.2.2]? = some (vp_cell _ _)
        rw [← hsz, f2, vp_cell_q]
        refine congrArg (fun f => some (arrV (B.2.2.2.1 14) (ix n) f)) (funext fun j => congrArg va_rf ?_)
        have k5 : (al2 w (ix n) (ix k)).2.1 w.2.2.2.2 = fun j => if j < ix n then some (w.2.2.2.2 + 1 + j) else none := if_pos rfl
        rw [k5]
        show _ = (if j < ix n then some (w.2.2.2.2 + 1 + j) else none).map _
        by_cases hj : j < ix n
        · rw [if_pos hj, if_pos (show j < n.toNatClampNeg from hj), hsz]
          exact congrArg some (by show B.2.1 + w.2.2.2.2 + 1 + j = B.2.1 + (w.2.2.2.2 + 1 + j); omega)
        · rw [if_neg hj, if_neg (show ¬ j < n.toNatClampNeg from hj)]
          rfl
      · have in1 : w.2.2.2.2 ≤ i ∧ i ≤ w.2.2.2.2 + ix n := by omega
        have k3 : (al2 w (ix n) (ix k)).2.2.1 i = 11 := (if_neg c2).trans (if_pos in1)
        have k4 : (al2 w (ix n) (ix k)).2.2.2.1 i = ix k := (if_neg c2).trans (if_pos in1)
        rw [cellE_int k3 k4]
        have h9 := hrow (i - w.2.2.2.2 - 1) (by show _ < ix n; omega)
        rw [hsz, show B.2.1 + w.2.2.2.2 + 1 + (i - w.2.2.2.2 - 1) = B.2.1 + i by omega] at h9
        show F.heap[B.2.1 + i]? = some (vp_cell _ _)
        have k1 : (al2 w (ix n) (ix k)).1 i = fun _ => 0 := if_pos in1
        rw [h9, k1]
  have hKK := K F.heap locs ls (by subst h1; show s.heap.size + (cells + 1 + ix n) = B.2.1 + (w.2.2.2.2 + 1 + ix n); have : s.heap.size + cells = B.2.1 + w.2.2.2.2 := hz; omega) (by rw [h1]; exact hP1) ⟨Nat.le_trans hS.1 (by omega), fun x h1 h2 => (hold x (Nat.lt_of_lt_of_le h1 hS.1)).trans (hS.2.1 x h1 h2), hS.2.2⟩ hl
  obtain ⟨t, a1, b1⟩ := hKK F rfl X1
  refine ⟨t, step t ?_, b1⟩
  rw [hT, hsz]
  exact a1
theorem xr_putRF (C : Cx g own cc nL fr lo mc ms) {kd k n a : Nat} {Cn : String} {T : u_T} {ty0 : Nat → FieldType} (hin : g.2.2.2.2.2.2.2.2.1.name = "<init>") (hKd : Kd kd Cn T n ty0) (hk : k < n) (hT : (T k).1 = Cn) (hF : (T k).2.2.2 = true) (how : Cn = own) (hw : Wk (Cond.fieldLink own idx Cn (T k).2.1 (T k).2.2.1)) (hs : slR kd k = true) {r : Nat} (hv : ∀ q : Nat, narrow (ty0 k) (.ref q) = .ref q ∧ fits (ty0 k) (.ref q) = true) (ha : ta w.2 a kd) (hd : decode cc pc = .ok (.putfield idx, 3)) {u : Wt} (h1 : u = (w.1, up2 w.2.1 a k (some r), w.2.2)) (K : XE g cells slots u (pc + 3) lv st) : XE g cells slots w pc lv (rf g r :: rf g a :: st) := by
  obtain ⟨B, p, e, Rm, s, m, args, below, meth, c, Q⟩ := g
  obtain ⟨I, R, K0, N, sz⟩ := w
  intro H locs ls hz hP hS hl
  have hcell := cell_get hKd ha hP
  subst how
  refine va_putF (D := B.2.2.1) (ref := Cn) (Ts := u_ws Cn T n) (ty := ty0 k) (v := .ref (B.2.1 + r)) C.1 C.2.1 (fun w hw => C.2.2.2.2.1.1 w (hKd.2.1 w hw) _) (fun _ h => h) ty0 hKd.2.2.2.2.1 hKd.2.2.2.2.2 C.2.2.2.1 C.2.2.2.2.1.2.2.1 hP pool_D hS a hcell hKd.1 k hk (C.2.2.2.2.1.1 _ hw _) (fun x hx => by rw [hT] at hx; exact hx) hF hin hT (hKd.2.2.2.2.1 k hk) (hv _).1 (hv _).2 (by simpa using hk) hd (fun H1 locs1 hP1 hD1 hS1 => ?_)
  refine K H1 locs1 ls (by rw [h1]; exact hz) ?_ hS1 hl
  rw [h1]
  rw [show Value.ref (B.2.1 + r) = rfv B.2.1 (some r) from rfl] at hP1
  rw [pool_set (I1 := I) (R1 := up2 R a k (some r)) ha.2 (cellE_putR (r := some r) ha.1 hKd.2.2.1 hKd.2.2.2.1 hs) (fun _ _ => rfl) (fun x hx => up2_ne hx)] at hP1
  exact hP1
theorem xr_aast (C : Cx g own cc nL fr lo mc ms) {kd k2 n n2 a r : Nat} {i : Int32} {Cn : String} {T : u_T} {ty0 : Nat → FieldType} (hkd : (kd = 12 ∧ Cn = "BumperBalls$Image") ∨ (kd = 13 ∧ Cn = "BumperBalls$Play")) (hKd : Kd k2 Cn T n2 ty0) (ha : tA w.2 a kd n) (hi : inb i n = true) (hr : ta w.2 r k2) (hd : decode cc pc = .ok (.aastore, 1)) {u : Wt} (h1 : u = (w.1, up2 w.2.1 a (ix i) (some r), w.2.2)) (K : XE g cells slots u (pc + 1) lv st) : XE g cells slots w pc lv (rf g r :: .int i :: rf g a :: st) := by
  obtain ⟨B, p, e, Rm, s, m, args, below, meth, c, Q⟩ := g
  obtain ⟨I, R, K0, N, sz⟩ := w
  intro H locs ls hz hP hS hl
  have hcell : (pool B.2.1 B.2.2.2.1 (I, R, K0, N, sz))[a]? = some (B.2.1 + a, .inl (B.2.2.2.1 kd, n, .inr (.inr (.inr (.inr (fun j => (R a j).map (fun x => B.2.1 + x))))))) := by
    rw [pool_get ha.2.1]
    exact congrArg (fun e => some (B.2.1 + a, e)) (cellE_ref ha.1 (by omega) ha.2.2)
  have hrc := cell_get hKd hr hP
  obtain ⟨t0, ht⟩ : ∃ t0, (tysC B.2.2.2.1)[t0]? = some (B.2.2.2.1 kd, FieldType.object Cn) := by
    rcases hkd with ⟨rfl, rfl⟩ | ⟨rfl, rfl⟩
    · exact ⟨1, rfl⟩
    · exact ⟨2, rfl⟩
  refine va_astq (r := (Cn, T, n2)) C.1 C.2.1 C.2.2.2.2.1.2.2.1 hP pool_D hS a t0 r k2 hcell ht hrc hKd.1 (inb_in hi) hd (fun H1 locs1 hP1 hD1 hS1 => ?_)
  refine K H1 locs1 ls (by rw [h1]; exact hz) ?_ hS1 hl
  rw [h1]
  rw [pool_set (I1 := I) (R1 := up2 R a (ix i) (some r)) ha.2.1 (by
    rw [cellE_ref ha.1 (by omega) ha.2.2, up2_eq]
    refine congrArg (fun f => (Sum.inl (B.2.2.2.1 kd, n, .inr (.inr (.inr (.inr f)))) : va_E)) (funext fun j => ?_)
    show (if j = ix i then some r else R a j).map _ = va_up _ _ _ j
    unfold va_up ix
    by_cases hj : j = i.toNatClampNeg
    · rw [if_pos hj, if_pos hj]; rfl
    · rw [if_neg hj, if_neg hj]) (fun _ _ => rfl) (fun x hx => up2_ne hx)] at hP1
  exact hP1
theorem xr_objinit (C : Cx g own cc nL fr lo mc ms) {a : Nat} (w1 : Wk (Cond.methodLink own idx Lib.objectInit)) (w2 : Wk (Cond.instanceMethod Lib.objectInit)) (w3 : Wk (Cond.code Lib.objectInit ⟨#[0xb1]⟩ 1 none)) (hf : 1 ≤ fr) (hlo : (st.map fun v => v.category).sum + 12 ≤ lo) (hd : decode cc pc = .ok (.invokespecial idx, 3)) (K : XE g cells slots w (pc + 3) lv st) : XE g cells slots w pc lv (rf g a :: st) := by
  obtain ⟨B, p, e, Rm, s, m, args, below, meth, c, Q⟩ := g
  intro H locs ls hz hP hS hl
  obtain ⟨hx, hb, hml, hown, hSW, hbs, hlk, e1, e2, e3, e4⟩ := C
  subst e1 e2 e3 e4
  refine W.objInit (g := F0 m pc ls (rf (B, p, e, Rm, s, m, args, below, meth, c, Q) a :: st)) hx hb hown (hSW.1 _ w1 _) (hSW.1 _ w2 _) (hSW.1 _ w3 _) rfl hl.1 rfl hd hf (by show 2 * 0 + _ + 12 ≤ _; omega) ?_
  exact K H locs ls hz hP hS hl
theorem xr_callC (C : Cx g own cc nL fr lo mc ms) {y : MethodName} {cy : ByteArray} {nLy fr1 lo1 mc1 ms1 np a : Nat} {w1 : Wt} {st0 : List Value} (As : List Value) (l1 : Wk (Cond.code y cy nLy none)) (l2 : Wk (Cond.initialized y.cls)) (l3 : Wk (Cond.instanceMethod y)) (l4 : y.name = "<init>") (l5 : y.cls ≠ "java/lang/invoke/MethodHandle" ∧ y.cls ≠ "java/lang/invoke/VarHandle" ∧ (parseMethodDescriptor y.desc).map (fun d => d.parameters.length) = some np) (l6 : Cond.methodLinkNest own idx y "BumperBalls" ∈ nestWs) (ctr : CtrV g.1 y cy nLy fr1 lo1 mc1 ms1 (rf g a :: As) w w1) (hnp : As.length = np) (hst : (st.map fun v => v.category).sum ≤ 8) (hs : st0 = As.reverse ++ rf g a :: st) (hd : decode cc pc = .ok (.invokespecial idx, 3)) (hr : (fr1 + 1 ≤ fr ∧ 8 + (nLy + 11) + lo1 ≤ lo) ∧ cells + mc1 ≤ mc ∧ slots + ms1 ≤ ms) (hsz : w1.2.2.2.2 = w.2.2.2.2 + mc1) (K : XE g (cells + mc1) (slots + ms1) w1 (pc + 3) lv st) : XE g cells slots w pc lv st0 := by
  obtain ⟨B, p, e, Rm, s, m, args, below, meth, c, Q⟩ := g
  subst hs
  intro H locs ls hz hP hS hl T hT X
  have hsz0 : H.size = B.2.1 + w.2.2.2.2 := by rw [← hT]; exact sz_of X hz C.2.2.2.2.2.1 (by rw [hT]; exact hP)
  obtain ⟨hx, hb, hml, hown, hSW, hbs, hlk, e1, e2, e3, e4⟩ := C
  subst e1 e2 e3 e4
  have hts : ∀ w : Cond, Wk w → w.before args s = true := fun w hw => hSW.1 w hw _
  refine va_callv (va_runIN (As := As) (rest := st) (Ts := []) ⟨hx, hb, hml, hown, fun w h => by cases h⟩ ctr ⟨va_cnB np (fun w hw => hts w (one1 l1 w hw)) (good1 l1) rfl rfl rfl (hSW.2.1 _ l6) (hts _ l2) l5 hr.1, l4, hts _ l3⟩ ⟨WD.blind, fun U hU hW => ⟨rfl, by rw [hU]; exact hsz0, by rw [hU]; exact hP, hSW.step hW (fun a h1 h2 => by rw [hU]; exact hS.2.1 a h1 h2) (by rw [hU]; exact hS.1)⟩⟩ rfl hnp (by rw [← hml]; exact hl.1) rfl (lv_room hst) hd hr.2) hS (fun q _ h => h) (fun q h => h) (fun u t H1 locs1 ht hvm hw hB hz1 hk1 hS1 => ?_) T hT X
  exact K H1 locs1 ls (by rw [hsz]; have := hz; omega) (by rw [← ht]; exact hB.2.1) hS1 hl
theorem xr_enterC {B : Bs} {y : MethodName} {as : List Value} {w1 : Wt} {lv0 : List (Nat × Value)} (hy : plainName y.cls = true) (hyn : y.name = "<init>") (hn : (lg_sl as).length ≤ nL) (hlv : lv_args 0 as = lv0) (body : ∀ g : Cfg, g.1 = B → Cx g y.cls cc nL fr lo mc ms → g.2.2.2.2.2.2.2.2.1.name = "<init>" → QV g mc ms w1 → XE g 0 0 w 0 lv0 []) : CtrV B y cc nL fr lo mc ms as w w1 := by
  refine Met.ofW (cc := cc) (maxL := nL) (ret := none) hy rfl ?_
  intro p e s m args below meth c s₁ Bd hml hv
  obtain ⟨rfl, hsz, hP, hSW⟩ := hv
  have hb : B.2.1 ≤ s.heap.size := by rw [hsz]; exact Nat.le_add_right _ _
  have hl := lv_entry as (n := nL) hn
  rw [lg_entry_eq, hlv] at *
  have := body (B, p, e, ({ frames := fr, cells := mc, slots := ms, locals := lo } : Room), s, m, as.toArray, below, meth, c, _) rfl ⟨Bd.exec, Bd.bytes, hml, findClass_of_methodNamed Bd.named, hSW, hb, Bd.notSynchronized, rfl, rfl, rfl, rfl⟩ ((name_of_methodNamed Bd.named Bd.method).1.trans hyn) ⟨Bd.returns, rfl⟩ s.heap [] _ (by rw [hsz]; rfl) hP va_S.rf (by rw [hml]; exact hl)
  exact this
end XL
