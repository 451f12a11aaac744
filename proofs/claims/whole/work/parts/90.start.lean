/-! what lies outside, at the start -/
theorem so_mem {w : Cond} {l : List Cond} (h : l.contains w = true) : w ∈ l := List.contains_iff_mem.mp h
theorem so_ex : ∀ i : Nat, i < 8 → Cond.exactly (Term.string RX8 (stIx i)) "java/lang/String" ∈ flatC (Jvm.Cond.and given_1 narrow_1) := by decide +kernel
theorem so_co : ∀ i : Nat, i < 8 → Cond.eq (.field (Term.string RX8 (stIx i)) "java/lang/String" "coder" "B") (.int 0) ∈ flatC (Jvm.Cond.and given_1 narrow_1) := by decide +kernel
theorem so_ar : ∀ i : Nat, i < 8 → Cond.arrayOf (.field (Term.string RX8 (stIx i)) "java/lang/String" "value" "[B") .byte ∈ flatC (Jvm.Cond.and given_1 narrow_1) := by decide +kernel
theorem so_le : ∀ i : Nat, i < 8 → Cond.eq (.length (.field (Term.string RX8 (stIx i)) "java/lang/String" "value" "[B")) (.int (Int32.ofNat (stLen.getD i 0))) ∈ flatC (Jvm.Cond.and given_1 narrow_1) := by decide +kernel
theorem so_el : ∀ i : Nat, i < 8 → ∀ j : Nat, j < stLen.getD i 0 → Cond.eq (.elem (.field (Term.string RX8 (stIx i)) "java/lang/String" "value" "[B") (.int (Int32.ofNat j))) (.int ((stByt.getD i []).getD j 0)) ∈ flatC (Jvm.Cond.and given_1 narrow_1) := by decide +kernel
theorem so_ne : ∀ i : Nat, i < 8 → ∀ j : Nat, j < 8 → i ≠ j → Cond.not (Cond.eq (Term.string RX8 (stIx i)) (Term.string RX8 (stIx j))) ∈ flatC (Jvm.Cond.and given_1 narrow_1) ∨ Cond.not (Cond.eq (Term.string RX8 (stIx j)) (Term.string RX8 (stIx i))) ∈ flatC (Jvm.Cond.and given_1 narrow_1) := by decide +kernel
theorem so_sr : ∀ i : Nat, i < 8 → Cond.stringRef RX8 (stIx i) (stTx i) ∈ lw_tbl := by decide +kernel
theorem so_lt : ∀ i : Nat, i < 8 → stLen.getD i 0 < 2 ^ 31 := by decide +kernel
theorem so_nr : ∀ j : Nat, j < 6 → Cond.eq (.elem (.static "BumperBalls" "NEAREST" "[I") (.int (Int32.ofNat j))) (.int (nearV j)) ∈ flatC (Jvm.Cond.and given_1 narrow_1) := by decide +kernel
theorem len_lt {args : Array Value} {first : State} {o : Option Outcome} {idx : List Nat} {s : State} {t : Term} {v : Value} (h : (Term.length t).eval args first o idx s = some v) : ∃ a cell, t.eval args first o idx s = some (.ref a) ∧ s.arrayAt? a = some cell ∧ cell.slots.size < 2147483648 := by
  simp only [Term.eval, Option.bind_eq_bind] at h
  cases ht : t.eval args first o idx s with
  | none => simp [ht] at h
  | some x =>
    cases x <;> simp [ht] at h
    case ref a =>
      obtain ⟨cell, hcell, h⟩ := Option.bind_eq_some_iff.mp h
      by_cases hn : cell.slots.size < 2147483648
      · exact ⟨a, cell, rfl, hcell, hn⟩
      · rw [if_neg hn] at h; cases h
theorem so_AO {s : State} {A : Array Value} {ty : FieldType} (h : (Cond.arrayOver ty).before A s = true) {U1 : State} (h1 : s.vm.Alike U1.vm) : (Cond.arrayOver ty).before #[] U1 = true := by
  have h2 := (Cond.arrayOver_setVmC h1 ty).trans h
  simp only [Cond.before, Cond.holds, Cond.value, State.vm_setVm] at h2 ⊢
  exact h2
theorem so_ext {s : State} {b : Nat} (hts : ∀ w ∈ lw_tbl, w.before #[Value.ref b] s = true) (hgv : (Jvm.Cond.and given_1 narrow_1).before #[Value.ref b] s = true) : ∃ xp : XP, Ext s.heap.size xp s s.heap := by
  have hs := flat_of_before _ hgv
  have hA : ∀ a : Nat, a < s.heap.size → ¬ (fun q : Nat => s.heap.size ≤ q) a := fun a h => Nat.not_le.mpr h
  obtain ⟨t, ht, hT⟩ := va_Tof (N := 6) (f := fun j => .int (nearV j)) (A := fun q : Nat => s.heap.size ≤ q) (by decide) (hs (.arrayOf (.static "BumperBalls" "NEAREST" "[I") .int) (by decide +kernel)) (va_eqt (hs (.eq (.length (.static "BumperBalls" "NEAREST" "[I")) (.int 6)) (by decide +kernel))) (fun j hj => va_eqt (hs _ (so_nr j hj))) hA
  obtain ⟨t2, cell2, ht2, ha2, hsm⟩ := len_lt (va_eqt (hs (.eq (.length (.static "BumperBalls" "NEAREST" "[I")) (.int 6)) (by decide +kernel)))
  cases ht.symm.trans ht2
  have hc2 := (State.arrayAt?_spec ha2).1
  obtain ⟨clA, k1, k2, k3, k4, k5, k6, k7⟩ := hT
  have hcc : cell2 = clA := Option.some.inj (hc2.symm.trans k1)
  rw [hcc] at hsm
  have htl : t < s.heap.size := (Array.getElem?_eq_some_iff.mp k1).1
  have e6 : clA.slots.size = 6 := by
    have e := congrArg Int32.toNatClampNeg k5
    rw [show clA.slots.size.toInt32 = Int32.ofNat clA.slots.size from rfl, Int32.toNatClampNeg_ofNat_of_lt (show clA.slots.size < 2 ^ 31 from hsm), Int32.toNatClampNeg_ofNat_of_lt (by decide)] at e
    exact e
  obtain ⟨adK, adV, hSt, hEv⟩ := vk_Sof (args := #[Value.ref b]) (s := s) (N := 8) (tm := fun i => Term.string RX8 (stIx i)) (len := stLen) (byt := stByt) (A := fun q : Nat => s.heap.size ≤ q) so_lt (fun i hi => hs _ (so_ex i hi)) (fun i hi => hs _ (so_co i hi)) (fun i hi => hs _ (so_ar i hi)) (fun i hi => hs _ (so_le i hi)) (fun i hi j hj => hs _ (so_el i hi j hj)) (fun i j hi hj h => (so_ne i hi j hj h).elim (fun q => Or.inl (hs _ q)) (fun q => Or.inr (hs _ q))) hA
  refine ⟨(t, adK, adV), va_Zref (hts (.laysStatic "BumperBalls" "NEAREST" "[I") (by decide +kernel)) (hts (.initialized "BumperBalls") (by decide +kernel)) ht hA, ⟨clA, k1, k2, k3, e6, k6⟩, htl, htl, hSt, fun i hi => vk_R.of (hts _ (so_sr i hi)) (hEv i hi), ?_, ?_, va_AO.of (hts _ wk_199), va_AO.of (hts _ wk_213), fun U1 h1 => so_AO (hts _ wk_33) h1⟩
  · exact va_Zof (hts (.laysStatic "java/lang/String" "COMPACT_STRINGS" "Z") (by decide +kernel)) (hts (.initialized "java/lang/String") (by decide +kernel)) (va_eqi (hs (.eq (.static "java/lang/String" "COMPACT_STRINGS" "Z") (.int 1)) (by decide +kernel))) hA
  · exact va_Zqof (hts (.laysStatic "jdk/internal/util/Preconditions" "SIOOBE_FORMATTER" "Ljava/util/function/BiFunction;") (by decide +kernel)) (hts (.initialized "jdk/internal/util/Preconditions") (by decide +kernel)) (hs (.isRef (.static "jdk/internal/util/Preconditions" "SIOOBE_FORMATTER" "Ljava/util/function/BiFunction;")) (by decide +kernel)) hA
/-- the classes of the objects -/
theorem so_k {s : State} {b : Nat} (hts : ∀ w ∈ lw_tbl, w.before #[Value.ref b] s = true) {kd n : Nat} {Cn : String} {T : u_T} {ty0 : Nat → FieldType} (hKd : Kd kd Cn T n ty0) (hi : Wk (Cond.instantiable Cn n)) : ∃ x : ClassId × (Nat → Nat), ∀ q : vw_C, vwCl[kd]? = some q → u_Kn s q.1 q.2.1 q.2.2 x.1 x.2 := by
  obtain ⟨c, iS, h⟩ := u_known (ws := u_ws Cn T n) (C := Cn) (T := T) (N := n) (n := n) (fun w hw => hts w (hKd.2.1 w hw).1) (fun _ h => h) (hts _ hi.1)
  refine ⟨(c, iS), fun q hq => ?_⟩
  cases hKd.1.symm.trans hq
  exact h
theorem so_ks {s : State} {b : Nat} (hts : ∀ w ∈ lw_tbl, w.before #[Value.ref b] s = true) : ∃ D : va_G, ∀ (k : Nat) (q : vw_C), vwCl[k]? = some q → u_Kn s q.1 q.2.1 q.2.2 (D.1 k) (D.2 k) := by
  have h0 : ∀ k : Nat, ∃ x : ClassId × (Nat → Nat), ∀ q : vw_C, vwCl[k]? = some q → u_Kn s q.1 q.2.1 q.2.2 x.1 x.2 := fun k => match k with
    | 0 => so_k hts Kd0 wk_193
    | 1 => so_k hts Kd1 wk_257
    | 2 => so_k hts Kd2 wk_283
    | 3 => so_k hts Kd3 wk_221
    | 4 => so_k hts Kd4 wk_140
    | 5 => so_k hts Kd5 wk_27
    | 6 => so_k hts Kd6 wk_215
    | 7 => so_k hts Kd7 wk_54
    | 8 => so_k hts Kd8 wk_48
    | 9 => so_k hts Kd9 wk_19
    | 10 => so_k hts Kd10 wk_815
    | k + 11 => ⟨(0, fun _ => 0), fun q hq => by simp [vwCl] at hq⟩
  obtain ⟨f, hf⟩ := Classical.axiomOfChoice h0
  exact ⟨(fun k => (f k).1, fun k => (f k).2), hf⟩
/-- the classes of the arrays -/
theorem so_cs {s : State} {b : Nat} (hts : ∀ w ∈ lw_tbl, w.before #[Value.ref b] s = true) : ∃ cs : Nat → ClassId, ∀ (k : Nat) (q : ClassId × FieldType), (tysC cs)[k]? = some q → ArrOfT s q.1 q.2 ∧ va_RA s q.1 q.2 := by
  obtain ⟨c1, k1, comp1, a1, a2, a3⟩ := Cond.arrayClass_spec (hts _ wk_46.1)
  obtain ⟨comp2, c2, k2, b1, -, b2, b3, b4⟩ := Cond.arrayOver_spec (hts _ wk_213)
  obtain ⟨comp3, c3, k3, d1, -, d2, d3, d4⟩ := Cond.arrayOver_spec (hts _ wk_199)
  obtain ⟨comp4, c4, k4, e1, e2, e3, e4⟩ := Cond.arrayOver_specA (hts _ wk_33)
  refine ⟨fun k => if k = 11 then c1 else if k = 12 then c2 else if k = 13 then c3 else c4, fun k q hq => ?_⟩
  match k, hq with
  | 0, hq => cases hq; exact ⟨fun n z => ⟨(fun k h => by cases h), k1, a2, comp1, a3⟩, a1⟩
  | 1, hq => cases hq; exact ⟨fun n z => ⟨(fun k h => by cases h), k2, b2, comp2, b3⟩, k2, comp2, b2, b3, b1, b4⟩
  | 2, hq => cases hq; exact ⟨fun n z => ⟨(fun k h => by cases h), k3, d2, comp3, d3⟩, k3, comp3, d2, d3, d1, d4⟩
  | 3, hq => cases hq; exact ⟨fun n z => ⟨(fun k h => by cases h), k4, e2, comp4, e3⟩, e4⟩
  | k + 4, hq => simp [tysC] at hq
/-- all that a call asks of the start -/
theorem so_sw (l : Launch) {s : State} {b : Nat} (hts : ∀ w ∈ lw_tbl, w.before #[Value.ref b] s = true) (hgv : (Jvm.Cond.and given_1 narrow_1).before #[Value.ref b] s = true) : ∃ B : Bs, B.1 = l ∧ B.2.1 = s.heap.size ∧ SW B s := by
  obtain ⟨xp, hx⟩ := so_ext hts hgv
  obtain ⟨D, hD⟩ := so_ks hts
  obtain ⟨cs, hcs⟩ := so_cs hts
  refine ⟨(l, s.heap.size, D, cs, xp), rfl, rfl, fun w hw a' => word_at (warm_self s) (good_of_word hw.2) (hts w hw.1), fun w hw => ?_, ⟨hD, hcs⟩, hx⟩
  have hn := List.all_eq_true.mp nest_all w hw
  have hm := hts w (of_decide_eq_true (List.all_eq_true.mp nest_ok w hw))
  cases w <;> first | (simp [isNest] at hn; done) | exact va_Nw.of rfl hm
