theorem in_g (I : Mem) (x lo hi : Int64) : fnX10_in I x lo hi = some ((if lo.toInt ≤ x.toInt ∧ x.toInt ≤ hi.toInt then 1 else 0), I) := by
  have a1 : x < lo ↔ x.toInt < lo.toInt := Int64.lt_iff_toInt_lt
  have a2 : lo < x ↔ lo.toInt < x.toInt := Int64.lt_iff_toInt_lt
  have a3 : hi < x ↔ hi.toInt < x.toInt := Int64.lt_iff_toInt_lt
  have e1 : x = lo ↔ x.toInt = lo.toInt := Int64.toInt_inj.symm
  unfold fnX10_in fnX10_in_17 fnX10_in_18
  rw [cmpL_e, cmpL_e]
  by_cases c1 : x.toInt < lo.toInt
  · rw [if_neg (show ¬ lo < x from fun q => by have := a2.mp q; omega), if_neg (show ¬ x = lo from fun q => by have := e1.mp q; omega), if_pos (by decide), if_neg (by omega)]
    rfl
  · have k1 : ¬ ((if lo < x then (1 : Int32) else if x = lo then 0 else -1) < 0) := by
      by_cases c2 : lo < x
      · rw [if_pos c2]; decide
      · have q2 : ¬ lo.toInt < x.toInt := fun q => c2 (a2.mpr q)
        rw [if_neg c2, if_pos (e1.mpr (by omega))]
        decide
    rw [if_neg k1]
    by_cases c3 : hi.toInt < x.toInt
    · rw [if_pos (a3.mpr c3), if_pos (by decide), if_neg (by omega)]
      rfl
    · rw [if_neg (fun q => c3 (a3.mp q))]
      have k2 : ¬ ((0 : Int32) < if x = hi then 0 else -1) := by
        split <;> decide
      rw [if_neg k2, if_pos (by omega)]
      rfl
def spA (i n : Int32) (sz : Nat) : Int32 := if 0 ≤ i.toInt ∧ 0 ≤ n.toInt ∧ i.toInt + n.toInt ≤ (sz : Int) then 1 else 0
theorem lt0_iff (x : Int32) : x < 0 ↔ x.toInt < 0 := by rw [Int32.lt_iff_toInt_lt]; rfl
theorem le0_iff (x : Int32) : 0 ≤ x ↔ 0 ≤ x.toInt := by rw [Int32.le_iff_toInt_le]; rfl
theorem i32_bd (x : Int32) : -2147483648 ≤ x.toInt ∧ x.toInt < 2147483648 := ⟨Int32.le_toInt x, Int32.toInt_lt x⟩
theorem subn_toInt {sz : Nat} {n : Int32} (hs : sz ≤ 400) (hn : 0 ≤ n.toInt) : (nI sz - n).toInt = (sz : Int) - n.toInt := by
  have := i32_bd n
  rw [Int32.toInt_sub, nI_toInt (by omega)]
  exact Int.bmod_eq_of_le (by omega) (by omega)
theorem isMissing_1 {I : Mem} {r : Nat} (hr : r < 8) (h : I 3 r = -1) : fnX5_isMissing I (nI r) = some (1, I) := by
  unfold fnX5_isMissing fnX5_isMissing_15
  rw [inb_nI hr (by decide), ck_t, ix_nI (by omega), if_pos h]
  rfl
theorem isMissing_0 {I : Mem} {r sz : Nat} (hr : r < 8) (h : I 3 r = nI sz) (hs : sz ≤ 40) : fnX5_isMissing I (nI r) = some (0, I) := by
  unfold fnX5_isMissing fnX5_isMissing_15
  rw [inb_nI hr (by decide), ck_t, ix_nI (by omega), if_neg (by rw [h]; exact neg1_ne (by omega))]
  rfl
theorem hasPlaces_e {I : Mem} {r sz : Nat} (hr : r < 8) (h : I 3 r = nI sz) (hs : sz ≤ 40) (i n : Int32) : fnX5_hasPlaces I (nI r) i n = some (spA i n sz, I) := by
  unfold fnX5_hasPlaces fnX5_hasPlaces_24 fnX5_hasPlaces_25 spA
  by_cases c1 : i.toInt < 0
  · rw [if_pos ((lt0_iff i).mpr c1), if_neg (by omega)]; rfl
  · rw [if_neg (fun q => c1 ((lt0_iff i).mp q))]
    by_cases c2 : n.toInt < 0
    · rw [if_pos ((lt0_iff n).mpr c2), if_neg (by omega)]; rfl
    · rw [if_neg (fun q => c2 ((lt0_iff n).mp q)), inb_nI hr (by decide), ck_t, ix_nI (by omega), h]
      have e : nI sz - n < i ↔ (sz : Int) - n.toInt < i.toInt := by rw [Int32.lt_iff_toInt_lt, subn_toInt (by omega) (by omega)]
      by_cases c3 : (sz : Int) - n.toInt < i.toInt
      · rw [if_pos (e.mpr c3), if_neg (by omega)]; rfl
      · rw [if_neg (fun q => c3 (e.mp q)), if_pos (by omega)]; rfl
theorem add64 (x y : Int32) : (x.toInt64 + y.toInt64).toInt = x.toInt + y.toInt := by
  have h1 := i32_bd x
  have h2 := i32_bd y
  rw [Int64.toInt_add, w64, w64]
  exact Int.bmod_eq_of_le (by omega) (by omega)
theorem isSpan_e {I : Mem} {r sz : Nat} (hr : r < 8) (h : I 116 r = nI sz) (hs : sz ≤ 40) (i n : Int32) : fnX10_isSpan I (nI r) i n = some (spA i n sz, I) := by
  unfold fnX10_isSpan fnX10_isSpan_28 fnX10_isSpan_29 spA
  by_cases c1 : i.toInt < 0
  · rw [if_pos ((lt0_iff i).mpr c1), if_neg (by omega)]; rfl
  · rw [if_neg (fun q => c1 ((lt0_iff i).mp q))]
    by_cases c2 : n.toInt < 0
    · rw [if_pos ((lt0_iff n).mpr c2), if_neg (by omega)]; rfl
    · rw [if_neg (fun q => c2 ((lt0_iff n).mp q)), inb_nI hr (by decide), ck_t, ix_nI (by omega), h, cmpL_e]
      have e : (nI sz).toInt64 < i.toInt64 + n.toInt64 ↔ (sz : Int) < i.toInt + n.toInt := by rw [Int64.lt_iff_toInt_lt, add64, w64, nI_toInt (by omega)]
      by_cases c3 : (sz : Int) < i.toInt + n.toInt
      · rw [if_pos (e.mpr c3), if_pos (by decide), if_neg (by omega)]; rfl
      · rw [if_neg (fun q => c3 (e.mp q)), if_neg (by split <;> decide), if_pos (by omega)]; rfl
/-- what a call with rows may write -/
def RowFr (I I2 : Mem) : Prop := (∀ x, ¬ (x = 0 ∨ x = 2 ∨ x = 3 ∨ (5 ≤ x ∧ x ≤ 12) ∨ x = 111 ∨ (115 ≤ x ∧ x ≤ 117)) → I2 x = I x) ∧ (∀ y, y ≠ 11 → I2 0 y = I 0 y) ∧ ∀ y, y ≠ 6 → I2 111 y = I 111 y
theorem RowFr.rf {I : Mem} : RowFr I I := ⟨fun _ _ => rfl, fun _ _ => rfl, fun _ _ => rfl⟩
theorem RowFr.tr {I I1 I2 : Mem} (h : RowFr I I1) (h2 : RowFr I1 I2) : RowFr I I2 := ⟨fun x hx => (h2.1 x hx).trans (h.1 x hx), fun y hy => (h2.2.1 y hy).trans (h.2.1 y hy), fun y hy => (h2.2.2 y hy).trans (h.2.2 y hy)⟩
theorem RowFr.st {I : Mem} {v u : Int32} : RowFr I (up2 (up2 I 0 11 v) 111 6 u) := by
  refine ⟨fun x hx => ?_, fun y hy => ?_, fun y hy => ?_⟩
  · rw [up2_ne (by omega), up2_ne (by omega)]
  · rw [up2_ne (by omega), up2_r, if_neg (by omega)]
  · rw [up2_r, if_neg (by omega), up2_ne (by omega)]
theorem RowFr.row {I : Mem} {a k : Nat} {v : Int32} (h : a = 2 ∨ a = 3 ∨ (5 ≤ a ∧ a ≤ 12) ∨ (115 ≤ a ∧ a ≤ 117)) : RowFr I (up2 I a k v) := by
  refine ⟨fun x hx => ?_, fun y hy => ?_, fun y hy => ?_⟩ <;> rw [up2_ne (by omega)]
theorem stat_agr {I : Mem} {v u : Int32} (h : RowR I) : RowR (up2 (up2 I 0 11 v) 111 6 u) := h.agr ((Agr.up (by simp [rowS])).tr (Agr.up (by simp [rowS])))
theorem stat_ok {I : Mem} {v : Int32} : StatR (up2 (up2 I 0 11 v) 111 6 v) := by simp [StatR, up2_r]
/-- drop -/
theorem p_drop {I : Mem} (h : RowR I) (hs : StatR I) (p1 : Int32) : ∃ (r : Int32) (I1 I2 : Mem), fnX9_drop I p1 = some (r, I1) ∧ fnX10_drop I1 p1 = some (r, I2) ∧ RowR I2 ∧ StatR I2 ∧ RowFr I I2 := by
  unfold fnX9_drop fnX10_drop
  simp only [isRow_e, isRowM_e, ob_s]
  by_cases c1 : upTo p1 (nI 7) = 0
  · simp only [c1, if_true]
    exact ⟨_, I, I, rfl, rfl, h, hs, RowFr.rf⟩
  · simp only [c1, if_false]
    obtain ⟨r, hr, rfl⟩ := upTo_of (m := 7) (by decide) c1
    rcases h r (by omega) with ⟨m1, m2⟩ | ⟨ln, sz, a1, a2, a3, a4, a5, a6, a7⟩
    · rw [isMissing_1 (by omega) m1, ob_s]
      simp only [show ¬ (1 : Int32) = 0 by decide, if_false, found_e, ob_s]
      refine ⟨_, _, _, rfl, ?_, stat_agr (v := 1) (u := 1) h, stat_ok, RowFr.st⟩
      rw [inb_nI (show r < 8 by omega) (by decide), ck_t, ix_nI (by omega), up2_ne (by omega), if_pos m2, find_e, ob_s]
    · rw [isMissing_0 (by omega) a3 a2, ob_s]
      have hrm : fnX5_remove I (nI r) = some (nI sz, up2 I 3 r (-1)) := by
        unfold fnX5_remove
        rw [inb_nI (show r < 8 by omega) (by decide), ck_t, bnd_e, ck_t, bnd_e, ix_nI (by omega), a3]
      simp only [if_true, hrm, ob_s, plain_e]
      refine ⟨_, _, up2 (up2 (up2 (up2 I 3 r (-1)) 0 11 0) 115 r (-1000000)) 111 6 0, rfl, ?_, ?_, ?_, ?_⟩
      · rw [inb_nI (show r < 8 by omega) (by decide), ck_t, ix_nI (by omega)]
        rw [if_neg (show ¬ up2 (up2 I 3 r (-1)) 0 11 0 115 r = -1000000 by rw [up2_ne (by omega), up2_ne (by omega), a5]; exact none_ne (by omega)), ck_t, bnd_e, ck_t, give_e, ob_s]
        rw [show up2 (up2 (up2 I 3 r (-1)) 0 11 0) 115 r (-1000000) 116 r = nI sz by rw [up2_ne (by omega), up2_ne (by omega), up2_ne (by omega), a6]]
      · intro q hq
        by_cases hqr : q = r
        · subst hqr
          exact Or.inl ⟨by simp [up2_r], by simp [up2_r]⟩
        · have := h q hq
          unfold RowOne at this ⊢
          rw [show up2 (up2 (up2 (up2 I 3 r (-1)) 0 11 0) 115 r (-1000000)) 111 6 0 3 q = I 3 q by simp [up2_r, hqr], show up2 (up2 (up2 (up2 I 3 r (-1)) 0 11 0) 115 r (-1000000)) 111 6 0 115 q = I 115 q by simp [up2_r, hqr], show up2 (up2 (up2 (up2 I 3 r (-1)) 0 11 0) 115 r (-1000000)) 111 6 0 2 q = I 2 q by simp [up2_r], show up2 (up2 (up2 (up2 I 3 r (-1)) 0 11 0) 115 r (-1000000)) 111 6 0 116 q = I 116 q by simp [up2_r]]
          rcases this with z | ⟨l2, s2, b1, b2, b3, b4, b5, b6, b7⟩
          · exact Or.inl z
          · refine Or.inr ⟨l2, s2, b1, b2, b3, b4, b5, b6, fun i hi => ?_⟩
            rw [up2_ne (by omega), up2_ne (by omega), up2_ne (by omega), up2_ne (by omega), b7 i hi, up2_ne (by omega), up2_ne (by omega), up2_ne (by omega), up2_ne (by omega)]
      · simp [StatR, up2_r]
      · refine ⟨fun x hx => ?_, fun y hy => ?_, fun y hy => ?_⟩
        · rw [up2_ne (by omega), up2_ne (by omega), up2_ne (by omega), up2_ne (by omega)]
        · rw [up2_ne (by omega), up2_ne (by omega), up2_r, if_neg (by omega), up2_ne (by omega)]
        · rw [up2_r, if_neg (by omega), up2_ne (by omega), up2_ne (by omega), up2_ne (by omega)]
/-- status -/
theorem p_status {I : Mem} (hs : StatR I) : ∃ r : Int32, fnX9_status I = some (r, I) ∧ fnX10_status I = some (r, I) := ⟨_, rfl, by unfold fnX10_status; rw [← hs]⟩
/-- set -/
theorem p_set {I : Mem} (h : RowR I) (hs : StatR I) (p1 p2 p3 : Int32) : ∃ (r : Int32) (I1 I2 : Mem), fnX9_set I p1 p2 p3 = some (r, I1) ∧ fnX10_set I1 p1 p2 p3 = some (r, I2) ∧ RowR I2 ∧ StatR I2 ∧ RowFr I I2 := by
  unfold fnX9_set fnX10_set
  simp only [isRow_e, isRowM_e, ob_s]
  by_cases c1 : upTo p1 (nI 7) = 0
  · simp only [c1, if_true]
    exact ⟨_, I, I, rfl, rfl, h, hs, RowFr.rf⟩
  · simp only [c1, if_false]
    obtain ⟨r, hr, rfl⟩ := upTo_of (m := 7) (by decide) c1
    rcases h r (by omega) with ⟨m1, m2⟩ | ⟨ln, sz, a1, a2, a3, a4, a5, a6, a7⟩
    · rw [isMissing_1 (by omega) m1, ob_s]
      simp only [show ¬ (1 : Int32) = 0 by decide, if_false, found_e, ob_s]
      refine ⟨_, _, _, rfl, ?_, stat_agr (v := 1) (u := 1) h, stat_ok, RowFr.st⟩
      rw [inb_nI (show r < 8 by omega) (by decide), ck_t, ix_nI (by omega), up2_ne (by omega), if_pos m2, find_e, ob_s]
    · rw [isMissing_0 (by omega) a3 a2, ob_s]
      simp only [if_true, hasPlaces_e (show r < 8 by omega) a3 a2, ob_s]
      have hin : ∀ J : Mem, J 116 r = nI sz → fnX10_in J p2.toInt64 0 ((J 116 r - 1).toInt64) = some (spA p2 1 sz, J) := fun J hJ => by
        rw [hJ, in_g, w64, w64]
        have e1 : (nI sz - 1).toInt = (sz : Int) - 1 := subn_toInt (n := 1) (by omega) (by decide)
        rw [e1, show (0 : Int64).toInt = 0 from rfl]
        unfold spA
        rw [show (1 : Int32).toInt = 1 from rfl]
        by_cases c : 0 ≤ p2.toInt ∧ p2.toInt ≤ (sz : Int) - 1
        · rw [if_pos c, if_pos (by omega)]
        · rw [if_neg c, if_neg (by omega)]
      by_cases c2 : spA p2 1 sz = 0
      · simp only [c2, if_true, found_e, ob_s]
        refine ⟨_, _, _, rfl, ?_, stat_agr (v := 2) (u := 2) h, stat_ok, RowFr.st⟩
        rw [inb_nI (show r < 8 by omega) (by decide), ck_t, ix_nI (by omega), up2_ne (by omega), if_neg (by rw [a5]; exact none_ne (by omega)), ck_t, hin _ (by rw [up2_ne (by omega), a6]), ob_s]
        simp only [c2, if_true, find_e, ob_s]
      · simp only [c2, if_false]
        obtain ⟨i, hi, rfl⟩ : ∃ i : Nat, i < sz ∧ p2 = nI i := by
          unfold spA at c2
          by_cases c : 0 ≤ p2.toInt ∧ 0 ≤ (1 : Int32).toInt ∧ p2.toInt + (1 : Int32).toInt ≤ (sz : Int)
          · rw [show (1 : Int32).toInt = 1 from rfl] at c
            obtain ⟨j, hj, rfl⟩ := nI_of (fun q => by have := (lt0_iff p2).mp q; omega)
            rw [nI_toInt hj] at c
            exact ⟨j, by omega, rfl⟩
          · rw [if_neg c] at c2
            exact absurd rfl c2
        have e40 : (40 : Int32) * nI r + nI i = nI (40 * r + i) := by rw [show (40 : Int32) = nI 40 from rfl, pk_mul, nI_add]
        have fin : ∀ v : Int32, (∀ J : Mem, J = I → fnX5_write J (nI r) (nI i) p3 = some (v, up2 I (5 + r) i v)) → (∀ J : Mem, J 115 r = nI ln → J 116 r = nI sz → (ck (inb (nI r) 8) <| if J 115 (ix (nI r)) = 0 then fnX10_set_91 J (nI r) (nI i) ((40 : Int32) * nI r + nI i) p3.toInt8.toInt32 else ck (inb (nI r) 8) <| if J 115 (ix (nI r)) = 1 then fnX10_set_91 J (nI r) (nI i) ((40 : Int32) * nI r + nI i) p3.toInt16.toInt32 else fnX10_set_91 J (nI r) (nI i) ((40 : Int32) * nI r + nI i) p3) = some (v, up2 (up2 J 117 (40 * r + i) v) 111 6 0)) → ∃ (x : Int32) (I1 I2 : Mem), (ob (fnX5_write I (nI r) (nI i) p3) fun x => ob (fnX9_plain x.2 x.1) fun x => some (x.1, x.2)) = some (x, I1) ∧ (ck (inb (nI r) 8) <| if I1 115 (ix (nI r)) = -1000000 then ob (fnX10_find I1 1) fun x => some (x.1, x.2) else ck (inb (nI r) 8) <| ob (fnX10_in I1 (nI i).toInt64 0 ((I1 116 (ix (nI r)) - 1).toInt64)) fun x => if x.1 = 0 then ob (fnX10_find x.2 2) fun x => some (x.1, x.2) else ck (inb (nI r) 8) <| if x.2 115 (ix (nI r)) = 0 then fnX10_set_91 x.2 (nI r) (nI i) ((40 : Int32) * nI r + nI i) p3.toInt8.toInt32 else ck (inb (nI r) 8) <| if x.2 115 (ix (nI r)) = 1 then fnX10_set_91 x.2 (nI r) (nI i) ((40 : Int32) * nI r + nI i) p3.toInt16.toInt32 else fnX10_set_91 x.2 (nI r) (nI i) ((40 : Int32) * nI r + nI i) p3) = some (x, I2) ∧ RowR I2 ∧ StatR I2 ∧ RowFr I I2 := by
          intro v hw hm
          rw [hw I rfl, ob_s]
          simp only [plain_e, ob_s]
          have f115 : up2 (up2 I (5 + r) i v) 0 11 0 115 r = nI ln := by rw [up2_ne (by omega), up2_ne (by omega), a5]
          have f116 : up2 (up2 I (5 + r) i v) 0 11 0 116 r = nI sz := by rw [up2_ne (by omega), up2_ne (by omega), a6]
          refine ⟨_, _, up2 (up2 (up2 (up2 I (5 + r) i v) 0 11 0) 117 (40 * r + i) v) 111 6 0, rfl, ?_, ?_, ?_, ?_⟩
          · have hh := hm _ f115 f116
            rw [inb_nI (show r < 8 by omega) (by decide), ck_t, ix_nI (by omega)] at hh ⊢
            rw [if_neg (show ¬ up2 (up2 I (5 + r) i v) 0 11 0 115 r = -1000000 by rw [f115]; exact none_ne (by omega)), ck_t, hin _ f116, ob_s]
            dsimp only
            rw [if_neg c2]
            exact hh
          · intro q hq
            have hold := h q hq
            have g1 : ∀ a : Nat, (a = 2 ∨ a = 3 ∨ a = 115 ∨ a = 116) → up2 (up2 (up2 (up2 I (5 + r) i v) 0 11 0) 117 (40 * r + i) v) 111 6 0 a q = I a q := fun a ha => by
              rw [up2_ne (by omega), up2_ne (by omega), up2_ne (by omega), up2_ne (by omega)]
            unfold RowOne at hold ⊢
            rw [g1 3 (by omega), g1 2 (by omega), g1 115 (by omega), g1 116 (by omega)]
            rcases hold with z | ⟨l2, s2, b1, b2, b3, b4, b5, b6, b7⟩
            · exact Or.inl z
            · refine Or.inr ⟨l2, s2, b1, b2, b3, b4, b5, b6, fun j hj => ?_⟩
              rw [up2_ne (by omega), up2_ne (by omega), up2_ne (by omega), up2_r, up2_ne (by omega), up2_r, up2_ne (by omega), up2_ne (by omega)]
              by_cases hqr : q = r ∧ j = i
              · rw [if_pos ⟨by omega, hqr.2⟩, if_pos ⟨rfl, by rw [hqr.1, hqr.2]⟩]
              · rw [if_neg (by omega), if_neg (by omega), b7 j hj]
          · show up2 (up2 (up2 (up2 I (5 + r) i v) 0 11 0) 117 (40 * r + i) v) 111 6 0 0 11 = up2 (up2 (up2 (up2 I (5 + r) i v) 0 11 0) 117 (40 * r + i) v) 111 6 0 111 6
            rw [up2_ne (by omega), up2_ne (by omega)]
            simp [up2_r]
          · refine ⟨fun x hx => ?_, fun y hy => ?_, fun y hy => ?_⟩
            · rw [up2_ne (by omega), up2_ne (by omega), up2_ne (by omega), up2_ne (by omega)]
            · rw [up2_ne (by omega), up2_ne (by omega), up2_r, if_neg (by omega), up2_ne (by omega)]
            · rw [up2_r, if_neg (by omega), up2_ne (by omega), up2_ne (by omega), up2_ne (by omega)]
        have w37 : ∀ v : Int32, fnX5_write_37 I (nI r) (nI i) (5 + 1 * r) (nI i) v = some (v, up2 I (5 + r) i v) := fun v => by
          unfold fnX5_write_37
          rw [inb_nI (show i < 40 by omega) (by decide), ck_t, bnd_e, inb_nI (show r < 8 by omega) (by decide), ck_t, ck_t, ix_nI (by omega), ix_nI (by omega), Nat.one_mul]
          simp [up2_r]
        have m91 : ∀ (J : Mem) (v : Int32), fnX10_set_91 J (nI r) (nI i) ((40 : Int32) * nI r + nI i) v = some (v, up2 (up2 J 117 (40 * r + i) v) 111 6 0) := fun J v => by
          unfold fnX10_set_91
          rw [e40, inb_nI (show 40 * r + i < 320 by omega) (by decide), ck_t, bnd_e, ck_t, give_e, ob_s, ix_nI (by omega)]
          simp [up2_r]
        have hl : ln = 0 ∨ ln = 1 ∨ ln = 2 := by omega
        rcases hl with rfl | rfl | rfl
        · refine fin p3.toInt8.toInt32 (fun J hJ => ?_) (fun J j1 j2 => ?_)
          · subst hJ
            unfold fnX5_write
            rw [inb_nI (show r < 8 by omega) (by decide), ck_t, ck_t, ix_nI (by omega), a4, if_pos (show nI 0 = 0 from rfl), w37]
          · rw [inb_nI (show r < 8 by omega) (by decide), ck_t, ix_nI (by omega), j1, if_pos (show nI 0 = 0 from rfl), m91]
        · refine fin p3.toInt16.toInt32 (fun J hJ => ?_) (fun J j1 j2 => ?_)
          · subst hJ
            unfold fnX5_write
            rw [inb_nI (show r < 8 by omega) (by decide), ck_t, ck_t, ix_nI (by omega), a4, if_neg (by decide), ck_t, if_pos (show nI 1 = 1 from rfl), w37]
          · rw [inb_nI (show r < 8 by omega) (by decide), ck_t, ix_nI (by omega), j1, if_neg (by decide), ck_t, if_pos (show nI 1 = 1 from rfl), m91]
        · refine fin p3 (fun J hJ => ?_) (fun J j1 j2 => ?_)
          · subst hJ
            unfold fnX5_write
            rw [inb_nI (show r < 8 by omega) (by decide), ck_t, ck_t, ix_nI (by omega), a4, if_neg (by decide), ck_t, if_neg (by decide), w37]
          · rw [inb_nI (show r < 8 by omega) (by decide), ck_t, ix_nI (by omega), j1, if_neg (by decide), ck_t, if_neg (by decide), m91]
