/-! feed -/
def TapR (I : Mem) : Prop := ∃ L : Nat, L ≤ 400 ∧ I 13 1 = nI L ∧ I 111 4 = nI L ∧ ∀ j, j < L → I 14 j = I 114 j
def byW (w : Int64) (k : Nat) : Int32 := (w >>> (((8 : Int32) * nI k).toInt64 &&& 63)).toInt32 &&& 255
theorem byW_e (w : Int64) (k : Nat) : ((w >>> (((8 : Int32) * nI k).toInt64 &&& 63)) &&& 255).toInt32 = byW w k := by
  unfold byW
  generalize w >>> (((8 : Int32) * nI k).toInt64 &&& 63) = x
  rw [Int64.toInt32_and]
  rfl
theorem feedX (w : Int64) : ∀ (k fu L : Nat) (I : Mem), k < fu → L + k ≤ 400 → I 13 1 = nI L → ∃ I1, fnX8_append_5 fu I w (nI k - 1) = some I1 ∧ I1 13 1 = nI (L + k) ∧ (∀ y, y ≠ 1 → I1 13 y = I 13 y) ∧ (∀ j, I1 14 j = if L ≤ j ∧ j < L + k then byW w (L + k - 1 - j) else I 14 j) ∧ ∀ x, x ≠ 13 → x ≠ 14 → I1 x = I x
  | k, 0, _, _, h, _, _ => absurd h (by omega)
  | 0, fu + 1, L, I, _, _, hL => by
    show ∃ I1, fnX8_append_5b _ I _ _ = _ ∧ _
    unfold fnX8_append_5b fnX8_append_57
    rw [if_pos (show nI 0 - 1 < 0 by decide)]
    exact ⟨I, rfl, hL, fun _ _ => rfl, fun j => by rw [if_neg (by omega)], fun _ _ _ => rfl⟩
  | k + 1, fu + 1, L, I, h, h4, hL => by
    show ∃ I1, fnX8_append_5b _ I _ _ = _ ∧ _
    unfold fnX8_append_5b
    rw [nI_pred, if_neg (nI_pos (by omega)), hL, if_neg (show ¬ (400 : Int32) ≤ nI L from nI_ge (b := 400) (by omega) (by omega)), inb_nI (by omega) (by decide), ck_t, bnd_e, bnd_e, bnd_e, ix_nI (by omega), up2_ne (show (13 : Nat) ≠ 14 by omega), hL, nI_1, show nI k + -1 = nI k - 1 from (Int32.sub_eq_add_neg ..).symm]
    obtain ⟨I1, e1, e2, e3, e4, e5⟩ := feedX w k fu (L + 1) (up2 (up2 I 14 L (byW w k)) 13 1 (nI (L + 1))) (by omega) (by omega) (by simp [up2_r])
    refine ⟨I1, e1, by rw [e2]; congr 1; omega, fun y hy => by rw [e3 y hy, up2_r, if_neg (by omega), up2_ne (by omega)], fun j => ?_, fun x a b => by rw [e5 x a b, up2_ne a, up2_ne b]⟩
    rw [e4 j, up2_ne (show (14 : Nat) ≠ 13 by omega), up2_r]
    by_cases c : j = L
    · rw [if_neg (by omega), if_pos ⟨rfl, c⟩, if_pos (by omega), show L + (k + 1) - 1 - j = k by omega]
    · rw [if_neg (show ¬ (14 = 14 ∧ j = L) from fun q => c q.2)]
      by_cases c2 : L + 1 ≤ j ∧ j < L + 1 + k
      · rw [if_pos c2, if_pos (by omega), show L + 1 + k - 1 - j = L + (k + 1) - 1 - j by omega]
      · rw [if_neg c2, if_neg (by omega)]
theorem feedM (w : Int64) : ∀ (k fu L : Nat) (I : Mem), k < fu → L + k ≤ 400 → I 111 4 = nI L → ∃ I1, fnX10_feed_35 fu I w (nI k - 1) = some (nI (L + k), I1) ∧ I1 111 4 = nI (L + k) ∧ (∀ y, y ≠ 4 → I1 111 y = I 111 y) ∧ (∀ j, I1 114 j = if L ≤ j ∧ j < L + k then byW w (L + k - 1 - j) else I 114 j) ∧ ∀ x, x ≠ 111 → x ≠ 114 → I1 x = I x
  | k, 0, _, _, h, _, _ => absurd h (by omega)
  | 0, fu + 1, L, I, _, _, hL => by
    show ∃ I1, fnX10_feed_35b _ I _ _ = _ ∧ _
    unfold fnX10_feed_35b
    rw [if_pos (show nI 0 - 1 < 0 by decide), hL]
    exact ⟨I, rfl, hL, fun _ _ => rfl, fun j => by rw [if_neg (by omega)], fun _ _ _ => rfl⟩
  | k + 1, fu + 1, L, I, h, h4, hL => by
    show ∃ I1, fnX10_feed_35b _ I _ _ = _ ∧ _
    unfold fnX10_feed_35b
    rw [nI_pred, if_neg (nI_pos (by omega)), hL, inb_nI (by omega) (by decide), ck_t, bnd_e, bnd_e, bnd_e, ix_nI (by omega), up2_ne (show (111 : Nat) ≠ 114 by omega), hL, nI_1, show nI k + -1 = nI k - 1 from (Int32.sub_eq_add_neg ..).symm, byW_e]
    obtain ⟨I1, e1, e2, e3, e4, e5⟩ := feedM w k fu (L + 1) (up2 (up2 I 114 L (byW w k)) 111 4 (nI (L + 1))) (by omega) (by omega) (by simp [up2_r])
    have eL : L + 1 + k = L + (k + 1) := by omega
    rw [eL] at e1 e2
    refine ⟨I1, e1, e2, fun y hy => by rw [e3 y hy, up2_r, if_neg (by omega), up2_ne (by omega)], fun j => ?_, fun x a b => by rw [e5 x a b, up2_ne a, up2_ne b]⟩
    rw [e4 j, up2_ne (show (114 : Nat) ≠ 111 by omega), up2_r]
    by_cases c : j = L
    · rw [if_neg (by omega), if_pos ⟨rfl, c⟩, if_pos (by omega), show L + (k + 1) - 1 - j = k by omega]
    · rw [if_neg (show ¬ (114 = 114 ∧ j = L) from fun q => c q.2)]
      by_cases c2 : L + 1 ≤ j ∧ j < L + 1 + k
      · rw [if_pos c2, if_pos (by omega), show L + 1 + k - 1 - j = L + (k + 1) - 1 - j by omega]
      · rw [if_neg c2, if_neg (by omega)]
/-- what feed writes -/
def TFr (I I2 : Mem) : Prop := (∀ x, x ≠ 13 → x ≠ 14 → x ≠ 111 → x ≠ 114 → I2 x = I x) ∧ (∀ y, y ≠ 4 → I2 111 y = I 111 y)
theorem p_feed {I : Mem} (h : TapR I) (w : Int64) (p3 : Int32) : ∃ r I1 I2, fnX9_feed I w p3 = some (r, I1) ∧ fnX10_feed I1 w p3 = some (r, I2) ∧ TapR I2 ∧ TFr I I2 := by
  have hT := h
  obtain ⟨L, h4, hx, hm, hb⟩ := h
  have b1 := lt_int p3 1
  have b2 := le_int p3 8
  have i1 : (1 : Int32).toInt = 1 := rfl
  have i8 : (8 : Int32).toInt = 8 := rfl
  have hM : ∀ J : Mem, fnX10_feed J w p3 = if (1 : Int) ≤ p3.toInt ∧ p3.toInt ≤ 8 then (if ((J 111 4) + p3) ≤ 400 then (fnX10_feed_35 FU J w (p3 - 1)) else (some ((-1000003), J))) else some ((-1000001), J) := fun J => by
    unfold fnX10_feed
    rw [in_g, ob_s, w64, show (1 : Int64).toInt = 1 from rfl, show (8 : Int64).toInt = 8 from rfl]
    dsimp only
    by_cases c : (1 : Int) ≤ p3.toInt ∧ p3.toInt ≤ 8
    · rw [if_pos c, if_neg (show ¬ (1 : Int32) = 0 by decide), if_pos c]; rfl
    · rw [if_neg c, if_pos rfl, if_neg c]
  by_cases c : (1 : Int) ≤ p3.toInt ∧ p3.toInt ≤ 8
  · obtain ⟨n, hn, rfl⟩ : ∃ n : Nat, (1 ≤ n ∧ n ≤ 8) ∧ p3 = nI n := by
      obtain ⟨j, hj, rfl⟩ := nI_of (x := p3) (by rw [lt0_iff]; omega)
      rw [nI_toInt hj] at c
      exact ⟨j, by omega, rfl⟩
    have hX : fnX9_feed I w (nI n) = if nI L ≤ (400 : Int32) - nI n then (ob (fnX8_append I w (nI n)) fun I5 => some ((I5 13 1), I5)) else (some ((-1000003), I)) := by
      unfold fnX9_feed
      rw [if_neg (by rw [b1]; omega), if_pos (by rw [b2]; omega), hx]
    have e4 : (400 : Int32) - nI n = nI (400 - n) := (by decide +kernel : ∀ n, n < 9 → (400 : Int32) - nI n = nI (400 - n)) n (by omega)
    by_cases cf : L + n ≤ 400
    · obtain ⟨I1, e1, e2, e3, e5, e6⟩ := feedX w n FU L I (by unfold FU; omega) cf hx
      obtain ⟨I2, f1, f2, f3, f5, f6⟩ := feedM w n FU L I1 (by unfold FU; omega) cf (by rw [e6 111 (by omega) (by omega)]; exact hm)
      refine ⟨nI (L + n), I1, I2, ?_, ?_, ⟨L + n, cf, by rw [f6 13 (by omega) (by omega)]; exact e2, f2, fun j hj => ?_⟩, fun x a b c d => by rw [f6 x c d, e6 x a b], fun y hy => by rw [f3 y hy, e6 111 (by omega) (by omega)]⟩
      · rw [hX, e4, if_pos (show nI L ≤ nI (400 - n) from nI_le (by omega) (by omega))]
        unfold fnX8_append
        rw [bnd_e, e1, ob_s, e2]
      · rw [hM, if_pos c, e6 111 (by omega) (by omega), hm, nI_add, if_pos (show nI (L + n) ≤ 400 from nI_le (b := 400) (by omega) (by omega)), f1]
      · rw [f6 14 (by omega) (by omega), e5 j, f5 j, e6 114 (by omega) (by omega)]
        by_cases cj : L ≤ j ∧ j < L + n
        · rw [if_pos cj, if_pos cj]
        · rw [if_neg cj, if_neg cj]
          exact hb j (by omega)
    · refine ⟨_, I, I, by rw [hX, e4, if_neg (show ¬ nI L ≤ nI (400 - n) from nI_ge (by omega) (by omega))], ?_, hT, fun _ _ _ _ _ => rfl, fun _ _ => rfl⟩
      rw [hM, if_pos c, hm, nI_add, if_neg (show ¬ nI (L + n) ≤ 400 from nI_ge (a := 400) (by omega) (by omega))]
  · refine ⟨-1000001, I, I, ?_, by rw [hM, if_neg c], hT, fun _ _ _ _ _ => rfl, fun _ _ => rfl⟩
    unfold fnX9_feed fnX9_feed_11
    by_cases c2 : p3 < 1
    · rw [if_pos c2]
    · rw [if_neg c2, if_neg (by rw [b2]; rw [b1] at c2; omega)]
