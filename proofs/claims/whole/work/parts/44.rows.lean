/-! rows -/
def fillZ (I : Mem) (a k m : Nat) : Mem := fun x => if x = a then (fun y => if k ≤ y ∧ y < m then 0 else I a y) else I x
theorem fillZ_e {I : Mem} {a k m : Nat} (h : m ≤ k) : fillZ I a k m = I := by
  funext x
  unfold fillZ
  by_cases hx : x = a
  · subst hx
    rw [if_pos rfl]
    funext y
    rw [if_neg (by omega)]
  · rw [if_neg hx]
theorem fillZ_s {I : Mem} {a k m : Nat} (h : k < m) : fillZ (up2 I a k 0) a (k + 1) m = fillZ I a k m := by
  funext x
  unfold fillZ
  by_cases hx : x = a
  · subst hx
    rw [if_pos rfl, if_pos rfl]
    funext y
    by_cases c1 : k + 1 ≤ y ∧ y < m
    · rw [if_pos c1, if_pos (by omega)]
    · rw [if_neg c1, up2_r]
      by_cases c2 : y = k
      · rw [if_pos ⟨rfl, c2⟩, if_pos (by omega)]
      · rw [if_neg (fun q => c2 q.2), if_neg (by omega)]
  · rw [if_neg hx, if_neg hx, up2_ne hx]
theorem fillZ_ne {I : Mem} {a k m x : Nat} (h : x ≠ a) : fillZ I a k m x = I x := if_neg h
theorem fillZ_r {I : Mem} {a k m x y : Nat} : fillZ I a k m x y = if x = a ∧ k ≤ y ∧ y < m then 0 else I x y := by
  unfold fillZ
  by_cases hx : x = a
  · subst hx
    rw [if_pos rfl]
    by_cases c : k ≤ y ∧ y < m
    · rw [if_pos c, if_pos ⟨rfl, c⟩]
    · rw [if_neg c, if_neg (fun q => c q.2)]
  · rw [if_neg hx, if_neg (fun q => hx q.1)]
theorem upTo_01 (x m : Int32) : upTo x m = 0 ∨ upTo x m = 1 := by
  unfold upTo
  split
  · exact Or.inl rfl
  · split
    · exact Or.inl rfl
    · exact Or.inr rfl
theorem zb_upTo (x m : Int32) : zb (upTo x m) = true := decide_eq_true (upTo_01 x m)
theorem isRow_e (I : Mem) (p : Int32) : fnX9_isRow I p = some (upTo p (nI 7), I) := by
  unfold fnX9_isRow
  rw [isUpTo_e, ob_s]
  dsimp only
  rw [show (7 : Int32) = nI 7 from rfl, zb_upTo, ck_t]
theorem isRowM_e (I : Mem) (p : Int32) : fnX10_isRow I p = some (upTo p (nI 7), I) := by
  unfold fnX10_isRow
  rw [show (7 : Int64) = lN 7 from rfl, in_u I p 7 (by decide), ob_s]
  dsimp only
  rw [zb_upTo, ck_t]
theorem found_e (I : Mem) (p : Int32) : fnX9_found I p = some ((-1000010) - p, up2 I 0 11 p) := rfl
theorem plain_e (I : Mem) (p : Int32) : fnX9_plain I p = some (p, up2 I 0 11 0) := rfl
theorem find_e (I : Mem) (p : Int32) : fnX10_find I p = some ((-1000010) - p, up2 I 111 6 p) := rfl
theorem give_e (I : Mem) (p : Int32) : fnX10_give I p = some (p, up2 I 111 6 0) := rfl
theorem make_loop (r : Nat) (hr : r < 8) : ∀ (d k fu : Nat) (I : Mem), k + d = 40 → d < fu → fnX5_make_17 fu I (nI r) (nI k) = some (fillZ I (5 + 1 * r) k 40)
  | d, k, 0, _, _, h2 => absurd h2 (by omega)
  | 0, k, fu + 1, I, h1, _ => by
    show fnX5_make_17b _ I _ _ = _
    unfold fnX5_make_17b
    rw [if_pos (show (40 : Int32) ≤ nI k from nI_le (a := 40) (by omega) (by omega)), fillZ_e (by omega)]
  | d + 1, k, fu + 1, I, h1, h2 => by
    show fnX5_make_17b _ I _ _ = _
    unfold fnX5_make_17b
    rw [if_neg (show ¬ (40 : Int32) ≤ nI k from nI_ge (b := 40) (by omega) (by omega)), inb_nI hr (by decide), ck_t, inb_nI (show k < 40 by omega) (by decide), ck_t, bnd_e, bnd_e, ix_nI (by omega), ix_nI (by omega), nI_1, make_loop r hr d (k + 1) fu _ (by omega) (by omega), fillZ_s (by omega)]
theorem row55_loop (r n : Nat) (hr : r < 8) (hn : n ≤ 40) : ∀ (d k fu : Nat) (I : Mem), k + d = n → d < fu → fnX10_row_55 fu I (nI r) (nI n) (nI k) = some (nI n, up2 (fillZ I 117 (40 * r + k) (40 * r + n)) 111 6 0)
  | d, k, 0, _, _, h2 => absurd h2 (by omega)
  | 0, k, fu + 1, I, h1, _ => by
    show fnX10_row_55b _ I _ _ _ = _
    unfold fnX10_row_55b
    rw [if_pos (nI_le (by omega) (by omega)), give_e, ob_s, fillZ_e (by omega)]
  | d + 1, k, fu + 1, I, h1, h2 => by
    show fnX10_row_55b _ I _ _ _ = _
    have e : (40 : Int32) * nI r + nI k = nI (40 * r + k) := by rw [show (40 : Int32) = nI 40 from rfl, pk_mul, nI_add]
    unfold fnX10_row_55b
    rw [if_neg (nI_ge (by omega) (by omega)), e, inb_nI (show 40 * r + k < 320 by omega) (by decide), ck_t, bnd_e, bnd_e, ix_nI (by omega), nI_1, row55_loop r n hr hn d (k + 1) fu _ (by omega) (by omega), show 40 * r + (k + 1) = (40 * r + k) + 1 from rfl, fillZ_s (by omega)]
def RowOne (I : Mem) (r : Nat) : Prop := (I 3 r = -1 ∧ I 115 r = -1000000) ∨ ∃ ln sz : Nat, ln ≤ 2 ∧ sz ≤ 40 ∧ I 3 r = nI sz ∧ I 2 r = nI ln ∧ I 115 r = nI ln ∧ I 116 r = nI sz ∧ ∀ i, i < sz → I (5 + r) i = I 117 (40 * r + i)
/-- the rows of both sides -/
def RowR (I : Mem) : Prop := ∀ r, r < 8 → RowOne I r
def rowS (x _ : Nat) : Prop := x = 2 ∨ x = 3 ∨ (5 ≤ x ∧ x ≤ 12) ∨ (115 ≤ x ∧ x ≤ 117)
def Agr (S : Nat → Nat → Prop) (I I1 : Mem) : Prop := ∀ x y, S x y → I1 x y = I x y
theorem Agr.tr {S : Nat → Nat → Prop} {I I1 I2 : Mem} (h : Agr S I I1) (h2 : Agr S I1 I2) : Agr S I I2 := fun x y hs => (h2 x y hs).trans (h x y hs)
theorem Agr.up {S : Nat → Nat → Prop} {I : Mem} {a k : Nat} {v : Int32} (h : ¬ S a k) : Agr S I (up2 I a k v) := fun x y hs => by
  rw [up2_r]
  split
  · next q =>
    obtain ⟨rfl, rfl⟩ := q
    exact absurd hs h
  · rfl
theorem RowR.agr {I I1 : Mem} (h : RowR I) (ha : Agr rowS I I1) : RowR I1 := by
  intro r hr
  have e3 := ha 3 r (Or.inr (Or.inl rfl))
  have e2 := ha 2 r (Or.inl rfl)
  have e115 := ha 115 r (Or.inr (Or.inr (Or.inr ⟨by omega, by omega⟩)))
  have e116 := ha 116 r (Or.inr (Or.inr (Or.inr ⟨by omega, by omega⟩)))
  unfold RowOne
  rw [e3, e2, e115, e116]
  rcases h r hr with q | ⟨ln, sz, a1, a2, a3, a4, a5, a6, a7⟩
  · exact Or.inl q
  · refine Or.inr ⟨ln, sz, a1, a2, a3, a4, a5, a6, fun i hi => ?_⟩
    rw [ha (5 + r) i (Or.inr (Or.inr (Or.inl ⟨by omega, by omega⟩))), ha 117 _ (Or.inr (Or.inr (Or.inr ⟨by omega, by omega⟩)))]
    exact a7 i hi
/-- status -/
def StatR (I : Mem) : Prop := I 0 11 = I 111 6
theorem neg1_ne {n : Nat} (h : n < 2 ^ 31) : ¬ nI n = -1 := fun q => by
  have h9 : (nI n).toInt = (-1 : Int32).toInt := congrArg Int32.toInt q
  rw [nI_toInt h] at h9
  have h10 : (-1 : Int32).toInt = -1 := rfl
  omega
theorem none_ne {n : Nat} (h : n < 2 ^ 31) : ¬ nI n = -1000000 := fun q => by
  have h9 : (nI n).toInt = (-1000000 : Int32).toInt := congrArg Int32.toInt q
  rw [nI_toInt h] at h9
  have h10 : (-1000000 : Int32).toInt = -1000000 := rfl
  omega
/-- row -/
theorem p_row {I : Mem} (h : RowR I) (hs : StatR I) (p1 p2 p3 : Int32) : ∃ (r : Int32) (I1 I2 : Mem), fnX9_row I p1 p2 p3 = some (r, I1) ∧ fnX10_row I1 p1 p2 p3 = some (r, I2) ∧ RowR I2 ∧ StatR I2 ∧ (∀ x, ¬ (x = 0 ∨ x = 2 ∨ x = 3 ∨ (5 ≤ x ∧ x ≤ 12) ∨ x = 111 ∨ (115 ≤ x ∧ x ≤ 117)) → I2 x = I x) ∧ (∀ y, y ≠ 11 → I2 0 y = I 0 y) ∧ ∀ y, y ≠ 6 → I2 111 y = I 111 y := by
  have eM : ∀ J : Mem, fnX10_row J p1 p2 p3 = if upTo p1 (nI 7) = 0 then some (-1000001, J) else if upTo p2 (nI 2) = 0 then some (-1000001, J) else if p3 ≤ 40 then (if 0 ≤ p3 then (ck (inb p1 8) <| bnd (up2 J 115 (ix p1) p2) fun I12 => ck (inb p1 8) <| bnd (up2 I12 116 (ix p1) p3) fun I14 => fnX10_row_55 FU I14 p1 p3 0) else some ((-1000010) - 4, up2 J 111 6 4)) else some (-1000001, J) := fun J => by
    unfold fnX10_row fnX10_row_25
    simp only [isRowM_e, ob_s, show (2 : Int64) = lN 2 from rfl, in_u _ p2 2 (by decide), find_e]
  simp only [eM]
  unfold fnX9_row fnX9_row_21
  simp only [isRow_e, ob_s, isUpTo_e, show (2 : Int32) = nI 2 from rfl]
  by_cases c1 : upTo p1 (nI 7) = 0
  · simp only [c1, if_true]
    exact ⟨_, I, I, rfl, rfl, h, hs, fun _ _ => rfl, fun _ _ => rfl, fun _ _ => rfl⟩
  · by_cases c2 : upTo p2 (nI 2) = 0
    · simp only [c1, c2, if_true, if_false]
      exact ⟨_, I, I, rfl, rfl, h, hs, fun _ _ => rfl, fun _ _ => rfl, fun _ _ => rfl⟩
    · by_cases c3 : p3 ≤ 40
      · by_cases c4 : 0 ≤ p3
        · obtain ⟨r, hr, rfl⟩ := upTo_of (m := 7) (by decide) c1
          obtain ⟨ln, hln, rfl⟩ := upTo_of (m := 2) (by decide) c2
          obtain ⟨n, hn, rfl⟩ := nI_of2 (M := 40) (n := 40) rfl (Int32.not_lt.mpr c4) c3
          have hmk : fnX5_make I (nI r) (nI ln) (nI n) = some (fillZ (up2 (up2 I 2 r (nI ln)) 3 r (nI n)) (5 + 1 * r) 0 40) := by
            unfold fnX5_make
            rw [inb_nI (show r < 8 by omega) (by decide), ck_t, bnd_e, ck_t, bnd_e, ix_nI (by omega), show (0 : Int32) = nI 0 from rfl, make_loop r (by omega) 40 0 FU _ (by omega) (by unfold FU; omega)]
          simp only [c1, c2, c3, c4, if_true, if_false, hmk, ob_s, plain_e]
          generalize hI1 : up2 (fillZ (up2 (up2 I 2 r (nI ln)) 3 r (nI n)) (5 + 1 * r) 0 40) 0 11 0 = I1
          have hM : (ck (inb (nI r) 8) <| bnd (up2 I1 115 (ix (nI r)) (nI ln)) fun I12 => ck (inb (nI r) 8) <| bnd (up2 I12 116 (ix (nI r)) (nI n)) fun I14 => fnX10_row_55 FU I14 (nI r) (nI n) 0) = some (nI n, up2 (fillZ (up2 (up2 I1 115 r (nI ln)) 116 r (nI n)) 117 (40 * r + 0) (40 * r + n)) 111 6 0) := by
            rw [inb_nI (show r < 8 by omega) (by decide), ck_t, bnd_e, ck_t, bnd_e, ix_nI (by omega)]
            exact row55_loop r n (by omega) hn n 0 FU _ (by omega) (by unfold FU; omega)
          refine ⟨_, I1, _, rfl, hM, ?_, ?_, ?_, ?_, ?_⟩
          · intro q hq
            by_cases hqr : q = r
            · subst hqr
              refine Or.inr ⟨ln, n, hln, hn, ?_, ?_, ?_, ?_, fun i hi => ?_⟩
              · rw [← hI1]; simp [up2_r, fillZ_r]; omega
              · rw [← hI1]; simp [up2_r, fillZ_r]; omega
              · rw [← hI1]; simp [up2_r, fillZ_r]
              · rw [← hI1]; simp [up2_r, fillZ_r]
              · rw [up2_ne (by omega), fillZ_ne (by omega), up2_ne (by omega), up2_ne (by omega), up2_ne (by omega), fillZ_r, if_pos (by omega), ← hI1, up2_ne (by omega), fillZ_r, if_pos (by omega)]
            · have hold := h q hq
              have e3 : ∀ a : Nat, (a = 2 ∨ a = 3) → up2 (fillZ (up2 (up2 I1 115 r (nI ln)) 116 r (nI n)) 117 (40 * r + 0) (40 * r + n)) 111 6 0 a q = I a q := fun a ha => by
                rw [up2_ne (by omega), fillZ_ne (by omega), up2_ne (by omega), up2_ne (by omega), ← hI1, up2_ne (by omega), fillZ_ne (by omega)]
                rw [up2_r, if_neg (by omega), up2_r, if_neg (by omega)]
              have e5 : ∀ a : Nat, (a = 115 ∨ a = 116) → up2 (fillZ (up2 (up2 I1 115 r (nI ln)) 116 r (nI n)) 117 (40 * r + 0) (40 * r + n)) 111 6 0 a q = I a q := fun a ha => by
                rw [up2_ne (by omega), fillZ_ne (by omega), up2_r, if_neg (by omega), up2_r, if_neg (by omega), ← hI1, up2_ne (by omega), fillZ_ne (by omega), up2_ne (by omega), up2_ne (by omega)]
              unfold RowOne at hold ⊢
              rw [e3 3 (Or.inr rfl), e3 2 (Or.inl rfl), e5 115 (Or.inl rfl), e5 116 (Or.inr rfl)]
              rcases hold with z | ⟨ln2, sz2, b1, b2, b3, b4, b5, b6, b7⟩
              · exact Or.inl z
              · refine Or.inr ⟨ln2, sz2, b1, b2, b3, b4, b5, b6, fun i hi => ?_⟩
                rw [up2_ne (by omega), fillZ_ne (by omega), up2_ne (by omega), up2_ne (by omega), ← hI1, up2_ne (by omega), fillZ_ne (by omega), up2_ne (by omega), up2_ne (by omega), b7 i hi]
                rw [up2_ne (by omega), fillZ_r, if_neg (by omega), up2_ne (by omega), up2_ne (by omega), up2_ne (by omega), fillZ_ne (by omega), up2_ne (by omega), up2_ne (by omega)]
          · show up2 _ 111 6 0 0 11 = up2 _ 111 6 0 111 6
            rw [up2_ne (by omega), fillZ_ne (by omega), up2_ne (by omega), up2_ne (by omega), ← hI1]
            simp [up2_r]
          · intro x hx
            rw [up2_ne (by omega), fillZ_ne (by omega), up2_ne (by omega), up2_ne (by omega), ← hI1, up2_ne (by omega), fillZ_ne (by omega), up2_ne (by omega), up2_ne (by omega)]
          · intro y hy
            rw [up2_ne (by omega), fillZ_ne (by omega), up2_ne (by omega), up2_ne (by omega), ← hI1, up2_r, if_neg (by omega), fillZ_ne (by omega), up2_ne (by omega), up2_ne (by omega)]
          · intro y hy
            rw [up2_r, if_neg (by omega), fillZ_ne (by omega), up2_ne (by omega), up2_ne (by omega), ← hI1, up2_ne (by omega), fillZ_ne (by omega), up2_ne (by omega), up2_ne (by omega)]
        · simp only [c1, c2, c3, c4, if_true, if_false, found_e, ob_s]
          refine ⟨_, _, _, rfl, rfl, ?_, ?_, ?_, ?_, ?_⟩
          · exact h.agr ((Agr.up (by simp [rowS])).tr (Agr.up (by simp [rowS])))
          · simp [StatR, up2_r]
          · intro x hx; rw [up2_ne (by omega), up2_ne (by omega)]
          · intro y hy; rw [up2_ne (by omega), up2_r, if_neg (by omega)]
          · intro y hy; rw [up2_r, if_neg (by omega), up2_ne (by omega)]
      · simp only [c1, c2, c3, if_false]
        exact ⟨_, I, I, rfl, rfl, h, hs, fun _ _ => rfl, fun _ _ => rfl, fun _ _ => rfl⟩
