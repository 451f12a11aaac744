/-! the tokens: both sides against one reading of the bytes -/
def so (c : Int32) : Nat := if c < 97 then (if c < 48 then 0 else if 57 < c then 0 else 2) else if 122 < c then (if c < 48 then 0 else if 57 < c then 0 else 2) else 1
def skp (b : Nat → Int32) : Nat → Nat → Nat
  | 0, p => p
  | d + 1, p => if b p = 32 ∨ b p = 10 then skp b d (p + 1) else p
def rnA (b : Nat → Int32) (k : Nat) : Nat → Nat → Nat
  | 0, p => p
  | d + 1, p => if so (b p) = k then rnA b k d (p + 1) else p
def valA (b : Nat → Int32) : Nat → Nat → Int32 → Int32
  | 0, _, v => v
  | m + 1, i, v => valA b m (i + 1) (10 * v + b i - 48)
def endA (b : Nat → Int32) (L s : Nat) : Nat := if s < L then (if so (b s) = 0 then s + 1 else rnA b (so (b s)) (L - s) s) else s
def tokA (b : Nat → Int32) (L p : Nat) : Nat × Nat := (skp b (L - p) p, endA b L (skp b (L - p) p))
def srtA (b : Nat → Int32) (L s e : Nat) : Int32 := if s < L then (if so (b s) = 1 then 1 else if so (b s) = 2 then (if e - s ≤ 3 then 2 else 4) else if b s = 59 then 3 else 4) else 0
theorem skp_le (b : Nat → Int32) : ∀ d p, p ≤ skp b d p ∧ skp b d p ≤ p + d
  | 0, p => ⟨Nat.le_refl p, Nat.le_refl p⟩
  | d + 1, p => by
    unfold skp
    have := skp_le b d (p + 1)
    split <;> omega
theorem rnA_le (b : Nat → Int32) (k : Nat) : ∀ d p, p ≤ rnA b k d p ∧ rnA b k d p ≤ p + d
  | 0, p => ⟨Nat.le_refl p, Nat.le_refl p⟩
  | d + 1, p => by
    unfold rnA
    have := rnA_le b k d (p + 1)
    split <;> omega
theorem tokA_le (b : Nat → Int32) {L p : Nat} (h : p ≤ L) : p ≤ (tokA b L p).1 ∧ (tokA b L p).1 ≤ (tokA b L p).2 ∧ (tokA b L p).2 ≤ L := by
  have h1 := skp_le b (L - p) p
  have h2 := rnA_le b (so (b (skp b (L - p) p))) (L - skp b (L - p) p) (skp b (L - p) p)
  show p ≤ skp b (L - p) p ∧ skp b (L - p) p ≤ endA b L (skp b (L - p) p) ∧ endA b L (skp b (L - p) p) ≤ L
  unfold endA
  repeat' split
  all_goals omega
theorem so_c (c : Int32) : so c = 0 ∨ so c = 1 ∨ so c = 2 := by
  unfold so
  repeat' split
  all_goals simp
theorem sortM_e (I : Mem) (c : Int32) : fnX10_sort I c = some (nI (so c), I) := by
  unfold fnX10_sort fnX10_sort_16 fnX10_sort_32 fnX10_sort_33 so
  repeat' split
  all_goals rfl
theorem isLetter_e (I : Mem) (c : Int32) : fnX8_isLetter I c = some ((if so c = 1 then 1 else 0), I) := by
  unfold fnX8_isLetter fnX8_isLetter_16 fnX8_isLetter_17 so
  by_cases h1 : c < 97
  · rw [if_pos h1, if_pos h1]
    repeat' split
    all_goals first | rfl | contradiction
  · rw [if_neg h1, if_neg h1]
    by_cases h2 : 122 < c
    · rw [if_pos h2, if_pos h2]
      repeat' split
      all_goals first | rfl | contradiction
    · rw [if_neg h2, if_neg h2]
      rfl
theorem isFigure_e (I : Mem) (c : Int32) : fnX8_isFigure I c = some ((if so c = 2 then 1 else 0), I) := by
  have a1 := lt_int c 97
  have a2 := lt_int 122 c
  have a3 := lt_int c 48
  have a4 := lt_int 57 c
  have i1 : (97 : Int32).toInt = 97 := rfl
  have i2 : (122 : Int32).toInt = 122 := rfl
  have i3 : (48 : Int32).toInt = 48 := rfl
  have i4 : (57 : Int32).toInt = 57 := rfl
  unfold fnX8_isFigure fnX8_isFigure_16 fnX8_isFigure_17 so
  by_cases h1 : c < 48
  · have h2 : c < 97 := by rw [a1]; rw [a3] at h1; omega
    rw [if_pos h1, if_pos h2, if_pos h1]
    rfl
  · rw [if_neg h1]
    by_cases h3 : 57 < c
    · rw [if_pos h3]
      simp only [if_neg h1, if_pos h3]
      repeat' split
      all_goals first | rfl | contradiction
    · have h2 : c < 97 := by rw [a1]; rw [a4] at h3; omega
      rw [if_neg h3, if_pos h2, if_neg h1, if_neg h3]
      rfl
theorem isBlank_e (I : Mem) (c : Int32) : fnX8_isBlank I c = some ((if c = 32 ∨ c = 10 then 1 else 0), I) := by
  unfold fnX8_isBlank fnX8_isBlank_12 fnX8_isBlank_17
  by_cases h1 : c = 32
  · rw [if_pos h1, if_pos (Or.inl h1)]; rfl
  · by_cases h2 : c = 10
    · rw [if_neg h1, if_pos h2, if_pos (Or.inr h2)]; rfl
    · rw [if_neg h1, if_neg h2, if_neg (by rintro (q | q) <;> contradiction)]; rfl
/-- the bytes of the class -/
def BtX (I : Mem) (b : Nat → Int32) (L : Nat) : Prop := L ≤ 400 ∧ I 13 1 = nI L ∧ ∀ j, j < L → I 14 j = b j
def BtM (I : Mem) (b : Nat → Int32) (L : Nat) : Prop := L ≤ 400 ∧ I 111 4 = nI L ∧ ∀ j, j < L → I 114 j = b j
/-- only slots of the tape's reading are written -/
def FrK (S : Nat → Prop) (I I1 : Mem) : Prop := (∀ x, x ≠ 13 → I1 x = I x) ∧ ∀ y, ¬ S y → I1 13 y = I 13 y
theorem FrK.rf {S : Nat → Prop} {I : Mem} : FrK S I I := ⟨fun _ _ => rfl, fun _ _ => rfl⟩
theorem FrK.tr {S : Nat → Prop} {I I1 I2 : Mem} (h : FrK S I I1) (h2 : FrK S I1 I2) : FrK S I I2 := ⟨fun x a => (h2.1 x a).trans (h.1 x a), fun y a => (h2.2 y a).trans (h.2 y a)⟩
theorem FrK.up {S : Nat → Prop} {I : Mem} {k : Nat} {v : Int32} (h : S k) : FrK S I (up2 I 13 k v) := ⟨fun x a => up2_ne a, fun y hy => by rw [up2_r, if_neg (show ¬ (13 = 13 ∧ y = k) from fun q => hy (by rw [q.2]; exact h))]⟩
theorem FrK.mo {S T : Nat → Prop} {I I1 : Mem} (h : FrK S I I1) (hs : ∀ y, S y → T y) : FrK T I I1 := ⟨h.1, fun y hy => h.2 y (fun q => hy (hs y q))⟩
def s69 (y : Nat) : Prop := 6 ≤ y ∧ y ≤ 9
theorem BtX.fr {S : Nat → Prop} {I I1 : Mem} {b : Nat → Int32} {L : Nat} (h : BtX I b L) (hf : FrK S I I1) (hs : ¬ S 1) : BtX I1 b L := ⟨h.1, (hf.2 1 hs).trans h.2.1, fun j hj => by rw [hf.1 14 (by omega)]; exact h.2.2 j hj⟩
section
variable {b : Nat → Int32} {L : Nat}
theorem skpX : ∀ (d p fu : Nat) (I : Mem), p + d = L → d < fu → BtX I b L → I 13 6 = nI p → ∃ I1, fnX8_take_8 fu I = fnX8_take_47 I1 ∧ I1 13 6 = nI (skp b d p) ∧ FrK (fun y => y = 6) I I1
  | d, p, 0, _, _, h, _, _ => absurd h (by omega)
  | 0, p, fu + 1, I, h1, _, hb, h6 => by
    show ∃ I1, fnX8_take_8b _ I = _ ∧ _
    unfold fnX8_take_8b
    rw [hb.2.1, h6, if_pos (show nI L ≤ nI p from nI_le (by omega) (by have := hb.1; omega))]
    exact ⟨I, rfl, h6, FrK.rf⟩
  | d + 1, p, fu + 1, I, h1, h2, hb, h6 => by
    have h4 := hb.1
    show ∃ I1, fnX8_take_8b _ I = _ ∧ _
    unfold fnX8_take_8b
    rw [hb.2.1, h6, if_neg (show ¬ nI L ≤ nI p from nI_ge (by omega) (by omega)), inb_nI (by omega) (by decide), ck_t, ix_nI (by omega), hb.2.2 p (by omega), isBlank_e, ob_s]
    dsimp only
    by_cases c : b p = 32 ∨ b p = 10
    · rw [if_pos c, if_neg (show ¬ (1 : Int32) = 0 by decide), bnd_e, h6, nI_1, show skp b (d + 1) p = skp b d (p + 1) from if_pos c]
      have f1 : FrK (fun y => y = 6) I (up2 I 13 6 (nI (p + 1))) := FrK.up rfl
      obtain ⟨I1, e1, e2, e3⟩ := skpX d (p + 1) fu (up2 I 13 6 (nI (p + 1))) (by omega) (by omega) (hb.fr f1 (by omega)) (by simp [up2_r])
      exact ⟨I1, e1, e2, f1.tr e3⟩
    · rw [if_neg c, if_pos rfl, show skp b (d + 1) p = p from if_neg c]
      exact ⟨I, rfl, h6, FrK.rf⟩
theorem nameX : ∀ (d p fu : Nat) (I : Mem), p + d = L → d < fu → BtX I b L → I 13 6 = nI p → ∃ I1, fnX8_takeName_0 fu I = some I1 ∧ I1 13 6 = nI (rnA b 1 d p) ∧ I1 13 8 = 1 ∧ FrK (fun y => y = 6 ∨ y = 8) I I1
  | d, p, 0, _, _, h, _, _ => absurd h (by omega)
  | 0, p, fu + 1, I, h1, _, hb, h6 => by
    show ∃ I1, fnX8_takeName_0b _ I = _ ∧ _
    unfold fnX8_takeName_0b fnX8_takeName_39
    rw [hb.2.1, h6, if_pos (show nI L ≤ nI p from nI_le (by omega) (by have := hb.1; omega)), bnd_e]
    exact ⟨_, rfl, by simp [up2_r, h6, rnA], by simp [up2_r], FrK.up (Or.inr rfl)⟩
  | d + 1, p, fu + 1, I, h1, h2, hb, h6 => by
    have h4 := hb.1
    show ∃ I1, fnX8_takeName_0b _ I = _ ∧ _
    unfold fnX8_takeName_0b fnX8_takeName_39
    rw [hb.2.1, h6, if_neg (show ¬ nI L ≤ nI p from nI_ge (by omega) (by omega)), inb_nI (by omega) (by decide), ck_t, ix_nI (by omega), hb.2.2 p (by omega), isLetter_e, ob_s]
    dsimp only
    by_cases c : so (b p) = 1
    · rw [if_pos c, if_neg (show ¬ (1 : Int32) = 0 by decide), bnd_e, h6, nI_1, show rnA b 1 (d + 1) p = rnA b 1 d (p + 1) from if_pos c]
      have f1 : FrK (fun y => y = 6 ∨ y = 8) I (up2 I 13 6 (nI (p + 1))) := FrK.up (Or.inl rfl)
      obtain ⟨I1, e1, e2, e3, e4⟩ := nameX d (p + 1) fu (up2 I 13 6 (nI (p + 1))) (by omega) (by omega) (hb.fr f1 (by omega)) (by simp [up2_r])
      exact ⟨I1, e1, e2, e3, f1.tr e4⟩
    · rw [if_neg c, if_pos rfl, show rnA b 1 (d + 1) p = p from if_neg c, bnd_e]
      exact ⟨_, rfl, by simp [up2_r, h6], by simp [up2_r], FrK.up (Or.inr rfl)⟩
theorem nI_subn {a c : Nat} (h : c ≤ a) (ha : a < 2 ^ 31) : nI a - nI c = nI (a - c) := by
  have : nI a = nI (a - c) + nI c := by rw [nI_add]; congr 1; omega
  rw [this]
  simp
theorem figX {s : Nat} (hs : s < L) : ∀ (d p fu : Nat) (I : Mem) (v : Int32), p + d = L → s ≤ p → d < fu → BtX I b L → I 13 6 = nI p → I 13 7 = nI s → I 13 9 = v → ∃ I1, fnX8_takeFigures_0 fu I = some I1 ∧ I1 13 6 = nI (rnA b 2 d p) ∧ I1 13 8 = (if rnA b 2 d p - s ≤ 3 then 2 else 4) ∧ (rnA b 2 d p - s ≤ 3 → I1 13 9 = valA b (rnA b 2 d p - p) p v) ∧ FrK (fun y => y = 6 ∨ y = 8 ∨ y = 9) I I1
  | d, p, 0, _, _, _, _, h, _, _, _, _ => absurd h (by omega)
  | 0, p, fu + 1, I, v, h1, hsp, _, hb, h6, h7, h9 => by
    have h4 := hb.1
    show ∃ I1, fnX8_takeFigures_0b _ I = _ ∧ _
    unfold fnX8_takeFigures_0b fnX8_takeFigures_76 fnX8_takeFigures_95
    rw [hb.2.1, h6, if_pos (show nI L ≤ nI p from nI_le (by omega) (by omega)), h7, nI_subn hsp (by omega)]
    have q : nI (p - s) ≤ 3 ↔ p - s ≤ 3 := nI_leI (b := 3) (by omega) (by decide)
    by_cases c : p - s ≤ 3
    · rw [if_pos (q.mpr c), bnd_e]
      exact ⟨_, rfl, by simp [up2_r, h6, rnA], by simp [up2_r, rnA, c], fun _ => by simp [up2_r, rnA, valA, h9], FrK.up (Or.inr (Or.inl rfl))⟩
    · rw [if_neg (fun z => c (q.mp z)), bnd_e]
      exact ⟨_, rfl, by simp [up2_r, h6, rnA], by simp [up2_r, rnA, c], fun z => absurd z c, FrK.up (Or.inr (Or.inl rfl))⟩
  | d + 1, p, fu + 1, I, v, h1, hsp, h2, hb, h6, h7, h9 => by
    have h4 := hb.1
    show ∃ I1, fnX8_takeFigures_0b _ I = _ ∧ _
    unfold fnX8_takeFigures_0b fnX8_takeFigures_76 fnX8_takeFigures_95 fnX8_takeFigures_63
    rw [hb.2.1, h6, if_neg (show ¬ nI L ≤ nI p from nI_ge (by omega) (by omega)), inb_nI (show p < 400 by omega) (by decide), ck_t, ix_nI (by omega), hb.2.2 p (by omega), isFigure_e, ob_s]
    dsimp only
    rw [h6, h7, nI_subn hsp (by omega), h9, inb_nI (show p < 400 by omega) (by decide), ck_t, ix_nI (by omega), hb.2.2 p (by omega)]
    by_cases c : so (b p) = 2
    · have hr : rnA b 2 (d + 1) p = rnA b 2 d (p + 1) := if_pos c
      have hle := rnA_le b 2 d (p + 1)
      rw [if_pos c, if_neg (show ¬ (1 : Int32) = 0 by decide), hr]
      have q : (3 : Int32) ≤ nI (p - s) ↔ 3 ≤ p - s := nI_leI (a := 3) (by decide) (by omega)
      by_cases c3 : 3 ≤ p - s
      · rw [if_pos (q.mpr c3), bnd_e, nI_1]
        have f1 : FrK (fun y => y = 6 ∨ y = 8 ∨ y = 9) I (up2 I 13 6 (nI (p + 1))) := FrK.up (Or.inl rfl)
        obtain ⟨I1, e1, e2, e3, e4, e5⟩ := figX hs d (p + 1) fu (up2 I 13 6 (nI (p + 1))) v (by omega) (by omega) (by omega) (hb.fr f1 (by omega)) (by simp [up2_r]) (by simp [up2_r, h7]) (by simp [up2_r, h9])
        exact ⟨I1, e1, e2, e3, fun z => absurd z (by omega), f1.tr e5⟩
      · rw [if_neg (fun z => c3 (q.mp z)), bnd_e, bnd_e]
        have n6 : up2 I 13 9 (10 * v + b p - 48) 13 6 = nI p := by simp [up2_r, h6]
        rw [n6, nI_1]
        have f1 : FrK (fun y => y = 6 ∨ y = 8 ∨ y = 9) I (up2 (up2 I 13 9 (10 * v + b p - 48)) 13 6 (nI (p + 1))) := (FrK.up (Or.inr (Or.inr rfl))).tr (FrK.up (Or.inl rfl))
        obtain ⟨I1, e1, e2, e3, e4, e5⟩ := figX hs d (p + 1) fu _ (10 * v + b p - 48) (by omega) (by omega) (by omega) (hb.fr f1 (by omega)) (by simp [up2_r]) (by simp [up2_r, h7]) (by simp [up2_r])
        refine ⟨I1, e1, e2, e3, fun z => ?_, f1.tr e5⟩
        rw [e4 z, show rnA b 2 d (p + 1) - p = (rnA b 2 d (p + 1) - (p + 1)) + 1 by omega]
        rfl
    · have hr : rnA b 2 (d + 1) p = p := if_neg c
      rw [if_neg c, if_pos rfl, hr]
      have q : nI (p - s) ≤ 3 ↔ p - s ≤ 3 := nI_leI (b := 3) (by omega) (by decide)
      by_cases c3 : p - s ≤ 3
      · rw [if_pos (q.mpr c3), bnd_e]
        exact ⟨_, rfl, by simp [up2_r, h6], by simp [up2_r, c3], fun _ => by simp [up2_r, valA, h9], FrK.up (Or.inr (Or.inl rfl))⟩
      · rw [if_neg (fun z => c3 (q.mp z)), bnd_e]
        exact ⟨_, rfl, by simp [up2_r, h6], by simp [up2_r, c3], fun z => absurd z c3, FrK.up (Or.inr (Or.inl rfl))⟩
/-- the token taken last, of the class -/
def TkX (I : Mem) (b : Nat → Int32) (L f : Nat) (t : Nat × Nat) : Prop := BtX I b L ∧ t.1 ≤ t.2 ∧ t.2 ≤ L ∧ f ≤ 3 ∧ I 13 5 = nI f ∧ I 13 6 = nI t.2 ∧ I 13 7 = nI t.1 ∧ I 13 8 = srtA b L t.1 t.2 ∧ (srtA b L t.1 t.2 = 2 → I 13 9 = valA b (t.2 - t.1) t.1 0)
theorem takeX {I : Mem} {p : Nat} (hb : BtX I b L) (h5 : I 13 5 = 0) (hp : p ≤ L) (h6 : I 13 6 = nI p) : ∃ I1, fnX8_take I = some I1 ∧ TkX I1 b L 0 (tokA b L p) ∧ FrK s69 I I1 := by
  have h4 := hb.1
  unfold fnX8_take
  rw [if_pos h5]
  obtain ⟨I1, e1, e2, e3⟩ := skpX (L - p) p FU I (by omega) (by unfold FU; omega) hb h6
  obtain ⟨t1, t2, t3⟩ := tokA_le b hp
  rw [e1]
  show ∃ I1, _ ∧ TkX I1 b L 0 (skp b (L - p) p, endA b L (skp b (L - p) p)) ∧ _
  change p ≤ skp b (L - p) p at t1
  change skp b (L - p) p ≤ endA b L (skp b (L - p) p) at t2
  change endA b L (skp b (L - p) p) ≤ L at t3
  generalize hs : skp b (L - p) p = s at e2 t1 t2 t3
  have f1 : FrK s69 I I1 := e3.mo (fun y hy => by unfold s69; omega)
  unfold fnX8_take_47 fnX8_take_143 fnX8_take_156
  rw [e2, bnd_e, bnd_e]
  generalize hI2 : up2 (up2 I1 13 7 (nI s)) 13 9 0 = I2
  have f2 : FrK s69 I I2 := f1.tr (by rw [← hI2]; exact (FrK.up (by unfold s69; omega)).tr (FrK.up (by unfold s69; omega)))
  have r6 : I2 13 6 = nI s := by rw [← hI2]; simp [up2_r, e2]
  have r7 : I2 13 7 = nI s := by rw [← hI2]; simp [up2_r]
  have r9 : I2 13 9 = 0 := by rw [← hI2]; simp [up2_r]
  have hb2 := hb.fr f2 (by unfold s69; omega)
  have r5 : I2 13 5 = 0 := (f2.2 5 (by unfold s69; omega)).trans h5
  rw [r6, hb2.2.1]
  have q : nI s < nI L ↔ s < L := nI_ltI (by omega) (by omega)
  by_cases c : s < L
  · rw [if_pos (q.mpr c), inb_nI (show s < 400 by omega) (by decide), ck_t, ix_nI (by omega), hb2.2.2 s c, isLetter_e, ob_s]
    dsimp only
    rw [r6, inb_nI (show s < 400 by omega) (by decide), ix_nI (by omega), hb2.2.2 s c, isFigure_e]
    simp only [ob_s, ck_t]
    rw [r6, ix_nI (by omega), inb_nI (show s < 400 by omega) (by decide), hb2.2.2 s c]
    rcases so_c (b s) with k | k | k
    · rw [k, show (if (0 : Nat) = 1 then (1 : Int32) else 0) = 0 from rfl, if_pos rfl, show (if (0 : Nat) = 2 then (1 : Int32) else 0) = 0 from rfl, if_pos rfl, ck_t]
      have he : endA b L s = s + 1 := by unfold endA; rw [if_pos c, if_pos k]
      have fin : ∀ t : Int32, srtA b L s (s + 1) = t → t ≠ 2 → ∃ I3, bnd (up2 I2 13 8 t) (fun I1 => bnd (up2 I1 13 6 (I1 13 6 + 1)) fun I2 => some I2) = some I3 ∧ TkX I3 b L 0 (s, endA b L s) ∧ FrK s69 I I3 := fun t ht hne => by
        rw [bnd_e, bnd_e, show up2 I2 13 8 t 13 6 = nI s by simp [up2_r, r6], nI_1, he]
        have f3 : FrK s69 I2 (up2 (up2 I2 13 8 t) 13 6 (nI (s + 1))) := (FrK.up (by unfold s69; omega)).tr (FrK.up (by unfold s69; omega))
        exact ⟨_, rfl, ⟨hb2.fr f3 (by unfold s69; omega), by show s ≤ s + 1; omega, by show s + 1 ≤ L; omega, by omega, by simp [up2_r, r5]; rfl, by simp [up2_r], by simp [up2_r, r7], by simp [up2_r, ht], fun z => absurd (ht.symm.trans z) hne⟩, f2.tr f3⟩
      by_cases c59 : b s = 59
      · rw [if_pos c59]
        exact fin 3 (by unfold srtA; rw [if_pos c, k, if_neg (by decide), if_neg (by decide), if_pos c59]) (by decide)
      · rw [if_neg c59]
        exact fin 4 (by unfold srtA; rw [if_pos c, k, if_neg (by decide), if_neg (by decide), if_neg c59]) (by decide)
    · rw [k, if_pos rfl, if_neg (show ¬ (1 : Int32) = 0 by decide)]
      have he : endA b L s = rnA b 1 (L - s) s := by unfold endA; rw [if_pos c, k, if_neg (by decide)]
      obtain ⟨I3, g1, g2, g3, g4⟩ := nameX (L - s) s FU I2 (by omega) (by unfold FU; omega) hb2 r6
      unfold fnX8_takeName
      rw [g1, ob_s, he]
      rw [he] at t2 t3
      have hsr : srtA b L s (rnA b 1 (L - s) s) = 1 := by unfold srtA; rw [if_pos c, if_pos k]
      refine ⟨I3, rfl, ⟨hb2.fr g4 (by omega), t2, t3, by omega, (g4.2 5 (by omega)).trans r5, g2, (g4.2 7 (by omega)).trans r7, g3.trans hsr.symm, fun z => absurd (hsr.symm.trans z) (by decide)⟩, f2.tr (g4.mo (fun y hy => by unfold s69; omega))⟩
    · rw [k, show (if (2 : Nat) = 1 then (1 : Int32) else 0) = 0 from rfl, if_pos rfl, show (if (2 : Nat) = 2 then (1 : Int32) else 0) = 1 from rfl, if_neg (show ¬ (1 : Int32) = 0 by decide)]
      have he : endA b L s = rnA b 2 (L - s) s := by unfold endA; rw [if_pos c, k, if_neg (by decide)]
      obtain ⟨I3, g1, g2, g3, g5, g4⟩ := figX c (L - s) s FU I2 0 (by omega) (by omega) (by unfold FU; omega) hb2 r6 r7 r9
      unfold fnX8_takeFigures
      rw [g1, ob_s, he]
      rw [he] at t2 t3
      have hsr : srtA b L s (rnA b 2 (L - s) s) = if rnA b 2 (L - s) s - s ≤ 3 then 2 else 4 := by unfold srtA; rw [if_pos c, k, if_neg (by decide), if_pos rfl]
      refine ⟨I3, rfl, ⟨hb2.fr g4 (by omega), t2, t3, by omega, (g4.2 5 (by omega)).trans r5, g2, (g4.2 7 (by omega)).trans r7, g3.trans hsr.symm, fun z => g5 ?_⟩, f2.tr (g4.mo (fun y hy => by unfold s69; omega))⟩
      by_cases c3 : rnA b 2 (L - s) s - s ≤ 3
      · exact c3
      · have z2 := hsr.symm.trans z
        rw [if_neg c3] at z2
        exact absurd z2 (by decide)
  · rw [if_neg (fun z => c (q.mp z)), bnd_e]
    have he : endA b L s = s := if_neg c
    rw [he]
    rw [he] at t2 t3
    have hsr : srtA b L s s = 0 := if_neg c
    have f3 : FrK s69 I2 (up2 I2 13 8 0) := FrK.up (by unfold s69; omega)
    exact ⟨_, rfl, ⟨hb2.fr f3 (by unfold s69; omega), t2, t3, by omega, by simp [up2_r, r5]; rfl, by simp [up2_r, r6], by simp [up2_r, r7], by simp [up2_r, hsr], fun z => absurd (hsr.symm.trans z) (by decide)⟩, f2.tr f3⟩
end
