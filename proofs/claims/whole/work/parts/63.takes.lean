/-! the class's reading: numbers, kinds, cells -/
def s59 (y : Nat) : Prop := 5 ≤ y ∧ y ≤ 9
def vlA (b : Nat → Int32) (t : Nat × Nat) : Int32 := valA b (t.2 - t.1) t.1 0
def vN (b : Nat → Int32) (t : Nat × Nat) : Nat := (vlA b t).toInt.toNat
def numF (b : Nat → Int32) (L lo hi : Nat) (t : Nat × Nat) : Nat := if t.1 < L ∧ so (b t.1) = 2 ∧ t.2 - t.1 ≤ 3 then (if (lo : Int) ≤ (vlA b t).toInt ∧ (vlA b t).toInt ≤ (hi : Int) then 0 else 2) else 1
def semF (b : Nat → Int32) (L : Nat) (t : Nat × Nat) : Nat := if t.1 < L ∧ b t.1 = 59 then 0 else 1
def kndA (b : Nat → Int32) (t : Nat × Nat) : Nat := if nmA b 3 t then 1 else if nmA b 4 t then 2 else if nmA b 5 t then 3 else if nmA b 6 t then 4 else if nmA b 7 t then 5 else 0
theorem kndA_le (b : Nat → Int32) (t : Nat × Nat) : kndA b t ≤ 5 := by
  unfold kndA
  repeat' split
  all_goals omega
theorem numF_le (b : Nat → Int32) (L lo hi : Nat) (t : Nat × Nat) : numF b L lo hi t ≤ 2 := by
  unfold numF
  repeat' split
  all_goals omega
theorem numF_0 {b : Nat → Int32} {L lo hi : Nat} {t : Nat × Nat} (h : numF b L lo hi t = 0) (hh : hi < 2 ^ 31) : lo ≤ vN b t ∧ vN b t ≤ hi ∧ vlA b t = nI (vN b t) := by
  unfold numF at h
  by_cases c : t.1 < L ∧ so (b t.1) = 2 ∧ t.2 - t.1 ≤ 3
  · rw [if_pos c] at h
    by_cases c2 : (lo : Int) ≤ (vlA b t).toInt ∧ (vlA b t).toInt ≤ (hi : Int)
    · obtain ⟨j, hj, e⟩ := nI_of (x := vlA b t) (by rw [lt0_iff]; omega)
      unfold vN
      rw [e, nI_toInt hj] at c2 ⊢
      exact ⟨by omega, by omega, by simp⟩
    · rw [if_neg c2] at h; cases h
  · rw [if_neg c] at h; cases h
section
variable {b : Nat → Int32} {L : Nat} {I : Mem} {f : Nat} {t : Nat × Nat}
theorem TkX_f (h : TkX I b L f t) {g : Nat} (hg : g ≤ 3) : TkX (up2 I 13 5 (nI g)) b L g t := by
  obtain ⟨hb, hst, heL, h3, h5, h6, h7, h8, h9⟩ := h
  have fr : FrK (fun y => y = 5) I (up2 I 13 5 (nI g)) := FrK.up rfl
  exact ⟨hb.fr fr (by omega), hst, heL, hg, by simp [up2_r], (fr.2 6 (by omega)).trans h6, (fr.2 7 (by omega)).trans h7, (fr.2 8 (by omega)).trans h8, fun z => (fr.2 9 (by omega)).trans (h9 z)⟩
theorem TkX_fr {I1 : Mem} (h : TkX I b L f t) (h14 : I1 14 = I 14) (h13 : ∀ y, y = 1 ∨ (5 ≤ y ∧ y ≤ 9) → I1 13 y = I 13 y) : TkX I1 b L f t := by
  obtain ⟨hb, hst, heL, h3, h5, h6, h7, h8, h9⟩ := h
  exact ⟨⟨hb.1, (h13 1 (by omega)).trans hb.2.1, fun j hj => by rw [h14]; exact hb.2.2 j hj⟩, hst, heL, h3, (h13 5 (by omega)).trans h5, (h13 6 (by omega)).trans h6, (h13 7 (by omega)).trans h7, (h13 8 (by omega)).trans h8, fun z => (h13 9 (by omega)).trans (h9 z)⟩
theorem f5 (h : TkX I b L f t) (hf : f ≠ 0) : ¬ I 13 5 = 0 := by
  rw [h.2.2.2.2.1]
  exact nz (by have := h.2.2.2.1; omega) hf
/-- once there is a fault nothing more is taken -/
theorem fT (h : TkX I b L f t) (hf : f ≠ 0) : fnX8_take I = some I := by
  unfold fnX8_take
  rw [h.2.2.2.2.1, if_neg (nz (by have := h.2.2.2.1; omega) hf)]
theorem fD (h : TkX I b L f t) (hf : f ≠ 0) (p : Int32) : fnX8_demand I p = some I := by
  unfold fnX8_demand fnX8_demand_16
  rw [h.2.2.2.2.1, if_neg (nz (by have := h.2.2.2.1; omega) hf)]
theorem d1 (I : Mem) : fnX8_demand I 1 = some I := by
  unfold fnX8_demand fnX8_demand_16
  rw [if_neg (show ¬ (1 : Int32) = 0 by decide)]
  split <;> rfl
theorem d0 (h : TkX I b L 0 t) : fnX8_demand I 0 = some (up2 I 13 5 (nI 1)) := by
  unfold fnX8_demand fnX8_demand_16
  rw [h.2.2.2.2.1, if_pos (show nI 0 = 0 from rfl), if_pos rfl]
  rfl
theorem fN (h : TkX I b L f t) (hf : f ≠ 0) (lo hi : Int32) : fnX8_takeNumber I lo hi = some (I 13 9, I) := by
  unfold fnX8_takeNumber fnX8_takeNumber_18 fnX8_takeNumber_49
  rw [fT h hf, ob_s, fD h hf, fD h hf, ob_s]
  simp only [if_neg (f5 h hf)]
  split <;> rfl
theorem fS (h : TkX I b L f t) (hf : f ≠ 0) : fnX8_takeSemicolon I = some I := by
  unfold fnX8_takeSemicolon fnX8_takeSemicolon_18
  rw [fT h hf, ob_s, fD h hf, fD h hf, ob_s]
  split <;> rfl
theorem fC (h : TkX I b L f t) (hf : f ≠ 0) : ∃ v, fnX8_takeFreeCell I = some (v, I) := by
  unfold fnX8_takeFreeCell fnX8_takeFreeCell_46
  rw [fN h hf, ob_s]
  dsimp only
  rw [fN h hf, ob_s]
  dsimp only
  rw [bnd_e, if_neg (f5 h hf)]
  exact ⟨_, rfl⟩
theorem namesX (h : TkX I b L f t) : ∀ (t70 : Mem → Int32 → Option (Int32 × Mem)), (ob (fnX8_isName 3 I) fun ⟨r5, I4⟩ => if r5 = 0 then (ob (fnX8_isName 4 I4) fun ⟨r9, I8⟩ => if r9 = 0 then (ob (fnX8_isName 5 I8) fun ⟨r13, I12⟩ => if r13 = 0 then (ob (fnX8_isName 6 I12) fun ⟨r17, I16⟩ => if r17 = 0 then (ob (fnX8_isName 7 I16) fun ⟨r21, I20⟩ => if r21 = 0 then (t70 I20 0) else (t70 I20 5)) else (t70 I16 4)) else (t70 I12 3)) else (t70 I8 2)) else (t70 I4 1)) = t70 I (nI (kndA b t)) := fun t70 => by
  have e1 : ¬ (1 : Int32) = 0 := by decide
  unfold kndA
  simp only [isName_e h (show 3 < 8 by omega), isName_e h (show 4 < 8 by omega), isName_e h (show 5 < 8 by omega), isName_e h (show 6 < 8 by omega), isName_e h (show 7 < 8 by omega), ob_s]
  by_cases c3 : nmA b 3 t = true
  · simp only [if_pos c3, if_neg e1]; rfl
  simp only [if_neg c3, if_true]
  by_cases c4 : nmA b 4 t = true
  · simp only [if_pos c4, if_neg e1]; rfl
  simp only [if_neg c4, if_true]
  by_cases c5 : nmA b 5 t = true
  · simp only [if_pos c5, if_neg e1]; rfl
  simp only [if_neg c5, if_true]
  by_cases c6 : nmA b 6 t = true
  · simp only [if_pos c6, if_neg e1]; rfl
  simp only [if_neg c6, if_true]
  by_cases c7 : nmA b 7 t = true
  · simp only [if_pos c7, if_neg e1]; rfl
  simp only [if_neg c7, if_true]
  rfl
theorem fK (h : TkX I b L f t) (hf : f ≠ 0) : ∃ v, fnX8_takeKind I = some (v, I) := by
  unfold fnX8_takeKind
  rw [fT h hf, ob_s, namesX h]
  unfold fnX8_takeKind_70 fnX8_takeKind_81
  rw [fD h hf, fD h hf, ob_s]
  split <;> exact ⟨_, rfl⟩
theorem srt_2 {s e : Nat} : srtA b L s e = 2 ↔ s < L ∧ so (b s) = 2 ∧ e - s ≤ 3 := by
  unfold srtA
  by_cases c : s < L
  · rw [if_pos c]
    by_cases c1 : so (b s) = 1
    · rw [if_pos c1]
      exact ⟨fun q => absurd q (by decide), fun q => by omega⟩
    · rw [if_neg c1]
      by_cases c2 : so (b s) = 2
      · rw [if_pos c2]
        by_cases c3 : e - s ≤ 3
        · rw [if_pos c3]
          exact ⟨fun _ => ⟨c, c2, c3⟩, fun _ => rfl⟩
        · rw [if_neg c3]
          exact ⟨fun q => absurd q (by decide), fun q => absurd q.2.2 c3⟩
      · rw [if_neg c2]
        exact ⟨fun q => absurd q (by split <;> decide), fun q => absurd q.2.1 c2⟩
  · rw [if_neg c]
    exact ⟨fun q => absurd q (by decide), fun q => absurd q.1 c⟩
theorem srt_3 {s e : Nat} : srtA b L s e = 3 ↔ s < L ∧ b s = 59 := by
  unfold srtA
  by_cases c : s < L
  · rw [if_pos c]
    by_cases c59 : b s = 59
    · rw [c59, show so 59 = 0 from rfl, if_neg (by decide), if_neg (by decide), if_pos rfl]
      exact ⟨fun _ => ⟨c, rfl⟩, fun _ => rfl⟩
    · rw [if_neg c59]
      refine ⟨fun q => absurd q ?_, fun q => absurd q.2 c59⟩
      repeat' split
      all_goals decide
  · rw [if_neg c]
    exact ⟨fun q => absurd q (by decide), fun q => absurd q.1 c⟩
theorem srt_0 {s e : Nat} : srtA b L s e = 0 ↔ ¬ s < L := by
  unfold srtA
  by_cases c : s < L
  · rw [if_pos c]
    refine ⟨fun q => absurd q ?_, fun q => absurd c q⟩
    repeat' split
    all_goals decide
  · rw [if_neg c]
    exact ⟨fun _ => c, fun _ => rfl⟩
theorem TkX.le (h : TkX I b L f t) : t.2 ≤ L := h.2.2.1
theorem tkx (h : TkX I b L 0 t) : ∃ I1, fnX8_take I = some I1 ∧ TkX I1 b L 0 (tokA b L t.2) ∧ FrK s69 I I1 := takeX h.1 (h.2.2.2.2.1) h.2.2.1 h.2.2.2.2.2.1
theorem s6959 : ∀ y, s69 y → s59 y := fun y h => by unfold s69 at h; unfold s59; omega
theorem numX (h : TkX I b L 0 t) {lo hi : Nat} (hl : lo < 1000) (hh : hi < 1000) : ∃ r I1, fnX8_takeNumber I (nI lo) (nI hi) = some (r, I1) ∧ TkX I1 b L (numF b L lo hi (tokA b L t.2)) (tokA b L t.2) ∧ (numF b L lo hi (tokA b L t.2) = 0 → r = nI (vN b (tokA b L t.2))) ∧ FrK s59 I I1 := by
  obtain ⟨I1, a1, a2, a3⟩ := tkx h
  generalize tokA b L t.2 = u at a2
  have fr := a3.mo s6959
  unfold fnX8_takeNumber fnX8_takeNumber_18 fnX8_takeNumber_44 fnX8_takeNumber_49
  rw [a1, ob_s, a2.2.2.2.2.2.2.2.1]
  have b1 := lt_int (vlA b u) (nI lo)
  have b2 := le_int (vlA b u) (nI hi)
  rw [nI_toInt (by omega)] at b1 b2
  by_cases c : srtA b L u.1 u.2 = 2
  · have hv : I1 13 9 = vlA b u := a2.2.2.2.2.2.2.2.2 c
    have hc := srt_2.mp c
    rw [if_pos c, d1, ob_s, a2.2.2.2.2.1, if_pos (show nI 0 = 0 from rfl), hv, bnd_e]
    by_cases cr : (lo : Int) ≤ (vlA b u).toInt ∧ (vlA b u).toInt ≤ (hi : Int)
    · have hn : numF b L lo hi u = 0 := by unfold numF; rw [if_pos hc, if_pos cr]
      rw [if_neg (by rw [b1]; omega), if_pos (by rw [b2]; omega), hn]
      exact ⟨_, I1, rfl, a2, fun _ => (numF_0 hn (by omega)).2.2, fr⟩
    · have hn : numF b L lo hi u = 2 := by unfold numF; rw [if_pos hc, if_neg cr]
      rw [hn]
      have e : (if vlA b u < nI lo then some (up2 I1 13 5 2 13 9, up2 I1 13 5 2) else if vlA b u ≤ nI hi then some (vlA b u, I1) else some (up2 I1 13 5 2 13 9, up2 I1 13 5 2)) = some (up2 I1 13 5 2 13 9, up2 I1 13 5 2) := by
        by_cases k1 : vlA b u < nI lo
        · rw [if_pos k1]
        · rw [if_neg k1, if_neg (by rw [b2]; rw [b1] at k1; omega)]
      rw [e]
      exact ⟨_, _, rfl, TkX_f a2 (g := 2) (by omega), (fun q => by cases q), fr.tr (FrK.up (by unfold s59; omega))⟩
  · have hc : ¬ (u.1 < L ∧ so (b u.1) = 2 ∧ u.2 - u.1 ≤ 3) := fun q => c (srt_2.mpr q)
    have hn : numF b L lo hi u = 1 := by unfold numF; rw [if_neg hc]
    rw [if_neg c, d0 a2, ob_s, show up2 I1 13 5 (nI 1) 13 5 = 1 by simp [up2_r]; rfl, if_neg (by decide), hn]
    exact ⟨_, _, rfl, TkX_f a2 (by omega), (fun q => by cases q), fr.tr (FrK.up (by unfold s59; omega))⟩
theorem semX (h : TkX I b L 0 t) : ∃ I1, fnX8_takeSemicolon I = some I1 ∧ TkX I1 b L (semF b L (tokA b L t.2)) (tokA b L t.2) ∧ FrK s59 I I1 := by
  obtain ⟨I1, a1, a2, a3⟩ := tkx h
  generalize tokA b L t.2 = u at a2
  have fr := a3.mo s6959
  unfold fnX8_takeSemicolon fnX8_takeSemicolon_18
  rw [a1, ob_s, a2.2.2.2.2.2.2.2.1]
  by_cases c : srtA b L u.1 u.2 = 3
  · have hn : semF b L u = 0 := if_pos (srt_3.mp c)
    rw [if_pos c, d1, ob_s, hn]
    exact ⟨I1, rfl, a2, fr⟩
  · have hn : semF b L u = 1 := if_neg (fun q => c (srt_3.mpr q))
    rw [if_neg c, d0 a2, ob_s, hn]
    exact ⟨_, rfl, TkX_f a2 (by omega), fr.tr (FrK.up (by unfold s59; omega))⟩
theorem kndX (h : TkX I b L 0 t) : ∃ I1, fnX8_takeKind I = some (nI (kndA b (tokA b L t.2)), I1) ∧ TkX I1 b L (if kndA b (tokA b L t.2) = 0 then 1 else 0) (tokA b L t.2) ∧ FrK s59 I I1 := by
  obtain ⟨I1, a1, a2, a3⟩ := tkx h
  generalize tokA b L t.2 = u at a2
  have fr := a3.mo s6959
  have k5 := kndA_le b u
  unfold fnX8_takeKind
  rw [a1, ob_s, namesX a2]
  unfold fnX8_takeKind_70 fnX8_takeKind_81
  by_cases c : kndA b u = 0
  · rw [if_pos (show nI (kndA b u) = 0 by rw [c]; rfl), d0 a2, ob_s, if_pos c]
    exact ⟨_, rfl, TkX_f a2 (by omega), fr.tr (FrK.up (by unfold s59; omega))⟩
  · rw [if_neg (nz (by omega) c), d1, ob_s, if_neg c]
    exact ⟨_, rfl, a2, fr⟩
def celA (b : Nat → Int32) (L : Nat) (τ : Tb) (t : Nat × Nat) : Nat × (Nat × Nat) × Nat :=
  let t1 := tokA b L t.2
  if numF b L 0 6 t1 ≠ 0 then (numF b L 0 6 t1, t1, 0) else
    let t2 := tokA b L t1.2
    if numF b L 0 5 t2 ≠ 0 then (numF b L 0 5 t2, t2, 0) else
      if pinOf τ (7 * vN b t2 + vN b t1) = none then (0, t2, 7 * vN b t2 + vN b t1) else (2, t2, 0)
theorem celX {τ : Tb} (hT : Tok τ) (h : TkX I b L 0 t) (hd : TabX I 15 τ) : ∃ r I1, fnX8_takeFreeCell I = some (r, I1) ∧ TkX I1 b L (celA b L τ t).1 (celA b L τ t).2.1 ∧ ((celA b L τ t).1 = 0 → r = nI (celA b L τ t).2.2 ∧ (celA b L τ t).2.2 < 42 ∧ pinOf τ (celA b L τ t).2.2 = none) ∧ FrK s59 I I1 := by
  obtain ⟨r1, I1, a1, a2, a3, a4⟩ := numX h (lo := 0) (hi := 6) (by omega) (by omega)
  unfold fnX8_takeFreeCell fnX8_takeFreeCell_46
  rw [show (0 : Int32) = nI 0 from rfl, show (6 : Int32) = nI 6 from rfl, a1, ob_s]
  dsimp only
  unfold celA
  generalize tokA b L t.2 = t1 at a2 a3
  dsimp only
  by_cases c1 : numF b L 0 6 t1 = 0
  · rw [if_neg (show ¬ numF b L 0 6 t1 ≠ 0 from fun q => q c1)]
    rw [c1] at a2
    obtain ⟨r2, I2, b1, b2, b3, b4⟩ := numX a2 (lo := 0) (hi := 5) (by omega) (by omega)
    rw [show (5 : Int32) = nI 5 from rfl, b1, ob_s]
    dsimp only
    generalize tokA b L t1.2 = t2 at b2 b3
    have fr := a4.tr b4
    by_cases c2 : numF b L 0 5 t2 = 0
    · rw [if_neg (show ¬ numF b L 0 5 t2 ≠ 0 from fun q => q c2)]
      rw [c2] at b2
      have v1 := numF_0 c1 (by omega)
      have v2 := numF_0 c2 (by omega)
      have hc : 7 * vN b t2 + vN b t1 < 42 := by omega
      have td : TabX I2 15 τ := TabX_ag hd (fun x _ _ => fr.1 x (by omega))
      rw [bnd_e, a3 c1, b3 c2, show (7 : Int32) = nI 7 from rfl, pk_mul, nI_add, if_pos (show I2 13 5 = nI 0 from b2.2.2.2.2.1), pinIn_e td hc, ob_s]
      dsimp only
      have oI := onI_none (pin42 hT (c := 7 * vN b t2 + vN b t1))
      by_cases cp : pinOf τ (7 * vN b t2 + vN b t1) = none
      · rw [if_pos (oI.mpr cp), if_pos cp]
        exact ⟨_, _, rfl, b2, fun _ => ⟨rfl, hc, cp⟩, fr⟩
      · rw [if_neg (fun q => cp (oI.mp q)), if_neg cp]
        exact ⟨_, _, rfl, TkX_f b2 (g := 2) (by omega), (fun q => by cases q), fr.tr (FrK.up (by unfold s59; omega))⟩
    · rw [if_pos (show numF b L 0 5 t2 ≠ 0 from c2), bnd_e, if_neg (show ¬ I2 13 5 = nI 0 from f5 b2 c2)]
      exact ⟨_, _, rfl, b2, fun q => absurd q c2, fr⟩
  · rw [if_pos (show numF b L 0 6 t1 ≠ 0 from c1), fN a2 c1, ob_s]
    dsimp only
    rw [bnd_e, if_neg (show ¬ I1 13 5 = nI 0 from f5 a2 c1)]
    exact ⟨_, _, rfl, a2, fun q => absurd q c1, a4⟩
end
