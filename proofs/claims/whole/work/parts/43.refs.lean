theorem strike_e {I : Mem} {b p : Nat} {τ : Tb} {π : Pl} (hT : Tok τ) (hp : p < tn τ) (hb : b = 0 ∨ b = 123) (h1 : TabM I τ) (h2 : PlM I b π) (ok : Pok τ π) : ∃ I1, fnX10_strike I (nI b) (nI p) = some I1 ∧ PlM I1 b (strikeA τ p π) ∧ FrM b I I1 := by
  obtain ⟨c, w, lost, sh, score, lit, g, steps, st⟩ := π
  have h6 := hT.2.1
  have hp6 : p < 6 := Nat.lt_of_lt_of_le hp hT.2.1
  have hb2 : b + 41 ≤ 164 := by omega
  have hg := g64 hT ok.2.2.2.2
  simp only at hg
  have w4 : w < 4 := ok.2.1
  obtain ⟨k1, k2, k3, k4, k5⟩ := hT.2.2.1 p hp
  obtain ⟨e1, e2, e3, e4⟩ := h1.2.2 p hp
  obtain ⟨q0, q1, q2, q3, q4, q5, q6, q7, q8⟩ := h2
  simp only at q0 q1 q2 q3 q4 q5 q6 q7 q8
  have a28 : nI b + 28 = nI (b + 28) := nI_add b 28
  have a31 : nI b + 31 = nI (b + 31) := nI_add b 31
  have a32 : nI b + 32 = nI (b + 32) := nI_add b 32
  have a34 : nI b + 34 = nI (b + 34) := nI_add b 34
  have a35 : nI b + 35 + nI p = nI (b + 35 + p) := by rw [show nI b + 35 = nI (b + 35) from nI_add b 35, nI_add]
  have a5 : (3 : Int32) + 4 * nI p + 2 = nI (5 + 4 * p) := by rw [i34, show (2 : Int32) = nI 2 from rfl, nI_add]; congr 1; omega
  have a6 : (3 : Int32) + 4 * nI p + 3 = nI (6 + 4 * p) := by rw [i34, show nI (3 + 4 * p) + 3 = nI (3 + 4 * p) + nI 3 from rfl, nI_add]; congr 1; omega
  have fin : ∀ sc : Int32, ∀ t3 : Int32, score + t3 = sc → ∃ I1, fnX10_strike_52 I (nI b) (nI p) (nI (tle τ p)) (nI (b + 31)) score t3 = some I1 ∧ PlM I1 b (c, (w + turnsA (tkd τ p) g p) % 4, lost, sh, sc, nI (tle τ p), (if tkd τ p = 5 then g ^^^ 2 ^ p else g), steps, upd st p (st p + 1)) ∧ FrM b I I1 := by
    intro sc t3 hsc
    unfold fnX10_strike_52
    simp only [a28, a32, a34, a35, bnd_e, hsc]
    rw [inb_nI (show b + 31 < 164 by omega) (by decide), ck_t, inb_nI (show b + 32 < 164 by omega) (by decide), ck_t, inb_nI (show b + 35 + p < 164 by omega) (by decide), ck_t, ck_t, inb_nI (show b + 28 < 164 by omega) (by decide), ck_t, ix_nI (show b + 31 < 2 ^ 31 by omega), ix_nI (show b + 32 < 2 ^ 31 by omega), ix_nI (show b + 35 + p < 2 ^ 31 by omega), ix_nI (show b + 28 < 2 ^ 31 by omega)]
    generalize hI7 : up2 (up2 (up2 I 112 (b + 31) sc) 112 (b + 32) (nI (tle τ p))) 112 (b + 35 + p) (up2 (up2 I 112 (b + 31) sc) 112 (b + 32) (nI (tle τ p)) 112 (b + 35 + p) + 1) = I7
    have f7 : FrM b I I7 := by
      rw [← hI7]
      exact ((FrM.p (by omega) (by omega)).tr (FrM.p (by omega) (by omega))).tr (FrM.p (by omega) (by omega))
    have r27 : I7 112 (b + 27) = nI c := by rw [← hI7]; simp [up2_r, q0]; omega
    have r28 : I7 112 (b + 28) = nI w := by rw [← hI7]; simp [up2_r, q1]; omega
    have r29 : I7 112 (b + 29) = nI lost := by rw [← hI7]; simp [up2_r, q2]; omega
    have r30 : I7 112 (b + 30) = nI sh := by rw [← hI7]; simp [up2_r, q3]; omega
    have r31 : I7 112 (b + 31) = sc := by rw [← hI7, up2_r, if_neg (by omega), up2_r, if_neg (by omega), up2_r, if_pos ⟨rfl, rfl⟩]
    have r32 : I7 112 (b + 32) = nI (tle τ p) := by rw [← hI7, up2_r, if_neg (by omega), up2_r, if_pos ⟨rfl, rfl⟩]
    have r33 : I7 112 (b + 33) = steps := by rw [← hI7, up2_r, if_neg (by omega), up2_r, if_neg (by omega), up2_r, if_neg (by omega), q7]
    have r34 : I7 112 (b + 34) = nI g := by rw [← hI7, up2_r, if_neg (by omega), up2_r, if_neg (by omega), up2_r, if_neg (by omega), q6]
    have r35 : ∀ i, i < 6 → I7 112 (b + 35 + i) = upd st p (st p + 1) i := fun i hi => by
      rw [← hI7, up2_r]
      by_cases hip : i = p
      · subst hip
        rw [if_pos ⟨rfl, rfl⟩, up2_r, if_neg (by omega), up2_r, if_neg (by omega), q8 i hi]
        simp [upd]
      · rw [if_neg (by omega), up2_r, if_neg (by omega), up2_r, if_neg (by omega), q8 i hi]
        simp [upd, hip]
    rw [turns_e hT (TabM_fr hT h1 f7) hp hb2 r34 hg, ob_s, r28, turnI_e w w4 _ (turnsA_lt _ _ _)]
    simp only [ck_t, ix_nI (show b + 28 < 2 ^ 31 by omega)]
    rw [inb_nI (show b + 34 < 164 by omega) (by decide), ck_t, i34, inb_nI (show 3 + 4 * p < 164 by omega) (by decide), ck_t, ix_nI (show 3 + 4 * p < 2 ^ 31 by omega), ix_nI (show b + 34 < 2 ^ 31 by omega)]
    have s3 : up2 I7 112 (b + 28) (nI ((w + turnsA (tkd τ p) g p) % 4)) 112 (3 + 4 * p) = nI (tkd τ p) := by
      rcases Nat.lt_or_ge p 6 with _ | _
      · rw [up2_r, if_neg (by omega), f7.2 _ (by omega)]; exact e1
      · omega
    have s34 : up2 I7 112 (b + 28) (nI ((w + turnsA (tkd τ p) g p) % 4)) 112 (b + 34) = nI g := by rw [up2_r, if_neg (by omega), r34]
    rw [s3, s34]
    have hx := flipI_e g hg p hp6
    have out : ∀ g2 : Nat, ∃ I1, fnX10_strike_137 (up2 I7 112 (b + 28) (nI ((w + turnsA (tkd τ p) g p) % 4))) (nI (b + 34)) (nI g2) 0 = some I1 ∧ PlM I1 b (c, (w + turnsA (tkd τ p) g p) % 4, lost, sh, sc, nI (tle τ p), g2, steps, upd st p (st p + 1)) ∧ FrM b I I1 := by
      intro g2
      unfold fnX10_strike_137
      rw [inb_nI (show b + 34 < 164 by omega) (by decide), ck_t, ix_nI (show b + 34 < 2 ^ 31 by omega), bnd_e, show nI g2 ^^^ 0 = nI g2 by simp]
      refine ⟨_, rfl, ⟨?_, ?_, ?_, ?_, ?_, ?_, ?_, ?_, fun i hi => ?_⟩, (f7.tr (FrM.p (by omega) (by omega))).tr (FrM.p (by omega) (by omega))⟩
      · rw [up2_r, if_neg (by omega), up2_r, if_neg (by omega), r27]
      · rw [up2_r, if_neg (by omega), up2_r, if_pos ⟨rfl, rfl⟩]
      · rw [up2_r, if_neg (by omega), up2_r, if_neg (by omega), r29]
      · rw [up2_r, if_neg (by omega), up2_r, if_neg (by omega), r30]
      · rw [up2_r, if_neg (by omega), up2_r, if_neg (by omega), r31]
      · rw [up2_r, if_neg (by omega), up2_r, if_neg (by omega), r32]
      · rw [up2_r, if_pos ⟨rfl, rfl⟩]
      · rw [up2_r, if_neg (by omega), up2_r, if_neg (by omega), r33]
      · rw [up2_r, if_neg (by omega), up2_r, if_neg (by omega)]; exact r35 i hi
    by_cases c5 : tkd τ p = 5
    · rw [if_pos (by rw [c5]; rfl), if_pos c5]
      have := out (g ^^^ 2 ^ p)
      rw [← hx] at this
      unfold fnX10_strike_137 at this ⊢
      rw [show nI g ^^^ (1 : Int32) <<< (nI p &&& 31) ^^^ 0 = nI g ^^^ (1 : Int32) <<< (nI p &&& 31) by simp] at this
      exact this
    · rw [if_neg (show ¬ nI (tkd τ p) = 5 from fun q => c5 ((nI_eq (b := 5) (by omega) (by decide)).mp q)), if_neg c5]
      exact out g
  unfold fnX10_strike
  simp only [a5, a6, a31, a32, bnd_e]
  rw [inb_nI (show 5 + 4 * p < 164 by omega) (by decide), ck_t, inb_nI (show b + 31 < 164 by omega) (by decide), ck_t, inb_nI (show b + 32 < 164 by omega) (by decide), ck_t, inb_nI (show 6 + 4 * p < 164 by omega) (by decide), ck_t, ix_nI (show 5 + 4 * p < 2 ^ 31 by omega), ix_nI (show 6 + 4 * p < 2 ^ 31 by omega), ix_nI (show b + 31 < 2 ^ 31 by omega), ix_nI (show b + 32 < 2 ^ 31 by omega), e3, e4, q4, q5]
  have ss : strikeA τ p (c, w, lost, sh, score, lit, g, steps, st) = (c, (w + turnsA (tkd τ p) g p) % 4, lost, sh, (if lit = nI (tle τ p) then score else score + nI (tpa τ p)), nI (tle τ p), (if tkd τ p = 5 then g ^^^ 2 ^ p else g), steps, upd st p (st p + 1)) := rfl
  rw [ss]
  by_cases hl : lit = nI (tle τ p)
  · rw [if_pos hl, if_pos hl]
    exact fin score 0 (by simp)
  · rw [if_neg hl, if_neg hl]
    exact fin _ _ rfl
def xM (c w : Nat) : Int32 := irm (nI c) 7 + (if nI w = 1 then 1 else if nI w = 3 then -1 else 0)
def yM (c w : Nat) : Int32 := nI c / 7 + (if nI w = 0 then 1 else if nI w = 2 then -1 else 0)
theorem xyM_1 : ∀ c, c < 42 → ∀ w, w < 4 → (¬ 0 ≤ yM c w ↔ (w = 2 ∧ c < 7)) := by decide +kernel
theorem xyM_2 : ∀ c, c < 42 → ∀ w, w < 4 → ¬ (w = 2 ∧ c < 7) → ((upTo (xM c w) (nI 6) = 0 ∨ yM c w = 6) ↔ sideA c w = true) := by decide +kernel
theorem xyM_3 : ∀ c, c < 42 → ∀ w, w < 4 → ¬ (w = 2 ∧ c < 7) → sideA c w = false → (7 : Int32) * yM c w + xM c w = nI (goA c w) := by decide +kernel
theorem xyM_4 : ∀ w, w < 4 → irm (nI w + 2) 4 = nI ((w + 2) % 4) := by decide +kernel
/-- a STEP of the reference -/
theorem stepM_e {I : Mem} {b : Nat} {τ : Tb} {π : Pl} (hT : Tok τ) (hb : b = 0 ∨ b = 123) (h1 : TabM I τ) (h2 : PlM I b π) (ok : Pok τ π) : ∃ I1, fnX10_step I (nI b) = some (onM (stepA τ π).1, I1) ∧ PlM I1 b (stepA τ π).2 ∧ FrM b I I1 := by
  obtain ⟨c, w, lost, sh, score, lit, g, steps, st⟩ := π
  obtain ⟨b0, b1, b2, b3, b4⟩ := ok
  simp only at b0 b1 b2 b3 b4
  obtain ⟨q0, q1, q2, q3, q4, q5, q6, q7, q8⟩ := h2
  simp only at q0 q1 q2 q3 q4 q5 q6 q7 q8
  have m1 := xyM_1 c b0 w b1
  have m2 := xyM_2 c b0 w b1
  have m3 := xyM_3 c b0 w b1
  have m4 := xyM_4 w b1
  have a27 : nI b + 27 = nI (b + 27) := nI_add b 27
  have a28 : nI b + 28 = nI (b + 28) := nI_add b 28
  have a29 : nI b + 29 = nI (b + 29) := nI_add b 29
  have a30 : nI b + 30 = nI (b + 30) := nI_add b 30
  have a33 : nI b + 33 = nI (b + 33) := nI_add b 33
  have step103 : ∀ t3 : Int32, nI sh - t3 = nI (sh - 1) → ∃ I1, fnX10_step_103 I (nI b) (nI w) (xM c w) (yM c w) (nI (b + 30)) (nI sh) t3 = some (onM (stepA τ (c, w, lost, sh, score, lit, g, steps, st)).1, I1) ∧ PlM I1 b (stepA τ (c, w, lost, sh, score, lit, g, steps, st)).2 ∧ FrM b I I1 := by
    intro t3 ht3
    unfold fnX10_step_103
    simp only [a27, a29, a33, bnd_e, ht3]
    rw [inb_nI (show b + 30 < 164 by omega) (by decide), ck_t, inb_nI (show b + 33 < 164 by omega) (by decide), ck_t, ck_t, ix_nI (show b + 30 < 2 ^ 31 by omega), ix_nI (show b + 33 < 2 ^ 31 by omega)]
    generalize hI5 : up2 (up2 I 112 (b + 30) (nI (sh - 1))) 112 (b + 33) (up2 I 112 (b + 30) (nI (sh - 1)) 112 (b + 33) + 1) = I5
    have f5 : FrM b I I5 := by rw [← hI5]; exact (FrM.p (by omega) (by omega)).tr (FrM.p (by omega) (by omega))
    have p5 : PlM I5 b (c, w, lost, sh - 1, score, lit, g, steps + 1, st) := by
      rw [← hI5]
      refine ⟨?_, ?_, ?_, ?_, ?_, ?_, ?_, ?_, fun i hi => ?_⟩
      · rw [up2_r, if_neg (by omega), up2_r, if_neg (by omega), q0]
      · rw [up2_r, if_neg (by omega), up2_r, if_neg (by omega), q1]
      · rw [up2_r, if_neg (by omega), up2_r, if_neg (by omega), q2]
      · rw [up2_r, if_neg (by omega), up2_r, if_pos ⟨rfl, rfl⟩]
      · rw [up2_r, if_neg (by omega), up2_r, if_neg (by omega), q4]
      · rw [up2_r, if_neg (by omega), up2_r, if_neg (by omega), q5]
      · rw [up2_r, if_neg (by omega), up2_r, if_neg (by omega), q6]
      · rw [up2_r, if_pos ⟨rfl, rfl⟩, up2_r, if_neg (by omega), q7]
      · rw [up2_r, if_neg (by omega), up2_r, if_neg (by omega), q8 i hi]
    obtain ⟨n0, n1, n2, n3, n4, n5, n6, n7, n8⟩ := p5
    simp only at n0 n1 n2 n3 n4 n5 n6 n7 n8
    unfold stepA
    by_cases c1 : w = 2 ∧ c < 7
    · rw [if_neg (m1.mpr c1)]
      simp only [if_pos c1]
      rw [inb_nI (show b + 29 < 164 by omega) (by decide), ck_t, ix_nI (show b + 29 < 2 ^ 31 by omega)]
      refine ⟨_, rfl, ⟨?_, ?_, ?_, ?_, ?_, ?_, ?_, ?_, fun i hi => ?_⟩, f5.tr (FrM.p (by omega) (by omega))⟩
      · rw [up2_r, if_neg (by omega), n0]
      · rw [up2_r, if_neg (by omega), n1]
      · rw [up2_r, if_pos ⟨rfl, rfl⟩]; rfl
      · rw [up2_r, if_neg (by omega), n3]
      · rw [up2_r, if_neg (by omega), n4]
      · rw [up2_r, if_neg (by omega), n5]
      · rw [up2_r, if_neg (by omega), n6]
      · rw [up2_r, if_neg (by omega), n7]
      · rw [up2_r, if_neg (by omega), n8 i hi]
    · rw [if_pos (Decidable.of_not_not (fun q => c1 (m1.mp q)))]
      simp only [if_neg c1]
      rw [show (6 : Int64) = lN 6 from rfl, in_u I5 (xM c w) 6 (by decide), ob_s]
      have m2' := m2 c1
      have turned : ∃ I1, fnX10_step_155 I5 (nI b) (nI w) = some ((-1000000), I1) ∧ PlM I1 b (c, (w + 2) % 4, lost, sh - 1, score, lit, g, steps + 1, st) ∧ FrM b I I1 := by
        unfold fnX10_step_155
        simp only [a28, bnd_e, m4]
        rw [inb_nI (show b + 28 < 164 by omega) (by decide), ck_t, ix_nI (show b + 28 < 2 ^ 31 by omega)]
        refine ⟨_, rfl, ⟨?_, ?_, ?_, ?_, ?_, ?_, ?_, ?_, fun i hi => ?_⟩, f5.tr (FrM.p (by omega) (by omega))⟩
        · rw [up2_r, if_neg (by omega), n0]
        · rw [up2_r, if_pos ⟨rfl, rfl⟩]
        · rw [up2_r, if_neg (by omega), n2]
        · rw [up2_r, if_neg (by omega), n3]
        · rw [up2_r, if_neg (by omega), n4]
        · rw [up2_r, if_neg (by omega), n5]
        · rw [up2_r, if_neg (by omega), n6]
        · rw [up2_r, if_neg (by omega), n7]
        · rw [up2_r, if_neg (by omega), n8 i hi]
      by_cases c2 : sideA c w = true
      · simp only [c2, if_true]
        rcases m2'.mpr c2 with q | q
        · simp only [q]
          rw [if_pos trivial]
          exact turned
        · by_cases q0 : upTo (xM c w) (nI 6) = 0
          · simp only [q0]
            rw [if_pos trivial]
            exact turned
          · rw [if_neg q0, if_pos q]
            exact turned
      · have c2f : sideA c w = false := by simpa using c2
        have nn : ¬ (upTo (xM c w) (nI 6) = 0 ∨ yM c w = 6) := fun q => c2 (m2'.mp q)
        simp only [c2f, Bool.false_eq_true, if_false]
        rw [if_neg (show ¬ upTo (xM c w) (nI 6) = 0 from fun q => nn (Or.inl q)), if_neg (fun q => nn (Or.inr q)), m3 c1 c2f]
        have hg := goA_lt c b0 w b1 c1 c2f
        rw [inb_nI (show b + 27 < 164 by omega) (by decide), ck_t, ck_t, ix_nI (show b + 27 < 2 ^ 31 by omega)]
        have f6 : FrM b I (up2 I5 112 (b + 27) (nI (goA c w))) := f5.tr (FrM.p (by omega) (by omega))
        have t6 := TabM_fr hT h1 f6
        have p6 : PlM (up2 I5 112 (b + 27) (nI (goA c w))) b (goA c w, w, lost, sh - 1, score, lit, g, steps + 1, st) := by
          refine ⟨?_, ?_, ?_, ?_, ?_, ?_, ?_, ?_, fun i hi => ?_⟩
          · rw [up2_r, if_pos ⟨rfl, rfl⟩]
          · rw [up2_r, if_neg (by omega), n1]
          · rw [up2_r, if_neg (by omega), n2]
          · rw [up2_r, if_neg (by omega), n3]
          · rw [up2_r, if_neg (by omega), n4]
          · rw [up2_r, if_neg (by omega), n5]
          · rw [up2_r, if_neg (by omega), n6]
          · rw [up2_r, if_neg (by omega), n7]
          · rw [up2_r, if_neg (by omega), n8 i hi]
        rw [p6.1, pinAt_e hT t6 hg, ob_s]
        unfold fnX10_step_217
        dsimp only
        cases hp : pinOf τ (goA c w) with
        | none =>
          rw [if_pos (show onM none = -1000000 from rfl)]
          exact ⟨_, rfl, p6, f6⟩
        | some p =>
          have hpl := (pinOf_lt hp).1
          have hne : ¬ onM (some p) = -1000000 := fun q => by
            have h9 : (nI p).toInt = (-1000000 : Int32).toInt := congrArg Int32.toInt q
            rw [nI_toInt (by have := hT.2.1; omega)] at h9
            have h10 : (-1000000 : Int32).toInt = -1000000 := rfl
            omega
          obtain ⟨I9, k1, k2, k3⟩ := strike_e hT hpl hb t6 p6 ⟨hg, b1, b2, by show sh - 1 ≤ 23; omega, b4⟩
          rw [if_neg hne, show fnX10_strike _ _ (onM (some p)) = some I9 from k1, ob_s]
          exact ⟨_, rfl, k2, f6.tr k3⟩
  unfold fnX10_step
  simp only [a27, a28, bnd_e]
  rw [inb_nI (show b + 28 < 164 by omega) (by decide), ck_t, inb_nI (show b + 27 < 164 by omega) (by decide), ck_t, ix_nI (show b + 28 < 2 ^ 31 by omega), ix_nI (show b + 27 < 2 ^ 31 by omega), q0, q1]
  have k41 : (if nI w = 1 then fnX10_step_41 I (nI b) (nI w) (irm (nI c) 7) 1 else if nI w = 3 then fnX10_step_41 I (nI b) (nI w) (irm (nI c) 7) (-1) else fnX10_step_41 I (nI b) (nI w) (irm (nI c) 7) 0) = fnX10_step_41 I (nI b) (nI w) (irm (nI c) 7) (if nI w = 1 then 1 else if nI w = 3 then -1 else 0) := by
    split
    · rfl
    · split <;> rfl
  rw [k41]
  unfold fnX10_step_41
  simp only [a27, bnd_e]
  rw [inb_nI (show b + 27 < 164 by omega) (by decide), ck_t, ix_nI (show b + 27 < 2 ^ 31 by omega), q0]
  have k73 : (if nI w = 0 then fnX10_step_73 I (nI b) (nI w) (irm (nI c) 7 + (if nI w = 1 then 1 else if nI w = 3 then -1 else 0)) (nI c / 7) 1 else if nI w = 2 then fnX10_step_73 I (nI b) (nI w) (irm (nI c) 7 + (if nI w = 1 then 1 else if nI w = 3 then -1 else 0)) (nI c / 7) (-1) else fnX10_step_73 I (nI b) (nI w) (irm (nI c) 7 + (if nI w = 1 then 1 else if nI w = 3 then -1 else 0)) (nI c / 7) 0) = fnX10_step_73 I (nI b) (nI w) (xM c w) (nI c / 7) (if nI w = 0 then 1 else if nI w = 2 then -1 else 0) := by
    unfold xM
    split
    · rfl
    · split <;> rfl
  rw [k73]
  unfold fnX10_step_73
  simp only [a30, bnd_e]
  rw [inb_nI (show b + 30 < 164 by omega) (by decide), ck_t, ck_t, ix_nI (show b + 30 < 2 ^ 31 by omega), q3]
  show ∃ I1, (if nI sh ≤ 0 then fnX10_step_103 I (nI b) (nI w) (xM c w) (yM c w) (nI (b + 30)) (nI sh) 0 else fnX10_step_103 I (nI b) (nI w) (xM c w) (yM c w) (nI (b + 30)) (nI sh) 1) = _ ∧ _
  by_cases hs : sh = 0
  · rw [if_pos (by rw [hs]; decide)]
    exact step103 0 (by rw [hs]; rfl)
  · rw [if_neg (nI_nle (by omega) (by omega))]
    exact step103 1 (by
      obtain ⟨k, rfl⟩ : ∃ k, sh = k + 1 := ⟨sh - 1, by omega⟩
      exact nI_pred k)
