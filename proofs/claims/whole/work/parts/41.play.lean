theorem PlX_fr {I I1 : Mem} {a x : Nat} {π : Pl} (h : PlX I x π) (hf : FrP a I I1) (h1 : x + 1 < a ∨ a + 1 < x) : PlX I1 x π := by
  unfold PlX
  rw [hf x (by omega) (by omega), hf (x + 1) (by omega) (by omega)]
  exact h
theorem TabX_fr {I I1 : Mem} {a t : Nat} {τ : Tb} (h : TabX I t τ) (hf : FrP a I I1) (h1 : t + 5 < a ∨ a + 1 < t) : TabX I1 t τ := by
  unfold TabX
  rw [hf t (by omega) (by omega), hf (t + 1) (by omega) (by omega), hf (t + 2) (by omega) (by omega), hf (t + 3) (by omega) (by omega), hf (t + 4) (by omega) (by omega), hf (t + 5) (by omega) (by omega)]
  exact h
theorem FrP.rf {a : Nat} {I : Mem} : FrP a I I := fun _ _ _ => rfl
theorem FrP.tr {a : Nat} {I I1 I2 : Mem} (h : FrP a I I1) (h2 : FrP a I1 I2) : FrP a I I2 := fun x h1 h3 => (h2 x h1 h3).trans (h x h1 h3)
theorem FrP.p0 {a k : Nat} {I : Mem} {v : Int32} : FrP a I (up2 I a k v) := fun x h1 _ => up2_ne h1
theorem FrP.p1 {a k : Nat} {I : Mem} {v : Int32} : FrP a I (up2 I (a + 1) k v) := fun x _ h2 => up2_ne h2
theorem openI_e : ∀ g, g < 64 → ∀ p, p < 6 → ((((nI g) >>> ((nI p) &&& 31)) &&& 1) = 1 ↔ g.testBit p = true) := by decide +kernel
theorem flipI_e : ∀ g, g < 64 → ∀ p, p < 6 → (nI g) ^^^ ((1 : Int32) <<< ((nI p) &&& 31)) = nI (g ^^^ 2 ^ p) := by decide +kernel
theorem turnI_e : ∀ w, w < 4 → ∀ k, k < 4 → irm (nI w + nI k) 4 = nI ((w + k) % 4) := by decide +kernel
theorem isOpen_e {I : Mem} {a p g : Nat} (hg : I a 6 = nI g) (h1 : g < 64) (h2 : p < 6) : fnX4_isOpen a I (nI p) = some ((if g.testBit p then 1 else 0), I) := by
  unfold fnX4_isOpen fnX4_isOpen_17
  rw [hg]
  by_cases h : g.testBit p = true
  · rw [if_pos ((openI_e g h1 p h2).mpr h), if_pos h]; rfl
  · rw [if_neg (fun q => h ((openI_e g h1 p h2).mp q)), if_neg h]; rfl
theorem turnsA_lt (kd g p : Nat) : turnsA kd g p < 4 := by
  unfold turnsA
  repeat' split
  all_goals decide
/-- turnBy: the way, the gate -/
theorem turnBy_e {I : Mem} {a w g p kd : Nat} (hw : I a 1 = nI w) (hg : I a 6 = nI g) (h0 : w < 4) (h1 : g < 64) (h2 : p < 6) (hk : 1 ≤ kd ∧ kd ≤ 5) : fnX4_turnBy a I (nI p) (nI kd) = some (let I1 := if kd = 4 then I else up2 I a 1 (nI ((w + turnsA kd g p) % 4)); if kd = 5 then up2 I1 a 6 (nI (g ^^^ 2 ^ p)) else I1) := by
  have ht : ∀ k : Nat, k < 4 → fnX4_turn a I (nI k) = some (up2 I a 1 (nI ((w + k) % 4))) := fun k hk => by
    unfold fnX4_turn
    rw [hw, turnI_e w h0 k hk]
    rfl
  have hc : kd = 1 ∨ kd = 2 ∨ kd = 3 ∨ kd = 4 ∨ kd = 5 := by omega
  unfold fnX4_turnBy
  rcases hc with rfl | rfl | rfl | rfl | rfl
  · rw [if_pos (by decide), show (2 : Int32) = nI 2 from rfl, ht 2 (by decide)]; rfl
  · rw [if_neg (by decide), if_pos (by decide), show (3 : Int32) = nI 3 from rfl, ht 3 (by decide)]; rfl
  · rw [if_neg (by decide), if_neg (by decide), if_pos (by decide), show (1 : Int32) = nI 1 from rfl, ht 1 (by decide)]; rfl
  · rw [if_neg (by decide), if_neg (by decide), if_neg (by decide), if_pos (by decide)]; rfl
  · rw [if_neg (by decide), if_neg (by decide), if_neg (by decide), if_neg (by decide), if_pos (by decide), isOpen_e hg h1 h2, ob_s]
    have hx := flipI_e g h1 p h2
    by_cases h : g.testBit p = true
    · simp only [h, if_true]
      rw [if_neg (by decide)]
      unfold fnX4_turnBy_74 fnX4_turnBy_92
      rw [show (0 : Int32) = nI 0 from rfl, ht 0 (by decide), ob_s, bnd_e, up2_r, if_neg (by omega), hg, hx]
      simp [turnsA, h]
    · simp only [h, if_false]
      rw [if_pos (by decide)]
      unfold fnX4_turnBy_74 fnX4_turnBy_92
      rw [show (2 : Int32) = nI 2 from rfl, ht 2 (by decide), ob_s, bnd_e, up2_r, if_neg (by omega), hg, hx]
      simp [turnsA, h]
theorem g64 {τ : Tb} (hT : Tok τ) {g : Nat} (h : g < 2 ^ tn τ) : g < 64 := Nat.lt_of_lt_of_le h (Nat.pow_le_pow_right (by decide) hT.2.1 : 2 ^ tn τ ≤ 2 ^ 6)
theorem strikeA_ok {τ : Tb} {p : Nat} {π : Pl} (hp : p < tn τ) (h : Pok τ π) : Pok τ (strikeA τ p π) := by
  obtain ⟨c, w, lost, sh, score, lit, g, steps, st⟩ := π
  obtain ⟨h1, h2, h3, h4, h5⟩ := h
  refine ⟨h1, Nat.mod_lt _ (by decide), h3, h4, ?_⟩
  show (if tkd τ p = 5 then g ^^^ 2 ^ p else g) < 2 ^ tn τ
  split
  · exact Nat.xor_lt_two_pow h5 (Nat.pow_lt_pow_right (by decide) hp)
  · exact h5
/-- knock -/
theorem knock_e {I : Mem} {t a p : Nat} {τ : Tb} {π : Pl} (hT : Tok τ) (hp : p < tn τ) (h1 : TabX I t τ) (h2 : PlX I a π) (ok : Pok τ π) (hd : t + 5 < a ∨ a + 1 < t) : ∃ I1, fnX4_knock a t I (nI p) = some I1 ∧ PlX I1 a (strikeA τ p π) ∧ I1 a 9 = nI p ∧ FrP a I I1 := by
  obtain ⟨c, w, lost, sh, score, lit, g, steps, st⟩ := π
  have hp6 : p < 6 := Nat.lt_of_lt_of_le hp hT.2.1
  have hg := g64 hT ok.2.2.2.2
  obtain ⟨k1, k2, k3, k4, k5⟩ := hT.2.2.1 p hp
  obtain ⟨e1, e2, e3, e4⟩ := h1.2.2.1 p hp
  obtain ⟨q0, q1, q2, q3, q4, q5, q6, q7, q8⟩ := h2
  simp only at q0 q1 q2 q3 q4 q5 q6 q7 q8
  have u1 : upTo (nI p) 5 = 1 := upTo_1 (m := 5) (by omega) (by omega)
  have hix : ix (nI p) = p := ix_nI (by omega)
  have hin : inb (nI p) 6 = true := inb_nI hp6 (by decide)
  have n1 : t + 1 ≠ a := by omega
  have n1' : t + 1 ≠ a + 1 := by omega
  have n3 : t + 3 ≠ a := by omega
  have n3' : t + 3 ≠ a + 1 := by omega
  have n4 : t + 4 ≠ a := by omega
  have n4' : t + 4 ≠ a + 1 := by omega
  unfold fnX4_knock
  rw [isUpTo_e, ob_s]
  simp only [u1]
  rw [if_neg (by decide)]
  simp only [bnd_e, hin, ck_t, hix]
  generalize hI8 : up2 (up2 I a 9 (nI p)) (a + 1) p (up2 I a 9 (nI p) (a + 1) p + 1) = I8
  have r5 : I8 a 5 = lit := by rw [← hI8]; simp [up2_r, q5]
  have r3 : I8 (t + 3) p = nI (tle τ p) := by rw [← hI8]; simp [up2_r, n3, n3', e3]
  have r4 : I8 (t + 4) p = nI (tpa τ p) := by rw [← hI8]; simp [up2_r, n4, n4', e4]
  have r4a : I8 a 4 = score := by rw [← hI8]; simp [up2_r, q4]
  have f8 : FrP a I I8 := by rw [← hI8]; exact FrP.p0.tr FrP.p1
  rw [r5, r3, r4, r4a]
  have fin : ∀ (I9 : Mem) (sc : Int32), I9 a 0 = nI c → I9 a 1 = nI w → I9 a 2 = nI lost → I9 a 3 = nI sh → I9 a 4 = sc → I9 a 6 = nI g → I9 a 7 = steps → I9 a 9 = nI p → (∀ i, i < 6 → I9 (a + 1) i = upd st p (st p + 1) i) → I9 (t + 1) p = nI (tkd τ p) → I9 (t + 3) p = nI (tle τ p) → FrP a I I9 → ∃ I1, fnX4_knock_52 a t I9 (nI p) = some I1 ∧ PlX I1 a (c, (w + turnsA (tkd τ p) g p) % 4, lost, sh, sc, nI (tle τ p), (if tkd τ p = 5 then g ^^^ 2 ^ p else g), steps, upd st p (st p + 1)) ∧ I1 a 9 = nI p ∧ FrP a I I1 := by
    intro I9 sc m0 m1 m2 m3 m4 m6 m7 m9 m8 mk ml fr
    unfold fnX4_knock_52
    simp only [bnd_e, hin, ck_t, hix]
    rw [show up2 I9 a 5 (I9 (t + 3) p) (t + 1) p = nI (tkd τ p) by simp [up2_r, n1, mk], ml]
    rw [turnBy_e (w := w) (g := g) (by simp [up2_r, m1]) (by simp [up2_r, m6]) ok.2.1 hg hp6 ⟨k1, k2⟩, ob_s]
    refine ⟨_, rfl, ?_, ?_, ?_⟩
    · by_cases c4 : tkd τ p = 4
      · rw [if_pos c4, if_neg (by omega)]
        have ht0 : turnsA (tkd τ p) g p = 0 := by rw [c4]; rfl
        rw [ht0, if_neg (by omega), Nat.add_zero, Nat.mod_eq_of_lt ok.2.1]
        refine ⟨?_, ?_, ?_, ?_, ?_, ?_, ?_, ?_, fun i hi => ?_⟩ <;> simp [up2_r, m0, m1, m2, m3, m4, m6, m7]
        exact m8 i hi
      · rw [if_neg c4]
        by_cases c5 : tkd τ p = 5
        · rw [if_pos c5, if_pos c5]
          refine ⟨?_, ?_, ?_, ?_, ?_, ?_, ?_, ?_, fun i hi => ?_⟩ <;> simp [up2_r, m0, m1, m2, m3, m4, m6, m7]
          exact m8 i hi
        · rw [if_neg c5, if_neg c5]
          refine ⟨?_, ?_, ?_, ?_, ?_, ?_, ?_, ?_, fun i hi => ?_⟩ <;> simp [up2_r, m0, m1, m2, m3, m4, m6, m7]
          exact m8 i hi
    · split <;> split <;> simp [up2_r, m9]
    · have b1 : FrP a I (up2 I9 a 5 (nI (tle τ p))) := fr.tr FrP.p0
      split <;> split <;> first | exact b1 | exact b1.tr FrP.p0 | exact (b1.tr FrP.p0).tr FrP.p0
  have m8 : ∀ i, i < 6 → I8 (a + 1) i = upd st p (st p + 1) i := fun i hi => by
    rw [← hI8]
    by_cases hip : i = p
    · subst hip; simp [up2_r, upd, q8 i hi]
    · simp [up2_r, upd, hip, q8 i hi]
  have ss : strikeA τ p (c, w, lost, sh, score, lit, g, steps, st) = (c, (w + turnsA (tkd τ p) g p) % 4, lost, sh, (if lit = nI (tle τ p) then score else score + nI (tpa τ p)), nI (tle τ p), (if tkd τ p = 5 then g ^^^ 2 ^ p else g), steps, upd st p (st p + 1)) := rfl
  rw [ss]
  by_cases hl : lit = nI (tle τ p)
  · rw [if_pos hl, if_pos hl]
    exact fin I8 score (by rw [← hI8]; simp [up2_r, q0]) (by rw [← hI8]; simp [up2_r, q1]) (by rw [← hI8]; simp [up2_r, q2]) (by rw [← hI8]; simp [up2_r, q3]) r4a (by rw [← hI8]; simp [up2_r, q6]) (by rw [← hI8]; simp [up2_r, q7]) (by rw [← hI8]; simp [up2_r]) m8 (by rw [← hI8, up2_ne n1', up2_ne n1]; exact e1) r3 f8
  · rw [if_neg hl, if_neg hl]
    refine fin (up2 I8 a 4 (score + nI (tpa τ p))) _ ?_ ?_ ?_ ?_ ?_ ?_ ?_ ?_ ?_ ?_ ?_ (f8.tr FrP.p0)
    · rw [← hI8]; simp [up2_r, q0]
    · rw [← hI8]; simp [up2_r, q1]
    · rw [← hI8]; simp [up2_r, q2]
    · rw [← hI8]; simp [up2_r, q3]
    · simp [up2_r]
    · rw [← hI8]; simp [up2_r, q6]
    · rw [← hI8]; simp [up2_r, q7]
    · rw [← hI8]; simp [up2_r]
    · intro i hi; rw [up2_ne (by omega)]; exact m8 i hi
    · rw [up2_ne n1, ← hI8, up2_ne n1', up2_ne n1]; exact e1
    · rw [up2_ne n3]; exact r3
theorem mvI_e : ∀ c, c < 42 → ∀ w, w < 4 → ¬ (w = 2 ∧ c < 7) → sideA c w = false → nI c + (if nI w = 0 then 7 else if nI w = 1 then 1 else if nI w = 2 then -7 else -1) = nI (goA c w) := by decide +kernel
theorem shI_e : ∀ s, s < 24 → mxI 0 (nI s - 1) = nI (s - 1) := by decide +kernel
theorem stepA_ok {τ : Tb} {π : Pl} (hT : Tok τ) (h : Pok τ π) : Pok τ (stepA τ π).2 := by
  obtain ⟨c, w, lost, sh, score, lit, g, steps, st⟩ := π
  obtain ⟨h1, h2, h3, h4, h5⟩ := h
  simp only at h1 h2 h3 h4 h5
  unfold stepA
  by_cases c1 : w = 2 ∧ c < 7
  · simp only [if_pos c1]
    exact ⟨h1, h2, Nat.lt_succ_self 1, by show sh - 1 ≤ 23; omega, h5⟩
  · simp only [if_neg c1]
    by_cases c2 : sideA c w = true
    · simp only [c2, if_true]
      exact ⟨h1, Nat.mod_lt _ (by decide), h3, by show sh - 1 ≤ 23; omega, h5⟩
    · simp only [c2, if_false]
      have hg := goA_lt c h1 w h2 c1 (by simpa using c2)
      cases hp : pinOf τ (goA c w) with
      | none => exact ⟨hg, h2, h3, by show sh - 1 ≤ 23; omega, h5⟩
      | some p => exact strikeA_ok (pinOf_lt hp).1 ⟨hg, h2, h3, by show sh - 1 ≤ 23; omega, h5⟩
/-- a STEP -/
theorem step_e {I : Mem} {t a : Nat} {τ : Tb} {π : Pl} (hT : Tok τ) (h1 : TabX I t τ) (h2 : PlX I a π) (ok : Pok τ π) (hd : t + 5 < a ∨ a + 1 < t) : ∃ I1, fnX4_step a t I = some I1 ∧ PlX I1 a (stepA τ π).2 ∧ I1 a 9 = onI (stepA τ π).1 ∧ FrP a I I1 := by
  obtain ⟨c, w, lost, sh, score, lit, g, steps, st⟩ := π
  obtain ⟨b0, b1, b2, b3, b4⟩ := ok
  simp only at b0 b1 b2 b3 b4
  obtain ⟨q0, q1, q2, q3, q4, q5, q6, q7, q8⟩ := h2
  simp only at q0 q1 q2 q3 q4 q5 q6 q7 q8
  unfold fnX4_step
  simp only [bnd_e]
  generalize hI3 : up2 (up2 (up2 I a 7 (I a 7 + 1)) a 3 (mxI 0 (up2 I a 7 (I a 7 + 1) a 3 - 1))) a 9 (-1) = I3
  have r0 : I3 a 0 = nI c := by rw [← hI3]; simp [up2_r, q0]
  have r1 : I3 a 1 = nI w := by rw [← hI3]; simp [up2_r, q1]
  have r2 : I3 a 2 = nI lost := by rw [← hI3]; simp [up2_r, q2]
  have r3 : I3 a 3 = nI (sh - 1) := by rw [← hI3]; simp [up2_r, q3, shI_e sh (by omega)]
  have r4 : I3 a 4 = score := by rw [← hI3]; simp [up2_r, q4]
  have r5 : I3 a 5 = lit := by rw [← hI3]; simp [up2_r, q5]
  have r6 : I3 a 6 = nI g := by rw [← hI3]; simp [up2_r, q6]
  have r7 : I3 a 7 = steps + 1 := by rw [← hI3]; simp [up2_r, q7]
  have r8 : ∀ i, i < 6 → I3 (a + 1) i = st i := fun i hi => by rw [← hI3]; simp [up2_r, q8 i hi]
  have r9 : I3 a 9 = -1 := by rw [← hI3]; simp [up2_r]
  have f3 : FrP a I I3 := by rw [← hI3]; exact (FrP.p0.tr FrP.p0).tr FrP.p0
  have e7 : (nI c < 7 ∨ 7 ≤ nI c) := by rcases Nat.lt_or_ge c 7 with q | q; exact Or.inl (nI_lt q (by decide)); exact Or.inr (nI_le q (by omega))
  rw [r1, r0]
  have go54 : ¬ (w = 2 ∧ c < 7) → ∃ I1, fnX4_step_54 a t I3 = some I1 ∧ PlX I1 a (stepA τ (c, w, lost, sh, score, lit, g, steps, st)).2 ∧ I1 a 9 = onI (stepA τ (c, w, lost, sh, score, lit, g, steps, st)).1 ∧ FrP a I I1 := by
    intro c1
    unfold fnX4_step_54
    rw [isAtSide_e, ob_s, r0, r1]
    simp only [sideI_e c b0 w b1]
    unfold stepA
    simp only [if_neg c1]
    by_cases c2 : sideA c w = true
    · simp only [c2, if_true]
      rw [if_neg (by decide)]
      unfold fnX4_turn fnX4_step_129
      rw [r1, show (2 : Int32) = nI 2 from rfl, turnI_e w b1 2 (by decide)]
      simp only [bnd_e, ob_s]
      refine ⟨_, rfl, ⟨?_, ?_, ?_, ?_, ?_, ?_, ?_, ?_, fun i hi => ?_⟩, ?_, f3.tr FrP.p0⟩ <;> simp [up2_r, r0, r2, r3, r4, r5, r6, r7, r9, onI]
      exact r8 i hi
    · have c2f : sideA c w = false := by simpa using c2
      simp only [c2f, Bool.false_eq_true, if_false]
      rw [if_pos trivial, r1, r0]
      have hm := mvI_e c b0 w b1 c1 c2f
      have hg := goA_lt c b0 w b1 c1 c2f
      have k112 : (if nI w = 0 then fnX4_step_112 a t I3 (nI c) 7 else if nI w = 1 then fnX4_step_112 a t I3 (nI c) 1 else if nI w = 2 then fnX4_step_112 a t I3 (nI c) (-7) else fnX4_step_112 a t I3 (nI c) (-1)) = fnX4_step_112 a t I3 (nI c) (if nI w = 0 then 7 else if nI w = 1 then 1 else if nI w = 2 then -7 else -1) := by
        split
        · rfl
        · split
          · rfl
          · split <;> rfl
      rw [k112]
      unfold fnX4_step_112 fnX4_step_129
      simp only [bnd_e, hm]
      have f4 : FrP a I (up2 I3 a 0 (nI (goA c w))) := f3.tr FrP.p0
      have t4 := TabX_fr h1 f4 (by omega)
      rw [show up2 I3 a 0 (nI (goA c w)) a 0 = nI (goA c w) by simp [up2_r], pinIn_e t4 hg, ob_s]
      have p4 : PlX (up2 I3 a 0 (nI (goA c w))) a (goA c w, w, lost, sh - 1, score, lit, g, steps + 1, st) := by
        refine ⟨?_, ?_, ?_, ?_, ?_, ?_, ?_, ?_, fun i hi => ?_⟩ <;> simp [up2_r, r1, r2, r3, r4, r5, r6, r7]
        exact r8 i hi
      cases hp : pinOf τ (goA c w) with
      | none =>
        simp only
        have hk : fnX4_knock a t (up2 I3 a 0 (nI (goA c w))) (onI none) = some (up2 I3 a 0 (nI (goA c w))) := by
          unfold fnX4_knock
          rw [isUpTo_e, ob_s]
          rfl
        rw [hk, ob_s]
        exact ⟨_, rfl, p4, by simp [up2_r, r9, onI], f4⟩
      | some p =>
        simp only
        obtain ⟨I5, k1, k2, k3, k4⟩ := knock_e hT (pinOf_lt hp).1 t4 p4 ⟨hg, b1, b2, by show sh - 1 ≤ 23; omega, b4⟩ hd
        rw [show onI (some p) = nI p from rfl, k1, ob_s]
        exact ⟨_, rfl, k2, k3, f4.tr k4⟩
  by_cases hw : w = 2
  · rw [if_pos (by rw [hw]; rfl)]
    by_cases hc : c < 7
    · rw [if_neg (show ¬ (7 : Int32) ≤ nI c from Int32.not_le.mpr (nI_lt (b := 7) hc (by decide)))]
      unfold fnX4_step_129 stepA
      simp only [if_pos (show w = 2 ∧ c < 7 from ⟨hw, hc⟩)]
      refine ⟨_, rfl, ⟨?_, ?_, ?_, ?_, ?_, ?_, ?_, ?_, fun i hi => ?_⟩, ?_, f3.tr FrP.p0⟩ <;> simp [up2_r, r0, r1, r3, r4, r5, r6, r7, r9, onI]
      · rfl
      · exact r8 i hi
    · rw [if_pos (show (7 : Int32) ≤ nI c from nI_le (a := 7) (Nat.le_of_not_lt hc) (Nat.lt_trans b0 (by decide)))]
      exact go54 (fun q => hc q.2)
  · rw [if_neg (show ¬ nI w = 2 from fun q => hw ((nI_eq (b := 2) (by omega) (by decide)).mp q))]
    exact go54 (fun q => hw q.1)
