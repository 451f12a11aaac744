/-! nudge, flip, put, undo -/
theorem nz {n : Nat} (h : n < 2 ^ 31) (c : n ≠ 0) : ¬ nI n = 0 := fun q => c ((nI_eq (b := 0) h (by decide)).mp q)
theorem isGone_e {I : Mem} {rd l : Nat} (h0 : I 112 0 = nI rd) (hr : rd < 2) (hl : rd = 1 → I 112 29 = nI l) (h2 : l < 2) : fnX10_isGone I = some ((if rd = 0 ∨ l = 1 then 1 else 0), I) := by
  unfold fnX10_isGone fnX10_isGone_20 fnX10_isGone_25
  rw [show inb 0 164 = true from rfl, ck_t, show I 112 (ix 0) = nI rd from h0, show inb 29 164 = true from rfl, ck_t]
  rcases (show rd = 0 ∨ rd = 1 by omega) with rfl | rfl
  · rfl
  · rw [if_neg (by decide), show I 112 (ix 29) = nI l from hl rfl]
    rcases (show l = 0 ∨ l = 1 by omega) with rfl | rfl <;> rfl
def nudgeA (τ : Tb) (π : Pl) : Pl := match π with
  | (c, w, _, sh, score, lit, g, steps, st) => (c, (w + 1) % 4, (if sh + 3 ≤ τ.1 then 0 else 1), sh + 3, score, lit, g, steps, st)
theorem nudgeA_ok {τ : Tb} {π : Pl} (hT : Tok τ) (h : Pk τ π) (hl : π.2.2.1 = 0) : Pk τ (nudgeA τ π) := by
  obtain ⟨c, w, lost, sh, score, lit, g, steps, st⟩ := π
  obtain ⟨⟨h1, h2, h3, h4, h5⟩, h6⟩ := h
  have h7 := h6 hl
  have h8 := hT.1
  simp only at h1 h2 h3 h4 h5 h7
  refine ⟨⟨h1, Nat.mod_lt _ (by decide), ?_, ?_, h5⟩, ?_⟩
  · show (if sh + 3 ≤ τ.1 then 0 else 1) < 2
    split <;> omega
  · show sh + 3 ≤ 23
    omega
  · show (if sh + 3 ≤ τ.1 then 0 else 1) = 0 → sh + 3 ≤ τ.1
    split
    · intro _; assumption
    · intro q; exact absurd q (by decide)
theorem p_nudge {I : Mem} (h : PlayR I) : ∃ r I1 I2, fnX9_nudge I = some (r, I1) ∧ fnX10_nudge I1 = some (r, I2) ∧ PlayR I2 ∧ PFr I I2 := by
  obtain ⟨rd, τ, π, na, ac, im, ok, hx, hm⟩ := h
  have hl2 := ok.2.2.1.1.2.2.1
  have gone : ∀ J, MPl J rd τ π na ac im → fnX10_isGone J = some ((if rd = 0 ∨ π.2.2.1 = 1 then 1 else 0), J) := fun J hJ => isGone_e hJ.1 ok.1 (fun hr => (hJ.2.2.1 hr).2.2.1) hl2
  have xl : I 27 2 = nI π.2.2.1 := hx.2.2.1.2.2.1
  by_cases c : rd = 0 ∨ π.2.2.1 = 1
  · refine same (f := fnX9_nudge) (g := fnX10_nudge) ok hx hm (r := -1000002) ?_ ?_
    · unfold fnX9_nudge fnX9_nudge_17
      rw [hx.1, xl]
      rcases c with c | c
      · rw [if_pos (by rw [c]; rfl)]
      · rw [if_neg (show ¬ nI π.2.2.1 = 0 by rw [c]; decide)]
        split <;> rfl
    · unfold fnX10_nudge
      rw [gone I hm, if_pos c, ob_s]
      dsimp only
      rw [if_neg (by decide)]
  · have hr : rd = 1 := by have := ok.1; omega
    have hl : π.2.2.1 = 0 := by omega
    have hT := ok.2.1
    have h20 := hT.1
    have ok2 := OK_keep hr ok
    refine two (f := fnX9_nudge) (g := fnX10_nudge) (r := nI (π.2.2.2.1 + 3)) ok hm (OK_pl ok2 (nudgeA_ok hT ok.2.2.1 hl)) ?_ (fun J hJ => ?_)
    · obtain ⟨I2, e1, e2, e3⟩ := XPl_keep ok hx
      unfold fnX9_nudge
      rw [hx.1, if_neg (show ¬ nI rd = 0 by rw [hr]; decide), xl, if_pos (show nI π.2.2.1 = 0 by rw [hl]; rfl), e1, ob_s]
      obtain ⟨q0, q1, q2, q3, q4, q5, q6, q7, q8⟩ := e2.2.2.1
      have hw := ok.2.2.1.1.2.1
      have hs : π.2.2.2.1 ≤ 20 := Nat.le_trans (ok.2.2.1.2 hl) h20
      have htilt : I2 21 0 = nI τ.1 := e2.2.1.1
      obtain ⟨cc, w, lost, sh, score, lit, g, steps, st⟩ := π
      simp only at q0 q1 q2 q3 q4 q5 q6 q7 q8 hw hs hl
      unfold fnX4_shake fnX4_turn fnX4_shake_28
      simp only [bnd_e, ob_s]
      rw [q1, show irm (nI w + 1) 4 = nI ((w + 1) % 4) from turnI_e w hw 1 (by decide), htilt]
      rw [show up2 (up2 I2 27 1 (nI ((w + 1) % 4))) 27 3 (up2 I2 27 1 (nI ((w + 1) % 4)) 27 3 + 3) = up2 (up2 I2 27 1 (nI ((w + 1) % 4))) 27 3 (nI (sh + 3)) by rw [show up2 I2 27 1 (nI ((w + 1) % 4)) 27 3 = nI sh by simp [up2_r, q3], show nI sh + 3 = nI (sh + 3) from nI_add sh 3]]
      rw [show up2 (up2 I2 27 1 (nI ((w + 1) % 4))) 27 3 (nI (sh + 3)) 27 3 = nI (sh + 3) by simp [up2_r]]
      have hle : nI (sh + 3) ≤ nI τ.1 ↔ sh + 3 ≤ τ.1 := nI_leI (by omega) (by omega)
      by_cases ct : sh + 3 ≤ τ.1
      · rw [if_pos (hle.mpr ct), ob_s, show up2 (up2 I2 27 1 (nI ((w + 1) % 4))) 27 3 (nI (sh + 3)) 27 3 = nI (sh + 3) by simp [up2_r]]
        refine ⟨_, rfl, XPl_pl (π := (cc, w, lost, sh, score, lit, g, steps, st)) e2 (FrP.p0.tr FrP.p0) ?_, e3.tr (FX.fr27 (FrP.p0.tr FrP.p0))⟩
        refine ⟨?_, ?_, ?_, ?_, ?_, ?_, ?_, ?_, fun i hi => ?_⟩ <;> simp [up2_r, nudgeA, q0, q1, q2, q3, q4, q5, q6, q7, ct, hl]
        exact q8 i hi
      · rw [if_neg (fun q => ct (hle.mp q)), ob_s, show up2 (up2 (up2 I2 27 1 (nI ((w + 1) % 4))) 27 3 (nI (sh + 3))) 27 2 1 27 3 = nI (sh + 3) by simp [up2_r]]
        refine ⟨_, rfl, XPl_pl (π := (cc, w, lost, sh, score, lit, g, steps, st)) e2 ((FrP.p0.tr FrP.p0).tr FrP.p0) ?_, e3.tr (FX.fr27 ((FrP.p0.tr FrP.p0).tr FrP.p0))⟩
        refine ⟨?_, ?_, ?_, ?_, ?_, ?_, ?_, ?_, fun i hi => ?_⟩ <;> simp [up2_r, nudgeA, q0, q1, q2, q3, q4, q5, q6, q7, ct]
        · rfl
        · exact q8 i hi
    · obtain ⟨I2, e1, e2, e3⟩ := MPl_keep hr ok hJ
      unfold fnX10_nudge
      rw [gone J hJ, if_neg c, ob_s]
      dsimp only
      rw [if_pos (show (0 : Int32) = 0 from rfl), e1, ob_s]
      obtain ⟨q0, q1, q2, q3, q4, q5, q6, q7, q8⟩ := e2.2.2.1 hr
      have hw := ok.2.2.1.1.2.1
      have hs : π.2.2.2.1 ≤ 20 := Nat.le_trans (ok.2.2.1.2 hl) h20
      have htilt : I2 112 1 = nI τ.1 := e2.2.1.1
      obtain ⟨cc, w, lost, sh, score, lit, g, steps, st⟩ := π
      simp only [Nat.zero_add] at q0 q1 q2 q3 q4 q5 q6 q7 q8 hw hs hl
      rw [show inb 28 164 = true from rfl, show inb 30 164 = true from rfl, show inb 1 164 = true from rfl, show ix 28 = 28 from rfl, show ix 30 = 30 from rfl, show ix 1 = 1 from rfl]
      simp only [bnd_e, ck_t]
      rw [q1, show irm (nI w + 1) 4 = nI ((w + 1) % 4) from turnI_e w hw 1 (by decide)]
      rw [show up2 (up2 I2 112 28 (nI ((w + 1) % 4))) 112 30 (up2 I2 112 28 (nI ((w + 1) % 4)) 112 30 + 3) = up2 (up2 I2 112 28 (nI ((w + 1) % 4))) 112 30 (nI (sh + 3)) by rw [show up2 I2 112 28 (nI ((w + 1) % 4)) 112 30 = nI sh by simp [up2_r, q3], show nI sh + 3 = nI (sh + 3) from nI_add sh 3]]
      rw [show up2 (up2 I2 112 28 (nI ((w + 1) % 4))) 112 30 (nI (sh + 3)) 112 30 = nI (sh + 3) by simp [up2_r], show up2 (up2 I2 112 28 (nI ((w + 1) % 4))) 112 30 (nI (sh + 3)) 112 1 = nI τ.1 by simp [up2_r, htilt]]
      have hle : nI (sh + 3) ≤ nI τ.1 ↔ sh + 3 ≤ τ.1 := nI_leI (by omega) (by omega)
      have fin : ∀ l3 : Nat, ∃ J1, fnX10_nudge_70 (up2 (up2 I2 112 28 (nI ((w + 1) % 4))) 112 30 (nI (sh + 3))) 29 (nI l3) = some (nI (sh + 3), J1) ∧ PlM J1 0 (cc, (w + 1) % 4, l3, sh + 3, score, lit, g, steps, st) ∧ FrM 0 I2 J1 := by
        intro l3
        unfold fnX10_nudge_70
        rw [show inb 29 164 = true from rfl, ck_t, bnd_e, show inb 30 164 = true from rfl, ck_t, show ix 29 = 29 from rfl, show ix 30 = 30 from rfl, show up2 (up2 (up2 I2 112 28 (nI ((w + 1) % 4))) 112 30 (nI (sh + 3))) 112 29 (nI l3) 112 30 = nI (sh + 3) by simp [up2_r]]
        refine ⟨_, rfl, ?_, ((FrM.p (by omega) (by omega)).tr (FrM.p (by omega) (by omega))).tr (FrM.p (by omega) (by omega))⟩
        refine ⟨?_, ?_, ?_, ?_, ?_, ?_, ?_, ?_, fun i hi => ?_⟩ <;> simp [up2_r, q0, q2, q3, q4, q5, q6, q7]
        rw [if_neg (by omega), if_neg (by omega), if_neg (by omega)]
        exact q8 i hi
      by_cases ct : sh + 3 ≤ τ.1
      · rw [if_pos (hle.mpr ct)]
        obtain ⟨J1, f1, f2, f3⟩ := fin 0
        refine ⟨J1, f1, MPl_pl ok2 e2 f3 ?_, e3.tr (FM.mv f3)⟩
        show PlM J1 0 (cc, (w + 1) % 4, (if sh + 3 ≤ τ.1 then 0 else 1), sh + 3, score, lit, g, steps, st)
        rw [if_pos ct]
        exact f2
      · rw [if_neg (fun q => ct (hle.mp q))]
        obtain ⟨J1, f1, f2, f3⟩ := fin 1
        refine ⟨J1, f1, MPl_pl ok2 e2 f3 ?_, e3.tr (FM.mv f3)⟩
        show PlM J1 0 (cc, (w + 1) % 4, (if sh + 3 ≤ τ.1 then 0 else 1), sh + 3, score, lit, g, steps, st)
        rw [if_neg ct]
        exact f2
