/-! flip, put -/
theorem p_flip {I : Mem} (h : PlayR I) : ∃ r I1 I2, fnX9_flip I = some (r, I1) ∧ fnX10_flip I1 = some (r, I2) ∧ PlayR I2 ∧ PFr I I2 := by
  obtain ⟨rd, τ, π, na, ac, im, ok, hx, hm⟩ := h
  have hl2 := ok.2.2.1.1.2.2.1
  have hc42 := ok.2.2.1.1.1
  have hw4 := ok.2.2.1.1.2.1
  have gone : ∀ J, MPl J rd τ π na ac im → fnX10_isGone J = some ((if rd = 0 ∨ π.2.2.1 = 1 then 1 else 0), J) := fun J hJ => isGone_e hJ.1 ok.1 (fun hr => (hJ.2.2.1 hr).2.2.1) hl2
  have xl : I 27 2 = nI π.2.2.1 := hx.2.2.1.2.2.1
  have xc : I 27 0 = nI π.1 := hx.2.2.1.1
  have xw : I 27 1 = nI π.2.1 := hx.2.2.1.2.1
  have c7 : (7 : Int32) ≤ nI π.1 ↔ 7 ≤ π.1 := nI_leI (a := 7) (by decide) (by omega)
  have w2 : nI π.2.1 = 2 ↔ π.2.1 = 2 := nI_eq (b := 2) (by omega) (by decide)
  by_cases c : rd = 0 ∨ π.2.2.1 = 1
  · refine same (f := fnX9_flip) (g := fnX10_flip) ok hx hm (r := -1000002) ?_ ?_
    · unfold fnX9_flip fnX9_flip_40
      rw [hx.1, xl]
      rcases c with c | c
      · rw [if_pos (by rw [c]; rfl)]
      · rw [if_neg (show ¬ nI π.2.2.1 = 0 by rw [c]; decide)]
        split <;> rfl
    · unfold fnX10_flip fnX10_flip_30
      rw [gone I hm, if_pos c, ob_s]
      dsimp only
      rw [if_neg (by decide)]
  · have hr : rd = 1 := by have := ok.1; omega
    have hl : π.2.2.1 = 0 := by omega
    have mc : ∀ J, MPl J rd τ π na ac im → J 112 (ix 27) = nI π.1 := fun J hJ => (hJ.2.2.1 hr).1
    have mw : ∀ J, MPl J rd τ π na ac im → J 112 (ix 28) = nI π.2.1 := fun J hJ => (hJ.2.2.1 hr).2.1
    have hX : fnX9_flip I = if 7 ≤ π.1 ∨ π.2.1 ≠ 2 then some ((-1000002), I) else (ob (fnX0_keep 27 I) fun I6 => bnd (up2 I6 27 1 0) fun I7 => some ((I7 27 0), I7)) := by
      unfold fnX9_flip fnX9_flip_40
      rw [hx.1, if_neg (show ¬ nI rd = 0 by rw [hr]; decide), xl, if_pos (show nI π.2.2.1 = 0 by rw [hl]; rfl), xc, xw]
      by_cases c1 : 7 ≤ π.1
      · rw [if_pos (c7.mpr c1), if_pos (Or.inl c1)]
      · rw [if_neg (fun q => c1 (c7.mp q))]
        by_cases c2 : π.2.1 = 2
        · rw [if_pos (w2.mpr c2), if_neg (by omega)]
        · rw [if_neg (fun q => c2 (w2.mp q)), if_pos (Or.inr c2)]
    have hM : ∀ J, MPl J rd τ π na ac im → fnX10_flip J = if 7 ≤ π.1 ∨ π.2.1 ≠ 2 then some ((-1000002), J) else (ob (fnX10_keepPast J) fun I10 => ck (inb 28 164) <| bnd (up2 I10 112 (ix 28) 0) fun I12 => ck (inb 27 164) <| some ((I12 112 (ix 27)), I12)) := fun J hJ => by
      unfold fnX10_flip fnX10_flip_30
      rw [gone J hJ, if_neg c, ob_s]
      dsimp only
      rw [if_pos (show (0 : Int32) = 0 from rfl), show inb 27 164 = true from rfl, ck_t, mc J hJ, mw J hJ]
      by_cases c1 : 7 ≤ π.1
      · rw [if_pos (c7.mpr c1), if_pos (Or.inl c1)]
      · rw [if_neg (fun q => c1 (c7.mp q)), show inb 28 164 = true from rfl, ck_t]
        by_cases c2 : π.2.1 = 2
        · rw [if_pos (w2.mpr c2), if_neg (by omega)]
        · rw [if_neg (fun q => c2 (w2.mp q)), if_pos (Or.inr c2)]
    by_cases cc : 7 ≤ π.1 ∨ π.2.1 ≠ 2
    · exact same (f := fnX9_flip) (g := fnX10_flip) ok hx hm (r := -1000002) (by rw [hX, if_pos cc]) (by rw [hM I hm, if_pos cc])
    · have ok2 := OK_keep hr ok
      have okp : Pk τ (π.1, 0, π.2.2) := ⟨⟨ok.2.2.1.1.1, by show 0 < 4; decide, ok.2.2.1.1.2.2⟩, ok.2.2.1.2⟩
      refine two (f := fnX9_flip) (g := fnX10_flip) (r := nI π.1) ok hm (OK_pl ok2 okp) ?_ (fun J hJ => ?_)
      · obtain ⟨I2, e1, e2, e3⟩ := XPl_keep ok hx
        rw [hX, if_neg cc, e1, ob_s, bnd_e]
        obtain ⟨q0, q1, q2, q3, q4, q5, q6, q7, q8⟩ := e2.2.2.1
        rw [show up2 I2 27 1 0 27 0 = nI π.1 by simp [up2_r, q0]]
        refine ⟨_, rfl, XPl_pl e2 FrP.p0 ?_, e3.tr (FX.fr27 FrP.p0)⟩
        refine ⟨?_, ?_, ?_, ?_, ?_, ?_, ?_, ?_, fun i hi => ?_⟩ <;> simp [up2_r, q0, q2, q3, q4, q5, q6, q7]
        · rfl
        · exact q8 i hi
      · obtain ⟨I2, e1, e2, e3⟩ := MPl_keep hr ok hJ
        rw [hM J hJ, if_neg cc, e1, ob_s, show inb 28 164 = true from rfl, ck_t, bnd_e, show inb 27 164 = true from rfl, ck_t, show ix 27 = 27 from rfl, show ix 28 = 28 from rfl]
        obtain ⟨q0, q1, q2, q3, q4, q5, q6, q7, q8⟩ := e2.2.2.1 hr
        simp only [Nat.zero_add] at q0 q1 q2 q3 q4 q5 q6 q7 q8
        rw [show up2 I2 112 28 0 112 27 = nI π.1 by simp [up2_r, q0]]
        have fr : FrM 0 I2 (up2 I2 112 28 0) := FrM.p (by omega) (by omega)
        refine ⟨_, rfl, MPl_pl ok2 e2 fr ?_, e3.tr (FM.mv fr)⟩
        refine ⟨?_, ?_, ?_, ?_, ?_, ?_, ?_, ?_, fun i hi => ?_⟩ <;> simp [up2_r, q0, q2, q3, q4, q5, q6, q7]
        · rfl
        · rw [if_neg (by omega)]
          exact q8 i hi
theorem onI_none {r : Option Nat} (h : ∀ p, r = some p → p < 42) : onI r = -1 ↔ r = none := by
  cases r with
  | none => exact ⟨fun _ => rfl, fun _ => rfl⟩
  | some p =>
    have := h p rfl
    exact ⟨fun q => absurd q (neg1_ne (by omega)), fun q => by cases q⟩
theorem onM_none {r : Option Nat} (h : ∀ p, r = some p → p < 42) : onM r = -1000000 ↔ r = none := by
  cases r with
  | none => exact ⟨fun _ => rfl, fun _ => rfl⟩
  | some p =>
    have := h p rfl
    exact ⟨fun q => absurd q (none_ne (by omega)), fun q => by cases q⟩
theorem pin42 {τ : Tb} (hT : Tok τ) {c : Nat} : ∀ p, pinOf τ c = some p → p < 42 := fun p h => by
  have := (pinOf_lt h).1
  have := hT.2.1
  omega
theorem p_put {I : Mem} (h : PlayR I) (p1 p2 : Int32) : ∃ r I1 I2, fnX9_put I p1 p2 = some (r, I1) ∧ fnX10_put I1 p1 p2 = some (r, I2) ∧ PlayR I2 ∧ PFr I I2 := by
  obtain ⟨rd, τ, π, na, ac, im, ok, hx, hm⟩ := h
  have hT := ok.2.1
  rcases rd_cases ok with r0 | hr
  · subst r0
    refine same (f := fun I => fnX9_put I p1 p2) (g := fun I => fnX10_put I p1 p2) ok hx hm (r := -1000002) ?_ ?_
    · show fnX9_put I p1 p2 = _
      unfold fnX9_put
      rw [hx.1, if_pos (show nI 0 = 0 from rfl)]
    · show fnX10_put I p1 p2 = _
      unfold fnX10_put
      rw [show inb 0 164 = true from rfl, ck_t, show I 112 (ix 0) = nI 0 from hm.1, if_pos (show nI 0 = 0 from rfl)]
  have hX : fnX9_put I p1 p2 = if upTo p1 (nI 41) = 0 then some ((-1000001), I) else if upTo p2 (nI 3) = 0 then some ((-1000001), I) else (ob (fnX7_pinIn 21 I p1) fun ⟨r12, I11⟩ => if r12 = (-1) then (ob (fnX0_keep 27 I11) fun I15 => ob (fnX4_place 27 I15 p1 p2) fun I17 => some (((p1 * 4) + p2), I17)) else (fnX9_put_39 I11)) := by
    unfold fnX9_put
    rw [hx.1, if_neg (show ¬ nI rd = 0 by rw [hr]; decide), isUpTo_e, ob_s]
    dsimp only
    rw [isUpTo_e, ob_s]
    rfl
  have hM : ∀ J, MPl J rd τ π na ac im → fnX10_put J p1 p2 = if upTo p1 (nI 41) = 0 then some ((-1000001), J) else (ob (fnX10_pinAt J p1) fun ⟨r9, I8⟩ => if r9 = (-1000000) then (if upTo p2 (nI 3) = 0 then (fnX10_put_46 I8) else (ob (fnX10_keepPast I8) fun I16 => up2 I16 112 (ix 27) p1 |> fun I18 => up2 I18 112 (ix 28) p2 |> fun I20 => up2 I20 112 (ix 29) 0 |> fun I22 => up2 I22 112 (ix 30) 0 |> fun I24 => some ((((4 : Int32) * p1) + p2), I24))) else (fnX10_put_46 I8)) := fun J hJ => by
    unfold fnX10_put
    rw [show inb 0 164 = true from rfl, ck_t, show J 112 (ix 0) = nI rd from hJ.1, if_neg (show ¬ nI rd = 0 by rw [hr]; decide), show (41 : Int64) = lN 41 from rfl, in_u J p1 41 (by decide), ob_s]
    dsimp only
    rw [show (3 : Int64) = lN 3 from rfl]
    simp only [fun J => in_u J p2 3 (by decide), ob_s, show inb 27 164 = true from rfl, show inb 28 164 = true from rfl, show inb 29 164 = true from rfl, show inb 30 164 = true from rfl, ck_t, bnd_e]
    rfl
  by_cases c1 : upTo p1 (nI 41) = 0
  · exact same (f := fun I => fnX9_put I p1 p2) (g := fun I => fnX10_put I p1 p2) ok hx hm (r := -1000001) (by show fnX9_put I p1 p2 = _; rw [hX, if_pos c1]) (by show fnX10_put I p1 p2 = _; rw [hM I hm, if_pos c1])
  obtain ⟨a, ha, rfl⟩ := upTo_of (m := 41) (by decide) c1
  have oI := onI_none (pin42 hT (c := a))
  have oM := onM_none (pin42 hT (c := a))
  rw [if_neg c1] at hX
  have hM1 : ∀ J, MPl J rd τ π na ac im → fnX10_put J (nI a) p2 = if pinOf τ a = none then (if upTo p2 (nI 3) = 0 then some ((-1000001), J) else (ob (fnX10_keepPast J) fun I16 => some ((((4 : Int32) * nI a) + p2), up2 (up2 (up2 (up2 I16 112 27 (nI a)) 112 28 p2) 112 29 0) 112 30 0))) else some ((-1000001), J) := fun J hJ => by
    rw [hM J hJ, if_neg c1, pinAt_e hT hJ.2.1 (by omega), ob_s]
    dsimp only
    by_cases c3 : pinOf τ a = none
    · rw [if_pos (oM.mpr c3), if_pos c3]; rfl
    · rw [if_neg (fun q => c3 (oM.mp q)), if_neg c3]; rfl
  by_cases c2 : upTo p2 (nI 3) = 0
  · refine same (f := fun I => fnX9_put I (nI a) p2) (g := fun I => fnX10_put I (nI a) p2) ok hx hm (r := -1000001) (by show fnX9_put I (nI a) p2 = _; rw [hX, if_pos c2]) ?_
    show fnX10_put I (nI a) p2 = _
    rw [hM1 I hm, if_pos c2]
    split <;> rfl
  obtain ⟨b, hb, rfl⟩ := upTo_of (m := 3) (by decide) c2
  rw [if_neg c2, pinIn_e hx.2.1 (by omega), ob_s] at hX
  dsimp only at hX
  by_cases c3 : pinOf τ a = none
  · rw [if_pos (oI.mpr c3)] at hX
    have ok2 := OK_keep hr ok
    have okp : Pk τ (a, b, 0, 0, π.2.2.2.2) := ⟨⟨by show a < 42; omega, by show b < 4; omega, by show 0 < 2; decide, Nat.zero_le _, ok.2.2.1.1.2.2.2.2⟩, fun _ => Nat.zero_le _⟩
    refine two (f := fun I => fnX9_put I (nI a) (nI b)) (g := fun I => fnX10_put I (nI a) (nI b)) (r := nI a * 4 + nI b) ok hm (OK_pl ok2 okp) ?_ (fun J hJ => ?_)
    · obtain ⟨I2, e1, e2, e3⟩ := XPl_keep ok hx
      show ∃ I1, fnX9_put I (nI a) (nI b) = _ ∧ _
      rw [hX, e1, ob_s]
      unfold fnX4_place
      simp only [bnd_e, ob_s]
      obtain ⟨q0, q1, q2, q3, q4, q5, q6, q7, q8⟩ := e2.2.2.1
      have fr : FrP 27 I2 (up2 (up2 (up2 (up2 I2 27 0 (nI a)) 27 1 (nI b)) 27 2 0) 27 3 0) := ((FrP.p0.tr FrP.p0).tr FrP.p0).tr FrP.p0
      refine ⟨_, rfl, XPl_pl e2 fr ?_, e3.tr (FX.fr27 fr)⟩
      refine ⟨?_, ?_, ?_, ?_, ?_, ?_, ?_, ?_, fun i hi => ?_⟩ <;> simp [up2_r, q4, q5, q6, q7]
      · rfl
      · rfl
      · exact q8 i hi
    · obtain ⟨I2, e1, e2, e3⟩ := MPl_keep hr ok hJ
      show ∃ I1, fnX10_put J (nI a) (nI b) = _ ∧ _
      rw [hM1 J hJ, if_pos c3, if_neg c2, e1, ob_s, show (4 : Int32) * nI a = nI a * 4 from Int32.mul_comm _ _]
      obtain ⟨q0, q1, q2, q3, q4, q5, q6, q7, q8⟩ := e2.2.2.1 hr
      simp only [Nat.zero_add] at q0 q1 q2 q3 q4 q5 q6 q7 q8
      have fr : FrM 0 I2 (up2 (up2 (up2 (up2 I2 112 27 (nI a)) 112 28 (nI b)) 112 29 0) 112 30 0) := (((FrM.p (by omega) (by omega)).tr (FrM.p (by omega) (by omega))).tr (FrM.p (by omega) (by omega))).tr (FrM.p (by omega) (by omega))
      refine ⟨_, rfl, MPl_pl ok2 e2 fr ?_, e3.tr (FM.mv fr)⟩
      refine ⟨?_, ?_, ?_, ?_, ?_, ?_, ?_, ?_, fun i hi => ?_⟩ <;> simp [up2_r, q4, q5, q6, q7]
      · rfl
      · rfl
      · rw [if_neg (by omega), if_neg (by omega), if_neg (by omega), if_neg (by omega)]
        exact q8 i hi
  · refine same (f := fun I => fnX9_put I (nI a) (nI b)) (g := fun I => fnX10_put I (nI a) (nI b)) ok hx hm (r := -1000001) ?_ ?_
    · show fnX9_put I (nI a) (nI b) = _
      rw [hX, if_neg (fun q => c3 (oI.mp q))]
      rfl
    · show fnX10_put I (nI a) (nI b) = _
      rw [hM1 I hm, if_neg c3]
