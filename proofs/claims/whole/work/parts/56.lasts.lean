/-! lasts -/
def lostA (τ : Tb) : Nat → Nat → Pl → Int32
  | 0, _, _ => -1000000
  | d + 1, k, π => if (stepA τ π).2.2.2.1 = 0 then lostA τ d (k + 1) (stepA τ π).2 else nI k
abbrev sameA (π π0 : Pl) : Prop := π.1 = π0.1 ∧ π.2.1 = π0.2.1 ∧ π.2.2.2.2.2.1 = π0.2.2.2.2.2.1 ∧ π.2.2.2.2.2.2.1 = π0.2.2.2.2.2.2.1
def againA (τ : Tb) (π0 : Pl) : Nat → Nat → Pl → Int32
  | 0, _, _ => -1000000
  | d + 1, k, π => if (stepA τ π).2.2.2.1 = 0 then (if sameA (stepA τ π).2 π0 then nI k else againA τ π0 d (k + 1) (stepA τ π).2) else -1000000
section
variable {τ : Tb} {π0 : Pl}
theorem isAs_e {I : Mem} {π : Pl} (h : PlX I 80 π) (h0 : PlX I 27 π0) (ok : Pok τ π) (ok0 : Pok τ π0) (hT : Tok τ) : fnX4_isAs 80 27 I = some ((if sameA π π0 then 1 else 0), I) := by
  obtain ⟨q0, q1, q2, q3, q4, q5, q6, q7, q8⟩ := h
  obtain ⟨s0, s1, s2, s3, s4, s5, s6, s7, s8⟩ := h0
  have g1 := g64 hT ok.2.2.2.2
  have g2 := g64 hT ok0.2.2.2.2
  have a1 := ok.1
  have a2 := ok0.1
  have b1 := ok.2.1
  have b2 := ok0.2.1
  have e1 : nI π.1 = nI π0.1 ↔ π.1 = π0.1 := nI_eq (by omega) (by omega)
  have e2 : nI π.2.1 = nI π0.2.1 ↔ π.2.1 = π0.2.1 := nI_eq (by omega) (by omega)
  have e3 : nI π.2.2.2.2.2.2.1 = nI π0.2.2.2.2.2.2.1 ↔ π.2.2.2.2.2.2.1 = π0.2.2.2.2.2.2.1 := nI_eq (by omega) (by omega)
  unfold fnX4_isAs fnX4_isAs_48 fnX4_isAs_49
  rw [q0, q1, q5, q6, s0, s1, s5, s6]
  unfold sameA
  simp only [e1, e2, e3]
  by_cases c1 : π.1 = π0.1
  · by_cases c2 : π.2.1 = π0.2.1
    · by_cases c3 : π.2.2.2.2.2.1 = π0.2.2.2.2.2.1
      · by_cases c4 : π.2.2.2.2.2.2.1 = π0.2.2.2.2.2.2.1
        · simp only [c1, c2, c3, c4, if_true, and_self]; rfl
        · simp only [c1, c2, c3, c4, if_true, if_false, and_false, and_true]; rfl
      · simp only [c1, c2, c3, if_true, if_false, and_false, false_and]; rfl
    · simp only [c1, c2, if_true, if_false, and_false, false_and]; rfl
  · simp only [c1, if_false, false_and]; rfl
theorem lostX (hT : Tok τ) : ∀ (d k fu : Nat) (I : Mem) (π : Pl), k + d = 501 → d < fu → TabX I 21 τ → PlX I 80 π → Pok τ π → ∃ I1, fnX9_stepsTillLost_13 fu I (nI k) = some (lostA τ d k π, I1) ∧ FrP 80 I I1
  | d, k, 0, _, _, _, h2, _, _, _ => absurd h2 (by omega)
  | 0, k, fu + 1, I, π, h1, _, _, hp, ok => by
    show ∃ I1, fnX9_stepsTillLost_13b _ I _ = _ ∧ _
    unfold fnX9_stepsTillLost_13b
    rw [if_pos (show (500 : Int32) < nI k from nI_lt (a := 500) (by omega) (by omega))]
    exact ⟨I, rfl, FrP.rf⟩
  | d + 1, k, fu + 1, I, π, h1, h2, ht, hp, ok => by
    show ∃ I1, fnX9_stepsTillLost_13b _ I _ = _ ∧ _
    unfold fnX9_stepsTillLost_13b
    rw [if_neg (show ¬ (500 : Int32) < nI k from nI_nlt (a := 500) (by omega) (by omega))]
    obtain ⟨I3, s1, s2, _, s4⟩ := step_e (t := 21) (a := 80) hT ht hp ok (by omega)
    have ok3 := stepA_ok hT ok
    rw [s1, ob_s, s2.2.2.1]
    by_cases c : (stepA τ π).2.2.2.1 = 0
    · rw [show lostA τ (d + 1) k π = lostA τ d (k + 1) (stepA τ π).2 from if_pos c, if_pos (show nI (stepA τ π).2.2.2.1 = 0 by rw [c]; rfl), bnd_e, nI_1]
      obtain ⟨I4, r1, r2⟩ := lostX hT d (k + 1) fu I3 _ (by omega) (by omega) (TabX_fr ht s4 (by omega)) s2 ok3
      exact ⟨I4, r1, s4.tr r2⟩
    · rw [show lostA τ (d + 1) k π = nI k from if_neg c, if_neg (nl0 ok3.2.2.1 c)]
      exact ⟨I3, rfl, s4⟩
theorem lostM (hT : Tok τ) : ∀ (d k fu : Nat) (I : Mem) (π : Pl), k + d = 501 → d < fu → TabM I τ → PlM I 123 π → Pok τ π → π.2.2.1 = 0 → ∃ I1, fnX10_lasts_48 fu I 0 (nI k) = some (lostA τ d k π, I1) ∧ FrT I I1
  | d, k, 0, _, _, _, h2, _, _, _, _ => absurd h2 (by omega)
  | 0, k, fu + 1, I, π, h1, _, _, hp, ok, _ => by
    show ∃ I1, fnX10_lasts_48b _ I _ _ = _ ∧ _
    unfold fnX10_lasts_48b fnX10_lasts_62 fnX10_lasts_117
    rw [if_pos rfl, if_pos (show (500 : Int32) < nI k from nI_lt (a := 500) (by omega) (by omega))]
    exact ⟨I, rfl, FrT.rf⟩
  | d + 1, k, fu + 1, I, π, h1, h2, ht, hp, ok, hl => by
    show ∃ I1, fnX10_lasts_48b _ I _ _ = _ ∧ _
    unfold fnX10_lasts_48b fnX10_lasts_62 fnX10_lasts_109 fnX10_lasts_111
    obtain ⟨I3, s1, s2, s4⟩ := stepM_e (b := 123) hT (Or.inr rfl) ht hp ok
    have ok3 := stepA_ok hT ok
    rw [if_pos rfl, if_neg (show ¬ (500 : Int32) < nI k from nI_nlt (a := 500) (by omega) (by omega)), show inb 152 164 = true from rfl, ck_t, show I 112 (ix 152) = nI π.2.2.1 from hp.2.2.1, if_pos (show nI π.2.2.1 = 0 by rw [hl]; rfl), show (123 : Int32) = nI 123 from rfl, s1, ob_s]
    dsimp only
    rw [if_pos rfl, ck_t, show I3 112 (ix 152) = nI (stepA τ π).2.2.2.1 from s2.2.2.1]
    by_cases c : (stepA τ π).2.2.2.1 = 0
    · rw [show lostA τ (d + 1) k π = lostA τ d (k + 1) (stepA τ π).2 from if_pos c, if_neg (show ¬ nI (stepA τ π).2.2.2.1 = 1 by rw [c]; decide), bnd_e, nI_1]
      obtain ⟨I4, r1, r2⟩ := lostM hT d (k + 1) fu I3 _ (by omega) (by omega) (TabM_fr hT ht s4) s2 ok3 c
      exact ⟨I4, r1, (FrT.m s4).tr r2⟩
    · have c1 : (stepA τ π).2.2.2.1 = 1 := by have := ok3.2.2.1; omega
      rw [show lostA τ (d + 1) k π = nI k from if_neg c, if_pos (show nI (stepA τ π).2.2.2.1 = 1 by rw [c1]; rfl)]
      exact ⟨I3, rfl, FrT.m s4⟩
theorem againX (hT : Tok τ) (ok0 : Pok τ π0) : ∀ (d k fu : Nat) (I : Mem) (π : Pl), k + d = 401 → d < fu → TabX I 21 τ → PlX I 27 π0 → PlX I 80 π → Pok τ π → ∃ I1, fnX9_stepsTillAgain_13 fu I (nI k) = some (againA τ π0 d k π, I1) ∧ FrP 80 I I1
  | d, k, 0, _, _, _, h2, _, _, _, _ => absurd h2 (by omega)
  | 0, k, fu + 1, I, π, h1, _, _, _, hp, ok => by
    show ∃ I1, fnX9_stepsTillAgain_13b _ I _ = _ ∧ _
    unfold fnX9_stepsTillAgain_13b
    rw [if_pos (show (400 : Int32) < nI k from nI_lt (a := 400) (by omega) (by omega))]
    exact ⟨I, rfl, FrP.rf⟩
  | d + 1, k, fu + 1, I, π, h1, h2, ht, h0, hp, ok => by
    show ∃ I1, fnX9_stepsTillAgain_13b _ I _ = _ ∧ _
    unfold fnX9_stepsTillAgain_13b
    rw [if_neg (show ¬ (400 : Int32) < nI k from nI_nlt (a := 400) (by omega) (by omega))]
    obtain ⟨I3, s1, s2, _, s4⟩ := step_e (t := 21) (a := 80) hT ht hp ok (by omega)
    have ok3 := stepA_ok hT ok
    have h03 := PlX_fr h0 s4 (by omega)
    rw [s1, ob_s, s2.2.2.1]
    by_cases c : (stepA τ π).2.2.2.1 = 0
    · rw [show againA τ π0 (d + 1) k π = (if sameA (stepA τ π).2 π0 then nI k else againA τ π0 d (k + 1) (stepA τ π).2) from if_pos c, if_pos (show nI (stepA τ π).2.2.2.1 = 0 by rw [c]; rfl), isAs_e s2 h03 ok3 ok0 hT, ob_s]
      by_cases c2 : sameA (stepA τ π).2 π0
      · simp only [if_pos c2]
        rw [if_neg (show ¬ (1 : Int32) = 0 by decide)]
        exact ⟨I3, rfl, s4⟩
      · simp only [if_neg c2]
        rw [if_pos trivial, bnd_e, nI_1]
        obtain ⟨I4, r1, r2⟩ := againX hT ok0 d (k + 1) fu I3 _ (by omega) (by omega) (TabX_fr ht s4 (by omega)) h03 s2 ok3
        exact ⟨I4, r1, s4.tr r2⟩
    · rw [show againA τ π0 (d + 1) k π = -1000000 from if_neg c, if_neg (nl0 ok3.2.2.1 c)]
      exact ⟨I3, rfl, s4⟩
theorem isAsNow_e {I : Mem} {π : Pl} (h : PlM I 123 π) (h0 : PlM I 0 π0) (ok : Pok τ π) (ok0 : Pok τ π0) (hT : Tok τ) : fnX10_isAsNow I = some ((if π.2.2.1 = 0 ∧ sameA π π0 then 1 else 0), I) := by
  obtain ⟨q0, q1, q2, q3, q4, q5, q6, q7, q8⟩ := h
  obtain ⟨s0, s1, s2, s3, s4, s5, s6, s7, s8⟩ := h0
  simp only [Nat.zero_add, Nat.reduceAdd] at q0 q1 q2 q5 q6 s0 s1 s5 s6
  have g1 := g64 hT ok.2.2.2.2
  have g2 := g64 hT ok0.2.2.2.2
  have a1 := ok.1
  have a2 := ok0.1
  have b1 := ok.2.1
  have b2 := ok0.2.1
  have hl := ok.2.2.1
  have e0 : nI π.2.2.1 = 0 ↔ π.2.2.1 = 0 := nI_eq (b := 0) (by omega) (by decide)
  have e1 : nI π.1 = nI π0.1 ↔ π.1 = π0.1 := nI_eq (by omega) (by omega)
  have e2 : nI π.2.1 = nI π0.2.1 ↔ π.2.1 = π0.2.1 := nI_eq (by omega) (by omega)
  have e3 : nI π.2.2.2.2.2.2.1 = nI π0.2.2.2.2.2.2.1 ↔ π.2.2.2.2.2.2.1 = π0.2.2.2.2.2.2.1 := nI_eq (by omega) (by omega)
  unfold fnX10_isAsNow fnX10_isAsNow_87 fnX10_isAsNow_88
  rw [show inb 152 164 = true from rfl, show inb 150 164 = true from rfl, show inb 151 164 = true from rfl, show inb 155 164 = true from rfl, show inb 157 164 = true from rfl, show inb 27 164 = true from rfl, show inb 28 164 = true from rfl, show inb 32 164 = true from rfl, show inb 34 164 = true from rfl]
  simp only [ck_t]
  rw [show I 112 (ix 152) = _ from q2, show I 112 (ix 150) = _ from q0, show I 112 (ix 151) = _ from q1, show I 112 (ix 155) = _ from q5, show I 112 (ix 157) = _ from q6, show I 112 (ix 27) = _ from s0, show I 112 (ix 28) = _ from s1, show I 112 (ix 32) = _ from s5, show I 112 (ix 34) = _ from s6]
  unfold sameA
  simp only [e0, e1, e2, e3]
  by_cases c0 : π.2.2.1 = 0
  · by_cases c1 : π.1 = π0.1
    · by_cases c2 : π.2.1 = π0.2.1
      · by_cases c3 : π.2.2.2.2.2.1 = π0.2.2.2.2.2.1
        · by_cases c4 : π.2.2.2.2.2.2.1 = π0.2.2.2.2.2.2.1
          · simp only [c0, c1, c2, c3, c4, if_true, and_self]; rfl
          · simp only [c0, c1, c2, c3, c4, if_true, if_false, and_false, and_true]; rfl
        · simp only [c0, c1, c2, c3, if_true, if_false, and_false, false_and]; rfl
      · simp only [c0, c1, c2, if_true, if_false, and_false, false_and]; rfl
    · simp only [c0, c1, if_true, if_false, and_false, false_and]; rfl
  · simp only [c0, if_false, false_and]; rfl
theorem againM (hT : Tok τ) (ok0 : Pok τ π0) : ∀ (d k fu : Nat) (I : Mem) (π : Pl), k + d = 401 → d < fu → TabM I τ → PlM I 0 π0 → PlM I 123 π → Pok τ π → π.2.2.1 = 0 → ∃ I1, fnX10_lasts_48 fu I 1 (nI k) = some (againA τ π0 d k π, I1) ∧ FrT I I1
  | d, k, 0, _, _, _, h2, _, _, _, _, _ => absurd h2 (by omega)
  | 0, k, fu + 1, I, π, h1, _, _, _, hp, ok, _ => by
    show ∃ I1, fnX10_lasts_48b _ I _ _ = _ ∧ _
    unfold fnX10_lasts_48b fnX10_lasts_62 fnX10_lasts_117
    rw [if_neg (by decide), if_pos (show (400 : Int32) < nI k from nI_lt (a := 400) (by omega) (by omega))]
    exact ⟨I, rfl, FrT.rf⟩
  | d + 1, k, fu + 1, I, π, h1, h2, ht, h0, hp, ok, hl => by
    show ∃ I1, fnX10_lasts_48b _ I _ _ = _ ∧ _
    unfold fnX10_lasts_48b fnX10_lasts_62 fnX10_lasts_109 fnX10_lasts_111
    obtain ⟨I3, s1, s2, s4⟩ := stepM_e (b := 123) hT (Or.inr rfl) ht hp ok
    have ok3 := stepA_ok hT ok
    have h03 : PlM I3 0 π0 := PlM_ag h0 (fun j _ _ => s4.2 j (by omega))
    rw [if_neg (show ¬ (1 : Int32) = 0 by decide), if_neg (show ¬ (400 : Int32) < nI k from nI_nlt (a := 400) (by omega) (by omega)), show inb 152 164 = true from rfl, ck_t, show I 112 (ix 152) = nI π.2.2.1 from hp.2.2.1, if_pos (show nI π.2.2.1 = 0 by rw [hl]; rfl), show (123 : Int32) = nI 123 from rfl, s1, ob_s]
    dsimp only
    rw [if_neg (show ¬ (1 : Int32) = 0 by decide), isAsNow_e s2 h03 ok3 ok0 hT, ob_s]
    by_cases c : (stepA τ π).2.2.2.1 = 0
    · rw [show againA τ π0 (d + 1) k π = (if sameA (stepA τ π).2 π0 then nI k else againA τ π0 d (k + 1) (stepA τ π).2) from if_pos c]
      by_cases c2 : sameA (stepA τ π).2 π0
      · have cc : (stepA τ π).2.2.2.1 = 0 ∧ sameA (stepA τ π).2 π0 := ⟨c, c2⟩
        simp only [if_pos cc, if_pos c2]
        rw [if_neg (show ¬ (1 : Int32) = 0 by decide)]
        exact ⟨I3, rfl, FrT.m s4⟩
      · have cc : ¬ ((stepA τ π).2.2.2.1 = 0 ∧ sameA (stepA τ π).2 π0) := fun q => c2 q.2
        simp only [if_neg cc, if_neg c2]
        rw [if_pos trivial, bnd_e, nI_1]
        obtain ⟨I4, r1, r2⟩ := againM hT ok0 d (k + 1) fu I3 _ (by omega) (by omega) (TabM_fr hT ht s4) h03 s2 ok3 c
        exact ⟨I4, r1, (FrT.m s4).tr r2⟩
    · have cc : ¬ ((stepA τ π).2.2.2.1 = 0 ∧ sameA (stepA τ π).2 π0) := fun q => c q.1
      simp only [if_neg cc]
      rw [show againA τ π0 (d + 1) k π = -1000000 from if_neg c, if_pos trivial, bnd_e, nI_1]
      obtain ⟨f2, rfl⟩ : ∃ f2, fu = f2 + 1 := ⟨fu - 1, by omega⟩
      refine ⟨I3, ?_, FrT.m s4⟩
      show fnX10_lasts_48b _ I3 _ _ = _
      unfold fnX10_lasts_48b fnX10_lasts_62 fnX10_lasts_117
      rw [if_neg (show ¬ (1 : Int32) = 0 by decide), show inb 152 164 = true from rfl, ck_t, show I3 112 (ix 152) = nI (stepA τ π).2.2.2.1 from s2.2.2.1, if_neg (nl0 ok3.2.2.1 c)]
      split <;> rfl
end
theorem p_lasts {I : Mem} (h : PlayR I) (p1 : Int32) : ∃ r I1 I2, fnX9_lasts I p1 = some (r, I1) ∧ fnX10_lasts I1 p1 = some (r, I2) ∧ PlayR I2 ∧ PFr I I2 := by
  obtain ⟨rd, τ, π, na, ac, im, ok, hx, hm⟩ := h
  rcases rd_cases ok with h0 | hr
  · refine same (f := fun I => fnX9_lasts I p1) (g := fun I => fnX10_lasts I p1) ok hx hm (r := -1000002) ?_ ?_
    · show fnX9_lasts I p1 = _
      unfold fnX9_lasts
      rw [hx.1, if_pos (by rw [h0]; rfl)]
    · show fnX10_lasts I p1 = _
      unfold fnX10_lasts
      rw [show inb 0 164 = true from rfl, ck_t, show I 112 (ix 0) = nI rd from hm.1, if_pos (by rw [h0]; rfl)]
  have hX : fnX9_lasts I p1 = if upTo p1 (nI 1) = 0 then some ((-1000001), I) else (if (I 27 2) = 0 then (if p1 = 0 then (ob (fnX9_stepsTillLost I) fun ⟨r13, I12⟩ => fnX9_lasts_49 I12 r13) else (ob (fnX9_stepsTillAgain I) fun ⟨r10, I9⟩ => fnX9_lasts_49 I9 r10)) else (some ((-1000002), I))) := by
    unfold fnX9_lasts
    rw [hx.1, if_neg (show ¬ nI rd = 0 by rw [hr]; decide), isUpTo_e, ob_s]
    rfl
  have hM : ∀ J, MPl J rd τ π na ac im → fnX10_lasts J p1 = if upTo p1 (nI 1) = 0 then some ((-1000001), J) else if (J 112 (ix 29)) = 1 then (some ((-1000002), J)) else (ob (fnX10_copyRow J 0 123) fun I10 => fnX10_lasts_48 FU I10 p1 1) := fun J hJ => by
    unfold fnX10_lasts
    rw [show inb 0 164 = true from rfl, ck_t, show J 112 (ix 0) = nI rd from hJ.1, if_neg (show ¬ nI rd = 0 by rw [hr]; decide), show (1 : Int64) = lN 1 from rfl, in_u J p1 1 (by decide), ob_s]
    rfl
  by_cases c1 : upTo p1 (nI 1) = 0
  · exact same (f := fun I => fnX9_lasts I p1) (g := fun I => fnX10_lasts I p1) ok hx hm (r := -1000001) (by show fnX9_lasts I p1 = _; rw [hX, if_pos c1]) (by show fnX10_lasts I p1 = _; rw [hM I hm, if_pos c1])
  have hl2 := ok.2.2.1.1.2.2.1
  have ml : ∀ J, MPl J rd τ π na ac im → J 112 (ix 29) = nI π.2.2.1 := fun J hJ => (hJ.2.2.1 hr).2.2.1
  rw [if_neg c1, hx.2.2.1.2.2.1] at hX
  by_cases cl : π.2.2.1 = 0
  · obtain ⟨n, hn, rfl⟩ := upTo_of (m := 1) (by decide) c1
    have pok := ok.2.2.1.1
    obtain ⟨I1, b1, b2, b3⟩ := probeX ok hx
    have hx1 := XPl_pr hx b3
    rw [if_pos (show nI π.2.2.1 = 0 by rw [cl]; rfl)] at hX
    rcases (show n = 0 ∨ n = 1 by omega) with rfl | rfl
    · obtain ⟨I2, e1, e2⟩ := lostX ok.2.1 500 1 FU I1 π (by omega) (by unfold FU; omega) hx1.2.1 b2 pok
      refine two (f := fun I => fnX9_lasts I (nI 0)) (g := fun I => fnX10_lasts I (nI 0)) (r := lostA τ 500 1 π) ok hm ok ⟨I2, ?_, XPl_pr hx1 e2, FX.p80 (b3.tr e2)⟩ (fun J hJ => ?_)
      · show fnX9_lasts I (nI 0) = _
        unfold fnX9_stepsTillLost at hX
        rw [hX, if_pos (by decide), b1, ob_s, show (1 : Int32) = nI 1 from rfl, e1, ob_s]
        rfl
      · obtain ⟨J1, a1, a2, a3⟩ := probeM hr hJ
        obtain ⟨J2, g1, g3⟩ := lostM ok.2.1 500 1 FU J1 π (by omega) (by unfold FU; omega) (TabM_t ok.2.1 hJ.2.1 a3) a2 pok cl
        refine ⟨J2, ?_, MPl_t ok hJ (a3.tr g3), (a3.tr g3).fm⟩
        show fnX10_lasts J (nI 0) = _
        rw [hM J hJ, if_neg c1, ml J hJ, if_neg (by rw [cl]; decide), a1, ob_s]
        exact g1
    · obtain ⟨I2, e1, e2⟩ := againX ok.2.1 pok 400 1 FU I1 π (by omega) (by unfold FU; omega) hx1.2.1 hx1.2.2.1 b2 pok
      refine two (f := fun I => fnX9_lasts I (nI 1)) (g := fun I => fnX10_lasts I (nI 1)) (r := againA τ π 400 1 π) ok hm ok ⟨I2, ?_, XPl_pr hx1 e2, FX.p80 (b3.tr e2)⟩ (fun J hJ => ?_)
      · show fnX9_lasts I (nI 1) = _
        unfold fnX9_stepsTillAgain at hX
        rw [hX, if_neg (by decide), b1, ob_s, show (1 : Int32) = nI 1 from rfl, e1, ob_s]
        rfl
      · obtain ⟨J1, a1, a2, a3⟩ := probeM hr hJ
        obtain ⟨J2, g1, g3⟩ := againM ok.2.1 pok 400 1 FU J1 π (by omega) (by unfold FU; omega) (TabM_t ok.2.1 hJ.2.1 a3) (PlM_ag (hJ.2.2.1 hr) (fun j _ _ => a3.2 j (by omega))) a2 pok cl
        refine ⟨J2, ?_, MPl_t ok hJ (a3.tr g3), (a3.tr g3).fm⟩
        show fnX10_lasts J (nI 1) = _
        rw [hM J hJ, if_neg c1, ml J hJ, if_neg (by rw [cl]; decide), a1, ob_s]
        exact g1
  · have cl1 : π.2.2.1 = 1 := by omega
    exact same (f := fun I => fnX9_lasts I p1) (g := fun I => fnX10_lasts I p1) ok hx hm (r := -1000002) (by show fnX9_lasts I p1 = _; rw [hX, if_neg (nl0 hl2 cl)]) (by show fnX10_lasts I p1 = _; rw [hM I hm, if_neg c1, ml I hm, if_pos (by rw [cl1]; rfl)])
