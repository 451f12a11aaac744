/-! foretold: ahead, lasts -/
def runA (τ : Tb) : Nat → Pl → Pl
  | 0, π => π
  | d + 1, π => if π.2.2.1 = 0 then runA τ d (stepA τ π).2 else π
def noS (π : Pl) : Pl := (π.1, π.2.1, π.2.2.1, 0, π.2.2.2.2)
theorem noS_step (τ : Tb) (π : Pl) : stepA τ (noS π) = ((stepA τ π).1, noS (stepA τ π).2) := by
  obtain ⟨c, w, lost, sh, score, lit, g, steps, st⟩ := π
  unfold noS stepA
  by_cases c1 : w = 2 ∧ c < 7
  · simp only [if_pos c1, Nat.zero_sub]
  · simp only [if_neg c1]
    by_cases c2 : sideA c w = true
    · simp only [c2, if_true, Nat.zero_sub]
    · simp only [c2]
      cases pinOf τ (goA c w) <;> rfl
theorem noS_run (τ : Tb) : ∀ (d : Nat) (π : Pl), runA τ d (noS π) = noS (runA τ d π)
  | 0, _ => rfl
  | d + 1, π => by
    have hl : (noS π).2.2.1 = π.2.2.1 := rfl
    by_cases c : π.2.2.1 = 0
    · rw [show runA τ (d + 1) π = runA τ d (stepA τ π).2 from if_pos c, show runA τ (d + 1) (noS π) = runA τ d (stepA τ (noS π)).2 from if_pos c, noS_step]
      exact noS_run τ d _
    · rw [show runA τ (d + 1) π = π from if_neg c, show runA τ (d + 1) (noS π) = noS π from if_neg c]
theorem runA_ok {τ : Tb} (hT : Tok τ) : ∀ (d : Nat) (π : Pl), Pok τ π → Pok τ (runA τ d π)
  | 0, _, h => h
  | d + 1, π, h => by
    unfold runA
    split
    · exact runA_ok hT d _ (stepA_ok hT h)
    · exact h
section
variable {τ : Tb}
theorem nl0 {l : Nat} (h : l < 2) (c : ¬ l = 0) : ¬ nI l = 0 := nz (by omega) c
theorem runX {n : Nat} (hn : n ≤ 200) (hT : Tok τ) : ∀ (d k fu : Nat) (I : Mem) (π : Pl), k + d = n → d < fu → TabX I 21 τ → PlX I 80 π → Pok τ π → ∃ I1, fnX4_run_2 80 21 fu I (nI n) (nI k) = some I1 ∧ PlX I1 80 (runA τ d π) ∧ FrP 80 I I1
  | d, k, 0, _, _, _, h2, _, _, _ => absurd h2 (by omega)
  | 0, k, fu + 1, I, π, h1, _, _, hp, ok => by
    show ∃ I1, fnX4_run_2b 80 21 _ I _ _ = _ ∧ _
    unfold fnX4_run_2b fnX4_run_25
    rw [if_pos (show nI n ≤ nI k from nI_le (by omega) (by omega))]
    exact ⟨I, rfl, hp, FrP.rf⟩
  | d + 1, k, fu + 1, I, π, h1, h2, ht, hp, ok => by
    show ∃ I1, fnX4_run_2b 80 21 _ I _ _ = _ ∧ _
    unfold fnX4_run_2b fnX4_run_25
    rw [if_neg (show ¬ nI n ≤ nI k from nI_ge (by omega) (by omega)), hp.2.2.1]
    by_cases c : π.2.2.1 = 0
    · rw [show runA τ (d + 1) π = runA τ d (stepA τ π).2 from if_pos c, if_pos (show nI π.2.2.1 = 0 by rw [c]; rfl)]
      obtain ⟨I3, s1, s2, _, s4⟩ := step_e (t := 21) (a := 80) hT ht hp ok (by omega)
      rw [s1, ob_s, bnd_e, nI_1]
      obtain ⟨I4, r1, r2, r3⟩ := runX hn hT d (k + 1) fu I3 _ (by omega) (by omega) (TabX_fr ht s4 (by omega)) s2 (stepA_ok hT ok)
      exact ⟨I4, r1, r2, s4.tr r3⟩
    · rw [show runA τ (d + 1) π = π from if_neg c, if_neg (nl0 ok.2.2.1 c)]
      exact ⟨I, rfl, hp, FrP.rf⟩
theorem run_e {n : Nat} (hn : n ≤ 200) (hT : Tok τ) {I : Mem} {π : Pl} (ht : TabX I 21 τ) (hp : PlX I 80 π) (ok : Pok τ π) : ∃ I1, fnX4_run 80 21 I (nI n) = some I1 ∧ PlX I1 80 (runA τ n π) ∧ FrP 80 I I1 := runX hn hT n 0 FU I π (by omega) (by unfold FU; omega) ht hp ok
theorem runM {n : Nat} (hn : n ≤ 200) (hT : Tok τ) (l2 : Int32) : ∀ (d k fu : Nat) (I : Mem) (π : Pl), k + d = n → d < fu → TabM I τ → PlM I 123 π → Pok τ π → ∃ I1, fnX10_ahead_48 fu I (nI n) l2 (nI k) = fnX10_ahead_77 I1 l2 ∧ PlM I1 123 (runA τ d π) ∧ FrM 123 I I1
  | d, k, 0, _, _, _, h2, _, _, _ => absurd h2 (by omega)
  | 0, k, fu + 1, I, π, h1, _, _, hp, ok => by
    show ∃ I1, fnX10_ahead_48b _ I _ _ _ = _ ∧ _
    unfold fnX10_ahead_48b
    rw [if_pos (show nI n ≤ nI k from nI_le (by omega) (by omega))]
    exact ⟨I, rfl, hp, FrM.rf⟩
  | d + 1, k, fu + 1, I, π, h1, h2, ht, hp, ok => by
    show ∃ I1, fnX10_ahead_48b _ I _ _ _ = _ ∧ _
    unfold fnX10_ahead_48b
    rw [if_neg (show ¬ nI n ≤ nI k from nI_ge (by omega) (by omega)), show inb 152 164 = true from rfl, ck_t, show I 112 (ix 152) = nI π.2.2.1 from hp.2.2.1]
    by_cases c : π.2.2.1 = 0
    · rw [show runA τ (d + 1) π = runA τ d (stepA τ π).2 from if_pos c, if_pos (show nI π.2.2.1 = 0 by rw [c]; rfl)]
      obtain ⟨I3, s1, s2, s4⟩ := stepM_e (b := 123) hT (Or.inr rfl) ht hp ok
      rw [show (123 : Int32) = nI 123 from rfl, s1, ob_s]
      dsimp only
      rw [bnd_e, nI_1]
      obtain ⟨I4, r1, r2, r3⟩ := runM hn hT l2 d (k + 1) fu I3 _ (by omega) (by omega) (TabM_fr hT ht s4) s2 (stepA_ok hT ok)
      exact ⟨I4, r1, r2, s4.tr r3⟩
    · rw [show runA τ (d + 1) π = π from if_neg c, if_neg (nl0 ok.2.2.1 c)]
      exact ⟨I, rfl, hp, FrM.rf⟩
/-- what foretelling writes: the probe; the tried row -/
theorem probeX {I : Mem} {rd : Nat} {π : Pl} {na : Nat} {ac : Nat → Pl} {im : Im} (ok : OK rd τ π na ac im) (hx : XPl I rd τ π na ac im) : ∃ I1, fnX4_become 80 27 I = some I1 ∧ PlX I1 80 π ∧ FrP 80 I I1 := become_e hx.2.2.1 ok.2.2.1.1.2.2.1 (by omega)
theorem FrM_mv {J : Mem} : (∀ x, x ≠ 112 → mv2 J 112 0 112 123 41 x = J x) ∧ ∀ j, j < 123 → mv2 J 112 0 112 123 41 112 j = J 112 j := ⟨fun x hx => mv2_ne hx, fun j hj => by rw [mv2_r, if_neg (by omega)]⟩
/-- nothing but the tried row is written -/
def FrT (I I1 : Mem) : Prop := (∀ x, x ≠ 112 → I1 x = I x) ∧ ∀ j, j < 123 → I1 112 j = I 112 j
theorem FrT.rf {I : Mem} : FrT I I := ⟨fun _ _ => rfl, fun _ _ => rfl⟩
theorem FrT.tr {I I1 I2 : Mem} (h : FrT I I1) (h2 : FrT I1 I2) : FrT I I2 := ⟨fun x a => (h2.1 x a).trans (h.1 x a), fun y hy => (h2.2 y hy).trans (h.2 y hy)⟩
theorem FrT.m {I I1 : Mem} (h : FrM 123 I I1) : FrT I I1 := ⟨h.1, fun j hj => h.2 j (by omega)⟩
theorem FrT.fm {I I1 : Mem} (h : FrT I I1) : FM I I1 := ⟨fun x _ c _ => h.1 x c, fun y _ => congrFun (h.1 111 (by omega)) y⟩
theorem MPl_t {I I1 : Mem} {rd : Nat} {π : Pl} {na : Nat} {ac : Nat → Pl} {im : Im} (ok : OK rd τ π na ac im) (h : MPl I rd τ π na ac im) (hf : FrT I I1) : MPl I1 rd τ π na ac im := MPl_ag ok h hf.2 (hf.1 113 (by omega)) (congrFun (hf.1 111 (by omega)) 2)
theorem TabM_t {I I1 : Mem} (hT : Tok τ) (h : TabM I τ) (hf : FrT I I1) : TabM I1 τ := TabM_B.mpr (TabB_ag hT (TabM_B.mp h) (fun j _ _ => hf.2 j (by omega)))
theorem probeM {I : Mem} {rd : Nat} {π : Pl} {na : Nat} {ac : Nat → Pl} {im : Im} (hr : rd = 1) (hm : MPl I rd τ π na ac im) : ∃ I1, fnX10_copyRow I 0 123 = some I1 ∧ PlM I1 123 π ∧ FrT I I1 := ⟨_, copyRow_e (f := 0) (t := 123) (by omega) (by omega) (by omega) I, PlM_mv (hm.2.2.1 hr), FrM_mv⟩
theorem FX.p80 {I I1 : Mem} (h : FrP 80 I I1) : FX I I1 := FX.pl h (by omega)
end
theorem p_ahead {I : Mem} (h : PlayR I) (p1 p2 : Int32) : ∃ r I1 I2, fnX9_ahead I p1 p2 = some (r, I1) ∧ fnX10_ahead I1 p1 p2 = some (r, I2) ∧ PlayR I2 ∧ PFr I I2 := by
  obtain ⟨rd, τ, π, na, ac, im, ok, hx, hm⟩ := h
  rcases rd_cases ok with h0 | hr
  · refine same (f := fun I => fnX9_ahead I p1 p2) (g := fun I => fnX10_ahead I p1 p2) ok hx hm (r := -1000002) ?_ ?_
    · show fnX9_ahead I p1 p2 = _
      unfold fnX9_ahead
      rw [hx.1, if_pos (by rw [h0]; rfl)]
    · show fnX10_ahead I p1 p2 = _
      unfold fnX10_ahead
      rw [show inb 0 164 = true from rfl, ck_t, show I 112 (ix 0) = nI rd from hm.1, if_pos (by rw [h0]; rfl)]
  have hX : fnX9_ahead I p1 p2 = if upTo p1 (nI 200) = 0 then some ((-1000001), I) else if upTo p2 (nI 3) = 0 then some ((-1000001), I) else (ob (fnX4_become 80 27 I) fun I11 => ob (fnX4_run 80 21 I11 p1) fun I13 => if p2 = 0 then (if (I13 80 2) = 0 then (fnX9_ahead_102 I13 (I13 80 0)) else (fnX9_ahead_102 I13 (-1000000))) else if p2 = 1 then (some ((I13 80 1), I13)) else if p2 = 2 then (some ((I13 80 4), I13)) else (some ((I13 80 5), I13))) := by
    unfold fnX9_ahead fnX9_ahead_28
    rw [hx.1, if_neg (show ¬ nI rd = 0 by rw [hr]; decide), isUpTo_e, ob_s]
    dsimp only
    rw [isUpTo_e, ob_s]
    rfl
  have hM : ∀ J, MPl J rd τ π na ac im → fnX10_ahead J p1 p2 = if upTo p1 (nI 200) = 0 then some ((-1000001), J) else if upTo p2 (nI 3) = 0 then some ((-1000001), J) else (ob (fnX10_copyRow J 0 123) fun I12 => fnX10_ahead_48 FU I12 p1 p2 0) := fun J hJ => by
    unfold fnX10_ahead fnX10_ahead_36
    rw [show inb 0 164 = true from rfl, ck_t, show J 112 (ix 0) = nI rd from hJ.1, if_neg (show ¬ nI rd = 0 by rw [hr]; decide), show (200 : Int64) = lN 200 from rfl, in_u J p1 200 (by decide), ob_s]
    dsimp only
    rw [show (3 : Int64) = lN 3 from rfl, in_u J p2 3 (by decide), ob_s]
  by_cases c1 : upTo p1 (nI 200) = 0
  · exact same (f := fun I => fnX9_ahead I p1 p2) (g := fun I => fnX10_ahead I p1 p2) ok hx hm (r := -1000001) (by show fnX9_ahead I p1 p2 = _; rw [hX, if_pos c1]) (by show fnX10_ahead I p1 p2 = _; rw [hM I hm, if_pos c1])
  by_cases c2 : upTo p2 (nI 3) = 0
  · exact same (f := fun I => fnX9_ahead I p1 p2) (g := fun I => fnX10_ahead I p1 p2) ok hx hm (r := -1000001) (by show fnX9_ahead I p1 p2 = _; rw [hX, if_neg c1, if_pos c2]) (by show fnX10_ahead I p1 p2 = _; rw [hM I hm, if_neg c1, if_pos c2])
  obtain ⟨n, hn, rfl⟩ := upTo_of (m := 200) (by decide) c1
  obtain ⟨b, hb, rfl⟩ := upTo_of (m := 3) (by decide) c2
  have pok := ok.2.2.1.1
  have rok := runA_ok ok.2.1 n π pok
  obtain ⟨I1, b1, b2, b3⟩ := probeX ok hx
  have hx1 := XPl_pr hx b3
  obtain ⟨I2, e1, e2, e3⟩ := run_e hn ok.2.1 hx1.2.1 b2 pok
  have hx2 := XPl_pr hx1 e3
  obtain ⟨q0, q1, q2, q3, q4, q5, -, -, -⟩ := e2
  have fx : FX I I2 := FX.p80 (b3.tr e3)
  have mk : ∀ r, fnX9_ahead I (nI n) (nI b) = some (r, I2) → (∀ J, PlM J 123 (runA τ n π) → fnX10_ahead_77 J (nI b) = some (r, J)) → ∃ r I1 I2, fnX9_ahead I (nI n) (nI b) = some (r, I1) ∧ fnX10_ahead I1 (nI n) (nI b) = some (r, I2) ∧ PlayR I2 ∧ PFr I I2 := fun r hr1 hr2 => two (f := fun I => fnX9_ahead I (nI n) (nI b)) (g := fun I => fnX10_ahead I (nI n) (nI b)) (r := r) ok hm ok ⟨I2, hr1, hx2, fx⟩ (fun J hJ => by
    obtain ⟨J1, a1, a2, a3⟩ := probeM hr hJ
    obtain ⟨J2, g1, g2, g3⟩ := runM hn ok.2.1 (nI b) n 0 FU J1 π (by omega) (by unfold FU; omega) (TabM_t ok.2.1 hJ.2.1 a3) a2 pok
    refine ⟨J2, ?_, MPl_t ok hJ (a3.tr (FrT.m g3)), (a3.tr (FrT.m g3)).fm⟩
    show fnX10_ahead J (nI n) (nI b) = _
    rw [hM J hJ, if_neg c1, if_neg c2, a1, ob_s, show (0 : Int32) = nI 0 from rfl, g1, hr2 J2 g2])
  rw [if_neg c1, if_neg c2, b1, ob_s, e1, ob_s, q0, q1, q2, q4, q5] at hX
  have hb4 : b = 0 ∨ b = 1 ∨ b = 2 ∨ b = 3 := by omega
  rcases hb4 with rfl | rfl | rfl | rfl
  · refine mk (if (runA τ n π).2.2.1 = 0 then nI (runA τ n π).1 else -1000000) ?_ (fun J hJ => ?_)
    · rw [hX, if_pos (by decide)]
      by_cases cl : (runA τ n π).2.2.1 = 0
      · rw [if_pos (by rw [cl]; rfl), if_pos cl]; rfl
      · rw [if_neg (nl0 rok.2.2.1 cl), if_neg cl]; rfl
    · unfold fnX10_ahead_77 fnX10_ahead_129
      rw [if_pos (by decide), show inb 152 164 = true from rfl, ck_t, show inb 150 164 = true from rfl, ck_t, show J 112 (ix 152) = nI (runA τ n π).2.2.1 from hJ.2.2.1, show J 112 (ix 150) = nI (runA τ n π).1 from hJ.1]
      by_cases cl : (runA τ n π).2.2.1 = 0
      · rw [if_neg (by rw [cl]; decide), if_pos cl]
      · have cl1 : (runA τ n π).2.2.1 = 1 := by have := rok.2.2.1; omega
        rw [if_pos (by rw [cl1]; rfl), if_neg cl]
  · refine mk (nI (runA τ n π).2.1) (by rw [hX, if_neg (by decide), if_pos (by decide)]) (fun J hJ => ?_)
    unfold fnX10_ahead_77
    rw [if_neg (by decide), if_pos (by decide), show inb 151 164 = true from rfl, ck_t, show J 112 (ix 151) = nI (runA τ n π).2.1 from hJ.2.1]
  · refine mk (runA τ n π).2.2.2.2.1 (by rw [hX, if_neg (by decide), if_neg (by decide), if_pos (by decide)]) (fun J hJ => ?_)
    unfold fnX10_ahead_77
    rw [if_neg (by decide), if_neg (by decide), if_pos (by decide), show inb 154 164 = true from rfl, ck_t, show J 112 (ix 154) = (runA τ n π).2.2.2.2.1 from hJ.2.2.2.2.1]
  · refine mk (runA τ n π).2.2.2.2.2.1 (by rw [hX, if_neg (by decide), if_neg (by decide), if_neg (by decide)]) (fun J hJ => ?_)
    unfold fnX10_ahead_77
    rw [if_neg (by decide), if_neg (by decide), if_neg (by decide), show inb 155 164 = true from rfl, ck_t, show J 112 (ix 155) = (runA τ n π).2.2.2.2.2.1 from hJ.2.2.2.2.2.1]
