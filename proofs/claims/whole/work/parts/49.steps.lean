/-! the play calls: steps, nudge, flip, put -/
def PlayR (I : Mem) : Prop := ∃ rd τ π na ac im, OK rd τ π na ac im ∧ XPl I rd τ π na ac im ∧ MPl I rd τ π na ac im
def PFr (I I2 : Mem) : Prop := (∀ x, ¬ (21 ≤ x ∧ x ≤ 81) → ¬ (93 ≤ x ∧ x ≤ 113) → I2 x = I x) ∧ ∀ y, y ≠ 2 → I2 111 y = I 111 y
theorem PFr.rf {I : Mem} : PFr I I := ⟨fun _ _ _ => rfl, fun _ _ => rfl⟩
theorem PFr.of {I I1 I2 : Mem} (h : FX I I1) (h2 : FM I1 I2) : PFr I I2 := ⟨fun x a b => (h2.1 x (by omega) (by omega) (by omega)).trans (h x a (by omega)), fun y hy => (h2.2 y hy).trans (congrFun (h 111 (by omega) (by omega)) y)⟩
section
variable {I : Mem} {rd : Nat} {τ : Tb} {π : Pl} {na : Nat} {ac : Nat → Pl} {im : Im}
theorem MPl_fx {I1 : Mem} (ok : OK rd τ π na ac im) (h : MPl I rd τ π na ac im) (hf : FX I I1) : MPl I1 rd τ π na ac im := MPl_ag ok h (fun j _ => congrFun (hf 112 (by omega) (by omega)) j) (hf 113 (by omega) (by omega)) (congrFun (hf 111 (by omega) (by omega)) 2)
theorem XPl_fm {I1 : Mem} (h : XPl I rd τ π na ac im) (hf : FM I I1) : XPl I1 rd τ π na ac im := XPl_ag h (fun x hx => hf.1 x (by omega) (by omega) (by omega)) (congrFun (hf.1 0 (by omega) (by omega) (by omega)) 9)
theorem two {rd' : Nat} {τ' : Tb} {π' : Pl} {na' : Nat} {ac' : Nat → Pl} {im' : Im} {f g : Mem → Option (Int32 × Mem)} {r : Int32} (ok : OK rd τ π na ac im) (hm : MPl I rd τ π na ac im) (ok' : OK rd' τ' π' na' ac' im') (X : ∃ I1, f I = some (r, I1) ∧ XPl I1 rd' τ' π' na' ac' im' ∧ FX I I1) (M : ∀ J, MPl J rd τ π na ac im → ∃ J1, g J = some (r, J1) ∧ MPl J1 rd' τ' π' na' ac' im' ∧ FM J J1) : ∃ r I1 I2, f I = some (r, I1) ∧ g I1 = some (r, I2) ∧ PlayR I2 ∧ PFr I I2 := by
  obtain ⟨I1, x1, x2, x3⟩ := X
  obtain ⟨I2, m1, m2, m3⟩ := M I1 (MPl_fx ok hm x3)
  exact ⟨r, I1, I2, x1, m1, ⟨rd', τ', π', na', ac', im', ok', XPl_fm x2 m3, m2⟩, PFr.of x3 m3⟩
theorem rd_cases (ok : OK rd τ π na ac im) : rd = 0 ∨ rd = 1 := by have := ok.1; omega
theorem FX.fr27 {I1 : Mem} (h : FrP 27 I I1) : FX I I1 := FX.pl h (by omega)
theorem Pk_step (hT : Tok τ) (h : Pk τ π) : Pk τ (stepA τ π).2 := by
  refine ⟨stepA_ok hT h.1, ?_⟩
  obtain ⟨c, w, lost, sh, score, lit, g, steps, st⟩ := π
  obtain ⟨-, h2⟩ := h
  simp only at h2
  unfold stepA
  by_cases c1 : w = 2 ∧ c < 7
  · simp only [if_pos c1]
    intro q
    exact absurd q (by show ¬ (1 : Nat) = 0; decide)
  · simp only [if_neg c1]
    by_cases c2 : sideA c w = true
    · simp only [c2, if_true]
      intro q
      have := h2 q
      show sh - 1 ≤ τ.1
      omega
    · simp only [c2]
      cases pinOf τ (goA c w) with
      | none =>
        intro q
        have := h2 q
        show sh - 1 ≤ τ.1
        omega
      | some p =>
        intro q
        have := h2 q
        show sh - 1 ≤ τ.1
        omega
def goesA (τ : Tb) : Nat → Nat → Pl → Nat → (Nat → Pl) → Nat × Pl × Nat × (Nat → Pl)
  | 0, g, π, na, ac => (g, π, na, ac)
  | d + 1, g, π, na, ac => if π.2.2.1 = 0 then goesA τ d (g + 1) (stepA τ π).2 (keepA na ac π).1 (keepA na ac π).2 else (g, π, na, ac)
theorem goesX {n : Nat} (hn : n ≤ 24) : ∀ (d k fu : Nat) (I : Mem) (π : Pl) (na : Nat) (ac : Nat → Pl), k + d = n → d < fu → rd = 1 → OK rd τ π na ac im → XPl I rd τ π na ac im → ∃ I1, fnX9_steps_57 fu I (nI n) (nI k) = some (nI (goesA τ d k π na ac).1, I1) ∧ XPl I1 rd τ (goesA τ d k π na ac).2.1 (goesA τ d k π na ac).2.2.1 (goesA τ d k π na ac).2.2.2 im ∧ OK rd τ (goesA τ d k π na ac).2.1 (goesA τ d k π na ac).2.2.1 (goesA τ d k π na ac).2.2.2 im ∧ FX I I1
  | d, k, 0, _, _, _, _, _, h2, _, _, _ => absurd h2 (by omega)
  | 0, k, fu + 1, I, π, na, ac, h1, _, _, ok, hx => by
    show ∃ I1, fnX9_steps_57b _ I _ _ = _ ∧ _
    unfold fnX9_steps_57b
    rw [if_pos (show nI n ≤ nI k from nI_le (by omega) (by omega))]
    exact ⟨I, rfl, hx, ok, FX.rf⟩
  | d + 1, k, fu + 1, I, π, na, ac, h1, h2, hr, ok, hx => by
    show ∃ I1, fnX9_steps_57b _ I _ _ = _ ∧ _
    unfold fnX9_steps_57b
    rw [if_neg (show ¬ nI n ≤ nI k from nI_ge (by omega) (by omega)), hx.2.2.1.2.2.1]
    by_cases c : π.2.2.1 = 0
    · have hg : goesA τ (d + 1) k π na ac = goesA τ d (k + 1) (stepA τ π).2 (keepA na ac π).1 (keepA na ac π).2 := if_pos c
      rw [hg, if_pos (show nI π.2.2.1 = 0 by rw [c]; rfl)]
      obtain ⟨I2, e1, e2, e3⟩ := XPl_keep ok hx
      rw [e1, ob_s]
      obtain ⟨I3, s1, s2, _, s4⟩ := step_e (t := 21) (a := 27) ok.2.1 e2.2.1 e2.2.2.1 ok.2.2.1.1 (by omega)
      rw [s1, ob_s, bnd_e, nI_1]
      obtain ⟨I4, r1, r2, r3, r4⟩ := goesX hn d (k + 1) fu I3 _ _ _ (by omega) (by omega) hr (OK_pl (OK_keep hr ok) (Pk_step ok.2.1 ok.2.2.1)) (XPl_pl e2 s4 s2)
      exact ⟨I4, r1, r2, r3, (e3.tr (FX.fr27 s4)).tr r4⟩
    · have hg : goesA τ (d + 1) k π na ac = (k, π, na, ac) := if_neg c
      rw [hg, if_neg (show ¬ nI π.2.2.1 = 0 from fun q => c ((nI_eq (b := 0) (by have := ok.2.2.1.1.2.2.1; omega) (by decide)).mp q))]
      exact ⟨I, rfl, hx, ok, FX.rf⟩
theorem goesM {n : Nat} (hn : n ≤ 24) : ∀ (d k fu : Nat) (I : Mem) (π : Pl) (na : Nat) (ac : Nat → Pl), k + d = n → d < fu → rd = 1 → OK rd τ π na ac im → MPl I rd τ π na ac im → ∃ I1, fnX10_steps_61 fu I (nI n) (nI k) = some (nI (goesA τ d k π na ac).1, I1) ∧ MPl I1 rd τ (goesA τ d k π na ac).2.1 (goesA τ d k π na ac).2.2.1 (goesA τ d k π na ac).2.2.2 im ∧ FM I I1
  | d, k, 0, _, _, _, _, _, h2, _, _, _ => absurd h2 (by omega)
  | 0, k, fu + 1, I, π, na, ac, h1, _, _, ok, hx => by
    show ∃ I1, fnX10_steps_61b _ I _ _ = _ ∧ _
    unfold fnX10_steps_61b
    rw [if_pos (show nI n ≤ nI k from nI_le (by omega) (by omega))]
    exact ⟨I, rfl, hx, FM.rf⟩
  | d + 1, k, fu + 1, I, π, na, ac, h1, h2, hr, ok, hx => by
    show ∃ I1, fnX10_steps_61b _ I _ _ = _ ∧ _
    unfold fnX10_steps_61b
    have hl : I 112 (ix 29) = nI π.2.2.1 := (hx.2.2.1 hr).2.2.1
    rw [if_neg (show ¬ nI n ≤ nI k from nI_ge (by omega) (by omega)), show inb 29 164 = true from rfl, ck_t, hl]
    by_cases c : π.2.2.1 = 0
    · have hg : goesA τ (d + 1) k π na ac = goesA τ d (k + 1) (stepA τ π).2 (keepA na ac π).1 (keepA na ac π).2 := if_pos c
      rw [hg, if_pos (show nI π.2.2.1 = 0 by rw [c]; rfl)]
      obtain ⟨I2, e1, e2, e3⟩ := MPl_keep hr ok hx
      rw [e1, ob_s]
      obtain ⟨I3, s1, s2, s3⟩ := stepM_e (b := 0) ok.2.1 (Or.inl rfl) e2.2.1 (e2.2.2.1 hr) ok.2.2.1.1
      rw [show (0 : Int32) = nI 0 from rfl, s1, ob_s]
      dsimp only
      rw [bnd_e, nI_1]
      obtain ⟨I4, r1, r2, r3⟩ := goesM hn d (k + 1) fu I3 _ _ _ (by omega) (by omega) hr (OK_pl (OK_keep hr ok) (Pk_step ok.2.1 ok.2.2.1)) (MPl_pl (OK_keep hr ok) e2 s3 s2)
      exact ⟨I4, r1, r2, (e3.tr (FM.mv s3)).tr r3⟩
    · have hg : goesA τ (d + 1) k π na ac = (k, π, na, ac) := if_neg c
      rw [hg, if_neg (show ¬ nI π.2.2.1 = 0 from fun q => c ((nI_eq (b := 0) (by have := ok.2.2.1.1.2.2.1; omega) (by decide)).mp q))]
      exact ⟨I, rfl, hx, FM.rf⟩
theorem lt_int (x y : Int32) : x < y ↔ x.toInt < y.toInt := Int32.lt_iff_toInt_lt
theorem le_int (x y : Int32) : x ≤ y ↔ x.toInt ≤ y.toInt := Int32.le_iff_toInt_le
theorem same (ok : OK rd τ π na ac im) (hx : XPl I rd τ π na ac im) (hm : MPl I rd τ π na ac im) {f g : Mem → Option (Int32 × Mem)} {r : Int32} (h1 : f I = some (r, I)) (h2 : g I = some (r, I)) : ∃ r I1 I2, f I = some (r, I1) ∧ g I1 = some (r, I2) ∧ PlayR I2 ∧ PFr I I2 := ⟨r, I, I, h1, h2, ⟨rd, τ, π, na, ac, im, ok, hx, hm⟩, PFr.rf⟩
end
theorem p_steps {I : Mem} (h : PlayR I) (p1 : Int32) : ∃ r I1 I2, fnX9_steps I p1 = some (r, I1) ∧ fnX10_steps I1 p1 = some (r, I2) ∧ PlayR I2 ∧ PFr I I2 := by
  obtain ⟨rd, τ, π, na, ac, im, ok, hx, hm⟩ := h
  have x9 := hx.1
  have m0 : I 112 (ix 0) = nI rd := hm.1
  have i1 : (1 : Int32).toInt = 1 := rfl
  have i24 : (24 : Int32).toInt = 24 := rfl
  have xl : I 27 2 = nI π.2.2.1 := hx.2.2.1.2.2.1
  have xs : I 27 7 = π.2.2.2.2.2.2.2.1 := hx.2.2.1.2.2.2.2.2.2.2.1
  have b1 := lt_int p1 1
  have b2 := le_int p1 24
  rcases rd_cases ok with r0 | r1
  · subst r0
    refine same (f := fun I => fnX9_steps I p1) (g := fun I => fnX10_steps I p1) ok hx hm (r := -1000002) ?_ ?_
    · show fnX9_steps I p1 = _
      unfold fnX9_steps
      rw [x9, if_pos (show nI 0 = 0 from rfl)]
    · show fnX10_steps I p1 = _
      unfold fnX10_steps
      rw [show inb 0 164 = true from rfl, ck_t, m0, if_pos (show nI 0 = 0 from rfl)]
  · subst r1
    have ml : I 112 (ix 29) = nI π.2.2.1 := (hm.2.2.1 rfl).2.2.1
    have ms : I 112 (ix 33) = π.2.2.2.2.2.2.2.1 := hm.2.2.2.1
    have hX : ∀ J, J 0 9 = nI 1 → fnX9_steps J p1 = (if p1 < 1 then (fnX9_steps_21 J) else (if p1 ≤ 24 then (if (J 27 2) = 0 then (if ((J 27 7) + p1) ≤ 9999 then (fnX9_steps_57 FU J p1 0) else (some ((-1000003), J))) else (some ((-1000002), J))) else (fnX9_steps_21 J))) := fun J hJ => by
      unfold fnX9_steps
      rw [hJ, if_neg (show ¬ nI 1 = 0 by decide)]
    have hM : ∀ J, J 112 0 = nI 1 → fnX10_steps J p1 = (if (if (1 : Int) ≤ p1.toInt ∧ p1.toInt ≤ 24 then (1 : Int32) else 0) = 0 then (some ((-1000001), J)) else (ck (inb 29 164) <| if (J 112 (ix 29)) = 1 then (some ((-1000002), J)) else (ck (inb 33 164) <| if ((J 112 (ix 33)) + p1) ≤ 9999 then (fnX10_steps_61 FU J p1 0) else (some ((-1000003), J))))) := fun J hJ => by
      unfold fnX10_steps
      rw [show inb 0 164 = true from rfl, ck_t, show J 112 (ix 0) = nI 1 from hJ, if_neg (show ¬ nI 1 = 0 by decide), in_g, ob_s, w64]
      rfl
    by_cases c : (1 : Int) ≤ p1.toInt ∧ p1.toInt ≤ 24
    · have hX2 : ∀ J, J 0 9 = nI 1 → fnX9_steps J p1 = (if (J 27 2) = 0 then (if ((J 27 7) + p1) ≤ 9999 then (fnX9_steps_57 FU J p1 0) else (some ((-1000003), J))) else (some ((-1000002), J))) := fun J hJ => by
        rw [hX J hJ, if_neg (by rw [b1]; omega), if_pos (by rw [b2]; omega)]
      have hM2 : ∀ J, J 112 0 = nI 1 → fnX10_steps J p1 = (if (J 112 (ix 29)) = 1 then (some ((-1000002), J)) else (if ((J 112 (ix 33)) + p1) ≤ 9999 then (fnX10_steps_61 FU J p1 0) else (some ((-1000003), J)))) := fun J hJ => by
        rw [hM J hJ, if_pos c, if_neg (by decide)]
        rfl
      have hl2 := ok.2.2.1.1.2.2.1
      by_cases cl : π.2.2.1 = 0
      · by_cases cf : π.2.2.2.2.2.2.2.1 + p1 ≤ 9999
        · obtain ⟨n, hn, rfl⟩ : ∃ n : Nat, n ≤ 24 ∧ p1 = nI n := by
            obtain ⟨j, hj, rfl⟩ := nI_of (x := p1) (by rw [lt0_iff]; omega)
            rw [nI_toInt hj] at c
            exact ⟨j, by omega, rfl⟩
          obtain ⟨I1, e1, e2, e3, e4⟩ := goesX hn n 0 FU I π na ac (by omega) (by unfold FU; omega) rfl ok hx
          refine two (f := fun I => fnX9_steps I (nI n)) (g := fun I => fnX10_steps I (nI n)) (r := nI (goesA τ n 0 π na ac).1) ok hm e3 ⟨I1, ?_, e2, e4⟩ (fun J hJ => ?_)
          · show fnX9_steps I (nI n) = _
            rw [hX2 I x9, xl, xs, if_pos (by rw [cl]; rfl), if_pos cf]
            exact e1
          · obtain ⟨J1, f1, f2, f3⟩ := goesM hn n 0 FU J π na ac (by omega) (by unfold FU; omega) rfl ok hJ
            refine ⟨J1, ?_, f2, f3⟩
            show fnX10_steps J (nI n) = _
            rw [hM2 J hJ.1, show J 112 (ix 29) = nI π.2.2.1 from (hJ.2.2.1 rfl).2.2.1, show J 112 (ix 33) = _ from hJ.2.2.2.1, if_neg (by rw [cl]; decide), if_pos cf]
            exact f1
        · refine same (f := fun I => fnX9_steps I p1) (g := fun I => fnX10_steps I p1) ok hx hm (r := -1000003) ?_ ?_
          · show fnX9_steps I p1 = _
            rw [hX2 I x9, xl, xs, if_pos (by rw [cl]; rfl), if_neg cf]
          · show fnX10_steps I p1 = _
            rw [hM2 I hm.1, ml, ms, if_neg (by rw [cl]; decide), if_neg cf]
      · have cl1 : π.2.2.1 = 1 := by omega
        refine same (f := fun I => fnX9_steps I p1) (g := fun I => fnX10_steps I p1) ok hx hm (r := -1000002) ?_ ?_
        · show fnX9_steps I p1 = _
          rw [hX2 I x9, xl, if_neg (by rw [cl1]; decide)]
        · show fnX10_steps I p1 = _
          rw [hM2 I hm.1, ml, if_pos (by rw [cl1]; rfl)]
    · refine same (f := fun I => fnX9_steps I p1) (g := fun I => fnX10_steps I p1) ok hx hm (r := -1000001) ?_ ?_
      · show fnX9_steps I p1 = _
        rw [hX I x9]
        by_cases c2 : p1 < 1
        · rw [if_pos c2]; rfl
        · rw [if_neg c2, if_neg (by rw [b2]; rw [b1] at c2; omega)]; rfl
      · show fnX10_steps I p1 = _
        rw [hM I hm.1, if_neg c, if_pos rfl]
