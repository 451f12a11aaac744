/-! undo, image, restore -/
theorem mv2_s2 {I : Mem} {s S a D k : Nat} (h : s ≠ a ∨ S + k < D ∨ D ≤ S) : up2 (mv2 I s S a D k) a (D + k) (mv2 I s S a D k s (S + k)) = mv2 I s S a D (k + 1) := by
  have hr : mv2 I s S a D k s (S + k) = I s (S + k) := by
    by_cases e : s = a
    · subst e
      rw [mv2_r, if_neg (by omega)]
    · rw [mv2_ne e]
  rw [hr]
  funext x
  by_cases hx : x = a
  · subst hx
    funext y
    rw [up2_r, mv2_r, mv2_r]
    by_cases c : y = D + k
    · rw [if_pos ⟨rfl, c⟩, if_pos (by omega)]
      congr 1
      omega
    · rw [if_neg (fun q => c q.2)]
      by_cases c2 : D ≤ y ∧ y < D + k
      · rw [if_pos c2, if_pos (by omega)]
      · rw [if_neg c2, if_neg (by omega)]
  · rw [up2_ne hx, mv2_ne hx, mv2_ne hx]
theorem copyRow_loop {f t : Nat} (hf : f + 41 ≤ 164) (ht : t + 41 ≤ 164) (hd : f + 41 ≤ t ∨ t ≤ f) (I : Mem) : ∀ (d k fu : Nat) (J : Mem), k + d = 41 → d < fu → J = mv2 I 112 f 112 t k → fnX10_copyRow_2 fu J (nI f) (nI t) (nI k) = some (mv2 I 112 f 112 t 41)
  | d, k, 0, _, _, h2, _ => absurd h2 (by omega)
  | 0, k, fu + 1, J, h1, _, hJ => by
    show fnX10_copyRow_2b _ J _ _ _ = _
    have hk : k = 41 := by omega
    subst hk
    unfold fnX10_copyRow_2b
    rw [if_pos (show (41 : Int32) ≤ nI 41 by decide), hJ]
  | d + 1, k, fu + 1, J, h1, h2, hJ => by
    show fnX10_copyRow_2b _ J _ _ _ = _
    unfold fnX10_copyRow_2b
    rw [if_neg (show ¬ (41 : Int32) ≤ nI k from nI_ge (b := 41) (by omega) (by omega)), nI_add, nI_add, inb_nI (show f + k < 164 by omega) (by decide), ck_t, inb_nI (show t + k < 164 by omega) (by decide), ck_t, bnd_e, bnd_e, ix_nI (by omega), ix_nI (by omega), nI_1]
    refine copyRow_loop hf ht hd I d (k + 1) fu _ (by omega) (by omega) ?_
    rw [hJ]
    exact mv2_s2 (by omega)
theorem copyRow_e {f t : Nat} (hf : f + 41 ≤ 164) (ht : t + 41 ≤ 164) (hd : f + 41 ≤ t ∨ t ≤ f) (I : Mem) : fnX10_copyRow I (nI f) (nI t) = some (mv2 I 112 f 112 t 41) := copyRow_loop hf ht hd I 41 0 FU I (by omega) (by unfold FU; omega) mv2_0.symm
theorem TabB_mv {I : Mem} {f t : Nat} {τ : Tb} (hT : Tok τ) (h : TabB I f τ) : TabB (mv2 I 112 f 112 t 41) t τ := by
  have h6 := hT.2.1
  have e : ∀ j, j < 41 → mv2 I 112 f 112 t 41 112 (t + j) = I 112 (f + j) := fun j hj => by rw [mv2_r, if_pos (by omega)]; congr 1; omega
  obtain ⟨h1, h2, h3⟩ := h
  refine ⟨(e 1 (by omega)).trans h1, (e 2 (by omega)).trans h2, fun p hp => ?_⟩
  obtain ⟨e1, e2, e3, e4⟩ := h3 p hp
  exact ⟨(e _ (by omega)).trans e1, (e _ (by omega)).trans e2, (e _ (by omega)).trans e3, (e _ (by omega)).trans e4⟩
theorem PlM_mv {I : Mem} {f t : Nat} {π : Pl} (h : PlM I f π) : PlM (mv2 I 112 f 112 t 41) t π := by
  have e : ∀ j, j < 41 → mv2 I 112 f 112 t 41 112 (t + j) = I 112 (f + j) := fun j hj => by rw [mv2_r, if_pos (by omega)]; congr 1; omega
  obtain ⟨q0, q1, q2, q3, q4, q5, q6, q7, q8⟩ := h
  exact ⟨(e 27 (by omega)).trans q0, (e 28 (by omega)).trans q1, (e 29 (by omega)).trans q2, (e 30 (by omega)).trans q3, (e 31 (by omega)).trans q4, (e 32 (by omega)).trans q5, (e 34 (by omega)).trans q6, (e 33 (by omega)).trans q7, fun i hi => by rw [Nat.add_assoc t, e (35 + i) (by omega), ← Nat.add_assoc f]; exact q8 i hi⟩
theorem cpy_ne {I : Mem} {s d x : Nat} {n : Int32} (h : x ≠ d) : cpy I s d 0 0 n x = I x := by
  unfold cpy
  exact if_neg h
theorem cpy_at6 {I : Mem} {s d i : Nat} (h : i < 6) : cpy I s d 0 0 6 d i = I s i := by
  unfold cpy
  rw [if_pos rfl]
  show va_cpy _ _ 0 0 6 i = _
  rw [pk_cpy_in (by omega) (by omega), Nat.zero_add, Nat.sub_zero]
theorem cpy_at42 {I : Mem} {s d i : Nat} (h : i < 42) : cpy I s d 0 0 42 d i = I s i := by
  unfold cpy
  rw [if_pos rfl]
  show va_cpy _ _ 0 0 42 i = _
  rw [pk_cpy_in (by omega) (by omega), Nat.zero_add, Nat.sub_zero]
/-- Table.become -/
theorem tabBecome_e {I : Mem} {a c : Nat} {τ : Tb} (hT : Tok τ) (h : TabX I c τ) (hd : c + 5 < a ∨ a + 5 < c) : ∃ I1, fnX7_become a c I = some I1 ∧ TabX I1 a τ ∧ ∀ x, (x < a ∨ a + 5 < x) → I1 x = I x := by
  obtain ⟨h1, h2, h3, h4⟩ := h
  have h6 := hT.2.1
  unfold fnX7_become
  simp only [bnd_e, show spn 0 6 6 = true from rfl, show spn 0 42 42 = true from rfl, ck_t]
  generalize hI2 : up2 (up2 I a 0 (I c 0)) a 1 (up2 I a 0 (I c 0) c 1) = I2
  have r0 : I2 a 0 = nI τ.1 := by rw [← hI2]; simp [up2_r, h1]
  have r1 : I2 a 1 = nI (tn τ) := by rw [← hI2, up2_r, if_pos ⟨rfl, rfl⟩, up2_ne (by omega), h2]
  have rc : ∀ x, x ≠ a → I2 x = I x := fun x hx => by rw [← hI2, up2_ne hx, up2_ne hx]
  refine ⟨_, rfl, ⟨?_, ?_, fun p hp => ?_, fun q hq => ?_⟩, fun x hx => ?_⟩
  · rw [cpy_ne (by omega), cpy_ne (by omega), cpy_ne (by omega), cpy_ne (by omega), cpy_ne (by omega), r0]
  · rw [cpy_ne (by omega), cpy_ne (by omega), cpy_ne (by omega), cpy_ne (by omega), cpy_ne (by omega), r1]
  · obtain ⟨e1, e2, e3, e4⟩ := h3 p hp
    refine ⟨?_, ?_, ?_, ?_⟩
    · rw [cpy_ne (by omega), cpy_ne (by omega), cpy_ne (by omega), cpy_ne (by omega), cpy_at6 (by omega), rc _ (by omega), e1]
    · rw [cpy_ne (by omega), cpy_ne (by omega), cpy_ne (by omega), cpy_at6 (by omega), cpy_ne (by omega), rc _ (by omega), e2]
    · rw [cpy_ne (by omega), cpy_ne (by omega), cpy_at6 (by omega), cpy_ne (by omega), cpy_ne (by omega), rc _ (by omega), e3]
    · rw [cpy_ne (by omega), cpy_at6 (by omega), cpy_ne (by omega), cpy_ne (by omega), cpy_ne (by omega), rc _ (by omega), e4]
  · rw [cpy_at42 hq, cpy_ne (by omega), cpy_ne (by omega), cpy_ne (by omega), cpy_ne (by omega), rc _ (by omega), h4 q hq]
  · rw [cpy_ne (by omega), cpy_ne (by omega), cpy_ne (by omega), cpy_ne (by omega), cpy_ne (by omega), rc _ (by omega)]
theorem undo_loop {pm : Nat} (hpm : pm ≤ 23) (I : Mem) (h2 : I 111 2 = nI pm) : ∀ (d k fu : Nat) (J : Mem), k + d = 14 → d < fu → J = mv2 I 113 (14 * pm) 112 27 k → fnX10_undo_22 fu J (nI k) = some (nI pm, mv2 I 113 (14 * pm) 112 27 14)
  | d, k, 0, _, _, h2, _ => absurd h2 (by omega)
  | 0, k, fu + 1, J, h1, _, hJ => by
    show fnX10_undo_22b _ J _ = _
    have hk : k = 14 := by omega
    subst hk
    unfold fnX10_undo_22b
    rw [if_pos (show (14 : Int32) ≤ nI 14 by decide), hJ, mv2_ne (show (111 : Nat) ≠ 112 by omega), h2]
  | d + 1, k, fu + 1, J, h1, h3, hJ => by
    show fnX10_undo_22b _ J _ = _
    unfold fnX10_undo_22b
    have j2 : J 111 2 = nI pm := by rw [hJ, mv2_ne (by omega), h2]
    have e1 : (27 : Int32) + nI k = nI (27 + k) := nI_add 27 k
    have e2 : (14 : Int32) * nI pm + nI k = nI (14 * pm + k) := by rw [show (14 : Int32) = nI 14 from rfl, pk_mul, nI_add]
    rw [if_neg (show ¬ (14 : Int32) ≤ nI k from nI_ge (b := 14) (by omega) (by omega)), j2, e1, e2, inb_nI (show 14 * pm + k < 336 by omega) (by decide), ck_t, inb_nI (show 27 + k < 164 by omega) (by decide), ck_t, bnd_e, bnd_e, ix_nI (by omega), ix_nI (by omega), nI_1]
    refine undo_loop hpm I h2 d (k + 1) fu _ (by omega) (by omega) ?_
    rw [hJ]
    exact mv2_s2 (by omega)
theorem p_undo {I : Mem} (h : PlayR I) : ∃ r I1 I2, fnX9_undo I = some (r, I1) ∧ fnX10_undo I1 = some (r, I2) ∧ PlayR I2 ∧ PFr I I2 := by
  obtain ⟨rd, τ, π, na, ac, im, ok, hx, hm⟩ := h
  have hn := ok.2.2.2.1
  by_cases c : na = 0
  · refine same (f := fnX9_undo) (g := fnX10_undo) ok hx hm (r := -1000002) ?_ ?_
    · unfold fnX9_undo
      rw [hx.2.2.2.1.1, if_pos (by rw [c]; rfl)]
    · unfold fnX10_undo
      rw [hm.2.2.2.2.1, if_pos (by rw [c]; rfl)]
  · have hr : rd = 1 := by
      rcases rd_cases ok with h0 | h1
      · exact absurd (ok.2.2.2.2.2.1 h0).1 c
      · exact h1
    obtain ⟨m, rfl⟩ : ∃ m, na = m + 1 := ⟨na - 1, by omega⟩
    have hp : Pk τ (ac m) := ok.2.2.2.2.1 m (by omega)
    have ok2 : OK rd τ (ac m) m ac im := ⟨ok.1, ok.2.1, hp, by omega, fun k hk => ok.2.2.2.2.1 k (by omega), fun h0 => absurd h0 (by omega), ok.2.2.2.2.2.2⟩
    refine two (f := fnX9_undo) (g := fnX10_undo) (r := nI m) ok hm ok2 ?_ (fun J hJ => ?_)
    · obtain ⟨h1, h2, h3, ⟨h4, o, ho, h6, h7⟩, h5⟩ := hx
      unfold fnX9_undo fnX0_takeBack fnX0_takeBack_38
      rw [h4, if_neg (nz (by omega) (by omega)), if_neg (nI_nle (by omega) (by omega)), bnd_e, nI_pred]
      have g1 : up2 I 29 2 (nI m) 29 1 = nI o := by simp [up2_r, h6]
      have g2 : up2 I 29 2 (nI m) 29 2 = nI m := by simp [up2_r]
      have hm24 : (o + m) % 24 < 24 := Nat.mod_lt _ (by decide)
      rw [g1, g2, irm24 o ho m (by omega), inb_nI hm24 (by decide), ck_t, ix_nI (by omega)]
      have hp2 : PlX (up2 I 29 2 (nI m)) (31 + 2 * ((o + m) % 24)) (ac m) := PlX_ag (h7 m (by omega)) (up2_ne (by omega)) (up2_ne (by omega))
      obtain ⟨I3, b1, b2, b3⟩ := become_e (a := 27) hp2 hp.1.2.2.1 (by omega)
      rw [b1, ob_s, ob_s]
      have ne : ∀ x, x ≠ 27 → x ≠ 28 → x ≠ 29 → I3 x = I x := fun x a b c => by rw [b3 x a b, up2_ne c]
      have n2 : I3 29 2 = nI m := by rw [b3 29 (by omega) (by omega), g2]
      rw [n2]
      refine ⟨I3, rfl, ⟨by rw [ne 0 (by omega) (by omega) (by omega)]; exact h1, TabX_ag h2 (fun x _ _ => ne x (by omega) (by omega) (by omega)), b2, ⟨n2, o, ho, by rw [b3 29 (by omega) (by omega), g1], fun k hk => ?_⟩, fun k hk => ImX_ag (h5 k hk) (fun x _ _ => ne x (by omega) (by omega) (by omega))⟩, fun x c d => ne x (by omega) (by omega) (by omega)⟩
      exact PlX_ag (h7 k (by omega)) (ne _ (by omega) (by omega) (by omega)) (ne _ (by omega) (by omega) (by omega))
    · obtain ⟨a1, a2, a3, a4, a5, a6, a7⟩ := hJ
      unfold fnX10_undo
      rw [a5, if_neg (nz (by omega) (by omega)), bnd_e, nI_pred, show (0 : Int32) = nI 0 from rfl, undo_loop (show m ≤ 23 by omega) (up2 J 111 2 (nI m)) (by simp [up2_r]) 14 0 FU _ (by omega) (by unfold FU; omega) mv2_0.symm]
      have e : ∀ j, j < 14 → mv2 (up2 J 111 2 (nI m)) 113 (14 * m) 112 27 14 112 (27 + j) = J 113 (14 * m + j) := fun j hj => by rw [mv2_r, if_pos (by omega), up2_ne (by omega)]; congr 1; omega
      have e2 : ∀ j, (j < 27 ∨ 41 ≤ j) → mv2 (up2 J 111 2 (nI m)) 113 (14 * m) 112 27 14 112 j = J 112 j := fun j hj => by rw [mv2_r, if_neg (by omega), up2_ne (by omega)]
      have e3 : ∀ x, x ≠ 111 → x ≠ 112 → mv2 (up2 J 111 2 (nI m)) 113 (14 * m) 112 27 14 x = J x := fun x a b => by rw [mv2_ne b, up2_ne a]
      obtain ⟨q0, q1, q2, q3, q4, q5, q6, q7, q8⟩ := a6 m (by omega)
      have s7 := (e 6 (by omega)).trans q7
      have hpl : PlM (mv2 (up2 J 111 2 (nI m)) 113 (14 * m) 112 27 14) 0 (ac m) := ⟨(e 0 (by omega)).trans q0, (e 1 (by omega)).trans q1, (e 2 (by omega)).trans q2, (e 3 (by omega)).trans q3, (e 4 (by omega)).trans q4, (e 5 (by omega)).trans q5, (e 7 (by omega)).trans q6, s7, fun i hi => by rw [show 0 + 35 + i = 27 + (8 + i) by omega, e (8 + i) (by omega), ← Nat.add_assoc]; exact q8 i hi⟩
      refine ⟨_, rfl, ⟨(e2 0 (by omega)).trans a1, TabM_B.mpr (TabB_ag ok.2.1 (TabM_B.mp a2) (fun j _ _ => e2 j (by omega))), fun _ => hpl, s7, ?_, fun k hk => PasM_ag (a6 k (by omega)) (e3 113 (by omega) (by omega)), fun k hk => ImM_ag (fun τ' π' e => (ok.2.2.2.2.2.2 k hk τ' π' e).1) (a7 k hk) (fun j _ _ => e2 j (by omega))⟩, ⟨fun x a b _ => e3 x a b, fun y hy => ?_⟩⟩
      · rw [mv2_ne (by omega)]; simp [up2_r]
      · rw [mv2_ne (by omega), up2_r, if_neg (by omega)]
theorem p_image {I : Mem} (h : PlayR I) (p1 : Int32) : ∃ r I1 I2, fnX9_image I p1 = some (r, I1) ∧ fnX10_image I1 p1 = some (r, I2) ∧ PlayR I2 ∧ PFr I I2 := by
  obtain ⟨rd, τ, π, na, ac, im, ok, hx, hm⟩ := h
  have hX : fnX9_image I p1 = if upTo p1 (nI 1) = 0 then some ((-1000001), I) else (if (I 0 9) = 0 then (some ((-1000002), I)) else (ck (inb p1 2) <| ob (fnX2_keep (93 + 9 * ix p1) 21 27 I) fun I8 => some (1, I8))) := by
    unfold fnX9_image
    rw [isUpTo_e, ob_s]
    rfl
  have hM : ∀ J, fnX10_image J p1 = if upTo p1 (nI 1) = 0 then some ((-1000001), J) else (if (J 112 0) = 0 then (some ((-1000002), J)) else (ob (fnX10_copyRow J 0 ((41 : Int32) * ((1 : Int32) + p1))) fun I8 => some (1, I8))) := fun J => by
    unfold fnX10_image
    rw [show (1 : Int64) = lN 1 from rfl, in_u J p1 1 (by decide), ob_s]
    rfl
  by_cases c1 : upTo p1 (nI 1) = 0
  · exact same (f := fun I => fnX9_image I p1) (g := fun I => fnX10_image I p1) ok hx hm (r := -1000001) (by show fnX9_image I p1 = _; rw [hX, if_pos c1]) (by show fnX10_image I p1 = _; rw [hM, if_pos c1])
  rcases rd_cases ok with h0 | hr
  · exact same (f := fun I => fnX9_image I p1) (g := fun I => fnX10_image I p1) ok hx hm (r := -1000002) (by show fnX9_image I p1 = _; rw [hX, if_neg c1, hx.1, if_pos (by rw [h0]; rfl)]) (by show fnX10_image I p1 = _; rw [hM, if_neg c1, hm.1, if_pos (by rw [h0]; rfl)])
  obtain ⟨a, ha, rfl⟩ := upTo_of (m := 1) (by decide) c1
  have ok2 : OK rd τ π na ac (fun k => if k = a then some (τ, π) else im k) := ⟨ok.1, ok.2.1, ok.2.2.1, ok.2.2.2.1, ok.2.2.2.2.1, fun h0 => absurd h0 (by omega), fun k hk τ' π' e => by
    by_cases ck : k = a
    · rw [show (fun k => if k = a then some (τ, π) else im k) k = some (τ, π) from if_pos ck] at e
      cases e
      exact ⟨ok.2.1, ok.2.2.1⟩
    · rw [show (fun k => if k = a then some (τ, π) else im k) k = im k from if_neg ck] at e
      exact ok.2.2.2.2.2.2 k hk τ' π' e⟩
  refine two (f := fun I => fnX9_image I (nI a)) (g := fun I => fnX10_image I (nI a)) (r := 1) ok hm ok2 ?_ (fun J hJ => ?_)
  · show ∃ I1, fnX9_image I (nI a) = _ ∧ _
    rw [hX, if_neg c1, hx.1, if_neg (show ¬ nI rd = 0 by rw [hr]; decide), inb_nI (show a < 2 by omega) (by decide), ck_t, ix_nI (by omega)]
    obtain ⟨h1, h2, h3, h4, h5⟩ := hx
    unfold fnX2_keep
    obtain ⟨I2, t1, t2, t3⟩ := tabBecome_e (a := 93 + 9 * a + 1) ok.2.1 h2 (by omega)
    have p2 : PlX I2 27 π := PlX_ag h3 (t3 _ (by omega)) (t3 _ (by omega))
    obtain ⟨I3, b1, b2, b3⟩ := become_e (a := 93 + 9 * a + 7) p2 ok.2.2.1.1.2.2.1 (by omega)
    rw [t1, ob_s, b1, ob_s, bnd_e, ob_s]
    have ne : ∀ x, (x < 93 + 9 * a ∨ 93 + 9 * a + 8 < x) → up2 I3 (93 + 9 * a) 2 1 x = I x := fun x hx => by rw [up2_ne (by omega), b3 x (by omega) (by omega), t3 x (by omega)]
    refine ⟨_, rfl, ⟨by rw [ne 0 (by omega)]; exact h1, TabX_ag h2 (fun x _ _ => ne x (by omega)), PlX_ag h3 (ne _ (by omega)) (ne _ (by omega)), ActX_ag h4 (fun x _ _ => ne x (by omega)), fun k hk => ?_⟩, fun x c d => ne x (by omega)⟩
    dsimp only
    by_cases ck : k = a
    · rw [if_pos ck, ck]
      refine ⟨by simp [up2_r], TabX_ag t2 (fun x _ _ => ?_), PlX_ag b2 (up2_ne (by omega)) (up2_ne (by omega))⟩
      rw [up2_ne (by omega), b3 x (by omega) (by omega)]
    · rw [if_neg ck]
      exact ImX_ag (h5 k hk) (fun x _ _ => ne x (by omega))
  · show ∃ I1, fnX10_image J (nI a) = _ ∧ _
    obtain ⟨a1, a2, a3, a4, a5, a6, a7⟩ := hJ
    rw [hM, if_neg c1, a1, if_neg (show ¬ nI rd = 0 by rw [hr]; decide), show (41 : Int32) * ((1 : Int32) + nI a) = nI (41 * (1 + a)) by rw [show (1 : Int32) + nI a = nI (1 + a) from nI_add 1 a, show (41 : Int32) = nI 41 from rfl, pk_mul], show (0 : Int32) = nI 0 from rfl, copyRow_e (by omega) (by omega) (by omega), ob_s]
    have e2 : ∀ j, (j < 41 * (1 + a) ∨ 41 * (1 + a) + 41 ≤ j) → mv2 J 112 0 112 (41 * (1 + a)) 41 112 j = J 112 j := fun j hj => by rw [mv2_r, if_neg (by omega)]
    have e3 : ∀ x, x ≠ 112 → mv2 J 112 0 112 (41 * (1 + a)) 41 x = J x := fun x b => mv2_ne b
    refine ⟨_, rfl, ⟨(e2 0 (by omega)).trans a1, TabM_B.mpr (TabB_ag ok.2.1 (TabM_B.mp a2) (fun j _ _ => e2 j (by omega))), fun hr => PlM_ag (a3 hr) (fun j _ _ => e2 j (by omega)), (e2 _ (by omega)).trans a4, by rw [e3 111 (by omega)]; exact a5, fun k hk => PasM_ag (a6 k hk) (e3 113 (by omega)), fun k hk => ?_⟩, ⟨fun x _ b _ => e3 x b, fun y _ => by rw [e3 111 (by omega)]⟩⟩
    dsimp only
    by_cases ck : k = a
    · rw [if_pos ck, ck]
      refine ⟨?_, TabB_mv ok.2.1 (TabM_B.mp a2), PlM_mv (a3 hr)⟩
      rw [mv2_r, if_pos (by omega), Nat.sub_self, a1, hr]
      rfl
    · rw [if_neg ck]
      exact ImM_ag (fun τ' π' e => (ok.2.2.2.2.2.2 k hk τ' π' e).1) (a7 k hk) (fun j _ _ => e2 j (by omega))
theorem p_restore {I : Mem} (h : PlayR I) (p1 : Int32) : ∃ r I1 I2, fnX9_restore I p1 = some (r, I1) ∧ fnX10_restore I1 p1 = some (r, I2) ∧ PlayR I2 ∧ PFr I I2 := by
  obtain ⟨rd, τ, π, na, ac, im, ok, hx, hm⟩ := h
  have hX : fnX9_restore I p1 = if upTo p1 (nI 1) = 0 then some ((-1000001), I) else (ck (inb p1 2) <| if (I (93 + 9 * ix p1) 2) = 0 then (some ((-1000002), I)) else (ck (inb p1 2) <| ob (fnX7_become 21 ((93 + 9 * ix p1) + 1) I) fun I9 => ck (inb p1 2) <| ob (fnX4_become 27 ((93 + 9 * ix p1) + 7) I9) fun I12 => ob (fnX0_forget I12) fun I14 => some (1, I14))) := by
    unfold fnX9_restore
    rw [isUpTo_e, ob_s]
    rfl
  have hM : ∀ J, fnX10_restore J p1 = if upTo p1 (nI 1) = 0 then some ((-1000001), J) else (ck (inb (((41 : Int32) * ((1 : Int32) + p1)) + 0) 164) <| if (J 112 (ix (((41 : Int32) * ((1 : Int32) + p1)) + 0))) = 0 then (some ((-1000002), J)) else (ob (fnX10_copyRow J ((41 : Int32) * ((1 : Int32) + p1)) 0) fun I8 => bnd (up2 I8 111 2 0) fun I9 => some (1, I9))) := fun J => by
    unfold fnX10_restore
    rw [show (1 : Int64) = lN 1 from rfl, in_u J p1 1 (by decide), ob_s]
  by_cases c1 : upTo p1 (nI 1) = 0
  · exact same (f := fun I => fnX9_restore I p1) (g := fun I => fnX10_restore I p1) ok hx hm (r := -1000001) (by show fnX9_restore I p1 = _; rw [hX, if_pos c1]) (by show fnX10_restore I p1 = _; rw [hM, if_pos c1])
  obtain ⟨a, ha, rfl⟩ := upTo_of (m := 1) (by decide) c1
  have e41 : (41 : Int32) * ((1 : Int32) + nI a) = nI (41 * (1 + a)) := by rw [show (1 : Int32) + nI a = nI (1 + a) from nI_add 1 a, show (41 : Int32) = nI 41 from rfl, pk_mul]
  rw [if_neg c1, inb_nI (show a < 2 by omega) (by decide), ck_t, ix_nI (by omega)] at hX
  have hM2 : ∀ J, fnX10_restore J (nI a) = if J 112 (41 * (1 + a)) = 0 then (some ((-1000002), J)) else (some (1, up2 (mv2 J 112 (41 * (1 + a)) 112 0 41) 111 2 0)) := fun J => by
    rw [hM, if_neg c1, e41, Int32.add_zero, inb_nI (show 41 * (1 + a) < 164 by omega) (by decide), ck_t, ix_nI (by omega), show fnX10_copyRow J (nI (41 * (1 + a))) 0 = _ from copyRow_e (t := 0) (by omega) (by omega) (by omega) J]
    rfl
  have ix5 := hx.2.2.2.2 a (by omega)
  have im7 := hm.2.2.2.2.2.2 a (by omega)
  cases hi : im a with
  | none =>
    rw [hi] at ix5 im7
    have ix6 : I (93 + 9 * a) 2 = 0 := ix5
    have im8 : I 112 (41 * (1 + a)) = 0 := im7
    exact same (f := fun I => fnX9_restore I (nI a)) (g := fun I => fnX10_restore I (nI a)) ok hx hm (r := -1000002) (by show fnX9_restore I (nI a) = _; rw [hX, if_pos ix6]) (by show fnX10_restore I (nI a) = _; rw [hM2, if_pos im8])
  | some tp =>
    obtain ⟨τ', π'⟩ := tp
    have hok := ok.2.2.2.2.2.2 a (by omega) τ' π' hi
    have hr : rd = 1 := by
      rcases rd_cases ok with h0 | h1
      · have := (ok.2.2.2.2.2.1 h0).2.2 a (by omega)
        rw [hi] at this
        cases this
      · exact h1
    have ok2 : OK rd τ' π' 0 ac im := ⟨ok.1, hok.1, hok.2, by omega, fun k hk => absurd hk (by omega), fun h0 => absurd h0 (by omega), ok.2.2.2.2.2.2⟩
    rw [hi] at ix5
    obtain ⟨x1, x2, x3⟩ := ix5
    refine two (f := fun I => fnX9_restore I (nI a)) (g := fun I => fnX10_restore I (nI a)) (r := 1) ok hm ok2 ?_ (fun J hJ => ?_)
    · show ∃ I1, fnX9_restore I (nI a) = _ ∧ _
      rw [hX, x1, if_neg (by decide), ck_t]
      obtain ⟨h1, h2, h3, ⟨h4, o, ho, h6, h7⟩, h5⟩ := hx
      obtain ⟨I2, t1, t2, t3⟩ := tabBecome_e (a := 21) hok.1 x2 (by omega)
      have p2 : PlX I2 (93 + 9 * a + 7) π' := PlX_ag x3 (t3 _ (by omega)) (t3 _ (by omega))
      obtain ⟨I3, b1, b2, b3⟩ := become_e (a := 27) p2 hok.2.1.2.2.1 (by omega)
      unfold fnX0_forget
      rw [t1, ob_s, ck_t, b1, ob_s, bnd_e, ob_s]
      have ne : ∀ x, (x < 21 ∨ 29 < x) → up2 I3 29 2 0 x = I x := fun x hx => by rw [up2_ne (by omega), b3 x (by omega) (by omega), t3 x (by omega)]
      refine ⟨_, rfl, ⟨by rw [ne 0 (by omega)]; exact h1, TabX_ag t2 (fun x _ _ => by rw [up2_ne (by omega), b3 x (by omega) (by omega)]), PlX_ag b2 (up2_ne (by omega)) (up2_ne (by omega)), ⟨by simp [up2_r]; rfl, o, ho, ?_, fun k hk => absurd hk (by omega)⟩, fun k hk => ImX_ag (h5 k hk) (fun x _ _ => ne x (by omega))⟩, fun x c d => ne x (by omega)⟩
      rw [up2_r, if_neg (by omega), b3 29 (by omega) (by omega), t3 29 (by omega), h6]
    · show ∃ I1, fnX10_restore J (nI a) = _ ∧ _
      obtain ⟨a1, a2, a3, a4, a5, a6, a7⟩ := hJ
      have im7 := a7 a (by omega)
      rw [hi] at im7
      obtain ⟨m1, m2, m3⟩ := im7
      rw [hM2, m1, if_neg (by decide)]
      have e2 : ∀ j, 41 ≤ j → up2 (mv2 J 112 (41 * (1 + a)) 112 0 41) 111 2 0 112 j = J 112 j := fun j hj => by rw [up2_ne (by omega), mv2_r, if_neg (by omega)]
      have e3 : ∀ x, x ≠ 111 → x ≠ 112 → up2 (mv2 J 112 (41 * (1 + a)) 112 0 41) 111 2 0 x = J x := fun x b c => by rw [up2_ne b, mv2_ne c]
      have e4 : ∀ j, up2 (mv2 J 112 (41 * (1 + a)) 112 0 41) 111 2 0 112 j = mv2 J 112 (41 * (1 + a)) 112 0 41 112 j := fun j => by rw [up2_ne (by omega)]
      have hp : PlM (up2 (mv2 J 112 (41 * (1 + a)) 112 0 41) 111 2 0) 0 π' := PlM_ag (PlM_mv m3) (fun j _ _ => e4 j)
      refine ⟨_, rfl, ⟨?_, TabM_B.mpr (TabB_ag hok.1 (TabB_mv hok.1 m2) (fun j _ _ => e4 j)), fun _ => hp, hp.2.2.2.2.2.2.2.1, by simp [up2_r]; rfl, fun k hk => absurd hk (by omega), fun k hk => ImM_ag (fun τ' π' e => (ok.2.2.2.2.2.2 k hk τ' π' e).1) (a7 k hk) (fun j _ _ => e2 j (by omega))⟩, ⟨fun x b c _ => e3 x b c, fun y hy => ?_⟩⟩
      · rw [e4, mv2_r, if_pos (by omega), Nat.sub_zero, Nat.add_zero, m1, hr]
        rfl
      · rw [up2_r, if_neg (by omega), mv2_ne (by omega)]
