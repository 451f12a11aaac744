/-! ball, pin, kind, as, ask, trace, fault, count -/
def AskR (I : Mem) : Prop := ∃ l : List Int32, l.length ≤ 16 ∧ I 91 1 = nI l.length ∧ I 111 11 = nI l.length ∧ ∀ i, i < l.length → I 92 i = l.getD i 0 ∧ I 118 i = l.getD i 0
def pinB (n : Nat) (p : Int32) : Int32 := if 0 ≤ p.toInt ∧ p.toInt < (n : Int) then 1 else 0
theorem pinB_of {n : Nat} {p : Int32} (h : ¬ pinB n p = 0) : ∃ a : Nat, a < n ∧ p = nI a := by
  unfold pinB at h
  by_cases c : 0 ≤ p.toInt ∧ p.toInt < (n : Int)
  · obtain ⟨j, hj, rfl⟩ := nI_of (x := p) (by rw [lt0_iff]; omega)
    rw [nI_toInt hj] at c
    exact ⟨j, by omega, rfl⟩
  · rw [if_neg c] at h
    exact absurd rfl h
theorem isPinX_e {I : Mem} {n : Nat} (h : I 21 1 = nI n) (hn : n < 100) (p : Int32) : fnX9_isPin I p = some (pinB n p, I) := by
  unfold fnX9_isPin fnX9_isPin_19 fnX9_isPin_20 pinB
  rw [h]
  have b1 := lt0_iff p
  have b2 := le_int (nI n) p
  rw [nI_toInt (by omega)] at b2
  by_cases c1 : p < 0
  · rw [if_pos c1, if_neg (by rw [b1] at c1; omega)]; rfl
  · rw [if_neg c1]
    by_cases c2 : nI n ≤ p
    · rw [if_pos c2, if_neg (by rw [b2] at c2; omega)]; rfl
    · rw [if_neg c2, if_pos (by rw [b2] at c2; rw [b1] at c1; omega)]; rfl
theorem sub1_toInt {n : Nat} (hn : n < 100) : (nI n - 1).toInt64.toInt = (n : Int) - 1 := by
  rcases Nat.eq_zero_or_pos n with rfl | h
  · decide
  · obtain ⟨m, rfl⟩ : ∃ m, n = m + 1 := ⟨n - 1, by omega⟩
    rw [nI_pred, w64, nI_toInt (by omega)]
    omega
theorem inN_e {I : Mem} {n : Nat} (hn : n < 100) (p : Int32) : fnX10_in I p.toInt64 0 (nI n - 1).toInt64 = some (pinB n p, I) := by
  rw [in_g, w64, sub1_toInt hn, show (0 : Int64).toInt = 0 from rfl]
  unfold pinB
  by_cases c : 0 ≤ p.toInt ∧ p.toInt < (n : Int)
  · rw [if_pos c, if_pos (by omega)]
  · rw [if_neg c, if_neg (by omega)]
theorem zb_pinB (n : Nat) (p : Int32) : zb (pinB n p) = true := by
  unfold pinB
  split <;> rfl
theorem isPinM_e {I : Mem} {n : Nat} (h : I 112 2 = nI n) (hn : n < 100) (p : Int32) : fnX10_isPin I p = some (pinB n p, I) := by
  unfold fnX10_isPin
  rw [show inb 2 164 = true from rfl, ck_t, show I 112 (ix 2) = nI n from h, inN_e hn, ob_s]
  dsimp only
  rw [zb_pinB, ck_t]
theorem p_ball {I : Mem} (h : PlayR I) (p1 : Int32) : ∃ r, fnX9_ball I p1 = some (r, I) ∧ fnX10_ball I p1 = some (r, I) := by
  obtain ⟨rd, τ, π, na, ac, im, ok, hx, hm⟩ := h
  unfold fnX9_ball fnX10_ball fnX10_ball_38 fnX9_ball_79
  rw [show inb 0 164 = true from rfl, ck_t, hx.1, show I 112 (ix 0) = nI rd from hm.1]
  rcases rd_cases ok with h0 | hr
  · rw [if_pos (by rw [h0]; rfl), if_pos (by rw [h0]; rfl)]
    exact ⟨_, rfl, rfl⟩
  rw [if_neg (show ¬ nI rd = 0 by rw [hr]; decide), if_neg (show ¬ nI rd = 0 by rw [hr]; decide), show (5 : Int64) = lN 5 from rfl, in_u I p1 5 (by decide), ob_s]
  dsimp only
  by_cases c : upTo p1 (nI 5) = 0
  · rw [if_pos c, if_neg (fun q => by subst q; exact absurd c (by decide)), if_neg (fun q => by subst q; exact absurd c (by decide)), if_neg (fun q => by subst q; exact absurd c (by decide)), if_neg (fun q => by subst q; exact absurd c (by decide)), if_neg (fun q => by subst q; exact absurd c (by decide)), if_neg (fun q => by subst q; exact absurd c (by decide))]
    exact ⟨_, rfl, rfl⟩
  rw [if_neg c]
  obtain ⟨a, ha, rfl⟩ := upTo_of (m := 5) (by decide) c
  rw [show (27 : Int32) + nI a = nI (27 + a) from nI_add 27 a, inb_nI (by omega) (by decide), ck_t, ix_nI (by omega)]
  obtain ⟨q0, q1, q2, q3, q4, q5, -, -, -⟩ := hx.2.2.1
  obtain ⟨s0, s1, s2, s3, s4, s5, -, -, -⟩ := hm.2.2.1 hr
  simp only [Nat.zero_add] at s0 s1 s2 s3 s4 s5
  have hl := ok.2.2.1.1.2.2.1
  rcases (show a = 0 ∨ a = 1 ∨ a = 2 ∨ a = 3 ∨ a = 4 ∨ a = 5 by omega) with rfl | rfl | rfl | rfl | rfl | rfl
  · exact ⟨I 112 27, by rw [if_pos (by decide), q0, s0], rfl⟩
  · exact ⟨I 112 28, by rw [if_neg (by decide), if_pos (by decide), q1, s1], rfl⟩
  · refine ⟨I 112 29, ?_, rfl⟩
    rw [if_neg (by decide), if_neg (by decide), if_pos (by decide), q2, s2]
    rcases (show π.2.2.1 = 0 ∨ π.2.2.1 = 1 by omega) with e | e <;> rw [e] <;> rfl
  · exact ⟨I 112 30, by rw [if_neg (by decide), if_neg (by decide), if_neg (by decide), if_pos (by decide), q3, s3], rfl⟩
  · exact ⟨I 112 31, by rw [if_neg (by decide), if_neg (by decide), if_neg (by decide), if_neg (by decide), if_pos (by decide), q4, s4], rfl⟩
  · exact ⟨I 112 32, by rw [if_neg (by decide), if_neg (by decide), if_neg (by decide), if_neg (by decide), if_neg (by decide), if_pos (by decide), q5, s5], rfl⟩
theorem pin_rd {rd : Nat} {τ : Tb} {π : Pl} {na : Nat} {ac : Nat → Pl} {im : Im} (ok : OK rd τ π na ac im) {a : Nat} (h : a < tn τ) : rd = 1 := by
  rcases rd_cases ok with h0 | h1
  · have := (ok.2.2.2.2.2.1 h0).2.1
    omega
  · exact h1
theorem p_pin {I : Mem} (h : PlayR I) (p1 p2 : Int32) : ∃ r, fnX9_pin I p1 p2 = some (r, I) ∧ fnX10_pin I p1 p2 = some (r, I) := by
  obtain ⟨rd, τ, π, na, ac, im, ok, hx, hm⟩ := h
  have h6 := ok.2.1.2.1
  unfold fnX9_pin fnX10_pin fnX9_pin_104
  rw [isPinX_e hx.2.1.2.1 (by omega), isPinM_e hm.2.1.2.1 (by omega), ob_s, ob_s]
  dsimp only
  by_cases c : pinB (tn τ) p1 = 0
  · rw [if_pos c, if_pos c]
    exact ⟨_, rfl, rfl⟩
  rw [if_neg c, if_neg c]
  obtain ⟨a, ha, rfl⟩ := pinB_of c
  have hr := pin_rd ok ha
  obtain ⟨x1, x2, x3, x4⟩ := hx.2.1.2.2.1 a ha
  obtain ⟨m1, m2, m3, m4⟩ := hm.2.1.2.2 a ha
  have xs := hx.2.2.1.2.2.2.2.2.2.2.2 a (by omega)
  have ms : I 112 (35 + a) = π.2.2.2.2.2.2.2.2 a := (by have q := (hm.2.2.1 hr).2.2.2.2.2.2.2.2 a (by omega); rw [Nat.zero_add] at q; exact q)
  have mg : I 112 (ix 34) = nI π.2.2.2.2.2.2.1 := (hm.2.2.1 hr).2.2.2.2.2.2.1
  have xg := hx.2.2.1.2.2.2.2.2.2.1
  have g6 := g64 ok.2.1 ok.2.2.1.1.2.2.2.2
  have a41 : (3 : Int32) + 4 * nI a + 1 = nI (4 + 4 * a) := by rw [i34, nI_1]; congr 1; omega
  have a52 : (3 : Int32) + 4 * nI a + 2 = nI (5 + 4 * a) := by rw [i34, show (2 : Int32) = nI 2 from rfl, nI_add]; congr 1; omega
  rw [a41, a52, a63, show (35 : Int32) + nI a = nI (35 + a) from nI_add 35 a, inb_nI (show a < 6 by omega) (by decide), inb_nI (show 4 + 4 * a < 164 by omega) (by decide), inb_nI (show 5 + 4 * a < 164 by omega) (by decide), inb_nI (show 6 + 4 * a < 164 by omega) (by decide), inb_nI (show 35 + a < 164 by omega) (by decide), show inb 34 164 = true from rfl, ix_nI (show a < 2 ^ 31 by omega), ix_nI (show 4 + 4 * a < 2 ^ 31 by omega), ix_nI (show 5 + 4 * a < 2 ^ 31 by omega), ix_nI (show 6 + 4 * a < 2 ^ 31 by omega), ix_nI (show 35 + a < 2 ^ 31 by omega), m2, m3, m4, ms, mg, x2, x3, x4, xs, isOpen_e xg g6 (show a < 6 by omega)]
  simp only [ck_t, ob_s]
  by_cases c0 : p2 = 0
  · rw [if_pos c0, if_pos c0]; exact ⟨_, rfl, rfl⟩
  rw [if_neg c0, if_neg c0]
  by_cases c1 : p2 = 1
  · rw [if_pos c1, if_pos c1]; exact ⟨_, rfl, rfl⟩
  rw [if_neg c1, if_neg c1]
  by_cases c2 : p2 = 2
  · rw [if_pos c2, if_pos c2]; exact ⟨_, rfl, rfl⟩
  rw [if_neg c2, if_neg c2]
  by_cases c3 : p2 = 3
  · rw [if_pos c3, if_pos c3]; exact ⟨_, rfl, rfl⟩
  rw [if_neg c3, if_neg c3]
  by_cases c4 : p2 = 4
  · rw [if_pos c4, if_pos c4]
    have hop := openI_e π.2.2.2.2.2.2.1 g6 a (by omega)
    by_cases ht : π.2.2.2.2.2.2.1.testBit a = true
    · rw [hop.mpr ht, if_pos ht]
      exact ⟨1, rfl, rfl⟩
    · have hz : ((nI π.2.2.2.2.2.2.1) >>> ((nI a) &&& 31)) &&& 1 = 0 := by
        have hne : ¬ ((nI π.2.2.2.2.2.2.1) >>> ((nI a) &&& 31)) &&& 1 = 1 := fun q => ht (hop.mp q)
        have hall : ∀ g, g < 64 → ∀ p, p < 6 → ((((nI g) >>> ((nI p) &&& 31)) &&& 1) = 1 ∨ (((nI g) >>> ((nI p) &&& 31)) &&& 1) = 0) := by decide +kernel
        exact (hall _ g6 a (by omega)).resolve_left hne
      rw [hz, if_neg ht]
      exact ⟨0, rfl, rfl⟩
  rw [if_neg c4, if_neg c4]
  exact ⟨_, rfl, rfl⟩
theorem p_kind {I : Mem} (h : PlayR I) (p1 : Int32) : ∃ r, fnX9_kind I p1 = some (r, I) ∧ fnX10_kind I p1 = some (r, I) := by
  obtain ⟨rd, τ, π, na, ac, im, ok, hx, hm⟩ := h
  have h6 := ok.2.1.2.1
  unfold fnX9_kind fnX10_kind fnX9_kind_22 fnX10_kind_23
  rw [isPinX_e hx.2.1.2.1 (by omega), isPinM_e hm.2.1.2.1 (by omega), ob_s, ob_s]
  dsimp only
  by_cases c : pinB (tn τ) p1 = 0
  · rw [if_pos c, if_pos c]
    exact ⟨_, rfl, rfl⟩
  rw [if_neg c, if_neg c]
  obtain ⟨a, ha, rfl⟩ := pinB_of c
  rw [i34, inb_nI (show a < 6 by omega) (by decide), inb_nI (show 3 + 4 * a < 164 by omega) (by decide), ix_nI (show a < 2 ^ 31 by omega), ix_nI (show 3 + 4 * a < 2 ^ 31 by omega), (hx.2.1.2.2.1 a ha).1, (hm.2.1.2.2 a ha).1]
  exact ⟨_, rfl, rfl⟩
/-- only what status tells is written -/
def SFr (I I2 : Mem) : Prop := I2 = I ∨ ∃ v, I2 = up2 (up2 I 0 11 v) 111 6 v
theorem p_as {I : Mem} (h : PlayR I) (p1 p2 : Int32) : ∃ r I1 I2, fnX9_as I p1 p2 = some (r, I1) ∧ fnX10_as I1 p1 p2 = some (r, I2) ∧ SFr I I2 := by
  obtain ⟨rd, τ, π, na, ac, im, ok, hx, hm⟩ := h
  have h6 := ok.2.1.2.1
  have hM : ∀ J : Mem, J 112 = I 112 → fnX10_as J p1 p2 = if pinB (tn τ) p1 = 0 then some ((-1000001), J) else if upTo p2 (nI 5) = 0 then some ((-1000001), J) else (ck (inb ((3 : Int32) + ((4 : Int32) * p1)) 164) <| ob (fnX10_isKind J (J 112 (ix ((3 : Int32) + ((4 : Int32) * p1)))) p2) fun ⟨r12, I11⟩ => if r12 = 0 then (ob (fnX10_find I11 3) fun ⟨r16, I15⟩ => fnX10_as_53 I15 r16) else (ob (fnX10_give I11 p1) fun ⟨r19, I18⟩ => fnX10_as_53 I18 r19)) := fun J hJ => by
    unfold fnX10_as fnX10_as_20
    rw [isPinM_e (by rw [hJ]; exact hm.2.1.2.1) (by omega), ob_s]
    dsimp only
    rw [show (5 : Int64) = lN 5 from rfl, in_u J p2 5 (by decide), ob_s]
  have hX : fnX9_as I p1 p2 = if pinB (tn τ) p1 = 0 then some ((-1000001), I) else if upTo p2 (nI 5) = 0 then some ((-1000001), I) else (ck (inb p1 6) <| ob (fnX9_isOfKind I (I (21 + 1) (ix p1)) p2) fun ⟨r12, I11⟩ => if r12 = 0 then (ob (fnX9_found I11 3) fun ⟨r19, I18⟩ => some (r19, I18)) else (ob (fnX9_plain I11 p1) fun ⟨r16, I15⟩ => some (r16, I15))) := by
    unfold fnX9_as fnX9_as_16
    rw [isPinX_e hx.2.1.2.1 (by omega), ob_s]
    dsimp only
    rw [isUpTo_e, ob_s]
    rfl
  by_cases c : pinB (tn τ) p1 = 0
  · exact ⟨_, I, I, by rw [hX, if_pos c], by rw [hM I rfl, if_pos c], Or.inl rfl⟩
  by_cases c2 : upTo p2 (nI 5) = 0
  · exact ⟨_, I, I, by rw [hX, if_neg c, if_pos c2], by rw [hM I rfl, if_neg c, if_pos c2], Or.inl rfl⟩
  obtain ⟨a, ha, rfl⟩ := pinB_of c
  obtain ⟨b, hb, rfl⟩ := upTo_of (m := 5) (by decide) c2
  obtain ⟨k1, k2, -⟩ := ok.2.1.2.2.1 a ha
  have x1 := (hx.2.1.2.2.1 a ha).1
  have m1 := (hm.2.1.2.2 a ha).1
  have hM2 : ∀ J : Mem, J 112 = I 112 → fnX10_as J (nI a) (nI b) = if isA (tkd τ a) b then some (nI a, up2 J 111 6 0) else some ((-1000010) - 3, up2 J 111 6 3) := fun J hJ => by
    rw [hM J hJ, if_neg c, if_neg c2, i34, inb_nI (show 3 + 4 * a < 164 by omega) (by decide), ck_t, ix_nI (by omega), hJ, m1, isKindM_e J ⟨k1, k2⟩ hb, ob_s]
    by_cases ci : isA (tkd τ a) b = true
    · rw [if_pos ci, if_pos ci]; rfl
    · rw [if_neg ci, if_neg ci]; rfl
  have hX2 : fnX9_as I (nI a) (nI b) = if isA (tkd τ a) b then some (nI a, up2 I 0 11 0) else some ((-1000010) - 3, up2 I 0 11 3) := by
    rw [hX, if_neg c, if_neg c2, inb_nI (show a < 6 by omega) (by decide), ck_t, ix_nI (by omega), x1, isKindX_e I ⟨k1, k2⟩ hb, ob_s]
    by_cases ci : isA (tkd τ a) b = true
    · rw [if_pos ci, if_pos ci]; rfl
    · rw [if_neg ci, if_neg ci]; rfl
  by_cases ci : isA (tkd τ a) b = true
  · exact ⟨_, up2 I 0 11 0, up2 (up2 I 0 11 0) 111 6 0, by rw [hX2, if_pos ci], by rw [hM2 _ (up2_ne (by omega)), if_pos ci], Or.inr ⟨0, rfl⟩⟩
  · exact ⟨_, up2 I 0 11 3, up2 (up2 I 0 11 3) 111 6 3, by rw [hX2, if_neg ci], by rw [hM2 _ (up2_ne (by omega)), if_neg ci], Or.inr ⟨3, rfl⟩⟩
theorem p_trace {I : Mem} (h : AskR I) (p1 : Int32) : ∃ r, fnX9_trace I p1 = some (r, I) ∧ fnX10_trace I p1 = some (r, I) := by
  obtain ⟨l, h16, h1, h2, h3⟩ := h
  unfold fnX9_trace fnX10_trace fnX9_trace_27 fnX9_trace_29 fnX10_trace_27
  rw [h1, h2, inN_e (by omega), ob_s]
  dsimp only
  have b1 := lt0_iff p1
  have b2 := le_int (nI l.length) p1
  rw [nI_toInt (by omega)] at b2
  by_cases c : pinB l.length p1 = 0
  · rw [if_pos c]
    have c' : ¬ (0 ≤ p1.toInt ∧ p1.toInt < (l.length : Int)) := fun q => by
      unfold pinB at c
      rw [if_pos q] at c
      exact absurd c (by decide)
    refine ⟨_, ?_, rfl⟩
    by_cases c1 : p1 < 0
    · rw [if_pos c1]
    · rw [if_neg c1, if_pos (by rw [b2]; rw [b1] at c1; omega)]
  · obtain ⟨a, ha, rfl⟩ := pinB_of c
    rw [if_neg c, if_neg (nI_pos (by omega)), if_neg (show ¬ nI l.length ≤ nI a from nI_ge (by omega) (by omega)), inb_nI (show a < 16 by omega) (by decide), ck_t, ix_nI (by omega), ck_t, (h3 a ha).1, (h3 a ha).2]
    exact ⟨_, rfl, rfl⟩
theorem isA_1 : ∀ k, k < 6 → 1 ≤ k → (isA k 1 = true → k = 1 ∨ k = 2 ∨ k = 3) ∧ (¬ isA k 1 = true → k = 4 ∨ k = 5) := by decide
/-- what ask writes -/
def AFr (I I2 : Mem) : Prop := (∀ x, x ≠ 91 → x ≠ 92 → x ≠ 111 → x ≠ 118 → I2 x = I x) ∧ ∀ y, y ≠ 11 → I2 111 y = I 111 y
theorem AskR_of {I : Mem} {p kd pa : Nat} {st : Int32} {l : List Int32} (hl : l.length ≤ 16) (h1 : I 91 1 = nI l.length) (h2 : ∀ i, i < l.length → I 92 i = l.getD i 0) (h : TrM I p kd pa st l) : AskR I := ⟨l, hl, h1, h.1, fun i hi => ⟨h2 i hi, h.2.1 i hi⟩⟩
theorem p_ask {I : Mem} (h : PlayR I) (ha : AskR I) (p1 p2 : Int32) : ∃ r I1 I2, fnX9_ask I p1 p2 = some (r, I1) ∧ fnX10_ask I1 p1 p2 = some (r, I2) ∧ AskR I2 ∧ AFr I I2 := by
  obtain ⟨rd, τ, π, na, ac, im, ok, hx, hm⟩ := h
  have h6 := ok.2.1.2.1
  have hX : fnX9_ask I p1 p2 = if pinB (tn τ) p1 = 0 then some ((-1000001), I) else if upTo p2 (nI 1) = 0 then some ((-1000001), I) else (ob (fnX1_begin 21 27 I p1) fun I10 => if p2 = 0 then (ob (fnX1_sizeAsked I10) fun ⟨r17, I16⟩ => fnX9_ask_56 I16 r17) else (ob (fnX1_markAsked I10) fun ⟨r14, I13⟩ => fnX9_ask_56 I13 r14)) := by
    unfold fnX9_ask fnX9_ask_16
    rw [isPinX_e hx.2.1.2.1 (by omega), ob_s]
    dsimp only
    rw [isUpTo_e, ob_s]
    rfl
  have hM : ∀ J : Mem, J 112 = I 112 → fnX10_ask J p1 p2 = if pinB (tn τ) p1 = 0 then some ((-1000001), J) else if upTo p2 (nI 1) = 0 then some ((-1000001), J) else (bnd (up2 J 111 11 0) fun I9 => ck (inb ((3 : Int32) + ((4 : Int32) * p1)) 164) <| ob (fnX10_isKind I9 (I9 112 (ix ((3 : Int32) + ((4 : Int32) * p1)))) 1) fun ⟨r13, I12⟩ => if p2 = 0 then (if r13 = 0 then (ob (fnX10_sizeOfLamp I12 p1) fun ⟨r25, I24⟩ => fnX10_ask_82 I24 r25) else (ob (fnX10_sizeOfBumper I12 p1) fun ⟨r28, I27⟩ => fnX10_ask_82 I27 r28)) else (if r13 = 0 then (ob (fnX10_markOfLamp I12 p1) fun ⟨r18, I17⟩ => fnX10_ask_82 I17 r18) else (ob (fnX10_markOfBumper I12 p1) fun ⟨r21, I20⟩ => fnX10_ask_82 I20 r21))) := fun J hJ => by
    unfold fnX10_ask fnX10_ask_18
    rw [isPinM_e (by rw [hJ]; exact hm.2.1.2.1) (by omega), ob_s]
    dsimp only
    rw [show (1 : Int64) = lN 1 from rfl, in_u J p2 1 (by decide), ob_s]
  by_cases c : pinB (tn τ) p1 = 0
  · exact ⟨_, I, I, by rw [hX, if_pos c], by rw [hM I rfl, if_pos c], ha, fun _ _ _ _ _ => rfl, fun _ _ => rfl⟩
  by_cases c2 : upTo p2 (nI 1) = 0
  · exact ⟨_, I, I, by rw [hX, if_neg c, if_pos c2], by rw [hM I rfl, if_neg c, if_pos c2], ha, fun _ _ _ _ _ => rfl, fun _ _ => rfl⟩
  obtain ⟨a, ha, rfl⟩ := pinB_of c
  have hr := pin_rd ok ha
  obtain ⟨k1, k2, -⟩ := ok.2.1.2.2.1 a ha
  obtain ⟨x1, -, -, x4⟩ := hx.2.1.2.2.1 a ha
  obtain ⟨m1, -, -, m4⟩ := hm.2.1.2.2 a ha
  have xs := hx.2.2.1.2.2.2.2.2.2.2.2 a (by omega)
  have ms : I 112 (35 + a) = π.2.2.2.2.2.2.2.2 a := (by have q := (hm.2.2.1 hr).2.2.2.2.2.2.2.2 a (by omega); rw [Nat.zero_add] at q; exact q)
  rw [if_neg c, if_neg c2] at hX
  have ha6 : a < 6 := by omega
  have hbeg : ∃ I1, fnX1_begin 21 27 I (nI a) = some I1 ∧ TrX I1 a (tkd τ a) (tpa τ a) (π.2.2.2.2.2.2.2.2 a) [] ∧ FrA I I1 := by
    unfold fnX1_begin
    rw [bnd_e, bnd_e, inb_nI ha6 (by decide), ck_t, bnd_e, ck_t, bnd_e, ck_t, bnd_e, ix_nI (by omega)]
    refine ⟨_, rfl, ⟨by simp [up2_r]; rfl, fun i hi => absurd hi (by simp), by simp [up2_r], ?_, ?_, ?_⟩, fun x b d => ?_⟩
    · rw [up2_r, if_neg (by omega), up2_r, if_neg (by omega), up2_r, if_pos ⟨rfl, rfl⟩, up2_ne (by omega), up2_ne (by omega), x1]
    · rw [up2_r, if_neg (by omega), up2_r, if_pos ⟨rfl, rfl⟩, up2_ne (by omega), up2_ne (by omega), up2_ne (by omega), x4]
    · rw [up2_r, if_pos ⟨rfl, rfl⟩, up2_ne (by omega), up2_ne (by omega), up2_ne (by omega), up2_ne (by omega), xs]
    · rw [up2_ne b, up2_ne b, up2_ne b, up2_ne b, up2_ne b]
  obtain ⟨I1, b1, b2, b3⟩ := hbeg
  rw [b1, ob_s] at hX
  have is1 := isKindX_e I1 (a := 1) ⟨k1, k2⟩ (by omega)
  have fin : ∀ (r : Int32) (I2 : Mem) (l : List Int32), l.length ≤ 16 → fnX9_ask I (nI a) p2 = some (r, I2) → TrX I2 a (tkd τ a) (tpa τ a) (π.2.2.2.2.2.2.2.2 a) l → FrA I I2 → (∀ J, TrM J a (tkd τ a) (tpa τ a) (π.2.2.2.2.2.2.2.2 a) [] → (∃ K, (if p2 = 0 then (if isA (tkd τ a) 1 then fnX10_sizeOfBumper J (nI a) else fnX10_sizeOfLamp J (nI a)) else (if isA (tkd τ a) 1 then fnX10_markOfBumper J (nI a) else fnX10_markOfLamp J (nI a))) = some (r, K) ∧ TrM K a (tkd τ a) (tpa τ a) (π.2.2.2.2.2.2.2.2 a) l ∧ FrB J K)) → ∃ r I1 I2, fnX9_ask I (nI a) p2 = some (r, I1) ∧ fnX10_ask I1 (nI a) p2 = some (r, I2) ∧ AskR I2 ∧ AFr I I2 := by
    intro r I2 l hl e1 e2 e3 eM
    have h112 : I2 112 = I 112 := e3 112 (by omega) (by omega)
    obtain ⟨K, f1, f2, f3⟩ := eM (up2 I2 111 11 0) ⟨by simp [up2_r]; rfl, fun i hi => absurd hi (by simp), by rw [up2_ne (by omega), h112, m1], by rw [up2_ne (by omega), h112, m4], by rw [up2_ne (by omega), h112, ms]⟩
    refine ⟨r, I2, K, e1, ?_, AskR_of hl (by rw [f3.1 91 (by omega) (by omega), up2_ne (by omega)]; exact e2.1) (fun i hi => by rw [f3.1 92 (by omega) (by omega), up2_ne (by omega)]; exact e2.2.1 i hi) f2, fun x y1 y2 y3 y4 => by rw [f3.1 x y3 y4, up2_ne y3, e3 x y1 y2], fun y hy => by rw [f3.2 y hy, up2_r, if_neg (by omega), e3 111 (by omega) (by omega)]⟩
    rw [hM I2 h112, if_neg c, if_neg c2, bnd_e, i34, inb_nI (show 3 + 4 * a < 164 by omega) (by decide), ck_t, ix_nI (by omega), up2_ne (show (112 : Nat) ≠ 111 by omega), h112, m1, show (1 : Int32) = nI 1 from rfl, isKindM_e (up2 I2 111 11 0) (a := 1) ⟨k1, k2⟩ (by omega), ob_s]
    dsimp only
    unfold fnX10_ask_82
    by_cases ci : isA (tkd τ a) 1 = true
    · rw [if_pos ci] at f1
      rw [if_pos ci] at f1
      rw [if_pos ci, if_neg (show ¬ (1 : Int32) = 0 by decide), if_neg (show ¬ (1 : Int32) = 0 by decide)]
      by_cases cp : p2 = 0
      · rw [if_pos cp] at f1
        rw [if_pos cp, f1, ob_s]
      · rw [if_neg cp] at f1
        rw [if_neg cp, f1, ob_s]
    · rw [if_neg ci] at f1
      rw [if_neg ci] at f1
      rw [if_neg ci, if_pos rfl, if_pos rfl]
      by_cases cp : p2 = 0
      · rw [if_pos cp] at f1
        rw [if_pos cp, f1, ob_s]
      · rw [if_neg cp] at f1
        rw [if_neg cp, f1, ob_s]
  have len1 : ∀ kd, (mbL kd).length ≤ 3 := fun kd => by
    unfold mbL
    repeat' split
    all_goals simp
  have len2 : ∀ kd, (sbL kd).length ≤ 3 := fun kd => by unfold sbL; split <;> simp
  have len3 : ∀ kd, (slL kd).length ≤ 3 := fun kd => by unfold slL; split <;> simp
  have l1 := len1 (tkd τ a)
  have l2 := len2 (tkd τ a)
  have l3 := len3 (tkd τ a)
  have hsa : fnX1_sizeAsked I1 = if isA (tkd τ a) 1 then fnX1_sizeOfBumper I1 else fnX1_sizeOfLamp I1 := by
    unfold fnX1_sizeAsked fnX1_sizeAsked_22
    rw [b2.2.2.2.1, show (1 : Int32) = nI 1 from rfl, is1, ob_s]
    dsimp only
    by_cases ci : isA (tkd τ a) 1 = true
    · rw [if_pos ci, if_pos ci, if_neg (show ¬ (1 : Int32) = 0 by decide)]
      cases fnX1_sizeOfBumper I1 <;> rfl
    · rw [if_neg ci, if_neg ci, if_pos rfl]
      cases fnX1_sizeOfLamp I1 <;> rfl
  have hma : fnX1_markAsked I1 = if isA (tkd τ a) 1 then fnX1_markOfBumper I1 else fnX1_markOfLamp I1 := by
    unfold fnX1_markAsked fnX1_markAsked_22
    rw [b2.2.2.2.1, show (1 : Int32) = nI 1 from rfl, is1, ob_s]
    dsimp only
    by_cases ci : isA (tkd τ a) 1 = true
    · rw [if_pos ci, if_pos ci, if_neg (show ¬ (1 : Int32) = 0 by decide)]
      cases fnX1_markOfBumper I1 <;> rfl
    · rw [if_neg ci, if_neg ci, if_pos rfl]
      cases fnX1_markOfLamp I1 <;> rfl
  unfold fnX9_ask_56 at hX
  rw [hsa, hma] at hX
  obtain ⟨cA, cB⟩ := isA_1 (tkd τ a) (by omega) k1
  by_cases cp : p2 = 0
  · rw [if_pos cp] at hX
    by_cases ci : isA (tkd τ a) 1 = true
    · obtain ⟨I2, e1, e2, e3⟩ := sobX b2 (by simp) (cA ci)
      rw [if_pos ci, e1, ob_s] at hX
      refine fin _ I2 _ ?_ hX e2 (b3.tr e3) (fun J hJ => ?_)
      · simp; omega
      · rw [if_pos cp, if_pos ci]; exact sobM ha6 hJ (by simp) (cA ci)
    · obtain ⟨I2, e1, e2, e3⟩ := solX b2 (by simp) (cB ci)
      rw [if_neg ci, e1, ob_s] at hX
      refine fin _ I2 _ ?_ hX e2 (b3.tr e3) (fun J hJ => ?_)
      · simp; omega
      · rw [if_pos cp, if_neg ci]; exact solM ha6 hJ (by simp) (cB ci)
  · rw [if_neg cp] at hX
    by_cases ci : isA (tkd τ a) 1 = true
    · obtain ⟨I2, e1, e2, e3⟩ := mobX b2 (by simp) (cA ci)
      rw [if_pos ci, e1, ob_s] at hX
      refine fin _ I2 _ ?_ hX e2 (b3.tr e3) (fun J hJ => ?_)
      · simp; omega
      · rw [if_neg cp, if_pos ci]; exact mobM ha6 hJ (by simp) (cA ci)
    · obtain ⟨I2, e1, e2, e3⟩ := molX b2 (by simp) (cB ci)
      rw [if_neg ci, e1, ob_s] at hX
      refine fin _ I2 _ ?_ hX e2 (b3.tr e3) (fun J hJ => ?_)
      · simp; omega
      · rw [if_neg cp, if_neg ci]; exact molM ha6 hJ (by simp) (cB ci)
