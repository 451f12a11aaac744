/-! the reference's reading of a whole text -/
section
variable {b : Nat → Int32} {L : Nat} {I : Mem} {t : Nat × Nat}
theorem w_pin (h : TkM I b L t) : fnX10_isWord I 14640 3 = some ((if nmA b 0 t then 1 else 0), I) := isWord_e h (w := 0) (by omega) (by decide)
theorem w_law (h : TkM I b L t) : fnX10_isWord I 23596 3 = some ((if nmA b 1 t then 1 else 0), I) := isWord_e h (w := 1) (by omega) (by decide)
theorem w_ball (h : TkM I b L t) : fnX10_isWord I 405538 4 = some ((if nmA b 2 t then 1 else 0), I) := isWord_e h (w := 2) (by omega) (by decide)
theorem w_bumper (h : TkM I b L t) : fnX10_isWord I 609760930 6 = some ((if nmA b 3 t then 1 else 0), I) := isWord_e h (w := 3) (by omega) (by decide)
theorem w_lefter (h : TkM I b L t) : fnX10_isWord I 609884332 6 = some ((if nmA b 4 t then 1 else 0), I) := isWord_e h (w := 4) (by omega) (by decide)
theorem w_lamp (h : TkM I b L t) : fnX10_isWord I 537644 4 = some ((if nmA b 6 t then 1 else 0), I) := isWord_e h (w := 6) (by omega) (by decide)
theorem w_gate (h : TkM I b L t) : fnX10_isWord I 184359 4 = some ((if nmA b 7 t then 1 else 0), I) := isWord_e h (w := 7) (by omega) (by decide)
theorem sortW (h : TkM I b L t) : fnX10_sortOfWord I = some ((if kndA b t = 0 then -1000000 else nI (kndA b t)), I) := by
  have e1 : ¬ (1 : Int32) = 0 := by decide
  unfold fnX10_sortOfWord fnX10_sortOfWord_71 kndA
  simp only [w_bumper h, w_lefter h, isRighter_e h, w_lamp h, w_gate h, ob_s]
  by_cases c3 : nmA b 3 t = true
  · simp only [if_pos c3, if_neg e1]; rfl
  simp only [if_neg c3, if_true]
  by_cases c4 : nmA b 4 t = true
  · simp only [if_pos c4, if_neg e1]; rfl
  simp only [if_neg c4, if_true]
  by_cases c5 : nmA b 5 t = true
  · simp only [if_pos c5, if_neg e1]; rfl
  simp only [if_neg c5, if_true]
  by_cases c6 : nmA b 6 t = true
  · simp only [if_pos c6, if_neg e1]; rfl
  simp only [if_neg c6, if_true]
  by_cases c7 : nmA b 7 t = true
  · simp only [if_pos c7, if_neg e1]; rfl
  simp only [if_neg c7, if_true]
theorem TkM.u (h : TkM I b L t) {k : Nat} {v : Int32} (hk : 15 ≤ k) : TkM (up2 I 111 k v) b L t := h.fr (FrN.up (S := fun y => y = k) rfl) (by omega) (by omega) (by omega) (by omega)
theorem up2_s {α : Type} {f : Nat → Nat → α} {a k : Nat} {v : α} : up2 f a k v a k = v := by simp [up2_r]
def s15 (y : Nat) : Prop := s514 y ∨ y = 15
def s189 (y : Nat) : Prop := s514 y ∨ y = 18 ∨ y = 19
/-- the token that stands behind a reading -/
def bh (b : Nat → Int32) (L f : Nat) (t : Nat × Nat) : Nat × Nat := if f = 0 then tokA b L t.2 else t
theorem bh0 {f : Nat} (h : f = 0) : bh b L f t = tokA b L t.2 := if_pos h
theorem bhn {f : Nat} (h : f ≠ 0) : bh b L f t = t := if_neg h
/-- the fault that is told -/
def tf (f : Nat) (v : Int32) : Int32 := if f = 0 then v else nI f
theorem tf0 {f : Nat} {v : Int32} (h : f = 0) : tf f v = v := if_pos h
theorem tfn {f : Nat} {v : Int32} (h : f ≠ 0) : tf f v = nI f := if_neg h
def yes (f : Nat) : Int32 := if f = 0 then 1 else 0
theorem yes0 {f : Nat} (h : f = 0) : yes f = 1 := if_pos h
theorem yesn {f : Nat} (h : f ≠ 0) : yes f = 0 := if_neg h
theorem put5 (h : TkM I b L t) (v : Int32) : TkM (up2 I 111 5 v) b L t := h.s5 (FrN.up rfl)
theorem lawM (h : TkM I b L t) : ∃ I1, fnX10_readsLaw I = some (yes (lawA b L t).1, I1) ∧ TkM I1 b L (bh b L (lawA b L t).1 (lawA b L t).2.1) ∧ I1 111 5 = tf (lawA b L t).1 (I 111 5) ∧ ((lawA b L t).1 = 0 → I1 111 15 = nI (lawA b L t).2.2) ∧ FrN s15 I I1 := by
  unfold fnX10_readsLaw fnX10_readsLaw_53 fnX10_readsLaw_54 lawA
  rw [w_law h, ob_s]
  simp only [zb_0, zb_1, ck_t]
  by_cases c : nmA b 1 t = true
  · rw [if_pos c, if_neg (show ¬ (1 : Int32) = 0 by decide), if_pos c]
    obtain ⟨I1, a1, a2, a3⟩ := tkm h
    obtain ⟨I2, b1, b2⟩ := numM a2 (lo := 1) (hi := 20) (by omega) (by omega)
    rw [a1, ob_s, show fnX10_number I1 1 20 = _ from b1, ob_s]
    dsimp only
    rw [bnd_e]
    generalize tokA b L t.2 = t1 at b2
    have fr2 : FrN s15 I I2 := (a3.mo (fun y q => Or.inl (s12_s y q))).tr (b2.2.2.mo (fun y q => Or.inl q))
    have e5 : I1 111 5 = I 111 5 := a3.2 5 (by unfold s1214; omega)
    by_cases c1 : numF b L 1 20 t1 = 0
    · have v1 := numF_0 c1 (by omega)
      obtain ⟨d1, d2⟩ := b2.ok c1
      obtain ⟨I3, g1, g2⟩ := signM (d1.u (k := 15) (v := nI (vN b t1)) (by omega))
      simp only [up2_s]
      rw [if_pos c1, if_neg (show ¬ numF b L 1 20 t1 ≠ 0 from fun q => q c1), if_neg (show ¬ nI (vN b t1) = -1000000 from none_ne (by omega)), g1, ob_s]
      dsimp only
      generalize tokA b L t1.2 = t2 at g2
      have e3 : up2 I2 111 15 (nI (vN b t1)) 111 5 = I 111 5 := by rw [up2_r, if_neg (by omega), d2, e5]
      have fr3 : FrN s15 I I3 := fr2.tr ((FrN.up (Or.inr rfl)).tr (g2.2.2.mo (fun y q => Or.inl q)))
      by_cases cs : semF b L t2 = 0
      · obtain ⟨j1, j2⟩ := g2.ok cs
        rw [if_pos cs, if_neg (show ¬ (1 : Int32) = 0 by decide)]
        refine ⟨I3, by rw [yes0 cs], by rw [bh0 cs]; exact j1, by rw [tf0 cs, j2]; exact e3, fun _ => ?_, fr3⟩
        rw [g2.2.2.2 15 (by unfold s514; omega), up2_r, if_pos ⟨rfl, rfl⟩]
      · obtain ⟨j1, j2⟩ := g2.no cs
        rw [if_neg cs, if_pos rfl]
        exact ⟨I3, by rw [yesn cs], by rw [bhn cs]; exact j1, by rw [tfn cs, j2], fun q => absurd q cs, fr3⟩
    · obtain ⟨d1, d2⟩ := b2.no c1
      simp only [up2_s]
      rw [if_neg c1, if_pos (show numF b L 1 20 t1 ≠ 0 from c1), if_pos rfl]
      exact ⟨_, by rw [yesn c1], by rw [bhn c1]; exact d1.u (by omega), by rw [tfn c1, up2_r, if_neg (by omega), d2], fun q => absurd q c1, fr2.tr (FrN.up (Or.inr rfl))⟩
  · rw [if_neg c, if_pos rfl, bnd_e, if_neg c]
    exact ⟨_, rfl, put5 h 1, by simp [up2_r]; rfl, (fun q => by cases q), FrN.up (Or.inl (Or.inl rfl))⟩
/-- what the reading of pins may write -/
def FrQ (I I1 : Mem) : Prop := (∀ x, x ≠ 111 → x ≠ 119 → I1 x = I x) ∧ ∀ y, (y < 12 ∧ y ≠ 5) ∨ y = 15 → I1 111 y = I 111 y
theorem FrQ.rf : FrQ I I := ⟨fun _ _ _ => rfl, fun _ _ => rfl⟩
theorem FrQ.tr {I1 I2 : Mem} (h : FrQ I I1) (h2 : FrQ I1 I2) : FrQ I I2 := ⟨fun x a c => (h2.1 x a c).trans (h.1 x a c), fun y a => (h2.2 y a).trans (h.2 y a)⟩
theorem FrQ.n {I1 : Mem} (h : FrN s514 I I1) : FrQ I I1 := ⟨fun x a _ => h.1 x a, fun y a => h.2 y (by unfold s514; omega)⟩
theorem addM {τ : Tb} (hT : Tok τ) (hR : RdM I τ) (h6 : tn τ < 6) (h : TkM I b L t) {kd ce le pa : Nat} (hpa : pa < 100) (I4 : Mem) (h4 : I4 = up2 (up2 (up2 (up2 (up2 I 119 (4 * tn τ) (nI kd)) 119 (4 * tn τ + 1) (nI ce)) 119 (4 * tn τ + 2) (nI le)) 119 (4 * tn τ + 3) (nI pa)) 111 17 (nI (tn τ + 1))) : fnX10_readsPin_84 I (nI kd) (nI ce) (nI le) (nI pa) = (ob (fnX10_readsSign I4) fun x => ck (zb x.1) <| some (x.1, x.2)) ∧ TkM I4 b L t ∧ RdM I4 (addT τ kd ce le pa) ∧ FrQ I I4 ∧ I4 111 5 = I 111 5 := by
  have i42 : ∀ j, nI (4 * tn τ) + nI j = nI (4 * tn τ + j) := fun j => nI_add _ _
  have hn := hR.1
  have nb : ∀ j, j < 4 → inb (nI (4 * tn τ + j)) 24 = true := fun j hj => inb_nI (by omega) (by decide)
  have nx : ∀ j, j < 4 → ix (nI (4 * tn τ + j)) = 4 * tn τ + j := fun j hj => ix_nI (by omega)
  have hm : ∀ (J : Mem) (k : Nat) (v : Int32), J 111 17 = nI (tn τ) → up2 J 119 k v 111 17 = nI (tn τ) := fun J k v q => by rw [up2_ne (by omega)]; exact q
  have r1 := hm I (4 * tn τ) (nI kd) hn
  have r2 := hm _ (4 * tn τ + 1) (nI ce) r1
  have r3 := hm _ (4 * tn τ + 2) (nI le) r2
  have r4 := hm _ (4 * tn τ + 3) (nI pa) r3
  refine ⟨?_, ?_, ⟨?_, fun p hp => ?_⟩, ⟨fun x a c => ?_, fun y a => ?_⟩, ?_⟩
  · unfold fnX10_readsPin_84
    rw [if_neg (show ¬ nI pa = -1000000 from none_ne (by omega)), hn, i40, show (1 : Int32) = nI 1 from rfl, show (2 : Int32) = nI 2 from rfl, show (3 : Int32) = nI 3 from rfl]
    have b0 := nb 0 (by omega)
    have x0 := nx 0 (by omega)
    rw [Nat.add_zero] at b0 x0
    rw [b0, ck_t, bnd_e, x0, r1, i40, i42, nb 1 (by omega), ck_t, bnd_e, nx 1 (by omega), r2, i40, i42, nb 2 (by omega), ck_t, bnd_e, nx 2 (by omega), r3, i40, i42, nb 3 (by omega), ck_t, bnd_e, nx 3 (by omega), r4, nI_add, bnd_e, h4]
  · rw [h4]
    refine TkM.u ?_ (by omega)
    exact ⟨⟨h.1.1, by rw [up2_ne (by omega), up2_ne (by omega), up2_ne (by omega), up2_ne (by omega)]; exact h.1.2.1, fun j hj => by rw [up2_ne (by omega), up2_ne (by omega), up2_ne (by omega), up2_ne (by omega)]; exact h.1.2.2 j hj⟩, h.2.1, h.2.2.1, by rw [up2_ne (by omega), up2_ne (by omega), up2_ne (by omega), up2_ne (by omega)]; exact h.2.2.2.1, by rw [up2_ne (by omega), up2_ne (by omega), up2_ne (by omega), up2_ne (by omega)]; exact h.2.2.2.2.1, by rw [up2_ne (by omega), up2_ne (by omega), up2_ne (by omega), up2_ne (by omega)]; exact h.2.2.2.2.2⟩
  · rw [h4]
    simp [up2_r]; rfl
  · have hn : p < tn τ + 1 := hp
    show _ = nI (updN (tkd τ) (tn τ) kd p) ∧ _ = nI (updN (tce τ) (tn τ) ce p) ∧ _ = nI (updN (tle τ) (tn τ) le p) ∧ _ = nI (updN (tpa τ) (tn τ) pa p)
    have l : ∀ j, I4 119 j = if j = 4 * tn τ + 3 then nI pa else if j = 4 * tn τ + 2 then nI le else if j = 4 * tn τ + 1 then nI ce else if j = 4 * tn τ then nI kd else I 119 j := fun j => by rw [h4]; simp [up2_r]
    rw [l, l, l, l]
    unfold updN
    by_cases z : p = tn τ
    · subst z
      refine ⟨?_, ?_, ?_, ?_⟩
      · rw [if_neg (by omega), if_neg (by omega), if_neg (by omega), if_pos rfl, if_pos rfl]
      · rw [if_neg (by omega), if_neg (by omega), if_pos rfl, if_pos rfl]
      · rw [if_neg (by omega), if_pos rfl, if_pos rfl]
      · rw [if_pos rfl, if_pos rfl]
    · obtain ⟨m1, m2, m3, m4⟩ := hR.2 p (by omega)
      simp only [if_neg z]
      refine ⟨?_, ?_, ?_, ?_⟩
      · rw [if_neg (by omega), if_neg (by omega), if_neg (by omega), if_neg (by omega)]; exact m1
      · rw [if_neg (by omega), if_neg (by omega), if_neg (by omega), if_neg (by omega)]; exact m2
      · rw [if_neg (by omega), if_neg (by omega), if_neg (by omega), if_neg (by omega)]; exact m3
      · rw [if_neg (by omega), if_neg (by omega), if_neg (by omega), if_neg (by omega)]; exact m4
  · rw [h4, up2_ne a, up2_ne c, up2_ne c, up2_ne c, up2_ne c]
  · rw [h4, up2_r, if_neg (by omega), up2_ne (by omega), up2_ne (by omega), up2_ne (by omega), up2_ne (by omega)]
  · rw [h4, up2_r, if_neg (by omega), up2_ne (by omega), up2_ne (by omega), up2_ne (by omega), up2_ne (by omega)]
theorem pinM {τ : Tb} (hT : Tok τ) (hR : RdM I τ) (h : TkM I b L t) : ∃ I1, fnX10_readsPin I = some (yes (pinA b L τ t).1, I1) ∧ TkM I1 b L (bh b L (pinA b L τ t).1 (pinA b L τ t).2.1) ∧ I1 111 5 = tf (pinA b L τ t).1 (I 111 5) ∧ ((pinA b L τ t).1 = 0 → RdM I1 (pinA b L τ t).2.2) ∧ FrQ I I1 := by
  have h6 := hT.2.1
  unfold fnX10_readsPin pinA
  rw [hR.1]
  have q6 : nI (tn τ) = 6 ↔ tn τ = 6 := nI_eq (b := 6) (by omega) (by decide)
  by_cases c6 : 6 ≤ tn τ
  · rw [if_pos (q6.mpr (by omega)), if_pos c6, bnd_e]
    exact ⟨_, rfl, put5 h 3, by simp [up2_r]; rfl, (fun q => by cases q), FrQ.n (FrN.up (Or.inl rfl))⟩
  rw [if_neg (fun q => by have := q6.mp q; omega), if_neg c6]
  dsimp only
  obtain ⟨I1, a1, a2, a3⟩ := tkm h
  rw [a1, ob_s, sortW a2, ob_s]
  dsimp only
  have k5 := kndA_le b (tokA b L t.2)
  generalize tokA b L t.2 = t1 at a2 k5
  have e1 : I1 111 5 = I 111 5 := a3.2 5 (by unfold s1214; omega)
  have fr1 : FrN s514 I I1 := a3.mo s12_s
  by_cases ck0 : kndA b t1 = 0
  · rw [if_pos ck0, if_pos rfl, if_pos ck0, bnd_e]
    exact ⟨_, rfl, put5 a2 1, by simp [up2_r]; rfl, (fun q => by cases q), FrQ.n (fr1.tr (FrN.up (Or.inl rfl)))⟩
  rw [if_neg ck0, if_neg (show ¬ nI (kndA b t1) = -1000000 from none_ne (by omega)), if_neg ck0]
  obtain ⟨I2, b1, b2, b3⟩ := tkm a2
  have e2 : I2 111 5 = I 111 5 := (b3.2 5 (by unfold s1214; omega)).trans e1
  have fr2 : FrN s514 I I2 := fr1.tr (b3.mo s12_s)
  obtain ⟨I3, c1, c2⟩ := celM hT (hR.fr fr2) b2
  have hv := celA_ok (b := b) (L := L) (τ := τ) (t := t1)
  rw [b1, ob_s, c1, ob_s]
  dsimp only
  generalize celA b L τ t1 = c at c2 hv
  have fr3 : FrN s514 I I3 := fr2.tr c2.2.2
  by_cases cc : c.1 = 0
  · obtain ⟨hv1, hv2⟩ := hv cc
    obtain ⟨d1, d2⟩ := c2.ok cc
    rw [if_pos cc, if_neg (show ¬ nI c.2.2 = -1000000 from none_ne (by omega)), if_neg (show ¬ c.1 ≠ 0 from fun q => q cc)]
    obtain ⟨I4, g1, g2⟩ := numM d1 (lo := 0) (hi := 7) (by omega) (by omega)
    rw [show fnX10_number I3 0 7 = _ from g1, ob_s]
    dsimp only
    generalize tokA b L c.2.1.2 = t2 at g2
    have fr4 : FrN s514 I I4 := fr3.tr g2.2.2
    by_cases c7 : numF b L 0 7 t2 = 0
    · have v7 := numF_0 c7 (by omega)
      obtain ⟨j1, j2⟩ := g2.ok c7
      rw [if_pos c7, if_neg (show ¬ numF b L 0 7 t2 ≠ 0 from fun q => q c7)]
      unfold fnX10_readsPin_65
      rw [if_neg (show ¬ nI (vN b t2) = -1000000 from none_ne (by omega))]
      obtain ⟨I5, l1, l2⟩ := numM j1 (lo := 0) (hi := 99) (by omega) (by omega)
      rw [show fnX10_number I4 0 99 = _ from l1, ob_s]
      dsimp only
      generalize tokA b L t2.2 = t3 at l2
      have fr5 : FrN s514 I I5 := fr4.tr l2.2.2
      by_cases c9 : numF b L 0 99 t3 = 0
      · have v9 := numF_0 c9 (by omega)
        obtain ⟨m1, m2⟩ := l2.ok c9
        rw [if_pos c9, if_neg (show ¬ numF b L 0 99 t3 ≠ 0 from fun q => q c9)]
        obtain ⟨n1, n2, n3, n4, n5⟩ := addM hT (hR.fr fr5) (by omega) m1 (kd := kndA b t1) (ce := c.2.2) (le := vN b t2) (pa := vN b t3) (by omega) _ rfl
        obtain ⟨I7, p1, p2⟩ := signM n2
        rw [n1, p1, ob_s]
        generalize tokA b L t3.2 = t4 at p2
        have e6 : I5 111 5 = I 111 5 := m2.trans (j2.trans (d2.trans e2))
        dsimp only
        by_cases cs : semF b L t4 = 0
        · obtain ⟨r1, r2⟩ := p2.ok cs
          rw [if_pos cs, zb_1, ck_t]
          exact ⟨I7, by rw [yes0 cs], by rw [bh0 cs]; exact r1, by rw [tf0 cs, r2, n5, e6], fun _ => n3.fr p2.2.2, (FrQ.n fr5).tr (n4.tr (FrQ.n p2.2.2))⟩
        · obtain ⟨r1, r2⟩ := p2.no cs
          rw [if_neg cs, zb_0, ck_t]
          exact ⟨I7, by rw [yesn cs], by rw [bhn cs]; exact r1, by rw [tfn cs, r2], fun q => absurd q cs, (FrQ.n fr5).tr (n4.tr (FrQ.n p2.2.2))⟩
      · obtain ⟨m1, m2⟩ := l2.no c9
        unfold fnX10_readsPin_84
        rw [if_neg c9, if_pos rfl, if_pos (show numF b L 0 99 t3 ≠ 0 from c9)]
        exact ⟨I5, by rw [yesn c9], by rw [bhn c9]; exact m1, by rw [tfn c9, m2], fun q => absurd q c9, FrQ.n fr5⟩
    · obtain ⟨j1, j2⟩ := g2.no c7
      unfold fnX10_readsPin_65 fnX10_readsPin_84
      rw [if_neg c7, if_pos rfl, if_pos rfl, if_pos (show numF b L 0 7 t2 ≠ 0 from c7)]
      exact ⟨I4, by rw [yesn c7], by rw [bhn c7]; exact j1, by rw [tfn c7, j2], fun q => absurd q c7, FrQ.n fr4⟩
  · obtain ⟨d1, d2⟩ := c2.no cc
    unfold fnX10_readsPin_65 fnX10_readsPin_84
    rw [if_neg cc, if_pos rfl, if_pos rfl, if_pos rfl, if_pos (show c.1 ≠ 0 from cc)]
    exact ⟨I3, by rw [yesn cc], by rw [bhn cc]; exact d1, by rw [tfn cc, d2], fun q => absurd q cc, FrQ.n fr3⟩
theorem ballM {τ : Tb} (hT : Tok τ) (hR : RdM I τ) (h : TkM I b L t) : ∃ I1, fnX10_readsBall I = some (yes (ballA b L τ t).1, I1) ∧ TkM I1 b L (bh b L (ballA b L τ t).1 (ballA b L τ t).2.1) ∧ I1 111 5 = tf (ballA b L τ t).1 (I 111 5) ∧ ((ballA b L τ t).1 = 0 → I1 111 18 = nI (ballA b L τ t).2.2.1 ∧ I1 111 19 = nI (ballA b L τ t).2.2.2) ∧ FrN s189 I I1 := by
  unfold fnX10_readsBall ballA
  rw [w_ball h, ob_s]
  dsimp only
  by_cases cb : nmA b 2 t = true
  · rw [if_pos cb, if_neg (show ¬ (1 : Int32) = 0 by decide), if_pos cb]
    obtain ⟨I1, a1, a2, a3⟩ := tkm h
    have fr1 : FrN s514 I I1 := a3.mo s12_s
    have e1 : I1 111 5 = I 111 5 := a3.2 5 (by unfold s1214; omega)
    obtain ⟨I2, c1, c2⟩ := celM hT (hR.fr fr1) a2
    have hv := celA_ok (b := b) (L := L) (τ := τ) (t := t)
    rw [a1, ob_s, c1, ob_s]
    dsimp only
    rw [bnd_e]
    generalize celA b L τ t = c at c2 hv
    have m1 : ∀ y, s514 y → s189 y := fun y q => Or.inl q
    have fr2 : FrN s189 I I2 := (fr1.tr c2.2.2).mo m1
    unfold fnX10_readsBall_50 fnX10_readsBall_73 fnX10_readsBall_74
    simp only [zb_0, zb_1, ck_t, bnd_e]
    by_cases cc : c.1 = 0
    · obtain ⟨hv1, hv2⟩ := hv cc
      obtain ⟨d1, d2⟩ := c2.ok cc
      simp only [up2_s]
      rw [if_pos cc, if_neg (show ¬ c.1 ≠ 0 from fun q => q cc), if_neg (show ¬ nI c.2.2 = -1000000 from none_ne (by omega))]
      have d1' : TkM (up2 I2 111 18 (nI c.2.2)) b L (tokA b L c.2.1.2) := d1.u (by omega)
      obtain ⟨I4, g1, g2⟩ := numM d1' (lo := 0) (hi := 3) (by omega) (by omega)
      rw [show fnX10_number (up2 I2 111 18 (nI c.2.2)) 0 3 = _ from g1, ob_s]
      dsimp only
      generalize tokA b L c.2.1.2 = t2 at g2
      have fr4 : FrN s189 I I4 := fr2.tr ((FrN.up (Or.inr (Or.inl rfl))).tr (g2.2.2.mo m1))
      have e4 : up2 I2 111 18 (nI c.2.2) 111 5 = I 111 5 := by rw [up2_r, if_neg (by omega), d2, e1]
      by_cases c3 : numF b L 0 3 t2 = 0
      · have v3 := numF_0 c3 (by omega)
        obtain ⟨j1, j2⟩ := g2.ok c3
        rw [if_pos c3, if_neg (show ¬ numF b L 0 3 t2 ≠ 0 from fun q => q c3), if_neg (show ¬ nI (vN b t2) = -1000000 from none_ne (by omega))]
        obtain ⟨I6, l1, l2⟩ := signM (j1.u (k := 19) (v := nI (vN b t2)) (by omega))
        rw [l1, ob_s]
        dsimp only
        generalize tokA b L t2.2 = t3 at l2
        have fr6 : FrN s189 I I6 := fr4.tr ((FrN.up (Or.inr (Or.inr rfl))).tr (l2.2.2.mo m1))
        by_cases cs : semF b L t3 = 0
        · obtain ⟨r1, r2⟩ := l2.ok cs
          rw [if_pos cs, if_neg (show ¬ (1 : Int32) = 0 by decide)]
          refine ⟨I6, by rw [yes0 cs], by rw [bh0 cs]; exact r1, by rw [tf0 cs, r2, up2_r, if_neg (by omega), j2, e4], fun _ => ⟨?_, ?_⟩, fr6⟩
          · rw [l2.2.2.2 18 (by unfold s514; omega), up2_r, if_neg (by omega), g2.2.2.2 18 (by unfold s514; omega), up2_r, if_pos ⟨rfl, rfl⟩]
          · rw [l2.2.2.2 19 (by unfold s514; omega), up2_r, if_pos ⟨rfl, rfl⟩]
        · obtain ⟨r1, r2⟩ := l2.no cs
          rw [if_neg cs, if_pos rfl]
          exact ⟨I6, by rw [yesn cs], by rw [bhn cs]; exact r1, by rw [tfn cs, r2], fun q => absurd q cs, fr6⟩
      · obtain ⟨j1, j2⟩ := g2.no c3
        rw [if_neg c3, if_pos (show numF b L 0 3 t2 ≠ 0 from c3), if_pos rfl]
        exact ⟨_, by rw [yesn c3], by rw [bhn c3]; exact j1.u (by omega), by rw [tfn c3, up2_r, if_neg (by omega), j2], fun q => absurd q c3, fr4.tr (FrN.up (Or.inr (Or.inr rfl)))⟩
    · obtain ⟨d1, d2⟩ := c2.no cc
      simp only [up2_s]
      rw [if_neg cc, if_pos (show c.1 ≠ 0 from cc), if_pos rfl, if_pos trivial]
      exact ⟨_, by rw [yesn cc], by rw [bhn cc]; exact (d1.u (by omega)).u (by omega), by rw [tfn cc, up2_r, if_neg (by omega), up2_r, if_neg (by omega), d2], fun q => absurd q cc, fr2.tr ((FrN.up (Or.inr (Or.inl rfl))).tr (FrN.up (Or.inr (Or.inr rfl))))⟩
  · rw [if_neg cb, if_pos rfl, bnd_e, if_neg cb]
    exact ⟨_, rfl, put5 h 1, by simp [up2_r]; rfl, (fun q => by cases q), FrN.up (Or.inl (Or.inl rfl))⟩
/-- what the reference's reading may write -/
def FrQ0 (I I1 : Mem) : Prop := (∀ x, x ≠ 111 → x ≠ 119 → I1 x = I x) ∧ ∀ y, (y < 12 ∧ y ≠ 5) → I1 111 y = I 111 y
theorem FrQ0.tr {I1 I2 : Mem} (h : FrQ0 I I1) (h2 : FrQ0 I1 I2) : FrQ0 I I2 := ⟨fun x a c => (h2.1 x a c).trans (h.1 x a c), fun y a => (h2.2 y a).trans (h.2 y a)⟩
theorem FrQ.q0 {I1 : Mem} (h : FrQ I I1) : FrQ0 I I1 := ⟨h.1, fun y a => h.2 y (Or.inl a)⟩
/-- behind all of it, of the reference -/
def RsN (I I1 : Mem) (b : Nat → Int32) (L : Nat) (r : Rsl) : Prop := I1 111 13 = nI r.2.1.1 ∧ I1 111 5 = tf r.1 (I 111 5) ∧ (r.1 = 0 → RdM I1 r.2.2.1 ∧ I1 111 15 = nI r.2.2.1.1 ∧ I1 111 18 = nI r.2.2.2.1 ∧ I1 111 19 = nI r.2.2.2.2) ∧ FrQ0 I I1
theorem FrQ.bb {I1 : Mem} (h : FrN s189 I I1) : FrQ I I1 := ⟨fun x a _ => h.1 x a, fun y a => h.2 y (by unfold s189 s514; omega)⟩
theorem restM : ∀ (d fu : Nat) (I : Mem) (τ : Tb) (t : Nat × Nat), tn τ + d = 7 → d < fu → Tok τ → TkM I b L t → RdM I τ → I 111 15 = nI τ.1 → ∃ I1, fnX10_readsAll_23 fu I = some (yes (restA b L d τ t).1, I1) ∧ RsN I I1 b L (restA b L d τ t)
  | d, 0, _, _, _, _, q, _, _, _, _ => absurd q (by omega)
  | 0, fu + 1, I, τ, t, h1, _, hT, _, _, _ => absurd hT.2.1 (by omega)
  | d + 1, fu + 1, I, τ, t, h1, h3, hT, h, hR, h15 => by
    have h6 := hT.2.1
    show ∃ I1, fnX10_readsAll_23b _ I = _ ∧ _
    unfold fnX10_readsAll_23b restA
    rw [w_pin h, ob_s]
    dsimp only
    by_cases c : nmA b 0 t = true
    · obtain ⟨I1, a1, a2, a3, a4, a5⟩ := pinM hT hR h
      have ok2 : (pinA b L τ t).1 = 0 → Tok (pinA b L τ t).2.2 ∧ tn (pinA b L τ t).2.2 = tn τ + 1 ∧ (pinA b L τ t).2.2.1 = τ.1 := pinA_ok hT
      rw [if_pos c, if_neg (show ¬ (1 : Int32) = 0 by decide), a1, ob_s, if_pos c]
      dsimp only
      generalize pinA b L τ t = r at a2 a3 a4 ok2
      by_cases cr : r.1 = 0
      · obtain ⟨o1, o2, o3⟩ := ok2 cr
        rw [bh0 cr] at a2
        rw [tf0 cr] at a3
        rw [if_neg (show ¬ r.1 ≠ 0 from fun q => q cr), yes0 cr, if_neg (show ¬ (1 : Int32) = 0 by decide)]
        obtain ⟨I3, c1, c2, c3, c4, c5⟩ := restM d fu I1 r.2.2 (tokA b L r.2.1.2) (by omega) (by omega) o1 a2 (a4 cr) (by rw [a5.2 15 (Or.inr rfl), h15, o3])
        exact ⟨I3, c1, c2, by rw [c3, a3], c4, a5.q0.tr c5⟩
      · rw [bhn cr] at a2
        rw [tfn cr] at a3
        rw [if_pos (show r.1 ≠ 0 from cr), yesn cr, if_pos rfl]
        exact ⟨I1, rfl, a2.2.2.2.2.1, by rw [tfn cr]; exact a3, fun q => absurd q cr, a5.q0⟩
    · obtain ⟨I1, a1, a2, a3, a4, a5⟩ := ballM hT hR h
      rw [if_neg c, if_pos rfl, a1, ob_s, if_neg c]
      unfold endB
      dsimp only
      generalize ballA b L τ t = q at a2 a3 a4
      by_cases cq : q.1 = 0
      · rw [bh0 cq] at a2
        rw [tf0 cq] at a3
        obtain ⟨a4a, a4b⟩ := a4 cq
        rw [yes0 cq, if_neg (show ¬ (1 : Int32) = 0 by decide), if_neg (show ¬ q.1 ≠ 0 from fun z => z cq)]
        generalize tokA b L q.2.1.2 = u at a2
        have hL := a2.1.1
        have hu := a2.2.2.1
        have hu2 := a2.2.1
        have qL : I1 111 4 ≤ I1 111 13 ↔ L ≤ u.1 := by
          rw [a2.1.2.1, a2.2.2.2.2.1]
          exact nI_leI (by omega) (by omega)
        by_cases cu : u.1 < L
        · rw [if_neg (fun z => by have := qL.mp z; omega), if_pos cu, bnd_e]
          exact ⟨_, rfl, (put5 a2 1).2.2.2.2.1, by simp [up2_r]; rfl, (fun z => by cases z), ((FrQ.bb a5).tr (FrQ.n (FrN.up (Or.inl rfl)))).q0⟩
        · rw [if_pos (qL.mpr (by omega)), if_neg cu]
          refine ⟨I1, rfl, a2.2.2.2.2.1, a3, fun _ => ⟨?_, ?_, a4a, a4b⟩, (FrQ.bb a5).q0⟩
          · unfold RdM
            rw [a5.2 17 (by unfold s189 s514; omega), a5.1 119 (by omega)]
            exact hR
          · rw [a5.2 15 (by unfold s189 s514; omega)]
            exact h15
      · rw [bhn cq] at a2
        rw [tfn cq] at a3
        rw [yesn cq, if_pos rfl, if_pos (show q.1 ≠ 0 from cq)]
        exact ⟨I1, by show some ((0 : Int32), I1) = some (yes q.1, I1); rw [yesn cq], a2.2.2.2.2.1, by rw [tfn cq]; exact a3, fun z => absurd z cq, (FrQ.bb a5).q0⟩
theorem allM (hb : BtM I b L) : ∃ I1, fnX10_readsAll I = some (yes (allA b L).1, I1) ∧ RsN I I1 b L (allA b L) := by
  unfold fnX10_readsAll
  rw [bnd_e, bnd_e]
  generalize hI2 : up2 (up2 I 111 12 0) 111 17 0 = I2
  have f2 : FrQ I I2 := ⟨fun x a _ => by rw [← hI2, up2_ne a, up2_ne a], fun y a => by rw [← hI2, up2_r, if_neg (by omega), up2_r, if_neg (by omega)]⟩
  have f25 : I2 111 5 = I 111 5 := by rw [← hI2]; simp [up2_r]
  have f217 : I2 111 17 = 0 := by rw [← hI2]; simp [up2_r]
  have hb2 : BtM I2 b L := ⟨hb.1, by rw [f2.2 4 (by omega)]; exact hb.2.1, fun j hj => by rw [f2.1 114 (by omega) (by omega)]; exact hb.2.2 j hj⟩
  obtain ⟨I3, a1, a2, a3⟩ := tokenM hb2 (p := 0) (by omega) (by rw [← hI2]; simp [up2_r]; rfl)
  obtain ⟨I4, b1, b2, b3, b4, b5⟩ := lawM a2
  rw [a1, ob_s, b1, ob_s]
  dsimp only
  unfold allA
  have l20 := lawA_le b L (tokA b L 0)
  generalize lawA b L (tokA b L 0) = l at b2 b3 b4 l20
  dsimp only
  have e5 : I3 111 5 = I 111 5 := (a3.2 5 (by unfold s1214; omega)).trans f25
  have fr4 : FrQ0 I I4 := f2.q0.tr ((FrQ.n (a3.mo s12_s)).q0.tr ⟨fun x a _ => b5.1 x a, fun y a => b5.2 y (by unfold s15 s514; omega)⟩)
  by_cases c : l.1 = 0
  · rw [bh0 c] at b2
    rw [tf0 c] at b3
    rw [yes0 c, if_neg (show ¬ (1 : Int32) = 0 by decide), if_neg (show ¬ l.1 ≠ 0 from fun q => q c)]
    have r4 : RdM I4 (e0 l.2.2) := ⟨by rw [b5.2 17 (by unfold s15 s514; omega), a3.2 17 (by unfold s1214; omega), f217]; rfl, fun p q => absurd q (by show ¬ p < 0; omega)⟩
    obtain ⟨I5, g1, g2, g3, g4, g5⟩ := restM 7 FU I4 (e0 l.2.2) (tokA b L l.2.1.2) rfl (by unfold FU; omega) (e0_ok l20) b2 r4 (b4 c)
    exact ⟨I5, g1, g2, by rw [g3, b3, e5], g4, fr4.tr g5⟩
  · rw [bhn c] at b2
    rw [tfn c] at b3
    rw [yesn c, if_pos rfl, if_pos (show l.1 ≠ 0 from c)]
    exact ⟨I4, by show some ((0 : Int32), I4) = some (yes l.1, I4); rw [yesn c], b2.2.2.2.2.1, by rw [tfn c]; exact b3, fun q => absurd q c, fr4⟩
end
