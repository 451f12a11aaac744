/-! the reading of a whole text: told once, and the class's -/
theorem ob_eq {α β : Type} {o : Option α} {x : α} {k : α → Option β} (h : o = some x) : ob o k = k x := by
  rw [h]
  rfl
def updN (f : Nat → Nat) (k v : Nat) : Nat → Nat := fun i => if i = k then v else f i
def addT (τ : Tb) (kd ce le pa : Nat) : Tb := (τ.1, tn τ + 1, updN (tkd τ) (tn τ) kd, updN (tce τ) (tn τ) ce, updN (tle τ) (tn τ) le, updN (tpa τ) (tn τ) pa)
def e0 (k : Nat) : Tb := (k, 0, fun _ => 0, fun _ => 0, fun _ => 0, fun _ => 0)
def lawA (b : Nat → Int32) (L : Nat) (t : Nat × Nat) : Nat × (Nat × Nat) × Nat :=
  if nmA b 1 t = true then
    (if numF b L 1 20 (tokA b L t.2) ≠ 0 then (numF b L 1 20 (tokA b L t.2), tokA b L t.2, 0)
      else (semF b L (tokA b L (tokA b L t.2).2), tokA b L (tokA b L t.2).2, vN b (tokA b L t.2)))
  else (1, t, 0)
def pinA (b : Nat → Int32) (L : Nat) (τ : Tb) (t : Nat × Nat) : Nat × (Nat × Nat) × Tb :=
  if 6 ≤ tn τ then (3, t, τ) else
    let t1 := tokA b L t.2
    if kndA b t1 = 0 then (1, t1, τ) else
      let c := celA b L τ t1
      if c.1 ≠ 0 then (c.1, c.2.1, τ) else
        let t2 := tokA b L c.2.1.2
        if numF b L 0 7 t2 ≠ 0 then (numF b L 0 7 t2, t2, τ) else
          let t3 := tokA b L t2.2
          if numF b L 0 99 t3 ≠ 0 then (numF b L 0 99 t3, t3, τ) else
            (semF b L (tokA b L t3.2), tokA b L t3.2, addT τ (kndA b t1) c.2.2 (vN b t2) (vN b t3))
def ballA (b : Nat → Int32) (L : Nat) (τ : Tb) (t : Nat × Nat) : Nat × (Nat × Nat) × Nat × Nat :=
  if nmA b 2 t = true then
    (let c := celA b L τ t
     if c.1 ≠ 0 then (c.1, c.2.1, 0, 0) else
       let t2 := tokA b L c.2.1.2
       if numF b L 0 3 t2 ≠ 0 then (numF b L 0 3 t2, t2, 0, 0) else (semF b L (tokA b L t2.2), tokA b L t2.2, c.2.2, vN b t2))
  else (1, t, 0, 0)
abbrev Rsl : Type := Nat × (Nat × Nat) × Tb × Nat × Nat
def endB (b : Nat → Int32) (L : Nat) (τ : Tb) (t : Nat × Nat) : Rsl :=
  let q := ballA b L τ t
  if q.1 ≠ 0 then (q.1, q.2.1, τ, 0, 0) else
    let u := tokA b L q.2.1.2
    if u.1 < L then (1, u, τ, 0, 0) else (0, u, τ, q.2.2.1, q.2.2.2)
def restA (b : Nat → Int32) (L : Nat) : Nat → Tb → Nat × Nat → Rsl
  | 0, τ, t => endB b L τ t
  | d + 1, τ, t => if nmA b 0 t = true then (let r := pinA b L τ t; if r.1 ≠ 0 then (r.1, r.2.1, τ, 0, 0) else restA b L d r.2.2 (tokA b L r.2.1.2)) else endB b L τ t
def allA (b : Nat → Int32) (L : Nat) : Rsl :=
  let l := lawA b L (tokA b L 0)
  if l.1 ≠ 0 then (l.1, l.2.1, e0 0, 0, 0) else restA b L 7 (e0 l.2.2) (tokA b L l.2.1.2)
theorem addT_ok {τ : Tb} (hT : Tok τ) {kd ce le pa : Nat} (h6 : tn τ < 6) (h1 : 1 ≤ kd) (h2 : kd ≤ 5) (h3 : ce < 42) (h4 : le < 8) (h5 : pa < 100) (hp : pinOf τ ce = none) : Tok (addT τ kd ce le pa) := by
  obtain ⟨k1, k2, k3, k4⟩ := hT
  refine ⟨k1, (by show tn τ + 1 ≤ 6; omega), fun p q => ?_, fun p p' q q' e => ?_⟩
  · change p < tn τ + 1 at q
    show 1 ≤ updN (tkd τ) (tn τ) kd p ∧ updN (tkd τ) (tn τ) kd p ≤ 5 ∧ updN (tce τ) (tn τ) ce p < 42 ∧ updN (tle τ) (tn τ) le p < 8 ∧ updN (tpa τ) (tn τ) pa p < 100
    unfold updN
    by_cases z : p = tn τ
    · simp only [if_pos z]
      exact ⟨h1, h2, h3, h4, h5⟩
    · simp only [if_neg z]
      exact k3 p (by omega)
  · change p < tn τ + 1 at q
    change p' < tn τ + 1 at q'
    change updN (tce τ) (tn τ) ce p = updN (tce τ) (tn τ) ce p' at e
    unfold updN at e
    by_cases z : p = tn τ
    · by_cases z' : p' = tn τ
      · omega
      · rw [if_pos z, if_neg z'] at e
        exact absurd e.symm (pinOf_none hp (by omega))
    · by_cases z' : p' = tn τ
      · rw [if_neg z, if_pos z'] at e
        exact absurd e (pinOf_none hp (by omega))
      · rw [if_neg z, if_neg z'] at e
        exact k4 p p' (by omega) (by omega) e
theorem addT_pin {τ : Tb} {kd ce le pa : Nat} (hT : Tok (addT τ kd ce le pa)) (hp : pinOf τ ce = none) (c : Nat) : pinOf (addT τ kd ce le pa) c = if c = ce then some (tn τ) else pinOf τ c := by
  have e : ∀ p, tce (addT τ kd ce le pa) p = if p = tn τ then ce else tce τ p := fun p => rfl
  have n1 : tn (addT τ kd ce le pa) = tn τ + 1 := rfl
  by_cases z : c = ce
  · rw [if_pos z]
    exact pinOf_of hT (by omega) (by rw [e, if_pos rfl, z])
  · rw [if_neg z]
    cases h : pinOf τ c with
    | some p =>
      obtain ⟨a1, a2⟩ := pinOf_lt h
      exact pinOf_of hT (by omega) (by rw [e, if_neg (by omega), a2])
    | none =>
      cases h' : pinOf (addT τ kd ce le pa) c with
      | none => rfl
      | some q =>
        obtain ⟨a1, a2⟩ := pinOf_lt h'
        rw [e] at a2
        by_cases y : q = tn τ
        · rw [if_pos y] at a2
          exact absurd a2.symm z
        · rw [if_neg y] at a2
          exact absurd a2 (pinOf_none h (by omega))
theorem e0_ok {k : Nat} (h : k ≤ 20) : Tok (e0 k) := ⟨h, by show 0 ≤ 6; omega, fun p q => absurd q (by show ¬ p < 0; omega), fun p _ q => absurd q (by show ¬ p < 0; omega)⟩
theorem e0_pin {k c : Nat} : pinOf (e0 k) c = none := rfl
/-- what the class's reading may write -/
def FrD (I I1 : Mem) : Prop := (∀ x, x ≠ 13 → (x < 15 ∨ 20 < x) → I1 x = I x) ∧ ∀ y, (y < 3 ∨ 9 < y) → I1 13 y = I 13 y
theorem FrD.rf {I : Mem} : FrD I I := ⟨fun _ _ _ => rfl, fun _ _ => rfl⟩
theorem FrD.tr {I I1 I2 : Mem} (h : FrD I I1) (h2 : FrD I1 I2) : FrD I I2 := ⟨fun x a c => (h2.1 x a c).trans (h.1 x a c), fun y a => (h2.2 y a).trans (h.2 y a)⟩
theorem FrD.k {I I1 : Mem} (h : FrK s59 I I1) : FrD I I1 := ⟨fun x a _ => h.1 x a, fun y a => h.2 y (by unfold s59; omega)⟩
theorem FrD.d {I I1 : Mem} (h : ∀ x, (x < 15 ∨ 20 < x) → I1 x = I x) : FrD I I1 := ⟨fun x _ c => h x c, fun y _ => by rw [h 13 (by omega)]⟩
theorem FrD.u {I : Mem} {k : Nat} {v : Int32} (h : 3 ≤ k ∧ k ≤ 9) : FrD I (up2 I 13 k v) := ⟨fun x a _ => up2_ne a, fun y a => by rw [up2_r, if_neg (by omega)]⟩
theorem clearX : ∀ (d k fu : Nat) (I : Mem), k + d = 42 → d < fu → ∃ I1, fnX7_clear_12 15 fu I (nI k) = some I1 ∧ (∀ c, c < 42 → I1 20 c = if k ≤ c then -1 else I 20 c) ∧ ∀ x, x ≠ 20 → I1 x = I x
  | d, k, 0, _, _, q => absurd q (by omega)
  | 0, k, fu + 1, I, h1, _ => by
    show ∃ I1, fnX7_clear_12b 15 _ I _ = _ ∧ _
    unfold fnX7_clear_12b
    rw [if_pos (show (42 : Int32) ≤ nI k from nI_le (a := 42) (by omega) (by omega))]
    exact ⟨I, rfl, fun c hc => by rw [if_neg (by omega)], fun _ _ => rfl⟩
  | d + 1, k, fu + 1, I, h1, h2 => by
    show ∃ I1, fnX7_clear_12b 15 _ I _ = _ ∧ _
    unfold fnX7_clear_12b
    rw [if_neg (show ¬ (42 : Int32) ≤ nI k from nI_ge (b := 42) (by omega) (by omega)), inb_nI (show k < 42 by omega) (by decide), ck_t, ix_nI (by omega), bnd_e, bnd_e, nI_1]
    obtain ⟨I1, a1, a2, a3⟩ := clearX d (k + 1) fu (up2 I (15 + 5) k (-1)) (by omega) (by omega)
    refine ⟨I1, a1, fun c hc => ?_, fun x hx => (a3 x hx).trans (up2_ne hx)⟩
    rw [a2 c hc, up2_r]
    by_cases z : c = k
    · subst z
      rw [if_neg (by omega), if_pos ⟨rfl, rfl⟩, if_pos (by omega)]
    · by_cases y : k ≤ c
      · rw [if_pos (show k + 1 ≤ c by omega), if_pos y]
      · rw [if_neg (show ¬ k + 1 ≤ c by omega), if_neg (by omega), if_neg y]
theorem e0_X {I : Mem} {k : Nat} (h0 : I 15 0 = nI k) (h1 : I 15 1 = 0) (h5 : ∀ c, c < 42 → I 20 c = -1) : TabX I 15 (e0 k) := ⟨h0, h1, fun p q => absurd q (by show ¬ p < 0; omega), fun c hc => h5 c hc⟩
theorem addPinX {I : Mem} {τ : Tb} (hT : Tok τ) (h : TabX I 15 τ) {kd ce le pa : Nat} (h6 : tn τ < 6) (h1 : 1 ≤ kd) (h2 : kd ≤ 5) (h3 : ce < 42) (h4 : le < 8) (h5 : pa < 100) (hp : pinOf τ ce = none) : ∃ I1, fnX7_addPin 15 I (nI kd) (nI ce) (nI le) (nI pa) = some I1 ∧ TabX I1 15 (addT τ kd ce le pa) ∧ ∀ x, (x < 15 ∨ 20 < x) → I1 x = I x := by
  have hT2 := addT_ok hT h6 h1 h2 h3 h4 h5 hp
  obtain ⟨q0, q1, q2, q3⟩ := h
  have n6 : inb (nI (tn τ)) 6 = true := inb_nI h6 (by decide)
  have nx : ix (nI (tn τ)) = tn τ := ix_nI (by omega)
  have u1 : upTo (nI ce) 41 = 1 := upTo_1 (m := 41) (by omega) (by omega)
  unfold fnX7_addPin
  rw [q1, if_neg (show ¬ (6 : Int32) ≤ nI (tn τ) from nI_ge (b := 6) (by omega) (by omega)), isUpTo_e, ob_s]
  dsimp only
  rw [u1, if_neg (show ¬ (1 : Int32) = 0 by decide), q1, n6, nx]
  simp only [bnd_e, ck_t]
  have g1 : ∀ (J : Mem) (a : Nat) (k : Nat) (v : Int32), J 15 1 = nI (tn τ) → a ≠ 15 → up2 J a k v 15 1 = nI (tn τ) := fun J a k v hJ ha => by rw [up2_ne (by omega)]; exact hJ
  have r1 := g1 I (15 + 1) (tn τ) (nI kd) q1 (by omega)
  have r2 := g1 _ (15 + 2) (tn τ) (nI ce) r1 (by omega)
  have r3 := g1 _ (15 + 3) (tn τ) (nI le) r2 (by omega)
  have r4 := g1 _ (15 + 4) (tn τ) (nI pa) r3 (by omega)
  rw [r1, n6, nx, ck_t, r2, n6, nx, ck_t, r3, n6, nx, ck_t, inb_nI h3 (by decide), ck_t, r4, ix_nI (show ce < 2 ^ 31 by omega)]
  have r5 := g1 _ (15 + 5) ce (nI (tn τ)) r4 (by omega)
  rw [r5, nI_1]
  refine ⟨_, rfl, ⟨?_, ?_, fun p hp2 => ?_, fun c hc => ?_⟩, fun x hx => ?_⟩
  · simp [up2_r, q0]; rfl
  · simp [up2_r]; rfl
  · have hn : p < tn τ + 1 := hp2
    show _ = nI (updN (tkd τ) (tn τ) kd p) ∧ _ = nI (updN (tce τ) (tn τ) ce p) ∧ _ = nI (updN (tle τ) (tn τ) le p) ∧ _ = nI (updN (tpa τ) (tn τ) pa p)
    unfold updN
    by_cases z : p = tn τ
    · simp [up2_r, z]
    · obtain ⟨m1, m2, m3, m4⟩ := q2 p (by omega)
      simp only [if_neg z]
      simp [up2_r, z, m1, m2, m3, m4]
  · rw [addT_pin hT2 hp]
    by_cases z : c = ce
    · simp [up2_r, z, onI]
    · simp only [if_neg z]
      simp [up2_r, z, q3 c hc]
  · rw [up2_ne (by omega), up2_ne (by omega), up2_ne (by omega), up2_ne (by omega), up2_ne (by omega), up2_ne (by omega)]
theorem celA_ok {b : Nat → Int32} {L : Nat} {τ : Tb} {t : Nat × Nat} (h : (celA b L τ t).1 = 0) : (celA b L τ t).2.2 < 42 ∧ pinOf τ (celA b L τ t).2.2 = none := by
  unfold celA at h ⊢
  dsimp only at h ⊢
  by_cases c1 : numF b L 0 6 (tokA b L t.2) = 0
  · have v1 := numF_0 c1 (by omega)
    rw [if_neg (show ¬ numF b L 0 6 (tokA b L t.2) ≠ 0 from fun q => q c1)] at h ⊢
    by_cases c2 : numF b L 0 5 (tokA b L (tokA b L t.2).2) = 0
    · have v2 := numF_0 c2 (by omega)
      rw [if_neg (show ¬ numF b L 0 5 (tokA b L (tokA b L t.2).2) ≠ 0 from fun q => q c2)] at h ⊢
      by_cases cp : pinOf τ (7 * vN b (tokA b L (tokA b L t.2).2) + vN b (tokA b L t.2)) = none
      · rw [if_pos cp]
        exact ⟨by show _ < 42; dsimp only; omega, cp⟩
      · rw [if_neg cp] at h
        cases h
    · rw [if_pos (show numF b L 0 5 (tokA b L (tokA b L t.2).2) ≠ 0 from c2)] at h
      exact absurd h c2
  · rw [if_pos (show numF b L 0 6 (tokA b L t.2) ≠ 0 from c1)] at h
    exact absurd h c1
theorem lawA_le (b : Nat → Int32) (L : Nat) (t : Nat × Nat) : (lawA b L t).2.2 ≤ 20 := by
  unfold lawA
  by_cases c : nmA b 1 t = true
  · rw [if_pos c]
    by_cases c1 : numF b L 1 20 (tokA b L t.2) = 0
    · rw [if_neg (show ¬ numF b L 1 20 (tokA b L t.2) ≠ 0 from fun q => q c1)]
      exact (numF_0 c1 (by omega)).2.1
    · rw [if_pos (show numF b L 1 20 (tokA b L t.2) ≠ 0 from c1)]
      exact Nat.zero_le 20
  · rw [if_neg c]
    exact Nat.zero_le 20
theorem pinA_ok {b : Nat → Int32} {L : Nat} {τ : Tb} {t : Nat × Nat} (hT : Tok τ) (h : (pinA b L τ t).1 = 0) : Tok (pinA b L τ t).2.2 ∧ tn (pinA b L τ t).2.2 = tn τ + 1 ∧ (pinA b L τ t).2.2.1 = τ.1 := by
  unfold pinA at h ⊢
  dsimp only at h ⊢
  by_cases c6 : 6 ≤ tn τ
  · rw [if_pos c6] at h; cases h
  rw [if_neg c6] at h ⊢
  have k5 := kndA_le b (tokA b L t.2)
  by_cases ck0 : kndA b (tokA b L t.2) = 0
  · rw [if_pos ck0] at h; cases h
  rw [if_neg ck0] at h ⊢
  have hv := celA_ok (b := b) (L := L) (τ := τ) (t := tokA b L t.2)
  generalize celA b L τ (tokA b L t.2) = c at h hv ⊢
  by_cases cc : c.1 = 0
  · rw [if_neg (show ¬ c.1 ≠ 0 from fun q => q cc)] at h ⊢
    generalize tokA b L c.2.1.2 = t2 at h ⊢
    by_cases c7 : numF b L 0 7 t2 = 0
    · rw [if_neg (show ¬ numF b L 0 7 t2 ≠ 0 from fun q => q c7)] at h ⊢
      generalize tokA b L t2.2 = t3 at h ⊢
      by_cases c9 : numF b L 0 99 t3 = 0
      · rw [if_neg (show ¬ numF b L 0 99 t3 ≠ 0 from fun q => q c9)] at h ⊢
        have v7 := numF_0 c7 (by omega)
        have v9 := numF_0 c9 (by omega)
        exact ⟨addT_ok hT (by omega) (by omega) k5 (hv cc).1 (by omega) (by omega) (hv cc).2, rfl, rfl⟩
      · rw [if_pos (show numF b L 0 99 t3 ≠ 0 from c9)] at h
        exact absurd h c9
    · rw [if_pos (show numF b L 0 7 t2 ≠ 0 from c7)] at h
      exact absurd h c7
  · rw [if_pos (show c.1 ≠ 0 from cc)] at h
    exact absurd h cc
section
variable {b : Nat → Int32} {L : Nat} {I : Mem} {f : Nat} {t : Nat × Nat}
theorem TkX.k {I1 : Mem} (h : TkX I b L f t) (h14 : I1 14 = I 14) (h13 : ∀ y, y = 1 ∨ (5 ≤ y ∧ y ≤ 9) → I1 13 y = I 13 y) : TkX I1 b L f t := TkX_fr h h14 h13
theorem TkX.u (h : TkX I b L f t) {k : Nat} {v : Int32} (hk : k = 3 ∨ k = 4) : TkX (up2 I 13 k v) b L f t := TkX_fr h (up2_ne (by omega)) (fun y hy => by rw [up2_r, if_neg (by omega)])
theorem TabX.k {I1 : Mem} {τ : Tb} (h : TabX I 15 τ) (hf : ∀ x, x ≠ 13 → I1 x = I x) : TabX I1 15 τ := TabX_ag h (fun x _ _ => hf x (by omega))
theorem lawX (hb : BtX I b L) (h5 : I 13 5 = 0) (h6 : I 13 6 = 0) (hd : TabX I 15 (e0 0)) : ∃ I1, fnX8_readLaw I = some I1 ∧ TkX I1 b L (lawA b L (tokA b L 0)).1 (lawA b L (tokA b L 0)).2.1 ∧ ((lawA b L (tokA b L 0)).1 = 0 → TabX I1 15 (e0 (lawA b L (tokA b L 0)).2.2)) ∧ FrD I I1 := by
  obtain ⟨I1, a1, a2, a3⟩ := takeX hb h5 (p := 0) (by omega) h6
  have fr := a3.mo s6959
  unfold fnX8_readLaw lawA
  rw [a1, ob_s, isName_e a2 (show 1 < 8 by omega), ob_s]
  dsimp only
  have put : ∀ (J : Mem) (v : Int32), FrD J (up2 J 15 0 v) := fun J v => FrD.d (fun x hx => up2_ne (by omega))
  have tk : ∀ {J : Mem} {v : Int32} {g : Nat} {u : Nat × Nat}, TkX J b L g u → TkX (up2 J 15 0 v) b L g u := fun h => h.k (up2_ne (by omega)) (fun y _ => by rw [up2_ne (by omega)])
  by_cases c : nmA b 1 (tokA b L 0) = true
  · rw [if_pos c, if_pos c, d1, ob_s]
    obtain ⟨r, I2, b1, b2, b3, b4⟩ := numX a2 (lo := 1) (hi := 20) (by omega) (by omega)
    rw [show (1 : Int32) = nI 1 from rfl, show (20 : Int32) = nI 20 from rfl, b1, ob_s]
    dsimp only
    rw [bnd_e]
    generalize tokA b L (tokA b L 0).2 = t1 at b2 b3
    by_cases c1 : numF b L 1 20 t1 = 0
    · rw [c1] at b2
      have v1 := numF_0 c1 (by omega)
      rw [if_neg (show ¬ numF b L 1 20 t1 ≠ 0 from fun q => q c1)]
      obtain ⟨I3, d1, d2, d3⟩ := semX (tk b2 (v := r))
      rw [d1, ob_s]
      refine ⟨I3, rfl, d2, fun _ => ?_, ((FrD.k fr).tr (FrD.k b4)).tr ((put _ _).tr (FrD.k d3))⟩
      have o1 : ∀ x, x ≠ 13 → I2 x = I x := fun x hx => (b4.1 x hx).trans (fr.1 x hx)
      obtain ⟨e1, e2, e3, e4⟩ := hd
      refine e0_X ?_ ?_ (fun c hc => ?_)
      · rw [d3.1 15 (by omega), up2_r, if_pos ⟨rfl, rfl⟩, b3 c1]
      · rw [d3.1 15 (by omega), up2_r, if_neg (by omega), o1 15 (by omega)]
        exact e2
      · rw [d3.1 20 (by omega), up2_ne (by omega), o1 20 (by omega)]
        exact e4 c hc
    · rw [if_pos (show numF b L 1 20 t1 ≠ 0 from c1), fS (tk b2) c1, ob_s]
      exact ⟨_, rfl, tk b2, fun q => absurd q c1, ((FrD.k fr).tr (FrD.k b4)).tr (put _ _)⟩
  · rw [if_neg c, if_neg c, d0 a2, ob_s]
    have h1 : TkX (up2 I1 13 5 (nI 1)) b L 1 (tokA b L 0) := TkX_f a2 (by omega)
    rw [fN h1 (by decide), ob_s]
    dsimp only
    rw [bnd_e, fS (tk h1) (by decide), ob_s]
    exact ⟨_, rfl, tk h1, (fun q => by cases q), ((FrD.k fr).tr (FrD.u (by omega))).tr (put _ _)⟩
theorem f24 (h : TkX I b L f t) (hf : f ≠ 0) : fnX8_readPin_24 I = some I := by
  unfold fnX8_readPin_24 fnX8_readPin_74
  obtain ⟨v, e1⟩ := fK h hf
  obtain ⟨u, e2⟩ := fC h hf
  rw [e1, ob_s]
  dsimp only
  rw [e2, ob_s]
  dsimp only
  rw [fN h hf, ob_s]
  dsimp only
  rw [fN h hf, ob_s]
  dsimp only
  rw [fS h hf, ob_s, if_neg (f5 h hf)]
theorem fP (h : TkX I b L f t) (hf : f ≠ 0) : fnX8_readPin I = some I := by
  unfold fnX8_readPin
  rw [if_neg (f5 h hf)]
  exact f24 h hf
theorem fB (h : TkX I b L f t) (hf : f ≠ 0) : ∃ I1, fnX8_readBall I = some I1 ∧ TkX I1 b L f t ∧ FrD I I1 := by
  unfold fnX8_readBall
  rw [isName_e h (show 2 < 8 by omega), ob_s]
  dsimp only
  rw [fD h hf, ob_s]
  obtain ⟨v, e⟩ := fC h hf
  rw [e, ob_s]
  dsimp only
  have h1 : TkX (up2 I 13 3 v) b L f t := h.u (Or.inl rfl)
  rw [bnd_e, fN h1 hf, ob_s]
  dsimp only
  have h2 : TkX (up2 (up2 I 13 3 v) 13 4 (up2 I 13 3 v 13 9)) b L f t := h1.u (Or.inr rfl)
  rw [bnd_e, fS h2 hf, ob_s]
  exact ⟨_, rfl, h2, (FrD.u (by omega)).tr (FrD.u (by omega))⟩
theorem f56 (h : TkX I b L f t) (hf : f ≠ 0) : ∃ I1, fnX8_readAll_56 I = some I1 ∧ TkX I1 b L f t ∧ FrD I I1 := by
  obtain ⟨I1, a1, a2, a3⟩ := fB h hf
  unfold fnX8_readAll_56 fnX8_readAll_77
  rw [a1, ob_s, fT a2 hf, ob_s, fD a2 hf, fD a2 hf, ob_s]
  refine ⟨I1, ?_, a2, a3⟩
  split <;> rfl
theorem f27 (hf : f ≠ 0) : ∀ (d k fu : Nat) (I : Mem), k + d = 7 → d < fu → TkX I b L f t → ∃ I1, fnX8_readAll_27 fu I (nI k) = some I1 ∧ TkX I1 b L f t ∧ FrD I I1
  | d, k, 0, _, _, q, _ => absurd q (by omega)
  | 0, k, fu + 1, I, h1, _, h => by
    show ∃ I1, fnX8_readAll_27b _ I _ = _ ∧ _
    unfold fnX8_readAll_27b
    rw [if_pos (show (6 : Int32) < nI k from nI_lt (a := 6) (by omega) (by omega))]
    exact f56 h hf
  | d + 1, k, fu + 1, I, h1, h2, h => by
    show ∃ I1, fnX8_readAll_27b _ I _ = _ ∧ _
    unfold fnX8_readAll_27b
    rw [if_neg (show ¬ (6 : Int32) < nI k from nI_nlt (b := k) (a := 6) (by omega) (by omega)), isName_e h (show 0 < 8 by omega), ob_s]
    dsimp only
    by_cases c : nmA b 0 t = true
    · rw [if_pos c, if_neg (show ¬ (1 : Int32) = 0 by decide), fP h hf, ob_s, fT h hf, ob_s, bnd_e, nI_1]
      exact f27 hf d (k + 1) fu I (by omega) (by omega) h
    · rw [if_neg c, if_pos rfl]
      exact f56 h hf
theorem pinX {τ : Tb} (hT : Tok τ) (h : TkX I b L 0 t) (hd : TabX I 15 τ) : ∃ I1, fnX8_readPin I = some I1 ∧ TkX I1 b L (pinA b L τ t).1 (pinA b L τ t).2.1 ∧ ((pinA b L τ t).1 = 0 → TabX I1 15 (pinA b L τ t).2.2 ∧ Tok (pinA b L τ t).2.2 ∧ tn (pinA b L τ t).2.2 = tn τ + 1) ∧ FrD I I1 := by
  have h6 := hT.2.1
  unfold fnX8_readPin pinA
  rw [if_pos (show I 13 5 = 0 from h.2.2.2.2.1), hd.2.1]
  by_cases c6 : 6 ≤ tn τ
  · have h1 : TkX (up2 I 13 5 (nI 3)) b L 3 t := TkX_f h (by omega)
    rw [if_neg (show ¬ nI (tn τ) < 6 from nI_nlt (a := tn τ) (b := 6) (by omega) (by omega)), if_pos c6, bnd_e, show (3 : Int32) = nI 3 from rfl, f24 h1 (by decide)]
    exact ⟨_, rfl, h1, (fun q => by cases q), FrD.u (by omega)⟩
  rw [if_pos (show nI (tn τ) < 6 from nI_lt (b := 6) (by omega) (by omega)), if_neg c6]
  dsimp only
  unfold fnX8_readPin_24 fnX8_readPin_74
  obtain ⟨I1, a1, a2, a3⟩ := kndX h
  have k5 := kndA_le b (tokA b L t.2)
  rw [a1, ob_s]
  dsimp only
  generalize tokA b L t.2 = t1 at a2 k5
  by_cases ck0 : kndA b t1 = 0
  · rw [if_pos ck0] at a2 ⊢
    obtain ⟨u, e2⟩ := fC a2 (by decide)
    rw [e2, ob_s]
    dsimp only
    rw [fN a2 (by decide), ob_s]
    dsimp only
    rw [fN a2 (by decide), ob_s]
    dsimp only
    rw [fS a2 (by decide), ob_s, if_neg (f5 a2 (by decide))]
    exact ⟨_, rfl, a2, (fun q => by cases q), FrD.k a3⟩
  rw [if_neg ck0] at a2 ⊢
  obtain ⟨r, I2, b1, b2, b3, b4⟩ := celX hT a2 (hd.k a3.1)
  rw [b1, ob_s]
  dsimp only
  generalize celA b L τ t1 = c at b2 b3
  by_cases cc : c.1 = 0
  · obtain ⟨b3a, b3b, b3c⟩ := b3 cc
    rw [if_neg (show ¬ c.1 ≠ 0 from fun q => q cc)]
    rw [cc] at b2
    obtain ⟨r3, I3, d1, d2, d3, d4⟩ := numX b2 (lo := 0) (hi := 7) (by omega) (by omega)
    rw [show (0 : Int32) = nI 0 from rfl, show (7 : Int32) = nI 7 from rfl, d1, ob_s]
    dsimp only
    generalize tokA b L c.2.1.2 = t2 at d2 d3
    by_cases c7 : numF b L 0 7 t2 = 0
    · rw [if_neg (show ¬ numF b L 0 7 t2 ≠ 0 from fun q => q c7)]
      rw [c7] at d2
      have v7 := numF_0 c7 (by omega)
      obtain ⟨r4, I4, g1, g2, g3, g4⟩ := numX d2 (lo := 0) (hi := 99) (by omega) (by omega)
      rw [show (99 : Int32) = nI 99 from rfl, g1, ob_s]
      dsimp only
      generalize tokA b L t2.2 = t3 at g2 g3
      have fr4 := ((FrD.k a3).tr (FrD.k b4)).tr ((FrD.k d4).tr (FrD.k g4))
      by_cases c9 : numF b L 0 99 t3 = 0
      · rw [if_neg (show ¬ numF b L 0 99 t3 ≠ 0 from fun q => q c9)]
        rw [c9] at g2
        have v9 := numF_0 c9 (by omega)
        obtain ⟨I5, j1, j2, j3⟩ := semX g2
        rw [j1, ob_s]
        dsimp only
        generalize tokA b L t3.2 = t4 at j2
        by_cases cs : semF b L t4 = 0
        · rw [cs] at j2
          have td : TabX I5 15 τ := hd.k (fun x hx => (j3.1 x hx).trans ((g4.1 x hx).trans ((d4.1 x hx).trans ((b4.1 x hx).trans (a3.1 x hx)))))
          obtain ⟨I6, l1, l2, l3⟩ := addPinX hT td (kd := kndA b t1) (ce := c.2.2) (le := vN b t2) (pa := vN b t3) (by omega) (by omega) k5 b3b (by omega) (by omega) b3c
          rw [if_pos (show I5 13 5 = nI 0 from j2.2.2.2.2.1), b3a, d3 c7, g3 c9, l1, ob_s]
          exact ⟨I6, rfl, by rw [cs]; exact j2.k (l3 14 (by omega)) (fun y _ => by rw [l3 13 (by omega)]), fun _ => ⟨l2, addT_ok hT (by omega) (by omega) k5 b3b (by omega) (by omega) b3c, rfl⟩, fr4.tr ((FrD.k j3).tr (FrD.d l3))⟩
        · rw [if_neg (show ¬ I5 13 5 = nI 0 from f5 j2 cs)]
          exact ⟨I5, rfl, j2, fun q => absurd q cs, fr4.tr (FrD.k j3)⟩
      · rw [if_pos (show numF b L 0 99 t3 ≠ 0 from c9), fS g2 c9, ob_s, if_neg (show ¬ I4 13 5 = nI 0 from f5 g2 c9)]
        exact ⟨I4, rfl, g2, fun q => absurd q c9, fr4⟩
    · rw [if_pos (show numF b L 0 7 t2 ≠ 0 from c7), fN d2 c7, ob_s]
      dsimp only
      rw [fS d2 c7, ob_s, if_neg (show ¬ I3 13 5 = nI 0 from f5 d2 c7)]
      exact ⟨I3, rfl, d2, fun q => absurd q c7, ((FrD.k a3).tr (FrD.k b4)).tr (FrD.k d4)⟩
  · rw [if_pos (show c.1 ≠ 0 from cc), fN b2 cc, ob_s]
    dsimp only
    rw [fN b2 cc, ob_s]
    dsimp only
    rw [fS b2 cc, ob_s, if_neg (f5 b2 cc)]
    exact ⟨I2, rfl, b2, fun q => absurd q cc, (FrD.k a3).tr (FrD.k b4)⟩
/-- behind all of it, of the class -/
def RsX (I I1 : Mem) (b : Nat → Int32) (L : Nat) (r : Rsl) : Prop := TkX I1 b L r.1 r.2.1 ∧ (r.1 = 0 → TabX I1 15 r.2.2.1 ∧ Tok r.2.2.1 ∧ I1 13 3 = nI r.2.2.2.1 ∧ I1 13 4 = nI r.2.2.2.2 ∧ r.2.2.2.1 < 42 ∧ r.2.2.2.2 < 4) ∧ FrD I I1
theorem endX {τ : Tb} (hT : Tok τ) (h : TkX I b L 0 t) (hd : TabX I 15 τ) : ∃ I1, fnX8_readAll_56 I = some I1 ∧ RsX I I1 b L (endB b L τ t) := by
  have bad : ∀ {I1 : Mem} {g : Nat} {u : Nat × Nat}, g ≠ 0 → fnX8_readBall I = some I1 → TkX I1 b L g u → FrD I I1 → ∃ I2, fnX8_readAll_56 I = some I2 ∧ RsX I I2 b L (g, u, τ, 0, 0) := fun {I1 g u} hg h1 h2 h3 => by
    unfold fnX8_readAll_56 fnX8_readAll_77
    rw [h1, ob_s, fT h2 hg, ob_s, fD h2 hg, fD h2 hg, ob_s]
    refine ⟨I1, ?_, h2, fun q => absurd q hg, h3⟩
    split <;> rfl
  unfold endB ballA
  by_cases cb : nmA b 2 t = true
  · rw [if_pos cb]
    obtain ⟨r, I2, b1, b2, b3, b4⟩ := celX hT h hd
    dsimp only
    generalize hc : celA b L τ t = c at b2 b3
    by_cases cc : c.1 = 0
    · obtain ⟨b3a, b3b, b3c⟩ := b3 cc
      rw [if_neg (show ¬ c.1 ≠ 0 from fun q => q cc)]
      rw [cc] at b2
      have b2' : TkX (up2 I2 13 3 r) b L 0 c.2.1 := b2.u (Or.inl rfl)
      obtain ⟨r4, I4, g1, g2, g3, g4⟩ := numX b2' (lo := 0) (hi := 3) (by omega) (by omega)
      have fr4 : FrD I I4 := ((FrD.k b4).tr (FrD.u (by omega))).tr (FrD.k g4)
      generalize tokA b L c.2.1.2 = t2 at g2 g3
      by_cases c3 : numF b L 0 3 t2 = 0
      · rw [if_neg (show ¬ numF b L 0 3 t2 ≠ 0 from fun q => q c3)]
        rw [c3] at g2
        have v3 := numF_0 c3 (by omega)
        have g2' : TkX (up2 I4 13 4 r4) b L 0 t2 := g2.u (Or.inr rfl)
        obtain ⟨I5, j1, j2, j3⟩ := semX g2'
        have fr5 : FrD I I5 := fr4.tr ((FrD.u (by omega)).tr (FrD.k j3))
        dsimp only
        generalize tokA b L t2.2 = t3 at j2
        have eB : fnX8_readBall I = some I5 := by
          unfold fnX8_readBall
          rw [isName_e h (show 2 < 8 by omega), ob_s, if_pos cb]
          dsimp only
          rw [d1, ob_s, b1, ob_s]
          dsimp only
          rw [bnd_e, show (0 : Int32) = nI 0 from rfl, show (3 : Int32) = nI 3 from rfl, g1, ob_s]
          dsimp only
          rw [bnd_e, j1, ob_s]
        by_cases cs : semF b L t3 = 0
        · rw [if_neg (show ¬ semF b L t3 ≠ 0 from fun q => q cs)]
          rw [cs] at j2
          obtain ⟨I6, l1, l2, l3⟩ := tkx j2
          have l3' := l3.mo s6959
          generalize tokA b L t3.2 = u at l2
          unfold fnX8_readAll_56 fnX8_readAll_77
          rw [eB, ob_s, l1, ob_s, l2.2.2.2.2.2.2.2.1]
          by_cases cu : u.1 < L
          · rw [if_neg (fun q => srt_0.mp q cu), if_pos cu, d0 l2, ob_s]
            exact ⟨_, rfl, TkX_f l2 (by omega), (fun q => by cases q), fr5.tr ((FrD.k l3').tr (FrD.u (by omega)))⟩
          · rw [if_pos (srt_0.mpr cu), if_neg cu, d1, ob_s]
            refine ⟨I6, rfl, l2, fun _ => ⟨?_, hT, ?_, ?_, b3b, (by show vN b t2 < 4; omega)⟩, fr5.tr (FrD.k l3')⟩
            · exact hd.k (fun x hx => (l3.1 x hx).trans ((j3.1 x hx).trans ((up2_ne hx).trans ((g4.1 x hx).trans ((up2_ne hx).trans (b4.1 x hx))))))
            · show I6 13 3 = nI c.2.2
              rw [l3.2 3 (by unfold s69; omega), j3.2 3 (by unfold s59; omega), up2_r, if_neg (by omega), g4.2 3 (by unfold s59; omega), up2_r, if_pos ⟨rfl, rfl⟩]
              exact b3a
            · show I6 13 4 = nI (vN b t2)
              rw [l3.2 4 (by unfold s69; omega), j3.2 4 (by unfold s59; omega), up2_r, if_pos ⟨rfl, rfl⟩]
              exact g3 c3
        · rw [if_pos (show semF b L t3 ≠ 0 from cs)]
          exact bad cs eB j2 fr5
      · rw [if_pos (show numF b L 0 3 t2 ≠ 0 from c3)]
        dsimp only
        rw [if_pos (show numF b L 0 3 t2 ≠ 0 from c3)]
        refine bad c3 (I1 := up2 I4 13 4 r4) ?_ (g2.u (Or.inr rfl)) (fr4.tr (FrD.u (by omega)))
        unfold fnX8_readBall
        rw [isName_e h (show 2 < 8 by omega), ob_s, if_pos cb]
        dsimp only
        rw [d1, ob_s, b1, ob_s]
        dsimp only
        rw [bnd_e, show (0 : Int32) = nI 0 from rfl, show (3 : Int32) = nI 3 from rfl, g1, ob_s]
        dsimp only
        rw [bnd_e, fS (g2.u (Or.inr rfl)) c3, ob_s]
    · rw [if_pos (show c.1 ≠ 0 from cc)]
      dsimp only
      rw [if_pos (show c.1 ≠ 0 from cc)]
      have h1 : TkX (up2 I2 13 3 r) b L c.1 c.2.1 := b2.u (Or.inl rfl)
      have h2 : TkX (up2 (up2 I2 13 3 r) 13 4 (up2 I2 13 3 r 13 9)) b L c.1 c.2.1 := h1.u (Or.inr rfl)
      refine bad cc ?_ h2 ((FrD.k b4).tr ((FrD.u (by omega)).tr (FrD.u (by omega))))
      unfold fnX8_readBall
      rw [isName_e h (show 2 < 8 by omega), ob_s, if_pos cb]
      dsimp only
      rw [d1, ob_s, b1, ob_s]
      dsimp only
      rw [bnd_e, fN h1 cc, ob_s]
      dsimp only
      rw [bnd_e, fS h2 cc, ob_s]
  · rw [if_neg cb]
    dsimp only
    rw [if_pos (show (1 : Nat) ≠ 0 by decide)]
    have h1 : TkX (up2 I 13 5 (nI 1)) b L 1 t := TkX_f h (by omega)
    obtain ⟨v, e⟩ := fC h1 (by decide)
    have h2 : TkX (up2 (up2 I 13 5 (nI 1)) 13 3 v) b L 1 t := h1.u (Or.inl rfl)
    have h3 : TkX (up2 (up2 (up2 I 13 5 (nI 1)) 13 3 v) 13 4 (up2 (up2 I 13 5 (nI 1)) 13 3 v 13 9)) b L 1 t := h2.u (Or.inr rfl)
    refine bad (by decide) ?_ h3 ((FrD.u (by omega)).tr ((FrD.u (by omega)).tr (FrD.u (by omega))))
    unfold fnX8_readBall
    rw [isName_e h (show 2 < 8 by omega), ob_s, if_neg cb]
    dsimp only
    rw [d0 h, ob_s, e, ob_s]
    dsimp only
    rw [bnd_e, fN h2 (by decide), ob_s]
    dsimp only
    rw [bnd_e, fS h3 (by decide), ob_s]
theorem restX : ∀ (d k fu : Nat) (I : Mem) (τ : Tb) (t : Nat × Nat), k + d = 7 → k = tn τ → d < fu → Tok τ → TkX I b L 0 t → TabX I 15 τ → ∃ I1, fnX8_readAll_27 fu I (nI k) = some I1 ∧ RsX I I1 b L (restA b L d τ t)
  | d, k, 0, _, _, _, _, _, q, _, _, _ => absurd q (by omega)
  | 0, k, fu + 1, I, τ, t, h1, h2, _, hT, _, _ => absurd hT.2.1 (by omega)
  | d + 1, k, fu + 1, I, τ, t, h1, h2, h3, hT, h, hd => by
    have h6 := hT.2.1
    show ∃ I1, fnX8_readAll_27b _ I _ = _ ∧ _
    unfold fnX8_readAll_27b restA
    rw [if_neg (show ¬ (6 : Int32) < nI k from nI_nlt (b := k) (a := 6) (by omega) (by omega)), isName_e h (show 0 < 8 by omega), ob_s]
    dsimp only
    by_cases c : nmA b 0 t = true
    · obtain ⟨I1, a1, a2, a3, a4⟩ := pinX hT h hd
      rw [if_pos c, if_neg (show ¬ (1 : Int32) = 0 by decide), a1, ob_s, if_pos c]
      generalize pinA b L τ t = r at a2 a3
      by_cases cr : r.1 = 0
      · obtain ⟨p1, p2, p3⟩ := a3 cr
        rw [cr] at a2
        obtain ⟨I2, b1, b2, b3⟩ := tkx a2
        rw [if_neg (show ¬ r.1 ≠ 0 from fun q => q cr), b1, ob_s, bnd_e, nI_1]
        obtain ⟨I3, c1, c2, c3, c4⟩ := restX d (k + 1) fu I2 r.2.2 (tokA b L r.2.1.2) (by omega) (by omega) (by omega) p2 b2 (p1.k b3.1)
        exact ⟨I3, c1, c2, c3, a4.tr ((FrD.k (b3.mo s6959)).tr c4)⟩
      · rw [if_pos (show r.1 ≠ 0 from cr), fT a2 cr, ob_s, bnd_e, nI_1]
        obtain ⟨I2, b1, b2, b3⟩ := f27 cr d (k + 1) fu I1 (by omega) (by omega) a2
        exact ⟨I2, b1, b2, fun q => absurd q cr, a4.tr b3⟩
    · rw [if_neg c, if_pos rfl, if_neg c]
      exact endX hT h hd
theorem allX (hb : BtX I b L) : ∃ I1, fnX8_readAll I = some I1 ∧ RsX I I1 b L (allA b L) := by
  unfold fnX8_readAll fnX7_clear
  rw [bnd_e, bnd_e, bnd_e, bnd_e, show (0 : Int32) = nI 0 from rfl]
  generalize hI4 : up2 (up2 (up2 (up2 I 13 6 (nI 0)) 13 5 (nI 0)) 15 0 (nI 0)) 15 1 (nI 0) = I4
  obtain ⟨I5, a1, a2, a3⟩ := clearX 42 0 FU I4 (by omega) (by unfold FU; omega)
  rw [a1, ob_s]
  have o : ∀ x, x ≠ 13 → x ≠ 15 → I4 x = I x := fun x h1 h2 => by rw [← hI4, up2_ne h2, up2_ne h2, up2_ne h1, up2_ne h1]
  have o13 : ∀ y, y ≠ 5 → y ≠ 6 → I4 13 y = I 13 y := fun y h1 h2 => by rw [← hI4, up2_ne (by omega), up2_ne (by omega), up2_r, if_neg (by omega), up2_r, if_neg (by omega)]
  have f5' : FrD I I5 := ⟨fun x h1 h2 => (a3 x (by omega)).trans (o x h1 (by omega)), fun y hy => by rw [a3 13 (by omega)]; exact o13 y (by omega) (by omega)⟩
  have hb5 : BtX I5 b L := ⟨hb.1, by rw [a3 13 (by omega), o13 1 (by omega) (by omega)]; exact hb.2.1, fun j hj => by rw [a3 14 (by omega), o 14 (by omega) (by omega)]; exact hb.2.2 j hj⟩
  have h5 : I5 13 5 = 0 := by rw [a3 13 (by omega), ← hI4]; simp [up2_r]; rfl
  have h6 : I5 13 6 = 0 := by rw [a3 13 (by omega), ← hI4]; simp [up2_r]; rfl
  have hd : TabX I5 15 (e0 0) := e0_X (by rw [a3 15 (by omega), ← hI4]; simp [up2_r]) (by rw [a3 15 (by omega), ← hI4]; simp [up2_r]; rfl) (fun c hc => by rw [a2 c hc, if_pos (by omega)])
  obtain ⟨I6, b1, b2, b3, b4⟩ := lawX hb5 h5 h6 hd
  rw [b1, ob_s]
  unfold allA
  have l20 := lawA_le b L (tokA b L 0)
  generalize lawA b L (tokA b L 0) = l at b2 b3 l20
  dsimp only
  by_cases c : l.1 = 0
  · rw [c] at b2
    obtain ⟨I7, d1, d2, d3⟩ := tkx b2
    rw [if_neg (show ¬ l.1 ≠ 0 from fun q => q c), d1, ob_s]
    obtain ⟨I8, g1, g2, g3, g4⟩ := restX 7 0 FU I7 (e0 l.2.2) (tokA b L l.2.1.2) (by omega) rfl (by unfold FU; omega) (e0_ok l20) d2 ((b3 c).k d3.1)
    exact ⟨I8, g1, g2, g3, f5'.tr (b4.tr ((FrD.k (d3.mo s6959)).tr g4))⟩
  · rw [if_pos (show l.1 ≠ 0 from c), fT b2 c, ob_s]
    obtain ⟨I8, g1, g2, g3⟩ := f27 c 7 0 FU I6 (by omega) (by unfold FU; omega) b2
    exact ⟨I8, g1, g2, fun q => absurd q c, f5'.tr (b4.tr g3)⟩
end
