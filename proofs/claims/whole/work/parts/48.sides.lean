/-! the play on both sides: one picture, two memories -/
theorem PlX_ag {I I1 : Mem} {a : Nat} {π : Pl} (h : PlX I a π) (h0 : I1 a = I a) (h1 : I1 (a + 1) = I (a + 1)) : PlX I1 a π := by
  unfold PlX
  rw [h0, h1]
  exact h
theorem TabX_ag {I I1 : Mem} {t : Nat} {τ : Tb} (h : TabX I t τ) (h0 : ∀ x, t ≤ x → x ≤ t + 5 → I1 x = I x) : TabX I1 t τ := by
  unfold TabX
  rw [h0 t (by omega) (by omega), h0 (t + 1) (by omega) (by omega), h0 (t + 2) (by omega) (by omega), h0 (t + 3) (by omega) (by omega), h0 (t + 4) (by omega) (by omega), h0 (t + 5) (by omega) (by omega)]
  exact h
def Pk (τ : Tb) (π : Pl) : Prop := Pok τ π ∧ (π.2.2.1 = 0 → π.2.2.2.1 ≤ τ.1)
abbrev Im : Type := Nat → Option (Tb × Pl)
def ImX (I : Mem) (a : Nat) (o : Option (Tb × Pl)) : Prop := match o with
  | none => I a 2 = 0
  | some (τ, π) => I a 2 = 1 ∧ TabX I (a + 1) τ ∧ PlX I (a + 7) π
def TabB (I : Mem) (b : Nat) (τ : Tb) : Prop := I 112 (b + 1) = nI τ.1 ∧ I 112 (b + 2) = nI (tn τ) ∧ ∀ p, p < tn τ → I 112 (b + (3 + 4 * p)) = nI (tkd τ p) ∧ I 112 (b + (4 + 4 * p)) = nI (tce τ p) ∧ I 112 (b + (5 + 4 * p)) = nI (tle τ p) ∧ I 112 (b + (6 + 4 * p)) = nI (tpa τ p)
def ImM (I : Mem) (b : Nat) (o : Option (Tb × Pl)) : Prop := match o with
  | none => I 112 b = 0
  | some (τ, π) => I 112 b = 1 ∧ TabB I b τ ∧ PlM I b π
def ActX (I : Mem) (na : Nat) (ac : Nat → Pl) : Prop := I 29 2 = nI na ∧ ∃ o : Nat, o < 24 ∧ I 29 1 = nI o ∧ ∀ k, k < na → PlX I (31 + 2 * ((o + k) % 24)) (ac k)
def XPl (I : Mem) (rd : Nat) (τ : Tb) (π : Pl) (na : Nat) (ac : Nat → Pl) (im : Im) : Prop := I 0 9 = nI rd ∧ TabX I 21 τ ∧ PlX I 27 π ∧ ActX I na ac ∧ ∀ k, k < 2 → ImX I (93 + 9 * k) (im k)
def MPl (I : Mem) (rd : Nat) (τ : Tb) (π : Pl) (na : Nat) (ac : Nat → Pl) (im : Im) : Prop := I 112 0 = nI rd ∧ TabM I τ ∧ (rd = 1 → PlM I 0 π) ∧ I 112 33 = π.2.2.2.2.2.2.2.1 ∧ I 111 2 = nI na ∧ (∀ k, k < na → PasM I k (ac k)) ∧ ∀ k, k < 2 → ImM I (41 * (1 + k)) (im k)
def OK (rd : Nat) (τ : Tb) (π : Pl) (na : Nat) (ac : Nat → Pl) (im : Im) : Prop := rd < 2 ∧ Tok τ ∧ Pk τ π ∧ na ≤ 24 ∧ (∀ k, k < na → Pk τ (ac k)) ∧ (rd = 0 → na = 0 ∧ tn τ = 0 ∧ ∀ k, k < 2 → im k = none) ∧ ∀ k, k < 2 → ∀ τ' π', im k = some (τ', π') → Tok τ' ∧ Pk τ' π'
/-- what the class's play calls may write -/
def FX (I I1 : Mem) : Prop := ∀ x, ¬ (21 ≤ x ∧ x ≤ 81) → ¬ (93 ≤ x ∧ x ≤ 110) → I1 x = I x
/-- what the reference's play calls may write -/
def FM (I I1 : Mem) : Prop := (∀ x, x ≠ 111 → x ≠ 112 → x ≠ 113 → I1 x = I x) ∧ ∀ y, y ≠ 2 → I1 111 y = I 111 y
theorem FX.rf {I : Mem} : FX I I := fun _ _ _ => rfl
theorem FM.rf {I : Mem} : FM I I := ⟨fun _ _ _ _ => rfl, fun _ _ => rfl⟩
theorem FX.tr {I I1 I2 : Mem} (h : FX I I1) (h2 : FX I1 I2) : FX I I2 := fun x a b => (h2 x a b).trans (h x a b)
theorem FM.tr {I I1 I2 : Mem} (h : FM I I1) (h2 : FM I1 I2) : FM I I2 := ⟨fun x a b c => (h2.1 x a b c).trans (h.1 x a b c), fun y hy => (h2.2 y hy).trans (h.2 y hy)⟩
theorem FX.pl {I I1 : Mem} {a : Nat} (h : FrP a I I1) (ha : 21 ≤ a ∧ a ≤ 80 ∨ 93 ≤ a ∧ a ≤ 109) : FX I I1 := fun x c d => h x (by omega) (by omega)
theorem FM.mv {I I1 : Mem} {b : Nat} (h : FrM b I I1) : FM I I1 := ⟨fun x _ c _ => h.1 x c, fun y _ => congrFun (h.1 111 (by omega)) y⟩
theorem ImX_ag {I I1 : Mem} {a : Nat} {o : Option (Tb × Pl)} (h : ImX I a o) (h0 : ∀ x, a ≤ x → x ≤ a + 8 → I1 x = I x) : ImX I1 a o := by
  match o, h with
  | none, h =>
    show I1 a 2 = 0
    rw [h0 a (by omega) (by omega)]
    exact h
  | some (τ, π), ⟨h1, h2, h3⟩ =>
    refine ⟨?_, TabX_ag h2 (fun x a b => h0 x (by omega) (by omega)), PlX_ag h3 (h0 _ (by omega) (by omega)) (h0 _ (by omega) (by omega))⟩
    rw [h0 a (by omega) (by omega)]
    exact h1
theorem PlM_ag {I I1 : Mem} {b : Nat} {π : Pl} (h : PlM I b π) (h0 : ∀ j, b + 27 ≤ j → j < b + 41 → I1 112 j = I 112 j) : PlM I1 b π := by
  obtain ⟨q0, q1, q2, q3, q4, q5, q6, q7, q8⟩ := h
  exact ⟨(h0 _ (by omega) (by omega)).trans q0, (h0 _ (by omega) (by omega)).trans q1, (h0 _ (by omega) (by omega)).trans q2, (h0 _ (by omega) (by omega)).trans q3, (h0 _ (by omega) (by omega)).trans q4, (h0 _ (by omega) (by omega)).trans q5, (h0 _ (by omega) (by omega)).trans q6, (h0 _ (by omega) (by omega)).trans q7, fun i hi => (h0 _ (by omega) (by omega)).trans (q8 i hi)⟩
theorem TabB_ag {I I1 : Mem} {b : Nat} {τ : Tb} (hT : Tok τ) (h : TabB I b τ) (h0 : ∀ j, b ≤ j → j < b + 27 → I1 112 j = I 112 j) : TabB I1 b τ := by
  obtain ⟨h1, h2, h3⟩ := h
  have h6 := hT.2.1
  refine ⟨(h0 _ (by omega) (by omega)).trans h1, (h0 _ (by omega) (by omega)).trans h2, fun p hp => ?_⟩
  obtain ⟨e1, e2, e3, e4⟩ := h3 p hp
  exact ⟨(h0 _ (by omega) (by omega)).trans e1, (h0 _ (by omega) (by omega)).trans e2, (h0 _ (by omega) (by omega)).trans e3, (h0 _ (by omega) (by omega)).trans e4⟩
theorem TabM_B {I : Mem} {τ : Tb} : TabM I τ ↔ TabB I 0 τ := by
  unfold TabM TabB
  simp only [Nat.zero_add]
theorem ImM_ag {I I1 : Mem} {b : Nat} {o : Option (Tb × Pl)} (ht : ∀ τ π, o = some (τ, π) → Tok τ) (h : ImM I b o) (h0 : ∀ j, b ≤ j → j < b + 41 → I1 112 j = I 112 j) : ImM I1 b o := by
  match o, h, ht with
  | none, h, _ => exact (h0 b (by omega) (by omega)).trans h
  | some (τ, π), ⟨h1, h2, h3⟩, ht =>
    exact ⟨(h0 b (by omega) (by omega)).trans h1, TabB_ag (ht τ π rfl) h2 (fun j a b => h0 j (by omega) (by omega)), PlM_ag h3 (fun j a b => h0 j (by omega) (by omega))⟩
theorem PasM_ag {I I1 : Mem} {k : Nat} {π : Pl} (h : PasM I k π) (h0 : I1 113 = I 113) : PasM I1 k π := by
  unfold PasM
  rw [h0]
  exact h
section
variable {I I1 : Mem} {rd : Nat} {τ : Tb} {π : Pl} {na : Nat} {ac : Nat → Pl} {im : Im}
theorem ActX_ag (h : ActX I na ac) (h0 : ∀ x, 29 ≤ x → x ≤ 78 → I1 x = I x) : ActX I1 na ac := by
  obtain ⟨h1, o, ho, h2, h3⟩ := h
  refine ⟨by rw [h0 29 (by omega) (by omega)]; exact h1, o, ho, by rw [h0 29 (by omega) (by omega)]; exact h2, fun k hk => ?_⟩
  have hm : (o + k) % 24 < 24 := Nat.mod_lt _ (by decide)
  exact PlX_ag (h3 k hk) (h0 _ (by omega) (by omega)) (h0 _ (by omega) (by omega))
theorem XPl_ag (h : XPl I rd τ π na ac im) (h0 : ∀ x, (21 ≤ x ∧ x ≤ 78) ∨ (93 ≤ x ∧ x ≤ 110) → I1 x = I x) (h9 : I1 0 9 = I 0 9) : XPl I1 rd τ π na ac im := by
  obtain ⟨h1, h2, h3, h4, h5⟩ := h
  exact ⟨h9.trans h1, TabX_ag h2 (fun x a b => h0 x (by omega)), PlX_ag h3 (h0 _ (by omega)) (h0 _ (by omega)), ActX_ag h4 (fun x a b => h0 x (by omega)), fun k hk => ImX_ag (h5 k hk) (fun x a b => h0 x (by omega))⟩
theorem MPl_ag (ok : OK rd τ π na ac im) (h : MPl I rd τ π na ac im) (h0 : ∀ j, j < 123 → I1 112 j = I 112 j) (h1 : I1 113 = I 113) (h2 : I1 111 2 = I 111 2) : MPl I1 rd τ π na ac im := by
  obtain ⟨a1, a2, a3, a4, a5, a6, a7⟩ := h
  refine ⟨(h0 0 (by omega)).trans a1, TabM_B.mpr (TabB_ag ok.2.1 (TabM_B.mp a2) (fun j _ _ => h0 j (by omega))), fun hr => PlM_ag (a3 hr) (fun j _ _ => h0 j (by omega)), (h0 _ (by omega)).trans a4, h2.trans a5, fun k hk => PasM_ag (a6 k hk) h1, fun k hk => ImM_ag (fun τ' π' e => (ok.2.2.2.2.2.2 k hk τ' π' e).1) (a7 k hk) (fun j _ _ => h0 j (by omega))⟩
/-- another play -/
theorem XPl_pl (h : XPl I rd τ π na ac im) (hf : FrP 27 I I1) {π' : Pl} (hp : PlX I1 27 π') : XPl I1 rd τ π' na ac im := by
  obtain ⟨h1, h2, h3, h4, h5⟩ := h
  exact ⟨by rw [hf 0 (by omega) (by omega)]; exact h1, TabX_fr h2 hf (by omega), hp, ActX_ag h4 (fun x a b => hf x (by omega) (by omega)), fun k hk => ImX_ag (h5 k hk) (fun x a b => hf x (by omega) (by omega))⟩
theorem MPl_pl (ok : OK rd τ π na ac im) (h : MPl I rd τ π na ac im) (hf : FrM 0 I I1) {π' : Pl} (hp : PlM I1 0 π') : MPl I1 rd τ π' na ac im := by
  obtain ⟨a1, a2, a3, a4, a5, a6, a7⟩ := h
  refine ⟨(hf.2 0 (by omega)).trans a1, TabM_fr ok.2.1 a2 hf, fun _ => hp, hp.2.2.2.2.2.2.2.1, by rw [hf.1 111 (by omega)]; exact a5, fun k hk => PasM_ag (a6 k hk) (hf.1 113 (by omega)), fun k hk => ImM_ag (fun τ' π' e => (ok.2.2.2.2.2.2 k hk τ' π' e).1) (a7 k hk) (fun j _ _ => hf.2 j (by omega))⟩
theorem XPl_pr (h : XPl I rd τ π na ac im) (hf : FrP 80 I I1) : XPl I1 rd τ π na ac im := XPl_ag h (fun x hx => hf x (by omega) (by omega)) (by rw [hf 0 (by omega) (by omega)])
theorem MPl_pr (ok : OK rd τ π na ac im) (h : MPl I rd τ π na ac im) (hf : FrM 123 I I1) : MPl I1 rd τ π na ac im := MPl_ag ok h (fun j hj => hf.2 j (by omega)) (hf.1 113 (by omega)) (by rw [hf.1 111 (by omega)])
theorem OK_pl (ok : OK rd τ π na ac im) {π' : Pl} (hp : Pk τ π') : OK rd τ π' na ac im := ⟨ok.1, ok.2.1, hp, ok.2.2.2⟩
/-- keep, of the class -/
theorem XPl_keep (ok : OK rd τ π na ac im) (h : XPl I rd τ π na ac im) : ∃ I1, fnX0_keep 27 I = some I1 ∧ XPl I1 rd τ π (keepA na ac π).1 (keepA na ac π).2 im ∧ FX I I1 := by
  obtain ⟨h1, h2, h3, ⟨h4, o, ho, h6, h7⟩, h5⟩ := h
  obtain ⟨o2, n2, I1, e1, e2, e3, e4, e5, e6⟩ := keepX_e ho ok.2.2.2.1 h6 h4 h3 ok.2.2.1.1.2.2.1
  have hn := ok.2.2.2.1
  have hm : (o2 + n2) % 24 < 24 := Nat.mod_lt _ (by decide)
  refine ⟨I1, e2, ⟨by rw [e6 0 (by omega) (by omega) (by omega)]; exact h1, TabX_ag h2 (fun x _ _ => e6 x (by omega) (by omega) (by omega)), PlX_ag h3 (e6 27 (by omega) (by omega) (by omega)) (e6 28 (by omega) (by omega) (by omega)), ?_, fun k hk => ImX_ag (h5 k hk) (fun x _ _ => e6 x (by omega) (by omega) (by omega))⟩, fun x c d => e6 x (by omega) (by omega) (by omega)⟩
  by_cases c : na = 24
  · rw [if_pos c] at e1
    obtain ⟨c1, c2⟩ := e1
    have hk : keepA na ac π = (24, fun k => if k < 23 then ac (k + 1) else π) := if_pos c
    rw [hk]
    refine ⟨by rw [e4, c2], o2, by omega, e3, fun k hk => ?_⟩
    have hm2 : (o2 + k) % 24 < 24 := Nat.mod_lt _ (by decide)
    have hk24 : k < 24 := hk
    show PlX I1 _ (if k < 23 then ac (k + 1) else π)
    by_cases c3 : k < 23
    · rw [if_pos c3]
      have := h7 (k + 1) (by omega)
      have ea : (o + (k + 1)) % 24 = (o2 + k) % 24 := by omega
      rw [ea] at this
      exact PlX_ag this (e6 _ (by omega) (by omega) (by omega)) (e6 _ (by omega) (by omega) (by omega))
    · rw [if_neg c3]
      have : k = n2 := by omega
      rw [this]
      exact e5
  · rw [if_neg c] at e1
    obtain ⟨c1, c2⟩ := e1
    have hk : keepA na ac π = (na + 1, fun k => if k < na then ac k else π) := if_neg c
    rw [hk]
    subst c1 c2
    refine ⟨e4, o2, ho, e3, fun k hk => ?_⟩
    have hm2 : (o2 + k) % 24 < 24 := Nat.mod_lt _ (by decide)
    have hk24 : k < n2 + 1 := hk
    show PlX I1 _ (if k < n2 then ac k else π)
    by_cases c3 : k < n2
    · rw [if_pos c3]
      exact PlX_ag (h7 k c3) (e6 _ (by omega) (by omega) (by omega)) (e6 _ (by omega) (by omega) (by omega))
    · rw [if_neg c3]
      have : k = n2 := by omega
      rw [this]
      exact e5
/-- keepPast, of the reference -/
theorem MPl_keep (hr : rd = 1) (ok : OK rd τ π na ac im) (h : MPl I rd τ π na ac im) : ∃ I1, fnX10_keepPast I = some I1 ∧ MPl I1 rd τ π (keepA na ac π).1 (keepA na ac π).2 im ∧ FM I I1 := by
  obtain ⟨a1, a2, a3, a4, a5, a6, a7⟩ := h
  obtain ⟨I1, e1, e2, e3, e4, e5⟩ := keepM_e ok.2.2.2.1 a5
  have f112 : I1 112 = I 112 := e4 112 (by omega) (by omega)
  obtain ⟨q0, q1, q2, q3, q4, q5, q6, q7, q8⟩ := a3 hr
  simp only [Nat.zero_add] at q0 q1 q2 q3 q4 q5 q6 q7 q8
  have tl : ∀ k : Nat, (∀ j, j < 14 → I1 113 (14 * k + j) = I 112 (27 + j)) → PasM I1 k π := fun k hj => ⟨(hj 0 (by omega)).trans q0, (hj 1 (by omega)).trans q1, (hj 2 (by omega)).trans q2, (hj 3 (by omega)).trans q3, (hj 4 (by omega)).trans q4, (hj 5 (by omega)).trans q5, (hj 7 (by omega)).trans q6, (hj 6 (by omega)).trans q7, fun i hi => by rw [Nat.add_assoc, hj (8 + i) (by omega), ← q8 i hi]; congr 1; omega⟩
  have cp : ∀ k m : Nat, PasM I m (ac m) → (∀ j, j < 14 → I1 113 (14 * k + j) = I 113 (14 * m + j)) → PasM I1 k (ac m) := fun k m hp hj => by
    obtain ⟨r0, r1, r2, r3, r4, r5, r6, r7, r8⟩ := hp
    exact ⟨(hj 0 (by omega)).trans r0, (hj 1 (by omega)).trans r1, (hj 2 (by omega)).trans r2, (hj 3 (by omega)).trans r3, (hj 4 (by omega)).trans r4, (hj 5 (by omega)).trans r5, (hj 7 (by omega)).trans r6, (hj 6 (by omega)).trans r7, fun i hi => by rw [Nat.add_assoc, hj (8 + i) (by omega), ← r8 i hi]; congr 1; omega⟩
  refine ⟨I1, e1, ⟨by rw [f112]; exact a1, TabM_B.mpr (TabB_ag ok.2.1 (TabM_B.mp a2) (fun j _ _ => by rw [f112])), fun hr => PlM_ag (a3 hr) (fun j _ _ => by rw [f112]), by rw [f112]; exact a4, ?_, ?_, fun k hk => ImM_ag (fun τ' π' e => (ok.2.2.2.2.2.2 k hk τ' π' e).1) (a7 k hk) (fun j _ _ => by rw [f112])⟩, ⟨fun x c _ d => e4 x c d, e3⟩⟩
  · rw [e2]
    unfold keepA
    split <;> rfl
  · have hn := ok.2.2.2.1
    by_cases c : na = 24
    · have hk : keepA na ac π = (24, fun k => if k < 23 then ac (k + 1) else π) := if_pos c
      rw [hk]
      intro k hk
      have hk24 : k < 24 := hk
      show PasM I1 k (if k < 23 then ac (k + 1) else π)
      by_cases c3 : k < 23
      · rw [if_pos c3]
        refine cp k (k + 1) (a6 (k + 1) (by omega)) (fun j hj => ?_)
        rw [e5, if_pos c, if_neg (by omega), if_pos (by omega)]
        congr 1
        omega
      · rw [if_neg c3]
        refine tl k (fun j hj => ?_)
        rw [e5, if_pos c, if_pos (by omega), show 14 * k + j - 322 = j by omega]
    · have hk : keepA na ac π = (na + 1, fun k => if k < na then ac k else π) := if_neg c
      rw [hk]
      intro k hk
      have hk24 : k < na + 1 := hk
      show PasM I1 k (if k < na then ac k else π)
      by_cases c3 : k < na
      · rw [if_pos c3]
        refine cp k k (a6 k c3) (fun j hj => ?_)
        rw [e5, if_neg c, if_neg (by omega)]
      · rw [if_neg c3]
        refine tl k (fun j hj => ?_)
        rw [e5, if_neg c, if_pos (by omega), show 14 * k + j - 14 * na = j by omega]
theorem OK_keep (hr : rd = 1) (ok : OK rd τ π na ac im) : OK rd τ π (keepA na ac π).1 (keepA na ac π).2 im := by
  obtain ⟨h1, h2, h3, h4, h5, h6, h7⟩ := ok
  refine ⟨h1, h2, h3, ?_, ?_, fun h => absurd h (by omega), h7⟩
  · unfold keepA
    split
    · exact Nat.le_refl 24
    · show na + 1 ≤ 24
      omega
  · unfold keepA
    split
    · intro k hk
      show Pk τ (if k < 23 then ac (k + 1) else π)
      have hk24 : k < 24 := hk
      split
      · exact h5 _ (by omega)
      · exact h3
    · intro k hk
      show Pk τ (if k < na then ac k else π)
      split
      · exact h5 _ (by omega)
      · exact h3
end
