/-! the search: told once -/
def IsMin (P : Nat → Prop) (o : Option Nat) : Prop := (∀ v, P v → ∃ u, o = some u ∧ u ≤ v) ∧ ∀ u, o = some u → P u
theorem IsMin.uq {P : Nat → Prop} {o o' : Option Nat} (h : IsMin P o) (h' : IsMin P o') : o = o' := by
  cases o with
  | none =>
    cases o' with
    | none => rfl
    | some v =>
      obtain ⟨u, a, _⟩ := h.1 v (h'.2 v rfl)
      cases a
  | some u =>
    cases o' with
    | none =>
      obtain ⟨v, a, _⟩ := h'.1 u (h.2 u rfl)
      cases a
    | some v =>
      obtain ⟨u', a, a'⟩ := h.1 v (h'.2 v rfl)
      obtain ⟨v', c, c'⟩ := h'.1 u (h.2 u rfl)
      cases a
      cases c
      exact congrArg some (Nat.le_antisymm a' c')
theorem IsMin.cg {P P' : Nat → Prop} {o : Option Nat} (h : IsMin P o) (e : ∀ v, P v ↔ P' v) : IsMin P' o := ⟨fun v q => h.1 v ((e v).mpr q), fun u q => (e u).mp (h.2 u q)⟩
def omin (o : Option Nat) (v : Nat) : Option Nat := match o with
  | none => some v
  | some u => some (if v < u then v else u)
theorem IsMin.ad {P : Nat → Prop} {o : Option Nat} (h : IsMin P o) (u : Nat) : IsMin (fun v => P v ∨ v = u) (omin o u) := by
  cases o with
  | none =>
    refine ⟨fun v q => ?_, fun w q => ?_⟩
    · rcases q with q | q
      · obtain ⟨_, a, _⟩ := h.1 v q
        cases a
      · exact ⟨u, rfl, by omega⟩
    · cases q
      exact Or.inr rfl
  | some m =>
    have hm := h.2 m rfl
    by_cases c : u < m
    · have e : omin (some m) u = some u := by unfold omin; simp only [if_pos c]
      rw [e]
      refine ⟨fun v q => ?_, fun w q => ?_⟩
      · rcases q with q | q
        · obtain ⟨m', a, a'⟩ := h.1 v q
          cases a
          exact ⟨u, rfl, by omega⟩
        · exact ⟨u, rfl, by omega⟩
      · cases q
        exact Or.inr rfl
    · have e : omin (some m) u = some m := by unfold omin; simp only [if_neg c]
      rw [e]
      refine ⟨fun v q => ?_, fun w q => ?_⟩
      · rcases q with q | q
        · obtain ⟨m', a, a'⟩ := h.1 v q
          cases a
          exact ⟨m, rfl, a'⟩
        · exact ⟨m, rfl, by omega⟩
      · cases q
        exact Or.inl hm
theorem IsMin.no {P : Nat → Prop} (h : ∀ v, ¬ P v) : IsMin P none := ⟨fun v q => absurd q (h v), fun u q => by cases q⟩
/-- a step, of what a search looks at -/
def coreA (τ : Tb) (c w g : Nat) : Option Nat × Nat × Nat × Nat × Nat := ((stepA τ (c, w, 0, 0, 0, 0, g, 0, fun _ => 0)).1, (stepA τ (c, w, 0, 0, 0, 0, g, 0, fun _ => 0)).2.1, (stepA τ (c, w, 0, 0, 0, 0, g, 0, fun _ => 0)).2.2.1, (stepA τ (c, w, 0, 0, 0, 0, g, 0, fun _ => 0)).2.2.2.1, (stepA τ (c, w, 0, 0, 0, 0, g, 0, fun _ => 0)).2.2.2.2.2.2.2.1)
theorem core_e (τ : Tb) (c w sh g : Nat) (sc lit st : Int32) (k : Nat → Int32) : (stepA τ (c, w, 0, sh, sc, lit, g, st, k)).1 = (coreA τ c w g).1 ∧ (stepA τ (c, w, 0, sh, sc, lit, g, st, k)).2.1 = (coreA τ c w g).2.1 ∧ (stepA τ (c, w, 0, sh, sc, lit, g, st, k)).2.2.1 = (coreA τ c w g).2.2.1 ∧ (stepA τ (c, w, 0, sh, sc, lit, g, st, k)).2.2.2.1 = (coreA τ c w g).2.2.2.1 ∧ (stepA τ (c, w, 0, sh, sc, lit, g, st, k)).2.2.2.2.2.2.2.1 = (coreA τ c w g).2.2.2.2 := by
  unfold coreA stepA
  dsimp only
  by_cases c1 : w = 2 ∧ c < 7
  · simp only [if_pos c1, and_self]
  · simp only [if_neg c1]
    by_cases c2 : sideA c w = true
    · simp only [if_pos c2, and_self]
    · simp only [if_neg c2]
      cases pinOf τ (goA c w) <;> exact ⟨rfl, rfl, rfl, rfl, rfl⟩
/-- where it goes: the cell and the way in one, the gates -/
def dstA (τ : Tb) (q g t : Nat) : Option (Nat × Nat) := if (coreA τ (q / 4) ((q % 4 + t) % 4) g).2.2.2.1 = 0 then some (4 * (coreA τ (q / 4) ((q % 4 + t) % 4) g).2.1 + (coreA τ (q / 4) ((q % 4 + t) % 4) g).2.2.1, (coreA τ (q / 4) ((q % 4 + t) % 4) g).2.2.2.2) else none
def hitA (τ : Tb) (lt : Option Nat) (q g t : Nat) : Prop := ∃ p l, (coreA τ (q / 4) ((q % 4 + t) % 4) g).1 = some p ∧ lt = some l ∧ tle τ p = l
theorem core_ok {τ : Tb} (hT : Tok τ) {q g t : Nat} (hq : q < 168) (hg : g < 2 ^ tn τ) : (coreA τ (q / 4) ((q % 4 + t) % 4) g).2.1 < 42 ∧ (coreA τ (q / 4) ((q % 4 + t) % 4) g).2.2.1 < 4 ∧ (coreA τ (q / 4) ((q % 4 + t) % 4) g).2.2.2.1 < 2 ∧ (coreA τ (q / 4) ((q % 4 + t) % 4) g).2.2.2.2 < 2 ^ tn τ := by
  have h := stepA_ok (τ := τ) (π := (q / 4, (q % 4 + t) % 4, 0, 0, 0, 0, g, 0, fun _ => 0)) hT ⟨by show q / 4 < 42; omega, by show (q % 4 + t) % 4 < 4; omega, by show 0 < 2; omega, by show 0 ≤ 23; omega, hg⟩
  exact ⟨h.1, h.2.1, h.2.2.1, h.2.2.2.2⟩
theorem dst_ok {τ : Tb} (hT : Tok τ) {q g t q' g' : Nat} (hq : q < 168) (hg : g < 2 ^ tn τ) (h : dstA τ q g t = some (q', g')) : q' < 168 ∧ g' < 2 ^ tn τ := by
  obtain ⟨a1, a2, a3, a4⟩ := core_ok (t := t) hT hq hg
  unfold dstA at h
  by_cases c : (coreA τ (q / 4) ((q % 4 + t) % 4) g).2.2.2.1 = 0
  · rw [if_pos c] at h
    cases h
    exact ⟨by omega, a4⟩
  · rw [if_neg c] at h
    cases h
abbrev Ly : Type := Nat → Nat → Option Nat
abbrev Dn : Type := Nat → Nat → Nat → Prop
def PA (τ : Tb) (f : Ly) (D : Dn) (q' g' v : Nat) : Prop := ∃ q g t c, D q g t ∧ t < 2 ∧ f q g = some c ∧ v = c + t ∧ dstA τ q g t = some (q', g')
def QA (τ : Tb) (lt : Option Nat) (f : Ly) (D : Dn) (b : Option Nat) (v : Nat) : Prop := b = some v ∨ ∃ q g t c, D q g t ∧ t < 2 ∧ f q g = some c ∧ v = c + t ∧ hitA τ lt q g t
def StA (τ : Tb) (lt : Option Nat) (f : Ly) (b : Option Nat) (D : Dn) (f' : Ly) (b' : Option Nat) : Prop := (∀ q' g', IsMin (PA τ f D q' g') (f' q' g')) ∧ IsMin (QA τ lt f D b) b'
def updL (f : Ly) (y : Option (Nat × Nat)) (v : Nat) : Ly := match y with
  | none => f
  | some (q', g') => fun q g => if q = q' ∧ g = g' then omin (f q' g') v else f q g
def addD (D : Dn) (q g t : Nat) : Dn := fun q' g' t' => D q' g' t' ∨ (q' = q ∧ g' = g ∧ t' = t)
theorem StA.s0 {τ : Tb} {lt : Option Nat} {f : Ly} {b : Option Nat} : StA τ lt f b (fun _ _ _ => False) (fun _ _ => none) b := by
  refine ⟨fun q' g' => IsMin.no (fun v ⟨_, _, _, _, h, _⟩ => h), fun v q => ?_, fun u q => Or.inl q⟩
  rcases q with q | ⟨_, _, _, _, h, _⟩
  · exact ⟨v, q, Nat.le_refl v⟩
  · exact absurd h id
theorem StA.cg {τ : Tb} {lt : Option Nat} {f : Ly} {b : Option Nat} {D D' : Dn} {f' : Ly} {b' : Option Nat} (h : StA τ lt f b D f' b') (e : ∀ q g t c, t < 2 → f q g = some c → (D q g t ↔ D' q g t)) : StA τ lt f b D' f' b' := by
  refine ⟨fun q' g' => (h.1 q' g').cg (fun v => ?_), h.2.cg (fun v => ?_)⟩
  · constructor
    · rintro ⟨q, g, t, c, a, a1, a2, a3⟩
      exact ⟨q, g, t, c, (e q g t c a1 a2).mp a, a1, a2, a3⟩
    · rintro ⟨q, g, t, c, a, a1, a2, a3⟩
      exact ⟨q, g, t, c, (e q g t c a1 a2).mpr a, a1, a2, a3⟩
  · constructor
    · rintro (q | ⟨q, g, t, c, a, a1, a2, a3⟩)
      · exact Or.inl q
      · exact Or.inr ⟨q, g, t, c, (e q g t c a1 a2).mp a, a1, a2, a3⟩
    · rintro (q | ⟨q, g, t, c, a, a1, a2, a3⟩)
      · exact Or.inl q
      · exact Or.inr ⟨q, g, t, c, (e q g t c a1 a2).mpr a, a1, a2, a3⟩
/-- one try more -/
theorem StA.st {τ : Tb} {lt : Option Nat} {f : Ly} {b : Option Nat} {D : Dn} {f' : Ly} {b' : Option Nat} (h : StA τ lt f b D f' b') {q g t c : Nat} (ht : t < 2) (hf : f q g = some c) {b2 : Option Nat} (h1 : hitA τ lt q g t → b2 = omin b' (c + t)) (h0 : ¬ hitA τ lt q g t → b2 = b') : StA τ lt f b (addD D q g t) (updL f' (dstA τ q g t) (c + t)) b2 := by
  refine ⟨fun q' g' => ?_, ?_⟩
  · by_cases e : dstA τ q g t = some (q', g')
    · have u : updL f' (dstA τ q g t) (c + t) q' g' = omin (f' q' g') (c + t) := by rw [e]; exact if_pos ⟨rfl, rfl⟩
      rw [u]
      refine ((h.1 q' g').ad (c + t)).cg (fun v => ?_)
      constructor
      · rintro (⟨q1, g1, t1, c1, a, a1, a2, a3⟩ | rfl)
        · exact ⟨q1, g1, t1, c1, Or.inl a, a1, a2, a3⟩
        · exact ⟨q, g, t, c, Or.inr ⟨rfl, rfl, rfl⟩, ht, hf, rfl, e⟩
      · rintro ⟨q1, g1, t1, c1, a | ⟨rfl, rfl, rfl⟩, a1, a2, a3, a4⟩
        · exact Or.inl ⟨q1, g1, t1, c1, a, a1, a2, a3, a4⟩
        · rw [hf] at a2
          cases a2
          exact Or.inr a3
    · have u : updL f' (dstA τ q g t) (c + t) q' g' = f' q' g' := by
        cases y : dstA τ q g t with
        | none => rfl
        | some p =>
          obtain ⟨q2, g2⟩ := p
          refine if_neg (fun z => e ?_)
          rw [y, z.1, z.2]
      rw [u]
      refine (h.1 q' g').cg (fun v => ?_)
      constructor
      · rintro ⟨q1, g1, t1, c1, a, a1, a2, a3⟩
        exact ⟨q1, g1, t1, c1, Or.inl a, a1, a2, a3⟩
      · rintro ⟨q1, g1, t1, c1, a | ⟨rfl, rfl, rfl⟩, a1, a2, a3, a4⟩
        · exact ⟨q1, g1, t1, c1, a, a1, a2, a3, a4⟩
        · exact absurd a4 e
  · by_cases e : hitA τ lt q g t
    · rw [h1 e]
      refine (h.2.ad (c + t)).cg (fun v => ?_)
      constructor
      · rintro ((a | ⟨q1, g1, t1, c1, a, a1, a2, a3⟩) | rfl)
        · exact Or.inl a
        · exact Or.inr ⟨q1, g1, t1, c1, Or.inl a, a1, a2, a3⟩
        · exact Or.inr ⟨q, g, t, c, Or.inr ⟨rfl, rfl, rfl⟩, ht, hf, rfl, e⟩
      · rintro (a | ⟨q1, g1, t1, c1, a | ⟨rfl, rfl, rfl⟩, a1, a2, a3, a4⟩)
        · exact Or.inl (Or.inl a)
        · exact Or.inl (Or.inr ⟨q1, g1, t1, c1, a, a1, a2, a3, a4⟩)
        · rw [hf] at a2
          cases a2
          exact Or.inr a3
    · rw [h0 e]
      refine h.2.cg (fun v => ?_)
      constructor
      · rintro (a | ⟨q1, g1, t1, c1, a, a1, a2, a3⟩)
        · exact Or.inl a
        · exact Or.inr ⟨q1, g1, t1, c1, Or.inl a, a1, a2, a3⟩
      · rintro (a | ⟨q1, g1, t1, c1, a | ⟨rfl, rfl, rfl⟩, a1, a2, a3, a4⟩)
        · exact Or.inl a
        · exact Or.inr ⟨q1, g1, t1, c1, a, a1, a2, a3, a4⟩
        · exact absurd a4 e
/-- a round -/
def Rnd (τ : Tb) (lt : Option Nat) (f : Ly) (b : Option Nat) (f' : Ly) (b' : Option Nat) : Prop := StA τ lt f b (fun _ _ _ => True) f' b'
theorem Rnd.uq {τ : Tb} {lt : Option Nat} {f : Ly} {b : Option Nat} {f1 f2 : Ly} {b1 b2 : Option Nat} (h1 : Rnd τ lt f b f1 b1) (h2 : Rnd τ lt f b f2 b2) : f1 = f2 ∧ b1 = b2 := ⟨funext fun q => funext fun g => (h1.1 q g).uq (h2.1 q g), h1.2.uq h2.2⟩
def Rnds (τ : Tb) (lt : Option Nat) : Nat → Ly → Option Nat → Ly → Option Nat → Prop
  | 0, f, b, f', b' => f' = f ∧ b' = b
  | d + 1, f, b, f', b' => ∃ f1 b1, Rnd τ lt f b f1 b1 ∧ Rnds τ lt d f1 b1 f' b'
theorem Rnds.uq {τ : Tb} {lt : Option Nat} : ∀ (d : Nat) {f : Ly} {b : Option Nat} {f1 f2 : Ly} {b1 b2 : Option Nat}, Rnds τ lt d f b f1 b1 → Rnds τ lt d f b f2 b2 → f1 = f2 ∧ b1 = b2
  | 0, _, _, _, _, _, _, h1, h2 => ⟨h1.1.trans h2.1.symm, h1.2.trans h2.2.symm⟩
  | d + 1, _, _, _, _, _, _, ⟨_, _, a1, a2⟩, ⟨_, _, c1, c2⟩ => by
    obtain ⟨e1, e2⟩ := a1.uq c1
    subst e1
    subst e2
    exact Rnds.uq d a2 c2
/-- only places that can be, and few nudges -/
def SupL (τ : Tb) (k : Nat) (f : Ly) : Prop := ∀ q g c, f q g = some c → q < 168 ∧ g < 2 ^ tn τ ∧ c ≤ k
theorem SupL.nx {τ : Tb} (hT : Tok τ) {lt : Option Nat} {f : Ly} {b : Option Nat} {D : Dn} {f' : Ly} {b' : Option Nat} {k : Nat} (h : StA τ lt f b D f' b') (hs : SupL τ k f) : SupL τ (k + 1) f' := fun q' g' v e => by
  obtain ⟨q, g, t, c, _, a1, a2, a3, a4⟩ := (h.1 q' g').2 v e
  obtain ⟨s1, s2, s3⟩ := hs q g c a2
  obtain ⟨d1, d2⟩ := dst_ok hT s1 s2 a4
  exact ⟨d1, d2, by omega⟩
/-- how many there are below n -/
def cnt (P : Nat → Bool) : Nat → Nat
  | 0 => 0
  | n + 1 => cnt P n + if P n then 1 else 0
theorem cnt_le (P : Nat → Bool) : ∀ n, cnt P n ≤ n
  | 0 => Nat.le_refl 0
  | n + 1 => by
    have := cnt_le P n
    unfold cnt
    split <;> omega
theorem cnt_cg {P P' : Nat → Bool} : ∀ n, (∀ p, p < n → P p = P' p) → cnt P n = cnt P' n
  | 0, _ => rfl
  | n + 1, h => by
    unfold cnt
    rw [cnt_cg n (fun p hp => h p (by omega)), h n (by omega)]
theorem cnt_lt {P : Nat → Bool} {p : Nat} (h : P p = false) : ∀ n, p < n → cnt P n < n
  | 0, hp => absurd hp (by omega)
  | n + 1, hp => by
    unfold cnt
    by_cases e : p = n
    · subst e
      rw [h]
      have := cnt_le P p
      simp only [Bool.false_eq_true, if_false]
      omega
    · have := cnt_lt h n (by omega)
      split <;> omega
theorem cnt_ad {P P' : Nat → Bool} {p : Nat} (h : P p = false) (h' : P' p = true) (e : ∀ x, x ≠ p → P' x = P x) : ∀ n, p < n → cnt P' n = cnt P n + 1
  | 0, hp => absurd hp (by omega)
  | n + 1, hp => by
    unfold cnt
    by_cases z : p = n
    · subst z
      rw [h, h', cnt_cg p (fun x hx => e x (by omega))]
      simp
    · rw [cnt_ad h h' e n (by omega), e n (by omega)]
      omega
