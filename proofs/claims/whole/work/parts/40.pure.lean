/-! ===== PURE PART: the functions of the two sides against one picture ===== -/
theorem bnd_e {α β : Type} {e : α} {k : α → Option β} : bnd e k = k e := rfl
theorem ob_s {α β : Type} {x : α} {k : α → Option β} : ob (some x) k = k x := rfl
theorem ck_t {β : Type} {k : Option β} : ck true k = k := rfl
theorem up2_r {α : Type} {f : Nat → Nat → α} {a k x y : Nat} {v : α} : up2 f a k v x y = if x = a ∧ y = k then v else f x y := by
  unfold up2
  by_cases h : x = a
  · subst h
    by_cases h2 : y = k <;> simp [h2]
  · simp [h]
theorem lit_nI (n : Nat) : (OfNat.ofNat n : Int32) = nI n := rfl
theorem ix_nI {n : Nat} (h : n < 2 ^ 31) : ix (nI n) = n := nI_clamp h
theorem inb_nI {n N : Nat} (h : n < N) (hN : N < 2 ^ 31) : inb (nI n) N = true := by
  unfold inb
  rw [nI_toInt (by omega)]
  exact decide_eq_true ⟨by omega, by omega⟩
theorem inb_no {n N : Nat} (h : N ≤ n) (hn : n < 2 ^ 31) : inb (nI n) N = false := by
  unfold inb
  rw [nI_toInt hn]
  exact decide_eq_false (by omega)
theorem zb_0 : zb 0 = true := rfl
theorem zb_1 : zb 1 = true := rfl
/-- 0 .. m -/
def upTo (p m : Int32) : Int32 := if p < 0 then 0 else if m < p then 0 else 1
theorem upTo_1 {p m : Nat} (h : p ≤ m) (hm : m < 2 ^ 31) : upTo (nI p) (nI m) = 1 := by
  unfold upTo
  rw [if_neg (nI_pos (by omega)), if_neg (nI_nlt h (by omega))]
theorem upTo_of {x : Int32} {m : Nat} (hm : m < 2 ^ 31) (h : ¬ upTo x (nI m) = 0) : ∃ p, p ≤ m ∧ x = nI p := by
  unfold upTo at h
  by_cases h1 : x < 0
  · rw [if_pos h1] at h; exact absurd rfl h
  · rw [if_neg h1] at h
    by_cases h2 : nI m < x
    · rw [if_pos h2] at h; exact absurd rfl h
    · obtain ⟨j, hj, rfl⟩ := nI_of h1
      refine ⟨j, ?_, rfl⟩
      rcases Nat.lt_or_ge m j with q | q
      · exact absurd (nI_lt q hj) h2
      · exact q
theorem isUpTo_e (I : Mem) (p m : Int32) : fnX9_isUpTo I p m = some (upTo p m, I) := by
  unfold fnX9_isUpTo upTo
  split
  · rfl
  · split <;> rfl
theorem irm_nI {a d : Nat} (ha : a < 2 ^ 31) (h0 : 0 < d) (hd : d < 2 ^ 31) : irm (nI a) (nI d) = nI (a % d) := pk_rem ha h0 hd
/-- the table: tilt, pins, and of the pins kinds, cells, letters, pays -/
abbrev Tb : Type := Nat × Nat × (Nat → Nat) × (Nat → Nat) × (Nat → Nat) × (Nat → Nat)
def tn (τ : Tb) : Nat := τ.2.1
def tkd (τ : Tb) : Nat → Nat := τ.2.2.1
def tce (τ : Tb) : Nat → Nat := τ.2.2.2.1
def tle (τ : Tb) : Nat → Nat := τ.2.2.2.2.1
def tpa (τ : Tb) : Nat → Nat := τ.2.2.2.2.2
def Tok (τ : Tb) : Prop := τ.1 ≤ 20 ∧ tn τ ≤ 6 ∧ (∀ p, p < tn τ → 1 ≤ tkd τ p ∧ tkd τ p ≤ 5 ∧ tce τ p < 42 ∧ tle τ p < 8 ∧ tpa τ p < 100) ∧ ∀ p q, p < tn τ → q < tn τ → tce τ p = tce τ q → p = q
def pinOf (τ : Tb) (c : Nat) : Option Nat := (List.range (tn τ)).find? (fun p => tce τ p == c)
def onI (r : Option Nat) : Int32 := match r with
  | some p => nI p
  | none => -1
def TabX (I : Mem) (t : Nat) (τ : Tb) : Prop := I t 0 = nI τ.1 ∧ I t 1 = nI (tn τ) ∧ (∀ p, p < tn τ → I (t + 1) p = nI (tkd τ p) ∧ I (t + 2) p = nI (tce τ p) ∧ I (t + 3) p = nI (tle τ p) ∧ I (t + 4) p = nI (tpa τ p)) ∧ ∀ c, c < 42 → I (t + 5) c = onI (pinOf τ c)
/-- the play: cell, way, lost, shakes, score, lit, gates, steps, struck -/
abbrev Pl : Type := Nat × Nat × Nat × Nat × Int32 × Int32 × Nat × Int32 × (Nat → Int32)
def PlX (I : Mem) (a : Nat) (π : Pl) : Prop := I a 0 = nI π.1 ∧ I a 1 = nI π.2.1 ∧ I a 2 = nI π.2.2.1 ∧ I a 3 = nI π.2.2.2.1 ∧ I a 4 = π.2.2.2.2.1 ∧ I a 5 = π.2.2.2.2.2.1 ∧ I a 6 = nI π.2.2.2.2.2.2.1 ∧ I a 7 = π.2.2.2.2.2.2.2.1 ∧ ∀ i, i < 6 → I (a + 1) i = π.2.2.2.2.2.2.2.2 i
def Pok (τ : Tb) (π : Pl) : Prop := π.1 < 42 ∧ π.2.1 < 4 ∧ π.2.2.1 < 2 ∧ π.2.2.2.1 ≤ 23 ∧ π.2.2.2.2.2.2.1 < 2 ^ tn τ
theorem pinOf_lt {τ : Tb} {c p : Nat} (h : pinOf τ c = some p) : p < tn τ ∧ tce τ p = c := by
  have h1 := List.find?_some h
  have h2 := List.mem_of_find?_eq_some h
  exact ⟨List.mem_range.mp h2, by simpa using h1⟩
theorem pinOf_none {τ : Tb} {c : Nat} (h : pinOf τ c = none) {p : Nat} (hp : p < tn τ) : tce τ p ≠ c := by
  have := List.find?_eq_none.mp h p (List.mem_range.mpr hp)
  simpa using this
theorem pinOf_of {τ : Tb} (hT : Tok τ) {c p : Nat} (hp : p < tn τ) (hc : tce τ p = c) : pinOf τ c = some p := by
  cases h : pinOf τ c with
  | none => exact absurd hc (pinOf_none h hp)
  | some q =>
    obtain ⟨h1, h2⟩ := pinOf_lt h
    rw [hT.2.2.2 q p h1 hp (h2.trans hc.symm)]
def sideA (c w : Nat) : Bool := (w == 0 && c / 7 == 5) || (w == 1 && c % 7 == 6) || (w == 3 && c % 7 == 0)
def goA (c w : Nat) : Nat := if w = 0 then c + 7 else if w = 1 then c + 1 else if w = 2 then c - 7 else c - 1
def turnsA (kd gates p : Nat) : Nat := if kd = 1 then 2 else if kd = 2 then 3 else if kd = 3 then 1 else if kd = 4 then 0 else if gates.testBit p then 0 else 2
def strikeA (τ : Tb) (p : Nat) (π : Pl) : Pl := match π with
  | (c, w, lost, sh, score, lit, gates, steps, st) => (c, (w + turnsA (tkd τ p) gates p) % 4, lost, sh, (if lit = nI (tle τ p) then score else score + nI (tpa τ p)), nI (tle τ p), (if tkd τ p = 5 then gates ^^^ 2 ^ p else gates), steps, upd st p (st p + 1))
def stepA (τ : Tb) (π : Pl) : Option Nat × Pl := match π with
  | (c, w, lost, sh, score, lit, gates, steps, st) =>
    if w = 2 ∧ c < 7 then (none, c, w, 1, sh - 1, score, lit, gates, steps + 1, st)
    else if sideA c w then (none, c, (w + 2) % 4, lost, sh - 1, score, lit, gates, steps + 1, st)
    else match pinOf τ (goA c w) with
      | none => (none, goA c w, w, lost, sh - 1, score, lit, gates, steps + 1, st)
      | some p => (some p, strikeA τ p (goA c w, w, lost, sh - 1, score, lit, gates, steps + 1, st))
/-- nothing but a play is written -/
def FrP (a : Nat) (I I1 : Mem) : Prop := ∀ x, x ≠ a → x ≠ a + 1 → I1 x = I x
theorem goA_lt : ∀ c, c < 42 → ∀ w, w < 4 → ¬ (w = 2 ∧ c < 7) → sideA c w = false → goA c w < 42 := by decide
def sideI (c w : Int32) : Int32 := if w = 0 then (if c / 7 = 5 then 1 else if w = 1 then (if irm c 7 = 6 then 1 else if w = 3 then (if irm c 7 = 0 then 1 else 0) else 0) else if w = 3 then (if irm c 7 = 0 then 1 else 0) else 0) else if w = 1 then (if irm c 7 = 6 then 1 else if w = 3 then (if irm c 7 = 0 then 1 else 0) else 0) else if w = 3 then (if irm c 7 = 0 then 1 else 0) else 0
theorem isAtSide_e (a : Nat) (I : Mem) : fnX4_isAtSide a I = some (sideI (I a 0) (I a 1), I) := by
  unfold fnX4_isAtSide fnX4_isAtSide_18 fnX4_isAtSide_38 fnX4_isAtSide_56 fnX4_isAtSide_60 fnX4_isAtSide_61 sideI
  repeat' split
  all_goals rfl
theorem sideI_e : ∀ c, c < 42 → ∀ w, w < 4 → sideI (nI c) (nI w) = if sideA c w then 1 else 0 := by decide +kernel
theorem pinIn_e {I : Mem} {t : Nat} {τ : Tb} (h : TabX I t τ) {c : Nat} (hc : c < 42) : fnX7_pinIn t I (nI c) = some (onI (pinOf τ c), I) := by
  unfold fnX7_pinIn fnX7_pinIn_19
  rw [isUpTo_e, ob_s]
  have h1 : upTo (nI c) 41 = 1 := upTo_1 (m := 41) (by omega) (by omega)
  simp only [h1]
  rw [if_neg (by decide), inb_nI hc (by decide), ck_t, ix_nI (by omega), h.2.2.2 c hc]
