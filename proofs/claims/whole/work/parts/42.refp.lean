/-! the reference's side -/
theorem cmpL_e (x y : Int64) : lg_cmp x y = if y < x then 1 else if x = y then 0 else -1 := by
  first | rfl | (unfold lg_cmp; rfl)
theorem w64 (x : Int32) : x.toInt64.toInt = x.toInt := by simp
theorem in_e (I : Mem) (x : Int32) (n m : Nat) (hn : n < 2 ^ 31) (hm : m < 2 ^ 31) : fnX10_in I x.toInt64 (lN n) (lN m) = some ((if (n : Int) ≤ x.toInt ∧ x.toInt ≤ (m : Int) then 1 else 0), I) := by
  have a1 : x.toInt64 < lN n ↔ x.toInt < (n : Int) := by rw [Int64.lt_iff_toInt_lt, w64, lN_toInt hn]
  have a2 : lN n < x.toInt64 ↔ (n : Int) < x.toInt := by rw [Int64.lt_iff_toInt_lt, w64, lN_toInt hn]
  have a3 : lN m < x.toInt64 ↔ (m : Int) < x.toInt := by rw [Int64.lt_iff_toInt_lt, w64, lN_toInt hm]
  have e1 : x.toInt64 = lN n ↔ x.toInt = (n : Int) := by rw [← Int64.toInt_inj, w64, lN_toInt hn]
  unfold fnX10_in fnX10_in_17 fnX10_in_18
  rw [cmpL_e, cmpL_e]
  by_cases c1 : x.toInt < (n : Int)
  · rw [if_neg (show ¬ lN n < x.toInt64 from fun q => by have := a2.mp q; omega), if_neg (show ¬ x.toInt64 = lN n from fun q => by have := e1.mp q; omega), if_pos (by decide), if_neg (by omega)]
    rfl
  · have k1 : ¬ ((if lN n < x.toInt64 then (1 : Int32) else if x.toInt64 = lN n then 0 else -1) < 0) := by
      by_cases c2 : lN n < x.toInt64
      · rw [if_pos c2]; decide
      · have q2 : ¬ (n : Int) < x.toInt := fun q => c2 (a2.mpr q)
        rw [if_neg c2, if_pos (e1.mpr (by omega))]
        decide
    rw [if_neg k1]
    by_cases c3 : (m : Int) < x.toInt
    · rw [if_pos (a3.mpr c3), if_pos (by decide), if_neg (by omega)]
      rfl
    · rw [if_neg (fun q => c3 (a3.mp q))]
      have k2 : ¬ ((0 : Int32) < if x.toInt64 = lN m then 0 else -1) := by
        split <;> decide
      rw [if_neg k2, if_pos (by omega)]
      rfl
theorem upTo_e (x : Int32) {m : Nat} (hm : m < 2 ^ 31) : upTo x (nI m) = if (0 : Int) ≤ x.toInt ∧ x.toInt ≤ (m : Int) then 1 else 0 := by
  have h0 : x < 0 ↔ x.toInt < 0 := by rw [Int32.lt_iff_toInt_lt]; rfl
  have h1 : nI m < x ↔ (m : Int) < x.toInt := by rw [Int32.lt_iff_toInt_lt, nI_toInt hm]
  unfold upTo
  by_cases c0 : x.toInt < 0
  · rw [if_pos (h0.mpr c0), if_neg (by omega)]
  · rw [if_neg (fun q => c0 (h0.mp q))]
    by_cases c1 : (m : Int) < x.toInt
    · rw [if_pos (h1.mpr c1), if_neg (by omega)]
    · rw [if_neg (fun q => c1 (h1.mp q)), if_pos (by omega)]
/-- in(x, 0, m) of the reference is the class's isUpTo -/
theorem in_u (I : Mem) (x : Int32) (m : Nat) (hm : m < 2 ^ 31) : fnX10_in I x.toInt64 0 (lN m) = some (upTo x (nI m), I) := by
  rw [upTo_e x hm]
  exact in_e I x 0 m (by decide) hm
def TabM (I : Mem) (τ : Tb) : Prop := I 112 1 = nI τ.1 ∧ I 112 2 = nI (tn τ) ∧ ∀ p, p < tn τ → I 112 (3 + 4 * p) = nI (tkd τ p) ∧ I 112 (4 + 4 * p) = nI (tce τ p) ∧ I 112 (5 + 4 * p) = nI (tle τ p) ∧ I 112 (6 + 4 * p) = nI (tpa τ p)
def PlM (I : Mem) (b : Nat) (π : Pl) : Prop := I 112 (b + 27) = nI π.1 ∧ I 112 (b + 28) = nI π.2.1 ∧ I 112 (b + 29) = nI π.2.2.1 ∧ I 112 (b + 30) = nI π.2.2.2.1 ∧ I 112 (b + 31) = π.2.2.2.2.1 ∧ I 112 (b + 32) = π.2.2.2.2.2.1 ∧ I 112 (b + 34) = nI π.2.2.2.2.2.2.1 ∧ I 112 (b + 33) = π.2.2.2.2.2.2.2.1 ∧ ∀ i, i < 6 → I 112 (b + 35 + i) = π.2.2.2.2.2.2.2.2 i
/-- nothing but the moves of the row at b is written -/
def FrM (b : Nat) (I I1 : Mem) : Prop := (∀ x, x ≠ 112 → I1 x = I x) ∧ ∀ j, (j < b + 27 ∨ b + 41 ≤ j) → I1 112 j = I 112 j
theorem FrM.rf {b : Nat} {I : Mem} : FrM b I I := ⟨fun _ _ => rfl, fun _ _ => rfl⟩
theorem FrM.tr {b : Nat} {I I1 I2 : Mem} (h : FrM b I I1) (h2 : FrM b I1 I2) : FrM b I I2 := ⟨fun x hx => (h2.1 x hx).trans (h.1 x hx), fun j hj => (h2.2 j hj).trans (h.2 j hj)⟩
theorem FrM.p {b k : Nat} {I : Mem} {v : Int32} (h1 : b + 27 ≤ k) (h2 : k < b + 41) : FrM b I (up2 I 112 k v) := ⟨fun _ hx => up2_ne hx, fun j hj => by rw [up2_r, if_neg (by omega)]⟩
theorem TabM_fr {I I1 : Mem} {b : Nat} {τ : Tb} (hT : Tok τ) (h : TabM I τ) (hf : FrM b I I1) : TabM I1 τ := by
  obtain ⟨h1, h2, h3⟩ := h
  refine ⟨(hf.2 _ (by omega)).trans h1, (hf.2 _ (by omega)).trans h2, fun p hp => ?_⟩
  have h6 := hT.2.1
  obtain ⟨e1, e2, e3, e4⟩ := h3 p hp
  exact ⟨(hf.2 _ (by omega)).trans e1, (hf.2 _ (by omega)).trans e2, (hf.2 _ (by omega)).trans e3, (hf.2 _ (by omega)).trans e4⟩
def onM (r : Option Nat) : Int32 := match r with
  | some p => nI p
  | none => -1000000
def lastP (τ : Tb) (c : Nat) : Nat → Nat → Int32 → Int32
  | 0, _, l => l
  | d + 1, k, l => lastP τ c d (k + 1) (if tce τ k = c then nI k else l)
theorem lastP_none {τ : Tb} {c : Nat} : ∀ d k l, (∀ p, k ≤ p → p < k + d → tce τ p ≠ c) → lastP τ c d k l = l
  | 0, _, _, _ => rfl
  | d + 1, k, l, h => by
    unfold lastP
    rw [if_neg (h k (by omega) (by omega))]
    exact lastP_none d (k + 1) l (fun p h1 h2 => h p (by omega) (by omega))
theorem lastP_some {τ : Tb} {c q : Nat} (hq : tce τ q = c) : ∀ d k l, k ≤ q → q < k + d → (∀ p, k ≤ p → p < k + d → tce τ p = c → p = q) → lastP τ c d k l = nI q
  | 0, _, _, h1, h2, _ => absurd h2 (by omega)
  | d + 1, k, l, h1, h2, h => by
    unfold lastP
    by_cases e : k = q
    · subst e
      rw [if_pos hq]
      exact lastP_none d (k + 1) _ (fun p h3 h4 h5 => by have := h p (by omega) (by omega) h5; omega)
    · exact lastP_some hq d (k + 1) _ (by omega) (by omega) (fun p h3 h4 h5 => h p (by omega) (by omega) h5)
theorem lastP_e {τ : Tb} (hT : Tok τ) (c : Nat) : lastP τ c (tn τ) 0 (-1000000) = onM (pinOf τ c) := by
  cases h : pinOf τ c with
  | none => exact lastP_none _ _ _ (fun p _ hp => pinOf_none h (by omega))
  | some q =>
    obtain ⟨h1, h2⟩ := pinOf_lt h
    exact lastP_some h2 _ _ _ (by omega) (by omega) (fun p _ hp hc => hT.2.2.2 p q (by omega) h1 (hc.trans h2.symm))
theorem i34 (p : Nat) : (3 : Int32) + 4 * nI p = nI (3 + 4 * p) := by
  rw [show (4 : Int32) = nI 4 from rfl, pk_mul, show (3 : Int32) = nI 3 from rfl, nI_add]
theorem pinAt_loop {I : Mem} {τ : Tb} (hT : Tok τ) (h : TabM I τ) {c : Nat} (hc : c < 42) : ∀ (d k fu : Nat) (l : Int32), k + d = tn τ → d < fu → fnX10_pinAt_5 fu I (nI c) l (nI k) = some (lastP τ c d k l, I)
  | d, k, 0, l, _, h2 => absurd h2 (by omega)
  | 0, k, fu + 1, l, h1, _ => by
    show fnX10_pinAt_5b _ I _ _ _ = _
    unfold fnX10_pinAt_5b
    have e2 : I 112 (ix 2) = nI (tn τ) := h.2.1
    rw [show inb 2 164 = true from rfl, ck_t, e2, if_pos (nI_le (by omega) (by have := hT.2.1; omega))]
    rfl
  | d + 1, k, fu + 1, l, h1, h2 => by
    show fnX10_pinAt_5b _ I _ _ _ = _
    have h6 := hT.2.1
    unfold fnX10_pinAt_5b
    have e2 : I 112 (ix 2) = nI (tn τ) := h.2.1
    have e4 : (3 : Int32) + 4 * nI k + 1 = nI (4 + 4 * k) := by rw [i34, nI_1]; congr 1; omega
    obtain ⟨-, f2, -, -⟩ := h.2.2 k (by omega)
    obtain ⟨-, -, g3, -⟩ := hT.2.2.1 k (by omega)
    rw [show inb 2 164 = true from rfl, ck_t, e2, if_neg (nI_ge (by omega) (by omega)), e4, inb_nI (by omega) (by decide), ck_t, ix_nI (by omega), f2]
    have ee : (nI (tce τ k) = nI c) ↔ tce τ k = c := nI_eq (by omega) (by omega)
    unfold lastP
    by_cases ec : tce τ k = c
    · rw [if_pos (ee.mpr ec), if_pos ec]
      unfold fnX10_pinAt_36
      rw [bnd_e, nI_1]
      exact pinAt_loop hT h hc d (k + 1) fu _ (by omega) (by omega)
    · rw [if_neg (fun q => ec (ee.mp q)), if_neg ec]
      unfold fnX10_pinAt_36
      rw [bnd_e, nI_1]
      exact pinAt_loop hT h hc d (k + 1) fu _ (by omega) (by omega)
theorem pinAt_e {I : Mem} {τ : Tb} (hT : Tok τ) (h : TabM I τ) {c : Nat} (hc : c < 42) : fnX10_pinAt I (nI c) = some (onM (pinOf τ c), I) := by
  unfold fnX10_pinAt
  rw [show (0 : Int32) = nI 0 from rfl, pinAt_loop hT h hc (tn τ) 0 FU _ (by omega) (by have := hT.2.1; unfold FU; omega), lastP_e hT]
theorem turns_e {I : Mem} {b p g : Nat} {τ : Tb} (hT : Tok τ) (h : TabM I τ) (hp : p < tn τ) (hb : b + 41 ≤ 164) (hg : I 112 (b + 34) = nI g) (h1 : g < 64) : fnX10_turns I (nI b) (nI p) = some (nI (turnsA (tkd τ p) g p), I) := by
  have h6 := hT.2.1
  obtain ⟨f1, -, -, -⟩ := h.2.2 p hp
  obtain ⟨k1, k2, -, -, -⟩ := hT.2.2.1 p hp
  have e34 : nI b + 34 = nI (b + 34) := nI_add b 34
  unfold fnX10_turns
  rw [i34, inb_nI (by omega) (by decide), ck_t, ix_nI (by omega), f1]
  have hc : tkd τ p = 1 ∨ tkd τ p = 2 ∨ tkd τ p = 3 ∨ tkd τ p = 4 ∨ tkd τ p = 5 := by omega
  rcases hc with q | q | q | q | q <;> rw [q]
  · rfl
  · rfl
  · rfl
  · rfl
  · rw [if_neg (by decide), if_neg (by decide), if_neg (by decide), if_neg (by decide), e34, inb_nI (by omega) (by decide), ck_t, ix_nI (by omega), hg]
    unfold fnX10_has fnX10_has_14 fnX10_turns_69
    by_cases hh : g.testBit p = true
    · rw [if_pos ((openI_e g h1 p (by omega)).mpr hh)]
      simp [turnsA, hh, zb, ck, ob]
      rfl
    · rw [if_neg (fun q => hh ((openI_e g h1 p (by omega)).mp q))]
      simp [turnsA, hh, zb, ck, ob]
      rfl
