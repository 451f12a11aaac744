/-! the reference's reading: numbers, signs, cells -/
def s5 (y : Nat) : Prop := y = 5
theorem s5_s : ∀ y, s5 y → s514 y := fun y h => Or.inl h
theorem s12_s : ∀ y, s1214 y → s514 y := fun y h => Or.inr h
/-- behind the reading of a token t with the fault f (0: none) -/
def RsM (I I1 : Mem) (b : Nat → Int32) (L f : Nat) (t : Nat × Nat) : Prop := TkM I1 b L (if f = 0 then tokA b L t.2 else t) ∧ I1 111 5 = (if f = 0 then I 111 5 else nI f) ∧ FrN s514 I I1
/-- the pins read -/
def RdM (I : Mem) (τ : Tb) : Prop := I 111 17 = nI (tn τ) ∧ ∀ p, p < tn τ → I 119 (4 * p) = nI (tkd τ p) ∧ I 119 (4 * p + 1) = nI (tce τ p) ∧ I 119 (4 * p + 2) = nI (tle τ p) ∧ I 119 (4 * p + 3) = nI (tpa τ p)
theorem RdM.fr {I I1 : Mem} {τ : Tb} (h : RdM I τ) (hf : FrN s514 I I1) : RdM I1 τ := by
  unfold RdM
  rw [hf.2 17 (by unfold s514; omega), hf.1 119 (by omega)]
  exact h
def anyP (τ : Tb) (c : Nat) : Nat → Nat → Bool
  | 0, _ => false
  | d + 1, k => decide (tce τ k = c) || anyP τ c d (k + 1)
theorem anyP_e (τ : Tb) (c : Nat) : ∀ d k, anyP τ c d k = true ↔ ∃ p, k ≤ p ∧ p < k + d ∧ tce τ p = c
  | 0, k => ⟨fun h => absurd h (by unfold anyP; decide), fun ⟨p, h1, h2, _⟩ => absurd h1 (by omega)⟩
  | d + 1, k => by
    unfold anyP
    rw [Bool.or_eq_true, decide_eq_true_iff, anyP_e τ c d (k + 1)]
    constructor
    · rintro (h | ⟨p, h1, h2, h3⟩)
      · exact ⟨k, by omega, by omega, h⟩
      · exact ⟨p, by omega, by omega, h3⟩
    · rintro ⟨p, h1, h2, h3⟩
      by_cases q : p = k
      · subst q; exact Or.inl h3
      · exact Or.inr ⟨p, by omega, by omega, h3⟩
theorem anyP_p {τ : Tb} {c : Nat} : anyP τ c (tn τ) 0 = true ↔ ¬ pinOf τ c = none := by
  rw [anyP_e]
  constructor
  · rintro ⟨p, _, h2, h3⟩ q
    exact pinOf_none q (by omega) h3
  · intro h
    cases q : pinOf τ c with
    | none => exact absurd q h
    | some p =>
      obtain ⟨a1, a2⟩ := pinOf_lt q
      exact ⟨p, by omega, by omega, a2⟩
theorem i41 (p : Nat) : (4 : Int32) * nI p + 1 = nI (4 * p + 1) := by
  rw [show (4 : Int32) = nI 4 from rfl, pk_mul, nI_1]
theorem i40 (p : Nat) : (4 : Int32) * nI p = nI (4 * p) := by
  rw [show (4 : Int32) = nI 4 from rfl, pk_mul]
theorem pinReadLoop {I : Mem} {τ : Tb} (hT : Tok τ) (h : RdM I τ) {c : Nat} (hc : c < 42) : ∀ (d k fu : Nat) (l : Bool), k + d = tn τ → d < fu → fnX10_isPinRead_4 fu I (nI c) (if l then 1 else 0) (nI k) = some ((if l || anyP τ c d k then 1 else 0), I)
  | d, k, 0, _, _, q => absurd q (by omega)
  | 0, k, fu + 1, l, h1, _ => by
    have h6 := hT.2.1
    show fnX10_isPinRead_4b _ I _ _ _ = _
    unfold fnX10_isPinRead_4b
    rw [h.1, if_pos (show nI (tn τ) ≤ nI k from nI_le (by omega) (by omega))]
    cases l <;> rfl
  | d + 1, k, fu + 1, l, h1, h2 => by
    have h6 := hT.2.1
    have e := (h.2 k (by omega)).2.1
    have hb := (hT.2.2.1 k (by omega)).2.2.1
    show fnX10_isPinRead_4b _ I _ _ _ = _
    unfold fnX10_isPinRead_4b fnX10_isPinRead_30 fnX10_isPinRead_35
    rw [h.1, if_neg (show ¬ nI (tn τ) ≤ nI k from nI_ge (by omega) (by omega)), i41, inb_nI (show 4 * k + 1 < 24 by omega) (by decide), ck_t, ix_nI (by omega), e, bnd_e, bnd_e, nI_1]
    have q : nI (tce τ k) = nI c ↔ tce τ k = c := nI_eq (by omega) (by omega)
    have i1 := pinReadLoop hT h hc d (k + 1) fu true (by omega) (by omega)
    have i0 := pinReadLoop hT h hc d (k + 1) fu false (by omega) (by omega)
    rw [if_pos rfl] at i1
    rw [if_neg (show ¬ (false = true) by decide)] at i0
    unfold anyP
    cases l with
    | true =>
      rw [if_pos rfl, if_neg (show ¬ (1 : Int32) = 0 by decide), i1]
      simp
    | false =>
      rw [if_neg (show ¬ (false = true) by decide), if_pos rfl]
      by_cases z : tce τ k = c
      · rw [if_pos (q.mpr z), i1, decide_eq_true z]
        simp
      · rw [if_neg (fun y => z (q.mp y)), i0, decide_eq_false z]
        simp
theorem pinReadM {I : Mem} {τ : Tb} (hT : Tok τ) (h : RdM I τ) {c : Nat} (hc : c < 42) : fnX10_isPinRead I (nI c) = some ((if pinOf τ c = none then 0 else 1), I) := by
  unfold fnX10_isPinRead
  have e := pinReadLoop hT h hc (tn τ) 0 FU false (by omega) (by have := hT.2.1; unfold FU; omega)
  rw [if_neg (show ¬ (false = true) by decide), Bool.false_or] at e
  rw [show (0 : Int32) = nI 0 from rfl] at e ⊢
  rw [e]
  by_cases c0 : pinOf τ c = none
  · rw [if_pos c0, if_neg (fun q => anyP_p.mp q c0)]
  · rw [if_neg c0, if_pos (anyP_p.mpr c0)]
section
variable {b : Nat → Int32} {L : Nat} {I : Mem} {t : Nat × Nat}
theorem tkm (h : TkM I b L t) : ∃ I1, fnX10_token I = some I1 ∧ TkM I1 b L (tokA b L t.2) ∧ FrN s1214 I I1 := tokenM h.1 h.2.2.1 h.2.2.2.1
theorem here108 {lo hi : Nat} (hl : lo < 1000) (hh : hi < 1000) (v t1 : Int32) : fnX10_numberHere_108 I (nI lo) (nI hi) v t1 = some ((if (lo : Int) ≤ v.toInt ∧ v.toInt ≤ (hi : Int) then v else -1000000), up2 I 111 5 t1) := by
  unfold fnX10_numberHere_108 fnX10_numberHere_129
  rw [bnd_e, in_g, ob_s]
  dsimp only
  rw [w64, w64, w64, nI_toInt (by omega), nI_toInt (by omega)]
  by_cases c : (lo : Int) ≤ v.toInt ∧ v.toInt ≤ (hi : Int)
  · rw [if_pos c, if_pos c, if_neg (by decide)]
  · rw [if_neg c, if_neg c, if_pos rfl]
theorem numLoopM {lo hi : Nat} (hl : lo < 1000) (hh : hi < 1000) (h : TkM I b L t) : ∀ (d i fu : Nat) (v : Int32), i + d = t.2 → d < fu → fnX10_numberHere_56 fu I (nI lo) (nI hi) v (nI i) = some ((if (lo : Int) ≤ (valA b d i v).toInt ∧ (valA b d i v).toInt ≤ (hi : Int) then valA b d i v else -1000000), up2 I 111 5 (if (lo : Int) ≤ (valA b d i v).toInt ∧ (valA b d i v).toInt ≤ (hi : Int) then I 111 5 else 2))
  | d, i, 0, _, _, q => absurd q (by omega)
  | 0, i, fu + 1, v, h1, _ => by
    have h4 := h.1.1
    have h5 := h.2.2.1
    show fnX10_numberHere_56b _ I _ _ _ _ = _
    unfold fnX10_numberHere_56b
    rw [h.2.2.2.2.2, if_pos (show nI t.2 ≤ nI i from nI_le (by omega) (by omega)), in_g, ob_s]
    dsimp only
    rw [w64, w64, w64, nI_toInt (by omega), nI_toInt (by omega), here108 hl hh, here108 hl hh, show valA b 0 i v = v from rfl]
    by_cases c : (lo : Int) ≤ v.toInt ∧ v.toInt ≤ (hi : Int)
    · rw [if_pos c, if_pos c, if_pos c, if_neg (by decide)]
    · rw [if_neg c, if_neg c, if_neg c, if_pos rfl]
  | d + 1, i, fu + 1, v, h1, h2 => by
    have h4 := h.1.1
    have h5 := h.2.2.1
    show fnX10_numberHere_56b _ I _ _ _ _ = _
    unfold fnX10_numberHere_56b
    rw [h.2.2.2.2.2, if_neg (show ¬ nI t.2 ≤ nI i from nI_ge (by omega) (by omega)), inb_nI (show i < 400 by omega) (by decide), ck_t, ix_nI (by omega), h.1.2.2 i (by omega), bnd_e, bnd_e, nI_1]
    exact numLoopM hl hh h d (i + 1) fu (10 * v + b i - 48) (by omega) (by omega)
/-- numberHere: the token stays -/
theorem hereM (h : TkM I b L t) {lo hi : Nat} (hl : lo < 1000) (hh : hi < 1000) : ∃ I1, fnX10_numberHere I (nI lo) (nI hi) = some ((if numF b L lo hi t = 0 then nI (vN b t) else -1000000), I1) ∧ TkM I1 b L t ∧ I1 111 5 = (if numF b L lo hi t = 0 then I 111 5 else nI (numF b L lo hi t)) ∧ FrN s5 I I1 := by
  have h4 := h.1.1
  have h5 := h.2.2.1
  have h6 := h.2.1
  have put : ∀ v, FrN s5 I (up2 I 111 5 v) := fun v => FrN.up (show s5 5 from rfl)
  have st : ∀ v, TkM (up2 I 111 5 v) b L t := fun v => h.fr (put v) (by unfold s5; omega) (by unfold s5; omega) (by unfold s5; omega) (by unfold s5; omega)
  have fail : numF b L lo hi t = 1 → ∃ I1, bnd (up2 I 111 5 1) (fun I1 => some ((-1000000 : Int32), I1)) = some ((if numF b L lo hi t = 0 then nI (vN b t) else -1000000), I1) ∧ TkM I1 b L t ∧ I1 111 5 = (if numF b L lo hi t = 0 then I 111 5 else nI (numF b L lo hi t)) ∧ FrN s5 I I1 := fun hn => by
    rw [hn, if_neg (by decide), if_neg (by decide), bnd_e]
    exact ⟨_, rfl, st 1, by simp [up2_r]; rfl, put 1⟩
  unfold fnX10_numberHere fnX10_numberHere_40
  rw [h.2.2.2.2.1, h.1.2.1]
  have q : nI t.1 = nI L ↔ t.1 = L := nI_eq (by omega) (by omega)
  by_cases c : t.1 < L
  · rw [if_neg (fun z => by have := q.mp z; omega), inb_nI (show t.1 < 400 by omega) (by decide), ck_t, ix_nI (by omega), h.1.2.2 _ c, sortM_e, ob_s]
    dsimp only
    rw [h.2.2.2.2.2, h.2.2.2.2.1, nI_subn h6 (by omega)]
    by_cases c2 : so (b t.1) = 2
    · rw [if_pos (show nI (so (b t.1)) = 2 by rw [c2]; rfl)]
      have q3 : nI (t.2 - t.1) ≤ 3 ↔ t.2 - t.1 ≤ 3 := nI_leI (b := 3) (by omega) (by decide)
      by_cases c3 : t.2 - t.1 ≤ 3
      · rw [if_pos (q3.mpr c3), bnd_e, numLoopM hl hh h (t.2 - t.1) t.1 FU 0 (by omega) (by unfold FU; omega)]
        have hn : numF b L lo hi t = if (lo : Int) ≤ (vlA b t).toInt ∧ (vlA b t).toInt ≤ (hi : Int) then 0 else 2 := if_pos ⟨c, c2, c3⟩
        change ∃ I1, some ((if (lo : Int) ≤ (vlA b t).toInt ∧ (vlA b t).toInt ≤ (hi : Int) then vlA b t else -1000000), up2 I 111 5 (if (lo : Int) ≤ (vlA b t).toInt ∧ (vlA b t).toInt ≤ (hi : Int) then I 111 5 else 2)) = _ ∧ _
        by_cases cr : (lo : Int) ≤ (vlA b t).toInt ∧ (vlA b t).toInt ≤ (hi : Int)
        · rw [if_pos cr] at hn
          rw [if_pos cr, if_pos cr, hn, if_pos rfl, if_pos rfl, ← (numF_0 hn (by omega)).2.2]
          exact ⟨_, rfl, st _, by simp [up2_r], put _⟩
        · rw [if_neg cr] at hn
          rw [if_neg cr, if_neg cr, hn, if_neg (by decide), if_neg (by decide)]
          exact ⟨_, rfl, st _, by simp [up2_r]; rfl, put _⟩
      · rw [if_neg (fun z => c3 (q3.mp z))]
        exact fail (if_neg (fun z => c3 z.2.2))
    · rw [if_neg (show ¬ nI (so (b t.1)) = 2 from fun z => c2 ((nI_eq (b := 2) (by rcases so_c (b t.1) with y | y | y <;> omega) (by decide)).mp z))]
      exact fail (if_neg (fun z => c2 z.2.1))
  · rw [if_pos (q.mpr (by omega))]
    exact fail (if_neg (fun z => c z.1))
theorem RsM.mk0 {I1 : Mem} (h : TkM I1 b L (tokA b L t.2)) (h5 : I1 111 5 = I 111 5) (hf : FrN s514 I I1) : RsM I I1 b L 0 t := by
  unfold RsM
  rw [if_pos rfl, if_pos rfl]
  exact ⟨h, h5, hf⟩
theorem RsM.mkn {I1 : Mem} {f : Nat} (h0 : f ≠ 0) (h : TkM I1 b L t) (h5 : I1 111 5 = nI f) (hf : FrN s514 I I1) : RsM I I1 b L f t := by
  unfold RsM
  rw [if_neg h0, if_neg h0]
  exact ⟨h, h5, hf⟩
theorem numM (h : TkM I b L t) {lo hi : Nat} (hl : lo < 1000) (hh : hi < 1000) : ∃ I1, fnX10_number I (nI lo) (nI hi) = some ((if numF b L lo hi t = 0 then nI (vN b t) else -1000000), I1) ∧ RsM I I1 b L (numF b L lo hi t) t := by
  obtain ⟨I1, a1, a2, a3, a4⟩ := hereM h hl hh
  unfold fnX10_number fnX10_number_17
  rw [a1, ob_s]
  dsimp only
  by_cases c : numF b L lo hi t = 0
  · have v1 := numF_0 c (by omega)
    obtain ⟨I2, b1, b2, b3⟩ := tkm a2
    rw [if_pos c] at a3 ⊢
    rw [if_neg (show ¬ nI (vN b t) = -1000000 from none_ne (by omega)), b1, ob_s, c]
    exact ⟨I2, rfl, RsM.mk0 b2 ((b3.2 5 (by unfold s1214; omega)).trans a3) ((a4.mo s5_s).tr (b3.mo s12_s))⟩
  · rw [if_neg c] at a3 ⊢
    rw [if_pos rfl]
    exact ⟨I1, rfl, RsM.mkn c a2 a3 (a4.mo s5_s)⟩
theorem signM (h : TkM I b L t) : ∃ I1, fnX10_readsSign I = some ((if semF b L t = 0 then 1 else 0), I1) ∧ RsM I I1 b L (semF b L t) t := by
  have h4 := h.1.1
  have h5 := h.2.2.1
  have h6 := h.2.1
  unfold fnX10_readsSign fnX10_isSign fnX10_isSign_29 fnX10_isSign_30
  rw [h.1.2.1, h.2.2.2.2.1, zb_0, ck_t, zb_1, ck_t]
  have q : nI L ≤ nI t.1 ↔ L ≤ t.1 := nI_leI (by omega) (by omega)
  have f5 : FrN s5 I (up2 I 111 5 1) := FrN.up (show s5 5 from rfl)
  have fail : semF b L t = 1 → ∃ I1, some ((0 : Int32), up2 I 111 5 1) = some ((if semF b L t = 0 then 1 else 0), I1) ∧ RsM I I1 b L (semF b L t) t := fun hn => by
    rw [hn, if_neg (by decide)]
    exact ⟨_, rfl, RsM.mkn (by decide) (h.fr f5 (by show ¬ (4 = 5); omega) (by show ¬ (12 = 5); omega) (by show ¬ (13 = 5); omega) (by show ¬ (14 = 5); omega)) (by simp [up2_r]; rfl) (f5.mo s5_s)⟩
  by_cases c : t.1 < L
  · rw [if_neg (fun z => by have := q.mp z; omega), inb_nI (show t.1 < 400 by omega) (by decide), ck_t, ix_nI (by omega), h.1.2.2 _ c]
    by_cases c2 : b t.1 = 59
    · have hn : semF b L t = 0 := if_pos ⟨c, c2⟩
      obtain ⟨I2, b1, b2, b3⟩ := tkm h
      rw [if_pos c2, ob_s]
      dsimp only
      rw [if_neg (show ¬ (1 : Int32) = 0 by decide), b1, ob_s, hn, if_pos rfl]
      exact ⟨I2, rfl, RsM.mk0 b2 (b3.2 5 (by unfold s1214; omega)) (b3.mo s12_s)⟩
    · rw [if_neg c2, ob_s]
      dsimp only
      rw [if_pos rfl, bnd_e]
      exact fail (if_neg (fun z => c2 z.2))
  · rw [if_pos (q.mpr (by omega)), ob_s]
    dsimp only
    rw [if_pos rfl, bnd_e]
    exact fail (if_neg (fun z => c z.1))
theorem RsM.ok {I1 : Mem} {f : Nat} (h : RsM I I1 b L f t) (hf : f = 0) : TkM I1 b L (tokA b L t.2) ∧ I1 111 5 = I 111 5 := by
  subst hf
  exact ⟨h.1, h.2.1⟩
theorem RsM.no {I1 : Mem} {f : Nat} (h : RsM I I1 b L f t) (hf : f ≠ 0) : TkM I1 b L t ∧ I1 111 5 = nI f := by
  obtain ⟨a, c, -⟩ := h
  rw [if_neg hf] at a c
  exact ⟨a, c⟩
theorem RsM.tr {I1 I2 : Mem} {f g : Nat} {u : Nat × Nat} (h : RsM I I1 b L f t) (hf : f = 0) (h2 : RsM I1 I2 b L g u) : RsM I I2 b L g u := by
  obtain ⟨a, c, d⟩ := h2
  refine ⟨a, ?_, h.2.2.tr d⟩
  rw [c]
  split
  · exact (h.ok hf).2
  · rfl
theorem TkM.s5 {I1 : Mem} (h : TkM I b L t) (hf : FrN s5 I I1) : TkM I1 b L t := h.fr hf (by show ¬ (4 = 5); omega) (by show ¬ (12 = 5); omega) (by show ¬ (13 = 5); omega) (by show ¬ (14 = 5); omega)
/-- a cell; ahead of its token: t -/
theorem celM {τ : Tb} (hT : Tok τ) (hR : RdM I τ) (h : TkM I b L (tokA b L t.2)) : ∃ I1, fnX10_cell I = some ((if (celA b L τ t).1 = 0 then nI (celA b L τ t).2.2 else -1000000), I1) ∧ RsM I I1 b L (celA b L τ t).1 (celA b L τ t).2.1 := by
  obtain ⟨I1, a1, a2⟩ := numM h (lo := 0) (hi := 6) (by omega) (by omega)
  unfold fnX10_cell fnX10_cell_25
  rw [show (0 : Int32) = nI 0 from rfl, show (6 : Int32) = nI 6 from rfl, a1, ob_s]
  dsimp only
  unfold celA
  generalize tokA b L t.2 = t1 at a2 h
  dsimp only
  by_cases c1 : numF b L 0 6 t1 = 0
  · have v1 := numF_0 c1 (by omega)
    obtain ⟨I2, b1, b2, b3, b4⟩ := hereM (a2.ok c1).1 (lo := 0) (hi := 5) (by omega) (by omega)
    rw [if_pos c1, if_neg (show ¬ nI (vN b t1) = -1000000 from none_ne (by omega)), if_neg (show ¬ numF b L 0 6 t1 ≠ 0 from fun q => q c1), show (5 : Int32) = nI 5 from rfl, b1, ob_s]
    dsimp only
    generalize tokA b L t1.2 = t2 at b2 b3
    by_cases c2 : numF b L 0 5 t2 = 0
    · have v2 := numF_0 c2 (by omega)
      have hc : 7 * vN b t2 + vN b t1 < 42 := by omega
      have fr := a2.2.2.tr (b4.mo s5_s)
      rw [if_pos c2] at b3 ⊢
      rw [if_neg (show ¬ nI (vN b t2) = -1000000 from none_ne (by omega)), if_neg (show ¬ numF b L 0 5 t2 ≠ 0 from fun q => q c2), show (7 : Int32) = nI 7 from rfl, pk_mul, nI_add, pinReadM hT (hR.fr fr) hc, ob_s]
      dsimp only
      have e5 : I2 111 5 = I 111 5 := b3.trans (a2.ok c1).2
      by_cases cp : pinOf τ (7 * vN b t2 + vN b t1) = none
      · obtain ⟨I3, d1, d2, d3⟩ := tkm b2
        rw [if_pos cp, if_pos (show (0 : Int32) = nI 0 from rfl), d1, ob_s, if_pos cp]
        exact ⟨I3, rfl, RsM.mk0 d2 ((d3.2 5 (by unfold s1214; omega)).trans e5) (fr.tr (d3.mo s12_s))⟩
      · rw [if_neg cp, if_neg (show ¬ (1 : Int32) = nI 0 by decide), bnd_e, if_neg cp]
        have f2 : FrN s5 I2 (up2 I2 111 5 2) := FrN.up rfl
        exact ⟨_, rfl, RsM.mkn (f := 2) (by decide) (b2.s5 f2) (by simp [up2_r]; rfl) (fr.tr (f2.mo s5_s))⟩
    · rw [if_neg c2, if_pos rfl, if_pos (show numF b L 0 5 t2 ≠ 0 from c2)]
      rw [if_neg c2] at b3
      dsimp only
      rw [if_neg c2]
      exact ⟨I2, rfl, RsM.mkn c2 b2 b3 (a2.2.2.tr (b4.mo s5_s))⟩
  · rw [if_neg c1, if_pos rfl, if_pos rfl, if_pos (show numF b L 0 6 t1 ≠ 0 from c1)]
    dsimp only
    rw [if_neg c1]
    exact ⟨I1, rfl, a2⟩
end
