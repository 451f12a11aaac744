/-! the reference's tokens; words, numbers on both sides -/
def FrN (S : Nat → Prop) (I I1 : Mem) : Prop := (∀ x, x ≠ 111 → I1 x = I x) ∧ ∀ y, ¬ S y → I1 111 y = I 111 y
theorem FrN.rf {S : Nat → Prop} {I : Mem} : FrN S I I := ⟨fun _ _ => rfl, fun _ _ => rfl⟩
theorem FrN.tr {S : Nat → Prop} {I I1 I2 : Mem} (h : FrN S I I1) (h2 : FrN S I1 I2) : FrN S I I2 := ⟨fun x a => (h2.1 x a).trans (h.1 x a), fun y a => (h2.2 y a).trans (h.2 y a)⟩
theorem FrN.up {S : Nat → Prop} {I : Mem} {k : Nat} {v : Int32} (h : S k) : FrN S I (up2 I 111 k v) := ⟨fun x a => up2_ne a, fun y hy => by rw [up2_r, if_neg (show ¬ (111 = 111 ∧ y = k) from fun q => hy (by rw [q.2]; exact h))]⟩
theorem FrN.mo {S T : Nat → Prop} {I I1 : Mem} (h : FrN S I I1) (hs : ∀ y, S y → T y) : FrN T I I1 := ⟨h.1, fun y hy => h.2 y (fun q => hy (hs y q))⟩
def s1214 (y : Nat) : Prop := 12 ≤ y ∧ y ≤ 14
def s514 (y : Nat) : Prop := y = 5 ∨ (12 ≤ y ∧ y ≤ 14)
theorem BtM.fr {S : Nat → Prop} {I I1 : Mem} {b : Nat → Int32} {L : Nat} (h : BtM I b L) (hf : FrN S I I1) (hs : ¬ S 4) : BtM I1 b L := ⟨h.1, (hf.2 4 hs).trans h.2.1, fun j hj => by rw [hf.1 114 (by omega)]; exact h.2.2 j hj⟩
def TkM (I : Mem) (b : Nat → Int32) (L : Nat) (t : Nat × Nat) : Prop := BtM I b L ∧ t.1 ≤ t.2 ∧ t.2 ≤ L ∧ I 111 12 = nI t.2 ∧ I 111 13 = nI t.1 ∧ I 111 14 = nI t.2
section
variable {b : Nat → Int32} {L : Nat}
theorem TkM.fr {S : Nat → Prop} {I I1 : Mem} {t : Nat × Nat} (h : TkM I b L t) (hf : FrN S I I1) (h4 : ¬ S 4) (h2 : ¬ S 12) (h3 : ¬ S 13) (h5 : ¬ S 14) : TkM I1 b L t := ⟨h.1.fr hf h4, h.2.1, h.2.2.1, (hf.2 12 h2).trans h.2.2.2.1, (hf.2 13 h3).trans h.2.2.2.2.1, (hf.2 14 h5).trans h.2.2.2.2.2⟩
theorem skpM : ∀ (d p fu : Nat) (I : Mem), p + d = L → d < fu → BtM I b L → I 111 12 = nI p → ∃ I1, fnX10_token_0 fu I = fnX10_token_52 I1 ∧ I1 111 12 = nI (skp b d p) ∧ FrN (fun y => y = 12) I I1
  | d, p, 0, _, _, h, _, _ => absurd h (by omega)
  | 0, p, fu + 1, I, h1, _, hb, h6 => by
    show ∃ I1, fnX10_token_0b _ I = _ ∧ _
    unfold fnX10_token_0b
    rw [hb.2.1, h6, if_pos (show nI L ≤ nI p from nI_le (by omega) (by have := hb.1; omega))]
    exact ⟨I, rfl, h6, FrN.rf⟩
  | d + 1, p, fu + 1, I, h1, h2, hb, h6 => by
    have h4 := hb.1
    show ∃ I1, fnX10_token_0b _ I = _ ∧ _
    unfold fnX10_token_0b fnX10_token_39
    rw [hb.2.1, h6, if_neg (show ¬ nI L ≤ nI p from nI_ge (by omega) (by omega)), inb_nI (by omega) (by decide), ck_t, ix_nI (by omega), hb.2.2 p (by omega), bnd_e, nI_1]
    have f1 : FrN (fun y => y = 12) I (up2 I 111 12 (nI (p + 1))) := FrN.up rfl
    have ih := skpM d (p + 1) fu (up2 I 111 12 (nI (p + 1))) (by omega) (by omega) (hb.fr f1 (by omega)) (by simp [up2_r])
    by_cases c : b p = 32
    · rw [if_pos c, show skp b (d + 1) p = skp b d (p + 1) from if_pos (Or.inl c)]
      obtain ⟨I1, e1, e2, e3⟩ := ih
      exact ⟨I1, e1, e2, f1.tr e3⟩
    · rw [if_neg c, ck_t]
      by_cases c2 : b p = 10
      · rw [if_pos c2, show skp b (d + 1) p = skp b d (p + 1) from if_pos (Or.inr c2)]
        obtain ⟨I1, e1, e2, e3⟩ := ih
        exact ⟨I1, e1, e2, f1.tr e3⟩
      · rw [if_neg c2, show skp b (d + 1) p = p from if_neg (by rintro (q | q) <;> contradiction)]
        exact ⟨I, rfl, h6, FrN.rf⟩
theorem rnM {s : Nat} (hs : s < L) : ∀ (d p fu : Nat) (I : Mem), p + d = L → d < fu → BtM I b L → I 111 12 = nI p → I 111 13 = nI s → ∃ I1, fnX10_token_85 fu I = some I1 ∧ I1 111 12 = nI (if so (b s) = 0 then p else rnA b (so (b s)) d p) ∧ I1 111 14 = nI (if so (b s) = 0 then p else rnA b (so (b s)) d p) ∧ FrN (fun y => y = 12 ∨ y = 14) I I1
  | d, p, 0, _, _, h, _, _, _ => absurd h (by omega)
  | 0, p, fu + 1, I, h1, _, hb, h6, h7 => by
    show ∃ I1, fnX10_token_85b _ I = _ ∧ _
    unfold fnX10_token_85b fnX10_token_151
    rw [hb.2.1, h6, if_pos (show nI L ≤ nI p from nI_le (by omega) (by have := hb.1; omega)), bnd_e]
    have e0 : (if so (b s) = 0 then p else rnA b (so (b s)) 0 p) = p := by split <;> rfl
    rw [e0]
    exact ⟨_, rfl, by simp [up2_r, h6], by simp [up2_r], FrN.up (Or.inr rfl)⟩
  | d + 1, p, fu + 1, I, h1, h2, hb, h6, h7 => by
    have h4 := hb.1
    show ∃ I1, fnX10_token_85b _ I = _ ∧ _
    unfold fnX10_token_85b fnX10_token_151
    rw [hb.2.1, h6, if_neg (show ¬ nI L ≤ nI p from nI_ge (by omega) (by omega)), h7, inb_nI (show s < 400 by omega) (by decide), ck_t, ix_nI (by omega), hb.2.2 s hs, sortM_e, ob_s]
    dsimp only
    by_cases c0 : so (b s) = 0
    · rw [c0, if_pos (show nI 0 ≤ 0 by decide), if_pos rfl, bnd_e, h6]
      exact ⟨_, rfl, by simp [up2_r, h6], by simp [up2_r], FrN.up (Or.inr rfl)⟩
    · rw [if_neg (show ¬ nI (so (b s)) ≤ 0 from nI_nle (by omega) (by rcases so_c (b s) with q | q | q <;> omega)), if_neg c0, h6, inb_nI (show p < 400 by omega) (by decide), ck_t, ix_nI (by omega), hb.2.2 p (by omega), sortM_e, ob_s]
      dsimp only
      rw [h7, inb_nI (show s < 400 by omega) (by decide), ck_t, ix_nI (by omega), hb.2.2 s hs, sortM_e, ob_s]
      dsimp only
      have q : nI (so (b p)) = nI (so (b s)) ↔ so (b p) = so (b s) := nI_eq (by rcases so_c (b p) with q | q | q <;> omega) (by rcases so_c (b s) with q | q | q <;> omega)
      by_cases c : so (b p) = so (b s)
      · rw [if_pos (q.mpr c), bnd_e, h6, nI_1, show rnA b (so (b s)) (d + 1) p = rnA b (so (b s)) d (p + 1) from if_pos c]
        have f1 : FrN (fun y => y = 12 ∨ y = 14) I (up2 I 111 12 (nI (p + 1))) := FrN.up (Or.inl rfl)
        obtain ⟨I1, e1, e2, e3, e4⟩ := rnM hs d (p + 1) fu (up2 I 111 12 (nI (p + 1))) (by omega) (by omega) (hb.fr f1 (by omega)) (by simp [up2_r]) (by simp [up2_r, h7])
        rw [if_neg c0] at e2 e3
        exact ⟨I1, e1, e2, e3, f1.tr e4⟩
      · rw [if_neg (fun z => c (q.mp z)), bnd_e, h6, show rnA b (so (b s)) (d + 1) p = p from if_neg c]
        exact ⟨_, rfl, by simp [up2_r, h6], by simp [up2_r], FrN.up (Or.inr rfl)⟩
theorem tokenM {I : Mem} {p : Nat} (hb : BtM I b L) (hp : p ≤ L) (h6 : I 111 12 = nI p) : ∃ I1, fnX10_token I = some I1 ∧ TkM I1 b L (tokA b L p) ∧ FrN s1214 I I1 := by
  have h4 := hb.1
  unfold fnX10_token
  obtain ⟨I1, e1, e2, e3⟩ := skpM (L - p) p FU I (by omega) (by unfold FU; omega) hb h6
  obtain ⟨t1, t2, t3⟩ := tokA_le b hp
  rw [e1]
  show ∃ I1, _ ∧ TkM I1 b L (skp b (L - p) p, endA b L (skp b (L - p) p)) ∧ _
  change p ≤ skp b (L - p) p at t1
  change skp b (L - p) p ≤ endA b L (skp b (L - p) p) at t2
  change endA b L (skp b (L - p) p) ≤ L at t3
  generalize hs : skp b (L - p) p = s at e2 t1 t2 t3
  have f1 : FrN s1214 I I1 := e3.mo (fun y hy => by unfold s1214; omega)
  unfold fnX10_token_52 fnX10_token_81
  rw [bnd_e, e2]
  generalize hI2 : up2 I1 111 13 (nI s) = I2
  have f2 : FrN s1214 I I2 := f1.tr (by rw [← hI2]; exact FrN.up (by unfold s1214; omega))
  have r6 : I2 111 12 = nI s := by rw [← hI2]; simp [up2_r, e2]
  have r7 : I2 111 13 = nI s := by rw [← hI2]; simp [up2_r]
  have hb2 := hb.fr f2 (by unfold s1214; omega)
  rw [r6, hb2.2.1]
  have q : nI L ≤ nI s ↔ L ≤ s := nI_leI (by omega) (by omega)
  by_cases c : s < L
  · rw [if_neg (fun z => absurd (q.mp z) (by omega)), bnd_e, nI_1]
    have f3 : FrN s1214 I2 (up2 I2 111 12 (nI (s + 1))) := FrN.up (by unfold s1214; omega)
    obtain ⟨I3, g1, g2, g3, g4⟩ := rnM c (L - (s + 1)) (s + 1) FU _ (by omega) (by unfold FU; omega) (hb2.fr f3 (by unfold s1214; omega)) (by simp [up2_r]) (by simp [up2_r, r7])
    have he : endA b L s = if so (b s) = 0 then s + 1 else rnA b (so (b s)) (L - (s + 1)) (s + 1) := by
      unfold endA
      rw [if_pos c]
      by_cases k : so (b s) = 0
      · rw [if_pos k, if_pos k]
      · rw [if_neg k, if_neg k, show L - s = (L - (s + 1)) + 1 by omega]
        exact if_pos rfl
    rw [← he] at g2 g3
    exact ⟨I3, g1, ⟨(hb2.fr f3 (by unfold s1214; omega)).fr g4 (by omega), t2, t3, g2, (g4.2 13 (by omega)).trans (by simp [up2_r, r7]), g3⟩, (f2.tr f3).tr (g4.mo (fun y hy => by unfold s1214; omega))⟩
  · have hsL : s = L := by omega
    rw [if_pos (q.mpr (by omega)), bnd_e, Int32.add_zero]
    have f3 : FrN s1214 I2 (up2 I2 111 12 (nI s)) := FrN.up (by unfold s1214; omega)
    have he : endA b L s = s := if_neg c
    have hb3 := hb2.fr f3 (by unfold s1214; omega)
    rw [he, show FU = 99999 + 1 from rfl]
    show ∃ I1, fnX10_token_85b _ _ = some I1 ∧ _
    unfold fnX10_token_85b fnX10_token_151
    rw [hb3.2.1, show up2 I2 111 12 (nI s) 111 12 = nI s by simp [up2_r], if_pos (q.mpr (by omega)), bnd_e]
    have f4 : FrN s1214 (up2 I2 111 12 (nI s)) (up2 (up2 I2 111 12 (nI s)) 111 14 (nI s)) := FrN.up (by unfold s1214; omega)
    exact ⟨_, rfl, ⟨hb3.fr f4 (by unfold s1214; omega), Nat.le_refl s, by show s ≤ L; omega, by simp [up2_r], by simp [up2_r, r7], by simp [up2_r]⟩, (f2.tr f3).tr f4⟩
/-- a word at a place -/
def eqF (b c : Nat → Int32) (s : Nat) : Nat → Nat → Bool
  | 0, _ => true
  | d + 1, k => if b (s + k) = c k then eqF b c s d (k + 1) else false
def wc (w k : Nat) : Int32 := (stByt.getD w []).getD k 0
def wn (w : Nat) : Nat := stLen.getD w 0
def nmA (b : Nat → Int32) (w : Nat) (t : Nat × Nat) : Bool := decide (t.2 - t.1 = wn w) && eqF b (wc w) t.1 (wn w) 0
theorem eqF_cg {c c' : Nat → Int32} {s : Nat} : ∀ d k, (∀ j, k ≤ j → j < k + d → c j = c' j) → eqF b c s d k = eqF b c' s d k
  | 0, _, _ => rfl
  | d + 1, k, h => by
    unfold eqF
    rw [h k (by omega) (by omega), eqF_cg d (k + 1) (fun j a z => h j (by omega) (by omega))]
theorem eqF_sn {c : Nat → Int32} {s : Nat} : ∀ d k, eqF b c s (d + 1) k = (eqF b c s d k && decide (b (s + (k + d)) = c (k + d)))
  | 0, k => by
    simp [eqF]
  | d + 1, k => by
    show (if b (s + k) = c k then eqF b c s (d + 1) (k + 1) else false) = ((if b (s + k) = c k then eqF b c s d (k + 1) else false) && _)
    rw [eqF_sn d (k + 1), show k + 1 + d = k + (d + 1) by omega]
    by_cases h : b (s + k) = c k
    · rw [if_pos h, if_pos h]
    · rw [if_neg h, if_neg h, Bool.false_and]
theorem wn_b : ∀ w, w < 8 → 3 ≤ wn w ∧ wn w ≤ 7 ∧ so (wc w 0) = 1 := by decide
theorem nameLoopX {I : Mem} {f : Nat} {t : Nat × Nat} (h : TkX I b L f t) {w : Nat} (hw : w < 8) (hn : t.2 - t.1 = wn w) : ∀ d k fu, k + d = wn w → d < fu → fnX8_isName_28 w fu I (nI k) = some ((if eqF b (wc w) t.1 d k then 1 else 0), I)
  | d, k, 0, _, h2 => absurd h2 (by omega)
  | 0, k, fu + 1, h1, _ => by
    have := (wn_b w hw).2.1
    show fnX8_isName_28b w _ I _ = _
    unfold fnX8_isName_28b
    rw [if_pos (show nI (stLen.getD w 0) ≤ nI k from nI_le (by show wn w ≤ k; omega) (by omega))]
    rfl
  | d + 1, k, fu + 1, h1, h2 => by
    have w7 := (wn_b w hw).2.1
    obtain ⟨hb, hst, heL, h3, h5, h6, h7, h8, h9⟩ := h
    have h4 := hb.1
    show fnX8_isName_28b w _ I _ = _
    unfold fnX8_isName_28b
    rw [if_neg (show ¬ nI (stLen.getD w 0) ≤ nI k from nI_ge (by show k < wn w; omega) (by show wn w < _; omega)), h7, nI_add, inb_nI (show t.1 + k < 400 by omega) (by decide), ck_t, inb_nI (show k < stLen.getD w 0 by show k < wn w; omega) (by show wn w < _; omega), ck_t, ix_nI (by omega), ix_nI (by omega), hb.2.2 _ (by omega), bnd_e, nI_1]
    unfold eqF
    by_cases c : b (t.1 + k) = wc w k
    · rw [if_pos (show b (t.1 + k) = (stByt.getD w []).getD k 0 from c), if_pos c]
      exact nameLoopX ⟨hb, hst, heL, h3, h5, h6, h7, h8, h9⟩ hw hn d (k + 1) fu (by omega) (by omega)
    · rw [if_neg (show ¬ b (t.1 + k) = (stByt.getD w []).getD k 0 from c), if_neg c]
      rfl
theorem isName_e {I : Mem} {f : Nat} {t : Nat × Nat} (h : TkX I b L f t) {w : Nat} (hw : w < 8) : fnX8_isName w I = some ((if nmA b w t then 1 else 0), I) := by
  obtain ⟨w3, w7, w0⟩ := wn_b w hw
  have hh := h
  obtain ⟨hb, hst, heL, h3, h5, h6, h7, h8, h9⟩ := h
  have h4 := hb.1
  unfold fnX8_isName fnX8_isName_24
  rw [h8, h6, h7, nI_subn hst (by omega)]
  have q : nI (t.2 - t.1) = nI (wn w) ↔ t.2 - t.1 = wn w := nI_eq (by omega) (by omega)
  by_cases cs : srtA b L t.1 t.2 = 1
  · rw [if_pos cs]
    by_cases cn : t.2 - t.1 = wn w
    · rw [if_pos (show nI (t.2 - t.1) = nI (stLen.getD w 0) from q.mpr cn), show nmA b w t = eqF b (wc w) t.1 (wn w) 0 from by unfold nmA; rw [decide_eq_true cn, Bool.true_and]]
      exact nameLoopX hh hw cn (wn w) 0 FU (by omega) (by unfold FU; omega)
    · rw [if_neg (show ¬ nI (t.2 - t.1) = nI (stLen.getD w 0) from fun z => cn (q.mp z)), show nmA b w t = false from by unfold nmA; rw [decide_eq_false cn, Bool.false_and]]
      rfl
  · rw [if_neg cs]
    have hf : nmA b w t = false := by
      cases hm : nmA b w t with
      | false => rfl
      | true =>
        exfalso
        unfold nmA at hm
        rw [Bool.and_eq_true, decide_eq_true_iff] at hm
        obtain ⟨m1, m2⟩ := hm
        obtain ⟨n, hn⟩ : ∃ n, wn w = n + 1 := ⟨wn w - 1, by omega⟩
        rw [hn] at m2
        have e0 : b (t.1 + 0) = wc w 0 := by
          by_cases z : b (t.1 + 0) = wc w 0
          · exact z
          · rw [show eqF b (wc w) t.1 (n + 1) 0 = false from if_neg z] at m2
            cases m2
        rw [Nat.add_zero] at e0
        apply cs
        unfold srtA
        rw [if_pos (by omega), if_pos (by rw [e0]; exact w0)]
    rw [hf]
    rfl
theorem wordLoopM {I : Mem} {t : Nat × Nat} (h : TkM I b L t) {n : Nat} {wd : Int32} (hn : t.2 - t.1 = n) (h7 : n ≤ 7) : ∀ d k fu, k + d = n → d < fu → fnX10_isWord_22 fu I wd (nI n) 1 (nI k) = some ((if eqF b (fun k => 96 + ((wd >>> ((5 * nI k) &&& 31)) &&& 31)) t.1 d k then 1 else 0), I)
  | d, k, 0, _, h2 => absurd h2 (by omega)
  | 0, k, fu + 1, h1, _ => by
    show fnX10_isWord_22b _ I _ _ _ _ = _
    unfold fnX10_isWord_22b fnX10_isWord_71
    rw [if_neg (by decide), if_pos (show nI n ≤ nI k from nI_le (by omega) (by omega))]
    rfl
  | d + 1, k, fu + 1, h1, h2 => by
    obtain ⟨hb, hst, heL, g2, g3, g4⟩ := h
    have h4 := hb.1
    show fnX10_isWord_22b _ I _ _ _ _ = _
    unfold fnX10_isWord_22b fnX10_isWord_71 fnX10_isWord_64
    rw [if_neg (by decide), if_neg (show ¬ nI n ≤ nI k from nI_ge (by omega) (by omega)), g3, nI_add, inb_nI (show t.1 + k < 400 by omega) (by decide), ck_t, ix_nI (by omega), hb.2.2 _ (by omega), bnd_e, bnd_e, nI_1]
    unfold eqF
    by_cases c : b (t.1 + k) = 96 + ((wd >>> ((5 * nI k) &&& 31)) &&& 31)
    · rw [if_pos c, if_pos c]
      exact wordLoopM ⟨hb, hst, heL, g2, g3, g4⟩ hn h7 d (k + 1) fu (by omega) (by omega)
    · rw [if_neg c, if_neg c]
      obtain ⟨f2, rfl⟩ : ∃ f2, fu = f2 + 1 := ⟨fu - 1, by omega⟩
      show fnX10_isWord_22b _ I _ _ _ _ = _
      unfold fnX10_isWord_22b fnX10_isWord_71
      rw [if_pos rfl]
      rfl
theorem isWord_e {I : Mem} {t : Nat × Nat} (h : TkM I b L t) {w : Nat} (hw : w < 8) {wd : Int32} (hc : ∀ k, k < wn w → 96 + ((wd >>> ((5 * nI k) &&& 31)) &&& 31) = wc w k) : fnX10_isWord I wd (nI (wn w)) = some ((if nmA b w t then 1 else 0), I) := by
  obtain ⟨w3, w7, -⟩ := wn_b w hw
  have hh := h
  obtain ⟨hb, hst, heL, g2, g3, g4⟩ := h
  have h4 := hb.1
  unfold fnX10_isWord fnX10_isWord_18
  rw [g3, g4, nI_subn hst (by omega)]
  have q : nI (t.2 - t.1) = nI (wn w) ↔ t.2 - t.1 = wn w := nI_eq (by omega) (by omega)
  by_cases cn : t.2 - t.1 = wn w
  · rw [if_pos (q.mpr cn), show nmA b w t = eqF b (wc w) t.1 (wn w) 0 from by unfold nmA; rw [decide_eq_true cn, Bool.true_and], show (0 : Int32) = nI 0 from rfl, wordLoopM hh cn w7 (wn w) 0 FU (by omega) (by unfold FU; omega), eqF_cg (c' := wc w) (wn w) 0 (fun j _ z => hc j (by omega))]
    rfl
  · rw [if_neg (fun z => cn (q.mp z)), show nmA b w t = false from by unfold nmA; rw [decide_eq_false cn, Bool.false_and], show FU = 99999 + 1 from rfl]
    show fnX10_isWord_22b _ I _ _ _ _ = _
    unfold fnX10_isWord_22b fnX10_isWord_71
    rw [if_pos rfl]
    rfl
theorem rightLoopM {I : Mem} {t : Nat × Nat} (h : TkM I b L t) (hn : t.2 - t.1 = 7) : ∀ d k fu, k + d = 6 → d < fu → fnX10_isRighter_39 fu I 1 (nI k) = some ((if eqF b (fun k => 96 + (((189013298 : Int32) >>> ((5 * nI k) &&& 31)) &&& 31)) t.1 d k then 1 else 0), I)
  | d, k, 0, _, h2 => absurd h2 (by omega)
  | 0, k, fu + 1, h1, _ => by
    show fnX10_isRighter_39b _ I _ _ = _
    unfold fnX10_isRighter_39b fnX10_isRighter_87
    rw [if_neg (by decide), if_pos (show (6 : Int32) ≤ nI k from nI_le (a := 6) (by omega) (by omega))]
    rfl
  | d + 1, k, fu + 1, h1, h2 => by
    obtain ⟨hb, hst, heL, g2, g3, g4⟩ := h
    have h4 := hb.1
    show fnX10_isRighter_39b _ I _ _ = _
    unfold fnX10_isRighter_39b fnX10_isRighter_87 fnX10_isRighter_80
    rw [if_neg (by decide), if_neg (show ¬ (6 : Int32) ≤ nI k from nI_ge (b := 6) (by omega) (by omega)), g3, nI_add, inb_nI (show t.1 + k < 400 by omega) (by decide), ck_t, ix_nI (by omega), hb.2.2 _ (by omega), bnd_e, bnd_e, nI_1]
    unfold eqF
    by_cases c : b (t.1 + k) = 96 + (((189013298 : Int32) >>> ((5 * nI k) &&& 31)) &&& 31)
    · rw [if_pos c, if_pos c]
      exact rightLoopM ⟨hb, hst, heL, g2, g3, g4⟩ hn d (k + 1) fu (by omega) (by omega)
    · rw [if_neg c, if_neg c]
      obtain ⟨f2, rfl⟩ : ∃ f2, fu = f2 + 1 := ⟨fu - 1, by omega⟩
      show fnX10_isRighter_39b _ I _ _ = _
      unfold fnX10_isRighter_39b fnX10_isRighter_87
      rw [if_pos rfl]
      rfl
theorem isRighter_e {I : Mem} {t : Nat × Nat} (h : TkM I b L t) : fnX10_isRighter I = some ((if nmA b 5 t then 1 else 0), I) := by
  have hh := h
  obtain ⟨hb, hst, heL, g2, g3, g4⟩ := h
  have h4 := hb.1
  have z0 : fnX10_isRighter_39 FU I 0 0 = some (0, I) := by
    rw [show FU = 99999 + 1 from rfl]
    show fnX10_isRighter_39b _ I _ _ = _
    unfold fnX10_isRighter_39b fnX10_isRighter_87
    rw [if_pos rfl]
    rfl
  unfold fnX10_isRighter fnX10_isRighter_36 fnX10_isRighter_35 fnX10_isRighter_36
  rw [g3, g4, nI_subn hst (by omega)]
  have q : nI (t.2 - t.1) = 7 ↔ t.2 - t.1 = 7 := nI_eq (b := 7) (by omega) (by decide)
  by_cases cn : t.2 - t.1 = 7
  · have e7 : nmA b 5 t = (eqF b (wc 5) t.1 6 0 && decide (b (t.1 + 6) = 114)) := by
      unfold nmA
      rw [show wn 5 = 6 + 1 from rfl, decide_eq_true cn, Bool.true_and, eqF_sn]
      rfl
    rw [if_pos (q.mpr cn), show nI t.1 + 6 = nI (t.1 + 6) from nI_add _ 6, inb_nI (show t.1 + 6 < 400 by omega) (by decide), ck_t, ix_nI (by omega), hb.2.2 _ (by omega), e7]
    by_cases c6 : b (t.1 + 6) = 114
    · rw [if_pos c6, show (0 : Int32) = nI 0 from rfl, rightLoopM hh cn 6 0 FU (by omega) (by unfold FU; omega), decide_eq_true c6, Bool.and_true, eqF_cg (c' := wc 5) 6 0 (fun j _ z => (by decide : ∀ j, j < 6 → 96 + (((189013298 : Int32) >>> ((5 * nI j) &&& 31)) &&& 31) = wc 5 j) j (by omega))]
      rfl
    · rw [if_neg c6, z0, decide_eq_false c6, Bool.and_false]
      rfl
  · rw [if_neg (fun z => cn (q.mp z)), z0, show nmA b 5 t = false from by unfold nmA; rw [show wn 5 = 7 from rfl, decide_eq_false cn, Bool.false_and]]
    rfl
end
