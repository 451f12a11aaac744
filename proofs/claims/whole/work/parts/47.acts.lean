/-! plays copied: become, the acts, the pasts -/
theorem zb_lt {n : Nat} (h : n < 2) : zb (nI n) = true := by
  rcases (show n = 0 ∨ n = 1 by omega) with rfl | rfl <;> rfl
theorem become_e {I : Mem} {a c : Nat} {π : Pl} (h : PlX I c π) (hl : π.2.2.1 < 2) (hd : c + 1 < a ∨ a + 1 < c) : ∃ I1, fnX4_become a c I = some I1 ∧ PlX I1 a π ∧ FrP a I I1 := by
  obtain ⟨cc, w, lost, sh, score, lit, g, steps, st⟩ := π
  obtain ⟨q0, q1, q2, q3, q4, q5, q6, q7, q8⟩ := h
  simp only at q0 q1 q2 q3 q4 q5 q6 q7 q8 hl
  have n1 : c ≠ a := by omega
  have n2 : c ≠ a + 1 := by omega
  have n3 : c + 1 ≠ a := by omega
  have n4 : c + 1 ≠ a + 1 := by omega
  unfold fnX4_become
  simp only [bnd_e]
  rw [show up2 (up2 I a 0 (I c 0)) a 1 (up2 I a 0 (I c 0) c 1) c 2 = nI lost by rw [up2_ne n1, up2_ne n1, q2], zb_lt hl, ck_t, show spn 0 6 6 = true from rfl, ck_t, ck_t]
  simp only [up2_ne n1]
  refine ⟨_, rfl, ⟨?_, ?_, ?_, ?_, ?_, ?_, ?_, ?_, fun i hi => ?_⟩, fun x h1 h2 => ?_⟩
  any_goals
    show cpy _ _ _ _ _ _ a _ = _
    unfold cpy
    rw [if_neg (show ¬ a = a + 1 by omega)]
    simp [up2_r, q0, q1, q2, q3, q4, q5, q6, q7]
  · show cpy _ _ _ _ _ _ (a + 1) i = _
    unfold cpy
    rw [if_pos rfl]
    show va_cpy _ _ 0 0 6 i = _
    rw [pk_cpy_in (by omega) (by omega), Nat.zero_add, Nat.sub_zero]
    simp only [up2_ne n3]
    exact q8 i hi
  · show cpy _ _ _ _ _ _ x = _
    unfold cpy
    rw [if_neg h2]
    simp only [up2_ne h1]
/-- a past of the reference -/
def PasM (I : Mem) (k : Nat) (π : Pl) : Prop := I 113 (14 * k) = nI π.1 ∧ I 113 (14 * k + 1) = nI π.2.1 ∧ I 113 (14 * k + 2) = nI π.2.2.1 ∧ I 113 (14 * k + 3) = nI π.2.2.2.1 ∧ I 113 (14 * k + 4) = π.2.2.2.2.1 ∧ I 113 (14 * k + 5) = π.2.2.2.2.2.1 ∧ I 113 (14 * k + 7) = nI π.2.2.2.2.2.2.1 ∧ I 113 (14 * k + 6) = π.2.2.2.2.2.2.2.1 ∧ ∀ i, i < 6 → I 113 (14 * k + 8 + i) = π.2.2.2.2.2.2.2.2 i
def keepA (na : Nat) (ac : Nat → Pl) (π : Pl) : Nat × (Nat → Pl) := if na = 24 then (24, fun k => if k < 23 then ac (k + 1) else π) else (na + 1, fun k => if k < na then ac k else π)
theorem irm24 : ∀ o, o < 24 → ∀ n, n < 25 → irm (nI o + nI n) 24 = nI ((o + n) % 24) := by decide +kernel
/-- keep, of the class -/
theorem keepX_e {I : Mem} {o na : Nat} {π : Pl} (ho : o < 24) (hn : na ≤ 24) (h1 : I 29 1 = nI o) (h2 : I 29 2 = nI na) (hp : PlX I 27 π) (hl : π.2.2.1 < 2) : ∃ (o2 n2 : Nat) (I1 : Mem), (if na = 24 then o2 = (o + 1) % 24 ∧ n2 = 23 else o2 = o ∧ n2 = na) ∧ fnX0_keep 27 I = some I1 ∧ I1 29 1 = nI o2 ∧ I1 29 2 = nI (n2 + 1) ∧ PlX I1 (31 + 2 * ((o2 + n2) % 24)) π ∧ (∀ x, x ≠ 29 → x ≠ 31 + 2 * ((o2 + n2) % 24) → x ≠ 31 + 2 * ((o2 + n2) % 24) + 1 → I1 x = I x) := by
  have go : ∀ (J : Mem) (o2 n2 : Nat), o2 < 24 → n2 ≤ 23 → J 29 1 = nI o2 → J 29 2 = nI n2 → (∀ x, x ≠ 29 → J x = I x) → ∃ I1, fnX0_keep_32 27 J = some I1 ∧ I1 29 1 = nI o2 ∧ I1 29 2 = nI (n2 + 1) ∧ PlX I1 (31 + 2 * ((o2 + n2) % 24)) π ∧ (∀ x, x ≠ 29 → x ≠ 31 + 2 * ((o2 + n2) % 24) → x ≠ 31 + 2 * ((o2 + n2) % 24) + 1 → I1 x = I x) := by
    intro J o2 n2 ho2 hn2 j1 j2 hJ
    have hm : (o2 + n2) % 24 < 24 := Nat.mod_lt _ (by decide)
    unfold fnX0_keep_32
    rw [j1, j2, irm24 o2 ho2 n2 (by omega), inb_nI hm (by decide), ck_t, ix_nI (by omega)]
    have hp2 : PlX J 27 π := by
      unfold PlX
      rw [hJ 27 (by omega), hJ (27 + 1) (by omega)]
      exact hp
    obtain ⟨I3, e1, e2, e3⟩ := become_e (a := 31 + 2 * ((o2 + n2) % 24)) hp2 hl (by omega)
    rw [e1, ob_s, bnd_e]
    refine ⟨_, rfl, ?_, ?_, ?_, ?_⟩
    · rw [up2_r, if_neg (by omega), e3 29 (by omega) (by omega), j1]
    · rw [up2_r, if_pos ⟨rfl, rfl⟩, e3 29 (by omega) (by omega), j2, nI_1]
    · unfold PlX
      rw [up2_ne (by omega), up2_ne (by omega)]
      exact e2
    · intro x x1 x2 x3
      rw [up2_ne x1, e3 x x2 x3, hJ x x1]
  unfold fnX0_keep
  rw [h2]
  by_cases c : na = 24
  · rw [if_pos (by rw [c]; rfl), bnd_e, bnd_e]
    refine ⟨(o + 1) % 24, 23, ?_⟩
    have e1 : irm (I 29 1 + 1) 24 = nI ((o + 1) % 24) := by rw [h1]; exact irm24 o ho 1 (by omega)
    obtain ⟨I1, g1, g2⟩ := go (up2 (up2 I 29 1 (irm (I 29 1 + 1) 24)) 29 2 (up2 I 29 1 (irm (I 29 1 + 1) 24) 29 2 - 1)) ((o + 1) % 24) 23 (Nat.mod_lt _ (by decide)) (by omega) (by rw [e1]; simp [up2_r]) (by rw [up2_r, if_pos ⟨rfl, rfl⟩, up2_r, if_neg (by omega), h2, c]; rfl) (fun x hx => by rw [up2_ne hx, up2_ne hx])
    refine ⟨I1, ?_, g1, g2⟩
    rw [if_pos c]
    exact ⟨rfl, rfl⟩
  · rw [if_neg (show ¬ nI na = 24 from fun q => c ((nI_eq (b := 24) (by omega) (by decide)).mp q))]
    obtain ⟨I1, g1, g2⟩ := go I o na ho (by omega) h1 h2 (fun _ _ => rfl)
    refine ⟨o, na, I1, ?_, g1, g2⟩
    rw [if_neg c]
    exact ⟨rfl, rfl⟩
/-- from s on S to a on D, n places -/
def mv2 (I : Mem) (s S a D n : Nat) : Mem := fun x => if x = a then (fun y => if D ≤ y ∧ y < D + n then I s (S + (y - D)) else I a y) else I x
theorem mv2_ne {I : Mem} {s S a D n x : Nat} (h : x ≠ a) : mv2 I s S a D n x = I x := if_neg h
theorem mv2_r {I : Mem} {s S a D n y : Nat} : mv2 I s S a D n a y = if D ≤ y ∧ y < D + n then I s (S + (y - D)) else I a y := by
  unfold mv2
  rw [if_pos rfl]
theorem mv2_0 {I : Mem} {s S a D : Nat} : mv2 I s S a D 0 = I := by
  funext x
  by_cases hx : x = a
  · subst hx
    funext y
    rw [mv2_r, if_neg (by omega)]
  · rw [mv2_ne hx]
/-- one place more: what is read there stands as it was -/
theorem mv2_s {I : Mem} {s S a D k : Nat} (h : s ≠ a ∨ D + k ≤ S + k) : up2 (mv2 I s S a D k) a (D + k) (mv2 I s S a D k s (S + k)) = mv2 I s S a D (k + 1) := by
  funext x
  by_cases hx : x = a
  · subst hx
    funext y
    rw [up2_r, mv2_r, mv2_r]
    have hr : mv2 I s S x D k s (S + k) = I s (S + k) := by
      by_cases e : s = x
      · subst e
        rw [mv2_r, if_neg (by omega)]
      · rw [mv2_ne e]
    rw [hr]
    by_cases c : y = D + k
    · rw [if_pos ⟨rfl, c⟩, if_pos (by omega)]
      congr 1
      omega
    · rw [if_neg (fun q => c q.2)]
      by_cases c2 : D ≤ y ∧ y < D + k
      · rw [if_pos c2, if_pos (by omega)]
      · rw [if_neg c2, if_neg (by omega)]
  · rw [up2_ne hx, mv2_ne hx, mv2_ne hx]
theorem past_shift : ∀ (d k fu : Nat) (I J : Mem), k + d = 322 → d < fu → I 111 2 = 24 → J = mv2 I 113 14 113 0 k → fnX10_keepPast_2 fu J (nI k) = fnX10_keepPast_39 (mv2 I 113 14 113 0 322)
  | d, k, 0, _, _, _, h2, _, _ => absurd h2 (by omega)
  | 0, k, fu + 1, I, J, h1, _, _, hJ => by
    show fnX10_keepPast_2b _ J _ = _
    have hk : k = 322 := by omega
    subst hk
    unfold fnX10_keepPast_2b
    rw [if_pos (show (322 : Int32) ≤ nI 322 by decide), hJ]
  | d + 1, k, fu + 1, I, J, h1, h2, h24, hJ => by
    show fnX10_keepPast_2b _ J _ = _
    unfold fnX10_keepPast_2b
    have j24 : J 111 2 = 24 := by rw [hJ, mv2_ne (by omega), h24]
    rw [if_neg (show ¬ (322 : Int32) ≤ nI k from nI_ge (b := 322) (by omega) (by omega)), if_pos j24, show nI k + 14 = nI (k + 14) from nI_add k 14, inb_nI (show k + 14 < 336 by omega) (by decide), ck_t, inb_nI (show k < 336 by omega) (by decide), ck_t, bnd_e, bnd_e, ix_nI (by omega), ix_nI (by omega), nI_1]
    refine past_shift d (k + 1) fu I _ (by omega) (by omega) h24 ?_
    rw [hJ]
    have := mv2_s (I := I) (s := 113) (S := 14) (a := 113) (D := 0) (k := k) (by omega)
    rw [Nat.zero_add, Nat.add_comm 14 k] at this
    exact this
theorem past_copy (pm : Nat) (hpm : pm ≤ 23) : ∀ (d k fu : Nat) (I J : Mem), k + d = 14 → d < fu → I 111 2 = nI pm → J = mv2 I 112 27 113 (14 * pm) k → fnX10_keepPast_64 fu J (nI k) = some (up2 (mv2 I 112 27 113 (14 * pm) 14) 111 2 (nI (pm + 1)))
  | d, k, 0, _, _, _, h2, _, _ => absurd h2 (by omega)
  | 0, k, fu + 1, I, J, h1, _, h24, hJ => by
    show fnX10_keepPast_64b _ J _ = _
    have hk : k = 14 := by omega
    subst hk
    unfold fnX10_keepPast_64b
    rw [if_pos (show (14 : Int32) ≤ nI 14 by decide), bnd_e, hJ, mv2_ne (show (111 : Nat) ≠ 113 by omega), h24, nI_1]
  | d + 1, k, fu + 1, I, J, h1, h2, h24, hJ => by
    show fnX10_keepPast_64b _ J _ = _
    unfold fnX10_keepPast_64b
    have j24 : J 111 2 = nI pm := by rw [hJ, mv2_ne (by omega), h24]
    have e1 : (27 : Int32) + nI k = nI (27 + k) := nI_add 27 k
    have e2 : (14 : Int32) * nI pm + nI k = nI (14 * pm + k) := by rw [show (14 : Int32) = nI 14 from rfl, pk_mul, nI_add]
    rw [if_neg (show ¬ (14 : Int32) ≤ nI k from nI_ge (b := 14) (by omega) (by omega)), j24, e1, e2, inb_nI (show 27 + k < 164 by omega) (by decide), ck_t, inb_nI (show 14 * pm + k < 336 by omega) (by decide), ck_t, bnd_e, bnd_e, ix_nI (by omega), ix_nI (by omega), nI_1]
    refine past_copy pm hpm d (k + 1) fu I _ (by omega) (by omega) h24 ?_
    rw [hJ]
    exact mv2_s (by omega)
theorem keepM_e {I : Mem} {na : Nat} (hn : na ≤ 24) (h2 : I 111 2 = nI na) : ∃ I1, fnX10_keepPast I = some I1 ∧ I1 111 2 = nI (if na = 24 then 24 else na + 1) ∧ (∀ y, y ≠ 2 → I1 111 y = I 111 y) ∧ (∀ x, x ≠ 111 → x ≠ 113 → I1 x = I x) ∧ (∀ y, I1 113 y = if na = 24 then (if 322 ≤ y ∧ y < 336 then I 112 (27 + (y - 322)) else if y < 322 then I 113 (14 + y) else I 113 y) else (if 14 * na ≤ y ∧ y < 14 * na + 14 then I 112 (27 + (y - 14 * na)) else I 113 y)) := by
  unfold fnX10_keepPast
  by_cases c : na = 24
  · subst c
    rw [show (0 : Int32) = nI 0 from rfl, past_shift 322 0 FU I I (by omega) (by unfold FU; omega) h2 mv2_0.symm]
    unfold fnX10_keepPast_39 fnX10_keepPast_58
    have j : mv2 I 113 14 113 0 322 111 2 = nI 24 := by rw [mv2_ne (by omega), h2]
    rw [j, if_pos (show nI 24 = 24 from rfl), bnd_e, show nI 24 - 1 = nI 23 from rfl, show (0 : Int32) = nI 0 from rfl]
    generalize hK : up2 (mv2 I 113 14 113 0 322) 111 2 (nI 23) = K
    have k111 : K 111 2 = nI 23 := by rw [← hK]; simp [up2_r]
    rw [past_copy 23 (by omega) 14 0 FU K K (by omega) (by unfold FU; omega) k111 mv2_0.symm]
    refine ⟨_, rfl, by simp [up2_r], fun y hy => ?_, fun x x1 x2 => ?_, fun y => ?_⟩
    · rw [up2_r, if_neg (by omega), mv2_ne (by omega), ← hK, up2_r, if_neg (by omega), mv2_ne (by omega)]
    · rw [up2_ne x1, mv2_ne x2, ← hK, up2_ne x1, mv2_ne x2]
    · rw [up2_ne (by omega), mv2_r, if_pos rfl, ← hK, up2_ne (by omega), up2_ne (by omega), mv2_ne (show (112 : Nat) ≠ 113 by omega), mv2_r]
      repeat' split
      all_goals first | rfl | (exfalso; omega)
  · have hne : ¬ I 111 2 = 24 := fun q => c ((nI_eq (b := 24) (by omega) (by decide)).mp (h2.symm.trans q))
    rw [show FU = 99999 + 1 from rfl]
    show ∃ I1, fnX10_keepPast_2b _ I 0 = some I1 ∧ _
    unfold fnX10_keepPast_2b fnX10_keepPast_39 fnX10_keepPast_58
    rw [if_neg (by decide), if_neg hne, if_neg hne, bnd_e, h2, show nI na - 0 = nI na by simp, show (0 : Int32) = nI 0 from rfl]
    generalize hK : up2 I 111 2 (nI na) = K
    have k111 : K 111 2 = nI na := by rw [← hK]; simp [up2_r]
    rw [past_copy na (by omega) 14 0 FU K K (by omega) (by unfold FU; omega) k111 mv2_0.symm, if_neg c]
    refine ⟨_, rfl, by simp [up2_r], fun y hy => ?_, fun x x1 x2 => ?_, fun y => ?_⟩
    · rw [up2_r, if_neg (by omega), mv2_ne (by omega), ← hK, up2_r, if_neg (by omega)]
    · rw [up2_ne x1, mv2_ne x2, ← hK, up2_ne x1]
    · rw [up2_ne (by omega), mv2_r, if_neg c, ← hK, up2_ne (by omega), up2_ne (by omega)]
