/-- n places of the array a from S on come to D on -/
def mvA (I : Mem) (a S D n : Nat) : Mem := fun x => if x = a then (fun y => if D ≤ y ∧ y < D + n then I a (S + (y - D)) else I a y) else I x
theorem mvA_ne {I : Mem} {a S D n x : Nat} (h : x ≠ a) : mvA I a S D n x = I x := if_neg h
theorem mvA_r {I : Mem} {a S D n y : Nat} : mvA I a S D n a y = if D ≤ y ∧ y < D + n then I a (S + (y - D)) else I a y := by
  unfold mvA
  rw [if_pos rfl]
/-- the reference's loop, ascending: k places are written -/
theorem copy_asc (a b i j n : Nat) (ha : a < 8) (hb : b < 8) (hi : i + n ≤ 40) (hj : j + n ≤ 40) (hh : 40 * b + j ≤ 40 * a + i ∨ a ≠ b) (hd : ¬ (a = b ∧ i < j)) : ∀ (d k fu : Nat) (I J : Mem), k + d = n → d < fu → J = mvA I 117 (40 * a + i) (40 * b + j) k → fnX10_copy_98 fu J (nI a) (nI i) (nI b) (nI j) (nI n) (nI k) = some (nI n, up2 (mvA I 117 (40 * a + i) (40 * b + j) n) 111 6 0)
  | d, k, 0, _, _, _, h2, _ => absurd h2 (by omega)
  | 0, k, fu + 1, I, J, h1, _, hJ => by
    show fnX10_copy_98b _ J _ _ _ _ _ _ = _
    have hk : k = n := by omega
    subst hk
    unfold fnX10_copy_98b
    rw [if_pos (nI_le (by omega) (by omega)), give_e, ob_s, hJ]
  | d + 1, k, fu + 1, I, J, h1, h2, hJ => by
    show fnX10_copy_98b _ J _ _ _ _ _ _ = _
    unfold fnX10_copy_98b
    rw [if_neg (nI_ge (by omega) (by omega))]
    have e1 : (40 : Int32) * nI a + nI i + nI k = nI (40 * a + i + k) := by rw [show (40 : Int32) = nI 40 from rfl, pk_mul, nI_add, nI_add]
    have e2 : (40 : Int32) * nI b + nI j + nI k = nI (40 * b + j + k) := by rw [show (40 : Int32) = nI 40 from rfl, pk_mul, nI_add, nI_add]
    have body : ∀ R : Mem → Int32 → Int32 → Int32 → Int32 → Int32 → Int32 → Option (Int32 × Mem), fnX10_copy_128 R J (nI a) (nI i) (nI b) (nI j) (nI n) (nI k) (nI k) = R (mvA I 117 (40 * a + i) (40 * b + j) (k + 1)) (nI a) (nI i) (nI b) (nI j) (nI n) (nI (k + 1)) := fun R => by
      unfold fnX10_copy_128
      rw [e1, e2, inb_nI (show 40 * a + i + k < 320 by omega) (by decide), ck_t, inb_nI (show 40 * b + j + k < 320 by omega) (by decide), ck_t, bnd_e, bnd_e, ix_nI (by omega), ix_nI (by omega), nI_1]
      congr 1
      subst hJ
      funext x
      by_cases hx : x = 117
      · subst hx
        funext y
        rw [up2_r, mvA_r, mvA_r, mvA_r]
        by_cases c : y = 40 * b + j + k
        · rw [if_pos ⟨rfl, c⟩, if_pos (show 40 * b + j ≤ y ∧ y < 40 * b + j + (k + 1) by omega), if_neg (show ¬ (40 * b + j ≤ 40 * a + i + k ∧ 40 * a + i + k < 40 * b + j + k) by omega)]
          congr 1
          omega
        · rw [if_neg (fun q => c q.2)]
          by_cases c2 : 40 * b + j ≤ y ∧ y < 40 * b + j + k
          · rw [if_pos c2, if_pos (by omega)]
          · rw [if_neg c2, if_neg (by omega)]
      · rw [up2_ne hx, mvA_ne hx, mvA_ne hx]
    have rest : ∀ R : Mem → Int32 → Int32 → Int32 → Int32 → Int32 → Int32 → Option (Int32 × Mem), (if nI a = nI b then if nI j ≤ nI i then fnX10_copy_126 R J (nI a) (nI i) (nI b) (nI j) (nI n) (nI k) else fnX10_copy_128 R J (nI a) (nI i) (nI b) (nI j) (nI n) (nI k) (nI n - 1 - nI k) else fnX10_copy_126 R J (nI a) (nI i) (nI b) (nI j) (nI n) (nI k)) = fnX10_copy_128 R J (nI a) (nI i) (nI b) (nI j) (nI n) (nI k) (nI k) := fun R => by
      by_cases c : a = b
      · rw [if_pos (by rw [c]), if_pos (nI_le (by omega) (by omega))]
        rfl
      · rw [if_neg (fun q => c ((nI_eq (by omega) (by omega)).mp q))]
        rfl
    rw [rest, body]
    exact copy_asc a b i j n ha hb hi hj hh hd d (k + 1) fu I _ (by omega) (by omega) rfl
/-- the reference's loop, descending -/
theorem copy_dsc (a i j n : Nat) (ha : a < 8) (hi : i + n ≤ 40) (hj : j + n ≤ 40) (hd : i < j) : ∀ (d k fu : Nat) (I J : Mem), k + d = n → d < fu → J = mvA I 117 (40 * a + i + d) (40 * a + j + d) k → fnX10_copy_98 fu J (nI a) (nI i) (nI a) (nI j) (nI n) (nI k) = some (nI n, up2 (mvA I 117 (40 * a + i) (40 * a + j) n) 111 6 0)
  | d, k, 0, _, _, _, h2, _ => absurd h2 (by omega)
  | 0, k, fu + 1, I, J, h1, _, hJ => by
    show fnX10_copy_98b _ J _ _ _ _ _ _ = _
    have hk : k = n := by omega
    subst hk
    unfold fnX10_copy_98b
    rw [if_pos (nI_le (by omega) (by omega)), give_e, ob_s, hJ]
    rfl
  | d + 1, k, fu + 1, I, J, h1, h2, hJ => by
    show fnX10_copy_98b _ J _ _ _ _ _ _ = _
    unfold fnX10_copy_98b
    rw [if_neg (nI_ge (by omega) (by omega)), if_pos rfl, if_neg (nI_ge (by omega) (by omega))]
    have e0 : nI n - 1 - nI k = nI d := by
      rw [show nI n - 1 = nI (n - 1) from pk_sub (b := 1) (by omega), pk_sub (by omega)]
      congr 1
      omega
    have e1 : (40 : Int32) * nI a + nI i + nI d = nI (40 * a + i + d) := by rw [show (40 : Int32) = nI 40 from rfl, pk_mul, nI_add, nI_add]
    have e2 : (40 : Int32) * nI a + nI j + nI d = nI (40 * a + j + d) := by rw [show (40 : Int32) = nI 40 from rfl, pk_mul, nI_add, nI_add]
    have body : ∀ R : Mem → Int32 → Int32 → Int32 → Int32 → Int32 → Int32 → Option (Int32 × Mem), fnX10_copy_128 R J (nI a) (nI i) (nI a) (nI j) (nI n) (nI k) (nI d) = R (mvA I 117 (40 * a + i + d) (40 * a + j + d) (k + 1)) (nI a) (nI i) (nI a) (nI j) (nI n) (nI (k + 1)) := fun R => by
      unfold fnX10_copy_128
      rw [e1, e2, inb_nI (show 40 * a + i + d < 320 by omega) (by decide), ck_t, inb_nI (show 40 * a + j + d < 320 by omega) (by decide), ck_t, bnd_e, bnd_e, ix_nI (by omega), ix_nI (by omega), nI_1]
      congr 1
      subst hJ
      funext x
      by_cases hx : x = 117
      · subst hx
        funext y
        rw [up2_r, mvA_r, mvA_r, mvA_r]
        by_cases c : y = 40 * a + j + d
        · rw [if_pos ⟨rfl, c⟩, if_pos (show 40 * a + j + d ≤ y ∧ y < 40 * a + j + d + (k + 1) by omega), if_neg (show ¬ (40 * a + j + (d + 1) ≤ 40 * a + i + d ∧ 40 * a + i + d < 40 * a + j + (d + 1) + k) by omega)]
          congr 1
          omega
        · rw [if_neg (fun q => c q.2)]
          by_cases c2 : 40 * a + j + (d + 1) ≤ y ∧ y < 40 * a + j + (d + 1) + k
          · rw [if_pos c2, if_pos (by omega)]
            congr 1
            omega
          · rw [if_neg c2, if_neg (by omega)]
      · rw [up2_ne hx, mvA_ne hx, mvA_ne hx]
    rw [e0, body]
    exact copy_dsc a i j n ha hi hj hd d (k + 1) fu I _ (by omega) (by omega) rfl
theorem mvA_0 {I : Mem} {a S D : Nat} : mvA I a S D 0 = I := by
  funext x
  by_cases hx : x = a
  · subst hx
    funext y
    rw [mvA_r, if_neg (by omega)]
  · rw [mvA_ne hx]
theorem spA_of {i n : Int32} {sz : Nat} (hs : sz ≤ 40) (h : ¬ spA i n sz = 0) : ∃ a b : Nat, a + b ≤ sz ∧ i = nI a ∧ n = nI b := by
  unfold spA at h
  by_cases c : 0 ≤ i.toInt ∧ 0 ≤ n.toInt ∧ i.toInt + n.toInt ≤ (sz : Int)
  · obtain ⟨a, ha, rfl⟩ := nI_of (fun q => by have := (lt0_iff i).mp q; omega)
    obtain ⟨b, hb, rfl⟩ := nI_of (fun q => by have := (lt0_iff n).mp q; omega)
    rw [nI_toInt ha, nI_toInt hb] at c
    exact ⟨a, b, by omega, rfl, rfl⟩
  · rw [if_neg c] at h
    exact absurd rfl h
theorem spn_nI {a b L : Nat} (h : a + b ≤ L) (hL : L < 2 ^ 31) : spn (nI a) (nI b) L = true := by
  unfold spn
  rw [nI_toInt (by omega), nI_toInt (by omega), ix_nI (by omega), ix_nI (by omega)]
  exact decide_eq_true ⟨by omega, by omega, h⟩
/-- copy -/
theorem p_copy {I : Mem} (h : RowR I) (hs : StatR I) (p1 p2 p3 p4 p5 : Int32) : ∃ (r : Int32) (I1 I2 : Mem), fnX9_copy I p1 p2 p3 p4 p5 = some (r, I1) ∧ fnX10_copy I1 p1 p2 p3 p4 p5 = some (r, I2) ∧ RowR I2 ∧ StatR I2 ∧ RowFr I I2 := by
  unfold fnX9_copy fnX10_copy fnX9_copy_14 fnX9_copy_39 fnX9_copy_101 fnX10_copy_14 fnX10_copy_39 fnX10_copy_89
  simp only [isRow_e, isRowM_e, ob_s, found_e, find_e]
  by_cases c1 : upTo p1 (nI 7) = 0
  · simp only [c1, if_true]
    exact ⟨_, I, I, rfl, rfl, h, hs, RowFr.rf⟩
  simp only [c1, if_false]
  by_cases c3 : upTo p3 (nI 7) = 0
  · simp only [c3, if_true]
    exact ⟨_, I, I, rfl, rfl, h, hs, RowFr.rf⟩
  simp only [c3, if_false]
  obtain ⟨a, ha, rfl⟩ := upTo_of (m := 7) (by decide) c1
  obtain ⟨b, hb, rfl⟩ := upTo_of (m := 7) (by decide) c3
  have n1 : ¬ (1 : Int32) = 0 := by decide
  rcases h a (by omega) with ⟨m1, m2⟩ | ⟨ln, sz, a1, a2, a3, a4, a5, a6, a7⟩
  · rw [isMissing_1 (by omega) m1, ob_s]
    simp only [n1, if_false]
    refine ⟨_, _, _, rfl, ?_, stat_agr (v := 1) (u := 1) h, stat_ok, RowFr.st⟩
    rw [inb_nI (show a < 8 by omega) (by decide), ck_t, ix_nI (by omega), up2_ne (by omega), if_pos m2]
  rw [isMissing_0 (by omega) a3 a2, ob_s]
  simp only [if_true]
  rcases h b (by omega) with ⟨m1, m2⟩ | ⟨l2, s2, b1, b2, b3, b4, b5, b6, b7⟩
  · rw [isMissing_1 (by omega) m1, ob_s]
    simp only [n1, if_false]
    refine ⟨_, _, _, rfl, ?_, stat_agr (v := 1) (u := 1) h, stat_ok, RowFr.st⟩
    rw [inb_nI (show a < 8 by omega) (by decide), ck_t, ix_nI (by omega), up2_ne (by omega), if_neg (by rw [a5]; exact none_ne (by omega)), inb_nI (show b < 8 by omega) (by decide), ck_t, ix_nI (by omega), if_pos m2]
  rw [isMissing_0 (by omega) b3 b2, ob_s]
  simp only [if_true]
  have hA : ∀ J : Mem, J 115 a = nI ln → J 115 b = nI l2 → ∀ X Y Z : Option (Int32 × Mem), (ck (inb (nI a) 8) <| if J 115 (ix (nI a)) = -1000000 then X else ck (inb (nI b) 8) <| if J 115 (ix (nI b)) = -1000000 then X else ck (inb (nI a) 8) <| ck (inb (nI b) 8) <| if J 115 (ix (nI a)) = J 115 (ix (nI b)) then Y else Z) = if ln = l2 then Y else Z := fun J j1 j2 X Y Z => by
    rw [inb_nI (show a < 8 by omega) (by decide), ck_t, inb_nI (show b < 8 by omega) (by decide), ix_nI (by omega), ix_nI (by omega), j1, j2, if_neg (none_ne (by omega)), ck_t, if_neg (none_ne (by omega)), ck_t, ck_t]
    by_cases c : ln = l2
    · rw [if_pos c, if_pos (by rw [c])]
    · rw [if_neg c, if_neg (fun q => c ((nI_eq (by omega) (by omega)).mp q))]
  rw [inb_nI (show a < 8 by omega) (by decide), ck_t, inb_nI (show b < 8 by omega) (by decide), ck_t, ix_nI (by omega), ix_nI (by omega), a4, b4]
  by_cases cl : ln = l2
  · rw [if_pos (show nI ln = nI l2 by rw [cl])]
    rw [hasPlaces_e (by omega) a3 a2, ob_s]
    dsimp only
    by_cases d1 : spA p2 p5 sz = 0
    · rw [if_pos d1]
      refine ⟨_, _, _, rfl, ?_, stat_agr (v := 2) (u := 2) h, stat_ok, RowFr.st⟩
      have := hA (up2 I 0 11 2) (by rw [up2_ne (by omega), a5]) (by rw [up2_ne (by omega), b5])
      rw [inb_nI (show a < 8 by omega) (by decide), inb_nI (show b < 8 by omega) (by decide), ix_nI (by omega), ix_nI (by omega)] at this
      rw [this, if_pos cl, isSpan_e (by omega) (by rw [up2_ne (by omega), a6]) a2, ob_s]
      dsimp only
      rw [if_pos d1]
    · rw [if_neg d1, hasPlaces_e (by omega) b3 b2, ob_s]
      dsimp only
      by_cases d2 : spA p4 p5 s2 = 0
      · rw [if_pos d2]
        refine ⟨_, _, _, rfl, ?_, stat_agr (v := 2) (u := 2) h, stat_ok, RowFr.st⟩
        have := hA (up2 I 0 11 2) (by rw [up2_ne (by omega), a5]) (by rw [up2_ne (by omega), b5])
        rw [inb_nI (show a < 8 by omega) (by decide), inb_nI (show b < 8 by omega) (by decide), ix_nI (by omega), ix_nI (by omega)] at this
        rw [this, if_pos cl, isSpan_e (by omega) (by rw [up2_ne (by omega), a6]) a2, ob_s]
        dsimp only
        rw [if_neg d1, isSpan_e (by omega) (by rw [up2_ne (by omega), b6]) b2, ob_s]
        dsimp only
        rw [if_pos d2]
      · rw [if_neg d2]
        obtain ⟨i, n, hin, rfl, rfl⟩ := spA_of a2 d1
        obtain ⟨j, n2, hjn, rfl, hn2⟩ := spA_of b2 d2
        have hnn : n2 = n := (nI_eq (by omega) (by omega)).mp hn2.symm
        subst hnn
        rw [ck_t, ck_t, spn_nI (show i + n2 ≤ 40 by omega) (by decide), ck_t, spn_nI (show j + n2 ≤ 40 by omega) (by decide), ck_t, bnd_e, plain_e, ob_s]
        generalize hI1 : up2 (cpy I (5 + 1 * a) (5 + 1 * b) (nI i) (nI j) (nI n2)) 0 11 0 = I1
        have v1 : ∀ x, x ≠ 5 + b → x ≠ 0 → I1 x = I x := fun x hx h0 => by
          rw [← hI1, up2_ne h0]
          exact if_neg (by omega)
        have v2 : ∀ y, I1 (5 + b) y = if j ≤ y ∧ y < j + n2 then I (5 + a) (i + (y - j)) else I (5 + b) y := fun y => by
          rw [← hI1, up2_ne (by omega)]
          show (if (5 + b) = (5 + 1 * b) then va_cpy _ _ _ _ _ else _) y = _
          rw [if_pos (by omega), ix_nI (by omega), ix_nI (by omega), ix_nI (by omega), Nat.one_mul, Nat.one_mul]
          rfl
        have v115 : I1 115 = I 115 := v1 115 (by omega) (by omega)
        have v116 : I1 116 = I 116 := v1 116 (by omega) (by omega)
        have v117 : I1 117 = I 117 := v1 117 (by omega) (by omega)
        have hloop : fnX10_copy_98 FU I1 (nI a) (nI i) (nI b) (nI j) (nI n2) (nI 0) = some (nI n2, up2 (mvA I1 117 (40 * a + i) (40 * b + j) n2) 111 6 0) := by
          by_cases cc : a = b ∧ i < j
          · obtain ⟨rfl, cij⟩ := cc
            exact copy_dsc a i j n2 (by omega) (by omega) (by omega) cij n2 0 FU I1 I1 (by omega) (by unfold FU; omega) mvA_0.symm
          · exact copy_asc a b i j n2 (by omega) (by omega) (by omega) (by omega) (by omega) cc n2 0 FU I1 I1 (by omega) (by unfold FU; omega) mvA_0.symm
        refine ⟨_, I1, up2 (mvA I1 117 (40 * a + i) (40 * b + j) n2) 111 6 0, rfl, ?_, ?_, ?_, ?_⟩
        · have := hA I1 (by rw [v115, a5]) (by rw [v115, b5])
          rw [inb_nI (show a < 8 by omega) (by decide), inb_nI (show b < 8 by omega) (by decide), ix_nI (by omega), ix_nI (by omega)] at this
          rw [this, if_pos cl, isSpan_e (by omega) (by rw [v116, a6]) a2, ob_s]
          dsimp only
          rw [if_neg d1, isSpan_e (by omega) (by rw [v116, b6]) b2, ob_s]
          dsimp only
          rw [if_neg d2]
          exact hloop
        · intro q hq
          have hold := h q hq
          have g1 : ∀ x : Nat, (x = 2 ∨ x = 3 ∨ x = 115 ∨ x = 116) → up2 (mvA I1 117 (40 * a + i) (40 * b + j) n2) 111 6 0 x = I x := fun x hx => by
            rw [up2_ne (by omega), mvA_ne (by omega), v1 x (by omega) (by omega)]
          unfold RowOne at hold ⊢
          rw [g1 3 (by omega), g1 2 (by omega), g1 115 (by omega), g1 116 (by omega)]
          rcases hold with z | ⟨l3, s3, f1, f2, f3, f4, f5, f6, f7⟩
          · exact Or.inl z
          · refine Or.inr ⟨l3, s3, f1, f2, f3, f4, f5, f6, fun y hy => ?_⟩
            rw [up2_ne (by omega), up2_ne (by omega), mvA_ne (by omega), mvA_r, v117]
            by_cases hqb : q = b
            · subst hqb
              rw [v2]
              have hs3 : s3 = s2 := (nI_eq (by omega) (by omega)).mp (f3.symm.trans b3)
              by_cases cy : j ≤ y ∧ y < j + n2
              · rw [if_pos cy, if_pos (by omega), a7 _ (by omega)]
                congr 1
                omega
              · rw [if_neg cy, if_neg (by omega), f7 y hy]
            · rw [v1 _ (by omega) (by omega), if_neg (by omega), f7 y hy]
        · show up2 _ 111 6 0 0 11 = up2 _ 111 6 0 111 6
          rw [up2_ne (by omega), mvA_ne (by omega), ← hI1]
          simp [up2_r]
        · refine ⟨fun x hx => ?_, fun y hy => ?_, fun y hy => ?_⟩
          · rw [up2_ne (by omega), mvA_ne (by omega), v1 x (by omega) (by omega)]
          · rw [up2_ne (by omega), mvA_ne (by omega), ← hI1, up2_r, if_neg (by omega)]
            exact congrFun (if_neg (by omega)) y
          · rw [up2_r, if_neg (by omega), mvA_ne (by omega), v1 111 (by omega) (by omega)]
  · rw [if_neg (show ¬ nI ln = nI l2 from fun q => cl ((nI_eq (by omega) (by omega)).mp q))]
    refine ⟨_, _, _, rfl, ?_, stat_agr (v := 5) (u := 5) h, stat_ok, RowFr.st⟩
    have := hA (up2 I 0 11 5) (by rw [up2_ne (by omega), a5]) (by rw [up2_ne (by omega), b5])
    rw [inb_nI (show a < 8 by omega) (by decide), inb_nI (show b < 8 by omega) (by decide), ix_nI (by omega), ix_nI (by omega)] at this
    rw [this, if_neg cl]
