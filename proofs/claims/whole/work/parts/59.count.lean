/-! heard, count, fault -/
def tellA (sq : Nat → Int32) : Nat → Nat → Bool
  | 0, _ => true
  | d + 1, k => if upTo (sq k) (nI 7) = 0 then false else tellA sq d (k + 1)
theorem tellX {I : Mem} {r i n : Nat} {sq : Nat → Int32} (hr : r < 8) (hin : i + n ≤ 40) (hs : ∀ j, j < n → I (5 + r) (i + j) = sq j) : ∀ (d k fu : Nat), k + d = n → d < fu → fnX5_tellsLetters_3 fu I (nI r) (nI i) (nI n) (nI k) = some ((if tellA sq d k then 1 else 0), I)
  | d, k, 0, _, h2 => absurd h2 (by omega)
  | 0, k, fu + 1, h1, _ => by
    show fnX5_tellsLetters_3b _ I _ _ _ _ = _
    unfold fnX5_tellsLetters_3b
    rw [if_pos (show nI n ≤ nI k from nI_le (by omega) (by omega))]
    rfl
  | d + 1, k, fu + 1, h1, h2 => by
    show fnX5_tellsLetters_3b _ I _ _ _ _ = _
    unfold fnX5_tellsLetters_3b
    rw [if_neg (show ¬ nI n ≤ nI k from nI_ge (by omega) (by omega)), inb_nI (show r < 8 by omega) (by decide), ck_t, nI_add, inb_nI (show i + k < 40 by omega) (by decide), ck_t, ix_nI (by omega), ix_nI (by omega), show 5 + 1 * r = 5 + r by omega, hs k (by omega), isUpTo_e, ob_s]
    dsimp only
    by_cases c : upTo (sq k) (nI 7) = 0
    · rw [if_pos (show upTo (sq k) 7 = 0 from c), show tellA sq (d + 1) k = false from if_pos c]
      rfl
    · rw [if_neg (show ¬ upTo (sq k) 7 = 0 from c), show tellA sq (d + 1) k = tellA sq d (k + 1) from if_neg c, bnd_e, nI_1]
      exact tellX hr hin hs d (k + 1) fu (by omega) (by omega)
theorem tellM {I : Mem} {r i n : Nat} {sq : Nat → Int32} (p4 : Int32) (hr : r < 8) (hin : i + n ≤ 40) (hs : ∀ j, j < n → I 117 (40 * r + i + j) = sq j) : ∀ (d k fu : Nat), k + d = n → d < fu → fnX10_heard_81 fu I (nI r) (nI i) (nI n) p4 (nI k) = if tellA sq d k then fnX10_heard_131 FU I (nI r) (nI i) (nI n) p4 0 (-1000000) 0 else some ((-1000001), I)
  | d, k, 0, _, h2 => absurd h2 (by omega)
  | 0, k, fu + 1, h1, _ => by
    show fnX10_heard_81b _ I _ _ _ _ _ = _
    unfold fnX10_heard_81b
    rw [if_pos (show nI n ≤ nI k from nI_le (by omega) (by omega))]
    rfl
  | d + 1, k, fu + 1, h1, h2 => by
    show fnX10_heard_81b _ I _ _ _ _ _ = _
    unfold fnX10_heard_81b
    have ib : (40 : Int32) * nI r + nI i + nI k = nI (40 * r + i + k) := by rw [show (40 : Int32) = nI 40 from rfl, pk_mul, nI_add, nI_add]
    rw [if_neg (show ¬ nI n ≤ nI k from nI_ge (by omega) (by omega)), ib, inb_nI (show 40 * r + i + k < 320 by omega) (by decide), ck_t, ix_nI (by omega), hs k (by omega), show (7 : Int64) = lN 7 from rfl, in_u I (sq k) 7 (by decide), ob_s]
    dsimp only
    by_cases c : upTo (sq k) (nI 7) = 0
    · rw [if_pos c, show tellA sq (d + 1) k = false from if_pos c]
      rfl
    · rw [if_neg c, show tellA sq (d + 1) k = tellA sq d (k + 1) from if_neg c, bnd_e, nI_1]
      exact tellM p4 hr hin hs d (k + 1) fu (by omega) (by omega)
/-- what heard may write -/
def HFr (I I2 : Mem) : Prop := (∀ x, x ≠ 0 → x ≠ 80 → x ≠ 81 → x ≠ 111 → x ≠ 112 → I2 x = I x) ∧ (∀ y, y ≠ 11 → I2 0 y = I 0 y) ∧ (∀ y, y ≠ 6 → I2 111 y = I 111 y) ∧ ∀ j, j < 123 → I2 112 j = I 112 j
theorem HFr.rf {I : Mem} : HFr I I := ⟨fun _ _ _ _ _ _ => rfl, fun _ _ => rfl, fun _ _ => rfl, fun _ _ => rfl⟩
theorem HFr.st {I : Mem} {v u : Int32} : HFr I (up2 (up2 I 0 11 v) 111 6 u) := ⟨fun x a _ _ b _ => by rw [up2_ne b, up2_ne a], fun y hy => by rw [up2_ne (by omega), up2_r, if_neg (by omega)], fun y hy => by rw [up2_r, if_neg (by omega), up2_ne (by omega)], fun j _ => by rw [up2_ne (by omega), up2_ne (by omega)]⟩
theorem PlayR.hf {I I2 : Mem} (h : PlayR I) (hf : HFr I I2) : PlayR I2 := h.agr (fun x q => hf.1 x (by omega) (by omega) (by omega) (by omega) (by omega)) (hf.2.1 9 (by omega)) (hf.2.2.1 2 (by omega)) hf.2.2.2
theorem RowR.hf {I I2 : Mem} (h : RowR I) (hf : HFr I I2) : RowR I2 := h.agr (fun x y hs => by
  unfold rowS at hs
  exact congrFun (hf.1 x (by omega) (by omega) (by omega) (by omega) (by omega)) y)
theorem p_heard {I : Mem} (h : PlayR I) (hR : RowR I) (hS : StatR I) (p1 p2 p3 p4 : Int32) : ∃ r I1 I2, fnX9_heard I p1 p2 p3 p4 = some (r, I1) ∧ fnX10_heard I1 p1 p2 p3 p4 = some (r, I2) ∧ StatR I2 ∧ HFr I I2 := by
  have hP := h
  obtain ⟨rd, τ, π, na, ac, im, ok, hx, hm⟩ := h
  have eq0 : ∀ r, fnX9_heard I p1 p2 p3 p4 = some (r, I) → fnX10_heard I p1 p2 p3 p4 = some (r, I) → ∃ r I1 I2, fnX9_heard I p1 p2 p3 p4 = some (r, I1) ∧ fnX10_heard I1 p1 p2 p3 p4 = some (r, I2) ∧ StatR I2 ∧ HFr I I2 := fun r a b => ⟨r, I, I, a, b, hS, HFr.rf⟩
  rcases rd_cases ok with h0 | hr
  · refine eq0 (-1000002) ?_ ?_
    · unfold fnX9_heard
      rw [hx.1, if_pos (by rw [h0]; rfl)]
    · unfold fnX10_heard
      rw [show inb 0 164 = true from rfl, ck_t, show I 112 (ix 0) = nI rd from hm.1, if_pos (by rw [h0]; rfl)]
  have b1 := lt_int p3 1
  have b2 := lt_int 10 p3
  have i1 : (1 : Int32).toInt = 1 := rfl
  have i10 : (10 : Int32).toInt = 10 := rfl
  have hX : fnX9_heard I p1 p2 p3 p4 = if upTo p1 (nI 7) = 0 then some ((-1000001), I) else if ¬ ((1 : Int) ≤ p3.toInt ∧ p3.toInt ≤ 10) then some ((-1000001), I) else if upTo p4 (nI 1) = 0 then some ((-1000001), I) else (ob (fnX5_isMissing I p1) fun ⟨r14, I13⟩ => if r14 = 0 then (ob (fnX5_hasPlaces I13 p1 p2 p3) fun ⟨r18, I17⟩ => if r18 = 0 then (ob (fnX9_found I17 2) fun ⟨r26, I25⟩ => some (r26, I25)) else (ob (fnX5_tellsLetters I17 p1 p2 p3) fun ⟨r22, I21⟩ => if r22 = 0 then (some ((-1000001), I21)) else (fnX9_heard_104 FU I21 p1 p2 p3 p4 0 (-1000000) 167))) else (ob (fnX9_found I13 1) fun ⟨r29, I28⟩ => some (r29, I28))) := by
    unfold fnX9_heard fnX9_heard_37
    rw [hx.1, if_neg (show ¬ nI rd = 0 by rw [hr]; decide), isRow_e, ob_s]
    dsimp only
    by_cases c0 : upTo p1 (nI 7) = 0
    · rw [if_pos c0, if_pos c0]
    rw [if_neg c0, if_neg c0, isUpTo_e, ob_s]
    by_cases c : (1 : Int) ≤ p3.toInt ∧ p3.toInt ≤ 10
    · rw [if_neg (by rw [b1]; omega), if_neg (by rw [b2]; omega), if_neg (show ¬ ¬ ((1 : Int) ≤ p3.toInt ∧ p3.toInt ≤ 10) from fun q => q c)]
      rfl
    · rw [if_pos c]
      by_cases c3 : p3 < 1
      · rw [if_pos c3]
      · rw [if_neg c3, if_pos (by rw [b2]; rw [b1] at c3; omega)]
  have hM : ∀ J, J 112 0 = nI rd → fnX10_heard J p1 p2 p3 p4 = if upTo p1 (nI 7) = 0 then some ((-1000001), J) else if ¬ ((1 : Int) ≤ p3.toInt ∧ p3.toInt ≤ 10) then some ((-1000001), J) else if upTo p4 (nI 1) = 0 then some ((-1000001), J) else (ck (inb p1 8) <| if (J 115 (ix p1)) = (-1000000) then (ob (fnX10_find J 1) fun ⟨r26, I25⟩ => some (r26, I25)) else (ob (fnX10_isSpan J p1 p2 p3) fun ⟨r19, I18⟩ => if r19 = 0 then (ob (fnX10_find I18 2) fun ⟨r23, I22⟩ => some (r23, I22)) else (fnX10_heard_81 FU I18 p1 p2 p3 p4 0))) := fun J hJ => by
    unfold fnX10_heard fnX10_heard_42
    rw [show inb 0 164 = true from rfl, ck_t, show J 112 (ix 0) = nI rd from hJ, if_neg (show ¬ nI rd = 0 by rw [hr]; decide), isRowM_e, ob_s]
    dsimp only
    by_cases c0 : upTo p1 (nI 7) = 0
    · rw [if_pos c0, if_pos c0]
    rw [if_neg c0, if_neg c0, in_g, ob_s, w64, show (1 : Int64).toInt = 1 from rfl, show (10 : Int64).toInt = 10 from rfl]
    dsimp only
    by_cases c : (1 : Int) ≤ p3.toInt ∧ p3.toInt ≤ 10
    · rw [if_pos c, if_neg (show ¬ (1 : Int32) = 0 by decide), if_neg (fun q => q c), show fnX10_in J p4.toInt64 0 1 = _ from in_u J p4 1 (by decide), ob_s]
    · rw [if_neg c, if_pos rfl, if_pos c]
  by_cases c0 : upTo p1 (nI 7) = 0
  · exact eq0 _ (by rw [hX, if_pos c0]) (by rw [hM I hm.1, if_pos c0])
  by_cases c1 : ¬ ((1 : Int) ≤ p3.toInt ∧ p3.toInt ≤ 10)
  · exact eq0 _ (by rw [hX, if_neg c0, if_pos c1]) (by rw [hM I hm.1, if_neg c0, if_pos c1])
  by_cases c2 : upTo p4 (nI 1) = 0
  · exact eq0 _ (by rw [hX, if_neg c0, if_neg c1, if_pos c2]) (by rw [hM I hm.1, if_neg c0, if_neg c1, if_pos c2])
  rw [if_neg c0, if_neg c1, if_neg c2] at hX
  have hM1 := fun J hJ => (hM J hJ).trans (by rw [if_neg c0, if_neg c1, if_neg c2])
  obtain ⟨r, hr7, rfl⟩ := upTo_of (m := 7) (by decide) c0
  rw [inb_nI (show r < 8 by omega) (by decide), ix_nI (by omega)] at hM1
  simp only [ck_t] at hM1
  have s112 : ∀ v : Int32, up2 I 0 11 v 112 0 = nI rd := fun v => by rw [up2_ne (by omega)]; exact hm.1
  rcases hR r (by omega) with ⟨m1, m2⟩ | ⟨ln, sz, a1, a2, a3, a4, a5, a6, a7⟩
  · rw [isMissing_1 (by omega) m1, ob_s] at hX
    simp only [show ¬ (1 : Int32) = 0 by decide, if_false, found_e, ob_s] at hX
    refine ⟨_, _, _, hX, ?_, stat_ok (v := 1), HFr.st⟩
    rw [hM1 _ (s112 1), up2_ne (show (115 : Nat) ≠ 0 by omega), if_pos m2, find_e, ob_s]
  · rw [isMissing_0 (by omega) a3 a2, ob_s] at hX
    simp only [if_true, hasPlaces_e (show r < 8 by omega) a3 a2, ob_s] at hX
    have hM2 : ∀ J : Mem, J 112 0 = nI rd → J 115 = I 115 → J 116 = I 116 → fnX10_heard J (nI r) p2 p3 p4 = if spA p2 p3 sz = 0 then some ((-1000010) - 2, up2 J 111 6 2) else (fnX10_heard_81 FU J (nI r) p2 p3 p4 0) := fun J j1 j2 j3 => by
      rw [hM1 J j1, j2, if_neg (show ¬ I 115 r = -1000000 by rw [a5]; exact none_ne (by omega)), isSpan_e (show r < 8 by omega) (by rw [j3]; exact a6) a2, ob_s]
      dsimp only
      split
      · rw [find_e, ob_s]
      · rfl
    by_cases c3 : spA p2 p3 sz = 0
    · rw [if_pos c3] at hX
      simp only [found_e, ob_s] at hX
      exact ⟨_, _, _, hX, by rw [hM2 _ (s112 2) (up2_ne (by omega)) (up2_ne (by omega)), if_pos c3], stat_ok (v := 2), HFr.st⟩
    rw [if_neg c3] at hX
    have hM3 := fun J j1 j2 j3 => (hM2 J j1 j2 j3).trans (by rw [if_neg c3])
    obtain ⟨i, n, hin, rfl, rfl⟩ := spA_of a2 c3
    rw [nI_toInt (by omega)] at c1
    have hn : 0 < n := by omega
    have sX : ∀ j, j < n → I (5 + r) (i + j) = (fun j => I (5 + r) (i + j)) j := fun j hj => rfl
    have sM : ∀ j, j < n → I 117 (40 * r + i + j) = (fun j => I (5 + r) (i + j)) j := fun j hj => by
      rw [show (fun j => I (5 + r) (i + j)) j = I (5 + r) (i + j) from rfl, a7 (i + j) (by omega), Nat.add_assoc]
    generalize (fun j => I (5 + r) (i + j)) = sq at sX sM
    have tX : fnX5_tellsLetters I (nI r) (nI i) (nI n) = some ((if tellA sq n 0 then 1 else 0), I) := tellX (show r < 8 by omega) (by omega) sX n 0 FU (by omega) (by unfold FU; omega)
    rw [tX, ob_s] at hX
    dsimp only at hX
    by_cases ct : tellA sq n 0 = true
    · rw [if_pos ct, if_neg (show ¬ (1 : Int32) = 0 by decide)] at hX
      obtain ⟨I2, e1, e2⟩ := heardX (sq := sq) ok (show r < 8 by omega) (show i + n ≤ 40 by omega) hn p4 168 FU I (by omega) (by unfold FU; omega) hx sX
      have e1' : fnX9_heard_104 FU I (nI r) (nI i) (nI n) p4 0 (-1000000) 167 = _ := e1
      rw [e1'] at hX
      unfold fnX9_heard_162 at hX
      simp only [plain_e, ob_s] at hX
      have hx2 := XPl_pr hx e2
      have sM2 : ∀ j, j < n → (up2 I2 0 11 0) 117 (40 * r + i + j) = sq j := fun j hj => by rw [up2_ne (by omega), e2 117 (by omega) (by omega)]; exact sM j hj
      have fx2 : FX I I2 := FX.p80 e2
      have hm2 : MPl (up2 I2 0 11 0) rd τ π na ac im := MPl_ag ok (MPl_fx ok hm fx2) (fun j _ => by rw [up2_ne (by omega)]) (up2_ne (by omega)) (by rw [up2_ne (by omega)])
      obtain ⟨J2, g1, g2⟩ := heardM (sq := sq) hr ok (show r < 8 by omega) (show i + n ≤ 40 by omega) hn p4 168 0 FU 0 (-1000000) (up2 I2 0 11 0) (by omega) (by omega) (by unfold FU; omega) hm2 sM2
      refine ⟨_, _, up2 J2 111 6 0, hX, ?_, ?_, ?_⟩
      · rw [hM3 _ (by rw [up2_ne (by omega), e2 112 (by omega) (by omega)]; exact hm.1) (by rw [up2_ne (by omega), e2 115 (by omega) (by omega)]) (by rw [up2_ne (by omega), e2 116 (by omega) (by omega)]), show fnX10_heard_81 FU (up2 I2 0 11 0) (nI r) (nI i) (nI n) p4 0 = _ from tellM p4 (show r < 8 by omega) (show i + n ≤ 40 by omega) sM2 n 0 FU (by omega) (by unfold FU; omega), if_pos ct]
        have g1' : fnX10_heard_131 FU (up2 I2 0 11 0) (nI r) (nI i) (nI n) p4 0 (-1000000) 0 = _ := g1
        rw [g1']
        unfold fnX10_heard_204
        rw [give_e, ob_s]
        dsimp only
        rw [if_pos rfl, Nat.zero_add]
        cases (fitsA (fitA τ π sq n) 168 0).2 <;> rfl
      · unfold StatR
        rw [up2_ne (by omega), up2_r, if_pos ⟨rfl, rfl⟩, g2.1 0 (by omega), up2_r, if_pos ⟨rfl, rfl⟩]
      · refine ⟨fun x b0 b80 b81 b111 b112 => ?_, fun y hy => ?_, fun y hy => ?_, fun j hj => ?_⟩
        · rw [up2_ne b111, g2.1 x b112, up2_ne b0, e2 x b80 b81]
        · rw [up2_ne (by omega), g2.1 0 (by omega), up2_r, if_neg (by omega), e2 0 (by omega) (by omega)]
        · rw [up2_r, if_neg (by omega), g2.1 111 (by omega), up2_ne (by omega), e2 111 (by omega) (by omega)]
        · rw [up2_ne (by omega), g2.2 j hj, up2_ne (by omega), e2 112 (by omega) (by omega)]
    · rw [if_neg ct, if_pos rfl] at hX
      refine ⟨_, I, I, hX, ?_, hS, HFr.rf⟩
      rw [hM3 I hm.1 rfl rfl, show (0 : Int32) = nI 0 from rfl, tellM p4 (show r < 8 by omega) (show i + n ≤ 40 by omega) sM n 0 FU (by omega) (by unfold FU; omega), if_neg ct]
/-- rows that are there, from k on -/
def thereA (I : Mem) : Nat → Nat → Nat
  | 0, _ => 0
  | d + 1, k => (if I 3 k = -1 then 0 else 1) + thereA I d (k + 1)
theorem thereX {I : Mem} (hR : RowR I) : ∀ (d k fu m : Nat), k + d = 8 → d < fu → fnX5_there_4 fu I (nI m) (nI k) = some (nI (m + thereA I d k), I)
  | d, k, 0, m, _, h2 => absurd h2 (by omega)
  | 0, k, fu + 1, m, h1, _ => by
    show fnX5_there_4b _ I _ _ = _
    unfold fnX5_there_4b
    rw [if_pos (show (8 : Int32) ≤ nI k from nI_le (a := 8) (by omega) (by omega))]
    rfl
  | d + 1, k, fu + 1, m, h1, h2 => by
    show fnX5_there_4b _ I _ _ = _
    unfold fnX5_there_4b fnX5_there_21
    rw [if_neg (show ¬ (8 : Int32) ≤ nI k from nI_ge (b := 8) (by omega) (by omega))]
    have hr := hR k (by omega)
    rcases hr with ⟨m1, m2⟩ | ⟨ln, sz, a1, a2, a3, a4, a5, a6, a7⟩
    · rw [isMissing_1 (by omega) m1, ob_s]
      dsimp only
      rw [if_neg (show ¬ (1 : Int32) = 0 by decide), bnd_e, nI_1, thereX hR d (k + 1) fu m (by omega) (by omega), show thereA I (d + 1) k = 0 + thereA I d (k + 1) from by rw [thereA, if_pos m1], Nat.zero_add]
    · rw [isMissing_0 (by omega) a3 a2, ob_s]
      dsimp only
      rw [if_pos rfl, bnd_e, bnd_e, nI_1, nI_1, thereX hR d (k + 1) fu (m + 1) (by omega) (by omega), show thereA I (d + 1) k = 1 + thereA I d (k + 1) from by rw [thereA, if_neg (show ¬ I 3 k = -1 by rw [a3]; exact neg1_ne (by omega))], Nat.add_assoc]
/-- what count tells, the rows done -/
def cntM (I : Mem) (p : Int32) (m : Nat) : Option (Int32 × Mem) := if p = 0 then (some (nI m, I)) else if p = 1 then (some ((I 112 2), I)) else if p = 2 then (some ((I 112 33), I)) else if p = 3 then (some ((I 111 2), I)) else if p = 4 then (some ((I 112 1), I)) else if p = 5 then (some ((I 111 4), I)) else (some ((-1000001), I))
theorem thereM {I : Mem} (hR : RowR I) (p1 : Int32) : ∀ (d k fu m : Nat), k + d = 8 → d < fu → fnX10_count_4 fu I p1 (nI m) (nI k) = cntM I p1 (m + thereA I d k)
  | d, k, 0, m, _, h2 => absurd h2 (by omega)
  | 0, k, fu + 1, m, h1, _ => by
    show fnX10_count_4b _ I _ _ _ = _
    unfold fnX10_count_4b
    rw [if_pos (show (8 : Int32) ≤ nI k from nI_le (a := 8) (by omega) (by omega))]
    rfl
  | d + 1, k, fu + 1, m, h1, h2 => by
    show fnX10_count_4b _ I _ _ _ = _
    unfold fnX10_count_4b fnX10_count_27
    rw [if_neg (show ¬ (8 : Int32) ≤ nI k from nI_ge (b := 8) (by omega) (by omega)), inb_nI (show k < 8 by omega) (by decide), ck_t, ix_nI (by omega)]
    rcases hR k (by omega) with ⟨m1, m2⟩ | ⟨ln, sz, a1, a2, a3, a4, a5, a6, a7⟩
    · rw [if_pos m2, bnd_e, bnd_e, Int32.add_zero, nI_1, thereM hR p1 d (k + 1) fu m (by omega) (by omega), show thereA I (d + 1) k = 0 + thereA I d (k + 1) from by rw [thereA, if_pos m1], Nat.zero_add]
    · rw [if_neg (show ¬ I 115 k = -1000000 by rw [a5]; exact none_ne (by omega)), bnd_e, bnd_e, nI_1, nI_1, thereM hR p1 d (k + 1) fu (m + 1) (by omega) (by omega), show thereA I (d + 1) k = 1 + thereA I d (k + 1) from by rw [thereA, if_neg (show ¬ I 3 k = -1 by rw [a3]; exact neg1_ne (by omega))], Nat.add_assoc]
theorem p_count {I : Mem} (h : PlayR I) (hR : RowR I) (hL : I 13 1 = I 111 4) (p1 : Int32) : ∃ r, fnX9_count I p1 = some (r, I) ∧ fnX10_count I p1 = some (r, I) := by
  obtain ⟨rd, τ, π, na, ac, im, ok, hx, hm⟩ := h
  have e : fnX10_count I p1 = cntM I p1 (0 + thereA I 8 0) := thereM hR p1 8 0 FU 0 (by omega) (by unfold FU; omega)
  have t : fnX5_there I = some (nI (0 + thereA I 8 0), I) := thereX hR 8 0 FU 0 (by omega) (by unfold FU; omega)
  rw [e]
  unfold fnX9_count cntM
  rw [t, ob_s, hx.2.1.2.1, hx.2.2.1.2.2.2.2.2.2.2.1, hx.2.2.2.1.1, hx.2.1.1, hL, hm.2.1.2.1, hm.2.2.2.1, hm.2.2.2.2.1, hm.2.1.1]
  by_cases c0 : p1 = 0
  · rw [if_pos c0]; exact ⟨_, rfl, rfl⟩
  rw [if_neg c0]
  by_cases c1 : p1 = 1
  · rw [if_pos c1]; exact ⟨_, rfl, rfl⟩
  rw [if_neg c1]
  by_cases c2 : p1 = 2
  · rw [if_pos c2]; exact ⟨_, rfl, rfl⟩
  rw [if_neg c2]
  by_cases c3 : p1 = 3
  · rw [if_pos c3]; exact ⟨_, rfl, rfl⟩
  rw [if_neg c3]
  by_cases c4 : p1 = 4
  · rw [if_pos c4]; exact ⟨_, rfl, rfl⟩
  rw [if_neg c4]
  by_cases c5 : p1 = 5
  · rw [if_pos c5]; exact ⟨_, rfl, rfl⟩
  rw [if_neg c5]
  exact ⟨_, rfl, rfl⟩
theorem p_fault {I : Mem} (h : I 0 10 = I 111 5) : ∃ r, fnX9_fault I = some (r, I) ∧ fnX10_fault I = some (r, I) := ⟨_, rfl, by unfold fnX10_fault; rw [← h]⟩
