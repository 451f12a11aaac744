/-! table -/
theorem tblLoop1 (I : Mem) : ∀ (d k fu : Nat) (J : Mem), k + d = 24 → d < fu → J = mv2 I 119 0 112 3 k → fnX10_table_53 fu J (nI k) = fnX10_table_81 FU (mv2 I 119 0 112 3 24) 0
  | d, k, 0, _, _, q, _ => absurd q (by omega)
  | 0, k, fu + 1, J, h1, _, hJ => by
    show fnX10_table_53b _ J _ = _
    unfold fnX10_table_53b
    rw [if_pos (show (24 : Int32) ≤ nI k from nI_le (a := 24) (by omega) (by omega)), hJ, show k = 24 by omega]
  | d + 1, k, fu + 1, J, h1, h2, hJ => by
    show fnX10_table_53b _ J _ = _
    unfold fnX10_table_53b
    rw [if_neg (show ¬ (24 : Int32) ≤ nI k from nI_ge (b := 24) (by omega) (by omega)), show (3 : Int32) + nI k = nI (3 + k) from nI_add 3 k, inb_nI (show k < 24 by omega) (by decide), ck_t, inb_nI (show 3 + k < 164 by omega) (by decide), ck_t, ix_nI (by omega), ix_nI (by omega), bnd_e, bnd_e, nI_1]
    refine tblLoop1 I d (k + 1) fu _ (by omega) (by omega) ?_
    have e := mv2_s2 (I := I) (s := 119) (S := 0) (a := 112) (D := 3) (k := k) (by omega)
    rw [Nat.zero_add] at e
    rw [hJ, e]
def tailT (J : Mem) : Option (Int32 × Mem) := some (J 111 17, up2 (up2 (up2 (up2 J 112 27 (J 111 18)) 112 28 (J 111 19)) 112 32 (-1)) 111 2 0)
theorem tblLoop2 : ∀ (d k fu : Nat) (J : Mem), k + d = 14 → d < fu → fnX10_table_81 fu J (nI k) = tailT (fillZ J 112 (27 + k) 41)
  | d, k, 0, _, _, q => absurd q (by omega)
  | 0, k, fu + 1, J, h1, _ => by
    show fnX10_table_81b _ J _ = _
    unfold fnX10_table_81b tailT
    rw [if_pos (show (14 : Int32) ≤ nI k from nI_le (a := 14) (by omega) (by omega)), fillZ_e (by omega)]
    simp only [bnd_e]
    rw [show inb 27 164 = true from inb_nI (n := 27) (by decide) (by decide), show inb 28 164 = true from inb_nI (n := 28) (by decide) (by decide), show inb 32 164 = true from inb_nI (n := 32) (by decide) (by decide), ck_t, ck_t, ck_t, show ix 27 = 27 from ix_nI (n := 27) (by decide), show ix 28 = 28 from ix_nI (n := 28) (by decide), show ix 32 = 32 from ix_nI (n := 32) (by decide)]
    simp [up2_r]
  | d + 1, k, fu + 1, J, h1, h2 => by
    show fnX10_table_81b _ J _ = _
    unfold fnX10_table_81b
    rw [if_neg (show ¬ (14 : Int32) ≤ nI k from nI_ge (b := 14) (by omega) (by omega)), show (27 : Int32) + nI k = nI (27 + k) from nI_add 27 k, inb_nI (show 27 + k < 164 by omega) (by decide), ck_t, ix_nI (by omega), bnd_e, bnd_e, nI_1, tblLoop2 d (k + 1) fu _ (by omega) (by omega), ← fillZ_s (show 27 + k < 41 by omega)]
    rfl
theorem beginLoop (a : Nat) : ∀ (d k fu : Nat) (I : Mem), k + d = 6 → d < fu → fnX4_begin_28 a fu I (nI k) = some (fillZ I (a + 1) k 6)
  | d, k, 0, _, _, q => absurd q (by omega)
  | 0, k, fu + 1, I, h1, _ => by
    show fnX4_begin_28b a _ I _ = _
    unfold fnX4_begin_28b
    rw [if_pos (show (6 : Int32) ≤ nI k from nI_le (a := 6) (by omega) (by omega)), fillZ_e (by omega)]
  | d + 1, k, fu + 1, I, h1, h2 => by
    show fnX4_begin_28b a _ I _ = _
    unfold fnX4_begin_28b
    rw [if_neg (show ¬ (6 : Int32) ≤ nI k from nI_ge (b := 6) (by omega) (by omega)), inb_nI (show k < 6 by omega) (by decide), ck_t, ix_nI (by omega), bnd_e, bnd_e, nI_1, beginLoop a d (k + 1) fu _ (by omega) (by omega), fillZ_s (by omega)]
def newP (c w : Nat) : Pl := (c, w, 0, 0, 0, -1, 0, 0, fun _ => 0)
theorem begin_e {I : Mem} {a c w : Nat} : ∃ I1, fnX4_begin a I (nI c) (nI w) = some I1 ∧ PlX I1 a (newP c w) ∧ FrP a I I1 := by
  unfold fnX4_begin fnX4_place
  simp only [bnd_e, ob_s]
  rw [show (0 : Int32) = nI 0 from rfl, beginLoop a 6 0 FU _ (by omega) (by unfold FU; omega)]
  refine ⟨_, rfl, ⟨?_, ?_, ?_, ?_, ?_, ?_, ?_, ?_, fun i hi => ?_⟩, fun x h1 h2 => ?_⟩
  · rw [fillZ_ne (by omega)]; simp [up2_r]; rfl
  · rw [fillZ_ne (by omega)]; simp [up2_r]; rfl
  · rw [fillZ_ne (by omega)]; simp [up2_r]; rfl
  · rw [fillZ_ne (by omega)]; simp [up2_r]; rfl
  · rw [fillZ_ne (by omega)]; simp [up2_r]; rfl
  · rw [fillZ_ne (by omega)]; simp [up2_r]; rfl
  · rw [fillZ_ne (by omega)]; simp [up2_r]; rfl
  · rw [fillZ_ne (by omega)]; simp [up2_r]; rfl
  · rw [fillZ_r, if_pos ⟨rfl, by omega, hi⟩]; rfl
  · rw [fillZ_ne h2, up2_ne h1, up2_ne h1, up2_ne h1, up2_ne h1, up2_ne h1, up2_ne h1, up2_ne h1, up2_ne h1]
/-- what table writes -/
def BFr (I I2 : Mem) : Prop := (∀ x, x ≠ 0 → x ≠ 13 → ¬ (15 ≤ x ∧ x ≤ 29) → x ≠ 111 → x ≠ 112 → x ≠ 119 → I2 x = I x) ∧ (∀ y, y ≠ 9 → y ≠ 10 → I2 0 y = I 0 y) ∧ I2 111 6 = I 111 6 ∧ I2 111 11 = I 111 11
theorem newP_ok {τ : Tb} {c w : Nat} (hT : Tok τ) (hc : c < 42) (hw : w < 4) : Pk τ (newP c w) := ⟨⟨hc, hw, by show 0 < 2; omega, by show 0 ≤ 23; omega, by show 0 < 2 ^ tn τ; exact Nat.two_pow_pos _⟩, fun _ => Nat.zero_le _⟩
theorem p_table {I : Mem} (h : PlayR I) (hL : TapR I) (hF : I 0 10 = I 111 5) : ∃ r I1 I2, fnX9_table I = some (r, I1) ∧ fnX10_table I1 = some (r, I2) ∧ PlayR I2 ∧ TapR I2 ∧ I2 0 10 = I2 111 5 ∧ BFr I I2 := by
  obtain ⟨L, l1, l2, l3, l4⟩ := hL
  have hbX : BtX I (I 14) L := ⟨l1, l2, fun _ _ => rfl⟩
  obtain ⟨I1, a1, a2, a3, a4⟩ := allX hbX
  unfold fnX9_table
  rw [a1, ob_s, bnd_e]
  generalize hI2 : up2 I1 13 1 0 = I2
  have o2 : ∀ x, x ≠ 13 → (x < 15 ∨ 20 < x) → I2 x = I x := fun x h1 h2 => by rw [← hI2, up2_ne h1, a4.1 x h1 h2]
  have e5 : I2 13 5 = nI (allA (I 14) L).1 := by rw [← hI2, up2_r, if_neg (by omega)]; exact a2.2.2.2.2.1
  have e7 : I2 13 7 = nI (allA (I 14) L).2.1.1 := by rw [← hI2, up2_r, if_neg (by omega)]; exact a2.2.2.2.2.2.2.1
  have e1 : I2 13 1 = 0 := by rw [← hI2]; simp [up2_r]
  rw [e5]
  have f3 : (allA (I 14) L).1 ≤ 3 := a2.2.2.2.1
  by_cases c : (allA (I 14) L).1 = 0
  · obtain ⟨t1, t2, t3, t4, t5, t6⟩ := a3 c
    have td : TabX I2 15 (allA (I 14) L).2.2.1 := t1.k (fun x hx => by rw [← hI2, up2_ne hx])
    obtain ⟨I3, b1, b2, b3⟩ := tabBecome_e (a := 21) t2 td (by omega)
    have n3 : I3 13 3 = nI (allA (I 14) L).2.2.2.1 := by rw [b3 13 (by omega), ← hI2, up2_r, if_neg (by omega)]; exact t3
    have n4 : I3 13 4 = nI (allA (I 14) L).2.2.2.2 := by rw [b3 13 (by omega), ← hI2, up2_r, if_neg (by omega)]; exact t4
    obtain ⟨I4, c1, c2, c3⟩ := begin_e (I := I3) (a := 27) (c := (allA (I 14) L).2.2.2.1) (w := (allA (I 14) L).2.2.2.2)
    unfold fnX0_forget
    rw [if_pos (show nI (allA (I 14) L).1 = 0 by rw [c]; rfl), b1, ob_s, n3, n4, c1, ob_s, bnd_e, ob_s, bnd_e]
    generalize hI5 : up2 (up2 I4 29 2 0) 0 9 1 = I5
    have o5 : ∀ x, x ≠ 0 → x ≠ 13 → (x < 15 ∨ 29 < x) → I5 x = I x := fun x h1 h2 h3 => by rw [← hI5, up2_ne h1, up2_ne (by omega), c3 x (by omega) (by omega), b3 x (by omega), o2 x h2 (by omega)]
    have o50 : ∀ y, y ≠ 9 → I5 0 y = I 0 y := fun y hy => by rw [← hI5, up2_r, if_neg (by omega), up2_ne (by omega), c3 0 (by omega) (by omega), b3 0 (by omega), o2 0 (by omega) (by omega)]
    have o513 : I5 13 = I2 13 := by rw [← hI5, up2_ne (by omega), up2_ne (by omega), c3 13 (by omega) (by omega), b3 13 (by omega)]
    have x21 : TabX I5 21 (allA (I 14) L).2.2.1 := TabX_ag b2 (fun x _ _ => by rw [← hI5, up2_ne (by omega), up2_ne (by omega), c3 x (by omega) (by omega)])
    have x27 : PlX I5 27 (newP (allA (I 14) L).2.2.2.1 (allA (I 14) L).2.2.2.2) := PlX_ag c2 (by rw [← hI5, up2_ne (by omega), up2_ne (by omega)]) (by rw [← hI5, up2_ne (by omega), up2_ne (by omega)])
    have hbM : BtM I5 (I 14) L := ⟨l1, by rw [o5 111 (by omega) (by omega) (by omega)]; exact l3, fun j hj => by rw [o5 114 (by omega) (by omega) (by omega)]; exact (l4 j hj).symm⟩
    obtain ⟨I6, g1, g2, g3, g4, g5⟩ := allM hbM
    rw [tf0 c] at g3
    obtain ⟨r1, r2, r3, r4⟩ := g4 c
    have hM : fnX10_table I5 = tailT (fillZ (mv2 (up2 (up2 (up2 (up2 I6 111 4 0) 112 0 1) 112 1 (I6 111 15)) 112 2 (I6 111 17)) 119 0 112 3 24) 112 27 41) := by
      unfold fnX10_table
      rw [g1, ob_s]
      dsimp only
      rw [bnd_e, bnd_e, yes0 c, if_neg (show ¬ (1 : Int32) = 0 by decide), show inb 0 164 = true from inb_nI (n := 0) (by decide) (by decide), show inb 1 164 = true from inb_nI (n := 1) (by decide) (by decide), show inb 2 164 = true from inb_nI (n := 2) (by decide) (by decide), show ix 0 = 0 from ix_nI (n := 0) (by decide), show ix 1 = 1 from ix_nI (n := 1) (by decide), show ix 2 = 2 from ix_nI (n := 2) (by decide), ck_t, bnd_e, ck_t, bnd_e, ck_t, bnd_e, show (0 : Int32) = nI 0 from rfl, tblLoop1 _ 24 0 FU _ (by omega) (by unfold FU; omega) mv2_0.symm, show (0 : Int32) = nI 0 from rfl, tblLoop2 14 0 FU _ (by omega) (by unfold FU; omega)]
      simp [up2_r]
    generalize hJ : fillZ (mv2 (up2 (up2 (up2 (up2 I6 111 4 0) 112 0 1) 112 1 (I6 111 15)) 112 2 (I6 111 17)) 119 0 112 3 24) 112 27 41 = J at hM
    have j111 : ∀ y, y ≠ 4 → J 111 y = I6 111 y := fun y hy => by rw [← hJ, fillZ_ne (by omega), mv2_ne (by omega), up2_ne (by omega), up2_ne (by omega), up2_ne (by omega), up2_r, if_neg (by omega)]
    have j4 : J 111 4 = 0 := by rw [← hJ, fillZ_ne (by omega), mv2_ne (by omega), up2_ne (by omega), up2_ne (by omega), up2_ne (by omega), up2_s]
    have jx : ∀ x, x ≠ 111 → x ≠ 112 → J x = I6 x := fun x h1 h2 => by rw [← hJ, fillZ_ne h2, mv2_ne h2, up2_ne h2, up2_ne h2, up2_ne h2, up2_ne h1]
    have j112 : ∀ q, J 112 q = if 27 ≤ q ∧ q < 41 then 0 else if 3 ≤ q ∧ q < 27 then I6 119 (q - 3) else if q = 2 then I6 111 17 else if q = 1 then I6 111 15 else if q = 0 then 1 else I6 112 q := fun q => by
      rw [← hJ, fillZ_r, mv2_r]
      simp only [true_and, Nat.zero_add]
      by_cases z1 : 27 ≤ q ∧ q < 41
      · rw [if_pos z1, if_pos z1]
      · rw [if_neg z1, if_neg z1]
        by_cases z2 : 3 ≤ q ∧ q < 27
        · rw [if_pos (show 3 ≤ q ∧ q < 3 + 24 by omega), if_pos z2, up2_ne (by omega), up2_ne (by omega), up2_ne (by omega), up2_ne (by omega)]
        · rw [if_neg (show ¬ (3 ≤ q ∧ q < 3 + 24) by omega), if_neg z2]
          simp [up2_r]
    unfold tailT at hM
    rw [j111 18 (by omega), j111 19 (by omega), j111 17 (by omega), r3, r4, r1.1] at hM
    generalize hI7 : up2 (up2 (up2 (up2 J 112 27 (nI (allA (I 14) L).2.2.2.1)) 112 28 (nI (allA (I 14) L).2.2.2.2)) 112 32 (-1)) 111 2 0 = I7 at hM
    have m111 : ∀ y, y ≠ 4 → y ≠ 2 → I7 111 y = I6 111 y := fun y h1 h2 => by rw [← hI7, up2_r, if_neg (by omega), up2_ne (by omega), up2_ne (by omega), up2_ne (by omega), j111 y h1]
    have m2 : I7 111 2 = 0 := by rw [← hI7, up2_s]
    have m4 : I7 111 4 = 0 := by rw [← hI7, up2_r, if_neg (by omega), up2_ne (by omega), up2_ne (by omega), up2_ne (by omega), j4]
    have mx : ∀ x, x ≠ 111 → x ≠ 112 → I7 x = I6 x := fun x h1 h2 => by rw [← hI7, up2_ne h1, up2_ne h2, up2_ne h2, up2_ne h2, jx x h1 h2]
    have m112 : ∀ q, I7 112 q = if q = 32 then -1 else if q = 28 then nI (allA (I 14) L).2.2.2.2 else if q = 27 then nI (allA (I 14) L).2.2.2.1 else J 112 q := fun q => by
      rw [← hI7, up2_ne (by omega)]
      simp [up2_r]
    have o7 : ∀ x, x ≠ 0 → x ≠ 13 → (x < 15 ∨ 29 < x) → x ≠ 111 → x ≠ 112 → x ≠ 119 → I7 x = I x := fun x h1 h2 h3 h4 h5 h6 => by rw [mx x h4 h5, g5.1 x h4 h6, o5 x h1 h2 h3]
    have o75 : ∀ x, x ≠ 111 → x ≠ 112 → x ≠ 119 → I7 x = I5 x := fun x h4 h5 h6 => by rw [mx x h4 h5, g5.1 x h4 h6]
    have i112 : ∀ q, 41 ≤ q → I7 112 q = I 112 q := fun q hq => by
      rw [m112, if_neg (by omega), if_neg (by omega), if_neg (by omega), j112, if_neg (by omega), if_neg (by omega), if_neg (by omega), if_neg (by omega), if_neg (by omega), g5.1 112 (by omega) (by omega), o5 112 (by omega) (by omega) (by omega)]
    obtain ⟨rd, τ0, π0, na, ac, im, ok, hx, hm⟩ := h
    obtain ⟨h1, h2, h3, ⟨h4, o, ho, h6, h7⟩, h5⟩ := hx
    have ax : I5 21 1 = nI (tn (allA (I 14) L).2.2.1) := x21.2.1
    rw [ax]
    refine ⟨_, I5, I7, rfl, hM, ⟨1, (allA (I 14) L).2.2.1, newP (allA (I 14) L).2.2.2.1 (allA (I 14) L).2.2.2.2, 0, ac, im, ⟨by omega, t2, newP_ok t2 t5 t6, by omega, fun k hk => absurd hk (by omega), fun q => absurd q (by omega), ok.2.2.2.2.2.2⟩, ⟨?_, ?_, ?_, ⟨?_, o, ho, ?_, fun k hk => absurd hk (by omega)⟩, fun k hk => ?_⟩, ⟨?_, ⟨?_, ?_, fun p hp => ?_⟩, fun _ => ?_, ?_, ?_, fun k hk => absurd hk (by omega), fun k hk => ?_⟩⟩, ⟨0, by omega, ?_, m4, fun j hj => absurd hj (by omega)⟩, ?_, ?_⟩
    · rw [o75 0 (by omega) (by omega) (by omega), ← hI5, up2_s]; rfl
    · exact TabX_ag x21 (fun x _ _ => o75 x (by omega) (by omega) (by omega))
    · exact PlX_ag x27 (o75 27 (by omega) (by omega) (by omega)) (o75 28 (by omega) (by omega) (by omega))
    · rw [o75 29 (by omega) (by omega) (by omega), ← hI5, up2_ne (by omega), up2_s]; rfl
    · rw [o75 29 (by omega) (by omega) (by omega), ← hI5, up2_ne (by omega), up2_r, if_neg (by omega), c3 29 (by omega) (by omega), b3 29 (by omega), o2 29 (by omega) (by omega), h6]
    · exact ImX_ag (h5 k hk) (fun x _ _ => o7 x (by omega) (by omega) (by omega) (by omega) (by omega) (by omega))
    · rw [m112, if_neg (by omega), if_neg (by omega), if_neg (by omega), j112, if_neg (by omega), if_neg (by omega), if_neg (by omega), if_neg (by omega), if_pos rfl]; rfl
    · rw [m112, if_neg (by omega), if_neg (by omega), if_neg (by omega), j112, if_neg (by omega), if_neg (by omega), if_neg (by omega), if_pos rfl]; exact r2
    · rw [m112, if_neg (by omega), if_neg (by omega), if_neg (by omega), j112, if_neg (by omega), if_neg (by omega), if_pos rfl]; exact r1.1
    · have p6 : p < 6 := Nat.lt_of_lt_of_le hp t2.2.1
      obtain ⟨e1, e2, e3, e4⟩ := r1.2 p hp
      refine ⟨?_, ?_, ?_, ?_⟩
      · rw [m112, if_neg (by omega), if_neg (by omega), if_neg (by omega), j112, if_neg (by omega), if_pos (by omega), show 3 + 4 * p - 3 = 4 * p by omega, e1]
      · rw [m112, if_neg (by omega), if_neg (by omega), if_neg (by omega), j112, if_neg (by omega), if_pos (by omega), show 4 + 4 * p - 3 = 4 * p + 1 by omega, e2]
      · rw [m112, if_neg (by omega), if_neg (by omega), if_neg (by omega), j112, if_neg (by omega), if_pos (by omega), show 5 + 4 * p - 3 = 4 * p + 2 by omega, e3]
      · rw [m112, if_neg (by omega), if_neg (by omega), if_neg (by omega), j112, if_neg (by omega), if_pos (by omega), show 6 + 4 * p - 3 = 4 * p + 3 by omega, e4]
    · have z : ∀ q, 27 ≤ q → q < 41 → q ≠ 27 → q ≠ 28 → q ≠ 32 → I7 112 q = 0 := fun q a1 a2 a3 a4 a5 => by rw [m112, if_neg a5, if_neg a4, if_neg a3, j112, if_pos ⟨a1, a2⟩]
      refine ⟨?_, ?_, ?_, ?_, ?_, ?_, ?_, ?_, fun i hi => ?_⟩
      · rw [m112, if_neg (by omega), if_neg (by omega), if_pos rfl]; rfl
      · rw [m112, if_neg (by omega), if_pos rfl]; rfl
      · exact z _ (by omega) (by omega) (by omega) (by omega) (by omega)
      · exact z _ (by omega) (by omega) (by omega) (by omega) (by omega)
      · exact z _ (by omega) (by omega) (by omega) (by omega) (by omega)
      · rw [m112, if_pos rfl]; rfl
      · exact z _ (by omega) (by omega) (by omega) (by omega) (by omega)
      · exact z _ (by omega) (by omega) (by omega) (by omega) (by omega)
      · exact z _ (by omega) (by omega) (by omega) (by omega) (by omega)
    · rw [m112, if_neg (by omega), if_neg (by omega), if_neg (by omega), j112, if_pos (by omega)]; rfl
    · rw [m2]; rfl
    · exact ImM_ag (fun τ' π' e => (ok.2.2.2.2.2.2 k hk τ' π' e).1) (hm.2.2.2.2.2.2 k hk) (fun j a1 _ => by
        rcases (show k = 0 ∨ k = 1 by omega) with rfl | rfl <;> exact i112 j (by omega))
    · rw [o75 13 (by omega) (by omega) (by omega), o513, e1]; rfl
    · rw [o75 0 (by omega) (by omega) (by omega), o50 10 (by omega), m111 5 (by omega) (by omega), g3, o5 111 (by omega) (by omega) (by omega), hF]
    · refine ⟨fun x a1 a2 a3 a4 a5 a6 => o7 x a1 a2 (by omega) a4 a5 a6, fun y a1 a2 => by rw [o75 0 (by omega) (by omega) (by omega), o50 y a1], ?_, ?_⟩
      · rw [m111 6 (by omega) (by omega), g5.2 6 (by omega), o5 111 (by omega) (by omega) (by omega)]
      · rw [m111 11 (by omega) (by omega), g5.2 11 (by omega), o5 111 (by omega) (by omega) (by omega)]
  · rw [if_neg (nz (by omega) c), bnd_e]
    generalize hI3 : up2 I2 0 10 (nI (allA (I 14) L).1) = I3
    have o3 : ∀ x, x ≠ 0 → x ≠ 13 → (x < 15 ∨ 20 < x) → I3 x = I x := fun x h1 h2 h3 => by rw [← hI3, up2_ne h1, o2 x h2 h3]
    have o30 : ∀ y, y ≠ 10 → I3 0 y = I 0 y := fun y hy => by rw [← hI3, up2_r, if_neg (by omega), o2 0 (by omega) (by omega)]
    have hbM : BtM I3 (I 14) L := ⟨l1, by rw [o3 111 (by omega) (by omega) (by omega)]; exact l3, fun j hj => by rw [o3 114 (by omega) (by omega) (by omega)]; exact (l4 j hj).symm⟩
    obtain ⟨I6, g1, g2, g3, g4, g5⟩ := allM hbM
    rw [tfn c] at g3
    have hM : fnX10_table I3 = some (-1000100 - nI (allA (I 14) L).2.1.1, up2 I6 111 4 0) := by
      unfold fnX10_table
      rw [g1, ob_s]
      dsimp only
      rw [bnd_e, bnd_e, yesn c, if_pos rfl, g2]
    have e7' : I3 13 7 = nI (allA (I 14) L).2.1.1 := by rw [← hI3, up2_ne (by omega), e7]
    rw [e7']
    have o6 : ∀ x, x ≠ 0 → x ≠ 13 → (x < 15 ∨ 20 < x) → x ≠ 111 → x ≠ 119 → up2 I6 111 4 0 x = I x := fun x h1 h2 h3 h4 h5 => by rw [up2_ne h4, g5.1 x h4 h5, o3 x h1 h2 h3]
    have o60 : ∀ y, up2 I6 111 4 0 0 y = I3 0 y := fun y => by rw [up2_ne (by omega), g5.1 0 (by omega) (by omega)]
    have o611 : ∀ y, y < 12 → y ≠ 5 → y ≠ 4 → up2 I6 111 4 0 111 y = I 111 y := fun y h1 h2 h3 => by rw [up2_r, if_neg (by omega), g5.2 y ⟨h1, h2⟩, o3 111 (by omega) (by omega) (by omega)]
    refine ⟨_, I3, _, rfl, hM, ?_, ⟨0, by omega, ?_, by simp [up2_r]; rfl, fun j hj => absurd hj (by omega)⟩, ?_, ?_⟩
    · refine h.agr (fun x hx => o6 x (by omega) (by omega) (by omega) (by omega) (by omega)) ?_ (o611 2 (by omega) (by omega) (by omega)) (fun j _ => by rw [o6 112 (by omega) (by omega) (by omega) (by omega) (by omega)])
      rw [o60, o30 9 (by omega)]
    · rw [up2_ne (by omega), g5.1 13 (by omega) (by omega), ← hI3, up2_ne (by omega), e1]; rfl
    · rw [o60, ← hI3, up2_s, up2_r, if_neg (by omega), g3]
    · exact ⟨fun x h1 h2 h3 h4 h5 h6 => o6 x h1 h2 (by omega) h4 h6, fun y h1 h2 => by rw [o60, o30 y h2], o611 6 (by omega) (by omega) (by omega), o611 11 (by omega) (by omega) (by omega)⟩
