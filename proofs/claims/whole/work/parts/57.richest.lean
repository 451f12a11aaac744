/-! richest -/
theorem how_e : ∀ h, h < 168 → nI h / 4 = nI (h / 4) ∧ irm (nI h) 4 = nI (h % 4) := by decide +kernel
def putA (h : Nat) (sh : Nat) (π : Pl) : Pl := (h / 4, h % 4, 0, sh, π.2.2.2.2)
theorem putA_ok {τ : Tb} {π : Pl} {h sh : Nat} (hh : h < 168) (hs : sh ≤ 23) (ok : Pok τ π) : Pok τ (putA h sh π) := ⟨by show h / 4 < 42; omega, by show h % 4 < 4; omega, by show 0 < 2; decide, hs, ok.2.2.2.2⟩
section
variable {τ : Tb} {π : Pl} {rd na : Nat} {ac : Nat → Pl} {im : Im}
theorem tryX {I : Mem} {h : Nat} (hh : h < 168) (ok : OK rd τ π na ac im) (hx : XPl I rd τ π na ac im) : ∃ I1 I2, fnX4_become 80 27 I = some I1 ∧ fnX4_place 80 I1 (nI h / 4) (irm (nI h) 4) = some I2 ∧ PlX I2 80 (putA h 0 π) ∧ FrP 80 I I2 := by
  obtain ⟨I1, b1, b2, b3⟩ := probeX ok hx
  obtain ⟨q0, q1, q2, q3, q4, q5, q6, q7, q8⟩ := b2
  refine ⟨I1, _, b1, rfl, ?_, b3.tr (((FrP.p0.tr FrP.p0).tr FrP.p0).tr FrP.p0)⟩
  rw [(how_e h hh).1, (how_e h hh).2]
  refine ⟨?_, ?_, ?_, ?_, ?_, ?_, ?_, ?_, fun i hi => ?_⟩ <;> simp [up2_r, putA, q4, q5, q6, q7]
  · rfl
  · rfl
  · exact q8 i hi
theorem tryM {J : Mem} {h : Nat} (hh : h < 168) (hr : rd = 1) (hm : MPl J rd τ π na ac im) : ∃ J1, fnX10_tryPut J (nI h) = some J1 ∧ PlM J1 123 (putA h π.2.2.2.1 π) ∧ FrT J J1 := by
  obtain ⟨J1, b1, b2, b3⟩ := probeM hr hm
  unfold fnX10_tryPut
  rw [b1, ob_s, (how_e h hh).1, (how_e h hh).2]
  obtain ⟨q0, q1, q2, q3, q4, q5, q6, q7, q8⟩ := b2
  simp only [Nat.reduceAdd] at q0 q1 q2 q3 q4 q5 q6 q7 q8
  rw [show ix 150 = 150 from rfl, show ix 151 = 151 from rfl, show ix 152 = 152 from rfl]
  refine ⟨_, rfl, ?_, ?_⟩
  rotate_left
  · exact b3.tr (FrT.m (((FrM.p (by omega) (by omega)).tr (FrM.p (by omega) (by omega))).tr (FrM.p (by omega) (by omega))))
  refine ⟨?_, ?_, ?_, ?_, ?_, ?_, ?_, ?_, fun i hi => ?_⟩ <;> simp [up2_r, putA, q3, q4, q5, q6, q7]
  · rfl
  · rw [if_neg (by omega), if_neg (by omega), if_neg (by omega)]
    exact q8 i hi
def byA (τ : Tb) (π : Pl) (n h : Nat) : Int32 := (runA τ n (putA h 0 π)).2.2.2.2.1 - π.2.2.2.2.1
def richA (τ : Tb) (π : Pl) (n : Nat) : Nat → Nat → Int32 → Int32 → Int32 × Int32
  | 0, _, b, m => (b, m)
  | d + 1, h, b, m => if pinOf τ (h / 4) = none then (if byA τ π n h ≤ m then richA τ π n d (h + 1) b m else richA τ π n d (h + 1) (nI h) (byA τ π n h)) else richA τ π n d (h + 1) b m
theorem richX {n : Nat} (hn : n ≤ 200) (ok : OK rd τ π na ac im) (p2 : Int32) : ∀ (d h fu : Nat) (I : Mem) (b m : Int32), h + d = 168 → d < fu → -1 ≤ m.toInt → XPl I rd τ π na ac im → ∃ I1, fnX9_richest_41 fu I (nI n) p2 b m (nI h) = some ((if p2 = 0 then (richA τ π n d h b m).1 else (richA τ π n d h b m).2), I1) ∧ FrP 80 I I1
  | d, h, 0, _, _, _, _, h2, _, _ => absurd h2 (by omega)
  | 0, h, fu + 1, I, b, m, h1, _, _, hx => by
    show ∃ I1, fnX9_richest_41b _ I _ _ _ _ _ = _ ∧ _
    unfold fnX9_richest_41b fnX9_richest_107
    rw [if_pos (show (168 : Int32) ≤ nI h from nI_le (a := 168) (by omega) (by omega))]
    refine ⟨I, ?_, FrP.rf⟩
    split <;> rfl
  | d + 1, h, fu + 1, I, b, m, h1, h2, hb, hx => by
    show ∃ I1, fnX9_richest_41b _ I _ _ _ _ _ = _ ∧ _
    have hh : h < 168 := by omega
    have oI := onI_none (pin42 ok.2.1 (c := h / 4))
    unfold fnX9_richest_41b fnX9_richest_75 fnX9_richest_91
    rw [if_neg (show ¬ (168 : Int32) ≤ nI h from nI_ge (b := 168) (by omega) (by omega)), (how_e h hh).1, pinIn_e hx.2.1 (by omega), ob_s]
    dsimp only
    rw [bnd_e, bnd_e, nI_1]
    by_cases c : pinOf τ (h / 4) = none
    · rw [if_pos (oI.mpr c)]
      obtain ⟨I1, I2, t1, t2, t3, t4⟩ := tryX hh ok hx
      have pok := putA_ok (τ := τ) (π := π) (sh := 0) hh (by omega) ok.2.2.1.1
      obtain ⟨I3, e1, e2, e3⟩ := run_e hn ok.2.1 (TabX_fr hx.2.1 t4 (by omega)) t3 pok
      have hx3 := XPl_pr hx (t4.tr e3)
      have hbr : fnX9_broughtBy I (nI h) (nI n) = some (byA τ π n h, I3) := by
        unfold fnX9_broughtBy
        rw [t1, ob_s, t2, ob_s, e1, ob_s, e2.2.2.2.2.1, hx3.2.2.1.2.2.2.2.1]
        rfl
      rw [hbr, ob_s]
      dsimp only
      by_cases cb : byA τ π n h ≤ m
      · rw [if_pos cb, show richA τ π n (d + 1) h b m = richA τ π n d (h + 1) b m from by rw [richA, if_pos c, if_pos cb]]
        obtain ⟨I4, r1, r2⟩ := richX hn ok p2 d (h + 1) fu I3 b m (by omega) (by omega) hb hx3
        exact ⟨I4, r1, (t4.tr e3).tr r2⟩
      · rw [if_neg cb, show richA τ π n (d + 1) h b m = richA τ π n d (h + 1) (nI h) (byA τ π n h) from by rw [richA, if_pos c, if_neg cb]]
        obtain ⟨I4, r1, r2⟩ := richX hn ok p2 d (h + 1) fu I3 (nI h) (byA τ π n h) (by omega) (by omega) (by rw [le_int] at cb; omega) hx3
        exact ⟨I4, r1, (t4.tr e3).tr r2⟩
    · rw [if_neg (fun q => c (oI.mp q)), if_pos (show (-1 : Int32) ≤ m by rw [le_int]; exact hb), show richA τ π n (d + 1) h b m = richA τ π n d (h + 1) b m from by rw [richA, if_neg c]]
      exact richX hn ok p2 d (h + 1) fu I b m (by omega) (by omega) hb hx
theorem richM1 {n : Nat} (hn : n ≤ 200) (hT : Tok τ) (rec46 : Mem → Int32 → Int32 → Int32 → Int32 → Int32 → Option (Int32 × Mem)) (l2 l3 l4 l5 : Int32) : ∀ (d k fu : Nat) (I : Mem) (π : Pl), k + d = n → d < fu → TabM I τ → PlM I 123 π → Pok τ π → ∃ I1, fnX10_richest_76 rec46 fu I (nI n) l2 l3 l4 l5 (nI k) = fnX10_richest_106 rec46 I1 (nI n) l2 l3 l4 l5 ∧ PlM I1 123 (runA τ d π) ∧ FrT I I1
  | d, k, 0, _, _, _, h2, _, _, _ => absurd h2 (by omega)
  | 0, k, fu + 1, I, π, h1, _, _, hp, ok => by
    show ∃ I1, fnX10_richest_76b _ _ I _ _ _ _ _ _ = _ ∧ _
    unfold fnX10_richest_76b
    rw [if_pos (show nI n ≤ nI k from nI_le (by omega) (by omega))]
    exact ⟨I, rfl, hp, FrT.rf⟩
  | d + 1, k, fu + 1, I, π, h1, h2, ht, hp, ok => by
    show ∃ I1, fnX10_richest_76b _ _ I _ _ _ _ _ _ = _ ∧ _
    unfold fnX10_richest_76b
    rw [if_neg (show ¬ nI n ≤ nI k from nI_ge (by omega) (by omega)), show inb 152 164 = true from rfl, ck_t, show I 112 (ix 152) = nI π.2.2.1 from hp.2.2.1]
    by_cases c : π.2.2.1 = 0
    · rw [show runA τ (d + 1) π = runA τ d (stepA τ π).2 from if_pos c, if_pos (show nI π.2.2.1 = 0 by rw [c]; rfl)]
      obtain ⟨I3, s1, s2, s4⟩ := stepM_e (b := 123) hT (Or.inr rfl) ht hp ok
      rw [show (123 : Int32) = nI 123 from rfl, s1, ob_s]
      dsimp only
      rw [bnd_e, nI_1]
      obtain ⟨I4, r1, r2, r3⟩ := richM1 hn hT rec46 l2 l3 l4 l5 d (k + 1) fu I3 _ (by omega) (by omega) (TabM_fr hT ht s4) s2 (stepA_ok hT ok)
      exact ⟨I4, r1, r2, (FrT.m s4).tr r3⟩
    · rw [show runA τ (d + 1) π = π from if_neg c, if_neg (nl0 ok.2.2.1 c)]
      exact ⟨I, rfl, hp, FrT.rf⟩
theorem richM {n : Nat} (hn : n ≤ 200) (hr : rd = 1) (ok : OK rd τ π na ac im) (p2 : Int32) : ∀ (d h fu : Nat) (I : Mem) (b m : Int32), h + d = 168 → d < fu → MPl I rd τ π na ac im → ∃ I1, fnX10_richest_46 fu I (nI n) p2 b m (nI h) = some ((if p2 = 0 then (richA τ π n d h b m).1 else (richA τ π n d h b m).2), I1) ∧ FrT I I1
  | d, h, 0, _, _, _, _, h2, _ => absurd h2 (by omega)
  | 0, h, fu + 1, I, b, m, h1, _, hx => by
    show ∃ I1, fnX10_richest_46b _ I _ _ _ _ _ = _ ∧ _
    unfold fnX10_richest_46b fnX10_richest_170
    rw [if_pos (show (168 : Int32) ≤ nI h from nI_le (a := 168) (by omega) (by omega))]
    refine ⟨I, ?_, FrT.rf⟩
    split <;> rfl
  | d + 1, h, fu + 1, I, b, m, h1, h2, hx => by
    show ∃ I1, fnX10_richest_46b _ I _ _ _ _ _ = _ ∧ _
    have hh : h < 168 := by omega
    have oM := onM_none (pin42 ok.2.1 (c := h / 4))
    unfold fnX10_richest_46b
    rw [if_neg (show ¬ (168 : Int32) ≤ nI h from nI_ge (b := 168) (by omega) (by omega)), (how_e h hh).1, pinAt_e ok.2.1 hx.2.1 (by omega), ob_s]
    dsimp only
    by_cases c : pinOf τ (h / 4) = none
    · rw [if_pos (oM.mpr c)]
      obtain ⟨I1, t1, t2, t3⟩ := tryM hh hr hx
      have pok := putA_ok (τ := τ) (π := π) (sh := π.2.2.2.1) hh ok.2.2.1.1.2.2.2.1 ok.2.2.1.1
      obtain ⟨I2, e1, e2, e3⟩ := richM1 hn ok.2.1 (fnX10_richest_46 fu) p2 b m (nI h) n 0 FU I1 _ (by omega) (by unfold FU; omega) (TabM_t ok.2.1 hx.2.1 t3) t2 pok
      have hx2 := MPl_t ok hx (t3.tr e3)
      rw [t1, ob_s, show (0 : Int32) = nI 0 from rfl, e1]
      have sc : (runA τ n (putA h π.2.2.2.1 π)).2.2.2.2.1 = (runA τ n (putA h 0 π)).2.2.2.2.1 := by
        rw [show putA h 0 π = noS (putA h π.2.2.2.1 π) from rfl, noS_run]
        rfl
      unfold fnX10_richest_106 fnX10_richest_137 fnX10_richest_152 fnX10_richest_154
      rw [show inb 154 164 = true from rfl, ck_t, show inb 31 164 = true from rfl, ck_t, bnd_e, show I2 112 (ix 154) = _ from e2.2.2.2.2.1, show I2 112 (ix 31) = _ from (hx2.2.2.1 hr).2.2.2.2.1, sc, bnd_e, bnd_e, nI_1]
      by_cases cb : byA τ π n h ≤ m
      · rw [if_pos (show _ - _ ≤ m from cb), if_pos (show _ - _ ≤ m from cb), show richA τ π n (d + 1) h b m = richA τ π n d (h + 1) b m from by rw [richA, if_pos c, if_pos cb]]
        obtain ⟨I4, r1, r2⟩ := richM hn hr ok p2 d (h + 1) fu I2 b m (by omega) (by omega) hx2
        exact ⟨I4, r1, (t3.tr e3).tr r2⟩
      · rw [if_neg (show ¬ _ - _ ≤ m from cb), if_neg (show ¬ _ - _ ≤ m from cb), show richA τ π n (d + 1) h b m = richA τ π n d (h + 1) (nI h) (byA τ π n h) from by rw [richA, if_pos c, if_neg cb]]
        obtain ⟨I4, r1, r2⟩ := richM hn hr ok p2 d (h + 1) fu I2 (nI h) (byA τ π n h) (by omega) (by omega) hx2
        exact ⟨I4, r1, (t3.tr e3).tr r2⟩
    · rw [if_neg (fun q => c (oM.mp q))]
      unfold fnX10_richest_154
      rw [bnd_e, nI_1, show richA τ π n (d + 1) h b m = richA τ π n d (h + 1) b m from by rw [richA, if_neg c]]
      exact richM hn hr ok p2 d (h + 1) fu I b m (by omega) (by omega) hx
end
theorem p_richest {I : Mem} (h : PlayR I) (p1 p2 : Int32) : ∃ r I1 I2, fnX9_richest I p1 p2 = some (r, I1) ∧ fnX10_richest I1 p1 p2 = some (r, I2) ∧ PlayR I2 ∧ PFr I I2 := by
  obtain ⟨rd, τ, π, na, ac, im, ok, hx, hm⟩ := h
  rcases rd_cases ok with h0 | hr
  · refine same (f := fun I => fnX9_richest I p1 p2) (g := fun I => fnX10_richest I p1 p2) ok hx hm (r := -1000002) ?_ ?_
    · show fnX9_richest I p1 p2 = _
      unfold fnX9_richest
      rw [hx.1, if_pos (by rw [h0]; rfl)]
    · show fnX10_richest I p1 p2 = _
      unfold fnX10_richest
      rw [show inb 0 164 = true from rfl, ck_t, show I 112 (ix 0) = nI rd from hm.1, if_pos (by rw [h0]; rfl)]
  have b1 := lt_int p1 1
  have b2 := lt_int 40 p1
  have i1 : (1 : Int32).toInt = 1 := rfl
  have i40 : (40 : Int32).toInt = 40 := rfl
  have hX : fnX9_richest I p1 p2 = if ¬ ((1 : Int) ≤ p1.toInt ∧ p1.toInt ≤ 40) then some ((-1000001), I) else if upTo p2 (nI 1) = 0 then some ((-1000001), I) else fnX9_richest_41 FU I p1 p2 (-1000000) (-1) 0 := by
    unfold fnX9_richest fnX9_richest_29
    rw [hx.1, if_neg (show ¬ nI rd = 0 by rw [hr]; decide), isUpTo_e, ob_s]
    by_cases c : (1 : Int) ≤ p1.toInt ∧ p1.toInt ≤ 40
    · rw [if_neg (by rw [b1]; omega), if_neg (by rw [b2]; omega), if_neg (fun q => q c)]
      rfl
    · rw [if_pos c]
      by_cases c3 : p1 < 1
      · rw [if_pos c3]
      · rw [if_neg c3, if_pos (by rw [b2]; rw [b1] at c3; omega)]
  have hM : ∀ J, MPl J rd τ π na ac im → fnX10_richest J p1 p2 = if ¬ ((1 : Int) ≤ p1.toInt ∧ p1.toInt ≤ 40) then some ((-1000001), J) else if upTo p2 (nI 1) = 0 then some ((-1000001), J) else fnX10_richest_46 FU J p1 p2 (-1000000) (-1) 0 := fun J hJ => by
    unfold fnX10_richest fnX10_richest_34
    rw [show inb 0 164 = true from rfl, ck_t, show J 112 (ix 0) = nI rd from hJ.1, if_neg (show ¬ nI rd = 0 by rw [hr]; decide), in_g, ob_s, w64, show (1 : Int64).toInt = 1 from rfl, show (40 : Int64).toInt = 40 from rfl]
    dsimp only
    by_cases c : (1 : Int) ≤ p1.toInt ∧ p1.toInt ≤ 40
    · rw [if_pos c, if_neg (show ¬ (1 : Int32) = 0 by decide), if_neg (fun q => q c), show (0 : Int64) = lN 0 from rfl, show (1 : Int64) = lN 1 from rfl, show lN 0 = 0 from rfl, in_u J p2 1 (by decide), ob_s]
    · rw [if_neg c, if_pos rfl, if_pos c]
  by_cases c1 : (1 : Int) ≤ p1.toInt ∧ p1.toInt ≤ 40
  · by_cases c2 : upTo p2 (nI 1) = 0
    · exact same (f := fun I => fnX9_richest I p1 p2) (g := fun I => fnX10_richest I p1 p2) ok hx hm (r := -1000001) (by show fnX9_richest I p1 p2 = _; rw [hX, if_neg (fun q => q c1), if_pos c2]) (by show fnX10_richest I p1 p2 = _; rw [hM I hm, if_neg (fun q => q c1), if_pos c2])
    obtain ⟨n, hn, rfl⟩ : ∃ n : Nat, n ≤ 200 ∧ p1 = nI n := by
      obtain ⟨j, hj, rfl⟩ := nI_of (x := p1) (by rw [lt0_iff]; omega)
      rw [nI_toInt hj] at c1
      exact ⟨j, by omega, rfl⟩
    obtain ⟨I2, e1, e2⟩ := richX hn ok p2 168 0 FU I (-1000000) (-1) (by omega) (by unfold FU; omega) (by decide) hx
    refine two (f := fun I => fnX9_richest I (nI n) p2) (g := fun I => fnX10_richest I (nI n) p2) (r := (if p2 = 0 then (richA τ π n 168 0 (-1000000) (-1)).1 else (richA τ π n 168 0 (-1000000) (-1)).2)) ok hm ok ⟨I2, ?_, XPl_pr hx e2, FX.p80 e2⟩ (fun J hJ => ?_)
    · show fnX9_richest I (nI n) p2 = _
      rw [hX, if_neg (fun q => q c1), if_neg c2]
      exact e1
    · obtain ⟨J2, g1, g3⟩ := richM hn hr ok p2 168 0 FU J (-1000000) (-1) (by omega) (by unfold FU; omega) hJ
      refine ⟨J2, ?_, MPl_t ok hJ g3, g3.fm⟩
      show fnX10_richest J (nI n) p2 = _
      rw [hM J hJ, if_neg (fun q => q c1), if_neg c2]
      exact g1
  · exact same (f := fun I => fnX9_richest I p1 p2) (g := fun I => fnX10_richest I p1 p2) ok hx hm (r := -1000001) (by show fnX9_richest I p1 p2 = _; rw [hX, if_pos c1]) (by show fnX10_richest I p1 p2 = _; rw [hM I hm, if_pos c1])
