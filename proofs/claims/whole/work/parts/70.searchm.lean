/-! the reference's search -/
def RlM (I : Mem) (a : Nat) (f : Ly) : Prop := ∀ q g, q < 168 → g < 64 → I a (64 * q + g) = bestI (f q g)
theorem RlM.ag {I I1 : Mem} {a : Nat} {f : Ly} (h : RlM I a f) (e : I1 a = I a) : RlM I1 a f := fun q g h1 h2 => by rw [e]; exact h q g h1 h2
/-- the tried row, the next layer -/
def FrS (I I1 : Mem) : Prop := (∀ x, x ≠ 112 → x ≠ 121 → I1 x = I x) ∧ ∀ j, j < 123 → I1 112 j = I 112 j
theorem FrS.rf {I : Mem} : FrS I I := ⟨fun _ _ _ => rfl, fun _ _ => rfl⟩
theorem FrS.tr {I I1 I2 : Mem} (h : FrS I I1) (h2 : FrS I1 I2) : FrS I I2 := ⟨fun x a c => (h2.1 x a c).trans (h.1 x a c), fun y hy => (h2.2 y hy).trans (h.2 y hy)⟩
theorem FrS.m {I I1 : Mem} (h : FrM 123 I I1) : FrS I I1 := ⟨fun x a _ => h.1 x a, fun j hj => h.2 j (by omega)⟩
theorem StA.bd {τ : Tb} {lt : Option Nat} {f : Ly} {b : Option Nat} {D : Dn} {f' : Ly} {b' : Option Nat} {k : Nat} (h : StA τ lt f b D f' b') (hs : SupL τ k f) (hb : ∀ u, b = some u → u ≤ k) : ∀ u, b' = some u → u ≤ k + 1 := fun u e => by
  rcases h.2.2 u e with q | ⟨q, g, t, c, _, a1, a2, a3, _⟩
  · have := hb u q
    omega
  · have := (hs q g c a2).2.2
    omega
theorem LV.no {lt : Option Nat} {lv : Int32} (h : LV lt lv) {l : Nat} (hl : l < 8) : nI l = lv ↔ lt = some l := by
  cases lt with
  | none => exact ⟨fun q => absurd q (h l hl), fun q => by cases q⟩
  | some l' =>
    have q := nI_eq (a := l) (b := l') (by omega) (by have := h.1; omega)
    rw [h.2]
    exact ⟨fun z => by rw [q.mp z], fun z => by cases z; rfl⟩
def hitB (τ : Tb) (lt : Option Nat) (p : Option Nat) : Bool := match p with
  | none => false
  | some p => match lt with
    | none => false
    | some l => decide (tle τ p = l)
theorem hitB_e {τ : Tb} {lt : Option Nat} {q g t : Nat} : hitB τ lt (coreA τ (q / 4) ((q % 4 + t) % 4) g).1 = true ↔ hitA τ lt q g t := by
  unfold hitA
  cases (coreA τ (q / 4) ((q % 4 + t) % 4) g).1 with
  | none => exact ⟨fun z => (by cases z), fun ⟨p, l, a, _⟩ => (by cases a)⟩
  | some p =>
    cases lt with
    | none => exact ⟨fun z => (by cases z), fun ⟨_, l, _, a, _⟩ => (by cases a)⟩
    | some l => exact ⟨fun z => ⟨p, l, rfl, rfl, of_decide_eq_true z⟩, fun ⟨p', l', a, a1, a2⟩ => by cases a; cases a1; exact decide_eq_true a2⟩
theorem g158 {K : Mem} {τ : Tb} (hT : Tok τ) (h : TabM K τ) {pn : Option Nat} (hp : ∀ p, pn = some p → p < tn τ) {lt : Option Nat} {lv : Int32} (hlv : LV lt lv) (v : Nat) : fnX10_goOn_158 K lv (nI v) (onM pn) = some (bestI (if hitB τ lt pn then some v else none), K) := by
  have h6 := hT.2.1
  unfold fnX10_goOn_158 fnX10_goOn_187 fnX10_goOn_189
  cases pn with
  | none =>
    rw [if_pos (show onM none = -1000000 from rfl)]
    rfl
  | some p =>
    have hpn := hp p rfl
    have hl8 := (hT.2.2.1 p hpn).2.2.2.1
    rw [show onM (some p) = nI p from rfl, if_neg (none_ne (by omega)), show (3 : Int32) + 4 * nI p + 2 = nI (5 + 4 * p) from by rw [i34, show (2 : Int32) = nI 2 from rfl, nI_add]; congr 1; omega, inb_nI (show 5 + 4 * p < 164 by omega) (by decide), ck_t, ix_nI (show 5 + 4 * p < 2 ^ 31 by omega), (h.2.2 p hpn).2.2.1]
    have q := hlv.no hl8
    by_cases c : nI (tle τ p) = lv
    · rw [if_pos c]
      have e : hitB τ lt (some p) = true := by
        rw [q.mp c]
        exact decide_eq_true rfl
      rw [e]
      rfl
    · rw [if_neg c]
      have e : hitB τ lt (some p) = false := by
        cases lt with
        | none => rfl
        | some l => exact decide_eq_false (fun z => c (q.mpr (by rw [z])))
      rw [e]
      rfl
theorem goOnM {J : Mem} {τ : Tb} {π : Pl} (hT : Tok τ) (ht : TabM J τ) (hp : PlM J 0 π) (hsh : π.2.2.2.1 ≤ 23) {f f' : Ly} (h0 : RlM J 120 f) (h1 : RlM J 121 f') {q g t c : Nat} (hq : q < 168) (hg : g < 2 ^ tn τ) (htt : t < 2) (hf : f q g = some c) (hc : c < 500) (hb : ∀ q g u, f' q g = some u → u < 1000) {lt : Option Nat} {lv : Int32} (hlv : LV lt lv) : ∃ r J1, fnX10_goOn J (nI (64 * q + g)) (nI t) lv = some (bestI r, J1) ∧ RlM J1 121 (updL f' (dstA τ q g t) (c + t)) ∧ (hitA τ lt q g t → r = some (c + t)) ∧ (¬ hitA τ lt q g t → r = none) ∧ FrS J J1 := by
  obtain ⟨c0, w0, l0, sh, sc, lit, gg, st, kk⟩ := π
  have g6 := g64 hT hg
  have e1 : nI (64 * q + g) / 256 = nI (q / 4) := by
    rw [show (256 : Int32) = nI 256 from rfl, pk_div (by omega) (by omega) (by omega)]
    congr 1
    omega
  have e2 : irm (nI (64 * q + g) / 64 + nI t) 4 = nI ((q % 4 + t) % 4) := by
    rw [show (64 : Int32) = nI 64 from rfl, pk_div (by omega) (by omega) (by omega), nI_add, show (4 : Int32) = nI 4 from rfl, irm_nI (by omega) (by omega) (by omega)]
    congr 1
    omega
  have e3 : irm (nI (64 * q + g)) 64 = nI g := by
    rw [show (64 : Int32) = nI 64 from rfl, irm_nI (by omega) (by omega) (by omega)]
    congr 1
    omega
  have n0 : inb 150 164 = true := inb_nI (n := 150) (by decide) (by decide)
  have n1 : inb 151 164 = true := inb_nI (n := 151) (by decide) (by decide)
  have n2 : inb 152 164 = true := inb_nI (n := 152) (by decide) (by decide)
  have n7 : inb 157 164 = true := inb_nI (n := 157) (by decide) (by decide)
  have x0 : ix 150 = 150 := ix_nI (n := 150) (by decide)
  have x1 : ix 151 = 151 := ix_nI (n := 151) (by decide)
  have x2 : ix 152 = 152 := ix_nI (n := 152) (by decide)
  have x7 : ix 157 = 157 := ix_nI (n := 157) (by decide)
  unfold fnX10_goOn
  rw [show fnX10_copyRow J 0 123 = _ from copyRow_e (f := 0) (t := 123) (by omega) (by omega) (by omega) J, ob_s, e1, e2, e3, n0, n1, n7, n2]
  simp only [ck_t, bnd_e, x0, x1, x2, x7]
  generalize hK : up2 (up2 (up2 (up2 (mv2 J 112 0 112 123 41) 112 150 (nI (q / 4))) 112 151 (nI ((q % 4 + t) % 4))) 112 157 (nI g)) 112 152 0 = K
  have pm := PlM_mv (t := 123) hp
  have kx : ∀ x, x ≠ 112 → K x = J x := fun x hx => by rw [← hK, up2_ne hx, up2_ne hx, up2_ne hx, up2_ne hx, mv2_ne hx]
  have kj : ∀ j, j < 123 → K 112 j = J 112 j := fun j hj => by rw [← hK, up2_r, if_neg (by omega), up2_r, if_neg (by omega), up2_r, if_neg (by omega), up2_r, if_neg (by omega), mv2_r, if_neg (by omega)]
  have kr : ∀ j, j ≠ 150 → j ≠ 151 → j ≠ 152 → j ≠ 157 → K 112 j = mv2 J 112 0 112 123 41 112 j := fun j a0 a1 a2 a7 => by rw [← hK, up2_r, if_neg (by omega), up2_r, if_neg (by omega), up2_r, if_neg (by omega), up2_r, if_neg (by omega)]
  have pK : PlM K 123 (q / 4, (q % 4 + t) % 4, 0, sh, sc, lit, g, st, kk) := by
    obtain ⟨p0, p1, p2, p3, p4, p5, p6, p7, p8⟩ := pm
    refine ⟨?_, ?_, ?_, ?_, ?_, ?_, ?_, ?_, fun i hi => ?_⟩
    · rw [← hK]; simp [up2_r]
    · rw [← hK]; simp [up2_r]
    · rw [← hK]; simp [up2_r]; rfl
    · rw [kr _ (by omega) (by omega) (by omega) (by omega)]; exact p3
    · rw [kr _ (by omega) (by omega) (by omega) (by omega)]; exact p4
    · rw [kr _ (by omega) (by omega) (by omega) (by omega)]; exact p5
    · rw [← hK]; simp [up2_r]
    · rw [kr _ (by omega) (by omega) (by omega) (by omega)]; exact p7
    · rw [kr _ (by omega) (by omega) (by omega) (by omega)]; exact p8 i hi
  have tK : TabM K τ := TabM_t hT ht ⟨kx, kj⟩
  have okK : Pok τ (q / 4, (q % 4 + t) % 4, 0, sh, sc, lit, g, st, kk) := ⟨by show q / 4 < 42; omega, by show (q % 4 + t) % 4 < 4; omega, by show 0 < 2; omega, hsh, hg⟩
  obtain ⟨I5, s1, s2, s3⟩ := stepM_e hT (b := 123) (Or.inr rfl) tK pK okK
  obtain ⟨k1, k2, k3, k4, k5⟩ := core_e τ (q / 4) ((q % 4 + t) % 4) sh g sc lit st kk
  obtain ⟨o1, o2, o3, o4⟩ := core_ok (t := t) hT hq hg
  have hpin : ∀ p, (coreA τ (q / 4) ((q % 4 + t) % 4) g).1 = some p → p < tn τ := fun p hp => stepA_pin (π := (q / 4, (q % 4 + t) % 4, 0, 0, 0, 0, g, 0, fun _ => 0)) hp
  have v12 : K 120 (64 * q + g) + nI t = nI (c + t) := by rw [kx 120 (by omega), h0 q g hq g6, hf]; exact nI_add c t
  rw [inb_nI (show 64 * q + g < 10752 by omega) (by decide), ck_t, ix_nI (show 64 * q + g < 2 ^ 31 by omega), v12, show fnX10_step K 123 = _ from s1, ob_s, k1]
  dsimp only
  have m0 : I5 112 150 = _ := s2.1
  have m1 : I5 112 151 = _ := s2.2.1
  have m2 : I5 112 152 = _ := s2.2.2.1
  have m6 : I5 112 157 = _ := s2.2.2.2.2.2.2.1
  rw [k2] at m0
  rw [k3] at m1
  rw [k4] at m2
  rw [k5] at m6
  have f5 : FrS J I5 := FrS.tr ⟨fun x a _ => kx x a, kj⟩ (FrS.m s3)
  have t5 : TabM I5 τ := TabM_fr hT tK s3
  have n5 : RlM I5 121 f' := h1.ag (by rw [s3.1 121 (by omega), kx 121 (by omega)])
  unfold fnX10_stateOf fnX10_goOn_145 fnX10_goOn_157
  simp only [ob_s, bnd_e]
  have hr1 : hitA τ lt q g t → (if hitB τ lt (coreA τ (q / 4) ((q % 4 + t) % 4) g).1 = true then some (c + t) else none) = some (c + t) := fun z => if_pos (hitB_e.mpr z)
  have hr0 : ¬ hitA τ lt q g t → (if hitB τ lt (coreA τ (q / 4) ((q % 4 + t) % 4) g).1 = true then some (c + t) else none) = none := fun z => if_neg (fun y => z (hitB_e.mp y))
  by_cases cl : (coreA τ (q / 4) ((q % 4 + t) % 4) g).2.2.2.1 = 0
  · have hd : dstA τ q g t = some (4 * (coreA τ (q / 4) ((q % 4 + t) % 4) g).2.1 + (coreA τ (q / 4) ((q % 4 + t) % 4) g).2.2.1, (coreA τ (q / 4) ((q % 4 + t) % 4) g).2.2.2.2) := if_pos cl
    have g6' := g64 hT o4
    have es : ((4 : Int32) * nI (coreA τ (q / 4) ((q % 4 + t) % 4) g).2.1 + nI (coreA τ (q / 4) ((q % 4 + t) % 4) g).2.2.1) * 64 + nI (coreA τ (q / 4) ((q % 4 + t) % 4) g).2.2.2.2 = nI (64 * (4 * (coreA τ (q / 4) ((q % 4 + t) % 4) g).2.1 + (coreA τ (q / 4) ((q % 4 + t) % 4) g).2.2.1) + (coreA τ (q / 4) ((q % 4 + t) % 4) g).2.2.2.2) := by
      rw [show (4 : Int32) = nI 4 from rfl, show (64 : Int32) = nI 64 from rfl, pk_mul, nI_add, pk_mul, nI_add]
      congr 1
      omega
    rw [if_pos (show I5 112 152 = 0 by rw [m2, cl]; rfl), m0, m1, m6, es, hd]
    generalize hy : (coreA τ (q / 4) ((q % 4 + t) % 4) g).2.2.2.2 = gy at o4 g6'
    generalize hz : 4 * (coreA τ (q / 4) ((q % 4 + t) % 4) g).2.1 + (coreA τ (q / 4) ((q % 4 + t) % 4) g).2.2.1 = qy
    have q8 : qy < 168 := by omega
    have ny := n5 qy gy q8 g6'
    rw [inb_nI (show 64 * qy + gy < 10752 by omega) (by decide), ix_nI (show 64 * qy + gy < 2 ^ 31 by omega)]
    simp only [ck_t]
    have wr : ∀ x : Option Nat, x = omin (f' qy gy) (c + t) → ∃ r J1, fnX10_goOn_158 (up2 I5 121 (64 * qy + gy) (bestI x)) lv (nI (c + t)) (onM (coreA τ (q / 4) ((q % 4 + t) % 4) g).1) = some (bestI r, J1) ∧ RlM J1 121 (updL f' (some (qy, gy)) (c + t)) ∧ (hitA τ lt q g t → r = some (c + t)) ∧ (¬ hitA τ lt q g t → r = none) ∧ FrS J J1 := fun x hx => by
      have fu : FrS I5 (up2 I5 121 (64 * qy + gy) (bestI x)) := ⟨fun y a c => up2_ne c, fun j hj => by rw [up2_ne (by omega)]⟩
      have tU : TabM (up2 I5 121 (64 * qy + gy) (bestI x)) τ := by
        unfold TabM
        rw [up2_ne (show (112 : Nat) ≠ 121 by omega)]
        exact t5
      rw [g158 hT tU hpin hlv (c + t)]
      refine ⟨_, _, rfl, fun q1 g1 hq1 hg1 => ?_, hr1, hr0, f5.tr fu⟩
      show up2 I5 121 (64 * qy + gy) (bestI x) 121 (64 * q1 + g1) = bestI (if q1 = qy ∧ g1 = gy then omin (f' qy gy) (c + t) else f' q1 g1)
      by_cases z : q1 = qy ∧ g1 = gy
      · rw [if_pos z, z.1, z.2, up2_s, hx]
      · rw [if_neg z, up2_r, if_neg (by omega)]
        exact n5 q1 g1 hq1 hg1
    cases hv : f' qy gy with
    | none =>
      rw [hv] at ny wr
      rw [if_pos (show I5 121 (64 * qy + gy) = -1000000 from ny)]
      exact wr (some (c + t)) rfl
    | some u =>
      have hu := hb _ _ _ hv
      rw [hv] at ny wr
      have ny' : I5 121 (64 * qy + gy) = nI u := ny
      rw [if_neg (show ¬ I5 121 (64 * qy + gy) = -1000000 by rw [ny']; exact none_ne (by omega)), ny']
      have ql := nI_leI (a := u) (b := c + t) (by omega) (by omega)
      by_cases z : u ≤ c + t
      · rw [if_pos (ql.mpr z)]
        exact wr (some u) (by unfold omin; simp only [if_neg (show ¬ c + t < u by omega)])
      · rw [if_neg (fun y => z (ql.mp y))]
        exact wr (some (c + t)) (by unfold omin; simp only [if_pos (show c + t < u by omega)])
  · have hd : dstA τ q g t = none := if_neg cl
    rw [if_neg (show ¬ I5 112 152 = 0 by rw [m2]; exact nz (by omega) cl), hd, g158 hT t5 hpin hlv (c + t)]
    exact ⟨_, _, rfl, n5, hr1, hr0, f5⟩
/-- what is done of a round, up to v -/
def Dv (v : Nat) : Dn := fun q g t => 2 * (64 * q + g) + t < v
theorem sup64 {τ : Tb} (hT : Tok τ) {k : Nat} {f : Ly} (h : SupL τ k f) {q g c : Nat} (e : f q g = some c) : g < 64 := g64 hT (h q g c e).2.1
theorem FrS.tab {I I1 : Mem} {τ : Tb} (hT : Tok τ) (h : TabM I τ) (hf : FrS I I1) : TabM I1 τ := by
  refine TabM_B.mpr (TabB_ag hT (TabM_B.mp h) (fun j _ _ => hf.2 j (by omega)))
theorem loop94 {rec59 : Mem → Int32 → Int32 → Int32 → Int32 → Option (Int32 × Mem)} {τ : Tb} {π : Pl} (hT : Tok τ) (hsh : π.2.2.2.1 ≤ 23) {f : Ly} {b : Option Nat} {k : Nat} (hk : k < 400) (hs : SupL τ k f) (hbb : ∀ u, b = some u → u ≤ k) {lt : Option Nat} {lv : Int32} (hlv : LV lt lv) (n k4 : Int32) : ∀ (d v fu : Nat) (J : Mem) (f' : Ly) (b' : Option Nat), v + d = 21504 → d < fu → TabM J τ → PlM J 0 π → RlM J 120 f → RlM J 121 f' → StA τ lt f b (Dv v) f' b' → ∃ J1 f'' b'', fnX10_nudgesFor_94 rec59 fu J lv n (bestI b') k4 (nI v) = fnX10_nudgesFor_166 rec59 FU J1 lv n (bestI b'') k4 0 ∧ RlM J1 121 f'' ∧ Rnd τ lt f b f'' b'' ∧ FrS J J1
  | d, v, 0, _, _, _, _, q, _, _, _, _, _ => absurd q (by omega)
  | 0, v, fu + 1, J, f', b', h1, _, ht, hp, h0, hx, hS => by
    show ∃ J1 f'' b'', fnX10_nudgesFor_94b rec59 _ J _ _ _ _ _ = _ ∧ _
    unfold fnX10_nudgesFor_94b
    rw [if_pos (show (21504 : Int32) ≤ nI v from nI_le (a := 21504) (by omega) (by omega))]
    refine ⟨J, f', b', rfl, hx, hS.cg (fun q g t c a1 a2 => ⟨fun _ => trivial, fun _ => ?_⟩), FrS.rf⟩
    have := (hs q g c a2).1
    have := sup64 hT hs a2
    show 2 * (64 * q + g) + t < v
    omega
  | d + 1, v, fu + 1, J, f', b', h1, h2, ht, hp, h0, hx, hS => by
    show ∃ J1 f'' b'', fnX10_nudgesFor_94b rec59 _ J _ _ _ _ _ = _ ∧ _
    unfold fnX10_nudgesFor_94b fnX10_nudgesFor_155 fnX10_nudgesFor_150 fnX10_nudgesFor_156 fnX10_nudgesFor_157
    have e1 : nI v / 2 = nI (64 * (v / 128) + v / 2 % 64) := by
      rw [show (2 : Int32) = nI 2 from rfl, pk_div (by omega) (by omega) (by omega)]
      congr 1
      omega
    have e2 : irm (nI v) 2 = nI (v % 2) := by rw [show (2 : Int32) = nI 2 from rfl, irm_nI (by omega) (by omega) (by omega)]
    rw [if_neg (show ¬ (21504 : Int32) ≤ nI v from nI_ge (b := 21504) (by omega) (by omega)), e1, e2, inb_nI (show 64 * (v / 128) + v / 2 % 64 < 10752 by omega) (by decide), ck_t, ix_nI (show 64 * (v / 128) + v / 2 % 64 < 2 ^ 31 by omega), h0 (v / 128) (v / 2 % 64) (by omega) (by omega)]
    simp only [bnd_e, nI_1]
    have step : ∀ q g t c, t < 2 → f q g = some c → (addD (Dv v) (v / 128) (v / 2 % 64) (v % 2) q g t ↔ Dv (v + 1) q g t) := fun q g t c a1 a2 => by
      have l1 := (hs q g c a2).1
      have l2 := sup64 hT hs a2
      show (2 * (64 * q + g) + t < v ∨ (q = v / 128 ∧ g = v / 2 % 64 ∧ t = v % 2)) ↔ 2 * (64 * q + g) + t < v + 1
      omega
    cases hf : f (v / 128) (v / 2 % 64) with
    | none =>
      rw [if_pos (show bestI none = -1000000 from rfl)]
      refine loop94 hT hsh hk hs hbb hlv n k4 d (v + 1) fu J f' b' (by omega) (by omega) ht hp h0 hx (hS.cg (fun q g t c a1 a2 => ?_))
      rw [← step q g t c a1 a2]
      refine ⟨fun z => Or.inl z, fun z => ?_⟩
      rcases z with z | ⟨z1, z2, z3⟩
      · exact z
      · rw [z1, z2, hf] at a2
        cases a2
    | some c =>
      have hc := hs _ _ _ hf
      have hb' := hS.bd hs hbb
      have hsn := hS.1
      have hb2 : ∀ q g u, f' q g = some u → u < 1000 := fun q g u e => by
        have := (SupL.nx hT hS hs q g u e).2.2
        omega
      obtain ⟨r, J1, g1, g2, g3, g4, g5⟩ := goOnM (q := v / 128) (g := v / 2 % 64) (t := v % 2) hT ht hp hsh h0 hx hc.1 hc.2.1 (by omega) hf (by omega) hb2 hlv
      rw [if_neg (show ¬ bestI (some c) = -1000000 from none_ne (by omega)), g1, ob_s]
      dsimp only
      have fin : ∀ b2 : Option Nat, (hitA τ lt (v / 128) (v / 2 % 64) (v % 2) → b2 = omin b' (c + v % 2)) → (¬ hitA τ lt (v / 128) (v / 2 % 64) (v % 2) → b2 = b') → ∃ J2 f'' b'', fnX10_nudgesFor_94 rec59 fu J1 lv n (bestI b2) k4 (nI (v + 1)) = fnX10_nudgesFor_166 rec59 FU J2 lv n (bestI b'') k4 0 ∧ RlM J2 121 f'' ∧ Rnd τ lt f b f'' b'' ∧ FrS J J2 := fun b2 z1 z0 => by
        obtain ⟨J2, f'', b'', y1, y2, y3, y4⟩ := loop94 hT hsh hk hs hbb hlv n k4 d (v + 1) fu J1 (updL f' (dstA τ (v / 128) (v / 2 % 64) (v % 2)) (c + v % 2)) b2 (by omega) (by omega) (g5.tab hT ht) (PlM_ag hp (fun j _ _ => g5.2 j (by omega))) (h0.ag (g5.1 120 (by omega) (by omega))) g2 ((hS.st (by omega) hf z1 z0).cg step)
        exact ⟨J2, f'', b'', y1, y2, y3, g5.tr y4⟩
      by_cases hh : hitA τ lt (v / 128) (v / 2 % 64) (v % 2)
      · rw [g3 hh, show bestI (some (c + v % 2)) = nI (c + v % 2) from rfl, if_neg (none_ne (by omega))]
        cases hb0 : b' with
        | none =>
          rw [if_pos (show bestI none = -1000000 from rfl)]
          exact fin (some (c + v % 2)) (fun _ => by rw [hb0]; rfl) (fun z => absurd hh z)
        | some u =>
          have hu := hb' u hb0
          rw [if_neg (show ¬ bestI (some u) = -1000000 from none_ne (by omega)), show bestI (some u) = nI u from rfl]
          have ql := nI_leI (a := u) (b := c + v % 2) (by omega) (by omega)
          by_cases z : u ≤ c + v % 2
          · rw [if_pos (ql.mpr z)]
            exact fin (some u) (fun _ => by rw [hb0]; unfold omin; simp only [if_neg (show ¬ c + v % 2 < u by omega)]) (fun y => absurd hh y)
          · rw [if_neg (fun y => z (ql.mp y))]
            exact fin (some (c + v % 2)) (fun _ => by rw [hb0]; unfold omin; simp only [if_pos (show c + v % 2 < u by omega)]) (fun y => absurd hh y)
      · rw [g4 hh, if_pos (show bestI none = -1000000 from rfl)]
        exact fin b' (fun z => absurd z hh) (fun _ => rfl)
theorem loop68 {rec59 : Mem → Int32 → Int32 → Int32 → Int32 → Option (Int32 × Mem)} (lv n b k4 : Int32) : ∀ (d v fu : Nat) (J : Mem), v + d = 10752 → d < fu → ∃ J1, fnX10_nudgesFor_68 rec59 fu J lv n b k4 (nI v) = fnX10_nudgesFor_94 rec59 FU J1 lv n b k4 0 ∧ (∀ s, v ≤ s → s < 10752 → J1 121 s = -1000000) ∧ (∀ s, s < v → J1 121 s = J 121 s) ∧ ∀ x, x ≠ 121 → J1 x = J x
  | d, v, 0, _, _, q => absurd q (by omega)
  | 0, v, fu + 1, J, h1, _ => by
    show ∃ J1, fnX10_nudgesFor_68b rec59 _ J _ _ _ _ _ = _ ∧ _
    unfold fnX10_nudgesFor_68b
    rw [if_pos (show (10752 : Int32) ≤ nI v from nI_le (a := 10752) (by omega) (by omega))]
    exact ⟨J, rfl, fun s a c => absurd c (by omega), fun _ _ => rfl, fun _ _ => rfl⟩
  | d + 1, v, fu + 1, J, h1, h2 => by
    show ∃ J1, fnX10_nudgesFor_68b rec59 _ J _ _ _ _ _ = _ ∧ _
    unfold fnX10_nudgesFor_68b
    rw [if_neg (show ¬ (10752 : Int32) ≤ nI v from nI_ge (b := 10752) (by omega) (by omega)), inb_nI (show v < 10752 by omega) (by decide), ck_t, ix_nI (by omega), bnd_e, bnd_e, nI_1]
    obtain ⟨J1, a1, a2, a3, a4⟩ := loop68 lv n b k4 d (v + 1) fu (up2 J 121 v (-1000000)) (by omega) (by omega)
    refine ⟨J1, a1, fun s c1 c2 => ?_, fun s c1 => ?_, fun x hx => (a4 x hx).trans (up2_ne hx)⟩
    · by_cases z : s = v
      · rw [z, a3 v (by omega), up2_s]
      · exact a2 s (by omega) c2
    · rw [a3 s (by omega), up2_r, if_neg (by omega)]
theorem loop166 {rec59 : Mem → Int32 → Int32 → Int32 → Int32 → Option (Int32 × Mem)} (lv n b k4 : Int32) : ∀ (d v fu : Nat) (J : Mem), v + d = 10752 → d < fu → ∃ J1, fnX10_nudgesFor_166 rec59 fu J lv n b k4 (nI v) = rec59 J1 lv n b (k4 + 1) ∧ (∀ s, v ≤ s → s < 10752 → J1 120 s = J 121 s) ∧ (∀ s, s < v → J1 120 s = J 120 s) ∧ ∀ x, x ≠ 120 → J1 x = J x
  | d, v, 0, _, _, q => absurd q (by omega)
  | 0, v, fu + 1, J, h1, _ => by
    show ∃ J1, fnX10_nudgesFor_166b rec59 _ J _ _ _ _ _ = _ ∧ _
    unfold fnX10_nudgesFor_166b
    rw [if_pos (show (10752 : Int32) ≤ nI v from nI_le (a := 10752) (by omega) (by omega)), bnd_e]
    exact ⟨J, rfl, fun s a c => absurd c (by omega), fun _ _ => rfl, fun _ _ => rfl⟩
  | d + 1, v, fu + 1, J, h1, h2 => by
    show ∃ J1, fnX10_nudgesFor_166b rec59 _ J _ _ _ _ _ = _ ∧ _
    unfold fnX10_nudgesFor_166b
    rw [if_neg (show ¬ (10752 : Int32) ≤ nI v from nI_ge (b := 10752) (by omega) (by omega)), inb_nI (show v < 10752 by omega) (by decide), ck_t, ck_t, ix_nI (by omega), bnd_e, bnd_e, nI_1]
    obtain ⟨J1, a1, a2, a3, a4⟩ := loop166 lv n b k4 d (v + 1) fu (up2 J 120 v (J 121 v)) (by omega) (by omega)
    refine ⟨J1, a1, fun s c1 c2 => ?_, fun s c1 => ?_, fun x hx => (a4 x hx).trans (up2_ne hx)⟩
    · by_cases z : s = v
      · rw [z, a3 v (by omega), up2_s]
      · rw [a2 s (by omega) c2, up2_ne (by omega)]
    · rw [a3 s (by omega), up2_r, if_neg (by omega)]
/-- what the reference's search writes -/
def FrU (I I1 : Mem) : Prop := (∀ x, x ≠ 112 → x ≠ 120 → x ≠ 121 → I1 x = I x) ∧ ∀ j, j < 123 → I1 112 j = I 112 j
theorem FrU.tr {I I1 I2 : Mem} (h : FrU I I1) (h2 : FrU I1 I2) : FrU I I2 := ⟨fun x a c e => (h2.1 x a c e).trans (h.1 x a c e), fun y hy => (h2.2 y hy).trans (h.2 y hy)⟩
theorem FrU.s {I I1 : Mem} (h : FrS I I1) : FrU I I1 := ⟨fun x a _ c => h.1 x a c, h.2⟩
theorem FrU.x {I I1 : Mem} (h : ∀ x, x ≠ 120 → x ≠ 121 → I1 x = I x) : FrU I I1 := ⟨fun x _ c e => h x c e, fun j _ => by rw [h 112 (by omega) (by omega)]⟩
theorem FrU.tab {I I1 : Mem} {τ : Tb} (hT : Tok τ) (h : TabM I τ) (hf : FrU I I1) : TabM I1 τ := TabM_B.mpr (TabB_ag hT (TabM_B.mp h) (fun j _ _ => hf.2 j (by omega)))
theorem loop59 {τ : Tb} {π : Pl} (hT : Tok τ) (hsh : π.2.2.2.1 ≤ 23) {lt : Option Nat} {lv : Int32} (hlv : LV lt lv) {n : Nat} (hn : n ≤ 20) : ∀ (d k fu : Nat) (J : Mem) (f : Ly) (b : Option Nat), k + d = n → d < fu → SupL τ k f → (∀ u, b = some u → u ≤ k) → TabM J τ → PlM J 0 π → RlM J 120 f → ∃ J1 f' b', fnX10_nudgesFor_59 fu J lv (nI n) (bestI b) (nI k) = fnX10_nudgesFor_203 FU J1 lv (bestI b') 0 ∧ RlM J1 120 f' ∧ Rnds τ lt d f b f' b' ∧ SupL τ n f' ∧ (∀ u, b' = some u → u ≤ n) ∧ FrU J J1
  | d, k, 0, _, _, _, _, q, _, _, _, _, _ => absurd q (by omega)
  | 0, k, fu + 1, J, f, b, h1, _, hs, hb, ht, hp, h0 => by
    show ∃ J1 f' b', fnX10_nudgesFor_59b _ J _ _ _ _ = _ ∧ _
    unfold fnX10_nudgesFor_59b
    rw [if_pos (show nI n ≤ nI k from nI_le (by omega) (by omega))]
    have : k = n := by omega
    subst this
    exact ⟨J, f, b, rfl, h0, ⟨rfl, rfl⟩, hs, hb, ⟨fun _ _ _ _ => rfl, fun _ _ => rfl⟩⟩
  | d + 1, k, fu + 1, J, f, b, h1, h2, hs, hb, ht, hp, h0 => by
    show ∃ J1 f' b', fnX10_nudgesFor_59b _ J _ _ _ _ = _ ∧ _
    unfold fnX10_nudgesFor_59b
    rw [if_neg (show ¬ nI n ≤ nI k from nI_ge (by omega) (by omega))]
    obtain ⟨J1, a1, a2, a3, a4⟩ := loop68 (rec59 := fnX10_nudgesFor_59 fu) lv (nI n) (bestI b) (nI k) 10752 0 FU J (by omega) (by unfold FU; omega)
    have u1 : FrU J J1 := FrU.x (fun x _ c => a4 x c)
    obtain ⟨J2, f1, b1, c1, c2, c3, c4⟩ := loop94 (rec59 := fnX10_nudgesFor_59 fu) hT hsh (show k < 400 by omega) hs hb hlv (nI n) (nI k) 21504 0 FU J1 nonF b (by omega) (by unfold FU; omega) (u1.tab hT ht) (PlM_ag hp (fun j _ _ => u1.2 j (by omega))) (h0.ag (a4 120 (by omega))) (fun q g hq hg => a2 _ (by omega) (by omega)) (StA.s0.cg (fun q g t c _ _ => ⟨fun z => absurd z id, fun z => absurd (show 2 * (64 * q + g) + t < 0 from z) (by omega)⟩))
    obtain ⟨J3, g1, g2, g3, g4⟩ := loop166 (rec59 := fnX10_nudgesFor_59 fu) lv (nI n) (bestI b1) (nI k) 10752 0 FU J2 (by omega) (by unfold FU; omega)
    have u3 : FrU J J3 := (u1.tr (FrU.s c4)).tr (FrU.x (fun x c _ => g4 x c))
    obtain ⟨J4, f2, b2, k1, k2, k3, k4, k5, k6⟩ := loop59 hT hsh hlv hn d (k + 1) fu J3 f1 b1 (by omega) (by omega) (SupL.nx hT c3 hs) (c3.bd hs hb) (u3.tab hT ht) (PlM_ag hp (fun j _ _ => u3.2 j (by omega))) (fun q g hq hg => by rw [g2 _ (by omega) (by omega)]; exact c2 q g hq hg)
    refine ⟨J4, f2, b2, ?_, k2, ⟨f1, b1, c3, k3⟩, k4, k5, u3.tr k6⟩
    rw [show (0 : Int32) = nI 0 from rfl] at a1 c1 ⊢
    rw [a1, c1, g1, nI_1, k1]
    rfl
theorem loop203 {J : Mem} {f : Ly} (h0 : RlM J 120 f) {k : Nat} (hk : k < 400) (hs : ∀ q g c, f q g = some c → q < 168 ∧ g < 64 ∧ c ≤ k) : ∀ (d s fu : Nat) (b : Option Nat), s + d = 10752 → d < fu → IsMin (fun v => ∃ q g, f q g = some v ∧ 64 * q + g < s) b → ∃ r, fnX10_nudgesFor_203 fu J (-1000000) (bestI b) (nI s) = some (bestI r, J) ∧ IsMin (fun v => ∃ q g, f q g = some v) r
  | d, s, 0, _, _, q, _ => absurd q (by omega)
  | 0, s, fu + 1, b, h1, _, hb => by
    show ∃ r, fnX10_nudgesFor_203b _ J _ _ _ = _ ∧ _
    unfold fnX10_nudgesFor_203b fnX10_nudgesFor_264
    rw [if_pos (show (10752 : Int32) ≤ nI s from nI_le (a := 10752) (by omega) (by omega))]
    refine ⟨b, rfl, hb.cg (fun v => ⟨fun ⟨q, g, a, _⟩ => ⟨q, g, a⟩, fun ⟨q, g, a⟩ => ⟨q, g, a, ?_⟩⟩)⟩
    have := hs q g v a
    omega
  | d + 1, s, fu + 1, b, h1, h2, hb => by
    show ∃ r, fnX10_nudgesFor_203b _ J _ _ _ = _ ∧ _
    unfold fnX10_nudgesFor_203b fnX10_nudgesFor_256 fnX10_nudgesFor_246 fnX10_nudgesFor_257
    have es : s = 64 * (s / 64) + s % 64 := by omega
    have e0 : J 120 s = bestI (f (s / 64) (s % 64)) := by
      have := h0 (s / 64) (s % 64) (by omega) (by omega)
      rw [← es] at this
      exact this
    rw [if_neg (show ¬ (10752 : Int32) ≤ nI s from nI_ge (b := 10752) (by omega) (by omega)), if_pos rfl, inb_nI (show s < 10752 by omega) (by decide), ck_t, ix_nI (by omega), e0]
    simp only [bnd_e, nI_1, ck_t]
    have bd : ∀ u, b = some u → u ≤ k := fun u e => by
      obtain ⟨q, g, a, _⟩ := hb.2 u e
      exact (hs q g u a).2.2
    cases hf : f (s / 64) (s % 64) with
    | none =>
      rw [if_pos (show bestI none = -1000000 from rfl)]
      refine loop203 h0 hk hs d (s + 1) fu b (by omega) (by omega) (hb.cg (fun v => ⟨fun ⟨q, g, a, a1⟩ => ⟨q, g, a, by omega⟩, fun ⟨q, g, a, a1⟩ => ⟨q, g, a, ?_⟩⟩))
      have l := hs q g v a
      by_cases z : 64 * q + g = s
      · rw [show s / 64 = q by omega, show s % 64 = g by omega, a] at hf
        cases hf
      · omega
    | some c =>
      have hc := (hs _ _ _ hf).2.2
      have nxt : ∀ b2, b2 = omin b c → ∃ r, fnX10_nudgesFor_203 fu J (-1000000) (bestI b2) (nI (s + 1)) = some (bestI r, J) ∧ IsMin (fun v => ∃ q g, f q g = some v) r := fun b2 hb2 => by
        refine loop203 h0 hk hs d (s + 1) fu b2 (by omega) (by omega) ?_
        rw [hb2]
        refine (hb.ad c).cg (fun v => ?_)
        constructor
        · rintro (⟨q, g, a, a1⟩ | rfl)
          · exact ⟨q, g, a, by omega⟩
          · exact ⟨_, _, hf, by omega⟩
        · rintro ⟨q, g, a, a1⟩
          have l := hs q g v a
          by_cases z : 64 * q + g = s
          · rw [show s / 64 = q by omega, show s % 64 = g by omega, a] at hf
            cases hf
            exact Or.inr rfl
          · exact Or.inl ⟨q, g, a, by omega⟩
      rw [if_neg (show ¬ bestI (some c) = -1000000 from none_ne (by omega)), show bestI (some c) = nI c from rfl]
      cases hb0 : b with
      | none =>
        rw [if_pos (show bestI none = -1000000 from rfl)]
        exact nxt (some c) (by rw [hb0]; rfl)
      | some u =>
        have hu := bd u hb0
        rw [if_neg (show ¬ bestI (some u) = -1000000 from none_ne (by omega)), show bestI (some u) = nI u from rfl]
        have ql := nI_leI (a := u) (b := c) (by omega) (by omega)
        by_cases z : u ≤ c
        · rw [if_pos (ql.mpr z)]
          exact nxt (some u) (by rw [hb0]; unfold omin; simp only [if_neg (show ¬ c < u by omega)])
        · rw [if_neg (fun y => z (ql.mp y))]
          exact nxt (some c) (by rw [hb0]; unfold omin; simp only [if_pos (show c < u by omega)])
def oneF (q0 g0 : Nat) : Ly := fun q g => if q = q0 ∧ g = g0 then some 0 else none
theorem oneF_s {τ : Tb} {q0 g0 : Nat} (h1 : q0 < 168) (h2 : g0 < 2 ^ tn τ) : SupL τ 0 (oneF q0 g0) := fun q g c e => by
  unfold oneF at e
  by_cases z : q = q0 ∧ g = g0
  · rw [if_pos z] at e
    cases e
    exact ⟨by omega, by rw [z.2]; exact h2, Nat.le_refl 0⟩
  · rw [if_neg z] at e
    cases e
theorem loop2 (lv n : Int32) : ∀ (d v fu : Nat) (J : Mem), v + d = 10752 → d < fu → ∃ J1, fnX10_nudgesFor_2 fu J lv n (nI v) = fnX10_nudgesFor_2 1 J1 lv n (nI 10752) ∧ (∀ s, v ≤ s → s < 10752 → J1 120 s = -1000000) ∧ (∀ s, s < v → J1 120 s = J 120 s) ∧ ∀ x, x ≠ 120 → J1 x = J x
  | d, v, 0, _, _, q => absurd q (by omega)
  | 0, v, fu + 1, J, h1, _ => by
    have : v = 10752 := by omega
    subst this
    refine ⟨J, ?_, fun s a c => absurd c (by omega), fun _ _ => rfl, fun _ _ => rfl⟩
    show fnX10_nudgesFor_2b _ J _ _ _ = fnX10_nudgesFor_2b _ J _ _ _
    unfold fnX10_nudgesFor_2b
    rw [if_pos (show (10752 : Int32) ≤ nI 10752 from nI_le (a := 10752) (by omega) (by omega)), if_pos (show (10752 : Int32) ≤ nI 10752 from nI_le (a := 10752) (by omega) (by omega))]
  | d + 1, v, fu + 1, J, h1, h2 => by
    show ∃ J1, fnX10_nudgesFor_2b _ J _ _ _ = _ ∧ _
    unfold fnX10_nudgesFor_2b
    rw [if_neg (show ¬ (10752 : Int32) ≤ nI v from nI_ge (b := 10752) (by omega) (by omega)), inb_nI (show v < 10752 by omega) (by decide), ck_t, ix_nI (by omega), bnd_e, bnd_e, nI_1]
    obtain ⟨J1, a1, a2, a3, a4⟩ := loop2 lv n d (v + 1) fu (up2 J 120 v (-1000000)) (by omega) (by omega)
    refine ⟨J1, a1, fun s c1 c2 => ?_, fun s c1 => ?_, fun x hx => (a4 x hx).trans (up2_ne hx)⟩
    · by_cases z : s = v
      · rw [z, a3 v (by omega), up2_s]
      · exact a2 s (by omega) c2
    · rw [a3 s (by omega), up2_r, if_neg (by omega)]
theorem Rnds.no {τ : Tb} : ∀ (d : Nat) {f f' : Ly} {b' : Option Nat}, Rnds τ none d f none f' b' → b' = none
  | 0, _, _, _, h => h.2
  | d + 1, _, _, _, ⟨f1, b1, h1, h2⟩ => by
    have e : b1 = none := by
      cases hb : b1 with
      | none => rfl
      | some u =>
        rcases h1.2.2 u hb with q | ⟨_, _, _, _, _, _, _, _, ⟨_, _, _, q, _⟩⟩
        · cases q
        · cases q
    rw [e] at h2
    exact Rnds.no d h2
theorem nudgesM {J : Mem} {τ : Tb} {π : Pl} (hT : Tok τ) (ht : TabM J τ) (hp : PlM J 0 π) (ok : Pok τ π) {lt : Option Nat} {lv : Int32} (hlv : LV lt lv) (hl0 : lt = none → lv = -1000000) {n : Nat} (hn : n ≤ 20) : ∃ r J1 f' b', fnX10_nudgesFor J lv (nI n) = some (bestI r, J1) ∧ Rnds τ lt n (oneF (4 * π.1 + π.2.1) π.2.2.2.2.2.2.1) none f' b' ∧ (lt ≠ none → r = b') ∧ (lt = none → b' = none → IsMin (fun v => ∃ q g, f' q g = some v) r) ∧ FrU J J1 := by
  obtain ⟨o1, o2, o3, o4, o5⟩ := ok
  have g6 := g64 hT o5
  have hq : 4 * π.1 + π.2.1 < 168 := by omega
  unfold fnX10_nudgesFor
  obtain ⟨J1, a1, a2, a3, a4⟩ := loop2 lv (nI n) 10752 0 FU J (by omega) (by unfold FU; omega)
  rw [show (0 : Int32) = nI 0 from rfl, a1]
  have m0 : J1 112 27 = nI π.1 := by rw [a4 112 (by omega)]; exact hp.1
  have m1 : J1 112 28 = nI π.2.1 := by rw [a4 112 (by omega)]; exact hp.2.1
  have m2 : J1 112 34 = nI π.2.2.2.2.2.2.1 := by rw [a4 112 (by omega)]; exact hp.2.2.2.2.2.2.1
  have es : ((4 : Int32) * nI π.1 + nI π.2.1) * 64 + nI π.2.2.2.2.2.2.1 = nI (64 * (4 * π.1 + π.2.1) + π.2.2.2.2.2.2.1) := by
    rw [show (4 : Int32) = nI 4 from rfl, show (64 : Int32) = nI 64 from rfl, pk_mul, nI_add, pk_mul, nI_add]
    exact congrArg nI (by omega)
  have e2 : fnX10_nudgesFor_2 1 J1 lv (nI n) (nI 10752) = fnX10_nudgesFor_59 FU (up2 J1 120 (64 * (4 * π.1 + π.2.1) + π.2.2.2.2.2.2.1) 0) lv (nI n) (-1000000) 0 := by
    show fnX10_nudgesFor_2b _ J1 _ _ _ = _
    unfold fnX10_nudgesFor_2b fnX10_stateOf
    rw [if_pos (show (10752 : Int32) ≤ nI 10752 from nI_le (a := 10752) (by omega) (by omega)), show inb 27 164 = true from inb_nI (n := 27) (by decide) (by decide), show inb 28 164 = true from inb_nI (n := 28) (by decide) (by decide), show inb 34 164 = true from inb_nI (n := 34) (by decide) (by decide), ck_t, ck_t, ck_t, show ix 27 = 27 from ix_nI (n := 27) (by decide), show ix 28 = 28 from ix_nI (n := 28) (by decide), show ix 34 = 34 from ix_nI (n := 34) (by decide), ob_s, m0, m1, m2, es]
    dsimp only
    rw [inb_nI (show 64 * (4 * π.1 + π.2.1) + π.2.2.2.2.2.2.1 < 10752 by omega) (by decide), ck_t, ix_nI (show 64 * (4 * π.1 + π.2.1) + π.2.2.2.2.2.2.1 < 2 ^ 31 by omega), bnd_e]
  rw [e2]
  generalize hJ2 : up2 J1 120 (64 * (4 * π.1 + π.2.1) + π.2.2.2.2.2.2.1) 0 = J2
  have u2 : FrU J J2 := FrU.x (fun x c _ => by rw [← hJ2, up2_ne c, a4 x c])
  have r2 : RlM J2 120 (oneF (4 * π.1 + π.2.1) π.2.2.2.2.2.2.1) := fun q g c1 c2 => by
    rw [← hJ2, up2_r]
    unfold oneF
    by_cases z : q = 4 * π.1 + π.2.1 ∧ g = π.2.2.2.2.2.2.1
    · rw [if_pos ⟨rfl, by rw [z.1, z.2]⟩, if_pos z]
      rfl
    · rw [if_neg (by omega), if_neg z]
      exact a2 _ (by omega) (by omega)
  obtain ⟨J3, f', b', c1, c2, c3, c4, c5, c6⟩ := loop59 hT o4 hlv hn n 0 FU J2 _ none (by omega) (by unfold FU; omega) (oneF_s hq o5) (fun u e => by cases e) (u2.tab hT ht) (PlM_ag hp (fun j _ _ => u2.2 j (by omega))) r2
  rw [show fnX10_nudgesFor_59 FU J2 lv (nI n) (-1000000) 0 = _ from c1]
  cases lt with
  | some l =>
    refine ⟨b', J3, f', b', ?_, c3, fun _ => rfl, (fun z => by cases z), u2.tr c6⟩
    have hne : ¬ lv = -1000000 := by
      rw [hlv.2]
      exact none_ne (by have := hlv.1; omega)
    rw [show FU = 99999 + 1 from rfl]
    show fnX10_nudgesFor_203b _ J3 _ _ _ = _
    unfold fnX10_nudgesFor_203b fnX10_nudgesFor_264
    rw [if_neg (show ¬ (10752 : Int32) ≤ 0 by decide), if_neg hne]
  | none =>
    have hl := hl0 rfl
    by_cases hb : b' = none
    · obtain ⟨r, d1, d2⟩ := loop203 c2 (show n < 400 by omega) (fun q g c e => ⟨(c4 q g c e).1, sup64 hT c4 e, (c4 q g c e).2.2⟩) 10752 0 FU none (by omega) (by unfold FU; omega) (IsMin.no (fun v ⟨q, g, _, a⟩ => absurd a (by omega)))
      refine ⟨r, J3, f', b', ?_, c3, fun z => absurd rfl z, fun _ _ => d2, u2.tr c6⟩
      rw [hl, hb]
      exact d1
    · exact absurd (Rnds.no n c3) hb
