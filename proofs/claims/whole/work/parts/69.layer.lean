/-! the class's layers -/
def bestI (o : Option Nat) : Int32 := match o with
  | none => -1000000
  | some v => nI v
def costI (o : Option Nat) : Int32 := match o with
  | none => 0
  | some v => nI (v + 1)
def inF (f : Ly) (p : Nat) : Option Nat := f (p % 168) (p / 168)
def isF (f : Ly) (p : Nat) : Bool := (inF f p).isSome
def nonF : Ly := fun _ _ => none
def LayX (I : Mem) (a n : Nat) (f : Ly) : Prop := I a 2 = nI (cnt (isF f) n) ∧ (∀ k, k < cnt (isF f) n → ∃ p, p < n ∧ I (a + 1) k = nI p ∧ isF f p = true) ∧ (∀ p, p < n → isF f p = true → ∃ k, k < cnt (isF f) n ∧ I (a + 1) k = nI p) ∧ ∀ p, p < n → I (a + 2) p = costI (inF f p)
theorem LayX.ag {I I1 : Mem} {a n : Nat} {f : Ly} (h : LayX I a n f) (h0 : I1 a = I a) (h1 : I1 (a + 1) = I (a + 1)) (h2 : I1 (a + 2) = I (a + 2)) : LayX I1 a n f := by
  unfold LayX
  rw [h0, h1, h2]
  exact h
theorem inF_upd {f : Ly} {q g v : Nat} (hq : q < 168) (p : Nat) : inF (updL f (some (q, g)) v) p = if p = 168 * g + q then omin (f q g) v else inF f p := by
  unfold inF
  show (if p % 168 = q ∧ p / 168 = g then omin (f q g) v else f (p % 168) (p / 168)) = _
  by_cases c : p = 168 * g + q
  · rw [if_pos c, if_pos (by omega)]
  · rw [if_neg c, if_neg (by omega)]
theorem omin_some (o : Option Nat) (v : Nat) : (omin o v).isSome = true := by cases o <;> rfl
theorem cnt_non (n : Nat) : cnt (isF nonF) n = 0 := by
  induction n with
  | zero => rfl
  | succ n ih =>
    unfold cnt
    rw [ih]
    rfl
theorem reachX {I : Mem} {a n x g c w v : Nat} {f : Ly} (h : LayX I a n f) (hn : n ≤ 10752) (hc : c < 42) (hw : w < 4) (hp : 168 * g + (4 * c + w) < n) (h6 : I x 6 = nI g) (h0 : I x 0 = nI c) (h1 : I x 1 = nI w) (hv : v < 1000) (hb : ∀ q g u, f q g = some u → u < 1000) : ∃ I1, fnX3_reach a n x I (nI v) = some I1 ∧ LayX I1 a n (updL f (some (4 * c + w, g)) v) ∧ ∀ y, y ≠ a → y ≠ a + 1 → y ≠ a + 2 → I1 y = I y := by
  obtain ⟨q1, q2, q3, q4⟩ := h
  have hq : 4 * c + w < 168 := by omega
  have e1 : ((I x 6 * 168) + (I x 0 * 4)) + I x 1 = nI (168 * g + (4 * c + w)) := by
    rw [h6, h0, h1, show (168 : Int32) = nI 168 from rfl, show (4 : Int32) = nI 4 from rfl, pk_mul, pk_mul, nI_add, nI_add]
    congr 1
    omega
  have eN : nI n - 1 = nI (n - 1) := by
    obtain ⟨m, rfl⟩ : ∃ m, n = m + 1 := ⟨n - 1, by omega⟩
    exact nI_pred m
  have iu := inF_upd (f := f) (g := g) (v := v) hq
  generalize hP : 168 * g + (4 * c + w) = p at hp e1 iu
  have ff : inF f p = f (4 * c + w) g := by
    unfold inF
    rw [show p % 168 = 4 * c + w by omega, show p / 168 = g by omega]
  have iF : ∀ y, isF (updL f (some (4 * c + w, g)) v) y = if y = p then true else isF f y := fun y => by
    unfold isF
    rw [iu y]
    by_cases z : y = p
    · rw [if_pos z, if_pos z, omin_some]
    · rw [if_neg z, if_neg z]
  have np : inb (nI p) n = true := inb_nI hp (by omega)
  have xp : ix (nI p) = p := ix_nI (by omega)
  unfold fnX3_reach fnX3_reach_89 fnX3_reach_107
  simp only [bnd_e]
  rw [e1, eN, isUpTo_e, ob_s]
  dsimp only
  rw [upTo_1 (show p ≤ n - 1 by omega) (by omega), if_neg (show ¬ (1 : Int32) = 0 by decide), np, ck_t, xp]
  cases hf : f (4 * c + w) g with
  | none =>
    rw [hf] at ff
    have F0 : isF f p = false := by unfold isF; rw [ff]; rfl
    have cl := cnt_lt F0 n hp
    have ca : cnt (isF (updL f (some (4 * c + w, g)) v)) n = cnt (isF f) n + 1 := cnt_ad F0 (by rw [iF, if_pos rfl]) (fun y hy => by rw [iF, if_neg hy]) n hp
    rw [if_pos (show I (a + 2) p = 0 by rw [q4 p hp, ff]; rfl), if_neg (show ¬ nI n ≤ I a 2 by rw [q1]; exact nI_ge cl (by omega)), q1, inb_nI cl (by omega), ck_t, ck_t, ix_nI (show cnt (isF f) n < 2 ^ 31 by omega), nI_1]
    rw [show up2 I (a + 1) (cnt (isF f) n) (nI p) a 2 = nI (cnt (isF f) n) from by rw [up2_ne (by omega)]; exact q1, nI_1]
    refine ⟨_, rfl, ⟨?_, fun k hk => ?_, fun y hy hy2 => ?_, fun y hy => ?_⟩, fun y z1 z2 z3 => ?_⟩
    · rw [ca, up2_ne (by omega), up2_s]
    · rw [ca] at hk
      rw [up2_ne (by omega), up2_ne (by omega)]
      by_cases z : k = cnt (isF f) n
      · exact ⟨p, hp, by rw [z, up2_s], by rw [iF, if_pos rfl]⟩
      · obtain ⟨p', a1, a2, a3⟩ := q2 k (by omega)
        refine ⟨p', a1, by rw [up2_r, if_neg (by omega)]; exact a2, ?_⟩
        rw [iF, a3]
        split <;> rfl
    · rw [ca, up2_ne (by omega), up2_ne (by omega)]
      by_cases z : y = p
      · exact ⟨cnt (isF f) n, by omega, by rw [z, up2_s]⟩
      · rw [iF, if_neg z] at hy2
        obtain ⟨k, a1, a2⟩ := q3 y hy hy2
        exact ⟨k, by omega, by rw [up2_r, if_neg (by omega)]; exact a2⟩
    · rw [iu y, up2_r]
      by_cases z : y = p
      · rw [if_pos ⟨rfl, z⟩, if_pos z, hf]
        rfl
      · rw [if_neg (by omega), if_neg z, up2_ne (by omega), up2_ne (by omega)]
        exact q4 y hy
    · rw [up2_ne z3, up2_ne z1, up2_ne z2]
  | some u =>
    rw [hf] at ff
    have hu := hb _ _ _ hf
    have cs : cnt (isF (updL f (some (4 * c + w, g)) v)) n = cnt (isF f) n := cnt_cg n (fun y _ => by
      rw [iF]
      by_cases z : y = p
      · rw [if_pos z, z]
        unfold isF
        rw [ff]
        rfl
      · rw [if_neg z])
    have e4 : I (a + 2) p = nI (u + 1) := by rw [q4 p hp, ff]; rfl
    rw [if_neg (show ¬ I (a + 2) p = 0 by rw [e4]; exact nz (by omega) (by omega)), e4, ck_t, ck_t, nI_1]
    have em : mnI (nI (u + 1)) (nI (v + 1)) = costI (omin (some u) v) := by
      unfold mnI omin
      have q := nI_ltI (a := v + 1) (b := u + 1) (by omega) (by omega)
      by_cases z : v < u
      · rw [if_pos (q.mpr (by omega))]
        simp only [if_pos z]
        rfl
      · rw [if_neg (fun y => z (by have := q.mp y; omega))]
        simp only [if_neg z]
        rfl
    rw [em]
    refine ⟨_, rfl, ⟨?_, fun k hk => ?_, fun y hy hy2 => ?_, fun y hy => ?_⟩, fun y z1 z2 z3 => up2_ne z3⟩
    · rw [cs, up2_ne (by omega), q1]
    · rw [cs] at hk
      rw [up2_ne (by omega)]
      obtain ⟨p', a1, a2, a3⟩ := q2 k hk
      refine ⟨p', a1, a2, ?_⟩
      rw [iF, a3]
      split <;> rfl
    · rw [cs, up2_ne (by omega)]
      refine q3 y hy ?_
      rw [iF] at hy2
      by_cases z : y = p
      · rw [z]
        unfold isF
        rw [ff]
        rfl
      · rw [if_neg z] at hy2
        exact hy2
    · rw [iu y, up2_r]
      by_cases z : y = p
      · rw [if_pos ⟨rfl, z⟩, if_pos z, hf]
      · rw [if_neg (by omega), if_neg z]
        exact q4 y hy
theorem clearLoop {a n s : Nat} (hn : n ≤ 10752) (hs : s ≤ n) : ∀ (d k fu : Nat) (I : Mem), k + d = s → d < fu → I a 2 = nI s → (∀ j, j < s → ∃ p, p < n ∧ I (a + 1) j = nI p) → (∀ p, p < n → I (a + 2) p ≠ 0 → ∃ j, k ≤ j ∧ j < s ∧ I (a + 1) j = nI p) → ∃ I1, fnX3_clear_2 a n fu I (nI k) = some I1 ∧ I1 a 2 = 0 ∧ (∀ p, p < n → I1 (a + 2) p = 0) ∧ ∀ x, x ≠ a → x ≠ a + 2 → I1 x = I x
  | d, k, 0, _, _, q, _, _, _ => absurd q (by omega)
  | 0, k, fu + 1, I, h1, _, h2, h3, h4 => by
    show ∃ I1, fnX3_clear_2b a n _ I _ = _ ∧ _
    unfold fnX3_clear_2b
    rw [h2, if_pos (show nI s ≤ nI k from nI_le (by omega) (by omega)), bnd_e]
    refine ⟨_, rfl, up2_s, fun p hp => ?_, fun x hx _ => up2_ne hx⟩
    rw [up2_ne (by omega)]
    by_cases z : I (a + 2) p = 0
    · exact z
    · obtain ⟨j, a1, a2, _⟩ := h4 p hp z
      omega
  | d + 1, k, fu + 1, I, h1, h5, h2, h3, h4 => by
    obtain ⟨p, p1, p2⟩ := h3 k (by omega)
    show ∃ I1, fnX3_clear_2b a n _ I _ = _ ∧ _
    unfold fnX3_clear_2b
    rw [h2, if_neg (show ¬ nI s ≤ nI k from nI_ge (by omega) (by omega)), inb_nI (show k < n by omega) (by omega), ck_t, ix_nI (by omega), p2, inb_nI p1 (by omega), ck_t, ix_nI (by omega), bnd_e, bnd_e, nI_1]
    have o1 : ∀ j, up2 I (a + 2) p 0 (a + 1) j = I (a + 1) j := fun j => by rw [up2_ne (by omega)]
    obtain ⟨I1, a1, a2, a3, a4⟩ := clearLoop hn hs d (k + 1) fu (up2 I (a + 2) p 0) (by omega) (by omega) ((congrFun (show up2 I (a + 2) p 0 a = I a from up2_ne (by omega)) 2).trans h2) (fun j hj => by rw [o1]; exact h3 j hj) (fun y hy hz => by
      by_cases z : y = p
      · rw [z, up2_s] at hz
        exact absurd rfl hz
      · rw [up2_r, if_neg (by omega)] at hz
        obtain ⟨j, b1, b2, b3⟩ := h4 y hy hz
        refine ⟨j, ?_, b2, by rw [o1]; exact b3⟩
        by_cases w : j = k
        · rw [w, p2] at b3
          exact absurd ((nI_eq (by omega) (by omega)).mp b3) (fun q => z q.symm)
        · omega)
    exact ⟨I1, a1, a2, a3, fun x z1 z2 => (a4 x z1 z2).trans (up2_ne z2)⟩
theorem layClear {I : Mem} {a n : Nat} {f : Ly} (h : LayX I a n f) (hn : n ≤ 10752) : ∃ I1, fnX3_clear a n I = some I1 ∧ LayX I1 a n nonF ∧ ∀ x, x ≠ a → x ≠ a + 1 → x ≠ a + 2 → I1 x = I x := by
  obtain ⟨q1, q2, q3, q4⟩ := h
  have hs := cnt_le (isF f) n
  obtain ⟨I1, a1, a2, a3, a4⟩ := clearLoop hn hs (cnt (isF f) n) 0 FU I (by omega) (by unfold FU; omega) q1 (fun j hj => by obtain ⟨p, b1, b2, _⟩ := q2 j hj; exact ⟨p, b1, b2⟩) (fun p hp hz => by
    have : isF f p = true := by
      unfold isF
      cases e : inF f p with
      | none => rw [q4 p hp, e] at hz; exact absurd rfl hz
      | some u => rfl
    obtain ⟨k, b1, b2⟩ := q3 p hp this
    exact ⟨k, by omega, b1, b2⟩)
  refine ⟨I1, a1, ⟨by rw [cnt_non, a2]; rfl, fun k hk => ?_, fun p _ hp => ?_, fun p hp => a3 p hp⟩, fun x z1 _ z3 => a4 x z1 z3⟩
  · rw [cnt_non] at hk
    omega
  · cases hp
theorem fewer_e {I : Mem} {b : Option Nat} {v : Nat} (hb : ∀ u, b = some u → u < 1000) (hv : v < 1000) : fnX6_fewer I (bestI b) (nI v) = some (bestI (omin b v), I) := by
  unfold fnX6_fewer fnX6_fewer_15
  cases b with
  | none =>
    rw [if_pos (show bestI none = -1000000 from rfl)]
    rfl
  | some u =>
    have hu := hb u rfl
    rw [if_neg (show ¬ bestI (some u) = -1000000 from none_ne (by omega))]
    have q := nI_ltI (a := v) (b := u) (by omega) (by omega)
    show some (mnI (nI u) (nI v), I) = _
    unfold mnI omin
    by_cases z : v < u
    · rw [if_pos (q.mpr z)]
      simp only [if_pos z]
      rfl
    · rw [if_neg (fun y => z (q.mp y))]
      simp only [if_neg z]
      rfl
theorem g86 {J : Mem} {nw nx n c w l g v : Nat} {f : Ly} (h : LayX J nx n f) (hn : n ≤ 10752) (hc : c < 42) (hw : w < 4) (hl : l < 2) (hp : 168 * g + (4 * c + w) < n) (h0 : J 89 0 = nI c) (h1 : J 89 1 = nI w) (h2 : J 89 2 = nI l) (h6 : J 89 6 = nI g) (hv : v < 1000) (hb : ∀ q g u, f q g = some u → u < 1000) : ∃ I1, fnX6_goOn_86 nw nx n 21 J (nI v) = some I1 ∧ LayX I1 nx n (updL f (if l = 0 then some (4 * c + w, g) else none) v) ∧ ∀ y, y ≠ nx → y ≠ nx + 1 → y ≠ nx + 2 → I1 y = J y := by
  unfold fnX6_goOn_86 fnX6_goOn_109
  by_cases z : l = 0
  · obtain ⟨I1, a1, a2, a3⟩ := reachX h hn hc hw hp h6 h0 h1 hv hb
    rw [h2, if_pos (show nI l = 0 by rw [z]; rfl), a1, ob_s, if_pos z]
    exact ⟨I1, rfl, a2, a3⟩
  · rw [h2, if_neg (nz (by omega) z), if_neg z]
    exact ⟨J, rfl, h, fun _ _ _ _ => rfl⟩
/-- the letter that is looked for -/
def LV (lt : Option Nat) (lv : Int32) : Prop := match lt with
  | some l => l < 8 ∧ lv = nI l
  | none => ∀ l, l < 8 → nI l ≠ lv
theorem goOnX {I : Mem} {τ : Tb} (hT : Tok τ) (ht : TabX I 21 τ) {nw nx n : Nat} {f : Ly} {b : Option Nat} (hL : LayX I nx n f) (hB : I 82 3 = bestI b) (hn : n ≤ 10752) (hr : 168 * 2 ^ tn τ ≤ n) (hx : nx = 83 ∨ nx = 86 ∨ 122 ≤ nx) {q g t c : Nat} (hq : q < 168) (hg : g < 2 ^ tn τ) (htt : t < 2) (hc : c < 500) (hb : ∀ q g u, f q g = some u → u < 1000) (hbb : ∀ u, b = some u → u < 1000) {lt : Option Nat} {lv : Int32} (hlv : LV lt lv) : ∃ I1 b2, fnX6_goOn nw nx n 21 I (nI (168 * g + q)) (nI t) (nI (c + t)) lv = some I1 ∧ LayX I1 nx n (updL f (dstA τ q g t) (c + t)) ∧ I1 82 3 = bestI b2 ∧ (hitA τ lt q g t → b2 = omin b (c + t)) ∧ (¬ hitA τ lt q g t → b2 = b) ∧ (∀ y, y ≠ 82 → y ≠ 89 → y ≠ 90 → y ≠ nx → y ≠ nx + 1 → y ≠ nx + 2 → I1 y = I y) := by
  have h6 := hT.2.1
  have g6 := g64 hT hg
  have hP : 168 * g + q < n := by
    have : 168 * (g + 1) ≤ 168 * 2 ^ tn τ := Nat.mul_le_mul_left 168 hg
    omega
  have e1 : irm (nI (168 * g + q)) 168 / 4 = nI (q / 4) := by
    rw [show (168 : Int32) = nI 168 from rfl, irm_nI (by omega) (by omega) (by omega), show (4 : Int32) = nI 4 from rfl, pk_div (by omega) (by omega) (by omega)]
    congr 1
    omega
  have e2 : irm (nI (168 * g + q)) 4 = nI (q % 4) := by
    rw [show (4 : Int32) = nI 4 from rfl, irm_nI (by omega) (by omega) (by omega)]
    congr 1
    omega
  have e3 : nI (168 * g + q) / 168 = nI g := by
    rw [show (168 : Int32) = nI 168 from rfl, pk_div (by omega) (by omega) (by omega)]
    congr 1
    omega
  unfold fnX6_goOn fnX4_place fnX4_turn
  rw [e1, e2, e3]
  simp only [bnd_e, ob_s]
  generalize hJ0 : up2 (up2 (up2 (up2 (up2 I 89 0 (nI (q / 4))) 89 1 (nI (q % 4))) 89 2 0) 89 3 0) 89 6 (nI g) = J0
  have j01 : J0 89 1 = nI (q % 4) := by rw [← hJ0]; simp [up2_r]
  rw [j01, turnI_e (q % 4) (by omega) t (by omega)]
  generalize hJ : up2 J0 89 1 (nI ((q % 4 + t) % 4)) = J
  have fJ : FrP 89 I J := by
    rw [← hJ, ← hJ0]
    exact ((((FrP.p0.tr FrP.p0).tr FrP.p0).tr FrP.p0).tr FrP.p0).tr FrP.p0
  have pJ : PlX J 89 (q / 4, (q % 4 + t) % 4, 0, 0, J 89 4, J 89 5, g, J 89 7, J 90) := by
    refine ⟨?_, ?_, ?_, ?_, rfl, rfl, ?_, rfl, fun _ _ => rfl⟩
    · rw [← hJ, ← hJ0]; simp [up2_r]
    · rw [← hJ]; simp [up2_r]
    · rw [← hJ, ← hJ0]; simp [up2_r]; rfl
    · rw [← hJ, ← hJ0]; simp [up2_r]; rfl
    · rw [← hJ, ← hJ0]; simp [up2_r]
  have okJ : Pok τ (q / 4, (q % 4 + t) % 4, 0, 0, J 89 4, J 89 5, g, J 89 7, J 90) := ⟨by show q / 4 < 42; omega, by show (q % 4 + t) % 4 < 4; omega, by show 0 < 2; omega, by show 0 ≤ 23; omega, hg⟩
  have tJ : TabX J 21 τ := TabX_fr ht fJ (by omega)
  obtain ⟨I7, s1, s2, s3, s4⟩ := step_e hT tJ pJ okJ (by omega)
  obtain ⟨k1, k2, k3, k4, k5⟩ := core_e τ (q / 4) ((q % 4 + t) % 4) 0 g (J 89 4) (J 89 5) (J 89 7) (J 90)
  obtain ⟨o1, o2, o3, o4⟩ := core_ok (t := t) hT hq hg
  rw [s1, ob_s, s3, k1]
  have m0 : I7 89 0 = _ := s2.1
  have m1 : I7 89 1 = _ := s2.2.1
  have m2 : I7 89 2 = _ := s2.2.2.1
  have m6 : I7 89 6 = _ := s2.2.2.2.2.2.2.1
  rw [k2] at m0
  rw [k3] at m1
  rw [k4] at m2
  rw [k5] at m6
  have f7 : FrP 89 I I7 := fJ.tr s4
  have L7 : LayX I7 nx n f := hL.ag (f7 _ (by omega) (by omega)) (f7 _ (by omega) (by omega)) (f7 _ (by omega) (by omega))
  have B7 : I7 82 3 = bestI b := by rw [f7 82 (by omega) (by omega)]; exact hB
  have t7 : TabX I7 21 τ := TabX_fr ht f7 (by omega)
  have hp' : 168 * (coreA τ (q / 4) ((q % 4 + t) % 4) g).2.2.2.2 + (4 * (coreA τ (q / 4) ((q % 4 + t) % 4) g).2.1 + (coreA τ (q / 4) ((q % 4 + t) % 4) g).2.2.1) < n := by
    have : 168 * ((coreA τ (q / 4) ((q % 4 + t) % 4) g).2.2.2.2 + 1) ≤ 168 * 2 ^ tn τ := Nat.mul_le_mul_left 168 o4
    omega
  have fin : ∀ (K : Mem) (b2 : Option Nat), K 89 = I7 89 → (∀ y, y ≠ 82 → K y = I7 y) → K 82 3 = bestI b2 → (hitA τ lt q g t → b2 = omin b (c + t)) → (¬ hitA τ lt q g t → b2 = b) → ∃ I1 b2, fnX6_goOn_86 nw nx n 21 K (nI (c + t)) = some I1 ∧ LayX I1 nx n (updL f (dstA τ q g t) (c + t)) ∧ I1 82 3 = bestI b2 ∧ (hitA τ lt q g t → b2 = omin b (c + t)) ∧ (¬ hitA τ lt q g t → b2 = b) ∧ (∀ y, y ≠ 82 → y ≠ 89 → y ≠ 90 → y ≠ nx → y ≠ nx + 1 → y ≠ nx + 2 → I1 y = I y) := fun K b2 z89 zy zb z1 z0 => by
    have LK : LayX K nx n f := L7.ag (zy _ (by omega)) (zy _ (by omega)) (zy _ (by omega))
    obtain ⟨I1, a1, a2, a3⟩ := g86 (nw := nw) LK hn o1 o2 o3 hp' (by rw [z89]; exact m0) (by rw [z89]; exact m1) (by rw [z89]; exact m2) (by rw [z89]; exact m6) (show c + t < 1000 by omega) hb
    refine ⟨I1, b2, a1, a2, by rw [a3 82 (by omega) (by omega) (by omega)]; exact zb, z1, z0, fun y y1 y2 y3 y4 y5 y6 => ?_⟩
    rw [a3 y y4 y5 y6, zy y y1, f7 y y2 (by omega)]
  cases hpin : (coreA τ (q / 4) ((q % 4 + t) % 4) g).1 with
  | none =>
    rw [if_pos (show onI none = -1 from rfl)]
    exact fin I7 b rfl (fun _ _ => rfl) B7 (fun ⟨p, l, a, _⟩ => by rw [hpin] at a; cases a) (fun _ => rfl)
  | some p =>
    have hpn : p < tn τ := stepA_pin (π := (q / 4, (q % 4 + t) % 4, 0, 0, 0, 0, g, 0, fun _ => 0)) hpin
    have hle := (t7.2.2.1 p hpn).2.2.1
    have hl8 := (hT.2.2.1 p hpn).2.2.2.1
    show ∃ I1 b2, (if nI p = -1 then _ else _) = _ ∧ _
    rw [if_neg (neg1_ne (by omega)), show onI (some p) = nI p from rfl, inb_nI (show p < 6 by omega) (by decide), ck_t, ix_nI (show p < 2 ^ 31 by omega), hle]
    by_cases hit : nI (tle τ p) = lv
    · have hh : hitA τ lt q g t := by
        cases lt with
        | none => exact absurd hit (hlv _ hl8)
        | some l => exact ⟨p, l, hpin, rfl, (nI_eq (by omega) (by have := hlv.1; omega)).mp (hit.trans hlv.2)⟩
      rw [if_pos hit, B7, fewer_e hbb (by omega), ob_s]
      exact fin (up2 I7 82 3 (bestI (omin b (c + t)))) (omin b (c + t)) (up2_ne (by omega)) (fun y hy => up2_ne hy) up2_s (fun _ => rfl) (fun z => absurd hh z)
    · have hh : ¬ hitA τ lt q g t := fun ⟨p', l, a, a1, a2⟩ => by
        rw [hpin] at a
        cases a
        subst a1
        exact hit (by rw [a2]; exact hlv.2.symm)
      rw [if_neg hit]
      exact fin I7 b rfl (fun _ _ => rfl) B7 (fun z => absurd z hh) (fun _ => rfl)
theorem stayLoop {I : Mem} {nw nx n : Nat} {f : Ly} (h : LayX I nw n f) (hn : n ≤ 10752) (hb : ∀ q g u, f q g = some u → u < 1000) : ∀ (d k fu : Nat) (b : Option Nat), k + d = cnt (isF f) n → d < fu → (∀ u, b = some u → u < 1000) → IsMin (fun v => ∃ j p, j < k ∧ p < n ∧ I (nw + 1) j = nI p ∧ inF f p = some v) b → ∃ b2, fnX6_fewestStaying_5 nw nx n fu I (bestI b) (nI k) = some (bestI b2, I) ∧ IsMin (fun v => ∃ q g, f q g = some v ∧ q < 168 ∧ 168 * g + q < n) b2
  | d, k, 0, _, _, q, _, _ => absurd q (by omega)
  | 0, k, fu + 1, b, h1, _, h2, h3 => by
    have hs := cnt_le (isF f) n
    show ∃ b2, fnX6_fewestStaying_5b nw nx n _ I _ _ = _ ∧ _
    unfold fnX6_fewestStaying_5b
    rw [h.1, if_pos (show nI (cnt (isF f) n) ≤ nI k from nI_le (by omega) (by omega))]
    refine ⟨b, rfl, h3.cg (fun v => ?_)⟩
    constructor
    · rintro ⟨j, p, a1, a2, a3, a4⟩
      exact ⟨p % 168, p / 168, a4, by omega, by omega⟩
    · rintro ⟨q, g, a1, a2, a3⟩
      have e : inF f (168 * g + q) = some v := by
        unfold inF
        rw [show (168 * g + q) % 168 = q by omega, show (168 * g + q) / 168 = g by omega]
        exact a1
      obtain ⟨j, b1, b2⟩ := h.2.2.1 (168 * g + q) a3 (by unfold isF; rw [e]; rfl)
      exact ⟨j, _, by omega, a3, b2, e⟩
  | d + 1, k, fu + 1, b, h1, h4, h2, h3 => by
    have hs := cnt_le (isF f) n
    show ∃ b2, fnX6_fewestStaying_5b nw nx n _ I _ _ = _ ∧ _
    unfold fnX6_fewestStaying_5b
    obtain ⟨p, p1, p2, p3⟩ := h.2.1 k (by omega)
    unfold isF at p3
    obtain ⟨u, hu⟩ := Option.isSome_iff_exists.mp p3
    have hu1 := hb _ _ _ hu
    have e : I (nw + 2) p - 1 = nI u := by rw [h.2.2.2 p p1, hu]; exact nI_pred u
    rw [h.1, if_neg (show ¬ nI (cnt (isF f) n) ≤ nI k from nI_ge (by omega) (by omega)), inb_nI (show k < n by omega) (by omega), ck_t, ix_nI (show k < 2 ^ 31 by omega), p2, inb_nI p1 (by omega), ck_t, ix_nI (show p < 2 ^ 31 by omega), e, fewer_e h2 hu1, ob_s]
    dsimp only
    rw [bnd_e, nI_1]
    refine stayLoop h hn hb d (k + 1) fu (omin b u) (by omega) (by omega) (fun v hv => ?_) ((h3.ad u).cg (fun v => ?_))
    · cases b with
      | none => cases hv; exact hu1
      | some m =>
        have hm := h2 m rfl
        unfold omin at hv
        dsimp only at hv
        by_cases z : u < m
        · rw [if_pos z] at hv; cases hv; exact hu1
        · rw [if_neg z] at hv; cases hv; exact hm
    · constructor
      · rintro (⟨j, p', a1, a2, a3, a4⟩ | rfl)
        · exact ⟨j, p', by omega, a2, a3, a4⟩
        · exact ⟨k, p, by omega, p1, p2, hu⟩
      · rintro ⟨j, p', a1, a2, a3, a4⟩
        by_cases z : j = k
        · rw [z, p2] at a3
          have := (nI_eq (by omega) (by omega)).mp a3
          subst this
          rw [hu] at a4
          cases a4
          exact Or.inr rfl
        · exact Or.inl ⟨j, p', by omega, a2, a3, a4⟩
