/-! the class's search; nudged, kept -/
def swp (h : Shp) (nw nx : Nat) : Shp := (up2 (up2 h.1 82 0 (some nx)) 82 1 (some nw), h.2)
theorem swp_x {h : Shp} {nw nx : Nat} : ShX h (swp h nw nx) := ⟨Nat.le_refl _, fun _ _ => ⟨rfl, rfl⟩, fun x _ hn => by show up2 (up2 h.1 82 0 (some nx)) 82 1 (some nw) x = h.1 x; rw [up2_ne hn, up2_ne hn], by show up2 (up2 h.1 82 0 (some nx)) 82 1 (some nw) 82 2 = h.1 82 2; rw [up2_r, if_neg (by omega), up2_r, if_neg (by omega)]⟩
theorem LayerAt_x {h h1 : Shp} (hx : ShX h h1) {a n : Nat} (hn : a ≠ 82) (t : LayerAt h a n) : LayerAt h1 a n := by
  obtain ⟨t0, ⟨a1, b1⟩, ⟨a2, b2⟩⟩ := t
  exact ⟨ta_x hx t0, ⟨rr_x hx t0.2 hn a1, tA_x hx b1⟩, ⟨rr_x hx t0.2 hn a2, tA_x hx b2⟩⟩
theorem WIn.sw {h : Shp} {nw nx n : Nat} (w : WIn h nw nx n) : WIn (swp h nw nx) nx nw n := by
  obtain ⟨⟨t0, ⟨a1, b1⟩, ⟨a2, b2⟩, ⟨a3, b3⟩⟩, c2, c3, c4, c5, c6⟩ := w
  have x := swp_x (h := h) (nw := nw) (nx := nx)
  have nw82 : nw ≠ 82 := by unfold lyA at c3; omega
  have nx82 : nx ≠ 82 := by unfold lyA at c4; omega
  refine ⟨⟨ta_x x t0, ⟨?_, LayerAt_x x nx82 b2⟩, ⟨?_, LayerAt_x x nw82 b1⟩, ⟨x.2.2.2.trans a3, PlayAt_x x (by omega) b3⟩⟩, c2, c4, c3, c5.symm, c6⟩
  · show up2 (up2 h.1 82 0 (some nx)) 82 1 (some nw) 82 0 = some nx
    rw [up2_r, if_neg (by omega), up2_s]
  · show up2 (up2 h.1 82 0 (some nx)) 82 1 (some nw) 82 1 = some nw
    rw [up2_s]
/-- what the class's search writes -/
def FrW (I I1 : Mem) : Prop := ∀ y, (y < 82 ∨ (90 < y ∧ y < 122)) → I1 y = I y
theorem FrW.tr {I I1 I2 : Mem} (h : FrW I I1) (h2 : FrW I1 I2) : FrW I I2 := fun y a => (h2 y a).trans (h y a)
theorem FrW.tab {I I1 : Mem} {τ : Tb} (h : TabX I 21 τ) (hf : FrW I I1) : TabX I1 21 τ := TabX_ag h (fun x _ _ => hf x (by omega))
def Dk (R : Nat → Int32) (k : Nat) : Dn := fun q g _ => ∃ j, j < k ∧ R j = nI (168 * g + q)
theorem SupL.lt {τ : Tb} {k : Nat} {f : Ly} (h : SupL τ k f) {n : Nat} (hr : 168 * 2 ^ tn τ ≤ n) {q g c : Nat} (e : f q g = some c) : 168 * g + q < n := by
  obtain ⟨a, b, _⟩ := h q g c e
  have : 168 * (g + 1) ≤ 168 * 2 ^ tn τ := Nat.mul_le_mul_left 168 b
  omega
theorem loop50 {τ : Tb} (hT : Tok τ) {mB sB : Nat} {rec33 : Wt → Nat → Nat → Nat → Nat → Int32 → Int32 → Int32 → Option Wt} {h : Shp} {nw nx n : Nat} (hW : WIn h nw nx n) (hTb : TableAt h 21) (hr : 168 * 2 ^ tn τ ≤ n) {f : Ly} {b : Option Nat} {m : Nat} (hm : m < 400) (hs : SupL τ m f) (hbb : ∀ u, b = some u → u ≤ m) {lt : Option Nat} {lv : Int32} (hlv : LV lt lv) (R : Nat → Int32) (n4 g5 : Int32) : ∀ (d k fu : Nat) (I : Mem) (f' : Ly) (b' : Option Nat), k + d = cnt (isF f) n → d < fu → I (nw + 1) = R → LayX I nw n f → LayX I nx n f' → TabX I 21 τ → I 82 3 = bestI b' → StA τ lt f b (Dk R k) f' b' → ∃ I1 f'' b'', fwX6_walk_50 mB sB rec33 fu (I, h) mB sB 82 21 lv n4 g5 (nI k) = rec33 (I1, swp h nw nx) mB sB 82 21 lv n4 (g5 + 1) ∧ LayX I1 nw n f ∧ LayX I1 nx n f'' ∧ I1 82 3 = bestI b'' ∧ Rnd τ lt f b f'' b'' ∧ FrW I I1
  | d, k, 0, _, _, _, _, q, _, _, _, _, _, _ => absurd q (by omega)
  | 0, k, fu + 1, I, f', b', h1, _, hR, hL, hL', ht, hB, hS => by
    obtain ⟨t0, ⟨a1, b1⟩, ⟨a2, b2⟩, ⟨a3, b3⟩⟩ := hW.1
    have hcl := cnt_le (isF f) n
    have hn := hW.2.1
    show ∃ I1 f'' b'', fwX6_walk_50b mB sB rec33 _ (I, h) _ _ _ _ _ _ _ _ = _ ∧ _
    unfold fwX6_walk_50b
    dsimp only
    rw [isK_mk (w := (I, h)) t0, ck_t, a1, ob_s, isK_mk (w := (I, h)) b1.1, ck_t, if_pos (show I nw 2 ≤ nI k by rw [hL.1]; exact nI_le (by omega) (by omega)), ck_t, ob_s, ck_t, a2, ob_s, ck_t, bnd_e]
    have e2 : isK ((I, up2 h.1 82 0 (some nx), h.2) : Wt) 82 6 = true := isK_mk ⟨t0.1, t0.2⟩
    dsimp only
    rw [e2, ck_t, bnd_e, bnd_e]
    refine ⟨I, f', b', rfl, hL, hL', hB, hS.cg (fun q g t c c1 c2 => ⟨fun _ => trivial, fun _ => ?_⟩), fun _ _ => rfl⟩
    have hp := hs.lt hr c2
    have hq := (hs q g c c2).1
    have e : inF f (168 * g + q) = some c := by
      unfold inF
      rw [show (168 * g + q) % 168 = q by omega, show (168 * g + q) / 168 = g by omega]
      exact c2
    obtain ⟨j, y1, y2⟩ := hL.2.2.1 (168 * g + q) hp (by unfold isF; rw [e]; rfl)
    exact ⟨j, by omega, by rw [← hR]; exact y2⟩
  | d + 1, k, fu + 1, I, f', b', h1, h2, hR, hL, hL', ht, hB, hS => by
    have hSA := hW.1
    obtain ⟨t0, ⟨a1, b1⟩, ⟨a2, b2⟩, ⟨a3, b3⟩⟩ := hW.1
    have hcl := cnt_le (isF f) n
    have hn := hW.2.1
    obtain ⟨p, p1, p2, p3⟩ := hL.2.1 k (by omega)
    unfold isF at p3
    obtain ⟨c, hc⟩ := Option.isSome_iff_exists.mp p3
    have hf : f (p % 168) (p / 168) = some c := hc
    obtain ⟨s1, s2, s3⟩ := hs _ _ _ hf
    have ep : p = 168 * (p / 168) + p % 168 := by omega
    have cost : I (nw + 2) p - 1 = nI c := by rw [hL.2.2.2 p p1, hc]; exact nI_pred c
    have lyw : lyA nw := hW.2.2.1
    have lyx : lyA nx := hW.2.2.2.1
    have apt := hW.2.2.2.2.1
    have nN : h.2.2.1 (nw + 1) = n := b1.2.1.2.2.2
    have nN2 : h.2.2.1 (nw + 2) = n := b1.2.2.2.2.2
    have bf' : ∀ q g u, f' q g = some u → u < 1000 := fun q g u e => by
      have := (SupL.nx hT hS hs q g u e).2.2
      omega
    have bb' := hS.bd hs hbb
    obtain ⟨I3, b3', g1, g2, g3, g4, g5', g6⟩ := goOnX (nw := nw) (n := n) hT ht hL' hB hn hr lyx (q := p % 168) (g := p / 168) (t := 0) (c := c) s1 s2 (by omega) (by omega) bf' (fun u e => by have := bb' u e; omega) hlv
    have S3 := hS.st (q := p % 168) (g := p / 168) (t := 0) (by omega) hf g4 g5'
    rw [← ep, Nat.add_zero] at g1
    have w3 : FrW I I3 := fun y hy => g6 y (by omega) (by omega) (by omega) (by unfold lyA at lyx; omega) (by unfold lyA at lyx; omega) (by unfold lyA at lyx; omega)
    have nwe : ∀ j, j < 3 → I3 (nw + j) = I (nw + j) := fun j hj => g6 _ (by unfold lyA at lyw; omega) (by unfold lyA at lyw; omega) (by unfold lyA at lyw; omega) (by omega) (by omega) (by omega)
    have hL3 : LayX I3 nw n f := hL.ag (nwe 0 (by omega)) (nwe 1 (by omega)) (nwe 2 (by omega))
    have bf3 : ∀ q g u, updL f' (dstA τ (p % 168) (p / 168) 0) (c + 0) q g = some u → u < 1000 := fun q g u e => by
      have := (SupL.nx hT S3 hs q g u e).2.2
      omega
    have bb3 := S3.bd hs hbb
    obtain ⟨I4, b4, k1, k2, k3, k4, k5, k6⟩ := goOnX (nw := nw) (n := n) hT (w3.tab ht) g2 g3 hn hr lyx (q := p % 168) (g := p / 168) (t := 1) (c := c) s1 s2 (by omega) (by omega) bf3 (fun u e => by have := bb3 u e; omega) hlv
    have S4 := S3.st (q := p % 168) (g := p / 168) (t := 1) (by omega) hf k4 k5
    rw [← ep] at k1
    have w4 : FrW I3 I4 := fun y hy => k6 y (by omega) (by omega) (by omega) (by unfold lyA at lyx; omega) (by unfold lyA at lyx; omega) (by unfold lyA at lyx; omega)
    have nwe4 : ∀ j, j < 3 → I4 (nw + j) = I3 (nw + j) := fun j hj => k6 _ (by unfold lyA at lyw; omega) (by unfold lyA at lyw; omega) (by unfold lyA at lyw; omega) (by omega) (by omega) (by omega)
    have hL4 : LayX I4 nw n f := hL3.ag (nwe4 0 (by omega)) (nwe4 1 (by omega)) (nwe4 2 (by omega))
    show ∃ I1 f'' b'', fwX6_walk_50b mB sB rec33 _ (I, h) _ _ _ _ _ _ _ _ = _ ∧ _
    unfold fwX6_walk_50b
    dsimp only
    rw [isK_mk (w := (I, h)) t0, ck_t, a1, ob_s, isK_mk (w := (I, h)) b1.1, ck_t, if_neg (show ¬ I nw 2 ≤ nI k by rw [hL.1]; exact nI_ge (by omega) (by omega)), ck_t, ob_s, isK_mk (w := (I, h)) b1.1, ck_t, b1.2.1.1, ob_s, isK_mk (w := (I, h)) (show ta h (nw + 1) 11 from ⟨b1.2.1.2.1, b1.2.1.2.2.1⟩), ck_t, nN, inb_nI (show k < n by omega) (by omega), ck_t, bnd_e, ix_nI (show k < 2 ^ 31 by omega), p2, ck_t, ob_s, isK_mk (w := (I, h)) b1.1, ck_t, b1.2.2.1, ob_s, isK_mk (w := (I, h)) (show ta h (nw + 2) 11 from ⟨b1.2.2.2.1, b1.2.2.2.2.1⟩), ck_t, nN2, inb_nI p1 (by omega), ck_t, bnd_e, ix_nI (show p < 2 ^ 31 by omega), cost, show decide ((82 : Nat) = 82) = true from rfl, ck_t, Option.getD_some, nN, a2, Option.getD_some, searchB_mk hSA, ck_t, tableB_mk hTb, ck_t, rmB_mk (Nat.le_refl mB) (Nat.le_refl sB), ck_t, show fnX6_goOn nw nx n 21 I (nI p) 0 (nI c) lv = _ from g1, ob_s, bnd_e]
    dsimp only
    rw [ck_t, a1, Option.getD_some, nN, a2, Option.getD_some, searchB_mk hSA, ck_t, tableB_mk hTb, ck_t, show nI c + 1 = nI (c + 1) from nI_1 c, show fnX6_goOn nw nx n 21 I3 (nI p) 1 (nI (c + 1)) lv = _ from k1, ob_s, bnd_e, bnd_e, nI_1]
    have eR : I (nw + 1) k = nI p := p2
    obtain ⟨I5, f5, b5, z1, z2, z3, z4, z5, z6⟩ := loop50 hT hW hTb hr hm hs hbb hlv R n4 g5 d (k + 1) fu I4 _ b4 (by omega) (by omega) (by rw [nwe4 1 (by omega), nwe 1 (by omega), hR]) hL4 k2 (w4.tab (w3.tab ht)) k3 (S4.cg (fun q g t c' c1 c2 => by
      have hq := (hs q g c' c2).1
      have hp := hs.lt hr c2
      constructor
      · rintro ((⟨j, y1, y2⟩ | ⟨rfl, rfl, rfl⟩) | ⟨rfl, rfl, rfl⟩)
        · exact ⟨j, by omega, y2⟩
        · exact ⟨k, by omega, by rw [← ep, ← hR]; exact eR⟩
        · exact ⟨k, by omega, by rw [← ep, ← hR]; exact eR⟩
      · rintro ⟨j, y1, y2⟩
        by_cases z : j = k
        · rw [z, ← hR, eR] at y2
          have y3 := (nI_eq (by omega) (by omega)).mp y2
          by_cases t0 : t = 0
          · exact Or.inl (Or.inr ⟨by omega, by omega, t0⟩)
          · exact Or.inr ⟨by omega, by omega, by omega⟩
        · exact Or.inl (Or.inl ⟨j, by omega, y2⟩)))
    exact ⟨I5, f5, b5, z1, z2, z3, z4, z5, (w3.tr w4).tr z6⟩
theorem lyF {nw : Nat} (h : lyA nw) {I I1 : Mem} (e : ∀ x, x ≠ nw → x ≠ nw + 1 → x ≠ nw + 2 → I1 x = I x) : FrW I I1 := fun y hy => e y (by unfold lyA at h; omega) (by unfold lyA at h; omega) (by unfold lyA at h; omega)
theorem loop33 {τ : Tb} (hT : Tok τ) {mB sB : Nat} {lt : Option Nat} {lv : Int32} (hlv : LV lt lv) {n' : Nat} (hn' : n' ≤ 20) {n : Nat} (hr : 168 * 2 ^ tn τ ≤ n) : ∀ (d k fu : Nat) (I : Mem) (h : Shp) (nw nx : Nat) (f fo : Ly) (b : Option Nat), k + d = n' → d < fu → WIn h nw nx n → TableAt h 21 → LayX I nw n f → LayX I nx n fo → TabX I 21 τ → I 82 3 = bestI b → SupL τ k f → (∀ u, b = some u → u ≤ k) → ∃ I1 h1 nw1 nx1 f1 fo1 b1, fwX6_walk_33 mB sB fu (I, h) mB sB 82 21 lv (nI n') (nI k) = some (I1, h1) ∧ WIn h1 nw1 nx1 n ∧ LayX I1 nw1 n f1 ∧ LayX I1 nx1 n fo1 ∧ I1 82 3 = bestI b1 ∧ Rnds τ lt d f b f1 b1 ∧ SupL τ n' f1 ∧ (∀ u, b1 = some u → u ≤ n') ∧ FrW I I1 ∧ ShX h h1 ∧ h1.2 = h.2
  | d, k, 0, _, _, _, _, _, _, _, _, q, _, _, _, _, _, _, _, _ => absurd q (by omega)
  | 0, k, fu + 1, I, h, nw, nx, f, fo, b, h1, _, hW, hTb, hL, hLo, ht, hB, hs, hbb => by
    show ∃ I1 h1 nw1 nx1 f1 fo1 b1, fwX6_walk_33b mB sB _ (I, h) _ _ _ _ _ _ _ = _ ∧ _
    unfold fwX6_walk_33b
    rw [if_pos (show nI n' ≤ nI k from nI_le (by omega) (by omega)), cnB_mk rfl rfl, ck_t]
    have : k = n' := by omega
    subst this
    exact ⟨I, h, nw, nx, f, fo, b, rfl, hW, hL, hLo, hB, ⟨rfl, rfl⟩, hs, hbb, fun _ _ => rfl, ShX.rf, rfl⟩
  | d + 1, k, fu + 1, I, h, nw, nx, f, fo, b, h1, h2, hW, hTb, hL, hLo, ht, hB, hs, hbb => by
    obtain ⟨t0, ⟨a1, b1⟩, ⟨a2, b2⟩, ⟨a3, b3⟩⟩ := hW.1
    have hn := hW.2.1
    have lyw : lyA nw := hW.2.2.1
    have lyx : lyA nx := hW.2.2.2.1
    have apt := hW.2.2.2.2.1
    have nN : h.2.2.1 (nx + 1) = n := b2.2.1.2.2.2
    obtain ⟨I2, c1, c2, c3⟩ := layClear hLo hn
    have w2 : FrW I I2 := lyF lyx c3
    have hL2 : LayX I2 nw n f := hL.ag (c3 _ (by omega) (by omega) (by omega)) (c3 _ (by omega) (by omega) (by omega)) (c3 _ (by omega) (by omega) (by omega))
    have hB2 : I2 82 3 = bestI b := by rw [c3 82 (by unfold lyA at lyx; omega) (by unfold lyA at lyx; omega) (by unfold lyA at lyx; omega)]; exact hB
    have hcl := cnt_le (isF f) n
    obtain ⟨I3, f3, b3', e1, e2, e3, e4, e5, e6⟩ := loop50 (mB := mB) (sB := sB) (rec33 := fwX6_walk_33 mB sB fu) hT hW hTb hr (show k < 400 by omega) hs hbb hlv (I2 (nw + 1)) (nI n') (nI k) (cnt (isF f) n) 0 FU I2 nonF b (by omega) (by unfold FU; omega) rfl hL2 c2 (w2.tab ht) hB2 (StA.s0.cg (fun q g t c _ _ => ⟨fun z => absurd z id, fun ⟨j, y, _⟩ => absurd y (by omega)⟩))
    obtain ⟨I4, h4, nw4, nx4, f4, fo4, b4, g1, g2, g3, g4, g5, g6, g7, g8, g9, g10, g11⟩ := loop33 hT hlv hn' hr d (k + 1) fu I3 (swp h nw nx) nx nw f3 f b3' (by omega) (by omega) hW.sw (TableAt_x swp_x (by omega) hTb) e3 e2 (e6.tab (w2.tab ht)) e4 (SupL.nx hT e5 hs) (e5.bd hs hbb)
    refine ⟨I4, h4, nw4, nx4, f4, fo4, b4, ?_, g2, g3, g4, g5, ⟨f3, b3', e5, g6⟩, g7, g8, (w2.tr e6).tr g9, swp_x.tr g10, g11⟩
    show fwX6_walk_33b mB sB _ (I, h) _ _ _ _ _ _ _ = _
    unfold fwX6_walk_33b
    dsimp only
    rw [if_neg (show ¬ nI n' ≤ nI k from nI_ge (by omega) (by omega)), isK_mk (w := (I, h)) t0, ck_t, a2, ob_s, nN, layerB_mk b2, ck_t, rmB_mk (Nat.le_refl mB) (Nat.le_refl sB), ck_t, c1, ob_s, bnd_e, show fwX6_walk_50 mB sB (fwX6_walk_33 mB sB fu) FU (I2, h) mB sB 82 21 lv (nI n') (nI k) 0 = _ from e1, nI_1]
    exact g1
/-- the walk -/
theorem walk_e {w : Wt} {τ : Tb} {π : Pl} (hT : Tok τ) (hX : XAt w.2) (hS : SrI w) (ht : TabX w.1 21 τ) (hp : PlX w.1 27 π) (ok : Pok τ π) {lt : Option Nat} {lv : Int32} (hlv : LV lt lv) {n' : Nat} (hn' : n' ≤ 20) : ∃ mB sB w1 nw nx n f fo b, fwX6_walk mB sB w 0 0 82 21 27 lv (nI n') = some w1 ∧ mB ≤ 6 ∧ sB ≤ 43014 ∧ w1.2.2.2.2 = w.2.2.2.2 + mB ∧ ShX w.2 w1.2 ∧ FrW w.1 w1.1 ∧ WIn w1.2 nw nx n ∧ 168 * 2 ^ tn τ ≤ n ∧ LayX w1.1 nw n f ∧ LayX w1.1 nx n fo ∧ w1.1 82 3 = bestI b ∧ Rnds τ lt n' (oneF (4 * π.1 + π.2.1) π.2.2.2.2.2.2.1) none f b ∧ SupL τ n' f := by
  obtain ⟨o1, o2, o3, o4, o5⟩ := ok
  obtain ⟨mB, sB, w1, nw, nx, n, f, fo, r1, r2, r3, r4, r5, r6, r7, r8, r9, r10⟩ := room_e hT.2.1 hS
  have hTb : TableAt w.2 21 := hX.2.2.2.1.2
  have hPb : PlayAt w.2 27 := hX.2.2.2.2.1.2
  have t82 : ta w.2 82 6 := hX.2.2.2.2.2.2.2.2.1.2
  have sz : 122 ≤ w.2.2.2.2 := by obtain ⟨_, _, _, _, _, q, _⟩ := hS; exact q.2.2.2.2.2
  obtain ⟨I1, h1⟩ := w1
  have hn := r7.2.1
  have lyw : lyA nw := r7.2.2.1
  have lyx : lyA nx := r7.2.2.2.1
  have apt := r7.2.2.2.2.1
  obtain ⟨t0, ⟨a1, b1⟩, ⟨a2, b2⟩, ⟨a3, b3⟩⟩ := r7.1
  have nN : h1.2.2.1 (nw + 1) = n := b1.2.1.2.2.2
  have hc := layClear (I := up2 I1 82 3 (-1000000)) (r9.ag (up2_ne (by unfold lyA at lyw; omega)) (up2_ne (by unfold lyA at lyw; omega)) (up2_ne (by unfold lyA at lyw; omega))) hn
  obtain ⟨I2, c1, c2, c3⟩ := hc
  have o2' : ∀ x, x < 82 → I2 x = w.1 x := fun x hx => by rw [c3 x (by unfold lyA at lyw; omega) (by unfold lyA at lyw; omega) (by unfold lyA at lyw; omega), up2_ne (by omega), show I1 x = _ from r6 x (by omega)]
  have hP : 168 * π.2.2.2.2.2.2.1 + (4 * π.1 + π.2.1) < n := by
    have : 168 * (π.2.2.2.2.2.2.1 + 1) ≤ 168 * 2 ^ tn τ := Nat.mul_le_mul_left 168 o5
    omega
  obtain ⟨I3, d1, d2, d3⟩ := reachX (x := 27) (v := 0) c2 hn o1 o2 hP (by rw [o2' 27 (by omega)]; exact hp.2.2.2.2.2.2.1) (by rw [o2' 27 (by omega)]; exact hp.1) (by rw [o2' 27 (by omega)]; exact hp.2.1) (by omega) (fun q g u e => by cases e)
  have e1 : updL nonF (some (4 * π.1 + π.2.1, π.2.2.2.2.2.2.1)) 0 = oneF (4 * π.1 + π.2.1) π.2.2.2.2.2.2.1 := rfl
  rw [e1] at d2
  have o3' : ∀ x, x < 82 ∨ (90 < x ∧ x < 122) → I3 x = w.1 x := fun x hx => by rw [d3 x (by unfold lyA at lyw; omega) (by unfold lyA at lyw; omega) (by unfold lyA at lyw; omega), c3 x (by unfold lyA at lyw; omega) (by unfold lyA at lyw; omega) (by unfold lyA at lyw; omega), up2_ne (by omega), show I1 x = _ from r6 x (by omega)]
  have hLo : LayX I3 nx n fo := by
    have e : ∀ j, j < 3 → I3 (nx + j) = I1 (nx + j) := fun j hj => by rw [d3 _ (by omega) (by omega) (by omega), c3 _ (by omega) (by omega) (by omega), up2_ne (by unfold lyA at lyx; omega)]
    exact r10.ag (e 0 (by omega)) (e 1 (by omega)) (e 2 (by omega))
  have hB : I3 82 3 = bestI none := by rw [d3 82 (by unfold lyA at lyw; omega) (by unfold lyA at lyw; omega) (by unfold lyA at lyw; omega), c3 82 (by unfold lyA at lyw; omega) (by unfold lyA at lyw; omega) (by unfold lyA at lyw; omega), up2_s]; rfl
  obtain ⟨I4, h4, nw4, nx4, f4, fo4, b4, g1, g2, g3, g4, g5, g6, g7, g8, g9, g10, g11⟩ := loop33 (mB := mB) (sB := sB) hT hlv hn' r8 n' 0 FU I3 h1 nw nx _ fo none (by omega) (by unfold FU; omega) r7 (TableAt_x r5 (by omega) hTb) d2 hLo (TabX_ag ht (fun x _ _ => o3' x (by omega))) hB (oneF_s (by omega) o5) (fun u e => by cases e)
  refine ⟨mB, sB, (I4, h4), nw4, nx4, n, f4, fo4, b4, ?_, r2, r3, ?_, r5.tr g10, fun y hy => (g9 y hy).trans (o3' y hy), g2, r8, g3, g4, g5, g6, g7⟩
  · unfold fwX6_walk
    rw [isK_mk (show ta w.2 21 7 from hTb.1), ck_t, ht.2.1, r1, ob_s]
    dsimp only
    rw [rmB_mk (show 0 + mB ≤ mB by omega) (show 0 + sB ≤ sB by omega), ck_t, show decide (h1.2.2.2 = w.2.2.2.2 + mB) = true from decide_eq_true r4, ck_t, isK_mk t82, ck_t, isK_mk (w := (I1, h1)) t0, ck_t, bnd_e]
    dsimp only
    rw [isK_mk (w := (up2 I1 82 3 (-1000000), h1)) t0, ck_t, a1, ob_s, nN, layerB_mk b1, ck_t, ck_t, c1, ob_s, bnd_e]
    dsimp only
    rw [isK_mk (w := (I2, h1)) t0, ck_t, a1, ob_s, nN, layerB_mk b1, ck_t, playB_mk (PlayAt_x r5 (by omega) hPb), ck_t, ck_t, show fnX3_reach nw n 27 I2 0 = _ from d1, ob_s, bnd_e, show 0 + mB = mB from Nat.zero_add mB, show 0 + sB = sB from Nat.zero_add sB]
    exact g1
  · show h4.2.2.2 = _
    rw [g11]
    exact r4
/-- what nudged, kept write -/
def NFr (I I2 : Mem) : Prop := (∀ x, x < 82 ∨ (90 < x ∧ x < 122) → x ≠ 112 → x ≠ 120 → x ≠ 121 → I2 x = I x) ∧ ∀ j, j < 123 → I2 112 j = I 112 j
theorem NFr.of {I I1 I2 : Mem} (h : FrW I I1) (h2 : FrU I1 I2) : NFr I I2 := ⟨fun x a c e g => (h2.1 x c e g).trans (h x a), fun j hj => (h2.2 j hj).trans (congrFun (h 112 (by omega)) j)⟩
theorem NFr.rf {I : Mem} : NFr I I := ⟨fun _ _ _ _ _ => rfl, fun _ _ => rfl⟩
theorem PlayR.nf {I I2 : Mem} (h : PlayR I) (hf : NFr I I2) : PlayR I2 := h.agr (fun x q => hf.1 x (by omega) (by omega) (by omega) (by omega)) (by rw [hf.1 0 (by omega) (by omega) (by omega) (by omega)]) (by rw [hf.1 111 (by omega) (by omega) (by omega) (by omega)]) hf.2
theorem SrI.fu {I I2 : Mem} {h : Shp} (s : SrI (I, h)) (hf : FrU I I2) : SrI (I2, h) := by
  obtain ⟨nw, nx, n, f, fo, w, l1, l2⟩ := s
  have a := w.2.2.1
  have c := w.2.2.2.1
  exact ⟨nw, nx, n, f, fo, w, l1.ag (hf.1 _ (by unfold lyA at a; omega) (by unfold lyA at a; omega) (by unfold lyA at a; omega)) (hf.1 _ (by unfold lyA at a; omega) (by unfold lyA at a; omega) (by unfold lyA at a; omega)) (hf.1 _ (by unfold lyA at a; omega) (by unfold lyA at a; omega) (by unfold lyA at a; omega)), l2.ag (hf.1 _ (by unfold lyA at c; omega) (by unfold lyA at c; omega) (by unfold lyA at c; omega)) (hf.1 _ (by unfold lyA at c; omega) (by unfold lyA at c; omega) (by unfold lyA at c; omega)) (hf.1 _ (by unfold lyA at c; omega) (by unfold lyA at c; omega) (by unfold lyA at c; omega))⟩
/-- nudged, kept: worlds -/
def NOk (w w1 : Wt) (I2 : Mem) (mB sB : Nat) : Prop := mB ≤ 6 ∧ sB ≤ 43014 ∧ w1.2.2.2.2 = w.2.2.2.2 + mB ∧ ShX w.2 w1.2 ∧ SrI (I2, w1.2) ∧ NFr w.1 I2
theorem NOk.rf {w : Wt} (h : SrI w) : NOk w w w.1 0 0 := ⟨by omega, by omega, rfl, ShX.rf, h, NFr.rf⟩
theorem in120 (I : Mem) (p : Int32) : fnX10_in I p.toInt64 1 20 = some ((if p < 1 then 0 else if p ≤ 20 then 1 else 0), I) := by
  rw [in_g, w64, show ((1 : Int64)).toInt = 1 from rfl, show ((20 : Int64)).toInt = 20 from rfl]
  have a := lt_int p 1
  have c := le_int p 20
  rw [show ((1 : Int32)).toInt = 1 from rfl] at a
  rw [show ((20 : Int32)).toInt = 20 from rfl] at c
  by_cases h1 : p < 1
  · rw [if_pos h1, if_neg (by rw [a] at h1; omega)]
  · rw [if_neg h1]
    by_cases h2 : p ≤ 20
    · rw [if_pos h2, if_pos (by rw [a] at h1; rw [c] at h2; omega)]
    · rw [if_neg h2, if_neg (by rw [c] at h2; omega)]
theorem n20 {p : Int32} (h1 : ¬ p < 1) (h2 : p ≤ 20) : ∃ n, n ≤ 20 ∧ p = nI n := by
  have a := lt_int p 1
  have c := le_int p 20
  rw [show ((1 : Int32)).toInt = 1 from rfl] at a
  rw [show ((20 : Int32)).toInt = 20 from rfl] at c
  obtain ⟨j, hj, rfl⟩ := nI_of (x := p) (by rw [lt0_iff]; rw [a] at h1; omega)
  rw [c, nI_toInt hj] at h2
  exact ⟨j, by omega, rfl⟩
theorem p_nudged {w : Wt} (h : PlayR w.1) (hX : XAt w.2) (hS : SrI w) (p1 p2 : Int32) : ∃ mB sB r w1 I2, fwX9_nudged mB sB w 0 0 0 p1 p2 = some (r, w1) ∧ fnX10_nudged w1.1 p1 p2 = some (r, I2) ∧ NOk w w1 I2 mB sB := by
  obtain ⟨rd, τ, π, na, ac, im, ok, hx, hm⟩ := h
  have t0 : ta w.2 0 9 := hX.1
  have n0 : inb 0 164 = true := inb_nI (n := 0) (by decide) (by decide)
  have n29 : inb 29 164 = true := inb_nI (n := 29) (by decide) (by decide)
  have x0 : ix 0 = 0 := ix_nI (n := 0) (by decide)
  have x29 : ix 29 = 29 := ix_nI (n := 29) (by decide)
  have hA : ∀ mB sB, fwX9_nudged mB sB w 0 0 0 p1 p2 = if nI rd = 0 then (ck (cnB 0 0 mB sB) <| some ((-1000002), w)) else (ck (rmB 0 0 mB sB) <| if upTo p1 (nI 7) = 0 then (fwX9_nudged_30 mB sB w 0 0) else (if p2 < (1 : Int32) then (fwX9_nudged_30 mB sB w 0 0) else (if p2 ≤ (20 : Int32) then (if nI π.2.2.1 = 0 then (ob (fwX6_walk mB sB w 0 0 82 21 27 p1 p2) fun w25 => ck (rmB (0 + mB) (0 + sB) mB sB) <| ck (decide (w25.2.2.2.2 = w.2.2.2.2 + mB)) <| ck (isK w 82 6) <| ck (isK w25 0 9) <| ob (w25.2.1 0 7) fun x_31 => ck (isK w25 x_31 6) <| ck (cnB (0 + mB) (0 + sB) mB sB) <| some ((w25.1 x_31 3), w25)) else (ck (cnB 0 0 mB sB) <| some ((-1000002), w))) else (fwX9_nudged_30 mB sB w 0 0)))) := fun mB sB => by
    unfold fwX9_nudged
    have e4 : isK w 27 4 = true := isK_mk hX.2.2.2.2.1.2.1
    rw [isK_mk t0, ck_t, hx.1, isUpTo_e, ob_s]
    dsimp only
    rw [bnd_e, isK_mk (w := (w.1, w.2)) t0, ck_t, hX.2.2.2.2.1.1, ob_s]
    dsimp only
    rw [show isK (w.1, w.2.1, w.2.2.1, w.2.2.2.1, w.2.2.2.2) 27 4 = true from e4, ck_t, ck_t, hX.2.2.2.2.2.2.2.2.1.1, ob_s, ck_t, hX.2.2.2.1.1, ob_s, ck_t, ob_s, hx.2.2.1.2.2.1]
    rfl
  have hM : ∀ J, MPl J rd τ π na ac im → fnX10_nudged J p1 p2 = if nI rd = 0 then (some ((-1000002), J)) else (if upTo p1 (nI 7) = 0 then some ((-1000001), J) else (if (if p2 < (1 : Int32) then (0 : Int32) else if p2 ≤ 20 then 1 else 0) = 0 then some ((-1000001), J) else (if J 112 29 = 1 then some ((-1000002), J) else fnX10_nudgesFor J p1 p2))) := fun J hJ => by
    unfold fnX10_nudged fnX10_nudged_36 fnX10_nudged_61
    rw [n0, ck_t, x0, hJ.1, show (7 : Int64) = lN 7 from rfl, in_u J p1 7 (by decide), ob_s]
    dsimp only
    rw [in120, ob_s]
    dsimp only
    rw [n29, ck_t, x29]
    cases fnX10_nudgesFor J p1 p2 <;> rfl
  have quick : ∀ r, fwX9_nudged 0 0 w 0 0 0 p1 p2 = some (r, w) → fnX10_nudged w.1 p1 p2 = some (r, w.1) → ∃ mB sB r w1 I2, fwX9_nudged mB sB w 0 0 0 p1 p2 = some (r, w1) ∧ fnX10_nudged w1.1 p1 p2 = some (r, I2) ∧ NOk w w1 I2 mB sB := fun r e1 e2 => ⟨0, 0, r, w, w.1, e1, e2, NOk.rf hS⟩
  have c00 : cnB 0 0 0 0 = true := rfl
  have r00 : rmB 0 0 0 0 = true := rfl
  have h30 : fwX9_nudged_30 0 0 w 0 0 = some ((-1000001), w) := rfl
  rcases rd_cases ok with hr | hr
  · exact quick (-1000002) (by rw [hA, if_pos (show nI rd = 0 by rw [hr]; rfl), c00, ck_t]) (by rw [hM _ hm, if_pos (show nI rd = 0 by rw [hr]; rfl)])
  have rd0 : ¬ nI rd = 0 := nz (by omega) (by omega)
  by_cases c1 : upTo p1 (nI 7) = 0
  · exact quick (-1000001) (by rw [hA, if_neg rd0, r00, ck_t, if_pos c1, h30]) (by rw [hM _ hm, if_neg rd0, if_pos c1])
  by_cases c2 : p2 < 1
  · exact quick (-1000001) (by rw [hA, if_neg rd0, r00, ck_t, if_neg c1, if_pos c2, h30]) (by rw [hM _ hm, if_neg rd0, if_neg c1, if_pos c2, if_pos rfl])
  by_cases c3 : ¬ p2 ≤ 20
  · exact quick (-1000001) (by rw [hA, if_neg rd0, r00, ck_t, if_neg c1, if_neg c2, if_neg c3, h30]) (by rw [hM _ hm, if_neg rd0, if_neg c1, if_neg c2, if_neg c3, if_pos rfl])
  have c3 := Decidable.of_not_not c3
  have hpl := hm.2.2.1 hr
  have hlost := ok.2.2.1.1.2.2.1
  have m29 : w.1 112 29 = nI π.2.2.1 := hpl.2.2.1
  by_cases c4 : ¬ π.2.2.1 = 0
  · have z1 : π.2.2.1 = 1 := by omega
    exact quick (-1000002) (by rw [hA, if_neg rd0, r00, ck_t, if_neg c1, if_neg c2, if_pos c3, if_neg (nz (by omega) c4), c00, ck_t]) (by rw [hM _ hm, if_neg rd0, if_neg c1, if_neg c2, if_pos c3, if_neg (show ¬ (1 : Int32) = 0 by decide), if_pos (show w.1 112 29 = 1 by rw [m29, z1]; rfl)])
  have c4 := Decidable.of_not_not c4
  obtain ⟨l, hl, rfl⟩ := upTo_of (m := 7) (by decide) c1
  obtain ⟨n, hn, rfl⟩ := n20 c2 c3
  have hlv : LV (some l) (nI l) := ⟨by omega, rfl⟩
  obtain ⟨mB, sB, w1, nw, nx, nn, f, fo, b, w1e, s1, s2, s3, s4, s5, s6, s7, s8, s9, s10, s11, s12⟩ := walk_e ok.2.1 hX hS hx.2.1 hx.2.2.1 ok.2.2.1.1 hlv hn
  have hX1 := XAt_x s4 hX
  have m112 : w1.1 112 = w.1 112 := s5 112 (by omega)
  have hm1 : MPl w1.1 rd τ π na ac im := MPl_ag ok hm (fun j _ => by rw [m112]) (s5 113 (by omega)) (by rw [s5 111 (by omega)])
  obtain ⟨r, J1, f', b', g1, g2, g3, g4, g5⟩ := nudgesM ok.2.1 hm1.2.1 (hm1.2.2.1 hr) ok.2.2.1.1 hlv (fun z => by cases z) hn
  obtain ⟨_, e2⟩ := s11.uq n g2
  refine ⟨mB, sB, bestI b, w1, J1, ?_, ?_, s1, s2, s3, s4, SrI.fu ⟨nw, nx, nn, f, fo, s6, s8, s9⟩ g5, NFr.of s5 g5⟩
  · rw [hA, if_neg rd0, rmB_mk (Nat.zero_le _) (Nat.zero_le _), ck_t, if_neg c1, if_neg c2, if_pos c3, if_pos (show nI π.2.2.1 = 0 by rw [c4]; rfl), w1e, ob_s, rmB_mk (show 0 + mB ≤ mB by omega) (show 0 + sB ≤ sB by omega), ck_t, show decide (w1.2.2.2.2 = w.2.2.2.2 + mB) = true from decide_eq_true s3, ck_t, isK_mk hX.2.2.2.2.2.2.2.2.1.2, ck_t, isK_mk hX1.1, ck_t, hX1.2.2.2.2.2.2.2.2.1.1, ob_s, isK_mk hX1.2.2.2.2.2.2.2.2.1.2, ck_t, cnB_mk (show 0 + mB = mB by omega) (show 0 + sB = sB by omega), ck_t, s10]
  · rw [hM _ hm1, if_neg rd0, if_neg c1, if_neg c2, if_pos c3, if_neg (show ¬ (1 : Int32) = 0 by decide), if_neg (show ¬ w1.1 112 29 = 1 by rw [m112, m29, c4]; decide), g1, g3 (by simp), e2]
theorem p_kept {w : Wt} (h : PlayR w.1) (hX : XAt w.2) (hS : SrI w) (p1 : Int32) : ∃ mB sB r w1 I2, fwX9_kept mB sB w 0 0 0 p1 = some (r, w1) ∧ fnX10_kept w1.1 p1 = some (r, I2) ∧ NOk w w1 I2 mB sB := by
  obtain ⟨rd, τ, π, na, ac, im, ok, hx, hm⟩ := h
  have t0 : ta w.2 0 9 := hX.1
  have n0 : inb 0 164 = true := inb_nI (n := 0) (by decide) (by decide)
  have n29 : inb 29 164 = true := inb_nI (n := 29) (by decide) (by decide)
  have x0 : ix 0 = 0 := ix_nI (n := 0) (by decide)
  have x29 : ix 29 = 29 := ix_nI (n := 29) (by decide)
  have hA : ∀ mB sB, fwX9_kept mB sB w 0 0 0 p1 = if nI rd = 0 then (ck (cnB 0 0 mB sB) <| some ((-1000002), w)) else (if p1 < (1 : Int32) then (fwX9_kept_21 mB sB w 0 0) else (if p1 ≤ (20 : Int32) then (if nI π.2.2.1 = 0 then (ob (fwX6_walk mB sB w 0 0 82 21 27 (-1) p1) fun w19 => ck (rmB (0 + mB) (0 + sB) mB sB) <| ck (decide (w19.2.2.2.2 = w.2.2.2.2 + mB)) <| ck (isK w 82 6) <| ck (isK w19 0 9) <| ob (w19.2.1 0 7) fun x_25 => ck (decide (x_25 = 82)) <| ck (searchB w19.2 ((w19.2.1 82 0).getD 0) ((w19.2.1 82 1).getD 0) (w19.2.2.2.1 (((w19.2.1 82 0).getD 0) + 1))) <| ck (rmB (0 + mB) (0 + sB) mB sB) <| ob (fnX6_fewestStaying ((w19.2.1 82 0).getD 0) ((w19.2.1 82 1).getD 0) (w19.2.2.2.1 (((w19.2.1 82 0).getD 0) + 1)) w19.1) fun x => ck (cnB (0 + mB) (0 + sB) mB sB) <| some (x.1, (x.2, w19.2))) else (ck (cnB 0 0 mB sB) <| some ((-1000002), w))) else (fwX9_kept_21 mB sB w 0 0))) := fun mB sB => by
    unfold fwX9_kept
    have e4 : isK w 27 4 = true := isK_mk hX.2.2.2.2.1.2.1
    rw [isK_mk t0, ck_t, hx.1, ck_t, hX.2.2.2.2.1.1, ob_s, e4, ck_t, ck_t, hX.2.2.2.2.2.2.2.2.1.1, ob_s, ck_t, hX.2.2.2.1.1, ob_s, ck_t, ob_s, hx.2.2.1.2.2.1]
    rfl
  have hM : ∀ J, MPl J rd τ π na ac im → fnX10_kept J p1 = if nI rd = 0 then (some ((-1000002), J)) else (if (if p1 < (1 : Int32) then (0 : Int32) else if p1 ≤ 20 then 1 else 0) = 0 then some ((-1000001), J) else (if J 112 29 = 1 then some ((-1000002), J) else fnX10_nudgesFor J (-1000000) p1)) := fun J hJ => by
    unfold fnX10_kept fnX10_kept_50
    rw [n0, ck_t, x0, hJ.1, in120, ob_s]
    dsimp only
    rw [n29, ck_t, x29]
    cases fnX10_nudgesFor J (-1000000) p1 <;> rfl
  have quick : ∀ r, fwX9_kept 0 0 w 0 0 0 p1 = some (r, w) → fnX10_kept w.1 p1 = some (r, w.1) → ∃ mB sB r w1 I2, fwX9_kept mB sB w 0 0 0 p1 = some (r, w1) ∧ fnX10_kept w1.1 p1 = some (r, I2) ∧ NOk w w1 I2 mB sB := fun r e1 e2 => ⟨0, 0, r, w, w.1, e1, e2, NOk.rf hS⟩
  have c00 : cnB 0 0 0 0 = true := rfl
  have h30 : fwX9_kept_21 0 0 w 0 0 = some ((-1000001), w) := rfl
  rcases rd_cases ok with hr | hr
  · exact quick (-1000002) (by rw [hA, if_pos (show nI rd = 0 by rw [hr]; rfl), c00, ck_t]) (by rw [hM _ hm, if_pos (show nI rd = 0 by rw [hr]; rfl)])
  have rd0 : ¬ nI rd = 0 := nz (by omega) (by omega)
  by_cases c2 : p1 < 1
  · exact quick (-1000001) (by rw [hA, if_neg rd0, if_pos c2, h30]) (by rw [hM _ hm, if_neg rd0, if_pos c2, if_pos rfl])
  by_cases c3 : ¬ p1 ≤ 20
  · exact quick (-1000001) (by rw [hA, if_neg rd0, if_neg c2, if_neg c3, h30]) (by rw [hM _ hm, if_neg rd0, if_neg c2, if_neg c3, if_pos rfl])
  have c3 := Decidable.of_not_not c3
  have hpl := hm.2.2.1 hr
  have hlost := ok.2.2.1.1.2.2.1
  have m29 : w.1 112 29 = nI π.2.2.1 := hpl.2.2.1
  by_cases c4 : ¬ π.2.2.1 = 0
  · have z1 : π.2.2.1 = 1 := by omega
    exact quick (-1000002) (by rw [hA, if_neg rd0, if_neg c2, if_pos c3, if_neg (nz (by omega) c4), c00, ck_t]) (by rw [hM _ hm, if_neg rd0, if_neg c2, if_pos c3, if_neg (show ¬ (1 : Int32) = 0 by decide), if_pos (show w.1 112 29 = 1 by rw [m29, z1]; rfl)])
  have c4 := Decidable.of_not_not c4
  obtain ⟨n, hn, rfl⟩ := n20 c2 c3
  have hlv : LV none (-1) := fun l hl => neg1_ne (by omega)
  have hlM : LV none (-1000000) := fun l hl => none_ne (by omega)
  obtain ⟨mB, sB, w1, nw, nx, nn, f, fo, b, w1e, s1, s2, s3, s4, s5, s6, s7, s8, s9, s10, s11, s12⟩ := walk_e ok.2.1 hX hS hx.2.1 hx.2.2.1 ok.2.2.1.1 hlv hn
  have hX1 := XAt_x s4 hX
  have m112 : w1.1 112 = w.1 112 := s5 112 (by omega)
  have hm1 : MPl w1.1 rd τ π na ac im := MPl_ag ok hm (fun j _ => by rw [m112]) (s5 113 (by omega)) (by rw [s5 111 (by omega)])
  obtain ⟨r, J1, f', b', g1, g2, g3, g4, g5⟩ := nudgesM ok.2.1 hm1.2.1 (hm1.2.2.1 hr) ok.2.2.1.1 hlM (fun _ => rfl) hn
  obtain ⟨e1, e2⟩ := s11.uq n g2
  obtain ⟨q1, q2⟩ := stayLoop (nx := nx) s8 s6.2.1 (fun q g u e => by have := (s12 q g u e).2.2; omega) (cnt (isF f) nn) 0 FU none (by omega) (by have := cnt_le (isF f) nn; have := s6.2.1; unfold FU; omega) (fun u e => by cases e) (IsMin.no (fun v ⟨j, p, a, _⟩ => absurd a (by omega)))
  have q3 : IsMin (fun v => ∃ q g, f q g = some v) q1 := q2.2.cg (fun v => ⟨fun ⟨q, g, a, _⟩ => ⟨q, g, a⟩, fun ⟨q, g, a⟩ => ⟨q, g, a, (s12 q g v a).1, s12.lt s7 a⟩⟩)
  have er : r = q1 := (g4 rfl (Rnds.no n g2)).uq (by rw [← e1]; exact q3)
  obtain ⟨t0', ⟨a1, b1⟩, ⟨a2, b2⟩, ⟨a3, b3⟩⟩ := s6.1
  have nN : w1.2.2.2.1 (nw + 1) = nn := b1.2.1.2.2.2
  refine ⟨mB, sB, bestI q1, w1, J1, ?_, ?_, s1, s2, s3, s4, SrI.fu ⟨nw, nx, nn, f, fo, s6, s8, s9⟩ g5, NFr.of s5 g5⟩
  · rw [hA, if_neg rd0, if_neg c2, if_pos c3, if_pos (show nI π.2.2.1 = 0 by rw [c4]; rfl), w1e, ob_s, rmB_mk (show 0 + mB ≤ mB by omega) (show 0 + sB ≤ sB by omega), ck_t, show decide (w1.2.2.2.2 = w.2.2.2.2 + mB) = true from decide_eq_true s3, ck_t, isK_mk hX.2.2.2.2.2.2.2.2.1.2, ck_t, isK_mk hX1.1, ck_t, hX1.2.2.2.2.2.2.2.2.1.1, ob_s, show decide ((82 : Nat) = 82) = true from rfl, ck_t, a1, a2, Option.getD_some, Option.getD_some, nN, searchB_mk s6.1, ck_t, ck_t]
    unfold fnX6_fewestStaying
    rw [show fnX6_fewestStaying_5 nw nx nn FU w1.1 (-1000000) 0 = _ from q2.1, ob_s, cnB_mk (show 0 + mB = mB by omega) (show 0 + sB = sB by omega), ck_t]
  · rw [hM _ hm1, if_neg rd0, if_neg c2, if_pos c3, if_neg (show ¬ (1 : Int32) = 0 by decide), if_neg (show ¬ w1.1 112 29 = 1 by rw [m112, m29, c4]; decide), g1, er]
