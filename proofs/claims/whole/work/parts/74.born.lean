/-! the constructors, run by the kernel -/
theorem some_getD {α : Type} {o : Option α} {d : α} (h : o.isSome = true) : o = some (o.getD d) := by
  cases o with
  | none => cases h
  | some x => rfl
def taB (h : Shp) (a k : Nat) : Bool := decide (h.2.1 a = k) && decide (a < h.2.2.2)
def tAB (h : Shp) (a k n : Nat) : Bool := decide (h.2.1 a = k) && (decide (a < h.2.2.2) && decide (h.2.2.1 a = n))
def rB (h : Shp) (a j r : Nat) : Bool := decide (h.1 a j = some r)
theorem taB_ok {h : Shp} {a k : Nat} (e : taB h a k = true) : ta h a k := by
  simp only [taB, Bool.and_eq_true, decide_eq_true_eq] at e
  exact e
theorem tAB_ok {h : Shp} {a k n : Nat} (e : tAB h a k n = true) : tA h a k n := by
  simp only [tAB, Bool.and_eq_true, decide_eq_true_eq] at e
  exact e
theorem rB_ok {h : Shp} {a j r : Nat} (e : rB h a j r = true) : h.1 a j = some r := of_decide_eq_true e
def imageB (h : Shp) (a : Nat) : Bool := taB h a 2 && ((rB h a 0 (a + 1) && tableB h (a + 1)) && (rB h a 1 (a + 7) && playB h (a + 7)))
theorem imageB_ok {h : Shp} {a : Nat} (e : imageB h a = true) : ImageAt h a := by
  simp only [imageB, Bool.and_eq_true] at e
  exact ⟨taB_ok e.1, ⟨rB_ok e.2.1.1, tableB_ok e.2.1.2⟩, ⟨rB_ok e.2.2.1, playB_ok e.2.2.2⟩⟩
theorem all_ok {n : Nat} {f : Nat → Bool} (e : (List.range n).all f = true) {j : Nat} (hj : j < n) : f j = true := List.all_eq_true.mp e j (List.mem_range.mpr hj)
def zB (w : Wt) (l : List (Nat × Nat)) : Bool := l.all (fun q => decide (w.1 q.1 q.2 = 0))
theorem zB_ok {w : Wt} {l : List (Nat × Nat)} (h : zB w l = true) {a k : Nat} (hm : (a, k) ∈ l) : w.1 a k = 0 := of_decide_eq_true (List.all_eq_true.mp h (a, k) hm)
def l0 : List (Nat × Nat) := [(0, 9), (0, 10), (0, 11), (111, 2), (111, 4), (111, 5), (111, 6), (111, 11), (13, 1), (91, 1), (29, 1), (29, 2), (21, 0), (21, 1)]
def l1 : List (Nat × Nat) := [(27, 0), (27, 1), (27, 2), (27, 3), (27, 4), (27, 6), (27, 7), (28, 0), (28, 1), (28, 2), (28, 3), (28, 4), (28, 5)]
def l2 : List (Nat × Nat) := [(93, 2), (102, 2), (112, 0), (112, 1), (112, 2), (112, 33), (112, 41), (112, 82), (83, 2), (86, 2)]
def c_bX1 (w : Wt) : Bool := (taB w.2 0 9 && (rB w.2 0 0 1 && (rB w.2 0 1 13 && (rB w.2 0 2 21 && (rB w.2 0 3 27 && (rB w.2 0 4 29 && (rB w.2 0 5 79 && (rB w.2 0 6 80 && (rB w.2 0 7 82 && rB w.2 0 8 91)))))))))
def c_bX2 (w : Wt) : Bool := (taB w.2 1 5 && (rB w.2 1 0 2 && (tAB w.2 2 11 8 && (rB w.2 1 1 3 && (tAB w.2 3 11 8 && (rB w.2 1 2 4 && (tAB w.2 4 14 8 && (List.range 8).all (fun j => rB w.2 4 j (5 + 1 * j) && tAB w.2 (5 + 1 * j) 11 40))))))))
def c_bX3 (w : Wt) : Bool := (taB w.2 13 8 && (rB w.2 13 0 14 && (tAB w.2 14 11 400 && (rB w.2 13 2 15 && tableB w.2 15))))
def c_bX4 (w : Wt) : Bool := (tableB w.2 21 && (playB w.2 27 && (playB w.2 80 && (taB w.2 82 6 && (taB w.2 91 1 && (rB w.2 91 0 92 && tAB w.2 92 11 16))))))
def c_bX5 (w : Wt) : Bool := (taB w.2 29 0 && (rB w.2 29 0 30 && (tAB w.2 30 13 24 && (List.range 24).all (fun j => rB w.2 30 j (31 + 2 * j) && playB w.2 (31 + 2 * j)))))
def c_bX6 (w : Wt) : Bool := (tAB w.2 79 12 2 && (List.range 2).all (fun j => rB w.2 79 j (93 + 9 * j) && imageB w.2 (93 + 9 * j)))
def c_bM (w : Wt) : Bool := (taB w.2 111 10 && (([(0, 112, 164), (1, 113, 336), (3, 114, 400), (7, 115, 8), (8, 116, 8), (9, 117, 320), (10, 118, 16), (16, 119, 24), (20, 120, 10752), (21, 121, 10752)] : List (Nat × Nat × Nat)).all (fun q => rB w.2 111 q.1 q.2.1 && tAB w.2 q.2.1 11 q.2.2)))
def c_bS (w : Wt) : Bool := searchB w.2 83 86 168
def c_z0 (w : Wt) : Bool := zB w l0
def c_z1 (w : Wt) : Bool := zB w l1
def c_z2 (w : Wt) : Bool := zB w l2
def c_z3 (w : Wt) : Bool := (List.range 42).all (fun c => decide (w.1 26 c = -1))
def c_z4 (w : Wt) : Bool := (List.range 8).all (fun r => decide (w.1 3 r = -1) && decide (w.1 115 r = -1000000))
def c_z5 (w : Wt) : Bool := (List.range 168).all (fun p => decide (w.1 85 p = 0))
def c_z6 (w : Wt) : Bool := (List.range 168).all (fun p => decide (w.1 88 p = 0))
def c_z7 (w : Wt) : Bool := decide (w.1 27 5 = -1)
def c_sz (w : Wt) : Bool := decide (w.2.2.2.2 = 122)
theorem g_X {w : Wt} (h_bX1 : c_bX1 w = true) (h_bX2 : c_bX2 w = true) (h_bX3 : c_bX3 w = true) (h_bX4 : c_bX4 w = true) (h_bX5 : c_bX5 w = true) (h_bX6 : c_bX6 w = true) : XAt w.2 := by
  have e1 := h_bX1
  unfold c_bX1 at e1
  have e2 := h_bX2
  unfold c_bX2 at e2
  have e3 := h_bX3
  unfold c_bX3 at e3
  have e4 := h_bX4
  unfold c_bX4 at e4
  have e5 := h_bX5
  unfold c_bX5 at e5
  have e6 := h_bX6
  unfold c_bX6 at e6
  simp only [Bool.and_eq_true] at e1 e2 e3 e4 e5 e6
  obtain ⟨a0, a1, a2, a3, a4, a5, a6, a7, a8, a9⟩ := e1
  obtain ⟨b0, b1, b2, b3, b4, b5, b6, b7⟩ := e2
  obtain ⟨c0, c1, c2, c3, c4⟩ := e3
  obtain ⟨d0, d1, d2, d3, d4, d5, d6⟩ := e4
  obtain ⟨f0, f1, f2, f3⟩ := e5
  obtain ⟨g0, g1⟩ := e6
  refine ⟨taB_ok a0, ⟨rB_ok a1, taB_ok b0, ⟨rB_ok b1, tAB_ok b2⟩, ⟨rB_ok b3, tAB_ok b4⟩, ⟨rB_ok b5, tAB_ok b6, fun j hj => ?_⟩⟩, ⟨rB_ok a2, taB_ok c0, ⟨rB_ok c1, tAB_ok c2⟩, ⟨rB_ok c3, tableB_ok c4⟩⟩, ⟨rB_ok a3, tableB_ok d0⟩, ⟨rB_ok a4, playB_ok d1⟩, ⟨rB_ok a5, taB_ok f0, rB_ok f1, tAB_ok f2, fun j hj => ?_⟩, ⟨rB_ok a6, tAB_ok g0, fun j hj => ?_⟩, ⟨rB_ok a7, playB_ok d2⟩, ⟨rB_ok a8, taB_ok d3⟩, ⟨rB_ok a9, taB_ok d4, rB_ok d5, tAB_ok d6⟩⟩
  · have := all_ok b7 hj
    simp only [Bool.and_eq_true] at this
    exact ⟨rB_ok this.1, tAB_ok this.2⟩
  · have := all_ok f3 hj
    simp only [Bool.and_eq_true] at this
    exact ⟨rB_ok this.1, playB_ok this.2⟩
  · have := all_ok g1 hj
    simp only [Bool.and_eq_true] at this
    exact ⟨rB_ok this.1, imageB_ok this.2⟩
theorem g_M {w : Wt} (h_bM : c_bM w = true) : MAt w.2 := by
  have e := h_bM
  unfold c_bM at e
  rw [Bool.and_eq_true, List.all_eq_true] at e
  obtain ⟨e0, e1⟩ := e
  have q : ∀ x ∈ ([(0, 112, 164), (1, 113, 336), (3, 114, 400), (7, 115, 8), (8, 116, 8), (9, 117, 320), (10, 118, 16), (16, 119, 24), (20, 120, 10752), (21, 121, 10752)] : List (Nat × Nat × Nat)), w.2.1 111 x.1 = some x.2.1 ∧ tA w.2 x.2.1 11 x.2.2 := fun x hx => by
    have := e1 x hx
    rw [Bool.and_eq_true] at this
    exact ⟨rB_ok this.1, tAB_ok this.2⟩
  exact ⟨taB_ok e0, q (0, 112, 164) (by decide), q (1, 113, 336) (by decide), q (3, 114, 400) (by decide), q (7, 115, 8) (by decide), q (8, 116, 8) (by decide), q (9, 117, 320) (by decide), q (10, 118, 16) (by decide), q (16, 119, 24) (by decide), q (20, 120, 10752) (by decide), q (21, 121, 10752) (by decide)⟩
theorem g_S {w : Wt} (h_bS : c_bS w = true) : SearchAt w.2 83 86 168 := searchB_ok h_bS
theorem g_0 {w : Wt} (h_z0 : c_z0 w = true) : w.1 0 9 = 0 ∧ w.1 0 10 = 0 ∧ w.1 0 11 = 0 ∧ w.1 111 2 = 0 ∧ w.1 111 4 = 0 ∧ w.1 111 5 = 0 ∧ w.1 111 6 = 0 ∧ w.1 111 11 = 0 ∧ w.1 13 1 = 0 ∧ w.1 91 1 = 0 ∧ w.1 29 1 = 0 ∧ w.1 29 2 = 0 := ⟨zB_ok h_z0 (by decide), zB_ok h_z0 (by decide), zB_ok h_z0 (by decide), zB_ok h_z0 (by decide), zB_ok h_z0 (by decide), zB_ok h_z0 (by decide), zB_ok h_z0 (by decide), zB_ok h_z0 (by decide), zB_ok h_z0 (by decide), zB_ok h_z0 (by decide), zB_ok h_z0 (by decide), zB_ok h_z0 (by decide)⟩
theorem g_21 {w : Wt} (h_z0 : c_z0 w = true) (h_z3 : c_z3 w = true) : w.1 21 0 = 0 ∧ w.1 21 1 = 0 ∧ ∀ c, c < 42 → w.1 26 c = -1 := ⟨zB_ok h_z0 (by decide), zB_ok h_z0 (by decide), fun c hc => of_decide_eq_true (all_ok h_z3 hc)⟩
theorem g_27 {w : Wt} (h_z1 : c_z1 w = true) (h_z7 : c_z7 w = true) : w.1 27 0 = 0 ∧ w.1 27 1 = 0 ∧ w.1 27 2 = 0 ∧ w.1 27 3 = 0 ∧ w.1 27 4 = 0 ∧ w.1 27 5 = -1 ∧ w.1 27 6 = 0 ∧ w.1 27 7 = 0 ∧ ∀ i, i < 6 → w.1 28 i = 0 := ⟨zB_ok h_z1 (by decide), zB_ok h_z1 (by decide), zB_ok h_z1 (by decide), zB_ok h_z1 (by decide), zB_ok h_z1 (by decide), of_decide_eq_true h_z7, zB_ok h_z1 (by decide), zB_ok h_z1 (by decide), fun i hi => by
  rcases (show i = 0 ∨ i = 1 ∨ i = 2 ∨ i = 3 ∨ i = 4 ∨ i = 5 by omega) with rfl | rfl | rfl | rfl | rfl | rfl <;> exact zB_ok h_z1 (by decide)⟩
theorem g_93 {w : Wt} (h_z2 : c_z2 w = true) : w.1 93 2 = 0 ∧ w.1 102 2 = 0 ∧ w.1 112 0 = 0 ∧ w.1 112 1 = 0 ∧ w.1 112 2 = 0 ∧ w.1 112 33 = 0 ∧ w.1 112 41 = 0 ∧ w.1 112 82 = 0 := ⟨zB_ok h_z2 (by decide), zB_ok h_z2 (by decide), zB_ok h_z2 (by decide), zB_ok h_z2 (by decide), zB_ok h_z2 (by decide), zB_ok h_z2 (by decide), zB_ok h_z2 (by decide), zB_ok h_z2 (by decide)⟩
theorem g_3 {w : Wt} (h_z4 : c_z4 w = true) : ∀ r, r < 8 → w.1 3 r = -1 ∧ w.1 115 r = -1000000 := fun r hr => by
  have := all_ok h_z4 hr
  rw [Bool.and_eq_true] at this
  exact ⟨of_decide_eq_true this.1, of_decide_eq_true this.2⟩
theorem g_85 {w : Wt} (h_z2 : c_z2 w = true) (h_z5 : c_z5 w = true) (h_z6 : c_z6 w = true) : w.1 83 2 = 0 ∧ w.1 86 2 = 0 ∧ ∀ p, p < 168 → w.1 85 p = 0 ∧ w.1 88 p = 0 := ⟨zB_ok h_z2 (by decide), zB_ok h_z2 (by decide), fun p hp => ⟨of_decide_eq_true (all_ok h_z5 hp), of_decide_eq_true (all_ok h_z6 hp)⟩⟩
theorem LayX.z2 {I : Mem} {a n : Nat} (h2 : I a 2 = 0) (h1 : ∀ p, p < n → I (a + 2) p = 0) : LayX I a n nonF := ⟨(by rw [cnt_non, h2]; rfl), fun k hk => (by rw [cnt_non] at hk; omega), fun p _ hp => (by cases hp), fun p hp => h1 p hp⟩
def newP0 : Pl := (0, 0, 0, 0, 0, -1, 0, 0, fun _ => 0)
theorem g_P {w : Wt} (h_z0 : c_z0 w = true) (h_z1 : c_z1 w = true) (h_z2 : c_z2 w = true) (h_z3 : c_z3 w = true) (h_z7 : c_z7 w = true) : PlayR w.1 := by
  obtain ⟨a1, a2, a3, a4, a5, a6, a7, a8, a9, a10, a11, a12⟩ := g_0 h_z0
  obtain ⟨b1, b2, b3⟩ := g_21 h_z0 h_z3
  obtain ⟨c1, c2, c3, c4, c5, c6, c7, c8, c9⟩ := g_27 h_z1 h_z7
  obtain ⟨d1, d2, d3, d4, d5, d6, d7, d8⟩ := g_93 h_z2
  refine ⟨0, e0 0, newP0, 0, fun _ => newP0, fun _ => none, ⟨by omega, e0_ok (by omega), ⟨⟨by show 0 < 42; omega, by show 0 < 4; omega, by show 0 < 2; omega, by show 0 ≤ 23; omega, by show 0 < 2 ^ tn (e0 0); exact Nat.two_pow_pos _⟩, fun _ => Nat.le_refl 0⟩, by omega, fun k hk => absurd hk (by omega), fun _ => ⟨rfl, rfl, fun _ _ => rfl⟩, fun k hk τ' π' e => by cases e⟩, ⟨a1, ⟨b1, b2, fun p hp => absurd hp (by show ¬ p < 0; omega), fun c hc => b3 c hc⟩, ⟨c1, c2, c3, c4, c5, c6, c7, c8, fun i hi => c9 i hi⟩, ⟨a12, 0, by omega, a11, fun k hk => absurd hk (by omega)⟩, fun k hk => ?_⟩, ⟨d3, ⟨d4, d5, fun p hp => absurd hp (by show ¬ p < 0; omega)⟩, fun z => absurd z (by omega), d6, a4, fun k hk => absurd hk (by omega), fun k hk => ?_⟩⟩
  · rcases (show k = 0 ∨ k = 1 by omega) with rfl | rfl
    · exact d1
    · exact d2
  · rcases (show k = 0 ∨ k = 1 by omega) with rfl | rfl
    · exact d7
    · exact d8
theorem g_inv {w : Wt} (h_bX1 : c_bX1 w = true) (h_bX2 : c_bX2 w = true) (h_bX3 : c_bX3 w = true) (h_bX4 : c_bX4 w = true) (h_bX5 : c_bX5 w = true) (h_bX6 : c_bX6 w = true) (h_bM : c_bM w = true) (h_bS : c_bS w = true) (h_z0 : c_z0 w = true) (h_z1 : c_z1 w = true) (h_z2 : c_z2 w = true) (h_z3 : c_z3 w = true) (h_z4 : c_z4 w = true) (h_z5 : c_z5 w = true) (h_z6 : c_z6 w = true) (h_z7 : c_z7 w = true) (h_sz : c_sz w = true) : InvL w := by
  obtain ⟨a1, a2, a3, a4, a5, a6, a7, a8, a9, a10, a11, a12⟩ := g_0 h_z0
  obtain ⟨b1, b2, b3⟩ := g_85 h_z2 h_z5 h_z6
  refine ⟨g_X h_bX1 h_bX2 h_bX3 h_bX4 h_bX5 h_bX6, g_M h_bM, ⟨83, 86, 168, nonF, nonF, ⟨g_S h_bS, by omega, Or.inl rfl, Or.inr (Or.inl rfl), by omega, by rw [show w.2.2.2.2 = 122 from of_decide_eq_true h_sz]; omega⟩, LayX.z2 b1 (fun p hp => (b3 p hp).1), LayX.z2 b2 (fun p hp => (b3 p hp).2)⟩, g_P h_z0 h_z1 h_z2 h_z3 h_z7, fun r hr => Or.inl (g_3 h_z4 r hr), ?_, ⟨[], by decide, a10, a8, fun i hi => absurd hi (by simp)⟩, ⟨0, by omega, a9, a5, fun j hj => absurd hj (by omega)⟩, ?_⟩
  · show w.1 0 11 = w.1 111 6
    rw [a3, a7]
  · rw [a2, a6]
set_option maxRecDepth 100000 in
theorem w9_is : (fwX9_init 110 2252 (al wE 9 12) 0 0 0).isSome = true := by decide +kernel
theorem w9_e : fwX9_init 110 2252 (al wE 9 12) 0 0 0 = some w9 := some_getD w9_is
set_option maxRecDepth 100000 in
theorem w9_sz : decide (w9.2.2.2.2 = 111) = true := by decide +kernel
set_option maxRecDepth 100000 in
theorem wA_is : (fwX10_init 10 22780 (al w9 10 22) 0 0 111).isSome = true := by decide +kernel
theorem wA_e : fwX10_init 10 22780 (al w9 10 22) 0 0 111 = some wA := some_getD wA_is
set_option maxRecDepth 100000 in
theorem bX1 : c_bX1 wA = true := by decide +kernel
set_option maxRecDepth 100000 in
theorem bX2 : c_bX2 wA = true := by decide +kernel
set_option maxRecDepth 100000 in
theorem bX3 : c_bX3 wA = true := by decide +kernel
set_option maxRecDepth 100000 in
theorem bX4 : c_bX4 wA = true := by decide +kernel
set_option maxRecDepth 100000 in
theorem bX5 : c_bX5 wA = true := by decide +kernel
set_option maxRecDepth 100000 in
theorem bX6 : c_bX6 wA = true := by decide +kernel
set_option maxRecDepth 100000 in
theorem bM : c_bM wA = true := by decide +kernel
set_option maxRecDepth 100000 in
theorem bS : c_bS wA = true := by decide +kernel
set_option maxRecDepth 100000 in
theorem z0 : c_z0 wA = true := by decide +kernel
set_option maxRecDepth 100000 in
theorem z1 : c_z1 wA = true := by decide +kernel
set_option maxRecDepth 100000 in
theorem z2 : c_z2 wA = true := by decide +kernel
set_option maxRecDepth 100000 in
theorem z3 : c_z3 wA = true := by decide +kernel
set_option maxRecDepth 100000 in
theorem z4 : c_z4 wA = true := by decide +kernel
set_option maxRecDepth 100000 in
theorem z5 : c_z5 wA = true := by decide +kernel
set_option maxRecDepth 100000 in
theorem z6 : c_z6 wA = true := by decide +kernel
set_option maxRecDepth 100000 in
theorem z7 : c_z7 wA = true := by decide +kernel
set_option maxRecDepth 100000 in
theorem zs : c_sz wA = true := by decide +kernel
theorem wA_inv : InvL wA := g_inv bX1 bX2 bX3 bX4 bX5 bX6 bM bS z0 z1 z2 z3 z4 z5 z6 z7 zs
