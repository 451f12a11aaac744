/-! worlds that grow; the room of the search -/
def ShX (h h1 : Shp) : Prop := h.2.2.2 ≤ h1.2.2.2 ∧ (∀ x, x < h.2.2.2 → h1.2.1 x = h.2.1 x ∧ h1.2.2.1 x = h.2.2.1 x) ∧ (∀ x, x < h.2.2.2 → x ≠ 82 → h1.1 x = h.1 x) ∧ h1.1 82 2 = h.1 82 2
theorem ShX.rf {h : Shp} : ShX h h := ⟨Nat.le_refl _, fun _ _ => ⟨rfl, rfl⟩, fun _ _ _ => rfl, rfl⟩
theorem ShX.tr {h h1 h2 : Shp} (a : ShX h h1) (c : ShX h1 h2) : ShX h h2 := ⟨Nat.le_trans a.1 c.1, fun x hx => ⟨(c.2.1 x (Nat.lt_of_lt_of_le hx a.1)).1.trans (a.2.1 x hx).1, (c.2.1 x (Nat.lt_of_lt_of_le hx a.1)).2.trans (a.2.1 x hx).2⟩, fun x hx hn => (c.2.2.1 x (Nat.lt_of_lt_of_le hx a.1) hn).trans (a.2.2.1 x hx hn), c.2.2.2.trans a.2.2.2⟩
section
variable {h h1 : Shp}
theorem ta_x (hx : ShX h h1) {a k : Nat} (t : ta h a k) : ta h1 a k := ⟨(hx.2.1 a t.2).1.trans t.1, Nat.lt_of_lt_of_le t.2 hx.1⟩
theorem tA_x (hx : ShX h h1) {a k n : Nat} (t : tA h a k n) : tA h1 a k n := ⟨(hx.2.1 a t.2.1).1.trans t.1, Nat.lt_of_lt_of_le t.2.1 hx.1, (hx.2.1 a t.2.1).2.trans t.2.2⟩
theorem rr_x (hx : ShX h h1) {a j : Nat} {r : Option Nat} (ha : a < h.2.2.2) (hn : a ≠ 82) (t : h.1 a j = r) : h1.1 a j = r := (congrFun (hx.2.2.1 a ha hn) j).trans t
theorem PlayAt_x (hx : ShX h h1) {a : Nat} (hn : a ≠ 82) (t : PlayAt h a) : PlayAt h1 a := ⟨ta_x hx t.1, rr_x hx t.1.2 hn t.2.1, tA_x hx t.2.2⟩
theorem TableAt_x (hx : ShX h h1) {a : Nat} (hn : a ≠ 82) (t : TableAt h a) : TableAt h1 a := by
  obtain ⟨t0, ⟨a1, b1⟩, ⟨a2, b2⟩, ⟨a3, b3⟩, ⟨a4, b4⟩, ⟨a5, b5⟩⟩ := t
  exact ⟨ta_x hx t0, ⟨rr_x hx t0.2 hn a1, tA_x hx b1⟩, ⟨rr_x hx t0.2 hn a2, tA_x hx b2⟩, ⟨rr_x hx t0.2 hn a3, tA_x hx b3⟩, ⟨rr_x hx t0.2 hn a4, tA_x hx b4⟩, ⟨rr_x hx t0.2 hn a5, tA_x hx b5⟩⟩
theorem ImageAt_x (hx : ShX h h1) {a : Nat} (hn : 82 < a) (t : ImageAt h a) : ImageAt h1 a := by
  obtain ⟨t0, ⟨a1, b1⟩, ⟨a2, b2⟩⟩ := t
  exact ⟨ta_x hx t0, ⟨rr_x hx t0.2 (by omega) a1, TableAt_x hx (by omega) b1⟩, ⟨rr_x hx t0.2 (by omega) a2, PlayAt_x hx (by omega) b2⟩⟩
theorem RowsAt_x (hx : ShX h h1) (t : RowsAt h) : RowsAt h1 := by
  obtain ⟨t0, ⟨a1, b1⟩, ⟨a2, b2⟩, ⟨a3, b3, c3⟩⟩ := t
  exact ⟨ta_x hx t0, ⟨rr_x hx t0.2 (by omega) a1, tA_x hx b1⟩, ⟨rr_x hx t0.2 (by omega) a2, tA_x hx b2⟩, ⟨rr_x hx t0.2 (by omega) a3, tA_x hx b3, fun j hj => ⟨rr_x hx b3.2.1 (by omega) (c3 j hj).1, tA_x hx (c3 j hj).2⟩⟩⟩
theorem TapeAt_x (hx : ShX h h1) (t : TapeAt h) : TapeAt h1 := by
  obtain ⟨t0, ⟨a1, b1⟩, ⟨a2, b2⟩⟩ := t
  exact ⟨ta_x hx t0, ⟨rr_x hx t0.2 (by omega) a1, tA_x hx b1⟩, ⟨rr_x hx t0.2 (by omega) a2, TableAt_x hx (by omega) b2⟩⟩
theorem ActsAt_x (hx : ShX h h1) (t : ActsAt h) : ActsAt h1 := by
  obtain ⟨t0, a1, b1, c1⟩ := t
  exact ⟨ta_x hx t0, rr_x hx t0.2 (by omega) a1, tA_x hx b1, fun j hj => ⟨rr_x hx b1.2.1 (by omega) (c1 j hj).1, PlayAt_x hx (by omega) (c1 j hj).2⟩⟩
theorem AsksAt_x (hx : ShX h h1) (t : AsksAt h) : AsksAt h1 := ⟨ta_x hx t.1, rr_x hx t.1.2 (by omega) t.2.1, tA_x hx t.2.2⟩
theorem XAt_x (hx : ShX h h1) (t : XAt h) : XAt h1 := by
  obtain ⟨t0, ⟨a1, b1⟩, ⟨a2, b2⟩, ⟨a3, b3⟩, ⟨a4, b4⟩, ⟨a5, b5⟩, ⟨a6, b6, c6⟩, ⟨a7, b7⟩, ⟨a8, b8⟩, ⟨a9, b9⟩⟩ := t
  exact ⟨ta_x hx t0, ⟨rr_x hx t0.2 (by omega) a1, RowsAt_x hx b1⟩, ⟨rr_x hx t0.2 (by omega) a2, TapeAt_x hx b2⟩, ⟨rr_x hx t0.2 (by omega) a3, TableAt_x hx (by omega) b3⟩, ⟨rr_x hx t0.2 (by omega) a4, PlayAt_x hx (by omega) b4⟩, ⟨rr_x hx t0.2 (by omega) a5, ActsAt_x hx b5⟩, ⟨rr_x hx t0.2 (by omega) a6, tA_x hx b6, fun j hj => ⟨rr_x hx b6.2.1 (by omega) (c6 j hj).1, ImageAt_x hx (by omega) (c6 j hj).2⟩⟩, ⟨rr_x hx t0.2 (by omega) a7, PlayAt_x hx (by omega) b7⟩, ⟨rr_x hx t0.2 (by omega) a8, ta_x hx b8⟩, ⟨rr_x hx t0.2 (by omega) a9, AsksAt_x hx b9⟩⟩
theorem MAt_x (hx : ShX h h1) (t : MAt h) : MAt h1 := by
  obtain ⟨t0, ⟨a1, b1⟩, ⟨a2, b2⟩, ⟨a3, b3⟩, ⟨a4, b4⟩, ⟨a5, b5⟩, ⟨a6, b6⟩, ⟨a7, b7⟩, ⟨a8, b8⟩, ⟨a9, b9⟩, ⟨a10, b10⟩⟩ := t
  exact ⟨ta_x hx t0, ⟨rr_x hx t0.2 (by omega) a1, tA_x hx b1⟩, ⟨rr_x hx t0.2 (by omega) a2, tA_x hx b2⟩, ⟨rr_x hx t0.2 (by omega) a3, tA_x hx b3⟩, ⟨rr_x hx t0.2 (by omega) a4, tA_x hx b4⟩, ⟨rr_x hx t0.2 (by omega) a5, tA_x hx b5⟩, ⟨rr_x hx t0.2 (by omega) a6, tA_x hx b6⟩, ⟨rr_x hx t0.2 (by omega) a7, tA_x hx b7⟩, ⟨rr_x hx t0.2 (by omega) a8, tA_x hx b8⟩, ⟨rr_x hx t0.2 (by omega) a9, tA_x hx b9⟩, ⟨rr_x hx t0.2 (by omega) a10, tA_x hx b10⟩⟩
theorem layerB_mk {a n : Nat} (t : LayerAt h a n) : layerB h a n = true := by
  obtain ⟨t0, ⟨a1, b1⟩, ⟨a2, b2⟩⟩ := t
  simp only [layerB, Bool.and_eq_true, decide_eq_true_eq]
  exact ⟨t0, ⟨a1, ⟨b1.1, b1.2.1⟩, b1.2.2⟩, ⟨a2, ⟨b2.1, b2.2.1⟩, b2.2.2⟩⟩
theorem playB_mk {a : Nat} (t : PlayAt h a) : playB h a = true := by
  simp only [playB, Bool.and_eq_true, decide_eq_true_eq]
  exact ⟨t.1, t.2.1, ⟨t.2.2.1, t.2.2.2.1⟩, t.2.2.2.2⟩
theorem tableB_mk {a : Nat} (t : TableAt h a) : tableB h a = true := by
  obtain ⟨t0, ⟨a1, b1⟩, ⟨a2, b2⟩, ⟨a3, b3⟩, ⟨a4, b4⟩, ⟨a5, b5⟩⟩ := t
  simp only [tableB, Bool.and_eq_true, decide_eq_true_eq]
  exact ⟨t0, ⟨a1, ⟨b1.1, b1.2.1⟩, b1.2.2⟩, ⟨a2, ⟨b2.1, b2.2.1⟩, b2.2.2⟩, ⟨a3, ⟨b3.1, b3.2.1⟩, b3.2.2⟩, ⟨a4, ⟨b4.1, b4.2.1⟩, b4.2.2⟩, ⟨a5, ⟨b5.1, b5.2.1⟩, b5.2.2⟩⟩
theorem searchB_mk {nw nx n : Nat} (t : SearchAt h nw nx n) : searchB h nw nx n = true := by
  obtain ⟨t0, ⟨a1, b1⟩, ⟨a2, b2⟩, ⟨a3, b3⟩⟩ := t
  simp only [searchB, Bool.and_eq_true, decide_eq_true_eq]
  exact ⟨t0, ⟨a1, layerB_mk b1⟩, ⟨a2, layerB_mk b2⟩, ⟨a3, playB_mk b3⟩⟩
end
theorem isK_mk {w : Wt} {a k : Nat} (t : ta w.2 a k) : isK w a k = true := by
  simp only [isK, Bool.and_eq_true, decide_eq_true_eq]
  exact t
theorem rmB_mk {ce sl mB sB : Nat} (h1 : ce ≤ mB) (h2 : sl ≤ sB) : rmB ce sl mB sB = true := by
  simp only [rmB, Bool.and_eq_true, decide_eq_true_eq]
  exact ⟨h1, h2⟩
theorem cnB_mk {ce sl mB sB : Nat} (h1 : ce = mB) (h2 : sl = sB) : cnB ce sl mB sB = true := by
  simp only [cnB, Bool.and_eq_true, decide_eq_true_eq]
  exact ⟨h1, h2⟩
/-- a Layer is made -/
theorem init3_e (w : Wt) {a m : Nat} (ha : ta w.2 a 3) (hm : m ≤ 10752) : ∃ w1, fwX3_init 2 (2 * m) w 0 0 a (nI m) = some w1 ∧ w1.2.2.2.2 = w.2.2.2.2 + 2 ∧ (∀ x, x < w.2.2.2.2 → w1.2.2.1 x = w.2.2.1 x ∧ w1.2.2.2.1 x = w.2.2.2.1 x) ∧ (∀ x, x < w.2.2.2.2 → x ≠ a → w1.1 x = w.1 x ∧ w1.2.1 x = w.2.1 x) ∧ w1.2.1 a 0 = some w.2.2.2.2 ∧ w1.2.1 a 1 = some (w.2.2.2.2 + 1) ∧ (∀ j, j < 2 → w1.2.2.1 (w.2.2.2.2 + j) = 11 ∧ w1.2.2.2.1 (w.2.2.2.2 + j) = m ∧ ∀ y, w1.1 (w.2.2.2.2 + j) y = 0) ∧ w1.1 a 2 = 0 := by
  obtain ⟨I, R, K, N, sz⟩ := w
  obtain ⟨hk, hs⟩ := ha
  change K a = 3 at hk
  change a < sz at hs
  have n0 : decide (0 ≤ (nI m).toInt) = true := by rw [nI_toInt (by omega)]; exact decide_eq_true (by omega)
  have n1 : decide (ix (nI m) ≤ 100000) = true := by rw [ix_nI (by omega)]; exact decide_eq_true (by omega)
  have k1 : isK ((I, R, K, N, sz) : Wt) a 3 = true := isK_mk ⟨hk, hs⟩
  unfold fwX3_init
  rw [k1, ck_t, bnd_e, n0, ck_t, n1, ck_t, ix_nI (by omega), rmB_mk (by omega) (by omega), ck_t, bnd_e, isK_mk (show ta (al (up2 I a 2 0, R, K, N, sz) 11 m).2 a 3 from ⟨by show (if a = sz then 11 else K a) = 3; rw [if_neg (by omega)]; exact hk, by show a < sz + 1; omega⟩), ck_t, bnd_e, ck_t, ck_t, rmB_mk (by omega) (by omega), ck_t, bnd_e, isK_mk (w := al _ 11 m) (a := a) (k := 3) ⟨by show (if a = sz + 1 then 11 else if a = sz then 11 else K a) = 3; rw [if_neg (by omega), if_neg (by omega)]; exact hk, by show a < sz + 1 + 1; omega⟩, ck_t, bnd_e, cnB_mk (by omega) (by omega), ck_t]
  refine ⟨_, rfl, rfl, fun x hx => ⟨?_, ?_⟩, fun x hx hn => ⟨?_, ?_⟩, ?_, ?_, fun j hj => ⟨?_, ?_, fun y => ?_⟩, ?_⟩
  · change x < sz at hx
    show (if x = sz + 1 then 11 else if x = sz then 11 else K x) = K x
    rw [if_neg (by omega), if_neg (by omega)]
  · change x < sz at hx
    show (if x = sz + 1 then m else if x = sz then m else N x) = N x
    rw [if_neg (by omega), if_neg (by omega)]
  · change x < sz at hx
    show (if x = sz + 1 then (fun _ => 0) else if x = sz then (fun _ => 0) else up2 I a 2 0 x) = I x
    rw [if_neg (by omega), if_neg (by omega), up2_ne hn]
  · change x < sz at hx
    show up2 (fun x => if x = sz + 1 then (fun _ => none) else up2 (fun x => if x = sz then (fun _ => none) else R x) a 0 (some sz) x) a 1 (some (sz + 1)) x = R x
    rw [up2_ne hn]
    show (if x = sz + 1 then (fun _ => none) else up2 (fun x => if x = sz then (fun _ => none) else R x) a 0 (some sz) x) = R x
    rw [if_neg (by omega), up2_ne hn]
    show (if x = sz then (fun _ => none) else R x) = R x
    rw [if_neg (by omega)]
  · show up2 (fun x => if x = sz + 1 then (fun _ => none) else up2 (fun x => if x = sz then (fun _ => none) else R x) a 0 (some sz) x) a 1 (some (sz + 1)) a 0 = some sz
    rw [up2_r, if_neg (by omega)]
    show (if a = sz + 1 then (fun _ => none) else up2 (fun x => if x = sz then (fun _ => none) else R x) a 0 (some sz) a) 0 = some sz
    rw [if_neg (by omega), up2_s]
  · show up2 (fun x => if x = sz + 1 then (fun _ => none) else up2 (fun x => if x = sz then (fun _ => none) else R x) a 0 (some sz) x) a 1 (some (sz + 1)) a 1 = some (sz + 1)
    rw [up2_s]
  · show (if sz + j = sz + 1 then 11 else if sz + j = sz then 11 else K (sz + j)) = 11
    by_cases z : j = 1
    · rw [if_pos (by omega)]
    · rw [if_neg (by omega), if_pos (by omega)]
  · show (if sz + j = sz + 1 then m else if sz + j = sz then m else N (sz + j)) = m
    by_cases z : j = 1
    · rw [if_pos (by omega)]
    · rw [if_neg (by omega), if_pos (by omega)]
  · show (if sz + j = sz + 1 then (fun _ => 0) else if sz + j = sz then (fun _ => 0) else up2 I a 2 0 (sz + j)) y = 0
    by_cases z : j = 1
    · rw [if_pos (by omega)]
    · rw [if_neg (by omega), if_pos (by omega)]
  · show (if a = sz + 1 then (fun _ => 0) else if a = sz then (fun _ => 0) else up2 I a 2 0 a) 2 = 0
    rw [if_neg (by omega), if_neg (by omega), up2_s]
theorem shl_e : ∀ k, k < 7 → (168 : Int32) <<< ((mnI (nI k) 6) &&& 31) = nI (168 * 2 ^ k) := by decide
/-- where layers lie -/
def lyA (x : Nat) : Prop := x = 83 ∨ x = 86 ∨ 122 ≤ x
def WIn (h : Shp) (nw nx n : Nat) : Prop := SearchAt h nw nx n ∧ n ≤ 10752 ∧ lyA nw ∧ lyA nx ∧ (nw + 2 < nx ∨ nx + 2 < nw) ∧ 122 ≤ h.2.2.2
def SrI (w : Wt) : Prop := ∃ nw nx n f fo, WIn w.2 nw nx n ∧ LayX w.1 nw n f ∧ LayX w.1 nx n fo
theorem LayX.z {I : Mem} {a n : Nat} (h2 : I a 2 = 0) (h1 : ∀ y, I (a + 2) y = 0) : LayX I a n nonF := ⟨(by rw [cnt_non, h2]; rfl), fun k hk => (by rw [cnt_non] at hk; omega), fun p _ hp => (by cases hp), fun p _ => h1 p⟩
theorem room_e {w : Wt} {k : Nat} (hk : k ≤ 6) (hS : SrI w) : ∃ mB sB w1 nw nx n f fo, fwX6_makeRoom mB sB w 0 0 82 (nI k) = some w1 ∧ mB ≤ 6 ∧ sB ≤ 43014 ∧ w1.2.2.2.2 = w.2.2.2.2 + mB ∧ ShX w.2 w1.2 ∧ (∀ x, x < w.2.2.2.2 → w1.1 x = w.1 x) ∧ WIn w1.2 nw nx n ∧ 168 * 2 ^ k ≤ n ∧ LayX w1.1 nw n f ∧ LayX w1.1 nx n fo := by
  obtain ⟨nw, nx, n, f, fo, ⟨⟨t0, ⟨a1, b1⟩, ⟨a2, b2⟩, ⟨a3, b3⟩⟩, c2, c3, c4, c5, c6⟩, l1, l2⟩ := hS
  have p6 : 168 * 2 ^ k ≤ 10752 := by
    have : 2 ^ k ≤ 2 ^ 6 := Nat.pow_le_pow_right (by decide) hk
    omega
  have p0 : 0 < 168 * 2 ^ k := by
    have : 0 < 2 ^ k := Nat.two_pow_pos k
    omega
  generalize hm : 168 * 2 ^ k = m at p6 p0
  have head : ∀ mB sB, fwX6_makeRoom mB sB w 0 0 82 (nI k) = if nI m ≤ nI n then fwX6_makeRoom_47 mB sB w 0 0 else (ck (rmB (0 + 1) (0 + 3) mB sB) <| bnd (al w 3 3) fun w11 => ob (fwX3_init 2 (2 * ix (nI m)) w11 0 0 w.2.2.2.2 (nI m)) fun w13 => ck (rmB ((0 + 1) + 2) ((0 + 3) + (2 * ix (nI m))) mB sB) <| ck (decide (w13.2.2.2.2 = w11.2.2.2.2 + 2)) <| ck (isK w13 82 6) <| bnd ((w13.1, up2 w13.2.1 82 0 (some w.2.2.2.2), w13.2.2) : Wt) fun w18 => ck (rmB (((0 + 1) + 2) + 1) (((0 + 3) + (2 * ix (nI m))) + 3) mB sB) <| bnd (al w18 3 3) fun w19 => ob (fwX3_init 2 (2 * ix (nI m)) w19 0 0 w18.2.2.2.2 (nI m)) fun w21 => ck (rmB ((((0 + 1) + 2) + 1) + 2) ((((0 + 3) + (2 * ix (nI m))) + 3) + (2 * ix (nI m))) mB sB) <| ck (decide (w21.2.2.2.2 = w19.2.2.2.2 + 2)) <| ck (isK w21 82 6) <| bnd ((w21.1, up2 w21.2.1 82 1 (some w18.2.2.2.2), w21.2.2) : Wt) fun w26 => fwX6_makeRoom_47 mB sB w26 ((((0 + 1) + 2) + 1) + 2) ((((0 + 3) + (2 * ix (nI m))) + 3) + (2 * ix (nI m)))) := fun mB sB => by
    unfold fwX6_makeRoom
    rw [rmB_mk (Nat.zero_le _) (Nat.zero_le _), ck_t, bnd_e, shl_e k (by omega), hm, isK_mk t0, ck_t, a1, ob_s, isK_mk b1.1, ck_t, b1.2.1.1, ob_s, isK_mk (show ta w.2 (nw + 1) 11 from ⟨b1.2.1.2.1, b1.2.1.2.2.1⟩), ck_t, b1.2.1.2.2.2]
  by_cases cr : m ≤ n
  · refine ⟨0, 0, w, nw, nx, n, f, fo, ?_, by omega, by omega, rfl, ShX.rf, fun _ _ => rfl, ⟨⟨t0, ⟨a1, b1⟩, ⟨a2, b2⟩, ⟨a3, b3⟩⟩, c2, c3, c4, c5, c6⟩, cr, l1, l2⟩
    rw [head, if_pos (nI_le cr (by omega))]
    rfl
  · have hg : ¬ nI m ≤ nI n := nI_ge (by omega) (by omega)
    have xm : ix (nI m) = m := ix_nI (by omega)
    obtain ⟨I, R, K, N, sz⟩ := w
    change 122 ≤ sz at c6
    obtain ⟨w13, i1, i2, i3, i4, i5, i6, i7, i8⟩ := init3_e (al (I, R, K, N, sz) 3 3) (a := sz) (m := m) ⟨al_K (w := (I, R, K, N, sz)), by show sz < sz + 1; omega⟩ p6
    change w13.2.2.2.2 = sz + 1 + 2 at i2
    change ∀ x, x < sz + 1 → _ at i3
    change ∀ x, x < sz + 1 → _ at i4
    change w13.2.1 sz 0 = some (sz + 1) at i5
    change w13.2.1 sz 1 = some (sz + 1 + 1) at i6
    change ∀ j, j < 2 → w13.2.2.1 (sz + 1 + j) = 11 ∧ w13.2.2.2.1 (sz + 1 + j) = m ∧ ∀ y, w13.1 (sz + 1 + j) y = 0 at i7
    have oK : ∀ x, x < sz → (al (I, R, K, N, sz) 3 3).2.2.1 x = K x := fun x hx => if_neg (show ¬ x = sz by omega)
    have oN : ∀ x, x < sz → (al (I, R, K, N, sz) 3 3).2.2.2.1 x = N x := fun x hx => if_neg (show ¬ x = sz by omega)
    have oI : ∀ x, x < sz → (al (I, R, K, N, sz) 3 3).1 x = I x := fun x hx => if_neg (show ¬ x = sz by omega)
    have oR : ∀ x, x < sz → (al (I, R, K, N, sz) 3 3).2.1 x = R x := fun x hx => if_neg (show ¬ x = sz by omega)
    have k82 : K 82 = 6 := t0.1
    have s82 : (82 : Nat) < sz := by omega
    obtain ⟨I1, R1, K1, N1, z1⟩ := w13
    change z1 = sz + 1 + 2 at i2
    subst i2
    obtain ⟨w21, j1, j2, j3, j4, j5, j6, j7, j8⟩ := init3_e (al (I1, up2 R1 82 0 (some sz), K1, N1, sz + 1 + 2) 3 3) (a := sz + 1 + 2) (m := m) ⟨al_K (w := (I1, up2 R1 82 0 (some sz), K1, N1, sz + 1 + 2)), by show sz + 1 + 2 < sz + 1 + 2 + 1; omega⟩ p6
    change w21.2.2.2.2 = sz + 1 + 2 + 1 + 2 at j2
    change ∀ x, x < sz + 1 + 2 + 1 → _ at j3
    change ∀ x, x < sz + 1 + 2 + 1 → _ at j4
    change w21.2.1 (sz + 1 + 2) 0 = some (sz + 1 + 2 + 1) at j5
    change w21.2.1 (sz + 1 + 2) 1 = some (sz + 1 + 2 + 1 + 1) at j6
    change ∀ j, j < 2 → w21.2.2.1 (sz + 1 + 2 + 1 + j) = 11 ∧ w21.2.2.2.1 (sz + 1 + 2 + 1 + j) = m ∧ ∀ y, w21.1 (sz + 1 + 2 + 1 + j) y = 0 at j7
    have pK : ∀ x, x < sz + 3 → (al (I1, up2 R1 82 0 (some sz), K1, N1, sz + 1 + 2) 3 3).2.2.1 x = K1 x := fun x hx => if_neg (show ¬ x = sz + 1 + 2 by omega)
    have pN : ∀ x, x < sz + 3 → (al (I1, up2 R1 82 0 (some sz), K1, N1, sz + 1 + 2) 3 3).2.2.2.1 x = N1 x := fun x hx => if_neg (show ¬ x = sz + 1 + 2 by omega)
    have pI : ∀ x, x < sz + 3 → (al (I1, up2 R1 82 0 (some sz), K1, N1, sz + 1 + 2) 3 3).1 x = I1 x := fun x hx => if_neg (show ¬ x = sz + 1 + 2 by omega)
    have pR : ∀ x, x < sz + 3 → (al (I1, up2 R1 82 0 (some sz), K1, N1, sz + 1 + 2) 3 3).2.1 x = up2 R1 82 0 (some sz) x := fun x hx => if_neg (show ¬ x = sz + 1 + 2 by omega)
    obtain ⟨I2, R2, K2, N2, z2⟩ := w21
    change z2 = sz + 1 + 2 + 1 + 2 at j2
    subst j2
    have K2e : ∀ x, x < sz → K2 x = K x := fun x hx => by
      rw [show K2 x = _ from (j3 x (by omega)).1, pK x (by omega), show K1 x = _ from (i3 x (by omega)).1, oK x hx]
    have N2e : ∀ x, x < sz → N2 x = N x := fun x hx => by
      rw [show N2 x = _ from (j3 x (by omega)).2, pN x (by omega), show N1 x = _ from (i3 x (by omega)).2, oN x hx]
    have I2e : ∀ x, x < sz → I2 x = I x := fun x hx => by
      rw [show I2 x = _ from (j4 x (by omega) (by omega)).1, pI x (by omega), show I1 x = _ from (i4 x (by omega) (by omega)).1, oI x hx]
    have R2e : ∀ x, x < sz → x ≠ 82 → R2 x = R x := fun x hx hn => by
      rw [show R2 x = _ from (j4 x (by omega) (by omega)).2, pR x (by omega), up2_ne hn, show R1 x = _ from (i4 x (by omega) (by omega)).2, oR x hx]
    have R282 : ∀ y, R2 82 y = if y = 0 then some sz else R 82 y := fun y => by
      rw [show R2 82 = _ from (j4 82 (by omega) (by omega)).2, pR 82 (by omega), up2_r]
      by_cases z : y = 0
      · rw [if_pos ⟨rfl, z⟩, if_pos z]
      · rw [if_neg (by omega), if_neg z, show R1 82 = _ from (i4 82 (by omega) (by omega)).2, oR 82 s82]
    have run : fwX6_makeRoom 6 (6 + 4 * m) (I, R, K, N, sz) 0 0 82 (nI k) = some ((I2, up2 R2 82 1 (some (sz + 1 + 2)), K2, N2, sz + 1 + 2 + 1 + 2) : Wt) := by
      rw [head, if_neg hg, xm, rmB_mk (by omega) (by omega), ck_t, bnd_e, show fwX3_init 2 (2 * m) (al (I, R, K, N, sz) 3 3) 0 0 sz (nI m) = _ from i1, ob_s]
      dsimp only
      rw [rmB_mk (by omega) (by omega), ck_t, show decide (sz + 1 + 2 = (al (I, R, K, N, sz) 3 3).2.2.2.2 + 2) = true from decide_eq_true rfl, ck_t, isK_mk (w := (I1, R1, K1, N1, sz + 1 + 2)) (a := 82) (k := 6) ⟨by show K1 82 = 6; rw [show K1 82 = _ from (i3 82 (by omega)).1, oK 82 s82]; exact k82, by show 82 < sz + 1 + 2; omega⟩, ck_t, bnd_e, rmB_mk (by omega) (by omega), ck_t, bnd_e]
      dsimp only
      rw [show fwX3_init 2 (2 * m) (al (I1, up2 R1 82 0 (some sz), K1, N1, sz + 1 + 2) 3 3) 0 0 (sz + 1 + 2) (nI m) = _ from j1, ob_s]
      dsimp only
      rw [rmB_mk (by omega) (by omega), ck_t, show decide (sz + 1 + 2 + 1 + 2 = (al (I1, up2 R1 82 0 (some sz), K1, N1, sz + 1 + 2) 3 3).2.2.2.2 + 2) = true from decide_eq_true rfl, ck_t, isK_mk (w := (I2, R2, K2, N2, sz + 1 + 2 + 1 + 2)) (a := 82) (k := 6) ⟨by show K2 82 = 6; rw [K2e 82 s82]; exact k82, by show 82 < sz + 1 + 2 + 1 + 2; omega⟩, ck_t, bnd_e]
      unfold fwX6_makeRoom_47
      rw [cnB_mk (by omega) (by omega), ck_t]
    have r1 : ∀ x, x ≠ 82 → up2 R2 82 1 (some (sz + 1 + 2)) x = R2 x := fun x hx => up2_ne hx
    have shx : ShX (R, K, N, sz) (up2 R2 82 1 (some (sz + 1 + 2)), K2, N2, sz + 1 + 2 + 1 + 2) := ⟨by show sz ≤ sz + 1 + 2 + 1 + 2; omega, fun x hx => ⟨K2e x hx, N2e x hx⟩, fun x hx hn => (r1 x hn).trans (R2e x hx hn), by show up2 R2 82 1 (some (sz + 1 + 2)) 82 2 = R 82 2; rw [up2_r, if_neg (by omega), R282, if_neg (by omega)]⟩
    have lyN : LayerAt (up2 R2 82 1 (some (sz + 1 + 2)), K2, N2, sz + 1 + 2 + 1 + 2) sz m := by
      refine ⟨⟨?_, ?_⟩, ⟨?_, ?_, ?_, ?_⟩, ⟨?_, ?_, ?_, ?_⟩⟩
      · show K2 sz = 3
        rw [show K2 sz = _ from (j3 sz (by omega)).1, pK sz (by omega), show K1 sz = _ from (i3 sz (by omega)).1]
        exact al_K (w := (I, R, K, N, sz))
      · show sz < sz + 1 + 2 + 1 + 2
        omega
      · show up2 R2 82 1 (some (sz + 1 + 2)) sz 0 = some (sz + 1)
        rw [r1 sz (by omega), show R2 sz = _ from (j4 sz (by omega) (by omega)).2, pR sz (by omega), up2_ne (by omega)]
        exact i5
      · show K2 (sz + 1) = 11
        rw [show K2 (sz + 1) = _ from (j3 (sz + 1) (by omega)).1, pK (sz + 1) (by omega)]
        exact (i7 0 (by omega)).1
      · show sz + 1 < sz + 1 + 2 + 1 + 2
        omega
      · show N2 (sz + 1) = m
        rw [show N2 (sz + 1) = _ from (j3 (sz + 1) (by omega)).2, pN (sz + 1) (by omega)]
        exact (i7 0 (by omega)).2.1
      · show up2 R2 82 1 (some (sz + 1 + 2)) sz 1 = some (sz + 2)
        rw [r1 sz (by omega), show R2 sz = _ from (j4 sz (by omega) (by omega)).2, pR sz (by omega), up2_ne (by omega)]
        exact i6
      · show K2 (sz + 2) = 11
        rw [show K2 (sz + 2) = _ from (j3 (sz + 2) (by omega)).1, pK (sz + 2) (by omega)]
        exact (i7 1 (by omega)).1
      · show sz + 2 < sz + 1 + 2 + 1 + 2
        omega
      · show N2 (sz + 2) = m
        rw [show N2 (sz + 2) = _ from (j3 (sz + 2) (by omega)).2, pN (sz + 2) (by omega)]
        exact (i7 1 (by omega)).2.1
    have lyX : LayerAt (up2 R2 82 1 (some (sz + 1 + 2)), K2, N2, sz + 1 + 2 + 1 + 2) (sz + 3) m := by
      refine ⟨⟨?_, ?_⟩, ⟨?_, ?_, ?_, ?_⟩, ⟨?_, ?_, ?_, ?_⟩⟩
      · show K2 (sz + 1 + 2) = 3
        rw [show K2 (sz + 1 + 2) = _ from (j3 (sz + 1 + 2) (by omega)).1]
        exact al_K (w := (I1, up2 R1 82 0 (some sz), K1, N1, sz + 1 + 2))
      · show sz + 3 < sz + 1 + 2 + 1 + 2
        omega
      · show up2 R2 82 1 (some (sz + 1 + 2)) (sz + 1 + 2) 0 = some (sz + 1 + 2 + 1)
        rw [r1 _ (by omega)]
        exact j5
      · exact (j7 0 (by omega)).1
      · show sz + 3 + 1 < sz + 1 + 2 + 1 + 2
        omega
      · exact (j7 0 (by omega)).2.1
      · show up2 R2 82 1 (some (sz + 1 + 2)) (sz + 1 + 2) 1 = some (sz + 1 + 2 + 1 + 1)
        rw [r1 _ (by omega)]
        exact j6
      · exact (j7 1 (by omega)).1
      · show sz + 3 + 2 < sz + 1 + 2 + 1 + 2
        omega
      · exact (j7 1 (by omega)).2.1
    refine ⟨6, 6 + 4 * m, _, sz, sz + 3, m, nonF, nonF, run, by omega, by omega, rfl, shx, fun x hx => I2e x hx, ⟨⟨⟨?_, ?_⟩, ⟨?_, lyN⟩, ⟨?_, lyX⟩, ⟨?_, ?_⟩⟩, p6, Or.inr (Or.inr c6), Or.inr (Or.inr (by omega)), Or.inl (by omega), ?_⟩, Nat.le_refl m, LayX.z ?_ (fun y => ?_), LayX.z ?_ (fun y => ?_)⟩
    · show K2 82 = 6
      rw [K2e 82 s82]
      exact k82
    · show 82 < sz + 1 + 2 + 1 + 2
      omega
    · show up2 R2 82 1 (some (sz + 1 + 2)) 82 0 = some sz
      rw [up2_r, if_neg (by omega), R282, if_pos rfl]
    · show up2 R2 82 1 (some (sz + 1 + 2)) 82 1 = some (sz + 3)
      rw [up2_s]
    · show up2 R2 82 1 (some (sz + 1 + 2)) 82 2 = some 89
      rw [up2_r, if_neg (by omega), R282, if_neg (by omega)]
      exact a3
    · exact PlayAt_x shx (by omega) b3
    · show 122 ≤ sz + 1 + 2 + 1 + 2
      omega
    · show I2 sz 2 = 0
      rw [show I2 sz = _ from (j4 sz (by omega) (by omega)).1, pI sz (by omega)]
      exact i8
    · show I2 (sz + 2) y = 0
      rw [show I2 (sz + 2) = _ from (j4 (sz + 2) (by omega) (by omega)).1, pI (sz + 2) (by omega)]
      exact (i7 1 (by omega)).2.2 y
    · exact j8
    · exact (j7 1 (by omega)).2.2 y
