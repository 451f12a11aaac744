/-! ask, trace: the trace on both sides -/
def TrX (I : Mem) (p kd pa : Nat) (st : Int32) (l : List Int32) : Prop := I 91 1 = nI l.length ∧ (∀ i, i < l.length → I 92 i = l.getD i 0) ∧ I 91 2 = nI p ∧ I 91 3 = nI kd ∧ I 91 4 = nI pa ∧ I 91 5 = st
def TrM (I : Mem) (p kd pa : Nat) (st : Int32) (l : List Int32) : Prop := I 111 11 = nI l.length ∧ (∀ i, i < l.length → I 118 i = l.getD i 0) ∧ I 112 (3 + 4 * p) = nI kd ∧ I 112 (6 + 4 * p) = nI pa ∧ I 112 (35 + p) = st
def FrA (I I1 : Mem) : Prop := ∀ x, x ≠ 91 → x ≠ 92 → I1 x = I x
def FrB (I I1 : Mem) : Prop := (∀ x, x ≠ 111 → x ≠ 118 → I1 x = I x) ∧ ∀ y, y ≠ 11 → I1 111 y = I 111 y
theorem FrA.tr {I I1 I2 : Mem} (h : FrA I I1) (h2 : FrA I1 I2) : FrA I I2 := fun x a b => (h2 x a b).trans (h x a b)
theorem FrB.tr {I I1 I2 : Mem} (h : FrB I I1) (h2 : FrB I1 I2) : FrB I I2 := ⟨fun x a b => (h2.1 x a b).trans (h.1 x a b), fun y hy => (h2.2 y hy).trans (h.2 y hy)⟩
theorem getD_snoc {l : List Int32} {b : Int32} {i : Nat} (h : i < (l ++ [b]).length) : (l ++ [b]).getD i 0 = if i = l.length then b else l.getD i 0 := by
  simp only [List.length_append, List.length_cons, List.length_nil] at h
  by_cases c : i = l.length
  · subst c
    simp [List.getD]
  · have : i < l.length := by omega
    rw [if_neg c]
    simp [List.getD, List.getElem?_append_left this]
section
variable {I : Mem} {p kd pa : Nat} {st : Int32} {l : List Int32}
theorem leaveX (h : TrX I p kd pa st l) (hl : l.length < 16) (b : Int32) : ∃ I1, fnX1_leave I b = some I1 ∧ TrX I1 p kd pa st (l ++ [b]) ∧ FrA I I1 := by
  obtain ⟨h1, h2, h3, h4, h5, h6⟩ := h
  unfold fnX1_leave fnX1_leave_29
  rw [h1, if_neg (show ¬ (16 : Int32) ≤ nI l.length from nI_ge (b := 16) (by omega) (by omega)), inb_nI hl (by decide), ck_t, bnd_e, bnd_e, ix_nI (by omega), up2_ne (show (91 : Nat) ≠ 92 by omega), h1, nI_1]
  refine ⟨_, rfl, ⟨by simp [up2_r], fun i hi => ?_, by simp [up2_r, h3], by simp [up2_r, h4], by simp [up2_r, h5], by simp [up2_r, h6]⟩, fun x a b => by rw [up2_ne a, up2_ne b]⟩
  rw [getD_snoc hi, up2_ne (by omega), up2_r]
  simp only [List.length_append, List.length_cons, List.length_nil] at hi
  by_cases c : i = l.length
  · rw [if_pos ⟨rfl, c⟩, if_pos c]
  · rw [if_neg (fun q => c q.2), if_neg c, h2 i (by omega)]
theorem leaveM (h : TrM I p kd pa st l) (hl : l.length < 16) (b : Int32) : ∃ I1, fnX10_leave I b = some I1 ∧ TrM I1 p kd pa st (l ++ [b]) ∧ FrB I I1 := by
  obtain ⟨h1, h2, h3, h4, h5⟩ := h
  unfold fnX10_leave fnX10_leave_29
  rw [h1, if_neg (show ¬ (16 : Int32) ≤ nI l.length from nI_ge (b := 16) (by omega) (by omega)), inb_nI hl (by decide), ck_t, bnd_e, bnd_e, ix_nI (by omega), up2_ne (show (111 : Nat) ≠ 118 by omega), h1, nI_1]
  refine ⟨_, rfl, ⟨by simp [up2_r], fun i hi => ?_, by rw [up2_ne (by omega), up2_ne (by omega), h3], by rw [up2_ne (by omega), up2_ne (by omega), h4], by rw [up2_ne (by omega), up2_ne (by omega), h5]⟩, fun x a b => by rw [up2_ne a, up2_ne b], fun y hy => by rw [up2_r, if_neg (by omega), up2_ne (by omega)]⟩
  rw [getD_snoc hi, up2_ne (by omega), up2_r]
  simp only [List.length_append, List.length_cons, List.length_nil] at hi
  by_cases c : i = l.length
  · rw [if_pos ⟨rfl, c⟩, if_pos c]
  · rw [if_neg (fun q => c q.2), if_neg c, h2 i (by omega)]
def mbL (kd : Nat) : List Int32 := if kd = 2 then [24, 21, 20] else if kd = 3 then [22, 21, 20] else [21, 20]
def mbV (p kd : Nat) (st : Int32) : Int32 := if kd = 2 then 2 * (nI p + st) else if kd = 3 then nI p + st - 1000 else nI p + st
def sbL (kd : Nat) : List Int32 := if kd = 2 then [12, 11, 10] else [11, 10]
def sbV (p kd pa : Nat) (st : Int32) : Int32 := if kd = 2 then -(nI pa + mbV p kd st) else nI pa + mbV p kd st
def slL (kd : Nat) : List Int32 := if kd = 5 then [14, 13, 10] else [13, 10]
def saV (kd pa : Nat) : Int32 := if kd = 5 then 2 * (nI pa - 100) else nI pa - 100
theorem mobX (h : TrX I p kd pa st l) (hl : l.length < 10) (hk : kd = 1 ∨ kd = 2 ∨ kd = 3) : ∃ I1, fnX1_markOfBumper I = some (mbV p kd st, I1) ∧ TrX I1 p kd pa st (l ++ mbL kd) ∧ FrA I I1 := by
  have tl : ∀ (J : Mem) (l2 : List Int32), TrX J p kd pa st l2 → l2.length < 12 → ∃ I1, fnX1_markOfBumper_31 J = some (mbV p kd st, I1) ∧ TrX I1 p kd pa st (l2 ++ [21] ++ [20]) ∧ FrA J I1 := fun J l2 hJ h2 => by
    obtain ⟨I1, a1, a2, a3⟩ := leaveX hJ (by omega) 21
    obtain ⟨I2, b1, b2, b3⟩ := leaveX a2 (by simp; omega) 20
    unfold fnX1_markOfBumper_31 fnX1_markOfBumper_84
    rw [a1, ob_s, b1, ob_s, bnd_e, b2.2.2.1, b2.2.2.2.1, b2.2.2.2.2.2]
    rcases hk with rfl | rfl | rfl <;> exact ⟨I2, rfl, b2, a3.tr b3⟩
  unfold fnX1_markOfBumper
  rw [h.2.2.2.1]
  rcases hk with rfl | rfl | rfl
  · obtain ⟨I1, a1, a2, a3⟩ := tl I l h (by omega)
    exact ⟨I1, a1, by simpa [mbL] using a2, a3⟩
  · obtain ⟨I0, z1, z2, z3⟩ := leaveX h (by omega) 24
    obtain ⟨I1, a1, a2, a3⟩ := tl I0 _ z2 (by simp; omega)
    rw [if_pos (by decide), z1, ob_s]
    exact ⟨I1, a1, by simpa [mbL] using a2, z3.tr a3⟩
  · obtain ⟨I0, z1, z2, z3⟩ := leaveX h (by omega) 22
    obtain ⟨I1, a1, a2, a3⟩ := tl I0 _ z2 (by simp; omega)
    rw [if_neg (by decide), if_pos (by decide), z1, ob_s]
    exact ⟨I1, a1, by simpa [mbL] using a2, z3.tr a3⟩
theorem sobX (h : TrX I p kd pa st l) (hl : l.length < 6) (hk : kd = 1 ∨ kd = 2 ∨ kd = 3) : ∃ I1, fnX1_sizeOfBumper I = some (sbV p kd pa st, I1) ∧ TrX I1 p kd pa st (l ++ sbL kd ++ mbL kd) ∧ FrA I I1 := by
  have tl : ∀ (J : Mem) (l2 : List Int32), TrX J p kd pa st l2 → l2.length < 8 → ∃ I1, fnX1_sizeOfBumper_14 J = some (sbV p kd pa st, I1) ∧ TrX I1 p kd pa st (l2 ++ [11] ++ [10] ++ mbL kd) ∧ FrA J I1 := fun J l2 hJ h2 => by
    obtain ⟨I1, a1, a2, a3⟩ := leaveX hJ (by omega) 11
    obtain ⟨I2, b1, b2, b3⟩ := leaveX a2 (by simp; omega) 10
    obtain ⟨I3, c1, c2, c3⟩ := mobX b2 (by simp; omega) hk
    unfold fnX1_sizeOfBumper_14 fnX1_sizeOfBumper_50
    rw [a1, ob_s, b1, ob_s, c1, ob_s]
    dsimp only
    rw [bnd_e, b2.2.2.2.2.1, c2.2.2.2.1]
    rcases hk with rfl | rfl | rfl <;> exact ⟨I3, rfl, c2, (a3.tr b3).tr c3⟩
  unfold fnX1_sizeOfBumper
  rw [h.2.2.2.1]
  by_cases c : kd = 2
  · obtain ⟨I0, z1, z2, z3⟩ := leaveX h (by omega) 12
    obtain ⟨I1, a1, a2, a3⟩ := tl I0 _ z2 (by simp; omega)
    rw [if_pos (by rw [c]; rfl), z1, ob_s]
    exact ⟨I1, a1, by simpa [sbL, c] using a2, z3.tr a3⟩
  · obtain ⟨I1, a1, a2, a3⟩ := tl I l h (by omega)
    rw [if_neg (show ¬ nI kd = 2 from fun q => c ((nI_eq (b := 2) (by omega) (by decide)).mp q))]
    exact ⟨I1, a1, by simpa [sbL, c] using a2, a3⟩
theorem solX (h : TrX I p kd pa st l) (hl : l.length < 10) (hk : kd = 4 ∨ kd = 5) : ∃ I1, fnX1_sizeOfLamp I = some (saV kd pa, I1) ∧ TrX I1 p kd pa st (l ++ slL kd) ∧ FrA I I1 := by
  have tl : ∀ (J : Mem) (l2 : List Int32), TrX J p kd pa st l2 → l2.length < 12 → ∃ I1, fnX1_sizeOfLamp_14 J = some (saV kd pa, I1) ∧ TrX I1 p kd pa st (l2 ++ [13] ++ [10]) ∧ FrA J I1 := fun J l2 hJ h2 => by
    obtain ⟨I1, a1, a2, a3⟩ := leaveX hJ (by omega) 13
    obtain ⟨I2, b1, b2, b3⟩ := leaveX a2 (by simp; omega) 10
    unfold fnX1_sizeOfLamp_14 fnX1_sizeOfLamp_49
    rw [a1, ob_s, b1, ob_s, bnd_e, b2.2.2.2.2.1, b2.2.2.2.1]
    rcases hk with rfl | rfl <;> exact ⟨I2, rfl, b2, a3.tr b3⟩
  unfold fnX1_sizeOfLamp
  rw [h.2.2.2.1]
  rcases hk with rfl | rfl
  · obtain ⟨I1, a1, a2, a3⟩ := tl I l h (by omega)
    exact ⟨I1, a1, by simpa [slL] using a2, a3⟩
  · obtain ⟨I0, z1, z2, z3⟩ := leaveX h (by omega) 14
    obtain ⟨I1, a1, a2, a3⟩ := tl I0 _ z2 (by simp; omega)
    rw [if_pos (by decide), z1, ob_s]
    exact ⟨I1, a1, by simpa [slL] using a2, z3.tr a3⟩
theorem molX (h : TrX I p kd pa st l) (hl : l.length < 6) (hk : kd = 4 ∨ kd = 5) : ∃ I1, fnX1_markOfLamp I = some (nI p - saV kd pa, I1) ∧ TrX I1 p kd pa st (l ++ [23] ++ [20] ++ slL kd) ∧ FrA I I1 := by
  obtain ⟨I1, a1, a2, a3⟩ := leaveX h (by omega) 23
  obtain ⟨I2, b1, b2, b3⟩ := leaveX a2 (by simp; omega) 20
  obtain ⟨I3, c1, c2, c3⟩ := solX b2 (by simp; omega) hk
  unfold fnX1_markOfLamp
  rw [a1, ob_s, b1, ob_s, c1, ob_s]
  dsimp only
  rw [b2.2.2.1]
  exact ⟨I3, rfl, c2, (a3.tr b3).tr c3⟩
theorem a63 (p : Nat) : (3 : Int32) + 4 * nI p + 3 = nI (6 + 4 * p) := by
  rw [i34, show nI (3 + 4 * p) + 3 = nI (3 + 4 * p) + nI 3 from rfl, nI_add]
  congr 1
  omega
theorem mobM (hp : p < 6) (h : TrM I p kd pa st l) (hl : l.length < 10) (hk : kd = 1 ∨ kd = 2 ∨ kd = 3) : ∃ I1, fnX10_markOfBumper I (nI p) = some (mbV p kd st, I1) ∧ TrM I1 p kd pa st (l ++ mbL kd) ∧ FrB I I1 := by
  have tl : ∀ (J : Mem) (l2 : List Int32), TrM J p kd pa st l2 → l2.length < 12 → ∃ I1, fnX10_struckBody J (nI p) = some (nI p + st, I1) ∧ TrM I1 p kd pa st (l2 ++ [21] ++ [20]) ∧ FrB J I1 := fun J l2 hJ h2 => by
    obtain ⟨I1, a1, a2, a3⟩ := leaveM hJ (by omega) 21
    obtain ⟨I2, b1, b2, b3⟩ := leaveM a2 (by simp; omega) 20
    unfold fnX10_struckBody fnX10_numberBody
    rw [a1, ob_s, b1, ob_s, ob_s]
    dsimp only
    rw [show (35 : Int32) + nI p = nI (35 + p) from nI_add 35 p, inb_nI (by omega) (by decide), ck_t, ix_nI (by omega), b2.2.2.2.2]
    exact ⟨I2, rfl, b2, a3.tr b3⟩
  unfold fnX10_markOfBumper
  rw [i34, inb_nI (by omega) (by decide), ck_t, bnd_e, ix_nI (by omega), h.2.2.1]
  rcases hk with rfl | rfl | rfl
  · obtain ⟨I1, a1, a2, a3⟩ := tl I l h (by omega)
    rw [if_pos (by decide), a1, ob_s]
    exact ⟨I1, rfl, by simpa [mbL] using a2, a3⟩
  · obtain ⟨I0, z1, z2, z3⟩ := leaveM h (by omega) 24
    obtain ⟨I1, a1, a2, a3⟩ := tl I0 _ z2 (by simp; omega)
    unfold fnX10_markOfBumper_35
    rw [if_neg (by decide), if_neg (by decide), z1, ob_s, a1, ob_s]
    exact ⟨I1, rfl, by simpa [mbL] using a2, z3.tr a3⟩
  · obtain ⟨I0, z1, z2, z3⟩ := leaveM h (by omega) 22
    obtain ⟨I1, a1, a2, a3⟩ := tl I0 _ z2 (by simp; omega)
    unfold fnX10_markOfBumper_35
    rw [if_neg (by decide), if_pos (by decide), z1, ob_s, a1, ob_s]
    exact ⟨I1, rfl, by simpa [mbL] using a2, z3.tr a3⟩
theorem paysM (hp : p < 6) (h : TrM I p kd pa st l) (hl : l.length < 16) : ∃ I1, fnX10_paysBody I (nI p) = some (nI pa, I1) ∧ TrM I1 p kd pa st (l ++ [10]) ∧ FrB I I1 := by
  obtain ⟨I1, a1, a2, a3⟩ := leaveM h (by omega) 10
  unfold fnX10_paysBody
  rw [a1, ob_s, a63, inb_nI (by omega) (by decide), ck_t, ix_nI (by omega), a2.2.2.2.1]
  exact ⟨I1, rfl, a2, a3⟩
theorem sobM (hp : p < 6) (h : TrM I p kd pa st l) (hl : l.length < 6) (hk : kd = 1 ∨ kd = 2 ∨ kd = 3) : ∃ I1, fnX10_sizeOfBumper I (nI p) = some (sbV p kd pa st, I1) ∧ TrM I1 p kd pa st (l ++ sbL kd ++ mbL kd) ∧ FrB I I1 := by
  have tl : ∀ (J : Mem) (l2 : List Int32), TrM J p kd pa st l2 → l2.length < 8 → ∃ I1, fnX10_bumperBody J (nI p) = some (nI pa + mbV p kd st, I1) ∧ TrM I1 p kd pa st (l2 ++ [11] ++ [10] ++ mbL kd) ∧ FrB J I1 := fun J l2 hJ h2 => by
    obtain ⟨I1, a1, a2, a3⟩ := leaveM hJ (by omega) 11
    obtain ⟨I2, b1, b2, b3⟩ := paysM hp a2 (by simp; omega)
    obtain ⟨I3, c1, c2, c3⟩ := mobM hp b2 (by simp; omega) hk
    unfold fnX10_bumperBody
    rw [a1, ob_s, b1, ob_s]
    dsimp only
    rw [c1, ob_s]
    exact ⟨I3, rfl, c2, (a3.tr b3).tr c3⟩
  unfold fnX10_sizeOfBumper
  rw [i34, inb_nI (by omega) (by decide), ck_t, ix_nI (by omega), h.2.2.1]
  by_cases c : kd = 2
  · obtain ⟨I0, z1, z2, z3⟩ := leaveM h (by omega) 12
    obtain ⟨I1, a1, a2, a3⟩ := tl I0 _ z2 (by simp; omega)
    rw [if_pos (by rw [c]; rfl), z1, ob_s, a1, ob_s]
    exact ⟨I1, by simp [sbV, c], by simpa [sbL, c] using a2, z3.tr a3⟩
  · obtain ⟨I1, a1, a2, a3⟩ := tl I l h (by omega)
    rw [if_neg (show ¬ nI kd = 2 from fun q => c ((nI_eq (b := 2) (by omega) (by decide)).mp q)), a1, ob_s]
    exact ⟨I1, by simp [sbV, c], by simpa [sbL, c] using a2, a3⟩
theorem solM (hp : p < 6) (h : TrM I p kd pa st l) (hl : l.length < 10) (hk : kd = 4 ∨ kd = 5) : ∃ I1, fnX10_sizeOfLamp I (nI p) = some (saV kd pa, I1) ∧ TrM I1 p kd pa st (l ++ slL kd) ∧ FrB I I1 := by
  have tl : ∀ (J : Mem) (l2 : List Int32), TrM J p kd pa st l2 → l2.length < 12 → ∃ I1, fnX10_lampBody J (nI p) = some (nI pa - 100, I1) ∧ TrM I1 p kd pa st (l2 ++ [13] ++ [10]) ∧ FrB J I1 := fun J l2 hJ h2 => by
    obtain ⟨I1, a1, a2, a3⟩ := leaveM hJ (by omega) 13
    obtain ⟨I2, b1, b2, b3⟩ := paysM hp a2 (by simp; omega)
    unfold fnX10_lampBody
    rw [a1, ob_s, b1, ob_s]
    exact ⟨I2, rfl, b2, a3.tr b3⟩
  unfold fnX10_sizeOfLamp
  rw [i34, inb_nI (by omega) (by decide), ck_t, ix_nI (by omega), h.2.2.1]
  rcases hk with rfl | rfl
  · obtain ⟨I1, a1, a2, a3⟩ := tl I l h (by omega)
    rw [if_pos (by decide), a1, ob_s]
    exact ⟨I1, rfl, by simpa [slL] using a2, a3⟩
  · obtain ⟨I0, z1, z2, z3⟩ := leaveM h (by omega) 14
    obtain ⟨I1, a1, a2, a3⟩ := tl I0 _ z2 (by simp; omega)
    rw [if_neg (by decide), z1, ob_s, a1, ob_s]
    exact ⟨I1, rfl, by simpa [slL] using a2, z3.tr a3⟩
theorem molM (hp : p < 6) (h : TrM I p kd pa st l) (hl : l.length < 6) (hk : kd = 4 ∨ kd = 5) : ∃ I1, fnX10_markOfLamp I (nI p) = some (nI p - saV kd pa, I1) ∧ TrM I1 p kd pa st (l ++ [23] ++ [20] ++ slL kd) ∧ FrB I I1 := by
  obtain ⟨I1, a1, a2, a3⟩ := leaveM h (by omega) 23
  obtain ⟨I2, b1, b2, b3⟩ := leaveM a2 (by simp; omega) 20
  obtain ⟨I3, c1, c2, c3⟩ := solM hp b2 (by simp; omega) hk
  unfold fnX10_markOfLamp fnX10_numberBody
  rw [a1, ob_s, b1, ob_s, ob_s]
  dsimp only
  rw [c1, ob_s]
  exact ⟨I3, rfl, c2, (a3.tr b3).tr c3⟩
end
/-- is a kind one asked for -/
def isA (kd a : Nat) : Bool := a == 0 || a == kd || (a == 1 && (kd == 2 || kd == 3)) || (a == 4 && kd == 5)
theorem isKindX_e (I : Mem) {kd a : Nat} (h1 : 1 ≤ kd ∧ kd ≤ 5) (h2 : a ≤ 5) : fnX9_isOfKind I (nI kd) (nI a) = some ((if isA kd a then 1 else 0), I) := by
  have hk : kd = 1 ∨ kd = 2 ∨ kd = 3 ∨ kd = 4 ∨ kd = 5 := by omega
  have ha : a = 0 ∨ a = 1 ∨ a = 2 ∨ a = 3 ∨ a = 4 ∨ a = 5 := by omega
  unfold fnX9_isOfKind
  rw [show FU = 99992 + 8 from rfl]
  rcases hk with rfl | rfl | rfl | rfl | rfl <;> rcases ha with rfl | rfl | rfl | rfl | rfl | rfl <;> rfl
theorem isKindM_e (I : Mem) {kd a : Nat} (h1 : 1 ≤ kd ∧ kd ≤ 5) (h2 : a ≤ 5) : fnX10_isKind I (nI kd) (nI a) = some ((if isA kd a then 1 else 0), I) := by
  have hk : kd = 1 ∨ kd = 2 ∨ kd = 3 ∨ kd = 4 ∨ kd = 5 := by omega
  have ha : a = 0 ∨ a = 1 ∨ a = 2 ∨ a = 3 ∨ a = 4 ∨ a = 5 := by omega
  rcases hk with rfl | rfl | rfl | rfl | rfl <;> rcases ha with rfl | rfl | rfl | rfl | rfl | rfl <;> rfl
