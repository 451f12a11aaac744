/-! ===== layouts: where each object and array lies ===== -/
abbrev srf (g : Cfg) (i : Nat) : Value := .ref (g.1.2.2.2.2.2.1 i)
abbrev rfB (B : Bs) (a : Nat) : Value := .ref (B.2.1 + a)
abbrev srfB (B : Bs) (i : Nat) : Value := .ref (B.2.2.2.2.2.1 i)
def FU : Nat := 100000
def zb (v : Int32) : Bool := decide (v = 0 ∨ v = 1)
theorem zb_ok {v : Int32} (h : zb v = true) : narrow .boolean (.int v) = .int v ∧ fits .boolean (.int v) = true := by
  rcases of_decide_eq_true h with rfl | rfl <;> exact ⟨rfl, rfl⟩
theorem inb_lt {i : Int32} {n : Nat} (h : inb i n = true) : ix i < n := Nat.not_le.mp fun q => inb_in h (Or.inr q)
theorem if_or {c : Prop} [Decidable c] {α : Type} {A Bx : Option α} {o : α} (h : (if c then A else Bx) = some o) : (c ∧ A = some o) ∨ (¬ c ∧ Bx = some o) := by
  by_cases hc : c
  · exact Or.inl ⟨hc, (if_pos hc).symm.trans h⟩
  · exact Or.inr ⟨hc, (if_neg hc).symm.trans h⟩
theorem xr_nm {g : Cfg} {cells slots pc : Nat} {w : Wt} {lv : List (Nat × Value)} {st : List Value} {v e : Int32} (h : v = e) (K : XE g cells slots w pc lv (.int v :: st)) : XE g cells slots w pc lv (.int e :: st) := h ▸ K
theorem sw_out2 {x : Int32} (h0 : ¬ x = 0) (h1 : ¬ x = 1) : x.toInt < 0 ∨ 1 < x.toInt := by
  have key : ∀ k : Int32, ¬ x = k → ¬ x.toInt = k.toInt := fun k hk q => hk (Int32.toInt_inj.mp q)
  have q0 := key 0 h0
  have q1 := key 1 h1
  rw [show (0 : Int32).toInt = 0 from rfl] at q0
  rw [show (1 : Int32).toInt = 1 from rfl] at q1
  omega
theorem sw_out3 {x : Int32} (h0 : ¬ x = 0) (h1 : ¬ x = 1) (h2 : ¬ x = 2) : x.toInt < 0 ∨ 2 < x.toInt := by
  have key : ∀ k : Int32, ¬ x = k → ¬ x.toInt = k.toInt := fun k hk q => hk (Int32.toInt_inj.mp q)
  have q0 := key 0 h0
  have q1 := key 1 h1
  have q2 := key 2 h2
  rw [show (0 : Int32).toInt = 0 from rfl] at q0
  rw [show (1 : Int32).toInt = 1 from rfl] at q1
  rw [show (2 : Int32).toInt = 2 from rfl] at q2
  omega
theorem sw_out4 {x : Int32} (h0 : ¬ x = 0) (h1 : ¬ x = 1) (h2 : ¬ x = 2) (h3 : ¬ x = 3) : x.toInt < 0 ∨ 3 < x.toInt := by
  have key : ∀ k : Int32, ¬ x = k → ¬ x.toInt = k.toInt := fun k hk q => hk (Int32.toInt_inj.mp q)
  have q0 := key 0 h0
  have q1 := key 1 h1
  have q2 := key 2 h2
  have q3 := key 3 h3
  rw [show (0 : Int32).toInt = 0 from rfl] at q0
  rw [show (1 : Int32).toInt = 1 from rfl] at q1
  rw [show (2 : Int32).toInt = 2 from rfl] at q2
  rw [show (3 : Int32).toInt = 3 from rfl] at q3
  omega
theorem sw_out5 {x : Int32} (h0 : ¬ x = 0) (h1 : ¬ x = 1) (h2 : ¬ x = 2) (h3 : ¬ x = 3) (h4 : ¬ x = 4) : x.toInt < 0 ∨ 4 < x.toInt := by
  have key : ∀ k : Int32, ¬ x = k → ¬ x.toInt = k.toInt := fun k hk q => hk (Int32.toInt_inj.mp q)
  have q0 := key 0 h0
  have q1 := key 1 h1
  have q2 := key 2 h2
  have q3 := key 3 h3
  have q4 := key 4 h4
  rw [show (0 : Int32).toInt = 0 from rfl] at q0
  rw [show (1 : Int32).toInt = 1 from rfl] at q1
  rw [show (2 : Int32).toInt = 2 from rfl] at q2
  rw [show (3 : Int32).toInt = 3 from rfl] at q3
  rw [show (4 : Int32).toInt = 4 from rfl] at q4
  omega
theorem sw_out6 {x : Int32} (h0 : ¬ x = 0) (h1 : ¬ x = 1) (h2 : ¬ x = 2) (h3 : ¬ x = 3) (h4 : ¬ x = 4) (h5 : ¬ x = 5) : x.toInt < 0 ∨ 5 < x.toInt := by
  have key : ∀ k : Int32, ¬ x = k → ¬ x.toInt = k.toInt := fun k hk q => hk (Int32.toInt_inj.mp q)
  have q0 := key 0 h0
  have q1 := key 1 h1
  have q2 := key 2 h2
  have q3 := key 3 h3
  have q4 := key 4 h4
  have q5 := key 5 h5
  rw [show (0 : Int32).toInt = 0 from rfl] at q0
  rw [show (1 : Int32).toInt = 1 from rfl] at q1
  rw [show (2 : Int32).toInt = 2 from rfl] at q2
  rw [show (3 : Int32).toInt = 3 from rfl] at q3
  rw [show (4 : Int32).toInt = 4 from rfl] at q4
  rw [show (5 : Int32).toInt = 5 from rfl] at q5
  omega
theorem sw_out7 {x : Int32} (h0 : ¬ x = 0) (h1 : ¬ x = 1) (h2 : ¬ x = 2) (h3 : ¬ x = 3) (h4 : ¬ x = 4) (h5 : ¬ x = 5) (h6 : ¬ x = 6) : x.toInt < 0 ∨ 6 < x.toInt := by
  have key : ∀ k : Int32, ¬ x = k → ¬ x.toInt = k.toInt := fun k hk q => hk (Int32.toInt_inj.mp q)
  have q0 := key 0 h0
  have q1 := key 1 h1
  have q2 := key 2 h2
  have q3 := key 3 h3
  have q4 := key 4 h4
  have q5 := key 5 h5
  have q6 := key 6 h6
  rw [show (0 : Int32).toInt = 0 from rfl] at q0
  rw [show (1 : Int32).toInt = 1 from rfl] at q1
  rw [show (2 : Int32).toInt = 2 from rfl] at q2
  rw [show (3 : Int32).toInt = 3 from rfl] at q3
  rw [show (4 : Int32).toInt = 4 from rfl] at q4
  rw [show (5 : Int32).toInt = 5 from rfl] at q5
  rw [show (6 : Int32).toInt = 6 from rfl] at q6
  omega
theorem sw_out12 {x : Int32} (h1 : ¬ x = 1) (h2 : ¬ x = 2) : x.toInt < 1 ∨ 2 < x.toInt := by
  have key : ∀ k : Int32, ¬ x = k → ¬ x.toInt = k.toInt := fun k hk q => hk (Int32.toInt_inj.mp q)
  have q1 := key 1 h1
  have q2 := key 2 h2
  rw [show (1 : Int32).toInt = 1 from rfl] at q1
  rw [show (2 : Int32).toInt = 2 from rfl] at q2
  omega
theorem sw_out13 {x : Int32} (h1 : ¬ x = 1) (h2 : ¬ x = 2) (h3 : ¬ x = 3) : x.toInt < 1 ∨ 3 < x.toInt := by
  have key : ∀ k : Int32, ¬ x = k → ¬ x.toInt = k.toInt := fun k hk q => hk (Int32.toInt_inj.mp q)
  have q1 := key 1 h1
  have q2 := key 2 h2
  have q3 := key 3 h3
  rw [show (1 : Int32).toInt = 1 from rfl] at q1
  rw [show (2 : Int32).toInt = 2 from rfl] at q2
  rw [show (3 : Int32).toInt = 3 from rfl] at q3
  omega
theorem sw_out14 {x : Int32} (h1 : ¬ x = 1) (h2 : ¬ x = 2) (h3 : ¬ x = 3) (h4 : ¬ x = 4) : x.toInt < 1 ∨ 4 < x.toInt := by
  have key : ∀ k : Int32, ¬ x = k → ¬ x.toInt = k.toInt := fun k hk q => hk (Int32.toInt_inj.mp q)
  have q1 := key 1 h1
  have q2 := key 2 h2
  have q3 := key 3 h3
  have q4 := key 4 h4
  rw [show (1 : Int32).toInt = 1 from rfl] at q1
  rw [show (2 : Int32).toInt = 2 from rfl] at q2
  rw [show (3 : Int32).toInt = 3 from rfl] at q3
  rw [show (4 : Int32).toInt = 4 from rfl] at q4
  omega
theorem sw_out15 {x : Int32} (h1 : ¬ x = 1) (h2 : ¬ x = 2) (h3 : ¬ x = 3) (h4 : ¬ x = 4) (h5 : ¬ x = 5) : x.toInt < 1 ∨ 5 < x.toInt := by
  have key : ∀ k : Int32, ¬ x = k → ¬ x.toInt = k.toInt := fun k hk q => hk (Int32.toInt_inj.mp q)
  have q1 := key 1 h1
  have q2 := key 2 h2
  have q3 := key 3 h3
  have q4 := key 4 h4
  have q5 := key 5 h5
  rw [show (1 : Int32).toInt = 1 from rfl] at q1
  rw [show (2 : Int32).toInt = 2 from rfl] at q2
  rw [show (3 : Int32).toInt = 3 from rfl] at q3
  rw [show (4 : Int32).toInt = 4 from rfl] at q4
  rw [show (5 : Int32).toInt = 5 from rfl] at q5
  omega
theorem sw_out16 {x : Int32} (h1 : ¬ x = 1) (h2 : ¬ x = 2) (h3 : ¬ x = 3) (h4 : ¬ x = 4) (h5 : ¬ x = 5) (h6 : ¬ x = 6) : x.toInt < 1 ∨ 6 < x.toInt := by
  have key : ∀ k : Int32, ¬ x = k → ¬ x.toInt = k.toInt := fun k hk q => hk (Int32.toInt_inj.mp q)
  have q1 := key 1 h1
  have q2 := key 2 h2
  have q3 := key 3 h3
  have q4 := key 4 h4
  have q5 := key 5 h5
  have q6 := key 6 h6
  rw [show (1 : Int32).toInt = 1 from rfl] at q1
  rw [show (2 : Int32).toInt = 2 from rfl] at q2
  rw [show (3 : Int32).toInt = 3 from rfl] at q3
  rw [show (4 : Int32).toInt = 4 from rfl] at q4
  rw [show (5 : Int32).toInt = 5 from rfl] at q5
  rw [show (6 : Int32).toInt = 6 from rfl] at q6
  omega
theorem sw_out17 {x : Int32} (h1 : ¬ x = 1) (h2 : ¬ x = 2) (h3 : ¬ x = 3) (h4 : ¬ x = 4) (h5 : ¬ x = 5) (h6 : ¬ x = 6) (h7 : ¬ x = 7) : x.toInt < 1 ∨ 7 < x.toInt := by
  have key : ∀ k : Int32, ¬ x = k → ¬ x.toInt = k.toInt := fun k hk q => hk (Int32.toInt_inj.mp q)
  have q1 := key 1 h1
  have q2 := key 2 h2
  have q3 := key 3 h3
  have q4 := key 4 h4
  have q5 := key 5 h5
  have q6 := key 6 h6
  have q7 := key 7 h7
  rw [show (1 : Int32).toInt = 1 from rfl] at q1
  rw [show (2 : Int32).toInt = 2 from rfl] at q2
  rw [show (3 : Int32).toInt = 3 from rfl] at q3
  rw [show (4 : Int32).toInt = 4 from rfl] at q4
  rw [show (5 : Int32).toInt = 5 from rfl] at q5
  rw [show (6 : Int32).toInt = 6 from rfl] at q6
  rw [show (7 : Int32).toInt = 7 from rfl] at q7
  omega
def PlayAt (h : Shp) (a : Nat) : Prop := ta h a 4 ∧ (h.1 a 8 = some (a + 1) ∧ tA h (a + 1) 11 6)
def TableAt (h : Shp) (a : Nat) : Prop := ta h a 7 ∧ (h.1 a 2 = some (a + 1) ∧ tA h (a + 1) 11 6) ∧ (h.1 a 3 = some (a + 2) ∧ tA h (a + 2) 11 6) ∧ (h.1 a 4 = some (a + 3) ∧ tA h (a + 3) 11 6) ∧ (h.1 a 5 = some (a + 4) ∧ tA h (a + 4) 11 6) ∧ (h.1 a 6 = some (a + 5) ∧ tA h (a + 5) 11 42)
def LayerAt (h : Shp) (a : Nat) (n : Nat) : Prop := ta h a 3 ∧ (h.1 a 0 = some (a + 1) ∧ tA h (a + 1) 11 n) ∧ (h.1 a 1 = some (a + 2) ∧ tA h (a + 2) 11 n)
def ImageAt (h : Shp) (a : Nat) : Prop := ta h a 2 ∧ (h.1 a 0 = some (a + 1) ∧ TableAt h (a + 1)) ∧ (h.1 a 1 = some (a + 7) ∧ PlayAt h (a + 7))
def RowsAt (h : Shp) : Prop := ta h 1 5 ∧ (h.1 1 0 = some 2 ∧ tA h 2 11 8) ∧ (h.1 1 1 = some 3 ∧ tA h 3 11 8) ∧ (h.1 1 2 = some 4 ∧ (tA h 4 14 8 ∧ ∀ j : Nat, j < 8 → (h.1 4 j = some (5 + 1 * j) ∧ tA h (5 + 1 * j) 11 40)))
def TapeAt (h : Shp) : Prop := ta h 13 8 ∧ (h.1 13 0 = some 14 ∧ tA h 14 11 400) ∧ (h.1 13 2 = some 15 ∧ TableAt h 15)
def ActsAt (h : Shp) : Prop := ta h 29 0 ∧ (h.1 29 0 = some 30 ∧ (tA h 30 13 24 ∧ ∀ j : Nat, j < 24 → (h.1 30 j = some (31 + 2 * j) ∧ PlayAt h (31 + 2 * j))))
def AsksAt (h : Shp) : Prop := ta h 91 1 ∧ (h.1 91 0 = some 92 ∧ tA h 92 11 16)
def SearchAt (h : Shp) (nw : Nat) (nx : Nat) (n : Nat) : Prop := ta h 82 6 ∧ (h.1 82 0 = some nw ∧ LayerAt h nw n) ∧ (h.1 82 1 = some nx ∧ LayerAt h nx n) ∧ (h.1 82 2 = some 89 ∧ PlayAt h 89)
def XAt (h : Shp) : Prop := ta h 0 9 ∧ (h.1 0 0 = some 1 ∧ RowsAt h) ∧ (h.1 0 1 = some 13 ∧ TapeAt h) ∧ (h.1 0 2 = some 21 ∧ TableAt h 21) ∧ (h.1 0 3 = some 27 ∧ PlayAt h 27) ∧ (h.1 0 4 = some 29 ∧ ActsAt h) ∧ (h.1 0 5 = some 79 ∧ (tA h 79 12 2 ∧ ∀ j : Nat, j < 2 → (h.1 79 j = some (93 + 9 * j) ∧ ImageAt h (93 + 9 * j)))) ∧ (h.1 0 6 = some 80 ∧ PlayAt h 80) ∧ (h.1 0 7 = some 82 ∧ ta h 82 6) ∧ (h.1 0 8 = some 91 ∧ AsksAt h)
def MAt (h : Shp) : Prop := ta h 111 10 ∧ (h.1 111 0 = some 112 ∧ tA h 112 11 164) ∧ (h.1 111 1 = some 113 ∧ tA h 113 11 336) ∧ (h.1 111 3 = some 114 ∧ tA h 114 11 400) ∧ (h.1 111 7 = some 115 ∧ tA h 115 11 8) ∧ (h.1 111 8 = some 116 ∧ tA h 116 11 8) ∧ (h.1 111 9 = some 117 ∧ tA h 117 11 320) ∧ (h.1 111 10 = some 118 ∧ tA h 118 11 16) ∧ (h.1 111 16 = some 119 ∧ tA h 119 11 24) ∧ (h.1 111 20 = some 120 ∧ tA h 120 11 10752) ∧ (h.1 111 21 = some 121 ∧ tA h 121 11 10752)
theorem Kd0 : Kd 0 RX0 TX0 3 tyX0 := ⟨rfl, wk_u0, by decide, rfl, tyX0_ok, nmX0⟩
theorem Kd1 : Kd 1 RX1 TX1 6 tyX1 := ⟨rfl, wk_u1, by decide, rfl, tyX1_ok, nmX1⟩
theorem Kd2 : Kd 2 RX2 TX2 3 tyX2 := ⟨rfl, wk_u2, by decide, rfl, tyX2_ok, nmX2⟩
theorem Kd3 : Kd 3 RX3 TX3 3 tyX3 := ⟨rfl, wk_u3, by decide, rfl, tyX3_ok, nmX3⟩
theorem Kd4 : Kd 4 RX4 TX4 10 tyX4 := ⟨rfl, wk_u4, by decide, rfl, tyX4_ok, nmX4⟩
theorem Kd5 : Kd 5 RX5 TX5 3 tyX5 := ⟨rfl, wk_u5, by decide, rfl, tyX5_ok, nmX5⟩
theorem Kd6 : Kd 6 RX6 TX6 4 tyX6 := ⟨rfl, wk_u6, by decide, rfl, tyX6_ok, nmX6⟩
theorem Kd7 : Kd 7 RX7 TX7 7 tyX7 := ⟨rfl, wk_u7, by decide, rfl, tyX7_ok, nmX7⟩
theorem Kd8 : Kd 8 RX8 TX8 10 tyX8 := ⟨rfl, wk_u8, by decide, rfl, tyX8_ok, nmX8⟩
theorem Kd9 : Kd 9 RX9 TX9 12 tyX9 := ⟨rfl, wk_u9, by decide, rfl, tyX9_ok, nmX9⟩
theorem Kd10 : Kd 10 RX10 TX10 22 tyX10 := ⟨rfl, wk_u10, by decide, rfl, tyX10_ok, nmX10⟩
theorem nk0 : Cond.fieldLinkNest "BumperBalls" 110 "BumperBalls$Rows" "lanes" "[I" "BumperBalls" ∈ nestWs := List.mem_of_getElem? (i := 0) (by decide +kernel)
theorem nk1 : Cond.fieldLinkNest "BumperBalls" 114 "BumperBalls$Rows" "items" "[[I" "BumperBalls" ∈ nestWs := List.mem_of_getElem? (i := 1) (by decide +kernel)
theorem nk2 : Cond.fieldLinkNest "BumperBalls" 127 "BumperBalls$Tape" "length" "I" "BumperBalls" ∈ nestWs := List.mem_of_getElem? (i := 2) (by decide +kernel)
theorem nk3 : Cond.fieldLinkNest "BumperBalls" 138 "BumperBalls$Tape" "fault" "I" "BumperBalls" ∈ nestWs := List.mem_of_getElem? (i := 3) (by decide +kernel)
theorem nk4 : Cond.fieldLinkNest "BumperBalls" 142 "BumperBalls$Tape" "start" "I" "BumperBalls" ∈ nestWs := List.mem_of_getElem? (i := 4) (by decide +kernel)
theorem nk5 : Cond.fieldLinkNest "BumperBalls" 145 "BumperBalls$Tape" "draft" "LBumperBalls$Table;" "BumperBalls" ∈ nestWs := List.mem_of_getElem? (i := 5) (by decide +kernel)
theorem nk6 : Cond.fieldLinkNest "BumperBalls" 152 "BumperBalls$Tape" "ballCell" "I" "BumperBalls" ∈ nestWs := List.mem_of_getElem? (i := 6) (by decide +kernel)
theorem nk7 : Cond.fieldLinkNest "BumperBalls" 155 "BumperBalls$Tape" "ballWay" "I" "BumperBalls" ∈ nestWs := List.mem_of_getElem? (i := 7) (by decide +kernel)
theorem nk8 : Cond.fieldLinkNest "BumperBalls" 165 "BumperBalls$Table" "pins" "I" "BumperBalls" ∈ nestWs := List.mem_of_getElem? (i := 8) (by decide +kernel)
theorem nk9 : Cond.fieldLinkNest "BumperBalls" 169 "BumperBalls$Play" "lost" "Z" "BumperBalls" ∈ nestWs := List.mem_of_getElem? (i := 9) (by decide +kernel)
theorem nk10 : Cond.fieldLinkNest "BumperBalls" 172 "BumperBalls$Play" "steps" "I" "BumperBalls" ∈ nestWs := List.mem_of_getElem? (i := 10) (by decide +kernel)
theorem nk11 : Cond.fieldLinkNest "BumperBalls" 182 "BumperBalls$Table" "tilt" "I" "BumperBalls" ∈ nestWs := List.mem_of_getElem? (i := 11) (by decide +kernel)
theorem nk12 : Cond.fieldLinkNest "BumperBalls" 189 "BumperBalls$Play" "shakes" "I" "BumperBalls" ∈ nestWs := List.mem_of_getElem? (i := 12) (by decide +kernel)
theorem nk13 : Cond.fieldLinkNest "BumperBalls" 192 "BumperBalls$Play" "cell" "I" "BumperBalls" ∈ nestWs := List.mem_of_getElem? (i := 13) (by decide +kernel)
theorem nk14 : Cond.fieldLinkNest "BumperBalls" 195 "BumperBalls$Play" "way" "I" "BumperBalls" ∈ nestWs := List.mem_of_getElem? (i := 14) (by decide +kernel)
theorem nk15 : Cond.fieldLinkNest "BumperBalls" 204 "BumperBalls$Acts" "size" "I" "BumperBalls" ∈ nestWs := List.mem_of_getElem? (i := 15) (by decide +kernel)
theorem nk16 : Cond.fieldLinkNest "BumperBalls" 210 "BumperBalls$Play" "score" "I" "BumperBalls" ∈ nestWs := List.mem_of_getElem? (i := 16) (by decide +kernel)
theorem nk17 : Cond.fieldLinkNest "BumperBalls" 213 "BumperBalls$Play" "lit" "I" "BumperBalls" ∈ nestWs := List.mem_of_getElem? (i := 17) (by decide +kernel)
theorem nk18 : Cond.fieldLinkNest "BumperBalls" 219 "BumperBalls$Table" "cells" "[I" "BumperBalls" ∈ nestWs := List.mem_of_getElem? (i := 18) (by decide +kernel)
theorem nk19 : Cond.fieldLinkNest "BumperBalls" 222 "BumperBalls$Table" "letters" "[I" "BumperBalls" ∈ nestWs := List.mem_of_getElem? (i := 19) (by decide +kernel)
theorem nk20 : Cond.fieldLinkNest "BumperBalls" 225 "BumperBalls$Table" "pays" "[I" "BumperBalls" ∈ nestWs := List.mem_of_getElem? (i := 20) (by decide +kernel)
theorem nk21 : Cond.fieldLinkNest "BumperBalls" 228 "BumperBalls$Play" "struck" "[I" "BumperBalls" ∈ nestWs := List.mem_of_getElem? (i := 21) (by decide +kernel)
theorem nk22 : Cond.fieldLinkNest "BumperBalls" 256 "BumperBalls$Search" "fewestStriking" "I" "BumperBalls" ∈ nestWs := List.mem_of_getElem? (i := 22) (by decide +kernel)
theorem nk23 : Cond.fieldLinkNest "BumperBalls" 272 "BumperBalls$Image" "isKept" "Z" "BumperBalls" ∈ nestWs := List.mem_of_getElem? (i := 23) (by decide +kernel)
theorem nk24 : Cond.fieldLinkNest "BumperBalls" 275 "BumperBalls$Image" "table" "LBumperBalls$Table;" "BumperBalls" ∈ nestWs := List.mem_of_getElem? (i := 24) (by decide +kernel)
theorem nk25 : Cond.fieldLinkNest "BumperBalls" 276 "BumperBalls$Image" "play" "LBumperBalls$Play;" "BumperBalls" ∈ nestWs := List.mem_of_getElem? (i := 25) (by decide +kernel)
theorem nk26 : Cond.fieldLinkNest "BumperBalls" 277 "BumperBalls$Table" "kinds" "[I" "BumperBalls" ∈ nestWs := List.mem_of_getElem? (i := 26) (by decide +kernel)
theorem nk27 : Cond.fieldLinkNest "BumperBalls" 292 "BumperBalls$Asks" "length" "I" "BumperBalls" ∈ nestWs := List.mem_of_getElem? (i := 27) (by decide +kernel)
theorem nk28 : Cond.fieldLinkNest "BumperBalls" 293 "BumperBalls$Asks" "bodies" "[I" "BumperBalls" ∈ nestWs := List.mem_of_getElem? (i := 28) (by decide +kernel)
theorem nk29 : Cond.fieldLinkNest "BumperBalls" 307 "BumperBalls$Play" "knocked" "I" "BumperBalls" ∈ nestWs := List.mem_of_getElem? (i := 29) (by decide +kernel)
theorem nk30 : Cond.fieldLinkNest "BumperBalls$Asks" 31 "BumperBalls$Table" "kinds" "[I" "BumperBalls" ∈ nestWs := List.mem_of_getElem? (i := 30) (by decide +kernel)
theorem nk31 : Cond.fieldLinkNest "BumperBalls$Asks" 36 "BumperBalls$Table" "pays" "[I" "BumperBalls" ∈ nestWs := List.mem_of_getElem? (i := 31) (by decide +kernel)
theorem nk32 : Cond.fieldLinkNest "BumperBalls$Asks" 38 "BumperBalls$Play" "struck" "[I" "BumperBalls" ∈ nestWs := List.mem_of_getElem? (i := 32) (by decide +kernel)
theorem nk33 : Cond.fieldLinkNest "BumperBalls$Layer" 22 "BumperBalls$Play" "gates" "I" "BumperBalls" ∈ nestWs := List.mem_of_getElem? (i := 33) (by decide +kernel)
theorem nk34 : Cond.fieldLinkNest "BumperBalls$Layer" 27 "BumperBalls$Play" "cell" "I" "BumperBalls" ∈ nestWs := List.mem_of_getElem? (i := 34) (by decide +kernel)
theorem nk35 : Cond.fieldLinkNest "BumperBalls$Layer" 30 "BumperBalls$Play" "way" "I" "BumperBalls" ∈ nestWs := List.mem_of_getElem? (i := 35) (by decide +kernel)
theorem nk36 : Cond.fieldLinkNest "BumperBalls$Play" 86 "BumperBalls$Table" "letters" "[I" "BumperBalls" ∈ nestWs := List.mem_of_getElem? (i := 36) (by decide +kernel)
theorem nk37 : Cond.fieldLinkNest "BumperBalls$Play" 89 "BumperBalls$Table" "pays" "[I" "BumperBalls" ∈ nestWs := List.mem_of_getElem? (i := 37) (by decide +kernel)
theorem nk38 : Cond.fieldLinkNest "BumperBalls$Play" 92 "BumperBalls$Table" "kinds" "[I" "BumperBalls" ∈ nestWs := List.mem_of_getElem? (i := 38) (by decide +kernel)
theorem nk39 : Cond.fieldLinkNest "BumperBalls$Search" 35 "BumperBalls$Table" "pins" "I" "BumperBalls" ∈ nestWs := List.mem_of_getElem? (i := 39) (by decide +kernel)
theorem nk40 : Cond.fieldLinkNest "BumperBalls$Search" 50 "BumperBalls$Layer" "size" "I" "BumperBalls" ∈ nestWs := List.mem_of_getElem? (i := 40) (by decide +kernel)
theorem nk41 : Cond.fieldLinkNest "BumperBalls$Search" 53 "BumperBalls$Layer" "places" "[I" "BumperBalls" ∈ nestWs := List.mem_of_getElem? (i := 41) (by decide +kernel)
theorem nk42 : Cond.fieldLinkNest "BumperBalls$Search" 57 "BumperBalls$Layer" "costs" "[I" "BumperBalls" ∈ nestWs := List.mem_of_getElem? (i := 42) (by decide +kernel)
theorem nk43 : Cond.fieldLinkNest "BumperBalls$Search" 74 "BumperBalls$Play" "gates" "I" "BumperBalls" ∈ nestWs := List.mem_of_getElem? (i := 43) (by decide +kernel)
theorem nk44 : Cond.fieldLinkNest "BumperBalls$Search" 84 "BumperBalls$Play" "knocked" "I" "BumperBalls" ∈ nestWs := List.mem_of_getElem? (i := 44) (by decide +kernel)
theorem nk45 : Cond.fieldLinkNest "BumperBalls$Search" 87 "BumperBalls$Table" "letters" "[I" "BumperBalls" ∈ nestWs := List.mem_of_getElem? (i := 45) (by decide +kernel)
theorem nk46 : Cond.fieldLinkNest "BumperBalls$Search" 93 "BumperBalls$Play" "lost" "Z" "BumperBalls" ∈ nestWs := List.mem_of_getElem? (i := 46) (by decide +kernel)
theorem nk47 : Cond.fieldLinkNest "BumperBalls$Tape" 78 "BumperBalls$Table" "tilt" "I" "BumperBalls" ∈ nestWs := List.mem_of_getElem? (i := 47) (by decide +kernel)
theorem nk48 : Cond.fieldLinkNest "BumperBalls$Tape" 84 "BumperBalls$Table" "pins" "I" "BumperBalls" ∈ nestWs := List.mem_of_getElem? (i := 48) (by decide +kernel)
