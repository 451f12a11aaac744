/-! ===== makers and the search: their worlds grow ===== -/
theorem wk_ai : Wk (Cond.arrayClass .int) := wk_46
theorem wk_oi1 : Wk (Cond.instanceMethod Lib.objectInit) := wk_24
theorem wk_oi2 : Wk (Cond.code Lib.objectInit ⟨#[0xb1]⟩ 1 none) := wk_25
def rmB (ce sl mB sB : Nat) : Bool := decide (ce ≤ mB) && decide (sl ≤ sB)
theorem rmB_ok {ce sl mB sB : Nat} (h : rmB ce sl mB sB = true) : ce ≤ mB ∧ sl ≤ sB := by
  simp only [rmB, Bool.and_eq_true, decide_eq_true_eq] at h
  exact h
def cnB (ce sl mB sB : Nat) : Bool := decide (ce = mB) && decide (sl = sB)
theorem cnB_ok {ce sl mB sB : Nat} (h : cnB ce sl mB sB = true) : ce = mB ∧ sl = sB := by
  simp only [cnB, Bool.and_eq_true, decide_eq_true_eq] at h
  exact h
theorem xr_wn {g : Cfg} {cells slots pc : Nat} {w u : Wt} {lv : List (Nat × Value)} {st : List Value} (h : u = w) (K : XE g cells slots u pc lv st) : XE g cells slots w pc lv st := h ▸ K
section XW
variable {g : Cfg} {own : String} {cc : ByteArray} {nL fr lo mc ms cells slots pc idx : Nat} {w : Wt} {lv : List (Nat × Value)} {st : List Value} {kd k n a : Nat} {Cn : String} {T : u_T} {ty0 : Nat → FieldType}
theorem xr_putIw (C : Cx g own cc nL fr lo mc ms) (hKd : Kd kd Cn T n ty0) (hk : k < n) (hT : (T k).1 = Cn) (hF : (T k).2.2.2 = false) (hw : Wk (Cond.fieldLink own idx Cn (T k).2.1 (T k).2.2.1)) (hs : slR kd k = false) {v : Int32} (hv : narrow (ty0 k) (.int v) = .int v) (hf : fits (ty0 k) (.int v) = true) (ha : ta w.2 a kd) (hd : decode cc pc = .ok (.putfield idx, 3)) {u : Wt} (h1 : u = (up2 w.1 a k v, w.2)) (K : XE g cells slots u (pc + 3) lv st) : XE g cells slots w pc lv (.int v :: rf g a :: st) := xr_putI C hKd hk hT hF hw hs hv hf ha hd rfl (by rw [← h1]; exact K)
theorem xr_putIwN (C : Cx g own cc nL fr lo mc ms) (hKd : Kd kd Cn T n ty0) (hk : k < n) (hT : (T k).1 = Cn) (hF : (T k).2.2.2 = false) (hw : Cond.fieldLinkNest own idx Cn (T k).2.1 (T k).2.2.1 "BumperBalls" ∈ nestWs) (hs : slR kd k = false) {v : Int32} (hv : narrow (ty0 k) (.int v) = .int v) (hf : fits (ty0 k) (.int v) = true) (ha : ta w.2 a kd) (hd : decode cc pc = .ok (.putfield idx, 3)) {u : Wt} (h1 : u = (up2 w.1 a k v, w.2)) (K : XE g cells slots u (pc + 3) lv st) : XE g cells slots w pc lv (.int v :: rf g a :: st) := xr_putIN C hKd hk hT hF hw hs hv hf ha hd rfl (by rw [← h1]; exact K)
theorem xr_putRw (C : Cx g own cc nL fr lo mc ms) (hKd : Kd kd Cn T n ty0) (hk : k < n) (hT : (T k).1 = Cn) (hF : (T k).2.2.2 = false) (hw : Wk (Cond.fieldLink own idx Cn (T k).2.1 (T k).2.2.1)) (hs : slR kd k = true) {r : Nat} (hv : ∀ q : Nat, narrow (ty0 k) (.ref q) = .ref q ∧ fits (ty0 k) (.ref q) = true) (ha : ta w.2 a kd) (hd : decode cc pc = .ok (.putfield idx, 3)) {u : Wt} (h1 : u = (w.1, up2 w.2.1 a k (some r), w.2.2)) (K : XE g cells slots u (pc + 3) lv st) : XE g cells slots w pc lv (rf g r :: rf g a :: st) := xr_putR C hKd hk hT hF hw hs (fun _ => hv) (hv 0).1 ha hd rfl (by rw [← h1]; exact K)
theorem xr_iastw (C : Cx g own cc nL fr lo mc ms) {x i : Int32} (ha : tA w.2 a 11 n) (hi : inb i n = true) (hd : decode cc pc = .ok (.iastore, 1)) {u : Wt} (h1 : u = (up2 w.1 a (ix i) x, w.2)) (K : XE g cells slots u (pc + 1) lv st) : XE g cells slots w pc lv (.int x :: .int i :: rf g a :: st) := xr_iast C ha hi hd rfl (by rw [← h1]; exact K)
theorem xr_returnW (C : Cx g own cc nL fr lo mc ms) {w1 : Wt} (q : QV g mc ms w1) (h1 : cells = mc) (h2 : slots = ms) (hd : decode cc pc = .ok (.return_, 1)) (hw : w = w1) : XE g cells slots w pc lv [] := by
  subst h1 h2
  exact xr_return C q hd hw
theorem xr_ireturnW (C : Cx g own cc nL fr lo mc ms) {ret : Option FieldType} {ty : FieldType} {r v : Int32} {w1 : Wt} (q : QI g ret mc ms r w1) (h1 : cells = mc) (h2 : slots = ms) (hret : ret = some ty) (hn : narrow ty (.int v) = .int v) (hd : decode cc pc = .ok (.ireturn, 1)) (h : v = r) (hw : w = w1) : XE g cells slots w pc lv [.int v] := by
  subst h1 h2
  exact xr_ireturn C q hret hn hd h hw
end XW
theorem df0 : ∀ j, j < 3 → defaultValue (tyX0 j) = if slR 0 j then .null else .int 0 := fun j hj => match j, hj with
  | 0, _ => rfl
  | 1, _ => rfl
  | 2, _ => rfl
  | n + 3, h => absurd h (by omega)
theorem df1 : ∀ j, j < 6 → defaultValue (tyX1 j) = if slR 1 j then .null else .int 0 := fun j hj => match j, hj with
  | 0, _ => rfl
  | 1, _ => rfl
  | 2, _ => rfl
  | 3, _ => rfl
  | 4, _ => rfl
  | 5, _ => rfl
  | n + 6, h => absurd h (by omega)
theorem df2 : ∀ j, j < 3 → defaultValue (tyX2 j) = if slR 2 j then .null else .int 0 := fun j hj => match j, hj with
  | 0, _ => rfl
  | 1, _ => rfl
  | 2, _ => rfl
  | n + 3, h => absurd h (by omega)
theorem df3 : ∀ j, j < 3 → defaultValue (tyX3 j) = if slR 3 j then .null else .int 0 := fun j hj => match j, hj with
  | 0, _ => rfl
  | 1, _ => rfl
  | 2, _ => rfl
  | n + 3, h => absurd h (by omega)
theorem df4 : ∀ j, j < 10 → defaultValue (tyX4 j) = if slR 4 j then .null else .int 0 := fun j hj => match j, hj with
  | 0, _ => rfl
  | 1, _ => rfl
  | 2, _ => rfl
  | 3, _ => rfl
  | 4, _ => rfl
  | 5, _ => rfl
  | 6, _ => rfl
  | 7, _ => rfl
  | 8, _ => rfl
  | 9, _ => rfl
  | n + 10, h => absurd h (by omega)
theorem df5 : ∀ j, j < 3 → defaultValue (tyX5 j) = if slR 5 j then .null else .int 0 := fun j hj => match j, hj with
  | 0, _ => rfl
  | 1, _ => rfl
  | 2, _ => rfl
  | n + 3, h => absurd h (by omega)
theorem df6 : ∀ j, j < 4 → defaultValue (tyX6 j) = if slR 6 j then .null else .int 0 := fun j hj => match j, hj with
  | 0, _ => rfl
  | 1, _ => rfl
  | 2, _ => rfl
  | 3, _ => rfl
  | n + 4, h => absurd h (by omega)
theorem df7 : ∀ j, j < 7 → defaultValue (tyX7 j) = if slR 7 j then .null else .int 0 := fun j hj => match j, hj with
  | 0, _ => rfl
  | 1, _ => rfl
  | 2, _ => rfl
  | 3, _ => rfl
  | 4, _ => rfl
  | 5, _ => rfl
  | 6, _ => rfl
  | n + 7, h => absurd h (by omega)
theorem df8 : ∀ j, j < 10 → defaultValue (tyX8 j) = if slR 8 j then .null else .int 0 := fun j hj => match j, hj with
  | 0, _ => rfl
  | 1, _ => rfl
  | 2, _ => rfl
  | 3, _ => rfl
  | 4, _ => rfl
  | 5, _ => rfl
  | 6, _ => rfl
  | 7, _ => rfl
  | 8, _ => rfl
  | 9, _ => rfl
  | n + 10, h => absurd h (by omega)
theorem df9 : ∀ j, j < 12 → defaultValue (tyX9 j) = if slR 9 j then .null else .int 0 := fun j hj => match j, hj with
  | 0, _ => rfl
  | 1, _ => rfl
  | 2, _ => rfl
  | 3, _ => rfl
  | 4, _ => rfl
  | 5, _ => rfl
  | 6, _ => rfl
  | 7, _ => rfl
  | 8, _ => rfl
  | 9, _ => rfl
  | 10, _ => rfl
  | 11, _ => rfl
  | n + 12, h => absurd h (by omega)
theorem df10 : ∀ j, j < 22 → defaultValue (tyX10 j) = if slR 10 j then .null else .int 0 := fun j hj => match j, hj with
  | 0, _ => rfl
  | 1, _ => rfl
  | 2, _ => rfl
  | 3, _ => rfl
  | 4, _ => rfl
  | 5, _ => rfl
  | 6, _ => rfl
  | 7, _ => rfl
  | 8, _ => rfl
  | 9, _ => rfl
  | 10, _ => rfl
  | 11, _ => rfl
  | 12, _ => rfl
  | 13, _ => rfl
  | 14, _ => rfl
  | 15, _ => rfl
  | 16, _ => rfl
  | 17, _ => rfl
  | 18, _ => rfl
  | 19, _ => rfl
  | 20, _ => rfl
  | 21, _ => rfl
  | n + 22, h => absurd h (by omega)
def tableB (h : Shp) (a : Nat) : Bool := (decide (h.2.1 a = 7) && decide (a < h.2.2.2)) && (((decide (h.1 a 2 = some (a + 1)) && (decide (h.2.1 (a + 1) = 11) && decide ((a + 1) < h.2.2.2) && decide (h.2.2.1 (a + 1) = 6)))) && (((decide (h.1 a 3 = some (a + 2)) && (decide (h.2.1 (a + 2) = 11) && decide ((a + 2) < h.2.2.2) && decide (h.2.2.1 (a + 2) = 6)))) && (((decide (h.1 a 4 = some (a + 3)) && (decide (h.2.1 (a + 3) = 11) && decide ((a + 3) < h.2.2.2) && decide (h.2.2.1 (a + 3) = 6)))) && (((decide (h.1 a 5 = some (a + 4)) && (decide (h.2.1 (a + 4) = 11) && decide ((a + 4) < h.2.2.2) && decide (h.2.2.1 (a + 4) = 6)))) && ((decide (h.1 a 6 = some (a + 5)) && (decide (h.2.1 (a + 5) = 11) && decide ((a + 5) < h.2.2.2) && decide (h.2.2.1 (a + 5) = 42))))))))
theorem tableB_ok {h : Shp} {a : Nat} (hh : tableB h a = true) : TableAt h a := by
  simp only [tableB, Bool.and_eq_true, decide_eq_true_eq] at hh
  exact ⟨hh.1, ⟨hh.2.1.1, ⟨hh.2.1.2.1.1, hh.2.1.2.1.2, hh.2.1.2.2⟩⟩, ⟨hh.2.2.1.1, ⟨hh.2.2.1.2.1.1, hh.2.2.1.2.1.2, hh.2.2.1.2.2⟩⟩, ⟨hh.2.2.2.1.1, ⟨hh.2.2.2.1.2.1.1, hh.2.2.2.1.2.1.2, hh.2.2.2.1.2.2⟩⟩, ⟨hh.2.2.2.2.1.1, ⟨hh.2.2.2.2.1.2.1.1, hh.2.2.2.2.1.2.1.2, hh.2.2.2.2.1.2.2⟩⟩, ⟨hh.2.2.2.2.2.1, ⟨hh.2.2.2.2.2.2.1.1, hh.2.2.2.2.2.2.1.2, hh.2.2.2.2.2.2.2⟩⟩⟩
def playB (h : Shp) (a : Nat) : Bool := (decide (h.2.1 a = 4) && decide (a < h.2.2.2)) && ((decide (h.1 a 8 = some (a + 1)) && (decide (h.2.1 (a + 1) = 11) && decide ((a + 1) < h.2.2.2) && decide (h.2.2.1 (a + 1) = 6))))
theorem playB_ok {h : Shp} {a : Nat} (hh : playB h a = true) : PlayAt h a := by
  simp only [playB, Bool.and_eq_true, decide_eq_true_eq] at hh
  exact ⟨hh.1, ⟨hh.2.1, ⟨hh.2.2.1.1, hh.2.2.1.2, hh.2.2.2⟩⟩⟩
def layerB (h : Shp) (a : Nat) (n : Nat) : Bool := (decide (h.2.1 a = 3) && decide (a < h.2.2.2)) && (((decide (h.1 a 0 = some (a + 1)) && (decide (h.2.1 (a + 1) = 11) && decide ((a + 1) < h.2.2.2) && decide (h.2.2.1 (a + 1) = n)))) && ((decide (h.1 a 1 = some (a + 2)) && (decide (h.2.1 (a + 2) = 11) && decide ((a + 2) < h.2.2.2) && decide (h.2.2.1 (a + 2) = n)))))
theorem layerB_ok {h : Shp} {a : Nat} {n : Nat} (hh : layerB h a n = true) : LayerAt h a n := by
  simp only [layerB, Bool.and_eq_true, decide_eq_true_eq] at hh
  exact ⟨hh.1, ⟨hh.2.1.1, ⟨hh.2.1.2.1.1, hh.2.1.2.1.2, hh.2.1.2.2⟩⟩, ⟨hh.2.2.1, ⟨hh.2.2.2.1.1, hh.2.2.2.1.2, hh.2.2.2.2⟩⟩⟩
def searchB (h : Shp) (nw : Nat) (nx : Nat) (n : Nat) : Bool := (decide (h.2.1 82 = 6) && decide (82 < h.2.2.2)) && (((decide (h.1 82 0 = some nw) && (layerB h nw n))) && (((decide (h.1 82 1 = some nx) && (layerB h nx n))) && ((decide (h.1 82 2 = some 89) && (playB h 89)))))
theorem searchB_ok {h : Shp} {nw : Nat} {nx : Nat} {n : Nat} (hh : searchB h nw nx n = true) : SearchAt h nw nx n := by
  simp only [searchB, Bool.and_eq_true, decide_eq_true_eq] at hh
  exact ⟨hh.1, ⟨hh.2.1.1, layerB_ok hh.2.1.2⟩, ⟨hh.2.2.1.1, layerB_ok hh.2.2.1.2⟩, ⟨hh.2.2.2.1, playB_ok hh.2.2.2.2⟩⟩
theorem dX7_init_0 : decode cX7_init 0 = .ok (.aload_n 0, 1) := by decide +kernel
theorem dX7_init_1 : decode cX7_init 1 = .ok (.invokespecial 3, 3) := by decide +kernel
theorem dX7_init_4 : decode cX7_init 4 = .ok (.aload_n 0, 1) := by decide +kernel
theorem dX7_init_5 : decode cX7_init 5 = .ok (.iconst 0, 1) := by decide +kernel
theorem dX7_init_6 : decode cX7_init 6 = .ok (.putfield 9, 3) := by decide +kernel
theorem dX7_init_9 : decode cX7_init 9 = .ok (.aload_n 0, 1) := by decide +kernel
theorem dX7_init_10 : decode cX7_init 10 = .ok (.iconst 0, 1) := by decide +kernel
theorem dX7_init_11 : decode cX7_init 11 = .ok (.putfield 15, 3) := by decide +kernel
theorem dX7_init_14 : decode cX7_init 14 = .ok (.aload_n 0, 1) := by decide +kernel
theorem dX7_init_15 : decode cX7_init 15 = .ok (.bipush 6, 2) := by decide +kernel
theorem dX7_init_17 : decode cX7_init 17 = .ok (.newarray .int, 2) := by decide +kernel
theorem dX7_init_19 : decode cX7_init 19 = .ok (.putfield 18, 3) := by decide +kernel
theorem dX7_init_22 : decode cX7_init 22 = .ok (.aload_n 0, 1) := by decide +kernel
theorem dX7_init_23 : decode cX7_init 23 = .ok (.bipush 6, 2) := by decide +kernel
theorem dX7_init_25 : decode cX7_init 25 = .ok (.newarray .int, 2) := by decide +kernel
theorem dX7_init_27 : decode cX7_init 27 = .ok (.putfield 22, 3) := by decide +kernel
theorem dX7_init_30 : decode cX7_init 30 = .ok (.aload_n 0, 1) := by decide +kernel
theorem dX7_init_31 : decode cX7_init 31 = .ok (.bipush 6, 2) := by decide +kernel
theorem dX7_init_33 : decode cX7_init 33 = .ok (.newarray .int, 2) := by decide +kernel
theorem dX7_init_35 : decode cX7_init 35 = .ok (.putfield 25, 3) := by decide +kernel
theorem dX7_init_38 : decode cX7_init 38 = .ok (.aload_n 0, 1) := by decide +kernel
theorem dX7_init_39 : decode cX7_init 39 = .ok (.bipush 6, 2) := by decide +kernel
theorem dX7_init_41 : decode cX7_init 41 = .ok (.newarray .int, 2) := by decide +kernel
theorem dX7_init_43 : decode cX7_init 43 = .ok (.putfield 28, 3) := by decide +kernel
theorem dX7_init_46 : decode cX7_init 46 = .ok (.aload_n 0, 1) := by decide +kernel
theorem dX7_init_47 : decode cX7_init 47 = .ok (.bipush 42, 2) := by decide +kernel
theorem dX7_init_49 : decode cX7_init 49 = .ok (.newarray .int, 2) := by decide +kernel
theorem dX7_init_51 : decode cX7_init 51 = .ok (.putfield 31, 3) := by decide +kernel
theorem dX7_init_54 : decode cX7_init 54 = .ok (.aload_n 0, 1) := by decide +kernel
theorem dX7_init_55 : decode cX7_init 55 = .ok (.invokevirtual 34, 3) := by decide +kernel
theorem dX7_init_58 : decode cX7_init 58 = .ok (.return_, 1) := by decide +kernel
theorem lkX7_34 : LkV "BumperBalls$Table" 34 yX7_clear cX7_clear 2 none 0 := ⟨wk_62, wk_4, wk_61, wk_s0, ⟨by decide +kernel, by decide +kernel, by decide +kernel⟩, wk_59⟩
/-! BumperBalls$Table.<init>()V -/
def fwX7_init (mB sB : Nat) (w0 : Wt) (ce sl : Nat) (x0 : Nat) : Option Wt :=
  ck (isK w0 x0 7) <| bnd ((up2 w0.1 x0 0 0, w0.2) : Wt) fun w2 => ck (isK w2 x0 7) <| bnd ((up2 w2.1 x0 1 0, w2.2) : Wt) fun w4 => ck (rmB (ce + 1) (sl + 6) mB sB) <| bnd (al w4 11 6) fun w5 => ck (isK w5 x0 7) <| bnd ((w5.1, up2 w5.2.1 x0 2 (some w4.2.2.2.2), w5.2.2) : Wt) fun w8 => ck (rmB ((ce + 1) + 1) ((sl + 6) + 6) mB sB) <| bnd (al w8 11 6) fun w9 => ck (isK w9 x0 7) <| bnd ((w9.1, up2 w9.2.1 x0 3 (some w8.2.2.2.2), w9.2.2) : Wt) fun w12 => ck (rmB (((ce + 1) + 1) + 1) (((sl + 6) + 6) + 6) mB sB) <| bnd (al w12 11 6) fun w13 => ck (isK w13 x0 7) <| bnd ((w13.1, up2 w13.2.1 x0 4 (some w12.2.2.2.2), w13.2.2) : Wt) fun w16 => ck (rmB ((((ce + 1) + 1) + 1) + 1) ((((sl + 6) + 6) + 6) + 6) mB sB) <| bnd (al w16 11 6) fun w17 => ck (isK w17 x0 7) <| bnd ((w17.1, up2 w17.2.1 x0 5 (some w16.2.2.2.2), w17.2.2) : Wt) fun w20 => ck (rmB (((((ce + 1) + 1) + 1) + 1) + 1) (((((sl + 6) + 6) + 6) + 6) + 42) mB sB) <| bnd (al w20 11 42) fun w21 => ck (isK w21 x0 7) <| bnd ((w21.1, up2 w21.2.1 x0 6 (some w20.2.2.2.2), w21.2.2) : Wt) fun w24 => ck (tableB w24.2 x0) <| ck (rmB (((((ce + 1) + 1) + 1) + 1) + 1) (((((sl + 6) + 6) + 6) + 6) + 42) mB sB) <| ob (fnX7_clear x0 w24.1) fun I26 => bnd ((I26, w24.2) : Wt) fun w28 => ck (cnB (((((ce + 1) + 1) + 1) + 1) + 1) (((((sl + 6) + 6) + 6) + 6) + 42) mB sB) <| some w28
set_option maxRecDepth 20000 in
set_option maxHeartbeats 2000000 in
theorem ewX7_init_0 {g : Cfg} {mB sB : Nat} (C : Cx g RX7 cX7_init 1 1 21 mB sB) (hin : g.2.2.2.2.2.2.2.2.1.name = "<init>") {o1 : Wt} (q : QV g mB sB o1) {w0 : Wt} {ce sl : Nat} {x0 : Nat} (hf : fwX7_init mB sB w0 ce sl x0 = some o1) : XE g ce sl w0 0 [(0, rf g x0)] [] := by
  unfold fwX7_init at hf
  refine xr_aload_n C dX7_init_0 0 rfl rfl ?_
  refine xr_objinit C wk_58 wk_oi1 wk_oi2 (by decide) (Nat.le_of_ble_eq_true rfl) dX7_init_1 ?_
  refine xr_aload_n C dX7_init_4 0 rfl rfl ?_
  refine xr_iconst (v := 0) C dX7_init_5 (by decide) ?_
  obtain ⟨z1, hf⟩ := ck_x hf
  obtain ⟨w2, ew2, hf⟩ := bnd_x hf
  refine xr_putIw C Kd7 (k := 0) (by decide) rfl rfl wk_63 rfl rfl rfl (isK_ok z1) dX7_init_6 ew2 ?_
  refine xr_aload_n C dX7_init_9 0 rfl rfl ?_
  refine xr_iconst (v := 0) C dX7_init_10 (by decide) ?_
  obtain ⟨z3, hf⟩ := ck_x hf
  obtain ⟨w4, ew4, hf⟩ := bnd_x hf
  refine xr_putIw C Kd7 (k := 1) (by decide) rfl rfl wk_66 rfl rfl rfl (isK_ok z3) dX7_init_11 ew4 ?_
  refine xr_aload_n C dX7_init_14 0 rfl rfl ?_
  refine xr_bipush (v := 6) C dX7_init_15 (by decide) ?_
  obtain ⟨z6, hf⟩ := ck_x hf
  obtain ⟨w5, ew5, hf⟩ := bnd_x hf
  refine xr_newi (N0 := 6) C wk_ai (by decide) rfl (by decide) (rmB_ok z6) dX7_init_17 ew5 ?_
  obtain ⟨z7, hf⟩ := ck_x hf
  obtain ⟨w8, ew8, hf⟩ := bnd_x hf
  refine xr_putRF C hin Kd7 (k := 2) (by decide) rfl rfl rfl wk_70 rfl (fun _ => ⟨rfl, rfl⟩) (isK_ok z7) dX7_init_19 ew8 ?_
  refine xr_aload_n C dX7_init_22 0 rfl rfl ?_
  refine xr_bipush (v := 6) C dX7_init_23 (by decide) ?_
  obtain ⟨z10, hf⟩ := ck_x hf
  obtain ⟨w9, ew9, hf⟩ := bnd_x hf
  refine xr_newi (N0 := 6) C wk_ai (by decide) rfl (by decide) (rmB_ok z10) dX7_init_25 ew9 ?_
  obtain ⟨z11, hf⟩ := ck_x hf
  obtain ⟨w12, ew12, hf⟩ := bnd_x hf
  refine xr_putRF C hin Kd7 (k := 3) (by decide) rfl rfl rfl wk_74 rfl (fun _ => ⟨rfl, rfl⟩) (isK_ok z11) dX7_init_27 ew12 ?_
  refine xr_aload_n C dX7_init_30 0 rfl rfl ?_
  refine xr_bipush (v := 6) C dX7_init_31 (by decide) ?_
  obtain ⟨z14, hf⟩ := ck_x hf
  obtain ⟨w13, ew13, hf⟩ := bnd_x hf
  refine xr_newi (N0 := 6) C wk_ai (by decide) rfl (by decide) (rmB_ok z14) dX7_init_33 ew13 ?_
  obtain ⟨z15, hf⟩ := ck_x hf
  obtain ⟨w16, ew16, hf⟩ := bnd_x hf
  refine xr_putRF C hin Kd7 (k := 4) (by decide) rfl rfl rfl wk_76 rfl (fun _ => ⟨rfl, rfl⟩) (isK_ok z15) dX7_init_35 ew16 ?_
  refine xr_aload_n C dX7_init_38 0 rfl rfl ?_
  refine xr_bipush (v := 6) C dX7_init_39 (by decide) ?_
  obtain ⟨z18, hf⟩ := ck_x hf
  obtain ⟨w17, ew17, hf⟩ := bnd_x hf
  refine xr_newi (N0 := 6) C wk_ai (by decide) rfl (by decide) (rmB_ok z18) dX7_init_41 ew17 ?_
  obtain ⟨z19, hf⟩ := ck_x hf
  obtain ⟨w20, ew20, hf⟩ := bnd_x hf
  refine xr_putRF C hin Kd7 (k := 5) (by decide) rfl rfl rfl wk_80 rfl (fun _ => ⟨rfl, rfl⟩) (isK_ok z19) dX7_init_43 ew20 ?_
  refine xr_aload_n C dX7_init_46 0 rfl rfl ?_
  refine xr_bipush (v := 42) C dX7_init_47 (by decide) ?_
  obtain ⟨z22, hf⟩ := ck_x hf
  obtain ⟨w21, ew21, hf⟩ := bnd_x hf
  refine xr_newi (N0 := 42) C wk_ai (by decide) rfl (by decide) (rmB_ok z22) dX7_init_49 ew21 ?_
  obtain ⟨z23, hf⟩ := ck_x hf
  obtain ⟨w24, ew24, hf⟩ := bnd_x hf
  refine xr_putRF C hin Kd7 (k := 6) (by decide) rfl rfl rfl wk_84 rfl (fun _ => ⟨rfl, rfl⟩) (isK_ok z23) dX7_init_51 ew24 ?_
  refine xr_aload_n C dX7_init_54 0 rfl rfl ?_
  obtain ⟨z25, hf⟩ := ck_x hf
  obtain ⟨z29, hf⟩ := ck_x hf
  obtain ⟨I26, h27, hf⟩ := ob_x hf
  refine xr_callVV (w1 := (I26, w24.2)) C [] lkX7_34 (kX7_clear (tableB_ok z25) h27) Kd7 rfl (tableB_ok z25).1 rfl (Nat.le_of_ble_eq_true rfl) rfl dX7_init_55 ⟨by decide, (rmB_ok z29).1, (rmB_ok z29).2⟩ rfl ?_
  obtain ⟨w28, ew28, hf⟩ := bnd_x hf
  refine xr_wn ew28 ?_
  obtain ⟨z30, hf⟩ := ck_x hf
  obtain ⟨q1, q2⟩ := cnB_ok z30
  exact xr_returnW C q q1 q2 dX7_init_58 (Option.some.inj hf)
theorem kwX7_init {B : Bs} {mB sB : Nat} {w0 : Wt} {x0 : Nat} {o1 : Wt} (hf : fwX7_init mB sB w0 0 0 x0 = some o1) : CtrV B yX7_init cX7_init 1 1 21 mB sB [rfB B x0] w0 o1 := by
  refine xr_enterC (lv0 := [(0, rfB B x0)]) (by decide) rfl (Nat.le_of_ble_eq_true rfl) rfl (fun g hg C hin q => ?_)
  subst hg
  exact ewX7_init_0 C hin q hf
theorem dX4_init_0 : decode cX4_init 0 = .ok (.aload_n 0, 1) := by decide +kernel
theorem dX4_init_1 : decode cX4_init 1 = .ok (.invokespecial 3, 3) := by decide +kernel
theorem dX4_init_4 : decode cX4_init 4 = .ok (.aload_n 0, 1) := by decide +kernel
theorem dX4_init_5 : decode cX4_init 5 = .ok (.iconst 0, 1) := by decide +kernel
theorem dX4_init_6 : decode cX4_init 6 = .ok (.putfield 9, 3) := by decide +kernel
theorem dX4_init_9 : decode cX4_init 9 = .ok (.aload_n 0, 1) := by decide +kernel
theorem dX4_init_10 : decode cX4_init 10 = .ok (.iconst 0, 1) := by decide +kernel
theorem dX4_init_11 : decode cX4_init 11 = .ok (.putfield 15, 3) := by decide +kernel
theorem dX4_init_14 : decode cX4_init 14 = .ok (.aload_n 0, 1) := by decide +kernel
theorem dX4_init_15 : decode cX4_init 15 = .ok (.iconst 0, 1) := by decide +kernel
theorem dX4_init_16 : decode cX4_init 16 = .ok (.putfield 18, 3) := by decide +kernel
theorem dX4_init_19 : decode cX4_init 19 = .ok (.aload_n 0, 1) := by decide +kernel
theorem dX4_init_20 : decode cX4_init 20 = .ok (.iconst 0, 1) := by decide +kernel
theorem dX4_init_21 : decode cX4_init 21 = .ok (.putfield 22, 3) := by decide +kernel
theorem dX4_init_24 : decode cX4_init 24 = .ok (.aload_n 0, 1) := by decide +kernel
theorem dX4_init_25 : decode cX4_init 25 = .ok (.iconst 0, 1) := by decide +kernel
theorem dX4_init_26 : decode cX4_init 26 = .ok (.putfield 25, 3) := by decide +kernel
theorem dX4_init_29 : decode cX4_init 29 = .ok (.aload_n 0, 1) := by decide +kernel
theorem dX4_init_30 : decode cX4_init 30 = .ok (.iconst (-1), 1) := by decide +kernel
theorem dX4_init_31 : decode cX4_init 31 = .ok (.putfield 28, 3) := by decide +kernel
theorem dX4_init_34 : decode cX4_init 34 = .ok (.aload_n 0, 1) := by decide +kernel
theorem dX4_init_35 : decode cX4_init 35 = .ok (.iconst 0, 1) := by decide +kernel
theorem dX4_init_36 : decode cX4_init 36 = .ok (.putfield 31, 3) := by decide +kernel
theorem dX4_init_39 : decode cX4_init 39 = .ok (.aload_n 0, 1) := by decide +kernel
theorem dX4_init_40 : decode cX4_init 40 = .ok (.iconst 0, 1) := by decide +kernel
theorem dX4_init_41 : decode cX4_init 41 = .ok (.putfield 34, 3) := by decide +kernel
theorem dX4_init_44 : decode cX4_init 44 = .ok (.aload_n 0, 1) := by decide +kernel
theorem dX4_init_45 : decode cX4_init 45 = .ok (.bipush 6, 2) := by decide +kernel
theorem dX4_init_47 : decode cX4_init 47 = .ok (.newarray .int, 2) := by decide +kernel
theorem dX4_init_49 : decode cX4_init 49 = .ok (.putfield 37, 3) := by decide +kernel
theorem dX4_init_52 : decode cX4_init 52 = .ok (.aload_n 0, 1) := by decide +kernel
theorem dX4_init_53 : decode cX4_init 53 = .ok (.iconst (-1), 1) := by decide +kernel
theorem dX4_init_54 : decode cX4_init 54 = .ok (.putfield 41, 3) := by decide +kernel
theorem dX4_init_57 : decode cX4_init 57 = .ok (.return_, 1) := by decide +kernel
/-! BumperBalls$Play.<init>()V -/
def fwX4_init (mB sB : Nat) (w0 : Wt) (ce sl : Nat) (x0 : Nat) : Option Wt :=
  ck (isK w0 x0 4) <| bnd ((up2 w0.1 x0 0 0, w0.2) : Wt) fun w2 => ck (isK w2 x0 4) <| bnd ((up2 w2.1 x0 1 0, w2.2) : Wt) fun w4 => ck (isK w4 x0 4) <| bnd ((up2 w4.1 x0 2 0, w4.2) : Wt) fun w6 => ck (isK w6 x0 4) <| bnd ((up2 w6.1 x0 3 0, w6.2) : Wt) fun w8 => ck (isK w8 x0 4) <| bnd ((up2 w8.1 x0 4 0, w8.2) : Wt) fun w10 => ck (isK w10 x0 4) <| bnd ((up2 w10.1 x0 5 (-1), w10.2) : Wt) fun w12 => ck (isK w12 x0 4) <| bnd ((up2 w12.1 x0 6 0, w12.2) : Wt) fun w14 => ck (isK w14 x0 4) <| bnd ((up2 w14.1 x0 7 0, w14.2) : Wt) fun w16 => ck (rmB (ce + 1) (sl + 6) mB sB) <| bnd (al w16 11 6) fun w17 => ck (isK w17 x0 4) <| bnd ((w17.1, up2 w17.2.1 x0 8 (some w16.2.2.2.2), w17.2.2) : Wt) fun w20 => ck (isK w20 x0 4) <| bnd ((up2 w20.1 x0 9 (-1), w20.2) : Wt) fun w22 => ck (cnB (ce + 1) (sl + 6) mB sB) <| some w22
set_option maxRecDepth 20000 in
set_option maxHeartbeats 2000000 in
theorem ewX4_init_0 {g : Cfg} {mB sB : Nat} (C : Cx g RX4 cX4_init 1 1 20 mB sB) (hin : g.2.2.2.2.2.2.2.2.1.name = "<init>") {o1 : Wt} (q : QV g mB sB o1) {w0 : Wt} {ce sl : Nat} {x0 : Nat} (hf : fwX4_init mB sB w0 ce sl x0 = some o1) : XE g ce sl w0 0 [(0, rf g x0)] [] := by
  unfold fwX4_init at hf
  refine xr_aload_n C dX4_init_0 0 rfl rfl ?_
  refine xr_objinit C wk_144 wk_oi1 wk_oi2 (by decide) (Nat.le_of_ble_eq_true rfl) dX4_init_1 ?_
  refine xr_aload_n C dX4_init_4 0 rfl rfl ?_
  refine xr_iconst (v := 0) C dX4_init_5 (by decide) ?_
  obtain ⟨z1, hf⟩ := ck_x hf
  obtain ⟨w2, ew2, hf⟩ := bnd_x hf
  refine xr_putIw C Kd4 (k := 0) (by decide) rfl rfl wk_145 rfl rfl rfl (isK_ok z1) dX4_init_6 ew2 ?_
  refine xr_aload_n C dX4_init_9 0 rfl rfl ?_
  refine xr_iconst (v := 0) C dX4_init_10 (by decide) ?_
  obtain ⟨z3, hf⟩ := ck_x hf
  obtain ⟨w4, ew4, hf⟩ := bnd_x hf
  refine xr_putIw C Kd4 (k := 1) (by decide) rfl rfl wk_148 rfl rfl rfl (isK_ok z3) dX4_init_11 ew4 ?_
  refine xr_aload_n C dX4_init_14 0 rfl rfl ?_
  refine xr_iconst (v := 0) C dX4_init_15 (by decide) ?_
  obtain ⟨z5, hf⟩ := ck_x hf
  obtain ⟨w6, ew6, hf⟩ := bnd_x hf
  refine xr_putIw C Kd4 (k := 2) (by decide) rfl rfl wk_151 rfl rfl rfl (isK_ok z5) dX4_init_16 ew6 ?_
  refine xr_aload_n C dX4_init_19 0 rfl rfl ?_
  refine xr_iconst (v := 0) C dX4_init_20 (by decide) ?_
  obtain ⟨z7, hf⟩ := ck_x hf
  obtain ⟨w8, ew8, hf⟩ := bnd_x hf
  refine xr_putIw C Kd4 (k := 3) (by decide) rfl rfl wk_154 rfl rfl rfl (isK_ok z7) dX4_init_21 ew8 ?_
  refine xr_aload_n C dX4_init_24 0 rfl rfl ?_
  refine xr_iconst (v := 0) C dX4_init_25 (by decide) ?_
  obtain ⟨z9, hf⟩ := ck_x hf
  obtain ⟨w10, ew10, hf⟩ := bnd_x hf
  refine xr_putIw C Kd4 (k := 4) (by decide) rfl rfl wk_156 rfl rfl rfl (isK_ok z9) dX4_init_26 ew10 ?_
  refine xr_aload_n C dX4_init_29 0 rfl rfl ?_
  refine xr_iconst (v := (-1)) C dX4_init_30 (by decide) ?_
  obtain ⟨z11, hf⟩ := ck_x hf
  obtain ⟨w12, ew12, hf⟩ := bnd_x hf
  refine xr_putIw C Kd4 (k := 5) (by decide) rfl rfl wk_158 rfl rfl rfl (isK_ok z11) dX4_init_31 ew12 ?_
  refine xr_aload_n C dX4_init_34 0 rfl rfl ?_
  refine xr_iconst (v := 0) C dX4_init_35 (by decide) ?_
  obtain ⟨z13, hf⟩ := ck_x hf
  obtain ⟨w14, ew14, hf⟩ := bnd_x hf
  refine xr_putIw C Kd4 (k := 6) (by decide) rfl rfl wk_160 rfl rfl rfl (isK_ok z13) dX4_init_36 ew14 ?_
  refine xr_aload_n C dX4_init_39 0 rfl rfl ?_
  refine xr_iconst (v := 0) C dX4_init_40 (by decide) ?_
  obtain ⟨z15, hf⟩ := ck_x hf
  obtain ⟨w16, ew16, hf⟩ := bnd_x hf
  refine xr_putIw C Kd4 (k := 7) (by decide) rfl rfl wk_163 rfl rfl rfl (isK_ok z15) dX4_init_41 ew16 ?_
  refine xr_aload_n C dX4_init_44 0 rfl rfl ?_
  refine xr_bipush (v := 6) C dX4_init_45 (by decide) ?_
  obtain ⟨z18, hf⟩ := ck_x hf
  obtain ⟨w17, ew17, hf⟩ := bnd_x hf
  refine xr_newi (N0 := 6) C wk_ai (by decide) rfl (by decide) (rmB_ok z18) dX4_init_47 ew17 ?_
  obtain ⟨z19, hf⟩ := ck_x hf
  obtain ⟨w20, ew20, hf⟩ := bnd_x hf
  refine xr_putRF C hin Kd4 (k := 8) (by decide) rfl rfl rfl wk_165 rfl (fun _ => ⟨rfl, rfl⟩) (isK_ok z19) dX4_init_49 ew20 ?_
  refine xr_aload_n C dX4_init_52 0 rfl rfl ?_
  refine xr_iconst (v := (-1)) C dX4_init_53 (by decide) ?_
  obtain ⟨z21, hf⟩ := ck_x hf
  obtain ⟨w22, ew22, hf⟩ := bnd_x hf
  refine xr_putIw C Kd4 (k := 9) (by decide) rfl rfl wk_168 rfl rfl rfl (isK_ok z21) dX4_init_54 ew22 ?_
  obtain ⟨z23, hf⟩ := ck_x hf
  obtain ⟨q1, q2⟩ := cnB_ok z23
  exact xr_returnW C q q1 q2 dX4_init_57 (Option.some.inj hf)
theorem kwX4_init {B : Bs} {mB sB : Nat} {w0 : Wt} {x0 : Nat} {o1 : Wt} (hf : fwX4_init mB sB w0 0 0 x0 = some o1) : CtrV B yX4_init cX4_init 1 1 20 mB sB [rfB B x0] w0 o1 := by
  refine xr_enterC (lv0 := [(0, rfB B x0)]) (by decide) rfl (Nat.le_of_ble_eq_true rfl) rfl (fun g hg C hin q => ?_)
  subst hg
  exact ewX4_init_0 C hin q hf
theorem dX3_init_0 : decode cX3_init 0 = .ok (.aload_n 0, 1) := by decide +kernel
theorem dX3_init_1 : decode cX3_init 1 = .ok (.invokespecial 3, 3) := by decide +kernel
theorem dX3_init_4 : decode cX3_init 4 = .ok (.aload_n 0, 1) := by decide +kernel
theorem dX3_init_5 : decode cX3_init 5 = .ok (.iconst 0, 1) := by decide +kernel
theorem dX3_init_6 : decode cX3_init 6 = .ok (.putfield 9, 3) := by decide +kernel
theorem dX3_init_9 : decode cX3_init 9 = .ok (.aload_n 0, 1) := by decide +kernel
theorem dX3_init_10 : decode cX3_init 10 = .ok (.iload_n 1, 1) := by decide +kernel
theorem dX3_init_11 : decode cX3_init 11 = .ok (.newarray .int, 2) := by decide +kernel
theorem dX3_init_13 : decode cX3_init 13 = .ok (.putfield 15, 3) := by decide +kernel
theorem dX3_init_16 : decode cX3_init 16 = .ok (.aload_n 0, 1) := by decide +kernel
theorem dX3_init_17 : decode cX3_init 17 = .ok (.iload_n 1, 1) := by decide +kernel
theorem dX3_init_18 : decode cX3_init 18 = .ok (.newarray .int, 2) := by decide +kernel
theorem dX3_init_20 : decode cX3_init 20 = .ok (.putfield 19, 3) := by decide +kernel
theorem dX3_init_23 : decode cX3_init 23 = .ok (.return_, 1) := by decide +kernel
/-! BumperBalls$Layer.<init>(I)V -/
def fwX3_init (mB sB : Nat) (w0 : Wt) (ce sl : Nat) (x0 : Nat) (p1 : Int32) : Option Wt :=
  ck (isK w0 x0 3) <| bnd ((up2 w0.1 x0 2 0, w0.2) : Wt) fun w2 => ck (decide (0 ≤ (p1).toInt)) <| ck (decide (ix p1 ≤ 100000)) <| ck (rmB (ce + 1) (sl + (ix p1)) mB sB) <| bnd (al w2 11 (ix p1)) fun w3 => ck (isK w3 x0 3) <| bnd ((w3.1, up2 w3.2.1 x0 0 (some w2.2.2.2.2), w3.2.2) : Wt) fun w8 => ck (decide (0 ≤ (p1).toInt)) <| ck (decide (ix p1 ≤ 100000)) <| ck (rmB ((ce + 1) + 1) ((sl + (ix p1)) + (ix p1)) mB sB) <| bnd (al w8 11 (ix p1)) fun w9 => ck (isK w9 x0 3) <| bnd ((w9.1, up2 w9.2.1 x0 1 (some w8.2.2.2.2), w9.2.2) : Wt) fun w14 => ck (cnB ((ce + 1) + 1) ((sl + (ix p1)) + (ix p1)) mB sB) <| some w14
set_option maxRecDepth 20000 in
set_option maxHeartbeats 2000000 in
theorem ewX3_init_0 {g : Cfg} {mB sB : Nat} (C : Cx g RX3 cX3_init 2 1 20 mB sB) (hin : g.2.2.2.2.2.2.2.2.1.name = "<init>") {o1 : Wt} (q : QV g mB sB o1) {w0 : Wt} {ce sl : Nat} {x0 : Nat} {p1 : Int32} (hf : fwX3_init mB sB w0 ce sl x0 p1 = some o1) : XE g ce sl w0 0 [(0, rf g x0), (1, .int p1)] [] := by
  unfold fwX3_init at hf
  refine xr_aload_n C dX3_init_0 0 rfl rfl ?_
  refine xr_objinit C wk_225 wk_oi1 wk_oi2 (by decide) (Nat.le_of_ble_eq_true rfl) dX3_init_1 ?_
  refine xr_aload_n C dX3_init_4 0 rfl rfl ?_
  refine xr_iconst (v := 0) C dX3_init_5 (by decide) ?_
  obtain ⟨z1, hf⟩ := ck_x hf
  obtain ⟨w2, ew2, hf⟩ := bnd_x hf
  refine xr_putIw C Kd3 (k := 2) (by decide) rfl rfl wk_230 rfl rfl rfl (isK_ok z1) dX3_init_6 ew2 ?_
  refine xr_aload_n C dX3_init_9 0 rfl rfl ?_
  refine xr_iload_n C dX3_init_10 1 rfl rfl ?_
  obtain ⟨z4, hf⟩ := ck_x hf
  obtain ⟨z5, hf⟩ := ck_x hf
  obtain ⟨z6, hf⟩ := ck_x hf
  obtain ⟨w3, ew3, hf⟩ := bnd_x hf
  refine xr_newi (N0 := (ix p1)) C wk_ai (of_decide_eq_true z4) rfl (of_decide_eq_true z5) (rmB_ok z6) dX3_init_11 ew3 ?_
  obtain ⟨z7, hf⟩ := ck_x hf
  obtain ⟨w8, ew8, hf⟩ := bnd_x hf
  refine xr_putRF C hin Kd3 (k := 0) (by decide) rfl rfl rfl wk_226 rfl (fun _ => ⟨rfl, rfl⟩) (isK_ok z7) dX3_init_13 ew8 ?_
  refine xr_aload_n C dX3_init_16 0 rfl rfl ?_
  refine xr_iload_n C dX3_init_17 1 rfl rfl ?_
  obtain ⟨z10, hf⟩ := ck_x hf
  obtain ⟨z11, hf⟩ := ck_x hf
  obtain ⟨z12, hf⟩ := ck_x hf
  obtain ⟨w9, ew9, hf⟩ := bnd_x hf
  refine xr_newi (N0 := (ix p1)) C wk_ai (of_decide_eq_true z10) rfl (of_decide_eq_true z11) (rmB_ok z12) dX3_init_18 ew9 ?_
  obtain ⟨z13, hf⟩ := ck_x hf
  obtain ⟨w14, ew14, hf⟩ := bnd_x hf
  refine xr_putRF C hin Kd3 (k := 1) (by decide) rfl rfl rfl wk_228 rfl (fun _ => ⟨rfl, rfl⟩) (isK_ok z13) dX3_init_20 ew14 ?_
  obtain ⟨z15, hf⟩ := ck_x hf
  obtain ⟨q1, q2⟩ := cnB_ok z15
  exact xr_returnW C q q1 q2 dX3_init_23 (Option.some.inj hf)
theorem kwX3_init {B : Bs} {mB sB : Nat} {w0 : Wt} {x0 : Nat} {p1 : Int32} {o1 : Wt} (hf : fwX3_init mB sB w0 0 0 x0 p1 = some o1) : CtrV B yX3_init cX3_init 2 1 20 mB sB [rfB B x0, .int p1] w0 o1 := by
  refine xr_enterC (lv0 := [(0, rfB B x0), (1, .int p1)]) (by decide) rfl (Nat.le_of_ble_eq_true rfl) rfl (fun g hg C hin q => ?_)
  subst hg
  exact ewX3_init_0 C hin q hf
theorem dX5_init_0 : decode cX5_init 0 = .ok (.aload_n 0, 1) := by decide +kernel
theorem dX5_init_1 : decode cX5_init 1 = .ok (.invokespecial 3, 3) := by decide +kernel
theorem dX5_init_4 : decode cX5_init 4 = .ok (.aload_n 0, 1) := by decide +kernel
theorem dX5_init_5 : decode cX5_init 5 = .ok (.bipush 8, 2) := by decide +kernel
theorem dX5_init_7 : decode cX5_init 7 = .ok (.newarray .int, 2) := by decide +kernel
theorem dX5_init_9 : decode cX5_init 9 = .ok (.putfield 9, 3) := by decide +kernel
theorem dX5_init_12 : decode cX5_init 12 = .ok (.aload_n 0, 1) := by decide +kernel
theorem dX5_init_13 : decode cX5_init 13 = .ok (.bipush 8, 2) := by decide +kernel
theorem dX5_init_15 : decode cX5_init 15 = .ok (.newarray .int, 2) := by decide +kernel
theorem dX5_init_17 : decode cX5_init 17 = .ok (.putfield 15, 3) := by decide +kernel
theorem dX5_init_20 : decode cX5_init 20 = .ok (.aload_n 0, 1) := by decide +kernel
theorem dX5_init_21 : decode cX5_init 21 = .ok (.bipush 8, 2) := by decide +kernel
theorem dX5_init_23 : decode cX5_init 23 = .ok (.bipush 40, 2) := by decide +kernel
theorem dX5_init_25 : decode cX5_init 25 = .ok (.multianewarray 18 2, 4) := by decide +kernel
theorem dX5_init_29 : decode cX5_init 29 = .ok (.putfield 20, 3) := by decide +kernel
theorem dX5_init_32 : decode cX5_init 32 = .ok (.iconst 0, 1) := by decide +kernel
theorem dX5_init_33 : decode cX5_init 33 = .ok (.istore_n 1, 1) := by decide +kernel
theorem dX5_init_34 : decode cX5_init 34 = .ok (.iload_n 1, 1) := by decide +kernel
theorem dX5_init_35 : decode cX5_init 35 = .ok (.bipush 8, 2) := by decide +kernel
theorem dX5_init_37 : decode cX5_init 37 = .ok (.if_icmp .ge 16, 3) := by decide +kernel
theorem dX5_init_40 : decode cX5_init 40 = .ok (.aload_n 0, 1) := by decide +kernel
theorem dX5_init_41 : decode cX5_init 41 = .ok (.getfield 15, 3) := by decide +kernel
theorem dX5_init_44 : decode cX5_init 44 = .ok (.iload_n 1, 1) := by decide +kernel
theorem dX5_init_45 : decode cX5_init 45 = .ok (.iconst (-1), 1) := by decide +kernel
theorem dX5_init_46 : decode cX5_init 46 = .ok (.iastore, 1) := by decide +kernel
theorem dX5_init_47 : decode cX5_init 47 = .ok (.iinc 1 1, 3) := by decide +kernel
theorem dX5_init_50 : decode cX5_init 50 = .ok (.goto (-16), 3) := by decide +kernel
theorem dX5_init_53 : decode cX5_init 53 = .ok (.return_, 1) := by decide +kernel
/-! BumperBalls$Rows.<init>()V -/
def fwX5_init_34b (mB sB : Nat) (rec34 : Wt → Nat → Nat → Nat → Int32 → Option Wt) (w0 : Wt) (ce sl : Nat) (x0 : Nat) (l1 : Int32) : Option Wt :=
  if (8 : Int32) ≤ l1 then (ck (cnB ce sl mB sB) <| some w0) else (ck (isK w0 x0 5) <| ob (w0.2.1 x0 1) fun x_4 => ck (isK w0 x_4 11) <| ck (inb l1 (w0.2.2.2.1 x_4)) <| bnd ((up2 w0.1 x_4 (ix l1) (-1), w0.2) : Wt) fun w8 => bnd (l1 + 1) fun v9 => rec34 w8 ce sl x0 v9)
def fwX5_init_34 (mB sB : Nat) : Nat → Wt → Nat → Nat → Nat → Int32 → Option Wt
  | 0 => fun _ _ _ _ _ => none
  | fu + 1 => fwX5_init_34b mB sB (fwX5_init_34 mB sB fu)
set_option maxRecDepth 20000 in
set_option maxHeartbeats 2000000 in
theorem ewX5_init_34b {g : Cfg} {mB sB : Nat} (C : Cx g RX5 cX5_init 2 1 20 mB sB) (hin : g.2.2.2.2.2.2.2.2.1.name = "<init>") {o1 : Wt} {rec34 : Wt → Nat → Nat → Nat → Int32 → Option Wt} (q : QV g mB sB o1) (ih34 : ∀ (w0 : Wt) (ce sl : Nat) (x0 : Nat) (l1 : Int32), rec34 w0 ce sl x0 l1 = some o1 → XE g ce sl w0 34 [(0, rf g x0), (1, .int l1)] []) {w0 : Wt} {ce sl : Nat} {x0 : Nat} {l1 : Int32} (hf : fwX5_init_34b mB sB rec34 w0 ce sl x0 l1 = some o1) : XE g ce sl w0 34 [(0, rf g x0), (1, .int l1)] [] := by
  unfold fwX5_init_34b at hf
  refine xr_iload_n C dX5_init_34 1 rfl rfl ?_
  refine xr_bipush (v := 8) C dX5_init_35 (by decide) ?_
  refine xr_icmp_ge (tgt := 53) C dX5_init_37 (by decide) hf (fun c1 hf => ?_) (fun c1 hf => ?_)
  · obtain ⟨z2, hf⟩ := ck_x hf
    obtain ⟨q1, q2⟩ := cnB_ok z2
    exact xr_returnW C q q1 q2 dX5_init_53 (Option.some.inj hf)
  · refine xr_aload_n C dX5_init_40 0 rfl rfl ?_
    obtain ⟨z3, hf⟩ := ck_x hf
    obtain ⟨x_4, r5, hf⟩ := ob_x hf
    refine xr_getr C Kd5 (k := 1) (by decide) rfl wk_36 rfl (isK_ok z3) r5 dX5_init_41 ?_
    refine xr_iload_n C dX5_init_44 1 rfl rfl ?_
    refine xr_iconst (v := (-1)) C dX5_init_45 (by decide) ?_
    obtain ⟨z6, hf⟩ := ck_x hf
    obtain ⟨i7, hf⟩ := ck_x hf
    obtain ⟨w8, ew8, hf⟩ := bnd_x hf
    refine xr_iastw C (isA_ok z6) i7 dX5_init_46 ew8 ?_
    obtain ⟨v9, ev9, hf⟩ := bnd_x hf
    refine xr_iinc (k := 1) (v := v9) C dX5_init_47 rfl (by rw [ev9]; rfl) (by decide) rfl ?_
    refine xr_goto (tgt := 34) C dX5_init_50 (by decide) ?_
    refine xr_lv [1, 0] rfl ?_
    exact ih34 _ _ _ _ _ hf
theorem ewX5_init_34 {g : Cfg} {mB sB : Nat} (C : Cx g RX5 cX5_init 2 1 20 mB sB) (hin : g.2.2.2.2.2.2.2.2.1.name = "<init>") {o1 : Wt} (q : QV g mB sB o1) : ∀ (fu : Nat) {w0 : Wt} {ce sl : Nat} {x0 : Nat} {l1 : Int32} (hf : fwX5_init_34 mB sB fu w0 ce sl x0 l1 = some o1), XE g ce sl w0 34 [(0, rf g x0), (1, .int l1)] [] := by
  intro fu
  induction fu with
  | zero =>
    intro w0 ce sl x0 l1 hf
    cases hf
  | succ fu ihn =>
    intro w0 ce sl x0 l1 hf
    exact ewX5_init_34b C hin q (fun _ _ _ _ _ hf => ihn hf) hf
def fwX5_init (mB sB : Nat) (w0 : Wt) (ce sl : Nat) (x0 : Nat) : Option Wt :=
  ck (rmB (ce + 1) (sl + 8) mB sB) <| bnd (al w0 11 8) fun w1 => ck (isK w1 x0 5) <| bnd ((w1.1, up2 w1.2.1 x0 0 (some w0.2.2.2.2), w1.2.2) : Wt) fun w4 => ck (rmB ((ce + 1) + 1) ((sl + 8) + 8) mB sB) <| bnd (al w4 11 8) fun w5 => ck (isK w5 x0 5) <| bnd ((w5.1, up2 w5.2.1 x0 1 (some w4.2.2.2.2), w5.2.2) : Wt) fun w8 => ck (rmB (((ce + 1) + 1) + (1 + 8)) (((sl + 8) + 8) + (8 + 8 * 40)) mB sB) <| bnd (al2 w8 8 40) fun w9 => ck (isK w9 x0 5) <| bnd ((w9.1, up2 w9.2.1 x0 2 (some w8.2.2.2.2), w9.2.2) : Wt) fun w12 => fwX5_init_34 mB sB FU w12 (((ce + 1) + 1) + 1 + 8) (((sl + 8) + 8) + 8 + 8 * 40) x0 0
set_option maxRecDepth 20000 in
set_option maxHeartbeats 2000000 in
theorem ewX5_init_0 {g : Cfg} {mB sB : Nat} (C : Cx g RX5 cX5_init 2 1 20 mB sB) (hin : g.2.2.2.2.2.2.2.2.1.name = "<init>") {o1 : Wt} (q : QV g mB sB o1) {w0 : Wt} {ce sl : Nat} {x0 : Nat} (hf : fwX5_init mB sB w0 ce sl x0 = some o1) : XE g ce sl w0 0 [(0, rf g x0)] [] := by
  unfold fwX5_init at hf
  refine xr_aload_n C dX5_init_0 0 rfl rfl ?_
  refine xr_objinit C wk_31 wk_oi1 wk_oi2 (by decide) (Nat.le_of_ble_eq_true rfl) dX5_init_1 ?_
  refine xr_aload_n C dX5_init_4 0 rfl rfl ?_
  refine xr_bipush (v := 8) C dX5_init_5 (by decide) ?_
  obtain ⟨z2, hf⟩ := ck_x hf
  obtain ⟨w1, ew1, hf⟩ := bnd_x hf
  refine xr_newi (N0 := 8) C wk_ai (by decide) rfl (by decide) (rmB_ok z2) dX5_init_7 ew1 ?_
  obtain ⟨z3, hf⟩ := ck_x hf
  obtain ⟨w4, ew4, hf⟩ := bnd_x hf
  refine xr_putRF C hin Kd5 (k := 0) (by decide) rfl rfl rfl wk_34 rfl (fun _ => ⟨rfl, rfl⟩) (isK_ok z3) dX5_init_9 ew4 ?_
  refine xr_aload_n C dX5_init_12 0 rfl rfl ?_
  refine xr_bipush (v := 8) C dX5_init_13 (by decide) ?_
  obtain ⟨z6, hf⟩ := ck_x hf
  obtain ⟨w5, ew5, hf⟩ := bnd_x hf
  refine xr_newi (N0 := 8) C wk_ai (by decide) rfl (by decide) (rmB_ok z6) dX5_init_15 ew5 ?_
  obtain ⟨z7, hf⟩ := ck_x hf
  obtain ⟨w8, ew8, hf⟩ := bnd_x hf
  refine xr_putRF C hin Kd5 (k := 1) (by decide) rfl rfl rfl wk_36 rfl (fun _ => ⟨rfl, rfl⟩) (isK_ok z7) dX5_init_17 ew8 ?_
  refine xr_aload_n C dX5_init_20 0 rfl rfl ?_
  refine xr_bipush (v := 8) C dX5_init_21 (by decide) ?_
  refine xr_bipush (v := 40) C dX5_init_23 (by decide) ?_
  obtain ⟨z10, hf⟩ := ck_x hf
  obtain ⟨w9, ew9, hf⟩ := bnd_x hf
  refine xr_mna (N0 := 8) (K0 := 40) C wk_32 wk_ai (by decide) (by decide) rfl rfl (by decide) (by decide) (rmB_ok z10) dX5_init_25 ew9 ?_
  obtain ⟨z11, hf⟩ := ck_x hf
  obtain ⟨w12, ew12, hf⟩ := bnd_x hf
  refine xr_putRF C hin Kd5 (k := 2) (by decide) rfl rfl rfl wk_37 rfl (fun _ => ⟨rfl, rfl⟩) (isK_ok z11) dX5_init_29 ew12 ?_
  refine xr_iconst (v := 0) C dX5_init_32 (by decide) ?_
  refine xr_istore_n C dX5_init_33 rfl (by decide) rfl ?_
  refine xr_lv [1, 0] rfl ?_
  exact ewX5_init_34 C hin q _ hf
theorem kwX5_init {B : Bs} {mB sB : Nat} {w0 : Wt} {x0 : Nat} {o1 : Wt} (hf : fwX5_init mB sB w0 0 0 x0 = some o1) : CtrV B yX5_init cX5_init 2 1 20 mB sB [rfB B x0] w0 o1 := by
  refine xr_enterC (lv0 := [(0, rfB B x0)]) (by decide) rfl (Nat.le_of_ble_eq_true rfl) rfl (fun g hg C hin q => ?_)
  subst hg
  exact ewX5_init_0 C hin q hf
theorem dX8_init_0 : decode cX8_init 0 = .ok (.aload_n 0, 1) := by decide +kernel
theorem dX8_init_1 : decode cX8_init 1 = .ok (.invokespecial 3, 3) := by decide +kernel
theorem dX8_init_4 : decode cX8_init 4 = .ok (.aload_n 0, 1) := by decide +kernel
theorem dX8_init_5 : decode cX8_init 5 = .ok (.sipush 400, 3) := by decide +kernel
theorem dX8_init_8 : decode cX8_init 8 = .ok (.newarray .int, 2) := by decide +kernel
theorem dX8_init_10 : decode cX8_init 10 = .ok (.putfield 9, 3) := by decide +kernel
theorem dX8_init_13 : decode cX8_init 13 = .ok (.aload_n 0, 1) := by decide +kernel
theorem dX8_init_14 : decode cX8_init 14 = .ok (.iconst 0, 1) := by decide +kernel
theorem dX8_init_15 : decode cX8_init 15 = .ok (.putfield 15, 3) := by decide +kernel
theorem dX8_init_18 : decode cX8_init 18 = .ok (.aload_n 0, 1) := by decide +kernel
theorem dX8_init_19 : decode cX8_init 19 = .ok (.new 19, 3) := by decide +kernel
theorem dX8_init_22 : decode cX8_init 22 = .ok (.dup, 1) := by decide +kernel
theorem dX8_init_23 : decode cX8_init 23 = .ok (.invokespecial 21, 3) := by decide +kernel
theorem dX8_init_26 : decode cX8_init 26 = .ok (.putfield 22, 3) := by decide +kernel
theorem dX8_init_29 : decode cX8_init 29 = .ok (.aload_n 0, 1) := by decide +kernel
theorem dX8_init_30 : decode cX8_init 30 = .ok (.iconst 0, 1) := by decide +kernel
theorem dX8_init_31 : decode cX8_init 31 = .ok (.putfield 26, 3) := by decide +kernel
theorem dX8_init_34 : decode cX8_init 34 = .ok (.aload_n 0, 1) := by decide +kernel
theorem dX8_init_35 : decode cX8_init 35 = .ok (.iconst 0, 1) := by decide +kernel
theorem dX8_init_36 : decode cX8_init 36 = .ok (.putfield 29, 3) := by decide +kernel
theorem dX8_init_39 : decode cX8_init 39 = .ok (.aload_n 0, 1) := by decide +kernel
theorem dX8_init_40 : decode cX8_init 40 = .ok (.iconst 0, 1) := by decide +kernel
theorem dX8_init_41 : decode cX8_init 41 = .ok (.putfield 32, 3) := by decide +kernel
theorem dX8_init_44 : decode cX8_init 44 = .ok (.aload_n 0, 1) := by decide +kernel
theorem dX8_init_45 : decode cX8_init 45 = .ok (.iconst 0, 1) := by decide +kernel
theorem dX8_init_46 : decode cX8_init 46 = .ok (.putfield 35, 3) := by decide +kernel
theorem dX8_init_49 : decode cX8_init 49 = .ok (.aload_n 0, 1) := by decide +kernel
theorem dX8_init_50 : decode cX8_init 50 = .ok (.iconst 0, 1) := by decide +kernel
theorem dX8_init_51 : decode cX8_init 51 = .ok (.putfield 38, 3) := by decide +kernel
theorem dX8_init_54 : decode cX8_init 54 = .ok (.aload_n 0, 1) := by decide +kernel
theorem dX8_init_55 : decode cX8_init 55 = .ok (.iconst 0, 1) := by decide +kernel
theorem dX8_init_56 : decode cX8_init 56 = .ok (.putfield 41, 3) := by decide +kernel
theorem dX8_init_59 : decode cX8_init 59 = .ok (.aload_n 0, 1) := by decide +kernel
theorem dX8_init_60 : decode cX8_init 60 = .ok (.iconst 0, 1) := by decide +kernel
theorem dX8_init_61 : decode cX8_init 61 = .ok (.putfield 44, 3) := by decide +kernel
theorem dX8_init_64 : decode cX8_init 64 = .ok (.return_, 1) := by decide +kernel
/-! BumperBalls$Tape.<init>()V -/
def fwX8_init (mB sB : Nat) (w0 : Wt) (ce sl : Nat) (x0 : Nat) : Option Wt :=
  ck (rmB (ce + 1) (sl + 400) mB sB) <| bnd (al w0 11 400) fun w1 => ck (isK w1 x0 8) <| bnd ((w1.1, up2 w1.2.1 x0 0 (some w0.2.2.2.2), w1.2.2) : Wt) fun w4 => ck (isK w4 x0 8) <| bnd ((up2 w4.1 x0 1 0, w4.2) : Wt) fun w6 => ck (rmB ((ce + 1) + 1) ((sl + 400) + 7) mB sB) <| bnd (al w6 7 7) fun w7 => ob (fwX7_init 5 66 w7 0 0 w6.2.2.2.2) fun w9 => ck (rmB (((ce + 1) + 1) + 5) (((sl + 400) + 7) + 66) mB sB) <| ck (decide (w9.2.2.2.2 = w7.2.2.2.2 + 5)) <| ck (isK w9 x0 8) <| bnd ((w9.1, up2 w9.2.1 x0 2 (some w6.2.2.2.2), w9.2.2) : Wt) fun w14 => ck (isK w14 x0 8) <| bnd ((up2 w14.1 x0 3 0, w14.2) : Wt) fun w16 => ck (isK w16 x0 8) <| bnd ((up2 w16.1 x0 4 0, w16.2) : Wt) fun w18 => ck (isK w18 x0 8) <| bnd ((up2 w18.1 x0 5 0, w18.2) : Wt) fun w20 => ck (isK w20 x0 8) <| bnd ((up2 w20.1 x0 6 0, w20.2) : Wt) fun w22 => ck (isK w22 x0 8) <| bnd ((up2 w22.1 x0 7 0, w22.2) : Wt) fun w24 => ck (isK w24 x0 8) <| bnd ((up2 w24.1 x0 8 0, w24.2) : Wt) fun w26 => ck (isK w26 x0 8) <| bnd ((up2 w26.1 x0 9 0, w26.2) : Wt) fun w28 => ck (cnB (((ce + 1) + 1) + 5) (((sl + 400) + 7) + 66) mB sB) <| some w28
set_option maxRecDepth 20000 in
set_option maxHeartbeats 2000000 in
theorem ewX8_init_0 {g : Cfg} {mB sB : Nat} (C : Cx g RX8 cX8_init 1 2 41 mB sB) (hin : g.2.2.2.2.2.2.2.2.1.name = "<init>") {o1 : Wt} (q : QV g mB sB o1) {w0 : Wt} {ce sl : Nat} {x0 : Nat} (hf : fwX8_init mB sB w0 ce sl x0 = some o1) : XE g ce sl w0 0 [(0, rf g x0)] [] := by
  unfold fwX8_init at hf
  refine xr_aload_n C dX8_init_0 0 rfl rfl ?_
  refine xr_objinit C wk_52 wk_oi1 wk_oi2 (by decide) (Nat.le_of_ble_eq_true rfl) dX8_init_1 ?_
  refine xr_aload_n C dX8_init_4 0 rfl rfl ?_
  refine xr_sipush (v := 400) C dX8_init_5 (by decide) ?_
  obtain ⟨z2, hf⟩ := ck_x hf
  obtain ⟨w1, ew1, hf⟩ := bnd_x hf
  refine xr_newi (N0 := 400) C wk_ai (by decide) rfl (by decide) (rmB_ok z2) dX8_init_8 ew1 ?_
  obtain ⟨z3, hf⟩ := ck_x hf
  obtain ⟨w4, ew4, hf⟩ := bnd_x hf
  refine xr_putRF C hin Kd8 (k := 0) (by decide) rfl rfl rfl wk_100 rfl (fun _ => ⟨rfl, rfl⟩) (isK_ok z3) dX8_init_10 ew4 ?_
  refine xr_aload_n C dX8_init_13 0 rfl rfl ?_
  refine xr_iconst (v := 0) C dX8_init_14 (by decide) ?_
  obtain ⟨z5, hf⟩ := ck_x hf
  obtain ⟨w6, ew6, hf⟩ := bnd_x hf
  refine xr_putIw C Kd8 (k := 1) (by decide) rfl rfl wk_101 rfl rfl rfl (isK_ok z5) dX8_init_15 ew6 ?_
  refine xr_aload_n C dX8_init_18 0 rfl rfl ?_
  obtain ⟨z8, hf⟩ := ck_x hf
  obtain ⟨w7, ew7, hf⟩ := bnd_x hf
  refine xr_new C Kd7 df7 wk_53 wk_54 wk_4 (rmB_ok z8) dX8_init_19 ew7 ?_
  refine xr_dup C dX8_init_22 rfl ?_
  obtain ⟨w9, h10, hf⟩ := ob_x hf
  obtain ⟨z11, hf⟩ := ck_x hf
  obtain ⟨z12, hf⟩ := ck_x hf
  refine xr_callC (np := 0) C [] wk_57 wk_4 wk_56 rfl ⟨by decide +kernel, by decide +kernel, by decide +kernel⟩ (List.mem_of_getElem? (i := 105) (by decide +kernel)) (kwX7_init h10) rfl (Nat.le_of_ble_eq_true rfl) rfl dX8_init_23 ⟨by decide, (rmB_ok z11).1, (rmB_ok z11).2⟩ (of_decide_eq_true z12) ?_
  obtain ⟨z13, hf⟩ := ck_x hf
  obtain ⟨w14, ew14, hf⟩ := bnd_x hf
  refine xr_putRF C hin Kd8 (k := 2) (by decide) rfl rfl rfl wk_103 rfl (fun _ => ⟨rfl, rfl⟩) (isK_ok z13) dX8_init_26 ew14 ?_
  refine xr_aload_n C dX8_init_29 0 rfl rfl ?_
  refine xr_iconst (v := 0) C dX8_init_30 (by decide) ?_
  obtain ⟨z15, hf⟩ := ck_x hf
  obtain ⟨w16, ew16, hf⟩ := bnd_x hf
  refine xr_putIw C Kd8 (k := 3) (by decide) rfl rfl wk_105 rfl rfl rfl (isK_ok z15) dX8_init_31 ew16 ?_
  refine xr_aload_n C dX8_init_34 0 rfl rfl ?_
  refine xr_iconst (v := 0) C dX8_init_35 (by decide) ?_
  obtain ⟨z17, hf⟩ := ck_x hf
  obtain ⟨w18, ew18, hf⟩ := bnd_x hf
  refine xr_putIw C Kd8 (k := 4) (by decide) rfl rfl wk_107 rfl rfl rfl (isK_ok z17) dX8_init_36 ew18 ?_
  refine xr_aload_n C dX8_init_39 0 rfl rfl ?_
  refine xr_iconst (v := 0) C dX8_init_40 (by decide) ?_
  obtain ⟨z19, hf⟩ := ck_x hf
  obtain ⟨w20, ew20, hf⟩ := bnd_x hf
  refine xr_putIw C Kd8 (k := 5) (by decide) rfl rfl wk_109 rfl rfl rfl (isK_ok z19) dX8_init_41 ew20 ?_
  refine xr_aload_n C dX8_init_44 0 rfl rfl ?_
  refine xr_iconst (v := 0) C dX8_init_45 (by decide) ?_
  obtain ⟨z21, hf⟩ := ck_x hf
  obtain ⟨w22, ew22, hf⟩ := bnd_x hf
  refine xr_putIw C Kd8 (k := 6) (by decide) rfl rfl wk_111 rfl rfl rfl (isK_ok z21) dX8_init_46 ew22 ?_
  refine xr_aload_n C dX8_init_49 0 rfl rfl ?_
  refine xr_iconst (v := 0) C dX8_init_50 (by decide) ?_
  obtain ⟨z23, hf⟩ := ck_x hf
  obtain ⟨w24, ew24, hf⟩ := bnd_x hf
  refine xr_putIw C Kd8 (k := 7) (by decide) rfl rfl wk_112 rfl rfl rfl (isK_ok z23) dX8_init_51 ew24 ?_
  refine xr_aload_n C dX8_init_54 0 rfl rfl ?_
  refine xr_iconst (v := 0) C dX8_init_55 (by decide) ?_
  obtain ⟨z25, hf⟩ := ck_x hf
  obtain ⟨w26, ew26, hf⟩ := bnd_x hf
  refine xr_putIw C Kd8 (k := 8) (by decide) rfl rfl wk_114 rfl rfl rfl (isK_ok z25) dX8_init_56 ew26 ?_
  refine xr_aload_n C dX8_init_59 0 rfl rfl ?_
  refine xr_iconst (v := 0) C dX8_init_60 (by decide) ?_
  obtain ⟨z27, hf⟩ := ck_x hf
  obtain ⟨w28, ew28, hf⟩ := bnd_x hf
  refine xr_putIw C Kd8 (k := 9) (by decide) rfl rfl wk_115 rfl rfl rfl (isK_ok z27) dX8_init_61 ew28 ?_
  obtain ⟨z29, hf⟩ := ck_x hf
  obtain ⟨q1, q2⟩ := cnB_ok z29
  exact xr_returnW C q q1 q2 dX8_init_64 (Option.some.inj hf)
theorem kwX8_init {B : Bs} {mB sB : Nat} {w0 : Wt} {x0 : Nat} {o1 : Wt} (hf : fwX8_init mB sB w0 0 0 x0 = some o1) : CtrV B yX8_init cX8_init 1 2 41 mB sB [rfB B x0] w0 o1 := by
  refine xr_enterC (lv0 := [(0, rfB B x0)]) (by decide) rfl (Nat.le_of_ble_eq_true rfl) rfl (fun g hg C hin q => ?_)
  subst hg
  exact ewX8_init_0 C hin q hf
theorem dX0_init_0 : decode cX0_init 0 = .ok (.aload_n 0, 1) := by decide +kernel
theorem dX0_init_1 : decode cX0_init 1 = .ok (.invokespecial 3, 3) := by decide +kernel
theorem dX0_init_4 : decode cX0_init 4 = .ok (.aload_n 0, 1) := by decide +kernel
theorem dX0_init_5 : decode cX0_init 5 = .ok (.bipush 24, 2) := by decide +kernel
theorem dX0_init_7 : decode cX0_init 7 = .ok (.anewarray 9, 3) := by decide +kernel
theorem dX0_init_10 : decode cX0_init 10 = .ok (.putfield 11, 3) := by decide +kernel
theorem dX0_init_13 : decode cX0_init 13 = .ok (.aload_n 0, 1) := by decide +kernel
theorem dX0_init_14 : decode cX0_init 14 = .ok (.iconst 0, 1) := by decide +kernel
theorem dX0_init_15 : decode cX0_init 15 = .ok (.putfield 17, 3) := by decide +kernel
theorem dX0_init_18 : decode cX0_init 18 = .ok (.aload_n 0, 1) := by decide +kernel
theorem dX0_init_19 : decode cX0_init 19 = .ok (.iconst 0, 1) := by decide +kernel
theorem dX0_init_20 : decode cX0_init 20 = .ok (.putfield 21, 3) := by decide +kernel
theorem dX0_init_23 : decode cX0_init 23 = .ok (.iconst 0, 1) := by decide +kernel
theorem dX0_init_24 : decode cX0_init 24 = .ok (.istore_n 1, 1) := by decide +kernel
theorem dX0_init_25 : decode cX0_init 25 = .ok (.iload_n 1, 1) := by decide +kernel
theorem dX0_init_26 : decode cX0_init 26 = .ok (.bipush 24, 2) := by decide +kernel
theorem dX0_init_28 : decode cX0_init 28 = .ok (.if_icmp .ge 22, 3) := by decide +kernel
theorem dX0_init_31 : decode cX0_init 31 = .ok (.aload_n 0, 1) := by decide +kernel
theorem dX0_init_32 : decode cX0_init 32 = .ok (.getfield 11, 3) := by decide +kernel
theorem dX0_init_35 : decode cX0_init 35 = .ok (.iload_n 1, 1) := by decide +kernel
theorem dX0_init_36 : decode cX0_init 36 = .ok (.new 9, 3) := by decide +kernel
theorem dX0_init_39 : decode cX0_init 39 = .ok (.dup, 1) := by decide +kernel
theorem dX0_init_40 : decode cX0_init 40 = .ok (.invokespecial 24, 3) := by decide +kernel
theorem dX0_init_43 : decode cX0_init 43 = .ok (.aastore, 1) := by decide +kernel
theorem dX0_init_44 : decode cX0_init 44 = .ok (.iinc 1 1, 3) := by decide +kernel
theorem dX0_init_47 : decode cX0_init 47 = .ok (.goto (-22), 3) := by decide +kernel
theorem dX0_init_50 : decode cX0_init 50 = .ok (.return_, 1) := by decide +kernel
/-! BumperBalls$Acts.<init>()V -/
def fwX0_init_25b (mB sB : Nat) (rec25 : Wt → Nat → Nat → Nat → Int32 → Option Wt) (w0 : Wt) (ce sl : Nat) (x0 : Nat) (l1 : Int32) : Option Wt :=
  if (24 : Int32) ≤ l1 then (ck (cnB ce sl mB sB) <| some w0) else (ck (isK w0 x0 0) <| ob (w0.2.1 x0 0) fun x_4 => ck (rmB (ce + 1) (sl + 10) mB sB) <| bnd (al w0 4 10) fun w6 => ob (fwX4_init 1 6 w6 0 0 w0.2.2.2.2) fun w8 => ck (rmB ((ce + 1) + 1) ((sl + 10) + 6) mB sB) <| ck (decide (w8.2.2.2.2 = w6.2.2.2.2 + 1)) <| ck (isK w8 x_4 13) <| ck (inb l1 (w8.2.2.2.1 x_4)) <| ck (isK w8 w0.2.2.2.2 4) <| bnd ((w8.1, up2 w8.2.1 x_4 (ix l1) (some w0.2.2.2.2), w8.2.2) : Wt) fun w15 => bnd (l1 + 1) fun v16 => rec25 w15 ((ce + 1) + 1) ((sl + 10) + 6) x0 v16)
def fwX0_init_25 (mB sB : Nat) : Nat → Wt → Nat → Nat → Nat → Int32 → Option Wt
  | 0 => fun _ _ _ _ _ => none
  | fu + 1 => fwX0_init_25b mB sB (fwX0_init_25 mB sB fu)
set_option maxRecDepth 20000 in
set_option maxHeartbeats 2000000 in
theorem ewX0_init_25b {g : Cfg} {mB sB : Nat} (C : Cx g RX0 cX0_init 2 2 40 mB sB) (hin : g.2.2.2.2.2.2.2.2.1.name = "<init>") {o1 : Wt} {rec25 : Wt → Nat → Nat → Nat → Int32 → Option Wt} (q : QV g mB sB o1) (ih25 : ∀ (w0 : Wt) (ce sl : Nat) (x0 : Nat) (l1 : Int32), rec25 w0 ce sl x0 l1 = some o1 → XE g ce sl w0 25 [(0, rf g x0), (1, .int l1)] []) {w0 : Wt} {ce sl : Nat} {x0 : Nat} {l1 : Int32} (hf : fwX0_init_25b mB sB rec25 w0 ce sl x0 l1 = some o1) : XE g ce sl w0 25 [(0, rf g x0), (1, .int l1)] [] := by
  unfold fwX0_init_25b at hf
  refine xr_iload_n C dX0_init_25 1 rfl rfl ?_
  refine xr_bipush (v := 24) C dX0_init_26 (by decide) ?_
  refine xr_icmp_ge (tgt := 50) C dX0_init_28 (by decide) hf (fun c1 hf => ?_) (fun c1 hf => ?_)
  · obtain ⟨z2, hf⟩ := ck_x hf
    obtain ⟨q1, q2⟩ := cnB_ok z2
    exact xr_returnW C q q1 q2 dX0_init_50 (Option.some.inj hf)
  · refine xr_aload_n C dX0_init_31 0 rfl rfl ?_
    obtain ⟨z3, hf⟩ := ck_x hf
    obtain ⟨x_4, r5, hf⟩ := ob_x hf
    refine xr_getr C Kd0 (k := 0) (by decide) rfl wk_201 rfl (isK_ok z3) r5 dX0_init_32 ?_
    refine xr_iload_n C dX0_init_35 1 rfl rfl ?_
    obtain ⟨z7, hf⟩ := ck_x hf
    obtain ⟨w6, ew6, hf⟩ := bnd_x hf
    refine xr_new C Kd4 df4 wk_198 wk_140 wk_5 (rmB_ok z7) dX0_init_36 ew6 ?_
    refine xr_dup C dX0_init_39 rfl ?_
    obtain ⟨w8, h9, hf⟩ := ob_x hf
    obtain ⟨z10, hf⟩ := ck_x hf
    obtain ⟨z11, hf⟩ := ck_x hf
    refine xr_callC (np := 0) C [] wk_143 wk_5 wk_142 rfl ⟨by decide +kernel, by decide +kernel, by decide +kernel⟩ (List.mem_of_getElem? (i := 85) (by decide +kernel)) (kwX4_init h9) rfl (Nat.le_of_ble_eq_true rfl) rfl dX0_init_40 ⟨by decide, (rmB_ok z10).1, (rmB_ok z10).2⟩ (of_decide_eq_true z11) ?_
    obtain ⟨z12, hf⟩ := ck_x hf
    obtain ⟨i13, hf⟩ := ck_x hf
    obtain ⟨z14, hf⟩ := ck_x hf
    obtain ⟨w15, ew15, hf⟩ := bnd_x hf
    refine xr_aast C (by decide) Kd4 (isA_ok z12) i13 (isK_ok z14) dX0_init_43 ew15 ?_
    obtain ⟨v16, ev16, hf⟩ := bnd_x hf
    refine xr_iinc (k := 1) (v := v16) C dX0_init_44 rfl (by rw [ev16]; rfl) (by decide) rfl ?_
    refine xr_goto (tgt := 25) C dX0_init_47 (by decide) ?_
    refine xr_lv [1, 0] rfl ?_
    exact ih25 _ _ _ _ _ hf
theorem ewX0_init_25 {g : Cfg} {mB sB : Nat} (C : Cx g RX0 cX0_init 2 2 40 mB sB) (hin : g.2.2.2.2.2.2.2.2.1.name = "<init>") {o1 : Wt} (q : QV g mB sB o1) : ∀ (fu : Nat) {w0 : Wt} {ce sl : Nat} {x0 : Nat} {l1 : Int32} (hf : fwX0_init_25 mB sB fu w0 ce sl x0 l1 = some o1), XE g ce sl w0 25 [(0, rf g x0), (1, .int l1)] [] := by
  intro fu
  induction fu with
  | zero =>
    intro w0 ce sl x0 l1 hf
    cases hf
  | succ fu ihn =>
    intro w0 ce sl x0 l1 hf
    exact ewX0_init_25b C hin q (fun _ _ _ _ _ hf => ihn hf) hf
def fwX0_init (mB sB : Nat) (w0 : Wt) (ce sl : Nat) (x0 : Nat) : Option Wt :=
  ck (rmB (ce + 1) (sl + 24) mB sB) <| bnd (al w0 13 24) fun w1 => ck (isK w1 x0 0) <| bnd ((w1.1, up2 w1.2.1 x0 0 (some w0.2.2.2.2), w1.2.2) : Wt) fun w4 => ck (isK w4 x0 0) <| bnd ((up2 w4.1 x0 1 0, w4.2) : Wt) fun w6 => ck (isK w6 x0 0) <| bnd ((up2 w6.1 x0 2 0, w6.2) : Wt) fun w8 => fwX0_init_25 mB sB FU w8 (ce + 1) (sl + 24) x0 0
set_option maxRecDepth 20000 in
set_option maxHeartbeats 2000000 in
theorem ewX0_init_0 {g : Cfg} {mB sB : Nat} (C : Cx g RX0 cX0_init 2 2 40 mB sB) (hin : g.2.2.2.2.2.2.2.2.1.name = "<init>") {o1 : Wt} (q : QV g mB sB o1) {w0 : Wt} {ce sl : Nat} {x0 : Nat} (hf : fwX0_init mB sB w0 ce sl x0 = some o1) : XE g ce sl w0 0 [(0, rf g x0)] [] := by
  unfold fwX0_init at hf
  refine xr_aload_n C dX0_init_0 0 rfl rfl ?_
  refine xr_objinit C wk_197 wk_oi1 wk_oi2 (by decide) (Nat.le_of_ble_eq_true rfl) dX0_init_1 ?_
  refine xr_aload_n C dX0_init_4 0 rfl rfl ?_
  refine xr_bipush (v := 24) C dX0_init_5 (by decide) ?_
  obtain ⟨z2, hf⟩ := ck_x hf
  obtain ⟨w1, ew1, hf⟩ := bnd_x hf
  refine xr_newq (N0 := 24) (kd := 13) C (by decide) wk_198 (by decide) rfl (by decide) (rmB_ok z2) dX0_init_7 ew1 ?_
  obtain ⟨z3, hf⟩ := ck_x hf
  obtain ⟨w4, ew4, hf⟩ := bnd_x hf
  refine xr_putRF C hin Kd0 (k := 0) (by decide) rfl rfl rfl wk_201 rfl (fun _ => ⟨rfl, rfl⟩) (isK_ok z3) dX0_init_10 ew4 ?_
  refine xr_aload_n C dX0_init_13 0 rfl rfl ?_
  refine xr_iconst (v := 0) C dX0_init_14 (by decide) ?_
  obtain ⟨z5, hf⟩ := ck_x hf
  obtain ⟨w6, ew6, hf⟩ := bnd_x hf
  refine xr_putIw C Kd0 (k := 1) (by decide) rfl rfl wk_202 rfl rfl rfl (isK_ok z5) dX0_init_15 ew6 ?_
  refine xr_aload_n C dX0_init_18 0 rfl rfl ?_
  refine xr_iconst (v := 0) C dX0_init_19 (by decide) ?_
  obtain ⟨z7, hf⟩ := ck_x hf
  obtain ⟨w8, ew8, hf⟩ := bnd_x hf
  refine xr_putIw C Kd0 (k := 2) (by decide) rfl rfl wk_203 rfl rfl rfl (isK_ok z7) dX0_init_20 ew8 ?_
  refine xr_iconst (v := 0) C dX0_init_23 (by decide) ?_
  refine xr_istore_n C dX0_init_24 rfl (by decide) rfl ?_
  refine xr_lv [1, 0] rfl ?_
  exact ewX0_init_25 C hin q _ hf
theorem kwX0_init {B : Bs} {mB sB : Nat} {w0 : Wt} {x0 : Nat} {o1 : Wt} (hf : fwX0_init mB sB w0 0 0 x0 = some o1) : CtrV B yX0_init cX0_init 2 2 40 mB sB [rfB B x0] w0 o1 := by
  refine xr_enterC (lv0 := [(0, rfB B x0)]) (by decide) rfl (Nat.le_of_ble_eq_true rfl) rfl (fun g hg C hin q => ?_)
  subst hg
  exact ewX0_init_0 C hin q hf
theorem dX2_init_0 : decode cX2_init 0 = .ok (.aload_n 0, 1) := by decide +kernel
theorem dX2_init_1 : decode cX2_init 1 = .ok (.invokespecial 1, 3) := by decide +kernel
theorem dX2_init_4 : decode cX2_init 4 = .ok (.aload_n 0, 1) := by decide +kernel
theorem dX2_init_5 : decode cX2_init 5 = .ok (.new 7, 3) := by decide +kernel
theorem dX2_init_8 : decode cX2_init 8 = .ok (.dup, 1) := by decide +kernel
theorem dX2_init_9 : decode cX2_init 9 = .ok (.invokespecial 9, 3) := by decide +kernel
theorem dX2_init_12 : decode cX2_init 12 = .ok (.putfield 10, 3) := by decide +kernel
theorem dX2_init_15 : decode cX2_init 15 = .ok (.aload_n 0, 1) := by decide +kernel
theorem dX2_init_16 : decode cX2_init 16 = .ok (.new 16, 3) := by decide +kernel
theorem dX2_init_19 : decode cX2_init 19 = .ok (.dup, 1) := by decide +kernel
theorem dX2_init_20 : decode cX2_init 20 = .ok (.invokespecial 18, 3) := by decide +kernel
theorem dX2_init_23 : decode cX2_init 23 = .ok (.putfield 19, 3) := by decide +kernel
theorem dX2_init_26 : decode cX2_init 26 = .ok (.aload_n 0, 1) := by decide +kernel
theorem dX2_init_27 : decode cX2_init 27 = .ok (.iconst 0, 1) := by decide +kernel
theorem dX2_init_28 : decode cX2_init 28 = .ok (.putfield 23, 3) := by decide +kernel
theorem dX2_init_31 : decode cX2_init 31 = .ok (.return_, 1) := by decide +kernel
/-! BumperBalls$Image.<init>()V -/
def fwX2_init (mB sB : Nat) (w0 : Wt) (ce sl : Nat) (x0 : Nat) : Option Wt :=
  ck (rmB (ce + 1) (sl + 7) mB sB) <| bnd (al w0 7 7) fun w1 => ob (fwX7_init 5 66 w1 0 0 w0.2.2.2.2) fun w3 => ck (rmB ((ce + 1) + 5) ((sl + 7) + 66) mB sB) <| ck (decide (w3.2.2.2.2 = w1.2.2.2.2 + 5)) <| ck (isK w3 x0 2) <| bnd ((w3.1, up2 w3.2.1 x0 0 (some w0.2.2.2.2), w3.2.2) : Wt) fun w8 => ck (rmB (((ce + 1) + 5) + 1) (((sl + 7) + 66) + 10) mB sB) <| bnd (al w8 4 10) fun w9 => ob (fwX4_init 1 6 w9 0 0 w8.2.2.2.2) fun w11 => ck (rmB ((((ce + 1) + 5) + 1) + 1) ((((sl + 7) + 66) + 10) + 6) mB sB) <| ck (decide (w11.2.2.2.2 = w9.2.2.2.2 + 1)) <| ck (isK w11 x0 2) <| bnd ((w11.1, up2 w11.2.1 x0 1 (some w8.2.2.2.2), w11.2.2) : Wt) fun w16 => ck (isK w16 x0 2) <| bnd ((up2 w16.1 x0 2 0, w16.2) : Wt) fun w18 => ck (cnB ((((ce + 1) + 5) + 1) + 1) ((((sl + 7) + 66) + 10) + 6) mB sB) <| some w18
set_option maxRecDepth 20000 in
set_option maxHeartbeats 2000000 in
theorem ewX2_init_0 {g : Cfg} {mB sB : Nat} (C : Cx g RX2 cX2_init 1 2 41 mB sB) (hin : g.2.2.2.2.2.2.2.2.1.name = "<init>") {o1 : Wt} (q : QV g mB sB o1) {w0 : Wt} {ce sl : Nat} {x0 : Nat} (hf : fwX2_init mB sB w0 ce sl x0 = some o1) : XE g ce sl w0 0 [(0, rf g x0)] [] := by
  unfold fwX2_init at hf
  refine xr_aload_n C dX2_init_0 0 rfl rfl ?_
  refine xr_objinit C wk_287 wk_oi1 wk_oi2 (by decide) (Nat.le_of_ble_eq_true rfl) dX2_init_1 ?_
  refine xr_aload_n C dX2_init_4 0 rfl rfl ?_
  obtain ⟨z2, hf⟩ := ck_x hf
  obtain ⟨w1, ew1, hf⟩ := bnd_x hf
  refine xr_new C Kd7 df7 wk_288 wk_54 wk_4 (rmB_ok z2) dX2_init_5 ew1 ?_
  refine xr_dup C dX2_init_8 rfl ?_
  obtain ⟨w3, h4, hf⟩ := ob_x hf
  obtain ⟨z5, hf⟩ := ck_x hf
  obtain ⟨z6, hf⟩ := ck_x hf
  refine xr_callC (np := 0) C [] wk_57 wk_4 wk_56 rfl ⟨by decide +kernel, by decide +kernel, by decide +kernel⟩ (List.mem_of_getElem? (i := 91) (by decide +kernel)) (kwX7_init h4) rfl (Nat.le_of_ble_eq_true rfl) rfl dX2_init_9 ⟨by decide, (rmB_ok z5).1, (rmB_ok z5).2⟩ (of_decide_eq_true z6) ?_
  obtain ⟨z7, hf⟩ := ck_x hf
  obtain ⟨w8, ew8, hf⟩ := bnd_x hf
  refine xr_putRF C hin Kd2 (k := 0) (by decide) rfl rfl rfl wk_292 rfl (fun _ => ⟨rfl, rfl⟩) (isK_ok z7) dX2_init_12 ew8 ?_
  refine xr_aload_n C dX2_init_15 0 rfl rfl ?_
  obtain ⟨z10, hf⟩ := ck_x hf
  obtain ⟨w9, ew9, hf⟩ := bnd_x hf
  refine xr_new C Kd4 df4 wk_290 wk_140 wk_5 (rmB_ok z10) dX2_init_16 ew9 ?_
  refine xr_dup C dX2_init_19 rfl ?_
  obtain ⟨w11, h12, hf⟩ := ob_x hf
  obtain ⟨z13, hf⟩ := ck_x hf
  obtain ⟨z14, hf⟩ := ck_x hf
  refine xr_callC (np := 0) C [] wk_143 wk_5 wk_142 rfl ⟨by decide +kernel, by decide +kernel, by decide +kernel⟩ (List.mem_of_getElem? (i := 88) (by decide +kernel)) (kwX4_init h12) rfl (Nat.le_of_ble_eq_true rfl) rfl dX2_init_20 ⟨by decide, (rmB_ok z13).1, (rmB_ok z13).2⟩ (of_decide_eq_true z14) ?_
  obtain ⟨z15, hf⟩ := ck_x hf
  obtain ⟨w16, ew16, hf⟩ := bnd_x hf
  refine xr_putRF C hin Kd2 (k := 1) (by decide) rfl rfl rfl wk_294 rfl (fun _ => ⟨rfl, rfl⟩) (isK_ok z15) dX2_init_23 ew16 ?_
  refine xr_aload_n C dX2_init_26 0 rfl rfl ?_
  refine xr_iconst (v := 0) C dX2_init_27 (by decide) ?_
  obtain ⟨z17, hf⟩ := ck_x hf
  obtain ⟨w18, ew18, hf⟩ := bnd_x hf
  refine xr_putIw C Kd2 (k := 2) (by decide) rfl rfl wk_296 rfl rfl rfl (isK_ok z17) dX2_init_28 ew18 ?_
  obtain ⟨z19, hf⟩ := ck_x hf
  obtain ⟨q1, q2⟩ := cnB_ok z19
  exact xr_returnW C q q1 q2 dX2_init_31 (Option.some.inj hf)
theorem kwX2_init {B : Bs} {mB sB : Nat} {w0 : Wt} {x0 : Nat} {o1 : Wt} (hf : fwX2_init mB sB w0 0 0 x0 = some o1) : CtrV B yX2_init cX2_init 1 2 41 mB sB [rfB B x0] w0 o1 := by
  refine xr_enterC (lv0 := [(0, rfB B x0)]) (by decide) rfl (Nat.le_of_ble_eq_true rfl) rfl (fun g hg C hin q => ?_)
  subst hg
  exact ewX2_init_0 C hin q hf
theorem dX6_init_0 : decode cX6_init 0 = .ok (.aload_n 0, 1) := by decide +kernel
theorem dX6_init_1 : decode cX6_init 1 = .ok (.invokespecial 3, 3) := by decide +kernel
theorem dX6_init_4 : decode cX6_init 4 = .ok (.aload_n 0, 1) := by decide +kernel
theorem dX6_init_5 : decode cX6_init 5 = .ok (.new 9, 3) := by decide +kernel
theorem dX6_init_8 : decode cX6_init 8 = .ok (.dup, 1) := by decide +kernel
theorem dX6_init_9 : decode cX6_init 9 = .ok (.sipush 168, 3) := by decide +kernel
theorem dX6_init_12 : decode cX6_init 12 = .ok (.invokespecial 11, 3) := by decide +kernel
theorem dX6_init_15 : decode cX6_init 15 = .ok (.putfield 14, 3) := by decide +kernel
theorem dX6_init_18 : decode cX6_init 18 = .ok (.aload_n 0, 1) := by decide +kernel
theorem dX6_init_19 : decode cX6_init 19 = .ok (.new 9, 3) := by decide +kernel
theorem dX6_init_22 : decode cX6_init 22 = .ok (.dup, 1) := by decide +kernel
theorem dX6_init_23 : decode cX6_init 23 = .ok (.sipush 168, 3) := by decide +kernel
theorem dX6_init_26 : decode cX6_init 26 = .ok (.invokespecial 11, 3) := by decide +kernel
theorem dX6_init_29 : decode cX6_init 29 = .ok (.putfield 20, 3) := by decide +kernel
theorem dX6_init_32 : decode cX6_init 32 = .ok (.aload_n 0, 1) := by decide +kernel
theorem dX6_init_33 : decode cX6_init 33 = .ok (.new 23, 3) := by decide +kernel
theorem dX6_init_36 : decode cX6_init 36 = .ok (.dup, 1) := by decide +kernel
theorem dX6_init_37 : decode cX6_init 37 = .ok (.invokespecial 25, 3) := by decide +kernel
theorem dX6_init_40 : decode cX6_init 40 = .ok (.putfield 26, 3) := by decide +kernel
theorem dX6_init_43 : decode cX6_init 43 = .ok (.aload_n 0, 1) := by decide +kernel
theorem dX6_init_44 : decode cX6_init 44 = .ok (.ldc 30, 2) := by decide +kernel
theorem dX6_init_46 : decode cX6_init 46 = .ok (.putfield 31, 3) := by decide +kernel
theorem dX6_init_49 : decode cX6_init 49 = .ok (.return_, 1) := by decide +kernel
/-! BumperBalls$Search.<init>()V -/
def fwX6_init (mB sB : Nat) (w0 : Wt) (ce sl : Nat) (x0 : Nat) : Option Wt :=
  ck (rmB (ce + 1) (sl + 3) mB sB) <| bnd (al w0 3 3) fun w1 => ob (fwX3_init 2 (2 * ix 168) w1 0 0 w0.2.2.2.2 168) fun w3 => ck (rmB ((ce + 1) + 2) ((sl + 3) + (2 * ix 168)) mB sB) <| ck (decide (w3.2.2.2.2 = w1.2.2.2.2 + 2)) <| ck (isK w3 x0 6) <| bnd ((w3.1, up2 w3.2.1 x0 0 (some w0.2.2.2.2), w3.2.2) : Wt) fun w8 => ck (rmB (((ce + 1) + 2) + 1) (((sl + 3) + (2 * ix 168)) + 3) mB sB) <| bnd (al w8 3 3) fun w9 => ob (fwX3_init 2 (2 * ix 168) w9 0 0 w8.2.2.2.2 168) fun w11 => ck (rmB ((((ce + 1) + 2) + 1) + 2) ((((sl + 3) + (2 * ix 168)) + 3) + (2 * ix 168)) mB sB) <| ck (decide (w11.2.2.2.2 = w9.2.2.2.2 + 2)) <| ck (isK w11 x0 6) <| bnd ((w11.1, up2 w11.2.1 x0 1 (some w8.2.2.2.2), w11.2.2) : Wt) fun w16 => ck (rmB (((((ce + 1) + 2) + 1) + 2) + 1) (((((sl + 3) + (2 * ix 168)) + 3) + (2 * ix 168)) + 10) mB sB) <| bnd (al w16 4 10) fun w17 => ob (fwX4_init 1 6 w17 0 0 w16.2.2.2.2) fun w19 => ck (rmB ((((((ce + 1) + 2) + 1) + 2) + 1) + 1) ((((((sl + 3) + (2 * ix 168)) + 3) + (2 * ix 168)) + 10) + 6) mB sB) <| ck (decide (w19.2.2.2.2 = w17.2.2.2.2 + 1)) <| ck (isK w19 x0 6) <| bnd ((w19.1, up2 w19.2.1 x0 2 (some w16.2.2.2.2), w19.2.2) : Wt) fun w24 => ck (isK w24 x0 6) <| bnd ((up2 w24.1 x0 3 (-1000000), w24.2) : Wt) fun w26 => ck (cnB ((((((ce + 1) + 2) + 1) + 2) + 1) + 1) ((((((sl + 3) + (2 * ix 168)) + 3) + (2 * ix 168)) + 10) + 6) mB sB) <| some w26
set_option maxRecDepth 20000 in
set_option maxHeartbeats 2000000 in
theorem ewX6_init_0 {g : Cfg} {mB sB : Nat} (C : Cx g RX6 cX6_init 1 2 41 mB sB) (hin : g.2.2.2.2.2.2.2.2.1.name = "<init>") {o1 : Wt} (q : QV g mB sB o1) {w0 : Wt} {ce sl : Nat} {x0 : Nat} (hf : fwX6_init mB sB w0 ce sl x0 = some o1) : XE g ce sl w0 0 [(0, rf g x0)] [] := by
  unfold fwX6_init at hf
  refine xr_aload_n C dX6_init_0 0 rfl rfl ?_
  refine xr_objinit C wk_219 wk_oi1 wk_oi2 (by decide) (Nat.le_of_ble_eq_true rfl) dX6_init_1 ?_
  refine xr_aload_n C dX6_init_4 0 rfl rfl ?_
  obtain ⟨z2, hf⟩ := ck_x hf
  obtain ⟨w1, ew1, hf⟩ := bnd_x hf
  refine xr_new C Kd3 df3 wk_220 wk_221 wk_8 (rmB_ok z2) dX6_init_5 ew1 ?_
  refine xr_dup C dX6_init_8 rfl ?_
  refine xr_sipush (v := 168) C dX6_init_9 (by decide) ?_
  obtain ⟨w3, h4, hf⟩ := ob_x hf
  obtain ⟨z5, hf⟩ := ck_x hf
  obtain ⟨z6, hf⟩ := ck_x hf
  refine xr_callC (np := 1) C [.int 168] wk_224 wk_8 wk_223 rfl ⟨by decide +kernel, by decide +kernel, by decide +kernel⟩ (List.mem_of_getElem? (i := 96) (by decide +kernel)) (kwX3_init h4) rfl (Nat.le_of_ble_eq_true rfl) rfl dX6_init_12 ⟨by decide, (rmB_ok z5).1, (rmB_ok z5).2⟩ (of_decide_eq_true z6) ?_
  obtain ⟨z7, hf⟩ := ck_x hf
  obtain ⟨w8, ew8, hf⟩ := bnd_x hf
  refine xr_putRw C Kd6 (k := 0) (by decide) rfl rfl wk_242 rfl (fun _ => ⟨rfl, rfl⟩) (isK_ok z7) dX6_init_15 ew8 ?_
  refine xr_aload_n C dX6_init_18 0 rfl rfl ?_
  obtain ⟨z10, hf⟩ := ck_x hf
  obtain ⟨w9, ew9, hf⟩ := bnd_x hf
  refine xr_new C Kd3 df3 wk_220 wk_221 wk_8 (rmB_ok z10) dX6_init_19 ew9 ?_
  refine xr_dup C dX6_init_22 rfl ?_
  refine xr_sipush (v := 168) C dX6_init_23 (by decide) ?_
  obtain ⟨w11, h12, hf⟩ := ob_x hf
  obtain ⟨z13, hf⟩ := ck_x hf
  obtain ⟨z14, hf⟩ := ck_x hf
  refine xr_callC (np := 1) C [.int 168] wk_224 wk_8 wk_223 rfl ⟨by decide +kernel, by decide +kernel, by decide +kernel⟩ (List.mem_of_getElem? (i := 96) (by decide +kernel)) (kwX3_init h12) rfl (Nat.le_of_ble_eq_true rfl) rfl dX6_init_26 ⟨by decide, (rmB_ok z13).1, (rmB_ok z13).2⟩ (of_decide_eq_true z14) ?_
  obtain ⟨z15, hf⟩ := ck_x hf
  obtain ⟨w16, ew16, hf⟩ := bnd_x hf
  refine xr_putRw C Kd6 (k := 1) (by decide) rfl rfl wk_243 rfl (fun _ => ⟨rfl, rfl⟩) (isK_ok z15) dX6_init_29 ew16 ?_
  refine xr_aload_n C dX6_init_32 0 rfl rfl ?_
  obtain ⟨z18, hf⟩ := ck_x hf
  obtain ⟨w17, ew17, hf⟩ := bnd_x hf
  refine xr_new C Kd4 df4 wk_239 wk_140 wk_5 (rmB_ok z18) dX6_init_33 ew17 ?_
  refine xr_dup C dX6_init_36 rfl ?_
  obtain ⟨w19, h20, hf⟩ := ob_x hf
  obtain ⟨z21, hf⟩ := ck_x hf
  obtain ⟨z22, hf⟩ := ck_x hf
  refine xr_callC (np := 0) C [] wk_143 wk_5 wk_142 rfl ⟨by decide +kernel, by decide +kernel, by decide +kernel⟩ (List.mem_of_getElem? (i := 97) (by decide +kernel)) (kwX4_init h20) rfl (Nat.le_of_ble_eq_true rfl) rfl dX6_init_37 ⟨by decide, (rmB_ok z21).1, (rmB_ok z21).2⟩ (of_decide_eq_true z22) ?_
  obtain ⟨z23, hf⟩ := ck_x hf
  obtain ⟨w24, ew24, hf⟩ := bnd_x hf
  refine xr_putRF C hin Kd6 (k := 2) (by decide) rfl rfl rfl wk_244 rfl (fun _ => ⟨rfl, rfl⟩) (isK_ok z23) dX6_init_40 ew24 ?_
  refine xr_aload_n C dX6_init_43 0 rfl rfl ?_
  refine xr_ldc C wk_241 dX6_init_44 ?_
  obtain ⟨z25, hf⟩ := ck_x hf
  obtain ⟨w26, ew26, hf⟩ := bnd_x hf
  refine xr_putIw C Kd6 (k := 3) (by decide) rfl rfl wk_245 rfl rfl rfl (isK_ok z25) dX6_init_46 ew26 ?_
  obtain ⟨z27, hf⟩ := ck_x hf
  obtain ⟨q1, q2⟩ := cnB_ok z27
  exact xr_returnW C q q1 q2 dX6_init_49 (Option.some.inj hf)
theorem kwX6_init {B : Bs} {mB sB : Nat} {w0 : Wt} {x0 : Nat} {o1 : Wt} (hf : fwX6_init mB sB w0 0 0 x0 = some o1) : CtrV B yX6_init cX6_init 1 2 41 mB sB [rfB B x0] w0 o1 := by
  refine xr_enterC (lv0 := [(0, rfB B x0)]) (by decide) rfl (Nat.le_of_ble_eq_true rfl) rfl (fun g hg C hin q => ?_)
  subst hg
  exact ewX6_init_0 C hin q hf
theorem dX1_init_0 : decode cX1_init 0 = .ok (.aload_n 0, 1) := by decide +kernel
theorem dX1_init_1 : decode cX1_init 1 = .ok (.invokespecial 3, 3) := by decide +kernel
theorem dX1_init_4 : decode cX1_init 4 = .ok (.aload_n 0, 1) := by decide +kernel
theorem dX1_init_5 : decode cX1_init 5 = .ok (.bipush 16, 2) := by decide +kernel
theorem dX1_init_7 : decode cX1_init 7 = .ok (.newarray .int, 2) := by decide +kernel
theorem dX1_init_9 : decode cX1_init 9 = .ok (.putfield 9, 3) := by decide +kernel
theorem dX1_init_12 : decode cX1_init 12 = .ok (.aload_n 0, 1) := by decide +kernel
theorem dX1_init_13 : decode cX1_init 13 = .ok (.iconst 0, 1) := by decide +kernel
theorem dX1_init_14 : decode cX1_init 14 = .ok (.putfield 15, 3) := by decide +kernel
theorem dX1_init_17 : decode cX1_init 17 = .ok (.aload_n 0, 1) := by decide +kernel
theorem dX1_init_18 : decode cX1_init 18 = .ok (.iconst 0, 1) := by decide +kernel
theorem dX1_init_19 : decode cX1_init 19 = .ok (.putfield 19, 3) := by decide +kernel
theorem dX1_init_22 : decode cX1_init 22 = .ok (.aload_n 0, 1) := by decide +kernel
theorem dX1_init_23 : decode cX1_init 23 = .ok (.iconst 0, 1) := by decide +kernel
theorem dX1_init_24 : decode cX1_init 24 = .ok (.putfield 22, 3) := by decide +kernel
theorem dX1_init_27 : decode cX1_init 27 = .ok (.aload_n 0, 1) := by decide +kernel
theorem dX1_init_28 : decode cX1_init 28 = .ok (.iconst 0, 1) := by decide +kernel
theorem dX1_init_29 : decode cX1_init 29 = .ok (.putfield 25, 3) := by decide +kernel
theorem dX1_init_32 : decode cX1_init 32 = .ok (.aload_n 0, 1) := by decide +kernel
theorem dX1_init_33 : decode cX1_init 33 = .ok (.iconst 0, 1) := by decide +kernel
theorem dX1_init_34 : decode cX1_init 34 = .ok (.putfield 28, 3) := by decide +kernel
theorem dX1_init_37 : decode cX1_init 37 = .ok (.return_, 1) := by decide +kernel
/-! BumperBalls$Asks.<init>()V -/
def fwX1_init (mB sB : Nat) (w0 : Wt) (ce sl : Nat) (x0 : Nat) : Option Wt :=
  ck (rmB (ce + 1) (sl + 16) mB sB) <| bnd (al w0 11 16) fun w1 => ck (isK w1 x0 1) <| bnd ((w1.1, up2 w1.2.1 x0 0 (some w0.2.2.2.2), w1.2.2) : Wt) fun w4 => ck (isK w4 x0 1) <| bnd ((up2 w4.1 x0 1 0, w4.2) : Wt) fun w6 => ck (isK w6 x0 1) <| bnd ((up2 w6.1 x0 2 0, w6.2) : Wt) fun w8 => ck (isK w8 x0 1) <| bnd ((up2 w8.1 x0 3 0, w8.2) : Wt) fun w10 => ck (isK w10 x0 1) <| bnd ((up2 w10.1 x0 4 0, w10.2) : Wt) fun w12 => ck (isK w12 x0 1) <| bnd ((up2 w12.1 x0 5 0, w12.2) : Wt) fun w14 => ck (cnB (ce + 1) (sl + 16) mB sB) <| some w14
set_option maxRecDepth 20000 in
set_option maxHeartbeats 2000000 in
theorem ewX1_init_0 {g : Cfg} {mB sB : Nat} (C : Cx g RX1 cX1_init 1 1 20 mB sB) (hin : g.2.2.2.2.2.2.2.2.1.name = "<init>") {o1 : Wt} (q : QV g mB sB o1) {w0 : Wt} {ce sl : Nat} {x0 : Nat} (hf : fwX1_init mB sB w0 ce sl x0 = some o1) : XE g ce sl w0 0 [(0, rf g x0)] [] := by
  unfold fwX1_init at hf
  refine xr_aload_n C dX1_init_0 0 rfl rfl ?_
  refine xr_objinit C wk_261 wk_oi1 wk_oi2 (by decide) (Nat.le_of_ble_eq_true rfl) dX1_init_1 ?_
  refine xr_aload_n C dX1_init_4 0 rfl rfl ?_
  refine xr_bipush (v := 16) C dX1_init_5 (by decide) ?_
  obtain ⟨z2, hf⟩ := ck_x hf
  obtain ⟨w1, ew1, hf⟩ := bnd_x hf
  refine xr_newi (N0 := 16) C wk_ai (by decide) rfl (by decide) (rmB_ok z2) dX1_init_7 ew1 ?_
  obtain ⟨z3, hf⟩ := ck_x hf
  obtain ⟨w4, ew4, hf⟩ := bnd_x hf
  refine xr_putRF C hin Kd1 (k := 0) (by decide) rfl rfl rfl wk_262 rfl (fun _ => ⟨rfl, rfl⟩) (isK_ok z3) dX1_init_9 ew4 ?_
  refine xr_aload_n C dX1_init_12 0 rfl rfl ?_
  refine xr_iconst (v := 0) C dX1_init_13 (by decide) ?_
  obtain ⟨z5, hf⟩ := ck_x hf
  obtain ⟨w6, ew6, hf⟩ := bnd_x hf
  refine xr_putIw C Kd1 (k := 1) (by decide) rfl rfl wk_264 rfl rfl rfl (isK_ok z5) dX1_init_14 ew6 ?_
  refine xr_aload_n C dX1_init_17 0 rfl rfl ?_
  refine xr_iconst (v := 0) C dX1_init_18 (by decide) ?_
  obtain ⟨z7, hf⟩ := ck_x hf
  obtain ⟨w8, ew8, hf⟩ := bnd_x hf
  refine xr_putIw C Kd1 (k := 2) (by decide) rfl rfl wk_266 rfl rfl rfl (isK_ok z7) dX1_init_19 ew8 ?_
  refine xr_aload_n C dX1_init_22 0 rfl rfl ?_
  refine xr_iconst (v := 0) C dX1_init_23 (by decide) ?_
  obtain ⟨z9, hf⟩ := ck_x hf
  obtain ⟨w10, ew10, hf⟩ := bnd_x hf
  refine xr_putIw C Kd1 (k := 3) (by decide) rfl rfl wk_267 rfl rfl rfl (isK_ok z9) dX1_init_24 ew10 ?_
  refine xr_aload_n C dX1_init_27 0 rfl rfl ?_
  refine xr_iconst (v := 0) C dX1_init_28 (by decide) ?_
  obtain ⟨z11, hf⟩ := ck_x hf
  obtain ⟨w12, ew12, hf⟩ := bnd_x hf
  refine xr_putIw C Kd1 (k := 4) (by decide) rfl rfl wk_268 rfl rfl rfl (isK_ok z11) dX1_init_29 ew12 ?_
  refine xr_aload_n C dX1_init_32 0 rfl rfl ?_
  refine xr_iconst (v := 0) C dX1_init_33 (by decide) ?_
  obtain ⟨z13, hf⟩ := ck_x hf
  obtain ⟨w14, ew14, hf⟩ := bnd_x hf
  refine xr_putIw C Kd1 (k := 5) (by decide) rfl rfl wk_269 rfl rfl rfl (isK_ok z13) dX1_init_34 ew14 ?_
  obtain ⟨z15, hf⟩ := ck_x hf
  obtain ⟨q1, q2⟩ := cnB_ok z15
  exact xr_returnW C q q1 q2 dX1_init_37 (Option.some.inj hf)
theorem kwX1_init {B : Bs} {mB sB : Nat} {w0 : Wt} {x0 : Nat} {o1 : Wt} (hf : fwX1_init mB sB w0 0 0 x0 = some o1) : CtrV B yX1_init cX1_init 1 1 20 mB sB [rfB B x0] w0 o1 := by
  refine xr_enterC (lv0 := [(0, rfB B x0)]) (by decide) rfl (Nat.le_of_ble_eq_true rfl) rfl (fun g hg C hin q => ?_)
  subst hg
  exact ewX1_init_0 C hin q hf
