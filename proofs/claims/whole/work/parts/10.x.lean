theorem dX7_clear_0 : decode cX7_clear 0 = .ok (.aload_n 0, 1) := by decide +kernel
theorem dX7_clear_1 : decode cX7_clear 1 = .ok (.iconst 0, 1) := by decide +kernel
theorem dX7_clear_2 : decode cX7_clear 2 = .ok (.putfield 9, 3) := by decide +kernel
theorem dX7_clear_5 : decode cX7_clear 5 = .ok (.aload_n 0, 1) := by decide +kernel
theorem dX7_clear_6 : decode cX7_clear 6 = .ok (.iconst 0, 1) := by decide +kernel
theorem dX7_clear_7 : decode cX7_clear 7 = .ok (.putfield 15, 3) := by decide +kernel
theorem dX7_clear_10 : decode cX7_clear 10 = .ok (.iconst 0, 1) := by decide +kernel
theorem dX7_clear_11 : decode cX7_clear 11 = .ok (.istore_n 1, 1) := by decide +kernel
theorem dX7_clear_12 : decode cX7_clear 12 = .ok (.iload_n 1, 1) := by decide +kernel
theorem dX7_clear_13 : decode cX7_clear 13 = .ok (.bipush 42, 2) := by decide +kernel
theorem dX7_clear_15 : decode cX7_clear 15 = .ok (.if_icmp .ge 16, 3) := by decide +kernel
theorem dX7_clear_18 : decode cX7_clear 18 = .ok (.aload_n 0, 1) := by decide +kernel
theorem dX7_clear_19 : decode cX7_clear 19 = .ok (.getfield 31, 3) := by decide +kernel
theorem dX7_clear_22 : decode cX7_clear 22 = .ok (.iload_n 1, 1) := by decide +kernel
theorem dX7_clear_23 : decode cX7_clear 23 = .ok (.iconst (-1), 1) := by decide +kernel
theorem dX7_clear_24 : decode cX7_clear 24 = .ok (.iastore, 1) := by decide +kernel
theorem dX7_clear_25 : decode cX7_clear 25 = .ok (.iinc 1 1, 3) := by decide +kernel
theorem dX7_clear_28 : decode cX7_clear 28 = .ok (.goto (-16), 3) := by decide +kernel
theorem dX7_clear_31 : decode cX7_clear 31 = .ok (.return_, 1) := by decide +kernel
/-! BumperBalls$Table.clear()V -/
def fnX7_clear_12b (a0 : Nat) (rec12 : Mem → Int32 → Option Mem) (I0 : Mem) (l1 : Int32) : Option Mem :=
  if 42 ≤ l1 then (some I0) else (ck (inb l1 42) <| bnd (up2 I0 (a0 + 5) (ix l1) (-1)) fun I3 => bnd (l1 + 1) fun v4 => rec12 I3 v4)
def fnX7_clear_12 (a0 : Nat) : Nat → Mem → Int32 → Option Mem
  | 0 => fun _ _ => none
  | fu + 1 => fnX7_clear_12b a0 (fnX7_clear_12 a0 fu)
set_option maxRecDepth 20000 in
set_option maxHeartbeats 2000000 in
theorem ebX7_clear_12b {g : Cfg} (C : Cx g RX7 cX7_clear 2 0 0 0 0) {h : Shp} {a0 : Nat} (H0 : TableAt h a0) {o1 : Mem} {rec12 : Mem → Int32 → Option Mem} (q : QV g 0 0 (o1, h)) (ih12 : ∀ (I0 : Mem) (l1 : Int32), rec12 I0 l1 = some o1 → XE g 0 0 (I0, h) 12 [(0, rf g a0), (1, .int l1)] []) {I0 : Mem} {l1 : Int32} (hf : fnX7_clear_12b a0 rec12 I0 l1 = some o1) : XE g 0 0 (I0, h) 12 [(0, rf g a0), (1, .int l1)] [] := by
  unfold fnX7_clear_12b at hf
  refine xr_iload_n C dX7_clear_12 1 rfl rfl ?_
  refine xr_bipush (v := 42) C dX7_clear_13 (by decide) ?_
  refine xr_icmp_ge (tgt := 31) C dX7_clear_15 (by decide) hf (fun c1 hf => ?_) (fun c1 hf => ?_)
  · exact xr_return C q dX7_clear_31 (so_v hf)
  · refine xr_aload_n C dX7_clear_18 0 rfl rfl ?_
    refine xr_getr C Kd7 (k := 6) (by decide) rfl wk_84 rfl H0.1 H0.2.2.2.2.2.1 dX7_clear_19 ?_
    refine xr_iload_n C dX7_clear_22 1 rfl rfl ?_
    refine xr_iconst (v := (-1)) C dX7_clear_23 (by decide) ?_
    obtain ⟨i2, hf⟩ := ck_x hf
    obtain ⟨I3, eI3, hf⟩ := bnd_x hf
    refine xr_iast C H0.2.2.2.2.2.2 i2 dX7_clear_24 eI3 ?_
    obtain ⟨v4, ev4, hf⟩ := bnd_x hf
    refine xr_iinc (k := 1) (v := v4) C dX7_clear_25 rfl (by rw [ev4]; rfl) (by decide) rfl ?_
    refine xr_goto (tgt := 12) C dX7_clear_28 (by decide) ?_
    refine xr_lv [1, 0] rfl ?_
    exact ih12 _ _ hf
theorem ebX7_clear_12 {g : Cfg} (C : Cx g RX7 cX7_clear 2 0 0 0 0) {h : Shp} {a0 : Nat} (H0 : TableAt h a0) {o1 : Mem} (q : QV g 0 0 (o1, h)) : ∀ (fu : Nat) {I0 : Mem} {l1 : Int32} (hf : fnX7_clear_12 a0 fu I0 l1 = some o1), XE g 0 0 (I0, h) 12 [(0, rf g a0), (1, .int l1)] [] := by
  intro fu
  induction fu with
  | zero =>
    intro I0 l1 hf
    cases hf
  | succ fu ihn =>
    intro I0 l1 hf
    exact ebX7_clear_12b C H0 q (fun _ _ hf => ihn hf) hf
def fnX7_clear (a0 : Nat) (I0 : Mem) : Option Mem :=
  bnd (up2 I0 a0 0 0) fun I1 => bnd (up2 I1 a0 1 0) fun I2 => fnX7_clear_12 a0 FU I2 0
set_option maxRecDepth 20000 in
set_option maxHeartbeats 2000000 in
theorem ebX7_clear_0 {g : Cfg} (C : Cx g RX7 cX7_clear 2 0 0 0 0) {h : Shp} {a0 : Nat} (H0 : TableAt h a0) {o1 : Mem} (q : QV g 0 0 (o1, h)) {I0 : Mem} (hf : fnX7_clear a0 I0 = some o1) : XE g 0 0 (I0, h) 0 [(0, rf g a0)] [] := by
  unfold fnX7_clear at hf
  refine xr_aload_n C dX7_clear_0 0 rfl rfl ?_
  refine xr_iconst (v := 0) C dX7_clear_1 (by decide) ?_
  obtain ⟨I1, eI1, hf⟩ := bnd_x hf
  refine xr_putI C Kd7 (k := 0) (by decide) rfl rfl wk_63 rfl rfl rfl H0.1 dX7_clear_2 eI1 ?_
  refine xr_aload_n C dX7_clear_5 0 rfl rfl ?_
  refine xr_iconst (v := 0) C dX7_clear_6 (by decide) ?_
  obtain ⟨I2, eI2, hf⟩ := bnd_x hf
  refine xr_putI C Kd7 (k := 1) (by decide) rfl rfl wk_66 rfl rfl rfl H0.1 dX7_clear_7 eI2 ?_
  refine xr_iconst (v := 0) C dX7_clear_10 (by decide) ?_
  refine xr_istore_n C dX7_clear_11 rfl (by decide) rfl ?_
  refine xr_lv [1, 0] rfl ?_
  exact ebX7_clear_12 C H0 q _ hf
theorem kX7_clear {B : Bs} {h : Shp} {a0 : Nat} (H0 : TableAt h a0) {I0 : Mem} {o1 : Mem} (hf : fnX7_clear a0 I0 = some o1) : CtrV B yX7_clear cX7_clear 2 0 0 0 0 [rfB B a0] (I0, h) (o1, h) := by
  refine xr_enterV (lv0 := [(0, rfB B a0)]) (by decide) (Nat.le_of_ble_eq_true rfl) rfl (fun g hg C q => ?_)
  subst hg
  exact ebX7_clear_0 C H0 q hf
theorem dX9_isUpTo_0 : decode cX9_isUpTo 0 = .ok (.iload_n 0, 1) := by decide +kernel
theorem dX9_isUpTo_1 : decode cX9_isUpTo 1 = .ok (.ifCond .lt 12, 3) := by decide +kernel
theorem dX9_isUpTo_4 : decode cX9_isUpTo 4 = .ok (.iload_n 0, 1) := by decide +kernel
theorem dX9_isUpTo_5 : decode cX9_isUpTo 5 = .ok (.iload_n 1, 1) := by decide +kernel
theorem dX9_isUpTo_6 : decode cX9_isUpTo 6 = .ok (.if_icmp .gt 7, 3) := by decide +kernel
theorem dX9_isUpTo_9 : decode cX9_isUpTo 9 = .ok (.iconst 1, 1) := by decide +kernel
theorem dX9_isUpTo_10 : decode cX9_isUpTo 10 = .ok (.goto 4, 3) := by decide +kernel
theorem dX9_isUpTo_13 : decode cX9_isUpTo 13 = .ok (.iconst 0, 1) := by decide +kernel
theorem dX9_isUpTo_14 : decode cX9_isUpTo 14 = .ok (.ireturn, 1) := by decide +kernel
/-! BumperBalls.isUpTo(II)Z -/
def fnX9_isUpTo_14 (I0 : Mem) (t0 : Int32) : Option (Int32 × Mem) :=
  ck (zb t0) <| some (t0, I0)
set_option maxRecDepth 20000 in
set_option maxHeartbeats 2000000 in
theorem ebX9_isUpTo_14 {g : Cfg} (C : Cx g RX9 cX9_isUpTo 2 0 0 0 0) {h : Shp} {r1 : Int32} {o1 : Mem} (q : QI g (some Jvm.ClassFile.FieldType.boolean) 0 0 r1 (o1, h)) {I0 : Mem} {t0 : Int32} (hf : fnX9_isUpTo_14 I0 t0 = some (r1, o1)) : XE g 0 0 (I0, h) 14 [] [.int t0] := by
  unfold fnX9_isUpTo_14 at hf
  obtain ⟨z1, hf⟩ := ck_x hf
  exact xr_ireturn C q rfl (zb_ok z1).1 dX9_isUpTo_14 (so_1 hf) (so_w hf)
def fnX9_isUpTo_13 (I0 : Mem) : Option (Int32 × Mem) :=
  fnX9_isUpTo_14 I0 0
set_option maxRecDepth 20000 in
set_option maxHeartbeats 2000000 in
theorem ebX9_isUpTo_13 {g : Cfg} (C : Cx g RX9 cX9_isUpTo 2 0 0 0 0) {h : Shp} {r1 : Int32} {o1 : Mem} (q : QI g (some Jvm.ClassFile.FieldType.boolean) 0 0 r1 (o1, h)) {I0 : Mem} (hf : fnX9_isUpTo_13 I0 = some (r1, o1)) : XE g 0 0 (I0, h) 13 [] [] := by
  unfold fnX9_isUpTo_13 at hf
  refine xr_iconst (v := 0) C dX9_isUpTo_13 (by decide) ?_
  exact ebX9_isUpTo_14 C q hf
def fnX9_isUpTo (I0 : Mem) (p0 : Int32) (p1 : Int32) : Option (Int32 × Mem) :=
  if p0 < 0 then (fnX9_isUpTo_13 I0) else (if p1 < p0 then (fnX9_isUpTo_13 I0) else (fnX9_isUpTo_14 I0 1))
set_option maxRecDepth 20000 in
set_option maxHeartbeats 2000000 in
theorem ebX9_isUpTo_0 {g : Cfg} (C : Cx g RX9 cX9_isUpTo 2 0 0 0 0) {h : Shp} {r1 : Int32} {o1 : Mem} (q : QI g (some Jvm.ClassFile.FieldType.boolean) 0 0 r1 (o1, h)) {I0 : Mem} {p0 : Int32} {p1 : Int32} (hf : fnX9_isUpTo I0 p0 p1 = some (r1, o1)) : XE g 0 0 (I0, h) 0 [(0, .int p0), (1, .int p1)] [] := by
  unfold fnX9_isUpTo at hf
  refine xr_iload_n C dX9_isUpTo_0 0 rfl rfl ?_
  refine xr_if_lt (tgt := 13) C dX9_isUpTo_1 (by decide) hf (fun c1 hf => ?_) (fun c1 hf => ?_)
  · refine xr_lv [] rfl ?_
    exact ebX9_isUpTo_13 C q hf
  · refine xr_iload_n C dX9_isUpTo_4 0 rfl rfl ?_
    refine xr_iload_n C dX9_isUpTo_5 1 rfl rfl ?_
    refine xr_icmp_gt (tgt := 13) C dX9_isUpTo_6 (by decide) hf (fun c2 hf => ?_) (fun c2 hf => ?_)
    · refine xr_lv [] rfl ?_
      exact ebX9_isUpTo_13 C q hf
    · refine xr_iconst (v := 1) C dX9_isUpTo_9 (by decide) ?_
      refine xr_goto (tgt := 14) C dX9_isUpTo_10 (by decide) ?_
      refine xr_lv [] rfl ?_
      exact ebX9_isUpTo_14 C q hf
theorem kX9_isUpTo {B : Bs} {h : Shp} {I0 : Mem} {p0 : Int32} {p1 : Int32} {r1 : Int32} {o1 : Mem} (hf : fnX9_isUpTo I0 p0 p1 = some (r1, o1)) : CtrI B yX9_isUpTo cX9_isUpTo 2 (some Jvm.ClassFile.FieldType.boolean) 0 0 0 0 [.int p0, .int p1] (I0, h) r1 (o1, h) := by
  refine xr_enterI (lv0 := [(0, .int p0), (1, .int p1)]) (by decide) (Nat.le_of_ble_eq_true rfl) rfl (fun g hg C q => ?_)
  subst hg
  exact ebX9_isUpTo_0 C q hf
theorem dX7_addPin_0 : decode cX7_addPin 0 = .ok (.aload_n 0, 1) := by decide +kernel
theorem dX7_addPin_1 : decode cX7_addPin 1 = .ok (.getfield 15, 3) := by decide +kernel
theorem dX7_addPin_4 : decode cX7_addPin 4 = .ok (.bipush 6, 2) := by decide +kernel
theorem dX7_addPin_6 : decode cX7_addPin 6 = .ok (.if_icmp .ge 12, 3) := by decide +kernel
theorem dX7_addPin_9 : decode cX7_addPin 9 = .ok (.iload_n 2, 1) := by decide +kernel
theorem dX7_addPin_10 : decode cX7_addPin 10 = .ok (.bipush 41, 2) := by decide +kernel
theorem dX7_addPin_12 : decode cX7_addPin 12 = .ok (.invokestatic 37, 3) := by decide +kernel
theorem dX7_addPin_15 : decode cX7_addPin 15 = .ok (.ifCond .ne 4, 3) := by decide +kernel
theorem dX7_addPin_18 : decode cX7_addPin 18 = .ok (.return_, 1) := by decide +kernel
theorem dX7_addPin_19 : decode cX7_addPin 19 = .ok (.aload_n 0, 1) := by decide +kernel
theorem dX7_addPin_20 : decode cX7_addPin 20 = .ok (.getfield 18, 3) := by decide +kernel
theorem dX7_addPin_23 : decode cX7_addPin 23 = .ok (.aload_n 0, 1) := by decide +kernel
theorem dX7_addPin_24 : decode cX7_addPin 24 = .ok (.getfield 15, 3) := by decide +kernel
theorem dX7_addPin_27 : decode cX7_addPin 27 = .ok (.iload_n 1, 1) := by decide +kernel
theorem dX7_addPin_28 : decode cX7_addPin 28 = .ok (.iastore, 1) := by decide +kernel
theorem dX7_addPin_29 : decode cX7_addPin 29 = .ok (.aload_n 0, 1) := by decide +kernel
theorem dX7_addPin_30 : decode cX7_addPin 30 = .ok (.getfield 22, 3) := by decide +kernel
theorem dX7_addPin_33 : decode cX7_addPin 33 = .ok (.aload_n 0, 1) := by decide +kernel
theorem dX7_addPin_34 : decode cX7_addPin 34 = .ok (.getfield 15, 3) := by decide +kernel
theorem dX7_addPin_37 : decode cX7_addPin 37 = .ok (.iload_n 2, 1) := by decide +kernel
theorem dX7_addPin_38 : decode cX7_addPin 38 = .ok (.iastore, 1) := by decide +kernel
theorem dX7_addPin_39 : decode cX7_addPin 39 = .ok (.aload_n 0, 1) := by decide +kernel
theorem dX7_addPin_40 : decode cX7_addPin 40 = .ok (.getfield 25, 3) := by decide +kernel
theorem dX7_addPin_43 : decode cX7_addPin 43 = .ok (.aload_n 0, 1) := by decide +kernel
theorem dX7_addPin_44 : decode cX7_addPin 44 = .ok (.getfield 15, 3) := by decide +kernel
theorem dX7_addPin_47 : decode cX7_addPin 47 = .ok (.iload_n 3, 1) := by decide +kernel
theorem dX7_addPin_48 : decode cX7_addPin 48 = .ok (.iastore, 1) := by decide +kernel
theorem dX7_addPin_49 : decode cX7_addPin 49 = .ok (.aload_n 0, 1) := by decide +kernel
theorem dX7_addPin_50 : decode cX7_addPin 50 = .ok (.getfield 28, 3) := by decide +kernel
theorem dX7_addPin_53 : decode cX7_addPin 53 = .ok (.aload_n 0, 1) := by decide +kernel
theorem dX7_addPin_54 : decode cX7_addPin 54 = .ok (.getfield 15, 3) := by decide +kernel
theorem dX7_addPin_57 : decode cX7_addPin 57 = .ok (.iload 4, 2) := by decide +kernel
theorem dX7_addPin_59 : decode cX7_addPin 59 = .ok (.iastore, 1) := by decide +kernel
theorem dX7_addPin_60 : decode cX7_addPin 60 = .ok (.aload_n 0, 1) := by decide +kernel
theorem dX7_addPin_61 : decode cX7_addPin 61 = .ok (.getfield 31, 3) := by decide +kernel
theorem dX7_addPin_64 : decode cX7_addPin 64 = .ok (.iload_n 2, 1) := by decide +kernel
theorem dX7_addPin_65 : decode cX7_addPin 65 = .ok (.aload_n 0, 1) := by decide +kernel
theorem dX7_addPin_66 : decode cX7_addPin 66 = .ok (.getfield 15, 3) := by decide +kernel
theorem dX7_addPin_69 : decode cX7_addPin 69 = .ok (.iastore, 1) := by decide +kernel
theorem dX7_addPin_70 : decode cX7_addPin 70 = .ok (.aload_n 0, 1) := by decide +kernel
theorem dX7_addPin_71 : decode cX7_addPin 71 = .ok (.dup, 1) := by decide +kernel
theorem dX7_addPin_72 : decode cX7_addPin 72 = .ok (.getfield 15, 3) := by decide +kernel
theorem dX7_addPin_75 : decode cX7_addPin 75 = .ok (.iconst 1, 1) := by decide +kernel
theorem dX7_addPin_76 : decode cX7_addPin 76 = .ok (.iadd, 1) := by decide +kernel
theorem dX7_addPin_77 : decode cX7_addPin 77 = .ok (.putfield 15, 3) := by decide +kernel
theorem dX7_addPin_80 : decode cX7_addPin 80 = .ok (.return_, 1) := by decide +kernel
theorem lkX7_37 : LkSN "BumperBalls$Table" 37 yX9_isUpTo cX9_isUpTo 2 (some Jvm.ClassFile.FieldType.boolean) 2 := ⟨wk_351, wk_1, wk_350, ⟨by decide +kernel, by decide +kernel, by decide +kernel⟩, (List.mem_of_getElem? (i := 103) (by decide +kernel))⟩
/-! BumperBalls$Table.addPin(IIII)V -/
def fnX7_addPin_18 (a0 : Nat) (I0 : Mem) : Option Mem :=
  some I0
set_option maxRecDepth 20000 in
set_option maxHeartbeats 2000000 in
theorem ebX7_addPin_18 {g : Cfg} (C : Cx g RX7 cX7_addPin 5 1 21 0 0) {h : Shp} {a0 : Nat} (H0 : TableAt h a0) {o1 : Mem} (q : QV g 0 0 (o1, h)) {I0 : Mem} (hf : fnX7_addPin_18 a0 I0 = some o1) : XE g 0 0 (I0, h) 18 [] [] := by
  unfold fnX7_addPin_18 at hf
  exact xr_return C q dX7_addPin_18 (so_v hf)
def fnX7_addPin (a0 : Nat) (I0 : Mem) (p1 : Int32) (p2 : Int32) (p3 : Int32) (p4 : Int32) : Option Mem :=
  if 6 ≤ (I0 a0 1) then (fnX7_addPin_18 a0 I0) else (ob (fnX9_isUpTo I0 p2 41) fun ⟨r4, I3⟩ => if r4 = 0 then (fnX7_addPin_18 a0 I3) else (ck (inb (I3 a0 1) 6) <| bnd (up2 I3 (a0 + 1) (ix (I3 a0 1)) p1) fun I7 => ck (inb (I7 a0 1) 6) <| bnd (up2 I7 (a0 + 2) (ix (I7 a0 1)) p2) fun I9 => ck (inb (I9 a0 1) 6) <| bnd (up2 I9 (a0 + 3) (ix (I9 a0 1)) p3) fun I11 => ck (inb (I11 a0 1) 6) <| bnd (up2 I11 (a0 + 4) (ix (I11 a0 1)) p4) fun I13 => ck (inb p2 42) <| bnd (up2 I13 (a0 + 5) (ix p2) (I13 a0 1)) fun I15 => bnd (up2 I15 a0 1 ((I15 a0 1) + 1)) fun I16 => some I16))
set_option maxRecDepth 20000 in
set_option maxHeartbeats 2000000 in
theorem ebX7_addPin_0 {g : Cfg} (C : Cx g RX7 cX7_addPin 5 1 21 0 0) {h : Shp} {a0 : Nat} (H0 : TableAt h a0) {o1 : Mem} (q : QV g 0 0 (o1, h)) {I0 : Mem} {p1 : Int32} {p2 : Int32} {p3 : Int32} {p4 : Int32} (hf : fnX7_addPin a0 I0 p1 p2 p3 p4 = some o1) : XE g 0 0 (I0, h) 0 [(0, rf g a0), (1, .int p1), (2, .int p2), (3, .int p3), (4, .int p4)] [] := by
  unfold fnX7_addPin at hf
  refine xr_aload_n C dX7_addPin_0 0 rfl rfl ?_
  refine xr_geti C Kd7 (k := 1) (by decide) rfl wk_66 rfl H0.1 dX7_addPin_1 ?_
  refine xr_bipush (v := 6) C dX7_addPin_4 (by decide) ?_
  refine xr_icmp_ge (tgt := 18) C dX7_addPin_6 (by decide) hf (fun c1 hf => ?_) (fun c1 hf => ?_)
  · refine xr_lv [] rfl ?_
    exact ebX7_addPin_18 C H0 q hf
  · refine xr_iload_n C dX7_addPin_9 2 rfl rfl ?_
    refine xr_bipush (v := 41) C dX7_addPin_10 (by decide) ?_
    obtain ⟨⟨r4, I3⟩, h2, hf⟩ := ob_x hf
    refine xr_callSNI C [.int p2, .int 41] lkX7_37 (kX9_isUpTo h2) rfl (Nat.le_of_ble_eq_true rfl) rfl dX7_addPin_12 ⟨by decide, by decide, by decide⟩ rfl ?_
    refine xr_if_ne (tgt := 19) C dX7_addPin_15 (by decide) hf (fun c5 hf => ?_) (fun c5 hf => ?_)
    · refine xr_aload_n C dX7_addPin_19 0 rfl rfl ?_
      refine xr_getr C Kd7 (k := 2) (by decide) rfl wk_70 rfl H0.1 H0.2.1.1 dX7_addPin_20 ?_
      refine xr_aload_n C dX7_addPin_23 0 rfl rfl ?_
      refine xr_geti C Kd7 (k := 1) (by decide) rfl wk_66 rfl H0.1 dX7_addPin_24 ?_
      refine xr_iload_n C dX7_addPin_27 1 rfl rfl ?_
      obtain ⟨i6, hf⟩ := ck_x hf
      obtain ⟨I7, eI7, hf⟩ := bnd_x hf
      refine xr_iast C H0.2.1.2 i6 dX7_addPin_28 eI7 ?_
      refine xr_aload_n C dX7_addPin_29 0 rfl rfl ?_
      refine xr_getr C Kd7 (k := 3) (by decide) rfl wk_74 rfl H0.1 H0.2.2.1.1 dX7_addPin_30 ?_
      refine xr_aload_n C dX7_addPin_33 0 rfl rfl ?_
      refine xr_geti C Kd7 (k := 1) (by decide) rfl wk_66 rfl H0.1 dX7_addPin_34 ?_
      refine xr_iload_n C dX7_addPin_37 2 rfl rfl ?_
      obtain ⟨i8, hf⟩ := ck_x hf
      obtain ⟨I9, eI9, hf⟩ := bnd_x hf
      refine xr_iast C H0.2.2.1.2 i8 dX7_addPin_38 eI9 ?_
      refine xr_aload_n C dX7_addPin_39 0 rfl rfl ?_
      refine xr_getr C Kd7 (k := 4) (by decide) rfl wk_76 rfl H0.1 H0.2.2.2.1.1 dX7_addPin_40 ?_
      refine xr_aload_n C dX7_addPin_43 0 rfl rfl ?_
      refine xr_geti C Kd7 (k := 1) (by decide) rfl wk_66 rfl H0.1 dX7_addPin_44 ?_
      refine xr_iload_n C dX7_addPin_47 3 rfl rfl ?_
      obtain ⟨i10, hf⟩ := ck_x hf
      obtain ⟨I11, eI11, hf⟩ := bnd_x hf
      refine xr_iast C H0.2.2.2.1.2 i10 dX7_addPin_48 eI11 ?_
      refine xr_aload_n C dX7_addPin_49 0 rfl rfl ?_
      refine xr_getr C Kd7 (k := 5) (by decide) rfl wk_80 rfl H0.1 H0.2.2.2.2.1.1 dX7_addPin_50 ?_
      refine xr_aload_n C dX7_addPin_53 0 rfl rfl ?_
      refine xr_geti C Kd7 (k := 1) (by decide) rfl wk_66 rfl H0.1 dX7_addPin_54 ?_
      refine xr_iload C dX7_addPin_57 4 rfl ?_
      obtain ⟨i12, hf⟩ := ck_x hf
      obtain ⟨I13, eI13, hf⟩ := bnd_x hf
      refine xr_iast C H0.2.2.2.2.1.2 i12 dX7_addPin_59 eI13 ?_
      refine xr_aload_n C dX7_addPin_60 0 rfl rfl ?_
      refine xr_getr C Kd7 (k := 6) (by decide) rfl wk_84 rfl H0.1 H0.2.2.2.2.2.1 dX7_addPin_61 ?_
      refine xr_iload_n C dX7_addPin_64 2 rfl rfl ?_
      refine xr_aload_n C dX7_addPin_65 0 rfl rfl ?_
      refine xr_geti C Kd7 (k := 1) (by decide) rfl wk_66 rfl H0.1 dX7_addPin_66 ?_
      obtain ⟨i14, hf⟩ := ck_x hf
      obtain ⟨I15, eI15, hf⟩ := bnd_x hf
      refine xr_iast C H0.2.2.2.2.2.2 i14 dX7_addPin_69 eI15 ?_
      refine xr_aload_n C dX7_addPin_70 0 rfl rfl ?_
      refine xr_dup C dX7_addPin_71 rfl ?_
      refine xr_geti C Kd7 (k := 1) (by decide) rfl wk_66 rfl H0.1 dX7_addPin_72 ?_
      refine xr_iconst (v := 1) C dX7_addPin_75 (by decide) ?_
      refine xr_iadd C dX7_addPin_76 ?_
      obtain ⟨I16, eI16, hf⟩ := bnd_x hf
      refine xr_putI C Kd7 (k := 1) (by decide) rfl rfl wk_66 rfl rfl rfl H0.1 dX7_addPin_77 eI16 ?_
      exact xr_return C q dX7_addPin_80 (so_v hf)
    · refine xr_lv [] rfl ?_
      exact ebX7_addPin_18 C H0 q hf
theorem kX7_addPin {B : Bs} {h : Shp} {a0 : Nat} (H0 : TableAt h a0) {I0 : Mem} {p1 : Int32} {p2 : Int32} {p3 : Int32} {p4 : Int32} {o1 : Mem} (hf : fnX7_addPin a0 I0 p1 p2 p3 p4 = some o1) : CtrV B yX7_addPin cX7_addPin 5 1 21 0 0 [rfB B a0, .int p1, .int p2, .int p3, .int p4] (I0, h) (o1, h) := by
  refine xr_enterV (lv0 := [(0, rfB B a0), (1, .int p1), (2, .int p2), (3, .int p3), (4, .int p4)]) (by decide) (Nat.le_of_ble_eq_true rfl) rfl (fun g hg C q => ?_)
  subst hg
  exact ebX7_addPin_0 C H0 q hf
theorem dX7_pinIn_0 : decode cX7_pinIn 0 = .ok (.iload_n 1, 1) := by decide +kernel
theorem dX7_pinIn_1 : decode cX7_pinIn 1 = .ok (.bipush 41, 2) := by decide +kernel
theorem dX7_pinIn_3 : decode cX7_pinIn 3 = .ok (.invokestatic 37, 3) := by decide +kernel
theorem dX7_pinIn_6 : decode cX7_pinIn 6 = .ok (.ifCond .eq 12, 3) := by decide +kernel
theorem dX7_pinIn_9 : decode cX7_pinIn 9 = .ok (.aload_n 0, 1) := by decide +kernel
theorem dX7_pinIn_10 : decode cX7_pinIn 10 = .ok (.getfield 31, 3) := by decide +kernel
theorem dX7_pinIn_13 : decode cX7_pinIn 13 = .ok (.iload_n 1, 1) := by decide +kernel
theorem dX7_pinIn_14 : decode cX7_pinIn 14 = .ok (.iaload, 1) := by decide +kernel
theorem dX7_pinIn_15 : decode cX7_pinIn 15 = .ok (.goto 4, 3) := by decide +kernel
theorem dX7_pinIn_18 : decode cX7_pinIn 18 = .ok (.iconst (-1), 1) := by decide +kernel
theorem dX7_pinIn_19 : decode cX7_pinIn 19 = .ok (.ireturn, 1) := by decide +kernel
/-! BumperBalls$Table.pinIn(I)I -/
def fnX7_pinIn_19 (a0 : Nat) (I0 : Mem) (t0 : Int32) : Option (Int32 × Mem) :=
  some (t0, I0)
set_option maxRecDepth 20000 in
set_option maxHeartbeats 2000000 in
theorem ebX7_pinIn_19 {g : Cfg} (C : Cx g RX7 cX7_pinIn 2 1 21 0 0) {h : Shp} {a0 : Nat} (H0 : TableAt h a0) {r1 : Int32} {o1 : Mem} (q : QI g (some Jvm.ClassFile.FieldType.int) 0 0 r1 (o1, h)) {I0 : Mem} {t0 : Int32} (hf : fnX7_pinIn_19 a0 I0 t0 = some (r1, o1)) : XE g 0 0 (I0, h) 19 [] [.int t0] := by
  unfold fnX7_pinIn_19 at hf
  exact xr_ireturn C q rfl rfl dX7_pinIn_19 (so_1 hf) (so_w hf)
def fnX7_pinIn (a0 : Nat) (I0 : Mem) (p1 : Int32) : Option (Int32 × Mem) :=
  ob (fnX9_isUpTo I0 p1 41) fun ⟨r3, I2⟩ => if r3 = 0 then (fnX7_pinIn_19 a0 I2 (-1)) else (ck (inb p1 42) <| fnX7_pinIn_19 a0 I2 (I2 (a0 + 5) (ix p1)))
set_option maxRecDepth 20000 in
set_option maxHeartbeats 2000000 in
theorem ebX7_pinIn_0 {g : Cfg} (C : Cx g RX7 cX7_pinIn 2 1 21 0 0) {h : Shp} {a0 : Nat} (H0 : TableAt h a0) {r1 : Int32} {o1 : Mem} (q : QI g (some Jvm.ClassFile.FieldType.int) 0 0 r1 (o1, h)) {I0 : Mem} {p1 : Int32} (hf : fnX7_pinIn a0 I0 p1 = some (r1, o1)) : XE g 0 0 (I0, h) 0 [(0, rf g a0), (1, .int p1)] [] := by
  unfold fnX7_pinIn at hf
  refine xr_iload_n C dX7_pinIn_0 1 rfl rfl ?_
  refine xr_bipush (v := 41) C dX7_pinIn_1 (by decide) ?_
  obtain ⟨⟨r3, I2⟩, h1, hf⟩ := ob_x hf
  refine xr_callSNI C [.int p1, .int 41] lkX7_37 (kX9_isUpTo h1) rfl (Nat.le_of_ble_eq_true rfl) rfl dX7_pinIn_3 ⟨by decide, by decide, by decide⟩ rfl ?_
  refine xr_if_eq (tgt := 18) C dX7_pinIn_6 (by decide) hf (fun c4 hf => ?_) (fun c4 hf => ?_)
  · refine xr_iconst (v := (-1)) C dX7_pinIn_18 (by decide) ?_
    refine xr_lv [] rfl ?_
    exact ebX7_pinIn_19 C H0 q hf
  · refine xr_aload_n C dX7_pinIn_9 0 rfl rfl ?_
    refine xr_getr C Kd7 (k := 6) (by decide) rfl wk_84 rfl H0.1 H0.2.2.2.2.2.1 dX7_pinIn_10 ?_
    refine xr_iload_n C dX7_pinIn_13 1 rfl rfl ?_
    obtain ⟨i5, hf⟩ := ck_x hf
    refine xr_iald C H0.2.2.2.2.2.2 i5 dX7_pinIn_14 ?_
    refine xr_goto (tgt := 19) C dX7_pinIn_15 (by decide) ?_
    refine xr_lv [] rfl ?_
    exact ebX7_pinIn_19 C H0 q hf
theorem kX7_pinIn {B : Bs} {h : Shp} {a0 : Nat} (H0 : TableAt h a0) {I0 : Mem} {p1 : Int32} {r1 : Int32} {o1 : Mem} (hf : fnX7_pinIn a0 I0 p1 = some (r1, o1)) : CtrI B yX7_pinIn cX7_pinIn 2 (some Jvm.ClassFile.FieldType.int) 1 21 0 0 [rfB B a0, .int p1] (I0, h) r1 (o1, h) := by
  refine xr_enterI (lv0 := [(0, rfB B a0), (1, .int p1)]) (by decide) (Nat.le_of_ble_eq_true rfl) rfl (fun g hg C q => ?_)
  subst hg
  exact ebX7_pinIn_0 C H0 q hf
theorem dX7_become_0 : decode cX7_become 0 = .ok (.aload_n 0, 1) := by decide +kernel
theorem dX7_become_1 : decode cX7_become 1 = .ok (.aload_n 1, 1) := by decide +kernel
theorem dX7_become_2 : decode cX7_become 2 = .ok (.getfield 9, 3) := by decide +kernel
theorem dX7_become_5 : decode cX7_become 5 = .ok (.putfield 9, 3) := by decide +kernel
theorem dX7_become_8 : decode cX7_become 8 = .ok (.aload_n 0, 1) := by decide +kernel
theorem dX7_become_9 : decode cX7_become 9 = .ok (.aload_n 1, 1) := by decide +kernel
theorem dX7_become_10 : decode cX7_become 10 = .ok (.getfield 15, 3) := by decide +kernel
theorem dX7_become_13 : decode cX7_become 13 = .ok (.putfield 15, 3) := by decide +kernel
theorem dX7_become_16 : decode cX7_become 16 = .ok (.aload_n 1, 1) := by decide +kernel
theorem dX7_become_17 : decode cX7_become 17 = .ok (.getfield 18, 3) := by decide +kernel
theorem dX7_become_20 : decode cX7_become 20 = .ok (.iconst 0, 1) := by decide +kernel
theorem dX7_become_21 : decode cX7_become 21 = .ok (.aload_n 0, 1) := by decide +kernel
theorem dX7_become_22 : decode cX7_become 22 = .ok (.getfield 18, 3) := by decide +kernel
theorem dX7_become_25 : decode cX7_become 25 = .ok (.iconst 0, 1) := by decide +kernel
theorem dX7_become_26 : decode cX7_become 26 = .ok (.bipush 6, 2) := by decide +kernel
theorem dX7_become_28 : decode cX7_become 28 = .ok (.invokestatic 41, 3) := by decide +kernel
theorem dX7_become_31 : decode cX7_become 31 = .ok (.aload_n 1, 1) := by decide +kernel
theorem dX7_become_32 : decode cX7_become 32 = .ok (.getfield 22, 3) := by decide +kernel
theorem dX7_become_35 : decode cX7_become 35 = .ok (.iconst 0, 1) := by decide +kernel
theorem dX7_become_36 : decode cX7_become 36 = .ok (.aload_n 0, 1) := by decide +kernel
theorem dX7_become_37 : decode cX7_become 37 = .ok (.getfield 22, 3) := by decide +kernel
theorem dX7_become_40 : decode cX7_become 40 = .ok (.iconst 0, 1) := by decide +kernel
theorem dX7_become_41 : decode cX7_become 41 = .ok (.bipush 6, 2) := by decide +kernel
theorem dX7_become_43 : decode cX7_become 43 = .ok (.invokestatic 41, 3) := by decide +kernel
theorem dX7_become_46 : decode cX7_become 46 = .ok (.aload_n 1, 1) := by decide +kernel
theorem dX7_become_47 : decode cX7_become 47 = .ok (.getfield 25, 3) := by decide +kernel
theorem dX7_become_50 : decode cX7_become 50 = .ok (.iconst 0, 1) := by decide +kernel
theorem dX7_become_51 : decode cX7_become 51 = .ok (.aload_n 0, 1) := by decide +kernel
theorem dX7_become_52 : decode cX7_become 52 = .ok (.getfield 25, 3) := by decide +kernel
theorem dX7_become_55 : decode cX7_become 55 = .ok (.iconst 0, 1) := by decide +kernel
theorem dX7_become_56 : decode cX7_become 56 = .ok (.bipush 6, 2) := by decide +kernel
theorem dX7_become_58 : decode cX7_become 58 = .ok (.invokestatic 41, 3) := by decide +kernel
theorem dX7_become_61 : decode cX7_become 61 = .ok (.aload_n 1, 1) := by decide +kernel
theorem dX7_become_62 : decode cX7_become 62 = .ok (.getfield 28, 3) := by decide +kernel
theorem dX7_become_65 : decode cX7_become 65 = .ok (.iconst 0, 1) := by decide +kernel
theorem dX7_become_66 : decode cX7_become 66 = .ok (.aload_n 0, 1) := by decide +kernel
theorem dX7_become_67 : decode cX7_become 67 = .ok (.getfield 28, 3) := by decide +kernel
theorem dX7_become_70 : decode cX7_become 70 = .ok (.iconst 0, 1) := by decide +kernel
theorem dX7_become_71 : decode cX7_become 71 = .ok (.bipush 6, 2) := by decide +kernel
theorem dX7_become_73 : decode cX7_become 73 = .ok (.invokestatic 41, 3) := by decide +kernel
theorem dX7_become_76 : decode cX7_become 76 = .ok (.aload_n 1, 1) := by decide +kernel
theorem dX7_become_77 : decode cX7_become 77 = .ok (.getfield 31, 3) := by decide +kernel
theorem dX7_become_80 : decode cX7_become 80 = .ok (.iconst 0, 1) := by decide +kernel
theorem dX7_become_81 : decode cX7_become 81 = .ok (.aload_n 0, 1) := by decide +kernel
theorem dX7_become_82 : decode cX7_become 82 = .ok (.getfield 31, 3) := by decide +kernel
theorem dX7_become_85 : decode cX7_become 85 = .ok (.iconst 0, 1) := by decide +kernel
theorem dX7_become_86 : decode cX7_become 86 = .ok (.bipush 42, 2) := by decide +kernel
theorem dX7_become_88 : decode cX7_become 88 = .ok (.invokestatic 41, 3) := by decide +kernel
theorem dX7_become_91 : decode cX7_become 91 = .ok (.return_, 1) := by decide +kernel
/-! BumperBalls$Table.become(LBumperBalls$Table;)V -/
def fnX7_become (a0 : Nat) (a1 : Nat) (I0 : Mem) : Option Mem :=
  bnd (up2 I0 a0 0 (I0 a1 0)) fun I1 => bnd (up2 I1 a0 1 (I1 a1 1)) fun I2 => ck (spn 0 6 6) <| ck (spn 0 6 6) <| bnd (cpy I2 (a1 + 1) (a0 + 1) 0 0 6) fun I5 => ck (spn 0 6 6) <| ck (spn 0 6 6) <| bnd (cpy I5 (a1 + 2) (a0 + 2) 0 0 6) fun I8 => ck (spn 0 6 6) <| ck (spn 0 6 6) <| bnd (cpy I8 (a1 + 3) (a0 + 3) 0 0 6) fun I11 => ck (spn 0 6 6) <| ck (spn 0 6 6) <| bnd (cpy I11 (a1 + 4) (a0 + 4) 0 0 6) fun I14 => ck (spn 0 42 42) <| ck (spn 0 42 42) <| bnd (cpy I14 (a1 + 5) (a0 + 5) 0 0 42) fun I17 => some I17
set_option maxRecDepth 20000 in
set_option maxHeartbeats 2000000 in
theorem ebX7_become_0 {g : Cfg} (C : Cx g RX7 cX7_become 2 1 39 0 0) {h : Shp} {a0 : Nat} {a1 : Nat} (H0 : TableAt h a0) (H1 : TableAt h a1) {o1 : Mem} (q : QV g 0 0 (o1, h)) {I0 : Mem} (hf : fnX7_become a0 a1 I0 = some o1) : XE g 0 0 (I0, h) 0 [(0, rf g a0), (1, rf g a1)] [] := by
  unfold fnX7_become at hf
  refine xr_aload_n C dX7_become_0 0 rfl rfl ?_
  refine xr_aload_n C dX7_become_1 1 rfl rfl ?_
  refine xr_geti C Kd7 (k := 0) (by decide) rfl wk_63 rfl H1.1 dX7_become_2 ?_
  obtain ⟨I1, eI1, hf⟩ := bnd_x hf
  refine xr_putI C Kd7 (k := 0) (by decide) rfl rfl wk_63 rfl rfl rfl H0.1 dX7_become_5 eI1 ?_
  refine xr_aload_n C dX7_become_8 0 rfl rfl ?_
  refine xr_aload_n C dX7_become_9 1 rfl rfl ?_
  refine xr_geti C Kd7 (k := 1) (by decide) rfl wk_66 rfl H1.1 dX7_become_10 ?_
  obtain ⟨I2, eI2, hf⟩ := bnd_x hf
  refine xr_putI C Kd7 (k := 1) (by decide) rfl rfl wk_66 rfl rfl rfl H0.1 dX7_become_13 eI2 ?_
  refine xr_aload_n C dX7_become_16 1 rfl rfl ?_
  refine xr_getr C Kd7 (k := 2) (by decide) rfl wk_70 rfl H1.1 H1.2.1.1 dX7_become_17 ?_
  refine xr_iconst (v := 0) C dX7_become_20 (by decide) ?_
  refine xr_aload_n C dX7_become_21 0 rfl rfl ?_
  refine xr_getr C Kd7 (k := 2) (by decide) rfl wk_70 rfl H0.1 H0.2.1.1 dX7_become_22 ?_
  refine xr_iconst (v := 0) C dX7_become_25 (by decide) ?_
  refine xr_bipush (v := 6) C dX7_become_26 (by decide) ?_
  obtain ⟨s3, hf⟩ := ck_x hf
  obtain ⟨s4, hf⟩ := ck_x hf
  obtain ⟨I5, eI5, hf⟩ := bnd_x hf
  refine xr_copy C wk_542 wk_388 wk_387 wk_12 H1.2.1.2 H0.2.1.2 s3 s4 (by decide) (Nat.le_of_ble_eq_true rfl) dX7_become_28 eI5 ?_
  refine xr_aload_n C dX7_become_31 1 rfl rfl ?_
  refine xr_getr C Kd7 (k := 3) (by decide) rfl wk_74 rfl H1.1 H1.2.2.1.1 dX7_become_32 ?_
  refine xr_iconst (v := 0) C dX7_become_35 (by decide) ?_
  refine xr_aload_n C dX7_become_36 0 rfl rfl ?_
  refine xr_getr C Kd7 (k := 3) (by decide) rfl wk_74 rfl H0.1 H0.2.2.1.1 dX7_become_37 ?_
  refine xr_iconst (v := 0) C dX7_become_40 (by decide) ?_
  refine xr_bipush (v := 6) C dX7_become_41 (by decide) ?_
  obtain ⟨s6, hf⟩ := ck_x hf
  obtain ⟨s7, hf⟩ := ck_x hf
  obtain ⟨I8, eI8, hf⟩ := bnd_x hf
  refine xr_copy C wk_542 wk_388 wk_387 wk_12 H1.2.2.1.2 H0.2.2.1.2 s6 s7 (by decide) (Nat.le_of_ble_eq_true rfl) dX7_become_43 eI8 ?_
  refine xr_aload_n C dX7_become_46 1 rfl rfl ?_
  refine xr_getr C Kd7 (k := 4) (by decide) rfl wk_76 rfl H1.1 H1.2.2.2.1.1 dX7_become_47 ?_
  refine xr_iconst (v := 0) C dX7_become_50 (by decide) ?_
  refine xr_aload_n C dX7_become_51 0 rfl rfl ?_
  refine xr_getr C Kd7 (k := 4) (by decide) rfl wk_76 rfl H0.1 H0.2.2.2.1.1 dX7_become_52 ?_
  refine xr_iconst (v := 0) C dX7_become_55 (by decide) ?_
  refine xr_bipush (v := 6) C dX7_become_56 (by decide) ?_
  obtain ⟨s9, hf⟩ := ck_x hf
  obtain ⟨s10, hf⟩ := ck_x hf
  obtain ⟨I11, eI11, hf⟩ := bnd_x hf
  refine xr_copy C wk_542 wk_388 wk_387 wk_12 H1.2.2.2.1.2 H0.2.2.2.1.2 s9 s10 (by decide) (Nat.le_of_ble_eq_true rfl) dX7_become_58 eI11 ?_
  refine xr_aload_n C dX7_become_61 1 rfl rfl ?_
  refine xr_getr C Kd7 (k := 5) (by decide) rfl wk_80 rfl H1.1 H1.2.2.2.2.1.1 dX7_become_62 ?_
  refine xr_iconst (v := 0) C dX7_become_65 (by decide) ?_
  refine xr_aload_n C dX7_become_66 0 rfl rfl ?_
  refine xr_getr C Kd7 (k := 5) (by decide) rfl wk_80 rfl H0.1 H0.2.2.2.2.1.1 dX7_become_67 ?_
  refine xr_iconst (v := 0) C dX7_become_70 (by decide) ?_
  refine xr_bipush (v := 6) C dX7_become_71 (by decide) ?_
  obtain ⟨s12, hf⟩ := ck_x hf
  obtain ⟨s13, hf⟩ := ck_x hf
  obtain ⟨I14, eI14, hf⟩ := bnd_x hf
  refine xr_copy C wk_542 wk_388 wk_387 wk_12 H1.2.2.2.2.1.2 H0.2.2.2.2.1.2 s12 s13 (by decide) (Nat.le_of_ble_eq_true rfl) dX7_become_73 eI14 ?_
  refine xr_aload_n C dX7_become_76 1 rfl rfl ?_
  refine xr_getr C Kd7 (k := 6) (by decide) rfl wk_84 rfl H1.1 H1.2.2.2.2.2.1 dX7_become_77 ?_
  refine xr_iconst (v := 0) C dX7_become_80 (by decide) ?_
  refine xr_aload_n C dX7_become_81 0 rfl rfl ?_
  refine xr_getr C Kd7 (k := 6) (by decide) rfl wk_84 rfl H0.1 H0.2.2.2.2.2.1 dX7_become_82 ?_
  refine xr_iconst (v := 0) C dX7_become_85 (by decide) ?_
  refine xr_bipush (v := 42) C dX7_become_86 (by decide) ?_
  obtain ⟨s15, hf⟩ := ck_x hf
  obtain ⟨s16, hf⟩ := ck_x hf
  obtain ⟨I17, eI17, hf⟩ := bnd_x hf
  refine xr_copy C wk_542 wk_388 wk_387 wk_12 H1.2.2.2.2.2.2 H0.2.2.2.2.2.2 s15 s16 (by decide) (Nat.le_of_ble_eq_true rfl) dX7_become_88 eI17 ?_
  exact xr_return C q dX7_become_91 (so_v hf)
theorem kX7_become {B : Bs} {h : Shp} {a0 : Nat} {a1 : Nat} (H0 : TableAt h a0) (H1 : TableAt h a1) {I0 : Mem} {o1 : Mem} (hf : fnX7_become a0 a1 I0 = some o1) : CtrV B yX7_become cX7_become 2 1 39 0 0 [rfB B a0, rfB B a1] (I0, h) (o1, h) := by
  refine xr_enterV (lv0 := [(0, rfB B a0), (1, rfB B a1)]) (by decide) (Nat.le_of_ble_eq_true rfl) rfl (fun g hg C q => ?_)
  subst hg
  exact ebX7_become_0 C H0 H1 q hf
theorem dX4_place_0 : decode cX4_place 0 = .ok (.aload_n 0, 1) := by decide +kernel
theorem dX4_place_1 : decode cX4_place 1 = .ok (.iload_n 1, 1) := by decide +kernel
theorem dX4_place_2 : decode cX4_place 2 = .ok (.putfield 9, 3) := by decide +kernel
theorem dX4_place_5 : decode cX4_place 5 = .ok (.aload_n 0, 1) := by decide +kernel
theorem dX4_place_6 : decode cX4_place 6 = .ok (.iload_n 2, 1) := by decide +kernel
theorem dX4_place_7 : decode cX4_place 7 = .ok (.putfield 15, 3) := by decide +kernel
theorem dX4_place_10 : decode cX4_place 10 = .ok (.aload_n 0, 1) := by decide +kernel
theorem dX4_place_11 : decode cX4_place 11 = .ok (.iconst 0, 1) := by decide +kernel
theorem dX4_place_12 : decode cX4_place 12 = .ok (.putfield 18, 3) := by decide +kernel
theorem dX4_place_15 : decode cX4_place 15 = .ok (.aload_n 0, 1) := by decide +kernel
theorem dX4_place_16 : decode cX4_place 16 = .ok (.iconst 0, 1) := by decide +kernel
theorem dX4_place_17 : decode cX4_place 17 = .ok (.putfield 22, 3) := by decide +kernel
theorem dX4_place_20 : decode cX4_place 20 = .ok (.return_, 1) := by decide +kernel
/-! BumperBalls$Play.place(II)V -/
def fnX4_place (a0 : Nat) (I0 : Mem) (p1 : Int32) (p2 : Int32) : Option Mem :=
  bnd (up2 I0 a0 0 p1) fun I1 => bnd (up2 I1 a0 1 p2) fun I2 => bnd (up2 I2 a0 2 0) fun I3 => bnd (up2 I3 a0 3 0) fun I4 => some I4
set_option maxRecDepth 20000 in
set_option maxHeartbeats 2000000 in
theorem ebX4_place_0 {g : Cfg} (C : Cx g RX4 cX4_place 3 0 0 0 0) {h : Shp} {a0 : Nat} (H0 : PlayAt h a0) {o1 : Mem} (q : QV g 0 0 (o1, h)) {I0 : Mem} {p1 : Int32} {p2 : Int32} (hf : fnX4_place a0 I0 p1 p2 = some o1) : XE g 0 0 (I0, h) 0 [(0, rf g a0), (1, .int p1), (2, .int p2)] [] := by
  unfold fnX4_place at hf
  refine xr_aload_n C dX4_place_0 0 rfl rfl ?_
  refine xr_iload_n C dX4_place_1 1 rfl rfl ?_
  obtain ⟨I1, eI1, hf⟩ := bnd_x hf
  refine xr_putI C Kd4 (k := 0) (by decide) rfl rfl wk_145 rfl rfl rfl H0.1 dX4_place_2 eI1 ?_
  refine xr_aload_n C dX4_place_5 0 rfl rfl ?_
  refine xr_iload_n C dX4_place_6 2 rfl rfl ?_
  obtain ⟨I2, eI2, hf⟩ := bnd_x hf
  refine xr_putI C Kd4 (k := 1) (by decide) rfl rfl wk_148 rfl rfl rfl H0.1 dX4_place_7 eI2 ?_
  refine xr_aload_n C dX4_place_10 0 rfl rfl ?_
  refine xr_iconst (v := 0) C dX4_place_11 (by decide) ?_
  obtain ⟨I3, eI3, hf⟩ := bnd_x hf
  refine xr_putI C Kd4 (k := 2) (by decide) rfl rfl wk_151 rfl rfl rfl H0.1 dX4_place_12 eI3 ?_
  refine xr_aload_n C dX4_place_15 0 rfl rfl ?_
  refine xr_iconst (v := 0) C dX4_place_16 (by decide) ?_
  obtain ⟨I4, eI4, hf⟩ := bnd_x hf
  refine xr_putI C Kd4 (k := 3) (by decide) rfl rfl wk_154 rfl rfl rfl H0.1 dX4_place_17 eI4 ?_
  exact xr_return C q dX4_place_20 (so_v hf)
theorem kX4_place {B : Bs} {h : Shp} {a0 : Nat} (H0 : PlayAt h a0) {I0 : Mem} {p1 : Int32} {p2 : Int32} {o1 : Mem} (hf : fnX4_place a0 I0 p1 p2 = some o1) : CtrV B yX4_place cX4_place 3 0 0 0 0 [rfB B a0, .int p1, .int p2] (I0, h) (o1, h) := by
  refine xr_enterV (lv0 := [(0, rfB B a0), (1, .int p1), (2, .int p2)]) (by decide) (Nat.le_of_ble_eq_true rfl) rfl (fun g hg C q => ?_)
  subst hg
  exact ebX4_place_0 C H0 q hf
theorem dX4_begin_0 : decode cX4_begin 0 = .ok (.aload_n 0, 1) := by decide +kernel
theorem dX4_begin_1 : decode cX4_begin 1 = .ok (.iload_n 1, 1) := by decide +kernel
theorem dX4_begin_2 : decode cX4_begin 2 = .ok (.iload_n 2, 1) := by decide +kernel
theorem dX4_begin_3 : decode cX4_begin 3 = .ok (.invokevirtual 44, 3) := by decide +kernel
theorem dX4_begin_6 : decode cX4_begin 6 = .ok (.aload_n 0, 1) := by decide +kernel
theorem dX4_begin_7 : decode cX4_begin 7 = .ok (.iconst 0, 1) := by decide +kernel
theorem dX4_begin_8 : decode cX4_begin 8 = .ok (.putfield 25, 3) := by decide +kernel
theorem dX4_begin_11 : decode cX4_begin 11 = .ok (.aload_n 0, 1) := by decide +kernel
theorem dX4_begin_12 : decode cX4_begin 12 = .ok (.iconst (-1), 1) := by decide +kernel
theorem dX4_begin_13 : decode cX4_begin 13 = .ok (.putfield 28, 3) := by decide +kernel
theorem dX4_begin_16 : decode cX4_begin 16 = .ok (.aload_n 0, 1) := by decide +kernel
theorem dX4_begin_17 : decode cX4_begin 17 = .ok (.iconst 0, 1) := by decide +kernel
theorem dX4_begin_18 : decode cX4_begin 18 = .ok (.putfield 31, 3) := by decide +kernel
theorem dX4_begin_21 : decode cX4_begin 21 = .ok (.aload_n 0, 1) := by decide +kernel
theorem dX4_begin_22 : decode cX4_begin 22 = .ok (.iconst 0, 1) := by decide +kernel
theorem dX4_begin_23 : decode cX4_begin 23 = .ok (.putfield 34, 3) := by decide +kernel
theorem dX4_begin_26 : decode cX4_begin 26 = .ok (.iconst 0, 1) := by decide +kernel
theorem dX4_begin_27 : decode cX4_begin 27 = .ok (.istore_n 3, 1) := by decide +kernel
theorem dX4_begin_28 : decode cX4_begin 28 = .ok (.iload_n 3, 1) := by decide +kernel
theorem dX4_begin_29 : decode cX4_begin 29 = .ok (.bipush 6, 2) := by decide +kernel
theorem dX4_begin_31 : decode cX4_begin 31 = .ok (.if_icmp .ge 16, 3) := by decide +kernel
theorem dX4_begin_34 : decode cX4_begin 34 = .ok (.aload_n 0, 1) := by decide +kernel
theorem dX4_begin_35 : decode cX4_begin 35 = .ok (.getfield 37, 3) := by decide +kernel
theorem dX4_begin_38 : decode cX4_begin 38 = .ok (.iload_n 3, 1) := by decide +kernel
theorem dX4_begin_39 : decode cX4_begin 39 = .ok (.iconst 0, 1) := by decide +kernel
theorem dX4_begin_40 : decode cX4_begin 40 = .ok (.iastore, 1) := by decide +kernel
theorem dX4_begin_41 : decode cX4_begin 41 = .ok (.iinc 3 1, 3) := by decide +kernel
theorem dX4_begin_44 : decode cX4_begin 44 = .ok (.goto (-16), 3) := by decide +kernel
theorem dX4_begin_47 : decode cX4_begin 47 = .ok (.return_, 1) := by decide +kernel
theorem lkX4_44 : LkV "BumperBalls$Play" 44 yX4_place cX4_place 3 none 2 := ⟨wk_550, wk_5, wk_549, wk_s26, ⟨by decide +kernel, by decide +kernel, by decide +kernel⟩, wk_547⟩
/-! BumperBalls$Play.begin(II)V -/
def fnX4_begin_28b (a0 : Nat) (rec28 : Mem → Int32 → Option Mem) (I0 : Mem) (l3 : Int32) : Option Mem :=
  if 6 ≤ l3 then (some I0) else (ck (inb l3 6) <| bnd (up2 I0 (a0 + 1) (ix l3) 0) fun I3 => bnd (l3 + 1) fun v4 => rec28 I3 v4)
def fnX4_begin_28 (a0 : Nat) : Nat → Mem → Int32 → Option Mem
  | 0 => fun _ _ => none
  | fu + 1 => fnX4_begin_28b a0 (fnX4_begin_28 a0 fu)
set_option maxRecDepth 20000 in
set_option maxHeartbeats 2000000 in
theorem ebX4_begin_28b {g : Cfg} (C : Cx g RX4 cX4_begin 4 1 22 0 0) {h : Shp} {a0 : Nat} (H0 : PlayAt h a0) {o1 : Mem} {rec28 : Mem → Int32 → Option Mem} (q : QV g 0 0 (o1, h)) (ih28 : ∀ (I0 : Mem) (l3 : Int32), rec28 I0 l3 = some o1 → XE g 0 0 (I0, h) 28 [(0, rf g a0), (3, .int l3)] []) {I0 : Mem} {l3 : Int32} (hf : fnX4_begin_28b a0 rec28 I0 l3 = some o1) : XE g 0 0 (I0, h) 28 [(0, rf g a0), (3, .int l3)] [] := by
  unfold fnX4_begin_28b at hf
  refine xr_iload_n C dX4_begin_28 1 rfl rfl ?_
  refine xr_bipush (v := 6) C dX4_begin_29 (by decide) ?_
  refine xr_icmp_ge (tgt := 47) C dX4_begin_31 (by decide) hf (fun c1 hf => ?_) (fun c1 hf => ?_)
  · exact xr_return C q dX4_begin_47 (so_v hf)
  · refine xr_aload_n C dX4_begin_34 0 rfl rfl ?_
    refine xr_getr C Kd4 (k := 8) (by decide) rfl wk_165 rfl H0.1 H0.2.1 dX4_begin_35 ?_
    refine xr_iload_n C dX4_begin_38 1 rfl rfl ?_
    refine xr_iconst (v := 0) C dX4_begin_39 (by decide) ?_
    obtain ⟨i2, hf⟩ := ck_x hf
    obtain ⟨I3, eI3, hf⟩ := bnd_x hf
    refine xr_iast C H0.2.2 i2 dX4_begin_40 eI3 ?_
    obtain ⟨v4, ev4, hf⟩ := bnd_x hf
    refine xr_iinc (k := 1) (v := v4) C dX4_begin_41 rfl (by rw [ev4]; rfl) (by decide) rfl ?_
    refine xr_goto (tgt := 28) C dX4_begin_44 (by decide) ?_
    refine xr_lv [1, 0] rfl ?_
    exact ih28 _ _ hf
theorem ebX4_begin_28 {g : Cfg} (C : Cx g RX4 cX4_begin 4 1 22 0 0) {h : Shp} {a0 : Nat} (H0 : PlayAt h a0) {o1 : Mem} (q : QV g 0 0 (o1, h)) : ∀ (fu : Nat) {I0 : Mem} {l3 : Int32} (hf : fnX4_begin_28 a0 fu I0 l3 = some o1), XE g 0 0 (I0, h) 28 [(0, rf g a0), (3, .int l3)] [] := by
  intro fu
  induction fu with
  | zero =>
    intro I0 l3 hf
    cases hf
  | succ fu ihn =>
    intro I0 l3 hf
    exact ebX4_begin_28b C H0 q (fun _ _ hf => ihn hf) hf
def fnX4_begin (a0 : Nat) (I0 : Mem) (p1 : Int32) (p2 : Int32) : Option Mem :=
  ob (fnX4_place a0 I0 p1 p2) fun I2 => bnd (up2 I2 a0 4 0) fun I3 => bnd (up2 I3 a0 5 (-1)) fun I4 => bnd (up2 I4 a0 6 0) fun I5 => bnd (up2 I5 a0 7 0) fun I6 => fnX4_begin_28 a0 FU I6 0
set_option maxRecDepth 20000 in
set_option maxHeartbeats 2000000 in
theorem ebX4_begin_0 {g : Cfg} (C : Cx g RX4 cX4_begin 4 1 22 0 0) {h : Shp} {a0 : Nat} (H0 : PlayAt h a0) {o1 : Mem} (q : QV g 0 0 (o1, h)) {I0 : Mem} {p1 : Int32} {p2 : Int32} (hf : fnX4_begin a0 I0 p1 p2 = some o1) : XE g 0 0 (I0, h) 0 [(0, rf g a0), (1, .int p1), (2, .int p2)] [] := by
  unfold fnX4_begin at hf
  refine xr_aload_n C dX4_begin_0 0 rfl rfl ?_
  refine xr_iload_n C dX4_begin_1 1 rfl rfl ?_
  refine xr_iload_n C dX4_begin_2 2 rfl rfl ?_
  obtain ⟨I2, h1, hf⟩ := ob_x hf
  refine xr_callVV C [.int p1, .int p2] lkX4_44 (kX4_place H0 h1) Kd4 rfl H0.1 rfl (Nat.le_of_ble_eq_true rfl) rfl dX4_begin_3 ⟨by decide, by decide, by decide⟩ rfl ?_
  refine xr_aload_n C dX4_begin_6 0 rfl rfl ?_
  refine xr_iconst (v := 0) C dX4_begin_7 (by decide) ?_
  obtain ⟨I3, eI3, hf⟩ := bnd_x hf
  refine xr_putI C Kd4 (k := 4) (by decide) rfl rfl wk_156 rfl rfl rfl H0.1 dX4_begin_8 eI3 ?_
  refine xr_aload_n C dX4_begin_11 0 rfl rfl ?_
  refine xr_iconst (v := (-1)) C dX4_begin_12 (by decide) ?_
  obtain ⟨I4, eI4, hf⟩ := bnd_x hf
  refine xr_putI C Kd4 (k := 5) (by decide) rfl rfl wk_158 rfl rfl rfl H0.1 dX4_begin_13 eI4 ?_
  refine xr_aload_n C dX4_begin_16 0 rfl rfl ?_
  refine xr_iconst (v := 0) C dX4_begin_17 (by decide) ?_
  obtain ⟨I5, eI5, hf⟩ := bnd_x hf
  refine xr_putI C Kd4 (k := 6) (by decide) rfl rfl wk_160 rfl rfl rfl H0.1 dX4_begin_18 eI5 ?_
  refine xr_aload_n C dX4_begin_21 0 rfl rfl ?_
  refine xr_iconst (v := 0) C dX4_begin_22 (by decide) ?_
  obtain ⟨I6, eI6, hf⟩ := bnd_x hf
  refine xr_putI C Kd4 (k := 7) (by decide) rfl rfl wk_163 rfl rfl rfl H0.1 dX4_begin_23 eI6 ?_
  refine xr_iconst (v := 0) C dX4_begin_26 (by decide) ?_
  refine xr_istore_n C dX4_begin_27 rfl (by decide) rfl ?_
  refine xr_lv [1, 0] rfl ?_
  exact ebX4_begin_28 C H0 q _ hf
theorem kX4_begin {B : Bs} {h : Shp} {a0 : Nat} (H0 : PlayAt h a0) {I0 : Mem} {p1 : Int32} {p2 : Int32} {o1 : Mem} (hf : fnX4_begin a0 I0 p1 p2 = some o1) : CtrV B yX4_begin cX4_begin 4 1 22 0 0 [rfB B a0, .int p1, .int p2] (I0, h) (o1, h) := by
  refine xr_enterV (lv0 := [(0, rfB B a0), (1, .int p1), (2, .int p2)]) (by decide) (Nat.le_of_ble_eq_true rfl) rfl (fun g hg C q => ?_)
  subst hg
  exact ebX4_begin_0 C H0 q hf
theorem dX4_become_0 : decode cX4_become 0 = .ok (.aload_n 0, 1) := by decide +kernel
theorem dX4_become_1 : decode cX4_become 1 = .ok (.aload_n 1, 1) := by decide +kernel
theorem dX4_become_2 : decode cX4_become 2 = .ok (.getfield 9, 3) := by decide +kernel
theorem dX4_become_5 : decode cX4_become 5 = .ok (.putfield 9, 3) := by decide +kernel
theorem dX4_become_8 : decode cX4_become 8 = .ok (.aload_n 0, 1) := by decide +kernel
theorem dX4_become_9 : decode cX4_become 9 = .ok (.aload_n 1, 1) := by decide +kernel
theorem dX4_become_10 : decode cX4_become 10 = .ok (.getfield 15, 3) := by decide +kernel
theorem dX4_become_13 : decode cX4_become 13 = .ok (.putfield 15, 3) := by decide +kernel
theorem dX4_become_16 : decode cX4_become 16 = .ok (.aload_n 0, 1) := by decide +kernel
theorem dX4_become_17 : decode cX4_become 17 = .ok (.aload_n 1, 1) := by decide +kernel
theorem dX4_become_18 : decode cX4_become 18 = .ok (.getfield 18, 3) := by decide +kernel
theorem dX4_become_21 : decode cX4_become 21 = .ok (.putfield 18, 3) := by decide +kernel
theorem dX4_become_24 : decode cX4_become 24 = .ok (.aload_n 0, 1) := by decide +kernel
theorem dX4_become_25 : decode cX4_become 25 = .ok (.aload_n 1, 1) := by decide +kernel
theorem dX4_become_26 : decode cX4_become 26 = .ok (.getfield 22, 3) := by decide +kernel
theorem dX4_become_29 : decode cX4_become 29 = .ok (.putfield 22, 3) := by decide +kernel
theorem dX4_become_32 : decode cX4_become 32 = .ok (.aload_n 0, 1) := by decide +kernel
theorem dX4_become_33 : decode cX4_become 33 = .ok (.aload_n 1, 1) := by decide +kernel
theorem dX4_become_34 : decode cX4_become 34 = .ok (.getfield 25, 3) := by decide +kernel
theorem dX4_become_37 : decode cX4_become 37 = .ok (.putfield 25, 3) := by decide +kernel
theorem dX4_become_40 : decode cX4_become 40 = .ok (.aload_n 0, 1) := by decide +kernel
theorem dX4_become_41 : decode cX4_become 41 = .ok (.aload_n 1, 1) := by decide +kernel
theorem dX4_become_42 : decode cX4_become 42 = .ok (.getfield 28, 3) := by decide +kernel
theorem dX4_become_45 : decode cX4_become 45 = .ok (.putfield 28, 3) := by decide +kernel
theorem dX4_become_48 : decode cX4_become 48 = .ok (.aload_n 0, 1) := by decide +kernel
theorem dX4_become_49 : decode cX4_become 49 = .ok (.aload_n 1, 1) := by decide +kernel
theorem dX4_become_50 : decode cX4_become 50 = .ok (.getfield 31, 3) := by decide +kernel
theorem dX4_become_53 : decode cX4_become 53 = .ok (.putfield 31, 3) := by decide +kernel
theorem dX4_become_56 : decode cX4_become 56 = .ok (.aload_n 0, 1) := by decide +kernel
theorem dX4_become_57 : decode cX4_become 57 = .ok (.aload_n 1, 1) := by decide +kernel
theorem dX4_become_58 : decode cX4_become 58 = .ok (.getfield 34, 3) := by decide +kernel
theorem dX4_become_61 : decode cX4_become 61 = .ok (.putfield 34, 3) := by decide +kernel
theorem dX4_become_64 : decode cX4_become 64 = .ok (.aload_n 0, 1) := by decide +kernel
theorem dX4_become_65 : decode cX4_become 65 = .ok (.aload_n 1, 1) := by decide +kernel
theorem dX4_become_66 : decode cX4_become 66 = .ok (.getfield 41, 3) := by decide +kernel
theorem dX4_become_69 : decode cX4_become 69 = .ok (.putfield 41, 3) := by decide +kernel
theorem dX4_become_72 : decode cX4_become 72 = .ok (.aload_n 1, 1) := by decide +kernel
theorem dX4_become_73 : decode cX4_become 73 = .ok (.getfield 37, 3) := by decide +kernel
theorem dX4_become_76 : decode cX4_become 76 = .ok (.iconst 0, 1) := by decide +kernel
theorem dX4_become_77 : decode cX4_become 77 = .ok (.aload_n 0, 1) := by decide +kernel
theorem dX4_become_78 : decode cX4_become 78 = .ok (.getfield 37, 3) := by decide +kernel
theorem dX4_become_81 : decode cX4_become 81 = .ok (.iconst 0, 1) := by decide +kernel
theorem dX4_become_82 : decode cX4_become 82 = .ok (.bipush 6, 2) := by decide +kernel
theorem dX4_become_84 : decode cX4_become 84 = .ok (.invokestatic 48, 3) := by decide +kernel
theorem dX4_become_87 : decode cX4_become 87 = .ok (.return_, 1) := by decide +kernel
/-! BumperBalls$Play.become(LBumperBalls$Play;)V -/
def fnX4_become (a0 : Nat) (a1 : Nat) (I0 : Mem) : Option Mem :=
  bnd (up2 I0 a0 0 (I0 a1 0)) fun I1 => bnd (up2 I1 a0 1 (I1 a1 1)) fun I2 => ck (zb (I2 a1 2)) <| bnd (up2 I2 a0 2 (I2 a1 2)) fun I4 => bnd (up2 I4 a0 3 (I4 a1 3)) fun I5 => bnd (up2 I5 a0 4 (I5 a1 4)) fun I6 => bnd (up2 I6 a0 5 (I6 a1 5)) fun I7 => bnd (up2 I7 a0 6 (I7 a1 6)) fun I8 => bnd (up2 I8 a0 7 (I8 a1 7)) fun I9 => bnd (up2 I9 a0 9 (I9 a1 9)) fun I10 => ck (spn 0 6 6) <| ck (spn 0 6 6) <| bnd (cpy I10 (a1 + 1) (a0 + 1) 0 0 6) fun I13 => some I13
set_option maxRecDepth 20000 in
set_option maxHeartbeats 2000000 in
theorem ebX4_become_0 {g : Cfg} (C : Cx g RX4 cX4_become 2 1 39 0 0) {h : Shp} {a0 : Nat} {a1 : Nat} (H0 : PlayAt h a0) (H1 : PlayAt h a1) {o1 : Mem} (q : QV g 0 0 (o1, h)) {I0 : Mem} (hf : fnX4_become a0 a1 I0 = some o1) : XE g 0 0 (I0, h) 0 [(0, rf g a0), (1, rf g a1)] [] := by
  unfold fnX4_become at hf
  refine xr_aload_n C dX4_become_0 0 rfl rfl ?_
  refine xr_aload_n C dX4_become_1 1 rfl rfl ?_
  refine xr_geti C Kd4 (k := 0) (by decide) rfl wk_145 rfl H1.1 dX4_become_2 ?_
  obtain ⟨I1, eI1, hf⟩ := bnd_x hf
  refine xr_putI C Kd4 (k := 0) (by decide) rfl rfl wk_145 rfl rfl rfl H0.1 dX4_become_5 eI1 ?_
  refine xr_aload_n C dX4_become_8 0 rfl rfl ?_
  refine xr_aload_n C dX4_become_9 1 rfl rfl ?_
  refine xr_geti C Kd4 (k := 1) (by decide) rfl wk_148 rfl H1.1 dX4_become_10 ?_
  obtain ⟨I2, eI2, hf⟩ := bnd_x hf
  refine xr_putI C Kd4 (k := 1) (by decide) rfl rfl wk_148 rfl rfl rfl H0.1 dX4_become_13 eI2 ?_
  refine xr_aload_n C dX4_become_16 0 rfl rfl ?_
  refine xr_aload_n C dX4_become_17 1 rfl rfl ?_
  refine xr_geti C Kd4 (k := 2) (by decide) rfl wk_151 rfl H1.1 dX4_become_18 ?_
  obtain ⟨z3, hf⟩ := ck_x hf
  obtain ⟨I4, eI4, hf⟩ := bnd_x hf
  refine xr_putI C Kd4 (k := 2) (by decide) rfl rfl wk_151 rfl (zb_ok z3).1 (zb_ok z3).2 H0.1 dX4_become_21 eI4 ?_
  refine xr_aload_n C dX4_become_24 0 rfl rfl ?_
  refine xr_aload_n C dX4_become_25 1 rfl rfl ?_
  refine xr_geti C Kd4 (k := 3) (by decide) rfl wk_154 rfl H1.1 dX4_become_26 ?_
  obtain ⟨I5, eI5, hf⟩ := bnd_x hf
  refine xr_putI C Kd4 (k := 3) (by decide) rfl rfl wk_154 rfl rfl rfl H0.1 dX4_become_29 eI5 ?_
  refine xr_aload_n C dX4_become_32 0 rfl rfl ?_
  refine xr_aload_n C dX4_become_33 1 rfl rfl ?_
  refine xr_geti C Kd4 (k := 4) (by decide) rfl wk_156 rfl H1.1 dX4_become_34 ?_
  obtain ⟨I6, eI6, hf⟩ := bnd_x hf
  refine xr_putI C Kd4 (k := 4) (by decide) rfl rfl wk_156 rfl rfl rfl H0.1 dX4_become_37 eI6 ?_
  refine xr_aload_n C dX4_become_40 0 rfl rfl ?_
  refine xr_aload_n C dX4_become_41 1 rfl rfl ?_
  refine xr_geti C Kd4 (k := 5) (by decide) rfl wk_158 rfl H1.1 dX4_become_42 ?_
  obtain ⟨I7, eI7, hf⟩ := bnd_x hf
  refine xr_putI C Kd4 (k := 5) (by decide) rfl rfl wk_158 rfl rfl rfl H0.1 dX4_become_45 eI7 ?_
  refine xr_aload_n C dX4_become_48 0 rfl rfl ?_
  refine xr_aload_n C dX4_become_49 1 rfl rfl ?_
  refine xr_geti C Kd4 (k := 6) (by decide) rfl wk_160 rfl H1.1 dX4_become_50 ?_
  obtain ⟨I8, eI8, hf⟩ := bnd_x hf
  refine xr_putI C Kd4 (k := 6) (by decide) rfl rfl wk_160 rfl rfl rfl H0.1 dX4_become_53 eI8 ?_
  refine xr_aload_n C dX4_become_56 0 rfl rfl ?_
  refine xr_aload_n C dX4_become_57 1 rfl rfl ?_
  refine xr_geti C Kd4 (k := 7) (by decide) rfl wk_163 rfl H1.1 dX4_become_58 ?_
  obtain ⟨I9, eI9, hf⟩ := bnd_x hf
  refine xr_putI C Kd4 (k := 7) (by decide) rfl rfl wk_163 rfl rfl rfl H0.1 dX4_become_61 eI9 ?_
  refine xr_aload_n C dX4_become_64 0 rfl rfl ?_
  refine xr_aload_n C dX4_become_65 1 rfl rfl ?_
  refine xr_geti C Kd4 (k := 9) (by decide) rfl wk_168 rfl H1.1 dX4_become_66 ?_
  obtain ⟨I10, eI10, hf⟩ := bnd_x hf
  refine xr_putI C Kd4 (k := 9) (by decide) rfl rfl wk_168 rfl rfl rfl H0.1 dX4_become_69 eI10 ?_
  refine xr_aload_n C dX4_become_72 1 rfl rfl ?_
  refine xr_getr C Kd4 (k := 8) (by decide) rfl wk_165 rfl H1.1 H1.2.1 dX4_become_73 ?_
  refine xr_iconst (v := 0) C dX4_become_76 (by decide) ?_
  refine xr_aload_n C dX4_become_77 0 rfl rfl ?_
  refine xr_getr C Kd4 (k := 8) (by decide) rfl wk_165 rfl H0.1 H0.2.1 dX4_become_78 ?_
  refine xr_iconst (v := 0) C dX4_become_81 (by decide) ?_
  refine xr_bipush (v := 6) C dX4_become_82 (by decide) ?_
  obtain ⟨s11, hf⟩ := ck_x hf
  obtain ⟨s12, hf⟩ := ck_x hf
  obtain ⟨I13, eI13, hf⟩ := bnd_x hf
  refine xr_copy C wk_573 wk_388 wk_387 wk_12 H1.2.2 H0.2.2 s11 s12 (by decide) (Nat.le_of_ble_eq_true rfl) dX4_become_84 eI13 ?_
  exact xr_return C q dX4_become_87 (so_v hf)
theorem kX4_become {B : Bs} {h : Shp} {a0 : Nat} {a1 : Nat} (H0 : PlayAt h a0) (H1 : PlayAt h a1) {I0 : Mem} {o1 : Mem} (hf : fnX4_become a0 a1 I0 = some o1) : CtrV B yX4_become cX4_become 2 1 39 0 0 [rfB B a0, rfB B a1] (I0, h) (o1, h) := by
  refine xr_enterV (lv0 := [(0, rfB B a0), (1, rfB B a1)]) (by decide) (Nat.le_of_ble_eq_true rfl) rfl (fun g hg C q => ?_)
  subst hg
  exact ebX4_become_0 C H0 H1 q hf
theorem dX4_isAs_0 : decode cX4_isAs 0 = .ok (.aload_n 0, 1) := by decide +kernel
theorem dX4_isAs_1 : decode cX4_isAs 1 = .ok (.getfield 9, 3) := by decide +kernel
theorem dX4_isAs_4 : decode cX4_isAs 4 = .ok (.aload_n 1, 1) := by decide +kernel
theorem dX4_isAs_5 : decode cX4_isAs 5 = .ok (.getfield 9, 3) := by decide +kernel
theorem dX4_isAs_8 : decode cX4_isAs 8 = .ok (.if_icmp .ne 40, 3) := by decide +kernel
theorem dX4_isAs_11 : decode cX4_isAs 11 = .ok (.aload_n 0, 1) := by decide +kernel
theorem dX4_isAs_12 : decode cX4_isAs 12 = .ok (.getfield 15, 3) := by decide +kernel
theorem dX4_isAs_15 : decode cX4_isAs 15 = .ok (.aload_n 1, 1) := by decide +kernel
theorem dX4_isAs_16 : decode cX4_isAs 16 = .ok (.getfield 15, 3) := by decide +kernel
theorem dX4_isAs_19 : decode cX4_isAs 19 = .ok (.if_icmp .ne 29, 3) := by decide +kernel
theorem dX4_isAs_22 : decode cX4_isAs 22 = .ok (.aload_n 0, 1) := by decide +kernel
theorem dX4_isAs_23 : decode cX4_isAs 23 = .ok (.getfield 28, 3) := by decide +kernel
theorem dX4_isAs_26 : decode cX4_isAs 26 = .ok (.aload_n 1, 1) := by decide +kernel
theorem dX4_isAs_27 : decode cX4_isAs 27 = .ok (.getfield 28, 3) := by decide +kernel
theorem dX4_isAs_30 : decode cX4_isAs 30 = .ok (.if_icmp .ne 18, 3) := by decide +kernel
theorem dX4_isAs_33 : decode cX4_isAs 33 = .ok (.aload_n 0, 1) := by decide +kernel
theorem dX4_isAs_34 : decode cX4_isAs 34 = .ok (.getfield 31, 3) := by decide +kernel
theorem dX4_isAs_37 : decode cX4_isAs 37 = .ok (.aload_n 1, 1) := by decide +kernel
theorem dX4_isAs_38 : decode cX4_isAs 38 = .ok (.getfield 31, 3) := by decide +kernel
theorem dX4_isAs_41 : decode cX4_isAs 41 = .ok (.if_icmp .ne 7, 3) := by decide +kernel
theorem dX4_isAs_44 : decode cX4_isAs 44 = .ok (.iconst 1, 1) := by decide +kernel
theorem dX4_isAs_45 : decode cX4_isAs 45 = .ok (.goto 4, 3) := by decide +kernel
theorem dX4_isAs_48 : decode cX4_isAs 48 = .ok (.iconst 0, 1) := by decide +kernel
theorem dX4_isAs_49 : decode cX4_isAs 49 = .ok (.ireturn, 1) := by decide +kernel
/-! BumperBalls$Play.isAs(LBumperBalls$Play;)Z -/
def fnX4_isAs_49 (a0 : Nat) (a1 : Nat) (I0 : Mem) (t0 : Int32) : Option (Int32 × Mem) :=
  ck (zb t0) <| some (t0, I0)
set_option maxRecDepth 20000 in
set_option maxHeartbeats 2000000 in
theorem ebX4_isAs_49 {g : Cfg} (C : Cx g RX4 cX4_isAs 2 0 0 0 0) {h : Shp} {a0 : Nat} {a1 : Nat} (H0 : PlayAt h a0) (H1 : PlayAt h a1) {r1 : Int32} {o1 : Mem} (q : QI g (some Jvm.ClassFile.FieldType.boolean) 0 0 r1 (o1, h)) {I0 : Mem} {t0 : Int32} (hf : fnX4_isAs_49 a0 a1 I0 t0 = some (r1, o1)) : XE g 0 0 (I0, h) 49 [] [.int t0] := by
  unfold fnX4_isAs_49 at hf
  obtain ⟨z1, hf⟩ := ck_x hf
  exact xr_ireturn C q rfl (zb_ok z1).1 dX4_isAs_49 (so_1 hf) (so_w hf)
def fnX4_isAs_48 (a0 : Nat) (a1 : Nat) (I0 : Mem) : Option (Int32 × Mem) :=
  fnX4_isAs_49 a0 a1 I0 0
set_option maxRecDepth 20000 in
set_option maxHeartbeats 2000000 in
theorem ebX4_isAs_48 {g : Cfg} (C : Cx g RX4 cX4_isAs 2 0 0 0 0) {h : Shp} {a0 : Nat} {a1 : Nat} (H0 : PlayAt h a0) (H1 : PlayAt h a1) {r1 : Int32} {o1 : Mem} (q : QI g (some Jvm.ClassFile.FieldType.boolean) 0 0 r1 (o1, h)) {I0 : Mem} (hf : fnX4_isAs_48 a0 a1 I0 = some (r1, o1)) : XE g 0 0 (I0, h) 48 [] [] := by
  unfold fnX4_isAs_48 at hf
  refine xr_iconst (v := 0) C dX4_isAs_48 (by decide) ?_
  exact ebX4_isAs_49 C H0 H1 q hf
def fnX4_isAs (a0 : Nat) (a1 : Nat) (I0 : Mem) : Option (Int32 × Mem) :=
  if (I0 a0 0) = (I0 a1 0) then (if (I0 a0 1) = (I0 a1 1) then (if (I0 a0 5) = (I0 a1 5) then (if (I0 a0 6) = (I0 a1 6) then (fnX4_isAs_49 a0 a1 I0 1) else (fnX4_isAs_48 a0 a1 I0)) else (fnX4_isAs_48 a0 a1 I0)) else (fnX4_isAs_48 a0 a1 I0)) else (fnX4_isAs_48 a0 a1 I0)
set_option maxRecDepth 20000 in
set_option maxHeartbeats 2000000 in
theorem ebX4_isAs_0 {g : Cfg} (C : Cx g RX4 cX4_isAs 2 0 0 0 0) {h : Shp} {a0 : Nat} {a1 : Nat} (H0 : PlayAt h a0) (H1 : PlayAt h a1) {r1 : Int32} {o1 : Mem} (q : QI g (some Jvm.ClassFile.FieldType.boolean) 0 0 r1 (o1, h)) {I0 : Mem} (hf : fnX4_isAs a0 a1 I0 = some (r1, o1)) : XE g 0 0 (I0, h) 0 [(0, rf g a0), (1, rf g a1)] [] := by
  unfold fnX4_isAs at hf
  refine xr_aload_n C dX4_isAs_0 0 rfl rfl ?_
  refine xr_geti C Kd4 (k := 0) (by decide) rfl wk_145 rfl H0.1 dX4_isAs_1 ?_
  refine xr_aload_n C dX4_isAs_4 1 rfl rfl ?_
  refine xr_geti C Kd4 (k := 0) (by decide) rfl wk_145 rfl H1.1 dX4_isAs_5 ?_
  refine xr_icmp_ne (tgt := 48) C dX4_isAs_8 (by decide) hf (fun c1 hf => ?_) (fun c1 hf => ?_)
  · refine xr_lv [] rfl ?_
    exact ebX4_isAs_48 C H0 H1 q hf
  · refine xr_aload_n C dX4_isAs_11 0 rfl rfl ?_
    refine xr_geti C Kd4 (k := 1) (by decide) rfl wk_148 rfl H0.1 dX4_isAs_12 ?_
    refine xr_aload_n C dX4_isAs_15 1 rfl rfl ?_
    refine xr_geti C Kd4 (k := 1) (by decide) rfl wk_148 rfl H1.1 dX4_isAs_16 ?_
    refine xr_icmp_ne (tgt := 48) C dX4_isAs_19 (by decide) hf (fun c2 hf => ?_) (fun c2 hf => ?_)
    · refine xr_lv [] rfl ?_
      exact ebX4_isAs_48 C H0 H1 q hf
    · refine xr_aload_n C dX4_isAs_22 0 rfl rfl ?_
      refine xr_geti C Kd4 (k := 5) (by decide) rfl wk_158 rfl H0.1 dX4_isAs_23 ?_
      refine xr_aload_n C dX4_isAs_26 1 rfl rfl ?_
      refine xr_geti C Kd4 (k := 5) (by decide) rfl wk_158 rfl H1.1 dX4_isAs_27 ?_
      refine xr_icmp_ne (tgt := 48) C dX4_isAs_30 (by decide) hf (fun c3 hf => ?_) (fun c3 hf => ?_)
      · refine xr_lv [] rfl ?_
        exact ebX4_isAs_48 C H0 H1 q hf
      · refine xr_aload_n C dX4_isAs_33 0 rfl rfl ?_
        refine xr_geti C Kd4 (k := 6) (by decide) rfl wk_160 rfl H0.1 dX4_isAs_34 ?_
        refine xr_aload_n C dX4_isAs_37 1 rfl rfl ?_
        refine xr_geti C Kd4 (k := 6) (by decide) rfl wk_160 rfl H1.1 dX4_isAs_38 ?_
        refine xr_icmp_ne (tgt := 48) C dX4_isAs_41 (by decide) hf (fun c4 hf => ?_) (fun c4 hf => ?_)
        · refine xr_lv [] rfl ?_
          exact ebX4_isAs_48 C H0 H1 q hf
        · refine xr_iconst (v := 1) C dX4_isAs_44 (by decide) ?_
          refine xr_goto (tgt := 49) C dX4_isAs_45 (by decide) ?_
          refine xr_lv [] rfl ?_
          exact ebX4_isAs_49 C H0 H1 q hf
theorem kX4_isAs {B : Bs} {h : Shp} {a0 : Nat} {a1 : Nat} (H0 : PlayAt h a0) (H1 : PlayAt h a1) {I0 : Mem} {r1 : Int32} {o1 : Mem} (hf : fnX4_isAs a0 a1 I0 = some (r1, o1)) : CtrI B yX4_isAs cX4_isAs 2 (some Jvm.ClassFile.FieldType.boolean) 0 0 0 0 [rfB B a0, rfB B a1] (I0, h) r1 (o1, h) := by
  refine xr_enterI (lv0 := [(0, rfB B a0), (1, rfB B a1)]) (by decide) (Nat.le_of_ble_eq_true rfl) rfl (fun g hg C q => ?_)
  subst hg
  exact ebX4_isAs_0 C H0 H1 q hf
theorem dX4_isOpen_0 : decode cX4_isOpen 0 = .ok (.aload_n 0, 1) := by decide +kernel
theorem dX4_isOpen_1 : decode cX4_isOpen 1 = .ok (.getfield 31, 3) := by decide +kernel
theorem dX4_isOpen_4 : decode cX4_isOpen 4 = .ok (.iload_n 1, 1) := by decide +kernel
theorem dX4_isOpen_5 : decode cX4_isOpen 5 = .ok (.ishr, 1) := by decide +kernel
theorem dX4_isOpen_6 : decode cX4_isOpen 6 = .ok (.iconst 1, 1) := by decide +kernel
theorem dX4_isOpen_7 : decode cX4_isOpen 7 = .ok (.iand, 1) := by decide +kernel
theorem dX4_isOpen_8 : decode cX4_isOpen 8 = .ok (.iconst 1, 1) := by decide +kernel
theorem dX4_isOpen_9 : decode cX4_isOpen 9 = .ok (.if_icmp .ne 7, 3) := by decide +kernel
theorem dX4_isOpen_12 : decode cX4_isOpen 12 = .ok (.iconst 1, 1) := by decide +kernel
theorem dX4_isOpen_13 : decode cX4_isOpen 13 = .ok (.goto 4, 3) := by decide +kernel
theorem dX4_isOpen_16 : decode cX4_isOpen 16 = .ok (.iconst 0, 1) := by decide +kernel
theorem dX4_isOpen_17 : decode cX4_isOpen 17 = .ok (.ireturn, 1) := by decide +kernel
/-! BumperBalls$Play.isOpen(I)Z -/
def fnX4_isOpen_17 (a0 : Nat) (I0 : Mem) (t0 : Int32) : Option (Int32 × Mem) :=
  ck (zb t0) <| some (t0, I0)
set_option maxRecDepth 20000 in
set_option maxHeartbeats 2000000 in
theorem ebX4_isOpen_17 {g : Cfg} (C : Cx g RX4 cX4_isOpen 2 0 0 0 0) {h : Shp} {a0 : Nat} (H0 : PlayAt h a0) {r1 : Int32} {o1 : Mem} (q : QI g (some Jvm.ClassFile.FieldType.boolean) 0 0 r1 (o1, h)) {I0 : Mem} {t0 : Int32} (hf : fnX4_isOpen_17 a0 I0 t0 = some (r1, o1)) : XE g 0 0 (I0, h) 17 [] [.int t0] := by
  unfold fnX4_isOpen_17 at hf
  obtain ⟨z1, hf⟩ := ck_x hf
  exact xr_ireturn C q rfl (zb_ok z1).1 dX4_isOpen_17 (so_1 hf) (so_w hf)
def fnX4_isOpen (a0 : Nat) (I0 : Mem) (p1 : Int32) : Option (Int32 × Mem) :=
  if (((I0 a0 6) >>> (p1 &&& 31)) &&& 1) = 1 then (fnX4_isOpen_17 a0 I0 1) else (fnX4_isOpen_17 a0 I0 0)
set_option maxRecDepth 20000 in
set_option maxHeartbeats 2000000 in
theorem ebX4_isOpen_0 {g : Cfg} (C : Cx g RX4 cX4_isOpen 2 0 0 0 0) {h : Shp} {a0 : Nat} (H0 : PlayAt h a0) {r1 : Int32} {o1 : Mem} (q : QI g (some Jvm.ClassFile.FieldType.boolean) 0 0 r1 (o1, h)) {I0 : Mem} {p1 : Int32} (hf : fnX4_isOpen a0 I0 p1 = some (r1, o1)) : XE g 0 0 (I0, h) 0 [(0, rf g a0), (1, .int p1)] [] := by
  unfold fnX4_isOpen at hf
  refine xr_aload_n C dX4_isOpen_0 0 rfl rfl ?_
  refine xr_geti C Kd4 (k := 6) (by decide) rfl wk_160 rfl H0.1 dX4_isOpen_1 ?_
  refine xr_iload_n C dX4_isOpen_4 1 rfl rfl ?_
  refine xr_ishr C dX4_isOpen_5 ?_
  refine xr_iconst (v := 1) C dX4_isOpen_6 (by decide) ?_
  refine xr_iand C dX4_isOpen_7 ?_
  refine xr_iconst (v := 1) C dX4_isOpen_8 (by decide) ?_
  refine xr_icmp_ne (tgt := 16) C dX4_isOpen_9 (by decide) hf (fun c1 hf => ?_) (fun c1 hf => ?_)
  · refine xr_iconst (v := 0) C dX4_isOpen_16 (by decide) ?_
    refine xr_lv [] rfl ?_
    exact ebX4_isOpen_17 C H0 q hf
  · refine xr_iconst (v := 1) C dX4_isOpen_12 (by decide) ?_
    refine xr_goto (tgt := 17) C dX4_isOpen_13 (by decide) ?_
    refine xr_lv [] rfl ?_
    exact ebX4_isOpen_17 C H0 q hf
theorem kX4_isOpen {B : Bs} {h : Shp} {a0 : Nat} (H0 : PlayAt h a0) {I0 : Mem} {p1 : Int32} {r1 : Int32} {o1 : Mem} (hf : fnX4_isOpen a0 I0 p1 = some (r1, o1)) : CtrI B yX4_isOpen cX4_isOpen 2 (some Jvm.ClassFile.FieldType.boolean) 0 0 0 0 [rfB B a0, .int p1] (I0, h) r1 (o1, h) := by
  refine xr_enterI (lv0 := [(0, rfB B a0), (1, .int p1)]) (by decide) (Nat.le_of_ble_eq_true rfl) rfl (fun g hg C q => ?_)
  subst hg
  exact ebX4_isOpen_0 C H0 q hf
theorem dX4_isAtSide_0 : decode cX4_isAtSide 0 = .ok (.aload_n 0, 1) := by decide +kernel
theorem dX4_isAtSide_1 : decode cX4_isAtSide 1 = .ok (.getfield 15, 3) := by decide +kernel
theorem dX4_isAtSide_4 : decode cX4_isAtSide 4 = .ok (.ifCond .ne 14, 3) := by decide +kernel
theorem dX4_isAtSide_7 : decode cX4_isAtSide 7 = .ok (.aload_n 0, 1) := by decide +kernel
theorem dX4_isAtSide_8 : decode cX4_isAtSide 8 = .ok (.getfield 9, 3) := by decide +kernel
theorem dX4_isAtSide_11 : decode cX4_isAtSide 11 = .ok (.bipush 7, 2) := by decide +kernel
theorem dX4_isAtSide_13 : decode cX4_isAtSide 13 = .ok (.idiv, 1) := by decide +kernel
theorem dX4_isAtSide_14 : decode cX4_isAtSide 14 = .ok (.iconst 5, 1) := by decide +kernel
theorem dX4_isAtSide_15 : decode cX4_isAtSide 15 = .ok (.if_icmp .eq 41, 3) := by decide +kernel
theorem dX4_isAtSide_18 : decode cX4_isAtSide 18 = .ok (.aload_n 0, 1) := by decide +kernel
theorem dX4_isAtSide_19 : decode cX4_isAtSide 19 = .ok (.getfield 15, 3) := by decide +kernel
theorem dX4_isAtSide_22 : decode cX4_isAtSide 22 = .ok (.iconst 1, 1) := by decide +kernel
theorem dX4_isAtSide_23 : decode cX4_isAtSide 23 = .ok (.if_icmp .ne 15, 3) := by decide +kernel
theorem dX4_isAtSide_26 : decode cX4_isAtSide 26 = .ok (.aload_n 0, 1) := by decide +kernel
theorem dX4_isAtSide_27 : decode cX4_isAtSide 27 = .ok (.getfield 9, 3) := by decide +kernel
theorem dX4_isAtSide_30 : decode cX4_isAtSide 30 = .ok (.bipush 7, 2) := by decide +kernel
theorem dX4_isAtSide_32 : decode cX4_isAtSide 32 = .ok (.irem, 1) := by decide +kernel
theorem dX4_isAtSide_33 : decode cX4_isAtSide 33 = .ok (.bipush 6, 2) := by decide +kernel
theorem dX4_isAtSide_35 : decode cX4_isAtSide 35 = .ok (.if_icmp .eq 21, 3) := by decide +kernel
theorem dX4_isAtSide_38 : decode cX4_isAtSide 38 = .ok (.aload_n 0, 1) := by decide +kernel
theorem dX4_isAtSide_39 : decode cX4_isAtSide 39 = .ok (.getfield 15, 3) := by decide +kernel
theorem dX4_isAtSide_42 : decode cX4_isAtSide 42 = .ok (.iconst 3, 1) := by decide +kernel
theorem dX4_isAtSide_43 : decode cX4_isAtSide 43 = .ok (.if_icmp .ne 17, 3) := by decide +kernel
theorem dX4_isAtSide_46 : decode cX4_isAtSide 46 = .ok (.aload_n 0, 1) := by decide +kernel
theorem dX4_isAtSide_47 : decode cX4_isAtSide 47 = .ok (.getfield 9, 3) := by decide +kernel
theorem dX4_isAtSide_50 : decode cX4_isAtSide 50 = .ok (.bipush 7, 2) := by decide +kernel
theorem dX4_isAtSide_52 : decode cX4_isAtSide 52 = .ok (.irem, 1) := by decide +kernel
theorem dX4_isAtSide_53 : decode cX4_isAtSide 53 = .ok (.ifCond .ne 7, 3) := by decide +kernel
theorem dX4_isAtSide_56 : decode cX4_isAtSide 56 = .ok (.iconst 1, 1) := by decide +kernel
theorem dX4_isAtSide_57 : decode cX4_isAtSide 57 = .ok (.goto 4, 3) := by decide +kernel
theorem dX4_isAtSide_60 : decode cX4_isAtSide 60 = .ok (.iconst 0, 1) := by decide +kernel
theorem dX4_isAtSide_61 : decode cX4_isAtSide 61 = .ok (.ireturn, 1) := by decide +kernel
/-! BumperBalls$Play.isAtSide()Z -/
def fnX4_isAtSide_61 (a0 : Nat) (I0 : Mem) (t0 : Int32) : Option (Int32 × Mem) :=
  ck (zb t0) <| some (t0, I0)
set_option maxRecDepth 20000 in
set_option maxHeartbeats 2000000 in
theorem ebX4_isAtSide_61 {g : Cfg} (C : Cx g RX4 cX4_isAtSide 1 0 0 0 0) {h : Shp} {a0 : Nat} (H0 : PlayAt h a0) {r1 : Int32} {o1 : Mem} (q : QI g (some Jvm.ClassFile.FieldType.boolean) 0 0 r1 (o1, h)) {I0 : Mem} {t0 : Int32} (hf : fnX4_isAtSide_61 a0 I0 t0 = some (r1, o1)) : XE g 0 0 (I0, h) 61 [] [.int t0] := by
  unfold fnX4_isAtSide_61 at hf
  obtain ⟨z1, hf⟩ := ck_x hf
  exact xr_ireturn C q rfl (zb_ok z1).1 dX4_isAtSide_61 (so_1 hf) (so_w hf)
def fnX4_isAtSide_60 (a0 : Nat) (I0 : Mem) : Option (Int32 × Mem) :=
  fnX4_isAtSide_61 a0 I0 0
set_option maxRecDepth 20000 in
set_option maxHeartbeats 2000000 in
theorem ebX4_isAtSide_60 {g : Cfg} (C : Cx g RX4 cX4_isAtSide 1 0 0 0 0) {h : Shp} {a0 : Nat} (H0 : PlayAt h a0) {r1 : Int32} {o1 : Mem} (q : QI g (some Jvm.ClassFile.FieldType.boolean) 0 0 r1 (o1, h)) {I0 : Mem} (hf : fnX4_isAtSide_60 a0 I0 = some (r1, o1)) : XE g 0 0 (I0, h) 60 [] [] := by
  unfold fnX4_isAtSide_60 at hf
  refine xr_iconst (v := 0) C dX4_isAtSide_60 (by decide) ?_
  exact ebX4_isAtSide_61 C H0 q hf
def fnX4_isAtSide_56 (a0 : Nat) (I0 : Mem) : Option (Int32 × Mem) :=
  fnX4_isAtSide_61 a0 I0 1
set_option maxRecDepth 20000 in
set_option maxHeartbeats 2000000 in
theorem ebX4_isAtSide_56 {g : Cfg} (C : Cx g RX4 cX4_isAtSide 1 0 0 0 0) {h : Shp} {a0 : Nat} (H0 : PlayAt h a0) {r1 : Int32} {o1 : Mem} (q : QI g (some Jvm.ClassFile.FieldType.boolean) 0 0 r1 (o1, h)) {I0 : Mem} (hf : fnX4_isAtSide_56 a0 I0 = some (r1, o1)) : XE g 0 0 (I0, h) 56 [] [] := by
  unfold fnX4_isAtSide_56 at hf
  refine xr_iconst (v := 1) C dX4_isAtSide_56 (by decide) ?_
  refine xr_goto (tgt := 61) C dX4_isAtSide_57 (by decide) ?_
  exact ebX4_isAtSide_61 C H0 q hf
def fnX4_isAtSide_38 (a0 : Nat) (I0 : Mem) : Option (Int32 × Mem) :=
  if (I0 a0 1) = 3 then (if (irm (I0 a0 0) 7) = 0 then (fnX4_isAtSide_56 a0 I0) else (fnX4_isAtSide_60 a0 I0)) else (fnX4_isAtSide_60 a0 I0)
set_option maxRecDepth 20000 in
set_option maxHeartbeats 2000000 in
theorem ebX4_isAtSide_38 {g : Cfg} (C : Cx g RX4 cX4_isAtSide 1 0 0 0 0) {h : Shp} {a0 : Nat} (H0 : PlayAt h a0) {r1 : Int32} {o1 : Mem} (q : QI g (some Jvm.ClassFile.FieldType.boolean) 0 0 r1 (o1, h)) {I0 : Mem} (hf : fnX4_isAtSide_38 a0 I0 = some (r1, o1)) : XE g 0 0 (I0, h) 38 [(0, rf g a0)] [] := by
  unfold fnX4_isAtSide_38 at hf
  refine xr_aload_n C dX4_isAtSide_38 0 rfl rfl ?_
  refine xr_geti C Kd4 (k := 1) (by decide) rfl wk_148 rfl H0.1 dX4_isAtSide_39 ?_
  refine xr_iconst (v := 3) C dX4_isAtSide_42 (by decide) ?_
  refine xr_icmp_ne (tgt := 60) C dX4_isAtSide_43 (by decide) hf (fun c1 hf => ?_) (fun c1 hf => ?_)
  · refine xr_lv [] rfl ?_
    exact ebX4_isAtSide_60 C H0 q hf
  · refine xr_aload_n C dX4_isAtSide_46 0 rfl rfl ?_
    refine xr_geti C Kd4 (k := 0) (by decide) rfl wk_145 rfl H0.1 dX4_isAtSide_47 ?_
    refine xr_bipush (v := 7) C dX4_isAtSide_50 (by decide) ?_
    refine xr_irem C dX4_isAtSide_52 (by decide) ?_
    refine xr_if_ne (tgt := 60) C dX4_isAtSide_53 (by decide) hf (fun c2 hf => ?_) (fun c2 hf => ?_)
    · refine xr_lv [] rfl ?_
      exact ebX4_isAtSide_60 C H0 q hf
    · refine xr_lv [] rfl ?_
      exact ebX4_isAtSide_56 C H0 q hf
def fnX4_isAtSide_18 (a0 : Nat) (I0 : Mem) : Option (Int32 × Mem) :=
  if (I0 a0 1) = 1 then (if (irm (I0 a0 0) 7) = 6 then (fnX4_isAtSide_56 a0 I0) else (fnX4_isAtSide_38 a0 I0)) else (fnX4_isAtSide_38 a0 I0)
set_option maxRecDepth 20000 in
set_option maxHeartbeats 2000000 in
theorem ebX4_isAtSide_18 {g : Cfg} (C : Cx g RX4 cX4_isAtSide 1 0 0 0 0) {h : Shp} {a0 : Nat} (H0 : PlayAt h a0) {r1 : Int32} {o1 : Mem} (q : QI g (some Jvm.ClassFile.FieldType.boolean) 0 0 r1 (o1, h)) {I0 : Mem} (hf : fnX4_isAtSide_18 a0 I0 = some (r1, o1)) : XE g 0 0 (I0, h) 18 [(0, rf g a0)] [] := by
  unfold fnX4_isAtSide_18 at hf
  refine xr_aload_n C dX4_isAtSide_18 0 rfl rfl ?_
  refine xr_geti C Kd4 (k := 1) (by decide) rfl wk_148 rfl H0.1 dX4_isAtSide_19 ?_
  refine xr_iconst (v := 1) C dX4_isAtSide_22 (by decide) ?_
  refine xr_icmp_ne (tgt := 38) C dX4_isAtSide_23 (by decide) hf (fun c1 hf => ?_) (fun c1 hf => ?_)
  · exact ebX4_isAtSide_38 C H0 q hf
  · refine xr_aload_n C dX4_isAtSide_26 0 rfl rfl ?_
    refine xr_geti C Kd4 (k := 0) (by decide) rfl wk_145 rfl H0.1 dX4_isAtSide_27 ?_
    refine xr_bipush (v := 7) C dX4_isAtSide_30 (by decide) ?_
    refine xr_irem C dX4_isAtSide_32 (by decide) ?_
    refine xr_bipush (v := 6) C dX4_isAtSide_33 (by decide) ?_
    refine xr_icmp_eq (tgt := 56) C dX4_isAtSide_35 (by decide) hf (fun c2 hf => ?_) (fun c2 hf => ?_)
    · refine xr_lv [] rfl ?_
      exact ebX4_isAtSide_56 C H0 q hf
    · exact ebX4_isAtSide_38 C H0 q hf
def fnX4_isAtSide (a0 : Nat) (I0 : Mem) : Option (Int32 × Mem) :=
  if (I0 a0 1) = 0 then (if ((I0 a0 0) / 7) = 5 then (fnX4_isAtSide_56 a0 I0) else (fnX4_isAtSide_18 a0 I0)) else (fnX4_isAtSide_18 a0 I0)
set_option maxRecDepth 20000 in
set_option maxHeartbeats 2000000 in
theorem ebX4_isAtSide_0 {g : Cfg} (C : Cx g RX4 cX4_isAtSide 1 0 0 0 0) {h : Shp} {a0 : Nat} (H0 : PlayAt h a0) {r1 : Int32} {o1 : Mem} (q : QI g (some Jvm.ClassFile.FieldType.boolean) 0 0 r1 (o1, h)) {I0 : Mem} (hf : fnX4_isAtSide a0 I0 = some (r1, o1)) : XE g 0 0 (I0, h) 0 [(0, rf g a0)] [] := by
  unfold fnX4_isAtSide at hf
  refine xr_aload_n C dX4_isAtSide_0 0 rfl rfl ?_
  refine xr_geti C Kd4 (k := 1) (by decide) rfl wk_148 rfl H0.1 dX4_isAtSide_1 ?_
  refine xr_if_ne (tgt := 18) C dX4_isAtSide_4 (by decide) hf (fun c1 hf => ?_) (fun c1 hf => ?_)
  · exact ebX4_isAtSide_18 C H0 q hf
  · refine xr_aload_n C dX4_isAtSide_7 0 rfl rfl ?_
    refine xr_geti C Kd4 (k := 0) (by decide) rfl wk_145 rfl H0.1 dX4_isAtSide_8 ?_
    refine xr_bipush (v := 7) C dX4_isAtSide_11 (by decide) ?_
    refine xr_idiv C dX4_isAtSide_13 (by decide) ?_
    refine xr_iconst (v := 5) C dX4_isAtSide_14 (by decide) ?_
    refine xr_icmp_eq (tgt := 56) C dX4_isAtSide_15 (by decide) hf (fun c2 hf => ?_) (fun c2 hf => ?_)
    · refine xr_lv [] rfl ?_
      exact ebX4_isAtSide_56 C H0 q hf
    · exact ebX4_isAtSide_18 C H0 q hf
theorem kX4_isAtSide {B : Bs} {h : Shp} {a0 : Nat} (H0 : PlayAt h a0) {I0 : Mem} {r1 : Int32} {o1 : Mem} (hf : fnX4_isAtSide a0 I0 = some (r1, o1)) : CtrI B yX4_isAtSide cX4_isAtSide 1 (some Jvm.ClassFile.FieldType.boolean) 0 0 0 0 [rfB B a0] (I0, h) r1 (o1, h) := by
  refine xr_enterI (lv0 := [(0, rfB B a0)]) (by decide) (Nat.le_of_ble_eq_true rfl) rfl (fun g hg C q => ?_)
  subst hg
  exact ebX4_isAtSide_0 C H0 q hf
theorem dX4_turn_0 : decode cX4_turn 0 = .ok (.aload_n 0, 1) := by decide +kernel
theorem dX4_turn_1 : decode cX4_turn 1 = .ok (.aload_n 0, 1) := by decide +kernel
theorem dX4_turn_2 : decode cX4_turn 2 = .ok (.getfield 15, 3) := by decide +kernel
theorem dX4_turn_5 : decode cX4_turn 5 = .ok (.iload_n 1, 1) := by decide +kernel
theorem dX4_turn_6 : decode cX4_turn 6 = .ok (.iadd, 1) := by decide +kernel
theorem dX4_turn_7 : decode cX4_turn 7 = .ok (.iconst 4, 1) := by decide +kernel
theorem dX4_turn_8 : decode cX4_turn 8 = .ok (.irem, 1) := by decide +kernel
theorem dX4_turn_9 : decode cX4_turn 9 = .ok (.putfield 15, 3) := by decide +kernel
theorem dX4_turn_12 : decode cX4_turn 12 = .ok (.return_, 1) := by decide +kernel
/-! BumperBalls$Play.turn(I)V -/
def fnX4_turn (a0 : Nat) (I0 : Mem) (p1 : Int32) : Option Mem :=
  bnd (up2 I0 a0 1 (irm ((I0 a0 1) + p1) 4)) fun I1 => some I1
set_option maxRecDepth 20000 in
set_option maxHeartbeats 2000000 in
theorem ebX4_turn_0 {g : Cfg} (C : Cx g RX4 cX4_turn 2 0 0 0 0) {h : Shp} {a0 : Nat} (H0 : PlayAt h a0) {o1 : Mem} (q : QV g 0 0 (o1, h)) {I0 : Mem} {p1 : Int32} (hf : fnX4_turn a0 I0 p1 = some o1) : XE g 0 0 (I0, h) 0 [(0, rf g a0), (1, .int p1)] [] := by
  unfold fnX4_turn at hf
  refine xr_aload_n C dX4_turn_0 0 rfl rfl ?_
  refine xr_aload_n C dX4_turn_1 0 rfl rfl ?_
  refine xr_geti C Kd4 (k := 1) (by decide) rfl wk_148 rfl H0.1 dX4_turn_2 ?_
  refine xr_iload_n C dX4_turn_5 1 rfl rfl ?_
  refine xr_iadd C dX4_turn_6 ?_
  refine xr_iconst (v := 4) C dX4_turn_7 (by decide) ?_
  refine xr_irem C dX4_turn_8 (by decide) ?_
  obtain ⟨I1, eI1, hf⟩ := bnd_x hf
  refine xr_putI C Kd4 (k := 1) (by decide) rfl rfl wk_148 rfl rfl rfl H0.1 dX4_turn_9 eI1 ?_
  exact xr_return C q dX4_turn_12 (so_v hf)
theorem kX4_turn {B : Bs} {h : Shp} {a0 : Nat} (H0 : PlayAt h a0) {I0 : Mem} {p1 : Int32} {o1 : Mem} (hf : fnX4_turn a0 I0 p1 = some o1) : CtrV B yX4_turn cX4_turn 2 0 0 0 0 [rfB B a0, .int p1] (I0, h) (o1, h) := by
  refine xr_enterV (lv0 := [(0, rfB B a0), (1, .int p1)]) (by decide) (Nat.le_of_ble_eq_true rfl) rfl (fun g hg C q => ?_)
  subst hg
  exact ebX4_turn_0 C H0 q hf
theorem dX4_turnBy_0 : decode cX4_turnBy 0 = .ok (.iload_n 2, 1) := by decide +kernel
theorem dX4_turnBy_1 : decode cX4_turnBy 1 = .ok (.tableswitch 91 1 5 #[35, 43, 51, 91, 59], 35) := by decide +kernel
theorem dX4_turnBy_36 : decode cX4_turnBy 36 = .ok (.aload_n 0, 1) := by decide +kernel
theorem dX4_turnBy_37 : decode cX4_turnBy 37 = .ok (.iconst 2, 1) := by decide +kernel
theorem dX4_turnBy_38 : decode cX4_turnBy 38 = .ok (.invokevirtual 68, 3) := by decide +kernel
theorem dX4_turnBy_41 : decode cX4_turnBy 41 = .ok (.goto 51, 3) := by decide +kernel
theorem dX4_turnBy_44 : decode cX4_turnBy 44 = .ok (.aload_n 0, 1) := by decide +kernel
theorem dX4_turnBy_45 : decode cX4_turnBy 45 = .ok (.iconst 3, 1) := by decide +kernel
theorem dX4_turnBy_46 : decode cX4_turnBy 46 = .ok (.invokevirtual 68, 3) := by decide +kernel
theorem dX4_turnBy_49 : decode cX4_turnBy 49 = .ok (.goto 43, 3) := by decide +kernel
theorem dX4_turnBy_52 : decode cX4_turnBy 52 = .ok (.aload_n 0, 1) := by decide +kernel
theorem dX4_turnBy_53 : decode cX4_turnBy 53 = .ok (.iconst 1, 1) := by decide +kernel
theorem dX4_turnBy_54 : decode cX4_turnBy 54 = .ok (.invokevirtual 68, 3) := by decide +kernel
theorem dX4_turnBy_57 : decode cX4_turnBy 57 = .ok (.goto 35, 3) := by decide +kernel
theorem dX4_turnBy_60 : decode cX4_turnBy 60 = .ok (.aload_n 0, 1) := by decide +kernel
theorem dX4_turnBy_61 : decode cX4_turnBy 61 = .ok (.aload_n 0, 1) := by decide +kernel
theorem dX4_turnBy_62 : decode cX4_turnBy 62 = .ok (.iload_n 1, 1) := by decide +kernel
theorem dX4_turnBy_63 : decode cX4_turnBy 63 = .ok (.invokevirtual 98, 3) := by decide +kernel
theorem dX4_turnBy_66 : decode cX4_turnBy 66 = .ok (.ifCond .eq 7, 3) := by decide +kernel
theorem dX4_turnBy_69 : decode cX4_turnBy 69 = .ok (.iconst 0, 1) := by decide +kernel
theorem dX4_turnBy_70 : decode cX4_turnBy 70 = .ok (.goto 4, 3) := by decide +kernel
theorem dX4_turnBy_73 : decode cX4_turnBy 73 = .ok (.iconst 2, 1) := by decide +kernel
theorem dX4_turnBy_74 : decode cX4_turnBy 74 = .ok (.invokevirtual 68, 3) := by decide +kernel
theorem dX4_turnBy_77 : decode cX4_turnBy 77 = .ok (.aload_n 0, 1) := by decide +kernel
theorem dX4_turnBy_78 : decode cX4_turnBy 78 = .ok (.dup, 1) := by decide +kernel
theorem dX4_turnBy_79 : decode cX4_turnBy 79 = .ok (.getfield 31, 3) := by decide +kernel
theorem dX4_turnBy_82 : decode cX4_turnBy 82 = .ok (.iconst 1, 1) := by decide +kernel
theorem dX4_turnBy_83 : decode cX4_turnBy 83 = .ok (.iload_n 1, 1) := by decide +kernel
theorem dX4_turnBy_84 : decode cX4_turnBy 84 = .ok (.ishl, 1) := by decide +kernel
theorem dX4_turnBy_85 : decode cX4_turnBy 85 = .ok (.ixor, 1) := by decide +kernel
theorem dX4_turnBy_86 : decode cX4_turnBy 86 = .ok (.putfield 31, 3) := by decide +kernel
theorem dX4_turnBy_89 : decode cX4_turnBy 89 = .ok (.goto 3, 3) := by decide +kernel
theorem dX4_turnBy_92 : decode cX4_turnBy 92 = .ok (.return_, 1) := by decide +kernel
theorem lkX4_68 : LkV "BumperBalls$Play" 68 yX4_turn cX4_turn 2 none 1 := ⟨wk_588, wk_5, wk_587, wk_s32, ⟨by decide +kernel, by decide +kernel, by decide +kernel⟩, wk_585⟩
theorem lkX4_98 : LkV "BumperBalls$Play" 98 yX4_isOpen cX4_isOpen 2 (some Jvm.ClassFile.FieldType.boolean) 1 := ⟨wk_602, wk_5, wk_601, wk_s35, ⟨by decide +kernel, by decide +kernel, by decide +kernel⟩, wk_599⟩
/-! BumperBalls$Play.turnBy(II)V -/
def fnX4_turnBy_92 (a0 : Nat) (I0 : Mem) : Option Mem :=
  some I0
set_option maxRecDepth 20000 in
set_option maxHeartbeats 2000000 in
theorem ebX4_turnBy_92 {g : Cfg} (C : Cx g RX4 cX4_turnBy 3 1 21 0 0) {h : Shp} {a0 : Nat} (H0 : PlayAt h a0) {o1 : Mem} (q : QV g 0 0 (o1, h)) {I0 : Mem} (hf : fnX4_turnBy_92 a0 I0 = some o1) : XE g 0 0 (I0, h) 92 [] [] := by
  unfold fnX4_turnBy_92 at hf
  exact xr_return C q dX4_turnBy_92 (so_v hf)
def fnX4_turnBy_74 (a0 : Nat) (I0 : Mem) (l1 : Int32) (t1 : Int32) : Option Mem :=
  ob (fnX4_turn a0 I0 t1) fun I2 => bnd (up2 I2 a0 6 ((I2 a0 6) ^^^ ((1 : Int32) <<< (l1 &&& 31)))) fun I3 => fnX4_turnBy_92 a0 I3
set_option maxRecDepth 20000 in
set_option maxHeartbeats 2000000 in
theorem ebX4_turnBy_74 {g : Cfg} (C : Cx g RX4 cX4_turnBy 3 1 21 0 0) {h : Shp} {a0 : Nat} (H0 : PlayAt h a0) {o1 : Mem} (q : QV g 0 0 (o1, h)) {I0 : Mem} {l1 : Int32} {t1 : Int32} (hf : fnX4_turnBy_74 a0 I0 l1 t1 = some o1) : XE g 0 0 (I0, h) 74 [(0, rf g a0), (1, .int l1)] [.int t1, rf g a0] := by
  unfold fnX4_turnBy_74 at hf
  obtain ⟨I2, h1, hf⟩ := ob_x hf
  refine xr_callVV C [.int t1] lkX4_68 (kX4_turn H0 h1) Kd4 rfl H0.1 rfl (Nat.le_of_ble_eq_true rfl) rfl dX4_turnBy_74 ⟨by decide, by decide, by decide⟩ rfl ?_
  refine xr_aload_n C dX4_turnBy_77 0 rfl rfl ?_
  refine xr_dup C dX4_turnBy_78 rfl ?_
  refine xr_geti C Kd4 (k := 6) (by decide) rfl wk_160 rfl H0.1 dX4_turnBy_79 ?_
  refine xr_iconst (v := 1) C dX4_turnBy_82 (by decide) ?_
  refine xr_iload_n C dX4_turnBy_83 1 rfl rfl ?_
  refine xr_ishl C dX4_turnBy_84 ?_
  refine xr_ixor C dX4_turnBy_85 ?_
  obtain ⟨I3, eI3, hf⟩ := bnd_x hf
  refine xr_putI C Kd4 (k := 6) (by decide) rfl rfl wk_160 rfl rfl rfl H0.1 dX4_turnBy_86 eI3 ?_
  refine xr_goto (tgt := 92) C dX4_turnBy_89 (by decide) ?_
  refine xr_lv [] rfl ?_
  exact ebX4_turnBy_92 C H0 q hf
def fnX4_turnBy (a0 : Nat) (I0 : Mem) (p1 : Int32) (p2 : Int32) : Option Mem :=
  if p2 = 1 then (ob (fnX4_turn a0 I0 2) fun I3 => fnX4_turnBy_92 a0 I3) else if p2 = 2 then (ob (fnX4_turn a0 I0 3) fun I5 => fnX4_turnBy_92 a0 I5) else if p2 = 3 then (ob (fnX4_turn a0 I0 1) fun I7 => fnX4_turnBy_92 a0 I7) else if p2 = 4 then (fnX4_turnBy_92 a0 I0) else if p2 = 5 then (ob (fnX4_isOpen a0 I0 p1) fun ⟨r10, I9⟩ => if r10 = 0 then (fnX4_turnBy_74 a0 I9 p1 2) else (fnX4_turnBy_74 a0 I9 p1 0)) else (fnX4_turnBy_92 a0 I0)
set_option maxRecDepth 20000 in
set_option maxHeartbeats 2000000 in
theorem ebX4_turnBy_0 {g : Cfg} (C : Cx g RX4 cX4_turnBy 3 1 21 0 0) {h : Shp} {a0 : Nat} (H0 : PlayAt h a0) {o1 : Mem} (q : QV g 0 0 (o1, h)) {I0 : Mem} {p1 : Int32} {p2 : Int32} (hf : fnX4_turnBy a0 I0 p1 p2 = some o1) : XE g 0 0 (I0, h) 0 [(0, rf g a0), (1, .int p1), (2, .int p2)] [] := by
  unfold fnX4_turnBy at hf
  refine xr_iload_n C dX4_turnBy_0 2 rfl rfl ?_
  rcases if_or hf with ⟨c1, hf⟩ | ⟨c1_0, hf⟩
  · refine xr_swIn (v := 1) (tgt := 36) C dX4_turnBy_1 c1 (by decide) (by decide) rfl (by decide) ?_
    refine xr_aload_n C dX4_turnBy_36 0 rfl rfl ?_
    refine xr_iconst (v := 2) C dX4_turnBy_37 (by decide) ?_
    obtain ⟨I3, h2, hf⟩ := ob_x hf
    refine xr_callVV C [.int 2] lkX4_68 (kX4_turn H0 h2) Kd4 rfl H0.1 rfl (Nat.le_of_ble_eq_true rfl) rfl dX4_turnBy_38 ⟨by decide, by decide, by decide⟩ rfl ?_
    refine xr_goto (tgt := 92) C dX4_turnBy_41 (by decide) ?_
    refine xr_lv [] rfl ?_
    exact ebX4_turnBy_92 C H0 q hf
  rcases if_or hf with ⟨c1, hf⟩ | ⟨c1_1, hf⟩
  · refine xr_swIn (v := 2) (tgt := 44) C dX4_turnBy_1 c1 (by decide) (by decide) rfl (by decide) ?_
    refine xr_aload_n C dX4_turnBy_44 0 rfl rfl ?_
    refine xr_iconst (v := 3) C dX4_turnBy_45 (by decide) ?_
    obtain ⟨I5, h4, hf⟩ := ob_x hf
    refine xr_callVV C [.int 3] lkX4_68 (kX4_turn H0 h4) Kd4 rfl H0.1 rfl (Nat.le_of_ble_eq_true rfl) rfl dX4_turnBy_46 ⟨by decide, by decide, by decide⟩ rfl ?_
    refine xr_goto (tgt := 92) C dX4_turnBy_49 (by decide) ?_
    refine xr_lv [] rfl ?_
    exact ebX4_turnBy_92 C H0 q hf
  rcases if_or hf with ⟨c1, hf⟩ | ⟨c1_2, hf⟩
  · refine xr_swIn (v := 3) (tgt := 52) C dX4_turnBy_1 c1 (by decide) (by decide) rfl (by decide) ?_
    refine xr_aload_n C dX4_turnBy_52 0 rfl rfl ?_
    refine xr_iconst (v := 1) C dX4_turnBy_53 (by decide) ?_
    obtain ⟨I7, h6, hf⟩ := ob_x hf
    refine xr_callVV C [.int 1] lkX4_68 (kX4_turn H0 h6) Kd4 rfl H0.1 rfl (Nat.le_of_ble_eq_true rfl) rfl dX4_turnBy_54 ⟨by decide, by decide, by decide⟩ rfl ?_
    refine xr_goto (tgt := 92) C dX4_turnBy_57 (by decide) ?_
    refine xr_lv [] rfl ?_
    exact ebX4_turnBy_92 C H0 q hf
  rcases if_or hf with ⟨c1, hf⟩ | ⟨c1_3, hf⟩
  · refine xr_swIn (v := 4) (tgt := 92) C dX4_turnBy_1 c1 (by decide) (by decide) rfl (by decide) ?_
    refine xr_lv [] rfl ?_
    exact ebX4_turnBy_92 C H0 q hf
  rcases if_or hf with ⟨c1, hf⟩ | ⟨c1_4, hf⟩
  · refine xr_swIn (v := 5) (tgt := 60) C dX4_turnBy_1 c1 (by decide) (by decide) rfl (by decide) ?_
    refine xr_aload_n C dX4_turnBy_60 0 rfl rfl ?_
    refine xr_aload_n C dX4_turnBy_61 0 rfl rfl ?_
    refine xr_iload_n C dX4_turnBy_62 1 rfl rfl ?_
    obtain ⟨⟨r10, I9⟩, h8, hf⟩ := ob_x hf
    refine xr_callVI C [.int p1] lkX4_98 (kX4_isOpen H0 h8) Kd4 rfl H0.1 rfl (Nat.le_of_ble_eq_true rfl) rfl dX4_turnBy_63 ⟨by decide, by decide, by decide⟩ rfl ?_
    refine xr_if_eq (tgt := 73) C dX4_turnBy_66 (by decide) hf (fun c11 hf => ?_) (fun c11 hf => ?_)
    · refine xr_iconst (v := 2) C dX4_turnBy_73 (by decide) ?_
      refine xr_lv [0, 1] rfl ?_
      exact ebX4_turnBy_74 C H0 q hf
    · refine xr_iconst (v := 0) C dX4_turnBy_69 (by decide) ?_
      refine xr_goto (tgt := 74) C dX4_turnBy_70 (by decide) ?_
      refine xr_lv [0, 1] rfl ?_
      exact ebX4_turnBy_74 C H0 q hf
  refine xr_swOut (tgt := 92) C dX4_turnBy_1 (sw_out15 c1_0 c1_1 c1_2 c1_3 c1_4) (by decide) ?_
  refine xr_lv [] rfl ?_
  exact ebX4_turnBy_92 C H0 q hf
theorem kX4_turnBy {B : Bs} {h : Shp} {a0 : Nat} (H0 : PlayAt h a0) {I0 : Mem} {p1 : Int32} {p2 : Int32} {o1 : Mem} (hf : fnX4_turnBy a0 I0 p1 p2 = some o1) : CtrV B yX4_turnBy cX4_turnBy 3 1 21 0 0 [rfB B a0, .int p1, .int p2] (I0, h) (o1, h) := by
  refine xr_enterV (lv0 := [(0, rfB B a0), (1, .int p1), (2, .int p2)]) (by decide) (Nat.le_of_ble_eq_true rfl) rfl (fun g hg C q => ?_)
  subst hg
  exact ebX4_turnBy_0 C H0 q hf
theorem dX4_knock_0 : decode cX4_knock 0 = .ok (.iload_n 2, 1) := by decide +kernel
theorem dX4_knock_1 : decode cX4_knock 1 = .ok (.iconst 5, 1) := by decide +kernel
theorem dX4_knock_2 : decode cX4_knock 2 = .ok (.invokestatic 82, 3) := by decide +kernel
theorem dX4_knock_5 : decode cX4_knock 5 = .ok (.ifCond .ne 4, 3) := by decide +kernel
theorem dX4_knock_8 : decode cX4_knock 8 = .ok (.return_, 1) := by decide +kernel
theorem dX4_knock_9 : decode cX4_knock 9 = .ok (.aload_n 0, 1) := by decide +kernel
theorem dX4_knock_10 : decode cX4_knock 10 = .ok (.iload_n 2, 1) := by decide +kernel
theorem dX4_knock_11 : decode cX4_knock 11 = .ok (.putfield 41, 3) := by decide +kernel
theorem dX4_knock_14 : decode cX4_knock 14 = .ok (.aload_n 0, 1) := by decide +kernel
theorem dX4_knock_15 : decode cX4_knock 15 = .ok (.getfield 37, 3) := by decide +kernel
theorem dX4_knock_18 : decode cX4_knock 18 = .ok (.iload_n 2, 1) := by decide +kernel
theorem dX4_knock_19 : decode cX4_knock 19 = .ok (.dup2, 1) := by decide +kernel
theorem dX4_knock_20 : decode cX4_knock 20 = .ok (.iaload, 1) := by decide +kernel
theorem dX4_knock_21 : decode cX4_knock 21 = .ok (.iconst 1, 1) := by decide +kernel
theorem dX4_knock_22 : decode cX4_knock 22 = .ok (.iadd, 1) := by decide +kernel
theorem dX4_knock_23 : decode cX4_knock 23 = .ok (.iastore, 1) := by decide +kernel
theorem dX4_knock_24 : decode cX4_knock 24 = .ok (.aload_n 0, 1) := by decide +kernel
theorem dX4_knock_25 : decode cX4_knock 25 = .ok (.getfield 28, 3) := by decide +kernel
theorem dX4_knock_28 : decode cX4_knock 28 = .ok (.aload_n 1, 1) := by decide +kernel
theorem dX4_knock_29 : decode cX4_knock 29 = .ok (.getfield 86, 3) := by decide +kernel
theorem dX4_knock_32 : decode cX4_knock 32 = .ok (.iload_n 2, 1) := by decide +kernel
theorem dX4_knock_33 : decode cX4_knock 33 = .ok (.iaload, 1) := by decide +kernel
theorem dX4_knock_34 : decode cX4_knock 34 = .ok (.if_icmp .eq 18, 3) := by decide +kernel
theorem dX4_knock_37 : decode cX4_knock 37 = .ok (.aload_n 0, 1) := by decide +kernel
theorem dX4_knock_38 : decode cX4_knock 38 = .ok (.dup, 1) := by decide +kernel
theorem dX4_knock_39 : decode cX4_knock 39 = .ok (.getfield 25, 3) := by decide +kernel
theorem dX4_knock_42 : decode cX4_knock 42 = .ok (.aload_n 1, 1) := by decide +kernel
theorem dX4_knock_43 : decode cX4_knock 43 = .ok (.getfield 89, 3) := by decide +kernel
theorem dX4_knock_46 : decode cX4_knock 46 = .ok (.iload_n 2, 1) := by decide +kernel
theorem dX4_knock_47 : decode cX4_knock 47 = .ok (.iaload, 1) := by decide +kernel
theorem dX4_knock_48 : decode cX4_knock 48 = .ok (.iadd, 1) := by decide +kernel
theorem dX4_knock_49 : decode cX4_knock 49 = .ok (.putfield 25, 3) := by decide +kernel
theorem dX4_knock_52 : decode cX4_knock 52 = .ok (.aload_n 0, 1) := by decide +kernel
theorem dX4_knock_53 : decode cX4_knock 53 = .ok (.aload_n 1, 1) := by decide +kernel
theorem dX4_knock_54 : decode cX4_knock 54 = .ok (.getfield 86, 3) := by decide +kernel
theorem dX4_knock_57 : decode cX4_knock 57 = .ok (.iload_n 2, 1) := by decide +kernel
theorem dX4_knock_58 : decode cX4_knock 58 = .ok (.iaload, 1) := by decide +kernel
theorem dX4_knock_59 : decode cX4_knock 59 = .ok (.putfield 28, 3) := by decide +kernel
theorem dX4_knock_62 : decode cX4_knock 62 = .ok (.aload_n 0, 1) := by decide +kernel
theorem dX4_knock_63 : decode cX4_knock 63 = .ok (.iload_n 2, 1) := by decide +kernel
theorem dX4_knock_64 : decode cX4_knock 64 = .ok (.aload_n 1, 1) := by decide +kernel
theorem dX4_knock_65 : decode cX4_knock 65 = .ok (.getfield 92, 3) := by decide +kernel
theorem dX4_knock_68 : decode cX4_knock 68 = .ok (.iload_n 2, 1) := by decide +kernel
theorem dX4_knock_69 : decode cX4_knock 69 = .ok (.iaload, 1) := by decide +kernel
theorem dX4_knock_70 : decode cX4_knock 70 = .ok (.invokevirtual 95, 3) := by decide +kernel
theorem dX4_knock_73 : decode cX4_knock 73 = .ok (.return_, 1) := by decide +kernel
theorem lkX4_82 : LkSN "BumperBalls$Play" 82 yX9_isUpTo cX9_isUpTo 2 (some Jvm.ClassFile.FieldType.boolean) 2 := ⟨wk_351, wk_1, wk_350, ⟨by decide +kernel, by decide +kernel, by decide +kernel⟩, (List.mem_of_getElem? (i := 94) (by decide +kernel))⟩
theorem lkX4_95 : LkV "BumperBalls$Play" 95 yX4_turnBy cX4_turnBy 3 none 2 := ⟨wk_598, wk_5, wk_597, wk_s34, ⟨by decide +kernel, by decide +kernel, by decide +kernel⟩, wk_595⟩
/-! BumperBalls$Play.knock(LBumperBalls$Table;I)V -/
def fnX4_knock_52 (a0 : Nat) (a1 : Nat) (I0 : Mem) (l2 : Int32) : Option Mem :=
  ck (inb l2 6) <| bnd (up2 I0 a0 5 (I0 (a1 + 3) (ix l2))) fun I2 => ck (inb l2 6) <| ob (fnX4_turnBy a0 I2 l2 (I2 (a1 + 1) (ix l2))) fun I5 => some I5
set_option maxRecDepth 20000 in
set_option maxHeartbeats 2000000 in
theorem ebX4_knock_52 {g : Cfg} (C : Cx g RX4 cX4_knock 3 2 43 0 0) {h : Shp} {a0 : Nat} {a1 : Nat} (H0 : PlayAt h a0) (H1 : TableAt h a1) {o1 : Mem} (q : QV g 0 0 (o1, h)) {I0 : Mem} {l2 : Int32} (hf : fnX4_knock_52 a0 a1 I0 l2 = some o1) : XE g 0 0 (I0, h) 52 [(0, rf g a0), (1, rf g a1), (2, .int l2)] [] := by
  unfold fnX4_knock_52 at hf
  refine xr_aload_n C dX4_knock_52 0 rfl rfl ?_
  refine xr_aload_n C dX4_knock_53 1 rfl rfl ?_
  refine xr_getrN C Kd7 (k := 4) (by decide) rfl nk36 rfl H1.1 H1.2.2.2.1.1 dX4_knock_54 ?_
  refine xr_iload_n C dX4_knock_57 2 rfl rfl ?_
  obtain ⟨i1, hf⟩ := ck_x hf
  refine xr_iald C H1.2.2.2.1.2 i1 dX4_knock_58 ?_
  obtain ⟨I2, eI2, hf⟩ := bnd_x hf
  refine xr_putI C Kd4 (k := 5) (by decide) rfl rfl wk_158 rfl rfl rfl H0.1 dX4_knock_59 eI2 ?_
  refine xr_aload_n C dX4_knock_62 0 rfl rfl ?_
  refine xr_iload_n C dX4_knock_63 2 rfl rfl ?_
  refine xr_aload_n C dX4_knock_64 1 rfl rfl ?_
  refine xr_getrN C Kd7 (k := 2) (by decide) rfl nk38 rfl H1.1 H1.2.1.1 dX4_knock_65 ?_
  refine xr_iload_n C dX4_knock_68 2 rfl rfl ?_
  obtain ⟨i3, hf⟩ := ck_x hf
  refine xr_iald C H1.2.1.2 i3 dX4_knock_69 ?_
  obtain ⟨I5, h4, hf⟩ := ob_x hf
  refine xr_callVV C [.int l2, .int (I2 (a1 + 1) (ix l2))] lkX4_95 (kX4_turnBy H0 h4) Kd4 rfl H0.1 rfl (Nat.le_of_ble_eq_true rfl) rfl dX4_knock_70 ⟨by decide, by decide, by decide⟩ rfl ?_
  exact xr_return C q dX4_knock_73 (so_v hf)
def fnX4_knock (a0 : Nat) (a1 : Nat) (I0 : Mem) (p2 : Int32) : Option Mem :=
  ob (fnX9_isUpTo I0 p2 5) fun ⟨r3, I2⟩ => if r3 = 0 then (some I2) else (bnd (up2 I2 a0 9 p2) fun I5 => ck (inb p2 6) <| ck (inb p2 6) <| bnd (up2 I5 (a0 + 1) (ix p2) ((I5 (a0 + 1) (ix p2)) + 1)) fun I8 => ck (inb p2 6) <| if (I8 a0 5) = (I8 (a1 + 3) (ix p2)) then (fnX4_knock_52 a0 a1 I8 p2) else (ck (inb p2 6) <| bnd (up2 I8 a0 4 ((I8 a0 4) + (I8 (a1 + 4) (ix p2)))) fun I12 => fnX4_knock_52 a0 a1 I12 p2))
set_option maxRecDepth 20000 in
set_option maxHeartbeats 2000000 in
theorem ebX4_knock_0 {g : Cfg} (C : Cx g RX4 cX4_knock 3 2 43 0 0) {h : Shp} {a0 : Nat} {a1 : Nat} (H0 : PlayAt h a0) (H1 : TableAt h a1) {o1 : Mem} (q : QV g 0 0 (o1, h)) {I0 : Mem} {p2 : Int32} (hf : fnX4_knock a0 a1 I0 p2 = some o1) : XE g 0 0 (I0, h) 0 [(0, rf g a0), (1, rf g a1), (2, .int p2)] [] := by
  unfold fnX4_knock at hf
  refine xr_iload_n C dX4_knock_0 2 rfl rfl ?_
  refine xr_iconst (v := 5) C dX4_knock_1 (by decide) ?_
  obtain ⟨⟨r3, I2⟩, h1, hf⟩ := ob_x hf
  refine xr_callSNI C [.int p2, .int 5] lkX4_82 (kX9_isUpTo h1) rfl (Nat.le_of_ble_eq_true rfl) rfl dX4_knock_2 ⟨by decide, by decide, by decide⟩ rfl ?_
  refine xr_if_ne (tgt := 9) C dX4_knock_5 (by decide) hf (fun c4 hf => ?_) (fun c4 hf => ?_)
  · refine xr_aload_n C dX4_knock_9 0 rfl rfl ?_
    refine xr_iload_n C dX4_knock_10 2 rfl rfl ?_
    obtain ⟨I5, eI5, hf⟩ := bnd_x hf
    refine xr_putI C Kd4 (k := 9) (by decide) rfl rfl wk_168 rfl rfl rfl H0.1 dX4_knock_11 eI5 ?_
    refine xr_aload_n C dX4_knock_14 0 rfl rfl ?_
    refine xr_getr C Kd4 (k := 8) (by decide) rfl wk_165 rfl H0.1 H0.2.1 dX4_knock_15 ?_
    refine xr_iload_n C dX4_knock_18 2 rfl rfl ?_
    refine xr_dup2 C dX4_knock_19 rfl rfl ?_
    obtain ⟨i6, hf⟩ := ck_x hf
    refine xr_iald C H0.2.2 i6 dX4_knock_20 ?_
    refine xr_iconst (v := 1) C dX4_knock_21 (by decide) ?_
    refine xr_iadd C dX4_knock_22 ?_
    obtain ⟨i7, hf⟩ := ck_x hf
    obtain ⟨I8, eI8, hf⟩ := bnd_x hf
    refine xr_iast C H0.2.2 i7 dX4_knock_23 eI8 ?_
    refine xr_aload_n C dX4_knock_24 0 rfl rfl ?_
    refine xr_geti C Kd4 (k := 5) (by decide) rfl wk_158 rfl H0.1 dX4_knock_25 ?_
    refine xr_aload_n C dX4_knock_28 1 rfl rfl ?_
    refine xr_getrN C Kd7 (k := 4) (by decide) rfl nk36 rfl H1.1 H1.2.2.2.1.1 dX4_knock_29 ?_
    refine xr_iload_n C dX4_knock_32 2 rfl rfl ?_
    obtain ⟨i9, hf⟩ := ck_x hf
    refine xr_iald C H1.2.2.2.1.2 i9 dX4_knock_33 ?_
    refine xr_icmp_eq (tgt := 52) C dX4_knock_34 (by decide) hf (fun c10 hf => ?_) (fun c10 hf => ?_)
    · exact ebX4_knock_52 C H0 H1 q hf
    · refine xr_aload_n C dX4_knock_37 0 rfl rfl ?_
      refine xr_dup C dX4_knock_38 rfl ?_
      refine xr_geti C Kd4 (k := 4) (by decide) rfl wk_156 rfl H0.1 dX4_knock_39 ?_
      refine xr_aload_n C dX4_knock_42 1 rfl rfl ?_
      refine xr_getrN C Kd7 (k := 5) (by decide) rfl nk37 rfl H1.1 H1.2.2.2.2.1.1 dX4_knock_43 ?_
      refine xr_iload_n C dX4_knock_46 2 rfl rfl ?_
      obtain ⟨i11, hf⟩ := ck_x hf
      refine xr_iald C H1.2.2.2.2.1.2 i11 dX4_knock_47 ?_
      refine xr_iadd C dX4_knock_48 ?_
      obtain ⟨I12, eI12, hf⟩ := bnd_x hf
      refine xr_putI C Kd4 (k := 4) (by decide) rfl rfl wk_156 rfl rfl rfl H0.1 dX4_knock_49 eI12 ?_
      exact ebX4_knock_52 C H0 H1 q hf
  · exact xr_return C q dX4_knock_8 (so_v hf)
theorem kX4_knock {B : Bs} {h : Shp} {a0 : Nat} {a1 : Nat} (H0 : PlayAt h a0) (H1 : TableAt h a1) {I0 : Mem} {p2 : Int32} {o1 : Mem} (hf : fnX4_knock a0 a1 I0 p2 = some o1) : CtrV B yX4_knock cX4_knock 3 2 43 0 0 [rfB B a0, rfB B a1, .int p2] (I0, h) (o1, h) := by
  refine xr_enterV (lv0 := [(0, rfB B a0), (1, rfB B a1), (2, .int p2)]) (by decide) (Nat.le_of_ble_eq_true rfl) rfl (fun g hg C q => ?_)
  subst hg
  exact ebX4_knock_0 C H0 H1 q hf
