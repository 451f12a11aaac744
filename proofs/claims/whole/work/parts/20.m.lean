theorem dX10_in_0 : decode cX10_in 0 = .ok (.lload_n 0, 1) := by decide +kernel
theorem dX10_in_1 : decode cX10_in 1 = .ok (.lload_n 2, 1) := by decide +kernel
theorem dX10_in_2 : decode cX10_in 2 = .ok (.lcmp, 1) := by decide +kernel
theorem dX10_in_3 : decode cX10_in 3 = .ok (.ifCond .lt 14, 3) := by decide +kernel
theorem dX10_in_6 : decode cX10_in 6 = .ok (.lload_n 0, 1) := by decide +kernel
theorem dX10_in_7 : decode cX10_in 7 = .ok (.lload 4, 2) := by decide +kernel
theorem dX10_in_9 : decode cX10_in 9 = .ok (.lcmp, 1) := by decide +kernel
theorem dX10_in_10 : decode cX10_in 10 = .ok (.ifCond .gt 7, 3) := by decide +kernel
theorem dX10_in_13 : decode cX10_in 13 = .ok (.iconst 1, 1) := by decide +kernel
theorem dX10_in_14 : decode cX10_in 14 = .ok (.goto 4, 3) := by decide +kernel
theorem dX10_in_17 : decode cX10_in 17 = .ok (.iconst 0, 1) := by decide +kernel
theorem dX10_in_18 : decode cX10_in 18 = .ok (.ireturn, 1) := by decide +kernel
/-! BumperBallsModel.in(JJJ)Z -/
def fnX10_in_18 (I0 : Mem) (t0 : Int32) : Option (Int32 × Mem) :=
  ck (zb t0) <| some (t0, I0)
set_option maxRecDepth 20000 in
set_option maxHeartbeats 2000000 in
theorem ebX10_in_18 {g : Cfg} (C : Cx g RX10 cX10_in 6 0 0 0 0) {h : Shp} {r1 : Int32} {o1 : Mem} (q : QI g (some Jvm.ClassFile.FieldType.boolean) 0 0 r1 (o1, h)) {I0 : Mem} {t0 : Int32} (hf : fnX10_in_18 I0 t0 = some (r1, o1)) : XE g 0 0 (I0, h) 18 [] [.int t0] := by
  unfold fnX10_in_18 at hf
  obtain ⟨z1, hf⟩ := ck_x hf
  exact xr_ireturn C q rfl (zb_ok z1).1 dX10_in_18 (so_1 hf) (so_w hf)
def fnX10_in_17 (I0 : Mem) : Option (Int32 × Mem) :=
  fnX10_in_18 I0 0
set_option maxRecDepth 20000 in
set_option maxHeartbeats 2000000 in
theorem ebX10_in_17 {g : Cfg} (C : Cx g RX10 cX10_in 6 0 0 0 0) {h : Shp} {r1 : Int32} {o1 : Mem} (q : QI g (some Jvm.ClassFile.FieldType.boolean) 0 0 r1 (o1, h)) {I0 : Mem} (hf : fnX10_in_17 I0 = some (r1, o1)) : XE g 0 0 (I0, h) 17 [] [] := by
  unfold fnX10_in_17 at hf
  refine xr_iconst (v := 0) C dX10_in_17 (by decide) ?_
  exact ebX10_in_18 C q hf
def fnX10_in (I0 : Mem) (p0 : Int64) (p2 : Int64) (p4 : Int64) : Option (Int32 × Mem) :=
  if (lg_cmp p0 p2) < 0 then (fnX10_in_17 I0) else (if 0 < (lg_cmp p0 p4) then (fnX10_in_17 I0) else (fnX10_in_18 I0 1))
set_option maxRecDepth 20000 in
set_option maxHeartbeats 2000000 in
theorem ebX10_in_0 {g : Cfg} (C : Cx g RX10 cX10_in 6 0 0 0 0) {h : Shp} {r1 : Int32} {o1 : Mem} (q : QI g (some Jvm.ClassFile.FieldType.boolean) 0 0 r1 (o1, h)) {I0 : Mem} {p0 : Int64} {p2 : Int64} {p4 : Int64} (hf : fnX10_in I0 p0 p2 p4 = some (r1, o1)) : XE g 0 0 (I0, h) 0 [(0, .long p0), (2, .long p2), (4, .long p4)] [] := by
  unfold fnX10_in at hf
  refine xr_lload_n C dX10_in_0 0 rfl rfl ?_
  refine xr_lload_n C dX10_in_1 1 rfl rfl ?_
  refine xr_lcmp C dX10_in_2 ?_
  refine xr_if_lt (tgt := 17) C dX10_in_3 (by decide) hf (fun c1 hf => ?_) (fun c1 hf => ?_)
  · refine xr_lv [] rfl ?_
    exact ebX10_in_17 C q hf
  · refine xr_lload_n C dX10_in_6 0 rfl rfl ?_
    refine xr_lload C dX10_in_7 2 rfl ?_
    refine xr_lcmp C dX10_in_9 ?_
    refine xr_if_gt (tgt := 17) C dX10_in_10 (by decide) hf (fun c2 hf => ?_) (fun c2 hf => ?_)
    · refine xr_lv [] rfl ?_
      exact ebX10_in_17 C q hf
    · refine xr_iconst (v := 1) C dX10_in_13 (by decide) ?_
      refine xr_goto (tgt := 18) C dX10_in_14 (by decide) ?_
      refine xr_lv [] rfl ?_
      exact ebX10_in_18 C q hf
theorem kX10_in {B : Bs} {h : Shp} {I0 : Mem} {p0 : Int64} {p2 : Int64} {p4 : Int64} {r1 : Int32} {o1 : Mem} (hf : fnX10_in I0 p0 p2 p4 = some (r1, o1)) : CtrI B yX10_in cX10_in 6 (some Jvm.ClassFile.FieldType.boolean) 0 0 0 0 [.long p0, .long p2, .long p4] (I0, h) r1 (o1, h) := by
  refine xr_enterI (lv0 := [(0, .long p0), (2, .long p2), (4, .long p4)]) (by decide) (Nat.le_of_ble_eq_true rfl) rfl (fun g hg C q => ?_)
  subst hg
  exact ebX10_in_0 C q hf
theorem dX10_has_0 : decode cX10_has 0 = .ok (.iload_n 0, 1) := by decide +kernel
theorem dX10_has_1 : decode cX10_has 1 = .ok (.iload_n 1, 1) := by decide +kernel
theorem dX10_has_2 : decode cX10_has 2 = .ok (.ishr, 1) := by decide +kernel
theorem dX10_has_3 : decode cX10_has 3 = .ok (.iconst 1, 1) := by decide +kernel
theorem dX10_has_4 : decode cX10_has 4 = .ok (.iand, 1) := by decide +kernel
theorem dX10_has_5 : decode cX10_has 5 = .ok (.iconst 1, 1) := by decide +kernel
theorem dX10_has_6 : decode cX10_has 6 = .ok (.if_icmp .ne 7, 3) := by decide +kernel
theorem dX10_has_9 : decode cX10_has 9 = .ok (.iconst 1, 1) := by decide +kernel
theorem dX10_has_10 : decode cX10_has 10 = .ok (.goto 4, 3) := by decide +kernel
theorem dX10_has_13 : decode cX10_has 13 = .ok (.iconst 0, 1) := by decide +kernel
theorem dX10_has_14 : decode cX10_has 14 = .ok (.ireturn, 1) := by decide +kernel
/-! BumperBallsModel.has(II)Z -/
def fnX10_has_14 (I0 : Mem) (t0 : Int32) : Option (Int32 × Mem) :=
  ck (zb t0) <| some (t0, I0)
set_option maxRecDepth 20000 in
set_option maxHeartbeats 2000000 in
theorem ebX10_has_14 {g : Cfg} (C : Cx g RX10 cX10_has 2 0 0 0 0) {h : Shp} {r1 : Int32} {o1 : Mem} (q : QI g (some Jvm.ClassFile.FieldType.boolean) 0 0 r1 (o1, h)) {I0 : Mem} {t0 : Int32} (hf : fnX10_has_14 I0 t0 = some (r1, o1)) : XE g 0 0 (I0, h) 14 [] [.int t0] := by
  unfold fnX10_has_14 at hf
  obtain ⟨z1, hf⟩ := ck_x hf
  exact xr_ireturn C q rfl (zb_ok z1).1 dX10_has_14 (so_1 hf) (so_w hf)
def fnX10_has (I0 : Mem) (p0 : Int32) (p1 : Int32) : Option (Int32 × Mem) :=
  if ((p0 >>> (p1 &&& 31)) &&& 1) = 1 then (fnX10_has_14 I0 1) else (fnX10_has_14 I0 0)
set_option maxRecDepth 20000 in
set_option maxHeartbeats 2000000 in
theorem ebX10_has_0 {g : Cfg} (C : Cx g RX10 cX10_has 2 0 0 0 0) {h : Shp} {r1 : Int32} {o1 : Mem} (q : QI g (some Jvm.ClassFile.FieldType.boolean) 0 0 r1 (o1, h)) {I0 : Mem} {p0 : Int32} {p1 : Int32} (hf : fnX10_has I0 p0 p1 = some (r1, o1)) : XE g 0 0 (I0, h) 0 [(0, .int p0), (1, .int p1)] [] := by
  unfold fnX10_has at hf
  refine xr_iload_n C dX10_has_0 0 rfl rfl ?_
  refine xr_iload_n C dX10_has_1 1 rfl rfl ?_
  refine xr_ishr C dX10_has_2 ?_
  refine xr_iconst (v := 1) C dX10_has_3 (by decide) ?_
  refine xr_iand C dX10_has_4 ?_
  refine xr_iconst (v := 1) C dX10_has_5 (by decide) ?_
  refine xr_icmp_ne (tgt := 13) C dX10_has_6 (by decide) hf (fun c1 hf => ?_) (fun c1 hf => ?_)
  · refine xr_iconst (v := 0) C dX10_has_13 (by decide) ?_
    refine xr_lv [] rfl ?_
    exact ebX10_has_14 C q hf
  · refine xr_iconst (v := 1) C dX10_has_9 (by decide) ?_
    refine xr_goto (tgt := 14) C dX10_has_10 (by decide) ?_
    refine xr_lv [] rfl ?_
    exact ebX10_has_14 C q hf
theorem kX10_has {B : Bs} {h : Shp} {I0 : Mem} {p0 : Int32} {p1 : Int32} {r1 : Int32} {o1 : Mem} (hf : fnX10_has I0 p0 p1 = some (r1, o1)) : CtrI B yX10_has cX10_has 2 (some Jvm.ClassFile.FieldType.boolean) 0 0 0 0 [.int p0, .int p1] (I0, h) r1 (o1, h) := by
  refine xr_enterI (lv0 := [(0, .int p0), (1, .int p1)]) (by decide) (Nat.le_of_ble_eq_true rfl) rfl (fun g hg C q => ?_)
  subst hg
  exact ebX10_has_0 C q hf
theorem dX10_find_0 : decode cX10_find 0 = .ok (.aload_n 0, 1) := by decide +kernel
theorem dX10_find_1 : decode cX10_find 1 = .ok (.iload_n 1, 1) := by decide +kernel
theorem dX10_find_2 : decode cX10_find 2 = .ok (.putfield 41, 3) := by decide +kernel
theorem dX10_find_5 : decode cX10_find 5 = .ok (.ldc 45, 2) := by decide +kernel
theorem dX10_find_7 : decode cX10_find 7 = .ok (.iload_n 1, 1) := by decide +kernel
theorem dX10_find_8 : decode cX10_find 8 = .ok (.isub, 1) := by decide +kernel
theorem dX10_find_9 : decode cX10_find 9 = .ok (.ireturn, 1) := by decide +kernel
/-! BumperBallsModel.find(I)I -/
def fnX10_find (I0 : Mem) (p1 : Int32) : Option (Int32 × Mem) :=
  bnd (up2 I0 111 6 p1) fun I1 => some ((((-1000010) : Int32) - p1), I1)
set_option maxRecDepth 20000 in
set_option maxHeartbeats 2000000 in
theorem ebX10_find_0 {g : Cfg} (C : Cx g RX10 cX10_find 2 0 0 0 0) {h : Shp} (H0 : MAt h) {r1 : Int32} {o1 : Mem} (q : QI g (some Jvm.ClassFile.FieldType.int) 0 0 r1 (o1, h)) {I0 : Mem} {p1 : Int32} (hf : fnX10_find I0 p1 = some (r1, o1)) : XE g 0 0 (I0, h) 0 [(0, rf g 111), (1, .int p1)] [] := by
  unfold fnX10_find at hf
  refine xr_aload_n C dX10_find_0 0 rfl rfl ?_
  refine xr_iload_n C dX10_find_1 1 rfl rfl ?_
  obtain ⟨I1, eI1, hf⟩ := bnd_x hf
  refine xr_putI C Kd10 (k := 6) (by decide) rfl rfl wk_827 rfl rfl rfl H0.1 dX10_find_2 eI1 ?_
  refine xr_ldc C wk_905 dX10_find_5 ?_
  refine xr_iload_n C dX10_find_7 1 rfl rfl ?_
  refine xr_isub C dX10_find_8 ?_
  exact xr_ireturn C q rfl rfl dX10_find_9 (so_1 hf) (so_w hf)
theorem kX10_find {B : Bs} {h : Shp} (H0 : MAt h) {I0 : Mem} {p1 : Int32} {r1 : Int32} {o1 : Mem} (hf : fnX10_find I0 p1 = some (r1, o1)) : CtrI B yX10_find cX10_find 2 (some Jvm.ClassFile.FieldType.int) 0 0 0 0 [rfB B 111, .int p1] (I0, h) r1 (o1, h) := by
  refine xr_enterI (lv0 := [(0, rfB B 111), (1, .int p1)]) (by decide) (Nat.le_of_ble_eq_true rfl) rfl (fun g hg C q => ?_)
  subst hg
  exact ebX10_find_0 C H0 q hf
theorem dX10_give_0 : decode cX10_give 0 = .ok (.aload_n 0, 1) := by decide +kernel
theorem dX10_give_1 : decode cX10_give 1 = .ok (.iconst 0, 1) := by decide +kernel
theorem dX10_give_2 : decode cX10_give 2 = .ok (.putfield 41, 3) := by decide +kernel
theorem dX10_give_5 : decode cX10_give 5 = .ok (.iload_n 1, 1) := by decide +kernel
theorem dX10_give_6 : decode cX10_give 6 = .ok (.ireturn, 1) := by decide +kernel
/-! BumperBallsModel.give(I)I -/
def fnX10_give (I0 : Mem) (p1 : Int32) : Option (Int32 × Mem) :=
  bnd (up2 I0 111 6 0) fun I1 => some (p1, I1)
set_option maxRecDepth 20000 in
set_option maxHeartbeats 2000000 in
theorem ebX10_give_0 {g : Cfg} (C : Cx g RX10 cX10_give 2 0 0 0 0) {h : Shp} (H0 : MAt h) {r1 : Int32} {o1 : Mem} (q : QI g (some Jvm.ClassFile.FieldType.int) 0 0 r1 (o1, h)) {I0 : Mem} {p1 : Int32} (hf : fnX10_give I0 p1 = some (r1, o1)) : XE g 0 0 (I0, h) 0 [(0, rf g 111), (1, .int p1)] [] := by
  unfold fnX10_give at hf
  refine xr_aload_n C dX10_give_0 0 rfl rfl ?_
  refine xr_iconst (v := 0) C dX10_give_1 (by decide) ?_
  obtain ⟨I1, eI1, hf⟩ := bnd_x hf
  refine xr_putI C Kd10 (k := 6) (by decide) rfl rfl wk_827 rfl rfl rfl H0.1 dX10_give_2 eI1 ?_
  refine xr_iload_n C dX10_give_5 1 rfl rfl ?_
  exact xr_ireturn C q rfl rfl dX10_give_6 (so_1 hf) (so_w hf)
theorem kX10_give {B : Bs} {h : Shp} (H0 : MAt h) {I0 : Mem} {p1 : Int32} {r1 : Int32} {o1 : Mem} (hf : fnX10_give I0 p1 = some (r1, o1)) : CtrI B yX10_give cX10_give 2 (some Jvm.ClassFile.FieldType.int) 0 0 0 0 [rfB B 111, .int p1] (I0, h) r1 (o1, h) := by
  refine xr_enterI (lv0 := [(0, rfB B 111), (1, .int p1)]) (by decide) (Nat.le_of_ble_eq_true rfl) rfl (fun g hg C q => ?_)
  subst hg
  exact ebX10_give_0 C H0 q hf
theorem dX10_isRow_0 : decode cX10_isRow 0 = .ok (.iload_n 0, 1) := by decide +kernel
theorem dX10_isRow_1 : decode cX10_isRow 1 = .ok (.i2l, 1) := by decide +kernel
theorem dX10_isRow_2 : decode cX10_isRow 2 = .ok (.lconst 0, 1) := by decide +kernel
theorem dX10_isRow_3 : decode cX10_isRow 3 = .ok (.ldc2_w 46, 3) := by decide +kernel
theorem dX10_isRow_6 : decode cX10_isRow 6 = .ok (.invokestatic 48, 3) := by decide +kernel
theorem dX10_isRow_9 : decode cX10_isRow 9 = .ok (.ireturn, 1) := by decide +kernel
theorem lkX10_48 : LkS "BumperBallsModel" 48 yX10_in cX10_in 6 (some Jvm.ClassFile.FieldType.boolean) 3 := ⟨wk_898, wk_11, wk_897, ⟨by decide +kernel, by decide +kernel, by decide +kernel⟩, wk_896⟩
/-! BumperBallsModel.isRow(I)Z -/
def fnX10_isRow (I0 : Mem) (p0 : Int32) : Option (Int32 × Mem) :=
  ob (fnX10_in I0 (p0.toInt64) 0 7) fun ⟨r3, I2⟩ => ck (zb r3) <| some (r3, I2)
set_option maxRecDepth 20000 in
set_option maxHeartbeats 2000000 in
theorem ebX10_isRow_0 {g : Cfg} (C : Cx g RX10 cX10_isRow 1 1 25 0 0) {h : Shp} {r1 : Int32} {o1 : Mem} (q : QI g (some Jvm.ClassFile.FieldType.boolean) 0 0 r1 (o1, h)) {I0 : Mem} {p0 : Int32} (hf : fnX10_isRow I0 p0 = some (r1, o1)) : XE g 0 0 (I0, h) 0 [(0, .int p0)] [] := by
  unfold fnX10_isRow at hf
  refine xr_iload_n C dX10_isRow_0 0 rfl rfl ?_
  refine xr_i2l C dX10_isRow_1 ?_
  refine xr_lconst (v := 0) C dX10_isRow_2 (by decide) ?_
  refine xr_ldc2 C wk_895 dX10_isRow_3 ?_
  obtain ⟨⟨r3, I2⟩, h1, hf⟩ := ob_x hf
  refine xr_callSI C [.long (p0.toInt64), .long 0, .long 7] lkX10_48 (kX10_in h1) rfl (Nat.le_of_ble_eq_true rfl) rfl dX10_isRow_6 ⟨by decide, by decide, by decide⟩ rfl ?_
  obtain ⟨z4, hf⟩ := ck_x hf
  exact xr_ireturn C q rfl (zb_ok z4).1 dX10_isRow_9 (so_1 hf) (so_w hf)
theorem kX10_isRow {B : Bs} {h : Shp} {I0 : Mem} {p0 : Int32} {r1 : Int32} {o1 : Mem} (hf : fnX10_isRow I0 p0 = some (r1, o1)) : CtrI B yX10_isRow cX10_isRow 1 (some Jvm.ClassFile.FieldType.boolean) 1 25 0 0 [.int p0] (I0, h) r1 (o1, h) := by
  refine xr_enterI (lv0 := [(0, .int p0)]) (by decide) (Nat.le_of_ble_eq_true rfl) rfl (fun g hg C q => ?_)
  subst hg
  exact ebX10_isRow_0 C q hf
theorem dX10_row_0 : decode cX10_row 0 = .ok (.iload_n 1, 1) := by decide +kernel
theorem dX10_row_1 : decode cX10_row 1 = .ok (.invokestatic 52, 3) := by decide +kernel
theorem dX10_row_4 : decode cX10_row 4 = .ok (.ifCond .eq 21, 3) := by decide +kernel
theorem dX10_row_7 : decode cX10_row 7 = .ok (.iload_n 2, 1) := by decide +kernel
theorem dX10_row_8 : decode cX10_row 8 = .ok (.i2l, 1) := by decide +kernel
theorem dX10_row_9 : decode cX10_row 9 = .ok (.lconst 0, 1) := by decide +kernel
theorem dX10_row_10 : decode cX10_row 10 = .ok (.ldc2_w 56, 3) := by decide +kernel
theorem dX10_row_13 : decode cX10_row 13 = .ok (.invokestatic 48, 3) := by decide +kernel
theorem dX10_row_16 : decode cX10_row 16 = .ok (.ifCond .eq 9, 3) := by decide +kernel
theorem dX10_row_19 : decode cX10_row 19 = .ok (.iload_n 3, 1) := by decide +kernel
theorem dX10_row_20 : decode cX10_row 20 = .ok (.bipush 40, 2) := by decide +kernel
theorem dX10_row_22 : decode cX10_row 22 = .ok (.if_icmp .le 6, 3) := by decide +kernel
theorem dX10_row_25 : decode cX10_row 25 = .ok (.ldc 58, 2) := by decide +kernel
theorem dX10_row_27 : decode cX10_row 27 = .ok (.ireturn, 1) := by decide +kernel
theorem dX10_row_28 : decode cX10_row 28 = .ok (.iload_n 3, 1) := by decide +kernel
theorem dX10_row_29 : decode cX10_row 29 = .ok (.ifCond .ge 9, 3) := by decide +kernel
theorem dX10_row_32 : decode cX10_row 32 = .ok (.aload_n 0, 1) := by decide +kernel
theorem dX10_row_33 : decode cX10_row 33 = .ok (.iconst 4, 1) := by decide +kernel
theorem dX10_row_34 : decode cX10_row 34 = .ok (.invokevirtual 59, 3) := by decide +kernel
theorem dX10_row_37 : decode cX10_row 37 = .ok (.ireturn, 1) := by decide +kernel
theorem dX10_row_38 : decode cX10_row 38 = .ok (.aload_n 0, 1) := by decide +kernel
theorem dX10_row_39 : decode cX10_row 39 = .ok (.getfield 20, 3) := by decide +kernel
theorem dX10_row_42 : decode cX10_row 42 = .ok (.iload_n 1, 1) := by decide +kernel
theorem dX10_row_43 : decode cX10_row 43 = .ok (.iload_n 2, 1) := by decide +kernel
theorem dX10_row_44 : decode cX10_row 44 = .ok (.iastore, 1) := by decide +kernel
theorem dX10_row_45 : decode cX10_row 45 = .ok (.aload_n 0, 1) := by decide +kernel
theorem dX10_row_46 : decode cX10_row 46 = .ok (.getfield 23, 3) := by decide +kernel
theorem dX10_row_49 : decode cX10_row 49 = .ok (.iload_n 1, 1) := by decide +kernel
theorem dX10_row_50 : decode cX10_row 50 = .ok (.iload_n 3, 1) := by decide +kernel
theorem dX10_row_51 : decode cX10_row 51 = .ok (.iastore, 1) := by decide +kernel
theorem dX10_row_52 : decode cX10_row 52 = .ok (.iconst 0, 1) := by decide +kernel
theorem dX10_row_53 : decode cX10_row 53 = .ok (.istore 4, 2) := by decide +kernel
theorem dX10_row_55 : decode cX10_row 55 = .ok (.iload 4, 2) := by decide +kernel
theorem dX10_row_57 : decode cX10_row 57 = .ok (.iload_n 3, 1) := by decide +kernel
theorem dX10_row_58 : decode cX10_row 58 = .ok (.if_icmp .ge 22, 3) := by decide +kernel
theorem dX10_row_61 : decode cX10_row 61 = .ok (.aload_n 0, 1) := by decide +kernel
theorem dX10_row_62 : decode cX10_row 62 = .ok (.getfield 26, 3) := by decide +kernel
theorem dX10_row_65 : decode cX10_row 65 = .ok (.bipush 40, 2) := by decide +kernel
theorem dX10_row_67 : decode cX10_row 67 = .ok (.iload_n 1, 1) := by decide +kernel
theorem dX10_row_68 : decode cX10_row 68 = .ok (.imul, 1) := by decide +kernel
theorem dX10_row_69 : decode cX10_row 69 = .ok (.iload 4, 2) := by decide +kernel
theorem dX10_row_71 : decode cX10_row 71 = .ok (.iadd, 1) := by decide +kernel
theorem dX10_row_72 : decode cX10_row 72 = .ok (.iconst 0, 1) := by decide +kernel
theorem dX10_row_73 : decode cX10_row 73 = .ok (.iastore, 1) := by decide +kernel
theorem dX10_row_74 : decode cX10_row 74 = .ok (.iinc 4 1, 3) := by decide +kernel
theorem dX10_row_77 : decode cX10_row 77 = .ok (.goto (-22), 3) := by decide +kernel
theorem dX10_row_80 : decode cX10_row 80 = .ok (.aload_n 0, 1) := by decide +kernel
theorem dX10_row_81 : decode cX10_row 81 = .ok (.iload_n 3, 1) := by decide +kernel
theorem dX10_row_82 : decode cX10_row 82 = .ok (.invokevirtual 63, 3) := by decide +kernel
theorem dX10_row_85 : decode cX10_row 85 = .ok (.ireturn, 1) := by decide +kernel
theorem lkX10_52 : LkS "BumperBallsModel" 52 yX10_isRow cX10_isRow 1 (some Jvm.ClassFile.FieldType.boolean) 1 := ⟨wk_894, wk_11, wk_893, ⟨by decide +kernel, by decide +kernel, by decide +kernel⟩, wk_892⟩
theorem lkX10_59 : LkV "BumperBallsModel" 59 yX10_find cX10_find 2 (some Jvm.ClassFile.FieldType.int) 1 := ⟨wk_904, wk_11, wk_903, wk_s62, ⟨by decide +kernel, by decide +kernel, by decide +kernel⟩, wk_901⟩
theorem lkX10_63 : LkV "BumperBallsModel" 63 yX10_give cX10_give 2 (some Jvm.ClassFile.FieldType.int) 1 := ⟨wk_909, wk_11, wk_908, wk_s63, ⟨by decide +kernel, by decide +kernel, by decide +kernel⟩, wk_906⟩
/-! BumperBallsModel.row(III)I -/
def fnX10_row_55b (rec55 : Mem → Int32 → Int32 → Int32 → Option (Int32 × Mem)) (I0 : Mem) (l1 : Int32) (l3 : Int32) (l4 : Int32) : Option (Int32 × Mem) :=
  if l3 ≤ l4 then (ob (fnX10_give I0 l3) fun ⟨r4, I3⟩ => some (r4, I3)) else (ck (inb (((40 : Int32) * l1) + l4) 320) <| bnd (up2 I0 117 (ix (((40 : Int32) * l1) + l4)) 0) fun I6 => bnd (l4 + 1) fun v7 => rec55 I6 l1 l3 v7)
def fnX10_row_55 : Nat → Mem → Int32 → Int32 → Int32 → Option (Int32 × Mem)
  | 0 => fun _ _ _ _ => none
  | fu + 1 => fnX10_row_55b (fnX10_row_55 fu)
set_option maxRecDepth 20000 in
set_option maxHeartbeats 2000000 in
theorem ebX10_row_55b {g : Cfg} (C : Cx g RX10 cX10_row 5 2 45 0 0) {h : Shp} (H0 : MAt h) {r1 : Int32} {o1 : Mem} {rec55 : Mem → Int32 → Int32 → Int32 → Option (Int32 × Mem)} (q : QI g (some Jvm.ClassFile.FieldType.int) 0 0 r1 (o1, h)) (ih55 : ∀ (I0 : Mem) (l1 : Int32) (l3 : Int32) (l4 : Int32), rec55 I0 l1 l3 l4 = some (r1, o1) → XE g 0 0 (I0, h) 55 [(0, rf g 111), (1, .int l1), (3, .int l3), (4, .int l4)] []) {I0 : Mem} {l1 : Int32} {l3 : Int32} {l4 : Int32} (hf : fnX10_row_55b rec55 I0 l1 l3 l4 = some (r1, o1)) : XE g 0 0 (I0, h) 55 [(0, rf g 111), (1, .int l1), (3, .int l3), (4, .int l4)] [] := by
  unfold fnX10_row_55b at hf
  refine xr_iload C dX10_row_55 3 rfl ?_
  refine xr_iload_n C dX10_row_57 2 rfl rfl ?_
  refine xr_icmp_ge (tgt := 80) C dX10_row_58 (by decide) hf (fun c1 hf => ?_) (fun c1 hf => ?_)
  · refine xr_aload_n C dX10_row_80 0 rfl rfl ?_
    refine xr_iload_n C dX10_row_81 2 rfl rfl ?_
    obtain ⟨⟨r4, I3⟩, h2, hf⟩ := ob_x hf
    refine xr_callVI C [.int l3] lkX10_63 (kX10_give H0 h2) Kd10 rfl H0.1 rfl (Nat.le_of_ble_eq_true rfl) rfl dX10_row_82 ⟨by decide, by decide, by decide⟩ rfl ?_
    exact xr_ireturn C q rfl rfl dX10_row_85 (so_1 hf) (so_w hf)
  · refine xr_aload_n C dX10_row_61 0 rfl rfl ?_
    refine xr_getr C Kd10 (k := 9) (by decide) rfl wk_830 rfl H0.1 H0.2.2.2.2.2.2.1.1 dX10_row_62 ?_
    refine xr_bipush (v := 40) C dX10_row_65 (by decide) ?_
    refine xr_iload_n C dX10_row_67 1 rfl rfl ?_
    refine xr_imul C dX10_row_68 ?_
    refine xr_iload C dX10_row_69 3 rfl ?_
    refine xr_iadd C dX10_row_71 ?_
    refine xr_iconst (v := 0) C dX10_row_72 (by decide) ?_
    obtain ⟨i5, hf⟩ := ck_x hf
    obtain ⟨I6, eI6, hf⟩ := bnd_x hf
    refine xr_iast C H0.2.2.2.2.2.2.1.2 i5 dX10_row_73 eI6 ?_
    obtain ⟨v7, ev7, hf⟩ := bnd_x hf
    refine xr_iinc (k := 3) (v := v7) C dX10_row_74 rfl (by rw [ev7]; rfl) (by decide) rfl ?_
    refine xr_goto (tgt := 55) C dX10_row_77 (by decide) ?_
    refine xr_lv [1, 2, 3, 0] rfl ?_
    exact ih55 _ _ _ _ hf
theorem ebX10_row_55 {g : Cfg} (C : Cx g RX10 cX10_row 5 2 45 0 0) {h : Shp} (H0 : MAt h) {r1 : Int32} {o1 : Mem} (q : QI g (some Jvm.ClassFile.FieldType.int) 0 0 r1 (o1, h)) : ∀ (fu : Nat) {I0 : Mem} {l1 : Int32} {l3 : Int32} {l4 : Int32} (hf : fnX10_row_55 fu I0 l1 l3 l4 = some (r1, o1)), XE g 0 0 (I0, h) 55 [(0, rf g 111), (1, .int l1), (3, .int l3), (4, .int l4)] [] := by
  intro fu
  induction fu with
  | zero =>
    intro I0 l1 l3 l4 hf
    cases hf
  | succ fu ihn =>
    intro I0 l1 l3 l4 hf
    exact ebX10_row_55b C H0 q (fun _ _ _ _ hf => ihn hf) hf
def fnX10_row_25 (I0 : Mem) : Option (Int32 × Mem) :=
  some ((-1000001), I0)
set_option maxRecDepth 20000 in
set_option maxHeartbeats 2000000 in
theorem ebX10_row_25 {g : Cfg} (C : Cx g RX10 cX10_row 5 2 45 0 0) {h : Shp} (H0 : MAt h) {r1 : Int32} {o1 : Mem} (q : QI g (some Jvm.ClassFile.FieldType.int) 0 0 r1 (o1, h)) {I0 : Mem} (hf : fnX10_row_25 I0 = some (r1, o1)) : XE g 0 0 (I0, h) 25 [] [] := by
  unfold fnX10_row_25 at hf
  refine xr_ldc C wk_900 dX10_row_25 ?_
  exact xr_ireturn C q rfl rfl dX10_row_27 (so_1 hf) (so_w hf)
def fnX10_row (I0 : Mem) (p1 : Int32) (p2 : Int32) (p3 : Int32) : Option (Int32 × Mem) :=
  ob (fnX10_isRow I0 p1) fun ⟨r3, I2⟩ => if r3 = 0 then (fnX10_row_25 I2) else (ob (fnX10_in I2 (p2.toInt64) 0 2) fun ⟨r7, I6⟩ => if r7 = 0 then (fnX10_row_25 I6) else (if p3 ≤ 40 then (if 0 ≤ p3 then (ck (inb p1 8) <| bnd (up2 I6 115 (ix p1) p2) fun I12 => ck (inb p1 8) <| bnd (up2 I12 116 (ix p1) p3) fun I14 => fnX10_row_55 FU I14 p1 p3 0) else (ob (fnX10_find I6 4) fun ⟨r17, I16⟩ => some (r17, I16))) else (fnX10_row_25 I6)))
set_option maxRecDepth 20000 in
set_option maxHeartbeats 2000000 in
theorem ebX10_row_0 {g : Cfg} (C : Cx g RX10 cX10_row 5 2 45 0 0) {h : Shp} (H0 : MAt h) {r1 : Int32} {o1 : Mem} (q : QI g (some Jvm.ClassFile.FieldType.int) 0 0 r1 (o1, h)) {I0 : Mem} {p1 : Int32} {p2 : Int32} {p3 : Int32} (hf : fnX10_row I0 p1 p2 p3 = some (r1, o1)) : XE g 0 0 (I0, h) 0 [(0, rf g 111), (1, .int p1), (2, .int p2), (3, .int p3)] [] := by
  unfold fnX10_row at hf
  refine xr_iload_n C dX10_row_0 1 rfl rfl ?_
  obtain ⟨⟨r3, I2⟩, h1, hf⟩ := ob_x hf
  refine xr_callSI C [.int p1] lkX10_52 (kX10_isRow h1) rfl (Nat.le_of_ble_eq_true rfl) rfl dX10_row_1 ⟨by decide, by decide, by decide⟩ rfl ?_
  refine xr_if_eq (tgt := 25) C dX10_row_4 (by decide) hf (fun c4 hf => ?_) (fun c4 hf => ?_)
  · refine xr_lv [] rfl ?_
    exact ebX10_row_25 C H0 q hf
  · refine xr_iload_n C dX10_row_7 2 rfl rfl ?_
    refine xr_i2l C dX10_row_8 ?_
    refine xr_lconst (v := 0) C dX10_row_9 (by decide) ?_
    refine xr_ldc2 C wk_899 dX10_row_10 ?_
    obtain ⟨⟨r7, I6⟩, h5, hf⟩ := ob_x hf
    refine xr_callSI C [.long (p2.toInt64), .long 0, .long 2] lkX10_48 (kX10_in h5) rfl (Nat.le_of_ble_eq_true rfl) rfl dX10_row_13 ⟨by decide, by decide, by decide⟩ rfl ?_
    refine xr_if_eq (tgt := 25) C dX10_row_16 (by decide) hf (fun c8 hf => ?_) (fun c8 hf => ?_)
    · refine xr_lv [] rfl ?_
      exact ebX10_row_25 C H0 q hf
    · refine xr_iload_n C dX10_row_19 3 rfl rfl ?_
      refine xr_bipush (v := 40) C dX10_row_20 (by decide) ?_
      refine xr_icmp_le (tgt := 28) C dX10_row_22 (by decide) hf (fun c9 hf => ?_) (fun c9 hf => ?_)
      · refine xr_iload_n C dX10_row_28 3 rfl rfl ?_
        refine xr_if_ge (tgt := 38) C dX10_row_29 (by decide) hf (fun c10 hf => ?_) (fun c10 hf => ?_)
        · refine xr_aload_n C dX10_row_38 0 rfl rfl ?_
          refine xr_getr C Kd10 (k := 7) (by decide) rfl wk_828 rfl H0.1 H0.2.2.2.2.1.1 dX10_row_39 ?_
          refine xr_iload_n C dX10_row_42 1 rfl rfl ?_
          refine xr_iload_n C dX10_row_43 2 rfl rfl ?_
          obtain ⟨i11, hf⟩ := ck_x hf
          obtain ⟨I12, eI12, hf⟩ := bnd_x hf
          refine xr_iast C H0.2.2.2.2.1.2 i11 dX10_row_44 eI12 ?_
          refine xr_aload_n C dX10_row_45 0 rfl rfl ?_
          refine xr_getr C Kd10 (k := 8) (by decide) rfl wk_829 rfl H0.1 H0.2.2.2.2.2.1.1 dX10_row_46 ?_
          refine xr_iload_n C dX10_row_49 1 rfl rfl ?_
          refine xr_iload_n C dX10_row_50 3 rfl rfl ?_
          obtain ⟨i13, hf⟩ := ck_x hf
          obtain ⟨I14, eI14, hf⟩ := bnd_x hf
          refine xr_iast C H0.2.2.2.2.2.1.2 i13 dX10_row_51 eI14 ?_
          refine xr_iconst (v := 0) C dX10_row_52 (by decide) ?_
          refine xr_istore C dX10_row_53 (by decide) rfl ?_
          refine xr_lv [1, 2, 4, 0] rfl ?_
          exact ebX10_row_55 C H0 q _ hf
        · refine xr_aload_n C dX10_row_32 0 rfl rfl ?_
          refine xr_iconst (v := 4) C dX10_row_33 (by decide) ?_
          obtain ⟨⟨r17, I16⟩, h15, hf⟩ := ob_x hf
          refine xr_callVI C [.int 4] lkX10_59 (kX10_find H0 h15) Kd10 rfl H0.1 rfl (Nat.le_of_ble_eq_true rfl) rfl dX10_row_34 ⟨by decide, by decide, by decide⟩ rfl ?_
          exact xr_ireturn C q rfl rfl dX10_row_37 (so_1 hf) (so_w hf)
      · refine xr_lv [] rfl ?_
        exact ebX10_row_25 C H0 q hf
theorem kX10_row {B : Bs} {h : Shp} (H0 : MAt h) {I0 : Mem} {p1 : Int32} {p2 : Int32} {p3 : Int32} {r1 : Int32} {o1 : Mem} (hf : fnX10_row I0 p1 p2 p3 = some (r1, o1)) : CtrI B yX10_row cX10_row 5 (some Jvm.ClassFile.FieldType.int) 2 45 0 0 [rfB B 111, .int p1, .int p2, .int p3] (I0, h) r1 (o1, h) := by
  refine xr_enterI (lv0 := [(0, rfB B 111), (1, .int p1), (2, .int p2), (3, .int p3)]) (by decide) (Nat.le_of_ble_eq_true rfl) rfl (fun g hg C q => ?_)
  subst hg
  exact ebX10_row_0 C H0 q hf
theorem dX10_set_0 : decode cX10_set 0 = .ok (.iload_n 1, 1) := by decide +kernel
theorem dX10_set_1 : decode cX10_set 1 = .ok (.invokestatic 52, 3) := by decide +kernel
theorem dX10_set_4 : decode cX10_set 4 = .ok (.ifCond .ne 6, 3) := by decide +kernel
theorem dX10_set_7 : decode cX10_set 7 = .ok (.ldc 58, 2) := by decide +kernel
theorem dX10_set_9 : decode cX10_set 9 = .ok (.ireturn, 1) := by decide +kernel
theorem dX10_set_10 : decode cX10_set 10 = .ok (.aload_n 0, 1) := by decide +kernel
theorem dX10_set_11 : decode cX10_set 11 = .ok (.getfield 20, 3) := by decide +kernel
theorem dX10_set_14 : decode cX10_set 14 = .ok (.iload_n 1, 1) := by decide +kernel
theorem dX10_set_15 : decode cX10_set 15 = .ok (.iaload, 1) := by decide +kernel
theorem dX10_set_16 : decode cX10_set 16 = .ok (.ldc 19, 2) := by decide +kernel
theorem dX10_set_18 : decode cX10_set 18 = .ok (.if_icmp .ne 9, 3) := by decide +kernel
theorem dX10_set_21 : decode cX10_set 21 = .ok (.aload_n 0, 1) := by decide +kernel
theorem dX10_set_22 : decode cX10_set 22 = .ok (.iconst 1, 1) := by decide +kernel
theorem dX10_set_23 : decode cX10_set 23 = .ok (.invokevirtual 59, 3) := by decide +kernel
theorem dX10_set_26 : decode cX10_set 26 = .ok (.ireturn, 1) := by decide +kernel
theorem dX10_set_27 : decode cX10_set 27 = .ok (.iload_n 2, 1) := by decide +kernel
theorem dX10_set_28 : decode cX10_set 28 = .ok (.i2l, 1) := by decide +kernel
theorem dX10_set_29 : decode cX10_set 29 = .ok (.lconst 0, 1) := by decide +kernel
theorem dX10_set_30 : decode cX10_set 30 = .ok (.aload_n 0, 1) := by decide +kernel
theorem dX10_set_31 : decode cX10_set 31 = .ok (.getfield 23, 3) := by decide +kernel
theorem dX10_set_34 : decode cX10_set 34 = .ok (.iload_n 1, 1) := by decide +kernel
theorem dX10_set_35 : decode cX10_set 35 = .ok (.iaload, 1) := by decide +kernel
theorem dX10_set_36 : decode cX10_set 36 = .ok (.iconst 1, 1) := by decide +kernel
theorem dX10_set_37 : decode cX10_set 37 = .ok (.isub, 1) := by decide +kernel
theorem dX10_set_38 : decode cX10_set 38 = .ok (.i2l, 1) := by decide +kernel
theorem dX10_set_39 : decode cX10_set 39 = .ok (.invokestatic 48, 3) := by decide +kernel
theorem dX10_set_42 : decode cX10_set 42 = .ok (.ifCond .ne 9, 3) := by decide +kernel
theorem dX10_set_45 : decode cX10_set 45 = .ok (.aload_n 0, 1) := by decide +kernel
theorem dX10_set_46 : decode cX10_set 46 = .ok (.iconst 2, 1) := by decide +kernel
theorem dX10_set_47 : decode cX10_set 47 = .ok (.invokevirtual 59, 3) := by decide +kernel
theorem dX10_set_50 : decode cX10_set 50 = .ok (.ireturn, 1) := by decide +kernel
theorem dX10_set_51 : decode cX10_set 51 = .ok (.aload_n 0, 1) := by decide +kernel
theorem dX10_set_52 : decode cX10_set 52 = .ok (.getfield 26, 3) := by decide +kernel
theorem dX10_set_55 : decode cX10_set 55 = .ok (.bipush 40, 2) := by decide +kernel
theorem dX10_set_57 : decode cX10_set 57 = .ok (.iload_n 1, 1) := by decide +kernel
theorem dX10_set_58 : decode cX10_set 58 = .ok (.imul, 1) := by decide +kernel
theorem dX10_set_59 : decode cX10_set 59 = .ok (.iload_n 2, 1) := by decide +kernel
theorem dX10_set_60 : decode cX10_set 60 = .ok (.iadd, 1) := by decide +kernel
theorem dX10_set_61 : decode cX10_set 61 = .ok (.aload_n 0, 1) := by decide +kernel
theorem dX10_set_62 : decode cX10_set 62 = .ok (.getfield 20, 3) := by decide +kernel
theorem dX10_set_65 : decode cX10_set 65 = .ok (.iload_n 1, 1) := by decide +kernel
theorem dX10_set_66 : decode cX10_set 66 = .ok (.iaload, 1) := by decide +kernel
theorem dX10_set_67 : decode cX10_set 67 = .ok (.ifCond .ne 8, 3) := by decide +kernel
theorem dX10_set_70 : decode cX10_set 70 = .ok (.iload_n 3, 1) := by decide +kernel
theorem dX10_set_71 : decode cX10_set 71 = .ok (.i2b, 1) := by decide +kernel
theorem dX10_set_72 : decode cX10_set 72 = .ok (.goto 19, 3) := by decide +kernel
theorem dX10_set_75 : decode cX10_set 75 = .ok (.aload_n 0, 1) := by decide +kernel
theorem dX10_set_76 : decode cX10_set 76 = .ok (.getfield 20, 3) := by decide +kernel
theorem dX10_set_79 : decode cX10_set 79 = .ok (.iload_n 1, 1) := by decide +kernel
theorem dX10_set_80 : decode cX10_set 80 = .ok (.iaload, 1) := by decide +kernel
theorem dX10_set_81 : decode cX10_set 81 = .ok (.iconst 1, 1) := by decide +kernel
theorem dX10_set_82 : decode cX10_set 82 = .ok (.if_icmp .ne 8, 3) := by decide +kernel
theorem dX10_set_85 : decode cX10_set 85 = .ok (.iload_n 3, 1) := by decide +kernel
theorem dX10_set_86 : decode cX10_set 86 = .ok (.i2s, 1) := by decide +kernel
theorem dX10_set_87 : decode cX10_set 87 = .ok (.goto 4, 3) := by decide +kernel
theorem dX10_set_90 : decode cX10_set 90 = .ok (.iload_n 3, 1) := by decide +kernel
theorem dX10_set_91 : decode cX10_set 91 = .ok (.iastore, 1) := by decide +kernel
theorem dX10_set_92 : decode cX10_set 92 = .ok (.aload_n 0, 1) := by decide +kernel
theorem dX10_set_93 : decode cX10_set 93 = .ok (.aload_n 0, 1) := by decide +kernel
theorem dX10_set_94 : decode cX10_set 94 = .ok (.getfield 26, 3) := by decide +kernel
theorem dX10_set_97 : decode cX10_set 97 = .ok (.bipush 40, 2) := by decide +kernel
theorem dX10_set_99 : decode cX10_set 99 = .ok (.iload_n 1, 1) := by decide +kernel
theorem dX10_set_100 : decode cX10_set 100 = .ok (.imul, 1) := by decide +kernel
theorem dX10_set_101 : decode cX10_set 101 = .ok (.iload_n 2, 1) := by decide +kernel
theorem dX10_set_102 : decode cX10_set 102 = .ok (.iadd, 1) := by decide +kernel
theorem dX10_set_103 : decode cX10_set 103 = .ok (.iaload, 1) := by decide +kernel
theorem dX10_set_104 : decode cX10_set 104 = .ok (.invokevirtual 63, 3) := by decide +kernel
theorem dX10_set_107 : decode cX10_set 107 = .ok (.ireturn, 1) := by decide +kernel
/-! BumperBallsModel.set(III)I -/
def fnX10_set_91 (I0 : Mem) (l1 : Int32) (l2 : Int32) (t1 : Int32) (t2 : Int32) : Option (Int32 × Mem) :=
  ck (inb t1 320) <| bnd (up2 I0 117 (ix t1) t2) fun I2 => ck (inb (((40 : Int32) * l1) + l2) 320) <| ob (fnX10_give I2 (I2 117 (ix (((40 : Int32) * l1) + l2)))) fun ⟨r6, I5⟩ => some (r6, I5)
set_option maxRecDepth 20000 in
set_option maxHeartbeats 2000000 in
theorem ebX10_set_91 {g : Cfg} (C : Cx g RX10 cX10_set 4 2 45 0 0) {h : Shp} (H0 : MAt h) {r1 : Int32} {o1 : Mem} (q : QI g (some Jvm.ClassFile.FieldType.int) 0 0 r1 (o1, h)) {I0 : Mem} {l1 : Int32} {l2 : Int32} {t1 : Int32} {t2 : Int32} (hf : fnX10_set_91 I0 l1 l2 t1 t2 = some (r1, o1)) : XE g 0 0 (I0, h) 91 [(0, rf g 111), (1, .int l1), (2, .int l2)] [.int t2, .int t1, rf g 117] := by
  unfold fnX10_set_91 at hf
  obtain ⟨i1, hf⟩ := ck_x hf
  obtain ⟨I2, eI2, hf⟩ := bnd_x hf
  refine xr_iast C H0.2.2.2.2.2.2.1.2 i1 dX10_set_91 eI2 ?_
  refine xr_aload_n C dX10_set_92 0 rfl rfl ?_
  refine xr_aload_n C dX10_set_93 0 rfl rfl ?_
  refine xr_getr C Kd10 (k := 9) (by decide) rfl wk_830 rfl H0.1 H0.2.2.2.2.2.2.1.1 dX10_set_94 ?_
  refine xr_bipush (v := 40) C dX10_set_97 (by decide) ?_
  refine xr_iload_n C dX10_set_99 1 rfl rfl ?_
  refine xr_imul C dX10_set_100 ?_
  refine xr_iload_n C dX10_set_101 2 rfl rfl ?_
  refine xr_iadd C dX10_set_102 ?_
  obtain ⟨i3, hf⟩ := ck_x hf
  refine xr_iald C H0.2.2.2.2.2.2.1.2 i3 dX10_set_103 ?_
  obtain ⟨⟨r6, I5⟩, h4, hf⟩ := ob_x hf
  refine xr_callVI C [.int (I2 117 (ix (((40 : Int32) * l1) + l2)))] lkX10_63 (kX10_give H0 h4) Kd10 rfl H0.1 rfl (Nat.le_of_ble_eq_true rfl) rfl dX10_set_104 ⟨by decide, by decide, by decide⟩ rfl ?_
  exact xr_ireturn C q rfl rfl dX10_set_107 (so_1 hf) (so_w hf)
def fnX10_set (I0 : Mem) (p1 : Int32) (p2 : Int32) (p3 : Int32) : Option (Int32 × Mem) :=
  ob (fnX10_isRow I0 p1) fun ⟨r3, I2⟩ => if r3 = 0 then (some ((-1000001), I2)) else (ck (inb p1 8) <| if (I2 115 (ix p1)) = (-1000000) then (ob (fnX10_find I2 1) fun ⟨r21, I20⟩ => some (r21, I20)) else (ck (inb p1 8) <| ob (fnX10_in I2 (p2.toInt64) 0 (((I2 116 (ix p1)) - 1).toInt64)) fun ⟨r10, I9⟩ => if r10 = 0 then (ob (fnX10_find I9 2) fun ⟨r18, I17⟩ => some (r18, I17)) else (ck (inb p1 8) <| if (I9 115 (ix p1)) = 0 then (fnX10_set_91 I9 p1 p2 (((40 : Int32) * p1) + p2) ((p3).toInt8.toInt32)) else (ck (inb p1 8) <| if (I9 115 (ix p1)) = 1 then (fnX10_set_91 I9 p1 p2 (((40 : Int32) * p1) + p2) ((p3).toInt16.toInt32)) else (fnX10_set_91 I9 p1 p2 (((40 : Int32) * p1) + p2) p3)))))
set_option maxRecDepth 20000 in
set_option maxHeartbeats 2000000 in
theorem ebX10_set_0 {g : Cfg} (C : Cx g RX10 cX10_set 4 2 45 0 0) {h : Shp} (H0 : MAt h) {r1 : Int32} {o1 : Mem} (q : QI g (some Jvm.ClassFile.FieldType.int) 0 0 r1 (o1, h)) {I0 : Mem} {p1 : Int32} {p2 : Int32} {p3 : Int32} (hf : fnX10_set I0 p1 p2 p3 = some (r1, o1)) : XE g 0 0 (I0, h) 0 [(0, rf g 111), (1, .int p1), (2, .int p2), (3, .int p3)] [] := by
  unfold fnX10_set at hf
  refine xr_iload_n C dX10_set_0 1 rfl rfl ?_
  obtain ⟨⟨r3, I2⟩, h1, hf⟩ := ob_x hf
  refine xr_callSI C [.int p1] lkX10_52 (kX10_isRow h1) rfl (Nat.le_of_ble_eq_true rfl) rfl dX10_set_1 ⟨by decide, by decide, by decide⟩ rfl ?_
  refine xr_if_ne (tgt := 10) C dX10_set_4 (by decide) hf (fun c4 hf => ?_) (fun c4 hf => ?_)
  · refine xr_aload_n C dX10_set_10 0 rfl rfl ?_
    refine xr_getr C Kd10 (k := 7) (by decide) rfl wk_828 rfl H0.1 H0.2.2.2.2.1.1 dX10_set_11 ?_
    refine xr_iload_n C dX10_set_14 1 rfl rfl ?_
    obtain ⟨i5, hf⟩ := ck_x hf
    refine xr_iald C H0.2.2.2.2.1.2 i5 dX10_set_15 ?_
    refine xr_ldc C wk_820 dX10_set_16 ?_
    refine xr_icmp_ne (tgt := 27) C dX10_set_18 (by decide) hf (fun c6 hf => ?_) (fun c6 hf => ?_)
    · refine xr_iload_n C dX10_set_27 2 rfl rfl ?_
      refine xr_i2l C dX10_set_28 ?_
      refine xr_lconst (v := 0) C dX10_set_29 (by decide) ?_
      refine xr_aload_n C dX10_set_30 0 rfl rfl ?_
      refine xr_getr C Kd10 (k := 8) (by decide) rfl wk_829 rfl H0.1 H0.2.2.2.2.2.1.1 dX10_set_31 ?_
      refine xr_iload_n C dX10_set_34 1 rfl rfl ?_
      obtain ⟨i7, hf⟩ := ck_x hf
      refine xr_iald C H0.2.2.2.2.2.1.2 i7 dX10_set_35 ?_
      refine xr_iconst (v := 1) C dX10_set_36 (by decide) ?_
      refine xr_isub C dX10_set_37 ?_
      refine xr_i2l C dX10_set_38 ?_
      obtain ⟨⟨r10, I9⟩, h8, hf⟩ := ob_x hf
      refine xr_callSI C [.long (p2.toInt64), .long 0, .long (((I2 116 (ix p1)) - 1).toInt64)] lkX10_48 (kX10_in h8) rfl (Nat.le_of_ble_eq_true rfl) rfl dX10_set_39 ⟨by decide, by decide, by decide⟩ rfl ?_
      refine xr_if_ne (tgt := 51) C dX10_set_42 (by decide) hf (fun c11 hf => ?_) (fun c11 hf => ?_)
      · refine xr_aload_n C dX10_set_51 0 rfl rfl ?_
        refine xr_getr C Kd10 (k := 9) (by decide) rfl wk_830 rfl H0.1 H0.2.2.2.2.2.2.1.1 dX10_set_52 ?_
        refine xr_bipush (v := 40) C dX10_set_55 (by decide) ?_
        refine xr_iload_n C dX10_set_57 1 rfl rfl ?_
        refine xr_imul C dX10_set_58 ?_
        refine xr_iload_n C dX10_set_59 2 rfl rfl ?_
        refine xr_iadd C dX10_set_60 ?_
        refine xr_aload_n C dX10_set_61 0 rfl rfl ?_
        refine xr_getr C Kd10 (k := 7) (by decide) rfl wk_828 rfl H0.1 H0.2.2.2.2.1.1 dX10_set_62 ?_
        refine xr_iload_n C dX10_set_65 1 rfl rfl ?_
        obtain ⟨i12, hf⟩ := ck_x hf
        refine xr_iald C H0.2.2.2.2.1.2 i12 dX10_set_66 ?_
        refine xr_if_ne (tgt := 75) C dX10_set_67 (by decide) hf (fun c13 hf => ?_) (fun c13 hf => ?_)
        · refine xr_aload_n C dX10_set_75 0 rfl rfl ?_
          refine xr_getr C Kd10 (k := 7) (by decide) rfl wk_828 rfl H0.1 H0.2.2.2.2.1.1 dX10_set_76 ?_
          refine xr_iload_n C dX10_set_79 1 rfl rfl ?_
          obtain ⟨i14, hf⟩ := ck_x hf
          refine xr_iald C H0.2.2.2.2.1.2 i14 dX10_set_80 ?_
          refine xr_iconst (v := 1) C dX10_set_81 (by decide) ?_
          refine xr_icmp_ne (tgt := 90) C dX10_set_82 (by decide) hf (fun c15 hf => ?_) (fun c15 hf => ?_)
          · refine xr_iload_n C dX10_set_90 3 rfl rfl ?_
            refine xr_lv [0, 1, 2] rfl ?_
            exact ebX10_set_91 C H0 q hf
          · refine xr_iload_n C dX10_set_85 3 rfl rfl ?_
            refine xr_i2s C dX10_set_86 ?_
            refine xr_goto (tgt := 91) C dX10_set_87 (by decide) ?_
            refine xr_lv [0, 1, 2] rfl ?_
            exact ebX10_set_91 C H0 q hf
        · refine xr_iload_n C dX10_set_70 3 rfl rfl ?_
          refine xr_i2b C dX10_set_71 ?_
          refine xr_goto (tgt := 91) C dX10_set_72 (by decide) ?_
          refine xr_lv [0, 1, 2] rfl ?_
          exact ebX10_set_91 C H0 q hf
      · refine xr_aload_n C dX10_set_45 0 rfl rfl ?_
        refine xr_iconst (v := 2) C dX10_set_46 (by decide) ?_
        obtain ⟨⟨r18, I17⟩, h16, hf⟩ := ob_x hf
        refine xr_callVI C [.int 2] lkX10_59 (kX10_find H0 h16) Kd10 rfl H0.1 rfl (Nat.le_of_ble_eq_true rfl) rfl dX10_set_47 ⟨by decide, by decide, by decide⟩ rfl ?_
        exact xr_ireturn C q rfl rfl dX10_set_50 (so_1 hf) (so_w hf)
    · refine xr_aload_n C dX10_set_21 0 rfl rfl ?_
      refine xr_iconst (v := 1) C dX10_set_22 (by decide) ?_
      obtain ⟨⟨r21, I20⟩, h19, hf⟩ := ob_x hf
      refine xr_callVI C [.int 1] lkX10_59 (kX10_find H0 h19) Kd10 rfl H0.1 rfl (Nat.le_of_ble_eq_true rfl) rfl dX10_set_23 ⟨by decide, by decide, by decide⟩ rfl ?_
      exact xr_ireturn C q rfl rfl dX10_set_26 (so_1 hf) (so_w hf)
  · refine xr_ldc C wk_900 dX10_set_7 ?_
    exact xr_ireturn C q rfl rfl dX10_set_9 (so_1 hf) (so_w hf)
theorem kX10_set {B : Bs} {h : Shp} (H0 : MAt h) {I0 : Mem} {p1 : Int32} {p2 : Int32} {p3 : Int32} {r1 : Int32} {o1 : Mem} (hf : fnX10_set I0 p1 p2 p3 = some (r1, o1)) : CtrI B yX10_set cX10_set 4 (some Jvm.ClassFile.FieldType.int) 2 45 0 0 [rfB B 111, .int p1, .int p2, .int p3] (I0, h) r1 (o1, h) := by
  refine xr_enterI (lv0 := [(0, rfB B 111), (1, .int p1), (2, .int p2), (3, .int p3)]) (by decide) (Nat.le_of_ble_eq_true rfl) rfl (fun g hg C q => ?_)
  subst hg
  exact ebX10_set_0 C H0 q hf
theorem dX10_isSpan_0 : decode cX10_isSpan 0 = .ok (.iload_n 2, 1) := by decide +kernel
theorem dX10_isSpan_1 : decode cX10_isSpan 1 = .ok (.ifCond .lt 27, 3) := by decide +kernel
theorem dX10_isSpan_4 : decode cX10_isSpan 4 = .ok (.iload_n 3, 1) := by decide +kernel
theorem dX10_isSpan_5 : decode cX10_isSpan 5 = .ok (.ifCond .lt 23, 3) := by decide +kernel
theorem dX10_isSpan_8 : decode cX10_isSpan 8 = .ok (.iload_n 2, 1) := by decide +kernel
theorem dX10_isSpan_9 : decode cX10_isSpan 9 = .ok (.i2l, 1) := by decide +kernel
theorem dX10_isSpan_10 : decode cX10_isSpan 10 = .ok (.iload_n 3, 1) := by decide +kernel
theorem dX10_isSpan_11 : decode cX10_isSpan 11 = .ok (.i2l, 1) := by decide +kernel
theorem dX10_isSpan_12 : decode cX10_isSpan 12 = .ok (.ladd, 1) := by decide +kernel
theorem dX10_isSpan_13 : decode cX10_isSpan 13 = .ok (.aload_n 0, 1) := by decide +kernel
theorem dX10_isSpan_14 : decode cX10_isSpan 14 = .ok (.getfield 23, 3) := by decide +kernel
theorem dX10_isSpan_17 : decode cX10_isSpan 17 = .ok (.iload_n 1, 1) := by decide +kernel
theorem dX10_isSpan_18 : decode cX10_isSpan 18 = .ok (.iaload, 1) := by decide +kernel
theorem dX10_isSpan_19 : decode cX10_isSpan 19 = .ok (.i2l, 1) := by decide +kernel
theorem dX10_isSpan_20 : decode cX10_isSpan 20 = .ok (.lcmp, 1) := by decide +kernel
theorem dX10_isSpan_21 : decode cX10_isSpan 21 = .ok (.ifCond .gt 7, 3) := by decide +kernel
theorem dX10_isSpan_24 : decode cX10_isSpan 24 = .ok (.iconst 1, 1) := by decide +kernel
theorem dX10_isSpan_25 : decode cX10_isSpan 25 = .ok (.goto 4, 3) := by decide +kernel
theorem dX10_isSpan_28 : decode cX10_isSpan 28 = .ok (.iconst 0, 1) := by decide +kernel
theorem dX10_isSpan_29 : decode cX10_isSpan 29 = .ok (.ireturn, 1) := by decide +kernel
/-! BumperBallsModel.isSpan(III)Z -/
def fnX10_isSpan_29 (I0 : Mem) (t0 : Int32) : Option (Int32 × Mem) :=
  ck (zb t0) <| some (t0, I0)
set_option maxRecDepth 20000 in
set_option maxHeartbeats 2000000 in
theorem ebX10_isSpan_29 {g : Cfg} (C : Cx g RX10 cX10_isSpan 4 0 0 0 0) {h : Shp} (H0 : MAt h) {r1 : Int32} {o1 : Mem} (q : QI g (some Jvm.ClassFile.FieldType.boolean) 0 0 r1 (o1, h)) {I0 : Mem} {t0 : Int32} (hf : fnX10_isSpan_29 I0 t0 = some (r1, o1)) : XE g 0 0 (I0, h) 29 [] [.int t0] := by
  unfold fnX10_isSpan_29 at hf
  obtain ⟨z1, hf⟩ := ck_x hf
  exact xr_ireturn C q rfl (zb_ok z1).1 dX10_isSpan_29 (so_1 hf) (so_w hf)
def fnX10_isSpan_28 (I0 : Mem) : Option (Int32 × Mem) :=
  fnX10_isSpan_29 I0 0
set_option maxRecDepth 20000 in
set_option maxHeartbeats 2000000 in
theorem ebX10_isSpan_28 {g : Cfg} (C : Cx g RX10 cX10_isSpan 4 0 0 0 0) {h : Shp} (H0 : MAt h) {r1 : Int32} {o1 : Mem} (q : QI g (some Jvm.ClassFile.FieldType.boolean) 0 0 r1 (o1, h)) {I0 : Mem} (hf : fnX10_isSpan_28 I0 = some (r1, o1)) : XE g 0 0 (I0, h) 28 [] [] := by
  unfold fnX10_isSpan_28 at hf
  refine xr_iconst (v := 0) C dX10_isSpan_28 (by decide) ?_
  exact ebX10_isSpan_29 C H0 q hf
def fnX10_isSpan (I0 : Mem) (p1 : Int32) (p2 : Int32) (p3 : Int32) : Option (Int32 × Mem) :=
  if p2 < 0 then (fnX10_isSpan_28 I0) else (if p3 < 0 then (fnX10_isSpan_28 I0) else (ck (inb p1 8) <| if 0 < (lg_cmp ((p2.toInt64) + (p3.toInt64)) ((I0 116 (ix p1)).toInt64)) then (fnX10_isSpan_28 I0) else (fnX10_isSpan_29 I0 1)))
set_option maxRecDepth 20000 in
set_option maxHeartbeats 2000000 in
theorem ebX10_isSpan_0 {g : Cfg} (C : Cx g RX10 cX10_isSpan 4 0 0 0 0) {h : Shp} (H0 : MAt h) {r1 : Int32} {o1 : Mem} (q : QI g (some Jvm.ClassFile.FieldType.boolean) 0 0 r1 (o1, h)) {I0 : Mem} {p1 : Int32} {p2 : Int32} {p3 : Int32} (hf : fnX10_isSpan I0 p1 p2 p3 = some (r1, o1)) : XE g 0 0 (I0, h) 0 [(0, rf g 111), (1, .int p1), (2, .int p2), (3, .int p3)] [] := by
  unfold fnX10_isSpan at hf
  refine xr_iload_n C dX10_isSpan_0 2 rfl rfl ?_
  refine xr_if_lt (tgt := 28) C dX10_isSpan_1 (by decide) hf (fun c1 hf => ?_) (fun c1 hf => ?_)
  · refine xr_lv [] rfl ?_
    exact ebX10_isSpan_28 C H0 q hf
  · refine xr_iload_n C dX10_isSpan_4 3 rfl rfl ?_
    refine xr_if_lt (tgt := 28) C dX10_isSpan_5 (by decide) hf (fun c2 hf => ?_) (fun c2 hf => ?_)
    · refine xr_lv [] rfl ?_
      exact ebX10_isSpan_28 C H0 q hf
    · refine xr_iload_n C dX10_isSpan_8 2 rfl rfl ?_
      refine xr_i2l C dX10_isSpan_9 ?_
      refine xr_iload_n C dX10_isSpan_10 3 rfl rfl ?_
      refine xr_i2l C dX10_isSpan_11 ?_
      refine xr_ladd C dX10_isSpan_12 ?_
      refine xr_aload_n C dX10_isSpan_13 0 rfl rfl ?_
      refine xr_getr C Kd10 (k := 8) (by decide) rfl wk_829 rfl H0.1 H0.2.2.2.2.2.1.1 dX10_isSpan_14 ?_
      refine xr_iload_n C dX10_isSpan_17 1 rfl rfl ?_
      obtain ⟨i3, hf⟩ := ck_x hf
      refine xr_iald C H0.2.2.2.2.2.1.2 i3 dX10_isSpan_18 ?_
      refine xr_i2l C dX10_isSpan_19 ?_
      refine xr_lcmp C dX10_isSpan_20 ?_
      refine xr_if_gt (tgt := 28) C dX10_isSpan_21 (by decide) hf (fun c4 hf => ?_) (fun c4 hf => ?_)
      · refine xr_lv [] rfl ?_
        exact ebX10_isSpan_28 C H0 q hf
      · refine xr_iconst (v := 1) C dX10_isSpan_24 (by decide) ?_
        refine xr_goto (tgt := 29) C dX10_isSpan_25 (by decide) ?_
        refine xr_lv [] rfl ?_
        exact ebX10_isSpan_29 C H0 q hf
theorem kX10_isSpan {B : Bs} {h : Shp} (H0 : MAt h) {I0 : Mem} {p1 : Int32} {p2 : Int32} {p3 : Int32} {r1 : Int32} {o1 : Mem} (hf : fnX10_isSpan I0 p1 p2 p3 = some (r1, o1)) : CtrI B yX10_isSpan cX10_isSpan 4 (some Jvm.ClassFile.FieldType.boolean) 0 0 0 0 [rfB B 111, .int p1, .int p2, .int p3] (I0, h) r1 (o1, h) := by
  refine xr_enterI (lv0 := [(0, rfB B 111), (1, .int p1), (2, .int p2), (3, .int p3)]) (by decide) (Nat.le_of_ble_eq_true rfl) rfl (fun g hg C q => ?_)
  subst hg
  exact ebX10_isSpan_0 C H0 q hf
theorem dX10_copy_0 : decode cX10_copy 0 = .ok (.iload_n 1, 1) := by decide +kernel
theorem dX10_copy_1 : decode cX10_copy 1 = .ok (.invokestatic 52, 3) := by decide +kernel
theorem dX10_copy_4 : decode cX10_copy 4 = .ok (.ifCond .eq 10, 3) := by decide +kernel
theorem dX10_copy_7 : decode cX10_copy 7 = .ok (.iload_n 3, 1) := by decide +kernel
theorem dX10_copy_8 : decode cX10_copy 8 = .ok (.invokestatic 52, 3) := by decide +kernel
theorem dX10_copy_11 : decode cX10_copy 11 = .ok (.ifCond .ne 6, 3) := by decide +kernel
theorem dX10_copy_14 : decode cX10_copy 14 = .ok (.ldc 58, 2) := by decide +kernel
theorem dX10_copy_16 : decode cX10_copy 16 = .ok (.ireturn, 1) := by decide +kernel
theorem dX10_copy_17 : decode cX10_copy 17 = .ok (.aload_n 0, 1) := by decide +kernel
theorem dX10_copy_18 : decode cX10_copy 18 = .ok (.getfield 20, 3) := by decide +kernel
theorem dX10_copy_21 : decode cX10_copy 21 = .ok (.iload_n 1, 1) := by decide +kernel
theorem dX10_copy_22 : decode cX10_copy 22 = .ok (.iaload, 1) := by decide +kernel
theorem dX10_copy_23 : decode cX10_copy 23 = .ok (.ldc 19, 2) := by decide +kernel
theorem dX10_copy_25 : decode cX10_copy 25 = .ok (.if_icmp .eq 14, 3) := by decide +kernel
theorem dX10_copy_28 : decode cX10_copy 28 = .ok (.aload_n 0, 1) := by decide +kernel
theorem dX10_copy_29 : decode cX10_copy 29 = .ok (.getfield 20, 3) := by decide +kernel
theorem dX10_copy_32 : decode cX10_copy 32 = .ok (.iload_n 3, 1) := by decide +kernel
theorem dX10_copy_33 : decode cX10_copy 33 = .ok (.iaload, 1) := by decide +kernel
theorem dX10_copy_34 : decode cX10_copy 34 = .ok (.ldc 19, 2) := by decide +kernel
theorem dX10_copy_36 : decode cX10_copy 36 = .ok (.if_icmp .ne 9, 3) := by decide +kernel
theorem dX10_copy_39 : decode cX10_copy 39 = .ok (.aload_n 0, 1) := by decide +kernel
theorem dX10_copy_40 : decode cX10_copy 40 = .ok (.iconst 1, 1) := by decide +kernel
theorem dX10_copy_41 : decode cX10_copy 41 = .ok (.invokevirtual 59, 3) := by decide +kernel
theorem dX10_copy_44 : decode cX10_copy 44 = .ok (.ireturn, 1) := by decide +kernel
theorem dX10_copy_45 : decode cX10_copy 45 = .ok (.aload_n 0, 1) := by decide +kernel
theorem dX10_copy_46 : decode cX10_copy 46 = .ok (.getfield 20, 3) := by decide +kernel
theorem dX10_copy_49 : decode cX10_copy 49 = .ok (.iload_n 1, 1) := by decide +kernel
theorem dX10_copy_50 : decode cX10_copy 50 = .ok (.iaload, 1) := by decide +kernel
theorem dX10_copy_51 : decode cX10_copy 51 = .ok (.aload_n 0, 1) := by decide +kernel
theorem dX10_copy_52 : decode cX10_copy 52 = .ok (.getfield 20, 3) := by decide +kernel
theorem dX10_copy_55 : decode cX10_copy 55 = .ok (.iload_n 3, 1) := by decide +kernel
theorem dX10_copy_56 : decode cX10_copy 56 = .ok (.iaload, 1) := by decide +kernel
theorem dX10_copy_57 : decode cX10_copy 57 = .ok (.if_icmp .eq 9, 3) := by decide +kernel
theorem dX10_copy_60 : decode cX10_copy 60 = .ok (.aload_n 0, 1) := by decide +kernel
theorem dX10_copy_61 : decode cX10_copy 61 = .ok (.iconst 5, 1) := by decide +kernel
theorem dX10_copy_62 : decode cX10_copy 62 = .ok (.invokevirtual 59, 3) := by decide +kernel
theorem dX10_copy_65 : decode cX10_copy 65 = .ok (.ireturn, 1) := by decide +kernel
theorem dX10_copy_66 : decode cX10_copy 66 = .ok (.aload_n 0, 1) := by decide +kernel
theorem dX10_copy_67 : decode cX10_copy 67 = .ok (.iload_n 1, 1) := by decide +kernel
theorem dX10_copy_68 : decode cX10_copy 68 = .ok (.iload_n 2, 1) := by decide +kernel
theorem dX10_copy_69 : decode cX10_copy 69 = .ok (.iload 5, 2) := by decide +kernel
theorem dX10_copy_71 : decode cX10_copy 71 = .ok (.invokevirtual 66, 3) := by decide +kernel
theorem dX10_copy_74 : decode cX10_copy 74 = .ok (.ifCond .eq 15, 3) := by decide +kernel
theorem dX10_copy_77 : decode cX10_copy 77 = .ok (.aload_n 0, 1) := by decide +kernel
theorem dX10_copy_78 : decode cX10_copy 78 = .ok (.iload_n 3, 1) := by decide +kernel
theorem dX10_copy_79 : decode cX10_copy 79 = .ok (.iload 4, 2) := by decide +kernel
theorem dX10_copy_81 : decode cX10_copy 81 = .ok (.iload 5, 2) := by decide +kernel
theorem dX10_copy_83 : decode cX10_copy 83 = .ok (.invokevirtual 66, 3) := by decide +kernel
theorem dX10_copy_86 : decode cX10_copy 86 = .ok (.ifCond .ne 9, 3) := by decide +kernel
theorem dX10_copy_89 : decode cX10_copy 89 = .ok (.aload_n 0, 1) := by decide +kernel
theorem dX10_copy_90 : decode cX10_copy 90 = .ok (.iconst 2, 1) := by decide +kernel
theorem dX10_copy_91 : decode cX10_copy 91 = .ok (.invokevirtual 59, 3) := by decide +kernel
theorem dX10_copy_94 : decode cX10_copy 94 = .ok (.ireturn, 1) := by decide +kernel
theorem dX10_copy_95 : decode cX10_copy 95 = .ok (.iconst 0, 1) := by decide +kernel
theorem dX10_copy_96 : decode cX10_copy 96 = .ok (.istore 6, 2) := by decide +kernel
theorem dX10_copy_98 : decode cX10_copy 98 = .ok (.iload 6, 2) := by decide +kernel
theorem dX10_copy_100 : decode cX10_copy 100 = .ok (.iload 5, 2) := by decide +kernel
theorem dX10_copy_102 : decode cX10_copy 102 = .ok (.if_icmp .ge 63, 3) := by decide +kernel
theorem dX10_copy_105 : decode cX10_copy 105 = .ok (.iload_n 1, 1) := by decide +kernel
theorem dX10_copy_106 : decode cX10_copy 106 = .ok (.iload_n 3, 1) := by decide +kernel
theorem dX10_copy_107 : decode cX10_copy 107 = .ok (.if_icmp .ne 19, 3) := by decide +kernel
theorem dX10_copy_110 : decode cX10_copy 110 = .ok (.iload_n 2, 1) := by decide +kernel
theorem dX10_copy_111 : decode cX10_copy 111 = .ok (.iload 4, 2) := by decide +kernel
theorem dX10_copy_113 : decode cX10_copy 113 = .ok (.if_icmp .ge 13, 3) := by decide +kernel
theorem dX10_copy_116 : decode cX10_copy 116 = .ok (.iload 5, 2) := by decide +kernel
theorem dX10_copy_118 : decode cX10_copy 118 = .ok (.iconst 1, 1) := by decide +kernel
theorem dX10_copy_119 : decode cX10_copy 119 = .ok (.isub, 1) := by decide +kernel
theorem dX10_copy_120 : decode cX10_copy 120 = .ok (.iload 6, 2) := by decide +kernel
theorem dX10_copy_122 : decode cX10_copy 122 = .ok (.isub, 1) := by decide +kernel
theorem dX10_copy_123 : decode cX10_copy 123 = .ok (.goto 5, 3) := by decide +kernel
theorem dX10_copy_126 : decode cX10_copy 126 = .ok (.iload 6, 2) := by decide +kernel
theorem dX10_copy_128 : decode cX10_copy 128 = .ok (.istore 7, 2) := by decide +kernel
theorem dX10_copy_130 : decode cX10_copy 130 = .ok (.aload_n 0, 1) := by decide +kernel
theorem dX10_copy_131 : decode cX10_copy 131 = .ok (.getfield 26, 3) := by decide +kernel
theorem dX10_copy_134 : decode cX10_copy 134 = .ok (.bipush 40, 2) := by decide +kernel
theorem dX10_copy_136 : decode cX10_copy 136 = .ok (.iload_n 3, 1) := by decide +kernel
theorem dX10_copy_137 : decode cX10_copy 137 = .ok (.imul, 1) := by decide +kernel
theorem dX10_copy_138 : decode cX10_copy 138 = .ok (.iload 4, 2) := by decide +kernel
theorem dX10_copy_140 : decode cX10_copy 140 = .ok (.iadd, 1) := by decide +kernel
theorem dX10_copy_141 : decode cX10_copy 141 = .ok (.iload 7, 2) := by decide +kernel
theorem dX10_copy_143 : decode cX10_copy 143 = .ok (.iadd, 1) := by decide +kernel
theorem dX10_copy_144 : decode cX10_copy 144 = .ok (.aload_n 0, 1) := by decide +kernel
theorem dX10_copy_145 : decode cX10_copy 145 = .ok (.getfield 26, 3) := by decide +kernel
theorem dX10_copy_148 : decode cX10_copy 148 = .ok (.bipush 40, 2) := by decide +kernel
theorem dX10_copy_150 : decode cX10_copy 150 = .ok (.iload_n 1, 1) := by decide +kernel
theorem dX10_copy_151 : decode cX10_copy 151 = .ok (.imul, 1) := by decide +kernel
theorem dX10_copy_152 : decode cX10_copy 152 = .ok (.iload_n 2, 1) := by decide +kernel
theorem dX10_copy_153 : decode cX10_copy 153 = .ok (.iadd, 1) := by decide +kernel
theorem dX10_copy_154 : decode cX10_copy 154 = .ok (.iload 7, 2) := by decide +kernel
theorem dX10_copy_156 : decode cX10_copy 156 = .ok (.iadd, 1) := by decide +kernel
theorem dX10_copy_157 : decode cX10_copy 157 = .ok (.iaload, 1) := by decide +kernel
theorem dX10_copy_158 : decode cX10_copy 158 = .ok (.iastore, 1) := by decide +kernel
theorem dX10_copy_159 : decode cX10_copy 159 = .ok (.iinc 6 1, 3) := by decide +kernel
theorem dX10_copy_162 : decode cX10_copy 162 = .ok (.goto (-64), 3) := by decide +kernel
theorem dX10_copy_165 : decode cX10_copy 165 = .ok (.aload_n 0, 1) := by decide +kernel
theorem dX10_copy_166 : decode cX10_copy 166 = .ok (.iload 5, 2) := by decide +kernel
theorem dX10_copy_168 : decode cX10_copy 168 = .ok (.invokevirtual 63, 3) := by decide +kernel
theorem dX10_copy_171 : decode cX10_copy 171 = .ok (.ireturn, 1) := by decide +kernel
theorem lkX10_66 : LkV "BumperBallsModel" 66 yX10_isSpan cX10_isSpan 4 (some Jvm.ClassFile.FieldType.boolean) 3 := ⟨wk_921, wk_11, wk_920, wk_s64, ⟨by decide +kernel, by decide +kernel, by decide +kernel⟩, wk_918⟩
/-! BumperBallsModel.copy(IIIII)I -/
def fnX10_copy_128 (rec98 : Mem → Int32 → Int32 → Int32 → Int32 → Int32 → Int32 → Option (Int32 × Mem)) (I0 : Mem) (l1 : Int32) (l2 : Int32) (l3 : Int32) (l4 : Int32) (l5 : Int32) (l6 : Int32) (t0 : Int32) : Option (Int32 × Mem) :=
  ck (inb ((((40 : Int32) * l1) + l2) + t0) 320) <| ck (inb ((((40 : Int32) * l3) + l4) + t0) 320) <| bnd (up2 I0 117 (ix ((((40 : Int32) * l3) + l4) + t0)) (I0 117 (ix ((((40 : Int32) * l1) + l2) + t0)))) fun I3 => bnd (l6 + 1) fun v4 => rec98 I3 l1 l2 l3 l4 l5 v4
set_option maxRecDepth 20000 in
set_option maxHeartbeats 2000000 in
theorem ebX10_copy_128 {g : Cfg} (C : Cx g RX10 cX10_copy 8 2 45 0 0) {h : Shp} (H0 : MAt h) {r1 : Int32} {o1 : Mem} {rec98 : Mem → Int32 → Int32 → Int32 → Int32 → Int32 → Int32 → Option (Int32 × Mem)} (ih98 : ∀ (I0 : Mem) (l1 : Int32) (l2 : Int32) (l3 : Int32) (l4 : Int32) (l5 : Int32) (l6 : Int32), rec98 I0 l1 l2 l3 l4 l5 l6 = some (r1, o1) → XE g 0 0 (I0, h) 98 [(0, rf g 111), (1, .int l1), (2, .int l2), (3, .int l3), (4, .int l4), (5, .int l5), (6, .int l6)] []) (q : QI g (some Jvm.ClassFile.FieldType.int) 0 0 r1 (o1, h)) {I0 : Mem} {l1 : Int32} {l2 : Int32} {l3 : Int32} {l4 : Int32} {l5 : Int32} {l6 : Int32} {t0 : Int32} (hf : fnX10_copy_128 rec98 I0 l1 l2 l3 l4 l5 l6 t0 = some (r1, o1)) : XE g 0 0 (I0, h) 128 [(0, rf g 111), (1, .int l1), (2, .int l2), (3, .int l3), (4, .int l4), (5, .int l5), (6, .int l6)] [.int t0] := by
  unfold fnX10_copy_128 at hf
  refine xr_istore C dX10_copy_128 (by decide) rfl ?_
  refine xr_aload_n C dX10_copy_130 1 rfl rfl ?_
  refine xr_getr C Kd10 (k := 9) (by decide) rfl wk_830 rfl H0.1 H0.2.2.2.2.2.2.1.1 dX10_copy_131 ?_
  refine xr_bipush (v := 40) C dX10_copy_134 (by decide) ?_
  refine xr_iload_n C dX10_copy_136 4 rfl rfl ?_
  refine xr_imul C dX10_copy_137 ?_
  refine xr_iload C dX10_copy_138 5 rfl ?_
  refine xr_iadd C dX10_copy_140 ?_
  refine xr_iload C dX10_copy_141 0 rfl ?_
  refine xr_iadd C dX10_copy_143 ?_
  refine xr_aload_n C dX10_copy_144 1 rfl rfl ?_
  refine xr_getr C Kd10 (k := 9) (by decide) rfl wk_830 rfl H0.1 H0.2.2.2.2.2.2.1.1 dX10_copy_145 ?_
  refine xr_bipush (v := 40) C dX10_copy_148 (by decide) ?_
  refine xr_iload_n C dX10_copy_150 2 rfl rfl ?_
  refine xr_imul C dX10_copy_151 ?_
  refine xr_iload_n C dX10_copy_152 3 rfl rfl ?_
  refine xr_iadd C dX10_copy_153 ?_
  refine xr_iload C dX10_copy_154 0 rfl ?_
  refine xr_iadd C dX10_copy_156 ?_
  obtain ⟨i1, hf⟩ := ck_x hf
  refine xr_iald C H0.2.2.2.2.2.2.1.2 i1 dX10_copy_157 ?_
  obtain ⟨i2, hf⟩ := ck_x hf
  obtain ⟨I3, eI3, hf⟩ := bnd_x hf
  refine xr_iast C H0.2.2.2.2.2.2.1.2 i2 dX10_copy_158 eI3 ?_
  obtain ⟨v4, ev4, hf⟩ := bnd_x hf
  refine xr_iinc (k := 7) (v := v4) C dX10_copy_159 rfl (by rw [ev4]; rfl) (by decide) rfl ?_
  refine xr_goto (tgt := 98) C dX10_copy_162 (by decide) ?_
  refine xr_lv [2, 3, 4, 5, 6, 7, 0] rfl ?_
  exact ih98 _ _ _ _ _ _ _ hf
def fnX10_copy_126 (rec98 : Mem → Int32 → Int32 → Int32 → Int32 → Int32 → Int32 → Option (Int32 × Mem)) (I0 : Mem) (l1 : Int32) (l2 : Int32) (l3 : Int32) (l4 : Int32) (l5 : Int32) (l6 : Int32) : Option (Int32 × Mem) :=
  fnX10_copy_128 rec98 I0 l1 l2 l3 l4 l5 l6 l6
set_option maxRecDepth 20000 in
set_option maxHeartbeats 2000000 in
theorem ebX10_copy_126 {g : Cfg} (C : Cx g RX10 cX10_copy 8 2 45 0 0) {h : Shp} (H0 : MAt h) {r1 : Int32} {o1 : Mem} {rec98 : Mem → Int32 → Int32 → Int32 → Int32 → Int32 → Int32 → Option (Int32 × Mem)} (ih98 : ∀ (I0 : Mem) (l1 : Int32) (l2 : Int32) (l3 : Int32) (l4 : Int32) (l5 : Int32) (l6 : Int32), rec98 I0 l1 l2 l3 l4 l5 l6 = some (r1, o1) → XE g 0 0 (I0, h) 98 [(0, rf g 111), (1, .int l1), (2, .int l2), (3, .int l3), (4, .int l4), (5, .int l5), (6, .int l6)] []) (q : QI g (some Jvm.ClassFile.FieldType.int) 0 0 r1 (o1, h)) {I0 : Mem} {l1 : Int32} {l2 : Int32} {l3 : Int32} {l4 : Int32} {l5 : Int32} {l6 : Int32} (hf : fnX10_copy_126 rec98 I0 l1 l2 l3 l4 l5 l6 = some (r1, o1)) : XE g 0 0 (I0, h) 126 [(0, rf g 111), (1, .int l1), (2, .int l2), (3, .int l3), (4, .int l4), (5, .int l5), (6, .int l6)] [] := by
  unfold fnX10_copy_126 at hf
  refine xr_iload C dX10_copy_126 6 rfl ?_
  exact ebX10_copy_128 C H0 ih98 q hf
def fnX10_copy_98b (rec98 : Mem → Int32 → Int32 → Int32 → Int32 → Int32 → Int32 → Option (Int32 × Mem)) (I0 : Mem) (l1 : Int32) (l2 : Int32) (l3 : Int32) (l4 : Int32) (l5 : Int32) (l6 : Int32) : Option (Int32 × Mem) :=
  if l5 ≤ l6 then (ob (fnX10_give I0 l5) fun ⟨r4, I3⟩ => some (r4, I3)) else (if l1 = l3 then (if l4 ≤ l2 then (fnX10_copy_126 rec98 I0 l1 l2 l3 l4 l5 l6) else (fnX10_copy_128 rec98 I0 l1 l2 l3 l4 l5 l6 ((l5 - 1) - l6))) else (fnX10_copy_126 rec98 I0 l1 l2 l3 l4 l5 l6))
def fnX10_copy_98 : Nat → Mem → Int32 → Int32 → Int32 → Int32 → Int32 → Int32 → Option (Int32 × Mem)
  | 0 => fun _ _ _ _ _ _ _ => none
  | fu + 1 => fnX10_copy_98b (fnX10_copy_98 fu)
set_option maxRecDepth 20000 in
set_option maxHeartbeats 2000000 in
theorem ebX10_copy_98b {g : Cfg} (C : Cx g RX10 cX10_copy 8 2 45 0 0) {h : Shp} (H0 : MAt h) {r1 : Int32} {o1 : Mem} {rec98 : Mem → Int32 → Int32 → Int32 → Int32 → Int32 → Int32 → Option (Int32 × Mem)} (q : QI g (some Jvm.ClassFile.FieldType.int) 0 0 r1 (o1, h)) (ih98 : ∀ (I0 : Mem) (l1 : Int32) (l2 : Int32) (l3 : Int32) (l4 : Int32) (l5 : Int32) (l6 : Int32), rec98 I0 l1 l2 l3 l4 l5 l6 = some (r1, o1) → XE g 0 0 (I0, h) 98 [(0, rf g 111), (1, .int l1), (2, .int l2), (3, .int l3), (4, .int l4), (5, .int l5), (6, .int l6)] []) {I0 : Mem} {l1 : Int32} {l2 : Int32} {l3 : Int32} {l4 : Int32} {l5 : Int32} {l6 : Int32} (hf : fnX10_copy_98b rec98 I0 l1 l2 l3 l4 l5 l6 = some (r1, o1)) : XE g 0 0 (I0, h) 98 [(0, rf g 111), (1, .int l1), (2, .int l2), (3, .int l3), (4, .int l4), (5, .int l5), (6, .int l6)] [] := by
  unfold fnX10_copy_98b at hf
  refine xr_iload C dX10_copy_98 6 rfl ?_
  refine xr_iload C dX10_copy_100 5 rfl ?_
  refine xr_icmp_ge (tgt := 165) C dX10_copy_102 (by decide) hf (fun c1 hf => ?_) (fun c1 hf => ?_)
  · refine xr_aload_n C dX10_copy_165 0 rfl rfl ?_
    refine xr_iload C dX10_copy_166 5 rfl ?_
    obtain ⟨⟨r4, I3⟩, h2, hf⟩ := ob_x hf
    refine xr_callVI C [.int l5] lkX10_63 (kX10_give H0 h2) Kd10 rfl H0.1 rfl (Nat.le_of_ble_eq_true rfl) rfl dX10_copy_168 ⟨by decide, by decide, by decide⟩ rfl ?_
    exact xr_ireturn C q rfl rfl dX10_copy_171 (so_1 hf) (so_w hf)
  · refine xr_iload_n C dX10_copy_105 1 rfl rfl ?_
    refine xr_iload_n C dX10_copy_106 3 rfl rfl ?_
    refine xr_icmp_ne (tgt := 126) C dX10_copy_107 (by decide) hf (fun c5 hf => ?_) (fun c5 hf => ?_)
    · exact ebX10_copy_126 C H0 ih98 q hf
    · refine xr_iload_n C dX10_copy_110 2 rfl rfl ?_
      refine xr_iload C dX10_copy_111 4 rfl ?_
      refine xr_icmp_ge (tgt := 126) C dX10_copy_113 (by decide) hf (fun c6 hf => ?_) (fun c6 hf => ?_)
      · exact ebX10_copy_126 C H0 ih98 q hf
      · refine xr_iload C dX10_copy_116 5 rfl ?_
        refine xr_iconst (v := 1) C dX10_copy_118 (by decide) ?_
        refine xr_isub C dX10_copy_119 ?_
        refine xr_iload C dX10_copy_120 6 rfl ?_
        refine xr_isub C dX10_copy_122 ?_
        refine xr_goto (tgt := 128) C dX10_copy_123 (by decide) ?_
        exact ebX10_copy_128 C H0 ih98 q hf
theorem ebX10_copy_98 {g : Cfg} (C : Cx g RX10 cX10_copy 8 2 45 0 0) {h : Shp} (H0 : MAt h) {r1 : Int32} {o1 : Mem} (q : QI g (some Jvm.ClassFile.FieldType.int) 0 0 r1 (o1, h)) : ∀ (fu : Nat) {I0 : Mem} {l1 : Int32} {l2 : Int32} {l3 : Int32} {l4 : Int32} {l5 : Int32} {l6 : Int32} (hf : fnX10_copy_98 fu I0 l1 l2 l3 l4 l5 l6 = some (r1, o1)), XE g 0 0 (I0, h) 98 [(0, rf g 111), (1, .int l1), (2, .int l2), (3, .int l3), (4, .int l4), (5, .int l5), (6, .int l6)] [] := by
  intro fu
  induction fu with
  | zero =>
    intro I0 l1 l2 l3 l4 l5 l6 hf
    cases hf
  | succ fu ihn =>
    intro I0 l1 l2 l3 l4 l5 l6 hf
    exact ebX10_copy_98b C H0 q (fun _ _ _ _ _ _ _ hf => ihn hf) hf
def fnX10_copy_89 (I0 : Mem) : Option (Int32 × Mem) :=
  ob (fnX10_find I0 2) fun ⟨r3, I2⟩ => some (r3, I2)
set_option maxRecDepth 20000 in
set_option maxHeartbeats 2000000 in
theorem ebX10_copy_89 {g : Cfg} (C : Cx g RX10 cX10_copy 8 2 45 0 0) {h : Shp} (H0 : MAt h) {r1 : Int32} {o1 : Mem} (q : QI g (some Jvm.ClassFile.FieldType.int) 0 0 r1 (o1, h)) {I0 : Mem} (hf : fnX10_copy_89 I0 = some (r1, o1)) : XE g 0 0 (I0, h) 89 [(0, rf g 111)] [] := by
  unfold fnX10_copy_89 at hf
  refine xr_aload_n C dX10_copy_89 0 rfl rfl ?_
  refine xr_iconst (v := 2) C dX10_copy_90 (by decide) ?_
  obtain ⟨⟨r3, I2⟩, h1, hf⟩ := ob_x hf
  refine xr_callVI C [.int 2] lkX10_59 (kX10_find H0 h1) Kd10 rfl H0.1 rfl (Nat.le_of_ble_eq_true rfl) rfl dX10_copy_91 ⟨by decide, by decide, by decide⟩ rfl ?_
  exact xr_ireturn C q rfl rfl dX10_copy_94 (so_1 hf) (so_w hf)
def fnX10_copy_39 (I0 : Mem) : Option (Int32 × Mem) :=
  ob (fnX10_find I0 1) fun ⟨r3, I2⟩ => some (r3, I2)
set_option maxRecDepth 20000 in
set_option maxHeartbeats 2000000 in
theorem ebX10_copy_39 {g : Cfg} (C : Cx g RX10 cX10_copy 8 2 45 0 0) {h : Shp} (H0 : MAt h) {r1 : Int32} {o1 : Mem} (q : QI g (some Jvm.ClassFile.FieldType.int) 0 0 r1 (o1, h)) {I0 : Mem} (hf : fnX10_copy_39 I0 = some (r1, o1)) : XE g 0 0 (I0, h) 39 [(0, rf g 111)] [] := by
  unfold fnX10_copy_39 at hf
  refine xr_aload_n C dX10_copy_39 0 rfl rfl ?_
  refine xr_iconst (v := 1) C dX10_copy_40 (by decide) ?_
  obtain ⟨⟨r3, I2⟩, h1, hf⟩ := ob_x hf
  refine xr_callVI C [.int 1] lkX10_59 (kX10_find H0 h1) Kd10 rfl H0.1 rfl (Nat.le_of_ble_eq_true rfl) rfl dX10_copy_41 ⟨by decide, by decide, by decide⟩ rfl ?_
  exact xr_ireturn C q rfl rfl dX10_copy_44 (so_1 hf) (so_w hf)
def fnX10_copy_14 (I0 : Mem) : Option (Int32 × Mem) :=
  some ((-1000001), I0)
set_option maxRecDepth 20000 in
set_option maxHeartbeats 2000000 in
theorem ebX10_copy_14 {g : Cfg} (C : Cx g RX10 cX10_copy 8 2 45 0 0) {h : Shp} (H0 : MAt h) {r1 : Int32} {o1 : Mem} (q : QI g (some Jvm.ClassFile.FieldType.int) 0 0 r1 (o1, h)) {I0 : Mem} (hf : fnX10_copy_14 I0 = some (r1, o1)) : XE g 0 0 (I0, h) 14 [] [] := by
  unfold fnX10_copy_14 at hf
  refine xr_ldc C wk_900 dX10_copy_14 ?_
  exact xr_ireturn C q rfl rfl dX10_copy_16 (so_1 hf) (so_w hf)
def fnX10_copy (I0 : Mem) (p1 : Int32) (p2 : Int32) (p3 : Int32) (p4 : Int32) (p5 : Int32) : Option (Int32 × Mem) :=
  ob (fnX10_isRow I0 p1) fun ⟨r3, I2⟩ => if r3 = 0 then (fnX10_copy_14 I2) else (ob (fnX10_isRow I2 p3) fun ⟨r7, I6⟩ => if r7 = 0 then (fnX10_copy_14 I6) else (ck (inb p1 8) <| if (I6 115 (ix p1)) = (-1000000) then (fnX10_copy_39 I6) else (ck (inb p3 8) <| if (I6 115 (ix p3)) = (-1000000) then (fnX10_copy_39 I6) else (ck (inb p1 8) <| ck (inb p3 8) <| if (I6 115 (ix p1)) = (I6 115 (ix p3)) then (ob (fnX10_isSpan I6 p1 p2 p5) fun ⟨r18, I17⟩ => if r18 = 0 then (fnX10_copy_89 I17) else (ob (fnX10_isSpan I17 p3 p4 p5) fun ⟨r22, I21⟩ => if r22 = 0 then (fnX10_copy_89 I21) else (fnX10_copy_98 FU I21 p1 p2 p3 p4 p5 0))) else (ob (fnX10_find I6 5) fun ⟨r26, I25⟩ => some (r26, I25))))))
set_option maxRecDepth 20000 in
set_option maxHeartbeats 2000000 in
theorem ebX10_copy_0 {g : Cfg} (C : Cx g RX10 cX10_copy 8 2 45 0 0) {h : Shp} (H0 : MAt h) {r1 : Int32} {o1 : Mem} (q : QI g (some Jvm.ClassFile.FieldType.int) 0 0 r1 (o1, h)) {I0 : Mem} {p1 : Int32} {p2 : Int32} {p3 : Int32} {p4 : Int32} {p5 : Int32} (hf : fnX10_copy I0 p1 p2 p3 p4 p5 = some (r1, o1)) : XE g 0 0 (I0, h) 0 [(0, rf g 111), (1, .int p1), (2, .int p2), (3, .int p3), (4, .int p4), (5, .int p5)] [] := by
  unfold fnX10_copy at hf
  refine xr_iload_n C dX10_copy_0 1 rfl rfl ?_
  obtain ⟨⟨r3, I2⟩, h1, hf⟩ := ob_x hf
  refine xr_callSI C [.int p1] lkX10_52 (kX10_isRow h1) rfl (Nat.le_of_ble_eq_true rfl) rfl dX10_copy_1 ⟨by decide, by decide, by decide⟩ rfl ?_
  refine xr_if_eq (tgt := 14) C dX10_copy_4 (by decide) hf (fun c4 hf => ?_) (fun c4 hf => ?_)
  · refine xr_lv [] rfl ?_
    exact ebX10_copy_14 C H0 q hf
  · refine xr_iload_n C dX10_copy_7 3 rfl rfl ?_
    obtain ⟨⟨r7, I6⟩, h5, hf⟩ := ob_x hf
    refine xr_callSI C [.int p3] lkX10_52 (kX10_isRow h5) rfl (Nat.le_of_ble_eq_true rfl) rfl dX10_copy_8 ⟨by decide, by decide, by decide⟩ rfl ?_
    refine xr_if_ne (tgt := 17) C dX10_copy_11 (by decide) hf (fun c8 hf => ?_) (fun c8 hf => ?_)
    · refine xr_aload_n C dX10_copy_17 0 rfl rfl ?_
      refine xr_getr C Kd10 (k := 7) (by decide) rfl wk_828 rfl H0.1 H0.2.2.2.2.1.1 dX10_copy_18 ?_
      refine xr_iload_n C dX10_copy_21 1 rfl rfl ?_
      obtain ⟨i9, hf⟩ := ck_x hf
      refine xr_iald C H0.2.2.2.2.1.2 i9 dX10_copy_22 ?_
      refine xr_ldc C wk_820 dX10_copy_23 ?_
      refine xr_icmp_eq (tgt := 39) C dX10_copy_25 (by decide) hf (fun c10 hf => ?_) (fun c10 hf => ?_)
      · refine xr_lv [0] rfl ?_
        exact ebX10_copy_39 C H0 q hf
      · refine xr_aload_n C dX10_copy_28 0 rfl rfl ?_
        refine xr_getr C Kd10 (k := 7) (by decide) rfl wk_828 rfl H0.1 H0.2.2.2.2.1.1 dX10_copy_29 ?_
        refine xr_iload_n C dX10_copy_32 3 rfl rfl ?_
        obtain ⟨i11, hf⟩ := ck_x hf
        refine xr_iald C H0.2.2.2.2.1.2 i11 dX10_copy_33 ?_
        refine xr_ldc C wk_820 dX10_copy_34 ?_
        refine xr_icmp_ne (tgt := 45) C dX10_copy_36 (by decide) hf (fun c12 hf => ?_) (fun c12 hf => ?_)
        · refine xr_aload_n C dX10_copy_45 0 rfl rfl ?_
          refine xr_getr C Kd10 (k := 7) (by decide) rfl wk_828 rfl H0.1 H0.2.2.2.2.1.1 dX10_copy_46 ?_
          refine xr_iload_n C dX10_copy_49 1 rfl rfl ?_
          obtain ⟨i13, hf⟩ := ck_x hf
          refine xr_iald C H0.2.2.2.2.1.2 i13 dX10_copy_50 ?_
          refine xr_aload_n C dX10_copy_51 0 rfl rfl ?_
          refine xr_getr C Kd10 (k := 7) (by decide) rfl wk_828 rfl H0.1 H0.2.2.2.2.1.1 dX10_copy_52 ?_
          refine xr_iload_n C dX10_copy_55 3 rfl rfl ?_
          obtain ⟨i14, hf⟩ := ck_x hf
          refine xr_iald C H0.2.2.2.2.1.2 i14 dX10_copy_56 ?_
          refine xr_icmp_eq (tgt := 66) C dX10_copy_57 (by decide) hf (fun c15 hf => ?_) (fun c15 hf => ?_)
          · refine xr_aload_n C dX10_copy_66 0 rfl rfl ?_
            refine xr_iload_n C dX10_copy_67 1 rfl rfl ?_
            refine xr_iload_n C dX10_copy_68 2 rfl rfl ?_
            refine xr_iload C dX10_copy_69 5 rfl ?_
            obtain ⟨⟨r18, I17⟩, h16, hf⟩ := ob_x hf
            refine xr_callVI C [.int p1, .int p2, .int p5] lkX10_66 (kX10_isSpan H0 h16) Kd10 rfl H0.1 rfl (Nat.le_of_ble_eq_true rfl) rfl dX10_copy_71 ⟨by decide, by decide, by decide⟩ rfl ?_
            refine xr_if_eq (tgt := 89) C dX10_copy_74 (by decide) hf (fun c19 hf => ?_) (fun c19 hf => ?_)
            · refine xr_lv [0] rfl ?_
              exact ebX10_copy_89 C H0 q hf
            · refine xr_aload_n C dX10_copy_77 0 rfl rfl ?_
              refine xr_iload_n C dX10_copy_78 3 rfl rfl ?_
              refine xr_iload C dX10_copy_79 4 rfl ?_
              refine xr_iload C dX10_copy_81 5 rfl ?_
              obtain ⟨⟨r22, I21⟩, h20, hf⟩ := ob_x hf
              refine xr_callVI C [.int p3, .int p4, .int p5] lkX10_66 (kX10_isSpan H0 h20) Kd10 rfl H0.1 rfl (Nat.le_of_ble_eq_true rfl) rfl dX10_copy_83 ⟨by decide, by decide, by decide⟩ rfl ?_
              refine xr_if_ne (tgt := 95) C dX10_copy_86 (by decide) hf (fun c23 hf => ?_) (fun c23 hf => ?_)
              · refine xr_iconst (v := 0) C dX10_copy_95 (by decide) ?_
                refine xr_istore C dX10_copy_96 (by decide) rfl ?_
                refine xr_lv [1, 2, 3, 4, 5, 6, 0] rfl ?_
                exact ebX10_copy_98 C H0 q _ hf
              · refine xr_lv [0] rfl ?_
                exact ebX10_copy_89 C H0 q hf
          · refine xr_aload_n C dX10_copy_60 0 rfl rfl ?_
            refine xr_iconst (v := 5) C dX10_copy_61 (by decide) ?_
            obtain ⟨⟨r26, I25⟩, h24, hf⟩ := ob_x hf
            refine xr_callVI C [.int 5] lkX10_59 (kX10_find H0 h24) Kd10 rfl H0.1 rfl (Nat.le_of_ble_eq_true rfl) rfl dX10_copy_62 ⟨by decide, by decide, by decide⟩ rfl ?_
            exact xr_ireturn C q rfl rfl dX10_copy_65 (so_1 hf) (so_w hf)
        · refine xr_lv [0] rfl ?_
          exact ebX10_copy_39 C H0 q hf
    · refine xr_lv [] rfl ?_
      exact ebX10_copy_14 C H0 q hf
theorem kX10_copy {B : Bs} {h : Shp} (H0 : MAt h) {I0 : Mem} {p1 : Int32} {p2 : Int32} {p3 : Int32} {p4 : Int32} {p5 : Int32} {r1 : Int32} {o1 : Mem} (hf : fnX10_copy I0 p1 p2 p3 p4 p5 = some (r1, o1)) : CtrI B yX10_copy cX10_copy 8 (some Jvm.ClassFile.FieldType.int) 2 45 0 0 [rfB B 111, .int p1, .int p2, .int p3, .int p4, .int p5] (I0, h) r1 (o1, h) := by
  refine xr_enterI (lv0 := [(0, rfB B 111), (1, .int p1), (2, .int p2), (3, .int p3), (4, .int p4), (5, .int p5)]) (by decide) (Nat.le_of_ble_eq_true rfl) rfl (fun g hg C q => ?_)
  subst hg
  exact ebX10_copy_0 C H0 q hf
theorem dX10_drop_0 : decode cX10_drop 0 = .ok (.iload_n 1, 1) := by decide +kernel
theorem dX10_drop_1 : decode cX10_drop 1 = .ok (.invokestatic 52, 3) := by decide +kernel
theorem dX10_drop_4 : decode cX10_drop 4 = .ok (.ifCond .ne 6, 3) := by decide +kernel
theorem dX10_drop_7 : decode cX10_drop 7 = .ok (.ldc 58, 2) := by decide +kernel
theorem dX10_drop_9 : decode cX10_drop 9 = .ok (.ireturn, 1) := by decide +kernel
theorem dX10_drop_10 : decode cX10_drop 10 = .ok (.aload_n 0, 1) := by decide +kernel
theorem dX10_drop_11 : decode cX10_drop 11 = .ok (.getfield 20, 3) := by decide +kernel
theorem dX10_drop_14 : decode cX10_drop 14 = .ok (.iload_n 1, 1) := by decide +kernel
theorem dX10_drop_15 : decode cX10_drop 15 = .ok (.iaload, 1) := by decide +kernel
theorem dX10_drop_16 : decode cX10_drop 16 = .ok (.ldc 19, 2) := by decide +kernel
theorem dX10_drop_18 : decode cX10_drop 18 = .ok (.if_icmp .ne 9, 3) := by decide +kernel
theorem dX10_drop_21 : decode cX10_drop 21 = .ok (.aload_n 0, 1) := by decide +kernel
theorem dX10_drop_22 : decode cX10_drop 22 = .ok (.iconst 1, 1) := by decide +kernel
theorem dX10_drop_23 : decode cX10_drop 23 = .ok (.invokevirtual 59, 3) := by decide +kernel
theorem dX10_drop_26 : decode cX10_drop 26 = .ok (.ireturn, 1) := by decide +kernel
theorem dX10_drop_27 : decode cX10_drop 27 = .ok (.aload_n 0, 1) := by decide +kernel
theorem dX10_drop_28 : decode cX10_drop 28 = .ok (.getfield 20, 3) := by decide +kernel
theorem dX10_drop_31 : decode cX10_drop 31 = .ok (.iload_n 1, 1) := by decide +kernel
theorem dX10_drop_32 : decode cX10_drop 32 = .ok (.ldc 19, 2) := by decide +kernel
theorem dX10_drop_34 : decode cX10_drop 34 = .ok (.iastore, 1) := by decide +kernel
theorem dX10_drop_35 : decode cX10_drop 35 = .ok (.aload_n 0, 1) := by decide +kernel
theorem dX10_drop_36 : decode cX10_drop 36 = .ok (.aload_n 0, 1) := by decide +kernel
theorem dX10_drop_37 : decode cX10_drop 37 = .ok (.getfield 23, 3) := by decide +kernel
theorem dX10_drop_40 : decode cX10_drop 40 = .ok (.iload_n 1, 1) := by decide +kernel
theorem dX10_drop_41 : decode cX10_drop 41 = .ok (.iaload, 1) := by decide +kernel
theorem dX10_drop_42 : decode cX10_drop 42 = .ok (.invokevirtual 63, 3) := by decide +kernel
theorem dX10_drop_45 : decode cX10_drop 45 = .ok (.ireturn, 1) := by decide +kernel
/-! BumperBallsModel.drop(I)I -/
def fnX10_drop (I0 : Mem) (p1 : Int32) : Option (Int32 × Mem) :=
  ob (fnX10_isRow I0 p1) fun ⟨r3, I2⟩ => if r3 = 0 then (some ((-1000001), I2)) else (ck (inb p1 8) <| if (I2 115 (ix p1)) = (-1000000) then (ob (fnX10_find I2 1) fun ⟨r15, I14⟩ => some (r15, I14)) else (ck (inb p1 8) <| bnd (up2 I2 115 (ix p1) (-1000000)) fun I8 => ck (inb p1 8) <| ob (fnX10_give I8 (I8 116 (ix p1))) fun ⟨r12, I11⟩ => some (r12, I11)))
set_option maxRecDepth 20000 in
set_option maxHeartbeats 2000000 in
theorem ebX10_drop_0 {g : Cfg} (C : Cx g RX10 cX10_drop 2 2 45 0 0) {h : Shp} (H0 : MAt h) {r1 : Int32} {o1 : Mem} (q : QI g (some Jvm.ClassFile.FieldType.int) 0 0 r1 (o1, h)) {I0 : Mem} {p1 : Int32} (hf : fnX10_drop I0 p1 = some (r1, o1)) : XE g 0 0 (I0, h) 0 [(0, rf g 111), (1, .int p1)] [] := by
  unfold fnX10_drop at hf
  refine xr_iload_n C dX10_drop_0 1 rfl rfl ?_
  obtain ⟨⟨r3, I2⟩, h1, hf⟩ := ob_x hf
  refine xr_callSI C [.int p1] lkX10_52 (kX10_isRow h1) rfl (Nat.le_of_ble_eq_true rfl) rfl dX10_drop_1 ⟨by decide, by decide, by decide⟩ rfl ?_
  refine xr_if_ne (tgt := 10) C dX10_drop_4 (by decide) hf (fun c4 hf => ?_) (fun c4 hf => ?_)
  · refine xr_aload_n C dX10_drop_10 0 rfl rfl ?_
    refine xr_getr C Kd10 (k := 7) (by decide) rfl wk_828 rfl H0.1 H0.2.2.2.2.1.1 dX10_drop_11 ?_
    refine xr_iload_n C dX10_drop_14 1 rfl rfl ?_
    obtain ⟨i5, hf⟩ := ck_x hf
    refine xr_iald C H0.2.2.2.2.1.2 i5 dX10_drop_15 ?_
    refine xr_ldc C wk_820 dX10_drop_16 ?_
    refine xr_icmp_ne (tgt := 27) C dX10_drop_18 (by decide) hf (fun c6 hf => ?_) (fun c6 hf => ?_)
    · refine xr_aload_n C dX10_drop_27 0 rfl rfl ?_
      refine xr_getr C Kd10 (k := 7) (by decide) rfl wk_828 rfl H0.1 H0.2.2.2.2.1.1 dX10_drop_28 ?_
      refine xr_iload_n C dX10_drop_31 1 rfl rfl ?_
      refine xr_ldc C wk_820 dX10_drop_32 ?_
      obtain ⟨i7, hf⟩ := ck_x hf
      obtain ⟨I8, eI8, hf⟩ := bnd_x hf
      refine xr_iast C H0.2.2.2.2.1.2 i7 dX10_drop_34 eI8 ?_
      refine xr_aload_n C dX10_drop_35 0 rfl rfl ?_
      refine xr_aload_n C dX10_drop_36 0 rfl rfl ?_
      refine xr_getr C Kd10 (k := 8) (by decide) rfl wk_829 rfl H0.1 H0.2.2.2.2.2.1.1 dX10_drop_37 ?_
      refine xr_iload_n C dX10_drop_40 1 rfl rfl ?_
      obtain ⟨i9, hf⟩ := ck_x hf
      refine xr_iald C H0.2.2.2.2.2.1.2 i9 dX10_drop_41 ?_
      obtain ⟨⟨r12, I11⟩, h10, hf⟩ := ob_x hf
      refine xr_callVI C [.int (I8 116 (ix p1))] lkX10_63 (kX10_give H0 h10) Kd10 rfl H0.1 rfl (Nat.le_of_ble_eq_true rfl) rfl dX10_drop_42 ⟨by decide, by decide, by decide⟩ rfl ?_
      exact xr_ireturn C q rfl rfl dX10_drop_45 (so_1 hf) (so_w hf)
    · refine xr_aload_n C dX10_drop_21 0 rfl rfl ?_
      refine xr_iconst (v := 1) C dX10_drop_22 (by decide) ?_
      obtain ⟨⟨r15, I14⟩, h13, hf⟩ := ob_x hf
      refine xr_callVI C [.int 1] lkX10_59 (kX10_find H0 h13) Kd10 rfl H0.1 rfl (Nat.le_of_ble_eq_true rfl) rfl dX10_drop_23 ⟨by decide, by decide, by decide⟩ rfl ?_
      exact xr_ireturn C q rfl rfl dX10_drop_26 (so_1 hf) (so_w hf)
  · refine xr_ldc C wk_900 dX10_drop_7 ?_
    exact xr_ireturn C q rfl rfl dX10_drop_9 (so_1 hf) (so_w hf)
theorem kX10_drop {B : Bs} {h : Shp} (H0 : MAt h) {I0 : Mem} {p1 : Int32} {r1 : Int32} {o1 : Mem} (hf : fnX10_drop I0 p1 = some (r1, o1)) : CtrI B yX10_drop cX10_drop 2 (some Jvm.ClassFile.FieldType.int) 2 45 0 0 [rfB B 111, .int p1] (I0, h) r1 (o1, h) := by
  refine xr_enterI (lv0 := [(0, rfB B 111), (1, .int p1)]) (by decide) (Nat.le_of_ble_eq_true rfl) rfl (fun g hg C q => ?_)
  subst hg
  exact ebX10_drop_0 C H0 q hf
theorem dX10_feed_0 : decode cX10_feed 0 = .ok (.iload_n 3, 1) := by decide +kernel
theorem dX10_feed_1 : decode cX10_feed 1 = .ok (.i2l, 1) := by decide +kernel
theorem dX10_feed_2 : decode cX10_feed 2 = .ok (.lconst 1, 1) := by decide +kernel
theorem dX10_feed_3 : decode cX10_feed 3 = .ok (.ldc2_w 70, 3) := by decide +kernel
theorem dX10_feed_6 : decode cX10_feed 6 = .ok (.invokestatic 48, 3) := by decide +kernel
theorem dX10_feed_9 : decode cX10_feed 9 = .ok (.ifCond .ne 6, 3) := by decide +kernel
theorem dX10_feed_12 : decode cX10_feed 12 = .ok (.ldc 58, 2) := by decide +kernel
theorem dX10_feed_14 : decode cX10_feed 14 = .ok (.ireturn, 1) := by decide +kernel
theorem dX10_feed_15 : decode cX10_feed 15 = .ok (.aload_n 0, 1) := by decide +kernel
theorem dX10_feed_16 : decode cX10_feed 16 = .ok (.getfield 72, 3) := by decide +kernel
theorem dX10_feed_19 : decode cX10_feed 19 = .ok (.iload_n 3, 1) := by decide +kernel
theorem dX10_feed_20 : decode cX10_feed 20 = .ok (.iadd, 1) := by decide +kernel
theorem dX10_feed_21 : decode cX10_feed 21 = .ok (.sipush 400, 3) := by decide +kernel
theorem dX10_feed_24 : decode cX10_feed 24 = .ok (.if_icmp .le 6, 3) := by decide +kernel
theorem dX10_feed_27 : decode cX10_feed 27 = .ok (.ldc 75, 2) := by decide +kernel
theorem dX10_feed_29 : decode cX10_feed 29 = .ok (.ireturn, 1) := by decide +kernel
theorem dX10_feed_30 : decode cX10_feed 30 = .ok (.iload_n 3, 1) := by decide +kernel
theorem dX10_feed_31 : decode cX10_feed 31 = .ok (.iconst 1, 1) := by decide +kernel
theorem dX10_feed_32 : decode cX10_feed 32 = .ok (.isub, 1) := by decide +kernel
theorem dX10_feed_33 : decode cX10_feed 33 = .ok (.istore 4, 2) := by decide +kernel
theorem dX10_feed_35 : decode cX10_feed 35 = .ok (.iload 4, 2) := by decide +kernel
theorem dX10_feed_37 : decode cX10_feed 37 = .ok (.ifCond .lt 40, 3) := by decide +kernel
theorem dX10_feed_40 : decode cX10_feed 40 = .ok (.aload_n 0, 1) := by decide +kernel
theorem dX10_feed_41 : decode cX10_feed 41 = .ok (.getfield 16, 3) := by decide +kernel
theorem dX10_feed_44 : decode cX10_feed 44 = .ok (.aload_n 0, 1) := by decide +kernel
theorem dX10_feed_45 : decode cX10_feed 45 = .ok (.getfield 72, 3) := by decide +kernel
theorem dX10_feed_48 : decode cX10_feed 48 = .ok (.lload_n 1, 1) := by decide +kernel
theorem dX10_feed_49 : decode cX10_feed 49 = .ok (.bipush 8, 2) := by decide +kernel
theorem dX10_feed_51 : decode cX10_feed 51 = .ok (.iload 4, 2) := by decide +kernel
theorem dX10_feed_53 : decode cX10_feed 53 = .ok (.imul, 1) := by decide +kernel
theorem dX10_feed_54 : decode cX10_feed 54 = .ok (.lshr, 1) := by decide +kernel
theorem dX10_feed_55 : decode cX10_feed 55 = .ok (.ldc2_w 76, 3) := by decide +kernel
theorem dX10_feed_58 : decode cX10_feed 58 = .ok (.land, 1) := by decide +kernel
theorem dX10_feed_59 : decode cX10_feed 59 = .ok (.l2i, 1) := by decide +kernel
theorem dX10_feed_60 : decode cX10_feed 60 = .ok (.iastore, 1) := by decide +kernel
theorem dX10_feed_61 : decode cX10_feed 61 = .ok (.aload_n 0, 1) := by decide +kernel
theorem dX10_feed_62 : decode cX10_feed 62 = .ok (.dup, 1) := by decide +kernel
theorem dX10_feed_63 : decode cX10_feed 63 = .ok (.getfield 72, 3) := by decide +kernel
theorem dX10_feed_66 : decode cX10_feed 66 = .ok (.iconst 1, 1) := by decide +kernel
theorem dX10_feed_67 : decode cX10_feed 67 = .ok (.iadd, 1) := by decide +kernel
theorem dX10_feed_68 : decode cX10_feed 68 = .ok (.putfield 72, 3) := by decide +kernel
theorem dX10_feed_71 : decode cX10_feed 71 = .ok (.iinc 4 (-1), 3) := by decide +kernel
theorem dX10_feed_74 : decode cX10_feed 74 = .ok (.goto (-39), 3) := by decide +kernel
theorem dX10_feed_77 : decode cX10_feed 77 = .ok (.aload_n 0, 1) := by decide +kernel
theorem dX10_feed_78 : decode cX10_feed 78 = .ok (.getfield 72, 3) := by decide +kernel
theorem dX10_feed_81 : decode cX10_feed 81 = .ok (.ireturn, 1) := by decide +kernel
/-! BumperBallsModel.feed(JI)I -/
def fnX10_feed_35b (rec35 : Mem → Int64 → Int32 → Option (Int32 × Mem)) (I0 : Mem) (l1 : Int64) (l4 : Int32) : Option (Int32 × Mem) :=
  if l4 < 0 then (some ((I0 111 4), I0)) else (ck (inb (I0 111 4) 400) <| bnd (up2 I0 114 (ix (I0 111 4)) (((l1 >>> (((8 : Int32) * l4).toInt64 &&& 63)) &&& 255).toInt32)) fun I3 => bnd (up2 I3 111 4 ((I3 111 4) + 1)) fun I4 => bnd (l4 + (-1)) fun v5 => rec35 I4 l1 v5)
def fnX10_feed_35 : Nat → Mem → Int64 → Int32 → Option (Int32 × Mem)
  | 0 => fun _ _ _ => none
  | fu + 1 => fnX10_feed_35b (fnX10_feed_35 fu)
set_option maxRecDepth 20000 in
set_option maxHeartbeats 2000000 in
theorem ebX10_feed_35b {g : Cfg} (C : Cx g RX10 cX10_feed 5 1 25 0 0) {h : Shp} (H0 : MAt h) {r1 : Int32} {o1 : Mem} {rec35 : Mem → Int64 → Int32 → Option (Int32 × Mem)} (q : QI g (some Jvm.ClassFile.FieldType.int) 0 0 r1 (o1, h)) (ih35 : ∀ (I0 : Mem) (l1 : Int64) (l4 : Int32), rec35 I0 l1 l4 = some (r1, o1) → XE g 0 0 (I0, h) 35 [(0, rf g 111), (1, .long l1), (4, .int l4)] []) {I0 : Mem} {l1 : Int64} {l4 : Int32} (hf : fnX10_feed_35b rec35 I0 l1 l4 = some (r1, o1)) : XE g 0 0 (I0, h) 35 [(0, rf g 111), (1, .long l1), (4, .int l4)] [] := by
  unfold fnX10_feed_35b at hf
  refine xr_iload C dX10_feed_35 2 rfl ?_
  refine xr_if_lt (tgt := 77) C dX10_feed_37 (by decide) hf (fun c1 hf => ?_) (fun c1 hf => ?_)
  · refine xr_aload_n C dX10_feed_77 0 rfl rfl ?_
    refine xr_geti C Kd10 (k := 4) (by decide) rfl wk_825 rfl H0.1 dX10_feed_78 ?_
    exact xr_ireturn C q rfl rfl dX10_feed_81 (so_1 hf) (so_w hf)
  · refine xr_aload_n C dX10_feed_40 0 rfl rfl ?_
    refine xr_getr C Kd10 (k := 3) (by decide) rfl wk_824 rfl H0.1 H0.2.2.2.1.1 dX10_feed_41 ?_
    refine xr_aload_n C dX10_feed_44 0 rfl rfl ?_
    refine xr_geti C Kd10 (k := 4) (by decide) rfl wk_825 rfl H0.1 dX10_feed_45 ?_
    refine xr_lload_n C dX10_feed_48 1 rfl rfl ?_
    refine xr_bipush (v := 8) C dX10_feed_49 (by decide) ?_
    refine xr_iload C dX10_feed_51 2 rfl ?_
    refine xr_imul C dX10_feed_53 ?_
    refine xr_lshr C dX10_feed_54 ?_
    refine xr_ldc2 C wk_932 dX10_feed_55 ?_
    refine xr_land C dX10_feed_58 ?_
    refine xr_l2i C dX10_feed_59 ?_
    obtain ⟨i2, hf⟩ := ck_x hf
    obtain ⟨I3, eI3, hf⟩ := bnd_x hf
    refine xr_iast C H0.2.2.2.1.2 i2 dX10_feed_60 eI3 ?_
    refine xr_aload_n C dX10_feed_61 0 rfl rfl ?_
    refine xr_dup C dX10_feed_62 rfl ?_
    refine xr_geti C Kd10 (k := 4) (by decide) rfl wk_825 rfl H0.1 dX10_feed_63 ?_
    refine xr_iconst (v := 1) C dX10_feed_66 (by decide) ?_
    refine xr_iadd C dX10_feed_67 ?_
    obtain ⟨I4, eI4, hf⟩ := bnd_x hf
    refine xr_putI C Kd10 (k := 4) (by decide) rfl rfl wk_825 rfl rfl rfl H0.1 dX10_feed_68 eI4 ?_
    obtain ⟨v5, ev5, hf⟩ := bnd_x hf
    refine xr_iinc (k := 2) (v := v5) C dX10_feed_71 rfl (by rw [ev5]; rfl) (by decide) rfl ?_
    refine xr_goto (tgt := 35) C dX10_feed_74 (by decide) ?_
    refine xr_lv [1, 2, 0] rfl ?_
    exact ih35 _ _ _ hf
theorem ebX10_feed_35 {g : Cfg} (C : Cx g RX10 cX10_feed 5 1 25 0 0) {h : Shp} (H0 : MAt h) {r1 : Int32} {o1 : Mem} (q : QI g (some Jvm.ClassFile.FieldType.int) 0 0 r1 (o1, h)) : ∀ (fu : Nat) {I0 : Mem} {l1 : Int64} {l4 : Int32} (hf : fnX10_feed_35 fu I0 l1 l4 = some (r1, o1)), XE g 0 0 (I0, h) 35 [(0, rf g 111), (1, .long l1), (4, .int l4)] [] := by
  intro fu
  induction fu with
  | zero =>
    intro I0 l1 l4 hf
    cases hf
  | succ fu ihn =>
    intro I0 l1 l4 hf
    exact ebX10_feed_35b C H0 q (fun _ _ _ hf => ihn hf) hf
def fnX10_feed (I0 : Mem) (p1 : Int64) (p3 : Int32) : Option (Int32 × Mem) :=
  ob (fnX10_in I0 (p3.toInt64) 1 8) fun ⟨r3, I2⟩ => if r3 = 0 then (some ((-1000001), I2)) else (if ((I2 111 4) + p3) ≤ 400 then (bnd (p3 - 1) fun v6 => fnX10_feed_35 FU I2 p1 v6) else (some ((-1000003), I2)))
set_option maxRecDepth 20000 in
set_option maxHeartbeats 2000000 in
theorem ebX10_feed_0 {g : Cfg} (C : Cx g RX10 cX10_feed 5 1 25 0 0) {h : Shp} (H0 : MAt h) {r1 : Int32} {o1 : Mem} (q : QI g (some Jvm.ClassFile.FieldType.int) 0 0 r1 (o1, h)) {I0 : Mem} {p1 : Int64} {p3 : Int32} (hf : fnX10_feed I0 p1 p3 = some (r1, o1)) : XE g 0 0 (I0, h) 0 [(0, rf g 111), (1, .long p1), (3, .int p3)] [] := by
  unfold fnX10_feed at hf
  refine xr_iload_n C dX10_feed_0 2 rfl rfl ?_
  refine xr_i2l C dX10_feed_1 ?_
  refine xr_lconst (v := 1) C dX10_feed_2 (by decide) ?_
  refine xr_ldc2 C wk_930 dX10_feed_3 ?_
  obtain ⟨⟨r3, I2⟩, h1, hf⟩ := ob_x hf
  refine xr_callSI C [.long (p3.toInt64), .long 1, .long 8] lkX10_48 (kX10_in h1) rfl (Nat.le_of_ble_eq_true rfl) rfl dX10_feed_6 ⟨by decide, by decide, by decide⟩ rfl ?_
  refine xr_if_ne (tgt := 15) C dX10_feed_9 (by decide) hf (fun c4 hf => ?_) (fun c4 hf => ?_)
  · refine xr_aload_n C dX10_feed_15 0 rfl rfl ?_
    refine xr_geti C Kd10 (k := 4) (by decide) rfl wk_825 rfl H0.1 dX10_feed_16 ?_
    refine xr_iload_n C dX10_feed_19 2 rfl rfl ?_
    refine xr_iadd C dX10_feed_20 ?_
    refine xr_sipush (v := 400) C dX10_feed_21 (by decide) ?_
    refine xr_icmp_le (tgt := 30) C dX10_feed_24 (by decide) hf (fun c5 hf => ?_) (fun c5 hf => ?_)
    · refine xr_iload_n C dX10_feed_30 2 rfl rfl ?_
      refine xr_iconst (v := 1) C dX10_feed_31 (by decide) ?_
      refine xr_isub C dX10_feed_32 ?_
      obtain ⟨v6, ev6, hf⟩ := bnd_x hf
      refine xr_nm ev6 ?_
      refine xr_istore C dX10_feed_33 (by decide) rfl ?_
      refine xr_lv [1, 2, 0] rfl ?_
      exact ebX10_feed_35 C H0 q _ hf
    · refine xr_ldc C wk_931 dX10_feed_27 ?_
      exact xr_ireturn C q rfl rfl dX10_feed_29 (so_1 hf) (so_w hf)
  · refine xr_ldc C wk_900 dX10_feed_12 ?_
    exact xr_ireturn C q rfl rfl dX10_feed_14 (so_1 hf) (so_w hf)
theorem kX10_feed {B : Bs} {h : Shp} (H0 : MAt h) {I0 : Mem} {p1 : Int64} {p3 : Int32} {r1 : Int32} {o1 : Mem} (hf : fnX10_feed I0 p1 p3 = some (r1, o1)) : CtrI B yX10_feed cX10_feed 5 (some Jvm.ClassFile.FieldType.int) 1 25 0 0 [rfB B 111, .long p1, .int p3] (I0, h) r1 (o1, h) := by
  refine xr_enterI (lv0 := [(0, rfB B 111), (1, .long p1), (3, .int p3)]) (by decide) (Nat.le_of_ble_eq_true rfl) rfl (fun g hg C q => ?_)
  subst hg
  exact ebX10_feed_0 C H0 q hf
theorem dX10_sort_0 : decode cX10_sort 0 = .ok (.iload_n 0, 1) := by decide +kernel
theorem dX10_sort_1 : decode cX10_sort 1 = .ok (.bipush 97, 2) := by decide +kernel
theorem dX10_sort_3 : decode cX10_sort 3 = .ok (.if_icmp .lt 13, 3) := by decide +kernel
theorem dX10_sort_6 : decode cX10_sort 6 = .ok (.iload_n 0, 1) := by decide +kernel
theorem dX10_sort_7 : decode cX10_sort 7 = .ok (.bipush 122, 2) := by decide +kernel
theorem dX10_sort_9 : decode cX10_sort 9 = .ok (.if_icmp .gt 7, 3) := by decide +kernel
theorem dX10_sort_12 : decode cX10_sort 12 = .ok (.iconst 1, 1) := by decide +kernel
theorem dX10_sort_13 : decode cX10_sort 13 = .ok (.goto 20, 3) := by decide +kernel
theorem dX10_sort_16 : decode cX10_sort 16 = .ok (.iload_n 0, 1) := by decide +kernel
theorem dX10_sort_17 : decode cX10_sort 17 = .ok (.bipush 48, 2) := by decide +kernel
theorem dX10_sort_19 : decode cX10_sort 19 = .ok (.if_icmp .lt 13, 3) := by decide +kernel
theorem dX10_sort_22 : decode cX10_sort 22 = .ok (.iload_n 0, 1) := by decide +kernel
theorem dX10_sort_23 : decode cX10_sort 23 = .ok (.bipush 57, 2) := by decide +kernel
theorem dX10_sort_25 : decode cX10_sort 25 = .ok (.if_icmp .gt 7, 3) := by decide +kernel
theorem dX10_sort_28 : decode cX10_sort 28 = .ok (.iconst 2, 1) := by decide +kernel
theorem dX10_sort_29 : decode cX10_sort 29 = .ok (.goto 4, 3) := by decide +kernel
theorem dX10_sort_32 : decode cX10_sort 32 = .ok (.iconst 0, 1) := by decide +kernel
theorem dX10_sort_33 : decode cX10_sort 33 = .ok (.ireturn, 1) := by decide +kernel
/-! BumperBallsModel.sort(I)I -/
def fnX10_sort_33 (I0 : Mem) (t0 : Int32) : Option (Int32 × Mem) :=
  some (t0, I0)
set_option maxRecDepth 20000 in
set_option maxHeartbeats 2000000 in
theorem ebX10_sort_33 {g : Cfg} (C : Cx g RX10 cX10_sort 1 0 0 0 0) {h : Shp} {r1 : Int32} {o1 : Mem} (q : QI g (some Jvm.ClassFile.FieldType.int) 0 0 r1 (o1, h)) {I0 : Mem} {t0 : Int32} (hf : fnX10_sort_33 I0 t0 = some (r1, o1)) : XE g 0 0 (I0, h) 33 [] [.int t0] := by
  unfold fnX10_sort_33 at hf
  exact xr_ireturn C q rfl rfl dX10_sort_33 (so_1 hf) (so_w hf)
def fnX10_sort_32 (I0 : Mem) : Option (Int32 × Mem) :=
  fnX10_sort_33 I0 0
set_option maxRecDepth 20000 in
set_option maxHeartbeats 2000000 in
theorem ebX10_sort_32 {g : Cfg} (C : Cx g RX10 cX10_sort 1 0 0 0 0) {h : Shp} {r1 : Int32} {o1 : Mem} (q : QI g (some Jvm.ClassFile.FieldType.int) 0 0 r1 (o1, h)) {I0 : Mem} (hf : fnX10_sort_32 I0 = some (r1, o1)) : XE g 0 0 (I0, h) 32 [] [] := by
  unfold fnX10_sort_32 at hf
  refine xr_iconst (v := 0) C dX10_sort_32 (by decide) ?_
  exact ebX10_sort_33 C q hf
def fnX10_sort_16 (I0 : Mem) (l0 : Int32) : Option (Int32 × Mem) :=
  if l0 < 48 then (fnX10_sort_32 I0) else (if 57 < l0 then (fnX10_sort_32 I0) else (fnX10_sort_33 I0 2))
set_option maxRecDepth 20000 in
set_option maxHeartbeats 2000000 in
theorem ebX10_sort_16 {g : Cfg} (C : Cx g RX10 cX10_sort 1 0 0 0 0) {h : Shp} {r1 : Int32} {o1 : Mem} (q : QI g (some Jvm.ClassFile.FieldType.int) 0 0 r1 (o1, h)) {I0 : Mem} {l0 : Int32} (hf : fnX10_sort_16 I0 l0 = some (r1, o1)) : XE g 0 0 (I0, h) 16 [(0, .int l0)] [] := by
  unfold fnX10_sort_16 at hf
  refine xr_iload_n C dX10_sort_16 0 rfl rfl ?_
  refine xr_bipush (v := 48) C dX10_sort_17 (by decide) ?_
  refine xr_icmp_lt (tgt := 32) C dX10_sort_19 (by decide) hf (fun c1 hf => ?_) (fun c1 hf => ?_)
  · refine xr_lv [] rfl ?_
    exact ebX10_sort_32 C q hf
  · refine xr_iload_n C dX10_sort_22 0 rfl rfl ?_
    refine xr_bipush (v := 57) C dX10_sort_23 (by decide) ?_
    refine xr_icmp_gt (tgt := 32) C dX10_sort_25 (by decide) hf (fun c2 hf => ?_) (fun c2 hf => ?_)
    · refine xr_lv [] rfl ?_
      exact ebX10_sort_32 C q hf
    · refine xr_iconst (v := 2) C dX10_sort_28 (by decide) ?_
      refine xr_goto (tgt := 33) C dX10_sort_29 (by decide) ?_
      refine xr_lv [] rfl ?_
      exact ebX10_sort_33 C q hf
def fnX10_sort (I0 : Mem) (p0 : Int32) : Option (Int32 × Mem) :=
  if p0 < 97 then (fnX10_sort_16 I0 p0) else (if 122 < p0 then (fnX10_sort_16 I0 p0) else (fnX10_sort_33 I0 1))
set_option maxRecDepth 20000 in
set_option maxHeartbeats 2000000 in
theorem ebX10_sort_0 {g : Cfg} (C : Cx g RX10 cX10_sort 1 0 0 0 0) {h : Shp} {r1 : Int32} {o1 : Mem} (q : QI g (some Jvm.ClassFile.FieldType.int) 0 0 r1 (o1, h)) {I0 : Mem} {p0 : Int32} (hf : fnX10_sort I0 p0 = some (r1, o1)) : XE g 0 0 (I0, h) 0 [(0, .int p0)] [] := by
  unfold fnX10_sort at hf
  refine xr_iload_n C dX10_sort_0 0 rfl rfl ?_
  refine xr_bipush (v := 97) C dX10_sort_1 (by decide) ?_
  refine xr_icmp_lt (tgt := 16) C dX10_sort_3 (by decide) hf (fun c1 hf => ?_) (fun c1 hf => ?_)
  · exact ebX10_sort_16 C q hf
  · refine xr_iload_n C dX10_sort_6 0 rfl rfl ?_
    refine xr_bipush (v := 122) C dX10_sort_7 (by decide) ?_
    refine xr_icmp_gt (tgt := 16) C dX10_sort_9 (by decide) hf (fun c2 hf => ?_) (fun c2 hf => ?_)
    · exact ebX10_sort_16 C q hf
    · refine xr_iconst (v := 1) C dX10_sort_12 (by decide) ?_
      refine xr_goto (tgt := 33) C dX10_sort_13 (by decide) ?_
      refine xr_lv [] rfl ?_
      exact ebX10_sort_33 C q hf
theorem kX10_sort {B : Bs} {h : Shp} {I0 : Mem} {p0 : Int32} {r1 : Int32} {o1 : Mem} (hf : fnX10_sort I0 p0 = some (r1, o1)) : CtrI B yX10_sort cX10_sort 1 (some Jvm.ClassFile.FieldType.int) 0 0 0 0 [.int p0] (I0, h) r1 (o1, h) := by
  refine xr_enterI (lv0 := [(0, .int p0)]) (by decide) (Nat.le_of_ble_eq_true rfl) rfl (fun g hg C q => ?_)
  subst hg
  exact ebX10_sort_0 C q hf
