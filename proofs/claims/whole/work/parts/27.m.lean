theorem dX10_bumperBody_0 : decode cX10_bumperBody 0 = .ok (.aload_n 0, 1) := by decide +kernel
theorem dX10_bumperBody_1 : decode cX10_bumperBody 1 = .ok (.bipush 11, 2) := by decide +kernel
theorem dX10_bumperBody_3 : decode cX10_bumperBody 3 = .ok (.invokevirtual 234, 3) := by decide +kernel
theorem dX10_bumperBody_6 : decode cX10_bumperBody 6 = .ok (.aload_n 0, 1) := by decide +kernel
theorem dX10_bumperBody_7 : decode cX10_bumperBody 7 = .ok (.iload_n 1, 1) := by decide +kernel
theorem dX10_bumperBody_8 : decode cX10_bumperBody 8 = .ok (.invokevirtual 243, 3) := by decide +kernel
theorem dX10_bumperBody_11 : decode cX10_bumperBody 11 = .ok (.istore_n 2, 1) := by decide +kernel
theorem dX10_bumperBody_12 : decode cX10_bumperBody 12 = .ok (.iload_n 2, 1) := by decide +kernel
theorem dX10_bumperBody_13 : decode cX10_bumperBody 13 = .ok (.aload_n 0, 1) := by decide +kernel
theorem dX10_bumperBody_14 : decode cX10_bumperBody 14 = .ok (.iload_n 1, 1) := by decide +kernel
theorem dX10_bumperBody_15 : decode cX10_bumperBody 15 = .ok (.invokevirtual 246, 3) := by decide +kernel
theorem dX10_bumperBody_18 : decode cX10_bumperBody 18 = .ok (.iadd, 1) := by decide +kernel
theorem dX10_bumperBody_19 : decode cX10_bumperBody 19 = .ok (.ireturn, 1) := by decide +kernel
theorem lkX10_243 : LkV "BumperBallsModel" 243 yX10_paysBody cX10_paysBody 2 (some Jvm.ClassFile.FieldType.int) 1 := ⟨wk_1165, wk_11, wk_1164, wk_s95, ⟨by decide +kernel, by decide +kernel, by decide +kernel⟩, wk_1162⟩
theorem lkX10_246 : LkV "BumperBallsModel" 246 yX10_markOfBumper cX10_markOfBumper 4 (some Jvm.ClassFile.FieldType.int) 1 := ⟨wk_1169, wk_11, wk_1168, wk_s96, ⟨by decide +kernel, by decide +kernel, by decide +kernel⟩, wk_1166⟩
/-! BumperBallsModel.bumperBody(I)I -/
def fnX10_bumperBody (I0 : Mem) (p1 : Int32) : Option (Int32 × Mem) :=
  ob (fnX10_leave I0 11) fun I2 => ob (fnX10_paysBody I2 p1) fun ⟨r5, I4⟩ => ob (fnX10_markOfBumper I4 p1) fun ⟨r8, I7⟩ => some ((r5 + r8), I7)
set_option maxRecDepth 20000 in
set_option maxHeartbeats 2000000 in
theorem ebX10_bumperBody_0 {g : Cfg} (C : Cx g RX10 cX10_bumperBody 3 4 86 0 0) {h : Shp} (H0 : MAt h) {r1 : Int32} {o1 : Mem} (q : QI g (some Jvm.ClassFile.FieldType.int) 0 0 r1 (o1, h)) {I0 : Mem} {p1 : Int32} (hf : fnX10_bumperBody I0 p1 = some (r1, o1)) : XE g 0 0 (I0, h) 0 [(0, rf g 111), (1, .int p1)] [] := by
  unfold fnX10_bumperBody at hf
  refine xr_aload_n C dX10_bumperBody_0 0 rfl rfl ?_
  refine xr_bipush (v := 11) C dX10_bumperBody_1 (by decide) ?_
  obtain ⟨I2, h1, hf⟩ := ob_x hf
  refine xr_callVV C [.int 11] lkX10_234 (kX10_leave H0 h1) Kd10 rfl H0.1 rfl (Nat.le_of_ble_eq_true rfl) rfl dX10_bumperBody_3 ⟨by decide, by decide, by decide⟩ rfl ?_
  refine xr_aload_n C dX10_bumperBody_6 0 rfl rfl ?_
  refine xr_iload_n C dX10_bumperBody_7 1 rfl rfl ?_
  obtain ⟨⟨r5, I4⟩, h3, hf⟩ := ob_x hf
  refine xr_callVI C [.int p1] lkX10_243 (kX10_paysBody H0 h3) Kd10 rfl H0.1 rfl (Nat.le_of_ble_eq_true rfl) rfl dX10_bumperBody_8 ⟨by decide, by decide, by decide⟩ rfl ?_
  refine xr_istore_n C dX10_bumperBody_11 rfl (by decide) rfl ?_
  refine xr_iload_n C dX10_bumperBody_12 0 rfl rfl ?_
  refine xr_aload_n C dX10_bumperBody_13 1 rfl rfl ?_
  refine xr_iload_n C dX10_bumperBody_14 2 rfl rfl ?_
  obtain ⟨⟨r8, I7⟩, h6, hf⟩ := ob_x hf
  refine xr_callVI C [.int p1] lkX10_246 (kX10_markOfBumper H0 h6) Kd10 rfl H0.1 rfl (Nat.le_of_ble_eq_true rfl) rfl dX10_bumperBody_15 ⟨by decide, by decide, by decide⟩ rfl ?_
  refine xr_iadd C dX10_bumperBody_18 ?_
  exact xr_ireturn C q rfl rfl dX10_bumperBody_19 (so_1 hf) (so_w hf)
theorem kX10_bumperBody {B : Bs} {h : Shp} (H0 : MAt h) {I0 : Mem} {p1 : Int32} {r1 : Int32} {o1 : Mem} (hf : fnX10_bumperBody I0 p1 = some (r1, o1)) : CtrI B yX10_bumperBody cX10_bumperBody 3 (some Jvm.ClassFile.FieldType.int) 4 86 0 0 [rfB B 111, .int p1] (I0, h) r1 (o1, h) := by
  refine xr_enterI (lv0 := [(0, rfB B 111), (1, .int p1)]) (by decide) (Nat.le_of_ble_eq_true rfl) rfl (fun g hg C q => ?_)
  subst hg
  exact ebX10_bumperBody_0 C H0 q hf
theorem dX10_lampBody_0 : decode cX10_lampBody 0 = .ok (.aload_n 0, 1) := by decide +kernel
theorem dX10_lampBody_1 : decode cX10_lampBody 1 = .ok (.bipush 13, 2) := by decide +kernel
theorem dX10_lampBody_3 : decode cX10_lampBody 3 = .ok (.invokevirtual 234, 3) := by decide +kernel
theorem dX10_lampBody_6 : decode cX10_lampBody 6 = .ok (.aload_n 0, 1) := by decide +kernel
theorem dX10_lampBody_7 : decode cX10_lampBody 7 = .ok (.iload_n 1, 1) := by decide +kernel
theorem dX10_lampBody_8 : decode cX10_lampBody 8 = .ok (.invokevirtual 243, 3) := by decide +kernel
theorem dX10_lampBody_11 : decode cX10_lampBody 11 = .ok (.bipush 100, 2) := by decide +kernel
theorem dX10_lampBody_13 : decode cX10_lampBody 13 = .ok (.isub, 1) := by decide +kernel
theorem dX10_lampBody_14 : decode cX10_lampBody 14 = .ok (.ireturn, 1) := by decide +kernel
/-! BumperBallsModel.lampBody(I)I -/
def fnX10_lampBody (I0 : Mem) (p1 : Int32) : Option (Int32 × Mem) :=
  ob (fnX10_leave I0 13) fun I2 => ob (fnX10_paysBody I2 p1) fun ⟨r5, I4⟩ => some ((r5 - 100), I4)
set_option maxRecDepth 20000 in
set_option maxHeartbeats 2000000 in
theorem ebX10_lampBody_0 {g : Cfg} (C : Cx g RX10 cX10_lampBody 2 2 42 0 0) {h : Shp} (H0 : MAt h) {r1 : Int32} {o1 : Mem} (q : QI g (some Jvm.ClassFile.FieldType.int) 0 0 r1 (o1, h)) {I0 : Mem} {p1 : Int32} (hf : fnX10_lampBody I0 p1 = some (r1, o1)) : XE g 0 0 (I0, h) 0 [(0, rf g 111), (1, .int p1)] [] := by
  unfold fnX10_lampBody at hf
  refine xr_aload_n C dX10_lampBody_0 0 rfl rfl ?_
  refine xr_bipush (v := 13) C dX10_lampBody_1 (by decide) ?_
  obtain ⟨I2, h1, hf⟩ := ob_x hf
  refine xr_callVV C [.int 13] lkX10_234 (kX10_leave H0 h1) Kd10 rfl H0.1 rfl (Nat.le_of_ble_eq_true rfl) rfl dX10_lampBody_3 ⟨by decide, by decide, by decide⟩ rfl ?_
  refine xr_aload_n C dX10_lampBody_6 0 rfl rfl ?_
  refine xr_iload_n C dX10_lampBody_7 1 rfl rfl ?_
  obtain ⟨⟨r5, I4⟩, h3, hf⟩ := ob_x hf
  refine xr_callVI C [.int p1] lkX10_243 (kX10_paysBody H0 h3) Kd10 rfl H0.1 rfl (Nat.le_of_ble_eq_true rfl) rfl dX10_lampBody_8 ⟨by decide, by decide, by decide⟩ rfl ?_
  refine xr_bipush (v := 100) C dX10_lampBody_11 (by decide) ?_
  refine xr_isub C dX10_lampBody_13 ?_
  exact xr_ireturn C q rfl rfl dX10_lampBody_14 (so_1 hf) (so_w hf)
theorem kX10_lampBody {B : Bs} {h : Shp} (H0 : MAt h) {I0 : Mem} {p1 : Int32} {r1 : Int32} {o1 : Mem} (hf : fnX10_lampBody I0 p1 = some (r1, o1)) : CtrI B yX10_lampBody cX10_lampBody 2 (some Jvm.ClassFile.FieldType.int) 2 42 0 0 [rfB B 111, .int p1] (I0, h) r1 (o1, h) := by
  refine xr_enterI (lv0 := [(0, rfB B 111), (1, .int p1)]) (by decide) (Nat.le_of_ble_eq_true rfl) rfl (fun g hg C q => ?_)
  subst hg
  exact ebX10_lampBody_0 C H0 q hf
theorem dX10_sizeOfLamp_0 : decode cX10_sizeOfLamp 0 = .ok (.aload_n 0, 1) := by decide +kernel
theorem dX10_sizeOfLamp_1 : decode cX10_sizeOfLamp 1 = .ok (.getfield 7, 3) := by decide +kernel
theorem dX10_sizeOfLamp_4 : decode cX10_sizeOfLamp 4 = .ok (.iconst 3, 1) := by decide +kernel
theorem dX10_sizeOfLamp_5 : decode cX10_sizeOfLamp 5 = .ok (.iconst 4, 1) := by decide +kernel
theorem dX10_sizeOfLamp_6 : decode cX10_sizeOfLamp 6 = .ok (.iload_n 1, 1) := by decide +kernel
theorem dX10_sizeOfLamp_7 : decode cX10_sizeOfLamp 7 = .ok (.imul, 1) := by decide +kernel
theorem dX10_sizeOfLamp_8 : decode cX10_sizeOfLamp 8 = .ok (.iadd, 1) := by decide +kernel
theorem dX10_sizeOfLamp_9 : decode cX10_sizeOfLamp 9 = .ok (.iaload, 1) := by decide +kernel
theorem dX10_sizeOfLamp_10 : decode cX10_sizeOfLamp 10 = .ok (.iconst 4, 1) := by decide +kernel
theorem dX10_sizeOfLamp_11 : decode cX10_sizeOfLamp 11 = .ok (.if_icmp .ne 9, 3) := by decide +kernel
theorem dX10_sizeOfLamp_14 : decode cX10_sizeOfLamp 14 = .ok (.aload_n 0, 1) := by decide +kernel
theorem dX10_sizeOfLamp_15 : decode cX10_sizeOfLamp 15 = .ok (.iload_n 1, 1) := by decide +kernel
theorem dX10_sizeOfLamp_16 : decode cX10_sizeOfLamp 16 = .ok (.invokevirtual 249, 3) := by decide +kernel
theorem dX10_sizeOfLamp_19 : decode cX10_sizeOfLamp 19 = .ok (.ireturn, 1) := by decide +kernel
theorem dX10_sizeOfLamp_20 : decode cX10_sizeOfLamp 20 = .ok (.aload_n 0, 1) := by decide +kernel
theorem dX10_sizeOfLamp_21 : decode cX10_sizeOfLamp 21 = .ok (.bipush 14, 2) := by decide +kernel
theorem dX10_sizeOfLamp_23 : decode cX10_sizeOfLamp 23 = .ok (.invokevirtual 234, 3) := by decide +kernel
theorem dX10_sizeOfLamp_26 : decode cX10_sizeOfLamp 26 = .ok (.iconst 2, 1) := by decide +kernel
theorem dX10_sizeOfLamp_27 : decode cX10_sizeOfLamp 27 = .ok (.aload_n 0, 1) := by decide +kernel
theorem dX10_sizeOfLamp_28 : decode cX10_sizeOfLamp 28 = .ok (.iload_n 1, 1) := by decide +kernel
theorem dX10_sizeOfLamp_29 : decode cX10_sizeOfLamp 29 = .ok (.invokevirtual 249, 3) := by decide +kernel
theorem dX10_sizeOfLamp_32 : decode cX10_sizeOfLamp 32 = .ok (.imul, 1) := by decide +kernel
theorem dX10_sizeOfLamp_33 : decode cX10_sizeOfLamp 33 = .ok (.ireturn, 1) := by decide +kernel
theorem lkX10_249 : LkV "BumperBallsModel" 249 yX10_lampBody cX10_lampBody 2 (some Jvm.ClassFile.FieldType.int) 1 := ⟨wk_1185, wk_11, wk_1184, wk_s100, ⟨by decide +kernel, by decide +kernel, by decide +kernel⟩, wk_1182⟩
/-! BumperBallsModel.sizeOfLamp(I)I -/
def fnX10_sizeOfLamp (I0 : Mem) (p1 : Int32) : Option (Int32 × Mem) :=
  ck (inb ((3 : Int32) + ((4 : Int32) * p1)) 164) <| if (I0 112 (ix ((3 : Int32) + ((4 : Int32) * p1)))) = 4 then (ob (fnX10_lampBody I0 p1) fun ⟨r10, I9⟩ => some (r10, I9)) else (ob (fnX10_leave I0 14) fun I4 => ob (fnX10_lampBody I4 p1) fun ⟨r7, I6⟩ => some (((2 : Int32) * r7), I6))
set_option maxRecDepth 20000 in
set_option maxHeartbeats 2000000 in
theorem ebX10_sizeOfLamp_0 {g : Cfg} (C : Cx g RX10 cX10_sizeOfLamp 2 3 63 0 0) {h : Shp} (H0 : MAt h) {r1 : Int32} {o1 : Mem} (q : QI g (some Jvm.ClassFile.FieldType.int) 0 0 r1 (o1, h)) {I0 : Mem} {p1 : Int32} (hf : fnX10_sizeOfLamp I0 p1 = some (r1, o1)) : XE g 0 0 (I0, h) 0 [(0, rf g 111), (1, .int p1)] [] := by
  unfold fnX10_sizeOfLamp at hf
  refine xr_aload_n C dX10_sizeOfLamp_0 0 rfl rfl ?_
  refine xr_getr C Kd10 (k := 0) (by decide) rfl wk_821 rfl H0.1 H0.2.1.1 dX10_sizeOfLamp_1 ?_
  refine xr_iconst (v := 3) C dX10_sizeOfLamp_4 (by decide) ?_
  refine xr_iconst (v := 4) C dX10_sizeOfLamp_5 (by decide) ?_
  refine xr_iload_n C dX10_sizeOfLamp_6 1 rfl rfl ?_
  refine xr_imul C dX10_sizeOfLamp_7 ?_
  refine xr_iadd C dX10_sizeOfLamp_8 ?_
  obtain ⟨i1, hf⟩ := ck_x hf
  refine xr_iald C H0.2.1.2 i1 dX10_sizeOfLamp_9 ?_
  refine xr_iconst (v := 4) C dX10_sizeOfLamp_10 (by decide) ?_
  refine xr_icmp_ne (tgt := 20) C dX10_sizeOfLamp_11 (by decide) hf (fun c2 hf => ?_) (fun c2 hf => ?_)
  · refine xr_aload_n C dX10_sizeOfLamp_20 0 rfl rfl ?_
    refine xr_bipush (v := 14) C dX10_sizeOfLamp_21 (by decide) ?_
    obtain ⟨I4, h3, hf⟩ := ob_x hf
    refine xr_callVV C [.int 14] lkX10_234 (kX10_leave H0 h3) Kd10 rfl H0.1 rfl (Nat.le_of_ble_eq_true rfl) rfl dX10_sizeOfLamp_23 ⟨by decide, by decide, by decide⟩ rfl ?_
    refine xr_iconst (v := 2) C dX10_sizeOfLamp_26 (by decide) ?_
    refine xr_aload_n C dX10_sizeOfLamp_27 0 rfl rfl ?_
    refine xr_iload_n C dX10_sizeOfLamp_28 1 rfl rfl ?_
    obtain ⟨⟨r7, I6⟩, h5, hf⟩ := ob_x hf
    refine xr_callVI C [.int p1] lkX10_249 (kX10_lampBody H0 h5) Kd10 rfl H0.1 rfl (Nat.le_of_ble_eq_true rfl) rfl dX10_sizeOfLamp_29 ⟨by decide, by decide, by decide⟩ rfl ?_
    refine xr_imul C dX10_sizeOfLamp_32 ?_
    exact xr_ireturn C q rfl rfl dX10_sizeOfLamp_33 (so_1 hf) (so_w hf)
  · refine xr_aload_n C dX10_sizeOfLamp_14 0 rfl rfl ?_
    refine xr_iload_n C dX10_sizeOfLamp_15 1 rfl rfl ?_
    obtain ⟨⟨r10, I9⟩, h8, hf⟩ := ob_x hf
    refine xr_callVI C [.int p1] lkX10_249 (kX10_lampBody H0 h8) Kd10 rfl H0.1 rfl (Nat.le_of_ble_eq_true rfl) rfl dX10_sizeOfLamp_16 ⟨by decide, by decide, by decide⟩ rfl ?_
    exact xr_ireturn C q rfl rfl dX10_sizeOfLamp_19 (so_1 hf) (so_w hf)
theorem kX10_sizeOfLamp {B : Bs} {h : Shp} (H0 : MAt h) {I0 : Mem} {p1 : Int32} {r1 : Int32} {o1 : Mem} (hf : fnX10_sizeOfLamp I0 p1 = some (r1, o1)) : CtrI B yX10_sizeOfLamp cX10_sizeOfLamp 2 (some Jvm.ClassFile.FieldType.int) 3 63 0 0 [rfB B 111, .int p1] (I0, h) r1 (o1, h) := by
  refine xr_enterI (lv0 := [(0, rfB B 111), (1, .int p1)]) (by decide) (Nat.le_of_ble_eq_true rfl) rfl (fun g hg C q => ?_)
  subst hg
  exact ebX10_sizeOfLamp_0 C H0 q hf
theorem dX10_sizeOfBumper_0 : decode cX10_sizeOfBumper 0 = .ok (.aload_n 0, 1) := by decide +kernel
theorem dX10_sizeOfBumper_1 : decode cX10_sizeOfBumper 1 = .ok (.getfield 7, 3) := by decide +kernel
theorem dX10_sizeOfBumper_4 : decode cX10_sizeOfBumper 4 = .ok (.iconst 3, 1) := by decide +kernel
theorem dX10_sizeOfBumper_5 : decode cX10_sizeOfBumper 5 = .ok (.iconst 4, 1) := by decide +kernel
theorem dX10_sizeOfBumper_6 : decode cX10_sizeOfBumper 6 = .ok (.iload_n 1, 1) := by decide +kernel
theorem dX10_sizeOfBumper_7 : decode cX10_sizeOfBumper 7 = .ok (.imul, 1) := by decide +kernel
theorem dX10_sizeOfBumper_8 : decode cX10_sizeOfBumper 8 = .ok (.iadd, 1) := by decide +kernel
theorem dX10_sizeOfBumper_9 : decode cX10_sizeOfBumper 9 = .ok (.iaload, 1) := by decide +kernel
theorem dX10_sizeOfBumper_10 : decode cX10_sizeOfBumper 10 = .ok (.iconst 2, 1) := by decide +kernel
theorem dX10_sizeOfBumper_11 : decode cX10_sizeOfBumper 11 = .ok (.if_icmp .eq 9, 3) := by decide +kernel
theorem dX10_sizeOfBumper_14 : decode cX10_sizeOfBumper 14 = .ok (.aload_n 0, 1) := by decide +kernel
theorem dX10_sizeOfBumper_15 : decode cX10_sizeOfBumper 15 = .ok (.iload_n 1, 1) := by decide +kernel
theorem dX10_sizeOfBumper_16 : decode cX10_sizeOfBumper 16 = .ok (.invokevirtual 252, 3) := by decide +kernel
theorem dX10_sizeOfBumper_19 : decode cX10_sizeOfBumper 19 = .ok (.ireturn, 1) := by decide +kernel
theorem dX10_sizeOfBumper_20 : decode cX10_sizeOfBumper 20 = .ok (.aload_n 0, 1) := by decide +kernel
theorem dX10_sizeOfBumper_21 : decode cX10_sizeOfBumper 21 = .ok (.bipush 12, 2) := by decide +kernel
theorem dX10_sizeOfBumper_23 : decode cX10_sizeOfBumper 23 = .ok (.invokevirtual 234, 3) := by decide +kernel
theorem dX10_sizeOfBumper_26 : decode cX10_sizeOfBumper 26 = .ok (.aload_n 0, 1) := by decide +kernel
theorem dX10_sizeOfBumper_27 : decode cX10_sizeOfBumper 27 = .ok (.iload_n 1, 1) := by decide +kernel
theorem dX10_sizeOfBumper_28 : decode cX10_sizeOfBumper 28 = .ok (.invokevirtual 252, 3) := by decide +kernel
theorem dX10_sizeOfBumper_31 : decode cX10_sizeOfBumper 31 = .ok (.ineg, 1) := by decide +kernel
theorem dX10_sizeOfBumper_32 : decode cX10_sizeOfBumper 32 = .ok (.ireturn, 1) := by decide +kernel
theorem lkX10_252 : LkV "BumperBallsModel" 252 yX10_bumperBody cX10_bumperBody 3 (some Jvm.ClassFile.FieldType.int) 1 := ⟨wk_1157, wk_11, wk_1156, wk_s93, ⟨by decide +kernel, by decide +kernel, by decide +kernel⟩, wk_1154⟩
/-! BumperBallsModel.sizeOfBumper(I)I -/
def fnX10_sizeOfBumper (I0 : Mem) (p1 : Int32) : Option (Int32 × Mem) :=
  ck (inb ((3 : Int32) + ((4 : Int32) * p1)) 164) <| if (I0 112 (ix ((3 : Int32) + ((4 : Int32) * p1)))) = 2 then (ob (fnX10_leave I0 12) fun I4 => ob (fnX10_bumperBody I4 p1) fun ⟨r7, I6⟩ => some ((-r7), I6)) else (ob (fnX10_bumperBody I0 p1) fun ⟨r10, I9⟩ => some (r10, I9))
set_option maxRecDepth 20000 in
set_option maxHeartbeats 2000000 in
theorem ebX10_sizeOfBumper_0 {g : Cfg} (C : Cx g RX10 cX10_sizeOfBumper 2 5 108 0 0) {h : Shp} (H0 : MAt h) {r1 : Int32} {o1 : Mem} (q : QI g (some Jvm.ClassFile.FieldType.int) 0 0 r1 (o1, h)) {I0 : Mem} {p1 : Int32} (hf : fnX10_sizeOfBumper I0 p1 = some (r1, o1)) : XE g 0 0 (I0, h) 0 [(0, rf g 111), (1, .int p1)] [] := by
  unfold fnX10_sizeOfBumper at hf
  refine xr_aload_n C dX10_sizeOfBumper_0 0 rfl rfl ?_
  refine xr_getr C Kd10 (k := 0) (by decide) rfl wk_821 rfl H0.1 H0.2.1.1 dX10_sizeOfBumper_1 ?_
  refine xr_iconst (v := 3) C dX10_sizeOfBumper_4 (by decide) ?_
  refine xr_iconst (v := 4) C dX10_sizeOfBumper_5 (by decide) ?_
  refine xr_iload_n C dX10_sizeOfBumper_6 1 rfl rfl ?_
  refine xr_imul C dX10_sizeOfBumper_7 ?_
  refine xr_iadd C dX10_sizeOfBumper_8 ?_
  obtain ⟨i1, hf⟩ := ck_x hf
  refine xr_iald C H0.2.1.2 i1 dX10_sizeOfBumper_9 ?_
  refine xr_iconst (v := 2) C dX10_sizeOfBumper_10 (by decide) ?_
  refine xr_icmp_eq (tgt := 20) C dX10_sizeOfBumper_11 (by decide) hf (fun c2 hf => ?_) (fun c2 hf => ?_)
  · refine xr_aload_n C dX10_sizeOfBumper_20 0 rfl rfl ?_
    refine xr_bipush (v := 12) C dX10_sizeOfBumper_21 (by decide) ?_
    obtain ⟨I4, h3, hf⟩ := ob_x hf
    refine xr_callVV C [.int 12] lkX10_234 (kX10_leave H0 h3) Kd10 rfl H0.1 rfl (Nat.le_of_ble_eq_true rfl) rfl dX10_sizeOfBumper_23 ⟨by decide, by decide, by decide⟩ rfl ?_
    refine xr_aload_n C dX10_sizeOfBumper_26 0 rfl rfl ?_
    refine xr_iload_n C dX10_sizeOfBumper_27 1 rfl rfl ?_
    obtain ⟨⟨r7, I6⟩, h5, hf⟩ := ob_x hf
    refine xr_callVI C [.int p1] lkX10_252 (kX10_bumperBody H0 h5) Kd10 rfl H0.1 rfl (Nat.le_of_ble_eq_true rfl) rfl dX10_sizeOfBumper_28 ⟨by decide, by decide, by decide⟩ rfl ?_
    refine xr_ineg C dX10_sizeOfBumper_31 ?_
    exact xr_ireturn C q rfl rfl dX10_sizeOfBumper_32 (so_1 hf) (so_w hf)
  · refine xr_aload_n C dX10_sizeOfBumper_14 0 rfl rfl ?_
    refine xr_iload_n C dX10_sizeOfBumper_15 1 rfl rfl ?_
    obtain ⟨⟨r10, I9⟩, h8, hf⟩ := ob_x hf
    refine xr_callVI C [.int p1] lkX10_252 (kX10_bumperBody H0 h8) Kd10 rfl H0.1 rfl (Nat.le_of_ble_eq_true rfl) rfl dX10_sizeOfBumper_16 ⟨by decide, by decide, by decide⟩ rfl ?_
    exact xr_ireturn C q rfl rfl dX10_sizeOfBumper_19 (so_1 hf) (so_w hf)
theorem kX10_sizeOfBumper {B : Bs} {h : Shp} (H0 : MAt h) {I0 : Mem} {p1 : Int32} {r1 : Int32} {o1 : Mem} (hf : fnX10_sizeOfBumper I0 p1 = some (r1, o1)) : CtrI B yX10_sizeOfBumper cX10_sizeOfBumper 2 (some Jvm.ClassFile.FieldType.int) 5 108 0 0 [rfB B 111, .int p1] (I0, h) r1 (o1, h) := by
  refine xr_enterI (lv0 := [(0, rfB B 111), (1, .int p1)]) (by decide) (Nat.le_of_ble_eq_true rfl) rfl (fun g hg C q => ?_)
  subst hg
  exact ebX10_sizeOfBumper_0 C H0 q hf
theorem dX10_markOfLamp_0 : decode cX10_markOfLamp 0 = .ok (.aload_n 0, 1) := by decide +kernel
theorem dX10_markOfLamp_1 : decode cX10_markOfLamp 1 = .ok (.bipush 23, 2) := by decide +kernel
theorem dX10_markOfLamp_3 : decode cX10_markOfLamp 3 = .ok (.invokevirtual 234, 3) := by decide +kernel
theorem dX10_markOfLamp_6 : decode cX10_markOfLamp 6 = .ok (.aload_n 0, 1) := by decide +kernel
theorem dX10_markOfLamp_7 : decode cX10_markOfLamp 7 = .ok (.iload_n 1, 1) := by decide +kernel
theorem dX10_markOfLamp_8 : decode cX10_markOfLamp 8 = .ok (.invokevirtual 237, 3) := by decide +kernel
theorem dX10_markOfLamp_11 : decode cX10_markOfLamp 11 = .ok (.istore_n 2, 1) := by decide +kernel
theorem dX10_markOfLamp_12 : decode cX10_markOfLamp 12 = .ok (.iload_n 2, 1) := by decide +kernel
theorem dX10_markOfLamp_13 : decode cX10_markOfLamp 13 = .ok (.aload_n 0, 1) := by decide +kernel
theorem dX10_markOfLamp_14 : decode cX10_markOfLamp 14 = .ok (.iload_n 1, 1) := by decide +kernel
theorem dX10_markOfLamp_15 : decode cX10_markOfLamp 15 = .ok (.invokevirtual 255, 3) := by decide +kernel
theorem dX10_markOfLamp_18 : decode cX10_markOfLamp 18 = .ok (.isub, 1) := by decide +kernel
theorem dX10_markOfLamp_19 : decode cX10_markOfLamp 19 = .ok (.ireturn, 1) := by decide +kernel
theorem lkX10_255 : LkV "BumperBallsModel" 255 yX10_sizeOfLamp cX10_sizeOfLamp 2 (some Jvm.ClassFile.FieldType.int) 1 := ⟨wk_1181, wk_11, wk_1180, wk_s99, ⟨by decide +kernel, by decide +kernel, by decide +kernel⟩, wk_1178⟩
/-! BumperBallsModel.markOfLamp(I)I -/
def fnX10_markOfLamp (I0 : Mem) (p1 : Int32) : Option (Int32 × Mem) :=
  ob (fnX10_leave I0 23) fun I2 => ob (fnX10_numberBody I2 p1) fun ⟨r5, I4⟩ => ob (fnX10_sizeOfLamp I4 p1) fun ⟨r8, I7⟩ => some ((r5 - r8), I7)
set_option maxRecDepth 20000 in
set_option maxHeartbeats 2000000 in
theorem ebX10_markOfLamp_0 {g : Cfg} (C : Cx g RX10 cX10_markOfLamp 3 4 84 0 0) {h : Shp} (H0 : MAt h) {r1 : Int32} {o1 : Mem} (q : QI g (some Jvm.ClassFile.FieldType.int) 0 0 r1 (o1, h)) {I0 : Mem} {p1 : Int32} (hf : fnX10_markOfLamp I0 p1 = some (r1, o1)) : XE g 0 0 (I0, h) 0 [(0, rf g 111), (1, .int p1)] [] := by
  unfold fnX10_markOfLamp at hf
  refine xr_aload_n C dX10_markOfLamp_0 0 rfl rfl ?_
  refine xr_bipush (v := 23) C dX10_markOfLamp_1 (by decide) ?_
  obtain ⟨I2, h1, hf⟩ := ob_x hf
  refine xr_callVV C [.int 23] lkX10_234 (kX10_leave H0 h1) Kd10 rfl H0.1 rfl (Nat.le_of_ble_eq_true rfl) rfl dX10_markOfLamp_3 ⟨by decide, by decide, by decide⟩ rfl ?_
  refine xr_aload_n C dX10_markOfLamp_6 0 rfl rfl ?_
  refine xr_iload_n C dX10_markOfLamp_7 1 rfl rfl ?_
  obtain ⟨⟨r5, I4⟩, h3, hf⟩ := ob_x hf
  refine xr_callVI C [.int p1] lkX10_237 (kX10_numberBody H0 h3) Kd10 rfl H0.1 rfl (Nat.le_of_ble_eq_true rfl) rfl dX10_markOfLamp_8 ⟨by decide, by decide, by decide⟩ rfl ?_
  refine xr_istore_n C dX10_markOfLamp_11 rfl (by decide) rfl ?_
  refine xr_iload_n C dX10_markOfLamp_12 0 rfl rfl ?_
  refine xr_aload_n C dX10_markOfLamp_13 1 rfl rfl ?_
  refine xr_iload_n C dX10_markOfLamp_14 2 rfl rfl ?_
  obtain ⟨⟨r8, I7⟩, h6, hf⟩ := ob_x hf
  refine xr_callVI C [.int p1] lkX10_255 (kX10_sizeOfLamp H0 h6) Kd10 rfl H0.1 rfl (Nat.le_of_ble_eq_true rfl) rfl dX10_markOfLamp_15 ⟨by decide, by decide, by decide⟩ rfl ?_
  refine xr_isub C dX10_markOfLamp_18 ?_
  exact xr_ireturn C q rfl rfl dX10_markOfLamp_19 (so_1 hf) (so_w hf)
theorem kX10_markOfLamp {B : Bs} {h : Shp} (H0 : MAt h) {I0 : Mem} {p1 : Int32} {r1 : Int32} {o1 : Mem} (hf : fnX10_markOfLamp I0 p1 = some (r1, o1)) : CtrI B yX10_markOfLamp cX10_markOfLamp 3 (some Jvm.ClassFile.FieldType.int) 4 84 0 0 [rfB B 111, .int p1] (I0, h) r1 (o1, h) := by
  refine xr_enterI (lv0 := [(0, rfB B 111), (1, .int p1)]) (by decide) (Nat.le_of_ble_eq_true rfl) rfl (fun g hg C q => ?_)
  subst hg
  exact ebX10_markOfLamp_0 C H0 q hf
theorem dX10_ask_0 : decode cX10_ask 0 = .ok (.aload_n 0, 1) := by decide +kernel
theorem dX10_ask_1 : decode cX10_ask 1 = .ok (.iload_n 1, 1) := by decide +kernel
theorem dX10_ask_2 : decode cX10_ask 2 = .ok (.invokevirtual 194, 3) := by decide +kernel
theorem dX10_ask_5 : decode cX10_ask 5 = .ok (.ifCond .eq 13, 3) := by decide +kernel
theorem dX10_ask_8 : decode cX10_ask 8 = .ok (.iload_n 2, 1) := by decide +kernel
theorem dX10_ask_9 : decode cX10_ask 9 = .ok (.i2l, 1) := by decide +kernel
theorem dX10_ask_10 : decode cX10_ask 10 = .ok (.lconst 0, 1) := by decide +kernel
theorem dX10_ask_11 : decode cX10_ask 11 = .ok (.lconst 1, 1) := by decide +kernel
theorem dX10_ask_12 : decode cX10_ask 12 = .ok (.invokestatic 48, 3) := by decide +kernel
theorem dX10_ask_15 : decode cX10_ask 15 = .ok (.ifCond .ne 6, 3) := by decide +kernel
theorem dX10_ask_18 : decode cX10_ask 18 = .ok (.ldc 58, 2) := by decide +kernel
theorem dX10_ask_20 : decode cX10_ask 20 = .ok (.ireturn, 1) := by decide +kernel
theorem dX10_ask_21 : decode cX10_ask 21 = .ok (.aload_n 0, 1) := by decide +kernel
theorem dX10_ask_22 : decode cX10_ask 22 = .ok (.iconst 0, 1) := by decide +kernel
theorem dX10_ask_23 : decode cX10_ask 23 = .ok (.putfield 231, 3) := by decide +kernel
theorem dX10_ask_26 : decode cX10_ask 26 = .ok (.aload_n 0, 1) := by decide +kernel
theorem dX10_ask_27 : decode cX10_ask 27 = .ok (.getfield 7, 3) := by decide +kernel
theorem dX10_ask_30 : decode cX10_ask 30 = .ok (.iconst 3, 1) := by decide +kernel
theorem dX10_ask_31 : decode cX10_ask 31 = .ok (.iconst 4, 1) := by decide +kernel
theorem dX10_ask_32 : decode cX10_ask 32 = .ok (.iload_n 1, 1) := by decide +kernel
theorem dX10_ask_33 : decode cX10_ask 33 = .ok (.imul, 1) := by decide +kernel
theorem dX10_ask_34 : decode cX10_ask 34 = .ok (.iadd, 1) := by decide +kernel
theorem dX10_ask_35 : decode cX10_ask 35 = .ok (.iaload, 1) := by decide +kernel
theorem dX10_ask_36 : decode cX10_ask 36 = .ok (.iconst 1, 1) := by decide +kernel
theorem dX10_ask_37 : decode cX10_ask 37 = .ok (.invokestatic 228, 3) := by decide +kernel
theorem dX10_ask_40 : decode cX10_ask 40 = .ok (.istore_n 3, 1) := by decide +kernel
theorem dX10_ask_41 : decode cX10_ask 41 = .ok (.iload_n 2, 1) := by decide +kernel
theorem dX10_ask_42 : decode cX10_ask 42 = .ok (.ifCond .ne 23, 3) := by decide +kernel
theorem dX10_ask_45 : decode cX10_ask 45 = .ok (.iload_n 3, 1) := by decide +kernel
theorem dX10_ask_46 : decode cX10_ask 46 = .ok (.ifCond .eq 11, 3) := by decide +kernel
theorem dX10_ask_49 : decode cX10_ask 49 = .ok (.aload_n 0, 1) := by decide +kernel
theorem dX10_ask_50 : decode cX10_ask 50 = .ok (.iload_n 1, 1) := by decide +kernel
theorem dX10_ask_51 : decode cX10_ask 51 = .ok (.invokevirtual 258, 3) := by decide +kernel
theorem dX10_ask_54 : decode cX10_ask 54 = .ok (.goto 28, 3) := by decide +kernel
theorem dX10_ask_57 : decode cX10_ask 57 = .ok (.aload_n 0, 1) := by decide +kernel
theorem dX10_ask_58 : decode cX10_ask 58 = .ok (.iload_n 1, 1) := by decide +kernel
theorem dX10_ask_59 : decode cX10_ask 59 = .ok (.invokevirtual 255, 3) := by decide +kernel
theorem dX10_ask_62 : decode cX10_ask 62 = .ok (.goto 20, 3) := by decide +kernel
theorem dX10_ask_65 : decode cX10_ask 65 = .ok (.iload_n 3, 1) := by decide +kernel
theorem dX10_ask_66 : decode cX10_ask 66 = .ok (.ifCond .eq 11, 3) := by decide +kernel
theorem dX10_ask_69 : decode cX10_ask 69 = .ok (.aload_n 0, 1) := by decide +kernel
theorem dX10_ask_70 : decode cX10_ask 70 = .ok (.iload_n 1, 1) := by decide +kernel
theorem dX10_ask_71 : decode cX10_ask 71 = .ok (.invokevirtual 246, 3) := by decide +kernel
theorem dX10_ask_74 : decode cX10_ask 74 = .ok (.goto 8, 3) := by decide +kernel
theorem dX10_ask_77 : decode cX10_ask 77 = .ok (.aload_n 0, 1) := by decide +kernel
theorem dX10_ask_78 : decode cX10_ask 78 = .ok (.iload_n 1, 1) := by decide +kernel
theorem dX10_ask_79 : decode cX10_ask 79 = .ok (.invokevirtual 261, 3) := by decide +kernel
theorem dX10_ask_82 : decode cX10_ask 82 = .ok (.ireturn, 1) := by decide +kernel
theorem lkX10_258 : LkV "BumperBallsModel" 258 yX10_sizeOfBumper cX10_sizeOfBumper 2 (some Jvm.ClassFile.FieldType.int) 1 := ⟨wk_1153, wk_11, wk_1152, wk_s92, ⟨by decide +kernel, by decide +kernel, by decide +kernel⟩, wk_1150⟩
theorem lkX10_261 : LkV "BumperBallsModel" 261 yX10_markOfLamp cX10_markOfLamp 3 (some Jvm.ClassFile.FieldType.int) 1 := ⟨wk_1189, wk_11, wk_1188, wk_s101, ⟨by decide +kernel, by decide +kernel, by decide +kernel⟩, wk_1186⟩
/-! BumperBallsModel.ask(II)I -/
def fnX10_ask_82 (I0 : Mem) (t0 : Int32) : Option (Int32 × Mem) :=
  some (t0, I0)
set_option maxRecDepth 20000 in
set_option maxHeartbeats 2000000 in
theorem ebX10_ask_82 {g : Cfg} (C : Cx g RX10 cX10_ask 4 6 129 0 0) {h : Shp} (H0 : MAt h) {r1 : Int32} {o1 : Mem} (q : QI g (some Jvm.ClassFile.FieldType.int) 0 0 r1 (o1, h)) {I0 : Mem} {t0 : Int32} (hf : fnX10_ask_82 I0 t0 = some (r1, o1)) : XE g 0 0 (I0, h) 82 [] [.int t0] := by
  unfold fnX10_ask_82 at hf
  exact xr_ireturn C q rfl rfl dX10_ask_82 (so_1 hf) (so_w hf)
def fnX10_ask_18 (I0 : Mem) : Option (Int32 × Mem) :=
  some ((-1000001), I0)
set_option maxRecDepth 20000 in
set_option maxHeartbeats 2000000 in
theorem ebX10_ask_18 {g : Cfg} (C : Cx g RX10 cX10_ask 4 6 129 0 0) {h : Shp} (H0 : MAt h) {r1 : Int32} {o1 : Mem} (q : QI g (some Jvm.ClassFile.FieldType.int) 0 0 r1 (o1, h)) {I0 : Mem} (hf : fnX10_ask_18 I0 = some (r1, o1)) : XE g 0 0 (I0, h) 18 [] [] := by
  unfold fnX10_ask_18 at hf
  refine xr_ldc C wk_900 dX10_ask_18 ?_
  exact xr_ireturn C q rfl rfl dX10_ask_20 (so_1 hf) (so_w hf)
def fnX10_ask (I0 : Mem) (p1 : Int32) (p2 : Int32) : Option (Int32 × Mem) :=
  ob (fnX10_isPin I0 p1) fun ⟨r3, I2⟩ => if r3 = 0 then (fnX10_ask_18 I2) else (ob (fnX10_in I2 (p2.toInt64) 0 1) fun ⟨r7, I6⟩ => if r7 = 0 then (fnX10_ask_18 I6) else (bnd (up2 I6 111 11 0) fun I9 => ck (inb ((3 : Int32) + ((4 : Int32) * p1)) 164) <| ob (fnX10_isKind I9 (I9 112 (ix ((3 : Int32) + ((4 : Int32) * p1)))) 1) fun ⟨r13, I12⟩ => if p2 = 0 then (if r13 = 0 then (ob (fnX10_sizeOfLamp I12 p1) fun ⟨r25, I24⟩ => fnX10_ask_82 I24 r25) else (ob (fnX10_sizeOfBumper I12 p1) fun ⟨r28, I27⟩ => fnX10_ask_82 I27 r28)) else (if r13 = 0 then (ob (fnX10_markOfLamp I12 p1) fun ⟨r18, I17⟩ => fnX10_ask_82 I17 r18) else (ob (fnX10_markOfBumper I12 p1) fun ⟨r21, I20⟩ => fnX10_ask_82 I20 r21))))
set_option maxRecDepth 20000 in
set_option maxHeartbeats 2000000 in
theorem ebX10_ask_0 {g : Cfg} (C : Cx g RX10 cX10_ask 4 6 129 0 0) {h : Shp} (H0 : MAt h) {r1 : Int32} {o1 : Mem} (q : QI g (some Jvm.ClassFile.FieldType.int) 0 0 r1 (o1, h)) {I0 : Mem} {p1 : Int32} {p2 : Int32} (hf : fnX10_ask I0 p1 p2 = some (r1, o1)) : XE g 0 0 (I0, h) 0 [(0, rf g 111), (1, .int p1), (2, .int p2)] [] := by
  unfold fnX10_ask at hf
  refine xr_aload_n C dX10_ask_0 0 rfl rfl ?_
  refine xr_iload_n C dX10_ask_1 1 rfl rfl ?_
  obtain ⟨⟨r3, I2⟩, h1, hf⟩ := ob_x hf
  refine xr_callVI C [.int p1] lkX10_194 (kX10_isPin H0 h1) Kd10 rfl H0.1 rfl (Nat.le_of_ble_eq_true rfl) rfl dX10_ask_2 ⟨by decide, by decide, by decide⟩ rfl ?_
  refine xr_if_eq (tgt := 18) C dX10_ask_5 (by decide) hf (fun c4 hf => ?_) (fun c4 hf => ?_)
  · refine xr_lv [] rfl ?_
    exact ebX10_ask_18 C H0 q hf
  · refine xr_iload_n C dX10_ask_8 2 rfl rfl ?_
    refine xr_i2l C dX10_ask_9 ?_
    refine xr_lconst (v := 0) C dX10_ask_10 (by decide) ?_
    refine xr_lconst (v := 1) C dX10_ask_11 (by decide) ?_
    obtain ⟨⟨r7, I6⟩, h5, hf⟩ := ob_x hf
    refine xr_callSI C [.long (p2.toInt64), .long 0, .long 1] lkX10_48 (kX10_in h5) rfl (Nat.le_of_ble_eq_true rfl) rfl dX10_ask_12 ⟨by decide, by decide, by decide⟩ rfl ?_
    refine xr_if_ne (tgt := 21) C dX10_ask_15 (by decide) hf (fun c8 hf => ?_) (fun c8 hf => ?_)
    · refine xr_aload_n C dX10_ask_21 0 rfl rfl ?_
      refine xr_iconst (v := 0) C dX10_ask_22 (by decide) ?_
      obtain ⟨I9, eI9, hf⟩ := bnd_x hf
      refine xr_putI C Kd10 (k := 11) (by decide) rfl rfl wk_832 rfl rfl rfl H0.1 dX10_ask_23 eI9 ?_
      refine xr_aload_n C dX10_ask_26 0 rfl rfl ?_
      refine xr_getr C Kd10 (k := 0) (by decide) rfl wk_821 rfl H0.1 H0.2.1.1 dX10_ask_27 ?_
      refine xr_iconst (v := 3) C dX10_ask_30 (by decide) ?_
      refine xr_iconst (v := 4) C dX10_ask_31 (by decide) ?_
      refine xr_iload_n C dX10_ask_32 1 rfl rfl ?_
      refine xr_imul C dX10_ask_33 ?_
      refine xr_iadd C dX10_ask_34 ?_
      obtain ⟨i10, hf⟩ := ck_x hf
      refine xr_iald C H0.2.1.2 i10 dX10_ask_35 ?_
      refine xr_iconst (v := 1) C dX10_ask_36 (by decide) ?_
      obtain ⟨⟨r13, I12⟩, h11, hf⟩ := ob_x hf
      refine xr_callSI C [.int (I9 112 (ix ((3 : Int32) + ((4 : Int32) * p1)))), .int 1] lkX10_228 (kX10_isKind h11) rfl (Nat.le_of_ble_eq_true rfl) rfl dX10_ask_37 ⟨by decide, by decide, by decide⟩ rfl ?_
      refine xr_istore_n C dX10_ask_40 rfl (by decide) rfl ?_
      refine xr_iload_n C dX10_ask_41 3 rfl rfl ?_
      refine xr_if_ne (tgt := 65) C dX10_ask_42 (by decide) hf (fun c14 hf => ?_) (fun c14 hf => ?_)
      · refine xr_iload_n C dX10_ask_65 0 rfl rfl ?_
        refine xr_if_eq (tgt := 77) C dX10_ask_66 (by decide) hf (fun c15 hf => ?_) (fun c15 hf => ?_)
        · refine xr_aload_n C dX10_ask_77 1 rfl rfl ?_
          refine xr_iload_n C dX10_ask_78 2 rfl rfl ?_
          obtain ⟨⟨r18, I17⟩, h16, hf⟩ := ob_x hf
          refine xr_callVI C [.int p1] lkX10_261 (kX10_markOfLamp H0 h16) Kd10 rfl H0.1 rfl (Nat.le_of_ble_eq_true rfl) rfl dX10_ask_79 ⟨by decide, by decide, by decide⟩ rfl ?_
          refine xr_lv [] rfl ?_
          exact ebX10_ask_82 C H0 q hf
        · refine xr_aload_n C dX10_ask_69 1 rfl rfl ?_
          refine xr_iload_n C dX10_ask_70 2 rfl rfl ?_
          obtain ⟨⟨r21, I20⟩, h19, hf⟩ := ob_x hf
          refine xr_callVI C [.int p1] lkX10_246 (kX10_markOfBumper H0 h19) Kd10 rfl H0.1 rfl (Nat.le_of_ble_eq_true rfl) rfl dX10_ask_71 ⟨by decide, by decide, by decide⟩ rfl ?_
          refine xr_goto (tgt := 82) C dX10_ask_74 (by decide) ?_
          refine xr_lv [] rfl ?_
          exact ebX10_ask_82 C H0 q hf
      · refine xr_iload_n C dX10_ask_45 0 rfl rfl ?_
        refine xr_if_eq (tgt := 57) C dX10_ask_46 (by decide) hf (fun c22 hf => ?_) (fun c22 hf => ?_)
        · refine xr_aload_n C dX10_ask_57 1 rfl rfl ?_
          refine xr_iload_n C dX10_ask_58 2 rfl rfl ?_
          obtain ⟨⟨r25, I24⟩, h23, hf⟩ := ob_x hf
          refine xr_callVI C [.int p1] lkX10_255 (kX10_sizeOfLamp H0 h23) Kd10 rfl H0.1 rfl (Nat.le_of_ble_eq_true rfl) rfl dX10_ask_59 ⟨by decide, by decide, by decide⟩ rfl ?_
          refine xr_goto (tgt := 82) C dX10_ask_62 (by decide) ?_
          refine xr_lv [] rfl ?_
          exact ebX10_ask_82 C H0 q hf
        · refine xr_aload_n C dX10_ask_49 1 rfl rfl ?_
          refine xr_iload_n C dX10_ask_50 2 rfl rfl ?_
          obtain ⟨⟨r28, I27⟩, h26, hf⟩ := ob_x hf
          refine xr_callVI C [.int p1] lkX10_258 (kX10_sizeOfBumper H0 h26) Kd10 rfl H0.1 rfl (Nat.le_of_ble_eq_true rfl) rfl dX10_ask_51 ⟨by decide, by decide, by decide⟩ rfl ?_
          refine xr_goto (tgt := 82) C dX10_ask_54 (by decide) ?_
          refine xr_lv [] rfl ?_
          exact ebX10_ask_82 C H0 q hf
    · refine xr_lv [] rfl ?_
      exact ebX10_ask_18 C H0 q hf
theorem kX10_ask {B : Bs} {h : Shp} (H0 : MAt h) {I0 : Mem} {p1 : Int32} {p2 : Int32} {r1 : Int32} {o1 : Mem} (hf : fnX10_ask I0 p1 p2 = some (r1, o1)) : CtrI B yX10_ask cX10_ask 4 (some Jvm.ClassFile.FieldType.int) 6 129 0 0 [rfB B 111, .int p1, .int p2] (I0, h) r1 (o1, h) := by
  refine xr_enterI (lv0 := [(0, rfB B 111), (1, .int p1), (2, .int p2)]) (by decide) (Nat.le_of_ble_eq_true rfl) rfl (fun g hg C q => ?_)
  subst hg
  exact ebX10_ask_0 C H0 q hf
theorem dX10_trace_0 : decode cX10_trace 0 = .ok (.iload_n 1, 1) := by decide +kernel
theorem dX10_trace_1 : decode cX10_trace 1 = .ok (.i2l, 1) := by decide +kernel
theorem dX10_trace_2 : decode cX10_trace 2 = .ok (.lconst 0, 1) := by decide +kernel
theorem dX10_trace_3 : decode cX10_trace 3 = .ok (.aload_n 0, 1) := by decide +kernel
theorem dX10_trace_4 : decode cX10_trace 4 = .ok (.getfield 231, 3) := by decide +kernel
theorem dX10_trace_7 : decode cX10_trace 7 = .ok (.iconst 1, 1) := by decide +kernel
theorem dX10_trace_8 : decode cX10_trace 8 = .ok (.isub, 1) := by decide +kernel
theorem dX10_trace_9 : decode cX10_trace 9 = .ok (.i2l, 1) := by decide +kernel
theorem dX10_trace_10 : decode cX10_trace 10 = .ok (.invokestatic 48, 3) := by decide +kernel
theorem dX10_trace_13 : decode cX10_trace 13 = .ok (.ifCond .eq 12, 3) := by decide +kernel
theorem dX10_trace_16 : decode cX10_trace 16 = .ok (.aload_n 0, 1) := by decide +kernel
theorem dX10_trace_17 : decode cX10_trace 17 = .ok (.getfield 29, 3) := by decide +kernel
theorem dX10_trace_20 : decode cX10_trace 20 = .ok (.iload_n 1, 1) := by decide +kernel
theorem dX10_trace_21 : decode cX10_trace 21 = .ok (.iaload, 1) := by decide +kernel
theorem dX10_trace_22 : decode cX10_trace 22 = .ok (.goto 5, 3) := by decide +kernel
theorem dX10_trace_25 : decode cX10_trace 25 = .ok (.ldc 19, 2) := by decide +kernel
theorem dX10_trace_27 : decode cX10_trace 27 = .ok (.ireturn, 1) := by decide +kernel
/-! BumperBallsModel.trace(I)I -/
def fnX10_trace_27 (I0 : Mem) (t0 : Int32) : Option (Int32 × Mem) :=
  some (t0, I0)
set_option maxRecDepth 20000 in
set_option maxHeartbeats 2000000 in
theorem ebX10_trace_27 {g : Cfg} (C : Cx g RX10 cX10_trace 2 1 25 0 0) {h : Shp} (H0 : MAt h) {r1 : Int32} {o1 : Mem} (q : QI g (some Jvm.ClassFile.FieldType.int) 0 0 r1 (o1, h)) {I0 : Mem} {t0 : Int32} (hf : fnX10_trace_27 I0 t0 = some (r1, o1)) : XE g 0 0 (I0, h) 27 [] [.int t0] := by
  unfold fnX10_trace_27 at hf
  exact xr_ireturn C q rfl rfl dX10_trace_27 (so_1 hf) (so_w hf)
def fnX10_trace (I0 : Mem) (p1 : Int32) : Option (Int32 × Mem) :=
  ob (fnX10_in I0 (p1.toInt64) 0 (((I0 111 11) - 1).toInt64)) fun ⟨r3, I2⟩ => if r3 = 0 then (fnX10_trace_27 I2 (-1000000)) else (ck (inb p1 16) <| fnX10_trace_27 I2 (I2 118 (ix p1)))
set_option maxRecDepth 20000 in
set_option maxHeartbeats 2000000 in
theorem ebX10_trace_0 {g : Cfg} (C : Cx g RX10 cX10_trace 2 1 25 0 0) {h : Shp} (H0 : MAt h) {r1 : Int32} {o1 : Mem} (q : QI g (some Jvm.ClassFile.FieldType.int) 0 0 r1 (o1, h)) {I0 : Mem} {p1 : Int32} (hf : fnX10_trace I0 p1 = some (r1, o1)) : XE g 0 0 (I0, h) 0 [(0, rf g 111), (1, .int p1)] [] := by
  unfold fnX10_trace at hf
  refine xr_iload_n C dX10_trace_0 1 rfl rfl ?_
  refine xr_i2l C dX10_trace_1 ?_
  refine xr_lconst (v := 0) C dX10_trace_2 (by decide) ?_
  refine xr_aload_n C dX10_trace_3 0 rfl rfl ?_
  refine xr_geti C Kd10 (k := 11) (by decide) rfl wk_832 rfl H0.1 dX10_trace_4 ?_
  refine xr_iconst (v := 1) C dX10_trace_7 (by decide) ?_
  refine xr_isub C dX10_trace_8 ?_
  refine xr_i2l C dX10_trace_9 ?_
  obtain ⟨⟨r3, I2⟩, h1, hf⟩ := ob_x hf
  refine xr_callSI C [.long (p1.toInt64), .long 0, .long (((I0 111 11) - 1).toInt64)] lkX10_48 (kX10_in h1) rfl (Nat.le_of_ble_eq_true rfl) rfl dX10_trace_10 ⟨by decide, by decide, by decide⟩ rfl ?_
  refine xr_if_eq (tgt := 25) C dX10_trace_13 (by decide) hf (fun c4 hf => ?_) (fun c4 hf => ?_)
  · refine xr_ldc C wk_820 dX10_trace_25 ?_
    refine xr_lv [] rfl ?_
    exact ebX10_trace_27 C H0 q hf
  · refine xr_aload_n C dX10_trace_16 0 rfl rfl ?_
    refine xr_getr C Kd10 (k := 10) (by decide) rfl wk_831 rfl H0.1 H0.2.2.2.2.2.2.2.1.1 dX10_trace_17 ?_
    refine xr_iload_n C dX10_trace_20 1 rfl rfl ?_
    obtain ⟨i5, hf⟩ := ck_x hf
    refine xr_iald C H0.2.2.2.2.2.2.2.1.2 i5 dX10_trace_21 ?_
    refine xr_goto (tgt := 27) C dX10_trace_22 (by decide) ?_
    refine xr_lv [] rfl ?_
    exact ebX10_trace_27 C H0 q hf
theorem kX10_trace {B : Bs} {h : Shp} (H0 : MAt h) {I0 : Mem} {p1 : Int32} {r1 : Int32} {o1 : Mem} (hf : fnX10_trace I0 p1 = some (r1, o1)) : CtrI B yX10_trace cX10_trace 2 (some Jvm.ClassFile.FieldType.int) 1 25 0 0 [rfB B 111, .int p1] (I0, h) r1 (o1, h) := by
  refine xr_enterI (lv0 := [(0, rfB B 111), (1, .int p1)]) (by decide) (Nat.le_of_ble_eq_true rfl) rfl (fun g hg C q => ?_)
  subst hg
  exact ebX10_trace_0 C H0 q hf
theorem dX10_count_0 : decode cX10_count 0 = .ok (.iconst 0, 1) := by decide +kernel
theorem dX10_count_1 : decode cX10_count 1 = .ok (.istore_n 2, 1) := by decide +kernel
theorem dX10_count_2 : decode cX10_count 2 = .ok (.iconst 0, 1) := by decide +kernel
theorem dX10_count_3 : decode cX10_count 3 = .ok (.istore_n 3, 1) := by decide +kernel
theorem dX10_count_4 : decode cX10_count 4 = .ok (.iload_n 3, 1) := by decide +kernel
theorem dX10_count_5 : decode cX10_count 5 = .ok (.bipush 8, 2) := by decide +kernel
theorem dX10_count_7 : decode cX10_count 7 = .ok (.if_icmp .ge 28, 3) := by decide +kernel
theorem dX10_count_10 : decode cX10_count 10 = .ok (.iload_n 2, 1) := by decide +kernel
theorem dX10_count_11 : decode cX10_count 11 = .ok (.aload_n 0, 1) := by decide +kernel
theorem dX10_count_12 : decode cX10_count 12 = .ok (.getfield 20, 3) := by decide +kernel
theorem dX10_count_15 : decode cX10_count 15 = .ok (.iload_n 3, 1) := by decide +kernel
theorem dX10_count_16 : decode cX10_count 16 = .ok (.iaload, 1) := by decide +kernel
theorem dX10_count_17 : decode cX10_count 17 = .ok (.ldc 19, 2) := by decide +kernel
theorem dX10_count_19 : decode cX10_count 19 = .ok (.if_icmp .ne 7, 3) := by decide +kernel
theorem dX10_count_22 : decode cX10_count 22 = .ok (.iconst 0, 1) := by decide +kernel
theorem dX10_count_23 : decode cX10_count 23 = .ok (.goto 4, 3) := by decide +kernel
theorem dX10_count_26 : decode cX10_count 26 = .ok (.iconst 1, 1) := by decide +kernel
theorem dX10_count_27 : decode cX10_count 27 = .ok (.iadd, 1) := by decide +kernel
theorem dX10_count_28 : decode cX10_count 28 = .ok (.istore_n 2, 1) := by decide +kernel
theorem dX10_count_29 : decode cX10_count 29 = .ok (.iinc 3 1, 3) := by decide +kernel
theorem dX10_count_32 : decode cX10_count 32 = .ok (.goto (-28), 3) := by decide +kernel
theorem dX10_count_35 : decode cX10_count 35 = .ok (.iload_n 1, 1) := by decide +kernel
theorem dX10_count_36 : decode cX10_count 36 = .ok (.tableswitch 74 0 5 #[40, 42, 49, 57, 62, 69], 40) := by decide +kernel
theorem dX10_count_76 : decode cX10_count 76 = .ok (.iload_n 2, 1) := by decide +kernel
theorem dX10_count_77 : decode cX10_count 77 = .ok (.ireturn, 1) := by decide +kernel
theorem dX10_count_78 : decode cX10_count 78 = .ok (.aload_n 0, 1) := by decide +kernel
theorem dX10_count_79 : decode cX10_count 79 = .ok (.getfield 7, 3) := by decide +kernel
theorem dX10_count_82 : decode cX10_count 82 = .ok (.iconst 2, 1) := by decide +kernel
theorem dX10_count_83 : decode cX10_count 83 = .ok (.iaload, 1) := by decide +kernel
theorem dX10_count_84 : decode cX10_count 84 = .ok (.ireturn, 1) := by decide +kernel
theorem dX10_count_85 : decode cX10_count 85 = .ok (.aload_n 0, 1) := by decide +kernel
theorem dX10_count_86 : decode cX10_count 86 = .ok (.getfield 7, 3) := by decide +kernel
theorem dX10_count_89 : decode cX10_count 89 = .ok (.bipush 33, 2) := by decide +kernel
theorem dX10_count_91 : decode cX10_count 91 = .ok (.iaload, 1) := by decide +kernel
theorem dX10_count_92 : decode cX10_count 92 = .ok (.ireturn, 1) := by decide +kernel
theorem dX10_count_93 : decode cX10_count 93 = .ok (.aload_n 0, 1) := by decide +kernel
theorem dX10_count_94 : decode cX10_count 94 = .ok (.getfield 158, 3) := by decide +kernel
theorem dX10_count_97 : decode cX10_count 97 = .ok (.ireturn, 1) := by decide +kernel
theorem dX10_count_98 : decode cX10_count 98 = .ok (.aload_n 0, 1) := by decide +kernel
theorem dX10_count_99 : decode cX10_count 99 = .ok (.getfield 7, 3) := by decide +kernel
theorem dX10_count_102 : decode cX10_count 102 = .ok (.iconst 1, 1) := by decide +kernel
theorem dX10_count_103 : decode cX10_count 103 = .ok (.iaload, 1) := by decide +kernel
theorem dX10_count_104 : decode cX10_count 104 = .ok (.ireturn, 1) := by decide +kernel
theorem dX10_count_105 : decode cX10_count 105 = .ok (.aload_n 0, 1) := by decide +kernel
theorem dX10_count_106 : decode cX10_count 106 = .ok (.getfield 72, 3) := by decide +kernel
theorem dX10_count_109 : decode cX10_count 109 = .ok (.ireturn, 1) := by decide +kernel
theorem dX10_count_110 : decode cX10_count 110 = .ok (.ldc 58, 2) := by decide +kernel
theorem dX10_count_112 : decode cX10_count 112 = .ok (.ireturn, 1) := by decide +kernel
/-! BumperBallsModel.count(I)I -/
def fnX10_count_27 (rec4 : Mem → Int32 → Int32 → Int32 → Option (Int32 × Mem)) (I0 : Mem) (l1 : Int32) (l3 : Int32) (t0 : Int32) (t1 : Int32) : Option (Int32 × Mem) :=
  bnd (t0 + t1) fun v1 => bnd (l3 + 1) fun v2 => rec4 I0 l1 v1 v2
set_option maxRecDepth 20000 in
set_option maxHeartbeats 2000000 in
theorem ebX10_count_27 {g : Cfg} (C : Cx g RX10 cX10_count 4 0 0 0 0) {h : Shp} (H0 : MAt h) {r1 : Int32} {o1 : Mem} {rec4 : Mem → Int32 → Int32 → Int32 → Option (Int32 × Mem)} (ih4 : ∀ (I0 : Mem) (l1 : Int32) (l2 : Int32) (l3 : Int32), rec4 I0 l1 l2 l3 = some (r1, o1) → XE g 0 0 (I0, h) 4 [(0, rf g 111), (1, .int l1), (2, .int l2), (3, .int l3)] []) (q : QI g (some Jvm.ClassFile.FieldType.int) 0 0 r1 (o1, h)) {I0 : Mem} {l1 : Int32} {l3 : Int32} {t0 : Int32} {t1 : Int32} (hf : fnX10_count_27 rec4 I0 l1 l3 t0 t1 = some (r1, o1)) : XE g 0 0 (I0, h) 27 [(0, rf g 111), (1, .int l1), (3, .int l3)] [.int t1, .int t0] := by
  unfold fnX10_count_27 at hf
  refine xr_iadd C dX10_count_27 ?_
  obtain ⟨v1, ev1, hf⟩ := bnd_x hf
  refine xr_nm ev1 ?_
  refine xr_istore_n C dX10_count_28 rfl (by decide) rfl ?_
  obtain ⟨v2, ev2, hf⟩ := bnd_x hf
  refine xr_iinc (k := 3) (v := v2) C dX10_count_29 rfl (by rw [ev2]; rfl) (by decide) rfl ?_
  refine xr_goto (tgt := 4) C dX10_count_32 (by decide) ?_
  refine xr_lv [2, 3, 1, 0] rfl ?_
  exact ih4 _ _ _ _ hf
def fnX10_count_4b (rec4 : Mem → Int32 → Int32 → Int32 → Option (Int32 × Mem)) (I0 : Mem) (l1 : Int32) (l2 : Int32) (l3 : Int32) : Option (Int32 × Mem) :=
  if 8 ≤ l3 then (if l1 = 0 then (some (l2, I0)) else if l1 = 1 then (ck (inb 2 164) <| some ((I0 112 (ix 2)), I0)) else if l1 = 2 then (ck (inb 33 164) <| some ((I0 112 (ix 33)), I0)) else if l1 = 3 then (some ((I0 111 2), I0)) else if l1 = 4 then (ck (inb 1 164) <| some ((I0 112 (ix 1)), I0)) else if l1 = 5 then (some ((I0 111 4), I0)) else (some ((-1000001), I0))) else (ck (inb l3 8) <| if (I0 115 (ix l3)) = (-1000000) then (fnX10_count_27 rec4 I0 l1 l3 l2 0) else (fnX10_count_27 rec4 I0 l1 l3 l2 1))
def fnX10_count_4 : Nat → Mem → Int32 → Int32 → Int32 → Option (Int32 × Mem)
  | 0 => fun _ _ _ _ => none
  | fu + 1 => fnX10_count_4b (fnX10_count_4 fu)
set_option maxRecDepth 20000 in
set_option maxHeartbeats 2000000 in
theorem ebX10_count_4b {g : Cfg} (C : Cx g RX10 cX10_count 4 0 0 0 0) {h : Shp} (H0 : MAt h) {r1 : Int32} {o1 : Mem} {rec4 : Mem → Int32 → Int32 → Int32 → Option (Int32 × Mem)} (q : QI g (some Jvm.ClassFile.FieldType.int) 0 0 r1 (o1, h)) (ih4 : ∀ (I0 : Mem) (l1 : Int32) (l2 : Int32) (l3 : Int32), rec4 I0 l1 l2 l3 = some (r1, o1) → XE g 0 0 (I0, h) 4 [(0, rf g 111), (1, .int l1), (2, .int l2), (3, .int l3)] []) {I0 : Mem} {l1 : Int32} {l2 : Int32} {l3 : Int32} (hf : fnX10_count_4b rec4 I0 l1 l2 l3 = some (r1, o1)) : XE g 0 0 (I0, h) 4 [(0, rf g 111), (1, .int l1), (2, .int l2), (3, .int l3)] [] := by
  unfold fnX10_count_4b at hf
  refine xr_iload_n C dX10_count_4 3 rfl rfl ?_
  refine xr_bipush (v := 8) C dX10_count_5 (by decide) ?_
  refine xr_icmp_ge (tgt := 35) C dX10_count_7 (by decide) hf (fun c1 hf => ?_) (fun c1 hf => ?_)
  · refine xr_iload_n C dX10_count_35 1 rfl rfl ?_
    rcases if_or hf with ⟨c2, hf⟩ | ⟨c2_0, hf⟩
    · refine xr_swIn (v := 0) (tgt := 76) C dX10_count_36 c2 (by decide) (by decide) rfl (by decide) ?_
      refine xr_iload_n C dX10_count_76 2 rfl rfl ?_
      exact xr_ireturn C q rfl rfl dX10_count_77 (so_1 hf) (so_w hf)
    rcases if_or hf with ⟨c2, hf⟩ | ⟨c2_1, hf⟩
    · refine xr_swIn (v := 1) (tgt := 78) C dX10_count_36 c2 (by decide) (by decide) rfl (by decide) ?_
      refine xr_aload_n C dX10_count_78 0 rfl rfl ?_
      refine xr_getr C Kd10 (k := 0) (by decide) rfl wk_821 rfl H0.1 H0.2.1.1 dX10_count_79 ?_
      refine xr_iconst (v := 2) C dX10_count_82 (by decide) ?_
      obtain ⟨i3, hf⟩ := ck_x hf
      refine xr_iald C H0.2.1.2 i3 dX10_count_83 ?_
      exact xr_ireturn C q rfl rfl dX10_count_84 (so_1 hf) (so_w hf)
    rcases if_or hf with ⟨c2, hf⟩ | ⟨c2_2, hf⟩
    · refine xr_swIn (v := 2) (tgt := 85) C dX10_count_36 c2 (by decide) (by decide) rfl (by decide) ?_
      refine xr_aload_n C dX10_count_85 0 rfl rfl ?_
      refine xr_getr C Kd10 (k := 0) (by decide) rfl wk_821 rfl H0.1 H0.2.1.1 dX10_count_86 ?_
      refine xr_bipush (v := 33) C dX10_count_89 (by decide) ?_
      obtain ⟨i4, hf⟩ := ck_x hf
      refine xr_iald C H0.2.1.2 i4 dX10_count_91 ?_
      exact xr_ireturn C q rfl rfl dX10_count_92 (so_1 hf) (so_w hf)
    rcases if_or hf with ⟨c2, hf⟩ | ⟨c2_3, hf⟩
    · refine xr_swIn (v := 3) (tgt := 93) C dX10_count_36 c2 (by decide) (by decide) rfl (by decide) ?_
      refine xr_aload_n C dX10_count_93 0 rfl rfl ?_
      refine xr_geti C Kd10 (k := 2) (by decide) rfl wk_823 rfl H0.1 dX10_count_94 ?_
      exact xr_ireturn C q rfl rfl dX10_count_97 (so_1 hf) (so_w hf)
    rcases if_or hf with ⟨c2, hf⟩ | ⟨c2_4, hf⟩
    · refine xr_swIn (v := 4) (tgt := 98) C dX10_count_36 c2 (by decide) (by decide) rfl (by decide) ?_
      refine xr_aload_n C dX10_count_98 0 rfl rfl ?_
      refine xr_getr C Kd10 (k := 0) (by decide) rfl wk_821 rfl H0.1 H0.2.1.1 dX10_count_99 ?_
      refine xr_iconst (v := 1) C dX10_count_102 (by decide) ?_
      obtain ⟨i5, hf⟩ := ck_x hf
      refine xr_iald C H0.2.1.2 i5 dX10_count_103 ?_
      exact xr_ireturn C q rfl rfl dX10_count_104 (so_1 hf) (so_w hf)
    rcases if_or hf with ⟨c2, hf⟩ | ⟨c2_5, hf⟩
    · refine xr_swIn (v := 5) (tgt := 105) C dX10_count_36 c2 (by decide) (by decide) rfl (by decide) ?_
      refine xr_aload_n C dX10_count_105 0 rfl rfl ?_
      refine xr_geti C Kd10 (k := 4) (by decide) rfl wk_825 rfl H0.1 dX10_count_106 ?_
      exact xr_ireturn C q rfl rfl dX10_count_109 (so_1 hf) (so_w hf)
    refine xr_swOut (tgt := 110) C dX10_count_36 (sw_out6 c2_0 c2_1 c2_2 c2_3 c2_4 c2_5) (by decide) ?_
    refine xr_ldc C wk_900 dX10_count_110 ?_
    exact xr_ireturn C q rfl rfl dX10_count_112 (so_1 hf) (so_w hf)
  · refine xr_iload_n C dX10_count_10 2 rfl rfl ?_
    refine xr_aload_n C dX10_count_11 0 rfl rfl ?_
    refine xr_getr C Kd10 (k := 7) (by decide) rfl wk_828 rfl H0.1 H0.2.2.2.2.1.1 dX10_count_12 ?_
    refine xr_iload_n C dX10_count_15 3 rfl rfl ?_
    obtain ⟨i6, hf⟩ := ck_x hf
    refine xr_iald C H0.2.2.2.2.1.2 i6 dX10_count_16 ?_
    refine xr_ldc C wk_820 dX10_count_17 ?_
    refine xr_icmp_ne (tgt := 26) C dX10_count_19 (by decide) hf (fun c7 hf => ?_) (fun c7 hf => ?_)
    · refine xr_iconst (v := 1) C dX10_count_26 (by decide) ?_
      refine xr_lv [0, 1, 3] rfl ?_
      exact ebX10_count_27 C H0 ih4 q hf
    · refine xr_iconst (v := 0) C dX10_count_22 (by decide) ?_
      refine xr_goto (tgt := 27) C dX10_count_23 (by decide) ?_
      refine xr_lv [0, 1, 3] rfl ?_
      exact ebX10_count_27 C H0 ih4 q hf
theorem ebX10_count_4 {g : Cfg} (C : Cx g RX10 cX10_count 4 0 0 0 0) {h : Shp} (H0 : MAt h) {r1 : Int32} {o1 : Mem} (q : QI g (some Jvm.ClassFile.FieldType.int) 0 0 r1 (o1, h)) : ∀ (fu : Nat) {I0 : Mem} {l1 : Int32} {l2 : Int32} {l3 : Int32} (hf : fnX10_count_4 fu I0 l1 l2 l3 = some (r1, o1)), XE g 0 0 (I0, h) 4 [(0, rf g 111), (1, .int l1), (2, .int l2), (3, .int l3)] [] := by
  intro fu
  induction fu with
  | zero =>
    intro I0 l1 l2 l3 hf
    cases hf
  | succ fu ihn =>
    intro I0 l1 l2 l3 hf
    exact ebX10_count_4b C H0 q (fun _ _ _ _ hf => ihn hf) hf
def fnX10_count (I0 : Mem) (p1 : Int32) : Option (Int32 × Mem) :=
  fnX10_count_4 FU I0 p1 0 0
set_option maxRecDepth 20000 in
set_option maxHeartbeats 2000000 in
theorem ebX10_count_0 {g : Cfg} (C : Cx g RX10 cX10_count 4 0 0 0 0) {h : Shp} (H0 : MAt h) {r1 : Int32} {o1 : Mem} (q : QI g (some Jvm.ClassFile.FieldType.int) 0 0 r1 (o1, h)) {I0 : Mem} {p1 : Int32} (hf : fnX10_count I0 p1 = some (r1, o1)) : XE g 0 0 (I0, h) 0 [(0, rf g 111), (1, .int p1)] [] := by
  unfold fnX10_count at hf
  refine xr_iconst (v := 0) C dX10_count_0 (by decide) ?_
  refine xr_istore_n C dX10_count_1 rfl (by decide) rfl ?_
  refine xr_iconst (v := 0) C dX10_count_2 (by decide) ?_
  refine xr_istore_n C dX10_count_3 rfl (by decide) rfl ?_
  refine xr_lv [2, 3, 1, 0] rfl ?_
  exact ebX10_count_4 C H0 q _ hf
theorem kX10_count {B : Bs} {h : Shp} (H0 : MAt h) {I0 : Mem} {p1 : Int32} {r1 : Int32} {o1 : Mem} (hf : fnX10_count I0 p1 = some (r1, o1)) : CtrI B yX10_count cX10_count 4 (some Jvm.ClassFile.FieldType.int) 0 0 0 0 [rfB B 111, .int p1] (I0, h) r1 (o1, h) := by
  refine xr_enterI (lv0 := [(0, rfB B 111), (1, .int p1)]) (by decide) (Nat.le_of_ble_eq_true rfl) rfl (fun g hg C q => ?_)
  subst hg
  exact ebX10_count_0 C H0 q hf
theorem dX10_status_0 : decode cX10_status 0 = .ok (.aload_n 0, 1) := by decide +kernel
theorem dX10_status_1 : decode cX10_status 1 = .ok (.getfield 41, 3) := by decide +kernel
theorem dX10_status_4 : decode cX10_status 4 = .ok (.ireturn, 1) := by decide +kernel
/-! BumperBallsModel.status()I -/
def fnX10_status (I0 : Mem) : Option (Int32 × Mem) :=
  some ((I0 111 6), I0)
set_option maxRecDepth 20000 in
set_option maxHeartbeats 2000000 in
theorem ebX10_status_0 {g : Cfg} (C : Cx g RX10 cX10_status 1 0 0 0 0) {h : Shp} (H0 : MAt h) {r1 : Int32} {o1 : Mem} (q : QI g (some Jvm.ClassFile.FieldType.int) 0 0 r1 (o1, h)) {I0 : Mem} (hf : fnX10_status I0 = some (r1, o1)) : XE g 0 0 (I0, h) 0 [(0, rf g 111)] [] := by
  unfold fnX10_status at hf
  refine xr_aload_n C dX10_status_0 0 rfl rfl ?_
  refine xr_geti C Kd10 (k := 6) (by decide) rfl wk_827 rfl H0.1 dX10_status_1 ?_
  exact xr_ireturn C q rfl rfl dX10_status_4 (so_1 hf) (so_w hf)
theorem kX10_status {B : Bs} {h : Shp} (H0 : MAt h) {I0 : Mem} {r1 : Int32} {o1 : Mem} (hf : fnX10_status I0 = some (r1, o1)) : CtrI B yX10_status cX10_status 1 (some Jvm.ClassFile.FieldType.int) 0 0 0 0 [rfB B 111] (I0, h) r1 (o1, h) := by
  refine xr_enterI (lv0 := [(0, rfB B 111)]) (by decide) (Nat.le_of_ble_eq_true rfl) rfl (fun g hg C q => ?_)
  subst hg
  exact ebX10_status_0 C H0 q hf
