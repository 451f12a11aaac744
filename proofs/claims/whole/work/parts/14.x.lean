theorem dX9_row_0 : decode cX9_row 0 = .ok (.iload_n 1, 1) := by decide +kernel
theorem dX9_row_1 : decode cX9_row 1 = .ok (.invokestatic 79, 3) := by decide +kernel
theorem dX9_row_4 : decode cX9_row 4 = .ok (.ifCond .eq 17, 3) := by decide +kernel
theorem dX9_row_7 : decode cX9_row 7 = .ok (.iload_n 2, 1) := by decide +kernel
theorem dX9_row_8 : decode cX9_row 8 = .ok (.iconst 2, 1) := by decide +kernel
theorem dX9_row_9 : decode cX9_row 9 = .ok (.invokestatic 83, 3) := by decide +kernel
theorem dX9_row_12 : decode cX9_row 12 = .ok (.ifCond .eq 9, 3) := by decide +kernel
theorem dX9_row_15 : decode cX9_row 15 = .ok (.iload_n 3, 1) := by decide +kernel
theorem dX9_row_16 : decode cX9_row 16 = .ok (.bipush 40, 2) := by decide +kernel
theorem dX9_row_18 : decode cX9_row 18 = .ok (.if_icmp .le 6, 3) := by decide +kernel
theorem dX9_row_21 : decode cX9_row 21 = .ok (.ldc 87, 2) := by decide +kernel
theorem dX9_row_23 : decode cX9_row 23 = .ok (.ireturn, 1) := by decide +kernel
theorem dX9_row_24 : decode cX9_row 24 = .ok (.iload_n 3, 1) := by decide +kernel
theorem dX9_row_25 : decode cX9_row 25 = .ok (.ifCond .ge 9, 3) := by decide +kernel
theorem dX9_row_28 : decode cX9_row 28 = .ok (.aload_n 0, 1) := by decide +kernel
theorem dX9_row_29 : decode cX9_row 29 = .ok (.iconst 4, 1) := by decide +kernel
theorem dX9_row_30 : decode cX9_row 30 = .ok (.invokevirtual 88, 3) := by decide +kernel
theorem dX9_row_33 : decode cX9_row 33 = .ok (.ireturn, 1) := by decide +kernel
theorem dX9_row_34 : decode cX9_row 34 = .ok (.aload_n 0, 1) := by decide +kernel
theorem dX9_row_35 : decode cX9_row 35 = .ok (.getfield 10, 3) := by decide +kernel
theorem dX9_row_38 : decode cX9_row 38 = .ok (.iload_n 1, 1) := by decide +kernel
theorem dX9_row_39 : decode cX9_row 39 = .ok (.iload_n 2, 1) := by decide +kernel
theorem dX9_row_40 : decode cX9_row 40 = .ok (.iload_n 3, 1) := by decide +kernel
theorem dX9_row_41 : decode cX9_row 41 = .ok (.invokevirtual 92, 3) := by decide +kernel
theorem dX9_row_44 : decode cX9_row 44 = .ok (.aload_n 0, 1) := by decide +kernel
theorem dX9_row_45 : decode cX9_row 45 = .ok (.iload_n 3, 1) := by decide +kernel
theorem dX9_row_46 : decode cX9_row 46 = .ok (.invokevirtual 96, 3) := by decide +kernel
theorem dX9_row_49 : decode cX9_row 49 = .ok (.ireturn, 1) := by decide +kernel
theorem lkX9_79 : LkS "BumperBalls" 79 yX9_isRow cX9_isRow 1 (some Jvm.ClassFile.FieldType.boolean) 1 := ⟨wk_348, wk_1, wk_347, ⟨by decide +kernel, by decide +kernel, by decide +kernel⟩, wk_346⟩
theorem lkX9_88 : LkV "BumperBalls" 88 yX9_found cX9_found 2 (some Jvm.ClassFile.FieldType.int) 1 := ⟨wk_356, wk_1, wk_355, wk_s1, ⟨by decide +kernel, by decide +kernel, by decide +kernel⟩, wk_353⟩
theorem lkX9_92 : LkN "BumperBalls" 92 yX5_make cX5_make 5 none 3 := ⟨wk_361, wk_2, wk_360, wk_s2, ⟨by decide +kernel, by decide +kernel, by decide +kernel⟩, (List.mem_of_getElem? (i := 83) (by decide +kernel))⟩
theorem lkX9_96 : LkV "BumperBalls" 96 yX9_plain cX9_plain 2 (some Jvm.ClassFile.FieldType.int) 1 := ⟨wk_365, wk_1, wk_364, wk_s3, ⟨by decide +kernel, by decide +kernel, by decide +kernel⟩, wk_362⟩
/-! BumperBalls.row(III)I -/
def fnX9_row_21 (I0 : Mem) : Option (Int32 × Mem) :=
  some ((-1000001), I0)
set_option maxRecDepth 20000 in
set_option maxHeartbeats 2000000 in
theorem ebX9_row_21 {g : Cfg} (C : Cx g RX9 cX9_row 4 2 41 0 0) {h : Shp} (H0 : XAt h) {r1 : Int32} {o1 : Mem} (q : QI g (some Jvm.ClassFile.FieldType.int) 0 0 r1 (o1, h)) {I0 : Mem} (hf : fnX9_row_21 I0 = some (r1, o1)) : XE g 0 0 (I0, h) 21 [] [] := by
  unfold fnX9_row_21 at hf
  refine xr_ldc C wk_352 dX9_row_21 ?_
  exact xr_ireturn C q rfl rfl dX9_row_23 (so_1 hf) (so_w hf)
def fnX9_row (I0 : Mem) (p1 : Int32) (p2 : Int32) (p3 : Int32) : Option (Int32 × Mem) :=
  ob (fnX9_isRow I0 p1) fun ⟨r3, I2⟩ => if r3 = 0 then (fnX9_row_21 I2) else (ob (fnX9_isUpTo I2 p2 2) fun ⟨r7, I6⟩ => if r7 = 0 then (fnX9_row_21 I6) else (if p3 ≤ 40 then (if 0 ≤ p3 then (ob (fnX5_make I6 p1 p2 p3) fun I12 => ob (fnX9_plain I12 p3) fun ⟨r15, I14⟩ => some (r15, I14)) else (ob (fnX9_found I6 4) fun ⟨r18, I17⟩ => some (r18, I17))) else (fnX9_row_21 I6)))
set_option maxRecDepth 20000 in
set_option maxHeartbeats 2000000 in
theorem ebX9_row_0 {g : Cfg} (C : Cx g RX9 cX9_row 4 2 41 0 0) {h : Shp} (H0 : XAt h) {r1 : Int32} {o1 : Mem} (q : QI g (some Jvm.ClassFile.FieldType.int) 0 0 r1 (o1, h)) {I0 : Mem} {p1 : Int32} {p2 : Int32} {p3 : Int32} (hf : fnX9_row I0 p1 p2 p3 = some (r1, o1)) : XE g 0 0 (I0, h) 0 [(0, rf g 0), (1, .int p1), (2, .int p2), (3, .int p3)] [] := by
  unfold fnX9_row at hf
  refine xr_iload_n C dX9_row_0 1 rfl rfl ?_
  obtain ⟨⟨r3, I2⟩, h1, hf⟩ := ob_x hf
  refine xr_callSI C [.int p1] lkX9_79 (kX9_isRow h1) rfl (Nat.le_of_ble_eq_true rfl) rfl dX9_row_1 ⟨by decide, by decide, by decide⟩ rfl ?_
  refine xr_if_eq (tgt := 21) C dX9_row_4 (by decide) hf (fun c4 hf => ?_) (fun c4 hf => ?_)
  · refine xr_lv [] rfl ?_
    exact ebX9_row_21 C H0 q hf
  · refine xr_iload_n C dX9_row_7 2 rfl rfl ?_
    refine xr_iconst (v := 2) C dX9_row_8 (by decide) ?_
    obtain ⟨⟨r7, I6⟩, h5, hf⟩ := ob_x hf
    refine xr_callSI C [.int p2, .int 2] lkX9_83 (kX9_isUpTo h5) rfl (Nat.le_of_ble_eq_true rfl) rfl dX9_row_9 ⟨by decide, by decide, by decide⟩ rfl ?_
    refine xr_if_eq (tgt := 21) C dX9_row_12 (by decide) hf (fun c8 hf => ?_) (fun c8 hf => ?_)
    · refine xr_lv [] rfl ?_
      exact ebX9_row_21 C H0 q hf
    · refine xr_iload_n C dX9_row_15 3 rfl rfl ?_
      refine xr_bipush (v := 40) C dX9_row_16 (by decide) ?_
      refine xr_icmp_le (tgt := 24) C dX9_row_18 (by decide) hf (fun c9 hf => ?_) (fun c9 hf => ?_)
      · refine xr_iload_n C dX9_row_24 3 rfl rfl ?_
        refine xr_if_ge (tgt := 34) C dX9_row_25 (by decide) hf (fun c10 hf => ?_) (fun c10 hf => ?_)
        · refine xr_aload_n C dX9_row_34 0 rfl rfl ?_
          refine xr_getr C Kd9 (k := 0) (by decide) rfl wk_305 rfl H0.1 H0.2.1.1 dX9_row_35 ?_
          refine xr_iload_n C dX9_row_38 1 rfl rfl ?_
          refine xr_iload_n C dX9_row_39 2 rfl rfl ?_
          refine xr_iload_n C dX9_row_40 3 rfl rfl ?_
          obtain ⟨I12, h11, hf⟩ := ob_x hf
          refine xr_callNV C [.int p1, .int p2, .int p3] lkX9_92 (kX5_make H0.2.1.2 h11) Kd5 rfl H0.2.1.2.1 rfl (Nat.le_of_ble_eq_true rfl) rfl dX9_row_41 ⟨by decide, by decide, by decide⟩ rfl ?_
          refine xr_aload_n C dX9_row_44 0 rfl rfl ?_
          refine xr_iload_n C dX9_row_45 3 rfl rfl ?_
          obtain ⟨⟨r15, I14⟩, h13, hf⟩ := ob_x hf
          refine xr_callVI C [.int p3] lkX9_96 (kX9_plain H0 h13) Kd9 rfl H0.1 rfl (Nat.le_of_ble_eq_true rfl) rfl dX9_row_46 ⟨by decide, by decide, by decide⟩ rfl ?_
          exact xr_ireturn C q rfl rfl dX9_row_49 (so_1 hf) (so_w hf)
        · refine xr_aload_n C dX9_row_28 0 rfl rfl ?_
          refine xr_iconst (v := 4) C dX9_row_29 (by decide) ?_
          obtain ⟨⟨r18, I17⟩, h16, hf⟩ := ob_x hf
          refine xr_callVI C [.int 4] lkX9_88 (kX9_found H0 h16) Kd9 rfl H0.1 rfl (Nat.le_of_ble_eq_true rfl) rfl dX9_row_30 ⟨by decide, by decide, by decide⟩ rfl ?_
          exact xr_ireturn C q rfl rfl dX9_row_33 (so_1 hf) (so_w hf)
      · refine xr_lv [] rfl ?_
        exact ebX9_row_21 C H0 q hf
theorem kX9_row {B : Bs} {h : Shp} (H0 : XAt h) {I0 : Mem} {p1 : Int32} {p2 : Int32} {p3 : Int32} {r1 : Int32} {o1 : Mem} (hf : fnX9_row I0 p1 p2 p3 = some (r1, o1)) : CtrI B yX9_row cX9_row 4 (some Jvm.ClassFile.FieldType.int) 2 41 0 0 [rfB B 0, .int p1, .int p2, .int p3] (I0, h) r1 (o1, h) := by
  refine xr_enterI (lv0 := [(0, rfB B 0), (1, .int p1), (2, .int p2), (3, .int p3)]) (by decide) (Nat.le_of_ble_eq_true rfl) rfl (fun g hg C q => ?_)
  subst hg
  exact ebX9_row_0 C H0 q hf
theorem dX9_set_0 : decode cX9_set 0 = .ok (.iload_n 1, 1) := by decide +kernel
theorem dX9_set_1 : decode cX9_set 1 = .ok (.invokestatic 79, 3) := by decide +kernel
theorem dX9_set_4 : decode cX9_set 4 = .ok (.ifCond .ne 6, 3) := by decide +kernel
theorem dX9_set_7 : decode cX9_set 7 = .ok (.ldc 87, 2) := by decide +kernel
theorem dX9_set_9 : decode cX9_set 9 = .ok (.ireturn, 1) := by decide +kernel
theorem dX9_set_10 : decode cX9_set 10 = .ok (.aload_n 0, 1) := by decide +kernel
theorem dX9_set_11 : decode cX9_set 11 = .ok (.getfield 10, 3) := by decide +kernel
theorem dX9_set_14 : decode cX9_set 14 = .ok (.iload_n 1, 1) := by decide +kernel
theorem dX9_set_15 : decode cX9_set 15 = .ok (.invokevirtual 99, 3) := by decide +kernel
theorem dX9_set_18 : decode cX9_set 18 = .ok (.ifCond .eq 9, 3) := by decide +kernel
theorem dX9_set_21 : decode cX9_set 21 = .ok (.aload_n 0, 1) := by decide +kernel
theorem dX9_set_22 : decode cX9_set 22 = .ok (.iconst 1, 1) := by decide +kernel
theorem dX9_set_23 : decode cX9_set 23 = .ok (.invokevirtual 88, 3) := by decide +kernel
theorem dX9_set_26 : decode cX9_set 26 = .ok (.ireturn, 1) := by decide +kernel
theorem dX9_set_27 : decode cX9_set 27 = .ok (.aload_n 0, 1) := by decide +kernel
theorem dX9_set_28 : decode cX9_set 28 = .ok (.getfield 10, 3) := by decide +kernel
theorem dX9_set_31 : decode cX9_set 31 = .ok (.iload_n 1, 1) := by decide +kernel
theorem dX9_set_32 : decode cX9_set 32 = .ok (.iload_n 2, 1) := by decide +kernel
theorem dX9_set_33 : decode cX9_set 33 = .ok (.iconst 1, 1) := by decide +kernel
theorem dX9_set_34 : decode cX9_set 34 = .ok (.invokevirtual 102, 3) := by decide +kernel
theorem dX9_set_37 : decode cX9_set 37 = .ok (.ifCond .ne 9, 3) := by decide +kernel
theorem dX9_set_40 : decode cX9_set 40 = .ok (.aload_n 0, 1) := by decide +kernel
theorem dX9_set_41 : decode cX9_set 41 = .ok (.iconst 2, 1) := by decide +kernel
theorem dX9_set_42 : decode cX9_set 42 = .ok (.invokevirtual 88, 3) := by decide +kernel
theorem dX9_set_45 : decode cX9_set 45 = .ok (.ireturn, 1) := by decide +kernel
theorem dX9_set_46 : decode cX9_set 46 = .ok (.aload_n 0, 1) := by decide +kernel
theorem dX9_set_47 : decode cX9_set 47 = .ok (.aload_n 0, 1) := by decide +kernel
theorem dX9_set_48 : decode cX9_set 48 = .ok (.getfield 10, 3) := by decide +kernel
theorem dX9_set_51 : decode cX9_set 51 = .ok (.iload_n 1, 1) := by decide +kernel
theorem dX9_set_52 : decode cX9_set 52 = .ok (.iload_n 2, 1) := by decide +kernel
theorem dX9_set_53 : decode cX9_set 53 = .ok (.iload_n 3, 1) := by decide +kernel
theorem dX9_set_54 : decode cX9_set 54 = .ok (.invokevirtual 106, 3) := by decide +kernel
theorem dX9_set_57 : decode cX9_set 57 = .ok (.invokevirtual 96, 3) := by decide +kernel
theorem dX9_set_60 : decode cX9_set 60 = .ok (.ireturn, 1) := by decide +kernel
theorem lkX9_99 : LkN "BumperBalls" 99 yX5_isMissing cX5_isMissing 2 (some Jvm.ClassFile.FieldType.boolean) 1 := ⟨wk_373, wk_2, wk_372, wk_s4, ⟨by decide +kernel, by decide +kernel, by decide +kernel⟩, (List.mem_of_getElem? (i := 84) (by decide +kernel))⟩
theorem lkX9_102 : LkN "BumperBalls" 102 yX5_hasPlaces cX5_hasPlaces 4 (some Jvm.ClassFile.FieldType.boolean) 3 := ⟨wk_377, wk_2, wk_376, wk_s5, ⟨by decide +kernel, by decide +kernel, by decide +kernel⟩, (List.mem_of_getElem? (i := 49) (by decide +kernel))⟩
theorem lkX9_106 : LkN "BumperBalls" 106 yX5_write cX5_write 4 (some Jvm.ClassFile.FieldType.int) 3 := ⟨wk_381, wk_2, wk_380, wk_s6, ⟨by decide +kernel, by decide +kernel, by decide +kernel⟩, (List.mem_of_getElem? (i := 50) (by decide +kernel))⟩
/-! BumperBalls.set(III)I -/
def fnX9_set (I0 : Mem) (p1 : Int32) (p2 : Int32) (p3 : Int32) : Option (Int32 × Mem) :=
  ob (fnX9_isRow I0 p1) fun ⟨r3, I2⟩ => if r3 = 0 then (some ((-1000001), I2)) else (ob (fnX5_isMissing I2 p1) fun ⟨r7, I6⟩ => if r7 = 0 then (ob (fnX5_hasPlaces I6 p1 p2 1) fun ⟨r11, I10⟩ => if r11 = 0 then (ob (fnX9_found I10 2) fun ⟨r21, I20⟩ => some (r21, I20)) else (ob (fnX5_write I10 p1 p2 p3) fun ⟨r15, I14⟩ => ob (fnX9_plain I14 r15) fun ⟨r18, I17⟩ => some (r18, I17))) else (ob (fnX9_found I6 1) fun ⟨r24, I23⟩ => some (r24, I23)))
set_option maxRecDepth 20000 in
set_option maxHeartbeats 2000000 in
theorem ebX9_set_0 {g : Cfg} (C : Cx g RX9 cX9_set 4 2 41 0 0) {h : Shp} (H0 : XAt h) {r1 : Int32} {o1 : Mem} (q : QI g (some Jvm.ClassFile.FieldType.int) 0 0 r1 (o1, h)) {I0 : Mem} {p1 : Int32} {p2 : Int32} {p3 : Int32} (hf : fnX9_set I0 p1 p2 p3 = some (r1, o1)) : XE g 0 0 (I0, h) 0 [(0, rf g 0), (1, .int p1), (2, .int p2), (3, .int p3)] [] := by
  unfold fnX9_set at hf
  refine xr_iload_n C dX9_set_0 1 rfl rfl ?_
  obtain ⟨⟨r3, I2⟩, h1, hf⟩ := ob_x hf
  refine xr_callSI C [.int p1] lkX9_79 (kX9_isRow h1) rfl (Nat.le_of_ble_eq_true rfl) rfl dX9_set_1 ⟨by decide, by decide, by decide⟩ rfl ?_
  refine xr_if_ne (tgt := 10) C dX9_set_4 (by decide) hf (fun c4 hf => ?_) (fun c4 hf => ?_)
  · refine xr_aload_n C dX9_set_10 0 rfl rfl ?_
    refine xr_getr C Kd9 (k := 0) (by decide) rfl wk_305 rfl H0.1 H0.2.1.1 dX9_set_11 ?_
    refine xr_iload_n C dX9_set_14 1 rfl rfl ?_
    obtain ⟨⟨r7, I6⟩, h5, hf⟩ := ob_x hf
    refine xr_callNI C [.int p1] lkX9_99 (kX5_isMissing H0.2.1.2 h5) Kd5 rfl H0.2.1.2.1 rfl (Nat.le_of_ble_eq_true rfl) rfl dX9_set_15 ⟨by decide, by decide, by decide⟩ rfl ?_
    refine xr_if_eq (tgt := 27) C dX9_set_18 (by decide) hf (fun c8 hf => ?_) (fun c8 hf => ?_)
    · refine xr_aload_n C dX9_set_27 0 rfl rfl ?_
      refine xr_getr C Kd9 (k := 0) (by decide) rfl wk_305 rfl H0.1 H0.2.1.1 dX9_set_28 ?_
      refine xr_iload_n C dX9_set_31 1 rfl rfl ?_
      refine xr_iload_n C dX9_set_32 2 rfl rfl ?_
      refine xr_iconst (v := 1) C dX9_set_33 (by decide) ?_
      obtain ⟨⟨r11, I10⟩, h9, hf⟩ := ob_x hf
      refine xr_callNI C [.int p1, .int p2, .int 1] lkX9_102 (kX5_hasPlaces H0.2.1.2 h9) Kd5 rfl H0.2.1.2.1 rfl (Nat.le_of_ble_eq_true rfl) rfl dX9_set_34 ⟨by decide, by decide, by decide⟩ rfl ?_
      refine xr_if_ne (tgt := 46) C dX9_set_37 (by decide) hf (fun c12 hf => ?_) (fun c12 hf => ?_)
      · refine xr_aload_n C dX9_set_46 0 rfl rfl ?_
        refine xr_aload_n C dX9_set_47 0 rfl rfl ?_
        refine xr_getr C Kd9 (k := 0) (by decide) rfl wk_305 rfl H0.1 H0.2.1.1 dX9_set_48 ?_
        refine xr_iload_n C dX9_set_51 1 rfl rfl ?_
        refine xr_iload_n C dX9_set_52 2 rfl rfl ?_
        refine xr_iload_n C dX9_set_53 3 rfl rfl ?_
        obtain ⟨⟨r15, I14⟩, h13, hf⟩ := ob_x hf
        refine xr_callNI C [.int p1, .int p2, .int p3] lkX9_106 (kX5_write H0.2.1.2 h13) Kd5 rfl H0.2.1.2.1 rfl (Nat.le_of_ble_eq_true rfl) rfl dX9_set_54 ⟨by decide, by decide, by decide⟩ rfl ?_
        obtain ⟨⟨r18, I17⟩, h16, hf⟩ := ob_x hf
        refine xr_callVI C [.int r15] lkX9_96 (kX9_plain H0 h16) Kd9 rfl H0.1 rfl (Nat.le_of_ble_eq_true rfl) rfl dX9_set_57 ⟨by decide, by decide, by decide⟩ rfl ?_
        exact xr_ireturn C q rfl rfl dX9_set_60 (so_1 hf) (so_w hf)
      · refine xr_aload_n C dX9_set_40 0 rfl rfl ?_
        refine xr_iconst (v := 2) C dX9_set_41 (by decide) ?_
        obtain ⟨⟨r21, I20⟩, h19, hf⟩ := ob_x hf
        refine xr_callVI C [.int 2] lkX9_88 (kX9_found H0 h19) Kd9 rfl H0.1 rfl (Nat.le_of_ble_eq_true rfl) rfl dX9_set_42 ⟨by decide, by decide, by decide⟩ rfl ?_
        exact xr_ireturn C q rfl rfl dX9_set_45 (so_1 hf) (so_w hf)
    · refine xr_aload_n C dX9_set_21 0 rfl rfl ?_
      refine xr_iconst (v := 1) C dX9_set_22 (by decide) ?_
      obtain ⟨⟨r24, I23⟩, h22, hf⟩ := ob_x hf
      refine xr_callVI C [.int 1] lkX9_88 (kX9_found H0 h22) Kd9 rfl H0.1 rfl (Nat.le_of_ble_eq_true rfl) rfl dX9_set_23 ⟨by decide, by decide, by decide⟩ rfl ?_
      exact xr_ireturn C q rfl rfl dX9_set_26 (so_1 hf) (so_w hf)
  · refine xr_ldc C wk_352 dX9_set_7 ?_
    exact xr_ireturn C q rfl rfl dX9_set_9 (so_1 hf) (so_w hf)
theorem kX9_set {B : Bs} {h : Shp} (H0 : XAt h) {I0 : Mem} {p1 : Int32} {p2 : Int32} {p3 : Int32} {r1 : Int32} {o1 : Mem} (hf : fnX9_set I0 p1 p2 p3 = some (r1, o1)) : CtrI B yX9_set cX9_set 4 (some Jvm.ClassFile.FieldType.int) 2 41 0 0 [rfB B 0, .int p1, .int p2, .int p3] (I0, h) r1 (o1, h) := by
  refine xr_enterI (lv0 := [(0, rfB B 0), (1, .int p1), (2, .int p2), (3, .int p3)]) (by decide) (Nat.le_of_ble_eq_true rfl) rfl (fun g hg C q => ?_)
  subst hg
  exact ebX9_set_0 C H0 q hf
theorem dX9_copy_0 : decode cX9_copy 0 = .ok (.iload_n 1, 1) := by decide +kernel
theorem dX9_copy_1 : decode cX9_copy 1 = .ok (.invokestatic 79, 3) := by decide +kernel
theorem dX9_copy_4 : decode cX9_copy 4 = .ok (.ifCond .eq 10, 3) := by decide +kernel
theorem dX9_copy_7 : decode cX9_copy 7 = .ok (.iload_n 3, 1) := by decide +kernel
theorem dX9_copy_8 : decode cX9_copy 8 = .ok (.invokestatic 79, 3) := by decide +kernel
theorem dX9_copy_11 : decode cX9_copy 11 = .ok (.ifCond .ne 6, 3) := by decide +kernel
theorem dX9_copy_14 : decode cX9_copy 14 = .ok (.ldc 87, 2) := by decide +kernel
theorem dX9_copy_16 : decode cX9_copy 16 = .ok (.ireturn, 1) := by decide +kernel
theorem dX9_copy_17 : decode cX9_copy 17 = .ok (.aload_n 0, 1) := by decide +kernel
theorem dX9_copy_18 : decode cX9_copy 18 = .ok (.getfield 10, 3) := by decide +kernel
theorem dX9_copy_21 : decode cX9_copy 21 = .ok (.iload_n 1, 1) := by decide +kernel
theorem dX9_copy_22 : decode cX9_copy 22 = .ok (.invokevirtual 99, 3) := by decide +kernel
theorem dX9_copy_25 : decode cX9_copy 25 = .ok (.ifCond .ne 14, 3) := by decide +kernel
theorem dX9_copy_28 : decode cX9_copy 28 = .ok (.aload_n 0, 1) := by decide +kernel
theorem dX9_copy_29 : decode cX9_copy 29 = .ok (.getfield 10, 3) := by decide +kernel
theorem dX9_copy_32 : decode cX9_copy 32 = .ok (.iload_n 3, 1) := by decide +kernel
theorem dX9_copy_33 : decode cX9_copy 33 = .ok (.invokevirtual 99, 3) := by decide +kernel
theorem dX9_copy_36 : decode cX9_copy 36 = .ok (.ifCond .eq 9, 3) := by decide +kernel
theorem dX9_copy_39 : decode cX9_copy 39 = .ok (.aload_n 0, 1) := by decide +kernel
theorem dX9_copy_40 : decode cX9_copy 40 = .ok (.iconst 1, 1) := by decide +kernel
theorem dX9_copy_41 : decode cX9_copy 41 = .ok (.invokevirtual 88, 3) := by decide +kernel
theorem dX9_copy_44 : decode cX9_copy 44 = .ok (.ireturn, 1) := by decide +kernel
theorem dX9_copy_45 : decode cX9_copy 45 = .ok (.aload_n 0, 1) := by decide +kernel
theorem dX9_copy_46 : decode cX9_copy 46 = .ok (.getfield 10, 3) := by decide +kernel
theorem dX9_copy_49 : decode cX9_copy 49 = .ok (.getfield 110, 3) := by decide +kernel
theorem dX9_copy_52 : decode cX9_copy 52 = .ok (.iload_n 1, 1) := by decide +kernel
theorem dX9_copy_53 : decode cX9_copy 53 = .ok (.iaload, 1) := by decide +kernel
theorem dX9_copy_54 : decode cX9_copy 54 = .ok (.aload_n 0, 1) := by decide +kernel
theorem dX9_copy_55 : decode cX9_copy 55 = .ok (.getfield 10, 3) := by decide +kernel
theorem dX9_copy_58 : decode cX9_copy 58 = .ok (.getfield 110, 3) := by decide +kernel
theorem dX9_copy_61 : decode cX9_copy 61 = .ok (.iload_n 3, 1) := by decide +kernel
theorem dX9_copy_62 : decode cX9_copy 62 = .ok (.iaload, 1) := by decide +kernel
theorem dX9_copy_63 : decode cX9_copy 63 = .ok (.if_icmp .eq 9, 3) := by decide +kernel
theorem dX9_copy_66 : decode cX9_copy 66 = .ok (.aload_n 0, 1) := by decide +kernel
theorem dX9_copy_67 : decode cX9_copy 67 = .ok (.iconst 5, 1) := by decide +kernel
theorem dX9_copy_68 : decode cX9_copy 68 = .ok (.invokevirtual 88, 3) := by decide +kernel
theorem dX9_copy_71 : decode cX9_copy 71 = .ok (.ireturn, 1) := by decide +kernel
theorem dX9_copy_72 : decode cX9_copy 72 = .ok (.aload_n 0, 1) := by decide +kernel
theorem dX9_copy_73 : decode cX9_copy 73 = .ok (.getfield 10, 3) := by decide +kernel
theorem dX9_copy_76 : decode cX9_copy 76 = .ok (.iload_n 1, 1) := by decide +kernel
theorem dX9_copy_77 : decode cX9_copy 77 = .ok (.iload_n 2, 1) := by decide +kernel
theorem dX9_copy_78 : decode cX9_copy 78 = .ok (.iload 5, 2) := by decide +kernel
theorem dX9_copy_80 : decode cX9_copy 80 = .ok (.invokevirtual 102, 3) := by decide +kernel
theorem dX9_copy_83 : decode cX9_copy 83 = .ok (.ifCond .eq 18, 3) := by decide +kernel
theorem dX9_copy_86 : decode cX9_copy 86 = .ok (.aload_n 0, 1) := by decide +kernel
theorem dX9_copy_87 : decode cX9_copy 87 = .ok (.getfield 10, 3) := by decide +kernel
theorem dX9_copy_90 : decode cX9_copy 90 = .ok (.iload_n 3, 1) := by decide +kernel
theorem dX9_copy_91 : decode cX9_copy 91 = .ok (.iload 4, 2) := by decide +kernel
theorem dX9_copy_93 : decode cX9_copy 93 = .ok (.iload 5, 2) := by decide +kernel
theorem dX9_copy_95 : decode cX9_copy 95 = .ok (.invokevirtual 102, 3) := by decide +kernel
theorem dX9_copy_98 : decode cX9_copy 98 = .ok (.ifCond .ne 9, 3) := by decide +kernel
theorem dX9_copy_101 : decode cX9_copy 101 = .ok (.aload_n 0, 1) := by decide +kernel
theorem dX9_copy_102 : decode cX9_copy 102 = .ok (.iconst 2, 1) := by decide +kernel
theorem dX9_copy_103 : decode cX9_copy 103 = .ok (.invokevirtual 88, 3) := by decide +kernel
theorem dX9_copy_106 : decode cX9_copy 106 = .ok (.ireturn, 1) := by decide +kernel
theorem dX9_copy_107 : decode cX9_copy 107 = .ok (.aload_n 0, 1) := by decide +kernel
theorem dX9_copy_108 : decode cX9_copy 108 = .ok (.getfield 10, 3) := by decide +kernel
theorem dX9_copy_111 : decode cX9_copy 111 = .ok (.getfield 114, 3) := by decide +kernel
theorem dX9_copy_114 : decode cX9_copy 114 = .ok (.iload_n 1, 1) := by decide +kernel
theorem dX9_copy_115 : decode cX9_copy 115 = .ok (.aaload, 1) := by decide +kernel
theorem dX9_copy_116 : decode cX9_copy 116 = .ok (.iload_n 2, 1) := by decide +kernel
theorem dX9_copy_117 : decode cX9_copy 117 = .ok (.aload_n 0, 1) := by decide +kernel
theorem dX9_copy_118 : decode cX9_copy 118 = .ok (.getfield 10, 3) := by decide +kernel
theorem dX9_copy_121 : decode cX9_copy 121 = .ok (.getfield 114, 3) := by decide +kernel
theorem dX9_copy_124 : decode cX9_copy 124 = .ok (.iload_n 3, 1) := by decide +kernel
theorem dX9_copy_125 : decode cX9_copy 125 = .ok (.aaload, 1) := by decide +kernel
theorem dX9_copy_126 : decode cX9_copy 126 = .ok (.iload 4, 2) := by decide +kernel
theorem dX9_copy_128 : decode cX9_copy 128 = .ok (.iload 5, 2) := by decide +kernel
theorem dX9_copy_130 : decode cX9_copy 130 = .ok (.invokestatic 118, 3) := by decide +kernel
theorem dX9_copy_133 : decode cX9_copy 133 = .ok (.aload_n 0, 1) := by decide +kernel
theorem dX9_copy_134 : decode cX9_copy 134 = .ok (.iload 5, 2) := by decide +kernel
theorem dX9_copy_136 : decode cX9_copy 136 = .ok (.invokevirtual 96, 3) := by decide +kernel
theorem dX9_copy_139 : decode cX9_copy 139 = .ok (.ireturn, 1) := by decide +kernel
/-! BumperBalls.copy(IIIII)I -/
def fnX9_copy_101 (I0 : Mem) : Option (Int32 × Mem) :=
  ob (fnX9_found I0 2) fun ⟨r3, I2⟩ => some (r3, I2)
set_option maxRecDepth 20000 in
set_option maxHeartbeats 2000000 in
theorem ebX9_copy_101 {g : Cfg} (C : Cx g RX9 cX9_copy 6 2 41 0 0) {h : Shp} (H0 : XAt h) {r1 : Int32} {o1 : Mem} (q : QI g (some Jvm.ClassFile.FieldType.int) 0 0 r1 (o1, h)) {I0 : Mem} (hf : fnX9_copy_101 I0 = some (r1, o1)) : XE g 0 0 (I0, h) 101 [(0, rf g 0)] [] := by
  unfold fnX9_copy_101 at hf
  refine xr_aload_n C dX9_copy_101 0 rfl rfl ?_
  refine xr_iconst (v := 2) C dX9_copy_102 (by decide) ?_
  obtain ⟨⟨r3, I2⟩, h1, hf⟩ := ob_x hf
  refine xr_callVI C [.int 2] lkX9_88 (kX9_found H0 h1) Kd9 rfl H0.1 rfl (Nat.le_of_ble_eq_true rfl) rfl dX9_copy_103 ⟨by decide, by decide, by decide⟩ rfl ?_
  exact xr_ireturn C q rfl rfl dX9_copy_106 (so_1 hf) (so_w hf)
def fnX9_copy_39 (I0 : Mem) : Option (Int32 × Mem) :=
  ob (fnX9_found I0 1) fun ⟨r3, I2⟩ => some (r3, I2)
set_option maxRecDepth 20000 in
set_option maxHeartbeats 2000000 in
theorem ebX9_copy_39 {g : Cfg} (C : Cx g RX9 cX9_copy 6 2 41 0 0) {h : Shp} (H0 : XAt h) {r1 : Int32} {o1 : Mem} (q : QI g (some Jvm.ClassFile.FieldType.int) 0 0 r1 (o1, h)) {I0 : Mem} (hf : fnX9_copy_39 I0 = some (r1, o1)) : XE g 0 0 (I0, h) 39 [(0, rf g 0)] [] := by
  unfold fnX9_copy_39 at hf
  refine xr_aload_n C dX9_copy_39 0 rfl rfl ?_
  refine xr_iconst (v := 1) C dX9_copy_40 (by decide) ?_
  obtain ⟨⟨r3, I2⟩, h1, hf⟩ := ob_x hf
  refine xr_callVI C [.int 1] lkX9_88 (kX9_found H0 h1) Kd9 rfl H0.1 rfl (Nat.le_of_ble_eq_true rfl) rfl dX9_copy_41 ⟨by decide, by decide, by decide⟩ rfl ?_
  exact xr_ireturn C q rfl rfl dX9_copy_44 (so_1 hf) (so_w hf)
def fnX9_copy_14 (I0 : Mem) : Option (Int32 × Mem) :=
  some ((-1000001), I0)
set_option maxRecDepth 20000 in
set_option maxHeartbeats 2000000 in
theorem ebX9_copy_14 {g : Cfg} (C : Cx g RX9 cX9_copy 6 2 41 0 0) {h : Shp} (H0 : XAt h) {r1 : Int32} {o1 : Mem} (q : QI g (some Jvm.ClassFile.FieldType.int) 0 0 r1 (o1, h)) {I0 : Mem} (hf : fnX9_copy_14 I0 = some (r1, o1)) : XE g 0 0 (I0, h) 14 [] [] := by
  unfold fnX9_copy_14 at hf
  refine xr_ldc C wk_352 dX9_copy_14 ?_
  exact xr_ireturn C q rfl rfl dX9_copy_16 (so_1 hf) (so_w hf)
def fnX9_copy (I0 : Mem) (p1 : Int32) (p2 : Int32) (p3 : Int32) (p4 : Int32) (p5 : Int32) : Option (Int32 × Mem) :=
  ob (fnX9_isRow I0 p1) fun ⟨r3, I2⟩ => if r3 = 0 then (fnX9_copy_14 I2) else (ob (fnX9_isRow I2 p3) fun ⟨r7, I6⟩ => if r7 = 0 then (fnX9_copy_14 I6) else (ob (fnX5_isMissing I6 p1) fun ⟨r11, I10⟩ => if r11 = 0 then (ob (fnX5_isMissing I10 p3) fun ⟨r15, I14⟩ => if r15 = 0 then (ck (inb p1 8) <| ck (inb p3 8) <| if (I14 2 (ix p1)) = (I14 2 (ix p3)) then (ob (fnX5_hasPlaces I14 p1 p2 p5) fun ⟨r22, I21⟩ => if r22 = 0 then (fnX9_copy_101 I21) else (ob (fnX5_hasPlaces I21 p3 p4 p5) fun ⟨r26, I25⟩ => if r26 = 0 then (fnX9_copy_101 I25) else (ck (inb p1 8) <| ck (inb p3 8) <| ck (spn p2 p5 40) <| ck (spn p4 p5 40) <| bnd (cpy I25 (5 + 1 * ix p1) (5 + 1 * ix p3) p2 p4 p5) fun I32 => ob (fnX9_plain I32 p5) fun ⟨r35, I34⟩ => some (r35, I34)))) else (ob (fnX9_found I14 5) fun ⟨r38, I37⟩ => some (r38, I37))) else (fnX9_copy_39 I14)) else (fnX9_copy_39 I10)))
set_option maxRecDepth 20000 in
set_option maxHeartbeats 2000000 in
theorem ebX9_copy_0 {g : Cfg} (C : Cx g RX9 cX9_copy 6 2 41 0 0) {h : Shp} (H0 : XAt h) {r1 : Int32} {o1 : Mem} (q : QI g (some Jvm.ClassFile.FieldType.int) 0 0 r1 (o1, h)) {I0 : Mem} {p1 : Int32} {p2 : Int32} {p3 : Int32} {p4 : Int32} {p5 : Int32} (hf : fnX9_copy I0 p1 p2 p3 p4 p5 = some (r1, o1)) : XE g 0 0 (I0, h) 0 [(0, rf g 0), (1, .int p1), (2, .int p2), (3, .int p3), (4, .int p4), (5, .int p5)] [] := by
  unfold fnX9_copy at hf
  refine xr_iload_n C dX9_copy_0 1 rfl rfl ?_
  obtain ⟨⟨r3, I2⟩, h1, hf⟩ := ob_x hf
  refine xr_callSI C [.int p1] lkX9_79 (kX9_isRow h1) rfl (Nat.le_of_ble_eq_true rfl) rfl dX9_copy_1 ⟨by decide, by decide, by decide⟩ rfl ?_
  refine xr_if_eq (tgt := 14) C dX9_copy_4 (by decide) hf (fun c4 hf => ?_) (fun c4 hf => ?_)
  · refine xr_lv [] rfl ?_
    exact ebX9_copy_14 C H0 q hf
  · refine xr_iload_n C dX9_copy_7 3 rfl rfl ?_
    obtain ⟨⟨r7, I6⟩, h5, hf⟩ := ob_x hf
    refine xr_callSI C [.int p3] lkX9_79 (kX9_isRow h5) rfl (Nat.le_of_ble_eq_true rfl) rfl dX9_copy_8 ⟨by decide, by decide, by decide⟩ rfl ?_
    refine xr_if_ne (tgt := 17) C dX9_copy_11 (by decide) hf (fun c8 hf => ?_) (fun c8 hf => ?_)
    · refine xr_aload_n C dX9_copy_17 0 rfl rfl ?_
      refine xr_getr C Kd9 (k := 0) (by decide) rfl wk_305 rfl H0.1 H0.2.1.1 dX9_copy_18 ?_
      refine xr_iload_n C dX9_copy_21 1 rfl rfl ?_
      obtain ⟨⟨r11, I10⟩, h9, hf⟩ := ob_x hf
      refine xr_callNI C [.int p1] lkX9_99 (kX5_isMissing H0.2.1.2 h9) Kd5 rfl H0.2.1.2.1 rfl (Nat.le_of_ble_eq_true rfl) rfl dX9_copy_22 ⟨by decide, by decide, by decide⟩ rfl ?_
      refine xr_if_ne (tgt := 39) C dX9_copy_25 (by decide) hf (fun c12 hf => ?_) (fun c12 hf => ?_)
      · refine xr_lv [0] rfl ?_
        exact ebX9_copy_39 C H0 q hf
      · refine xr_aload_n C dX9_copy_28 0 rfl rfl ?_
        refine xr_getr C Kd9 (k := 0) (by decide) rfl wk_305 rfl H0.1 H0.2.1.1 dX9_copy_29 ?_
        refine xr_iload_n C dX9_copy_32 3 rfl rfl ?_
        obtain ⟨⟨r15, I14⟩, h13, hf⟩ := ob_x hf
        refine xr_callNI C [.int p3] lkX9_99 (kX5_isMissing H0.2.1.2 h13) Kd5 rfl H0.2.1.2.1 rfl (Nat.le_of_ble_eq_true rfl) rfl dX9_copy_33 ⟨by decide, by decide, by decide⟩ rfl ?_
        refine xr_if_eq (tgt := 45) C dX9_copy_36 (by decide) hf (fun c16 hf => ?_) (fun c16 hf => ?_)
        · refine xr_aload_n C dX9_copy_45 0 rfl rfl ?_
          refine xr_getr C Kd9 (k := 0) (by decide) rfl wk_305 rfl H0.1 H0.2.1.1 dX9_copy_46 ?_
          refine xr_getrN C Kd5 (k := 0) (by decide) rfl nk0 rfl H0.2.1.2.1 H0.2.1.2.2.1.1 dX9_copy_49 ?_
          refine xr_iload_n C dX9_copy_52 1 rfl rfl ?_
          obtain ⟨i17, hf⟩ := ck_x hf
          refine xr_iald C H0.2.1.2.2.1.2 i17 dX9_copy_53 ?_
          refine xr_aload_n C dX9_copy_54 0 rfl rfl ?_
          refine xr_getr C Kd9 (k := 0) (by decide) rfl wk_305 rfl H0.1 H0.2.1.1 dX9_copy_55 ?_
          refine xr_getrN C Kd5 (k := 0) (by decide) rfl nk0 rfl H0.2.1.2.1 H0.2.1.2.2.1.1 dX9_copy_58 ?_
          refine xr_iload_n C dX9_copy_61 3 rfl rfl ?_
          obtain ⟨i18, hf⟩ := ck_x hf
          refine xr_iald C H0.2.1.2.2.1.2 i18 dX9_copy_62 ?_
          refine xr_icmp_eq (tgt := 72) C dX9_copy_63 (by decide) hf (fun c19 hf => ?_) (fun c19 hf => ?_)
          · refine xr_aload_n C dX9_copy_72 0 rfl rfl ?_
            refine xr_getr C Kd9 (k := 0) (by decide) rfl wk_305 rfl H0.1 H0.2.1.1 dX9_copy_73 ?_
            refine xr_iload_n C dX9_copy_76 1 rfl rfl ?_
            refine xr_iload_n C dX9_copy_77 2 rfl rfl ?_
            refine xr_iload C dX9_copy_78 5 rfl ?_
            obtain ⟨⟨r22, I21⟩, h20, hf⟩ := ob_x hf
            refine xr_callNI C [.int p1, .int p2, .int p5] lkX9_102 (kX5_hasPlaces H0.2.1.2 h20) Kd5 rfl H0.2.1.2.1 rfl (Nat.le_of_ble_eq_true rfl) rfl dX9_copy_80 ⟨by decide, by decide, by decide⟩ rfl ?_
            refine xr_if_eq (tgt := 101) C dX9_copy_83 (by decide) hf (fun c23 hf => ?_) (fun c23 hf => ?_)
            · refine xr_lv [0] rfl ?_
              exact ebX9_copy_101 C H0 q hf
            · refine xr_aload_n C dX9_copy_86 0 rfl rfl ?_
              refine xr_getr C Kd9 (k := 0) (by decide) rfl wk_305 rfl H0.1 H0.2.1.1 dX9_copy_87 ?_
              refine xr_iload_n C dX9_copy_90 3 rfl rfl ?_
              refine xr_iload C dX9_copy_91 4 rfl ?_
              refine xr_iload C dX9_copy_93 5 rfl ?_
              obtain ⟨⟨r26, I25⟩, h24, hf⟩ := ob_x hf
              refine xr_callNI C [.int p3, .int p4, .int p5] lkX9_102 (kX5_hasPlaces H0.2.1.2 h24) Kd5 rfl H0.2.1.2.1 rfl (Nat.le_of_ble_eq_true rfl) rfl dX9_copy_95 ⟨by decide, by decide, by decide⟩ rfl ?_
              refine xr_if_ne (tgt := 107) C dX9_copy_98 (by decide) hf (fun c27 hf => ?_) (fun c27 hf => ?_)
              · refine xr_aload_n C dX9_copy_107 0 rfl rfl ?_
                refine xr_getr C Kd9 (k := 0) (by decide) rfl wk_305 rfl H0.1 H0.2.1.1 dX9_copy_108 ?_
                refine xr_getrN C Kd5 (k := 2) (by decide) rfl nk1 rfl H0.2.1.2.1 H0.2.1.2.2.2.2.1 dX9_copy_111 ?_
                refine xr_iload_n C dX9_copy_114 1 rfl rfl ?_
                obtain ⟨i28, hf⟩ := ck_x hf
                refine xr_aald C (kd := 14) (by decide) H0.2.1.2.2.2.2.2.1 i28 (H0.2.1.2.2.2.2.2.2 (ix p1) (inb_lt i28)).1 dX9_copy_115 ?_
                refine xr_iload_n C dX9_copy_116 2 rfl rfl ?_
                refine xr_aload_n C dX9_copy_117 0 rfl rfl ?_
                refine xr_getr C Kd9 (k := 0) (by decide) rfl wk_305 rfl H0.1 H0.2.1.1 dX9_copy_118 ?_
                refine xr_getrN C Kd5 (k := 2) (by decide) rfl nk1 rfl H0.2.1.2.1 H0.2.1.2.2.2.2.1 dX9_copy_121 ?_
                refine xr_iload_n C dX9_copy_124 3 rfl rfl ?_
                obtain ⟨i29, hf⟩ := ck_x hf
                refine xr_aald C (kd := 14) (by decide) H0.2.1.2.2.2.2.2.1 i29 (H0.2.1.2.2.2.2.2.2 (ix p3) (inb_lt i29)).1 dX9_copy_125 ?_
                refine xr_iload C dX9_copy_126 4 rfl ?_
                refine xr_iload C dX9_copy_128 5 rfl ?_
                obtain ⟨s30, hf⟩ := ck_x hf
                obtain ⟨s31, hf⟩ := ck_x hf
                obtain ⟨I32, eI32, hf⟩ := bnd_x hf
                refine xr_copy C wk_386 wk_388 wk_387 wk_12 (H0.2.1.2.2.2.2.2.2 (ix p1) (inb_lt i28)).2 (H0.2.1.2.2.2.2.2.2 (ix p3) (inb_lt i29)).2 s30 s31 (by decide) (Nat.le_of_ble_eq_true rfl) dX9_copy_130 eI32 ?_
                refine xr_aload_n C dX9_copy_133 0 rfl rfl ?_
                refine xr_iload C dX9_copy_134 5 rfl ?_
                obtain ⟨⟨r35, I34⟩, h33, hf⟩ := ob_x hf
                refine xr_callVI C [.int p5] lkX9_96 (kX9_plain H0 h33) Kd9 rfl H0.1 rfl (Nat.le_of_ble_eq_true rfl) rfl dX9_copy_136 ⟨by decide, by decide, by decide⟩ rfl ?_
                exact xr_ireturn C q rfl rfl dX9_copy_139 (so_1 hf) (so_w hf)
              · refine xr_lv [0] rfl ?_
                exact ebX9_copy_101 C H0 q hf
          · refine xr_aload_n C dX9_copy_66 0 rfl rfl ?_
            refine xr_iconst (v := 5) C dX9_copy_67 (by decide) ?_
            obtain ⟨⟨r38, I37⟩, h36, hf⟩ := ob_x hf
            refine xr_callVI C [.int 5] lkX9_88 (kX9_found H0 h36) Kd9 rfl H0.1 rfl (Nat.le_of_ble_eq_true rfl) rfl dX9_copy_68 ⟨by decide, by decide, by decide⟩ rfl ?_
            exact xr_ireturn C q rfl rfl dX9_copy_71 (so_1 hf) (so_w hf)
        · refine xr_lv [0] rfl ?_
          exact ebX9_copy_39 C H0 q hf
    · refine xr_lv [] rfl ?_
      exact ebX9_copy_14 C H0 q hf
theorem kX9_copy {B : Bs} {h : Shp} (H0 : XAt h) {I0 : Mem} {p1 : Int32} {p2 : Int32} {p3 : Int32} {p4 : Int32} {p5 : Int32} {r1 : Int32} {o1 : Mem} (hf : fnX9_copy I0 p1 p2 p3 p4 p5 = some (r1, o1)) : CtrI B yX9_copy cX9_copy 6 (some Jvm.ClassFile.FieldType.int) 2 41 0 0 [rfB B 0, .int p1, .int p2, .int p3, .int p4, .int p5] (I0, h) r1 (o1, h) := by
  refine xr_enterI (lv0 := [(0, rfB B 0), (1, .int p1), (2, .int p2), (3, .int p3), (4, .int p4), (5, .int p5)]) (by decide) (Nat.le_of_ble_eq_true rfl) rfl (fun g hg C q => ?_)
  subst hg
  exact ebX9_copy_0 C H0 q hf
theorem dX9_drop_0 : decode cX9_drop 0 = .ok (.iload_n 1, 1) := by decide +kernel
theorem dX9_drop_1 : decode cX9_drop 1 = .ok (.invokestatic 79, 3) := by decide +kernel
theorem dX9_drop_4 : decode cX9_drop 4 = .ok (.ifCond .ne 6, 3) := by decide +kernel
theorem dX9_drop_7 : decode cX9_drop 7 = .ok (.ldc 87, 2) := by decide +kernel
theorem dX9_drop_9 : decode cX9_drop 9 = .ok (.ireturn, 1) := by decide +kernel
theorem dX9_drop_10 : decode cX9_drop 10 = .ok (.aload_n 0, 1) := by decide +kernel
theorem dX9_drop_11 : decode cX9_drop 11 = .ok (.getfield 10, 3) := by decide +kernel
theorem dX9_drop_14 : decode cX9_drop 14 = .ok (.iload_n 1, 1) := by decide +kernel
theorem dX9_drop_15 : decode cX9_drop 15 = .ok (.invokevirtual 99, 3) := by decide +kernel
theorem dX9_drop_18 : decode cX9_drop 18 = .ok (.ifCond .eq 9, 3) := by decide +kernel
theorem dX9_drop_21 : decode cX9_drop 21 = .ok (.aload_n 0, 1) := by decide +kernel
theorem dX9_drop_22 : decode cX9_drop 22 = .ok (.iconst 1, 1) := by decide +kernel
theorem dX9_drop_23 : decode cX9_drop 23 = .ok (.invokevirtual 88, 3) := by decide +kernel
theorem dX9_drop_26 : decode cX9_drop 26 = .ok (.ireturn, 1) := by decide +kernel
theorem dX9_drop_27 : decode cX9_drop 27 = .ok (.aload_n 0, 1) := by decide +kernel
theorem dX9_drop_28 : decode cX9_drop 28 = .ok (.aload_n 0, 1) := by decide +kernel
theorem dX9_drop_29 : decode cX9_drop 29 = .ok (.getfield 10, 3) := by decide +kernel
theorem dX9_drop_32 : decode cX9_drop 32 = .ok (.iload_n 1, 1) := by decide +kernel
theorem dX9_drop_33 : decode cX9_drop 33 = .ok (.invokevirtual 124, 3) := by decide +kernel
theorem dX9_drop_36 : decode cX9_drop 36 = .ok (.invokevirtual 96, 3) := by decide +kernel
theorem dX9_drop_39 : decode cX9_drop 39 = .ok (.ireturn, 1) := by decide +kernel
theorem lkX9_124 : LkN "BumperBalls" 124 yX5_remove cX5_remove 3 (some Jvm.ClassFile.FieldType.int) 1 := ⟨wk_396, wk_2, wk_395, wk_s7, ⟨by decide +kernel, by decide +kernel, by decide +kernel⟩, (List.mem_of_getElem? (i := 51) (by decide +kernel))⟩
/-! BumperBalls.drop(I)I -/
def fnX9_drop (I0 : Mem) (p1 : Int32) : Option (Int32 × Mem) :=
  ob (fnX9_isRow I0 p1) fun ⟨r3, I2⟩ => if r3 = 0 then (some ((-1000001), I2)) else (ob (fnX5_isMissing I2 p1) fun ⟨r7, I6⟩ => if r7 = 0 then (ob (fnX5_remove I6 p1) fun ⟨r11, I10⟩ => ob (fnX9_plain I10 r11) fun ⟨r14, I13⟩ => some (r14, I13)) else (ob (fnX9_found I6 1) fun ⟨r17, I16⟩ => some (r17, I16)))
set_option maxRecDepth 20000 in
set_option maxHeartbeats 2000000 in
theorem ebX9_drop_0 {g : Cfg} (C : Cx g RX9 cX9_drop 2 2 41 0 0) {h : Shp} (H0 : XAt h) {r1 : Int32} {o1 : Mem} (q : QI g (some Jvm.ClassFile.FieldType.int) 0 0 r1 (o1, h)) {I0 : Mem} {p1 : Int32} (hf : fnX9_drop I0 p1 = some (r1, o1)) : XE g 0 0 (I0, h) 0 [(0, rf g 0), (1, .int p1)] [] := by
  unfold fnX9_drop at hf
  refine xr_iload_n C dX9_drop_0 1 rfl rfl ?_
  obtain ⟨⟨r3, I2⟩, h1, hf⟩ := ob_x hf
  refine xr_callSI C [.int p1] lkX9_79 (kX9_isRow h1) rfl (Nat.le_of_ble_eq_true rfl) rfl dX9_drop_1 ⟨by decide, by decide, by decide⟩ rfl ?_
  refine xr_if_ne (tgt := 10) C dX9_drop_4 (by decide) hf (fun c4 hf => ?_) (fun c4 hf => ?_)
  · refine xr_aload_n C dX9_drop_10 0 rfl rfl ?_
    refine xr_getr C Kd9 (k := 0) (by decide) rfl wk_305 rfl H0.1 H0.2.1.1 dX9_drop_11 ?_
    refine xr_iload_n C dX9_drop_14 1 rfl rfl ?_
    obtain ⟨⟨r7, I6⟩, h5, hf⟩ := ob_x hf
    refine xr_callNI C [.int p1] lkX9_99 (kX5_isMissing H0.2.1.2 h5) Kd5 rfl H0.2.1.2.1 rfl (Nat.le_of_ble_eq_true rfl) rfl dX9_drop_15 ⟨by decide, by decide, by decide⟩ rfl ?_
    refine xr_if_eq (tgt := 27) C dX9_drop_18 (by decide) hf (fun c8 hf => ?_) (fun c8 hf => ?_)
    · refine xr_aload_n C dX9_drop_27 0 rfl rfl ?_
      refine xr_aload_n C dX9_drop_28 0 rfl rfl ?_
      refine xr_getr C Kd9 (k := 0) (by decide) rfl wk_305 rfl H0.1 H0.2.1.1 dX9_drop_29 ?_
      refine xr_iload_n C dX9_drop_32 1 rfl rfl ?_
      obtain ⟨⟨r11, I10⟩, h9, hf⟩ := ob_x hf
      refine xr_callNI C [.int p1] lkX9_124 (kX5_remove H0.2.1.2 h9) Kd5 rfl H0.2.1.2.1 rfl (Nat.le_of_ble_eq_true rfl) rfl dX9_drop_33 ⟨by decide, by decide, by decide⟩ rfl ?_
      obtain ⟨⟨r14, I13⟩, h12, hf⟩ := ob_x hf
      refine xr_callVI C [.int r11] lkX9_96 (kX9_plain H0 h12) Kd9 rfl H0.1 rfl (Nat.le_of_ble_eq_true rfl) rfl dX9_drop_36 ⟨by decide, by decide, by decide⟩ rfl ?_
      exact xr_ireturn C q rfl rfl dX9_drop_39 (so_1 hf) (so_w hf)
    · refine xr_aload_n C dX9_drop_21 0 rfl rfl ?_
      refine xr_iconst (v := 1) C dX9_drop_22 (by decide) ?_
      obtain ⟨⟨r17, I16⟩, h15, hf⟩ := ob_x hf
      refine xr_callVI C [.int 1] lkX9_88 (kX9_found H0 h15) Kd9 rfl H0.1 rfl (Nat.le_of_ble_eq_true rfl) rfl dX9_drop_23 ⟨by decide, by decide, by decide⟩ rfl ?_
      exact xr_ireturn C q rfl rfl dX9_drop_26 (so_1 hf) (so_w hf)
  · refine xr_ldc C wk_352 dX9_drop_7 ?_
    exact xr_ireturn C q rfl rfl dX9_drop_9 (so_1 hf) (so_w hf)
theorem kX9_drop {B : Bs} {h : Shp} (H0 : XAt h) {I0 : Mem} {p1 : Int32} {r1 : Int32} {o1 : Mem} (hf : fnX9_drop I0 p1 = some (r1, o1)) : CtrI B yX9_drop cX9_drop 2 (some Jvm.ClassFile.FieldType.int) 2 41 0 0 [rfB B 0, .int p1] (I0, h) r1 (o1, h) := by
  refine xr_enterI (lv0 := [(0, rfB B 0), (1, .int p1)]) (by decide) (Nat.le_of_ble_eq_true rfl) rfl (fun g hg C q => ?_)
  subst hg
  exact ebX9_drop_0 C H0 q hf
theorem dX9_feed_0 : decode cX9_feed 0 = .ok (.iload_n 3, 1) := by decide +kernel
theorem dX9_feed_1 : decode cX9_feed 1 = .ok (.iconst 1, 1) := by decide +kernel
theorem dX9_feed_2 : decode cX9_feed 2 = .ok (.if_icmp .lt 9, 3) := by decide +kernel
theorem dX9_feed_5 : decode cX9_feed 5 = .ok (.iload_n 3, 1) := by decide +kernel
theorem dX9_feed_6 : decode cX9_feed 6 = .ok (.bipush 8, 2) := by decide +kernel
theorem dX9_feed_8 : decode cX9_feed 8 = .ok (.if_icmp .le 6, 3) := by decide +kernel
theorem dX9_feed_11 : decode cX9_feed 11 = .ok (.ldc 87, 2) := by decide +kernel
theorem dX9_feed_13 : decode cX9_feed 13 = .ok (.ireturn, 1) := by decide +kernel
theorem dX9_feed_14 : decode cX9_feed 14 = .ok (.aload_n 0, 1) := by decide +kernel
theorem dX9_feed_15 : decode cX9_feed 15 = .ok (.getfield 19, 3) := by decide +kernel
theorem dX9_feed_18 : decode cX9_feed 18 = .ok (.getfield 127, 3) := by decide +kernel
theorem dX9_feed_21 : decode cX9_feed 21 = .ok (.sipush 400, 3) := by decide +kernel
theorem dX9_feed_24 : decode cX9_feed 24 = .ok (.iload_n 3, 1) := by decide +kernel
theorem dX9_feed_25 : decode cX9_feed 25 = .ok (.isub, 1) := by decide +kernel
theorem dX9_feed_26 : decode cX9_feed 26 = .ok (.if_icmp .le 6, 3) := by decide +kernel
theorem dX9_feed_29 : decode cX9_feed 29 = .ok (.ldc 130, 2) := by decide +kernel
theorem dX9_feed_31 : decode cX9_feed 31 = .ok (.ireturn, 1) := by decide +kernel
theorem dX9_feed_32 : decode cX9_feed 32 = .ok (.aload_n 0, 1) := by decide +kernel
theorem dX9_feed_33 : decode cX9_feed 33 = .ok (.getfield 19, 3) := by decide +kernel
theorem dX9_feed_36 : decode cX9_feed 36 = .ok (.lload_n 1, 1) := by decide +kernel
theorem dX9_feed_37 : decode cX9_feed 37 = .ok (.iload_n 3, 1) := by decide +kernel
theorem dX9_feed_38 : decode cX9_feed 38 = .ok (.invokevirtual 131, 3) := by decide +kernel
theorem dX9_feed_41 : decode cX9_feed 41 = .ok (.aload_n 0, 1) := by decide +kernel
theorem dX9_feed_42 : decode cX9_feed 42 = .ok (.getfield 19, 3) := by decide +kernel
theorem dX9_feed_45 : decode cX9_feed 45 = .ok (.getfield 127, 3) := by decide +kernel
theorem dX9_feed_48 : decode cX9_feed 48 = .ok (.ireturn, 1) := by decide +kernel
theorem lkX9_131 : LkN "BumperBalls" 131 yX8_append cX8_append 5 none 2 := ⟨wk_405, wk_3, wk_404, wk_s8, ⟨by decide +kernel, by decide +kernel, by decide +kernel⟩, (List.mem_of_getElem? (i := 52) (by decide +kernel))⟩
/-! BumperBalls.feed(JI)I -/
def fnX9_feed_11 (I0 : Mem) : Option (Int32 × Mem) :=
  some ((-1000001), I0)
set_option maxRecDepth 20000 in
set_option maxHeartbeats 2000000 in
theorem ebX9_feed_11 {g : Cfg} (C : Cx g RX9 cX9_feed 4 1 24 0 0) {h : Shp} (H0 : XAt h) {r1 : Int32} {o1 : Mem} (q : QI g (some Jvm.ClassFile.FieldType.int) 0 0 r1 (o1, h)) {I0 : Mem} (hf : fnX9_feed_11 I0 = some (r1, o1)) : XE g 0 0 (I0, h) 11 [] [] := by
  unfold fnX9_feed_11 at hf
  refine xr_ldc C wk_352 dX9_feed_11 ?_
  exact xr_ireturn C q rfl rfl dX9_feed_13 (so_1 hf) (so_w hf)
def fnX9_feed (I0 : Mem) (p1 : Int64) (p3 : Int32) : Option (Int32 × Mem) :=
  if p3 < 1 then (fnX9_feed_11 I0) else (if p3 ≤ 8 then (if (I0 13 1) ≤ ((400 : Int32) - p3) then (ob (fnX8_append I0 p1 p3) fun I5 => some ((I5 13 1), I5)) else (some ((-1000003), I0))) else (fnX9_feed_11 I0))
set_option maxRecDepth 20000 in
set_option maxHeartbeats 2000000 in
theorem ebX9_feed_0 {g : Cfg} (C : Cx g RX9 cX9_feed 4 1 24 0 0) {h : Shp} (H0 : XAt h) {r1 : Int32} {o1 : Mem} (q : QI g (some Jvm.ClassFile.FieldType.int) 0 0 r1 (o1, h)) {I0 : Mem} {p1 : Int64} {p3 : Int32} (hf : fnX9_feed I0 p1 p3 = some (r1, o1)) : XE g 0 0 (I0, h) 0 [(0, rf g 0), (1, .long p1), (3, .int p3)] [] := by
  unfold fnX9_feed at hf
  refine xr_iload_n C dX9_feed_0 2 rfl rfl ?_
  refine xr_iconst (v := 1) C dX9_feed_1 (by decide) ?_
  refine xr_icmp_lt (tgt := 11) C dX9_feed_2 (by decide) hf (fun c1 hf => ?_) (fun c1 hf => ?_)
  · refine xr_lv [] rfl ?_
    exact ebX9_feed_11 C H0 q hf
  · refine xr_iload_n C dX9_feed_5 2 rfl rfl ?_
    refine xr_bipush (v := 8) C dX9_feed_6 (by decide) ?_
    refine xr_icmp_le (tgt := 14) C dX9_feed_8 (by decide) hf (fun c2 hf => ?_) (fun c2 hf => ?_)
    · refine xr_aload_n C dX9_feed_14 0 rfl rfl ?_
      refine xr_getr C Kd9 (k := 1) (by decide) rfl wk_306 rfl H0.1 H0.2.2.1.1 dX9_feed_15 ?_
      refine xr_getiN C Kd8 (k := 1) (by decide) rfl nk2 rfl H0.2.2.1.2.1 dX9_feed_18 ?_
      refine xr_sipush (v := 400) C dX9_feed_21 (by decide) ?_
      refine xr_iload_n C dX9_feed_24 2 rfl rfl ?_
      refine xr_isub C dX9_feed_25 ?_
      refine xr_icmp_le (tgt := 32) C dX9_feed_26 (by decide) hf (fun c3 hf => ?_) (fun c3 hf => ?_)
      · refine xr_aload_n C dX9_feed_32 0 rfl rfl ?_
        refine xr_getr C Kd9 (k := 1) (by decide) rfl wk_306 rfl H0.1 H0.2.2.1.1 dX9_feed_33 ?_
        refine xr_lload_n C dX9_feed_36 1 rfl rfl ?_
        refine xr_iload_n C dX9_feed_37 2 rfl rfl ?_
        obtain ⟨I5, h4, hf⟩ := ob_x hf
        refine xr_callNV C [.long p1, .int p3] lkX9_131 (kX8_append H0.2.2.1.2 h4) Kd8 rfl H0.2.2.1.2.1 rfl (Nat.le_of_ble_eq_true rfl) rfl dX9_feed_38 ⟨by decide, by decide, by decide⟩ rfl ?_
        refine xr_aload_n C dX9_feed_41 0 rfl rfl ?_
        refine xr_getr C Kd9 (k := 1) (by decide) rfl wk_306 rfl H0.1 H0.2.2.1.1 dX9_feed_42 ?_
        refine xr_getiN C Kd8 (k := 1) (by decide) rfl nk2 rfl H0.2.2.1.2.1 dX9_feed_45 ?_
        exact xr_ireturn C q rfl rfl dX9_feed_48 (so_1 hf) (so_w hf)
      · refine xr_ldc C wk_401 dX9_feed_29 ?_
        exact xr_ireturn C q rfl rfl dX9_feed_31 (so_1 hf) (so_w hf)
    · refine xr_lv [] rfl ?_
      exact ebX9_feed_11 C H0 q hf
theorem kX9_feed {B : Bs} {h : Shp} (H0 : XAt h) {I0 : Mem} {p1 : Int64} {p3 : Int32} {r1 : Int32} {o1 : Mem} (hf : fnX9_feed I0 p1 p3 = some (r1, o1)) : CtrI B yX9_feed cX9_feed 4 (some Jvm.ClassFile.FieldType.int) 1 24 0 0 [rfB B 0, .long p1, .int p3] (I0, h) r1 (o1, h) := by
  refine xr_enterI (lv0 := [(0, rfB B 0), (1, .long p1), (3, .int p3)]) (by decide) (Nat.le_of_ble_eq_true rfl) rfl (fun g hg C q => ?_)
  subst hg
  exact ebX9_feed_0 C H0 q hf
theorem dX9_table_0 : decode cX9_table 0 = .ok (.aload_n 0, 1) := by decide +kernel
theorem dX9_table_1 : decode cX9_table 1 = .ok (.getfield 19, 3) := by decide +kernel
theorem dX9_table_4 : decode cX9_table 4 = .ok (.invokevirtual 135, 3) := by decide +kernel
theorem dX9_table_7 : decode cX9_table 7 = .ok (.aload_n 0, 1) := by decide +kernel
theorem dX9_table_8 : decode cX9_table 8 = .ok (.getfield 19, 3) := by decide +kernel
theorem dX9_table_11 : decode cX9_table 11 = .ok (.iconst 0, 1) := by decide +kernel
theorem dX9_table_12 : decode cX9_table 12 = .ok (.putfield 127, 3) := by decide +kernel
theorem dX9_table_15 : decode cX9_table 15 = .ok (.aload_n 0, 1) := by decide +kernel
theorem dX9_table_16 : decode cX9_table 16 = .ok (.getfield 19, 3) := by decide +kernel
theorem dX9_table_19 : decode cX9_table 19 = .ok (.getfield 138, 3) := by decide +kernel
theorem dX9_table_22 : decode cX9_table 22 = .ok (.ifCond .eq 25, 3) := by decide +kernel
theorem dX9_table_25 : decode cX9_table 25 = .ok (.aload_n 0, 1) := by decide +kernel
theorem dX9_table_26 : decode cX9_table 26 = .ok (.aload_n 0, 1) := by decide +kernel
theorem dX9_table_27 : decode cX9_table 27 = .ok (.getfield 19, 3) := by decide +kernel
theorem dX9_table_30 : decode cX9_table 30 = .ok (.getfield 138, 3) := by decide +kernel
theorem dX9_table_33 : decode cX9_table 33 = .ok (.putfield 71, 3) := by decide +kernel
theorem dX9_table_36 : decode cX9_table 36 = .ok (.ldc 141, 2) := by decide +kernel
theorem dX9_table_38 : decode cX9_table 38 = .ok (.aload_n 0, 1) := by decide +kernel
theorem dX9_table_39 : decode cX9_table 39 = .ok (.getfield 19, 3) := by decide +kernel
theorem dX9_table_42 : decode cX9_table 42 = .ok (.getfield 142, 3) := by decide +kernel
theorem dX9_table_45 : decode cX9_table 45 = .ok (.isub, 1) := by decide +kernel
theorem dX9_table_46 : decode cX9_table 46 = .ok (.ireturn, 1) := by decide +kernel
theorem dX9_table_47 : decode cX9_table 47 = .ok (.aload_n 0, 1) := by decide +kernel
theorem dX9_table_48 : decode cX9_table 48 = .ok (.getfield 26, 3) := by decide +kernel
theorem dX9_table_51 : decode cX9_table 51 = .ok (.aload_n 0, 1) := by decide +kernel
theorem dX9_table_52 : decode cX9_table 52 = .ok (.getfield 19, 3) := by decide +kernel
theorem dX9_table_55 : decode cX9_table 55 = .ok (.getfield 145, 3) := by decide +kernel
theorem dX9_table_58 : decode cX9_table 58 = .ok (.invokevirtual 148, 3) := by decide +kernel
theorem dX9_table_61 : decode cX9_table 61 = .ok (.aload_n 0, 1) := by decide +kernel
theorem dX9_table_62 : decode cX9_table 62 = .ok (.getfield 33, 3) := by decide +kernel
theorem dX9_table_65 : decode cX9_table 65 = .ok (.aload_n 0, 1) := by decide +kernel
theorem dX9_table_66 : decode cX9_table 66 = .ok (.getfield 19, 3) := by decide +kernel
theorem dX9_table_69 : decode cX9_table 69 = .ok (.getfield 152, 3) := by decide +kernel
theorem dX9_table_72 : decode cX9_table 72 = .ok (.aload_n 0, 1) := by decide +kernel
theorem dX9_table_73 : decode cX9_table 73 = .ok (.getfield 19, 3) := by decide +kernel
theorem dX9_table_76 : decode cX9_table 76 = .ok (.getfield 155, 3) := by decide +kernel
theorem dX9_table_79 : decode cX9_table 79 = .ok (.invokevirtual 158, 3) := by decide +kernel
theorem dX9_table_82 : decode cX9_table 82 = .ok (.aload_n 0, 1) := by decide +kernel
theorem dX9_table_83 : decode cX9_table 83 = .ok (.getfield 40, 3) := by decide +kernel
theorem dX9_table_86 : decode cX9_table 86 = .ok (.invokevirtual 162, 3) := by decide +kernel
theorem dX9_table_89 : decode cX9_table 89 = .ok (.aload_n 0, 1) := by decide +kernel
theorem dX9_table_90 : decode cX9_table 90 = .ok (.iconst 1, 1) := by decide +kernel
theorem dX9_table_91 : decode cX9_table 91 = .ok (.putfield 67, 3) := by decide +kernel
theorem dX9_table_94 : decode cX9_table 94 = .ok (.aload_n 0, 1) := by decide +kernel
theorem dX9_table_95 : decode cX9_table 95 = .ok (.getfield 26, 3) := by decide +kernel
theorem dX9_table_98 : decode cX9_table 98 = .ok (.getfield 165, 3) := by decide +kernel
theorem dX9_table_101 : decode cX9_table 101 = .ok (.ireturn, 1) := by decide +kernel
theorem lkX9_135 : LkN "BumperBalls" 135 yX8_readAll cX8_readAll 2 none 0 := ⟨wk_413, wk_3, wk_412, wk_s9, ⟨by decide +kernel, by decide +kernel, by decide +kernel⟩, (List.mem_of_getElem? (i := 53) (by decide +kernel))⟩
theorem lkX9_148 : LkN "BumperBalls" 148 yX7_become cX7_become 2 none 1 := ⟨wk_541, wk_4, wk_540, wk_s24, ⟨by decide +kernel, by decide +kernel, by decide +kernel⟩, (List.mem_of_getElem? (i := 54) (by decide +kernel))⟩
theorem lkX9_158 : LkN "BumperBalls" 158 yX4_begin cX4_begin 4 none 2 := ⟨wk_546, wk_5, wk_545, wk_s25, ⟨by decide +kernel, by decide +kernel, by decide +kernel⟩, (List.mem_of_getElem? (i := 55) (by decide +kernel))⟩
theorem lkX9_162 : LkN "BumperBalls" 162 yX0_forget cX0_forget 1 none 0 := ⟨wk_554, wk_6, wk_553, wk_s27, ⟨by decide +kernel, by decide +kernel, by decide +kernel⟩, (List.mem_of_getElem? (i := 56) (by decide +kernel))⟩
/-! BumperBalls.table()I -/
def fnX9_table (I0 : Mem) : Option (Int32 × Mem) :=
  ob (fnX8_readAll I0) fun I2 => bnd (up2 I2 13 1 0) fun I3 => if (I3 13 5) = 0 then (ob (fnX7_become 21 15 I3) fun I6 => ob (fnX4_begin 27 I6 (I6 13 3) (I6 13 4)) fun I8 => ob (fnX0_forget I8) fun I10 => bnd (up2 I10 0 9 1) fun I11 => some ((I11 21 1), I11)) else (bnd (up2 I3 0 10 (I3 13 5)) fun I12 => some ((((-1000100) : Int32) - (I12 13 7)), I12))
set_option maxRecDepth 20000 in
set_option maxHeartbeats 2000000 in
theorem ebX9_table_0 {g : Cfg} (C : Cx g RX9 cX9_table 1 8 173 0 0) {h : Shp} (H0 : XAt h) {r1 : Int32} {o1 : Mem} (q : QI g (some Jvm.ClassFile.FieldType.int) 0 0 r1 (o1, h)) {I0 : Mem} (hf : fnX9_table I0 = some (r1, o1)) : XE g 0 0 (I0, h) 0 [(0, rf g 0)] [] := by
  unfold fnX9_table at hf
  refine xr_aload_n C dX9_table_0 0 rfl rfl ?_
  refine xr_getr C Kd9 (k := 1) (by decide) rfl wk_306 rfl H0.1 H0.2.2.1.1 dX9_table_1 ?_
  obtain ⟨I2, h1, hf⟩ := ob_x hf
  refine xr_callNV C [] lkX9_135 (kX8_readAll H0.2.2.1.2 h1) Kd8 rfl H0.2.2.1.2.1 rfl (Nat.le_of_ble_eq_true rfl) rfl dX9_table_4 ⟨by decide, by decide, by decide⟩ rfl ?_
  refine xr_aload_n C dX9_table_7 0 rfl rfl ?_
  refine xr_getr C Kd9 (k := 1) (by decide) rfl wk_306 rfl H0.1 H0.2.2.1.1 dX9_table_8 ?_
  refine xr_iconst (v := 0) C dX9_table_11 (by decide) ?_
  obtain ⟨I3, eI3, hf⟩ := bnd_x hf
  refine xr_putIN C Kd8 (k := 1) (by decide) rfl rfl nk2 rfl rfl rfl H0.2.2.1.2.1 dX9_table_12 eI3 ?_
  refine xr_aload_n C dX9_table_15 0 rfl rfl ?_
  refine xr_getr C Kd9 (k := 1) (by decide) rfl wk_306 rfl H0.1 H0.2.2.1.1 dX9_table_16 ?_
  refine xr_getiN C Kd8 (k := 5) (by decide) rfl nk3 rfl H0.2.2.1.2.1 dX9_table_19 ?_
  refine xr_if_eq (tgt := 47) C dX9_table_22 (by decide) hf (fun c4 hf => ?_) (fun c4 hf => ?_)
  · refine xr_aload_n C dX9_table_47 0 rfl rfl ?_
    refine xr_getr C Kd9 (k := 2) (by decide) rfl wk_307 rfl H0.1 H0.2.2.2.1.1 dX9_table_48 ?_
    refine xr_aload_n C dX9_table_51 0 rfl rfl ?_
    refine xr_getr C Kd9 (k := 1) (by decide) rfl wk_306 rfl H0.1 H0.2.2.1.1 dX9_table_52 ?_
    refine xr_getrN C Kd8 (k := 2) (by decide) rfl nk5 rfl H0.2.2.1.2.1 H0.2.2.1.2.2.2.1 dX9_table_55 ?_
    obtain ⟨I6, h5, hf⟩ := ob_x hf
    refine xr_callNV C [rf g 15] lkX9_148 (kX7_become H0.2.2.2.1.2 H0.2.2.1.2.2.2.2 h5) Kd7 rfl H0.2.2.2.1.2.1 rfl (Nat.le_of_ble_eq_true rfl) rfl dX9_table_58 ⟨by decide, by decide, by decide⟩ rfl ?_
    refine xr_aload_n C dX9_table_61 0 rfl rfl ?_
    refine xr_getr C Kd9 (k := 3) (by decide) rfl wk_308 rfl H0.1 H0.2.2.2.2.1.1 dX9_table_62 ?_
    refine xr_aload_n C dX9_table_65 0 rfl rfl ?_
    refine xr_getr C Kd9 (k := 1) (by decide) rfl wk_306 rfl H0.1 H0.2.2.1.1 dX9_table_66 ?_
    refine xr_getiN C Kd8 (k := 3) (by decide) rfl nk6 rfl H0.2.2.1.2.1 dX9_table_69 ?_
    refine xr_aload_n C dX9_table_72 0 rfl rfl ?_
    refine xr_getr C Kd9 (k := 1) (by decide) rfl wk_306 rfl H0.1 H0.2.2.1.1 dX9_table_73 ?_
    refine xr_getiN C Kd8 (k := 4) (by decide) rfl nk7 rfl H0.2.2.1.2.1 dX9_table_76 ?_
    obtain ⟨I8, h7, hf⟩ := ob_x hf
    refine xr_callNV C [.int (I6 13 3), .int (I6 13 4)] lkX9_158 (kX4_begin H0.2.2.2.2.1.2 h7) Kd4 rfl H0.2.2.2.2.1.2.1 rfl (Nat.le_of_ble_eq_true rfl) rfl dX9_table_79 ⟨by decide, by decide, by decide⟩ rfl ?_
    refine xr_aload_n C dX9_table_82 0 rfl rfl ?_
    refine xr_getr C Kd9 (k := 4) (by decide) rfl wk_309 rfl H0.1 H0.2.2.2.2.2.1.1 dX9_table_83 ?_
    obtain ⟨I10, h9, hf⟩ := ob_x hf
    refine xr_callNV C [] lkX9_162 (kX0_forget H0.2.2.2.2.2.1.2 h9) Kd0 rfl H0.2.2.2.2.2.1.2.1 rfl (Nat.le_of_ble_eq_true rfl) rfl dX9_table_86 ⟨by decide, by decide, by decide⟩ rfl ?_
    refine xr_aload_n C dX9_table_89 0 rfl rfl ?_
    refine xr_iconst (v := 1) C dX9_table_90 (by decide) ?_
    obtain ⟨I11, eI11, hf⟩ := bnd_x hf
    refine xr_putI C Kd9 (k := 9) (by decide) rfl rfl wk_314 rfl rfl rfl H0.1 dX9_table_91 eI11 ?_
    refine xr_aload_n C dX9_table_94 0 rfl rfl ?_
    refine xr_getr C Kd9 (k := 2) (by decide) rfl wk_307 rfl H0.1 H0.2.2.2.1.1 dX9_table_95 ?_
    refine xr_getiN C Kd7 (k := 1) (by decide) rfl nk8 rfl H0.2.2.2.1.2.1 dX9_table_98 ?_
    exact xr_ireturn C q rfl rfl dX9_table_101 (so_1 hf) (so_w hf)
  · refine xr_aload_n C dX9_table_25 0 rfl rfl ?_
    refine xr_aload_n C dX9_table_26 0 rfl rfl ?_
    refine xr_getr C Kd9 (k := 1) (by decide) rfl wk_306 rfl H0.1 H0.2.2.1.1 dX9_table_27 ?_
    refine xr_getiN C Kd8 (k := 5) (by decide) rfl nk3 rfl H0.2.2.1.2.1 dX9_table_30 ?_
    obtain ⟨I12, eI12, hf⟩ := bnd_x hf
    refine xr_putI C Kd9 (k := 10) (by decide) rfl rfl wk_315 rfl rfl rfl H0.1 dX9_table_33 eI12 ?_
    refine xr_ldc C wk_537 dX9_table_36 ?_
    refine xr_aload_n C dX9_table_38 0 rfl rfl ?_
    refine xr_getr C Kd9 (k := 1) (by decide) rfl wk_306 rfl H0.1 H0.2.2.1.1 dX9_table_39 ?_
    refine xr_getiN C Kd8 (k := 7) (by decide) rfl nk4 rfl H0.2.2.1.2.1 dX9_table_42 ?_
    refine xr_isub C dX9_table_45 ?_
    exact xr_ireturn C q rfl rfl dX9_table_46 (so_1 hf) (so_w hf)
theorem kX9_table {B : Bs} {h : Shp} (H0 : XAt h) {I0 : Mem} {r1 : Int32} {o1 : Mem} (hf : fnX9_table I0 = some (r1, o1)) : CtrI B yX9_table cX9_table 1 (some Jvm.ClassFile.FieldType.int) 8 173 0 0 [rfB B 0] (I0, h) r1 (o1, h) := by
  refine xr_enterI (lv0 := [(0, rfB B 0)]) (by decide) (Nat.le_of_ble_eq_true rfl) rfl (fun g hg C q => ?_)
  subst hg
  exact ebX9_table_0 C H0 q hf
theorem dX9_fault_0 : decode cX9_fault 0 = .ok (.aload_n 0, 1) := by decide +kernel
theorem dX9_fault_1 : decode cX9_fault 1 = .ok (.getfield 71, 3) := by decide +kernel
theorem dX9_fault_4 : decode cX9_fault 4 = .ok (.ireturn, 1) := by decide +kernel
/-! BumperBalls.fault()I -/
def fnX9_fault (I0 : Mem) : Option (Int32 × Mem) :=
  some ((I0 0 10), I0)
set_option maxRecDepth 20000 in
set_option maxHeartbeats 2000000 in
theorem ebX9_fault_0 {g : Cfg} (C : Cx g RX9 cX9_fault 1 0 0 0 0) {h : Shp} (H0 : XAt h) {r1 : Int32} {o1 : Mem} (q : QI g (some Jvm.ClassFile.FieldType.int) 0 0 r1 (o1, h)) {I0 : Mem} (hf : fnX9_fault I0 = some (r1, o1)) : XE g 0 0 (I0, h) 0 [(0, rf g 0)] [] := by
  unfold fnX9_fault at hf
  refine xr_aload_n C dX9_fault_0 0 rfl rfl ?_
  refine xr_geti C Kd9 (k := 10) (by decide) rfl wk_315 rfl H0.1 dX9_fault_1 ?_
  exact xr_ireturn C q rfl rfl dX9_fault_4 (so_1 hf) (so_w hf)
theorem kX9_fault {B : Bs} {h : Shp} (H0 : XAt h) {I0 : Mem} {r1 : Int32} {o1 : Mem} (hf : fnX9_fault I0 = some (r1, o1)) : CtrI B yX9_fault cX9_fault 1 (some Jvm.ClassFile.FieldType.int) 0 0 0 0 [rfB B 0] (I0, h) r1 (o1, h) := by
  refine xr_enterI (lv0 := [(0, rfB B 0)]) (by decide) (Nat.le_of_ble_eq_true rfl) rfl (fun g hg C q => ?_)
  subst hg
  exact ebX9_fault_0 C H0 q hf
theorem dX9_steps_0 : decode cX9_steps 0 = .ok (.aload_n 0, 1) := by decide +kernel
theorem dX9_steps_1 : decode cX9_steps 1 = .ok (.getfield 67, 3) := by decide +kernel
theorem dX9_steps_4 : decode cX9_steps 4 = .ok (.ifCond .ne 6, 3) := by decide +kernel
theorem dX9_steps_7 : decode cX9_steps 7 = .ok (.ldc 168, 2) := by decide +kernel
theorem dX9_steps_9 : decode cX9_steps 9 = .ok (.ireturn, 1) := by decide +kernel
theorem dX9_steps_10 : decode cX9_steps 10 = .ok (.iload_n 1, 1) := by decide +kernel
theorem dX9_steps_11 : decode cX9_steps 11 = .ok (.iconst 1, 1) := by decide +kernel
theorem dX9_steps_12 : decode cX9_steps 12 = .ok (.if_icmp .lt 9, 3) := by decide +kernel
theorem dX9_steps_15 : decode cX9_steps 15 = .ok (.iload_n 1, 1) := by decide +kernel
theorem dX9_steps_16 : decode cX9_steps 16 = .ok (.bipush 24, 2) := by decide +kernel
theorem dX9_steps_18 : decode cX9_steps 18 = .ok (.if_icmp .le 6, 3) := by decide +kernel
theorem dX9_steps_21 : decode cX9_steps 21 = .ok (.ldc 87, 2) := by decide +kernel
theorem dX9_steps_23 : decode cX9_steps 23 = .ok (.ireturn, 1) := by decide +kernel
theorem dX9_steps_24 : decode cX9_steps 24 = .ok (.aload_n 0, 1) := by decide +kernel
theorem dX9_steps_25 : decode cX9_steps 25 = .ok (.getfield 33, 3) := by decide +kernel
theorem dX9_steps_28 : decode cX9_steps 28 = .ok (.getfield 169, 3) := by decide +kernel
theorem dX9_steps_31 : decode cX9_steps 31 = .ok (.ifCond .eq 6, 3) := by decide +kernel
theorem dX9_steps_34 : decode cX9_steps 34 = .ok (.ldc 168, 2) := by decide +kernel
theorem dX9_steps_36 : decode cX9_steps 36 = .ok (.ireturn, 1) := by decide +kernel
theorem dX9_steps_37 : decode cX9_steps 37 = .ok (.aload_n 0, 1) := by decide +kernel
theorem dX9_steps_38 : decode cX9_steps 38 = .ok (.getfield 33, 3) := by decide +kernel
theorem dX9_steps_41 : decode cX9_steps 41 = .ok (.getfield 172, 3) := by decide +kernel
theorem dX9_steps_44 : decode cX9_steps 44 = .ok (.iload_n 1, 1) := by decide +kernel
theorem dX9_steps_45 : decode cX9_steps 45 = .ok (.iadd, 1) := by decide +kernel
theorem dX9_steps_46 : decode cX9_steps 46 = .ok (.sipush 9999, 3) := by decide +kernel
theorem dX9_steps_49 : decode cX9_steps 49 = .ok (.if_icmp .le 6, 3) := by decide +kernel
theorem dX9_steps_52 : decode cX9_steps 52 = .ok (.ldc 130, 2) := by decide +kernel
theorem dX9_steps_54 : decode cX9_steps 54 = .ok (.ireturn, 1) := by decide +kernel
theorem dX9_steps_55 : decode cX9_steps 55 = .ok (.iconst 0, 1) := by decide +kernel
theorem dX9_steps_56 : decode cX9_steps 56 = .ok (.istore_n 2, 1) := by decide +kernel
theorem dX9_steps_57 : decode cX9_steps 57 = .ok (.iload_n 2, 1) := by decide +kernel
theorem dX9_steps_58 : decode cX9_steps 58 = .ok (.iload_n 1, 1) := by decide +kernel
theorem dX9_steps_59 : decode cX9_steps 59 = .ok (.if_icmp .ge 41, 3) := by decide +kernel
theorem dX9_steps_62 : decode cX9_steps 62 = .ok (.aload_n 0, 1) := by decide +kernel
theorem dX9_steps_63 : decode cX9_steps 63 = .ok (.getfield 33, 3) := by decide +kernel
theorem dX9_steps_66 : decode cX9_steps 66 = .ok (.getfield 169, 3) := by decide +kernel
theorem dX9_steps_69 : decode cX9_steps 69 = .ok (.ifCond .ne 31, 3) := by decide +kernel
theorem dX9_steps_72 : decode cX9_steps 72 = .ok (.aload_n 0, 1) := by decide +kernel
theorem dX9_steps_73 : decode cX9_steps 73 = .ok (.getfield 40, 3) := by decide +kernel
theorem dX9_steps_76 : decode cX9_steps 76 = .ok (.aload_n 0, 1) := by decide +kernel
theorem dX9_steps_77 : decode cX9_steps 77 = .ok (.getfield 33, 3) := by decide +kernel
theorem dX9_steps_80 : decode cX9_steps 80 = .ok (.invokevirtual 175, 3) := by decide +kernel
theorem dX9_steps_83 : decode cX9_steps 83 = .ok (.aload_n 0, 1) := by decide +kernel
theorem dX9_steps_84 : decode cX9_steps 84 = .ok (.getfield 33, 3) := by decide +kernel
theorem dX9_steps_87 : decode cX9_steps 87 = .ok (.aload_n 0, 1) := by decide +kernel
theorem dX9_steps_88 : decode cX9_steps 88 = .ok (.getfield 26, 3) := by decide +kernel
theorem dX9_steps_91 : decode cX9_steps 91 = .ok (.invokevirtual 179, 3) := by decide +kernel
theorem dX9_steps_94 : decode cX9_steps 94 = .ok (.iinc 2 1, 3) := by decide +kernel
theorem dX9_steps_97 : decode cX9_steps 97 = .ok (.goto (-40), 3) := by decide +kernel
theorem dX9_steps_100 : decode cX9_steps 100 = .ok (.iload_n 2, 1) := by decide +kernel
theorem dX9_steps_101 : decode cX9_steps 101 = .ok (.ireturn, 1) := by decide +kernel
theorem lkX9_175 : LkN "BumperBalls" 175 yX0_keep cX0_keep 2 none 1 := ⟨wk_568, wk_6, wk_567, wk_s28, ⟨by decide +kernel, by decide +kernel, by decide +kernel⟩, (List.mem_of_getElem? (i := 57) (by decide +kernel))⟩
theorem lkX9_179 : LkN "BumperBalls" 179 yX4_step cX4_step 2 none 1 := ⟨wk_577, wk_5, wk_576, wk_s30, ⟨by decide +kernel, by decide +kernel, by decide +kernel⟩, (List.mem_of_getElem? (i := 58) (by decide +kernel))⟩
/-! BumperBalls.steps(I)I -/
def fnX9_steps_100 (I0 : Mem) (l2 : Int32) : Option (Int32 × Mem) :=
  some (l2, I0)
set_option maxRecDepth 20000 in
set_option maxHeartbeats 2000000 in
theorem ebX9_steps_100 {g : Cfg} (C : Cx g RX9 cX9_steps 3 4 86 0 0) {h : Shp} (H0 : XAt h) {r1 : Int32} {o1 : Mem} (q : QI g (some Jvm.ClassFile.FieldType.int) 0 0 r1 (o1, h)) {I0 : Mem} {l2 : Int32} (hf : fnX9_steps_100 I0 l2 = some (r1, o1)) : XE g 0 0 (I0, h) 100 [(2, .int l2)] [] := by
  unfold fnX9_steps_100 at hf
  refine xr_iload_n C dX9_steps_100 0 rfl rfl ?_
  exact xr_ireturn C q rfl rfl dX9_steps_101 (so_1 hf) (so_w hf)
def fnX9_steps_57b (rec57 : Mem → Int32 → Int32 → Option (Int32 × Mem)) (I0 : Mem) (l1 : Int32) (l2 : Int32) : Option (Int32 × Mem) :=
  if l1 ≤ l2 then (fnX9_steps_100 I0 l2) else (if (I0 27 2) = 0 then (ob (fnX0_keep 27 I0) fun I4 => ob (fnX4_step 27 21 I4) fun I6 => bnd (l2 + 1) fun v7 => rec57 I6 l1 v7) else (fnX9_steps_100 I0 l2))
def fnX9_steps_57 : Nat → Mem → Int32 → Int32 → Option (Int32 × Mem)
  | 0 => fun _ _ _ => none
  | fu + 1 => fnX9_steps_57b (fnX9_steps_57 fu)
set_option maxRecDepth 20000 in
set_option maxHeartbeats 2000000 in
theorem ebX9_steps_57b {g : Cfg} (C : Cx g RX9 cX9_steps 3 4 86 0 0) {h : Shp} (H0 : XAt h) {r1 : Int32} {o1 : Mem} {rec57 : Mem → Int32 → Int32 → Option (Int32 × Mem)} (q : QI g (some Jvm.ClassFile.FieldType.int) 0 0 r1 (o1, h)) (ih57 : ∀ (I0 : Mem) (l1 : Int32) (l2 : Int32), rec57 I0 l1 l2 = some (r1, o1) → XE g 0 0 (I0, h) 57 [(0, rf g 0), (1, .int l1), (2, .int l2)] []) {I0 : Mem} {l1 : Int32} {l2 : Int32} (hf : fnX9_steps_57b rec57 I0 l1 l2 = some (r1, o1)) : XE g 0 0 (I0, h) 57 [(0, rf g 0), (1, .int l1), (2, .int l2)] [] := by
  unfold fnX9_steps_57b at hf
  refine xr_iload_n C dX9_steps_57 2 rfl rfl ?_
  refine xr_iload_n C dX9_steps_58 1 rfl rfl ?_
  refine xr_icmp_ge (tgt := 100) C dX9_steps_59 (by decide) hf (fun c1 hf => ?_) (fun c1 hf => ?_)
  · refine xr_lv [2] rfl ?_
    exact ebX9_steps_100 C H0 q hf
  · refine xr_aload_n C dX9_steps_62 0 rfl rfl ?_
    refine xr_getr C Kd9 (k := 3) (by decide) rfl wk_308 rfl H0.1 H0.2.2.2.2.1.1 dX9_steps_63 ?_
    refine xr_getiN C Kd4 (k := 2) (by decide) rfl nk9 rfl H0.2.2.2.2.1.2.1 dX9_steps_66 ?_
    refine xr_if_ne (tgt := 100) C dX9_steps_69 (by decide) hf (fun c2 hf => ?_) (fun c2 hf => ?_)
    · refine xr_lv [2] rfl ?_
      exact ebX9_steps_100 C H0 q hf
    · refine xr_aload_n C dX9_steps_72 0 rfl rfl ?_
      refine xr_getr C Kd9 (k := 4) (by decide) rfl wk_309 rfl H0.1 H0.2.2.2.2.2.1.1 dX9_steps_73 ?_
      refine xr_aload_n C dX9_steps_76 0 rfl rfl ?_
      refine xr_getr C Kd9 (k := 3) (by decide) rfl wk_308 rfl H0.1 H0.2.2.2.2.1.1 dX9_steps_77 ?_
      obtain ⟨I4, h3, hf⟩ := ob_x hf
      refine xr_callNV C [rf g 27] lkX9_175 (kX0_keep H0.2.2.2.2.2.1.2 H0.2.2.2.2.1.2 h3) Kd0 rfl H0.2.2.2.2.2.1.2.1 rfl (Nat.le_of_ble_eq_true rfl) rfl dX9_steps_80 ⟨by decide, by decide, by decide⟩ rfl ?_
      refine xr_aload_n C dX9_steps_83 0 rfl rfl ?_
      refine xr_getr C Kd9 (k := 3) (by decide) rfl wk_308 rfl H0.1 H0.2.2.2.2.1.1 dX9_steps_84 ?_
      refine xr_aload_n C dX9_steps_87 0 rfl rfl ?_
      refine xr_getr C Kd9 (k := 2) (by decide) rfl wk_307 rfl H0.1 H0.2.2.2.1.1 dX9_steps_88 ?_
      obtain ⟨I6, h5, hf⟩ := ob_x hf
      refine xr_callNV C [rf g 21] lkX9_179 (kX4_step H0.2.2.2.2.1.2 H0.2.2.2.1.2 h5) Kd4 rfl H0.2.2.2.2.1.2.1 rfl (Nat.le_of_ble_eq_true rfl) rfl dX9_steps_91 ⟨by decide, by decide, by decide⟩ rfl ?_
      obtain ⟨v7, ev7, hf⟩ := bnd_x hf
      refine xr_iinc (k := 2) (v := v7) C dX9_steps_94 rfl (by rw [ev7]; rfl) (by decide) rfl ?_
      refine xr_goto (tgt := 57) C dX9_steps_97 (by decide) ?_
      refine xr_lv [1, 2, 0] rfl ?_
      exact ih57 _ _ _ hf
theorem ebX9_steps_57 {g : Cfg} (C : Cx g RX9 cX9_steps 3 4 86 0 0) {h : Shp} (H0 : XAt h) {r1 : Int32} {o1 : Mem} (q : QI g (some Jvm.ClassFile.FieldType.int) 0 0 r1 (o1, h)) : ∀ (fu : Nat) {I0 : Mem} {l1 : Int32} {l2 : Int32} (hf : fnX9_steps_57 fu I0 l1 l2 = some (r1, o1)), XE g 0 0 (I0, h) 57 [(0, rf g 0), (1, .int l1), (2, .int l2)] [] := by
  intro fu
  induction fu with
  | zero =>
    intro I0 l1 l2 hf
    cases hf
  | succ fu ihn =>
    intro I0 l1 l2 hf
    exact ebX9_steps_57b C H0 q (fun _ _ _ hf => ihn hf) hf
def fnX9_steps_21 (I0 : Mem) : Option (Int32 × Mem) :=
  some ((-1000001), I0)
set_option maxRecDepth 20000 in
set_option maxHeartbeats 2000000 in
theorem ebX9_steps_21 {g : Cfg} (C : Cx g RX9 cX9_steps 3 4 86 0 0) {h : Shp} (H0 : XAt h) {r1 : Int32} {o1 : Mem} (q : QI g (some Jvm.ClassFile.FieldType.int) 0 0 r1 (o1, h)) {I0 : Mem} (hf : fnX9_steps_21 I0 = some (r1, o1)) : XE g 0 0 (I0, h) 21 [] [] := by
  unfold fnX9_steps_21 at hf
  refine xr_ldc C wk_352 dX9_steps_21 ?_
  exact xr_ireturn C q rfl rfl dX9_steps_23 (so_1 hf) (so_w hf)
def fnX9_steps (I0 : Mem) (p1 : Int32) : Option (Int32 × Mem) :=
  if (I0 0 9) = 0 then (some ((-1000002), I0)) else (if p1 < 1 then (fnX9_steps_21 I0) else (if p1 ≤ 24 then (if (I0 27 2) = 0 then (if ((I0 27 7) + p1) ≤ 9999 then (fnX9_steps_57 FU I0 p1 0) else (some ((-1000003), I0))) else (some ((-1000002), I0))) else (fnX9_steps_21 I0)))
set_option maxRecDepth 20000 in
set_option maxHeartbeats 2000000 in
theorem ebX9_steps_0 {g : Cfg} (C : Cx g RX9 cX9_steps 3 4 86 0 0) {h : Shp} (H0 : XAt h) {r1 : Int32} {o1 : Mem} (q : QI g (some Jvm.ClassFile.FieldType.int) 0 0 r1 (o1, h)) {I0 : Mem} {p1 : Int32} (hf : fnX9_steps I0 p1 = some (r1, o1)) : XE g 0 0 (I0, h) 0 [(0, rf g 0), (1, .int p1)] [] := by
  unfold fnX9_steps at hf
  refine xr_aload_n C dX9_steps_0 0 rfl rfl ?_
  refine xr_geti C Kd9 (k := 9) (by decide) rfl wk_314 rfl H0.1 dX9_steps_1 ?_
  refine xr_if_ne (tgt := 10) C dX9_steps_4 (by decide) hf (fun c1 hf => ?_) (fun c1 hf => ?_)
  · refine xr_iload_n C dX9_steps_10 1 rfl rfl ?_
    refine xr_iconst (v := 1) C dX9_steps_11 (by decide) ?_
    refine xr_icmp_lt (tgt := 21) C dX9_steps_12 (by decide) hf (fun c2 hf => ?_) (fun c2 hf => ?_)
    · refine xr_lv [] rfl ?_
      exact ebX9_steps_21 C H0 q hf
    · refine xr_iload_n C dX9_steps_15 1 rfl rfl ?_
      refine xr_bipush (v := 24) C dX9_steps_16 (by decide) ?_
      refine xr_icmp_le (tgt := 24) C dX9_steps_18 (by decide) hf (fun c3 hf => ?_) (fun c3 hf => ?_)
      · refine xr_aload_n C dX9_steps_24 0 rfl rfl ?_
        refine xr_getr C Kd9 (k := 3) (by decide) rfl wk_308 rfl H0.1 H0.2.2.2.2.1.1 dX9_steps_25 ?_
        refine xr_getiN C Kd4 (k := 2) (by decide) rfl nk9 rfl H0.2.2.2.2.1.2.1 dX9_steps_28 ?_
        refine xr_if_eq (tgt := 37) C dX9_steps_31 (by decide) hf (fun c4 hf => ?_) (fun c4 hf => ?_)
        · refine xr_aload_n C dX9_steps_37 0 rfl rfl ?_
          refine xr_getr C Kd9 (k := 3) (by decide) rfl wk_308 rfl H0.1 H0.2.2.2.2.1.1 dX9_steps_38 ?_
          refine xr_getiN C Kd4 (k := 7) (by decide) rfl nk10 rfl H0.2.2.2.2.1.2.1 dX9_steps_41 ?_
          refine xr_iload_n C dX9_steps_44 1 rfl rfl ?_
          refine xr_iadd C dX9_steps_45 ?_
          refine xr_sipush (v := 9999) C dX9_steps_46 (by decide) ?_
          refine xr_icmp_le (tgt := 55) C dX9_steps_49 (by decide) hf (fun c5 hf => ?_) (fun c5 hf => ?_)
          · refine xr_iconst (v := 0) C dX9_steps_55 (by decide) ?_
            refine xr_istore_n C dX9_steps_56 rfl (by decide) rfl ?_
            refine xr_lv [1, 2, 0] rfl ?_
            exact ebX9_steps_57 C H0 q _ hf
          · refine xr_ldc C wk_401 dX9_steps_52 ?_
            exact xr_ireturn C q rfl rfl dX9_steps_54 (so_1 hf) (so_w hf)
        · refine xr_ldc C wk_564 dX9_steps_34 ?_
          exact xr_ireturn C q rfl rfl dX9_steps_36 (so_1 hf) (so_w hf)
      · refine xr_lv [] rfl ?_
        exact ebX9_steps_21 C H0 q hf
  · refine xr_ldc C wk_564 dX9_steps_7 ?_
    exact xr_ireturn C q rfl rfl dX9_steps_9 (so_1 hf) (so_w hf)
theorem kX9_steps {B : Bs} {h : Shp} (H0 : XAt h) {I0 : Mem} {p1 : Int32} {r1 : Int32} {o1 : Mem} (hf : fnX9_steps I0 p1 = some (r1, o1)) : CtrI B yX9_steps cX9_steps 3 (some Jvm.ClassFile.FieldType.int) 4 86 0 0 [rfB B 0, .int p1] (I0, h) r1 (o1, h) := by
  refine xr_enterI (lv0 := [(0, rfB B 0), (1, .int p1)]) (by decide) (Nat.le_of_ble_eq_true rfl) rfl (fun g hg C q => ?_)
  subst hg
  exact ebX9_steps_0 C H0 q hf
theorem dX9_nudge_0 : decode cX9_nudge 0 = .ok (.aload_n 0, 1) := by decide +kernel
theorem dX9_nudge_1 : decode cX9_nudge 1 = .ok (.getfield 67, 3) := by decide +kernel
theorem dX9_nudge_4 : decode cX9_nudge 4 = .ok (.ifCond .eq 13, 3) := by decide +kernel
theorem dX9_nudge_7 : decode cX9_nudge 7 = .ok (.aload_n 0, 1) := by decide +kernel
theorem dX9_nudge_8 : decode cX9_nudge 8 = .ok (.getfield 33, 3) := by decide +kernel
theorem dX9_nudge_11 : decode cX9_nudge 11 = .ok (.getfield 169, 3) := by decide +kernel
theorem dX9_nudge_14 : decode cX9_nudge 14 = .ok (.ifCond .eq 6, 3) := by decide +kernel
theorem dX9_nudge_17 : decode cX9_nudge 17 = .ok (.ldc 168, 2) := by decide +kernel
theorem dX9_nudge_19 : decode cX9_nudge 19 = .ok (.ireturn, 1) := by decide +kernel
theorem dX9_nudge_20 : decode cX9_nudge 20 = .ok (.aload_n 0, 1) := by decide +kernel
theorem dX9_nudge_21 : decode cX9_nudge 21 = .ok (.getfield 40, 3) := by decide +kernel
theorem dX9_nudge_24 : decode cX9_nudge 24 = .ok (.aload_n 0, 1) := by decide +kernel
theorem dX9_nudge_25 : decode cX9_nudge 25 = .ok (.getfield 33, 3) := by decide +kernel
theorem dX9_nudge_28 : decode cX9_nudge 28 = .ok (.invokevirtual 175, 3) := by decide +kernel
theorem dX9_nudge_31 : decode cX9_nudge 31 = .ok (.aload_n 0, 1) := by decide +kernel
theorem dX9_nudge_32 : decode cX9_nudge 32 = .ok (.getfield 33, 3) := by decide +kernel
theorem dX9_nudge_35 : decode cX9_nudge 35 = .ok (.aload_n 0, 1) := by decide +kernel
theorem dX9_nudge_36 : decode cX9_nudge 36 = .ok (.getfield 26, 3) := by decide +kernel
theorem dX9_nudge_39 : decode cX9_nudge 39 = .ok (.getfield 182, 3) := by decide +kernel
theorem dX9_nudge_42 : decode cX9_nudge 42 = .ok (.invokevirtual 185, 3) := by decide +kernel
theorem dX9_nudge_45 : decode cX9_nudge 45 = .ok (.aload_n 0, 1) := by decide +kernel
theorem dX9_nudge_46 : decode cX9_nudge 46 = .ok (.getfield 33, 3) := by decide +kernel
theorem dX9_nudge_49 : decode cX9_nudge 49 = .ok (.getfield 189, 3) := by decide +kernel
theorem dX9_nudge_52 : decode cX9_nudge 52 = .ok (.ireturn, 1) := by decide +kernel
theorem lkX9_185 : LkN "BumperBalls" 185 yX4_shake cX4_shake 2 none 1 := ⟨wk_610, wk_5, wk_609, wk_s36, ⟨by decide +kernel, by decide +kernel, by decide +kernel⟩, (List.mem_of_getElem? (i := 60) (by decide +kernel))⟩
/-! BumperBalls.nudge()I -/
def fnX9_nudge_17 (I0 : Mem) : Option (Int32 × Mem) :=
  some ((-1000002), I0)
set_option maxRecDepth 20000 in
set_option maxHeartbeats 2000000 in
theorem ebX9_nudge_17 {g : Cfg} (C : Cx g RX9 cX9_nudge 1 3 81 0 0) {h : Shp} (H0 : XAt h) {r1 : Int32} {o1 : Mem} (q : QI g (some Jvm.ClassFile.FieldType.int) 0 0 r1 (o1, h)) {I0 : Mem} (hf : fnX9_nudge_17 I0 = some (r1, o1)) : XE g 0 0 (I0, h) 17 [] [] := by
  unfold fnX9_nudge_17 at hf
  refine xr_ldc C wk_564 dX9_nudge_17 ?_
  exact xr_ireturn C q rfl rfl dX9_nudge_19 (so_1 hf) (so_w hf)
def fnX9_nudge (I0 : Mem) : Option (Int32 × Mem) :=
  if (I0 0 9) = 0 then (fnX9_nudge_17 I0) else (if (I0 27 2) = 0 then (ob (fnX0_keep 27 I0) fun I4 => ob (fnX4_shake 27 I4 (I4 21 0)) fun I6 => some ((I6 27 3), I6)) else (fnX9_nudge_17 I0))
set_option maxRecDepth 20000 in
set_option maxHeartbeats 2000000 in
theorem ebX9_nudge_0 {g : Cfg} (C : Cx g RX9 cX9_nudge 1 3 81 0 0) {h : Shp} (H0 : XAt h) {r1 : Int32} {o1 : Mem} (q : QI g (some Jvm.ClassFile.FieldType.int) 0 0 r1 (o1, h)) {I0 : Mem} (hf : fnX9_nudge I0 = some (r1, o1)) : XE g 0 0 (I0, h) 0 [(0, rf g 0)] [] := by
  unfold fnX9_nudge at hf
  refine xr_aload_n C dX9_nudge_0 0 rfl rfl ?_
  refine xr_geti C Kd9 (k := 9) (by decide) rfl wk_314 rfl H0.1 dX9_nudge_1 ?_
  refine xr_if_eq (tgt := 17) C dX9_nudge_4 (by decide) hf (fun c1 hf => ?_) (fun c1 hf => ?_)
  · refine xr_lv [] rfl ?_
    exact ebX9_nudge_17 C H0 q hf
  · refine xr_aload_n C dX9_nudge_7 0 rfl rfl ?_
    refine xr_getr C Kd9 (k := 3) (by decide) rfl wk_308 rfl H0.1 H0.2.2.2.2.1.1 dX9_nudge_8 ?_
    refine xr_getiN C Kd4 (k := 2) (by decide) rfl nk9 rfl H0.2.2.2.2.1.2.1 dX9_nudge_11 ?_
    refine xr_if_eq (tgt := 20) C dX9_nudge_14 (by decide) hf (fun c2 hf => ?_) (fun c2 hf => ?_)
    · refine xr_aload_n C dX9_nudge_20 0 rfl rfl ?_
      refine xr_getr C Kd9 (k := 4) (by decide) rfl wk_309 rfl H0.1 H0.2.2.2.2.2.1.1 dX9_nudge_21 ?_
      refine xr_aload_n C dX9_nudge_24 0 rfl rfl ?_
      refine xr_getr C Kd9 (k := 3) (by decide) rfl wk_308 rfl H0.1 H0.2.2.2.2.1.1 dX9_nudge_25 ?_
      obtain ⟨I4, h3, hf⟩ := ob_x hf
      refine xr_callNV C [rf g 27] lkX9_175 (kX0_keep H0.2.2.2.2.2.1.2 H0.2.2.2.2.1.2 h3) Kd0 rfl H0.2.2.2.2.2.1.2.1 rfl (Nat.le_of_ble_eq_true rfl) rfl dX9_nudge_28 ⟨by decide, by decide, by decide⟩ rfl ?_
      refine xr_aload_n C dX9_nudge_31 0 rfl rfl ?_
      refine xr_getr C Kd9 (k := 3) (by decide) rfl wk_308 rfl H0.1 H0.2.2.2.2.1.1 dX9_nudge_32 ?_
      refine xr_aload_n C dX9_nudge_35 0 rfl rfl ?_
      refine xr_getr C Kd9 (k := 2) (by decide) rfl wk_307 rfl H0.1 H0.2.2.2.1.1 dX9_nudge_36 ?_
      refine xr_getiN C Kd7 (k := 0) (by decide) rfl nk11 rfl H0.2.2.2.1.2.1 dX9_nudge_39 ?_
      obtain ⟨I6, h5, hf⟩ := ob_x hf
      refine xr_callNV C [.int (I4 21 0)] lkX9_185 (kX4_shake H0.2.2.2.2.1.2 h5) Kd4 rfl H0.2.2.2.2.1.2.1 rfl (Nat.le_of_ble_eq_true rfl) rfl dX9_nudge_42 ⟨by decide, by decide, by decide⟩ rfl ?_
      refine xr_aload_n C dX9_nudge_45 0 rfl rfl ?_
      refine xr_getr C Kd9 (k := 3) (by decide) rfl wk_308 rfl H0.1 H0.2.2.2.2.1.1 dX9_nudge_46 ?_
      refine xr_getiN C Kd4 (k := 3) (by decide) rfl nk12 rfl H0.2.2.2.2.1.2.1 dX9_nudge_49 ?_
      exact xr_ireturn C q rfl rfl dX9_nudge_52 (so_1 hf) (so_w hf)
    · refine xr_lv [] rfl ?_
      exact ebX9_nudge_17 C H0 q hf
theorem kX9_nudge {B : Bs} {h : Shp} (H0 : XAt h) {I0 : Mem} {r1 : Int32} {o1 : Mem} (hf : fnX9_nudge I0 = some (r1, o1)) : CtrI B yX9_nudge cX9_nudge 1 (some Jvm.ClassFile.FieldType.int) 3 81 0 0 [rfB B 0] (I0, h) r1 (o1, h) := by
  refine xr_enterI (lv0 := [(0, rfB B 0)]) (by decide) (Nat.le_of_ble_eq_true rfl) rfl (fun g hg C q => ?_)
  subst hg
  exact ebX9_nudge_0 C H0 q hf
theorem dX9_flip_0 : decode cX9_flip 0 = .ok (.aload_n 0, 1) := by decide +kernel
theorem dX9_flip_1 : decode cX9_flip 1 = .ok (.getfield 67, 3) := by decide +kernel
theorem dX9_flip_4 : decode cX9_flip 4 = .ok (.ifCond .eq 36, 3) := by decide +kernel
theorem dX9_flip_7 : decode cX9_flip 7 = .ok (.aload_n 0, 1) := by decide +kernel
theorem dX9_flip_8 : decode cX9_flip 8 = .ok (.getfield 33, 3) := by decide +kernel
theorem dX9_flip_11 : decode cX9_flip 11 = .ok (.getfield 169, 3) := by decide +kernel
theorem dX9_flip_14 : decode cX9_flip 14 = .ok (.ifCond .ne 26, 3) := by decide +kernel
theorem dX9_flip_17 : decode cX9_flip 17 = .ok (.aload_n 0, 1) := by decide +kernel
theorem dX9_flip_18 : decode cX9_flip 18 = .ok (.getfield 33, 3) := by decide +kernel
theorem dX9_flip_21 : decode cX9_flip 21 = .ok (.getfield 192, 3) := by decide +kernel
theorem dX9_flip_24 : decode cX9_flip 24 = .ok (.bipush 7, 2) := by decide +kernel
theorem dX9_flip_26 : decode cX9_flip 26 = .ok (.if_icmp .ge 14, 3) := by decide +kernel
theorem dX9_flip_29 : decode cX9_flip 29 = .ok (.aload_n 0, 1) := by decide +kernel
theorem dX9_flip_30 : decode cX9_flip 30 = .ok (.getfield 33, 3) := by decide +kernel
theorem dX9_flip_33 : decode cX9_flip 33 = .ok (.getfield 195, 3) := by decide +kernel
theorem dX9_flip_36 : decode cX9_flip 36 = .ok (.iconst 2, 1) := by decide +kernel
theorem dX9_flip_37 : decode cX9_flip 37 = .ok (.if_icmp .eq 6, 3) := by decide +kernel
theorem dX9_flip_40 : decode cX9_flip 40 = .ok (.ldc 168, 2) := by decide +kernel
theorem dX9_flip_42 : decode cX9_flip 42 = .ok (.ireturn, 1) := by decide +kernel
theorem dX9_flip_43 : decode cX9_flip 43 = .ok (.aload_n 0, 1) := by decide +kernel
theorem dX9_flip_44 : decode cX9_flip 44 = .ok (.getfield 40, 3) := by decide +kernel
theorem dX9_flip_47 : decode cX9_flip 47 = .ok (.aload_n 0, 1) := by decide +kernel
theorem dX9_flip_48 : decode cX9_flip 48 = .ok (.getfield 33, 3) := by decide +kernel
theorem dX9_flip_51 : decode cX9_flip 51 = .ok (.invokevirtual 175, 3) := by decide +kernel
theorem dX9_flip_54 : decode cX9_flip 54 = .ok (.aload_n 0, 1) := by decide +kernel
theorem dX9_flip_55 : decode cX9_flip 55 = .ok (.getfield 33, 3) := by decide +kernel
theorem dX9_flip_58 : decode cX9_flip 58 = .ok (.iconst 0, 1) := by decide +kernel
theorem dX9_flip_59 : decode cX9_flip 59 = .ok (.putfield 195, 3) := by decide +kernel
theorem dX9_flip_62 : decode cX9_flip 62 = .ok (.aload_n 0, 1) := by decide +kernel
theorem dX9_flip_63 : decode cX9_flip 63 = .ok (.getfield 33, 3) := by decide +kernel
theorem dX9_flip_66 : decode cX9_flip 66 = .ok (.getfield 192, 3) := by decide +kernel
theorem dX9_flip_69 : decode cX9_flip 69 = .ok (.ireturn, 1) := by decide +kernel
/-! BumperBalls.flip()I -/
def fnX9_flip_40 (I0 : Mem) : Option (Int32 × Mem) :=
  some ((-1000002), I0)
set_option maxRecDepth 20000 in
set_option maxHeartbeats 2000000 in
theorem ebX9_flip_40 {g : Cfg} (C : Cx g RX9 cX9_flip 1 3 81 0 0) {h : Shp} (H0 : XAt h) {r1 : Int32} {o1 : Mem} (q : QI g (some Jvm.ClassFile.FieldType.int) 0 0 r1 (o1, h)) {I0 : Mem} (hf : fnX9_flip_40 I0 = some (r1, o1)) : XE g 0 0 (I0, h) 40 [] [] := by
  unfold fnX9_flip_40 at hf
  refine xr_ldc C wk_564 dX9_flip_40 ?_
  exact xr_ireturn C q rfl rfl dX9_flip_42 (so_1 hf) (so_w hf)
def fnX9_flip (I0 : Mem) : Option (Int32 × Mem) :=
  if (I0 0 9) = 0 then (fnX9_flip_40 I0) else (if (I0 27 2) = 0 then (if 7 ≤ (I0 27 0) then (fnX9_flip_40 I0) else (if (I0 27 1) = 2 then (ob (fnX0_keep 27 I0) fun I6 => bnd (up2 I6 27 1 0) fun I7 => some ((I7 27 0), I7)) else (fnX9_flip_40 I0))) else (fnX9_flip_40 I0))
set_option maxRecDepth 20000 in
set_option maxHeartbeats 2000000 in
theorem ebX9_flip_0 {g : Cfg} (C : Cx g RX9 cX9_flip 1 3 81 0 0) {h : Shp} (H0 : XAt h) {r1 : Int32} {o1 : Mem} (q : QI g (some Jvm.ClassFile.FieldType.int) 0 0 r1 (o1, h)) {I0 : Mem} (hf : fnX9_flip I0 = some (r1, o1)) : XE g 0 0 (I0, h) 0 [(0, rf g 0)] [] := by
  unfold fnX9_flip at hf
  refine xr_aload_n C dX9_flip_0 0 rfl rfl ?_
  refine xr_geti C Kd9 (k := 9) (by decide) rfl wk_314 rfl H0.1 dX9_flip_1 ?_
  refine xr_if_eq (tgt := 40) C dX9_flip_4 (by decide) hf (fun c1 hf => ?_) (fun c1 hf => ?_)
  · refine xr_lv [] rfl ?_
    exact ebX9_flip_40 C H0 q hf
  · refine xr_aload_n C dX9_flip_7 0 rfl rfl ?_
    refine xr_getr C Kd9 (k := 3) (by decide) rfl wk_308 rfl H0.1 H0.2.2.2.2.1.1 dX9_flip_8 ?_
    refine xr_getiN C Kd4 (k := 2) (by decide) rfl nk9 rfl H0.2.2.2.2.1.2.1 dX9_flip_11 ?_
    refine xr_if_ne (tgt := 40) C dX9_flip_14 (by decide) hf (fun c2 hf => ?_) (fun c2 hf => ?_)
    · refine xr_lv [] rfl ?_
      exact ebX9_flip_40 C H0 q hf
    · refine xr_aload_n C dX9_flip_17 0 rfl rfl ?_
      refine xr_getr C Kd9 (k := 3) (by decide) rfl wk_308 rfl H0.1 H0.2.2.2.2.1.1 dX9_flip_18 ?_
      refine xr_getiN C Kd4 (k := 0) (by decide) rfl nk13 rfl H0.2.2.2.2.1.2.1 dX9_flip_21 ?_
      refine xr_bipush (v := 7) C dX9_flip_24 (by decide) ?_
      refine xr_icmp_ge (tgt := 40) C dX9_flip_26 (by decide) hf (fun c3 hf => ?_) (fun c3 hf => ?_)
      · refine xr_lv [] rfl ?_
        exact ebX9_flip_40 C H0 q hf
      · refine xr_aload_n C dX9_flip_29 0 rfl rfl ?_
        refine xr_getr C Kd9 (k := 3) (by decide) rfl wk_308 rfl H0.1 H0.2.2.2.2.1.1 dX9_flip_30 ?_
        refine xr_getiN C Kd4 (k := 1) (by decide) rfl nk14 rfl H0.2.2.2.2.1.2.1 dX9_flip_33 ?_
        refine xr_iconst (v := 2) C dX9_flip_36 (by decide) ?_
        refine xr_icmp_eq (tgt := 43) C dX9_flip_37 (by decide) hf (fun c4 hf => ?_) (fun c4 hf => ?_)
        · refine xr_aload_n C dX9_flip_43 0 rfl rfl ?_
          refine xr_getr C Kd9 (k := 4) (by decide) rfl wk_309 rfl H0.1 H0.2.2.2.2.2.1.1 dX9_flip_44 ?_
          refine xr_aload_n C dX9_flip_47 0 rfl rfl ?_
          refine xr_getr C Kd9 (k := 3) (by decide) rfl wk_308 rfl H0.1 H0.2.2.2.2.1.1 dX9_flip_48 ?_
          obtain ⟨I6, h5, hf⟩ := ob_x hf
          refine xr_callNV C [rf g 27] lkX9_175 (kX0_keep H0.2.2.2.2.2.1.2 H0.2.2.2.2.1.2 h5) Kd0 rfl H0.2.2.2.2.2.1.2.1 rfl (Nat.le_of_ble_eq_true rfl) rfl dX9_flip_51 ⟨by decide, by decide, by decide⟩ rfl ?_
          refine xr_aload_n C dX9_flip_54 0 rfl rfl ?_
          refine xr_getr C Kd9 (k := 3) (by decide) rfl wk_308 rfl H0.1 H0.2.2.2.2.1.1 dX9_flip_55 ?_
          refine xr_iconst (v := 0) C dX9_flip_58 (by decide) ?_
          obtain ⟨I7, eI7, hf⟩ := bnd_x hf
          refine xr_putIN C Kd4 (k := 1) (by decide) rfl rfl nk14 rfl rfl rfl H0.2.2.2.2.1.2.1 dX9_flip_59 eI7 ?_
          refine xr_aload_n C dX9_flip_62 0 rfl rfl ?_
          refine xr_getr C Kd9 (k := 3) (by decide) rfl wk_308 rfl H0.1 H0.2.2.2.2.1.1 dX9_flip_63 ?_
          refine xr_getiN C Kd4 (k := 0) (by decide) rfl nk13 rfl H0.2.2.2.2.1.2.1 dX9_flip_66 ?_
          exact xr_ireturn C q rfl rfl dX9_flip_69 (so_1 hf) (so_w hf)
        · refine xr_lv [] rfl ?_
          exact ebX9_flip_40 C H0 q hf
theorem kX9_flip {B : Bs} {h : Shp} (H0 : XAt h) {I0 : Mem} {r1 : Int32} {o1 : Mem} (hf : fnX9_flip I0 = some (r1, o1)) : CtrI B yX9_flip cX9_flip 1 (some Jvm.ClassFile.FieldType.int) 3 81 0 0 [rfB B 0] (I0, h) r1 (o1, h) := by
  refine xr_enterI (lv0 := [(0, rfB B 0)]) (by decide) (Nat.le_of_ble_eq_true rfl) rfl (fun g hg C q => ?_)
  subst hg
  exact ebX9_flip_0 C H0 q hf
theorem dX9_put_0 : decode cX9_put 0 = .ok (.aload_n 0, 1) := by decide +kernel
theorem dX9_put_1 : decode cX9_put 1 = .ok (.getfield 67, 3) := by decide +kernel
theorem dX9_put_4 : decode cX9_put 4 = .ok (.ifCond .ne 6, 3) := by decide +kernel
theorem dX9_put_7 : decode cX9_put 7 = .ok (.ldc 168, 2) := by decide +kernel
theorem dX9_put_9 : decode cX9_put 9 = .ok (.ireturn, 1) := by decide +kernel
theorem dX9_put_10 : decode cX9_put 10 = .ok (.iload_n 1, 1) := by decide +kernel
theorem dX9_put_11 : decode cX9_put 11 = .ok (.bipush 41, 2) := by decide +kernel
theorem dX9_put_13 : decode cX9_put 13 = .ok (.invokestatic 83, 3) := by decide +kernel
theorem dX9_put_16 : decode cX9_put 16 = .ok (.ifCond .eq 23, 3) := by decide +kernel
theorem dX9_put_19 : decode cX9_put 19 = .ok (.iload_n 2, 1) := by decide +kernel
theorem dX9_put_20 : decode cX9_put 20 = .ok (.iconst 3, 1) := by decide +kernel
theorem dX9_put_21 : decode cX9_put 21 = .ok (.invokestatic 83, 3) := by decide +kernel
theorem dX9_put_24 : decode cX9_put 24 = .ok (.ifCond .eq 15, 3) := by decide +kernel
theorem dX9_put_27 : decode cX9_put 27 = .ok (.aload_n 0, 1) := by decide +kernel
theorem dX9_put_28 : decode cX9_put 28 = .ok (.getfield 26, 3) := by decide +kernel
theorem dX9_put_31 : decode cX9_put 31 = .ok (.iload_n 1, 1) := by decide +kernel
theorem dX9_put_32 : decode cX9_put 32 = .ok (.invokevirtual 198, 3) := by decide +kernel
theorem dX9_put_35 : decode cX9_put 35 = .ok (.iconst (-1), 1) := by decide +kernel
theorem dX9_put_36 : decode cX9_put 36 = .ok (.if_icmp .eq 6, 3) := by decide +kernel
theorem dX9_put_39 : decode cX9_put 39 = .ok (.ldc 87, 2) := by decide +kernel
theorem dX9_put_41 : decode cX9_put 41 = .ok (.ireturn, 1) := by decide +kernel
theorem dX9_put_42 : decode cX9_put 42 = .ok (.aload_n 0, 1) := by decide +kernel
theorem dX9_put_43 : decode cX9_put 43 = .ok (.getfield 40, 3) := by decide +kernel
theorem dX9_put_46 : decode cX9_put 46 = .ok (.aload_n 0, 1) := by decide +kernel
theorem dX9_put_47 : decode cX9_put 47 = .ok (.getfield 33, 3) := by decide +kernel
theorem dX9_put_50 : decode cX9_put 50 = .ok (.invokevirtual 175, 3) := by decide +kernel
theorem dX9_put_53 : decode cX9_put 53 = .ok (.aload_n 0, 1) := by decide +kernel
theorem dX9_put_54 : decode cX9_put 54 = .ok (.getfield 33, 3) := by decide +kernel
theorem dX9_put_57 : decode cX9_put 57 = .ok (.iload_n 1, 1) := by decide +kernel
theorem dX9_put_58 : decode cX9_put 58 = .ok (.iload_n 2, 1) := by decide +kernel
theorem dX9_put_59 : decode cX9_put 59 = .ok (.invokevirtual 201, 3) := by decide +kernel
theorem dX9_put_62 : decode cX9_put 62 = .ok (.iload_n 1, 1) := by decide +kernel
theorem dX9_put_63 : decode cX9_put 63 = .ok (.iconst 4, 1) := by decide +kernel
theorem dX9_put_64 : decode cX9_put 64 = .ok (.imul, 1) := by decide +kernel
theorem dX9_put_65 : decode cX9_put 65 = .ok (.iload_n 2, 1) := by decide +kernel
theorem dX9_put_66 : decode cX9_put 66 = .ok (.iadd, 1) := by decide +kernel
theorem dX9_put_67 : decode cX9_put 67 = .ok (.ireturn, 1) := by decide +kernel
theorem lkX9_198 : LkN "BumperBalls" 198 yX7_pinIn cX7_pinIn 2 (some Jvm.ClassFile.FieldType.int) 1 := ⟨wk_526, wk_4, wk_525, wk_s21, ⟨by decide +kernel, by decide +kernel, by decide +kernel⟩, (List.mem_of_getElem? (i := 61) (by decide +kernel))⟩
theorem lkX9_201 : LkN "BumperBalls" 201 yX4_place cX4_place 3 none 2 := ⟨wk_550, wk_5, wk_549, wk_s26, ⟨by decide +kernel, by decide +kernel, by decide +kernel⟩, (List.mem_of_getElem? (i := 62) (by decide +kernel))⟩
/-! BumperBalls.put(II)I -/
def fnX9_put_39 (I0 : Mem) : Option (Int32 × Mem) :=
  some ((-1000001), I0)
set_option maxRecDepth 20000 in
set_option maxHeartbeats 2000000 in
theorem ebX9_put_39 {g : Cfg} (C : Cx g RX9 cX9_put 3 3 81 0 0) {h : Shp} (H0 : XAt h) {r1 : Int32} {o1 : Mem} (q : QI g (some Jvm.ClassFile.FieldType.int) 0 0 r1 (o1, h)) {I0 : Mem} (hf : fnX9_put_39 I0 = some (r1, o1)) : XE g 0 0 (I0, h) 39 [] [] := by
  unfold fnX9_put_39 at hf
  refine xr_ldc C wk_352 dX9_put_39 ?_
  exact xr_ireturn C q rfl rfl dX9_put_41 (so_1 hf) (so_w hf)
def fnX9_put (I0 : Mem) (p1 : Int32) (p2 : Int32) : Option (Int32 × Mem) :=
  if (I0 0 9) = 0 then (some ((-1000002), I0)) else (ob (fnX9_isUpTo I0 p1 41) fun ⟨r4, I3⟩ => if r4 = 0 then (fnX9_put_39 I3) else (ob (fnX9_isUpTo I3 p2 3) fun ⟨r8, I7⟩ => if r8 = 0 then (fnX9_put_39 I7) else (ob (fnX7_pinIn 21 I7 p1) fun ⟨r12, I11⟩ => if r12 = (-1) then (ob (fnX0_keep 27 I11) fun I15 => ob (fnX4_place 27 I15 p1 p2) fun I17 => some (((p1 * 4) + p2), I17)) else (fnX9_put_39 I11))))
set_option maxRecDepth 20000 in
set_option maxHeartbeats 2000000 in
theorem ebX9_put_0 {g : Cfg} (C : Cx g RX9 cX9_put 3 3 81 0 0) {h : Shp} (H0 : XAt h) {r1 : Int32} {o1 : Mem} (q : QI g (some Jvm.ClassFile.FieldType.int) 0 0 r1 (o1, h)) {I0 : Mem} {p1 : Int32} {p2 : Int32} (hf : fnX9_put I0 p1 p2 = some (r1, o1)) : XE g 0 0 (I0, h) 0 [(0, rf g 0), (1, .int p1), (2, .int p2)] [] := by
  unfold fnX9_put at hf
  refine xr_aload_n C dX9_put_0 0 rfl rfl ?_
  refine xr_geti C Kd9 (k := 9) (by decide) rfl wk_314 rfl H0.1 dX9_put_1 ?_
  refine xr_if_ne (tgt := 10) C dX9_put_4 (by decide) hf (fun c1 hf => ?_) (fun c1 hf => ?_)
  · refine xr_iload_n C dX9_put_10 1 rfl rfl ?_
    refine xr_bipush (v := 41) C dX9_put_11 (by decide) ?_
    obtain ⟨⟨r4, I3⟩, h2, hf⟩ := ob_x hf
    refine xr_callSI C [.int p1, .int 41] lkX9_83 (kX9_isUpTo h2) rfl (Nat.le_of_ble_eq_true rfl) rfl dX9_put_13 ⟨by decide, by decide, by decide⟩ rfl ?_
    refine xr_if_eq (tgt := 39) C dX9_put_16 (by decide) hf (fun c5 hf => ?_) (fun c5 hf => ?_)
    · refine xr_lv [] rfl ?_
      exact ebX9_put_39 C H0 q hf
    · refine xr_iload_n C dX9_put_19 2 rfl rfl ?_
      refine xr_iconst (v := 3) C dX9_put_20 (by decide) ?_
      obtain ⟨⟨r8, I7⟩, h6, hf⟩ := ob_x hf
      refine xr_callSI C [.int p2, .int 3] lkX9_83 (kX9_isUpTo h6) rfl (Nat.le_of_ble_eq_true rfl) rfl dX9_put_21 ⟨by decide, by decide, by decide⟩ rfl ?_
      refine xr_if_eq (tgt := 39) C dX9_put_24 (by decide) hf (fun c9 hf => ?_) (fun c9 hf => ?_)
      · refine xr_lv [] rfl ?_
        exact ebX9_put_39 C H0 q hf
      · refine xr_aload_n C dX9_put_27 0 rfl rfl ?_
        refine xr_getr C Kd9 (k := 2) (by decide) rfl wk_307 rfl H0.1 H0.2.2.2.1.1 dX9_put_28 ?_
        refine xr_iload_n C dX9_put_31 1 rfl rfl ?_
        obtain ⟨⟨r12, I11⟩, h10, hf⟩ := ob_x hf
        refine xr_callNI C [.int p1] lkX9_198 (kX7_pinIn H0.2.2.2.1.2 h10) Kd7 rfl H0.2.2.2.1.2.1 rfl (Nat.le_of_ble_eq_true rfl) rfl dX9_put_32 ⟨by decide, by decide, by decide⟩ rfl ?_
        refine xr_iconst (v := (-1)) C dX9_put_35 (by decide) ?_
        refine xr_icmp_eq (tgt := 42) C dX9_put_36 (by decide) hf (fun c13 hf => ?_) (fun c13 hf => ?_)
        · refine xr_aload_n C dX9_put_42 0 rfl rfl ?_
          refine xr_getr C Kd9 (k := 4) (by decide) rfl wk_309 rfl H0.1 H0.2.2.2.2.2.1.1 dX9_put_43 ?_
          refine xr_aload_n C dX9_put_46 0 rfl rfl ?_
          refine xr_getr C Kd9 (k := 3) (by decide) rfl wk_308 rfl H0.1 H0.2.2.2.2.1.1 dX9_put_47 ?_
          obtain ⟨I15, h14, hf⟩ := ob_x hf
          refine xr_callNV C [rf g 27] lkX9_175 (kX0_keep H0.2.2.2.2.2.1.2 H0.2.2.2.2.1.2 h14) Kd0 rfl H0.2.2.2.2.2.1.2.1 rfl (Nat.le_of_ble_eq_true rfl) rfl dX9_put_50 ⟨by decide, by decide, by decide⟩ rfl ?_
          refine xr_aload_n C dX9_put_53 0 rfl rfl ?_
          refine xr_getr C Kd9 (k := 3) (by decide) rfl wk_308 rfl H0.1 H0.2.2.2.2.1.1 dX9_put_54 ?_
          refine xr_iload_n C dX9_put_57 1 rfl rfl ?_
          refine xr_iload_n C dX9_put_58 2 rfl rfl ?_
          obtain ⟨I17, h16, hf⟩ := ob_x hf
          refine xr_callNV C [.int p1, .int p2] lkX9_201 (kX4_place H0.2.2.2.2.1.2 h16) Kd4 rfl H0.2.2.2.2.1.2.1 rfl (Nat.le_of_ble_eq_true rfl) rfl dX9_put_59 ⟨by decide, by decide, by decide⟩ rfl ?_
          refine xr_iload_n C dX9_put_62 1 rfl rfl ?_
          refine xr_iconst (v := 4) C dX9_put_63 (by decide) ?_
          refine xr_imul C dX9_put_64 ?_
          refine xr_iload_n C dX9_put_65 2 rfl rfl ?_
          refine xr_iadd C dX9_put_66 ?_
          exact xr_ireturn C q rfl rfl dX9_put_67 (so_1 hf) (so_w hf)
        · refine xr_lv [] rfl ?_
          exact ebX9_put_39 C H0 q hf
  · refine xr_ldc C wk_564 dX9_put_7 ?_
    exact xr_ireturn C q rfl rfl dX9_put_9 (so_1 hf) (so_w hf)
theorem kX9_put {B : Bs} {h : Shp} (H0 : XAt h) {I0 : Mem} {p1 : Int32} {p2 : Int32} {r1 : Int32} {o1 : Mem} (hf : fnX9_put I0 p1 p2 = some (r1, o1)) : CtrI B yX9_put cX9_put 3 (some Jvm.ClassFile.FieldType.int) 3 81 0 0 [rfB B 0, .int p1, .int p2] (I0, h) r1 (o1, h) := by
  refine xr_enterI (lv0 := [(0, rfB B 0), (1, .int p1), (2, .int p2)]) (by decide) (Nat.le_of_ble_eq_true rfl) rfl (fun g hg C q => ?_)
  subst hg
  exact ebX9_put_0 C H0 q hf
theorem dX9_undo_0 : decode cX9_undo 0 = .ok (.aload_n 0, 1) := by decide +kernel
theorem dX9_undo_1 : decode cX9_undo 1 = .ok (.getfield 40, 3) := by decide +kernel
theorem dX9_undo_4 : decode cX9_undo 4 = .ok (.getfield 204, 3) := by decide +kernel
theorem dX9_undo_7 : decode cX9_undo 7 = .ok (.ifCond .ne 6, 3) := by decide +kernel
theorem dX9_undo_10 : decode cX9_undo 10 = .ok (.ldc 168, 2) := by decide +kernel
theorem dX9_undo_12 : decode cX9_undo 12 = .ok (.ireturn, 1) := by decide +kernel
theorem dX9_undo_13 : decode cX9_undo 13 = .ok (.aload_n 0, 1) := by decide +kernel
theorem dX9_undo_14 : decode cX9_undo 14 = .ok (.getfield 40, 3) := by decide +kernel
theorem dX9_undo_17 : decode cX9_undo 17 = .ok (.aload_n 0, 1) := by decide +kernel
theorem dX9_undo_18 : decode cX9_undo 18 = .ok (.getfield 33, 3) := by decide +kernel
theorem dX9_undo_21 : decode cX9_undo 21 = .ok (.invokevirtual 207, 3) := by decide +kernel
theorem dX9_undo_24 : decode cX9_undo 24 = .ok (.aload_n 0, 1) := by decide +kernel
theorem dX9_undo_25 : decode cX9_undo 25 = .ok (.getfield 40, 3) := by decide +kernel
theorem dX9_undo_28 : decode cX9_undo 28 = .ok (.getfield 204, 3) := by decide +kernel
theorem dX9_undo_31 : decode cX9_undo 31 = .ok (.ireturn, 1) := by decide +kernel
theorem lkX9_207 : LkN "BumperBalls" 207 yX0_takeBack cX0_takeBack 2 none 1 := ⟨wk_628, wk_6, wk_627, wk_s37, ⟨by decide +kernel, by decide +kernel, by decide +kernel⟩, (List.mem_of_getElem? (i := 63) (by decide +kernel))⟩
/-! BumperBalls.undo()I -/
def fnX9_undo (I0 : Mem) : Option (Int32 × Mem) :=
  if (I0 29 2) = 0 then (some ((-1000002), I0)) else (ob (fnX0_takeBack 27 I0) fun I3 => some ((I3 29 2), I3))
set_option maxRecDepth 20000 in
set_option maxHeartbeats 2000000 in
theorem ebX9_undo_0 {g : Cfg} (C : Cx g RX9 cX9_undo 1 3 81 0 0) {h : Shp} (H0 : XAt h) {r1 : Int32} {o1 : Mem} (q : QI g (some Jvm.ClassFile.FieldType.int) 0 0 r1 (o1, h)) {I0 : Mem} (hf : fnX9_undo I0 = some (r1, o1)) : XE g 0 0 (I0, h) 0 [(0, rf g 0)] [] := by
  unfold fnX9_undo at hf
  refine xr_aload_n C dX9_undo_0 0 rfl rfl ?_
  refine xr_getr C Kd9 (k := 4) (by decide) rfl wk_309 rfl H0.1 H0.2.2.2.2.2.1.1 dX9_undo_1 ?_
  refine xr_getiN C Kd0 (k := 2) (by decide) rfl nk15 rfl H0.2.2.2.2.2.1.2.1 dX9_undo_4 ?_
  refine xr_if_ne (tgt := 13) C dX9_undo_7 (by decide) hf (fun c1 hf => ?_) (fun c1 hf => ?_)
  · refine xr_aload_n C dX9_undo_13 0 rfl rfl ?_
    refine xr_getr C Kd9 (k := 4) (by decide) rfl wk_309 rfl H0.1 H0.2.2.2.2.2.1.1 dX9_undo_14 ?_
    refine xr_aload_n C dX9_undo_17 0 rfl rfl ?_
    refine xr_getr C Kd9 (k := 3) (by decide) rfl wk_308 rfl H0.1 H0.2.2.2.2.1.1 dX9_undo_18 ?_
    obtain ⟨I3, h2, hf⟩ := ob_x hf
    refine xr_callNV C [rf g 27] lkX9_207 (kX0_takeBack H0.2.2.2.2.2.1.2 H0.2.2.2.2.1.2 h2) Kd0 rfl H0.2.2.2.2.2.1.2.1 rfl (Nat.le_of_ble_eq_true rfl) rfl dX9_undo_21 ⟨by decide, by decide, by decide⟩ rfl ?_
    refine xr_aload_n C dX9_undo_24 0 rfl rfl ?_
    refine xr_getr C Kd9 (k := 4) (by decide) rfl wk_309 rfl H0.1 H0.2.2.2.2.2.1.1 dX9_undo_25 ?_
    refine xr_getiN C Kd0 (k := 2) (by decide) rfl nk15 rfl H0.2.2.2.2.2.1.2.1 dX9_undo_28 ?_
    exact xr_ireturn C q rfl rfl dX9_undo_31 (so_1 hf) (so_w hf)
  · refine xr_ldc C wk_564 dX9_undo_10 ?_
    exact xr_ireturn C q rfl rfl dX9_undo_12 (so_1 hf) (so_w hf)
theorem kX9_undo {B : Bs} {h : Shp} (H0 : XAt h) {I0 : Mem} {r1 : Int32} {o1 : Mem} (hf : fnX9_undo I0 = some (r1, o1)) : CtrI B yX9_undo cX9_undo 1 (some Jvm.ClassFile.FieldType.int) 3 81 0 0 [rfB B 0] (I0, h) r1 (o1, h) := by
  refine xr_enterI (lv0 := [(0, rfB B 0)]) (by decide) (Nat.le_of_ble_eq_true rfl) rfl (fun g hg C q => ?_)
  subst hg
  exact ebX9_undo_0 C H0 q hf
