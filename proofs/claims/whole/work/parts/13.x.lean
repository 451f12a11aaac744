theorem dX8_readPin_0 : decode cX8_readPin 0 = .ok (.aload_n 0, 1) := by decide +kernel
theorem dX8_readPin_1 : decode cX8_readPin 1 = .ok (.getfield 32, 3) := by decide +kernel
theorem dX8_readPin_4 : decode cX8_readPin 4 = .ok (.ifCond .ne 20, 3) := by decide +kernel
theorem dX8_readPin_7 : decode cX8_readPin 7 = .ok (.aload_n 0, 1) := by decide +kernel
theorem dX8_readPin_8 : decode cX8_readPin 8 = .ok (.getfield 22, 3) := by decide +kernel
theorem dX8_readPin_11 : decode cX8_readPin 11 = .ok (.getfield 84, 3) := by decide +kernel
theorem dX8_readPin_14 : decode cX8_readPin 14 = .ok (.bipush 6, 2) := by decide +kernel
theorem dX8_readPin_16 : decode cX8_readPin 16 = .ok (.if_icmp .lt 8, 3) := by decide +kernel
theorem dX8_readPin_19 : decode cX8_readPin 19 = .ok (.aload_n 0, 1) := by decide +kernel
theorem dX8_readPin_20 : decode cX8_readPin 20 = .ok (.iconst 3, 1) := by decide +kernel
theorem dX8_readPin_21 : decode cX8_readPin 21 = .ok (.putfield 32, 3) := by decide +kernel
theorem dX8_readPin_24 : decode cX8_readPin 24 = .ok (.aload_n 0, 1) := by decide +kernel
theorem dX8_readPin_25 : decode cX8_readPin 25 = .ok (.invokevirtual 87, 3) := by decide +kernel
theorem dX8_readPin_28 : decode cX8_readPin 28 = .ok (.istore_n 1, 1) := by decide +kernel
theorem dX8_readPin_29 : decode cX8_readPin 29 = .ok (.aload_n 0, 1) := by decide +kernel
theorem dX8_readPin_30 : decode cX8_readPin 30 = .ok (.invokevirtual 91, 3) := by decide +kernel
theorem dX8_readPin_33 : decode cX8_readPin 33 = .ok (.istore_n 2, 1) := by decide +kernel
theorem dX8_readPin_34 : decode cX8_readPin 34 = .ok (.aload_n 0, 1) := by decide +kernel
theorem dX8_readPin_35 : decode cX8_readPin 35 = .ok (.iconst 0, 1) := by decide +kernel
theorem dX8_readPin_36 : decode cX8_readPin 36 = .ok (.bipush 7, 2) := by decide +kernel
theorem dX8_readPin_38 : decode cX8_readPin 38 = .ok (.invokevirtual 74, 3) := by decide +kernel
theorem dX8_readPin_41 : decode cX8_readPin 41 = .ok (.istore_n 3, 1) := by decide +kernel
theorem dX8_readPin_42 : decode cX8_readPin 42 = .ok (.aload_n 0, 1) := by decide +kernel
theorem dX8_readPin_43 : decode cX8_readPin 43 = .ok (.iconst 0, 1) := by decide +kernel
theorem dX8_readPin_44 : decode cX8_readPin 44 = .ok (.bipush 99, 2) := by decide +kernel
theorem dX8_readPin_46 : decode cX8_readPin 46 = .ok (.invokevirtual 74, 3) := by decide +kernel
theorem dX8_readPin_49 : decode cX8_readPin 49 = .ok (.istore 4, 2) := by decide +kernel
theorem dX8_readPin_51 : decode cX8_readPin 51 = .ok (.aload_n 0, 1) := by decide +kernel
theorem dX8_readPin_52 : decode cX8_readPin 52 = .ok (.invokevirtual 81, 3) := by decide +kernel
theorem dX8_readPin_55 : decode cX8_readPin 55 = .ok (.aload_n 0, 1) := by decide +kernel
theorem dX8_readPin_56 : decode cX8_readPin 56 = .ok (.getfield 32, 3) := by decide +kernel
theorem dX8_readPin_59 : decode cX8_readPin 59 = .ok (.ifCond .ne 15, 3) := by decide +kernel
theorem dX8_readPin_62 : decode cX8_readPin 62 = .ok (.aload_n 0, 1) := by decide +kernel
theorem dX8_readPin_63 : decode cX8_readPin 63 = .ok (.getfield 22, 3) := by decide +kernel
theorem dX8_readPin_66 : decode cX8_readPin 66 = .ok (.iload_n 1, 1) := by decide +kernel
theorem dX8_readPin_67 : decode cX8_readPin 67 = .ok (.iload_n 2, 1) := by decide +kernel
theorem dX8_readPin_68 : decode cX8_readPin 68 = .ok (.iload_n 3, 1) := by decide +kernel
theorem dX8_readPin_69 : decode cX8_readPin 69 = .ok (.iload 4, 2) := by decide +kernel
theorem dX8_readPin_71 : decode cX8_readPin 71 = .ok (.invokevirtual 94, 3) := by decide +kernel
theorem dX8_readPin_74 : decode cX8_readPin 74 = .ok (.return_, 1) := by decide +kernel
theorem lkX8_87 : LkV "BumperBalls$Tape" 87 yX8_takeKind cX8_takeKind 2 (some Jvm.ClassFile.FieldType.int) 0 := ⟨wk_513, wk_3, wk_512, wk_s19, ⟨by decide +kernel, by decide +kernel, by decide +kernel⟩, wk_510⟩
theorem lkX8_91 : LkV "BumperBalls$Tape" 91 yX8_takeFreeCell cX8_takeFreeCell 4 (some Jvm.ClassFile.FieldType.int) 0 := ⟨wk_522, wk_3, wk_521, wk_s20, ⟨by decide +kernel, by decide +kernel, by decide +kernel⟩, wk_519⟩
theorem lkX8_94 : LkN "BumperBalls$Tape" 94 yX7_addPin cX7_addPin 5 none 4 := ⟨wk_531, wk_4, wk_530, wk_s22, ⟨by decide +kernel, by decide +kernel, by decide +kernel⟩, (List.mem_of_getElem? (i := 107) (by decide +kernel))⟩
/-! BumperBalls$Tape.readPin()V -/
def fnX8_readPin_74 (I0 : Mem) : Option Mem :=
  some I0
set_option maxRecDepth 20000 in
set_option maxHeartbeats 2000000 in
theorem ebX8_readPin_74 {g : Cfg} (C : Cx g RX8 cX8_readPin 5 6 128 0 0) {h : Shp} (H0 : TapeAt h) {o1 : Mem} (q : QV g 0 0 (o1, h)) {I0 : Mem} (hf : fnX8_readPin_74 I0 = some o1) : XE g 0 0 (I0, h) 74 [] [] := by
  unfold fnX8_readPin_74 at hf
  exact xr_return C q dX8_readPin_74 (so_v hf)
def fnX8_readPin_24 (I0 : Mem) : Option Mem :=
  ob (fnX8_takeKind I0) fun ⟨r3, I2⟩ => ob (fnX8_takeFreeCell I2) fun ⟨r6, I5⟩ => ob (fnX8_takeNumber I5 0 7) fun ⟨r9, I8⟩ => ob (fnX8_takeNumber I8 0 99) fun ⟨r12, I11⟩ => ob (fnX8_takeSemicolon I11) fun I14 => if (I14 13 5) = 0 then (ob (fnX7_addPin 15 I14 r3 r6 r9 r12) fun I17 => fnX8_readPin_74 I17) else (fnX8_readPin_74 I14)
set_option maxRecDepth 20000 in
set_option maxHeartbeats 2000000 in
theorem ebX8_readPin_24 {g : Cfg} (C : Cx g RX8 cX8_readPin 5 6 128 0 0) {h : Shp} (H0 : TapeAt h) {o1 : Mem} (q : QV g 0 0 (o1, h)) {I0 : Mem} (hf : fnX8_readPin_24 I0 = some o1) : XE g 0 0 (I0, h) 24 [(0, rf g 13)] [] := by
  unfold fnX8_readPin_24 at hf
  refine xr_aload_n C dX8_readPin_24 0 rfl rfl ?_
  obtain ⟨⟨r3, I2⟩, h1, hf⟩ := ob_x hf
  refine xr_callVI C [] lkX8_87 (kX8_takeKind H0 h1) Kd8 rfl H0.1 rfl (Nat.le_of_ble_eq_true rfl) rfl dX8_readPin_25 ⟨by decide, by decide, by decide⟩ rfl ?_
  refine xr_istore_n C dX8_readPin_28 rfl (by decide) rfl ?_
  refine xr_aload_n C dX8_readPin_29 1 rfl rfl ?_
  obtain ⟨⟨r6, I5⟩, h4, hf⟩ := ob_x hf
  refine xr_callVI C [] lkX8_91 (kX8_takeFreeCell H0 h4) Kd8 rfl H0.1 rfl (Nat.le_of_ble_eq_true rfl) rfl dX8_readPin_30 ⟨by decide, by decide, by decide⟩ rfl ?_
  refine xr_istore_n C dX8_readPin_33 rfl (by decide) rfl ?_
  refine xr_aload_n C dX8_readPin_34 2 rfl rfl ?_
  refine xr_iconst (v := 0) C dX8_readPin_35 (by decide) ?_
  refine xr_bipush (v := 7) C dX8_readPin_36 (by decide) ?_
  obtain ⟨⟨r9, I8⟩, h7, hf⟩ := ob_x hf
  refine xr_callVI C [.int 0, .int 7] lkX8_74 (kX8_takeNumber H0 h7) Kd8 rfl H0.1 rfl (Nat.le_of_ble_eq_true rfl) rfl dX8_readPin_38 ⟨by decide, by decide, by decide⟩ rfl ?_
  refine xr_istore_n C dX8_readPin_41 rfl (by decide) rfl ?_
  refine xr_aload_n C dX8_readPin_42 3 rfl rfl ?_
  refine xr_iconst (v := 0) C dX8_readPin_43 (by decide) ?_
  refine xr_bipush (v := 99) C dX8_readPin_44 (by decide) ?_
  obtain ⟨⟨r12, I11⟩, h10, hf⟩ := ob_x hf
  refine xr_callVI C [.int 0, .int 99] lkX8_74 (kX8_takeNumber H0 h10) Kd8 rfl H0.1 rfl (Nat.le_of_ble_eq_true rfl) rfl dX8_readPin_46 ⟨by decide, by decide, by decide⟩ rfl ?_
  refine xr_istore C dX8_readPin_49 (by decide) rfl ?_
  refine xr_aload_n C dX8_readPin_51 4 rfl rfl ?_
  obtain ⟨I14, h13, hf⟩ := ob_x hf
  refine xr_callVV C [] lkX8_81 (kX8_takeSemicolon H0 h13) Kd8 rfl H0.1 rfl (Nat.le_of_ble_eq_true rfl) rfl dX8_readPin_52 ⟨by decide, by decide, by decide⟩ rfl ?_
  refine xr_aload_n C dX8_readPin_55 4 rfl rfl ?_
  refine xr_geti C Kd8 (k := 5) (by decide) rfl wk_109 rfl H0.1 dX8_readPin_56 ?_
  refine xr_if_ne (tgt := 74) C dX8_readPin_59 (by decide) hf (fun c15 hf => ?_) (fun c15 hf => ?_)
  · refine xr_lv [] rfl ?_
    exact ebX8_readPin_74 C H0 q hf
  · refine xr_aload_n C dX8_readPin_62 4 rfl rfl ?_
    refine xr_getr C Kd8 (k := 2) (by decide) rfl wk_103 rfl H0.1 H0.2.2.1 dX8_readPin_63 ?_
    refine xr_iload_n C dX8_readPin_66 3 rfl rfl ?_
    refine xr_iload_n C dX8_readPin_67 2 rfl rfl ?_
    refine xr_iload_n C dX8_readPin_68 1 rfl rfl ?_
    refine xr_iload C dX8_readPin_69 0 rfl ?_
    obtain ⟨I17, h16, hf⟩ := ob_x hf
    refine xr_callNV C [.int r3, .int r6, .int r9, .int r12] lkX8_94 (kX7_addPin H0.2.2.2 h16) Kd7 rfl H0.2.2.2.1 rfl (Nat.le_of_ble_eq_true rfl) rfl dX8_readPin_71 ⟨by decide, by decide, by decide⟩ rfl ?_
    refine xr_lv [] rfl ?_
    exact ebX8_readPin_74 C H0 q hf
def fnX8_readPin (I0 : Mem) : Option Mem :=
  if (I0 13 5) = 0 then (if (I0 15 1) < 6 then (fnX8_readPin_24 I0) else (bnd (up2 I0 13 5 3) fun I3 => fnX8_readPin_24 I3)) else (fnX8_readPin_24 I0)
set_option maxRecDepth 20000 in
set_option maxHeartbeats 2000000 in
theorem ebX8_readPin_0 {g : Cfg} (C : Cx g RX8 cX8_readPin 5 6 128 0 0) {h : Shp} (H0 : TapeAt h) {o1 : Mem} (q : QV g 0 0 (o1, h)) {I0 : Mem} (hf : fnX8_readPin I0 = some o1) : XE g 0 0 (I0, h) 0 [(0, rf g 13)] [] := by
  unfold fnX8_readPin at hf
  refine xr_aload_n C dX8_readPin_0 0 rfl rfl ?_
  refine xr_geti C Kd8 (k := 5) (by decide) rfl wk_109 rfl H0.1 dX8_readPin_1 ?_
  refine xr_if_ne (tgt := 24) C dX8_readPin_4 (by decide) hf (fun c1 hf => ?_) (fun c1 hf => ?_)
  · exact ebX8_readPin_24 C H0 q hf
  · refine xr_aload_n C dX8_readPin_7 0 rfl rfl ?_
    refine xr_getr C Kd8 (k := 2) (by decide) rfl wk_103 rfl H0.1 H0.2.2.1 dX8_readPin_8 ?_
    refine xr_getiN C Kd7 (k := 1) (by decide) rfl nk48 rfl H0.2.2.2.1 dX8_readPin_11 ?_
    refine xr_bipush (v := 6) C dX8_readPin_14 (by decide) ?_
    refine xr_icmp_lt (tgt := 24) C dX8_readPin_16 (by decide) hf (fun c2 hf => ?_) (fun c2 hf => ?_)
    · exact ebX8_readPin_24 C H0 q hf
    · refine xr_aload_n C dX8_readPin_19 0 rfl rfl ?_
      refine xr_iconst (v := 3) C dX8_readPin_20 (by decide) ?_
      obtain ⟨I3, eI3, hf⟩ := bnd_x hf
      refine xr_putI C Kd8 (k := 5) (by decide) rfl rfl wk_109 rfl rfl rfl H0.1 dX8_readPin_21 eI3 ?_
      exact ebX8_readPin_24 C H0 q hf
theorem kX8_readPin {B : Bs} {h : Shp} (H0 : TapeAt h) {I0 : Mem} {o1 : Mem} (hf : fnX8_readPin I0 = some o1) : CtrV B yX8_readPin cX8_readPin 5 6 128 0 0 [rfB B 13] (I0, h) (o1, h) := by
  refine xr_enterV (lv0 := [(0, rfB B 13)]) (by decide) (Nat.le_of_ble_eq_true rfl) rfl (fun g hg C q => ?_)
  subst hg
  exact ebX8_readPin_0 C H0 q hf
theorem dX8_readBall_0 : decode cX8_readBall 0 = .ok (.aload_n 0, 1) := by decide +kernel
theorem dX8_readBall_1 : decode cX8_readBall 1 = .ok (.aload_n 0, 1) := by decide +kernel
theorem dX8_readBall_2 : decode cX8_readBall 2 = .ok (.ldc 98, 2) := by decide +kernel
theorem dX8_readBall_4 : decode cX8_readBall 4 = .ok (.invokevirtual 58, 3) := by decide +kernel
theorem dX8_readBall_7 : decode cX8_readBall 7 = .ok (.invokevirtual 68, 3) := by decide +kernel
theorem dX8_readBall_10 : decode cX8_readBall 10 = .ok (.aload_n 0, 1) := by decide +kernel
theorem dX8_readBall_11 : decode cX8_readBall 11 = .ok (.aload_n 0, 1) := by decide +kernel
theorem dX8_readBall_12 : decode cX8_readBall 12 = .ok (.invokevirtual 91, 3) := by decide +kernel
theorem dX8_readBall_15 : decode cX8_readBall 15 = .ok (.putfield 26, 3) := by decide +kernel
theorem dX8_readBall_18 : decode cX8_readBall 18 = .ok (.aload_n 0, 1) := by decide +kernel
theorem dX8_readBall_19 : decode cX8_readBall 19 = .ok (.aload_n 0, 1) := by decide +kernel
theorem dX8_readBall_20 : decode cX8_readBall 20 = .ok (.iconst 0, 1) := by decide +kernel
theorem dX8_readBall_21 : decode cX8_readBall 21 = .ok (.iconst 3, 1) := by decide +kernel
theorem dX8_readBall_22 : decode cX8_readBall 22 = .ok (.invokevirtual 74, 3) := by decide +kernel
theorem dX8_readBall_25 : decode cX8_readBall 25 = .ok (.putfield 29, 3) := by decide +kernel
theorem dX8_readBall_28 : decode cX8_readBall 28 = .ok (.aload_n 0, 1) := by decide +kernel
theorem dX8_readBall_29 : decode cX8_readBall 29 = .ok (.invokevirtual 81, 3) := by decide +kernel
theorem dX8_readBall_32 : decode cX8_readBall 32 = .ok (.return_, 1) := by decide +kernel
/-! BumperBalls$Tape.readBall()V -/
def fnX8_readBall (I0 : Mem) : Option Mem :=
  ob (fnX8_isName 2 I0) fun ⟨r3, I2⟩ => ob (fnX8_demand I2 r3) fun I5 => ob (fnX8_takeFreeCell I5) fun ⟨r8, I7⟩ => bnd (up2 I7 13 3 r8) fun I9 => ob (fnX8_takeNumber I9 0 3) fun ⟨r12, I11⟩ => bnd (up2 I11 13 4 r12) fun I13 => ob (fnX8_takeSemicolon I13) fun I15 => some I15
set_option maxRecDepth 20000 in
set_option maxHeartbeats 2000000 in
theorem ebX8_readBall_0 {g : Cfg} (C : Cx g RX8 cX8_readBall 1 5 107 0 0) {h : Shp} (H0 : TapeAt h) {o1 : Mem} (q : QV g 0 0 (o1, h)) {I0 : Mem} (hf : fnX8_readBall I0 = some o1) : XE g 0 0 (I0, h) 0 [(0, rf g 13)] [] := by
  unfold fnX8_readBall at hf
  refine xr_aload_n C dX8_readBall_0 0 rfl rfl ?_
  refine xr_aload_n C dX8_readBall_1 0 rfl rfl ?_
  refine xr_ldcs (i := 2) C (by decide) rfl rfl dX8_readBall_2 ?_
  obtain ⟨⟨r3, I2⟩, h1, hf⟩ := ob_x hf
  refine xr_callVI C [srf g 2] lkX8_58 (kX8_isName H0 (by decide) h1) Kd8 rfl H0.1 rfl (Nat.le_of_ble_eq_true rfl) rfl dX8_readBall_4 ⟨by decide, by decide, by decide⟩ rfl ?_
  obtain ⟨I5, h4, hf⟩ := ob_x hf
  refine xr_callVV C [.int r3] lkX8_68 (kX8_demand H0 h4) Kd8 rfl H0.1 rfl (Nat.le_of_ble_eq_true rfl) rfl dX8_readBall_7 ⟨by decide, by decide, by decide⟩ rfl ?_
  refine xr_aload_n C dX8_readBall_10 0 rfl rfl ?_
  refine xr_aload_n C dX8_readBall_11 0 rfl rfl ?_
  obtain ⟨⟨r8, I7⟩, h6, hf⟩ := ob_x hf
  refine xr_callVI C [] lkX8_91 (kX8_takeFreeCell H0 h6) Kd8 rfl H0.1 rfl (Nat.le_of_ble_eq_true rfl) rfl dX8_readBall_12 ⟨by decide, by decide, by decide⟩ rfl ?_
  obtain ⟨I9, eI9, hf⟩ := bnd_x hf
  refine xr_putI C Kd8 (k := 3) (by decide) rfl rfl wk_105 rfl rfl rfl H0.1 dX8_readBall_15 eI9 ?_
  refine xr_aload_n C dX8_readBall_18 0 rfl rfl ?_
  refine xr_aload_n C dX8_readBall_19 0 rfl rfl ?_
  refine xr_iconst (v := 0) C dX8_readBall_20 (by decide) ?_
  refine xr_iconst (v := 3) C dX8_readBall_21 (by decide) ?_
  obtain ⟨⟨r12, I11⟩, h10, hf⟩ := ob_x hf
  refine xr_callVI C [.int 0, .int 3] lkX8_74 (kX8_takeNumber H0 h10) Kd8 rfl H0.1 rfl (Nat.le_of_ble_eq_true rfl) rfl dX8_readBall_22 ⟨by decide, by decide, by decide⟩ rfl ?_
  obtain ⟨I13, eI13, hf⟩ := bnd_x hf
  refine xr_putI C Kd8 (k := 4) (by decide) rfl rfl wk_107 rfl rfl rfl H0.1 dX8_readBall_25 eI13 ?_
  refine xr_aload_n C dX8_readBall_28 0 rfl rfl ?_
  obtain ⟨I15, h14, hf⟩ := ob_x hf
  refine xr_callVV C [] lkX8_81 (kX8_takeSemicolon H0 h14) Kd8 rfl H0.1 rfl (Nat.le_of_ble_eq_true rfl) rfl dX8_readBall_29 ⟨by decide, by decide, by decide⟩ rfl ?_
  exact xr_return C q dX8_readBall_32 (so_v hf)
theorem kX8_readBall {B : Bs} {h : Shp} (H0 : TapeAt h) {I0 : Mem} {o1 : Mem} (hf : fnX8_readBall I0 = some o1) : CtrV B yX8_readBall cX8_readBall 1 5 107 0 0 [rfB B 13] (I0, h) (o1, h) := by
  refine xr_enterV (lv0 := [(0, rfB B 13)]) (by decide) (Nat.le_of_ble_eq_true rfl) rfl (fun g hg C q => ?_)
  subst hg
  exact ebX8_readBall_0 C H0 q hf
theorem dX8_readAll_0 : decode cX8_readAll 0 = .ok (.aload_n 0, 1) := by decide +kernel
theorem dX8_readAll_1 : decode cX8_readAll 1 = .ok (.iconst 0, 1) := by decide +kernel
theorem dX8_readAll_2 : decode cX8_readAll 2 = .ok (.putfield 35, 3) := by decide +kernel
theorem dX8_readAll_5 : decode cX8_readAll 5 = .ok (.aload_n 0, 1) := by decide +kernel
theorem dX8_readAll_6 : decode cX8_readAll 6 = .ok (.iconst 0, 1) := by decide +kernel
theorem dX8_readAll_7 : decode cX8_readAll 7 = .ok (.putfield 32, 3) := by decide +kernel
theorem dX8_readAll_10 : decode cX8_readAll 10 = .ok (.aload_n 0, 1) := by decide +kernel
theorem dX8_readAll_11 : decode cX8_readAll 11 = .ok (.getfield 22, 3) := by decide +kernel
theorem dX8_readAll_14 : decode cX8_readAll 14 = .ok (.invokevirtual 47, 3) := by decide +kernel
theorem dX8_readAll_17 : decode cX8_readAll 17 = .ok (.aload_n 0, 1) := by decide +kernel
theorem dX8_readAll_18 : decode cX8_readAll 18 = .ok (.invokevirtual 50, 3) := by decide +kernel
theorem dX8_readAll_21 : decode cX8_readAll 21 = .ok (.aload_n 0, 1) := by decide +kernel
theorem dX8_readAll_22 : decode cX8_readAll 22 = .ok (.invokevirtual 53, 3) := by decide +kernel
theorem dX8_readAll_25 : decode cX8_readAll 25 = .ok (.iconst 0, 1) := by decide +kernel
theorem dX8_readAll_26 : decode cX8_readAll 26 = .ok (.istore_n 1, 1) := by decide +kernel
theorem dX8_readAll_27 : decode cX8_readAll 27 = .ok (.iload_n 1, 1) := by decide +kernel
theorem dX8_readAll_28 : decode cX8_readAll 28 = .ok (.bipush 6, 2) := by decide +kernel
theorem dX8_readAll_30 : decode cX8_readAll 30 = .ok (.if_icmp .gt 26, 3) := by decide +kernel
theorem dX8_readAll_33 : decode cX8_readAll 33 = .ok (.aload_n 0, 1) := by decide +kernel
theorem dX8_readAll_34 : decode cX8_readAll 34 = .ok (.ldc 56, 2) := by decide +kernel
theorem dX8_readAll_36 : decode cX8_readAll 36 = .ok (.invokevirtual 58, 3) := by decide +kernel
theorem dX8_readAll_39 : decode cX8_readAll 39 = .ok (.ifCond .eq 17, 3) := by decide +kernel
theorem dX8_readAll_42 : decode cX8_readAll 42 = .ok (.aload_n 0, 1) := by decide +kernel
theorem dX8_readAll_43 : decode cX8_readAll 43 = .ok (.invokevirtual 62, 3) := by decide +kernel
theorem dX8_readAll_46 : decode cX8_readAll 46 = .ok (.aload_n 0, 1) := by decide +kernel
theorem dX8_readAll_47 : decode cX8_readAll 47 = .ok (.invokevirtual 53, 3) := by decide +kernel
theorem dX8_readAll_50 : decode cX8_readAll 50 = .ok (.iinc 1 1, 3) := by decide +kernel
theorem dX8_readAll_53 : decode cX8_readAll 53 = .ok (.goto (-26), 3) := by decide +kernel
theorem dX8_readAll_56 : decode cX8_readAll 56 = .ok (.aload_n 0, 1) := by decide +kernel
theorem dX8_readAll_57 : decode cX8_readAll 57 = .ok (.invokevirtual 65, 3) := by decide +kernel
theorem dX8_readAll_60 : decode cX8_readAll 60 = .ok (.aload_n 0, 1) := by decide +kernel
theorem dX8_readAll_61 : decode cX8_readAll 61 = .ok (.invokevirtual 53, 3) := by decide +kernel
theorem dX8_readAll_64 : decode cX8_readAll 64 = .ok (.aload_n 0, 1) := by decide +kernel
theorem dX8_readAll_65 : decode cX8_readAll 65 = .ok (.aload_n 0, 1) := by decide +kernel
theorem dX8_readAll_66 : decode cX8_readAll 66 = .ok (.getfield 41, 3) := by decide +kernel
theorem dX8_readAll_69 : decode cX8_readAll 69 = .ok (.ifCond .ne 7, 3) := by decide +kernel
theorem dX8_readAll_72 : decode cX8_readAll 72 = .ok (.iconst 1, 1) := by decide +kernel
theorem dX8_readAll_73 : decode cX8_readAll 73 = .ok (.goto 4, 3) := by decide +kernel
theorem dX8_readAll_76 : decode cX8_readAll 76 = .ok (.iconst 0, 1) := by decide +kernel
theorem dX8_readAll_77 : decode cX8_readAll 77 = .ok (.invokevirtual 68, 3) := by decide +kernel
theorem dX8_readAll_80 : decode cX8_readAll 80 = .ok (.return_, 1) := by decide +kernel
theorem lkX8_47 : LkN "BumperBalls$Tape" 47 yX7_clear cX7_clear 2 none 0 := ⟨wk_62, wk_4, wk_61, wk_s0, ⟨by decide +kernel, by decide +kernel, by decide +kernel⟩, (List.mem_of_getElem? (i := 106) (by decide +kernel))⟩
theorem lkX8_50 : LkV "BumperBalls$Tape" 50 yX8_readLaw cX8_readLaw 1 none 0 := ⟨wk_418, wk_3, wk_417, wk_s10, ⟨by decide +kernel, by decide +kernel, by decide +kernel⟩, wk_415⟩
theorem lkX8_62 : LkV "BumperBalls$Tape" 62 yX8_readPin cX8_readPin 5 none 0 := ⟨wk_509, wk_3, wk_508, wk_s18, ⟨by decide +kernel, by decide +kernel, by decide +kernel⟩, wk_506⟩
theorem lkX8_65 : LkV "BumperBalls$Tape" 65 yX8_readBall cX8_readBall 1 none 0 := ⟨wk_535, wk_3, wk_534, wk_s23, ⟨by decide +kernel, by decide +kernel, by decide +kernel⟩, wk_532⟩
/-! BumperBalls$Tape.readAll()V -/
def fnX8_readAll_77 (I0 : Mem) (t1 : Int32) : Option Mem :=
  ob (fnX8_demand I0 t1) fun I2 => some I2
set_option maxRecDepth 20000 in
set_option maxHeartbeats 2000000 in
theorem ebX8_readAll_77 {g : Cfg} (C : Cx g RX8 cX8_readAll 2 7 152 0 0) {h : Shp} (H0 : TapeAt h) {o1 : Mem} (q : QV g 0 0 (o1, h)) {I0 : Mem} {t1 : Int32} (hf : fnX8_readAll_77 I0 t1 = some o1) : XE g 0 0 (I0, h) 77 [] [.int t1, rf g 13] := by
  unfold fnX8_readAll_77 at hf
  obtain ⟨I2, h1, hf⟩ := ob_x hf
  refine xr_callVV C [.int t1] lkX8_68 (kX8_demand H0 h1) Kd8 rfl H0.1 rfl (Nat.le_of_ble_eq_true rfl) rfl dX8_readAll_77 ⟨by decide, by decide, by decide⟩ rfl ?_
  exact xr_return C q dX8_readAll_80 (so_v hf)
def fnX8_readAll_56 (I0 : Mem) : Option Mem :=
  ob (fnX8_readBall I0) fun I2 => ob (fnX8_take I2) fun I4 => if (I4 13 8) = 0 then (fnX8_readAll_77 I4 1) else (fnX8_readAll_77 I4 0)
set_option maxRecDepth 20000 in
set_option maxHeartbeats 2000000 in
theorem ebX8_readAll_56 {g : Cfg} (C : Cx g RX8 cX8_readAll 2 7 152 0 0) {h : Shp} (H0 : TapeAt h) {o1 : Mem} (q : QV g 0 0 (o1, h)) {I0 : Mem} (hf : fnX8_readAll_56 I0 = some o1) : XE g 0 0 (I0, h) 56 [(0, rf g 13)] [] := by
  unfold fnX8_readAll_56 at hf
  refine xr_aload_n C dX8_readAll_56 0 rfl rfl ?_
  obtain ⟨I2, h1, hf⟩ := ob_x hf
  refine xr_callVV C [] lkX8_65 (kX8_readBall H0 h1) Kd8 rfl H0.1 rfl (Nat.le_of_ble_eq_true rfl) rfl dX8_readAll_57 ⟨by decide, by decide, by decide⟩ rfl ?_
  refine xr_aload_n C dX8_readAll_60 0 rfl rfl ?_
  obtain ⟨I4, h3, hf⟩ := ob_x hf
  refine xr_callVV C [] lkX8_53 (kX8_take H0 h3) Kd8 rfl H0.1 rfl (Nat.le_of_ble_eq_true rfl) rfl dX8_readAll_61 ⟨by decide, by decide, by decide⟩ rfl ?_
  refine xr_aload_n C dX8_readAll_64 0 rfl rfl ?_
  refine xr_aload_n C dX8_readAll_65 0 rfl rfl ?_
  refine xr_geti C Kd8 (k := 8) (by decide) rfl wk_114 rfl H0.1 dX8_readAll_66 ?_
  refine xr_if_ne (tgt := 76) C dX8_readAll_69 (by decide) hf (fun c5 hf => ?_) (fun c5 hf => ?_)
  · refine xr_iconst (v := 0) C dX8_readAll_76 (by decide) ?_
    refine xr_lv [] rfl ?_
    exact ebX8_readAll_77 C H0 q hf
  · refine xr_iconst (v := 1) C dX8_readAll_72 (by decide) ?_
    refine xr_goto (tgt := 77) C dX8_readAll_73 (by decide) ?_
    refine xr_lv [] rfl ?_
    exact ebX8_readAll_77 C H0 q hf
def fnX8_readAll_27b (rec27 : Mem → Int32 → Option Mem) (I0 : Mem) (l1 : Int32) : Option Mem :=
  if 6 < l1 then (fnX8_readAll_56 I0) else (ob (fnX8_isName 0 I0) fun ⟨r4, I3⟩ => if r4 = 0 then (fnX8_readAll_56 I3) else (ob (fnX8_readPin I3) fun I7 => ob (fnX8_take I7) fun I9 => bnd (l1 + 1) fun v10 => rec27 I9 v10))
def fnX8_readAll_27 : Nat → Mem → Int32 → Option Mem
  | 0 => fun _ _ => none
  | fu + 1 => fnX8_readAll_27b (fnX8_readAll_27 fu)
set_option maxRecDepth 20000 in
set_option maxHeartbeats 2000000 in
theorem ebX8_readAll_27b {g : Cfg} (C : Cx g RX8 cX8_readAll 2 7 152 0 0) {h : Shp} (H0 : TapeAt h) {o1 : Mem} {rec27 : Mem → Int32 → Option Mem} (q : QV g 0 0 (o1, h)) (ih27 : ∀ (I0 : Mem) (l1 : Int32), rec27 I0 l1 = some o1 → XE g 0 0 (I0, h) 27 [(0, rf g 13), (1, .int l1)] []) {I0 : Mem} {l1 : Int32} (hf : fnX8_readAll_27b rec27 I0 l1 = some o1) : XE g 0 0 (I0, h) 27 [(0, rf g 13), (1, .int l1)] [] := by
  unfold fnX8_readAll_27b at hf
  refine xr_iload_n C dX8_readAll_27 1 rfl rfl ?_
  refine xr_bipush (v := 6) C dX8_readAll_28 (by decide) ?_
  refine xr_icmp_gt (tgt := 56) C dX8_readAll_30 (by decide) hf (fun c1 hf => ?_) (fun c1 hf => ?_)
  · refine xr_lv [0] rfl ?_
    exact ebX8_readAll_56 C H0 q hf
  · refine xr_aload_n C dX8_readAll_33 0 rfl rfl ?_
    refine xr_ldcs (i := 0) C (by decide) rfl rfl dX8_readAll_34 ?_
    obtain ⟨⟨r4, I3⟩, h2, hf⟩ := ob_x hf
    refine xr_callVI C [srf g 0] lkX8_58 (kX8_isName H0 (by decide) h2) Kd8 rfl H0.1 rfl (Nat.le_of_ble_eq_true rfl) rfl dX8_readAll_36 ⟨by decide, by decide, by decide⟩ rfl ?_
    refine xr_if_eq (tgt := 56) C dX8_readAll_39 (by decide) hf (fun c5 hf => ?_) (fun c5 hf => ?_)
    · refine xr_lv [0] rfl ?_
      exact ebX8_readAll_56 C H0 q hf
    · refine xr_aload_n C dX8_readAll_42 0 rfl rfl ?_
      obtain ⟨I7, h6, hf⟩ := ob_x hf
      refine xr_callVV C [] lkX8_62 (kX8_readPin H0 h6) Kd8 rfl H0.1 rfl (Nat.le_of_ble_eq_true rfl) rfl dX8_readAll_43 ⟨by decide, by decide, by decide⟩ rfl ?_
      refine xr_aload_n C dX8_readAll_46 0 rfl rfl ?_
      obtain ⟨I9, h8, hf⟩ := ob_x hf
      refine xr_callVV C [] lkX8_53 (kX8_take H0 h8) Kd8 rfl H0.1 rfl (Nat.le_of_ble_eq_true rfl) rfl dX8_readAll_47 ⟨by decide, by decide, by decide⟩ rfl ?_
      obtain ⟨v10, ev10, hf⟩ := bnd_x hf
      refine xr_iinc (k := 1) (v := v10) C dX8_readAll_50 rfl (by rw [ev10]; rfl) (by decide) rfl ?_
      refine xr_goto (tgt := 27) C dX8_readAll_53 (by decide) ?_
      refine xr_lv [1, 0] rfl ?_
      exact ih27 _ _ hf
theorem ebX8_readAll_27 {g : Cfg} (C : Cx g RX8 cX8_readAll 2 7 152 0 0) {h : Shp} (H0 : TapeAt h) {o1 : Mem} (q : QV g 0 0 (o1, h)) : ∀ (fu : Nat) {I0 : Mem} {l1 : Int32} (hf : fnX8_readAll_27 fu I0 l1 = some o1), XE g 0 0 (I0, h) 27 [(0, rf g 13), (1, .int l1)] [] := by
  intro fu
  induction fu with
  | zero =>
    intro I0 l1 hf
    cases hf
  | succ fu ihn =>
    intro I0 l1 hf
    exact ebX8_readAll_27b C H0 q (fun _ _ hf => ihn hf) hf
def fnX8_readAll (I0 : Mem) : Option Mem :=
  bnd (up2 I0 13 6 0) fun I1 => bnd (up2 I1 13 5 0) fun I2 => ob (fnX7_clear 15 I2) fun I4 => ob (fnX8_readLaw I4) fun I6 => ob (fnX8_take I6) fun I8 => fnX8_readAll_27 FU I8 0
set_option maxRecDepth 20000 in
set_option maxHeartbeats 2000000 in
theorem ebX8_readAll_0 {g : Cfg} (C : Cx g RX8 cX8_readAll 2 7 152 0 0) {h : Shp} (H0 : TapeAt h) {o1 : Mem} (q : QV g 0 0 (o1, h)) {I0 : Mem} (hf : fnX8_readAll I0 = some o1) : XE g 0 0 (I0, h) 0 [(0, rf g 13)] [] := by
  unfold fnX8_readAll at hf
  refine xr_aload_n C dX8_readAll_0 0 rfl rfl ?_
  refine xr_iconst (v := 0) C dX8_readAll_1 (by decide) ?_
  obtain ⟨I1, eI1, hf⟩ := bnd_x hf
  refine xr_putI C Kd8 (k := 6) (by decide) rfl rfl wk_111 rfl rfl rfl H0.1 dX8_readAll_2 eI1 ?_
  refine xr_aload_n C dX8_readAll_5 0 rfl rfl ?_
  refine xr_iconst (v := 0) C dX8_readAll_6 (by decide) ?_
  obtain ⟨I2, eI2, hf⟩ := bnd_x hf
  refine xr_putI C Kd8 (k := 5) (by decide) rfl rfl wk_109 rfl rfl rfl H0.1 dX8_readAll_7 eI2 ?_
  refine xr_aload_n C dX8_readAll_10 0 rfl rfl ?_
  refine xr_getr C Kd8 (k := 2) (by decide) rfl wk_103 rfl H0.1 H0.2.2.1 dX8_readAll_11 ?_
  obtain ⟨I4, h3, hf⟩ := ob_x hf
  refine xr_callNV C [] lkX8_47 (kX7_clear H0.2.2.2 h3) Kd7 rfl H0.2.2.2.1 rfl (Nat.le_of_ble_eq_true rfl) rfl dX8_readAll_14 ⟨by decide, by decide, by decide⟩ rfl ?_
  refine xr_aload_n C dX8_readAll_17 0 rfl rfl ?_
  obtain ⟨I6, h5, hf⟩ := ob_x hf
  refine xr_callVV C [] lkX8_50 (kX8_readLaw H0 h5) Kd8 rfl H0.1 rfl (Nat.le_of_ble_eq_true rfl) rfl dX8_readAll_18 ⟨by decide, by decide, by decide⟩ rfl ?_
  refine xr_aload_n C dX8_readAll_21 0 rfl rfl ?_
  obtain ⟨I8, h7, hf⟩ := ob_x hf
  refine xr_callVV C [] lkX8_53 (kX8_take H0 h7) Kd8 rfl H0.1 rfl (Nat.le_of_ble_eq_true rfl) rfl dX8_readAll_22 ⟨by decide, by decide, by decide⟩ rfl ?_
  refine xr_iconst (v := 0) C dX8_readAll_25 (by decide) ?_
  refine xr_istore_n C dX8_readAll_26 rfl (by decide) rfl ?_
  refine xr_lv [1, 0] rfl ?_
  exact ebX8_readAll_27 C H0 q _ hf
theorem kX8_readAll {B : Bs} {h : Shp} (H0 : TapeAt h) {I0 : Mem} {o1 : Mem} (hf : fnX8_readAll I0 = some o1) : CtrV B yX8_readAll cX8_readAll 2 7 152 0 0 [rfB B 13] (I0, h) (o1, h) := by
  refine xr_enterV (lv0 := [(0, rfB B 13)]) (by decide) (Nat.le_of_ble_eq_true rfl) rfl (fun g hg C q => ?_)
  subst hg
  exact ebX8_readAll_0 C H0 q hf
theorem dX1_begin_0 : decode cX1_begin 0 = .ok (.aload_n 0, 1) := by decide +kernel
theorem dX1_begin_1 : decode cX1_begin 1 = .ok (.iconst 0, 1) := by decide +kernel
theorem dX1_begin_2 : decode cX1_begin 2 = .ok (.putfield 15, 3) := by decide +kernel
theorem dX1_begin_5 : decode cX1_begin 5 = .ok (.aload_n 0, 1) := by decide +kernel
theorem dX1_begin_6 : decode cX1_begin 6 = .ok (.iload_n 1, 1) := by decide +kernel
theorem dX1_begin_7 : decode cX1_begin 7 = .ok (.putfield 19, 3) := by decide +kernel
theorem dX1_begin_10 : decode cX1_begin 10 = .ok (.aload_n 0, 1) := by decide +kernel
theorem dX1_begin_11 : decode cX1_begin 11 = .ok (.aload_n 2, 1) := by decide +kernel
theorem dX1_begin_12 : decode cX1_begin 12 = .ok (.getfield 31, 3) := by decide +kernel
theorem dX1_begin_15 : decode cX1_begin 15 = .ok (.iload_n 1, 1) := by decide +kernel
theorem dX1_begin_16 : decode cX1_begin 16 = .ok (.iaload, 1) := by decide +kernel
theorem dX1_begin_17 : decode cX1_begin 17 = .ok (.putfield 22, 3) := by decide +kernel
theorem dX1_begin_20 : decode cX1_begin 20 = .ok (.aload_n 0, 1) := by decide +kernel
theorem dX1_begin_21 : decode cX1_begin 21 = .ok (.aload_n 2, 1) := by decide +kernel
theorem dX1_begin_22 : decode cX1_begin 22 = .ok (.getfield 36, 3) := by decide +kernel
theorem dX1_begin_25 : decode cX1_begin 25 = .ok (.iload_n 1, 1) := by decide +kernel
theorem dX1_begin_26 : decode cX1_begin 26 = .ok (.iaload, 1) := by decide +kernel
theorem dX1_begin_27 : decode cX1_begin 27 = .ok (.putfield 25, 3) := by decide +kernel
theorem dX1_begin_30 : decode cX1_begin 30 = .ok (.aload_n 0, 1) := by decide +kernel
theorem dX1_begin_31 : decode cX1_begin 31 = .ok (.aload_n 3, 1) := by decide +kernel
theorem dX1_begin_32 : decode cX1_begin 32 = .ok (.getfield 38, 3) := by decide +kernel
theorem dX1_begin_35 : decode cX1_begin 35 = .ok (.iload_n 1, 1) := by decide +kernel
theorem dX1_begin_36 : decode cX1_begin 36 = .ok (.iaload, 1) := by decide +kernel
theorem dX1_begin_37 : decode cX1_begin 37 = .ok (.putfield 28, 3) := by decide +kernel
theorem dX1_begin_40 : decode cX1_begin 40 = .ok (.return_, 1) := by decide +kernel
/-! BumperBalls$Asks.begin(ILBumperBalls$Table;LBumperBalls$Play;)V -/
def fnX1_begin (a2 : Nat) (a3 : Nat) (I0 : Mem) (p1 : Int32) : Option Mem :=
  bnd (up2 I0 91 1 0) fun I1 => bnd (up2 I1 91 2 p1) fun I2 => ck (inb p1 6) <| bnd (up2 I2 91 3 (I2 (a2 + 1) (ix p1))) fun I4 => ck (inb p1 6) <| bnd (up2 I4 91 4 (I4 (a2 + 4) (ix p1))) fun I6 => ck (inb p1 6) <| bnd (up2 I6 91 5 (I6 (a3 + 1) (ix p1))) fun I8 => some I8
set_option maxRecDepth 20000 in
set_option maxHeartbeats 2000000 in
theorem ebX1_begin_0 {g : Cfg} (C : Cx g RX1 cX1_begin 4 0 0 0 0) {h : Shp} {a2 : Nat} {a3 : Nat} (H0 : AsksAt h) (H2 : TableAt h a2) (H3 : PlayAt h a3) {o1 : Mem} (q : QV g 0 0 (o1, h)) {I0 : Mem} {p1 : Int32} (hf : fnX1_begin a2 a3 I0 p1 = some o1) : XE g 0 0 (I0, h) 0 [(0, rf g 91), (1, .int p1), (2, rf g a2), (3, rf g a3)] [] := by
  unfold fnX1_begin at hf
  refine xr_aload_n C dX1_begin_0 0 rfl rfl ?_
  refine xr_iconst (v := 0) C dX1_begin_1 (by decide) ?_
  obtain ⟨I1, eI1, hf⟩ := bnd_x hf
  refine xr_putI C Kd1 (k := 1) (by decide) rfl rfl wk_264 rfl rfl rfl H0.1 dX1_begin_2 eI1 ?_
  refine xr_aload_n C dX1_begin_5 0 rfl rfl ?_
  refine xr_iload_n C dX1_begin_6 1 rfl rfl ?_
  obtain ⟨I2, eI2, hf⟩ := bnd_x hf
  refine xr_putI C Kd1 (k := 2) (by decide) rfl rfl wk_266 rfl rfl rfl H0.1 dX1_begin_7 eI2 ?_
  refine xr_aload_n C dX1_begin_10 0 rfl rfl ?_
  refine xr_aload_n C dX1_begin_11 2 rfl rfl ?_
  refine xr_getrN C Kd7 (k := 2) (by decide) rfl nk30 rfl H2.1 H2.2.1.1 dX1_begin_12 ?_
  refine xr_iload_n C dX1_begin_15 1 rfl rfl ?_
  obtain ⟨i3, hf⟩ := ck_x hf
  refine xr_iald C H2.2.1.2 i3 dX1_begin_16 ?_
  obtain ⟨I4, eI4, hf⟩ := bnd_x hf
  refine xr_putI C Kd1 (k := 3) (by decide) rfl rfl wk_267 rfl rfl rfl H0.1 dX1_begin_17 eI4 ?_
  refine xr_aload_n C dX1_begin_20 0 rfl rfl ?_
  refine xr_aload_n C dX1_begin_21 2 rfl rfl ?_
  refine xr_getrN C Kd7 (k := 5) (by decide) rfl nk31 rfl H2.1 H2.2.2.2.2.1.1 dX1_begin_22 ?_
  refine xr_iload_n C dX1_begin_25 1 rfl rfl ?_
  obtain ⟨i5, hf⟩ := ck_x hf
  refine xr_iald C H2.2.2.2.2.1.2 i5 dX1_begin_26 ?_
  obtain ⟨I6, eI6, hf⟩ := bnd_x hf
  refine xr_putI C Kd1 (k := 4) (by decide) rfl rfl wk_268 rfl rfl rfl H0.1 dX1_begin_27 eI6 ?_
  refine xr_aload_n C dX1_begin_30 0 rfl rfl ?_
  refine xr_aload_n C dX1_begin_31 3 rfl rfl ?_
  refine xr_getrN C Kd4 (k := 8) (by decide) rfl nk32 rfl H3.1 H3.2.1 dX1_begin_32 ?_
  refine xr_iload_n C dX1_begin_35 1 rfl rfl ?_
  obtain ⟨i7, hf⟩ := ck_x hf
  refine xr_iald C H3.2.2 i7 dX1_begin_36 ?_
  obtain ⟨I8, eI8, hf⟩ := bnd_x hf
  refine xr_putI C Kd1 (k := 5) (by decide) rfl rfl wk_269 rfl rfl rfl H0.1 dX1_begin_37 eI8 ?_
  exact xr_return C q dX1_begin_40 (so_v hf)
theorem kX1_begin {B : Bs} {h : Shp} {a2 : Nat} {a3 : Nat} (H0 : AsksAt h) (H2 : TableAt h a2) (H3 : PlayAt h a3) {I0 : Mem} {p1 : Int32} {o1 : Mem} (hf : fnX1_begin a2 a3 I0 p1 = some o1) : CtrV B yX1_begin cX1_begin 4 0 0 0 0 [rfB B 91, .int p1, rfB B a2, rfB B a3] (I0, h) (o1, h) := by
  refine xr_enterV (lv0 := [(0, rfB B 91), (1, .int p1), (2, rfB B a2), (3, rfB B a3)]) (by decide) (Nat.le_of_ble_eq_true rfl) rfl (fun g hg C q => ?_)
  subst hg
  exact ebX1_begin_0 C H0 H2 H3 q hf
theorem dX1_leave_0 : decode cX1_leave 0 = .ok (.aload_n 0, 1) := by decide +kernel
theorem dX1_leave_1 : decode cX1_leave 1 = .ok (.getfield 15, 3) := by decide +kernel
theorem dX1_leave_4 : decode cX1_leave 4 = .ok (.bipush 16, 2) := by decide +kernel
theorem dX1_leave_6 : decode cX1_leave 6 = .ok (.if_icmp .ge 23, 3) := by decide +kernel
theorem dX1_leave_9 : decode cX1_leave 9 = .ok (.aload_n 0, 1) := by decide +kernel
theorem dX1_leave_10 : decode cX1_leave 10 = .ok (.getfield 9, 3) := by decide +kernel
theorem dX1_leave_13 : decode cX1_leave 13 = .ok (.aload_n 0, 1) := by decide +kernel
theorem dX1_leave_14 : decode cX1_leave 14 = .ok (.getfield 15, 3) := by decide +kernel
theorem dX1_leave_17 : decode cX1_leave 17 = .ok (.iload_n 1, 1) := by decide +kernel
theorem dX1_leave_18 : decode cX1_leave 18 = .ok (.iastore, 1) := by decide +kernel
theorem dX1_leave_19 : decode cX1_leave 19 = .ok (.aload_n 0, 1) := by decide +kernel
theorem dX1_leave_20 : decode cX1_leave 20 = .ok (.dup, 1) := by decide +kernel
theorem dX1_leave_21 : decode cX1_leave 21 = .ok (.getfield 15, 3) := by decide +kernel
theorem dX1_leave_24 : decode cX1_leave 24 = .ok (.iconst 1, 1) := by decide +kernel
theorem dX1_leave_25 : decode cX1_leave 25 = .ok (.iadd, 1) := by decide +kernel
theorem dX1_leave_26 : decode cX1_leave 26 = .ok (.putfield 15, 3) := by decide +kernel
theorem dX1_leave_29 : decode cX1_leave 29 = .ok (.return_, 1) := by decide +kernel
/-! BumperBalls$Asks.leave(I)V -/
def fnX1_leave_29 (I0 : Mem) : Option Mem :=
  some I0
set_option maxRecDepth 20000 in
set_option maxHeartbeats 2000000 in
theorem ebX1_leave_29 {g : Cfg} (C : Cx g RX1 cX1_leave 2 0 0 0 0) {h : Shp} (H0 : AsksAt h) {o1 : Mem} (q : QV g 0 0 (o1, h)) {I0 : Mem} (hf : fnX1_leave_29 I0 = some o1) : XE g 0 0 (I0, h) 29 [] [] := by
  unfold fnX1_leave_29 at hf
  exact xr_return C q dX1_leave_29 (so_v hf)
def fnX1_leave (I0 : Mem) (p1 : Int32) : Option Mem :=
  if 16 ≤ (I0 91 1) then (fnX1_leave_29 I0) else (ck (inb (I0 91 1) 16) <| bnd (up2 I0 92 (ix (I0 91 1)) p1) fun I3 => bnd (up2 I3 91 1 ((I3 91 1) + 1)) fun I4 => fnX1_leave_29 I4)
set_option maxRecDepth 20000 in
set_option maxHeartbeats 2000000 in
theorem ebX1_leave_0 {g : Cfg} (C : Cx g RX1 cX1_leave 2 0 0 0 0) {h : Shp} (H0 : AsksAt h) {o1 : Mem} (q : QV g 0 0 (o1, h)) {I0 : Mem} {p1 : Int32} (hf : fnX1_leave I0 p1 = some o1) : XE g 0 0 (I0, h) 0 [(0, rf g 91), (1, .int p1)] [] := by
  unfold fnX1_leave at hf
  refine xr_aload_n C dX1_leave_0 0 rfl rfl ?_
  refine xr_geti C Kd1 (k := 1) (by decide) rfl wk_264 rfl H0.1 dX1_leave_1 ?_
  refine xr_bipush (v := 16) C dX1_leave_4 (by decide) ?_
  refine xr_icmp_ge (tgt := 29) C dX1_leave_6 (by decide) hf (fun c1 hf => ?_) (fun c1 hf => ?_)
  · refine xr_lv [] rfl ?_
    exact ebX1_leave_29 C H0 q hf
  · refine xr_aload_n C dX1_leave_9 0 rfl rfl ?_
    refine xr_getr C Kd1 (k := 0) (by decide) rfl wk_262 rfl H0.1 H0.2.1 dX1_leave_10 ?_
    refine xr_aload_n C dX1_leave_13 0 rfl rfl ?_
    refine xr_geti C Kd1 (k := 1) (by decide) rfl wk_264 rfl H0.1 dX1_leave_14 ?_
    refine xr_iload_n C dX1_leave_17 1 rfl rfl ?_
    obtain ⟨i2, hf⟩ := ck_x hf
    obtain ⟨I3, eI3, hf⟩ := bnd_x hf
    refine xr_iast C H0.2.2 i2 dX1_leave_18 eI3 ?_
    refine xr_aload_n C dX1_leave_19 0 rfl rfl ?_
    refine xr_dup C dX1_leave_20 rfl ?_
    refine xr_geti C Kd1 (k := 1) (by decide) rfl wk_264 rfl H0.1 dX1_leave_21 ?_
    refine xr_iconst (v := 1) C dX1_leave_24 (by decide) ?_
    refine xr_iadd C dX1_leave_25 ?_
    obtain ⟨I4, eI4, hf⟩ := bnd_x hf
    refine xr_putI C Kd1 (k := 1) (by decide) rfl rfl wk_264 rfl rfl rfl H0.1 dX1_leave_26 eI4 ?_
    refine xr_lv [] rfl ?_
    exact ebX1_leave_29 C H0 q hf
theorem kX1_leave {B : Bs} {h : Shp} (H0 : AsksAt h) {I0 : Mem} {p1 : Int32} {o1 : Mem} (hf : fnX1_leave I0 p1 = some o1) : CtrV B yX1_leave cX1_leave 2 0 0 0 0 [rfB B 91, .int p1] (I0, h) (o1, h) := by
  refine xr_enterV (lv0 := [(0, rfB B 91), (1, .int p1)]) (by decide) (Nat.le_of_ble_eq_true rfl) rfl (fun g hg C q => ?_)
  subst hg
  exact ebX1_leave_0 C H0 q hf
theorem dX9_isOfKind_0 : decode cX9_isOfKind 0 = .ok (.iload_n 0, 1) := by decide +kernel
theorem dX9_isOfKind_1 : decode cX9_isOfKind 1 = .ok (.istore_n 2, 1) := by decide +kernel
theorem dX9_isOfKind_2 : decode cX9_isOfKind 2 = .ok (.iconst 0, 1) := by decide +kernel
theorem dX9_isOfKind_3 : decode cX9_isOfKind 3 = .ok (.istore_n 3, 1) := by decide +kernel
theorem dX9_isOfKind_4 : decode cX9_isOfKind 4 = .ok (.iload_n 3, 1) := by decide +kernel
theorem dX9_isOfKind_5 : decode cX9_isOfKind 5 = .ok (.getstatic 300, 3) := by decide +kernel
theorem dX9_isOfKind_8 : decode cX9_isOfKind 8 = .ok (.arraylength, 1) := by decide +kernel
theorem dX9_isOfKind_9 : decode cX9_isOfKind 9 = .ok (.if_icmp .ge 34, 3) := by decide +kernel
theorem dX9_isOfKind_12 : decode cX9_isOfKind 12 = .ok (.iload_n 2, 1) := by decide +kernel
theorem dX9_isOfKind_13 : decode cX9_isOfKind 13 = .ok (.ifCond .lt 30, 3) := by decide +kernel
theorem dX9_isOfKind_16 : decode cX9_isOfKind 16 = .ok (.iload_n 2, 1) := by decide +kernel
theorem dX9_isOfKind_17 : decode cX9_isOfKind 17 = .ok (.getstatic 300, 3) := by decide +kernel
theorem dX9_isOfKind_20 : decode cX9_isOfKind 20 = .ok (.arraylength, 1) := by decide +kernel
theorem dX9_isOfKind_21 : decode cX9_isOfKind 21 = .ok (.if_icmp .ge 22, 3) := by decide +kernel
theorem dX9_isOfKind_24 : decode cX9_isOfKind 24 = .ok (.iload_n 2, 1) := by decide +kernel
theorem dX9_isOfKind_25 : decode cX9_isOfKind 25 = .ok (.iload_n 1, 1) := by decide +kernel
theorem dX9_isOfKind_26 : decode cX9_isOfKind 26 = .ok (.if_icmp .ne 5, 3) := by decide +kernel
theorem dX9_isOfKind_29 : decode cX9_isOfKind 29 = .ok (.iconst 1, 1) := by decide +kernel
theorem dX9_isOfKind_30 : decode cX9_isOfKind 30 = .ok (.ireturn, 1) := by decide +kernel
theorem dX9_isOfKind_31 : decode cX9_isOfKind 31 = .ok (.getstatic 300, 3) := by decide +kernel
theorem dX9_isOfKind_34 : decode cX9_isOfKind 34 = .ok (.iload_n 2, 1) := by decide +kernel
theorem dX9_isOfKind_35 : decode cX9_isOfKind 35 = .ok (.iaload, 1) := by decide +kernel
theorem dX9_isOfKind_36 : decode cX9_isOfKind 36 = .ok (.istore_n 2, 1) := by decide +kernel
theorem dX9_isOfKind_37 : decode cX9_isOfKind 37 = .ok (.iinc 3 1, 3) := by decide +kernel
theorem dX9_isOfKind_40 : decode cX9_isOfKind 40 = .ok (.goto (-36), 3) := by decide +kernel
theorem dX9_isOfKind_43 : decode cX9_isOfKind 43 = .ok (.iconst 0, 1) := by decide +kernel
theorem dX9_isOfKind_44 : decode cX9_isOfKind 44 = .ok (.ireturn, 1) := by decide +kernel
/-! BumperBalls.isOfKind(II)Z -/
def fnX9_isOfKind_43 (I0 : Mem) : Option (Int32 × Mem) :=
  some (0, I0)
set_option maxRecDepth 20000 in
set_option maxHeartbeats 2000000 in
theorem ebX9_isOfKind_43 {g : Cfg} (C : Cx g RX9 cX9_isOfKind 4 0 0 0 0) {h : Shp} {r1 : Int32} {o1 : Mem} (q : QI g (some Jvm.ClassFile.FieldType.boolean) 0 0 r1 (o1, h)) {I0 : Mem} (hf : fnX9_isOfKind_43 I0 = some (r1, o1)) : XE g 0 0 (I0, h) 43 [] [] := by
  unfold fnX9_isOfKind_43 at hf
  refine xr_iconst (v := 0) C dX9_isOfKind_43 (by decide) ?_
  exact xr_ireturn C q rfl rfl dX9_isOfKind_44 (so_1 hf) (so_w hf)
def fnX9_isOfKind_4b (rec4 : Mem → Int32 → Int32 → Int32 → Option (Int32 × Mem)) (I0 : Mem) (l1 : Int32) (l2 : Int32) (l3 : Int32) : Option (Int32 × Mem) :=
  if 6 ≤ l3 then (fnX9_isOfKind_43 I0) else (if l2 < 0 then (fnX9_isOfKind_43 I0) else (if 6 ≤ l2 then (fnX9_isOfKind_43 I0) else (if l2 = l1 then (some (1, I0)) else (ck (inb l2 6) <| bnd (nearV (ix l2)) fun v6 => bnd (l3 + 1) fun v7 => rec4 I0 l1 v6 v7))))
def fnX9_isOfKind_4 : Nat → Mem → Int32 → Int32 → Int32 → Option (Int32 × Mem)
  | 0 => fun _ _ _ _ => none
  | fu + 1 => fnX9_isOfKind_4b (fnX9_isOfKind_4 fu)
set_option maxRecDepth 20000 in
set_option maxHeartbeats 2000000 in
theorem ebX9_isOfKind_4b {g : Cfg} (C : Cx g RX9 cX9_isOfKind 4 0 0 0 0) {h : Shp} {r1 : Int32} {o1 : Mem} {rec4 : Mem → Int32 → Int32 → Int32 → Option (Int32 × Mem)} (q : QI g (some Jvm.ClassFile.FieldType.boolean) 0 0 r1 (o1, h)) (ih4 : ∀ (I0 : Mem) (l1 : Int32) (l2 : Int32) (l3 : Int32), rec4 I0 l1 l2 l3 = some (r1, o1) → XE g 0 0 (I0, h) 4 [(1, .int l1), (2, .int l2), (3, .int l3)] []) {I0 : Mem} {l1 : Int32} {l2 : Int32} {l3 : Int32} (hf : fnX9_isOfKind_4b rec4 I0 l1 l2 l3 = some (r1, o1)) : XE g 0 0 (I0, h) 4 [(1, .int l1), (2, .int l2), (3, .int l3)] [] := by
  unfold fnX9_isOfKind_4b at hf
  refine xr_iload_n C dX9_isOfKind_4 2 rfl rfl ?_
  refine xr_near C wk_758 dX9_isOfKind_5 ?_
  refine xr_nearLen C dX9_isOfKind_8 ?_
  refine xr_icmp_ge (tgt := 43) C dX9_isOfKind_9 (by decide) hf (fun c1 hf => ?_) (fun c1 hf => ?_)
  · refine xr_lv [] rfl ?_
    exact ebX9_isOfKind_43 C q hf
  · refine xr_iload_n C dX9_isOfKind_12 1 rfl rfl ?_
    refine xr_if_lt (tgt := 43) C dX9_isOfKind_13 (by decide) hf (fun c2 hf => ?_) (fun c2 hf => ?_)
    · refine xr_lv [] rfl ?_
      exact ebX9_isOfKind_43 C q hf
    · refine xr_iload_n C dX9_isOfKind_16 1 rfl rfl ?_
      refine xr_near C wk_758 dX9_isOfKind_17 ?_
      refine xr_nearLen C dX9_isOfKind_20 ?_
      refine xr_icmp_ge (tgt := 43) C dX9_isOfKind_21 (by decide) hf (fun c3 hf => ?_) (fun c3 hf => ?_)
      · refine xr_lv [] rfl ?_
        exact ebX9_isOfKind_43 C q hf
      · refine xr_iload_n C dX9_isOfKind_24 1 rfl rfl ?_
        refine xr_iload_n C dX9_isOfKind_25 0 rfl rfl ?_
        refine xr_icmp_ne (tgt := 31) C dX9_isOfKind_26 (by decide) hf (fun c4 hf => ?_) (fun c4 hf => ?_)
        · refine xr_near C wk_758 dX9_isOfKind_31 ?_
          refine xr_iload_n C dX9_isOfKind_34 1 rfl rfl ?_
          obtain ⟨i5, hf⟩ := ck_x hf
          refine xr_nearAt C i5 dX9_isOfKind_35 ?_
          obtain ⟨v6, ev6, hf⟩ := bnd_x hf
          refine xr_nm ev6 ?_
          refine xr_istore_n C dX9_isOfKind_36 rfl (by decide) rfl ?_
          obtain ⟨v7, ev7, hf⟩ := bnd_x hf
          refine xr_iinc (k := 2) (v := v7) C dX9_isOfKind_37 rfl (by rw [ev7]; rfl) (by decide) rfl ?_
          refine xr_goto (tgt := 4) C dX9_isOfKind_40 (by decide) ?_
          refine xr_lv [2, 1, 0] rfl ?_
          exact ih4 _ _ _ _ hf
        · refine xr_iconst (v := 1) C dX9_isOfKind_29 (by decide) ?_
          exact xr_ireturn C q rfl rfl dX9_isOfKind_30 (so_1 hf) (so_w hf)
theorem ebX9_isOfKind_4 {g : Cfg} (C : Cx g RX9 cX9_isOfKind 4 0 0 0 0) {h : Shp} {r1 : Int32} {o1 : Mem} (q : QI g (some Jvm.ClassFile.FieldType.boolean) 0 0 r1 (o1, h)) : ∀ (fu : Nat) {I0 : Mem} {l1 : Int32} {l2 : Int32} {l3 : Int32} (hf : fnX9_isOfKind_4 fu I0 l1 l2 l3 = some (r1, o1)), XE g 0 0 (I0, h) 4 [(1, .int l1), (2, .int l2), (3, .int l3)] [] := by
  intro fu
  induction fu with
  | zero =>
    intro I0 l1 l2 l3 hf
    cases hf
  | succ fu ihn =>
    intro I0 l1 l2 l3 hf
    exact ebX9_isOfKind_4b C q (fun _ _ _ _ hf => ihn hf) hf
def fnX9_isOfKind (I0 : Mem) (p0 : Int32) (p1 : Int32) : Option (Int32 × Mem) :=
  fnX9_isOfKind_4 FU I0 p1 p0 0
set_option maxRecDepth 20000 in
set_option maxHeartbeats 2000000 in
theorem ebX9_isOfKind_0 {g : Cfg} (C : Cx g RX9 cX9_isOfKind 4 0 0 0 0) {h : Shp} {r1 : Int32} {o1 : Mem} (q : QI g (some Jvm.ClassFile.FieldType.boolean) 0 0 r1 (o1, h)) {I0 : Mem} {p0 : Int32} {p1 : Int32} (hf : fnX9_isOfKind I0 p0 p1 = some (r1, o1)) : XE g 0 0 (I0, h) 0 [(0, .int p0), (1, .int p1)] [] := by
  unfold fnX9_isOfKind at hf
  refine xr_iload_n C dX9_isOfKind_0 0 rfl rfl ?_
  refine xr_istore_n C dX9_isOfKind_1 rfl (by decide) rfl ?_
  refine xr_iconst (v := 0) C dX9_isOfKind_2 (by decide) ?_
  refine xr_istore_n C dX9_isOfKind_3 rfl (by decide) rfl ?_
  refine xr_lv [3, 1, 0] rfl ?_
  exact ebX9_isOfKind_4 C q _ hf
theorem kX9_isOfKind {B : Bs} {h : Shp} {I0 : Mem} {p0 : Int32} {p1 : Int32} {r1 : Int32} {o1 : Mem} (hf : fnX9_isOfKind I0 p0 p1 = some (r1, o1)) : CtrI B yX9_isOfKind cX9_isOfKind 4 (some Jvm.ClassFile.FieldType.boolean) 0 0 0 0 [.int p0, .int p1] (I0, h) r1 (o1, h) := by
  refine xr_enterI (lv0 := [(0, .int p0), (1, .int p1)]) (by decide) (Nat.le_of_ble_eq_true rfl) rfl (fun g hg C q => ?_)
  subst hg
  exact ebX9_isOfKind_0 C q hf
theorem dX1_markOfBumper_0 : decode cX1_markOfBumper 0 = .ok (.aload_n 0, 1) := by decide +kernel
theorem dX1_markOfBumper_1 : decode cX1_markOfBumper 1 = .ok (.getfield 22, 3) := by decide +kernel
theorem dX1_markOfBumper_4 : decode cX1_markOfBumper 4 = .ok (.iconst 2, 1) := by decide +kernel
theorem dX1_markOfBumper_5 : decode cX1_markOfBumper 5 = .ok (.if_icmp .ne 12, 3) := by decide +kernel
theorem dX1_markOfBumper_8 : decode cX1_markOfBumper 8 = .ok (.aload_n 0, 1) := by decide +kernel
theorem dX1_markOfBumper_9 : decode cX1_markOfBumper 9 = .ok (.bipush 24, 2) := by decide +kernel
theorem dX1_markOfBumper_11 : decode cX1_markOfBumper 11 = .ok (.invokevirtual 59, 3) := by decide +kernel
theorem dX1_markOfBumper_14 : decode cX1_markOfBumper 14 = .ok (.goto 17, 3) := by decide +kernel
theorem dX1_markOfBumper_17 : decode cX1_markOfBumper 17 = .ok (.aload_n 0, 1) := by decide +kernel
theorem dX1_markOfBumper_18 : decode cX1_markOfBumper 18 = .ok (.getfield 22, 3) := by decide +kernel
theorem dX1_markOfBumper_21 : decode cX1_markOfBumper 21 = .ok (.iconst 3, 1) := by decide +kernel
theorem dX1_markOfBumper_22 : decode cX1_markOfBumper 22 = .ok (.if_icmp .ne 9, 3) := by decide +kernel
theorem dX1_markOfBumper_25 : decode cX1_markOfBumper 25 = .ok (.aload_n 0, 1) := by decide +kernel
theorem dX1_markOfBumper_26 : decode cX1_markOfBumper 26 = .ok (.bipush 22, 2) := by decide +kernel
theorem dX1_markOfBumper_28 : decode cX1_markOfBumper 28 = .ok (.invokevirtual 59, 3) := by decide +kernel
theorem dX1_markOfBumper_31 : decode cX1_markOfBumper 31 = .ok (.aload_n 0, 1) := by decide +kernel
theorem dX1_markOfBumper_32 : decode cX1_markOfBumper 32 = .ok (.bipush 21, 2) := by decide +kernel
theorem dX1_markOfBumper_34 : decode cX1_markOfBumper 34 = .ok (.invokevirtual 59, 3) := by decide +kernel
theorem dX1_markOfBumper_37 : decode cX1_markOfBumper 37 = .ok (.aload_n 0, 1) := by decide +kernel
theorem dX1_markOfBumper_38 : decode cX1_markOfBumper 38 = .ok (.bipush 20, 2) := by decide +kernel
theorem dX1_markOfBumper_40 : decode cX1_markOfBumper 40 = .ok (.invokevirtual 59, 3) := by decide +kernel
theorem dX1_markOfBumper_43 : decode cX1_markOfBumper 43 = .ok (.aload_n 0, 1) := by decide +kernel
theorem dX1_markOfBumper_44 : decode cX1_markOfBumper 44 = .ok (.getfield 19, 3) := by decide +kernel
theorem dX1_markOfBumper_47 : decode cX1_markOfBumper 47 = .ok (.aload_n 0, 1) := by decide +kernel
theorem dX1_markOfBumper_48 : decode cX1_markOfBumper 48 = .ok (.getfield 28, 3) := by decide +kernel
theorem dX1_markOfBumper_51 : decode cX1_markOfBumper 51 = .ok (.iadd, 1) := by decide +kernel
theorem dX1_markOfBumper_52 : decode cX1_markOfBumper 52 = .ok (.istore_n 1, 1) := by decide +kernel
theorem dX1_markOfBumper_53 : decode cX1_markOfBumper 53 = .ok (.aload_n 0, 1) := by decide +kernel
theorem dX1_markOfBumper_54 : decode cX1_markOfBumper 54 = .ok (.getfield 22, 3) := by decide +kernel
theorem dX1_markOfBumper_57 : decode cX1_markOfBumper 57 = .ok (.iconst 2, 1) := by decide +kernel
theorem dX1_markOfBumper_58 : decode cX1_markOfBumper 58 = .ok (.if_icmp .ne 9, 3) := by decide +kernel
theorem dX1_markOfBumper_61 : decode cX1_markOfBumper 61 = .ok (.iconst 2, 1) := by decide +kernel
theorem dX1_markOfBumper_62 : decode cX1_markOfBumper 62 = .ok (.iload_n 1, 1) := by decide +kernel
theorem dX1_markOfBumper_63 : decode cX1_markOfBumper 63 = .ok (.imul, 1) := by decide +kernel
theorem dX1_markOfBumper_64 : decode cX1_markOfBumper 64 = .ok (.goto 20, 3) := by decide +kernel
theorem dX1_markOfBumper_67 : decode cX1_markOfBumper 67 = .ok (.aload_n 0, 1) := by decide +kernel
theorem dX1_markOfBumper_68 : decode cX1_markOfBumper 68 = .ok (.getfield 22, 3) := by decide +kernel
theorem dX1_markOfBumper_71 : decode cX1_markOfBumper 71 = .ok (.iconst 3, 1) := by decide +kernel
theorem dX1_markOfBumper_72 : decode cX1_markOfBumper 72 = .ok (.if_icmp .ne 11, 3) := by decide +kernel
theorem dX1_markOfBumper_75 : decode cX1_markOfBumper 75 = .ok (.iload_n 1, 1) := by decide +kernel
theorem dX1_markOfBumper_76 : decode cX1_markOfBumper 76 = .ok (.sipush 1000, 3) := by decide +kernel
theorem dX1_markOfBumper_79 : decode cX1_markOfBumper 79 = .ok (.isub, 1) := by decide +kernel
theorem dX1_markOfBumper_80 : decode cX1_markOfBumper 80 = .ok (.goto 4, 3) := by decide +kernel
theorem dX1_markOfBumper_83 : decode cX1_markOfBumper 83 = .ok (.iload_n 1, 1) := by decide +kernel
theorem dX1_markOfBumper_84 : decode cX1_markOfBumper 84 = .ok (.ireturn, 1) := by decide +kernel
theorem lkX1_59 : LkV "BumperBalls$Asks" 59 yX1_leave cX1_leave 2 none 1 := ⟨wk_780, wk_9, wk_779, wk_s56, ⟨by decide +kernel, by decide +kernel, by decide +kernel⟩, wk_777⟩
/-! BumperBalls$Asks.markOfBumper()I -/
def fnX1_markOfBumper_84 (I0 : Mem) (t0 : Int32) : Option (Int32 × Mem) :=
  some (t0, I0)
set_option maxRecDepth 20000 in
set_option maxHeartbeats 2000000 in
theorem ebX1_markOfBumper_84 {g : Cfg} (C : Cx g RX1 cX1_markOfBumper 2 1 21 0 0) {h : Shp} (H0 : AsksAt h) {r1 : Int32} {o1 : Mem} (q : QI g (some Jvm.ClassFile.FieldType.int) 0 0 r1 (o1, h)) {I0 : Mem} {t0 : Int32} (hf : fnX1_markOfBumper_84 I0 t0 = some (r1, o1)) : XE g 0 0 (I0, h) 84 [] [.int t0] := by
  unfold fnX1_markOfBumper_84 at hf
  exact xr_ireturn C q rfl rfl dX1_markOfBumper_84 (so_1 hf) (so_w hf)
def fnX1_markOfBumper_31 (I0 : Mem) : Option (Int32 × Mem) :=
  ob (fnX1_leave I0 21) fun I2 => ob (fnX1_leave I2 20) fun I4 => bnd ((I4 91 2) + (I4 91 5)) fun v5 => if (I4 91 3) = 2 then (fnX1_markOfBumper_84 I4 ((2 : Int32) * v5)) else (if (I4 91 3) = 3 then (fnX1_markOfBumper_84 I4 (v5 - 1000)) else (fnX1_markOfBumper_84 I4 v5))
set_option maxRecDepth 20000 in
set_option maxHeartbeats 2000000 in
theorem ebX1_markOfBumper_31 {g : Cfg} (C : Cx g RX1 cX1_markOfBumper 2 1 21 0 0) {h : Shp} (H0 : AsksAt h) {r1 : Int32} {o1 : Mem} (q : QI g (some Jvm.ClassFile.FieldType.int) 0 0 r1 (o1, h)) {I0 : Mem} (hf : fnX1_markOfBumper_31 I0 = some (r1, o1)) : XE g 0 0 (I0, h) 31 [(0, rf g 91)] [] := by
  unfold fnX1_markOfBumper_31 at hf
  refine xr_aload_n C dX1_markOfBumper_31 0 rfl rfl ?_
  refine xr_bipush (v := 21) C dX1_markOfBumper_32 (by decide) ?_
  obtain ⟨I2, h1, hf⟩ := ob_x hf
  refine xr_callVV C [.int 21] lkX1_59 (kX1_leave H0 h1) Kd1 rfl H0.1 rfl (Nat.le_of_ble_eq_true rfl) rfl dX1_markOfBumper_34 ⟨by decide, by decide, by decide⟩ rfl ?_
  refine xr_aload_n C dX1_markOfBumper_37 0 rfl rfl ?_
  refine xr_bipush (v := 20) C dX1_markOfBumper_38 (by decide) ?_
  obtain ⟨I4, h3, hf⟩ := ob_x hf
  refine xr_callVV C [.int 20] lkX1_59 (kX1_leave H0 h3) Kd1 rfl H0.1 rfl (Nat.le_of_ble_eq_true rfl) rfl dX1_markOfBumper_40 ⟨by decide, by decide, by decide⟩ rfl ?_
  refine xr_aload_n C dX1_markOfBumper_43 0 rfl rfl ?_
  refine xr_geti C Kd1 (k := 2) (by decide) rfl wk_266 rfl H0.1 dX1_markOfBumper_44 ?_
  refine xr_aload_n C dX1_markOfBumper_47 0 rfl rfl ?_
  refine xr_geti C Kd1 (k := 5) (by decide) rfl wk_269 rfl H0.1 dX1_markOfBumper_48 ?_
  refine xr_iadd C dX1_markOfBumper_51 ?_
  obtain ⟨v5, ev5, hf⟩ := bnd_x hf
  refine xr_nm ev5 ?_
  refine xr_istore_n C dX1_markOfBumper_52 rfl (by decide) rfl ?_
  refine xr_aload_n C dX1_markOfBumper_53 1 rfl rfl ?_
  refine xr_geti C Kd1 (k := 3) (by decide) rfl wk_267 rfl H0.1 dX1_markOfBumper_54 ?_
  refine xr_iconst (v := 2) C dX1_markOfBumper_57 (by decide) ?_
  refine xr_icmp_ne (tgt := 67) C dX1_markOfBumper_58 (by decide) hf (fun c6 hf => ?_) (fun c6 hf => ?_)
  · refine xr_aload_n C dX1_markOfBumper_67 1 rfl rfl ?_
    refine xr_geti C Kd1 (k := 3) (by decide) rfl wk_267 rfl H0.1 dX1_markOfBumper_68 ?_
    refine xr_iconst (v := 3) C dX1_markOfBumper_71 (by decide) ?_
    refine xr_icmp_ne (tgt := 83) C dX1_markOfBumper_72 (by decide) hf (fun c7 hf => ?_) (fun c7 hf => ?_)
    · refine xr_iload_n C dX1_markOfBumper_83 0 rfl rfl ?_
      refine xr_lv [] rfl ?_
      exact ebX1_markOfBumper_84 C H0 q hf
    · refine xr_iload_n C dX1_markOfBumper_75 0 rfl rfl ?_
      refine xr_sipush (v := 1000) C dX1_markOfBumper_76 (by decide) ?_
      refine xr_isub C dX1_markOfBumper_79 ?_
      refine xr_goto (tgt := 84) C dX1_markOfBumper_80 (by decide) ?_
      refine xr_lv [] rfl ?_
      exact ebX1_markOfBumper_84 C H0 q hf
  · refine xr_iconst (v := 2) C dX1_markOfBumper_61 (by decide) ?_
    refine xr_iload_n C dX1_markOfBumper_62 0 rfl rfl ?_
    refine xr_imul C dX1_markOfBumper_63 ?_
    refine xr_goto (tgt := 84) C dX1_markOfBumper_64 (by decide) ?_
    refine xr_lv [] rfl ?_
    exact ebX1_markOfBumper_84 C H0 q hf
def fnX1_markOfBumper (I0 : Mem) : Option (Int32 × Mem) :=
  if (I0 91 3) = 2 then (ob (fnX1_leave I0 24) fun I6 => fnX1_markOfBumper_31 I6) else (if (I0 91 3) = 3 then (ob (fnX1_leave I0 22) fun I4 => fnX1_markOfBumper_31 I4) else (fnX1_markOfBumper_31 I0))
set_option maxRecDepth 20000 in
set_option maxHeartbeats 2000000 in
theorem ebX1_markOfBumper_0 {g : Cfg} (C : Cx g RX1 cX1_markOfBumper 2 1 21 0 0) {h : Shp} (H0 : AsksAt h) {r1 : Int32} {o1 : Mem} (q : QI g (some Jvm.ClassFile.FieldType.int) 0 0 r1 (o1, h)) {I0 : Mem} (hf : fnX1_markOfBumper I0 = some (r1, o1)) : XE g 0 0 (I0, h) 0 [(0, rf g 91)] [] := by
  unfold fnX1_markOfBumper at hf
  refine xr_aload_n C dX1_markOfBumper_0 0 rfl rfl ?_
  refine xr_geti C Kd1 (k := 3) (by decide) rfl wk_267 rfl H0.1 dX1_markOfBumper_1 ?_
  refine xr_iconst (v := 2) C dX1_markOfBumper_4 (by decide) ?_
  refine xr_icmp_ne (tgt := 17) C dX1_markOfBumper_5 (by decide) hf (fun c1 hf => ?_) (fun c1 hf => ?_)
  · refine xr_aload_n C dX1_markOfBumper_17 0 rfl rfl ?_
    refine xr_geti C Kd1 (k := 3) (by decide) rfl wk_267 rfl H0.1 dX1_markOfBumper_18 ?_
    refine xr_iconst (v := 3) C dX1_markOfBumper_21 (by decide) ?_
    refine xr_icmp_ne (tgt := 31) C dX1_markOfBumper_22 (by decide) hf (fun c2 hf => ?_) (fun c2 hf => ?_)
    · exact ebX1_markOfBumper_31 C H0 q hf
    · refine xr_aload_n C dX1_markOfBumper_25 0 rfl rfl ?_
      refine xr_bipush (v := 22) C dX1_markOfBumper_26 (by decide) ?_
      obtain ⟨I4, h3, hf⟩ := ob_x hf
      refine xr_callVV C [.int 22] lkX1_59 (kX1_leave H0 h3) Kd1 rfl H0.1 rfl (Nat.le_of_ble_eq_true rfl) rfl dX1_markOfBumper_28 ⟨by decide, by decide, by decide⟩ rfl ?_
      exact ebX1_markOfBumper_31 C H0 q hf
  · refine xr_aload_n C dX1_markOfBumper_8 0 rfl rfl ?_
    refine xr_bipush (v := 24) C dX1_markOfBumper_9 (by decide) ?_
    obtain ⟨I6, h5, hf⟩ := ob_x hf
    refine xr_callVV C [.int 24] lkX1_59 (kX1_leave H0 h5) Kd1 rfl H0.1 rfl (Nat.le_of_ble_eq_true rfl) rfl dX1_markOfBumper_11 ⟨by decide, by decide, by decide⟩ rfl ?_
    refine xr_goto (tgt := 31) C dX1_markOfBumper_14 (by decide) ?_
    exact ebX1_markOfBumper_31 C H0 q hf
theorem kX1_markOfBumper {B : Bs} {h : Shp} (H0 : AsksAt h) {I0 : Mem} {r1 : Int32} {o1 : Mem} (hf : fnX1_markOfBumper I0 = some (r1, o1)) : CtrI B yX1_markOfBumper cX1_markOfBumper 2 (some Jvm.ClassFile.FieldType.int) 1 21 0 0 [rfB B 91] (I0, h) r1 (o1, h) := by
  refine xr_enterI (lv0 := [(0, rfB B 91)]) (by decide) (Nat.le_of_ble_eq_true rfl) rfl (fun g hg C q => ?_)
  subst hg
  exact ebX1_markOfBumper_0 C H0 q hf
theorem dX1_sizeOfBumper_0 : decode cX1_sizeOfBumper 0 = .ok (.aload_n 0, 1) := by decide +kernel
theorem dX1_sizeOfBumper_1 : decode cX1_sizeOfBumper 1 = .ok (.getfield 22, 3) := by decide +kernel
theorem dX1_sizeOfBumper_4 : decode cX1_sizeOfBumper 4 = .ok (.iconst 2, 1) := by decide +kernel
theorem dX1_sizeOfBumper_5 : decode cX1_sizeOfBumper 5 = .ok (.if_icmp .ne 9, 3) := by decide +kernel
theorem dX1_sizeOfBumper_8 : decode cX1_sizeOfBumper 8 = .ok (.aload_n 0, 1) := by decide +kernel
theorem dX1_sizeOfBumper_9 : decode cX1_sizeOfBumper 9 = .ok (.bipush 12, 2) := by decide +kernel
theorem dX1_sizeOfBumper_11 : decode cX1_sizeOfBumper 11 = .ok (.invokevirtual 59, 3) := by decide +kernel
theorem dX1_sizeOfBumper_14 : decode cX1_sizeOfBumper 14 = .ok (.aload_n 0, 1) := by decide +kernel
theorem dX1_sizeOfBumper_15 : decode cX1_sizeOfBumper 15 = .ok (.bipush 11, 2) := by decide +kernel
theorem dX1_sizeOfBumper_17 : decode cX1_sizeOfBumper 17 = .ok (.invokevirtual 59, 3) := by decide +kernel
theorem dX1_sizeOfBumper_20 : decode cX1_sizeOfBumper 20 = .ok (.aload_n 0, 1) := by decide +kernel
theorem dX1_sizeOfBumper_21 : decode cX1_sizeOfBumper 21 = .ok (.bipush 10, 2) := by decide +kernel
theorem dX1_sizeOfBumper_23 : decode cX1_sizeOfBumper 23 = .ok (.invokevirtual 59, 3) := by decide +kernel
theorem dX1_sizeOfBumper_26 : decode cX1_sizeOfBumper 26 = .ok (.aload_n 0, 1) := by decide +kernel
theorem dX1_sizeOfBumper_27 : decode cX1_sizeOfBumper 27 = .ok (.getfield 25, 3) := by decide +kernel
theorem dX1_sizeOfBumper_30 : decode cX1_sizeOfBumper 30 = .ok (.aload_n 0, 1) := by decide +kernel
theorem dX1_sizeOfBumper_31 : decode cX1_sizeOfBumper 31 = .ok (.invokevirtual 53, 3) := by decide +kernel
theorem dX1_sizeOfBumper_34 : decode cX1_sizeOfBumper 34 = .ok (.iadd, 1) := by decide +kernel
theorem dX1_sizeOfBumper_35 : decode cX1_sizeOfBumper 35 = .ok (.istore_n 1, 1) := by decide +kernel
theorem dX1_sizeOfBumper_36 : decode cX1_sizeOfBumper 36 = .ok (.aload_n 0, 1) := by decide +kernel
theorem dX1_sizeOfBumper_37 : decode cX1_sizeOfBumper 37 = .ok (.getfield 22, 3) := by decide +kernel
theorem dX1_sizeOfBumper_40 : decode cX1_sizeOfBumper 40 = .ok (.iconst 2, 1) := by decide +kernel
theorem dX1_sizeOfBumper_41 : decode cX1_sizeOfBumper 41 = .ok (.if_icmp .ne 8, 3) := by decide +kernel
theorem dX1_sizeOfBumper_44 : decode cX1_sizeOfBumper 44 = .ok (.iload_n 1, 1) := by decide +kernel
theorem dX1_sizeOfBumper_45 : decode cX1_sizeOfBumper 45 = .ok (.ineg, 1) := by decide +kernel
theorem dX1_sizeOfBumper_46 : decode cX1_sizeOfBumper 46 = .ok (.goto 4, 3) := by decide +kernel
theorem dX1_sizeOfBumper_49 : decode cX1_sizeOfBumper 49 = .ok (.iload_n 1, 1) := by decide +kernel
theorem dX1_sizeOfBumper_50 : decode cX1_sizeOfBumper 50 = .ok (.ireturn, 1) := by decide +kernel
theorem lkX1_53 : LkV "BumperBalls$Asks" 53 yX1_markOfBumper cX1_markOfBumper 2 (some Jvm.ClassFile.FieldType.int) 0 := ⟨wk_784, wk_9, wk_783, wk_s57, ⟨by decide +kernel, by decide +kernel, by decide +kernel⟩, wk_781⟩
/-! BumperBalls$Asks.sizeOfBumper()I -/
def fnX1_sizeOfBumper_50 (I0 : Mem) (t0 : Int32) : Option (Int32 × Mem) :=
  some (t0, I0)
set_option maxRecDepth 20000 in
set_option maxHeartbeats 2000000 in
theorem ebX1_sizeOfBumper_50 {g : Cfg} (C : Cx g RX1 cX1_sizeOfBumper 2 2 42 0 0) {h : Shp} (H0 : AsksAt h) {r1 : Int32} {o1 : Mem} (q : QI g (some Jvm.ClassFile.FieldType.int) 0 0 r1 (o1, h)) {I0 : Mem} {t0 : Int32} (hf : fnX1_sizeOfBumper_50 I0 t0 = some (r1, o1)) : XE g 0 0 (I0, h) 50 [] [.int t0] := by
  unfold fnX1_sizeOfBumper_50 at hf
  exact xr_ireturn C q rfl rfl dX1_sizeOfBumper_50 (so_1 hf) (so_w hf)
def fnX1_sizeOfBumper_14 (I0 : Mem) : Option (Int32 × Mem) :=
  ob (fnX1_leave I0 11) fun I2 => ob (fnX1_leave I2 10) fun I4 => ob (fnX1_markOfBumper I4) fun ⟨r7, I6⟩ => bnd ((I4 91 4) + r7) fun v8 => if (I6 91 3) = 2 then (fnX1_sizeOfBumper_50 I6 (-v8)) else (fnX1_sizeOfBumper_50 I6 v8)
set_option maxRecDepth 20000 in
set_option maxHeartbeats 2000000 in
theorem ebX1_sizeOfBumper_14 {g : Cfg} (C : Cx g RX1 cX1_sizeOfBumper 2 2 42 0 0) {h : Shp} (H0 : AsksAt h) {r1 : Int32} {o1 : Mem} (q : QI g (some Jvm.ClassFile.FieldType.int) 0 0 r1 (o1, h)) {I0 : Mem} (hf : fnX1_sizeOfBumper_14 I0 = some (r1, o1)) : XE g 0 0 (I0, h) 14 [(0, rf g 91)] [] := by
  unfold fnX1_sizeOfBumper_14 at hf
  refine xr_aload_n C dX1_sizeOfBumper_14 0 rfl rfl ?_
  refine xr_bipush (v := 11) C dX1_sizeOfBumper_15 (by decide) ?_
  obtain ⟨I2, h1, hf⟩ := ob_x hf
  refine xr_callVV C [.int 11] lkX1_59 (kX1_leave H0 h1) Kd1 rfl H0.1 rfl (Nat.le_of_ble_eq_true rfl) rfl dX1_sizeOfBumper_17 ⟨by decide, by decide, by decide⟩ rfl ?_
  refine xr_aload_n C dX1_sizeOfBumper_20 0 rfl rfl ?_
  refine xr_bipush (v := 10) C dX1_sizeOfBumper_21 (by decide) ?_
  obtain ⟨I4, h3, hf⟩ := ob_x hf
  refine xr_callVV C [.int 10] lkX1_59 (kX1_leave H0 h3) Kd1 rfl H0.1 rfl (Nat.le_of_ble_eq_true rfl) rfl dX1_sizeOfBumper_23 ⟨by decide, by decide, by decide⟩ rfl ?_
  refine xr_aload_n C dX1_sizeOfBumper_26 0 rfl rfl ?_
  refine xr_geti C Kd1 (k := 4) (by decide) rfl wk_268 rfl H0.1 dX1_sizeOfBumper_27 ?_
  refine xr_aload_n C dX1_sizeOfBumper_30 0 rfl rfl ?_
  obtain ⟨⟨r7, I6⟩, h5, hf⟩ := ob_x hf
  refine xr_callVI C [] lkX1_53 (kX1_markOfBumper H0 h5) Kd1 rfl H0.1 rfl (Nat.le_of_ble_eq_true rfl) rfl dX1_sizeOfBumper_31 ⟨by decide, by decide, by decide⟩ rfl ?_
  refine xr_iadd C dX1_sizeOfBumper_34 ?_
  obtain ⟨v8, ev8, hf⟩ := bnd_x hf
  refine xr_nm ev8 ?_
  refine xr_istore_n C dX1_sizeOfBumper_35 rfl (by decide) rfl ?_
  refine xr_aload_n C dX1_sizeOfBumper_36 1 rfl rfl ?_
  refine xr_geti C Kd1 (k := 3) (by decide) rfl wk_267 rfl H0.1 dX1_sizeOfBumper_37 ?_
  refine xr_iconst (v := 2) C dX1_sizeOfBumper_40 (by decide) ?_
  refine xr_icmp_ne (tgt := 49) C dX1_sizeOfBumper_41 (by decide) hf (fun c9 hf => ?_) (fun c9 hf => ?_)
  · refine xr_iload_n C dX1_sizeOfBumper_49 0 rfl rfl ?_
    refine xr_lv [] rfl ?_
    exact ebX1_sizeOfBumper_50 C H0 q hf
  · refine xr_iload_n C dX1_sizeOfBumper_44 0 rfl rfl ?_
    refine xr_ineg C dX1_sizeOfBumper_45 ?_
    refine xr_goto (tgt := 50) C dX1_sizeOfBumper_46 (by decide) ?_
    refine xr_lv [] rfl ?_
    exact ebX1_sizeOfBumper_50 C H0 q hf
def fnX1_sizeOfBumper (I0 : Mem) : Option (Int32 × Mem) :=
  if (I0 91 3) = 2 then (ob (fnX1_leave I0 12) fun I3 => fnX1_sizeOfBumper_14 I3) else (fnX1_sizeOfBumper_14 I0)
set_option maxRecDepth 20000 in
set_option maxHeartbeats 2000000 in
theorem ebX1_sizeOfBumper_0 {g : Cfg} (C : Cx g RX1 cX1_sizeOfBumper 2 2 42 0 0) {h : Shp} (H0 : AsksAt h) {r1 : Int32} {o1 : Mem} (q : QI g (some Jvm.ClassFile.FieldType.int) 0 0 r1 (o1, h)) {I0 : Mem} (hf : fnX1_sizeOfBumper I0 = some (r1, o1)) : XE g 0 0 (I0, h) 0 [(0, rf g 91)] [] := by
  unfold fnX1_sizeOfBumper at hf
  refine xr_aload_n C dX1_sizeOfBumper_0 0 rfl rfl ?_
  refine xr_geti C Kd1 (k := 3) (by decide) rfl wk_267 rfl H0.1 dX1_sizeOfBumper_1 ?_
  refine xr_iconst (v := 2) C dX1_sizeOfBumper_4 (by decide) ?_
  refine xr_icmp_ne (tgt := 14) C dX1_sizeOfBumper_5 (by decide) hf (fun c1 hf => ?_) (fun c1 hf => ?_)
  · exact ebX1_sizeOfBumper_14 C H0 q hf
  · refine xr_aload_n C dX1_sizeOfBumper_8 0 rfl rfl ?_
    refine xr_bipush (v := 12) C dX1_sizeOfBumper_9 (by decide) ?_
    obtain ⟨I3, h2, hf⟩ := ob_x hf
    refine xr_callVV C [.int 12] lkX1_59 (kX1_leave H0 h2) Kd1 rfl H0.1 rfl (Nat.le_of_ble_eq_true rfl) rfl dX1_sizeOfBumper_11 ⟨by decide, by decide, by decide⟩ rfl ?_
    exact ebX1_sizeOfBumper_14 C H0 q hf
theorem kX1_sizeOfBumper {B : Bs} {h : Shp} (H0 : AsksAt h) {I0 : Mem} {r1 : Int32} {o1 : Mem} (hf : fnX1_sizeOfBumper I0 = some (r1, o1)) : CtrI B yX1_sizeOfBumper cX1_sizeOfBumper 2 (some Jvm.ClassFile.FieldType.int) 2 42 0 0 [rfB B 91] (I0, h) r1 (o1, h) := by
  refine xr_enterI (lv0 := [(0, rfB B 91)]) (by decide) (Nat.le_of_ble_eq_true rfl) rfl (fun g hg C q => ?_)
  subst hg
  exact ebX1_sizeOfBumper_0 C H0 q hf
theorem dX1_sizeOfLamp_0 : decode cX1_sizeOfLamp 0 = .ok (.aload_n 0, 1) := by decide +kernel
theorem dX1_sizeOfLamp_1 : decode cX1_sizeOfLamp 1 = .ok (.getfield 22, 3) := by decide +kernel
theorem dX1_sizeOfLamp_4 : decode cX1_sizeOfLamp 4 = .ok (.iconst 5, 1) := by decide +kernel
theorem dX1_sizeOfLamp_5 : decode cX1_sizeOfLamp 5 = .ok (.if_icmp .ne 9, 3) := by decide +kernel
theorem dX1_sizeOfLamp_8 : decode cX1_sizeOfLamp 8 = .ok (.aload_n 0, 1) := by decide +kernel
theorem dX1_sizeOfLamp_9 : decode cX1_sizeOfLamp 9 = .ok (.bipush 14, 2) := by decide +kernel
theorem dX1_sizeOfLamp_11 : decode cX1_sizeOfLamp 11 = .ok (.invokevirtual 59, 3) := by decide +kernel
theorem dX1_sizeOfLamp_14 : decode cX1_sizeOfLamp 14 = .ok (.aload_n 0, 1) := by decide +kernel
theorem dX1_sizeOfLamp_15 : decode cX1_sizeOfLamp 15 = .ok (.bipush 13, 2) := by decide +kernel
theorem dX1_sizeOfLamp_17 : decode cX1_sizeOfLamp 17 = .ok (.invokevirtual 59, 3) := by decide +kernel
theorem dX1_sizeOfLamp_20 : decode cX1_sizeOfLamp 20 = .ok (.aload_n 0, 1) := by decide +kernel
theorem dX1_sizeOfLamp_21 : decode cX1_sizeOfLamp 21 = .ok (.bipush 10, 2) := by decide +kernel
theorem dX1_sizeOfLamp_23 : decode cX1_sizeOfLamp 23 = .ok (.invokevirtual 59, 3) := by decide +kernel
theorem dX1_sizeOfLamp_26 : decode cX1_sizeOfLamp 26 = .ok (.aload_n 0, 1) := by decide +kernel
theorem dX1_sizeOfLamp_27 : decode cX1_sizeOfLamp 27 = .ok (.getfield 25, 3) := by decide +kernel
theorem dX1_sizeOfLamp_30 : decode cX1_sizeOfLamp 30 = .ok (.bipush 100, 2) := by decide +kernel
theorem dX1_sizeOfLamp_32 : decode cX1_sizeOfLamp 32 = .ok (.isub, 1) := by decide +kernel
theorem dX1_sizeOfLamp_33 : decode cX1_sizeOfLamp 33 = .ok (.istore_n 1, 1) := by decide +kernel
theorem dX1_sizeOfLamp_34 : decode cX1_sizeOfLamp 34 = .ok (.aload_n 0, 1) := by decide +kernel
theorem dX1_sizeOfLamp_35 : decode cX1_sizeOfLamp 35 = .ok (.getfield 22, 3) := by decide +kernel
theorem dX1_sizeOfLamp_38 : decode cX1_sizeOfLamp 38 = .ok (.iconst 5, 1) := by decide +kernel
theorem dX1_sizeOfLamp_39 : decode cX1_sizeOfLamp 39 = .ok (.if_icmp .ne 9, 3) := by decide +kernel
theorem dX1_sizeOfLamp_42 : decode cX1_sizeOfLamp 42 = .ok (.iconst 2, 1) := by decide +kernel
theorem dX1_sizeOfLamp_43 : decode cX1_sizeOfLamp 43 = .ok (.iload_n 1, 1) := by decide +kernel
theorem dX1_sizeOfLamp_44 : decode cX1_sizeOfLamp 44 = .ok (.imul, 1) := by decide +kernel
theorem dX1_sizeOfLamp_45 : decode cX1_sizeOfLamp 45 = .ok (.goto 4, 3) := by decide +kernel
theorem dX1_sizeOfLamp_48 : decode cX1_sizeOfLamp 48 = .ok (.iload_n 1, 1) := by decide +kernel
theorem dX1_sizeOfLamp_49 : decode cX1_sizeOfLamp 49 = .ok (.ireturn, 1) := by decide +kernel
/-! BumperBalls$Asks.sizeOfLamp()I -/
def fnX1_sizeOfLamp_49 (I0 : Mem) (t0 : Int32) : Option (Int32 × Mem) :=
  some (t0, I0)
set_option maxRecDepth 20000 in
set_option maxHeartbeats 2000000 in
theorem ebX1_sizeOfLamp_49 {g : Cfg} (C : Cx g RX1 cX1_sizeOfLamp 2 1 21 0 0) {h : Shp} (H0 : AsksAt h) {r1 : Int32} {o1 : Mem} (q : QI g (some Jvm.ClassFile.FieldType.int) 0 0 r1 (o1, h)) {I0 : Mem} {t0 : Int32} (hf : fnX1_sizeOfLamp_49 I0 t0 = some (r1, o1)) : XE g 0 0 (I0, h) 49 [] [.int t0] := by
  unfold fnX1_sizeOfLamp_49 at hf
  exact xr_ireturn C q rfl rfl dX1_sizeOfLamp_49 (so_1 hf) (so_w hf)
def fnX1_sizeOfLamp_14 (I0 : Mem) : Option (Int32 × Mem) :=
  ob (fnX1_leave I0 13) fun I2 => ob (fnX1_leave I2 10) fun I4 => bnd ((I4 91 4) - 100) fun v5 => if (I4 91 3) = 5 then (fnX1_sizeOfLamp_49 I4 ((2 : Int32) * v5)) else (fnX1_sizeOfLamp_49 I4 v5)
set_option maxRecDepth 20000 in
set_option maxHeartbeats 2000000 in
theorem ebX1_sizeOfLamp_14 {g : Cfg} (C : Cx g RX1 cX1_sizeOfLamp 2 1 21 0 0) {h : Shp} (H0 : AsksAt h) {r1 : Int32} {o1 : Mem} (q : QI g (some Jvm.ClassFile.FieldType.int) 0 0 r1 (o1, h)) {I0 : Mem} (hf : fnX1_sizeOfLamp_14 I0 = some (r1, o1)) : XE g 0 0 (I0, h) 14 [(0, rf g 91)] [] := by
  unfold fnX1_sizeOfLamp_14 at hf
  refine xr_aload_n C dX1_sizeOfLamp_14 0 rfl rfl ?_
  refine xr_bipush (v := 13) C dX1_sizeOfLamp_15 (by decide) ?_
  obtain ⟨I2, h1, hf⟩ := ob_x hf
  refine xr_callVV C [.int 13] lkX1_59 (kX1_leave H0 h1) Kd1 rfl H0.1 rfl (Nat.le_of_ble_eq_true rfl) rfl dX1_sizeOfLamp_17 ⟨by decide, by decide, by decide⟩ rfl ?_
  refine xr_aload_n C dX1_sizeOfLamp_20 0 rfl rfl ?_
  refine xr_bipush (v := 10) C dX1_sizeOfLamp_21 (by decide) ?_
  obtain ⟨I4, h3, hf⟩ := ob_x hf
  refine xr_callVV C [.int 10] lkX1_59 (kX1_leave H0 h3) Kd1 rfl H0.1 rfl (Nat.le_of_ble_eq_true rfl) rfl dX1_sizeOfLamp_23 ⟨by decide, by decide, by decide⟩ rfl ?_
  refine xr_aload_n C dX1_sizeOfLamp_26 0 rfl rfl ?_
  refine xr_geti C Kd1 (k := 4) (by decide) rfl wk_268 rfl H0.1 dX1_sizeOfLamp_27 ?_
  refine xr_bipush (v := 100) C dX1_sizeOfLamp_30 (by decide) ?_
  refine xr_isub C dX1_sizeOfLamp_32 ?_
  obtain ⟨v5, ev5, hf⟩ := bnd_x hf
  refine xr_nm ev5 ?_
  refine xr_istore_n C dX1_sizeOfLamp_33 rfl (by decide) rfl ?_
  refine xr_aload_n C dX1_sizeOfLamp_34 1 rfl rfl ?_
  refine xr_geti C Kd1 (k := 3) (by decide) rfl wk_267 rfl H0.1 dX1_sizeOfLamp_35 ?_
  refine xr_iconst (v := 5) C dX1_sizeOfLamp_38 (by decide) ?_
  refine xr_icmp_ne (tgt := 48) C dX1_sizeOfLamp_39 (by decide) hf (fun c6 hf => ?_) (fun c6 hf => ?_)
  · refine xr_iload_n C dX1_sizeOfLamp_48 0 rfl rfl ?_
    refine xr_lv [] rfl ?_
    exact ebX1_sizeOfLamp_49 C H0 q hf
  · refine xr_iconst (v := 2) C dX1_sizeOfLamp_42 (by decide) ?_
    refine xr_iload_n C dX1_sizeOfLamp_43 0 rfl rfl ?_
    refine xr_imul C dX1_sizeOfLamp_44 ?_
    refine xr_goto (tgt := 49) C dX1_sizeOfLamp_45 (by decide) ?_
    refine xr_lv [] rfl ?_
    exact ebX1_sizeOfLamp_49 C H0 q hf
def fnX1_sizeOfLamp (I0 : Mem) : Option (Int32 × Mem) :=
  if (I0 91 3) = 5 then (ob (fnX1_leave I0 14) fun I3 => fnX1_sizeOfLamp_14 I3) else (fnX1_sizeOfLamp_14 I0)
set_option maxRecDepth 20000 in
set_option maxHeartbeats 2000000 in
theorem ebX1_sizeOfLamp_0 {g : Cfg} (C : Cx g RX1 cX1_sizeOfLamp 2 1 21 0 0) {h : Shp} (H0 : AsksAt h) {r1 : Int32} {o1 : Mem} (q : QI g (some Jvm.ClassFile.FieldType.int) 0 0 r1 (o1, h)) {I0 : Mem} (hf : fnX1_sizeOfLamp I0 = some (r1, o1)) : XE g 0 0 (I0, h) 0 [(0, rf g 91)] [] := by
  unfold fnX1_sizeOfLamp at hf
  refine xr_aload_n C dX1_sizeOfLamp_0 0 rfl rfl ?_
  refine xr_geti C Kd1 (k := 3) (by decide) rfl wk_267 rfl H0.1 dX1_sizeOfLamp_1 ?_
  refine xr_iconst (v := 5) C dX1_sizeOfLamp_4 (by decide) ?_
  refine xr_icmp_ne (tgt := 14) C dX1_sizeOfLamp_5 (by decide) hf (fun c1 hf => ?_) (fun c1 hf => ?_)
  · exact ebX1_sizeOfLamp_14 C H0 q hf
  · refine xr_aload_n C dX1_sizeOfLamp_8 0 rfl rfl ?_
    refine xr_bipush (v := 14) C dX1_sizeOfLamp_9 (by decide) ?_
    obtain ⟨I3, h2, hf⟩ := ob_x hf
    refine xr_callVV C [.int 14] lkX1_59 (kX1_leave H0 h2) Kd1 rfl H0.1 rfl (Nat.le_of_ble_eq_true rfl) rfl dX1_sizeOfLamp_11 ⟨by decide, by decide, by decide⟩ rfl ?_
    exact ebX1_sizeOfLamp_14 C H0 q hf
theorem kX1_sizeOfLamp {B : Bs} {h : Shp} (H0 : AsksAt h) {I0 : Mem} {r1 : Int32} {o1 : Mem} (hf : fnX1_sizeOfLamp I0 = some (r1, o1)) : CtrI B yX1_sizeOfLamp cX1_sizeOfLamp 2 (some Jvm.ClassFile.FieldType.int) 1 21 0 0 [rfB B 91] (I0, h) r1 (o1, h) := by
  refine xr_enterI (lv0 := [(0, rfB B 91)]) (by decide) (Nat.le_of_ble_eq_true rfl) rfl (fun g hg C q => ?_)
  subst hg
  exact ebX1_sizeOfLamp_0 C H0 q hf
theorem dX1_sizeAsked_0 : decode cX1_sizeAsked 0 = .ok (.aload_n 0, 1) := by decide +kernel
theorem dX1_sizeAsked_1 : decode cX1_sizeAsked 1 = .ok (.getfield 22, 3) := by decide +kernel
theorem dX1_sizeAsked_4 : decode cX1_sizeAsked 4 = .ok (.iconst 1, 1) := by decide +kernel
theorem dX1_sizeAsked_5 : decode cX1_sizeAsked 5 = .ok (.invokestatic 42, 3) := by decide +kernel
theorem dX1_sizeAsked_8 : decode cX1_sizeAsked 8 = .ok (.ifCond .eq 10, 3) := by decide +kernel
theorem dX1_sizeAsked_11 : decode cX1_sizeAsked 11 = .ok (.aload_n 0, 1) := by decide +kernel
theorem dX1_sizeAsked_12 : decode cX1_sizeAsked 12 = .ok (.invokevirtual 46, 3) := by decide +kernel
theorem dX1_sizeAsked_15 : decode cX1_sizeAsked 15 = .ok (.goto 7, 3) := by decide +kernel
theorem dX1_sizeAsked_18 : decode cX1_sizeAsked 18 = .ok (.aload_n 0, 1) := by decide +kernel
theorem dX1_sizeAsked_19 : decode cX1_sizeAsked 19 = .ok (.invokevirtual 50, 3) := by decide +kernel
theorem dX1_sizeAsked_22 : decode cX1_sizeAsked 22 = .ok (.ireturn, 1) := by decide +kernel
theorem lkX1_42 : LkSN "BumperBalls$Asks" 42 yX9_isOfKind cX9_isOfKind 4 (some Jvm.ClassFile.FieldType.boolean) 2 := ⟨wk_757, wk_1, wk_756, ⟨by decide +kernel, by decide +kernel, by decide +kernel⟩, (List.mem_of_getElem? (i := 87) (by decide +kernel))⟩
theorem lkX1_46 : LkV "BumperBalls$Asks" 46 yX1_sizeOfBumper cX1_sizeOfBumper 2 (some Jvm.ClassFile.FieldType.int) 0 := ⟨wk_776, wk_9, wk_775, wk_s55, ⟨by decide +kernel, by decide +kernel, by decide +kernel⟩, wk_773⟩
theorem lkX1_50 : LkV "BumperBalls$Asks" 50 yX1_sizeOfLamp cX1_sizeOfLamp 2 (some Jvm.ClassFile.FieldType.int) 0 := ⟨wk_788, wk_9, wk_787, wk_s58, ⟨by decide +kernel, by decide +kernel, by decide +kernel⟩, wk_785⟩
/-! BumperBalls$Asks.sizeAsked()I -/
def fnX1_sizeAsked_22 (I0 : Mem) (t0 : Int32) : Option (Int32 × Mem) :=
  some (t0, I0)
set_option maxRecDepth 20000 in
set_option maxHeartbeats 2000000 in
theorem ebX1_sizeAsked_22 {g : Cfg} (C : Cx g RX1 cX1_sizeAsked 1 3 63 0 0) {h : Shp} (H0 : AsksAt h) {r1 : Int32} {o1 : Mem} (q : QI g (some Jvm.ClassFile.FieldType.int) 0 0 r1 (o1, h)) {I0 : Mem} {t0 : Int32} (hf : fnX1_sizeAsked_22 I0 t0 = some (r1, o1)) : XE g 0 0 (I0, h) 22 [] [.int t0] := by
  unfold fnX1_sizeAsked_22 at hf
  exact xr_ireturn C q rfl rfl dX1_sizeAsked_22 (so_1 hf) (so_w hf)
def fnX1_sizeAsked (I0 : Mem) : Option (Int32 × Mem) :=
  ob (fnX9_isOfKind I0 (I0 91 3) 1) fun ⟨r3, I2⟩ => if r3 = 0 then (ob (fnX1_sizeOfLamp I2) fun ⟨r7, I6⟩ => fnX1_sizeAsked_22 I6 r7) else (ob (fnX1_sizeOfBumper I2) fun ⟨r10, I9⟩ => fnX1_sizeAsked_22 I9 r10)
set_option maxRecDepth 20000 in
set_option maxHeartbeats 2000000 in
theorem ebX1_sizeAsked_0 {g : Cfg} (C : Cx g RX1 cX1_sizeAsked 1 3 63 0 0) {h : Shp} (H0 : AsksAt h) {r1 : Int32} {o1 : Mem} (q : QI g (some Jvm.ClassFile.FieldType.int) 0 0 r1 (o1, h)) {I0 : Mem} (hf : fnX1_sizeAsked I0 = some (r1, o1)) : XE g 0 0 (I0, h) 0 [(0, rf g 91)] [] := by
  unfold fnX1_sizeAsked at hf
  refine xr_aload_n C dX1_sizeAsked_0 0 rfl rfl ?_
  refine xr_geti C Kd1 (k := 3) (by decide) rfl wk_267 rfl H0.1 dX1_sizeAsked_1 ?_
  refine xr_iconst (v := 1) C dX1_sizeAsked_4 (by decide) ?_
  obtain ⟨⟨r3, I2⟩, h1, hf⟩ := ob_x hf
  refine xr_callSNI C [.int (I0 91 3), .int 1] lkX1_42 (kX9_isOfKind h1) rfl (Nat.le_of_ble_eq_true rfl) rfl dX1_sizeAsked_5 ⟨by decide, by decide, by decide⟩ rfl ?_
  refine xr_if_eq (tgt := 18) C dX1_sizeAsked_8 (by decide) hf (fun c4 hf => ?_) (fun c4 hf => ?_)
  · refine xr_aload_n C dX1_sizeAsked_18 0 rfl rfl ?_
    obtain ⟨⟨r7, I6⟩, h5, hf⟩ := ob_x hf
    refine xr_callVI C [] lkX1_50 (kX1_sizeOfLamp H0 h5) Kd1 rfl H0.1 rfl (Nat.le_of_ble_eq_true rfl) rfl dX1_sizeAsked_19 ⟨by decide, by decide, by decide⟩ rfl ?_
    refine xr_lv [] rfl ?_
    exact ebX1_sizeAsked_22 C H0 q hf
  · refine xr_aload_n C dX1_sizeAsked_11 0 rfl rfl ?_
    obtain ⟨⟨r10, I9⟩, h8, hf⟩ := ob_x hf
    refine xr_callVI C [] lkX1_46 (kX1_sizeOfBumper H0 h8) Kd1 rfl H0.1 rfl (Nat.le_of_ble_eq_true rfl) rfl dX1_sizeAsked_12 ⟨by decide, by decide, by decide⟩ rfl ?_
    refine xr_goto (tgt := 22) C dX1_sizeAsked_15 (by decide) ?_
    refine xr_lv [] rfl ?_
    exact ebX1_sizeAsked_22 C H0 q hf
theorem kX1_sizeAsked {B : Bs} {h : Shp} (H0 : AsksAt h) {I0 : Mem} {r1 : Int32} {o1 : Mem} (hf : fnX1_sizeAsked I0 = some (r1, o1)) : CtrI B yX1_sizeAsked cX1_sizeAsked 1 (some Jvm.ClassFile.FieldType.int) 3 63 0 0 [rfB B 91] (I0, h) r1 (o1, h) := by
  refine xr_enterI (lv0 := [(0, rfB B 91)]) (by decide) (Nat.le_of_ble_eq_true rfl) rfl (fun g hg C q => ?_)
  subst hg
  exact ebX1_sizeAsked_0 C H0 q hf
theorem dX1_markOfLamp_0 : decode cX1_markOfLamp 0 = .ok (.aload_n 0, 1) := by decide +kernel
theorem dX1_markOfLamp_1 : decode cX1_markOfLamp 1 = .ok (.bipush 23, 2) := by decide +kernel
theorem dX1_markOfLamp_3 : decode cX1_markOfLamp 3 = .ok (.invokevirtual 59, 3) := by decide +kernel
theorem dX1_markOfLamp_6 : decode cX1_markOfLamp 6 = .ok (.aload_n 0, 1) := by decide +kernel
theorem dX1_markOfLamp_7 : decode cX1_markOfLamp 7 = .ok (.bipush 20, 2) := by decide +kernel
theorem dX1_markOfLamp_9 : decode cX1_markOfLamp 9 = .ok (.invokevirtual 59, 3) := by decide +kernel
theorem dX1_markOfLamp_12 : decode cX1_markOfLamp 12 = .ok (.aload_n 0, 1) := by decide +kernel
theorem dX1_markOfLamp_13 : decode cX1_markOfLamp 13 = .ok (.getfield 19, 3) := by decide +kernel
theorem dX1_markOfLamp_16 : decode cX1_markOfLamp 16 = .ok (.aload_n 0, 1) := by decide +kernel
theorem dX1_markOfLamp_17 : decode cX1_markOfLamp 17 = .ok (.invokevirtual 50, 3) := by decide +kernel
theorem dX1_markOfLamp_20 : decode cX1_markOfLamp 20 = .ok (.isub, 1) := by decide +kernel
theorem dX1_markOfLamp_21 : decode cX1_markOfLamp 21 = .ok (.ireturn, 1) := by decide +kernel
/-! BumperBalls$Asks.markOfLamp()I -/
def fnX1_markOfLamp (I0 : Mem) : Option (Int32 × Mem) :=
  ob (fnX1_leave I0 23) fun I2 => ob (fnX1_leave I2 20) fun I4 => ob (fnX1_sizeOfLamp I4) fun ⟨r7, I6⟩ => some (((I4 91 2) - r7), I6)
set_option maxRecDepth 20000 in
set_option maxHeartbeats 2000000 in
theorem ebX1_markOfLamp_0 {g : Cfg} (C : Cx g RX1 cX1_markOfLamp 1 2 42 0 0) {h : Shp} (H0 : AsksAt h) {r1 : Int32} {o1 : Mem} (q : QI g (some Jvm.ClassFile.FieldType.int) 0 0 r1 (o1, h)) {I0 : Mem} (hf : fnX1_markOfLamp I0 = some (r1, o1)) : XE g 0 0 (I0, h) 0 [(0, rf g 91)] [] := by
  unfold fnX1_markOfLamp at hf
  refine xr_aload_n C dX1_markOfLamp_0 0 rfl rfl ?_
  refine xr_bipush (v := 23) C dX1_markOfLamp_1 (by decide) ?_
  obtain ⟨I2, h1, hf⟩ := ob_x hf
  refine xr_callVV C [.int 23] lkX1_59 (kX1_leave H0 h1) Kd1 rfl H0.1 rfl (Nat.le_of_ble_eq_true rfl) rfl dX1_markOfLamp_3 ⟨by decide, by decide, by decide⟩ rfl ?_
  refine xr_aload_n C dX1_markOfLamp_6 0 rfl rfl ?_
  refine xr_bipush (v := 20) C dX1_markOfLamp_7 (by decide) ?_
  obtain ⟨I4, h3, hf⟩ := ob_x hf
  refine xr_callVV C [.int 20] lkX1_59 (kX1_leave H0 h3) Kd1 rfl H0.1 rfl (Nat.le_of_ble_eq_true rfl) rfl dX1_markOfLamp_9 ⟨by decide, by decide, by decide⟩ rfl ?_
  refine xr_aload_n C dX1_markOfLamp_12 0 rfl rfl ?_
  refine xr_geti C Kd1 (k := 2) (by decide) rfl wk_266 rfl H0.1 dX1_markOfLamp_13 ?_
  refine xr_aload_n C dX1_markOfLamp_16 0 rfl rfl ?_
  obtain ⟨⟨r7, I6⟩, h5, hf⟩ := ob_x hf
  refine xr_callVI C [] lkX1_50 (kX1_sizeOfLamp H0 h5) Kd1 rfl H0.1 rfl (Nat.le_of_ble_eq_true rfl) rfl dX1_markOfLamp_17 ⟨by decide, by decide, by decide⟩ rfl ?_
  refine xr_isub C dX1_markOfLamp_20 ?_
  exact xr_ireturn C q rfl rfl dX1_markOfLamp_21 (so_1 hf) (so_w hf)
theorem kX1_markOfLamp {B : Bs} {h : Shp} (H0 : AsksAt h) {I0 : Mem} {r1 : Int32} {o1 : Mem} (hf : fnX1_markOfLamp I0 = some (r1, o1)) : CtrI B yX1_markOfLamp cX1_markOfLamp 1 (some Jvm.ClassFile.FieldType.int) 2 42 0 0 [rfB B 91] (I0, h) r1 (o1, h) := by
  refine xr_enterI (lv0 := [(0, rfB B 91)]) (by decide) (Nat.le_of_ble_eq_true rfl) rfl (fun g hg C q => ?_)
  subst hg
  exact ebX1_markOfLamp_0 C H0 q hf
theorem dX1_markAsked_0 : decode cX1_markAsked 0 = .ok (.aload_n 0, 1) := by decide +kernel
theorem dX1_markAsked_1 : decode cX1_markAsked 1 = .ok (.getfield 22, 3) := by decide +kernel
theorem dX1_markAsked_4 : decode cX1_markAsked 4 = .ok (.iconst 1, 1) := by decide +kernel
theorem dX1_markAsked_5 : decode cX1_markAsked 5 = .ok (.invokestatic 42, 3) := by decide +kernel
theorem dX1_markAsked_8 : decode cX1_markAsked 8 = .ok (.ifCond .eq 10, 3) := by decide +kernel
theorem dX1_markAsked_11 : decode cX1_markAsked 11 = .ok (.aload_n 0, 1) := by decide +kernel
theorem dX1_markAsked_12 : decode cX1_markAsked 12 = .ok (.invokevirtual 53, 3) := by decide +kernel
theorem dX1_markAsked_15 : decode cX1_markAsked 15 = .ok (.goto 7, 3) := by decide +kernel
theorem dX1_markAsked_18 : decode cX1_markAsked 18 = .ok (.aload_n 0, 1) := by decide +kernel
theorem dX1_markAsked_19 : decode cX1_markAsked 19 = .ok (.invokevirtual 56, 3) := by decide +kernel
theorem dX1_markAsked_22 : decode cX1_markAsked 22 = .ok (.ireturn, 1) := by decide +kernel
theorem lkX1_56 : LkV "BumperBalls$Asks" 56 yX1_markOfLamp cX1_markOfLamp 1 (some Jvm.ClassFile.FieldType.int) 0 := ⟨wk_796, wk_9, wk_795, wk_s60, ⟨by decide +kernel, by decide +kernel, by decide +kernel⟩, wk_793⟩
/-! BumperBalls$Asks.markAsked()I -/
def fnX1_markAsked_22 (I0 : Mem) (t0 : Int32) : Option (Int32 × Mem) :=
  some (t0, I0)
set_option maxRecDepth 20000 in
set_option maxHeartbeats 2000000 in
theorem ebX1_markAsked_22 {g : Cfg} (C : Cx g RX1 cX1_markAsked 1 3 62 0 0) {h : Shp} (H0 : AsksAt h) {r1 : Int32} {o1 : Mem} (q : QI g (some Jvm.ClassFile.FieldType.int) 0 0 r1 (o1, h)) {I0 : Mem} {t0 : Int32} (hf : fnX1_markAsked_22 I0 t0 = some (r1, o1)) : XE g 0 0 (I0, h) 22 [] [.int t0] := by
  unfold fnX1_markAsked_22 at hf
  exact xr_ireturn C q rfl rfl dX1_markAsked_22 (so_1 hf) (so_w hf)
def fnX1_markAsked (I0 : Mem) : Option (Int32 × Mem) :=
  ob (fnX9_isOfKind I0 (I0 91 3) 1) fun ⟨r3, I2⟩ => if r3 = 0 then (ob (fnX1_markOfLamp I2) fun ⟨r7, I6⟩ => fnX1_markAsked_22 I6 r7) else (ob (fnX1_markOfBumper I2) fun ⟨r10, I9⟩ => fnX1_markAsked_22 I9 r10)
set_option maxRecDepth 20000 in
set_option maxHeartbeats 2000000 in
theorem ebX1_markAsked_0 {g : Cfg} (C : Cx g RX1 cX1_markAsked 1 3 62 0 0) {h : Shp} (H0 : AsksAt h) {r1 : Int32} {o1 : Mem} (q : QI g (some Jvm.ClassFile.FieldType.int) 0 0 r1 (o1, h)) {I0 : Mem} (hf : fnX1_markAsked I0 = some (r1, o1)) : XE g 0 0 (I0, h) 0 [(0, rf g 91)] [] := by
  unfold fnX1_markAsked at hf
  refine xr_aload_n C dX1_markAsked_0 0 rfl rfl ?_
  refine xr_geti C Kd1 (k := 3) (by decide) rfl wk_267 rfl H0.1 dX1_markAsked_1 ?_
  refine xr_iconst (v := 1) C dX1_markAsked_4 (by decide) ?_
  obtain ⟨⟨r3, I2⟩, h1, hf⟩ := ob_x hf
  refine xr_callSNI C [.int (I0 91 3), .int 1] lkX1_42 (kX9_isOfKind h1) rfl (Nat.le_of_ble_eq_true rfl) rfl dX1_markAsked_5 ⟨by decide, by decide, by decide⟩ rfl ?_
  refine xr_if_eq (tgt := 18) C dX1_markAsked_8 (by decide) hf (fun c4 hf => ?_) (fun c4 hf => ?_)
  · refine xr_aload_n C dX1_markAsked_18 0 rfl rfl ?_
    obtain ⟨⟨r7, I6⟩, h5, hf⟩ := ob_x hf
    refine xr_callVI C [] lkX1_56 (kX1_markOfLamp H0 h5) Kd1 rfl H0.1 rfl (Nat.le_of_ble_eq_true rfl) rfl dX1_markAsked_19 ⟨by decide, by decide, by decide⟩ rfl ?_
    refine xr_lv [] rfl ?_
    exact ebX1_markAsked_22 C H0 q hf
  · refine xr_aload_n C dX1_markAsked_11 0 rfl rfl ?_
    obtain ⟨⟨r10, I9⟩, h8, hf⟩ := ob_x hf
    refine xr_callVI C [] lkX1_53 (kX1_markOfBumper H0 h8) Kd1 rfl H0.1 rfl (Nat.le_of_ble_eq_true rfl) rfl dX1_markAsked_12 ⟨by decide, by decide, by decide⟩ rfl ?_
    refine xr_goto (tgt := 22) C dX1_markAsked_15 (by decide) ?_
    refine xr_lv [] rfl ?_
    exact ebX1_markAsked_22 C H0 q hf
theorem kX1_markAsked {B : Bs} {h : Shp} (H0 : AsksAt h) {I0 : Mem} {r1 : Int32} {o1 : Mem} (hf : fnX1_markAsked I0 = some (r1, o1)) : CtrI B yX1_markAsked cX1_markAsked 1 (some Jvm.ClassFile.FieldType.int) 3 62 0 0 [rfB B 91] (I0, h) r1 (o1, h) := by
  refine xr_enterI (lv0 := [(0, rfB B 91)]) (by decide) (Nat.le_of_ble_eq_true rfl) rfl (fun g hg C q => ?_)
  subst hg
  exact ebX1_markAsked_0 C H0 q hf
theorem dX6_fewer_0 : decode cX6_fewer 0 = .ok (.iload_n 0, 1) := by decide +kernel
theorem dX6_fewer_1 : decode cX6_fewer 1 = .ok (.ldc 30, 2) := by decide +kernel
theorem dX6_fewer_3 : decode cX6_fewer 3 = .ok (.if_icmp .ne 7, 3) := by decide +kernel
theorem dX6_fewer_6 : decode cX6_fewer 6 = .ok (.iload_n 1, 1) := by decide +kernel
theorem dX6_fewer_7 : decode cX6_fewer 7 = .ok (.goto 8, 3) := by decide +kernel
theorem dX6_fewer_10 : decode cX6_fewer 10 = .ok (.iload_n 0, 1) := by decide +kernel
theorem dX6_fewer_11 : decode cX6_fewer 11 = .ok (.iload_n 1, 1) := by decide +kernel
theorem dX6_fewer_12 : decode cX6_fewer 12 = .ok (.invokestatic 64, 3) := by decide +kernel
theorem dX6_fewer_15 : decode cX6_fewer 15 = .ok (.ireturn, 1) := by decide +kernel
/-! BumperBalls$Search.fewer(II)I -/
def fnX6_fewer_15 (I0 : Mem) (t0 : Int32) : Option (Int32 × Mem) :=
  some (t0, I0)
set_option maxRecDepth 20000 in
set_option maxHeartbeats 2000000 in
theorem ebX6_fewer_15 {g : Cfg} (C : Cx g RX6 cX6_fewer 2 1 21 0 0) {h : Shp} {r1 : Int32} {o1 : Mem} (q : QI g (some Jvm.ClassFile.FieldType.int) 0 0 r1 (o1, h)) {I0 : Mem} {t0 : Int32} (hf : fnX6_fewer_15 I0 t0 = some (r1, o1)) : XE g 0 0 (I0, h) 15 [] [.int t0] := by
  unfold fnX6_fewer_15 at hf
  exact xr_ireturn C q rfl rfl dX6_fewer_15 (so_1 hf) (so_w hf)
def fnX6_fewer (I0 : Mem) (p0 : Int32) (p1 : Int32) : Option (Int32 × Mem) :=
  if p0 = (-1000000) then (fnX6_fewer_15 I0 p1) else (fnX6_fewer_15 I0 (mnI p0 p1))
set_option maxRecDepth 20000 in
set_option maxHeartbeats 2000000 in
theorem ebX6_fewer_0 {g : Cfg} (C : Cx g RX6 cX6_fewer 2 1 21 0 0) {h : Shp} {r1 : Int32} {o1 : Mem} (q : QI g (some Jvm.ClassFile.FieldType.int) 0 0 r1 (o1, h)) {I0 : Mem} {p0 : Int32} {p1 : Int32} (hf : fnX6_fewer I0 p0 p1 = some (r1, o1)) : XE g 0 0 (I0, h) 0 [(0, .int p0), (1, .int p1)] [] := by
  unfold fnX6_fewer at hf
  refine xr_iload_n C dX6_fewer_0 0 rfl rfl ?_
  refine xr_ldc C wk_241 dX6_fewer_1 ?_
  refine xr_icmp_ne (tgt := 10) C dX6_fewer_3 (by decide) hf (fun c1 hf => ?_) (fun c1 hf => ?_)
  · refine xr_iload_n C dX6_fewer_10 0 rfl rfl ?_
    refine xr_iload_n C dX6_fewer_11 1 rfl rfl ?_
    refine xr_min C wk_689 wk_690 wk_17 wk_691 (by decide) (Nat.le_of_ble_eq_true rfl) ⟨Nat.zero_le _, Nat.zero_le _⟩ dX6_fewer_12 ?_
    refine xr_lv [] rfl ?_
    exact ebX6_fewer_15 C q hf
  · refine xr_iload_n C dX6_fewer_6 1 rfl rfl ?_
    refine xr_goto (tgt := 15) C dX6_fewer_7 (by decide) ?_
    refine xr_lv [] rfl ?_
    exact ebX6_fewer_15 C q hf
theorem kX6_fewer {B : Bs} {h : Shp} {I0 : Mem} {p0 : Int32} {p1 : Int32} {r1 : Int32} {o1 : Mem} (hf : fnX6_fewer I0 p0 p1 = some (r1, o1)) : CtrI B yX6_fewer cX6_fewer 2 (some Jvm.ClassFile.FieldType.int) 1 21 0 0 [.int p0, .int p1] (I0, h) r1 (o1, h) := by
  refine xr_enterI (lv0 := [(0, .int p0), (1, .int p1)]) (by decide) (Nat.le_of_ble_eq_true rfl) rfl (fun g hg C q => ?_)
  subst hg
  exact ebX6_fewer_0 C q hf
theorem dX6_goOn_0 : decode cX6_goOn 0 = .ok (.aload_n 0, 1) := by decide +kernel
theorem dX6_goOn_1 : decode cX6_goOn 1 = .ok (.getfield 26, 3) := by decide +kernel
theorem dX6_goOn_4 : decode cX6_goOn 4 = .ok (.iload_n 2, 1) := by decide +kernel
theorem dX6_goOn_5 : decode cX6_goOn 5 = .ok (.sipush 168, 3) := by decide +kernel
theorem dX6_goOn_8 : decode cX6_goOn 8 = .ok (.irem, 1) := by decide +kernel
theorem dX6_goOn_9 : decode cX6_goOn 9 = .ok (.iconst 4, 1) := by decide +kernel
theorem dX6_goOn_10 : decode cX6_goOn 10 = .ok (.idiv, 1) := by decide +kernel
theorem dX6_goOn_11 : decode cX6_goOn 11 = .ok (.iload_n 2, 1) := by decide +kernel
theorem dX6_goOn_12 : decode cX6_goOn 12 = .ok (.iconst 4, 1) := by decide +kernel
theorem dX6_goOn_13 : decode cX6_goOn 13 = .ok (.irem, 1) := by decide +kernel
theorem dX6_goOn_14 : decode cX6_goOn 14 = .ok (.invokevirtual 70, 3) := by decide +kernel
theorem dX6_goOn_17 : decode cX6_goOn 17 = .ok (.aload_n 0, 1) := by decide +kernel
theorem dX6_goOn_18 : decode cX6_goOn 18 = .ok (.getfield 26, 3) := by decide +kernel
theorem dX6_goOn_21 : decode cX6_goOn 21 = .ok (.iload_n 2, 1) := by decide +kernel
theorem dX6_goOn_22 : decode cX6_goOn 22 = .ok (.sipush 168, 3) := by decide +kernel
theorem dX6_goOn_25 : decode cX6_goOn 25 = .ok (.idiv, 1) := by decide +kernel
theorem dX6_goOn_26 : decode cX6_goOn 26 = .ok (.putfield 74, 3) := by decide +kernel
theorem dX6_goOn_29 : decode cX6_goOn 29 = .ok (.aload_n 0, 1) := by decide +kernel
theorem dX6_goOn_30 : decode cX6_goOn 30 = .ok (.getfield 26, 3) := by decide +kernel
theorem dX6_goOn_33 : decode cX6_goOn 33 = .ok (.iload_n 3, 1) := by decide +kernel
theorem dX6_goOn_34 : decode cX6_goOn 34 = .ok (.invokevirtual 77, 3) := by decide +kernel
theorem dX6_goOn_37 : decode cX6_goOn 37 = .ok (.aload_n 0, 1) := by decide +kernel
theorem dX6_goOn_38 : decode cX6_goOn 38 = .ok (.getfield 26, 3) := by decide +kernel
theorem dX6_goOn_41 : decode cX6_goOn 41 = .ok (.aload_n 1, 1) := by decide +kernel
theorem dX6_goOn_42 : decode cX6_goOn 42 = .ok (.invokevirtual 80, 3) := by decide +kernel
theorem dX6_goOn_45 : decode cX6_goOn 45 = .ok (.aload_n 0, 1) := by decide +kernel
theorem dX6_goOn_46 : decode cX6_goOn 46 = .ok (.getfield 26, 3) := by decide +kernel
theorem dX6_goOn_49 : decode cX6_goOn 49 = .ok (.getfield 84, 3) := by decide +kernel
theorem dX6_goOn_52 : decode cX6_goOn 52 = .ok (.iconst (-1), 1) := by decide +kernel
theorem dX6_goOn_53 : decode cX6_goOn 53 = .ok (.if_icmp .eq 33, 3) := by decide +kernel
theorem dX6_goOn_56 : decode cX6_goOn 56 = .ok (.aload_n 1, 1) := by decide +kernel
theorem dX6_goOn_57 : decode cX6_goOn 57 = .ok (.getfield 87, 3) := by decide +kernel
theorem dX6_goOn_60 : decode cX6_goOn 60 = .ok (.aload_n 0, 1) := by decide +kernel
theorem dX6_goOn_61 : decode cX6_goOn 61 = .ok (.getfield 26, 3) := by decide +kernel
theorem dX6_goOn_64 : decode cX6_goOn 64 = .ok (.getfield 84, 3) := by decide +kernel
theorem dX6_goOn_67 : decode cX6_goOn 67 = .ok (.iaload, 1) := by decide +kernel
theorem dX6_goOn_68 : decode cX6_goOn 68 = .ok (.iload 5, 2) := by decide +kernel
theorem dX6_goOn_70 : decode cX6_goOn 70 = .ok (.if_icmp .ne 16, 3) := by decide +kernel
theorem dX6_goOn_73 : decode cX6_goOn 73 = .ok (.aload_n 0, 1) := by decide +kernel
theorem dX6_goOn_74 : decode cX6_goOn 74 = .ok (.aload_n 0, 1) := by decide +kernel
theorem dX6_goOn_75 : decode cX6_goOn 75 = .ok (.getfield 31, 3) := by decide +kernel
theorem dX6_goOn_78 : decode cX6_goOn 78 = .ok (.iload 4, 2) := by decide +kernel
theorem dX6_goOn_80 : decode cX6_goOn 80 = .ok (.invokestatic 90, 3) := by decide +kernel
theorem dX6_goOn_83 : decode cX6_goOn 83 = .ok (.putfield 31, 3) := by decide +kernel
theorem dX6_goOn_86 : decode cX6_goOn 86 = .ok (.aload_n 0, 1) := by decide +kernel
theorem dX6_goOn_87 : decode cX6_goOn 87 = .ok (.getfield 26, 3) := by decide +kernel
theorem dX6_goOn_90 : decode cX6_goOn 90 = .ok (.getfield 93, 3) := by decide +kernel
theorem dX6_goOn_93 : decode cX6_goOn 93 = .ok (.ifCond .ne 16, 3) := by decide +kernel
theorem dX6_goOn_96 : decode cX6_goOn 96 = .ok (.aload_n 0, 1) := by decide +kernel
theorem dX6_goOn_97 : decode cX6_goOn 97 = .ok (.getfield 20, 3) := by decide +kernel
theorem dX6_goOn_100 : decode cX6_goOn 100 = .ok (.aload_n 0, 1) := by decide +kernel
theorem dX6_goOn_101 : decode cX6_goOn 101 = .ok (.getfield 26, 3) := by decide +kernel
theorem dX6_goOn_104 : decode cX6_goOn 104 = .ok (.iload 4, 2) := by decide +kernel
theorem dX6_goOn_106 : decode cX6_goOn 106 = .ok (.invokevirtual 46, 3) := by decide +kernel
theorem dX6_goOn_109 : decode cX6_goOn 109 = .ok (.return_, 1) := by decide +kernel
theorem lkX6_70 : LkN "BumperBalls$Search" 70 yX4_place cX4_place 3 none 2 := ⟨wk_550, wk_5, wk_549, wk_s26, ⟨by decide +kernel, by decide +kernel, by decide +kernel⟩, (List.mem_of_getElem? (i := 100) (by decide +kernel))⟩
theorem lkX6_77 : LkN "BumperBalls$Search" 77 yX4_turn cX4_turn 2 none 1 := ⟨wk_588, wk_5, wk_587, wk_s32, ⟨by decide +kernel, by decide +kernel, by decide +kernel⟩, (List.mem_of_getElem? (i := 101) (by decide +kernel))⟩
theorem lkX6_80 : LkN "BumperBalls$Search" 80 yX4_step cX4_step 2 none 1 := ⟨wk_577, wk_5, wk_576, wk_s30, ⟨by decide +kernel, by decide +kernel, by decide +kernel⟩, (List.mem_of_getElem? (i := 102) (by decide +kernel))⟩
theorem lkX6_90 : LkS "BumperBalls$Search" 90 yX6_fewer cX6_fewer 2 (some Jvm.ClassFile.FieldType.int) 2 := ⟨wk_711, wk_7, wk_710, ⟨by decide +kernel, by decide +kernel, by decide +kernel⟩, wk_709⟩
theorem lkX6_46 : LkN "BumperBalls$Search" 46 yX3_reach cX3_reach 4 none 2 := ⟨wk_699, wk_8, wk_698, wk_s47, ⟨by decide +kernel, by decide +kernel, by decide +kernel⟩, (List.mem_of_getElem? (i := 99) (by decide +kernel))⟩
/-! BumperBalls$Search.goOn(LBumperBalls$Table;IIII)V -/
def fnX6_goOn_109 (nw : Nat) (nx : Nat) (n : Nat) (a1 : Nat) (I0 : Mem) : Option Mem :=
  some I0
set_option maxRecDepth 20000 in
set_option maxHeartbeats 2000000 in
theorem ebX6_goOn_109 {g : Cfg} (C : Cx g RX6 cX6_goOn 6 4 86 0 0) {h : Shp} {nw : Nat} {nx : Nat} {n : Nat} {a1 : Nat} (H0 : SearchAt h nw nx n) (H1 : TableAt h a1) {o1 : Mem} (q : QV g 0 0 (o1, h)) {I0 : Mem} (hf : fnX6_goOn_109 nw nx n a1 I0 = some o1) : XE g 0 0 (I0, h) 109 [] [] := by
  unfold fnX6_goOn_109 at hf
  exact xr_return C q dX6_goOn_109 (so_v hf)
def fnX6_goOn_86 (nw : Nat) (nx : Nat) (n : Nat) (a1 : Nat) (I0 : Mem) (l4 : Int32) : Option Mem :=
  if (I0 89 2) = 0 then (ob (fnX3_reach nx n 89 I0 l4) fun I3 => fnX6_goOn_109 nw nx n a1 I3) else (fnX6_goOn_109 nw nx n a1 I0)
set_option maxRecDepth 20000 in
set_option maxHeartbeats 2000000 in
theorem ebX6_goOn_86 {g : Cfg} (C : Cx g RX6 cX6_goOn 6 4 86 0 0) {h : Shp} {nw : Nat} {nx : Nat} {n : Nat} {a1 : Nat} (H0 : SearchAt h nw nx n) (H1 : TableAt h a1) {o1 : Mem} (q : QV g 0 0 (o1, h)) {I0 : Mem} {l4 : Int32} (hf : fnX6_goOn_86 nw nx n a1 I0 l4 = some o1) : XE g 0 0 (I0, h) 86 [(0, rf g 82), (4, .int l4)] [] := by
  unfold fnX6_goOn_86 at hf
  refine xr_aload_n C dX6_goOn_86 0 rfl rfl ?_
  refine xr_getr C Kd6 (k := 2) (by decide) rfl wk_244 rfl H0.1 H0.2.2.2.1 dX6_goOn_87 ?_
  refine xr_getiN C Kd4 (k := 2) (by decide) rfl nk46 rfl H0.2.2.2.2.1 dX6_goOn_90 ?_
  refine xr_if_ne (tgt := 109) C dX6_goOn_93 (by decide) hf (fun c1 hf => ?_) (fun c1 hf => ?_)
  · refine xr_lv [] rfl ?_
    exact ebX6_goOn_109 C H0 H1 q hf
  · refine xr_aload_n C dX6_goOn_96 0 rfl rfl ?_
    refine xr_getr C Kd6 (k := 1) (by decide) rfl wk_243 rfl H0.1 H0.2.2.1.1 dX6_goOn_97 ?_
    refine xr_aload_n C dX6_goOn_100 0 rfl rfl ?_
    refine xr_getr C Kd6 (k := 2) (by decide) rfl wk_244 rfl H0.1 H0.2.2.2.1 dX6_goOn_101 ?_
    refine xr_iload C dX6_goOn_104 1 rfl ?_
    obtain ⟨I3, h2, hf⟩ := ob_x hf
    refine xr_callNV C [rf g 89, .int l4] lkX6_46 (kX3_reach H0.2.2.1.2 H0.2.2.2.2 h2) Kd3 rfl H0.2.2.1.2.1 rfl (Nat.le_of_ble_eq_true rfl) rfl dX6_goOn_106 ⟨by decide, by decide, by decide⟩ rfl ?_
    refine xr_lv [] rfl ?_
    exact ebX6_goOn_109 C H0 H1 q hf
def fnX6_goOn (nw : Nat) (nx : Nat) (n : Nat) (a1 : Nat) (I0 : Mem) (p2 : Int32) (p3 : Int32) (p4 : Int32) (p5 : Int32) : Option Mem :=
  ob (fnX4_place 89 I0 ((irm p2 168) / 4) (irm p2 4)) fun I2 => bnd (up2 I2 89 6 (p2 / 168)) fun I3 => ob (fnX4_turn 89 I3 p3) fun I5 => ob (fnX4_step 89 a1 I5) fun I7 => if (I7 89 9) = (-1) then (fnX6_goOn_86 nw nx n a1 I7 p4) else (ck (inb (I7 89 9) 6) <| if (I7 (a1 + 3) (ix (I7 89 9))) = p5 then (ob (fnX6_fewer I7 (I7 82 3) p4) fun ⟨r13, I12⟩ => bnd (up2 I12 82 3 r13) fun I14 => fnX6_goOn_86 nw nx n a1 I14 p4) else (fnX6_goOn_86 nw nx n a1 I7 p4))
set_option maxRecDepth 20000 in
set_option maxHeartbeats 2000000 in
theorem ebX6_goOn_0 {g : Cfg} (C : Cx g RX6 cX6_goOn 6 4 86 0 0) {h : Shp} {nw : Nat} {nx : Nat} {n : Nat} {a1 : Nat} (H0 : SearchAt h nw nx n) (H1 : TableAt h a1) {o1 : Mem} (q : QV g 0 0 (o1, h)) {I0 : Mem} {p2 : Int32} {p3 : Int32} {p4 : Int32} {p5 : Int32} (hf : fnX6_goOn nw nx n a1 I0 p2 p3 p4 p5 = some o1) : XE g 0 0 (I0, h) 0 [(0, rf g 82), (1, rf g a1), (2, .int p2), (3, .int p3), (4, .int p4), (5, .int p5)] [] := by
  unfold fnX6_goOn at hf
  refine xr_aload_n C dX6_goOn_0 0 rfl rfl ?_
  refine xr_getr C Kd6 (k := 2) (by decide) rfl wk_244 rfl H0.1 H0.2.2.2.1 dX6_goOn_1 ?_
  refine xr_iload_n C dX6_goOn_4 2 rfl rfl ?_
  refine xr_sipush (v := 168) C dX6_goOn_5 (by decide) ?_
  refine xr_irem C dX6_goOn_8 (by decide) ?_
  refine xr_iconst (v := 4) C dX6_goOn_9 (by decide) ?_
  refine xr_idiv C dX6_goOn_10 (by decide) ?_
  refine xr_iload_n C dX6_goOn_11 2 rfl rfl ?_
  refine xr_iconst (v := 4) C dX6_goOn_12 (by decide) ?_
  refine xr_irem C dX6_goOn_13 (by decide) ?_
  obtain ⟨I2, h1, hf⟩ := ob_x hf
  refine xr_callNV C [.int ((irm p2 168) / 4), .int (irm p2 4)] lkX6_70 (kX4_place H0.2.2.2.2 h1) Kd4 rfl H0.2.2.2.2.1 rfl (Nat.le_of_ble_eq_true rfl) rfl dX6_goOn_14 ⟨by decide, by decide, by decide⟩ rfl ?_
  refine xr_aload_n C dX6_goOn_17 0 rfl rfl ?_
  refine xr_getr C Kd6 (k := 2) (by decide) rfl wk_244 rfl H0.1 H0.2.2.2.1 dX6_goOn_18 ?_
  refine xr_iload_n C dX6_goOn_21 2 rfl rfl ?_
  refine xr_sipush (v := 168) C dX6_goOn_22 (by decide) ?_
  refine xr_idiv C dX6_goOn_25 (by decide) ?_
  obtain ⟨I3, eI3, hf⟩ := bnd_x hf
  refine xr_putIN C Kd4 (k := 6) (by decide) rfl rfl nk43 rfl rfl rfl H0.2.2.2.2.1 dX6_goOn_26 eI3 ?_
  refine xr_aload_n C dX6_goOn_29 0 rfl rfl ?_
  refine xr_getr C Kd6 (k := 2) (by decide) rfl wk_244 rfl H0.1 H0.2.2.2.1 dX6_goOn_30 ?_
  refine xr_iload_n C dX6_goOn_33 3 rfl rfl ?_
  obtain ⟨I5, h4, hf⟩ := ob_x hf
  refine xr_callNV C [.int p3] lkX6_77 (kX4_turn H0.2.2.2.2 h4) Kd4 rfl H0.2.2.2.2.1 rfl (Nat.le_of_ble_eq_true rfl) rfl dX6_goOn_34 ⟨by decide, by decide, by decide⟩ rfl ?_
  refine xr_aload_n C dX6_goOn_37 0 rfl rfl ?_
  refine xr_getr C Kd6 (k := 2) (by decide) rfl wk_244 rfl H0.1 H0.2.2.2.1 dX6_goOn_38 ?_
  refine xr_aload_n C dX6_goOn_41 1 rfl rfl ?_
  obtain ⟨I7, h6, hf⟩ := ob_x hf
  refine xr_callNV C [rf g a1] lkX6_80 (kX4_step H0.2.2.2.2 H1 h6) Kd4 rfl H0.2.2.2.2.1 rfl (Nat.le_of_ble_eq_true rfl) rfl dX6_goOn_42 ⟨by decide, by decide, by decide⟩ rfl ?_
  refine xr_aload_n C dX6_goOn_45 0 rfl rfl ?_
  refine xr_getr C Kd6 (k := 2) (by decide) rfl wk_244 rfl H0.1 H0.2.2.2.1 dX6_goOn_46 ?_
  refine xr_getiN C Kd4 (k := 9) (by decide) rfl nk44 rfl H0.2.2.2.2.1 dX6_goOn_49 ?_
  refine xr_iconst (v := (-1)) C dX6_goOn_52 (by decide) ?_
  refine xr_icmp_eq (tgt := 86) C dX6_goOn_53 (by decide) hf (fun c8 hf => ?_) (fun c8 hf => ?_)
  · refine xr_lv [0, 4] rfl ?_
    exact ebX6_goOn_86 C H0 H1 q hf
  · refine xr_aload_n C dX6_goOn_56 1 rfl rfl ?_
    refine xr_getrN C Kd7 (k := 4) (by decide) rfl nk45 rfl H1.1 H1.2.2.2.1.1 dX6_goOn_57 ?_
    refine xr_aload_n C dX6_goOn_60 0 rfl rfl ?_
    refine xr_getr C Kd6 (k := 2) (by decide) rfl wk_244 rfl H0.1 H0.2.2.2.1 dX6_goOn_61 ?_
    refine xr_getiN C Kd4 (k := 9) (by decide) rfl nk44 rfl H0.2.2.2.2.1 dX6_goOn_64 ?_
    obtain ⟨i9, hf⟩ := ck_x hf
    refine xr_iald C H1.2.2.2.1.2 i9 dX6_goOn_67 ?_
    refine xr_iload C dX6_goOn_68 5 rfl ?_
    refine xr_icmp_ne (tgt := 86) C dX6_goOn_70 (by decide) hf (fun c10 hf => ?_) (fun c10 hf => ?_)
    · refine xr_lv [0, 4] rfl ?_
      exact ebX6_goOn_86 C H0 H1 q hf
    · refine xr_aload_n C dX6_goOn_73 0 rfl rfl ?_
      refine xr_aload_n C dX6_goOn_74 0 rfl rfl ?_
      refine xr_geti C Kd6 (k := 3) (by decide) rfl wk_245 rfl H0.1 dX6_goOn_75 ?_
      refine xr_iload C dX6_goOn_78 4 rfl ?_
      obtain ⟨⟨r13, I12⟩, h11, hf⟩ := ob_x hf
      refine xr_callSI C [.int (I7 82 3), .int p4] lkX6_90 (kX6_fewer h11) rfl (Nat.le_of_ble_eq_true rfl) rfl dX6_goOn_80 ⟨by decide, by decide, by decide⟩ rfl ?_
      obtain ⟨I14, eI14, hf⟩ := bnd_x hf
      refine xr_putI C Kd6 (k := 3) (by decide) rfl rfl wk_245 rfl rfl rfl H0.1 dX6_goOn_83 eI14 ?_
      refine xr_lv [0, 4] rfl ?_
      exact ebX6_goOn_86 C H0 H1 q hf
theorem kX6_goOn {B : Bs} {h : Shp} {nw : Nat} {nx : Nat} {n : Nat} {a1 : Nat} (H0 : SearchAt h nw nx n) (H1 : TableAt h a1) {I0 : Mem} {p2 : Int32} {p3 : Int32} {p4 : Int32} {p5 : Int32} {o1 : Mem} (hf : fnX6_goOn nw nx n a1 I0 p2 p3 p4 p5 = some o1) : CtrV B yX6_goOn cX6_goOn 6 4 86 0 0 [rfB B 82, rfB B a1, .int p2, .int p3, .int p4, .int p5] (I0, h) (o1, h) := by
  refine xr_enterV (lv0 := [(0, rfB B 82), (1, rfB B a1), (2, .int p2), (3, .int p3), (4, .int p4), (5, .int p5)]) (by decide) (Nat.le_of_ble_eq_true rfl) rfl (fun g hg C q => ?_)
  subst hg
  exact ebX6_goOn_0 C H0 H1 q hf
theorem dX6_fewestStaying_0 : decode cX6_fewestStaying 0 = .ok (.ldc 30, 2) := by decide +kernel
theorem dX6_fewestStaying_2 : decode cX6_fewestStaying 2 = .ok (.istore_n 1, 1) := by decide +kernel
theorem dX6_fewestStaying_3 : decode cX6_fewestStaying 3 = .ok (.iconst 0, 1) := by decide +kernel
theorem dX6_fewestStaying_4 : decode cX6_fewestStaying 4 = .ok (.istore_n 2, 1) := by decide +kernel
theorem dX6_fewestStaying_5 : decode cX6_fewestStaying 5 = .ok (.iload_n 2, 1) := by decide +kernel
theorem dX6_fewestStaying_6 : decode cX6_fewestStaying 6 = .ok (.aload_n 0, 1) := by decide +kernel
theorem dX6_fewestStaying_7 : decode cX6_fewestStaying 7 = .ok (.getfield 14, 3) := by decide +kernel
theorem dX6_fewestStaying_10 : decode cX6_fewestStaying 10 = .ok (.getfield 50, 3) := by decide +kernel
theorem dX6_fewestStaying_13 : decode cX6_fewestStaying 13 = .ok (.if_icmp .ge 33, 3) := by decide +kernel
theorem dX6_fewestStaying_16 : decode cX6_fewestStaying 16 = .ok (.iload_n 1, 1) := by decide +kernel
theorem dX6_fewestStaying_17 : decode cX6_fewestStaying 17 = .ok (.aload_n 0, 1) := by decide +kernel
theorem dX6_fewestStaying_18 : decode cX6_fewestStaying 18 = .ok (.getfield 14, 3) := by decide +kernel
theorem dX6_fewestStaying_21 : decode cX6_fewestStaying 21 = .ok (.getfield 57, 3) := by decide +kernel
theorem dX6_fewestStaying_24 : decode cX6_fewestStaying 24 = .ok (.aload_n 0, 1) := by decide +kernel
theorem dX6_fewestStaying_25 : decode cX6_fewestStaying 25 = .ok (.getfield 14, 3) := by decide +kernel
theorem dX6_fewestStaying_28 : decode cX6_fewestStaying 28 = .ok (.getfield 53, 3) := by decide +kernel
theorem dX6_fewestStaying_31 : decode cX6_fewestStaying 31 = .ok (.iload_n 2, 1) := by decide +kernel
theorem dX6_fewestStaying_32 : decode cX6_fewestStaying 32 = .ok (.iaload, 1) := by decide +kernel
theorem dX6_fewestStaying_33 : decode cX6_fewestStaying 33 = .ok (.iaload, 1) := by decide +kernel
theorem dX6_fewestStaying_34 : decode cX6_fewestStaying 34 = .ok (.iconst 1, 1) := by decide +kernel
theorem dX6_fewestStaying_35 : decode cX6_fewestStaying 35 = .ok (.isub, 1) := by decide +kernel
theorem dX6_fewestStaying_36 : decode cX6_fewestStaying 36 = .ok (.invokestatic 90, 3) := by decide +kernel
theorem dX6_fewestStaying_39 : decode cX6_fewestStaying 39 = .ok (.istore_n 1, 1) := by decide +kernel
theorem dX6_fewestStaying_40 : decode cX6_fewestStaying 40 = .ok (.iinc 2 1, 3) := by decide +kernel
theorem dX6_fewestStaying_43 : decode cX6_fewestStaying 43 = .ok (.goto (-38), 3) := by decide +kernel
theorem dX6_fewestStaying_46 : decode cX6_fewestStaying 46 = .ok (.iload_n 1, 1) := by decide +kernel
theorem dX6_fewestStaying_47 : decode cX6_fewestStaying 47 = .ok (.ireturn, 1) := by decide +kernel
/-! BumperBalls$Search.fewestStaying()I -/
def fnX6_fewestStaying_5b (nw : Nat) (nx : Nat) (n : Nat) (rec5 : Mem → Int32 → Int32 → Option (Int32 × Mem)) (I0 : Mem) (l1 : Int32) (l2 : Int32) : Option (Int32 × Mem) :=
  if (I0 nw 2) ≤ l2 then (some (l1, I0)) else (ck (inb l2 n) <| ck (inb (I0 (nw + 1) (ix l2)) n) <| ob (fnX6_fewer I0 l1 ((I0 (nw + 2) (ix (I0 (nw + 1) (ix l2)))) - 1)) fun ⟨r6, I5⟩ => bnd (l2 + 1) fun v7 => rec5 I5 r6 v7)
def fnX6_fewestStaying_5 (nw : Nat) (nx : Nat) (n : Nat) : Nat → Mem → Int32 → Int32 → Option (Int32 × Mem)
  | 0 => fun _ _ _ => none
  | fu + 1 => fnX6_fewestStaying_5b nw nx n (fnX6_fewestStaying_5 nw nx n fu)
set_option maxRecDepth 20000 in
set_option maxHeartbeats 2000000 in
theorem ebX6_fewestStaying_5b {g : Cfg} (C : Cx g RX6 cX6_fewestStaying 3 2 42 0 0) {h : Shp} {nw : Nat} {nx : Nat} {n : Nat} (H0 : SearchAt h nw nx n) {r1 : Int32} {o1 : Mem} {rec5 : Mem → Int32 → Int32 → Option (Int32 × Mem)} (q : QI g (some Jvm.ClassFile.FieldType.int) 0 0 r1 (o1, h)) (ih5 : ∀ (I0 : Mem) (l1 : Int32) (l2 : Int32), rec5 I0 l1 l2 = some (r1, o1) → XE g 0 0 (I0, h) 5 [(0, rf g 82), (1, .int l1), (2, .int l2)] []) {I0 : Mem} {l1 : Int32} {l2 : Int32} (hf : fnX6_fewestStaying_5b nw nx n rec5 I0 l1 l2 = some (r1, o1)) : XE g 0 0 (I0, h) 5 [(0, rf g 82), (1, .int l1), (2, .int l2)] [] := by
  unfold fnX6_fewestStaying_5b at hf
  refine xr_iload_n C dX6_fewestStaying_5 2 rfl rfl ?_
  refine xr_aload_n C dX6_fewestStaying_6 0 rfl rfl ?_
  refine xr_getr C Kd6 (k := 0) (by decide) rfl wk_242 rfl H0.1 H0.2.1.1 dX6_fewestStaying_7 ?_
  refine xr_getiN C Kd3 (k := 2) (by decide) rfl nk40 rfl H0.2.1.2.1 dX6_fewestStaying_10 ?_
  refine xr_icmp_ge (tgt := 46) C dX6_fewestStaying_13 (by decide) hf (fun c1 hf => ?_) (fun c1 hf => ?_)
  · refine xr_iload_n C dX6_fewestStaying_46 1 rfl rfl ?_
    exact xr_ireturn C q rfl rfl dX6_fewestStaying_47 (so_1 hf) (so_w hf)
  · refine xr_iload_n C dX6_fewestStaying_16 1 rfl rfl ?_
    refine xr_aload_n C dX6_fewestStaying_17 0 rfl rfl ?_
    refine xr_getr C Kd6 (k := 0) (by decide) rfl wk_242 rfl H0.1 H0.2.1.1 dX6_fewestStaying_18 ?_
    refine xr_getrN C Kd3 (k := 1) (by decide) rfl nk42 rfl H0.2.1.2.1 H0.2.1.2.2.2.1 dX6_fewestStaying_21 ?_
    refine xr_aload_n C dX6_fewestStaying_24 0 rfl rfl ?_
    refine xr_getr C Kd6 (k := 0) (by decide) rfl wk_242 rfl H0.1 H0.2.1.1 dX6_fewestStaying_25 ?_
    refine xr_getrN C Kd3 (k := 0) (by decide) rfl nk41 rfl H0.2.1.2.1 H0.2.1.2.2.1.1 dX6_fewestStaying_28 ?_
    refine xr_iload_n C dX6_fewestStaying_31 2 rfl rfl ?_
    obtain ⟨i2, hf⟩ := ck_x hf
    refine xr_iald C H0.2.1.2.2.1.2 i2 dX6_fewestStaying_32 ?_
    obtain ⟨i3, hf⟩ := ck_x hf
    refine xr_iald C H0.2.1.2.2.2.2 i3 dX6_fewestStaying_33 ?_
    refine xr_iconst (v := 1) C dX6_fewestStaying_34 (by decide) ?_
    refine xr_isub C dX6_fewestStaying_35 ?_
    obtain ⟨⟨r6, I5⟩, h4, hf⟩ := ob_x hf
    refine xr_callSI C [.int l1, .int ((I0 (nw + 2) (ix (I0 (nw + 1) (ix l2)))) - 1)] lkX6_90 (kX6_fewer h4) rfl (Nat.le_of_ble_eq_true rfl) rfl dX6_fewestStaying_36 ⟨by decide, by decide, by decide⟩ rfl ?_
    refine xr_istore_n C dX6_fewestStaying_39 rfl (by decide) rfl ?_
    obtain ⟨v7, ev7, hf⟩ := bnd_x hf
    refine xr_iinc (k := 2) (v := v7) C dX6_fewestStaying_40 rfl (by rw [ev7]; rfl) (by decide) rfl ?_
    refine xr_goto (tgt := 5) C dX6_fewestStaying_43 (by decide) ?_
    refine xr_lv [2, 1, 0] rfl ?_
    exact ih5 _ _ _ hf
theorem ebX6_fewestStaying_5 {g : Cfg} (C : Cx g RX6 cX6_fewestStaying 3 2 42 0 0) {h : Shp} {nw : Nat} {nx : Nat} {n : Nat} (H0 : SearchAt h nw nx n) {r1 : Int32} {o1 : Mem} (q : QI g (some Jvm.ClassFile.FieldType.int) 0 0 r1 (o1, h)) : ∀ (fu : Nat) {I0 : Mem} {l1 : Int32} {l2 : Int32} (hf : fnX6_fewestStaying_5 nw nx n fu I0 l1 l2 = some (r1, o1)), XE g 0 0 (I0, h) 5 [(0, rf g 82), (1, .int l1), (2, .int l2)] [] := by
  intro fu
  induction fu with
  | zero =>
    intro I0 l1 l2 hf
    cases hf
  | succ fu ihn =>
    intro I0 l1 l2 hf
    exact ebX6_fewestStaying_5b C H0 q (fun _ _ _ hf => ihn hf) hf
def fnX6_fewestStaying (nw : Nat) (nx : Nat) (n : Nat) (I0 : Mem) : Option (Int32 × Mem) :=
  fnX6_fewestStaying_5 nw nx n FU I0 (-1000000) 0
set_option maxRecDepth 20000 in
set_option maxHeartbeats 2000000 in
theorem ebX6_fewestStaying_0 {g : Cfg} (C : Cx g RX6 cX6_fewestStaying 3 2 42 0 0) {h : Shp} {nw : Nat} {nx : Nat} {n : Nat} (H0 : SearchAt h nw nx n) {r1 : Int32} {o1 : Mem} (q : QI g (some Jvm.ClassFile.FieldType.int) 0 0 r1 (o1, h)) {I0 : Mem} (hf : fnX6_fewestStaying nw nx n I0 = some (r1, o1)) : XE g 0 0 (I0, h) 0 [(0, rf g 82)] [] := by
  unfold fnX6_fewestStaying at hf
  refine xr_ldc C wk_241 dX6_fewestStaying_0 ?_
  refine xr_istore_n C dX6_fewestStaying_2 rfl (by decide) rfl ?_
  refine xr_iconst (v := 0) C dX6_fewestStaying_3 (by decide) ?_
  refine xr_istore_n C dX6_fewestStaying_4 rfl (by decide) rfl ?_
  refine xr_lv [2, 1, 0] rfl ?_
  exact ebX6_fewestStaying_5 C H0 q _ hf
theorem kX6_fewestStaying {B : Bs} {h : Shp} {nw : Nat} {nx : Nat} {n : Nat} (H0 : SearchAt h nw nx n) {I0 : Mem} {r1 : Int32} {o1 : Mem} (hf : fnX6_fewestStaying nw nx n I0 = some (r1, o1)) : CtrI B yX6_fewestStaying cX6_fewestStaying 3 (some Jvm.ClassFile.FieldType.int) 2 42 0 0 [rfB B 82] (I0, h) r1 (o1, h) := by
  refine xr_enterI (lv0 := [(0, rfB B 82)]) (by decide) (Nat.le_of_ble_eq_true rfl) rfl (fun g hg C q => ?_)
  subst hg
  exact ebX6_fewestStaying_0 C H0 q hf
theorem dX9_isRow_0 : decode cX9_isRow 0 = .ok (.iload_n 0, 1) := by decide +kernel
theorem dX9_isRow_1 : decode cX9_isRow 1 = .ok (.bipush 7, 2) := by decide +kernel
theorem dX9_isRow_3 : decode cX9_isRow 3 = .ok (.invokestatic 83, 3) := by decide +kernel
theorem dX9_isRow_6 : decode cX9_isRow 6 = .ok (.ireturn, 1) := by decide +kernel
theorem lkX9_83 : LkS "BumperBalls" 83 yX9_isUpTo cX9_isUpTo 2 (some Jvm.ClassFile.FieldType.boolean) 2 := ⟨wk_351, wk_1, wk_350, ⟨by decide +kernel, by decide +kernel, by decide +kernel⟩, wk_349⟩
/-! BumperBalls.isRow(I)Z -/
def fnX9_isRow (I0 : Mem) (p0 : Int32) : Option (Int32 × Mem) :=
  ob (fnX9_isUpTo I0 p0 7) fun ⟨r3, I2⟩ => ck (zb r3) <| some (r3, I2)
set_option maxRecDepth 20000 in
set_option maxHeartbeats 2000000 in
theorem ebX9_isRow_0 {g : Cfg} (C : Cx g RX9 cX9_isRow 1 1 21 0 0) {h : Shp} {r1 : Int32} {o1 : Mem} (q : QI g (some Jvm.ClassFile.FieldType.boolean) 0 0 r1 (o1, h)) {I0 : Mem} {p0 : Int32} (hf : fnX9_isRow I0 p0 = some (r1, o1)) : XE g 0 0 (I0, h) 0 [(0, .int p0)] [] := by
  unfold fnX9_isRow at hf
  refine xr_iload_n C dX9_isRow_0 0 rfl rfl ?_
  refine xr_bipush (v := 7) C dX9_isRow_1 (by decide) ?_
  obtain ⟨⟨r3, I2⟩, h1, hf⟩ := ob_x hf
  refine xr_callSI C [.int p0, .int 7] lkX9_83 (kX9_isUpTo h1) rfl (Nat.le_of_ble_eq_true rfl) rfl dX9_isRow_3 ⟨by decide, by decide, by decide⟩ rfl ?_
  obtain ⟨z4, hf⟩ := ck_x hf
  exact xr_ireturn C q rfl (zb_ok z4).1 dX9_isRow_6 (so_1 hf) (so_w hf)
theorem kX9_isRow {B : Bs} {h : Shp} {I0 : Mem} {p0 : Int32} {r1 : Int32} {o1 : Mem} (hf : fnX9_isRow I0 p0 = some (r1, o1)) : CtrI B yX9_isRow cX9_isRow 1 (some Jvm.ClassFile.FieldType.boolean) 1 21 0 0 [.int p0] (I0, h) r1 (o1, h) := by
  refine xr_enterI (lv0 := [(0, .int p0)]) (by decide) (Nat.le_of_ble_eq_true rfl) rfl (fun g hg C q => ?_)
  subst hg
  exact ebX9_isRow_0 C q hf
theorem dX9_found_0 : decode cX9_found 0 = .ok (.aload_n 0, 1) := by decide +kernel
theorem dX9_found_1 : decode cX9_found 1 = .ok (.iload_n 1, 1) := by decide +kernel
theorem dX9_found_2 : decode cX9_found 2 = .ok (.putfield 75, 3) := by decide +kernel
theorem dX9_found_5 : decode cX9_found 5 = .ok (.ldc_w 299, 3) := by decide +kernel
theorem dX9_found_8 : decode cX9_found 8 = .ok (.iload_n 1, 1) := by decide +kernel
theorem dX9_found_9 : decode cX9_found 9 = .ok (.isub, 1) := by decide +kernel
theorem dX9_found_10 : decode cX9_found 10 = .ok (.ireturn, 1) := by decide +kernel
/-! BumperBalls.found(I)I -/
def fnX9_found (I0 : Mem) (p1 : Int32) : Option (Int32 × Mem) :=
  bnd (up2 I0 0 11 p1) fun I1 => some ((((-1000010) : Int32) - p1), I1)
set_option maxRecDepth 20000 in
set_option maxHeartbeats 2000000 in
theorem ebX9_found_0 {g : Cfg} (C : Cx g RX9 cX9_found 2 0 0 0 0) {h : Shp} (H0 : XAt h) {r1 : Int32} {o1 : Mem} (q : QI g (some Jvm.ClassFile.FieldType.int) 0 0 r1 (o1, h)) {I0 : Mem} {p1 : Int32} (hf : fnX9_found I0 p1 = some (r1, o1)) : XE g 0 0 (I0, h) 0 [(0, rf g 0), (1, .int p1)] [] := by
  unfold fnX9_found at hf
  refine xr_aload_n C dX9_found_0 0 rfl rfl ?_
  refine xr_iload_n C dX9_found_1 1 rfl rfl ?_
  obtain ⟨I1, eI1, hf⟩ := bnd_x hf
  refine xr_putI C Kd9 (k := 11) (by decide) rfl rfl wk_316 rfl rfl rfl H0.1 dX9_found_2 eI1 ?_
  refine xr_ldcw C wk_357 dX9_found_5 ?_
  refine xr_iload_n C dX9_found_8 1 rfl rfl ?_
  refine xr_isub C dX9_found_9 ?_
  exact xr_ireturn C q rfl rfl dX9_found_10 (so_1 hf) (so_w hf)
theorem kX9_found {B : Bs} {h : Shp} (H0 : XAt h) {I0 : Mem} {p1 : Int32} {r1 : Int32} {o1 : Mem} (hf : fnX9_found I0 p1 = some (r1, o1)) : CtrI B yX9_found cX9_found 2 (some Jvm.ClassFile.FieldType.int) 0 0 0 0 [rfB B 0, .int p1] (I0, h) r1 (o1, h) := by
  refine xr_enterI (lv0 := [(0, rfB B 0), (1, .int p1)]) (by decide) (Nat.le_of_ble_eq_true rfl) rfl (fun g hg C q => ?_)
  subst hg
  exact ebX9_found_0 C H0 q hf
theorem dX9_plain_0 : decode cX9_plain 0 = .ok (.aload_n 0, 1) := by decide +kernel
theorem dX9_plain_1 : decode cX9_plain 1 = .ok (.iconst 0, 1) := by decide +kernel
theorem dX9_plain_2 : decode cX9_plain 2 = .ok (.putfield 75, 3) := by decide +kernel
theorem dX9_plain_5 : decode cX9_plain 5 = .ok (.iload_n 1, 1) := by decide +kernel
theorem dX9_plain_6 : decode cX9_plain 6 = .ok (.ireturn, 1) := by decide +kernel
/-! BumperBalls.plain(I)I -/
def fnX9_plain (I0 : Mem) (p1 : Int32) : Option (Int32 × Mem) :=
  bnd (up2 I0 0 11 0) fun I1 => some (p1, I1)
set_option maxRecDepth 20000 in
set_option maxHeartbeats 2000000 in
theorem ebX9_plain_0 {g : Cfg} (C : Cx g RX9 cX9_plain 2 0 0 0 0) {h : Shp} (H0 : XAt h) {r1 : Int32} {o1 : Mem} (q : QI g (some Jvm.ClassFile.FieldType.int) 0 0 r1 (o1, h)) {I0 : Mem} {p1 : Int32} (hf : fnX9_plain I0 p1 = some (r1, o1)) : XE g 0 0 (I0, h) 0 [(0, rf g 0), (1, .int p1)] [] := by
  unfold fnX9_plain at hf
  refine xr_aload_n C dX9_plain_0 0 rfl rfl ?_
  refine xr_iconst (v := 0) C dX9_plain_1 (by decide) ?_
  obtain ⟨I1, eI1, hf⟩ := bnd_x hf
  refine xr_putI C Kd9 (k := 11) (by decide) rfl rfl wk_316 rfl rfl rfl H0.1 dX9_plain_2 eI1 ?_
  refine xr_iload_n C dX9_plain_5 1 rfl rfl ?_
  exact xr_ireturn C q rfl rfl dX9_plain_6 (so_1 hf) (so_w hf)
theorem kX9_plain {B : Bs} {h : Shp} (H0 : XAt h) {I0 : Mem} {p1 : Int32} {r1 : Int32} {o1 : Mem} (hf : fnX9_plain I0 p1 = some (r1, o1)) : CtrI B yX9_plain cX9_plain 2 (some Jvm.ClassFile.FieldType.int) 0 0 0 0 [rfB B 0, .int p1] (I0, h) r1 (o1, h) := by
  refine xr_enterI (lv0 := [(0, rfB B 0), (1, .int p1)]) (by decide) (Nat.le_of_ble_eq_true rfl) rfl (fun g hg C q => ?_)
  subst hg
  exact ebX9_plain_0 C H0 q hf
