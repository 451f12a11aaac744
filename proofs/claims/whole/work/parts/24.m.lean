theorem dX10_flip_0 : decode cX10_flip 0 = .ok (.aload_n 0, 1) := by decide +kernel
theorem dX10_flip_1 : decode cX10_flip 1 = .ok (.invokevirtual 185, 3) := by decide +kernel
theorem dX10_flip_4 : decode cX10_flip 4 = .ok (.ifCond .ne 26, 3) := by decide +kernel
theorem dX10_flip_7 : decode cX10_flip 7 = .ok (.aload_n 0, 1) := by decide +kernel
theorem dX10_flip_8 : decode cX10_flip 8 = .ok (.getfield 7, 3) := by decide +kernel
theorem dX10_flip_11 : decode cX10_flip 11 = .ok (.bipush 27, 2) := by decide +kernel
theorem dX10_flip_13 : decode cX10_flip 13 = .ok (.iaload, 1) := by decide +kernel
theorem dX10_flip_14 : decode cX10_flip 14 = .ok (.bipush 7, 2) := by decide +kernel
theorem dX10_flip_16 : decode cX10_flip 16 = .ok (.if_icmp .ge 14, 3) := by decide +kernel
theorem dX10_flip_19 : decode cX10_flip 19 = .ok (.aload_n 0, 1) := by decide +kernel
theorem dX10_flip_20 : decode cX10_flip 20 = .ok (.getfield 7, 3) := by decide +kernel
theorem dX10_flip_23 : decode cX10_flip 23 = .ok (.bipush 28, 2) := by decide +kernel
theorem dX10_flip_25 : decode cX10_flip 25 = .ok (.iaload, 1) := by decide +kernel
theorem dX10_flip_26 : decode cX10_flip 26 = .ok (.iconst 2, 1) := by decide +kernel
theorem dX10_flip_27 : decode cX10_flip 27 = .ok (.if_icmp .eq 6, 3) := by decide +kernel
theorem dX10_flip_30 : decode cX10_flip 30 = .ok (.ldc 176, 2) := by decide +kernel
theorem dX10_flip_32 : decode cX10_flip 32 = .ok (.ireturn, 1) := by decide +kernel
theorem dX10_flip_33 : decode cX10_flip 33 = .ok (.aload_n 0, 1) := by decide +kernel
theorem dX10_flip_34 : decode cX10_flip 34 = .ok (.invokevirtual 179, 3) := by decide +kernel
theorem dX10_flip_37 : decode cX10_flip 37 = .ok (.aload_n 0, 1) := by decide +kernel
theorem dX10_flip_38 : decode cX10_flip 38 = .ok (.getfield 7, 3) := by decide +kernel
theorem dX10_flip_41 : decode cX10_flip 41 = .ok (.bipush 28, 2) := by decide +kernel
theorem dX10_flip_43 : decode cX10_flip 43 = .ok (.iconst 0, 1) := by decide +kernel
theorem dX10_flip_44 : decode cX10_flip 44 = .ok (.iastore, 1) := by decide +kernel
theorem dX10_flip_45 : decode cX10_flip 45 = .ok (.aload_n 0, 1) := by decide +kernel
theorem dX10_flip_46 : decode cX10_flip 46 = .ok (.getfield 7, 3) := by decide +kernel
theorem dX10_flip_49 : decode cX10_flip 49 = .ok (.bipush 27, 2) := by decide +kernel
theorem dX10_flip_51 : decode cX10_flip 51 = .ok (.iaload, 1) := by decide +kernel
theorem dX10_flip_52 : decode cX10_flip 52 = .ok (.ireturn, 1) := by decide +kernel
/-! BumperBallsModel.flip()I -/
def fnX10_flip_30 (I0 : Mem) : Option (Int32 × Mem) :=
  some ((-1000002), I0)
set_option maxRecDepth 20000 in
set_option maxHeartbeats 2000000 in
theorem ebX10_flip_30 {g : Cfg} (C : Cx g RX10 cX10_flip 1 1 21 0 0) {h : Shp} (H0 : MAt h) {r1 : Int32} {o1 : Mem} (q : QI g (some Jvm.ClassFile.FieldType.int) 0 0 r1 (o1, h)) {I0 : Mem} (hf : fnX10_flip_30 I0 = some (r1, o1)) : XE g 0 0 (I0, h) 30 [] [] := by
  unfold fnX10_flip_30 at hf
  refine xr_ldc C wk_1011 dX10_flip_30 ?_
  exact xr_ireturn C q rfl rfl dX10_flip_32 (so_1 hf) (so_w hf)
def fnX10_flip (I0 : Mem) : Option (Int32 × Mem) :=
  ob (fnX10_isGone I0) fun ⟨r3, I2⟩ => if r3 = 0 then (ck (inb 27 164) <| if 7 ≤ (I2 112 (ix 27)) then (fnX10_flip_30 I2) else (ck (inb 28 164) <| if (I2 112 (ix 28)) = 2 then (ob (fnX10_keepPast I2) fun I10 => ck (inb 28 164) <| bnd (up2 I10 112 (ix 28) 0) fun I12 => ck (inb 27 164) <| some ((I12 112 (ix 27)), I12)) else (fnX10_flip_30 I2))) else (fnX10_flip_30 I2)
set_option maxRecDepth 20000 in
set_option maxHeartbeats 2000000 in
theorem ebX10_flip_0 {g : Cfg} (C : Cx g RX10 cX10_flip 1 1 21 0 0) {h : Shp} (H0 : MAt h) {r1 : Int32} {o1 : Mem} (q : QI g (some Jvm.ClassFile.FieldType.int) 0 0 r1 (o1, h)) {I0 : Mem} (hf : fnX10_flip I0 = some (r1, o1)) : XE g 0 0 (I0, h) 0 [(0, rf g 111)] [] := by
  unfold fnX10_flip at hf
  refine xr_aload_n C dX10_flip_0 0 rfl rfl ?_
  obtain ⟨⟨r3, I2⟩, h1, hf⟩ := ob_x hf
  refine xr_callVI C [] lkX10_185 (kX10_isGone H0 h1) Kd10 rfl H0.1 rfl (Nat.le_of_ble_eq_true rfl) rfl dX10_flip_1 ⟨by decide, by decide, by decide⟩ rfl ?_
  refine xr_if_ne (tgt := 30) C dX10_flip_4 (by decide) hf (fun c4 hf => ?_) (fun c4 hf => ?_)
  · refine xr_lv [] rfl ?_
    exact ebX10_flip_30 C H0 q hf
  · refine xr_aload_n C dX10_flip_7 0 rfl rfl ?_
    refine xr_getr C Kd10 (k := 0) (by decide) rfl wk_821 rfl H0.1 H0.2.1.1 dX10_flip_8 ?_
    refine xr_bipush (v := 27) C dX10_flip_11 (by decide) ?_
    obtain ⟨i5, hf⟩ := ck_x hf
    refine xr_iald C H0.2.1.2 i5 dX10_flip_13 ?_
    refine xr_bipush (v := 7) C dX10_flip_14 (by decide) ?_
    refine xr_icmp_ge (tgt := 30) C dX10_flip_16 (by decide) hf (fun c6 hf => ?_) (fun c6 hf => ?_)
    · refine xr_lv [] rfl ?_
      exact ebX10_flip_30 C H0 q hf
    · refine xr_aload_n C dX10_flip_19 0 rfl rfl ?_
      refine xr_getr C Kd10 (k := 0) (by decide) rfl wk_821 rfl H0.1 H0.2.1.1 dX10_flip_20 ?_
      refine xr_bipush (v := 28) C dX10_flip_23 (by decide) ?_
      obtain ⟨i7, hf⟩ := ck_x hf
      refine xr_iald C H0.2.1.2 i7 dX10_flip_25 ?_
      refine xr_iconst (v := 2) C dX10_flip_26 (by decide) ?_
      refine xr_icmp_eq (tgt := 33) C dX10_flip_27 (by decide) hf (fun c8 hf => ?_) (fun c8 hf => ?_)
      · refine xr_aload_n C dX10_flip_33 0 rfl rfl ?_
        obtain ⟨I10, h9, hf⟩ := ob_x hf
        refine xr_callVV C [] lkX10_179 (kX10_keepPast H0 h9) Kd10 rfl H0.1 rfl (Nat.le_of_ble_eq_true rfl) rfl dX10_flip_34 ⟨by decide, by decide, by decide⟩ rfl ?_
        refine xr_aload_n C dX10_flip_37 0 rfl rfl ?_
        refine xr_getr C Kd10 (k := 0) (by decide) rfl wk_821 rfl H0.1 H0.2.1.1 dX10_flip_38 ?_
        refine xr_bipush (v := 28) C dX10_flip_41 (by decide) ?_
        refine xr_iconst (v := 0) C dX10_flip_43 (by decide) ?_
        obtain ⟨i11, hf⟩ := ck_x hf
        obtain ⟨I12, eI12, hf⟩ := bnd_x hf
        refine xr_iast C H0.2.1.2 i11 dX10_flip_44 eI12 ?_
        refine xr_aload_n C dX10_flip_45 0 rfl rfl ?_
        refine xr_getr C Kd10 (k := 0) (by decide) rfl wk_821 rfl H0.1 H0.2.1.1 dX10_flip_46 ?_
        refine xr_bipush (v := 27) C dX10_flip_49 (by decide) ?_
        obtain ⟨i13, hf⟩ := ck_x hf
        refine xr_iald C H0.2.1.2 i13 dX10_flip_51 ?_
        exact xr_ireturn C q rfl rfl dX10_flip_52 (so_1 hf) (so_w hf)
      · refine xr_lv [] rfl ?_
        exact ebX10_flip_30 C H0 q hf
theorem kX10_flip {B : Bs} {h : Shp} (H0 : MAt h) {I0 : Mem} {r1 : Int32} {o1 : Mem} (hf : fnX10_flip I0 = some (r1, o1)) : CtrI B yX10_flip cX10_flip 1 (some Jvm.ClassFile.FieldType.int) 1 21 0 0 [rfB B 111] (I0, h) r1 (o1, h) := by
  refine xr_enterI (lv0 := [(0, rfB B 111)]) (by decide) (Nat.le_of_ble_eq_true rfl) rfl (fun g hg C q => ?_)
  subst hg
  exact ebX10_flip_0 C H0 q hf
theorem dX10_put_0 : decode cX10_put 0 = .ok (.aload_n 0, 1) := by decide +kernel
theorem dX10_put_1 : decode cX10_put 1 = .ok (.getfield 7, 3) := by decide +kernel
theorem dX10_put_4 : decode cX10_put 4 = .ok (.iconst 0, 1) := by decide +kernel
theorem dX10_put_5 : decode cX10_put 5 = .ok (.iaload, 1) := by decide +kernel
theorem dX10_put_6 : decode cX10_put 6 = .ok (.ifCond .ne 6, 3) := by decide +kernel
theorem dX10_put_9 : decode cX10_put 9 = .ok (.ldc 176, 2) := by decide +kernel
theorem dX10_put_11 : decode cX10_put 11 = .ok (.ireturn, 1) := by decide +kernel
theorem dX10_put_12 : decode cX10_put 12 = .ok (.iload_n 1, 1) := by decide +kernel
theorem dX10_put_13 : decode cX10_put 13 = .ok (.i2l, 1) := by decide +kernel
theorem dX10_put_14 : decode cX10_put 14 = .ok (.lconst 0, 1) := by decide +kernel
theorem dX10_put_15 : decode cX10_put 15 = .ok (.ldc2_w 188, 3) := by decide +kernel
theorem dX10_put_18 : decode cX10_put 18 = .ok (.invokestatic 48, 3) := by decide +kernel
theorem dX10_put_21 : decode cX10_put 21 = .ok (.ifCond .eq 25, 3) := by decide +kernel
theorem dX10_put_24 : decode cX10_put 24 = .ok (.aload_n 0, 1) := by decide +kernel
theorem dX10_put_25 : decode cX10_put 25 = .ok (.iload_n 1, 1) := by decide +kernel
theorem dX10_put_26 : decode cX10_put 26 = .ok (.invokevirtual 169, 3) := by decide +kernel
theorem dX10_put_29 : decode cX10_put 29 = .ok (.ldc 19, 2) := by decide +kernel
theorem dX10_put_31 : decode cX10_put 31 = .ok (.if_icmp .ne 15, 3) := by decide +kernel
theorem dX10_put_34 : decode cX10_put 34 = .ok (.iload_n 2, 1) := by decide +kernel
theorem dX10_put_35 : decode cX10_put 35 = .ok (.i2l, 1) := by decide +kernel
theorem dX10_put_36 : decode cX10_put 36 = .ok (.lconst 0, 1) := by decide +kernel
theorem dX10_put_37 : decode cX10_put 37 = .ok (.ldc2_w 190, 3) := by decide +kernel
theorem dX10_put_40 : decode cX10_put 40 = .ok (.invokestatic 48, 3) := by decide +kernel
theorem dX10_put_43 : decode cX10_put 43 = .ok (.ifCond .ne 6, 3) := by decide +kernel
theorem dX10_put_46 : decode cX10_put 46 = .ok (.ldc 58, 2) := by decide +kernel
theorem dX10_put_48 : decode cX10_put 48 = .ok (.ireturn, 1) := by decide +kernel
theorem dX10_put_49 : decode cX10_put 49 = .ok (.aload_n 0, 1) := by decide +kernel
theorem dX10_put_50 : decode cX10_put 50 = .ok (.invokevirtual 179, 3) := by decide +kernel
theorem dX10_put_53 : decode cX10_put 53 = .ok (.aload_n 0, 1) := by decide +kernel
theorem dX10_put_54 : decode cX10_put 54 = .ok (.getfield 7, 3) := by decide +kernel
theorem dX10_put_57 : decode cX10_put 57 = .ok (.bipush 27, 2) := by decide +kernel
theorem dX10_put_59 : decode cX10_put 59 = .ok (.iload_n 1, 1) := by decide +kernel
theorem dX10_put_60 : decode cX10_put 60 = .ok (.iastore, 1) := by decide +kernel
theorem dX10_put_61 : decode cX10_put 61 = .ok (.aload_n 0, 1) := by decide +kernel
theorem dX10_put_62 : decode cX10_put 62 = .ok (.getfield 7, 3) := by decide +kernel
theorem dX10_put_65 : decode cX10_put 65 = .ok (.bipush 28, 2) := by decide +kernel
theorem dX10_put_67 : decode cX10_put 67 = .ok (.iload_n 2, 1) := by decide +kernel
theorem dX10_put_68 : decode cX10_put 68 = .ok (.iastore, 1) := by decide +kernel
theorem dX10_put_69 : decode cX10_put 69 = .ok (.aload_n 0, 1) := by decide +kernel
theorem dX10_put_70 : decode cX10_put 70 = .ok (.getfield 7, 3) := by decide +kernel
theorem dX10_put_73 : decode cX10_put 73 = .ok (.bipush 29, 2) := by decide +kernel
theorem dX10_put_75 : decode cX10_put 75 = .ok (.iconst 0, 1) := by decide +kernel
theorem dX10_put_76 : decode cX10_put 76 = .ok (.iastore, 1) := by decide +kernel
theorem dX10_put_77 : decode cX10_put 77 = .ok (.aload_n 0, 1) := by decide +kernel
theorem dX10_put_78 : decode cX10_put 78 = .ok (.getfield 7, 3) := by decide +kernel
theorem dX10_put_81 : decode cX10_put 81 = .ok (.bipush 30, 2) := by decide +kernel
theorem dX10_put_83 : decode cX10_put 83 = .ok (.iconst 0, 1) := by decide +kernel
theorem dX10_put_84 : decode cX10_put 84 = .ok (.iastore, 1) := by decide +kernel
theorem dX10_put_85 : decode cX10_put 85 = .ok (.iconst 4, 1) := by decide +kernel
theorem dX10_put_86 : decode cX10_put 86 = .ok (.iload_n 1, 1) := by decide +kernel
theorem dX10_put_87 : decode cX10_put 87 = .ok (.imul, 1) := by decide +kernel
theorem dX10_put_88 : decode cX10_put 88 = .ok (.iload_n 2, 1) := by decide +kernel
theorem dX10_put_89 : decode cX10_put 89 = .ok (.iadd, 1) := by decide +kernel
theorem dX10_put_90 : decode cX10_put 90 = .ok (.ireturn, 1) := by decide +kernel
/-! BumperBallsModel.put(II)I -/
def fnX10_put_46 (I0 : Mem) : Option (Int32 × Mem) :=
  some ((-1000001), I0)
set_option maxRecDepth 20000 in
set_option maxHeartbeats 2000000 in
theorem ebX10_put_46 {g : Cfg} (C : Cx g RX10 cX10_put 3 1 25 0 0) {h : Shp} (H0 : MAt h) {r1 : Int32} {o1 : Mem} (q : QI g (some Jvm.ClassFile.FieldType.int) 0 0 r1 (o1, h)) {I0 : Mem} (hf : fnX10_put_46 I0 = some (r1, o1)) : XE g 0 0 (I0, h) 46 [] [] := by
  unfold fnX10_put_46 at hf
  refine xr_ldc C wk_900 dX10_put_46 ?_
  exact xr_ireturn C q rfl rfl dX10_put_48 (so_1 hf) (so_w hf)
def fnX10_put (I0 : Mem) (p1 : Int32) (p2 : Int32) : Option (Int32 × Mem) :=
  ck (inb 0 164) <| if (I0 112 (ix 0)) = 0 then (some ((-1000002), I0)) else (ob (fnX10_in I0 (p1.toInt64) 0 41) fun ⟨r5, I4⟩ => if r5 = 0 then (fnX10_put_46 I4) else (ob (fnX10_pinAt I4 p1) fun ⟨r9, I8⟩ => if r9 = (-1000000) then (ob (fnX10_in I8 (p2.toInt64) 0 3) fun ⟨r13, I12⟩ => if r13 = 0 then (fnX10_put_46 I12) else (ob (fnX10_keepPast I12) fun I16 => ck (inb 27 164) <| bnd (up2 I16 112 (ix 27) p1) fun I18 => ck (inb 28 164) <| bnd (up2 I18 112 (ix 28) p2) fun I20 => ck (inb 29 164) <| bnd (up2 I20 112 (ix 29) 0) fun I22 => ck (inb 30 164) <| bnd (up2 I22 112 (ix 30) 0) fun I24 => some ((((4 : Int32) * p1) + p2), I24))) else (fnX10_put_46 I8)))
set_option maxRecDepth 20000 in
set_option maxHeartbeats 2000000 in
theorem ebX10_put_0 {g : Cfg} (C : Cx g RX10 cX10_put 3 1 25 0 0) {h : Shp} (H0 : MAt h) {r1 : Int32} {o1 : Mem} (q : QI g (some Jvm.ClassFile.FieldType.int) 0 0 r1 (o1, h)) {I0 : Mem} {p1 : Int32} {p2 : Int32} (hf : fnX10_put I0 p1 p2 = some (r1, o1)) : XE g 0 0 (I0, h) 0 [(0, rf g 111), (1, .int p1), (2, .int p2)] [] := by
  unfold fnX10_put at hf
  refine xr_aload_n C dX10_put_0 0 rfl rfl ?_
  refine xr_getr C Kd10 (k := 0) (by decide) rfl wk_821 rfl H0.1 H0.2.1.1 dX10_put_1 ?_
  refine xr_iconst (v := 0) C dX10_put_4 (by decide) ?_
  obtain ⟨i1, hf⟩ := ck_x hf
  refine xr_iald C H0.2.1.2 i1 dX10_put_5 ?_
  refine xr_if_ne (tgt := 12) C dX10_put_6 (by decide) hf (fun c2 hf => ?_) (fun c2 hf => ?_)
  · refine xr_iload_n C dX10_put_12 1 rfl rfl ?_
    refine xr_i2l C dX10_put_13 ?_
    refine xr_lconst (v := 0) C dX10_put_14 (by decide) ?_
    refine xr_ldc2 C wk_1053 dX10_put_15 ?_
    obtain ⟨⟨r5, I4⟩, h3, hf⟩ := ob_x hf
    refine xr_callSI C [.long (p1.toInt64), .long 0, .long 41] lkX10_48 (kX10_in h3) rfl (Nat.le_of_ble_eq_true rfl) rfl dX10_put_18 ⟨by decide, by decide, by decide⟩ rfl ?_
    refine xr_if_eq (tgt := 46) C dX10_put_21 (by decide) hf (fun c6 hf => ?_) (fun c6 hf => ?_)
    · refine xr_lv [] rfl ?_
      exact ebX10_put_46 C H0 q hf
    · refine xr_aload_n C dX10_put_24 0 rfl rfl ?_
      refine xr_iload_n C dX10_put_25 1 rfl rfl ?_
      obtain ⟨⟨r9, I8⟩, h7, hf⟩ := ob_x hf
      refine xr_callVI C [.int p1] lkX10_169 (kX10_pinAt H0 h7) Kd10 rfl H0.1 rfl (Nat.le_of_ble_eq_true rfl) rfl dX10_put_26 ⟨by decide, by decide, by decide⟩ rfl ?_
      refine xr_ldc C wk_820 dX10_put_29 ?_
      refine xr_icmp_ne (tgt := 46) C dX10_put_31 (by decide) hf (fun c10 hf => ?_) (fun c10 hf => ?_)
      · refine xr_lv [] rfl ?_
        exact ebX10_put_46 C H0 q hf
      · refine xr_iload_n C dX10_put_34 2 rfl rfl ?_
        refine xr_i2l C dX10_put_35 ?_
        refine xr_lconst (v := 0) C dX10_put_36 (by decide) ?_
        refine xr_ldc2 C wk_1054 dX10_put_37 ?_
        obtain ⟨⟨r13, I12⟩, h11, hf⟩ := ob_x hf
        refine xr_callSI C [.long (p2.toInt64), .long 0, .long 3] lkX10_48 (kX10_in h11) rfl (Nat.le_of_ble_eq_true rfl) rfl dX10_put_40 ⟨by decide, by decide, by decide⟩ rfl ?_
        refine xr_if_ne (tgt := 49) C dX10_put_43 (by decide) hf (fun c14 hf => ?_) (fun c14 hf => ?_)
        · refine xr_aload_n C dX10_put_49 0 rfl rfl ?_
          obtain ⟨I16, h15, hf⟩ := ob_x hf
          refine xr_callVV C [] lkX10_179 (kX10_keepPast H0 h15) Kd10 rfl H0.1 rfl (Nat.le_of_ble_eq_true rfl) rfl dX10_put_50 ⟨by decide, by decide, by decide⟩ rfl ?_
          refine xr_aload_n C dX10_put_53 0 rfl rfl ?_
          refine xr_getr C Kd10 (k := 0) (by decide) rfl wk_821 rfl H0.1 H0.2.1.1 dX10_put_54 ?_
          refine xr_bipush (v := 27) C dX10_put_57 (by decide) ?_
          refine xr_iload_n C dX10_put_59 1 rfl rfl ?_
          obtain ⟨i17, hf⟩ := ck_x hf
          obtain ⟨I18, eI18, hf⟩ := bnd_x hf
          refine xr_iast C H0.2.1.2 i17 dX10_put_60 eI18 ?_
          refine xr_aload_n C dX10_put_61 0 rfl rfl ?_
          refine xr_getr C Kd10 (k := 0) (by decide) rfl wk_821 rfl H0.1 H0.2.1.1 dX10_put_62 ?_
          refine xr_bipush (v := 28) C dX10_put_65 (by decide) ?_
          refine xr_iload_n C dX10_put_67 2 rfl rfl ?_
          obtain ⟨i19, hf⟩ := ck_x hf
          obtain ⟨I20, eI20, hf⟩ := bnd_x hf
          refine xr_iast C H0.2.1.2 i19 dX10_put_68 eI20 ?_
          refine xr_aload_n C dX10_put_69 0 rfl rfl ?_
          refine xr_getr C Kd10 (k := 0) (by decide) rfl wk_821 rfl H0.1 H0.2.1.1 dX10_put_70 ?_
          refine xr_bipush (v := 29) C dX10_put_73 (by decide) ?_
          refine xr_iconst (v := 0) C dX10_put_75 (by decide) ?_
          obtain ⟨i21, hf⟩ := ck_x hf
          obtain ⟨I22, eI22, hf⟩ := bnd_x hf
          refine xr_iast C H0.2.1.2 i21 dX10_put_76 eI22 ?_
          refine xr_aload_n C dX10_put_77 0 rfl rfl ?_
          refine xr_getr C Kd10 (k := 0) (by decide) rfl wk_821 rfl H0.1 H0.2.1.1 dX10_put_78 ?_
          refine xr_bipush (v := 30) C dX10_put_81 (by decide) ?_
          refine xr_iconst (v := 0) C dX10_put_83 (by decide) ?_
          obtain ⟨i23, hf⟩ := ck_x hf
          obtain ⟨I24, eI24, hf⟩ := bnd_x hf
          refine xr_iast C H0.2.1.2 i23 dX10_put_84 eI24 ?_
          refine xr_iconst (v := 4) C dX10_put_85 (by decide) ?_
          refine xr_iload_n C dX10_put_86 1 rfl rfl ?_
          refine xr_imul C dX10_put_87 ?_
          refine xr_iload_n C dX10_put_88 2 rfl rfl ?_
          refine xr_iadd C dX10_put_89 ?_
          exact xr_ireturn C q rfl rfl dX10_put_90 (so_1 hf) (so_w hf)
        · refine xr_lv [] rfl ?_
          exact ebX10_put_46 C H0 q hf
  · refine xr_ldc C wk_1011 dX10_put_9 ?_
    exact xr_ireturn C q rfl rfl dX10_put_11 (so_1 hf) (so_w hf)
theorem kX10_put {B : Bs} {h : Shp} (H0 : MAt h) {I0 : Mem} {p1 : Int32} {p2 : Int32} {r1 : Int32} {o1 : Mem} (hf : fnX10_put I0 p1 p2 = some (r1, o1)) : CtrI B yX10_put cX10_put 3 (some Jvm.ClassFile.FieldType.int) 1 25 0 0 [rfB B 111, .int p1, .int p2] (I0, h) r1 (o1, h) := by
  refine xr_enterI (lv0 := [(0, rfB B 111), (1, .int p1), (2, .int p2)]) (by decide) (Nat.le_of_ble_eq_true rfl) rfl (fun g hg C q => ?_)
  subst hg
  exact ebX10_put_0 C H0 q hf
theorem dX10_undo_0 : decode cX10_undo 0 = .ok (.aload_n 0, 1) := by decide +kernel
theorem dX10_undo_1 : decode cX10_undo 1 = .ok (.getfield 158, 3) := by decide +kernel
theorem dX10_undo_4 : decode cX10_undo 4 = .ok (.ifCond .ne 6, 3) := by decide +kernel
theorem dX10_undo_7 : decode cX10_undo 7 = .ok (.ldc 176, 2) := by decide +kernel
theorem dX10_undo_9 : decode cX10_undo 9 = .ok (.ireturn, 1) := by decide +kernel
theorem dX10_undo_10 : decode cX10_undo 10 = .ok (.aload_n 0, 1) := by decide +kernel
theorem dX10_undo_11 : decode cX10_undo 11 = .ok (.dup, 1) := by decide +kernel
theorem dX10_undo_12 : decode cX10_undo 12 = .ok (.getfield 158, 3) := by decide +kernel
theorem dX10_undo_15 : decode cX10_undo 15 = .ok (.iconst 1, 1) := by decide +kernel
theorem dX10_undo_16 : decode cX10_undo 16 = .ok (.isub, 1) := by decide +kernel
theorem dX10_undo_17 : decode cX10_undo 17 = .ok (.putfield 158, 3) := by decide +kernel
theorem dX10_undo_20 : decode cX10_undo 20 = .ok (.iconst 0, 1) := by decide +kernel
theorem dX10_undo_21 : decode cX10_undo 21 = .ok (.istore_n 1, 1) := by decide +kernel
theorem dX10_undo_22 : decode cX10_undo 22 = .ok (.iload_n 1, 1) := by decide +kernel
theorem dX10_undo_23 : decode cX10_undo 23 = .ok (.bipush 14, 2) := by decide +kernel
theorem dX10_undo_25 : decode cX10_undo 25 = .ok (.if_icmp .ge 32, 3) := by decide +kernel
theorem dX10_undo_28 : decode cX10_undo 28 = .ok (.aload_n 0, 1) := by decide +kernel
theorem dX10_undo_29 : decode cX10_undo 29 = .ok (.getfield 7, 3) := by decide +kernel
theorem dX10_undo_32 : decode cX10_undo 32 = .ok (.bipush 27, 2) := by decide +kernel
theorem dX10_undo_34 : decode cX10_undo 34 = .ok (.iload_n 1, 1) := by decide +kernel
theorem dX10_undo_35 : decode cX10_undo 35 = .ok (.iadd, 1) := by decide +kernel
theorem dX10_undo_36 : decode cX10_undo 36 = .ok (.aload_n 0, 1) := by decide +kernel
theorem dX10_undo_37 : decode cX10_undo 37 = .ok (.getfield 13, 3) := by decide +kernel
theorem dX10_undo_40 : decode cX10_undo 40 = .ok (.bipush 14, 2) := by decide +kernel
theorem dX10_undo_42 : decode cX10_undo 42 = .ok (.aload_n 0, 1) := by decide +kernel
theorem dX10_undo_43 : decode cX10_undo 43 = .ok (.getfield 158, 3) := by decide +kernel
theorem dX10_undo_46 : decode cX10_undo 46 = .ok (.imul, 1) := by decide +kernel
theorem dX10_undo_47 : decode cX10_undo 47 = .ok (.iload_n 1, 1) := by decide +kernel
theorem dX10_undo_48 : decode cX10_undo 48 = .ok (.iadd, 1) := by decide +kernel
theorem dX10_undo_49 : decode cX10_undo 49 = .ok (.iaload, 1) := by decide +kernel
theorem dX10_undo_50 : decode cX10_undo 50 = .ok (.iastore, 1) := by decide +kernel
theorem dX10_undo_51 : decode cX10_undo 51 = .ok (.iinc 1 1, 3) := by decide +kernel
theorem dX10_undo_54 : decode cX10_undo 54 = .ok (.goto (-32), 3) := by decide +kernel
theorem dX10_undo_57 : decode cX10_undo 57 = .ok (.aload_n 0, 1) := by decide +kernel
theorem dX10_undo_58 : decode cX10_undo 58 = .ok (.getfield 158, 3) := by decide +kernel
theorem dX10_undo_61 : decode cX10_undo 61 = .ok (.ireturn, 1) := by decide +kernel
/-! BumperBallsModel.undo()I -/
def fnX10_undo_22b (rec22 : Mem → Int32 → Option (Int32 × Mem)) (I0 : Mem) (l1 : Int32) : Option (Int32 × Mem) :=
  if 14 ≤ l1 then (some ((I0 111 2), I0)) else (ck (inb (((14 : Int32) * (I0 111 2)) + l1) 336) <| ck (inb ((27 : Int32) + l1) 164) <| bnd (up2 I0 112 (ix ((27 : Int32) + l1)) (I0 113 (ix (((14 : Int32) * (I0 111 2)) + l1)))) fun I4 => bnd (l1 + 1) fun v5 => rec22 I4 v5)
def fnX10_undo_22 : Nat → Mem → Int32 → Option (Int32 × Mem)
  | 0 => fun _ _ => none
  | fu + 1 => fnX10_undo_22b (fnX10_undo_22 fu)
set_option maxRecDepth 20000 in
set_option maxHeartbeats 2000000 in
theorem ebX10_undo_22b {g : Cfg} (C : Cx g RX10 cX10_undo 2 0 0 0 0) {h : Shp} (H0 : MAt h) {r1 : Int32} {o1 : Mem} {rec22 : Mem → Int32 → Option (Int32 × Mem)} (q : QI g (some Jvm.ClassFile.FieldType.int) 0 0 r1 (o1, h)) (ih22 : ∀ (I0 : Mem) (l1 : Int32), rec22 I0 l1 = some (r1, o1) → XE g 0 0 (I0, h) 22 [(0, rf g 111), (1, .int l1)] []) {I0 : Mem} {l1 : Int32} (hf : fnX10_undo_22b rec22 I0 l1 = some (r1, o1)) : XE g 0 0 (I0, h) 22 [(0, rf g 111), (1, .int l1)] [] := by
  unfold fnX10_undo_22b at hf
  refine xr_iload_n C dX10_undo_22 1 rfl rfl ?_
  refine xr_bipush (v := 14) C dX10_undo_23 (by decide) ?_
  refine xr_icmp_ge (tgt := 57) C dX10_undo_25 (by decide) hf (fun c1 hf => ?_) (fun c1 hf => ?_)
  · refine xr_aload_n C dX10_undo_57 0 rfl rfl ?_
    refine xr_geti C Kd10 (k := 2) (by decide) rfl wk_823 rfl H0.1 dX10_undo_58 ?_
    exact xr_ireturn C q rfl rfl dX10_undo_61 (so_1 hf) (so_w hf)
  · refine xr_aload_n C dX10_undo_28 0 rfl rfl ?_
    refine xr_getr C Kd10 (k := 0) (by decide) rfl wk_821 rfl H0.1 H0.2.1.1 dX10_undo_29 ?_
    refine xr_bipush (v := 27) C dX10_undo_32 (by decide) ?_
    refine xr_iload_n C dX10_undo_34 1 rfl rfl ?_
    refine xr_iadd C dX10_undo_35 ?_
    refine xr_aload_n C dX10_undo_36 0 rfl rfl ?_
    refine xr_getr C Kd10 (k := 1) (by decide) rfl wk_822 rfl H0.1 H0.2.2.1.1 dX10_undo_37 ?_
    refine xr_bipush (v := 14) C dX10_undo_40 (by decide) ?_
    refine xr_aload_n C dX10_undo_42 0 rfl rfl ?_
    refine xr_geti C Kd10 (k := 2) (by decide) rfl wk_823 rfl H0.1 dX10_undo_43 ?_
    refine xr_imul C dX10_undo_46 ?_
    refine xr_iload_n C dX10_undo_47 1 rfl rfl ?_
    refine xr_iadd C dX10_undo_48 ?_
    obtain ⟨i2, hf⟩ := ck_x hf
    refine xr_iald C H0.2.2.1.2 i2 dX10_undo_49 ?_
    obtain ⟨i3, hf⟩ := ck_x hf
    obtain ⟨I4, eI4, hf⟩ := bnd_x hf
    refine xr_iast C H0.2.1.2 i3 dX10_undo_50 eI4 ?_
    obtain ⟨v5, ev5, hf⟩ := bnd_x hf
    refine xr_iinc (k := 1) (v := v5) C dX10_undo_51 rfl (by rw [ev5]; rfl) (by decide) rfl ?_
    refine xr_goto (tgt := 22) C dX10_undo_54 (by decide) ?_
    refine xr_lv [1, 0] rfl ?_
    exact ih22 _ _ hf
theorem ebX10_undo_22 {g : Cfg} (C : Cx g RX10 cX10_undo 2 0 0 0 0) {h : Shp} (H0 : MAt h) {r1 : Int32} {o1 : Mem} (q : QI g (some Jvm.ClassFile.FieldType.int) 0 0 r1 (o1, h)) : ∀ (fu : Nat) {I0 : Mem} {l1 : Int32} (hf : fnX10_undo_22 fu I0 l1 = some (r1, o1)), XE g 0 0 (I0, h) 22 [(0, rf g 111), (1, .int l1)] [] := by
  intro fu
  induction fu with
  | zero =>
    intro I0 l1 hf
    cases hf
  | succ fu ihn =>
    intro I0 l1 hf
    exact ebX10_undo_22b C H0 q (fun _ _ hf => ihn hf) hf
def fnX10_undo (I0 : Mem) : Option (Int32 × Mem) :=
  if (I0 111 2) = 0 then (some ((-1000002), I0)) else (bnd (up2 I0 111 2 ((I0 111 2) - 1)) fun I2 => fnX10_undo_22 FU I2 0)
set_option maxRecDepth 20000 in
set_option maxHeartbeats 2000000 in
theorem ebX10_undo_0 {g : Cfg} (C : Cx g RX10 cX10_undo 2 0 0 0 0) {h : Shp} (H0 : MAt h) {r1 : Int32} {o1 : Mem} (q : QI g (some Jvm.ClassFile.FieldType.int) 0 0 r1 (o1, h)) {I0 : Mem} (hf : fnX10_undo I0 = some (r1, o1)) : XE g 0 0 (I0, h) 0 [(0, rf g 111)] [] := by
  unfold fnX10_undo at hf
  refine xr_aload_n C dX10_undo_0 0 rfl rfl ?_
  refine xr_geti C Kd10 (k := 2) (by decide) rfl wk_823 rfl H0.1 dX10_undo_1 ?_
  refine xr_if_ne (tgt := 10) C dX10_undo_4 (by decide) hf (fun c1 hf => ?_) (fun c1 hf => ?_)
  · refine xr_aload_n C dX10_undo_10 0 rfl rfl ?_
    refine xr_dup C dX10_undo_11 rfl ?_
    refine xr_geti C Kd10 (k := 2) (by decide) rfl wk_823 rfl H0.1 dX10_undo_12 ?_
    refine xr_iconst (v := 1) C dX10_undo_15 (by decide) ?_
    refine xr_isub C dX10_undo_16 ?_
    obtain ⟨I2, eI2, hf⟩ := bnd_x hf
    refine xr_putI C Kd10 (k := 2) (by decide) rfl rfl wk_823 rfl rfl rfl H0.1 dX10_undo_17 eI2 ?_
    refine xr_iconst (v := 0) C dX10_undo_20 (by decide) ?_
    refine xr_istore_n C dX10_undo_21 rfl (by decide) rfl ?_
    refine xr_lv [1, 0] rfl ?_
    exact ebX10_undo_22 C H0 q _ hf
  · refine xr_ldc C wk_1011 dX10_undo_7 ?_
    exact xr_ireturn C q rfl rfl dX10_undo_9 (so_1 hf) (so_w hf)
theorem kX10_undo {B : Bs} {h : Shp} (H0 : MAt h) {I0 : Mem} {r1 : Int32} {o1 : Mem} (hf : fnX10_undo I0 = some (r1, o1)) : CtrI B yX10_undo cX10_undo 2 (some Jvm.ClassFile.FieldType.int) 0 0 0 0 [rfB B 111] (I0, h) r1 (o1, h) := by
  refine xr_enterI (lv0 := [(0, rfB B 111)]) (by decide) (Nat.le_of_ble_eq_true rfl) rfl (fun g hg C q => ?_)
  subst hg
  exact ebX10_undo_0 C H0 q hf
theorem dX10_ball_0 : decode cX10_ball 0 = .ok (.aload_n 0, 1) := by decide +kernel
theorem dX10_ball_1 : decode cX10_ball 1 = .ok (.getfield 7, 3) := by decide +kernel
theorem dX10_ball_4 : decode cX10_ball 4 = .ok (.iconst 0, 1) := by decide +kernel
theorem dX10_ball_5 : decode cX10_ball 5 = .ok (.iaload, 1) := by decide +kernel
theorem dX10_ball_6 : decode cX10_ball 6 = .ok (.ifCond .ne 6, 3) := by decide +kernel
theorem dX10_ball_9 : decode cX10_ball 9 = .ok (.ldc 176, 2) := by decide +kernel
theorem dX10_ball_11 : decode cX10_ball 11 = .ok (.ireturn, 1) := by decide +kernel
theorem dX10_ball_12 : decode cX10_ball 12 = .ok (.iload_n 1, 1) := by decide +kernel
theorem dX10_ball_13 : decode cX10_ball 13 = .ok (.i2l, 1) := by decide +kernel
theorem dX10_ball_14 : decode cX10_ball 14 = .ok (.lconst 0, 1) := by decide +kernel
theorem dX10_ball_15 : decode cX10_ball 15 = .ok (.ldc2_w 192, 3) := by decide +kernel
theorem dX10_ball_18 : decode cX10_ball 18 = .ok (.invokestatic 48, 3) := by decide +kernel
theorem dX10_ball_21 : decode cX10_ball 21 = .ok (.ifCond .eq 15, 3) := by decide +kernel
theorem dX10_ball_24 : decode cX10_ball 24 = .ok (.aload_n 0, 1) := by decide +kernel
theorem dX10_ball_25 : decode cX10_ball 25 = .ok (.getfield 7, 3) := by decide +kernel
theorem dX10_ball_28 : decode cX10_ball 28 = .ok (.bipush 27, 2) := by decide +kernel
theorem dX10_ball_30 : decode cX10_ball 30 = .ok (.iload_n 1, 1) := by decide +kernel
theorem dX10_ball_31 : decode cX10_ball 31 = .ok (.iadd, 1) := by decide +kernel
theorem dX10_ball_32 : decode cX10_ball 32 = .ok (.iaload, 1) := by decide +kernel
theorem dX10_ball_33 : decode cX10_ball 33 = .ok (.goto 5, 3) := by decide +kernel
theorem dX10_ball_36 : decode cX10_ball 36 = .ok (.ldc 58, 2) := by decide +kernel
theorem dX10_ball_38 : decode cX10_ball 38 = .ok (.ireturn, 1) := by decide +kernel
/-! BumperBallsModel.ball(I)I -/
def fnX10_ball_38 (I0 : Mem) (t0 : Int32) : Option (Int32 × Mem) :=
  some (t0, I0)
set_option maxRecDepth 20000 in
set_option maxHeartbeats 2000000 in
theorem ebX10_ball_38 {g : Cfg} (C : Cx g RX10 cX10_ball 2 1 25 0 0) {h : Shp} (H0 : MAt h) {r1 : Int32} {o1 : Mem} (q : QI g (some Jvm.ClassFile.FieldType.int) 0 0 r1 (o1, h)) {I0 : Mem} {t0 : Int32} (hf : fnX10_ball_38 I0 t0 = some (r1, o1)) : XE g 0 0 (I0, h) 38 [] [.int t0] := by
  unfold fnX10_ball_38 at hf
  exact xr_ireturn C q rfl rfl dX10_ball_38 (so_1 hf) (so_w hf)
def fnX10_ball (I0 : Mem) (p1 : Int32) : Option (Int32 × Mem) :=
  ck (inb 0 164) <| if (I0 112 (ix 0)) = 0 then (some ((-1000002), I0)) else (ob (fnX10_in I0 (p1.toInt64) 0 5) fun ⟨r5, I4⟩ => if r5 = 0 then (fnX10_ball_38 I4 (-1000001)) else (ck (inb ((27 : Int32) + p1) 164) <| fnX10_ball_38 I4 (I4 112 (ix ((27 : Int32) + p1)))))
set_option maxRecDepth 20000 in
set_option maxHeartbeats 2000000 in
theorem ebX10_ball_0 {g : Cfg} (C : Cx g RX10 cX10_ball 2 1 25 0 0) {h : Shp} (H0 : MAt h) {r1 : Int32} {o1 : Mem} (q : QI g (some Jvm.ClassFile.FieldType.int) 0 0 r1 (o1, h)) {I0 : Mem} {p1 : Int32} (hf : fnX10_ball I0 p1 = some (r1, o1)) : XE g 0 0 (I0, h) 0 [(0, rf g 111), (1, .int p1)] [] := by
  unfold fnX10_ball at hf
  refine xr_aload_n C dX10_ball_0 0 rfl rfl ?_
  refine xr_getr C Kd10 (k := 0) (by decide) rfl wk_821 rfl H0.1 H0.2.1.1 dX10_ball_1 ?_
  refine xr_iconst (v := 0) C dX10_ball_4 (by decide) ?_
  obtain ⟨i1, hf⟩ := ck_x hf
  refine xr_iald C H0.2.1.2 i1 dX10_ball_5 ?_
  refine xr_if_ne (tgt := 12) C dX10_ball_6 (by decide) hf (fun c2 hf => ?_) (fun c2 hf => ?_)
  · refine xr_iload_n C dX10_ball_12 1 rfl rfl ?_
    refine xr_i2l C dX10_ball_13 ?_
    refine xr_lconst (v := 0) C dX10_ball_14 (by decide) ?_
    refine xr_ldc2 C wk_1063 dX10_ball_15 ?_
    obtain ⟨⟨r5, I4⟩, h3, hf⟩ := ob_x hf
    refine xr_callSI C [.long (p1.toInt64), .long 0, .long 5] lkX10_48 (kX10_in h3) rfl (Nat.le_of_ble_eq_true rfl) rfl dX10_ball_18 ⟨by decide, by decide, by decide⟩ rfl ?_
    refine xr_if_eq (tgt := 36) C dX10_ball_21 (by decide) hf (fun c6 hf => ?_) (fun c6 hf => ?_)
    · refine xr_ldc C wk_900 dX10_ball_36 ?_
      refine xr_lv [] rfl ?_
      exact ebX10_ball_38 C H0 q hf
    · refine xr_aload_n C dX10_ball_24 0 rfl rfl ?_
      refine xr_getr C Kd10 (k := 0) (by decide) rfl wk_821 rfl H0.1 H0.2.1.1 dX10_ball_25 ?_
      refine xr_bipush (v := 27) C dX10_ball_28 (by decide) ?_
      refine xr_iload_n C dX10_ball_30 1 rfl rfl ?_
      refine xr_iadd C dX10_ball_31 ?_
      obtain ⟨i7, hf⟩ := ck_x hf
      refine xr_iald C H0.2.1.2 i7 dX10_ball_32 ?_
      refine xr_goto (tgt := 38) C dX10_ball_33 (by decide) ?_
      refine xr_lv [] rfl ?_
      exact ebX10_ball_38 C H0 q hf
  · refine xr_ldc C wk_1011 dX10_ball_9 ?_
    exact xr_ireturn C q rfl rfl dX10_ball_11 (so_1 hf) (so_w hf)
theorem kX10_ball {B : Bs} {h : Shp} (H0 : MAt h) {I0 : Mem} {p1 : Int32} {r1 : Int32} {o1 : Mem} (hf : fnX10_ball I0 p1 = some (r1, o1)) : CtrI B yX10_ball cX10_ball 2 (some Jvm.ClassFile.FieldType.int) 1 25 0 0 [rfB B 111, .int p1] (I0, h) r1 (o1, h) := by
  refine xr_enterI (lv0 := [(0, rfB B 111), (1, .int p1)]) (by decide) (Nat.le_of_ble_eq_true rfl) rfl (fun g hg C q => ?_)
  subst hg
  exact ebX10_ball_0 C H0 q hf
theorem dX10_pin_0 : decode cX10_pin 0 = .ok (.aload_n 0, 1) := by decide +kernel
theorem dX10_pin_1 : decode cX10_pin 1 = .ok (.iload_n 1, 1) := by decide +kernel
theorem dX10_pin_2 : decode cX10_pin 2 = .ok (.invokevirtual 194, 3) := by decide +kernel
theorem dX10_pin_5 : decode cX10_pin 5 = .ok (.ifCond .ne 6, 3) := by decide +kernel
theorem dX10_pin_8 : decode cX10_pin 8 = .ok (.ldc 58, 2) := by decide +kernel
theorem dX10_pin_10 : decode cX10_pin 10 = .ok (.ireturn, 1) := by decide +kernel
theorem dX10_pin_11 : decode cX10_pin 11 = .ok (.iload_n 2, 1) := by decide +kernel
theorem dX10_pin_12 : decode cX10_pin 12 = .ok (.tableswitch 97 0 4 #[36, 49, 62, 75, 85], 36) := by decide +kernel
theorem dX10_pin_48 : decode cX10_pin 48 = .ok (.aload_n 0, 1) := by decide +kernel
theorem dX10_pin_49 : decode cX10_pin 49 = .ok (.getfield 7, 3) := by decide +kernel
theorem dX10_pin_52 : decode cX10_pin 52 = .ok (.iconst 3, 1) := by decide +kernel
theorem dX10_pin_53 : decode cX10_pin 53 = .ok (.iconst 4, 1) := by decide +kernel
theorem dX10_pin_54 : decode cX10_pin 54 = .ok (.iload_n 1, 1) := by decide +kernel
theorem dX10_pin_55 : decode cX10_pin 55 = .ok (.imul, 1) := by decide +kernel
theorem dX10_pin_56 : decode cX10_pin 56 = .ok (.iadd, 1) := by decide +kernel
theorem dX10_pin_57 : decode cX10_pin 57 = .ok (.iconst 1, 1) := by decide +kernel
theorem dX10_pin_58 : decode cX10_pin 58 = .ok (.iadd, 1) := by decide +kernel
theorem dX10_pin_59 : decode cX10_pin 59 = .ok (.iaload, 1) := by decide +kernel
theorem dX10_pin_60 : decode cX10_pin 60 = .ok (.ireturn, 1) := by decide +kernel
theorem dX10_pin_61 : decode cX10_pin 61 = .ok (.aload_n 0, 1) := by decide +kernel
theorem dX10_pin_62 : decode cX10_pin 62 = .ok (.getfield 7, 3) := by decide +kernel
theorem dX10_pin_65 : decode cX10_pin 65 = .ok (.iconst 3, 1) := by decide +kernel
theorem dX10_pin_66 : decode cX10_pin 66 = .ok (.iconst 4, 1) := by decide +kernel
theorem dX10_pin_67 : decode cX10_pin 67 = .ok (.iload_n 1, 1) := by decide +kernel
theorem dX10_pin_68 : decode cX10_pin 68 = .ok (.imul, 1) := by decide +kernel
theorem dX10_pin_69 : decode cX10_pin 69 = .ok (.iadd, 1) := by decide +kernel
theorem dX10_pin_70 : decode cX10_pin 70 = .ok (.iconst 2, 1) := by decide +kernel
theorem dX10_pin_71 : decode cX10_pin 71 = .ok (.iadd, 1) := by decide +kernel
theorem dX10_pin_72 : decode cX10_pin 72 = .ok (.iaload, 1) := by decide +kernel
theorem dX10_pin_73 : decode cX10_pin 73 = .ok (.ireturn, 1) := by decide +kernel
theorem dX10_pin_74 : decode cX10_pin 74 = .ok (.aload_n 0, 1) := by decide +kernel
theorem dX10_pin_75 : decode cX10_pin 75 = .ok (.getfield 7, 3) := by decide +kernel
theorem dX10_pin_78 : decode cX10_pin 78 = .ok (.iconst 3, 1) := by decide +kernel
theorem dX10_pin_79 : decode cX10_pin 79 = .ok (.iconst 4, 1) := by decide +kernel
theorem dX10_pin_80 : decode cX10_pin 80 = .ok (.iload_n 1, 1) := by decide +kernel
theorem dX10_pin_81 : decode cX10_pin 81 = .ok (.imul, 1) := by decide +kernel
theorem dX10_pin_82 : decode cX10_pin 82 = .ok (.iadd, 1) := by decide +kernel
theorem dX10_pin_83 : decode cX10_pin 83 = .ok (.iconst 3, 1) := by decide +kernel
theorem dX10_pin_84 : decode cX10_pin 84 = .ok (.iadd, 1) := by decide +kernel
theorem dX10_pin_85 : decode cX10_pin 85 = .ok (.iaload, 1) := by decide +kernel
theorem dX10_pin_86 : decode cX10_pin 86 = .ok (.ireturn, 1) := by decide +kernel
theorem dX10_pin_87 : decode cX10_pin 87 = .ok (.aload_n 0, 1) := by decide +kernel
theorem dX10_pin_88 : decode cX10_pin 88 = .ok (.getfield 7, 3) := by decide +kernel
theorem dX10_pin_91 : decode cX10_pin 91 = .ok (.bipush 35, 2) := by decide +kernel
theorem dX10_pin_93 : decode cX10_pin 93 = .ok (.iload_n 1, 1) := by decide +kernel
theorem dX10_pin_94 : decode cX10_pin 94 = .ok (.iadd, 1) := by decide +kernel
theorem dX10_pin_95 : decode cX10_pin 95 = .ok (.iaload, 1) := by decide +kernel
theorem dX10_pin_96 : decode cX10_pin 96 = .ok (.ireturn, 1) := by decide +kernel
theorem dX10_pin_97 : decode cX10_pin 97 = .ok (.aload_n 0, 1) := by decide +kernel
theorem dX10_pin_98 : decode cX10_pin 98 = .ok (.getfield 7, 3) := by decide +kernel
theorem dX10_pin_101 : decode cX10_pin 101 = .ok (.bipush 34, 2) := by decide +kernel
theorem dX10_pin_103 : decode cX10_pin 103 = .ok (.iaload, 1) := by decide +kernel
theorem dX10_pin_104 : decode cX10_pin 104 = .ok (.iload_n 1, 1) := by decide +kernel
theorem dX10_pin_105 : decode cX10_pin 105 = .ok (.ishr, 1) := by decide +kernel
theorem dX10_pin_106 : decode cX10_pin 106 = .ok (.iconst 1, 1) := by decide +kernel
theorem dX10_pin_107 : decode cX10_pin 107 = .ok (.iand, 1) := by decide +kernel
theorem dX10_pin_108 : decode cX10_pin 108 = .ok (.ireturn, 1) := by decide +kernel
theorem dX10_pin_109 : decode cX10_pin 109 = .ok (.ldc 58, 2) := by decide +kernel
theorem dX10_pin_111 : decode cX10_pin 111 = .ok (.ireturn, 1) := by decide +kernel
theorem lkX10_194 : LkV "BumperBallsModel" 194 yX10_isPin cX10_isPin 2 (some Jvm.ClassFile.FieldType.boolean) 1 := ⟨wk_1071, wk_11, wk_1070, wk_s85, ⟨by decide +kernel, by decide +kernel, by decide +kernel⟩, wk_1068⟩
/-! BumperBallsModel.pin(II)I -/
def fnX10_pin (I0 : Mem) (p1 : Int32) (p2 : Int32) : Option (Int32 × Mem) :=
  ob (fnX10_isPin I0 p1) fun ⟨r3, I2⟩ => if r3 = 0 then (some ((-1000001), I2)) else (if p2 = 0 then (ck (inb (((3 : Int32) + ((4 : Int32) * p1)) + 1) 164) <| some ((I2 112 (ix (((3 : Int32) + ((4 : Int32) * p1)) + 1))), I2)) else if p2 = 1 then (ck (inb (((3 : Int32) + ((4 : Int32) * p1)) + 2) 164) <| some ((I2 112 (ix (((3 : Int32) + ((4 : Int32) * p1)) + 2))), I2)) else if p2 = 2 then (ck (inb (((3 : Int32) + ((4 : Int32) * p1)) + 3) 164) <| some ((I2 112 (ix (((3 : Int32) + ((4 : Int32) * p1)) + 3))), I2)) else if p2 = 3 then (ck (inb ((35 : Int32) + p1) 164) <| some ((I2 112 (ix ((35 : Int32) + p1))), I2)) else if p2 = 4 then (ck (inb 34 164) <| some ((((I2 112 (ix 34)) >>> (p1 &&& 31)) &&& 1), I2)) else (some ((-1000001), I2)))
set_option maxRecDepth 20000 in
set_option maxHeartbeats 2000000 in
theorem ebX10_pin_0 {g : Cfg} (C : Cx g RX10 cX10_pin 3 2 46 0 0) {h : Shp} (H0 : MAt h) {r1 : Int32} {o1 : Mem} (q : QI g (some Jvm.ClassFile.FieldType.int) 0 0 r1 (o1, h)) {I0 : Mem} {p1 : Int32} {p2 : Int32} (hf : fnX10_pin I0 p1 p2 = some (r1, o1)) : XE g 0 0 (I0, h) 0 [(0, rf g 111), (1, .int p1), (2, .int p2)] [] := by
  unfold fnX10_pin at hf
  refine xr_aload_n C dX10_pin_0 0 rfl rfl ?_
  refine xr_iload_n C dX10_pin_1 1 rfl rfl ?_
  obtain ⟨⟨r3, I2⟩, h1, hf⟩ := ob_x hf
  refine xr_callVI C [.int p1] lkX10_194 (kX10_isPin H0 h1) Kd10 rfl H0.1 rfl (Nat.le_of_ble_eq_true rfl) rfl dX10_pin_2 ⟨by decide, by decide, by decide⟩ rfl ?_
  refine xr_if_ne (tgt := 11) C dX10_pin_5 (by decide) hf (fun c4 hf => ?_) (fun c4 hf => ?_)
  · refine xr_iload_n C dX10_pin_11 2 rfl rfl ?_
    rcases if_or hf with ⟨c5, hf⟩ | ⟨c5_0, hf⟩
    · refine xr_swIn (v := 0) (tgt := 48) C dX10_pin_12 c5 (by decide) (by decide) rfl (by decide) ?_
      refine xr_aload_n C dX10_pin_48 0 rfl rfl ?_
      refine xr_getr C Kd10 (k := 0) (by decide) rfl wk_821 rfl H0.1 H0.2.1.1 dX10_pin_49 ?_
      refine xr_iconst (v := 3) C dX10_pin_52 (by decide) ?_
      refine xr_iconst (v := 4) C dX10_pin_53 (by decide) ?_
      refine xr_iload_n C dX10_pin_54 1 rfl rfl ?_
      refine xr_imul C dX10_pin_55 ?_
      refine xr_iadd C dX10_pin_56 ?_
      refine xr_iconst (v := 1) C dX10_pin_57 (by decide) ?_
      refine xr_iadd C dX10_pin_58 ?_
      obtain ⟨i6, hf⟩ := ck_x hf
      refine xr_iald C H0.2.1.2 i6 dX10_pin_59 ?_
      exact xr_ireturn C q rfl rfl dX10_pin_60 (so_1 hf) (so_w hf)
    rcases if_or hf with ⟨c5, hf⟩ | ⟨c5_1, hf⟩
    · refine xr_swIn (v := 1) (tgt := 61) C dX10_pin_12 c5 (by decide) (by decide) rfl (by decide) ?_
      refine xr_aload_n C dX10_pin_61 0 rfl rfl ?_
      refine xr_getr C Kd10 (k := 0) (by decide) rfl wk_821 rfl H0.1 H0.2.1.1 dX10_pin_62 ?_
      refine xr_iconst (v := 3) C dX10_pin_65 (by decide) ?_
      refine xr_iconst (v := 4) C dX10_pin_66 (by decide) ?_
      refine xr_iload_n C dX10_pin_67 1 rfl rfl ?_
      refine xr_imul C dX10_pin_68 ?_
      refine xr_iadd C dX10_pin_69 ?_
      refine xr_iconst (v := 2) C dX10_pin_70 (by decide) ?_
      refine xr_iadd C dX10_pin_71 ?_
      obtain ⟨i7, hf⟩ := ck_x hf
      refine xr_iald C H0.2.1.2 i7 dX10_pin_72 ?_
      exact xr_ireturn C q rfl rfl dX10_pin_73 (so_1 hf) (so_w hf)
    rcases if_or hf with ⟨c5, hf⟩ | ⟨c5_2, hf⟩
    · refine xr_swIn (v := 2) (tgt := 74) C dX10_pin_12 c5 (by decide) (by decide) rfl (by decide) ?_
      refine xr_aload_n C dX10_pin_74 0 rfl rfl ?_
      refine xr_getr C Kd10 (k := 0) (by decide) rfl wk_821 rfl H0.1 H0.2.1.1 dX10_pin_75 ?_
      refine xr_iconst (v := 3) C dX10_pin_78 (by decide) ?_
      refine xr_iconst (v := 4) C dX10_pin_79 (by decide) ?_
      refine xr_iload_n C dX10_pin_80 1 rfl rfl ?_
      refine xr_imul C dX10_pin_81 ?_
      refine xr_iadd C dX10_pin_82 ?_
      refine xr_iconst (v := 3) C dX10_pin_83 (by decide) ?_
      refine xr_iadd C dX10_pin_84 ?_
      obtain ⟨i8, hf⟩ := ck_x hf
      refine xr_iald C H0.2.1.2 i8 dX10_pin_85 ?_
      exact xr_ireturn C q rfl rfl dX10_pin_86 (so_1 hf) (so_w hf)
    rcases if_or hf with ⟨c5, hf⟩ | ⟨c5_3, hf⟩
    · refine xr_swIn (v := 3) (tgt := 87) C dX10_pin_12 c5 (by decide) (by decide) rfl (by decide) ?_
      refine xr_aload_n C dX10_pin_87 0 rfl rfl ?_
      refine xr_getr C Kd10 (k := 0) (by decide) rfl wk_821 rfl H0.1 H0.2.1.1 dX10_pin_88 ?_
      refine xr_bipush (v := 35) C dX10_pin_91 (by decide) ?_
      refine xr_iload_n C dX10_pin_93 1 rfl rfl ?_
      refine xr_iadd C dX10_pin_94 ?_
      obtain ⟨i9, hf⟩ := ck_x hf
      refine xr_iald C H0.2.1.2 i9 dX10_pin_95 ?_
      exact xr_ireturn C q rfl rfl dX10_pin_96 (so_1 hf) (so_w hf)
    rcases if_or hf with ⟨c5, hf⟩ | ⟨c5_4, hf⟩
    · refine xr_swIn (v := 4) (tgt := 97) C dX10_pin_12 c5 (by decide) (by decide) rfl (by decide) ?_
      refine xr_aload_n C dX10_pin_97 0 rfl rfl ?_
      refine xr_getr C Kd10 (k := 0) (by decide) rfl wk_821 rfl H0.1 H0.2.1.1 dX10_pin_98 ?_
      refine xr_bipush (v := 34) C dX10_pin_101 (by decide) ?_
      obtain ⟨i10, hf⟩ := ck_x hf
      refine xr_iald C H0.2.1.2 i10 dX10_pin_103 ?_
      refine xr_iload_n C dX10_pin_104 1 rfl rfl ?_
      refine xr_ishr C dX10_pin_105 ?_
      refine xr_iconst (v := 1) C dX10_pin_106 (by decide) ?_
      refine xr_iand C dX10_pin_107 ?_
      exact xr_ireturn C q rfl rfl dX10_pin_108 (so_1 hf) (so_w hf)
    refine xr_swOut (tgt := 109) C dX10_pin_12 (sw_out5 c5_0 c5_1 c5_2 c5_3 c5_4) (by decide) ?_
    refine xr_ldc C wk_900 dX10_pin_109 ?_
    exact xr_ireturn C q rfl rfl dX10_pin_111 (so_1 hf) (so_w hf)
  · refine xr_ldc C wk_900 dX10_pin_8 ?_
    exact xr_ireturn C q rfl rfl dX10_pin_10 (so_1 hf) (so_w hf)
theorem kX10_pin {B : Bs} {h : Shp} (H0 : MAt h) {I0 : Mem} {p1 : Int32} {p2 : Int32} {r1 : Int32} {o1 : Mem} (hf : fnX10_pin I0 p1 p2 = some (r1, o1)) : CtrI B yX10_pin cX10_pin 3 (some Jvm.ClassFile.FieldType.int) 2 46 0 0 [rfB B 111, .int p1, .int p2] (I0, h) r1 (o1, h) := by
  refine xr_enterI (lv0 := [(0, rfB B 111), (1, .int p1), (2, .int p2)]) (by decide) (Nat.le_of_ble_eq_true rfl) rfl (fun g hg C q => ?_)
  subst hg
  exact ebX10_pin_0 C H0 q hf
theorem dX10_copyRow_0 : decode cX10_copyRow 0 = .ok (.iconst 0, 1) := by decide +kernel
theorem dX10_copyRow_1 : decode cX10_copyRow 1 = .ok (.istore_n 3, 1) := by decide +kernel
theorem dX10_copyRow_2 : decode cX10_copyRow 2 = .ok (.iload_n 3, 1) := by decide +kernel
theorem dX10_copyRow_3 : decode cX10_copyRow 3 = .ok (.bipush 41, 2) := by decide +kernel
theorem dX10_copyRow_5 : decode cX10_copyRow 5 = .ok (.if_icmp .ge 25, 3) := by decide +kernel
theorem dX10_copyRow_8 : decode cX10_copyRow 8 = .ok (.aload_n 0, 1) := by decide +kernel
theorem dX10_copyRow_9 : decode cX10_copyRow 9 = .ok (.getfield 7, 3) := by decide +kernel
theorem dX10_copyRow_12 : decode cX10_copyRow 12 = .ok (.iload_n 2, 1) := by decide +kernel
theorem dX10_copyRow_13 : decode cX10_copyRow 13 = .ok (.iload_n 3, 1) := by decide +kernel
theorem dX10_copyRow_14 : decode cX10_copyRow 14 = .ok (.iadd, 1) := by decide +kernel
theorem dX10_copyRow_15 : decode cX10_copyRow 15 = .ok (.aload_n 0, 1) := by decide +kernel
theorem dX10_copyRow_16 : decode cX10_copyRow 16 = .ok (.getfield 7, 3) := by decide +kernel
theorem dX10_copyRow_19 : decode cX10_copyRow 19 = .ok (.iload_n 1, 1) := by decide +kernel
theorem dX10_copyRow_20 : decode cX10_copyRow 20 = .ok (.iload_n 3, 1) := by decide +kernel
theorem dX10_copyRow_21 : decode cX10_copyRow 21 = .ok (.iadd, 1) := by decide +kernel
theorem dX10_copyRow_22 : decode cX10_copyRow 22 = .ok (.iaload, 1) := by decide +kernel
theorem dX10_copyRow_23 : decode cX10_copyRow 23 = .ok (.iastore, 1) := by decide +kernel
theorem dX10_copyRow_24 : decode cX10_copyRow 24 = .ok (.iinc 3 1, 3) := by decide +kernel
theorem dX10_copyRow_27 : decode cX10_copyRow 27 = .ok (.goto (-25), 3) := by decide +kernel
theorem dX10_copyRow_30 : decode cX10_copyRow 30 = .ok (.return_, 1) := by decide +kernel
/-! BumperBallsModel.copyRow(II)V -/
def fnX10_copyRow_2b (rec2 : Mem → Int32 → Int32 → Int32 → Option Mem) (I0 : Mem) (l1 : Int32) (l2 : Int32) (l3 : Int32) : Option Mem :=
  if 41 ≤ l3 then (some I0) else (ck (inb (l1 + l3) 164) <| ck (inb (l2 + l3) 164) <| bnd (up2 I0 112 (ix (l2 + l3)) (I0 112 (ix (l1 + l3)))) fun I4 => bnd (l3 + 1) fun v5 => rec2 I4 l1 l2 v5)
def fnX10_copyRow_2 : Nat → Mem → Int32 → Int32 → Int32 → Option Mem
  | 0 => fun _ _ _ _ => none
  | fu + 1 => fnX10_copyRow_2b (fnX10_copyRow_2 fu)
set_option maxRecDepth 20000 in
set_option maxHeartbeats 2000000 in
theorem ebX10_copyRow_2b {g : Cfg} (C : Cx g RX10 cX10_copyRow 4 0 0 0 0) {h : Shp} (H0 : MAt h) {o1 : Mem} {rec2 : Mem → Int32 → Int32 → Int32 → Option Mem} (q : QV g 0 0 (o1, h)) (ih2 : ∀ (I0 : Mem) (l1 : Int32) (l2 : Int32) (l3 : Int32), rec2 I0 l1 l2 l3 = some o1 → XE g 0 0 (I0, h) 2 [(0, rf g 111), (1, .int l1), (2, .int l2), (3, .int l3)] []) {I0 : Mem} {l1 : Int32} {l2 : Int32} {l3 : Int32} (hf : fnX10_copyRow_2b rec2 I0 l1 l2 l3 = some o1) : XE g 0 0 (I0, h) 2 [(0, rf g 111), (1, .int l1), (2, .int l2), (3, .int l3)] [] := by
  unfold fnX10_copyRow_2b at hf
  refine xr_iload_n C dX10_copyRow_2 3 rfl rfl ?_
  refine xr_bipush (v := 41) C dX10_copyRow_3 (by decide) ?_
  refine xr_icmp_ge (tgt := 30) C dX10_copyRow_5 (by decide) hf (fun c1 hf => ?_) (fun c1 hf => ?_)
  · exact xr_return C q dX10_copyRow_30 (so_v hf)
  · refine xr_aload_n C dX10_copyRow_8 0 rfl rfl ?_
    refine xr_getr C Kd10 (k := 0) (by decide) rfl wk_821 rfl H0.1 H0.2.1.1 dX10_copyRow_9 ?_
    refine xr_iload_n C dX10_copyRow_12 2 rfl rfl ?_
    refine xr_iload_n C dX10_copyRow_13 3 rfl rfl ?_
    refine xr_iadd C dX10_copyRow_14 ?_
    refine xr_aload_n C dX10_copyRow_15 0 rfl rfl ?_
    refine xr_getr C Kd10 (k := 0) (by decide) rfl wk_821 rfl H0.1 H0.2.1.1 dX10_copyRow_16 ?_
    refine xr_iload_n C dX10_copyRow_19 1 rfl rfl ?_
    refine xr_iload_n C dX10_copyRow_20 3 rfl rfl ?_
    refine xr_iadd C dX10_copyRow_21 ?_
    obtain ⟨i2, hf⟩ := ck_x hf
    refine xr_iald C H0.2.1.2 i2 dX10_copyRow_22 ?_
    obtain ⟨i3, hf⟩ := ck_x hf
    obtain ⟨I4, eI4, hf⟩ := bnd_x hf
    refine xr_iast C H0.2.1.2 i3 dX10_copyRow_23 eI4 ?_
    obtain ⟨v5, ev5, hf⟩ := bnd_x hf
    refine xr_iinc (k := 3) (v := v5) C dX10_copyRow_24 rfl (by rw [ev5]; rfl) (by decide) rfl ?_
    refine xr_goto (tgt := 2) C dX10_copyRow_27 (by decide) ?_
    refine xr_lv [1, 2, 3, 0] rfl ?_
    exact ih2 _ _ _ _ hf
theorem ebX10_copyRow_2 {g : Cfg} (C : Cx g RX10 cX10_copyRow 4 0 0 0 0) {h : Shp} (H0 : MAt h) {o1 : Mem} (q : QV g 0 0 (o1, h)) : ∀ (fu : Nat) {I0 : Mem} {l1 : Int32} {l2 : Int32} {l3 : Int32} (hf : fnX10_copyRow_2 fu I0 l1 l2 l3 = some o1), XE g 0 0 (I0, h) 2 [(0, rf g 111), (1, .int l1), (2, .int l2), (3, .int l3)] [] := by
  intro fu
  induction fu with
  | zero =>
    intro I0 l1 l2 l3 hf
    cases hf
  | succ fu ihn =>
    intro I0 l1 l2 l3 hf
    exact ebX10_copyRow_2b C H0 q (fun _ _ _ _ hf => ihn hf) hf
def fnX10_copyRow (I0 : Mem) (p1 : Int32) (p2 : Int32) : Option Mem :=
  fnX10_copyRow_2 FU I0 p1 p2 0
set_option maxRecDepth 20000 in
set_option maxHeartbeats 2000000 in
theorem ebX10_copyRow_0 {g : Cfg} (C : Cx g RX10 cX10_copyRow 4 0 0 0 0) {h : Shp} (H0 : MAt h) {o1 : Mem} (q : QV g 0 0 (o1, h)) {I0 : Mem} {p1 : Int32} {p2 : Int32} (hf : fnX10_copyRow I0 p1 p2 = some o1) : XE g 0 0 (I0, h) 0 [(0, rf g 111), (1, .int p1), (2, .int p2)] [] := by
  unfold fnX10_copyRow at hf
  refine xr_iconst (v := 0) C dX10_copyRow_0 (by decide) ?_
  refine xr_istore_n C dX10_copyRow_1 rfl (by decide) rfl ?_
  refine xr_lv [1, 2, 3, 0] rfl ?_
  exact ebX10_copyRow_2 C H0 q _ hf
theorem kX10_copyRow {B : Bs} {h : Shp} (H0 : MAt h) {I0 : Mem} {p1 : Int32} {p2 : Int32} {o1 : Mem} (hf : fnX10_copyRow I0 p1 p2 = some o1) : CtrV B yX10_copyRow cX10_copyRow 4 0 0 0 0 [rfB B 111, .int p1, .int p2] (I0, h) (o1, h) := by
  refine xr_enterV (lv0 := [(0, rfB B 111), (1, .int p1), (2, .int p2)]) (by decide) (Nat.le_of_ble_eq_true rfl) rfl (fun g hg C q => ?_)
  subst hg
  exact ebX10_copyRow_0 C H0 q hf
theorem dX10_ahead_0 : decode cX10_ahead 0 = .ok (.aload_n 0, 1) := by decide +kernel
theorem dX10_ahead_1 : decode cX10_ahead 1 = .ok (.getfield 7, 3) := by decide +kernel
theorem dX10_ahead_4 : decode cX10_ahead 4 = .ok (.iconst 0, 1) := by decide +kernel
theorem dX10_ahead_5 : decode cX10_ahead 5 = .ok (.iaload, 1) := by decide +kernel
theorem dX10_ahead_6 : decode cX10_ahead 6 = .ok (.ifCond .ne 6, 3) := by decide +kernel
theorem dX10_ahead_9 : decode cX10_ahead 9 = .ok (.ldc 176, 2) := by decide +kernel
theorem dX10_ahead_11 : decode cX10_ahead 11 = .ok (.ireturn, 1) := by decide +kernel
theorem dX10_ahead_12 : decode cX10_ahead 12 = .ok (.iload_n 1, 1) := by decide +kernel
theorem dX10_ahead_13 : decode cX10_ahead 13 = .ok (.i2l, 1) := by decide +kernel
theorem dX10_ahead_14 : decode cX10_ahead 14 = .ok (.lconst 0, 1) := by decide +kernel
theorem dX10_ahead_15 : decode cX10_ahead 15 = .ok (.ldc2_w 197, 3) := by decide +kernel
theorem dX10_ahead_18 : decode cX10_ahead 18 = .ok (.invokestatic 48, 3) := by decide +kernel
theorem dX10_ahead_21 : decode cX10_ahead 21 = .ok (.ifCond .eq 15, 3) := by decide +kernel
theorem dX10_ahead_24 : decode cX10_ahead 24 = .ok (.iload_n 2, 1) := by decide +kernel
theorem dX10_ahead_25 : decode cX10_ahead 25 = .ok (.i2l, 1) := by decide +kernel
theorem dX10_ahead_26 : decode cX10_ahead 26 = .ok (.lconst 0, 1) := by decide +kernel
theorem dX10_ahead_27 : decode cX10_ahead 27 = .ok (.ldc2_w 190, 3) := by decide +kernel
theorem dX10_ahead_30 : decode cX10_ahead 30 = .ok (.invokestatic 48, 3) := by decide +kernel
theorem dX10_ahead_33 : decode cX10_ahead 33 = .ok (.ifCond .ne 6, 3) := by decide +kernel
theorem dX10_ahead_36 : decode cX10_ahead 36 = .ok (.ldc 58, 2) := by decide +kernel
theorem dX10_ahead_38 : decode cX10_ahead 38 = .ok (.ireturn, 1) := by decide +kernel
theorem dX10_ahead_39 : decode cX10_ahead 39 = .ok (.aload_n 0, 1) := by decide +kernel
theorem dX10_ahead_40 : decode cX10_ahead 40 = .ok (.iconst 0, 1) := by decide +kernel
theorem dX10_ahead_41 : decode cX10_ahead 41 = .ok (.bipush 123, 2) := by decide +kernel
theorem dX10_ahead_43 : decode cX10_ahead 43 = .ok (.invokevirtual 199, 3) := by decide +kernel
theorem dX10_ahead_46 : decode cX10_ahead 46 = .ok (.iconst 0, 1) := by decide +kernel
theorem dX10_ahead_47 : decode cX10_ahead 47 = .ok (.istore_n 3, 1) := by decide +kernel
theorem dX10_ahead_48 : decode cX10_ahead 48 = .ok (.iload_n 3, 1) := by decide +kernel
theorem dX10_ahead_49 : decode cX10_ahead 49 = .ok (.iload_n 1, 1) := by decide +kernel
theorem dX10_ahead_50 : decode cX10_ahead 50 = .ok (.if_icmp .ge 27, 3) := by decide +kernel
theorem dX10_ahead_53 : decode cX10_ahead 53 = .ok (.aload_n 0, 1) := by decide +kernel
theorem dX10_ahead_54 : decode cX10_ahead 54 = .ok (.getfield 7, 3) := by decide +kernel
theorem dX10_ahead_57 : decode cX10_ahead 57 = .ok (.sipush 152, 3) := by decide +kernel
theorem dX10_ahead_60 : decode cX10_ahead 60 = .ok (.iaload, 1) := by decide +kernel
theorem dX10_ahead_61 : decode cX10_ahead 61 = .ok (.ifCond .ne 16, 3) := by decide +kernel
theorem dX10_ahead_64 : decode cX10_ahead 64 = .ok (.aload_n 0, 1) := by decide +kernel
theorem dX10_ahead_65 : decode cX10_ahead 65 = .ok (.bipush 123, 2) := by decide +kernel
theorem dX10_ahead_67 : decode cX10_ahead 67 = .ok (.invokevirtual 182, 3) := by decide +kernel
theorem dX10_ahead_70 : decode cX10_ahead 70 = .ok (.pop, 1) := by decide +kernel
theorem dX10_ahead_71 : decode cX10_ahead 71 = .ok (.iinc 3 1, 3) := by decide +kernel
theorem dX10_ahead_74 : decode cX10_ahead 74 = .ok (.goto (-26), 3) := by decide +kernel
theorem dX10_ahead_77 : decode cX10_ahead 77 = .ok (.iload_n 2, 1) := by decide +kernel
theorem dX10_ahead_78 : decode cX10_ahead 78 = .ok (.tableswitch 70 0 2 #[26, 52, 61], 26) := by decide +kernel
theorem dX10_ahead_104 : decode cX10_ahead 104 = .ok (.aload_n 0, 1) := by decide +kernel
theorem dX10_ahead_105 : decode cX10_ahead 105 = .ok (.getfield 7, 3) := by decide +kernel
theorem dX10_ahead_108 : decode cX10_ahead 108 = .ok (.sipush 152, 3) := by decide +kernel
theorem dX10_ahead_111 : decode cX10_ahead 111 = .ok (.iaload, 1) := by decide +kernel
theorem dX10_ahead_112 : decode cX10_ahead 112 = .ok (.iconst 1, 1) := by decide +kernel
theorem dX10_ahead_113 : decode cX10_ahead 113 = .ok (.if_icmp .ne 8, 3) := by decide +kernel
theorem dX10_ahead_116 : decode cX10_ahead 116 = .ok (.ldc 19, 2) := by decide +kernel
theorem dX10_ahead_118 : decode cX10_ahead 118 = .ok (.goto 11, 3) := by decide +kernel
theorem dX10_ahead_121 : decode cX10_ahead 121 = .ok (.aload_n 0, 1) := by decide +kernel
theorem dX10_ahead_122 : decode cX10_ahead 122 = .ok (.getfield 7, 3) := by decide +kernel
theorem dX10_ahead_125 : decode cX10_ahead 125 = .ok (.sipush 150, 3) := by decide +kernel
theorem dX10_ahead_128 : decode cX10_ahead 128 = .ok (.iaload, 1) := by decide +kernel
theorem dX10_ahead_129 : decode cX10_ahead 129 = .ok (.ireturn, 1) := by decide +kernel
theorem dX10_ahead_130 : decode cX10_ahead 130 = .ok (.aload_n 0, 1) := by decide +kernel
theorem dX10_ahead_131 : decode cX10_ahead 131 = .ok (.getfield 7, 3) := by decide +kernel
theorem dX10_ahead_134 : decode cX10_ahead 134 = .ok (.sipush 151, 3) := by decide +kernel
theorem dX10_ahead_137 : decode cX10_ahead 137 = .ok (.iaload, 1) := by decide +kernel
theorem dX10_ahead_138 : decode cX10_ahead 138 = .ok (.ireturn, 1) := by decide +kernel
theorem dX10_ahead_139 : decode cX10_ahead 139 = .ok (.aload_n 0, 1) := by decide +kernel
theorem dX10_ahead_140 : decode cX10_ahead 140 = .ok (.getfield 7, 3) := by decide +kernel
theorem dX10_ahead_143 : decode cX10_ahead 143 = .ok (.sipush 154, 3) := by decide +kernel
theorem dX10_ahead_146 : decode cX10_ahead 146 = .ok (.iaload, 1) := by decide +kernel
theorem dX10_ahead_147 : decode cX10_ahead 147 = .ok (.ireturn, 1) := by decide +kernel
theorem dX10_ahead_148 : decode cX10_ahead 148 = .ok (.aload_n 0, 1) := by decide +kernel
theorem dX10_ahead_149 : decode cX10_ahead 149 = .ok (.getfield 7, 3) := by decide +kernel
theorem dX10_ahead_152 : decode cX10_ahead 152 = .ok (.sipush 155, 3) := by decide +kernel
theorem dX10_ahead_155 : decode cX10_ahead 155 = .ok (.iaload, 1) := by decide +kernel
theorem dX10_ahead_156 : decode cX10_ahead 156 = .ok (.ireturn, 1) := by decide +kernel
theorem lkX10_199 : LkV "BumperBallsModel" 199 yX10_copyRow cX10_copyRow 4 none 2 := ⟨wk_1080, wk_11, wk_1079, wk_s86, ⟨by decide +kernel, by decide +kernel, by decide +kernel⟩, wk_1077⟩
/-! BumperBallsModel.ahead(II)I -/
def fnX10_ahead_129 (I0 : Mem) (t0 : Int32) : Option (Int32 × Mem) :=
  some (t0, I0)
set_option maxRecDepth 20000 in
set_option maxHeartbeats 2000000 in
theorem ebX10_ahead_129 {g : Cfg} (C : Cx g RX10 cX10_ahead 4 4 91 0 0) {h : Shp} (H0 : MAt h) {r1 : Int32} {o1 : Mem} (q : QI g (some Jvm.ClassFile.FieldType.int) 0 0 r1 (o1, h)) {I0 : Mem} {t0 : Int32} (hf : fnX10_ahead_129 I0 t0 = some (r1, o1)) : XE g 0 0 (I0, h) 129 [] [.int t0] := by
  unfold fnX10_ahead_129 at hf
  exact xr_ireturn C q rfl rfl dX10_ahead_129 (so_1 hf) (so_w hf)
def fnX10_ahead_77 (I0 : Mem) (l2 : Int32) : Option (Int32 × Mem) :=
  if l2 = 0 then (ck (inb 152 164) <| if (I0 112 (ix 152)) = 1 then (fnX10_ahead_129 I0 (-1000000)) else (ck (inb 150 164) <| fnX10_ahead_129 I0 (I0 112 (ix 150)))) else if l2 = 1 then (ck (inb 151 164) <| some ((I0 112 (ix 151)), I0)) else if l2 = 2 then (ck (inb 154 164) <| some ((I0 112 (ix 154)), I0)) else (ck (inb 155 164) <| some ((I0 112 (ix 155)), I0))
set_option maxRecDepth 20000 in
set_option maxHeartbeats 2000000 in
theorem ebX10_ahead_77 {g : Cfg} (C : Cx g RX10 cX10_ahead 4 4 91 0 0) {h : Shp} (H0 : MAt h) {r1 : Int32} {o1 : Mem} (q : QI g (some Jvm.ClassFile.FieldType.int) 0 0 r1 (o1, h)) {I0 : Mem} {l2 : Int32} (hf : fnX10_ahead_77 I0 l2 = some (r1, o1)) : XE g 0 0 (I0, h) 77 [(0, rf g 111), (2, .int l2)] [] := by
  unfold fnX10_ahead_77 at hf
  refine xr_iload_n C dX10_ahead_77 1 rfl rfl ?_
  rcases if_or hf with ⟨c1, hf⟩ | ⟨c1_0, hf⟩
  · refine xr_swIn (v := 0) (tgt := 104) C dX10_ahead_78 c1 (by decide) (by decide) rfl (by decide) ?_
    refine xr_aload_n C dX10_ahead_104 0 rfl rfl ?_
    refine xr_getr C Kd10 (k := 0) (by decide) rfl wk_821 rfl H0.1 H0.2.1.1 dX10_ahead_105 ?_
    refine xr_sipush (v := 152) C dX10_ahead_108 (by decide) ?_
    obtain ⟨i2, hf⟩ := ck_x hf
    refine xr_iald C H0.2.1.2 i2 dX10_ahead_111 ?_
    refine xr_iconst (v := 1) C dX10_ahead_112 (by decide) ?_
    refine xr_icmp_ne (tgt := 121) C dX10_ahead_113 (by decide) hf (fun c3 hf => ?_) (fun c3 hf => ?_)
    · refine xr_aload_n C dX10_ahead_121 0 rfl rfl ?_
      refine xr_getr C Kd10 (k := 0) (by decide) rfl wk_821 rfl H0.1 H0.2.1.1 dX10_ahead_122 ?_
      refine xr_sipush (v := 150) C dX10_ahead_125 (by decide) ?_
      obtain ⟨i4, hf⟩ := ck_x hf
      refine xr_iald C H0.2.1.2 i4 dX10_ahead_128 ?_
      refine xr_lv [] rfl ?_
      exact ebX10_ahead_129 C H0 q hf
    · refine xr_ldc C wk_820 dX10_ahead_116 ?_
      refine xr_goto (tgt := 129) C dX10_ahead_118 (by decide) ?_
      refine xr_lv [] rfl ?_
      exact ebX10_ahead_129 C H0 q hf
  rcases if_or hf with ⟨c1, hf⟩ | ⟨c1_1, hf⟩
  · refine xr_swIn (v := 1) (tgt := 130) C dX10_ahead_78 c1 (by decide) (by decide) rfl (by decide) ?_
    refine xr_aload_n C dX10_ahead_130 0 rfl rfl ?_
    refine xr_getr C Kd10 (k := 0) (by decide) rfl wk_821 rfl H0.1 H0.2.1.1 dX10_ahead_131 ?_
    refine xr_sipush (v := 151) C dX10_ahead_134 (by decide) ?_
    obtain ⟨i5, hf⟩ := ck_x hf
    refine xr_iald C H0.2.1.2 i5 dX10_ahead_137 ?_
    exact xr_ireturn C q rfl rfl dX10_ahead_138 (so_1 hf) (so_w hf)
  rcases if_or hf with ⟨c1, hf⟩ | ⟨c1_2, hf⟩
  · refine xr_swIn (v := 2) (tgt := 139) C dX10_ahead_78 c1 (by decide) (by decide) rfl (by decide) ?_
    refine xr_aload_n C dX10_ahead_139 0 rfl rfl ?_
    refine xr_getr C Kd10 (k := 0) (by decide) rfl wk_821 rfl H0.1 H0.2.1.1 dX10_ahead_140 ?_
    refine xr_sipush (v := 154) C dX10_ahead_143 (by decide) ?_
    obtain ⟨i6, hf⟩ := ck_x hf
    refine xr_iald C H0.2.1.2 i6 dX10_ahead_146 ?_
    exact xr_ireturn C q rfl rfl dX10_ahead_147 (so_1 hf) (so_w hf)
  refine xr_swOut (tgt := 148) C dX10_ahead_78 (sw_out3 c1_0 c1_1 c1_2) (by decide) ?_
  refine xr_aload_n C dX10_ahead_148 0 rfl rfl ?_
  refine xr_getr C Kd10 (k := 0) (by decide) rfl wk_821 rfl H0.1 H0.2.1.1 dX10_ahead_149 ?_
  refine xr_sipush (v := 155) C dX10_ahead_152 (by decide) ?_
  obtain ⟨i7, hf⟩ := ck_x hf
  refine xr_iald C H0.2.1.2 i7 dX10_ahead_155 ?_
  exact xr_ireturn C q rfl rfl dX10_ahead_156 (so_1 hf) (so_w hf)
def fnX10_ahead_48b (rec48 : Mem → Int32 → Int32 → Int32 → Option (Int32 × Mem)) (I0 : Mem) (l1 : Int32) (l2 : Int32) (l3 : Int32) : Option (Int32 × Mem) :=
  if l1 ≤ l3 then (fnX10_ahead_77 I0 l2) else (ck (inb 152 164) <| if (I0 112 (ix 152)) = 0 then (ob (fnX10_step I0 123) fun ⟨r6, I5⟩ => bnd (l3 + 1) fun v7 => rec48 I5 l1 l2 v7) else (fnX10_ahead_77 I0 l2))
def fnX10_ahead_48 : Nat → Mem → Int32 → Int32 → Int32 → Option (Int32 × Mem)
  | 0 => fun _ _ _ _ => none
  | fu + 1 => fnX10_ahead_48b (fnX10_ahead_48 fu)
set_option maxRecDepth 20000 in
set_option maxHeartbeats 2000000 in
theorem ebX10_ahead_48b {g : Cfg} (C : Cx g RX10 cX10_ahead 4 4 91 0 0) {h : Shp} (H0 : MAt h) {r1 : Int32} {o1 : Mem} {rec48 : Mem → Int32 → Int32 → Int32 → Option (Int32 × Mem)} (q : QI g (some Jvm.ClassFile.FieldType.int) 0 0 r1 (o1, h)) (ih48 : ∀ (I0 : Mem) (l1 : Int32) (l2 : Int32) (l3 : Int32), rec48 I0 l1 l2 l3 = some (r1, o1) → XE g 0 0 (I0, h) 48 [(0, rf g 111), (1, .int l1), (2, .int l2), (3, .int l3)] []) {I0 : Mem} {l1 : Int32} {l2 : Int32} {l3 : Int32} (hf : fnX10_ahead_48b rec48 I0 l1 l2 l3 = some (r1, o1)) : XE g 0 0 (I0, h) 48 [(0, rf g 111), (1, .int l1), (2, .int l2), (3, .int l3)] [] := by
  unfold fnX10_ahead_48b at hf
  refine xr_iload_n C dX10_ahead_48 3 rfl rfl ?_
  refine xr_iload_n C dX10_ahead_49 1 rfl rfl ?_
  refine xr_icmp_ge (tgt := 77) C dX10_ahead_50 (by decide) hf (fun c1 hf => ?_) (fun c1 hf => ?_)
  · refine xr_lv [0, 2] rfl ?_
    exact ebX10_ahead_77 C H0 q hf
  · refine xr_aload_n C dX10_ahead_53 0 rfl rfl ?_
    refine xr_getr C Kd10 (k := 0) (by decide) rfl wk_821 rfl H0.1 H0.2.1.1 dX10_ahead_54 ?_
    refine xr_sipush (v := 152) C dX10_ahead_57 (by decide) ?_
    obtain ⟨i2, hf⟩ := ck_x hf
    refine xr_iald C H0.2.1.2 i2 dX10_ahead_60 ?_
    refine xr_if_ne (tgt := 77) C dX10_ahead_61 (by decide) hf (fun c3 hf => ?_) (fun c3 hf => ?_)
    · refine xr_lv [0, 2] rfl ?_
      exact ebX10_ahead_77 C H0 q hf
    · refine xr_aload_n C dX10_ahead_64 0 rfl rfl ?_
      refine xr_bipush (v := 123) C dX10_ahead_65 (by decide) ?_
      obtain ⟨⟨r6, I5⟩, h4, hf⟩ := ob_x hf
      refine xr_callVI C [.int 123] lkX10_182 (kX10_step H0 h4) Kd10 rfl H0.1 rfl (Nat.le_of_ble_eq_true rfl) rfl dX10_ahead_67 ⟨by decide, by decide, by decide⟩ rfl ?_
      refine xr_pop C dX10_ahead_70 rfl ?_
      obtain ⟨v7, ev7, hf⟩ := bnd_x hf
      refine xr_iinc (k := 3) (v := v7) C dX10_ahead_71 rfl (by rw [ev7]; rfl) (by decide) rfl ?_
      refine xr_goto (tgt := 48) C dX10_ahead_74 (by decide) ?_
      refine xr_lv [1, 2, 3, 0] rfl ?_
      exact ih48 _ _ _ _ hf
theorem ebX10_ahead_48 {g : Cfg} (C : Cx g RX10 cX10_ahead 4 4 91 0 0) {h : Shp} (H0 : MAt h) {r1 : Int32} {o1 : Mem} (q : QI g (some Jvm.ClassFile.FieldType.int) 0 0 r1 (o1, h)) : ∀ (fu : Nat) {I0 : Mem} {l1 : Int32} {l2 : Int32} {l3 : Int32} (hf : fnX10_ahead_48 fu I0 l1 l2 l3 = some (r1, o1)), XE g 0 0 (I0, h) 48 [(0, rf g 111), (1, .int l1), (2, .int l2), (3, .int l3)] [] := by
  intro fu
  induction fu with
  | zero =>
    intro I0 l1 l2 l3 hf
    cases hf
  | succ fu ihn =>
    intro I0 l1 l2 l3 hf
    exact ebX10_ahead_48b C H0 q (fun _ _ _ _ hf => ihn hf) hf
def fnX10_ahead_36 (I0 : Mem) : Option (Int32 × Mem) :=
  some ((-1000001), I0)
set_option maxRecDepth 20000 in
set_option maxHeartbeats 2000000 in
theorem ebX10_ahead_36 {g : Cfg} (C : Cx g RX10 cX10_ahead 4 4 91 0 0) {h : Shp} (H0 : MAt h) {r1 : Int32} {o1 : Mem} (q : QI g (some Jvm.ClassFile.FieldType.int) 0 0 r1 (o1, h)) {I0 : Mem} (hf : fnX10_ahead_36 I0 = some (r1, o1)) : XE g 0 0 (I0, h) 36 [] [] := by
  unfold fnX10_ahead_36 at hf
  refine xr_ldc C wk_900 dX10_ahead_36 ?_
  exact xr_ireturn C q rfl rfl dX10_ahead_38 (so_1 hf) (so_w hf)
def fnX10_ahead (I0 : Mem) (p1 : Int32) (p2 : Int32) : Option (Int32 × Mem) :=
  ck (inb 0 164) <| if (I0 112 (ix 0)) = 0 then (some ((-1000002), I0)) else (ob (fnX10_in I0 (p1.toInt64) 0 200) fun ⟨r5, I4⟩ => if r5 = 0 then (fnX10_ahead_36 I4) else (ob (fnX10_in I4 (p2.toInt64) 0 3) fun ⟨r9, I8⟩ => if r9 = 0 then (fnX10_ahead_36 I8) else (ob (fnX10_copyRow I8 0 123) fun I12 => fnX10_ahead_48 FU I12 p1 p2 0)))
set_option maxRecDepth 20000 in
set_option maxHeartbeats 2000000 in
theorem ebX10_ahead_0 {g : Cfg} (C : Cx g RX10 cX10_ahead 4 4 91 0 0) {h : Shp} (H0 : MAt h) {r1 : Int32} {o1 : Mem} (q : QI g (some Jvm.ClassFile.FieldType.int) 0 0 r1 (o1, h)) {I0 : Mem} {p1 : Int32} {p2 : Int32} (hf : fnX10_ahead I0 p1 p2 = some (r1, o1)) : XE g 0 0 (I0, h) 0 [(0, rf g 111), (1, .int p1), (2, .int p2)] [] := by
  unfold fnX10_ahead at hf
  refine xr_aload_n C dX10_ahead_0 0 rfl rfl ?_
  refine xr_getr C Kd10 (k := 0) (by decide) rfl wk_821 rfl H0.1 H0.2.1.1 dX10_ahead_1 ?_
  refine xr_iconst (v := 0) C dX10_ahead_4 (by decide) ?_
  obtain ⟨i1, hf⟩ := ck_x hf
  refine xr_iald C H0.2.1.2 i1 dX10_ahead_5 ?_
  refine xr_if_ne (tgt := 12) C dX10_ahead_6 (by decide) hf (fun c2 hf => ?_) (fun c2 hf => ?_)
  · refine xr_iload_n C dX10_ahead_12 1 rfl rfl ?_
    refine xr_i2l C dX10_ahead_13 ?_
    refine xr_lconst (v := 0) C dX10_ahead_14 (by decide) ?_
    refine xr_ldc2 C wk_1076 dX10_ahead_15 ?_
    obtain ⟨⟨r5, I4⟩, h3, hf⟩ := ob_x hf
    refine xr_callSI C [.long (p1.toInt64), .long 0, .long 200] lkX10_48 (kX10_in h3) rfl (Nat.le_of_ble_eq_true rfl) rfl dX10_ahead_18 ⟨by decide, by decide, by decide⟩ rfl ?_
    refine xr_if_eq (tgt := 36) C dX10_ahead_21 (by decide) hf (fun c6 hf => ?_) (fun c6 hf => ?_)
    · refine xr_lv [] rfl ?_
      exact ebX10_ahead_36 C H0 q hf
    · refine xr_iload_n C dX10_ahead_24 2 rfl rfl ?_
      refine xr_i2l C dX10_ahead_25 ?_
      refine xr_lconst (v := 0) C dX10_ahead_26 (by decide) ?_
      refine xr_ldc2 C wk_1054 dX10_ahead_27 ?_
      obtain ⟨⟨r9, I8⟩, h7, hf⟩ := ob_x hf
      refine xr_callSI C [.long (p2.toInt64), .long 0, .long 3] lkX10_48 (kX10_in h7) rfl (Nat.le_of_ble_eq_true rfl) rfl dX10_ahead_30 ⟨by decide, by decide, by decide⟩ rfl ?_
      refine xr_if_ne (tgt := 39) C dX10_ahead_33 (by decide) hf (fun c10 hf => ?_) (fun c10 hf => ?_)
      · refine xr_aload_n C dX10_ahead_39 0 rfl rfl ?_
        refine xr_iconst (v := 0) C dX10_ahead_40 (by decide) ?_
        refine xr_bipush (v := 123) C dX10_ahead_41 (by decide) ?_
        obtain ⟨I12, h11, hf⟩ := ob_x hf
        refine xr_callVV C [.int 0, .int 123] lkX10_199 (kX10_copyRow H0 h11) Kd10 rfl H0.1 rfl (Nat.le_of_ble_eq_true rfl) rfl dX10_ahead_43 ⟨by decide, by decide, by decide⟩ rfl ?_
        refine xr_iconst (v := 0) C dX10_ahead_46 (by decide) ?_
        refine xr_istore_n C dX10_ahead_47 rfl (by decide) rfl ?_
        refine xr_lv [1, 2, 3, 0] rfl ?_
        exact ebX10_ahead_48 C H0 q _ hf
      · refine xr_lv [] rfl ?_
        exact ebX10_ahead_36 C H0 q hf
  · refine xr_ldc C wk_1011 dX10_ahead_9 ?_
    exact xr_ireturn C q rfl rfl dX10_ahead_11 (so_1 hf) (so_w hf)
theorem kX10_ahead {B : Bs} {h : Shp} (H0 : MAt h) {I0 : Mem} {p1 : Int32} {p2 : Int32} {r1 : Int32} {o1 : Mem} (hf : fnX10_ahead I0 p1 p2 = some (r1, o1)) : CtrI B yX10_ahead cX10_ahead 4 (some Jvm.ClassFile.FieldType.int) 4 91 0 0 [rfB B 111, .int p1, .int p2] (I0, h) r1 (o1, h) := by
  refine xr_enterI (lv0 := [(0, rfB B 111), (1, .int p1), (2, .int p2)]) (by decide) (Nat.le_of_ble_eq_true rfl) rfl (fun g hg C q => ?_)
  subst hg
  exact ebX10_ahead_0 C H0 q hf
theorem dX10_isAsNow_0 : decode cX10_isAsNow 0 = .ok (.aload_n 0, 1) := by decide +kernel
theorem dX10_isAsNow_1 : decode cX10_isAsNow 1 = .ok (.getfield 7, 3) := by decide +kernel
theorem dX10_isAsNow_4 : decode cX10_isAsNow 4 = .ok (.sipush 152, 3) := by decide +kernel
theorem dX10_isAsNow_7 : decode cX10_isAsNow 7 = .ok (.iaload, 1) := by decide +kernel
theorem dX10_isAsNow_8 : decode cX10_isAsNow 8 = .ok (.ifCond .ne 79, 3) := by decide +kernel
theorem dX10_isAsNow_11 : decode cX10_isAsNow 11 = .ok (.aload_n 0, 1) := by decide +kernel
theorem dX10_isAsNow_12 : decode cX10_isAsNow 12 = .ok (.getfield 7, 3) := by decide +kernel
theorem dX10_isAsNow_15 : decode cX10_isAsNow 15 = .ok (.sipush 150, 3) := by decide +kernel
theorem dX10_isAsNow_18 : decode cX10_isAsNow 18 = .ok (.iaload, 1) := by decide +kernel
theorem dX10_isAsNow_19 : decode cX10_isAsNow 19 = .ok (.aload_n 0, 1) := by decide +kernel
theorem dX10_isAsNow_20 : decode cX10_isAsNow 20 = .ok (.getfield 7, 3) := by decide +kernel
theorem dX10_isAsNow_23 : decode cX10_isAsNow 23 = .ok (.bipush 27, 2) := by decide +kernel
theorem dX10_isAsNow_25 : decode cX10_isAsNow 25 = .ok (.iaload, 1) := by decide +kernel
theorem dX10_isAsNow_26 : decode cX10_isAsNow 26 = .ok (.if_icmp .ne 61, 3) := by decide +kernel
theorem dX10_isAsNow_29 : decode cX10_isAsNow 29 = .ok (.aload_n 0, 1) := by decide +kernel
theorem dX10_isAsNow_30 : decode cX10_isAsNow 30 = .ok (.getfield 7, 3) := by decide +kernel
theorem dX10_isAsNow_33 : decode cX10_isAsNow 33 = .ok (.sipush 151, 3) := by decide +kernel
theorem dX10_isAsNow_36 : decode cX10_isAsNow 36 = .ok (.iaload, 1) := by decide +kernel
theorem dX10_isAsNow_37 : decode cX10_isAsNow 37 = .ok (.aload_n 0, 1) := by decide +kernel
theorem dX10_isAsNow_38 : decode cX10_isAsNow 38 = .ok (.getfield 7, 3) := by decide +kernel
theorem dX10_isAsNow_41 : decode cX10_isAsNow 41 = .ok (.bipush 28, 2) := by decide +kernel
theorem dX10_isAsNow_43 : decode cX10_isAsNow 43 = .ok (.iaload, 1) := by decide +kernel
theorem dX10_isAsNow_44 : decode cX10_isAsNow 44 = .ok (.if_icmp .ne 43, 3) := by decide +kernel
theorem dX10_isAsNow_47 : decode cX10_isAsNow 47 = .ok (.aload_n 0, 1) := by decide +kernel
theorem dX10_isAsNow_48 : decode cX10_isAsNow 48 = .ok (.getfield 7, 3) := by decide +kernel
theorem dX10_isAsNow_51 : decode cX10_isAsNow 51 = .ok (.sipush 155, 3) := by decide +kernel
theorem dX10_isAsNow_54 : decode cX10_isAsNow 54 = .ok (.iaload, 1) := by decide +kernel
theorem dX10_isAsNow_55 : decode cX10_isAsNow 55 = .ok (.aload_n 0, 1) := by decide +kernel
theorem dX10_isAsNow_56 : decode cX10_isAsNow 56 = .ok (.getfield 7, 3) := by decide +kernel
theorem dX10_isAsNow_59 : decode cX10_isAsNow 59 = .ok (.bipush 32, 2) := by decide +kernel
theorem dX10_isAsNow_61 : decode cX10_isAsNow 61 = .ok (.iaload, 1) := by decide +kernel
theorem dX10_isAsNow_62 : decode cX10_isAsNow 62 = .ok (.if_icmp .ne 25, 3) := by decide +kernel
theorem dX10_isAsNow_65 : decode cX10_isAsNow 65 = .ok (.aload_n 0, 1) := by decide +kernel
theorem dX10_isAsNow_66 : decode cX10_isAsNow 66 = .ok (.getfield 7, 3) := by decide +kernel
theorem dX10_isAsNow_69 : decode cX10_isAsNow 69 = .ok (.sipush 157, 3) := by decide +kernel
theorem dX10_isAsNow_72 : decode cX10_isAsNow 72 = .ok (.iaload, 1) := by decide +kernel
theorem dX10_isAsNow_73 : decode cX10_isAsNow 73 = .ok (.aload_n 0, 1) := by decide +kernel
theorem dX10_isAsNow_74 : decode cX10_isAsNow 74 = .ok (.getfield 7, 3) := by decide +kernel
theorem dX10_isAsNow_77 : decode cX10_isAsNow 77 = .ok (.bipush 34, 2) := by decide +kernel
theorem dX10_isAsNow_79 : decode cX10_isAsNow 79 = .ok (.iaload, 1) := by decide +kernel
theorem dX10_isAsNow_80 : decode cX10_isAsNow 80 = .ok (.if_icmp .ne 7, 3) := by decide +kernel
theorem dX10_isAsNow_83 : decode cX10_isAsNow 83 = .ok (.iconst 1, 1) := by decide +kernel
theorem dX10_isAsNow_84 : decode cX10_isAsNow 84 = .ok (.goto 4, 3) := by decide +kernel
theorem dX10_isAsNow_87 : decode cX10_isAsNow 87 = .ok (.iconst 0, 1) := by decide +kernel
theorem dX10_isAsNow_88 : decode cX10_isAsNow 88 = .ok (.ireturn, 1) := by decide +kernel
/-! BumperBallsModel.isAsNow()Z -/
def fnX10_isAsNow_88 (I0 : Mem) (t0 : Int32) : Option (Int32 × Mem) :=
  ck (zb t0) <| some (t0, I0)
set_option maxRecDepth 20000 in
set_option maxHeartbeats 2000000 in
theorem ebX10_isAsNow_88 {g : Cfg} (C : Cx g RX10 cX10_isAsNow 1 0 0 0 0) {h : Shp} (H0 : MAt h) {r1 : Int32} {o1 : Mem} (q : QI g (some Jvm.ClassFile.FieldType.boolean) 0 0 r1 (o1, h)) {I0 : Mem} {t0 : Int32} (hf : fnX10_isAsNow_88 I0 t0 = some (r1, o1)) : XE g 0 0 (I0, h) 88 [] [.int t0] := by
  unfold fnX10_isAsNow_88 at hf
  obtain ⟨z1, hf⟩ := ck_x hf
  exact xr_ireturn C q rfl (zb_ok z1).1 dX10_isAsNow_88 (so_1 hf) (so_w hf)
def fnX10_isAsNow_87 (I0 : Mem) : Option (Int32 × Mem) :=
  fnX10_isAsNow_88 I0 0
set_option maxRecDepth 20000 in
set_option maxHeartbeats 2000000 in
theorem ebX10_isAsNow_87 {g : Cfg} (C : Cx g RX10 cX10_isAsNow 1 0 0 0 0) {h : Shp} (H0 : MAt h) {r1 : Int32} {o1 : Mem} (q : QI g (some Jvm.ClassFile.FieldType.boolean) 0 0 r1 (o1, h)) {I0 : Mem} (hf : fnX10_isAsNow_87 I0 = some (r1, o1)) : XE g 0 0 (I0, h) 87 [] [] := by
  unfold fnX10_isAsNow_87 at hf
  refine xr_iconst (v := 0) C dX10_isAsNow_87 (by decide) ?_
  exact ebX10_isAsNow_88 C H0 q hf
def fnX10_isAsNow (I0 : Mem) : Option (Int32 × Mem) :=
  ck (inb 152 164) <| if (I0 112 (ix 152)) = 0 then (ck (inb 150 164) <| ck (inb 27 164) <| if (I0 112 (ix 150)) = (I0 112 (ix 27)) then (ck (inb 151 164) <| ck (inb 28 164) <| if (I0 112 (ix 151)) = (I0 112 (ix 28)) then (ck (inb 155 164) <| ck (inb 32 164) <| if (I0 112 (ix 155)) = (I0 112 (ix 32)) then (ck (inb 157 164) <| ck (inb 34 164) <| if (I0 112 (ix 157)) = (I0 112 (ix 34)) then (fnX10_isAsNow_88 I0 1) else (fnX10_isAsNow_87 I0)) else (fnX10_isAsNow_87 I0)) else (fnX10_isAsNow_87 I0)) else (fnX10_isAsNow_87 I0)) else (fnX10_isAsNow_87 I0)
set_option maxRecDepth 20000 in
set_option maxHeartbeats 2000000 in
theorem ebX10_isAsNow_0 {g : Cfg} (C : Cx g RX10 cX10_isAsNow 1 0 0 0 0) {h : Shp} (H0 : MAt h) {r1 : Int32} {o1 : Mem} (q : QI g (some Jvm.ClassFile.FieldType.boolean) 0 0 r1 (o1, h)) {I0 : Mem} (hf : fnX10_isAsNow I0 = some (r1, o1)) : XE g 0 0 (I0, h) 0 [(0, rf g 111)] [] := by
  unfold fnX10_isAsNow at hf
  refine xr_aload_n C dX10_isAsNow_0 0 rfl rfl ?_
  refine xr_getr C Kd10 (k := 0) (by decide) rfl wk_821 rfl H0.1 H0.2.1.1 dX10_isAsNow_1 ?_
  refine xr_sipush (v := 152) C dX10_isAsNow_4 (by decide) ?_
  obtain ⟨i1, hf⟩ := ck_x hf
  refine xr_iald C H0.2.1.2 i1 dX10_isAsNow_7 ?_
  refine xr_if_ne (tgt := 87) C dX10_isAsNow_8 (by decide) hf (fun c2 hf => ?_) (fun c2 hf => ?_)
  · refine xr_lv [] rfl ?_
    exact ebX10_isAsNow_87 C H0 q hf
  · refine xr_aload_n C dX10_isAsNow_11 0 rfl rfl ?_
    refine xr_getr C Kd10 (k := 0) (by decide) rfl wk_821 rfl H0.1 H0.2.1.1 dX10_isAsNow_12 ?_
    refine xr_sipush (v := 150) C dX10_isAsNow_15 (by decide) ?_
    obtain ⟨i3, hf⟩ := ck_x hf
    refine xr_iald C H0.2.1.2 i3 dX10_isAsNow_18 ?_
    refine xr_aload_n C dX10_isAsNow_19 0 rfl rfl ?_
    refine xr_getr C Kd10 (k := 0) (by decide) rfl wk_821 rfl H0.1 H0.2.1.1 dX10_isAsNow_20 ?_
    refine xr_bipush (v := 27) C dX10_isAsNow_23 (by decide) ?_
    obtain ⟨i4, hf⟩ := ck_x hf
    refine xr_iald C H0.2.1.2 i4 dX10_isAsNow_25 ?_
    refine xr_icmp_ne (tgt := 87) C dX10_isAsNow_26 (by decide) hf (fun c5 hf => ?_) (fun c5 hf => ?_)
    · refine xr_lv [] rfl ?_
      exact ebX10_isAsNow_87 C H0 q hf
    · refine xr_aload_n C dX10_isAsNow_29 0 rfl rfl ?_
      refine xr_getr C Kd10 (k := 0) (by decide) rfl wk_821 rfl H0.1 H0.2.1.1 dX10_isAsNow_30 ?_
      refine xr_sipush (v := 151) C dX10_isAsNow_33 (by decide) ?_
      obtain ⟨i6, hf⟩ := ck_x hf
      refine xr_iald C H0.2.1.2 i6 dX10_isAsNow_36 ?_
      refine xr_aload_n C dX10_isAsNow_37 0 rfl rfl ?_
      refine xr_getr C Kd10 (k := 0) (by decide) rfl wk_821 rfl H0.1 H0.2.1.1 dX10_isAsNow_38 ?_
      refine xr_bipush (v := 28) C dX10_isAsNow_41 (by decide) ?_
      obtain ⟨i7, hf⟩ := ck_x hf
      refine xr_iald C H0.2.1.2 i7 dX10_isAsNow_43 ?_
      refine xr_icmp_ne (tgt := 87) C dX10_isAsNow_44 (by decide) hf (fun c8 hf => ?_) (fun c8 hf => ?_)
      · refine xr_lv [] rfl ?_
        exact ebX10_isAsNow_87 C H0 q hf
      · refine xr_aload_n C dX10_isAsNow_47 0 rfl rfl ?_
        refine xr_getr C Kd10 (k := 0) (by decide) rfl wk_821 rfl H0.1 H0.2.1.1 dX10_isAsNow_48 ?_
        refine xr_sipush (v := 155) C dX10_isAsNow_51 (by decide) ?_
        obtain ⟨i9, hf⟩ := ck_x hf
        refine xr_iald C H0.2.1.2 i9 dX10_isAsNow_54 ?_
        refine xr_aload_n C dX10_isAsNow_55 0 rfl rfl ?_
        refine xr_getr C Kd10 (k := 0) (by decide) rfl wk_821 rfl H0.1 H0.2.1.1 dX10_isAsNow_56 ?_
        refine xr_bipush (v := 32) C dX10_isAsNow_59 (by decide) ?_
        obtain ⟨i10, hf⟩ := ck_x hf
        refine xr_iald C H0.2.1.2 i10 dX10_isAsNow_61 ?_
        refine xr_icmp_ne (tgt := 87) C dX10_isAsNow_62 (by decide) hf (fun c11 hf => ?_) (fun c11 hf => ?_)
        · refine xr_lv [] rfl ?_
          exact ebX10_isAsNow_87 C H0 q hf
        · refine xr_aload_n C dX10_isAsNow_65 0 rfl rfl ?_
          refine xr_getr C Kd10 (k := 0) (by decide) rfl wk_821 rfl H0.1 H0.2.1.1 dX10_isAsNow_66 ?_
          refine xr_sipush (v := 157) C dX10_isAsNow_69 (by decide) ?_
          obtain ⟨i12, hf⟩ := ck_x hf
          refine xr_iald C H0.2.1.2 i12 dX10_isAsNow_72 ?_
          refine xr_aload_n C dX10_isAsNow_73 0 rfl rfl ?_
          refine xr_getr C Kd10 (k := 0) (by decide) rfl wk_821 rfl H0.1 H0.2.1.1 dX10_isAsNow_74 ?_
          refine xr_bipush (v := 34) C dX10_isAsNow_77 (by decide) ?_
          obtain ⟨i13, hf⟩ := ck_x hf
          refine xr_iald C H0.2.1.2 i13 dX10_isAsNow_79 ?_
          refine xr_icmp_ne (tgt := 87) C dX10_isAsNow_80 (by decide) hf (fun c14 hf => ?_) (fun c14 hf => ?_)
          · refine xr_lv [] rfl ?_
            exact ebX10_isAsNow_87 C H0 q hf
          · refine xr_iconst (v := 1) C dX10_isAsNow_83 (by decide) ?_
            refine xr_goto (tgt := 88) C dX10_isAsNow_84 (by decide) ?_
            refine xr_lv [] rfl ?_
            exact ebX10_isAsNow_88 C H0 q hf
theorem kX10_isAsNow {B : Bs} {h : Shp} (H0 : MAt h) {I0 : Mem} {r1 : Int32} {o1 : Mem} (hf : fnX10_isAsNow I0 = some (r1, o1)) : CtrI B yX10_isAsNow cX10_isAsNow 1 (some Jvm.ClassFile.FieldType.boolean) 0 0 0 0 [rfB B 111] (I0, h) r1 (o1, h) := by
  refine xr_enterI (lv0 := [(0, rfB B 111)]) (by decide) (Nat.le_of_ble_eq_true rfl) rfl (fun g hg C q => ?_)
  subst hg
  exact ebX10_isAsNow_0 C H0 q hf
theorem dX10_lasts_0 : decode cX10_lasts 0 = .ok (.aload_n 0, 1) := by decide +kernel
theorem dX10_lasts_1 : decode cX10_lasts 1 = .ok (.getfield 7, 3) := by decide +kernel
theorem dX10_lasts_4 : decode cX10_lasts 4 = .ok (.iconst 0, 1) := by decide +kernel
theorem dX10_lasts_5 : decode cX10_lasts 5 = .ok (.iaload, 1) := by decide +kernel
theorem dX10_lasts_6 : decode cX10_lasts 6 = .ok (.ifCond .ne 6, 3) := by decide +kernel
theorem dX10_lasts_9 : decode cX10_lasts 9 = .ok (.ldc 176, 2) := by decide +kernel
theorem dX10_lasts_11 : decode cX10_lasts 11 = .ok (.ireturn, 1) := by decide +kernel
theorem dX10_lasts_12 : decode cX10_lasts 12 = .ok (.iload_n 1, 1) := by decide +kernel
theorem dX10_lasts_13 : decode cX10_lasts 13 = .ok (.i2l, 1) := by decide +kernel
theorem dX10_lasts_14 : decode cX10_lasts 14 = .ok (.lconst 0, 1) := by decide +kernel
theorem dX10_lasts_15 : decode cX10_lasts 15 = .ok (.lconst 1, 1) := by decide +kernel
theorem dX10_lasts_16 : decode cX10_lasts 16 = .ok (.invokestatic 48, 3) := by decide +kernel
theorem dX10_lasts_19 : decode cX10_lasts 19 = .ok (.ifCond .ne 6, 3) := by decide +kernel
theorem dX10_lasts_22 : decode cX10_lasts 22 = .ok (.ldc 58, 2) := by decide +kernel
theorem dX10_lasts_24 : decode cX10_lasts 24 = .ok (.ireturn, 1) := by decide +kernel
theorem dX10_lasts_25 : decode cX10_lasts 25 = .ok (.aload_n 0, 1) := by decide +kernel
theorem dX10_lasts_26 : decode cX10_lasts 26 = .ok (.getfield 7, 3) := by decide +kernel
theorem dX10_lasts_29 : decode cX10_lasts 29 = .ok (.bipush 29, 2) := by decide +kernel
theorem dX10_lasts_31 : decode cX10_lasts 31 = .ok (.iaload, 1) := by decide +kernel
theorem dX10_lasts_32 : decode cX10_lasts 32 = .ok (.iconst 1, 1) := by decide +kernel
theorem dX10_lasts_33 : decode cX10_lasts 33 = .ok (.if_icmp .ne 6, 3) := by decide +kernel
theorem dX10_lasts_36 : decode cX10_lasts 36 = .ok (.ldc 176, 2) := by decide +kernel
theorem dX10_lasts_38 : decode cX10_lasts 38 = .ok (.ireturn, 1) := by decide +kernel
theorem dX10_lasts_39 : decode cX10_lasts 39 = .ok (.aload_n 0, 1) := by decide +kernel
theorem dX10_lasts_40 : decode cX10_lasts 40 = .ok (.iconst 0, 1) := by decide +kernel
theorem dX10_lasts_41 : decode cX10_lasts 41 = .ok (.bipush 123, 2) := by decide +kernel
theorem dX10_lasts_43 : decode cX10_lasts 43 = .ok (.invokevirtual 199, 3) := by decide +kernel
theorem dX10_lasts_46 : decode cX10_lasts 46 = .ok (.iconst 1, 1) := by decide +kernel
theorem dX10_lasts_47 : decode cX10_lasts 47 = .ok (.istore_n 2, 1) := by decide +kernel
theorem dX10_lasts_48 : decode cX10_lasts 48 = .ok (.iload_n 2, 1) := by decide +kernel
theorem dX10_lasts_49 : decode cX10_lasts 49 = .ok (.iload_n 1, 1) := by decide +kernel
theorem dX10_lasts_50 : decode cX10_lasts 50 = .ok (.ifCond .ne 9, 3) := by decide +kernel
theorem dX10_lasts_53 : decode cX10_lasts 53 = .ok (.sipush 500, 3) := by decide +kernel
theorem dX10_lasts_56 : decode cX10_lasts 56 = .ok (.goto 6, 3) := by decide +kernel
theorem dX10_lasts_59 : decode cX10_lasts 59 = .ok (.sipush 400, 3) := by decide +kernel
theorem dX10_lasts_62 : decode cX10_lasts 62 = .ok (.if_icmp .gt 55, 3) := by decide +kernel
theorem dX10_lasts_65 : decode cX10_lasts 65 = .ok (.aload_n 0, 1) := by decide +kernel
theorem dX10_lasts_66 : decode cX10_lasts 66 = .ok (.getfield 7, 3) := by decide +kernel
theorem dX10_lasts_69 : decode cX10_lasts 69 = .ok (.sipush 152, 3) := by decide +kernel
theorem dX10_lasts_72 : decode cX10_lasts 72 = .ok (.iaload, 1) := by decide +kernel
theorem dX10_lasts_73 : decode cX10_lasts 73 = .ok (.ifCond .ne 44, 3) := by decide +kernel
theorem dX10_lasts_76 : decode cX10_lasts 76 = .ok (.aload_n 0, 1) := by decide +kernel
theorem dX10_lasts_77 : decode cX10_lasts 77 = .ok (.bipush 123, 2) := by decide +kernel
theorem dX10_lasts_79 : decode cX10_lasts 79 = .ok (.invokevirtual 182, 3) := by decide +kernel
theorem dX10_lasts_82 : decode cX10_lasts 82 = .ok (.pop, 1) := by decide +kernel
theorem dX10_lasts_83 : decode cX10_lasts 83 = .ok (.iload_n 1, 1) := by decide +kernel
theorem dX10_lasts_84 : decode cX10_lasts 84 = .ok (.ifCond .ne 18, 3) := by decide +kernel
theorem dX10_lasts_87 : decode cX10_lasts 87 = .ok (.aload_n 0, 1) := by decide +kernel
theorem dX10_lasts_88 : decode cX10_lasts 88 = .ok (.getfield 7, 3) := by decide +kernel
theorem dX10_lasts_91 : decode cX10_lasts 91 = .ok (.sipush 152, 3) := by decide +kernel
theorem dX10_lasts_94 : decode cX10_lasts 94 = .ok (.iaload, 1) := by decide +kernel
theorem dX10_lasts_95 : decode cX10_lasts 95 = .ok (.iconst 1, 1) := by decide +kernel
theorem dX10_lasts_96 : decode cX10_lasts 96 = .ok (.if_icmp .ne 15, 3) := by decide +kernel
theorem dX10_lasts_99 : decode cX10_lasts 99 = .ok (.goto 10, 3) := by decide +kernel
theorem dX10_lasts_102 : decode cX10_lasts 102 = .ok (.aload_n 0, 1) := by decide +kernel
theorem dX10_lasts_103 : decode cX10_lasts 103 = .ok (.invokevirtual 202, 3) := by decide +kernel
theorem dX10_lasts_106 : decode cX10_lasts 106 = .ok (.ifCond .eq 5, 3) := by decide +kernel
theorem dX10_lasts_109 : decode cX10_lasts 109 = .ok (.iload_n 2, 1) := by decide +kernel
theorem dX10_lasts_110 : decode cX10_lasts 110 = .ok (.ireturn, 1) := by decide +kernel
theorem dX10_lasts_111 : decode cX10_lasts 111 = .ok (.iinc 2 1, 3) := by decide +kernel
theorem dX10_lasts_114 : decode cX10_lasts 114 = .ok (.goto (-66), 3) := by decide +kernel
theorem dX10_lasts_117 : decode cX10_lasts 117 = .ok (.ldc 19, 2) := by decide +kernel
theorem dX10_lasts_119 : decode cX10_lasts 119 = .ok (.ireturn, 1) := by decide +kernel
theorem lkX10_202 : LkV "BumperBallsModel" 202 yX10_isAsNow cX10_isAsNow 1 (some Jvm.ClassFile.FieldType.boolean) 0 := ⟨wk_1088, wk_11, wk_1087, wk_s87, ⟨by decide +kernel, by decide +kernel, by decide +kernel⟩, wk_1085⟩
/-! BumperBallsModel.lasts(I)I -/
def fnX10_lasts_117 (I0 : Mem) : Option (Int32 × Mem) :=
  some ((-1000000), I0)
set_option maxRecDepth 20000 in
set_option maxHeartbeats 2000000 in
theorem ebX10_lasts_117 {g : Cfg} (C : Cx g RX10 cX10_lasts 3 4 91 0 0) {h : Shp} (H0 : MAt h) {r1 : Int32} {o1 : Mem} (q : QI g (some Jvm.ClassFile.FieldType.int) 0 0 r1 (o1, h)) {I0 : Mem} (hf : fnX10_lasts_117 I0 = some (r1, o1)) : XE g 0 0 (I0, h) 117 [] [] := by
  unfold fnX10_lasts_117 at hf
  refine xr_ldc C wk_820 dX10_lasts_117 ?_
  exact xr_ireturn C q rfl rfl dX10_lasts_119 (so_1 hf) (so_w hf)
def fnX10_lasts_111 (rec48 : Mem → Int32 → Int32 → Option (Int32 × Mem)) (I0 : Mem) (l1 : Int32) (l2 : Int32) : Option (Int32 × Mem) :=
  bnd (l2 + 1) fun v1 => rec48 I0 l1 v1
set_option maxRecDepth 20000 in
set_option maxHeartbeats 2000000 in
theorem ebX10_lasts_111 {g : Cfg} (C : Cx g RX10 cX10_lasts 3 4 91 0 0) {h : Shp} (H0 : MAt h) {r1 : Int32} {o1 : Mem} {rec48 : Mem → Int32 → Int32 → Option (Int32 × Mem)} (ih48 : ∀ (I0 : Mem) (l1 : Int32) (l2 : Int32), rec48 I0 l1 l2 = some (r1, o1) → XE g 0 0 (I0, h) 48 [(0, rf g 111), (1, .int l1), (2, .int l2)] []) (q : QI g (some Jvm.ClassFile.FieldType.int) 0 0 r1 (o1, h)) {I0 : Mem} {l1 : Int32} {l2 : Int32} (hf : fnX10_lasts_111 rec48 I0 l1 l2 = some (r1, o1)) : XE g 0 0 (I0, h) 111 [(0, rf g 111), (1, .int l1), (2, .int l2)] [] := by
  unfold fnX10_lasts_111 at hf
  obtain ⟨v1, ev1, hf⟩ := bnd_x hf
  refine xr_iinc (k := 2) (v := v1) C dX10_lasts_111 rfl (by rw [ev1]; rfl) (by decide) rfl ?_
  refine xr_goto (tgt := 48) C dX10_lasts_114 (by decide) ?_
  refine xr_lv [1, 2, 0] rfl ?_
  exact ih48 _ _ _ hf
def fnX10_lasts_109 (I0 : Mem) (l2 : Int32) : Option (Int32 × Mem) :=
  some (l2, I0)
set_option maxRecDepth 20000 in
set_option maxHeartbeats 2000000 in
theorem ebX10_lasts_109 {g : Cfg} (C : Cx g RX10 cX10_lasts 3 4 91 0 0) {h : Shp} (H0 : MAt h) {r1 : Int32} {o1 : Mem} (q : QI g (some Jvm.ClassFile.FieldType.int) 0 0 r1 (o1, h)) {I0 : Mem} {l2 : Int32} (hf : fnX10_lasts_109 I0 l2 = some (r1, o1)) : XE g 0 0 (I0, h) 109 [(2, .int l2)] [] := by
  unfold fnX10_lasts_109 at hf
  refine xr_iload_n C dX10_lasts_109 0 rfl rfl ?_
  exact xr_ireturn C q rfl rfl dX10_lasts_110 (so_1 hf) (so_w hf)
def fnX10_lasts_62 (rec48 : Mem → Int32 → Int32 → Option (Int32 × Mem)) (I0 : Mem) (l1 : Int32) (l2 : Int32) (t0 : Int32) (t1 : Int32) : Option (Int32 × Mem) :=
  if t1 < t0 then (fnX10_lasts_117 I0) else (ck (inb 152 164) <| if (I0 112 (ix 152)) = 0 then (ob (fnX10_step I0 123) fun ⟨r6, I5⟩ => if l1 = 0 then (ck (inb 152 164) <| if (I5 112 (ix 152)) = 1 then (fnX10_lasts_109 I5 l2) else (fnX10_lasts_111 rec48 I5 l1 l2)) else (ob (fnX10_isAsNow I5) fun ⟨r10, I9⟩ => if r10 = 0 then (fnX10_lasts_111 rec48 I9 l1 l2) else (fnX10_lasts_109 I9 l2))) else (fnX10_lasts_117 I0))
set_option maxRecDepth 20000 in
set_option maxHeartbeats 2000000 in
theorem ebX10_lasts_62 {g : Cfg} (C : Cx g RX10 cX10_lasts 3 4 91 0 0) {h : Shp} (H0 : MAt h) {r1 : Int32} {o1 : Mem} {rec48 : Mem → Int32 → Int32 → Option (Int32 × Mem)} (ih48 : ∀ (I0 : Mem) (l1 : Int32) (l2 : Int32), rec48 I0 l1 l2 = some (r1, o1) → XE g 0 0 (I0, h) 48 [(0, rf g 111), (1, .int l1), (2, .int l2)] []) (q : QI g (some Jvm.ClassFile.FieldType.int) 0 0 r1 (o1, h)) {I0 : Mem} {l1 : Int32} {l2 : Int32} {t0 : Int32} {t1 : Int32} (hf : fnX10_lasts_62 rec48 I0 l1 l2 t0 t1 = some (r1, o1)) : XE g 0 0 (I0, h) 62 [(0, rf g 111), (1, .int l1), (2, .int l2)] [.int t1, .int t0] := by
  unfold fnX10_lasts_62 at hf
  refine xr_icmp_gt (tgt := 117) C dX10_lasts_62 (by decide) hf (fun c1 hf => ?_) (fun c1 hf => ?_)
  · refine xr_lv [] rfl ?_
    exact ebX10_lasts_117 C H0 q hf
  · refine xr_aload_n C dX10_lasts_65 0 rfl rfl ?_
    refine xr_getr C Kd10 (k := 0) (by decide) rfl wk_821 rfl H0.1 H0.2.1.1 dX10_lasts_66 ?_
    refine xr_sipush (v := 152) C dX10_lasts_69 (by decide) ?_
    obtain ⟨i2, hf⟩ := ck_x hf
    refine xr_iald C H0.2.1.2 i2 dX10_lasts_72 ?_
    refine xr_if_ne (tgt := 117) C dX10_lasts_73 (by decide) hf (fun c3 hf => ?_) (fun c3 hf => ?_)
    · refine xr_lv [] rfl ?_
      exact ebX10_lasts_117 C H0 q hf
    · refine xr_aload_n C dX10_lasts_76 0 rfl rfl ?_
      refine xr_bipush (v := 123) C dX10_lasts_77 (by decide) ?_
      obtain ⟨⟨r6, I5⟩, h4, hf⟩ := ob_x hf
      refine xr_callVI C [.int 123] lkX10_182 (kX10_step H0 h4) Kd10 rfl H0.1 rfl (Nat.le_of_ble_eq_true rfl) rfl dX10_lasts_79 ⟨by decide, by decide, by decide⟩ rfl ?_
      refine xr_pop C dX10_lasts_82 rfl ?_
      refine xr_iload_n C dX10_lasts_83 1 rfl rfl ?_
      refine xr_if_ne (tgt := 102) C dX10_lasts_84 (by decide) hf (fun c7 hf => ?_) (fun c7 hf => ?_)
      · refine xr_aload_n C dX10_lasts_102 0 rfl rfl ?_
        obtain ⟨⟨r10, I9⟩, h8, hf⟩ := ob_x hf
        refine xr_callVI C [] lkX10_202 (kX10_isAsNow H0 h8) Kd10 rfl H0.1 rfl (Nat.le_of_ble_eq_true rfl) rfl dX10_lasts_103 ⟨by decide, by decide, by decide⟩ rfl ?_
        refine xr_if_eq (tgt := 111) C dX10_lasts_106 (by decide) hf (fun c11 hf => ?_) (fun c11 hf => ?_)
        · exact ebX10_lasts_111 C H0 ih48 q hf
        · refine xr_lv [2] rfl ?_
          exact ebX10_lasts_109 C H0 q hf
      · refine xr_aload_n C dX10_lasts_87 0 rfl rfl ?_
        refine xr_getr C Kd10 (k := 0) (by decide) rfl wk_821 rfl H0.1 H0.2.1.1 dX10_lasts_88 ?_
        refine xr_sipush (v := 152) C dX10_lasts_91 (by decide) ?_
        obtain ⟨i12, hf⟩ := ck_x hf
        refine xr_iald C H0.2.1.2 i12 dX10_lasts_94 ?_
        refine xr_iconst (v := 1) C dX10_lasts_95 (by decide) ?_
        refine xr_icmp_ne (tgt := 111) C dX10_lasts_96 (by decide) hf (fun c13 hf => ?_) (fun c13 hf => ?_)
        · exact ebX10_lasts_111 C H0 ih48 q hf
        · refine xr_goto (tgt := 109) C dX10_lasts_99 (by decide) ?_
          refine xr_lv [2] rfl ?_
          exact ebX10_lasts_109 C H0 q hf
def fnX10_lasts_48b (rec48 : Mem → Int32 → Int32 → Option (Int32 × Mem)) (I0 : Mem) (l1 : Int32) (l2 : Int32) : Option (Int32 × Mem) :=
  if l1 = 0 then (fnX10_lasts_62 rec48 I0 l1 l2 l2 500) else (fnX10_lasts_62 rec48 I0 l1 l2 l2 400)
def fnX10_lasts_48 : Nat → Mem → Int32 → Int32 → Option (Int32 × Mem)
  | 0 => fun _ _ _ => none
  | fu + 1 => fnX10_lasts_48b (fnX10_lasts_48 fu)
set_option maxRecDepth 20000 in
set_option maxHeartbeats 2000000 in
theorem ebX10_lasts_48b {g : Cfg} (C : Cx g RX10 cX10_lasts 3 4 91 0 0) {h : Shp} (H0 : MAt h) {r1 : Int32} {o1 : Mem} {rec48 : Mem → Int32 → Int32 → Option (Int32 × Mem)} (q : QI g (some Jvm.ClassFile.FieldType.int) 0 0 r1 (o1, h)) (ih48 : ∀ (I0 : Mem) (l1 : Int32) (l2 : Int32), rec48 I0 l1 l2 = some (r1, o1) → XE g 0 0 (I0, h) 48 [(0, rf g 111), (1, .int l1), (2, .int l2)] []) {I0 : Mem} {l1 : Int32} {l2 : Int32} (hf : fnX10_lasts_48b rec48 I0 l1 l2 = some (r1, o1)) : XE g 0 0 (I0, h) 48 [(0, rf g 111), (1, .int l1), (2, .int l2)] [] := by
  unfold fnX10_lasts_48b at hf
  refine xr_iload_n C dX10_lasts_48 2 rfl rfl ?_
  refine xr_iload_n C dX10_lasts_49 1 rfl rfl ?_
  refine xr_if_ne (tgt := 59) C dX10_lasts_50 (by decide) hf (fun c1 hf => ?_) (fun c1 hf => ?_)
  · refine xr_sipush (v := 400) C dX10_lasts_59 (by decide) ?_
    exact ebX10_lasts_62 C H0 ih48 q hf
  · refine xr_sipush (v := 500) C dX10_lasts_53 (by decide) ?_
    refine xr_goto (tgt := 62) C dX10_lasts_56 (by decide) ?_
    exact ebX10_lasts_62 C H0 ih48 q hf
theorem ebX10_lasts_48 {g : Cfg} (C : Cx g RX10 cX10_lasts 3 4 91 0 0) {h : Shp} (H0 : MAt h) {r1 : Int32} {o1 : Mem} (q : QI g (some Jvm.ClassFile.FieldType.int) 0 0 r1 (o1, h)) : ∀ (fu : Nat) {I0 : Mem} {l1 : Int32} {l2 : Int32} (hf : fnX10_lasts_48 fu I0 l1 l2 = some (r1, o1)), XE g 0 0 (I0, h) 48 [(0, rf g 111), (1, .int l1), (2, .int l2)] [] := by
  intro fu
  induction fu with
  | zero =>
    intro I0 l1 l2 hf
    cases hf
  | succ fu ihn =>
    intro I0 l1 l2 hf
    exact ebX10_lasts_48b C H0 q (fun _ _ _ hf => ihn hf) hf
def fnX10_lasts (I0 : Mem) (p1 : Int32) : Option (Int32 × Mem) :=
  ck (inb 0 164) <| if (I0 112 (ix 0)) = 0 then (some ((-1000002), I0)) else (ob (fnX10_in I0 (p1.toInt64) 0 1) fun ⟨r5, I4⟩ => if r5 = 0 then (some ((-1000001), I4)) else (ck (inb 29 164) <| if (I4 112 (ix 29)) = 1 then (some ((-1000002), I4)) else (ob (fnX10_copyRow I4 0 123) fun I10 => fnX10_lasts_48 FU I10 p1 1)))
set_option maxRecDepth 20000 in
set_option maxHeartbeats 2000000 in
theorem ebX10_lasts_0 {g : Cfg} (C : Cx g RX10 cX10_lasts 3 4 91 0 0) {h : Shp} (H0 : MAt h) {r1 : Int32} {o1 : Mem} (q : QI g (some Jvm.ClassFile.FieldType.int) 0 0 r1 (o1, h)) {I0 : Mem} {p1 : Int32} (hf : fnX10_lasts I0 p1 = some (r1, o1)) : XE g 0 0 (I0, h) 0 [(0, rf g 111), (1, .int p1)] [] := by
  unfold fnX10_lasts at hf
  refine xr_aload_n C dX10_lasts_0 0 rfl rfl ?_
  refine xr_getr C Kd10 (k := 0) (by decide) rfl wk_821 rfl H0.1 H0.2.1.1 dX10_lasts_1 ?_
  refine xr_iconst (v := 0) C dX10_lasts_4 (by decide) ?_
  obtain ⟨i1, hf⟩ := ck_x hf
  refine xr_iald C H0.2.1.2 i1 dX10_lasts_5 ?_
  refine xr_if_ne (tgt := 12) C dX10_lasts_6 (by decide) hf (fun c2 hf => ?_) (fun c2 hf => ?_)
  · refine xr_iload_n C dX10_lasts_12 1 rfl rfl ?_
    refine xr_i2l C dX10_lasts_13 ?_
    refine xr_lconst (v := 0) C dX10_lasts_14 (by decide) ?_
    refine xr_lconst (v := 1) C dX10_lasts_15 (by decide) ?_
    obtain ⟨⟨r5, I4⟩, h3, hf⟩ := ob_x hf
    refine xr_callSI C [.long (p1.toInt64), .long 0, .long 1] lkX10_48 (kX10_in h3) rfl (Nat.le_of_ble_eq_true rfl) rfl dX10_lasts_16 ⟨by decide, by decide, by decide⟩ rfl ?_
    refine xr_if_ne (tgt := 25) C dX10_lasts_19 (by decide) hf (fun c6 hf => ?_) (fun c6 hf => ?_)
    · refine xr_aload_n C dX10_lasts_25 0 rfl rfl ?_
      refine xr_getr C Kd10 (k := 0) (by decide) rfl wk_821 rfl H0.1 H0.2.1.1 dX10_lasts_26 ?_
      refine xr_bipush (v := 29) C dX10_lasts_29 (by decide) ?_
      obtain ⟨i7, hf⟩ := ck_x hf
      refine xr_iald C H0.2.1.2 i7 dX10_lasts_31 ?_
      refine xr_iconst (v := 1) C dX10_lasts_32 (by decide) ?_
      refine xr_icmp_ne (tgt := 39) C dX10_lasts_33 (by decide) hf (fun c8 hf => ?_) (fun c8 hf => ?_)
      · refine xr_aload_n C dX10_lasts_39 0 rfl rfl ?_
        refine xr_iconst (v := 0) C dX10_lasts_40 (by decide) ?_
        refine xr_bipush (v := 123) C dX10_lasts_41 (by decide) ?_
        obtain ⟨I10, h9, hf⟩ := ob_x hf
        refine xr_callVV C [.int 0, .int 123] lkX10_199 (kX10_copyRow H0 h9) Kd10 rfl H0.1 rfl (Nat.le_of_ble_eq_true rfl) rfl dX10_lasts_43 ⟨by decide, by decide, by decide⟩ rfl ?_
        refine xr_iconst (v := 1) C dX10_lasts_46 (by decide) ?_
        refine xr_istore_n C dX10_lasts_47 rfl (by decide) rfl ?_
        refine xr_lv [1, 2, 0] rfl ?_
        exact ebX10_lasts_48 C H0 q _ hf
      · refine xr_ldc C wk_1011 dX10_lasts_36 ?_
        exact xr_ireturn C q rfl rfl dX10_lasts_38 (so_1 hf) (so_w hf)
    · refine xr_ldc C wk_900 dX10_lasts_22 ?_
      exact xr_ireturn C q rfl rfl dX10_lasts_24 (so_1 hf) (so_w hf)
  · refine xr_ldc C wk_1011 dX10_lasts_9 ?_
    exact xr_ireturn C q rfl rfl dX10_lasts_11 (so_1 hf) (so_w hf)
theorem kX10_lasts {B : Bs} {h : Shp} (H0 : MAt h) {I0 : Mem} {p1 : Int32} {r1 : Int32} {o1 : Mem} (hf : fnX10_lasts I0 p1 = some (r1, o1)) : CtrI B yX10_lasts cX10_lasts 3 (some Jvm.ClassFile.FieldType.int) 4 91 0 0 [rfB B 111, .int p1] (I0, h) r1 (o1, h) := by
  refine xr_enterI (lv0 := [(0, rfB B 111), (1, .int p1)]) (by decide) (Nat.le_of_ble_eq_true rfl) rfl (fun g hg C q => ?_)
  subst hg
  exact ebX10_lasts_0 C H0 q hf
