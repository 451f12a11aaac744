theorem dX10_readsLaw_0 : decode cX10_readsLaw 0 = .ok (.aload_n 0, 1) := by decide +kernel
theorem dX10_readsLaw_1 : decode cX10_readsLaw 1 = .ok (.sipush 23596, 3) := by decide +kernel
theorem dX10_readsLaw_4 : decode cX10_readsLaw 4 = .ok (.iconst 3, 1) := by decide +kernel
theorem dX10_readsLaw_5 : decode cX10_readsLaw 5 = .ok (.invokevirtual 92, 3) := by decide +kernel
theorem dX10_readsLaw_8 : decode cX10_readsLaw 8 = .ok (.ifCond .ne 10, 3) := by decide +kernel
theorem dX10_readsLaw_11 : decode cX10_readsLaw 11 = .ok (.aload_n 0, 1) := by decide +kernel
theorem dX10_readsLaw_12 : decode cX10_readsLaw 12 = .ok (.iconst 1, 1) := by decide +kernel
theorem dX10_readsLaw_13 : decode cX10_readsLaw 13 = .ok (.putfield 103, 3) := by decide +kernel
theorem dX10_readsLaw_16 : decode cX10_readsLaw 16 = .ok (.iconst 0, 1) := by decide +kernel
theorem dX10_readsLaw_17 : decode cX10_readsLaw 17 = .ok (.ireturn, 1) := by decide +kernel
theorem dX10_readsLaw_18 : decode cX10_readsLaw 18 = .ok (.aload_n 0, 1) := by decide +kernel
theorem dX10_readsLaw_19 : decode cX10_readsLaw 19 = .ok (.invokevirtual 110, 3) := by decide +kernel
theorem dX10_readsLaw_22 : decode cX10_readsLaw 22 = .ok (.aload_n 0, 1) := by decide +kernel
theorem dX10_readsLaw_23 : decode cX10_readsLaw 23 = .ok (.aload_n 0, 1) := by decide +kernel
theorem dX10_readsLaw_24 : decode cX10_readsLaw 24 = .ok (.iconst 1, 1) := by decide +kernel
theorem dX10_readsLaw_25 : decode cX10_readsLaw 25 = .ok (.bipush 20, 2) := by decide +kernel
theorem dX10_readsLaw_27 : decode cX10_readsLaw 27 = .ok (.invokevirtual 119, 3) := by decide +kernel
theorem dX10_readsLaw_30 : decode cX10_readsLaw 30 = .ok (.putfield 125, 3) := by decide +kernel
theorem dX10_readsLaw_33 : decode cX10_readsLaw 33 = .ok (.aload_n 0, 1) := by decide +kernel
theorem dX10_readsLaw_34 : decode cX10_readsLaw 34 = .ok (.getfield 125, 3) := by decide +kernel
theorem dX10_readsLaw_37 : decode cX10_readsLaw 37 = .ok (.ldc 19, 2) := by decide +kernel
theorem dX10_readsLaw_39 : decode cX10_readsLaw 39 = .ok (.if_icmp .eq 14, 3) := by decide +kernel
theorem dX10_readsLaw_42 : decode cX10_readsLaw 42 = .ok (.aload_n 0, 1) := by decide +kernel
theorem dX10_readsLaw_43 : decode cX10_readsLaw 43 = .ok (.invokevirtual 128, 3) := by decide +kernel
theorem dX10_readsLaw_46 : decode cX10_readsLaw 46 = .ok (.ifCond .eq 7, 3) := by decide +kernel
theorem dX10_readsLaw_49 : decode cX10_readsLaw 49 = .ok (.iconst 1, 1) := by decide +kernel
theorem dX10_readsLaw_50 : decode cX10_readsLaw 50 = .ok (.goto 4, 3) := by decide +kernel
theorem dX10_readsLaw_53 : decode cX10_readsLaw 53 = .ok (.iconst 0, 1) := by decide +kernel
theorem dX10_readsLaw_54 : decode cX10_readsLaw 54 = .ok (.ireturn, 1) := by decide +kernel
theorem lkX10_128 : LkV "BumperBallsModel" 128 yX10_readsSign cX10_readsSign 1 (some Jvm.ClassFile.FieldType.boolean) 0 := ⟨wk_967, wk_11, wk_966, wk_s71, ⟨by decide +kernel, by decide +kernel, by decide +kernel⟩, wk_964⟩
/-! BumperBallsModel.readsLaw()Z -/
def fnX10_readsLaw_54 (I0 : Mem) (t0 : Int32) : Option (Int32 × Mem) :=
  ck (zb t0) <| some (t0, I0)
set_option maxRecDepth 20000 in
set_option maxHeartbeats 2000000 in
theorem ebX10_readsLaw_54 {g : Cfg} (C : Cx g RX10 cX10_readsLaw 1 3 72 0 0) {h : Shp} (H0 : MAt h) {r1 : Int32} {o1 : Mem} (q : QI g (some Jvm.ClassFile.FieldType.boolean) 0 0 r1 (o1, h)) {I0 : Mem} {t0 : Int32} (hf : fnX10_readsLaw_54 I0 t0 = some (r1, o1)) : XE g 0 0 (I0, h) 54 [] [.int t0] := by
  unfold fnX10_readsLaw_54 at hf
  obtain ⟨z1, hf⟩ := ck_x hf
  exact xr_ireturn C q rfl (zb_ok z1).1 dX10_readsLaw_54 (so_1 hf) (so_w hf)
def fnX10_readsLaw_53 (I0 : Mem) : Option (Int32 × Mem) :=
  fnX10_readsLaw_54 I0 0
set_option maxRecDepth 20000 in
set_option maxHeartbeats 2000000 in
theorem ebX10_readsLaw_53 {g : Cfg} (C : Cx g RX10 cX10_readsLaw 1 3 72 0 0) {h : Shp} (H0 : MAt h) {r1 : Int32} {o1 : Mem} (q : QI g (some Jvm.ClassFile.FieldType.boolean) 0 0 r1 (o1, h)) {I0 : Mem} (hf : fnX10_readsLaw_53 I0 = some (r1, o1)) : XE g 0 0 (I0, h) 53 [] [] := by
  unfold fnX10_readsLaw_53 at hf
  refine xr_iconst (v := 0) C dX10_readsLaw_53 (by decide) ?_
  exact ebX10_readsLaw_54 C H0 q hf
def fnX10_readsLaw (I0 : Mem) : Option (Int32 × Mem) :=
  ob (fnX10_isWord I0 23596 3) fun ⟨r3, I2⟩ => if r3 = 0 then (bnd (up2 I2 111 5 1) fun I16 => some (0, I16)) else (ob (fnX10_token I2) fun I6 => ob (fnX10_number I6 1 20) fun ⟨r9, I8⟩ => bnd (up2 I8 111 15 r9) fun I10 => if (I10 111 15) = (-1000000) then (fnX10_readsLaw_53 I10) else (ob (fnX10_readsSign I10) fun ⟨r14, I13⟩ => if r14 = 0 then (fnX10_readsLaw_53 I13) else (fnX10_readsLaw_54 I13 1)))
set_option maxRecDepth 20000 in
set_option maxHeartbeats 2000000 in
theorem ebX10_readsLaw_0 {g : Cfg} (C : Cx g RX10 cX10_readsLaw 1 3 72 0 0) {h : Shp} (H0 : MAt h) {r1 : Int32} {o1 : Mem} (q : QI g (some Jvm.ClassFile.FieldType.boolean) 0 0 r1 (o1, h)) {I0 : Mem} (hf : fnX10_readsLaw I0 = some (r1, o1)) : XE g 0 0 (I0, h) 0 [(0, rf g 111)] [] := by
  unfold fnX10_readsLaw at hf
  refine xr_aload_n C dX10_readsLaw_0 0 rfl rfl ?_
  refine xr_sipush (v := 23596) C dX10_readsLaw_1 (by decide) ?_
  refine xr_iconst (v := 3) C dX10_readsLaw_4 (by decide) ?_
  obtain ⟨⟨r3, I2⟩, h1, hf⟩ := ob_x hf
  refine xr_callVI C [.int 23596, .int 3] lkX10_92 (kX10_isWord H0 h1) Kd10 rfl H0.1 rfl (Nat.le_of_ble_eq_true rfl) rfl dX10_readsLaw_5 ⟨by decide, by decide, by decide⟩ rfl ?_
  refine xr_if_ne (tgt := 18) C dX10_readsLaw_8 (by decide) hf (fun c4 hf => ?_) (fun c4 hf => ?_)
  · refine xr_aload_n C dX10_readsLaw_18 0 rfl rfl ?_
    obtain ⟨I6, h5, hf⟩ := ob_x hf
    refine xr_callVV C [] lkX10_110 (kX10_token H0 h5) Kd10 rfl H0.1 rfl (Nat.le_of_ble_eq_true rfl) rfl dX10_readsLaw_19 ⟨by decide, by decide, by decide⟩ rfl ?_
    refine xr_aload_n C dX10_readsLaw_22 0 rfl rfl ?_
    refine xr_aload_n C dX10_readsLaw_23 0 rfl rfl ?_
    refine xr_iconst (v := 1) C dX10_readsLaw_24 (by decide) ?_
    refine xr_bipush (v := 20) C dX10_readsLaw_25 (by decide) ?_
    obtain ⟨⟨r9, I8⟩, h7, hf⟩ := ob_x hf
    refine xr_callVI C [.int 1, .int 20] lkX10_119 (kX10_number H0 h7) Kd10 rfl H0.1 rfl (Nat.le_of_ble_eq_true rfl) rfl dX10_readsLaw_27 ⟨by decide, by decide, by decide⟩ rfl ?_
    obtain ⟨I10, eI10, hf⟩ := bnd_x hf
    refine xr_putI C Kd10 (k := 15) (by decide) rfl rfl wk_836 rfl rfl rfl H0.1 dX10_readsLaw_30 eI10 ?_
    refine xr_aload_n C dX10_readsLaw_33 0 rfl rfl ?_
    refine xr_geti C Kd10 (k := 15) (by decide) rfl wk_836 rfl H0.1 dX10_readsLaw_34 ?_
    refine xr_ldc C wk_820 dX10_readsLaw_37 ?_
    refine xr_icmp_eq (tgt := 53) C dX10_readsLaw_39 (by decide) hf (fun c11 hf => ?_) (fun c11 hf => ?_)
    · refine xr_lv [] rfl ?_
      exact ebX10_readsLaw_53 C H0 q hf
    · refine xr_aload_n C dX10_readsLaw_42 0 rfl rfl ?_
      obtain ⟨⟨r14, I13⟩, h12, hf⟩ := ob_x hf
      refine xr_callVI C [] lkX10_128 (kX10_readsSign H0 h12) Kd10 rfl H0.1 rfl (Nat.le_of_ble_eq_true rfl) rfl dX10_readsLaw_43 ⟨by decide, by decide, by decide⟩ rfl ?_
      refine xr_if_eq (tgt := 53) C dX10_readsLaw_46 (by decide) hf (fun c15 hf => ?_) (fun c15 hf => ?_)
      · refine xr_lv [] rfl ?_
        exact ebX10_readsLaw_53 C H0 q hf
      · refine xr_iconst (v := 1) C dX10_readsLaw_49 (by decide) ?_
        refine xr_goto (tgt := 54) C dX10_readsLaw_50 (by decide) ?_
        refine xr_lv [] rfl ?_
        exact ebX10_readsLaw_54 C H0 q hf
  · refine xr_aload_n C dX10_readsLaw_11 0 rfl rfl ?_
    refine xr_iconst (v := 1) C dX10_readsLaw_12 (by decide) ?_
    obtain ⟨I16, eI16, hf⟩ := bnd_x hf
    refine xr_putI C Kd10 (k := 5) (by decide) rfl rfl wk_826 rfl rfl rfl H0.1 dX10_readsLaw_13 eI16 ?_
    refine xr_iconst (v := 0) C dX10_readsLaw_16 (by decide) ?_
    exact xr_ireturn C q rfl rfl dX10_readsLaw_17 (so_1 hf) (so_w hf)
theorem kX10_readsLaw {B : Bs} {h : Shp} (H0 : MAt h) {I0 : Mem} {r1 : Int32} {o1 : Mem} (hf : fnX10_readsLaw I0 = some (r1, o1)) : CtrI B yX10_readsLaw cX10_readsLaw 1 (some Jvm.ClassFile.FieldType.boolean) 3 72 0 0 [rfB B 111] (I0, h) r1 (o1, h) := by
  refine xr_enterI (lv0 := [(0, rfB B 111)]) (by decide) (Nat.le_of_ble_eq_true rfl) rfl (fun g hg C q => ?_)
  subst hg
  exact ebX10_readsLaw_0 C H0 q hf
theorem dX10_readsPin_0 : decode cX10_readsPin 0 = .ok (.aload_n 0, 1) := by decide +kernel
theorem dX10_readsPin_1 : decode cX10_readsPin 1 = .ok (.getfield 116, 3) := by decide +kernel
theorem dX10_readsPin_4 : decode cX10_readsPin 4 = .ok (.bipush 6, 2) := by decide +kernel
theorem dX10_readsPin_6 : decode cX10_readsPin 6 = .ok (.if_icmp .ne 10, 3) := by decide +kernel
theorem dX10_readsPin_9 : decode cX10_readsPin 9 = .ok (.aload_n 0, 1) := by decide +kernel
theorem dX10_readsPin_10 : decode cX10_readsPin 10 = .ok (.iconst 3, 1) := by decide +kernel
theorem dX10_readsPin_11 : decode cX10_readsPin 11 = .ok (.putfield 103, 3) := by decide +kernel
theorem dX10_readsPin_14 : decode cX10_readsPin 14 = .ok (.iconst 0, 1) := by decide +kernel
theorem dX10_readsPin_15 : decode cX10_readsPin 15 = .ok (.ireturn, 1) := by decide +kernel
theorem dX10_readsPin_16 : decode cX10_readsPin 16 = .ok (.aload_n 0, 1) := by decide +kernel
theorem dX10_readsPin_17 : decode cX10_readsPin 17 = .ok (.invokevirtual 110, 3) := by decide +kernel
theorem dX10_readsPin_20 : decode cX10_readsPin 20 = .ok (.aload_n 0, 1) := by decide +kernel
theorem dX10_readsPin_21 : decode cX10_readsPin 21 = .ok (.invokevirtual 131, 3) := by decide +kernel
theorem dX10_readsPin_24 : decode cX10_readsPin 24 = .ok (.istore_n 1, 1) := by decide +kernel
theorem dX10_readsPin_25 : decode cX10_readsPin 25 = .ok (.iload_n 1, 1) := by decide +kernel
theorem dX10_readsPin_26 : decode cX10_readsPin 26 = .ok (.ldc 19, 2) := by decide +kernel
theorem dX10_readsPin_28 : decode cX10_readsPin 28 = .ok (.if_icmp .ne 10, 3) := by decide +kernel
theorem dX10_readsPin_31 : decode cX10_readsPin 31 = .ok (.aload_n 0, 1) := by decide +kernel
theorem dX10_readsPin_32 : decode cX10_readsPin 32 = .ok (.iconst 1, 1) := by decide +kernel
theorem dX10_readsPin_33 : decode cX10_readsPin 33 = .ok (.putfield 103, 3) := by decide +kernel
theorem dX10_readsPin_36 : decode cX10_readsPin 36 = .ok (.iconst 0, 1) := by decide +kernel
theorem dX10_readsPin_37 : decode cX10_readsPin 37 = .ok (.ireturn, 1) := by decide +kernel
theorem dX10_readsPin_38 : decode cX10_readsPin 38 = .ok (.aload_n 0, 1) := by decide +kernel
theorem dX10_readsPin_39 : decode cX10_readsPin 39 = .ok (.invokevirtual 110, 3) := by decide +kernel
theorem dX10_readsPin_42 : decode cX10_readsPin 42 = .ok (.aload_n 0, 1) := by decide +kernel
theorem dX10_readsPin_43 : decode cX10_readsPin 43 = .ok (.invokevirtual 135, 3) := by decide +kernel
theorem dX10_readsPin_46 : decode cX10_readsPin 46 = .ok (.istore_n 2, 1) := by decide +kernel
theorem dX10_readsPin_47 : decode cX10_readsPin 47 = .ok (.iload_n 2, 1) := by decide +kernel
theorem dX10_readsPin_48 : decode cX10_readsPin 48 = .ok (.ldc 19, 2) := by decide +kernel
theorem dX10_readsPin_50 : decode cX10_readsPin 50 = .ok (.if_icmp .ne 8, 3) := by decide +kernel
theorem dX10_readsPin_53 : decode cX10_readsPin 53 = .ok (.ldc 19, 2) := by decide +kernel
theorem dX10_readsPin_55 : decode cX10_readsPin 55 = .ok (.goto 10, 3) := by decide +kernel
theorem dX10_readsPin_58 : decode cX10_readsPin 58 = .ok (.aload_n 0, 1) := by decide +kernel
theorem dX10_readsPin_59 : decode cX10_readsPin 59 = .ok (.iconst 0, 1) := by decide +kernel
theorem dX10_readsPin_60 : decode cX10_readsPin 60 = .ok (.bipush 7, 2) := by decide +kernel
theorem dX10_readsPin_62 : decode cX10_readsPin 62 = .ok (.invokevirtual 119, 3) := by decide +kernel
theorem dX10_readsPin_65 : decode cX10_readsPin 65 = .ok (.istore_n 3, 1) := by decide +kernel
theorem dX10_readsPin_66 : decode cX10_readsPin 66 = .ok (.iload_n 3, 1) := by decide +kernel
theorem dX10_readsPin_67 : decode cX10_readsPin 67 = .ok (.ldc 19, 2) := by decide +kernel
theorem dX10_readsPin_69 : decode cX10_readsPin 69 = .ok (.if_icmp .ne 8, 3) := by decide +kernel
theorem dX10_readsPin_72 : decode cX10_readsPin 72 = .ok (.ldc 19, 2) := by decide +kernel
theorem dX10_readsPin_74 : decode cX10_readsPin 74 = .ok (.goto 10, 3) := by decide +kernel
theorem dX10_readsPin_77 : decode cX10_readsPin 77 = .ok (.aload_n 0, 1) := by decide +kernel
theorem dX10_readsPin_78 : decode cX10_readsPin 78 = .ok (.iconst 0, 1) := by decide +kernel
theorem dX10_readsPin_79 : decode cX10_readsPin 79 = .ok (.bipush 99, 2) := by decide +kernel
theorem dX10_readsPin_81 : decode cX10_readsPin 81 = .ok (.invokevirtual 119, 3) := by decide +kernel
theorem dX10_readsPin_84 : decode cX10_readsPin 84 = .ok (.istore 4, 2) := by decide +kernel
theorem dX10_readsPin_86 : decode cX10_readsPin 86 = .ok (.iload 4, 2) := by decide +kernel
theorem dX10_readsPin_88 : decode cX10_readsPin 88 = .ok (.ldc 19, 2) := by decide +kernel
theorem dX10_readsPin_90 : decode cX10_readsPin 90 = .ok (.if_icmp .ne 5, 3) := by decide +kernel
theorem dX10_readsPin_93 : decode cX10_readsPin 93 = .ok (.iconst 0, 1) := by decide +kernel
theorem dX10_readsPin_94 : decode cX10_readsPin 94 = .ok (.ireturn, 1) := by decide +kernel
theorem dX10_readsPin_95 : decode cX10_readsPin 95 = .ok (.aload_n 0, 1) := by decide +kernel
theorem dX10_readsPin_96 : decode cX10_readsPin 96 = .ok (.getfield 32, 3) := by decide +kernel
theorem dX10_readsPin_99 : decode cX10_readsPin 99 = .ok (.iconst 4, 1) := by decide +kernel
theorem dX10_readsPin_100 : decode cX10_readsPin 100 = .ok (.aload_n 0, 1) := by decide +kernel
theorem dX10_readsPin_101 : decode cX10_readsPin 101 = .ok (.getfield 116, 3) := by decide +kernel
theorem dX10_readsPin_104 : decode cX10_readsPin 104 = .ok (.imul, 1) := by decide +kernel
theorem dX10_readsPin_105 : decode cX10_readsPin 105 = .ok (.iload_n 1, 1) := by decide +kernel
theorem dX10_readsPin_106 : decode cX10_readsPin 106 = .ok (.iastore, 1) := by decide +kernel
theorem dX10_readsPin_107 : decode cX10_readsPin 107 = .ok (.aload_n 0, 1) := by decide +kernel
theorem dX10_readsPin_108 : decode cX10_readsPin 108 = .ok (.getfield 32, 3) := by decide +kernel
theorem dX10_readsPin_111 : decode cX10_readsPin 111 = .ok (.iconst 4, 1) := by decide +kernel
theorem dX10_readsPin_112 : decode cX10_readsPin 112 = .ok (.aload_n 0, 1) := by decide +kernel
theorem dX10_readsPin_113 : decode cX10_readsPin 113 = .ok (.getfield 116, 3) := by decide +kernel
theorem dX10_readsPin_116 : decode cX10_readsPin 116 = .ok (.imul, 1) := by decide +kernel
theorem dX10_readsPin_117 : decode cX10_readsPin 117 = .ok (.iconst 1, 1) := by decide +kernel
theorem dX10_readsPin_118 : decode cX10_readsPin 118 = .ok (.iadd, 1) := by decide +kernel
theorem dX10_readsPin_119 : decode cX10_readsPin 119 = .ok (.iload_n 2, 1) := by decide +kernel
theorem dX10_readsPin_120 : decode cX10_readsPin 120 = .ok (.iastore, 1) := by decide +kernel
theorem dX10_readsPin_121 : decode cX10_readsPin 121 = .ok (.aload_n 0, 1) := by decide +kernel
theorem dX10_readsPin_122 : decode cX10_readsPin 122 = .ok (.getfield 32, 3) := by decide +kernel
theorem dX10_readsPin_125 : decode cX10_readsPin 125 = .ok (.iconst 4, 1) := by decide +kernel
theorem dX10_readsPin_126 : decode cX10_readsPin 126 = .ok (.aload_n 0, 1) := by decide +kernel
theorem dX10_readsPin_127 : decode cX10_readsPin 127 = .ok (.getfield 116, 3) := by decide +kernel
theorem dX10_readsPin_130 : decode cX10_readsPin 130 = .ok (.imul, 1) := by decide +kernel
theorem dX10_readsPin_131 : decode cX10_readsPin 131 = .ok (.iconst 2, 1) := by decide +kernel
theorem dX10_readsPin_132 : decode cX10_readsPin 132 = .ok (.iadd, 1) := by decide +kernel
theorem dX10_readsPin_133 : decode cX10_readsPin 133 = .ok (.iload_n 3, 1) := by decide +kernel
theorem dX10_readsPin_134 : decode cX10_readsPin 134 = .ok (.iastore, 1) := by decide +kernel
theorem dX10_readsPin_135 : decode cX10_readsPin 135 = .ok (.aload_n 0, 1) := by decide +kernel
theorem dX10_readsPin_136 : decode cX10_readsPin 136 = .ok (.getfield 32, 3) := by decide +kernel
theorem dX10_readsPin_139 : decode cX10_readsPin 139 = .ok (.iconst 4, 1) := by decide +kernel
theorem dX10_readsPin_140 : decode cX10_readsPin 140 = .ok (.aload_n 0, 1) := by decide +kernel
theorem dX10_readsPin_141 : decode cX10_readsPin 141 = .ok (.getfield 116, 3) := by decide +kernel
theorem dX10_readsPin_144 : decode cX10_readsPin 144 = .ok (.imul, 1) := by decide +kernel
theorem dX10_readsPin_145 : decode cX10_readsPin 145 = .ok (.iconst 3, 1) := by decide +kernel
theorem dX10_readsPin_146 : decode cX10_readsPin 146 = .ok (.iadd, 1) := by decide +kernel
theorem dX10_readsPin_147 : decode cX10_readsPin 147 = .ok (.iload 4, 2) := by decide +kernel
theorem dX10_readsPin_149 : decode cX10_readsPin 149 = .ok (.iastore, 1) := by decide +kernel
theorem dX10_readsPin_150 : decode cX10_readsPin 150 = .ok (.aload_n 0, 1) := by decide +kernel
theorem dX10_readsPin_151 : decode cX10_readsPin 151 = .ok (.dup, 1) := by decide +kernel
theorem dX10_readsPin_152 : decode cX10_readsPin 152 = .ok (.getfield 116, 3) := by decide +kernel
theorem dX10_readsPin_155 : decode cX10_readsPin 155 = .ok (.iconst 1, 1) := by decide +kernel
theorem dX10_readsPin_156 : decode cX10_readsPin 156 = .ok (.iadd, 1) := by decide +kernel
theorem dX10_readsPin_157 : decode cX10_readsPin 157 = .ok (.putfield 116, 3) := by decide +kernel
theorem dX10_readsPin_160 : decode cX10_readsPin 160 = .ok (.aload_n 0, 1) := by decide +kernel
theorem dX10_readsPin_161 : decode cX10_readsPin 161 = .ok (.invokevirtual 128, 3) := by decide +kernel
theorem dX10_readsPin_164 : decode cX10_readsPin 164 = .ok (.ireturn, 1) := by decide +kernel
theorem lkX10_131 : LkV "BumperBallsModel" 131 yX10_sortOfWord cX10_sortOfWord 1 (some Jvm.ClassFile.FieldType.int) 0 := ⟨wk_979, wk_11, wk_978, wk_s74, ⟨by decide +kernel, by decide +kernel, by decide +kernel⟩, wk_976⟩
theorem lkX10_135 : LkV "BumperBallsModel" 135 yX10_cell cX10_cell 3 (some Jvm.ClassFile.FieldType.int) 0 := ⟨wk_992, wk_11, wk_991, wk_s76, ⟨by decide +kernel, by decide +kernel, by decide +kernel⟩, wk_989⟩
/-! BumperBallsModel.readsPin()Z -/
def fnX10_readsPin_84 (I0 : Mem) (l1 : Int32) (l2 : Int32) (l3 : Int32) (t0 : Int32) : Option (Int32 × Mem) :=
  if t0 = (-1000000) then (some (0, I0)) else (ck (inb ((4 : Int32) * (I0 111 17)) 24) <| bnd (up2 I0 119 (ix ((4 : Int32) * (I0 111 17))) l1) fun I3 => ck (inb (((4 : Int32) * (I3 111 17)) + 1) 24) <| bnd (up2 I3 119 (ix (((4 : Int32) * (I3 111 17)) + 1)) l2) fun I5 => ck (inb (((4 : Int32) * (I5 111 17)) + 2) 24) <| bnd (up2 I5 119 (ix (((4 : Int32) * (I5 111 17)) + 2)) l3) fun I7 => ck (inb (((4 : Int32) * (I7 111 17)) + 3) 24) <| bnd (up2 I7 119 (ix (((4 : Int32) * (I7 111 17)) + 3)) t0) fun I9 => bnd (up2 I9 111 17 ((I9 111 17) + 1)) fun I10 => ob (fnX10_readsSign I10) fun ⟨r13, I12⟩ => ck (zb r13) <| some (r13, I12))
set_option maxRecDepth 20000 in
set_option maxHeartbeats 2000000 in
theorem ebX10_readsPin_84 {g : Cfg} (C : Cx g RX10 cX10_readsPin 5 4 94 0 0) {h : Shp} (H0 : MAt h) {r1 : Int32} {o1 : Mem} (q : QI g (some Jvm.ClassFile.FieldType.boolean) 0 0 r1 (o1, h)) {I0 : Mem} {l1 : Int32} {l2 : Int32} {l3 : Int32} {t0 : Int32} (hf : fnX10_readsPin_84 I0 l1 l2 l3 t0 = some (r1, o1)) : XE g 0 0 (I0, h) 84 [(0, rf g 111), (1, .int l1), (2, .int l2), (3, .int l3)] [.int t0] := by
  unfold fnX10_readsPin_84 at hf
  refine xr_istore C dX10_readsPin_84 (by decide) rfl ?_
  refine xr_iload C dX10_readsPin_86 0 rfl ?_
  refine xr_ldc C wk_820 dX10_readsPin_88 ?_
  refine xr_icmp_ne (tgt := 95) C dX10_readsPin_90 (by decide) hf (fun c1 hf => ?_) (fun c1 hf => ?_)
  · refine xr_aload_n C dX10_readsPin_95 1 rfl rfl ?_
    refine xr_getr C Kd10 (k := 16) (by decide) rfl wk_837 rfl H0.1 H0.2.2.2.2.2.2.2.2.1.1 dX10_readsPin_96 ?_
    refine xr_iconst (v := 4) C dX10_readsPin_99 (by decide) ?_
    refine xr_aload_n C dX10_readsPin_100 1 rfl rfl ?_
    refine xr_geti C Kd10 (k := 17) (by decide) rfl wk_838 rfl H0.1 dX10_readsPin_101 ?_
    refine xr_imul C dX10_readsPin_104 ?_
    refine xr_iload_n C dX10_readsPin_105 2 rfl rfl ?_
    obtain ⟨i2, hf⟩ := ck_x hf
    obtain ⟨I3, eI3, hf⟩ := bnd_x hf
    refine xr_iast C H0.2.2.2.2.2.2.2.2.1.2 i2 dX10_readsPin_106 eI3 ?_
    refine xr_aload_n C dX10_readsPin_107 1 rfl rfl ?_
    refine xr_getr C Kd10 (k := 16) (by decide) rfl wk_837 rfl H0.1 H0.2.2.2.2.2.2.2.2.1.1 dX10_readsPin_108 ?_
    refine xr_iconst (v := 4) C dX10_readsPin_111 (by decide) ?_
    refine xr_aload_n C dX10_readsPin_112 1 rfl rfl ?_
    refine xr_geti C Kd10 (k := 17) (by decide) rfl wk_838 rfl H0.1 dX10_readsPin_113 ?_
    refine xr_imul C dX10_readsPin_116 ?_
    refine xr_iconst (v := 1) C dX10_readsPin_117 (by decide) ?_
    refine xr_iadd C dX10_readsPin_118 ?_
    refine xr_iload_n C dX10_readsPin_119 3 rfl rfl ?_
    obtain ⟨i4, hf⟩ := ck_x hf
    obtain ⟨I5, eI5, hf⟩ := bnd_x hf
    refine xr_iast C H0.2.2.2.2.2.2.2.2.1.2 i4 dX10_readsPin_120 eI5 ?_
    refine xr_aload_n C dX10_readsPin_121 1 rfl rfl ?_
    refine xr_getr C Kd10 (k := 16) (by decide) rfl wk_837 rfl H0.1 H0.2.2.2.2.2.2.2.2.1.1 dX10_readsPin_122 ?_
    refine xr_iconst (v := 4) C dX10_readsPin_125 (by decide) ?_
    refine xr_aload_n C dX10_readsPin_126 1 rfl rfl ?_
    refine xr_geti C Kd10 (k := 17) (by decide) rfl wk_838 rfl H0.1 dX10_readsPin_127 ?_
    refine xr_imul C dX10_readsPin_130 ?_
    refine xr_iconst (v := 2) C dX10_readsPin_131 (by decide) ?_
    refine xr_iadd C dX10_readsPin_132 ?_
    refine xr_iload_n C dX10_readsPin_133 4 rfl rfl ?_
    obtain ⟨i6, hf⟩ := ck_x hf
    obtain ⟨I7, eI7, hf⟩ := bnd_x hf
    refine xr_iast C H0.2.2.2.2.2.2.2.2.1.2 i6 dX10_readsPin_134 eI7 ?_
    refine xr_aload_n C dX10_readsPin_135 1 rfl rfl ?_
    refine xr_getr C Kd10 (k := 16) (by decide) rfl wk_837 rfl H0.1 H0.2.2.2.2.2.2.2.2.1.1 dX10_readsPin_136 ?_
    refine xr_iconst (v := 4) C dX10_readsPin_139 (by decide) ?_
    refine xr_aload_n C dX10_readsPin_140 1 rfl rfl ?_
    refine xr_geti C Kd10 (k := 17) (by decide) rfl wk_838 rfl H0.1 dX10_readsPin_141 ?_
    refine xr_imul C dX10_readsPin_144 ?_
    refine xr_iconst (v := 3) C dX10_readsPin_145 (by decide) ?_
    refine xr_iadd C dX10_readsPin_146 ?_
    refine xr_iload C dX10_readsPin_147 0 rfl ?_
    obtain ⟨i8, hf⟩ := ck_x hf
    obtain ⟨I9, eI9, hf⟩ := bnd_x hf
    refine xr_iast C H0.2.2.2.2.2.2.2.2.1.2 i8 dX10_readsPin_149 eI9 ?_
    refine xr_aload_n C dX10_readsPin_150 1 rfl rfl ?_
    refine xr_dup C dX10_readsPin_151 rfl ?_
    refine xr_geti C Kd10 (k := 17) (by decide) rfl wk_838 rfl H0.1 dX10_readsPin_152 ?_
    refine xr_iconst (v := 1) C dX10_readsPin_155 (by decide) ?_
    refine xr_iadd C dX10_readsPin_156 ?_
    obtain ⟨I10, eI10, hf⟩ := bnd_x hf
    refine xr_putI C Kd10 (k := 17) (by decide) rfl rfl wk_838 rfl rfl rfl H0.1 dX10_readsPin_157 eI10 ?_
    refine xr_aload_n C dX10_readsPin_160 1 rfl rfl ?_
    obtain ⟨⟨r13, I12⟩, h11, hf⟩ := ob_x hf
    refine xr_callVI C [] lkX10_128 (kX10_readsSign H0 h11) Kd10 rfl H0.1 rfl (Nat.le_of_ble_eq_true rfl) rfl dX10_readsPin_161 ⟨by decide, by decide, by decide⟩ rfl ?_
    obtain ⟨z14, hf⟩ := ck_x hf
    exact xr_ireturn C q rfl (zb_ok z14).1 dX10_readsPin_164 (so_1 hf) (so_w hf)
  · refine xr_iconst (v := 0) C dX10_readsPin_93 (by decide) ?_
    exact xr_ireturn C q rfl rfl dX10_readsPin_94 (so_1 hf) (so_w hf)
def fnX10_readsPin_65 (I0 : Mem) (l1 : Int32) (l2 : Int32) (t0 : Int32) : Option (Int32 × Mem) :=
  if t0 = (-1000000) then (fnX10_readsPin_84 I0 l1 l2 t0 (-1000000)) else (ob (fnX10_number I0 0 99) fun ⟨r4, I3⟩ => fnX10_readsPin_84 I3 l1 l2 t0 r4)
set_option maxRecDepth 20000 in
set_option maxHeartbeats 2000000 in
theorem ebX10_readsPin_65 {g : Cfg} (C : Cx g RX10 cX10_readsPin 5 4 94 0 0) {h : Shp} (H0 : MAt h) {r1 : Int32} {o1 : Mem} (q : QI g (some Jvm.ClassFile.FieldType.boolean) 0 0 r1 (o1, h)) {I0 : Mem} {l1 : Int32} {l2 : Int32} {t0 : Int32} (hf : fnX10_readsPin_65 I0 l1 l2 t0 = some (r1, o1)) : XE g 0 0 (I0, h) 65 [(0, rf g 111), (1, .int l1), (2, .int l2)] [.int t0] := by
  unfold fnX10_readsPin_65 at hf
  refine xr_istore_n C dX10_readsPin_65 rfl (by decide) rfl ?_
  refine xr_iload_n C dX10_readsPin_66 0 rfl rfl ?_
  refine xr_ldc C wk_820 dX10_readsPin_67 ?_
  refine xr_icmp_ne (tgt := 77) C dX10_readsPin_69 (by decide) hf (fun c1 hf => ?_) (fun c1 hf => ?_)
  · refine xr_aload_n C dX10_readsPin_77 1 rfl rfl ?_
    refine xr_iconst (v := 0) C dX10_readsPin_78 (by decide) ?_
    refine xr_bipush (v := 99) C dX10_readsPin_79 (by decide) ?_
    obtain ⟨⟨r4, I3⟩, h2, hf⟩ := ob_x hf
    refine xr_callVI C [.int 0, .int 99] lkX10_119 (kX10_number H0 h2) Kd10 rfl H0.1 rfl (Nat.le_of_ble_eq_true rfl) rfl dX10_readsPin_81 ⟨by decide, by decide, by decide⟩ rfl ?_
    refine xr_lv [1, 2, 3, 0] rfl ?_
    exact ebX10_readsPin_84 C H0 q hf
  · refine xr_ldc C wk_820 dX10_readsPin_72 ?_
    refine xr_goto (tgt := 84) C dX10_readsPin_74 (by decide) ?_
    refine xr_lv [1, 2, 3, 0] rfl ?_
    exact ebX10_readsPin_84 C H0 q hf
def fnX10_readsPin (I0 : Mem) : Option (Int32 × Mem) :=
  if (I0 111 17) = 6 then (bnd (up2 I0 111 5 3) fun I18 => some (0, I18)) else (ob (fnX10_token I0) fun I3 => ob (fnX10_sortOfWord I3) fun ⟨r6, I5⟩ => if r6 = (-1000000) then (bnd (up2 I5 111 5 1) fun I17 => some (0, I17)) else (ob (fnX10_token I5) fun I9 => ob (fnX10_cell I9) fun ⟨r12, I11⟩ => if r12 = (-1000000) then (fnX10_readsPin_65 I11 r6 r12 (-1000000)) else (ob (fnX10_number I11 0 7) fun ⟨r16, I15⟩ => fnX10_readsPin_65 I15 r6 r12 r16)))
set_option maxRecDepth 20000 in
set_option maxHeartbeats 2000000 in
theorem ebX10_readsPin_0 {g : Cfg} (C : Cx g RX10 cX10_readsPin 5 4 94 0 0) {h : Shp} (H0 : MAt h) {r1 : Int32} {o1 : Mem} (q : QI g (some Jvm.ClassFile.FieldType.boolean) 0 0 r1 (o1, h)) {I0 : Mem} (hf : fnX10_readsPin I0 = some (r1, o1)) : XE g 0 0 (I0, h) 0 [(0, rf g 111)] [] := by
  unfold fnX10_readsPin at hf
  refine xr_aload_n C dX10_readsPin_0 0 rfl rfl ?_
  refine xr_geti C Kd10 (k := 17) (by decide) rfl wk_838 rfl H0.1 dX10_readsPin_1 ?_
  refine xr_bipush (v := 6) C dX10_readsPin_4 (by decide) ?_
  refine xr_icmp_ne (tgt := 16) C dX10_readsPin_6 (by decide) hf (fun c1 hf => ?_) (fun c1 hf => ?_)
  · refine xr_aload_n C dX10_readsPin_16 0 rfl rfl ?_
    obtain ⟨I3, h2, hf⟩ := ob_x hf
    refine xr_callVV C [] lkX10_110 (kX10_token H0 h2) Kd10 rfl H0.1 rfl (Nat.le_of_ble_eq_true rfl) rfl dX10_readsPin_17 ⟨by decide, by decide, by decide⟩ rfl ?_
    refine xr_aload_n C dX10_readsPin_20 0 rfl rfl ?_
    obtain ⟨⟨r6, I5⟩, h4, hf⟩ := ob_x hf
    refine xr_callVI C [] lkX10_131 (kX10_sortOfWord H0 h4) Kd10 rfl H0.1 rfl (Nat.le_of_ble_eq_true rfl) rfl dX10_readsPin_21 ⟨by decide, by decide, by decide⟩ rfl ?_
    refine xr_istore_n C dX10_readsPin_24 rfl (by decide) rfl ?_
    refine xr_iload_n C dX10_readsPin_25 0 rfl rfl ?_
    refine xr_ldc C wk_820 dX10_readsPin_26 ?_
    refine xr_icmp_ne (tgt := 38) C dX10_readsPin_28 (by decide) hf (fun c7 hf => ?_) (fun c7 hf => ?_)
    · refine xr_aload_n C dX10_readsPin_38 1 rfl rfl ?_
      obtain ⟨I9, h8, hf⟩ := ob_x hf
      refine xr_callVV C [] lkX10_110 (kX10_token H0 h8) Kd10 rfl H0.1 rfl (Nat.le_of_ble_eq_true rfl) rfl dX10_readsPin_39 ⟨by decide, by decide, by decide⟩ rfl ?_
      refine xr_aload_n C dX10_readsPin_42 1 rfl rfl ?_
      obtain ⟨⟨r12, I11⟩, h10, hf⟩ := ob_x hf
      refine xr_callVI C [] lkX10_135 (kX10_cell H0 h10) Kd10 rfl H0.1 rfl (Nat.le_of_ble_eq_true rfl) rfl dX10_readsPin_43 ⟨by decide, by decide, by decide⟩ rfl ?_
      refine xr_istore_n C dX10_readsPin_46 rfl (by decide) rfl ?_
      refine xr_iload_n C dX10_readsPin_47 0 rfl rfl ?_
      refine xr_ldc C wk_820 dX10_readsPin_48 ?_
      refine xr_icmp_ne (tgt := 58) C dX10_readsPin_50 (by decide) hf (fun c13 hf => ?_) (fun c13 hf => ?_)
      · refine xr_aload_n C dX10_readsPin_58 2 rfl rfl ?_
        refine xr_iconst (v := 0) C dX10_readsPin_59 (by decide) ?_
        refine xr_bipush (v := 7) C dX10_readsPin_60 (by decide) ?_
        obtain ⟨⟨r16, I15⟩, h14, hf⟩ := ob_x hf
        refine xr_callVI C [.int 0, .int 7] lkX10_119 (kX10_number H0 h14) Kd10 rfl H0.1 rfl (Nat.le_of_ble_eq_true rfl) rfl dX10_readsPin_62 ⟨by decide, by decide, by decide⟩ rfl ?_
        refine xr_lv [2, 1, 0] rfl ?_
        exact ebX10_readsPin_65 C H0 q hf
      · refine xr_ldc C wk_820 dX10_readsPin_53 ?_
        refine xr_goto (tgt := 65) C dX10_readsPin_55 (by decide) ?_
        refine xr_lv [2, 1, 0] rfl ?_
        exact ebX10_readsPin_65 C H0 q hf
    · refine xr_aload_n C dX10_readsPin_31 1 rfl rfl ?_
      refine xr_iconst (v := 1) C dX10_readsPin_32 (by decide) ?_
      obtain ⟨I17, eI17, hf⟩ := bnd_x hf
      refine xr_putI C Kd10 (k := 5) (by decide) rfl rfl wk_826 rfl rfl rfl H0.1 dX10_readsPin_33 eI17 ?_
      refine xr_iconst (v := 0) C dX10_readsPin_36 (by decide) ?_
      exact xr_ireturn C q rfl rfl dX10_readsPin_37 (so_1 hf) (so_w hf)
  · refine xr_aload_n C dX10_readsPin_9 0 rfl rfl ?_
    refine xr_iconst (v := 3) C dX10_readsPin_10 (by decide) ?_
    obtain ⟨I18, eI18, hf⟩ := bnd_x hf
    refine xr_putI C Kd10 (k := 5) (by decide) rfl rfl wk_826 rfl rfl rfl H0.1 dX10_readsPin_11 eI18 ?_
    refine xr_iconst (v := 0) C dX10_readsPin_14 (by decide) ?_
    exact xr_ireturn C q rfl rfl dX10_readsPin_15 (so_1 hf) (so_w hf)
theorem kX10_readsPin {B : Bs} {h : Shp} (H0 : MAt h) {I0 : Mem} {r1 : Int32} {o1 : Mem} (hf : fnX10_readsPin I0 = some (r1, o1)) : CtrI B yX10_readsPin cX10_readsPin 5 (some Jvm.ClassFile.FieldType.boolean) 4 94 0 0 [rfB B 111] (I0, h) r1 (o1, h) := by
  refine xr_enterI (lv0 := [(0, rfB B 111)]) (by decide) (Nat.le_of_ble_eq_true rfl) rfl (fun g hg C q => ?_)
  subst hg
  exact ebX10_readsPin_0 C H0 q hf
theorem dX10_readsBall_0 : decode cX10_readsBall 0 = .ok (.aload_n 0, 1) := by decide +kernel
theorem dX10_readsBall_1 : decode cX10_readsBall 1 = .ok (.ldc 138, 2) := by decide +kernel
theorem dX10_readsBall_3 : decode cX10_readsBall 3 = .ok (.iconst 4, 1) := by decide +kernel
theorem dX10_readsBall_4 : decode cX10_readsBall 4 = .ok (.invokevirtual 92, 3) := by decide +kernel
theorem dX10_readsBall_7 : decode cX10_readsBall 7 = .ok (.ifCond .ne 10, 3) := by decide +kernel
theorem dX10_readsBall_10 : decode cX10_readsBall 10 = .ok (.aload_n 0, 1) := by decide +kernel
theorem dX10_readsBall_11 : decode cX10_readsBall 11 = .ok (.iconst 1, 1) := by decide +kernel
theorem dX10_readsBall_12 : decode cX10_readsBall 12 = .ok (.putfield 103, 3) := by decide +kernel
theorem dX10_readsBall_15 : decode cX10_readsBall 15 = .ok (.iconst 0, 1) := by decide +kernel
theorem dX10_readsBall_16 : decode cX10_readsBall 16 = .ok (.ireturn, 1) := by decide +kernel
theorem dX10_readsBall_17 : decode cX10_readsBall 17 = .ok (.aload_n 0, 1) := by decide +kernel
theorem dX10_readsBall_18 : decode cX10_readsBall 18 = .ok (.invokevirtual 110, 3) := by decide +kernel
theorem dX10_readsBall_21 : decode cX10_readsBall 21 = .ok (.aload_n 0, 1) := by decide +kernel
theorem dX10_readsBall_22 : decode cX10_readsBall 22 = .ok (.aload_n 0, 1) := by decide +kernel
theorem dX10_readsBall_23 : decode cX10_readsBall 23 = .ok (.invokevirtual 135, 3) := by decide +kernel
theorem dX10_readsBall_26 : decode cX10_readsBall 26 = .ok (.putfield 139, 3) := by decide +kernel
theorem dX10_readsBall_29 : decode cX10_readsBall 29 = .ok (.aload_n 0, 1) := by decide +kernel
theorem dX10_readsBall_30 : decode cX10_readsBall 30 = .ok (.aload_n 0, 1) := by decide +kernel
theorem dX10_readsBall_31 : decode cX10_readsBall 31 = .ok (.getfield 139, 3) := by decide +kernel
theorem dX10_readsBall_34 : decode cX10_readsBall 34 = .ok (.ldc 19, 2) := by decide +kernel
theorem dX10_readsBall_36 : decode cX10_readsBall 36 = .ok (.if_icmp .ne 8, 3) := by decide +kernel
theorem dX10_readsBall_39 : decode cX10_readsBall 39 = .ok (.ldc 19, 2) := by decide +kernel
theorem dX10_readsBall_41 : decode cX10_readsBall 41 = .ok (.goto 9, 3) := by decide +kernel
theorem dX10_readsBall_44 : decode cX10_readsBall 44 = .ok (.aload_n 0, 1) := by decide +kernel
theorem dX10_readsBall_45 : decode cX10_readsBall 45 = .ok (.iconst 0, 1) := by decide +kernel
theorem dX10_readsBall_46 : decode cX10_readsBall 46 = .ok (.iconst 3, 1) := by decide +kernel
theorem dX10_readsBall_47 : decode cX10_readsBall 47 = .ok (.invokevirtual 119, 3) := by decide +kernel
theorem dX10_readsBall_50 : decode cX10_readsBall 50 = .ok (.putfield 142, 3) := by decide +kernel
theorem dX10_readsBall_53 : decode cX10_readsBall 53 = .ok (.aload_n 0, 1) := by decide +kernel
theorem dX10_readsBall_54 : decode cX10_readsBall 54 = .ok (.getfield 142, 3) := by decide +kernel
theorem dX10_readsBall_57 : decode cX10_readsBall 57 = .ok (.ldc 19, 2) := by decide +kernel
theorem dX10_readsBall_59 : decode cX10_readsBall 59 = .ok (.if_icmp .eq 14, 3) := by decide +kernel
theorem dX10_readsBall_62 : decode cX10_readsBall 62 = .ok (.aload_n 0, 1) := by decide +kernel
theorem dX10_readsBall_63 : decode cX10_readsBall 63 = .ok (.invokevirtual 128, 3) := by decide +kernel
theorem dX10_readsBall_66 : decode cX10_readsBall 66 = .ok (.ifCond .eq 7, 3) := by decide +kernel
theorem dX10_readsBall_69 : decode cX10_readsBall 69 = .ok (.iconst 1, 1) := by decide +kernel
theorem dX10_readsBall_70 : decode cX10_readsBall 70 = .ok (.goto 4, 3) := by decide +kernel
theorem dX10_readsBall_73 : decode cX10_readsBall 73 = .ok (.iconst 0, 1) := by decide +kernel
theorem dX10_readsBall_74 : decode cX10_readsBall 74 = .ok (.ireturn, 1) := by decide +kernel
/-! BumperBallsModel.readsBall()Z -/
def fnX10_readsBall_74 (I0 : Mem) (t0 : Int32) : Option (Int32 × Mem) :=
  ck (zb t0) <| some (t0, I0)
set_option maxRecDepth 20000 in
set_option maxHeartbeats 2000000 in
theorem ebX10_readsBall_74 {g : Cfg} (C : Cx g RX10 cX10_readsBall 1 4 94 0 0) {h : Shp} (H0 : MAt h) {r1 : Int32} {o1 : Mem} (q : QI g (some Jvm.ClassFile.FieldType.boolean) 0 0 r1 (o1, h)) {I0 : Mem} {t0 : Int32} (hf : fnX10_readsBall_74 I0 t0 = some (r1, o1)) : XE g 0 0 (I0, h) 74 [] [.int t0] := by
  unfold fnX10_readsBall_74 at hf
  obtain ⟨z1, hf⟩ := ck_x hf
  exact xr_ireturn C q rfl (zb_ok z1).1 dX10_readsBall_74 (so_1 hf) (so_w hf)
def fnX10_readsBall_73 (I0 : Mem) : Option (Int32 × Mem) :=
  fnX10_readsBall_74 I0 0
set_option maxRecDepth 20000 in
set_option maxHeartbeats 2000000 in
theorem ebX10_readsBall_73 {g : Cfg} (C : Cx g RX10 cX10_readsBall 1 4 94 0 0) {h : Shp} (H0 : MAt h) {r1 : Int32} {o1 : Mem} (q : QI g (some Jvm.ClassFile.FieldType.boolean) 0 0 r1 (o1, h)) {I0 : Mem} (hf : fnX10_readsBall_73 I0 = some (r1, o1)) : XE g 0 0 (I0, h) 73 [] [] := by
  unfold fnX10_readsBall_73 at hf
  refine xr_iconst (v := 0) C dX10_readsBall_73 (by decide) ?_
  exact ebX10_readsBall_74 C H0 q hf
def fnX10_readsBall_50 (I0 : Mem) (t1 : Int32) : Option (Int32 × Mem) :=
  bnd (up2 I0 111 19 t1) fun I1 => if (I1 111 19) = (-1000000) then (fnX10_readsBall_73 I1) else (ob (fnX10_readsSign I1) fun ⟨r5, I4⟩ => if r5 = 0 then (fnX10_readsBall_73 I4) else (fnX10_readsBall_74 I4 1))
set_option maxRecDepth 20000 in
set_option maxHeartbeats 2000000 in
theorem ebX10_readsBall_50 {g : Cfg} (C : Cx g RX10 cX10_readsBall 1 4 94 0 0) {h : Shp} (H0 : MAt h) {r1 : Int32} {o1 : Mem} (q : QI g (some Jvm.ClassFile.FieldType.boolean) 0 0 r1 (o1, h)) {I0 : Mem} {t1 : Int32} (hf : fnX10_readsBall_50 I0 t1 = some (r1, o1)) : XE g 0 0 (I0, h) 50 [(0, rf g 111)] [.int t1, rf g 111] := by
  unfold fnX10_readsBall_50 at hf
  obtain ⟨I1, eI1, hf⟩ := bnd_x hf
  refine xr_putI C Kd10 (k := 19) (by decide) rfl rfl wk_840 rfl rfl rfl H0.1 dX10_readsBall_50 eI1 ?_
  refine xr_aload_n C dX10_readsBall_53 0 rfl rfl ?_
  refine xr_geti C Kd10 (k := 19) (by decide) rfl wk_840 rfl H0.1 dX10_readsBall_54 ?_
  refine xr_ldc C wk_820 dX10_readsBall_57 ?_
  refine xr_icmp_eq (tgt := 73) C dX10_readsBall_59 (by decide) hf (fun c2 hf => ?_) (fun c2 hf => ?_)
  · refine xr_lv [] rfl ?_
    exact ebX10_readsBall_73 C H0 q hf
  · refine xr_aload_n C dX10_readsBall_62 0 rfl rfl ?_
    obtain ⟨⟨r5, I4⟩, h3, hf⟩ := ob_x hf
    refine xr_callVI C [] lkX10_128 (kX10_readsSign H0 h3) Kd10 rfl H0.1 rfl (Nat.le_of_ble_eq_true rfl) rfl dX10_readsBall_63 ⟨by decide, by decide, by decide⟩ rfl ?_
    refine xr_if_eq (tgt := 73) C dX10_readsBall_66 (by decide) hf (fun c6 hf => ?_) (fun c6 hf => ?_)
    · refine xr_lv [] rfl ?_
      exact ebX10_readsBall_73 C H0 q hf
    · refine xr_iconst (v := 1) C dX10_readsBall_69 (by decide) ?_
      refine xr_goto (tgt := 74) C dX10_readsBall_70 (by decide) ?_
      refine xr_lv [] rfl ?_
      exact ebX10_readsBall_74 C H0 q hf
def fnX10_readsBall (I0 : Mem) : Option (Int32 × Mem) :=
  ob (fnX10_isWord I0 405538 4) fun ⟨r3, I2⟩ => if r3 = 0 then (bnd (up2 I2 111 5 1) fun I15 => some (0, I15)) else (ob (fnX10_token I2) fun I6 => ob (fnX10_cell I6) fun ⟨r9, I8⟩ => bnd (up2 I8 111 18 r9) fun I10 => if (I10 111 18) = (-1000000) then (fnX10_readsBall_50 I10 (-1000000)) else (ob (fnX10_number I10 0 3) fun ⟨r14, I13⟩ => fnX10_readsBall_50 I13 r14))
set_option maxRecDepth 20000 in
set_option maxHeartbeats 2000000 in
theorem ebX10_readsBall_0 {g : Cfg} (C : Cx g RX10 cX10_readsBall 1 4 94 0 0) {h : Shp} (H0 : MAt h) {r1 : Int32} {o1 : Mem} (q : QI g (some Jvm.ClassFile.FieldType.boolean) 0 0 r1 (o1, h)) {I0 : Mem} (hf : fnX10_readsBall I0 = some (r1, o1)) : XE g 0 0 (I0, h) 0 [(0, rf g 111)] [] := by
  unfold fnX10_readsBall at hf
  refine xr_aload_n C dX10_readsBall_0 0 rfl rfl ?_
  refine xr_ldc C wk_1001 dX10_readsBall_1 ?_
  refine xr_iconst (v := 4) C dX10_readsBall_3 (by decide) ?_
  obtain ⟨⟨r3, I2⟩, h1, hf⟩ := ob_x hf
  refine xr_callVI C [.int 405538, .int 4] lkX10_92 (kX10_isWord H0 h1) Kd10 rfl H0.1 rfl (Nat.le_of_ble_eq_true rfl) rfl dX10_readsBall_4 ⟨by decide, by decide, by decide⟩ rfl ?_
  refine xr_if_ne (tgt := 17) C dX10_readsBall_7 (by decide) hf (fun c4 hf => ?_) (fun c4 hf => ?_)
  · refine xr_aload_n C dX10_readsBall_17 0 rfl rfl ?_
    obtain ⟨I6, h5, hf⟩ := ob_x hf
    refine xr_callVV C [] lkX10_110 (kX10_token H0 h5) Kd10 rfl H0.1 rfl (Nat.le_of_ble_eq_true rfl) rfl dX10_readsBall_18 ⟨by decide, by decide, by decide⟩ rfl ?_
    refine xr_aload_n C dX10_readsBall_21 0 rfl rfl ?_
    refine xr_aload_n C dX10_readsBall_22 0 rfl rfl ?_
    obtain ⟨⟨r9, I8⟩, h7, hf⟩ := ob_x hf
    refine xr_callVI C [] lkX10_135 (kX10_cell H0 h7) Kd10 rfl H0.1 rfl (Nat.le_of_ble_eq_true rfl) rfl dX10_readsBall_23 ⟨by decide, by decide, by decide⟩ rfl ?_
    obtain ⟨I10, eI10, hf⟩ := bnd_x hf
    refine xr_putI C Kd10 (k := 18) (by decide) rfl rfl wk_839 rfl rfl rfl H0.1 dX10_readsBall_26 eI10 ?_
    refine xr_aload_n C dX10_readsBall_29 0 rfl rfl ?_
    refine xr_aload_n C dX10_readsBall_30 0 rfl rfl ?_
    refine xr_geti C Kd10 (k := 18) (by decide) rfl wk_839 rfl H0.1 dX10_readsBall_31 ?_
    refine xr_ldc C wk_820 dX10_readsBall_34 ?_
    refine xr_icmp_ne (tgt := 44) C dX10_readsBall_36 (by decide) hf (fun c11 hf => ?_) (fun c11 hf => ?_)
    · refine xr_aload_n C dX10_readsBall_44 0 rfl rfl ?_
      refine xr_iconst (v := 0) C dX10_readsBall_45 (by decide) ?_
      refine xr_iconst (v := 3) C dX10_readsBall_46 (by decide) ?_
      obtain ⟨⟨r14, I13⟩, h12, hf⟩ := ob_x hf
      refine xr_callVI C [.int 0, .int 3] lkX10_119 (kX10_number H0 h12) Kd10 rfl H0.1 rfl (Nat.le_of_ble_eq_true rfl) rfl dX10_readsBall_47 ⟨by decide, by decide, by decide⟩ rfl ?_
      exact ebX10_readsBall_50 C H0 q hf
    · refine xr_ldc C wk_820 dX10_readsBall_39 ?_
      refine xr_goto (tgt := 50) C dX10_readsBall_41 (by decide) ?_
      exact ebX10_readsBall_50 C H0 q hf
  · refine xr_aload_n C dX10_readsBall_10 0 rfl rfl ?_
    refine xr_iconst (v := 1) C dX10_readsBall_11 (by decide) ?_
    obtain ⟨I15, eI15, hf⟩ := bnd_x hf
    refine xr_putI C Kd10 (k := 5) (by decide) rfl rfl wk_826 rfl rfl rfl H0.1 dX10_readsBall_12 eI15 ?_
    refine xr_iconst (v := 0) C dX10_readsBall_15 (by decide) ?_
    exact xr_ireturn C q rfl rfl dX10_readsBall_16 (so_1 hf) (so_w hf)
theorem kX10_readsBall {B : Bs} {h : Shp} (H0 : MAt h) {I0 : Mem} {r1 : Int32} {o1 : Mem} (hf : fnX10_readsBall I0 = some (r1, o1)) : CtrI B yX10_readsBall cX10_readsBall 1 (some Jvm.ClassFile.FieldType.boolean) 4 94 0 0 [rfB B 111] (I0, h) r1 (o1, h) := by
  refine xr_enterI (lv0 := [(0, rfB B 111)]) (by decide) (Nat.le_of_ble_eq_true rfl) rfl (fun g hg C q => ?_)
  subst hg
  exact ebX10_readsBall_0 C H0 q hf
theorem dX10_readsAll_0 : decode cX10_readsAll 0 = .ok (.aload_n 0, 1) := by decide +kernel
theorem dX10_readsAll_1 : decode cX10_readsAll 1 = .ok (.iconst 0, 1) := by decide +kernel
theorem dX10_readsAll_2 : decode cX10_readsAll 2 = .ok (.putfield 78, 3) := by decide +kernel
theorem dX10_readsAll_5 : decode cX10_readsAll 5 = .ok (.aload_n 0, 1) := by decide +kernel
theorem dX10_readsAll_6 : decode cX10_readsAll 6 = .ok (.iconst 0, 1) := by decide +kernel
theorem dX10_readsAll_7 : decode cX10_readsAll 7 = .ok (.putfield 116, 3) := by decide +kernel
theorem dX10_readsAll_10 : decode cX10_readsAll 10 = .ok (.aload_n 0, 1) := by decide +kernel
theorem dX10_readsAll_11 : decode cX10_readsAll 11 = .ok (.invokevirtual 110, 3) := by decide +kernel
theorem dX10_readsAll_14 : decode cX10_readsAll 14 = .ok (.aload_n 0, 1) := by decide +kernel
theorem dX10_readsAll_15 : decode cX10_readsAll 15 = .ok (.invokevirtual 145, 3) := by decide +kernel
theorem dX10_readsAll_18 : decode cX10_readsAll 18 = .ok (.ifCond .ne 5, 3) := by decide +kernel
theorem dX10_readsAll_21 : decode cX10_readsAll 21 = .ok (.iconst 0, 1) := by decide +kernel
theorem dX10_readsAll_22 : decode cX10_readsAll 22 = .ok (.ireturn, 1) := by decide +kernel
theorem dX10_readsAll_23 : decode cX10_readsAll 23 = .ok (.aload_n 0, 1) := by decide +kernel
theorem dX10_readsAll_24 : decode cX10_readsAll 24 = .ok (.sipush 14640, 3) := by decide +kernel
theorem dX10_readsAll_27 : decode cX10_readsAll 27 = .ok (.iconst 3, 1) := by decide +kernel
theorem dX10_readsAll_28 : decode cX10_readsAll 28 = .ok (.invokevirtual 92, 3) := by decide +kernel
theorem dX10_readsAll_31 : decode cX10_readsAll 31 = .ok (.ifCond .eq 12, 3) := by decide +kernel
theorem dX10_readsAll_34 : decode cX10_readsAll 34 = .ok (.aload_n 0, 1) := by decide +kernel
theorem dX10_readsAll_35 : decode cX10_readsAll 35 = .ok (.invokevirtual 148, 3) := by decide +kernel
theorem dX10_readsAll_38 : decode cX10_readsAll 38 = .ok (.ifCond .ne (-15), 3) := by decide +kernel
theorem dX10_readsAll_41 : decode cX10_readsAll 41 = .ok (.iconst 0, 1) := by decide +kernel
theorem dX10_readsAll_42 : decode cX10_readsAll 42 = .ok (.ireturn, 1) := by decide +kernel
theorem dX10_readsAll_43 : decode cX10_readsAll 43 = .ok (.aload_n 0, 1) := by decide +kernel
theorem dX10_readsAll_44 : decode cX10_readsAll 44 = .ok (.invokevirtual 151, 3) := by decide +kernel
theorem dX10_readsAll_47 : decode cX10_readsAll 47 = .ok (.ifCond .ne 5, 3) := by decide +kernel
theorem dX10_readsAll_50 : decode cX10_readsAll 50 = .ok (.iconst 0, 1) := by decide +kernel
theorem dX10_readsAll_51 : decode cX10_readsAll 51 = .ok (.ireturn, 1) := by decide +kernel
theorem dX10_readsAll_52 : decode cX10_readsAll 52 = .ok (.aload_n 0, 1) := by decide +kernel
theorem dX10_readsAll_53 : decode cX10_readsAll 53 = .ok (.getfield 81, 3) := by decide +kernel
theorem dX10_readsAll_56 : decode cX10_readsAll 56 = .ok (.aload_n 0, 1) := by decide +kernel
theorem dX10_readsAll_57 : decode cX10_readsAll 57 = .ok (.getfield 72, 3) := by decide +kernel
theorem dX10_readsAll_60 : decode cX10_readsAll 60 = .ok (.if_icmp .ge 10, 3) := by decide +kernel
theorem dX10_readsAll_63 : decode cX10_readsAll 63 = .ok (.aload_n 0, 1) := by decide +kernel
theorem dX10_readsAll_64 : decode cX10_readsAll 64 = .ok (.iconst 1, 1) := by decide +kernel
theorem dX10_readsAll_65 : decode cX10_readsAll 65 = .ok (.putfield 103, 3) := by decide +kernel
theorem dX10_readsAll_68 : decode cX10_readsAll 68 = .ok (.iconst 0, 1) := by decide +kernel
theorem dX10_readsAll_69 : decode cX10_readsAll 69 = .ok (.ireturn, 1) := by decide +kernel
theorem dX10_readsAll_70 : decode cX10_readsAll 70 = .ok (.iconst 1, 1) := by decide +kernel
theorem dX10_readsAll_71 : decode cX10_readsAll 71 = .ok (.ireturn, 1) := by decide +kernel
theorem lkX10_145 : LkV "BumperBallsModel" 145 yX10_readsLaw cX10_readsLaw 1 (some Jvm.ClassFile.FieldType.boolean) 0 := ⟨wk_951, wk_11, wk_950, wk_s67, ⟨by decide +kernel, by decide +kernel, by decide +kernel⟩, wk_948⟩
theorem lkX10_148 : LkV "BumperBallsModel" 148 yX10_readsPin cX10_readsPin 5 (some Jvm.ClassFile.FieldType.boolean) 0 := ⟨wk_975, wk_11, wk_974, wk_s73, ⟨by decide +kernel, by decide +kernel, by decide +kernel⟩, wk_972⟩
theorem lkX10_151 : LkV "BumperBallsModel" 151 yX10_readsBall cX10_readsBall 1 (some Jvm.ClassFile.FieldType.boolean) 0 := ⟨wk_1000, wk_11, wk_999, wk_s78, ⟨by decide +kernel, by decide +kernel, by decide +kernel⟩, wk_997⟩
/-! BumperBallsModel.readsAll()Z -/
def fnX10_readsAll_23b (rec23 : Mem → Option (Int32 × Mem)) (I0 : Mem) : Option (Int32 × Mem) :=
  ob (fnX10_isWord I0 14640 3) fun ⟨r3, I2⟩ => if r3 = 0 then (ob (fnX10_readsBall I2) fun ⟨r7, I6⟩ => if r7 = 0 then (some (0, I6)) else (if (I6 111 4) ≤ (I6 111 13) then (some (1, I6)) else (bnd (up2 I6 111 5 1) fun I10 => some (0, I10)))) else (ob (fnX10_readsPin I2) fun ⟨r13, I12⟩ => if r13 = 0 then (some (0, I12)) else (rec23 I12))
def fnX10_readsAll_23 : Nat → Mem → Option (Int32 × Mem)
  | 0 => fun _ => none
  | fu + 1 => fnX10_readsAll_23b (fnX10_readsAll_23 fu)
set_option maxRecDepth 20000 in
set_option maxHeartbeats 2000000 in
theorem ebX10_readsAll_23b {g : Cfg} (C : Cx g RX10 cX10_readsAll 1 5 118 0 0) {h : Shp} (H0 : MAt h) {r1 : Int32} {o1 : Mem} {rec23 : Mem → Option (Int32 × Mem)} (q : QI g (some Jvm.ClassFile.FieldType.boolean) 0 0 r1 (o1, h)) (ih23 : ∀ (I0 : Mem), rec23 I0 = some (r1, o1) → XE g 0 0 (I0, h) 23 [(0, rf g 111)] []) {I0 : Mem} (hf : fnX10_readsAll_23b rec23 I0 = some (r1, o1)) : XE g 0 0 (I0, h) 23 [(0, rf g 111)] [] := by
  unfold fnX10_readsAll_23b at hf
  refine xr_aload_n C dX10_readsAll_23 0 rfl rfl ?_
  refine xr_sipush (v := 14640) C dX10_readsAll_24 (by decide) ?_
  refine xr_iconst (v := 3) C dX10_readsAll_27 (by decide) ?_
  obtain ⟨⟨r3, I2⟩, h1, hf⟩ := ob_x hf
  refine xr_callVI C [.int 14640, .int 3] lkX10_92 (kX10_isWord H0 h1) Kd10 rfl H0.1 rfl (Nat.le_of_ble_eq_true rfl) rfl dX10_readsAll_28 ⟨by decide, by decide, by decide⟩ rfl ?_
  refine xr_if_eq (tgt := 43) C dX10_readsAll_31 (by decide) hf (fun c4 hf => ?_) (fun c4 hf => ?_)
  · refine xr_aload_n C dX10_readsAll_43 0 rfl rfl ?_
    obtain ⟨⟨r7, I6⟩, h5, hf⟩ := ob_x hf
    refine xr_callVI C [] lkX10_151 (kX10_readsBall H0 h5) Kd10 rfl H0.1 rfl (Nat.le_of_ble_eq_true rfl) rfl dX10_readsAll_44 ⟨by decide, by decide, by decide⟩ rfl ?_
    refine xr_if_ne (tgt := 52) C dX10_readsAll_47 (by decide) hf (fun c8 hf => ?_) (fun c8 hf => ?_)
    · refine xr_aload_n C dX10_readsAll_52 0 rfl rfl ?_
      refine xr_geti C Kd10 (k := 13) (by decide) rfl wk_834 rfl H0.1 dX10_readsAll_53 ?_
      refine xr_aload_n C dX10_readsAll_56 0 rfl rfl ?_
      refine xr_geti C Kd10 (k := 4) (by decide) rfl wk_825 rfl H0.1 dX10_readsAll_57 ?_
      refine xr_icmp_ge (tgt := 70) C dX10_readsAll_60 (by decide) hf (fun c9 hf => ?_) (fun c9 hf => ?_)
      · refine xr_iconst (v := 1) C dX10_readsAll_70 (by decide) ?_
        exact xr_ireturn C q rfl rfl dX10_readsAll_71 (so_1 hf) (so_w hf)
      · refine xr_aload_n C dX10_readsAll_63 0 rfl rfl ?_
        refine xr_iconst (v := 1) C dX10_readsAll_64 (by decide) ?_
        obtain ⟨I10, eI10, hf⟩ := bnd_x hf
        refine xr_putI C Kd10 (k := 5) (by decide) rfl rfl wk_826 rfl rfl rfl H0.1 dX10_readsAll_65 eI10 ?_
        refine xr_iconst (v := 0) C dX10_readsAll_68 (by decide) ?_
        exact xr_ireturn C q rfl rfl dX10_readsAll_69 (so_1 hf) (so_w hf)
    · refine xr_iconst (v := 0) C dX10_readsAll_50 (by decide) ?_
      exact xr_ireturn C q rfl rfl dX10_readsAll_51 (so_1 hf) (so_w hf)
  · refine xr_aload_n C dX10_readsAll_34 0 rfl rfl ?_
    obtain ⟨⟨r13, I12⟩, h11, hf⟩ := ob_x hf
    refine xr_callVI C [] lkX10_148 (kX10_readsPin H0 h11) Kd10 rfl H0.1 rfl (Nat.le_of_ble_eq_true rfl) rfl dX10_readsAll_35 ⟨by decide, by decide, by decide⟩ rfl ?_
    refine xr_if_ne (tgt := 23) C dX10_readsAll_38 (by decide) hf (fun c14 hf => ?_) (fun c14 hf => ?_)
    · exact ih23 _ hf
    · refine xr_iconst (v := 0) C dX10_readsAll_41 (by decide) ?_
      exact xr_ireturn C q rfl rfl dX10_readsAll_42 (so_1 hf) (so_w hf)
theorem ebX10_readsAll_23 {g : Cfg} (C : Cx g RX10 cX10_readsAll 1 5 118 0 0) {h : Shp} (H0 : MAt h) {r1 : Int32} {o1 : Mem} (q : QI g (some Jvm.ClassFile.FieldType.boolean) 0 0 r1 (o1, h)) : ∀ (fu : Nat) {I0 : Mem} (hf : fnX10_readsAll_23 fu I0 = some (r1, o1)), XE g 0 0 (I0, h) 23 [(0, rf g 111)] [] := by
  intro fu
  induction fu with
  | zero =>
    intro I0 hf
    cases hf
  | succ fu ihn =>
    intro I0 hf
    exact ebX10_readsAll_23b C H0 q (fun _ hf => ihn hf) hf
def fnX10_readsAll (I0 : Mem) : Option (Int32 × Mem) :=
  bnd (up2 I0 111 12 0) fun I1 => bnd (up2 I1 111 17 0) fun I2 => ob (fnX10_token I2) fun I4 => ob (fnX10_readsLaw I4) fun ⟨r7, I6⟩ => if r7 = 0 then (some (0, I6)) else (fnX10_readsAll_23 FU I6)
set_option maxRecDepth 20000 in
set_option maxHeartbeats 2000000 in
theorem ebX10_readsAll_0 {g : Cfg} (C : Cx g RX10 cX10_readsAll 1 5 118 0 0) {h : Shp} (H0 : MAt h) {r1 : Int32} {o1 : Mem} (q : QI g (some Jvm.ClassFile.FieldType.boolean) 0 0 r1 (o1, h)) {I0 : Mem} (hf : fnX10_readsAll I0 = some (r1, o1)) : XE g 0 0 (I0, h) 0 [(0, rf g 111)] [] := by
  unfold fnX10_readsAll at hf
  refine xr_aload_n C dX10_readsAll_0 0 rfl rfl ?_
  refine xr_iconst (v := 0) C dX10_readsAll_1 (by decide) ?_
  obtain ⟨I1, eI1, hf⟩ := bnd_x hf
  refine xr_putI C Kd10 (k := 12) (by decide) rfl rfl wk_833 rfl rfl rfl H0.1 dX10_readsAll_2 eI1 ?_
  refine xr_aload_n C dX10_readsAll_5 0 rfl rfl ?_
  refine xr_iconst (v := 0) C dX10_readsAll_6 (by decide) ?_
  obtain ⟨I2, eI2, hf⟩ := bnd_x hf
  refine xr_putI C Kd10 (k := 17) (by decide) rfl rfl wk_838 rfl rfl rfl H0.1 dX10_readsAll_7 eI2 ?_
  refine xr_aload_n C dX10_readsAll_10 0 rfl rfl ?_
  obtain ⟨I4, h3, hf⟩ := ob_x hf
  refine xr_callVV C [] lkX10_110 (kX10_token H0 h3) Kd10 rfl H0.1 rfl (Nat.le_of_ble_eq_true rfl) rfl dX10_readsAll_11 ⟨by decide, by decide, by decide⟩ rfl ?_
  refine xr_aload_n C dX10_readsAll_14 0 rfl rfl ?_
  obtain ⟨⟨r7, I6⟩, h5, hf⟩ := ob_x hf
  refine xr_callVI C [] lkX10_145 (kX10_readsLaw H0 h5) Kd10 rfl H0.1 rfl (Nat.le_of_ble_eq_true rfl) rfl dX10_readsAll_15 ⟨by decide, by decide, by decide⟩ rfl ?_
  refine xr_if_ne (tgt := 23) C dX10_readsAll_18 (by decide) hf (fun c8 hf => ?_) (fun c8 hf => ?_)
  · exact ebX10_readsAll_23 C H0 q _ hf
  · refine xr_iconst (v := 0) C dX10_readsAll_21 (by decide) ?_
    exact xr_ireturn C q rfl rfl dX10_readsAll_22 (so_1 hf) (so_w hf)
theorem kX10_readsAll {B : Bs} {h : Shp} (H0 : MAt h) {I0 : Mem} {r1 : Int32} {o1 : Mem} (hf : fnX10_readsAll I0 = some (r1, o1)) : CtrI B yX10_readsAll cX10_readsAll 1 (some Jvm.ClassFile.FieldType.boolean) 5 118 0 0 [rfB B 111] (I0, h) r1 (o1, h) := by
  refine xr_enterI (lv0 := [(0, rfB B 111)]) (by decide) (Nat.le_of_ble_eq_true rfl) rfl (fun g hg C q => ?_)
  subst hg
  exact ebX10_readsAll_0 C H0 q hf
theorem dX10_table_0 : decode cX10_table 0 = .ok (.aload_n 0, 1) := by decide +kernel
theorem dX10_table_1 : decode cX10_table 1 = .ok (.invokevirtual 154, 3) := by decide +kernel
theorem dX10_table_4 : decode cX10_table 4 = .ok (.istore_n 1, 1) := by decide +kernel
theorem dX10_table_5 : decode cX10_table 5 = .ok (.aload_n 0, 1) := by decide +kernel
theorem dX10_table_6 : decode cX10_table 6 = .ok (.getfield 81, 3) := by decide +kernel
theorem dX10_table_9 : decode cX10_table 9 = .ok (.istore_n 2, 1) := by decide +kernel
theorem dX10_table_10 : decode cX10_table 10 = .ok (.aload_n 0, 1) := by decide +kernel
theorem dX10_table_11 : decode cX10_table 11 = .ok (.iconst 0, 1) := by decide +kernel
theorem dX10_table_12 : decode cX10_table 12 = .ok (.putfield 72, 3) := by decide +kernel
theorem dX10_table_15 : decode cX10_table 15 = .ok (.iload_n 1, 1) := by decide +kernel
theorem dX10_table_16 : decode cX10_table 16 = .ok (.ifCond .ne 8, 3) := by decide +kernel
theorem dX10_table_19 : decode cX10_table 19 = .ok (.ldc 157, 2) := by decide +kernel
theorem dX10_table_21 : decode cX10_table 21 = .ok (.iload_n 2, 1) := by decide +kernel
theorem dX10_table_22 : decode cX10_table 22 = .ok (.isub, 1) := by decide +kernel
theorem dX10_table_23 : decode cX10_table 23 = .ok (.ireturn, 1) := by decide +kernel
theorem dX10_table_24 : decode cX10_table 24 = .ok (.aload_n 0, 1) := by decide +kernel
theorem dX10_table_25 : decode cX10_table 25 = .ok (.getfield 7, 3) := by decide +kernel
theorem dX10_table_28 : decode cX10_table 28 = .ok (.iconst 0, 1) := by decide +kernel
theorem dX10_table_29 : decode cX10_table 29 = .ok (.iconst 1, 1) := by decide +kernel
theorem dX10_table_30 : decode cX10_table 30 = .ok (.iastore, 1) := by decide +kernel
theorem dX10_table_31 : decode cX10_table 31 = .ok (.aload_n 0, 1) := by decide +kernel
theorem dX10_table_32 : decode cX10_table 32 = .ok (.getfield 7, 3) := by decide +kernel
theorem dX10_table_35 : decode cX10_table 35 = .ok (.iconst 1, 1) := by decide +kernel
theorem dX10_table_36 : decode cX10_table 36 = .ok (.aload_n 0, 1) := by decide +kernel
theorem dX10_table_37 : decode cX10_table 37 = .ok (.getfield 125, 3) := by decide +kernel
theorem dX10_table_40 : decode cX10_table 40 = .ok (.iastore, 1) := by decide +kernel
theorem dX10_table_41 : decode cX10_table 41 = .ok (.aload_n 0, 1) := by decide +kernel
theorem dX10_table_42 : decode cX10_table 42 = .ok (.getfield 7, 3) := by decide +kernel
theorem dX10_table_45 : decode cX10_table 45 = .ok (.iconst 2, 1) := by decide +kernel
theorem dX10_table_46 : decode cX10_table 46 = .ok (.aload_n 0, 1) := by decide +kernel
theorem dX10_table_47 : decode cX10_table 47 = .ok (.getfield 116, 3) := by decide +kernel
theorem dX10_table_50 : decode cX10_table 50 = .ok (.iastore, 1) := by decide +kernel
theorem dX10_table_51 : decode cX10_table 51 = .ok (.iconst 0, 1) := by decide +kernel
theorem dX10_table_52 : decode cX10_table 52 = .ok (.istore_n 3, 1) := by decide +kernel
theorem dX10_table_53 : decode cX10_table 53 = .ok (.iload_n 3, 1) := by decide +kernel
theorem dX10_table_54 : decode cX10_table 54 = .ok (.bipush 24, 2) := by decide +kernel
theorem dX10_table_56 : decode cX10_table 56 = .ok (.if_icmp .ge 23, 3) := by decide +kernel
theorem dX10_table_59 : decode cX10_table 59 = .ok (.aload_n 0, 1) := by decide +kernel
theorem dX10_table_60 : decode cX10_table 60 = .ok (.getfield 7, 3) := by decide +kernel
theorem dX10_table_63 : decode cX10_table 63 = .ok (.iconst 3, 1) := by decide +kernel
theorem dX10_table_64 : decode cX10_table 64 = .ok (.iload_n 3, 1) := by decide +kernel
theorem dX10_table_65 : decode cX10_table 65 = .ok (.iadd, 1) := by decide +kernel
theorem dX10_table_66 : decode cX10_table 66 = .ok (.aload_n 0, 1) := by decide +kernel
theorem dX10_table_67 : decode cX10_table 67 = .ok (.getfield 32, 3) := by decide +kernel
theorem dX10_table_70 : decode cX10_table 70 = .ok (.iload_n 3, 1) := by decide +kernel
theorem dX10_table_71 : decode cX10_table 71 = .ok (.iaload, 1) := by decide +kernel
theorem dX10_table_72 : decode cX10_table 72 = .ok (.iastore, 1) := by decide +kernel
theorem dX10_table_73 : decode cX10_table 73 = .ok (.iinc 3 1, 3) := by decide +kernel
theorem dX10_table_76 : decode cX10_table 76 = .ok (.goto (-23), 3) := by decide +kernel
theorem dX10_table_79 : decode cX10_table 79 = .ok (.iconst 0, 1) := by decide +kernel
theorem dX10_table_80 : decode cX10_table 80 = .ok (.istore_n 3, 1) := by decide +kernel
theorem dX10_table_81 : decode cX10_table 81 = .ok (.iload_n 3, 1) := by decide +kernel
theorem dX10_table_82 : decode cX10_table 82 = .ok (.bipush 14, 2) := by decide +kernel
theorem dX10_table_84 : decode cX10_table 84 = .ok (.if_icmp .ge 19, 3) := by decide +kernel
theorem dX10_table_87 : decode cX10_table 87 = .ok (.aload_n 0, 1) := by decide +kernel
theorem dX10_table_88 : decode cX10_table 88 = .ok (.getfield 7, 3) := by decide +kernel
theorem dX10_table_91 : decode cX10_table 91 = .ok (.bipush 27, 2) := by decide +kernel
theorem dX10_table_93 : decode cX10_table 93 = .ok (.iload_n 3, 1) := by decide +kernel
theorem dX10_table_94 : decode cX10_table 94 = .ok (.iadd, 1) := by decide +kernel
theorem dX10_table_95 : decode cX10_table 95 = .ok (.iconst 0, 1) := by decide +kernel
theorem dX10_table_96 : decode cX10_table 96 = .ok (.iastore, 1) := by decide +kernel
theorem dX10_table_97 : decode cX10_table 97 = .ok (.iinc 3 1, 3) := by decide +kernel
theorem dX10_table_100 : decode cX10_table 100 = .ok (.goto (-19), 3) := by decide +kernel
theorem dX10_table_103 : decode cX10_table 103 = .ok (.aload_n 0, 1) := by decide +kernel
theorem dX10_table_104 : decode cX10_table 104 = .ok (.getfield 7, 3) := by decide +kernel
theorem dX10_table_107 : decode cX10_table 107 = .ok (.bipush 27, 2) := by decide +kernel
theorem dX10_table_109 : decode cX10_table 109 = .ok (.aload_n 0, 1) := by decide +kernel
theorem dX10_table_110 : decode cX10_table 110 = .ok (.getfield 139, 3) := by decide +kernel
theorem dX10_table_113 : decode cX10_table 113 = .ok (.iastore, 1) := by decide +kernel
theorem dX10_table_114 : decode cX10_table 114 = .ok (.aload_n 0, 1) := by decide +kernel
theorem dX10_table_115 : decode cX10_table 115 = .ok (.getfield 7, 3) := by decide +kernel
theorem dX10_table_118 : decode cX10_table 118 = .ok (.bipush 28, 2) := by decide +kernel
theorem dX10_table_120 : decode cX10_table 120 = .ok (.aload_n 0, 1) := by decide +kernel
theorem dX10_table_121 : decode cX10_table 121 = .ok (.getfield 142, 3) := by decide +kernel
theorem dX10_table_124 : decode cX10_table 124 = .ok (.iastore, 1) := by decide +kernel
theorem dX10_table_125 : decode cX10_table 125 = .ok (.aload_n 0, 1) := by decide +kernel
theorem dX10_table_126 : decode cX10_table 126 = .ok (.getfield 7, 3) := by decide +kernel
theorem dX10_table_129 : decode cX10_table 129 = .ok (.bipush 32, 2) := by decide +kernel
theorem dX10_table_131 : decode cX10_table 131 = .ok (.iconst (-1), 1) := by decide +kernel
theorem dX10_table_132 : decode cX10_table 132 = .ok (.iastore, 1) := by decide +kernel
theorem dX10_table_133 : decode cX10_table 133 = .ok (.aload_n 0, 1) := by decide +kernel
theorem dX10_table_134 : decode cX10_table 134 = .ok (.iconst 0, 1) := by decide +kernel
theorem dX10_table_135 : decode cX10_table 135 = .ok (.putfield 158, 3) := by decide +kernel
theorem dX10_table_138 : decode cX10_table 138 = .ok (.aload_n 0, 1) := by decide +kernel
theorem dX10_table_139 : decode cX10_table 139 = .ok (.getfield 116, 3) := by decide +kernel
theorem dX10_table_142 : decode cX10_table 142 = .ok (.ireturn, 1) := by decide +kernel
theorem lkX10_154 : LkV "BumperBallsModel" 154 yX10_readsAll cX10_readsAll 1 (some Jvm.ClassFile.FieldType.boolean) 0 := ⟨wk_940, wk_11, wk_939, wk_s65, ⟨by decide +kernel, by decide +kernel, by decide +kernel⟩, wk_937⟩
/-! BumperBallsModel.table()I -/
def fnX10_table_81b (rec81 : Mem → Int32 → Option (Int32 × Mem)) (I0 : Mem) (l3 : Int32) : Option (Int32 × Mem) :=
  if 14 ≤ l3 then (ck (inb 27 164) <| bnd (up2 I0 112 (ix 27) (I0 111 18)) fun I3 => ck (inb 28 164) <| bnd (up2 I3 112 (ix 28) (I3 111 19)) fun I5 => ck (inb 32 164) <| bnd (up2 I5 112 (ix 32) (-1)) fun I7 => bnd (up2 I7 111 2 0) fun I8 => some ((I8 111 17), I8)) else (ck (inb ((27 : Int32) + l3) 164) <| bnd (up2 I0 112 (ix ((27 : Int32) + l3)) 0) fun I10 => bnd (l3 + 1) fun v11 => rec81 I10 v11)
def fnX10_table_81 : Nat → Mem → Int32 → Option (Int32 × Mem)
  | 0 => fun _ _ => none
  | fu + 1 => fnX10_table_81b (fnX10_table_81 fu)
set_option maxRecDepth 20000 in
set_option maxHeartbeats 2000000 in
theorem ebX10_table_81b {g : Cfg} (C : Cx g RX10 cX10_table 4 6 138 0 0) {h : Shp} (H0 : MAt h) {r1 : Int32} {o1 : Mem} {rec81 : Mem → Int32 → Option (Int32 × Mem)} (q : QI g (some Jvm.ClassFile.FieldType.int) 0 0 r1 (o1, h)) (ih81 : ∀ (I0 : Mem) (l3 : Int32), rec81 I0 l3 = some (r1, o1) → XE g 0 0 (I0, h) 81 [(0, rf g 111), (3, .int l3)] []) {I0 : Mem} {l3 : Int32} (hf : fnX10_table_81b rec81 I0 l3 = some (r1, o1)) : XE g 0 0 (I0, h) 81 [(0, rf g 111), (3, .int l3)] [] := by
  unfold fnX10_table_81b at hf
  refine xr_iload_n C dX10_table_81 1 rfl rfl ?_
  refine xr_bipush (v := 14) C dX10_table_82 (by decide) ?_
  refine xr_icmp_ge (tgt := 103) C dX10_table_84 (by decide) hf (fun c1 hf => ?_) (fun c1 hf => ?_)
  · refine xr_aload_n C dX10_table_103 0 rfl rfl ?_
    refine xr_getr C Kd10 (k := 0) (by decide) rfl wk_821 rfl H0.1 H0.2.1.1 dX10_table_104 ?_
    refine xr_bipush (v := 27) C dX10_table_107 (by decide) ?_
    refine xr_aload_n C dX10_table_109 0 rfl rfl ?_
    refine xr_geti C Kd10 (k := 18) (by decide) rfl wk_839 rfl H0.1 dX10_table_110 ?_
    obtain ⟨i2, hf⟩ := ck_x hf
    obtain ⟨I3, eI3, hf⟩ := bnd_x hf
    refine xr_iast C H0.2.1.2 i2 dX10_table_113 eI3 ?_
    refine xr_aload_n C dX10_table_114 0 rfl rfl ?_
    refine xr_getr C Kd10 (k := 0) (by decide) rfl wk_821 rfl H0.1 H0.2.1.1 dX10_table_115 ?_
    refine xr_bipush (v := 28) C dX10_table_118 (by decide) ?_
    refine xr_aload_n C dX10_table_120 0 rfl rfl ?_
    refine xr_geti C Kd10 (k := 19) (by decide) rfl wk_840 rfl H0.1 dX10_table_121 ?_
    obtain ⟨i4, hf⟩ := ck_x hf
    obtain ⟨I5, eI5, hf⟩ := bnd_x hf
    refine xr_iast C H0.2.1.2 i4 dX10_table_124 eI5 ?_
    refine xr_aload_n C dX10_table_125 0 rfl rfl ?_
    refine xr_getr C Kd10 (k := 0) (by decide) rfl wk_821 rfl H0.1 H0.2.1.1 dX10_table_126 ?_
    refine xr_bipush (v := 32) C dX10_table_129 (by decide) ?_
    refine xr_iconst (v := (-1)) C dX10_table_131 (by decide) ?_
    obtain ⟨i6, hf⟩ := ck_x hf
    obtain ⟨I7, eI7, hf⟩ := bnd_x hf
    refine xr_iast C H0.2.1.2 i6 dX10_table_132 eI7 ?_
    refine xr_aload_n C dX10_table_133 0 rfl rfl ?_
    refine xr_iconst (v := 0) C dX10_table_134 (by decide) ?_
    obtain ⟨I8, eI8, hf⟩ := bnd_x hf
    refine xr_putI C Kd10 (k := 2) (by decide) rfl rfl wk_823 rfl rfl rfl H0.1 dX10_table_135 eI8 ?_
    refine xr_aload_n C dX10_table_138 0 rfl rfl ?_
    refine xr_geti C Kd10 (k := 17) (by decide) rfl wk_838 rfl H0.1 dX10_table_139 ?_
    exact xr_ireturn C q rfl rfl dX10_table_142 (so_1 hf) (so_w hf)
  · refine xr_aload_n C dX10_table_87 0 rfl rfl ?_
    refine xr_getr C Kd10 (k := 0) (by decide) rfl wk_821 rfl H0.1 H0.2.1.1 dX10_table_88 ?_
    refine xr_bipush (v := 27) C dX10_table_91 (by decide) ?_
    refine xr_iload_n C dX10_table_93 1 rfl rfl ?_
    refine xr_iadd C dX10_table_94 ?_
    refine xr_iconst (v := 0) C dX10_table_95 (by decide) ?_
    obtain ⟨i9, hf⟩ := ck_x hf
    obtain ⟨I10, eI10, hf⟩ := bnd_x hf
    refine xr_iast C H0.2.1.2 i9 dX10_table_96 eI10 ?_
    obtain ⟨v11, ev11, hf⟩ := bnd_x hf
    refine xr_iinc (k := 1) (v := v11) C dX10_table_97 rfl (by rw [ev11]; rfl) (by decide) rfl ?_
    refine xr_goto (tgt := 81) C dX10_table_100 (by decide) ?_
    refine xr_lv [1, 0] rfl ?_
    exact ih81 _ _ hf
theorem ebX10_table_81 {g : Cfg} (C : Cx g RX10 cX10_table 4 6 138 0 0) {h : Shp} (H0 : MAt h) {r1 : Int32} {o1 : Mem} (q : QI g (some Jvm.ClassFile.FieldType.int) 0 0 r1 (o1, h)) : ∀ (fu : Nat) {I0 : Mem} {l3 : Int32} (hf : fnX10_table_81 fu I0 l3 = some (r1, o1)), XE g 0 0 (I0, h) 81 [(0, rf g 111), (3, .int l3)] [] := by
  intro fu
  induction fu with
  | zero =>
    intro I0 l3 hf
    cases hf
  | succ fu ihn =>
    intro I0 l3 hf
    exact ebX10_table_81b C H0 q (fun _ _ hf => ihn hf) hf
def fnX10_table_53b (rec53 : Mem → Int32 → Option (Int32 × Mem)) (I0 : Mem) (l3 : Int32) : Option (Int32 × Mem) :=
  if 24 ≤ l3 then (fnX10_table_81 FU I0 0) else (ck (inb l3 24) <| ck (inb ((3 : Int32) + l3) 164) <| bnd (up2 I0 112 (ix ((3 : Int32) + l3)) (I0 119 (ix l3))) fun I4 => bnd (l3 + 1) fun v5 => rec53 I4 v5)
def fnX10_table_53 : Nat → Mem → Int32 → Option (Int32 × Mem)
  | 0 => fun _ _ => none
  | fu + 1 => fnX10_table_53b (fnX10_table_53 fu)
set_option maxRecDepth 20000 in
set_option maxHeartbeats 2000000 in
theorem ebX10_table_53b {g : Cfg} (C : Cx g RX10 cX10_table 4 6 138 0 0) {h : Shp} (H0 : MAt h) {r1 : Int32} {o1 : Mem} {rec53 : Mem → Int32 → Option (Int32 × Mem)} (q : QI g (some Jvm.ClassFile.FieldType.int) 0 0 r1 (o1, h)) (ih53 : ∀ (I0 : Mem) (l3 : Int32), rec53 I0 l3 = some (r1, o1) → XE g 0 0 (I0, h) 53 [(0, rf g 111), (3, .int l3)] []) {I0 : Mem} {l3 : Int32} (hf : fnX10_table_53b rec53 I0 l3 = some (r1, o1)) : XE g 0 0 (I0, h) 53 [(0, rf g 111), (3, .int l3)] [] := by
  unfold fnX10_table_53b at hf
  refine xr_iload_n C dX10_table_53 1 rfl rfl ?_
  refine xr_bipush (v := 24) C dX10_table_54 (by decide) ?_
  refine xr_icmp_ge (tgt := 79) C dX10_table_56 (by decide) hf (fun c1 hf => ?_) (fun c1 hf => ?_)
  · refine xr_iconst (v := 0) C dX10_table_79 (by decide) ?_
    refine xr_istore_n C dX10_table_80 rfl (by decide) rfl ?_
    refine xr_lv [1, 0] rfl ?_
    exact ebX10_table_81 C H0 q _ hf
  · refine xr_aload_n C dX10_table_59 0 rfl rfl ?_
    refine xr_getr C Kd10 (k := 0) (by decide) rfl wk_821 rfl H0.1 H0.2.1.1 dX10_table_60 ?_
    refine xr_iconst (v := 3) C dX10_table_63 (by decide) ?_
    refine xr_iload_n C dX10_table_64 1 rfl rfl ?_
    refine xr_iadd C dX10_table_65 ?_
    refine xr_aload_n C dX10_table_66 0 rfl rfl ?_
    refine xr_getr C Kd10 (k := 16) (by decide) rfl wk_837 rfl H0.1 H0.2.2.2.2.2.2.2.2.1.1 dX10_table_67 ?_
    refine xr_iload_n C dX10_table_70 1 rfl rfl ?_
    obtain ⟨i2, hf⟩ := ck_x hf
    refine xr_iald C H0.2.2.2.2.2.2.2.2.1.2 i2 dX10_table_71 ?_
    obtain ⟨i3, hf⟩ := ck_x hf
    obtain ⟨I4, eI4, hf⟩ := bnd_x hf
    refine xr_iast C H0.2.1.2 i3 dX10_table_72 eI4 ?_
    obtain ⟨v5, ev5, hf⟩ := bnd_x hf
    refine xr_iinc (k := 1) (v := v5) C dX10_table_73 rfl (by rw [ev5]; rfl) (by decide) rfl ?_
    refine xr_goto (tgt := 53) C dX10_table_76 (by decide) ?_
    refine xr_lv [1, 0] rfl ?_
    exact ih53 _ _ hf
theorem ebX10_table_53 {g : Cfg} (C : Cx g RX10 cX10_table 4 6 138 0 0) {h : Shp} (H0 : MAt h) {r1 : Int32} {o1 : Mem} (q : QI g (some Jvm.ClassFile.FieldType.int) 0 0 r1 (o1, h)) : ∀ (fu : Nat) {I0 : Mem} {l3 : Int32} (hf : fnX10_table_53 fu I0 l3 = some (r1, o1)), XE g 0 0 (I0, h) 53 [(0, rf g 111), (3, .int l3)] [] := by
  intro fu
  induction fu with
  | zero =>
    intro I0 l3 hf
    cases hf
  | succ fu ihn =>
    intro I0 l3 hf
    exact ebX10_table_53b C H0 q (fun _ _ hf => ihn hf) hf
def fnX10_table (I0 : Mem) : Option (Int32 × Mem) :=
  ob (fnX10_readsAll I0) fun ⟨r3, I2⟩ => bnd (I2 111 13) fun v4 => bnd (up2 I2 111 4 0) fun I5 => if r3 = 0 then (some ((((-1000100) : Int32) - v4), I5)) else (ck (inb 0 164) <| bnd (up2 I5 112 (ix 0) 1) fun I8 => ck (inb 1 164) <| bnd (up2 I8 112 (ix 1) (I8 111 15)) fun I10 => ck (inb 2 164) <| bnd (up2 I10 112 (ix 2) (I10 111 17)) fun I12 => fnX10_table_53 FU I12 0)
set_option maxRecDepth 20000 in
set_option maxHeartbeats 2000000 in
theorem ebX10_table_0 {g : Cfg} (C : Cx g RX10 cX10_table 4 6 138 0 0) {h : Shp} (H0 : MAt h) {r1 : Int32} {o1 : Mem} (q : QI g (some Jvm.ClassFile.FieldType.int) 0 0 r1 (o1, h)) {I0 : Mem} (hf : fnX10_table I0 = some (r1, o1)) : XE g 0 0 (I0, h) 0 [(0, rf g 111)] [] := by
  unfold fnX10_table at hf
  refine xr_aload_n C dX10_table_0 0 rfl rfl ?_
  obtain ⟨⟨r3, I2⟩, h1, hf⟩ := ob_x hf
  refine xr_callVI C [] lkX10_154 (kX10_readsAll H0 h1) Kd10 rfl H0.1 rfl (Nat.le_of_ble_eq_true rfl) rfl dX10_table_1 ⟨by decide, by decide, by decide⟩ rfl ?_
  refine xr_istore_n C dX10_table_4 rfl (by decide) rfl ?_
  refine xr_aload_n C dX10_table_5 1 rfl rfl ?_
  refine xr_geti C Kd10 (k := 13) (by decide) rfl wk_834 rfl H0.1 dX10_table_6 ?_
  obtain ⟨v4, ev4, hf⟩ := bnd_x hf
  refine xr_nm ev4 ?_
  refine xr_istore_n C dX10_table_9 rfl (by decide) rfl ?_
  refine xr_aload_n C dX10_table_10 2 rfl rfl ?_
  refine xr_iconst (v := 0) C dX10_table_11 (by decide) ?_
  obtain ⟨I5, eI5, hf⟩ := bnd_x hf
  refine xr_putI C Kd10 (k := 4) (by decide) rfl rfl wk_825 rfl rfl rfl H0.1 dX10_table_12 eI5 ?_
  refine xr_iload_n C dX10_table_15 1 rfl rfl ?_
  refine xr_if_ne (tgt := 24) C dX10_table_16 (by decide) hf (fun c6 hf => ?_) (fun c6 hf => ?_)
  · refine xr_aload_n C dX10_table_24 2 rfl rfl ?_
    refine xr_getr C Kd10 (k := 0) (by decide) rfl wk_821 rfl H0.1 H0.2.1.1 dX10_table_25 ?_
    refine xr_iconst (v := 0) C dX10_table_28 (by decide) ?_
    refine xr_iconst (v := 1) C dX10_table_29 (by decide) ?_
    obtain ⟨i7, hf⟩ := ck_x hf
    obtain ⟨I8, eI8, hf⟩ := bnd_x hf
    refine xr_iast C H0.2.1.2 i7 dX10_table_30 eI8 ?_
    refine xr_aload_n C dX10_table_31 2 rfl rfl ?_
    refine xr_getr C Kd10 (k := 0) (by decide) rfl wk_821 rfl H0.1 H0.2.1.1 dX10_table_32 ?_
    refine xr_iconst (v := 1) C dX10_table_35 (by decide) ?_
    refine xr_aload_n C dX10_table_36 2 rfl rfl ?_
    refine xr_geti C Kd10 (k := 15) (by decide) rfl wk_836 rfl H0.1 dX10_table_37 ?_
    obtain ⟨i9, hf⟩ := ck_x hf
    obtain ⟨I10, eI10, hf⟩ := bnd_x hf
    refine xr_iast C H0.2.1.2 i9 dX10_table_40 eI10 ?_
    refine xr_aload_n C dX10_table_41 2 rfl rfl ?_
    refine xr_getr C Kd10 (k := 0) (by decide) rfl wk_821 rfl H0.1 H0.2.1.1 dX10_table_42 ?_
    refine xr_iconst (v := 2) C dX10_table_45 (by decide) ?_
    refine xr_aload_n C dX10_table_46 2 rfl rfl ?_
    refine xr_geti C Kd10 (k := 17) (by decide) rfl wk_838 rfl H0.1 dX10_table_47 ?_
    obtain ⟨i11, hf⟩ := ck_x hf
    obtain ⟨I12, eI12, hf⟩ := bnd_x hf
    refine xr_iast C H0.2.1.2 i11 dX10_table_50 eI12 ?_
    refine xr_iconst (v := 0) C dX10_table_51 (by decide) ?_
    refine xr_istore_n C dX10_table_52 rfl (by decide) rfl ?_
    refine xr_lv [3, 0] rfl ?_
    exact ebX10_table_53 C H0 q _ hf
  · refine xr_ldc C wk_1002 dX10_table_19 ?_
    refine xr_iload_n C dX10_table_21 0 rfl rfl ?_
    refine xr_isub C dX10_table_22 ?_
    exact xr_ireturn C q rfl rfl dX10_table_23 (so_1 hf) (so_w hf)
theorem kX10_table {B : Bs} {h : Shp} (H0 : MAt h) {I0 : Mem} {r1 : Int32} {o1 : Mem} (hf : fnX10_table I0 = some (r1, o1)) : CtrI B yX10_table cX10_table 4 (some Jvm.ClassFile.FieldType.int) 6 138 0 0 [rfB B 111] (I0, h) r1 (o1, h) := by
  refine xr_enterI (lv0 := [(0, rfB B 111)]) (by decide) (Nat.le_of_ble_eq_true rfl) rfl (fun g hg C q => ?_)
  subst hg
  exact ebX10_table_0 C H0 q hf
theorem dX10_fault_0 : decode cX10_fault 0 = .ok (.aload_n 0, 1) := by decide +kernel
theorem dX10_fault_1 : decode cX10_fault 1 = .ok (.getfield 103, 3) := by decide +kernel
theorem dX10_fault_4 : decode cX10_fault 4 = .ok (.ireturn, 1) := by decide +kernel
/-! BumperBallsModel.fault()I -/
def fnX10_fault (I0 : Mem) : Option (Int32 × Mem) :=
  some ((I0 111 5), I0)
set_option maxRecDepth 20000 in
set_option maxHeartbeats 2000000 in
theorem ebX10_fault_0 {g : Cfg} (C : Cx g RX10 cX10_fault 1 0 0 0 0) {h : Shp} (H0 : MAt h) {r1 : Int32} {o1 : Mem} (q : QI g (some Jvm.ClassFile.FieldType.int) 0 0 r1 (o1, h)) {I0 : Mem} (hf : fnX10_fault I0 = some (r1, o1)) : XE g 0 0 (I0, h) 0 [(0, rf g 111)] [] := by
  unfold fnX10_fault at hf
  refine xr_aload_n C dX10_fault_0 0 rfl rfl ?_
  refine xr_geti C Kd10 (k := 5) (by decide) rfl wk_826 rfl H0.1 dX10_fault_1 ?_
  exact xr_ireturn C q rfl rfl dX10_fault_4 (so_1 hf) (so_w hf)
theorem kX10_fault {B : Bs} {h : Shp} (H0 : MAt h) {I0 : Mem} {r1 : Int32} {o1 : Mem} (hf : fnX10_fault I0 = some (r1, o1)) : CtrI B yX10_fault cX10_fault 1 (some Jvm.ClassFile.FieldType.int) 0 0 0 0 [rfB B 111] (I0, h) r1 (o1, h) := by
  refine xr_enterI (lv0 := [(0, rfB B 111)]) (by decide) (Nat.le_of_ble_eq_true rfl) rfl (fun g hg C q => ?_)
  subst hg
  exact ebX10_fault_0 C H0 q hf
theorem dX10_isPin_0 : decode cX10_isPin 0 = .ok (.iload_n 1, 1) := by decide +kernel
theorem dX10_isPin_1 : decode cX10_isPin 1 = .ok (.i2l, 1) := by decide +kernel
theorem dX10_isPin_2 : decode cX10_isPin 2 = .ok (.lconst 0, 1) := by decide +kernel
theorem dX10_isPin_3 : decode cX10_isPin 3 = .ok (.aload_n 0, 1) := by decide +kernel
theorem dX10_isPin_4 : decode cX10_isPin 4 = .ok (.getfield 7, 3) := by decide +kernel
theorem dX10_isPin_7 : decode cX10_isPin 7 = .ok (.iconst 2, 1) := by decide +kernel
theorem dX10_isPin_8 : decode cX10_isPin 8 = .ok (.iaload, 1) := by decide +kernel
theorem dX10_isPin_9 : decode cX10_isPin 9 = .ok (.iconst 1, 1) := by decide +kernel
theorem dX10_isPin_10 : decode cX10_isPin 10 = .ok (.isub, 1) := by decide +kernel
theorem dX10_isPin_11 : decode cX10_isPin 11 = .ok (.i2l, 1) := by decide +kernel
theorem dX10_isPin_12 : decode cX10_isPin 12 = .ok (.invokestatic 48, 3) := by decide +kernel
theorem dX10_isPin_15 : decode cX10_isPin 15 = .ok (.ireturn, 1) := by decide +kernel
/-! BumperBallsModel.isPin(I)Z -/
def fnX10_isPin (I0 : Mem) (p1 : Int32) : Option (Int32 × Mem) :=
  ck (inb 2 164) <| ob (fnX10_in I0 (p1.toInt64) 0 (((I0 112 (ix 2)) - 1).toInt64)) fun ⟨r4, I3⟩ => ck (zb r4) <| some (r4, I3)
set_option maxRecDepth 20000 in
set_option maxHeartbeats 2000000 in
theorem ebX10_isPin_0 {g : Cfg} (C : Cx g RX10 cX10_isPin 2 1 25 0 0) {h : Shp} (H0 : MAt h) {r1 : Int32} {o1 : Mem} (q : QI g (some Jvm.ClassFile.FieldType.boolean) 0 0 r1 (o1, h)) {I0 : Mem} {p1 : Int32} (hf : fnX10_isPin I0 p1 = some (r1, o1)) : XE g 0 0 (I0, h) 0 [(0, rf g 111), (1, .int p1)] [] := by
  unfold fnX10_isPin at hf
  refine xr_iload_n C dX10_isPin_0 1 rfl rfl ?_
  refine xr_i2l C dX10_isPin_1 ?_
  refine xr_lconst (v := 0) C dX10_isPin_2 (by decide) ?_
  refine xr_aload_n C dX10_isPin_3 0 rfl rfl ?_
  refine xr_getr C Kd10 (k := 0) (by decide) rfl wk_821 rfl H0.1 H0.2.1.1 dX10_isPin_4 ?_
  refine xr_iconst (v := 2) C dX10_isPin_7 (by decide) ?_
  obtain ⟨i1, hf⟩ := ck_x hf
  refine xr_iald C H0.2.1.2 i1 dX10_isPin_8 ?_
  refine xr_iconst (v := 1) C dX10_isPin_9 (by decide) ?_
  refine xr_isub C dX10_isPin_10 ?_
  refine xr_i2l C dX10_isPin_11 ?_
  obtain ⟨⟨r4, I3⟩, h2, hf⟩ := ob_x hf
  refine xr_callSI C [.long (p1.toInt64), .long 0, .long (((I0 112 (ix 2)) - 1).toInt64)] lkX10_48 (kX10_in h2) rfl (Nat.le_of_ble_eq_true rfl) rfl dX10_isPin_12 ⟨by decide, by decide, by decide⟩ rfl ?_
  obtain ⟨z5, hf⟩ := ck_x hf
  exact xr_ireturn C q rfl (zb_ok z5).1 dX10_isPin_15 (so_1 hf) (so_w hf)
theorem kX10_isPin {B : Bs} {h : Shp} (H0 : MAt h) {I0 : Mem} {p1 : Int32} {r1 : Int32} {o1 : Mem} (hf : fnX10_isPin I0 p1 = some (r1, o1)) : CtrI B yX10_isPin cX10_isPin 2 (some Jvm.ClassFile.FieldType.boolean) 1 25 0 0 [rfB B 111, .int p1] (I0, h) r1 (o1, h) := by
  refine xr_enterI (lv0 := [(0, rfB B 111), (1, .int p1)]) (by decide) (Nat.le_of_ble_eq_true rfl) rfl (fun g hg C q => ?_)
  subst hg
  exact ebX10_isPin_0 C H0 q hf
theorem dX10_pinAt_0 : decode cX10_pinAt 0 = .ok (.ldc 19, 2) := by decide +kernel
theorem dX10_pinAt_2 : decode cX10_pinAt 2 = .ok (.istore_n 2, 1) := by decide +kernel
theorem dX10_pinAt_3 : decode cX10_pinAt 3 = .ok (.iconst 0, 1) := by decide +kernel
theorem dX10_pinAt_4 : decode cX10_pinAt 4 = .ok (.istore_n 3, 1) := by decide +kernel
theorem dX10_pinAt_5 : decode cX10_pinAt 5 = .ok (.iload_n 3, 1) := by decide +kernel
theorem dX10_pinAt_6 : decode cX10_pinAt 6 = .ok (.aload_n 0, 1) := by decide +kernel
theorem dX10_pinAt_7 : decode cX10_pinAt 7 = .ok (.getfield 7, 3) := by decide +kernel
theorem dX10_pinAt_10 : decode cX10_pinAt 10 = .ok (.iconst 2, 1) := by decide +kernel
theorem dX10_pinAt_11 : decode cX10_pinAt 11 = .ok (.iaload, 1) := by decide +kernel
theorem dX10_pinAt_12 : decode cX10_pinAt 12 = .ok (.if_icmp .ge 31, 3) := by decide +kernel
theorem dX10_pinAt_15 : decode cX10_pinAt 15 = .ok (.aload_n 0, 1) := by decide +kernel
theorem dX10_pinAt_16 : decode cX10_pinAt 16 = .ok (.getfield 7, 3) := by decide +kernel
theorem dX10_pinAt_19 : decode cX10_pinAt 19 = .ok (.iconst 3, 1) := by decide +kernel
theorem dX10_pinAt_20 : decode cX10_pinAt 20 = .ok (.iconst 4, 1) := by decide +kernel
theorem dX10_pinAt_21 : decode cX10_pinAt 21 = .ok (.iload_n 3, 1) := by decide +kernel
theorem dX10_pinAt_22 : decode cX10_pinAt 22 = .ok (.imul, 1) := by decide +kernel
theorem dX10_pinAt_23 : decode cX10_pinAt 23 = .ok (.iadd, 1) := by decide +kernel
theorem dX10_pinAt_24 : decode cX10_pinAt 24 = .ok (.iconst 1, 1) := by decide +kernel
theorem dX10_pinAt_25 : decode cX10_pinAt 25 = .ok (.iadd, 1) := by decide +kernel
theorem dX10_pinAt_26 : decode cX10_pinAt 26 = .ok (.iaload, 1) := by decide +kernel
theorem dX10_pinAt_27 : decode cX10_pinAt 27 = .ok (.iload_n 1, 1) := by decide +kernel
theorem dX10_pinAt_28 : decode cX10_pinAt 28 = .ok (.if_icmp .ne 7, 3) := by decide +kernel
theorem dX10_pinAt_31 : decode cX10_pinAt 31 = .ok (.iload_n 3, 1) := by decide +kernel
theorem dX10_pinAt_32 : decode cX10_pinAt 32 = .ok (.goto 4, 3) := by decide +kernel
theorem dX10_pinAt_35 : decode cX10_pinAt 35 = .ok (.iload_n 2, 1) := by decide +kernel
theorem dX10_pinAt_36 : decode cX10_pinAt 36 = .ok (.istore_n 2, 1) := by decide +kernel
theorem dX10_pinAt_37 : decode cX10_pinAt 37 = .ok (.iinc 3 1, 3) := by decide +kernel
theorem dX10_pinAt_40 : decode cX10_pinAt 40 = .ok (.goto (-35), 3) := by decide +kernel
theorem dX10_pinAt_43 : decode cX10_pinAt 43 = .ok (.iload_n 2, 1) := by decide +kernel
theorem dX10_pinAt_44 : decode cX10_pinAt 44 = .ok (.ireturn, 1) := by decide +kernel
/-! BumperBallsModel.pinAt(I)I -/
def fnX10_pinAt_36 (rec5 : Mem → Int32 → Int32 → Int32 → Option (Int32 × Mem)) (I0 : Mem) (l1 : Int32) (l3 : Int32) (t0 : Int32) : Option (Int32 × Mem) :=
  bnd (l3 + 1) fun v1 => rec5 I0 l1 t0 v1
set_option maxRecDepth 20000 in
set_option maxHeartbeats 2000000 in
theorem ebX10_pinAt_36 {g : Cfg} (C : Cx g RX10 cX10_pinAt 4 0 0 0 0) {h : Shp} (H0 : MAt h) {r1 : Int32} {o1 : Mem} {rec5 : Mem → Int32 → Int32 → Int32 → Option (Int32 × Mem)} (ih5 : ∀ (I0 : Mem) (l1 : Int32) (l2 : Int32) (l3 : Int32), rec5 I0 l1 l2 l3 = some (r1, o1) → XE g 0 0 (I0, h) 5 [(0, rf g 111), (1, .int l1), (2, .int l2), (3, .int l3)] []) (q : QI g (some Jvm.ClassFile.FieldType.int) 0 0 r1 (o1, h)) {I0 : Mem} {l1 : Int32} {l3 : Int32} {t0 : Int32} (hf : fnX10_pinAt_36 rec5 I0 l1 l3 t0 = some (r1, o1)) : XE g 0 0 (I0, h) 36 [(0, rf g 111), (1, .int l1), (3, .int l3)] [.int t0] := by
  unfold fnX10_pinAt_36 at hf
  refine xr_istore_n C dX10_pinAt_36 rfl (by decide) rfl ?_
  obtain ⟨v1, ev1, hf⟩ := bnd_x hf
  refine xr_iinc (k := 3) (v := v1) C dX10_pinAt_37 rfl (by rw [ev1]; rfl) (by decide) rfl ?_
  refine xr_goto (tgt := 5) C dX10_pinAt_40 (by decide) ?_
  refine xr_lv [2, 3, 1, 0] rfl ?_
  exact ih5 _ _ _ _ hf
def fnX10_pinAt_5b (rec5 : Mem → Int32 → Int32 → Int32 → Option (Int32 × Mem)) (I0 : Mem) (l1 : Int32) (l2 : Int32) (l3 : Int32) : Option (Int32 × Mem) :=
  ck (inb 2 164) <| if (I0 112 (ix 2)) ≤ l3 then (some (l2, I0)) else (ck (inb (((3 : Int32) + ((4 : Int32) * l3)) + 1) 164) <| if (I0 112 (ix (((3 : Int32) + ((4 : Int32) * l3)) + 1))) = l1 then (fnX10_pinAt_36 rec5 I0 l1 l3 l3) else (fnX10_pinAt_36 rec5 I0 l1 l3 l2))
def fnX10_pinAt_5 : Nat → Mem → Int32 → Int32 → Int32 → Option (Int32 × Mem)
  | 0 => fun _ _ _ _ => none
  | fu + 1 => fnX10_pinAt_5b (fnX10_pinAt_5 fu)
set_option maxRecDepth 20000 in
set_option maxHeartbeats 2000000 in
theorem ebX10_pinAt_5b {g : Cfg} (C : Cx g RX10 cX10_pinAt 4 0 0 0 0) {h : Shp} (H0 : MAt h) {r1 : Int32} {o1 : Mem} {rec5 : Mem → Int32 → Int32 → Int32 → Option (Int32 × Mem)} (q : QI g (some Jvm.ClassFile.FieldType.int) 0 0 r1 (o1, h)) (ih5 : ∀ (I0 : Mem) (l1 : Int32) (l2 : Int32) (l3 : Int32), rec5 I0 l1 l2 l3 = some (r1, o1) → XE g 0 0 (I0, h) 5 [(0, rf g 111), (1, .int l1), (2, .int l2), (3, .int l3)] []) {I0 : Mem} {l1 : Int32} {l2 : Int32} {l3 : Int32} (hf : fnX10_pinAt_5b rec5 I0 l1 l2 l3 = some (r1, o1)) : XE g 0 0 (I0, h) 5 [(0, rf g 111), (1, .int l1), (2, .int l2), (3, .int l3)] [] := by
  unfold fnX10_pinAt_5b at hf
  refine xr_iload_n C dX10_pinAt_5 3 rfl rfl ?_
  refine xr_aload_n C dX10_pinAt_6 0 rfl rfl ?_
  refine xr_getr C Kd10 (k := 0) (by decide) rfl wk_821 rfl H0.1 H0.2.1.1 dX10_pinAt_7 ?_
  refine xr_iconst (v := 2) C dX10_pinAt_10 (by decide) ?_
  obtain ⟨i1, hf⟩ := ck_x hf
  refine xr_iald C H0.2.1.2 i1 dX10_pinAt_11 ?_
  refine xr_icmp_ge (tgt := 43) C dX10_pinAt_12 (by decide) hf (fun c2 hf => ?_) (fun c2 hf => ?_)
  · refine xr_iload_n C dX10_pinAt_43 2 rfl rfl ?_
    exact xr_ireturn C q rfl rfl dX10_pinAt_44 (so_1 hf) (so_w hf)
  · refine xr_aload_n C dX10_pinAt_15 0 rfl rfl ?_
    refine xr_getr C Kd10 (k := 0) (by decide) rfl wk_821 rfl H0.1 H0.2.1.1 dX10_pinAt_16 ?_
    refine xr_iconst (v := 3) C dX10_pinAt_19 (by decide) ?_
    refine xr_iconst (v := 4) C dX10_pinAt_20 (by decide) ?_
    refine xr_iload_n C dX10_pinAt_21 3 rfl rfl ?_
    refine xr_imul C dX10_pinAt_22 ?_
    refine xr_iadd C dX10_pinAt_23 ?_
    refine xr_iconst (v := 1) C dX10_pinAt_24 (by decide) ?_
    refine xr_iadd C dX10_pinAt_25 ?_
    obtain ⟨i3, hf⟩ := ck_x hf
    refine xr_iald C H0.2.1.2 i3 dX10_pinAt_26 ?_
    refine xr_iload_n C dX10_pinAt_27 1 rfl rfl ?_
    refine xr_icmp_ne (tgt := 35) C dX10_pinAt_28 (by decide) hf (fun c4 hf => ?_) (fun c4 hf => ?_)
    · refine xr_iload_n C dX10_pinAt_35 2 rfl rfl ?_
      refine xr_lv [0, 1, 3] rfl ?_
      exact ebX10_pinAt_36 C H0 ih5 q hf
    · refine xr_iload_n C dX10_pinAt_31 3 rfl rfl ?_
      refine xr_goto (tgt := 36) C dX10_pinAt_32 (by decide) ?_
      refine xr_lv [0, 1, 3] rfl ?_
      exact ebX10_pinAt_36 C H0 ih5 q hf
theorem ebX10_pinAt_5 {g : Cfg} (C : Cx g RX10 cX10_pinAt 4 0 0 0 0) {h : Shp} (H0 : MAt h) {r1 : Int32} {o1 : Mem} (q : QI g (some Jvm.ClassFile.FieldType.int) 0 0 r1 (o1, h)) : ∀ (fu : Nat) {I0 : Mem} {l1 : Int32} {l2 : Int32} {l3 : Int32} (hf : fnX10_pinAt_5 fu I0 l1 l2 l3 = some (r1, o1)), XE g 0 0 (I0, h) 5 [(0, rf g 111), (1, .int l1), (2, .int l2), (3, .int l3)] [] := by
  intro fu
  induction fu with
  | zero =>
    intro I0 l1 l2 l3 hf
    cases hf
  | succ fu ihn =>
    intro I0 l1 l2 l3 hf
    exact ebX10_pinAt_5b C H0 q (fun _ _ _ _ hf => ihn hf) hf
def fnX10_pinAt (I0 : Mem) (p1 : Int32) : Option (Int32 × Mem) :=
  fnX10_pinAt_5 FU I0 p1 (-1000000) 0
set_option maxRecDepth 20000 in
set_option maxHeartbeats 2000000 in
theorem ebX10_pinAt_0 {g : Cfg} (C : Cx g RX10 cX10_pinAt 4 0 0 0 0) {h : Shp} (H0 : MAt h) {r1 : Int32} {o1 : Mem} (q : QI g (some Jvm.ClassFile.FieldType.int) 0 0 r1 (o1, h)) {I0 : Mem} {p1 : Int32} (hf : fnX10_pinAt I0 p1 = some (r1, o1)) : XE g 0 0 (I0, h) 0 [(0, rf g 111), (1, .int p1)] [] := by
  unfold fnX10_pinAt at hf
  refine xr_ldc C wk_820 dX10_pinAt_0 ?_
  refine xr_istore_n C dX10_pinAt_2 rfl (by decide) rfl ?_
  refine xr_iconst (v := 0) C dX10_pinAt_3 (by decide) ?_
  refine xr_istore_n C dX10_pinAt_4 rfl (by decide) rfl ?_
  refine xr_lv [2, 3, 1, 0] rfl ?_
  exact ebX10_pinAt_5 C H0 q _ hf
theorem kX10_pinAt {B : Bs} {h : Shp} (H0 : MAt h) {I0 : Mem} {p1 : Int32} {r1 : Int32} {o1 : Mem} (hf : fnX10_pinAt I0 p1 = some (r1, o1)) : CtrI B yX10_pinAt cX10_pinAt 4 (some Jvm.ClassFile.FieldType.int) 0 0 0 0 [rfB B 111, .int p1] (I0, h) r1 (o1, h) := by
  refine xr_enterI (lv0 := [(0, rfB B 111), (1, .int p1)]) (by decide) (Nat.le_of_ble_eq_true rfl) rfl (fun g hg C q => ?_)
  subst hg
  exact ebX10_pinAt_0 C H0 q hf
theorem dX10_turns_0 : decode cX10_turns 0 = .ok (.aload_n 0, 1) := by decide +kernel
theorem dX10_turns_1 : decode cX10_turns 1 = .ok (.getfield 7, 3) := by decide +kernel
theorem dX10_turns_4 : decode cX10_turns 4 = .ok (.iconst 3, 1) := by decide +kernel
theorem dX10_turns_5 : decode cX10_turns 5 = .ok (.iconst 4, 1) := by decide +kernel
theorem dX10_turns_6 : decode cX10_turns 6 = .ok (.iload_n 2, 1) := by decide +kernel
theorem dX10_turns_7 : decode cX10_turns 7 = .ok (.imul, 1) := by decide +kernel
theorem dX10_turns_8 : decode cX10_turns 8 = .ok (.iadd, 1) := by decide +kernel
theorem dX10_turns_9 : decode cX10_turns 9 = .ok (.iaload, 1) := by decide +kernel
theorem dX10_turns_10 : decode cX10_turns 10 = .ok (.tableswitch 38 1 4 #[30, 32, 34, 36], 30) := by decide +kernel
theorem dX10_turns_40 : decode cX10_turns 40 = .ok (.iconst 2, 1) := by decide +kernel
theorem dX10_turns_41 : decode cX10_turns 41 = .ok (.ireturn, 1) := by decide +kernel
theorem dX10_turns_42 : decode cX10_turns 42 = .ok (.iconst 3, 1) := by decide +kernel
theorem dX10_turns_43 : decode cX10_turns 43 = .ok (.ireturn, 1) := by decide +kernel
theorem dX10_turns_44 : decode cX10_turns 44 = .ok (.iconst 1, 1) := by decide +kernel
theorem dX10_turns_45 : decode cX10_turns 45 = .ok (.ireturn, 1) := by decide +kernel
theorem dX10_turns_46 : decode cX10_turns 46 = .ok (.iconst 0, 1) := by decide +kernel
theorem dX10_turns_47 : decode cX10_turns 47 = .ok (.ireturn, 1) := by decide +kernel
theorem dX10_turns_48 : decode cX10_turns 48 = .ok (.aload_n 0, 1) := by decide +kernel
theorem dX10_turns_49 : decode cX10_turns 49 = .ok (.getfield 7, 3) := by decide +kernel
theorem dX10_turns_52 : decode cX10_turns 52 = .ok (.iload_n 1, 1) := by decide +kernel
theorem dX10_turns_53 : decode cX10_turns 53 = .ok (.bipush 34, 2) := by decide +kernel
theorem dX10_turns_55 : decode cX10_turns 55 = .ok (.iadd, 1) := by decide +kernel
theorem dX10_turns_56 : decode cX10_turns 56 = .ok (.iaload, 1) := by decide +kernel
theorem dX10_turns_57 : decode cX10_turns 57 = .ok (.iload_n 2, 1) := by decide +kernel
theorem dX10_turns_58 : decode cX10_turns 58 = .ok (.invokestatic 161, 3) := by decide +kernel
theorem dX10_turns_61 : decode cX10_turns 61 = .ok (.ifCond .eq 7, 3) := by decide +kernel
theorem dX10_turns_64 : decode cX10_turns 64 = .ok (.iconst 0, 1) := by decide +kernel
theorem dX10_turns_65 : decode cX10_turns 65 = .ok (.goto 4, 3) := by decide +kernel
theorem dX10_turns_68 : decode cX10_turns 68 = .ok (.iconst 2, 1) := by decide +kernel
theorem dX10_turns_69 : decode cX10_turns 69 = .ok (.ireturn, 1) := by decide +kernel
theorem lkX10_161 : LkS "BumperBallsModel" 161 yX10_has cX10_has 2 (some Jvm.ClassFile.FieldType.boolean) 2 := ⟨wk_1036, wk_11, wk_1035, ⟨by decide +kernel, by decide +kernel, by decide +kernel⟩, wk_1034⟩
/-! BumperBallsModel.turns(II)I -/
def fnX10_turns_69 (I0 : Mem) (t0 : Int32) : Option (Int32 × Mem) :=
  some (t0, I0)
set_option maxRecDepth 20000 in
set_option maxHeartbeats 2000000 in
theorem ebX10_turns_69 {g : Cfg} (C : Cx g RX10 cX10_turns 3 1 21 0 0) {h : Shp} (H0 : MAt h) {r1 : Int32} {o1 : Mem} (q : QI g (some Jvm.ClassFile.FieldType.int) 0 0 r1 (o1, h)) {I0 : Mem} {t0 : Int32} (hf : fnX10_turns_69 I0 t0 = some (r1, o1)) : XE g 0 0 (I0, h) 69 [] [.int t0] := by
  unfold fnX10_turns_69 at hf
  exact xr_ireturn C q rfl rfl dX10_turns_69 (so_1 hf) (so_w hf)
def fnX10_turns (I0 : Mem) (p1 : Int32) (p2 : Int32) : Option (Int32 × Mem) :=
  ck (inb ((3 : Int32) + ((4 : Int32) * p2)) 164) <| if (I0 112 (ix ((3 : Int32) + ((4 : Int32) * p2)))) = 1 then (some (2, I0)) else if (I0 112 (ix ((3 : Int32) + ((4 : Int32) * p2)))) = 2 then (some (3, I0)) else if (I0 112 (ix ((3 : Int32) + ((4 : Int32) * p2)))) = 3 then (some (1, I0)) else if (I0 112 (ix ((3 : Int32) + ((4 : Int32) * p2)))) = 4 then (some (0, I0)) else (ck (inb (p1 + 34) 164) <| ob (fnX10_has I0 (I0 112 (ix (p1 + 34))) p2) fun ⟨r6, I5⟩ => if r6 = 0 then (fnX10_turns_69 I5 2) else (fnX10_turns_69 I5 0))
set_option maxRecDepth 20000 in
set_option maxHeartbeats 2000000 in
theorem ebX10_turns_0 {g : Cfg} (C : Cx g RX10 cX10_turns 3 1 21 0 0) {h : Shp} (H0 : MAt h) {r1 : Int32} {o1 : Mem} (q : QI g (some Jvm.ClassFile.FieldType.int) 0 0 r1 (o1, h)) {I0 : Mem} {p1 : Int32} {p2 : Int32} (hf : fnX10_turns I0 p1 p2 = some (r1, o1)) : XE g 0 0 (I0, h) 0 [(0, rf g 111), (1, .int p1), (2, .int p2)] [] := by
  unfold fnX10_turns at hf
  refine xr_aload_n C dX10_turns_0 0 rfl rfl ?_
  refine xr_getr C Kd10 (k := 0) (by decide) rfl wk_821 rfl H0.1 H0.2.1.1 dX10_turns_1 ?_
  refine xr_iconst (v := 3) C dX10_turns_4 (by decide) ?_
  refine xr_iconst (v := 4) C dX10_turns_5 (by decide) ?_
  refine xr_iload_n C dX10_turns_6 2 rfl rfl ?_
  refine xr_imul C dX10_turns_7 ?_
  refine xr_iadd C dX10_turns_8 ?_
  obtain ⟨i1, hf⟩ := ck_x hf
  refine xr_iald C H0.2.1.2 i1 dX10_turns_9 ?_
  rcases if_or hf with ⟨c2, hf⟩ | ⟨c2_0, hf⟩
  · refine xr_swIn (v := 1) (tgt := 40) C dX10_turns_10 c2 (by decide) (by decide) rfl (by decide) ?_
    refine xr_iconst (v := 2) C dX10_turns_40 (by decide) ?_
    exact xr_ireturn C q rfl rfl dX10_turns_41 (so_1 hf) (so_w hf)
  rcases if_or hf with ⟨c2, hf⟩ | ⟨c2_1, hf⟩
  · refine xr_swIn (v := 2) (tgt := 42) C dX10_turns_10 c2 (by decide) (by decide) rfl (by decide) ?_
    refine xr_iconst (v := 3) C dX10_turns_42 (by decide) ?_
    exact xr_ireturn C q rfl rfl dX10_turns_43 (so_1 hf) (so_w hf)
  rcases if_or hf with ⟨c2, hf⟩ | ⟨c2_2, hf⟩
  · refine xr_swIn (v := 3) (tgt := 44) C dX10_turns_10 c2 (by decide) (by decide) rfl (by decide) ?_
    refine xr_iconst (v := 1) C dX10_turns_44 (by decide) ?_
    exact xr_ireturn C q rfl rfl dX10_turns_45 (so_1 hf) (so_w hf)
  rcases if_or hf with ⟨c2, hf⟩ | ⟨c2_3, hf⟩
  · refine xr_swIn (v := 4) (tgt := 46) C dX10_turns_10 c2 (by decide) (by decide) rfl (by decide) ?_
    refine xr_iconst (v := 0) C dX10_turns_46 (by decide) ?_
    exact xr_ireturn C q rfl rfl dX10_turns_47 (so_1 hf) (so_w hf)
  refine xr_swOut (tgt := 48) C dX10_turns_10 (sw_out14 c2_0 c2_1 c2_2 c2_3) (by decide) ?_
  refine xr_aload_n C dX10_turns_48 0 rfl rfl ?_
  refine xr_getr C Kd10 (k := 0) (by decide) rfl wk_821 rfl H0.1 H0.2.1.1 dX10_turns_49 ?_
  refine xr_iload_n C dX10_turns_52 1 rfl rfl ?_
  refine xr_bipush (v := 34) C dX10_turns_53 (by decide) ?_
  refine xr_iadd C dX10_turns_55 ?_
  obtain ⟨i3, hf⟩ := ck_x hf
  refine xr_iald C H0.2.1.2 i3 dX10_turns_56 ?_
  refine xr_iload_n C dX10_turns_57 2 rfl rfl ?_
  obtain ⟨⟨r6, I5⟩, h4, hf⟩ := ob_x hf
  refine xr_callSI C [.int (I0 112 (ix (p1 + 34))), .int p2] lkX10_161 (kX10_has h4) rfl (Nat.le_of_ble_eq_true rfl) rfl dX10_turns_58 ⟨by decide, by decide, by decide⟩ rfl ?_
  refine xr_if_eq (tgt := 68) C dX10_turns_61 (by decide) hf (fun c7 hf => ?_) (fun c7 hf => ?_)
  · refine xr_iconst (v := 2) C dX10_turns_68 (by decide) ?_
    refine xr_lv [] rfl ?_
    exact ebX10_turns_69 C H0 q hf
  · refine xr_iconst (v := 0) C dX10_turns_64 (by decide) ?_
    refine xr_goto (tgt := 69) C dX10_turns_65 (by decide) ?_
    refine xr_lv [] rfl ?_
    exact ebX10_turns_69 C H0 q hf
theorem kX10_turns {B : Bs} {h : Shp} (H0 : MAt h) {I0 : Mem} {p1 : Int32} {p2 : Int32} {r1 : Int32} {o1 : Mem} (hf : fnX10_turns I0 p1 p2 = some (r1, o1)) : CtrI B yX10_turns cX10_turns 3 (some Jvm.ClassFile.FieldType.int) 1 21 0 0 [rfB B 111, .int p1, .int p2] (I0, h) r1 (o1, h) := by
  refine xr_enterI (lv0 := [(0, rfB B 111), (1, .int p1), (2, .int p2)]) (by decide) (Nat.le_of_ble_eq_true rfl) rfl (fun g hg C q => ?_)
  subst hg
  exact ebX10_turns_0 C H0 q hf
