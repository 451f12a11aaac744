theorem dX4_step_0 : decode cX4_step 0 = .ok (.aload_n 0, 1) := by decide +kernel
theorem dX4_step_1 : decode cX4_step 1 = .ok (.dup, 1) := by decide +kernel
theorem dX4_step_2 : decode cX4_step 2 = .ok (.getfield 34, 3) := by decide +kernel
theorem dX4_step_5 : decode cX4_step 5 = .ok (.iconst 1, 1) := by decide +kernel
theorem dX4_step_6 : decode cX4_step 6 = .ok (.iadd, 1) := by decide +kernel
theorem dX4_step_7 : decode cX4_step 7 = .ok (.putfield 34, 3) := by decide +kernel
theorem dX4_step_10 : decode cX4_step 10 = .ok (.aload_n 0, 1) := by decide +kernel
theorem dX4_step_11 : decode cX4_step 11 = .ok (.iconst 0, 1) := by decide +kernel
theorem dX4_step_12 : decode cX4_step 12 = .ok (.aload_n 0, 1) := by decide +kernel
theorem dX4_step_13 : decode cX4_step 13 = .ok (.getfield 22, 3) := by decide +kernel
theorem dX4_step_16 : decode cX4_step 16 = .ok (.iconst 1, 1) := by decide +kernel
theorem dX4_step_17 : decode cX4_step 17 = .ok (.isub, 1) := by decide +kernel
theorem dX4_step_18 : decode cX4_step 18 = .ok (.invokestatic 58, 3) := by decide +kernel
theorem dX4_step_21 : decode cX4_step 21 = .ok (.putfield 22, 3) := by decide +kernel
theorem dX4_step_24 : decode cX4_step 24 = .ok (.aload_n 0, 1) := by decide +kernel
theorem dX4_step_25 : decode cX4_step 25 = .ok (.iconst (-1), 1) := by decide +kernel
theorem dX4_step_26 : decode cX4_step 26 = .ok (.putfield 41, 3) := by decide +kernel
theorem dX4_step_29 : decode cX4_step 29 = .ok (.aload_n 0, 1) := by decide +kernel
theorem dX4_step_30 : decode cX4_step 30 = .ok (.getfield 15, 3) := by decide +kernel
theorem dX4_step_33 : decode cX4_step 33 = .ok (.iconst 2, 1) := by decide +kernel
theorem dX4_step_34 : decode cX4_step 34 = .ok (.if_icmp .ne 20, 3) := by decide +kernel
theorem dX4_step_37 : decode cX4_step 37 = .ok (.aload_n 0, 1) := by decide +kernel
theorem dX4_step_38 : decode cX4_step 38 = .ok (.getfield 9, 3) := by decide +kernel
theorem dX4_step_41 : decode cX4_step 41 = .ok (.bipush 7, 2) := by decide +kernel
theorem dX4_step_43 : decode cX4_step 43 = .ok (.if_icmp .ge 11, 3) := by decide +kernel
theorem dX4_step_46 : decode cX4_step 46 = .ok (.aload_n 0, 1) := by decide +kernel
theorem dX4_step_47 : decode cX4_step 47 = .ok (.iconst 1, 1) := by decide +kernel
theorem dX4_step_48 : decode cX4_step 48 = .ok (.putfield 18, 3) := by decide +kernel
theorem dX4_step_51 : decode cX4_step 51 = .ok (.goto 78, 3) := by decide +kernel
theorem dX4_step_54 : decode cX4_step 54 = .ok (.aload_n 0, 1) := by decide +kernel
theorem dX4_step_55 : decode cX4_step 55 = .ok (.invokevirtual 64, 3) := by decide +kernel
theorem dX4_step_58 : decode cX4_step 58 = .ok (.ifCond .eq 11, 3) := by decide +kernel
theorem dX4_step_61 : decode cX4_step 61 = .ok (.aload_n 0, 1) := by decide +kernel
theorem dX4_step_62 : decode cX4_step 62 = .ok (.iconst 2, 1) := by decide +kernel
theorem dX4_step_63 : decode cX4_step 63 = .ok (.invokevirtual 68, 3) := by decide +kernel
theorem dX4_step_66 : decode cX4_step 66 = .ok (.goto 63, 3) := by decide +kernel
theorem dX4_step_69 : decode cX4_step 69 = .ok (.aload_n 0, 1) := by decide +kernel
theorem dX4_step_70 : decode cX4_step 70 = .ok (.dup, 1) := by decide +kernel
theorem dX4_step_71 : decode cX4_step 71 = .ok (.getfield 9, 3) := by decide +kernel
theorem dX4_step_74 : decode cX4_step 74 = .ok (.aload_n 0, 1) := by decide +kernel
theorem dX4_step_75 : decode cX4_step 75 = .ok (.getfield 15, 3) := by decide +kernel
theorem dX4_step_78 : decode cX4_step 78 = .ok (.ifCond .ne 8, 3) := by decide +kernel
theorem dX4_step_81 : decode cX4_step 81 = .ok (.bipush 7, 2) := by decide +kernel
theorem dX4_step_83 : decode cX4_step 83 = .ok (.goto 29, 3) := by decide +kernel
theorem dX4_step_86 : decode cX4_step 86 = .ok (.aload_n 0, 1) := by decide +kernel
theorem dX4_step_87 : decode cX4_step 87 = .ok (.getfield 15, 3) := by decide +kernel
theorem dX4_step_90 : decode cX4_step 90 = .ok (.iconst 1, 1) := by decide +kernel
theorem dX4_step_91 : decode cX4_step 91 = .ok (.if_icmp .ne 7, 3) := by decide +kernel
theorem dX4_step_94 : decode cX4_step 94 = .ok (.iconst 1, 1) := by decide +kernel
theorem dX4_step_95 : decode cX4_step 95 = .ok (.goto 17, 3) := by decide +kernel
theorem dX4_step_98 : decode cX4_step 98 = .ok (.aload_n 0, 1) := by decide +kernel
theorem dX4_step_99 : decode cX4_step 99 = .ok (.getfield 15, 3) := by decide +kernel
theorem dX4_step_102 : decode cX4_step 102 = .ok (.iconst 2, 1) := by decide +kernel
theorem dX4_step_103 : decode cX4_step 103 = .ok (.if_icmp .ne 8, 3) := by decide +kernel
theorem dX4_step_106 : decode cX4_step 106 = .ok (.bipush (-7), 2) := by decide +kernel
theorem dX4_step_108 : decode cX4_step 108 = .ok (.goto 4, 3) := by decide +kernel
theorem dX4_step_111 : decode cX4_step 111 = .ok (.iconst (-1), 1) := by decide +kernel
theorem dX4_step_112 : decode cX4_step 112 = .ok (.iadd, 1) := by decide +kernel
theorem dX4_step_113 : decode cX4_step 113 = .ok (.putfield 9, 3) := by decide +kernel
theorem dX4_step_116 : decode cX4_step 116 = .ok (.aload_n 0, 1) := by decide +kernel
theorem dX4_step_117 : decode cX4_step 117 = .ok (.aload_n 1, 1) := by decide +kernel
theorem dX4_step_118 : decode cX4_step 118 = .ok (.aload_n 1, 1) := by decide +kernel
theorem dX4_step_119 : decode cX4_step 119 = .ok (.aload_n 0, 1) := by decide +kernel
theorem dX4_step_120 : decode cX4_step 120 = .ok (.getfield 9, 3) := by decide +kernel
theorem dX4_step_123 : decode cX4_step 123 = .ok (.invokevirtual 72, 3) := by decide +kernel
theorem dX4_step_126 : decode cX4_step 126 = .ok (.invokevirtual 78, 3) := by decide +kernel
theorem dX4_step_129 : decode cX4_step 129 = .ok (.return_, 1) := by decide +kernel
theorem lkX4_64 : LkV "BumperBalls$Play" 64 yX4_isAtSide cX4_isAtSide 1 (some Jvm.ClassFile.FieldType.boolean) 0 := ⟨wk_584, wk_5, wk_583, wk_s31, ⟨by decide +kernel, by decide +kernel, by decide +kernel⟩, wk_581⟩
theorem lkX4_72 : LkN "BumperBalls$Play" 72 yX7_pinIn cX7_pinIn 2 (some Jvm.ClassFile.FieldType.int) 1 := ⟨wk_526, wk_4, wk_525, wk_s21, ⟨by decide +kernel, by decide +kernel, by decide +kernel⟩, (List.mem_of_getElem? (i := 93) (by decide +kernel))⟩
theorem lkX4_78 : LkV "BumperBalls$Play" 78 yX4_knock cX4_knock 3 none 2 := ⟨wk_593, wk_5, wk_592, wk_s33, ⟨by decide +kernel, by decide +kernel, by decide +kernel⟩, wk_590⟩
/-! BumperBalls$Play.step(LBumperBalls$Table;)V -/
def fnX4_step_129 (a0 : Nat) (a1 : Nat) (I0 : Mem) : Option Mem :=
  some I0
set_option maxRecDepth 20000 in
set_option maxHeartbeats 2000000 in
theorem ebX4_step_129 {g : Cfg} (C : Cx g RX4 cX4_step 2 3 65 0 0) {h : Shp} {a0 : Nat} {a1 : Nat} (H0 : PlayAt h a0) (H1 : TableAt h a1) {o1 : Mem} (q : QV g 0 0 (o1, h)) {I0 : Mem} (hf : fnX4_step_129 a0 a1 I0 = some o1) : XE g 0 0 (I0, h) 129 [] [] := by
  unfold fnX4_step_129 at hf
  exact xr_return C q dX4_step_129 (so_v hf)
def fnX4_step_112 (a0 : Nat) (a1 : Nat) (I0 : Mem) (t1 : Int32) (t2 : Int32) : Option Mem :=
  bnd (up2 I0 a0 0 (t1 + t2)) fun I1 => ob (fnX7_pinIn a1 I1 (I1 a0 0)) fun ⟨r4, I3⟩ => ob (fnX4_knock a0 a1 I3 r4) fun I6 => fnX4_step_129 a0 a1 I6
set_option maxRecDepth 20000 in
set_option maxHeartbeats 2000000 in
theorem ebX4_step_112 {g : Cfg} (C : Cx g RX4 cX4_step 2 3 65 0 0) {h : Shp} {a0 : Nat} {a1 : Nat} (H0 : PlayAt h a0) (H1 : TableAt h a1) {o1 : Mem} (q : QV g 0 0 (o1, h)) {I0 : Mem} {t1 : Int32} {t2 : Int32} (hf : fnX4_step_112 a0 a1 I0 t1 t2 = some o1) : XE g 0 0 (I0, h) 112 [(0, rf g a0), (1, rf g a1)] [.int t2, .int t1, rf g a0] := by
  unfold fnX4_step_112 at hf
  refine xr_iadd C dX4_step_112 ?_
  obtain ⟨I1, eI1, hf⟩ := bnd_x hf
  refine xr_putI C Kd4 (k := 0) (by decide) rfl rfl wk_145 rfl rfl rfl H0.1 dX4_step_113 eI1 ?_
  refine xr_aload_n C dX4_step_116 0 rfl rfl ?_
  refine xr_aload_n C dX4_step_117 1 rfl rfl ?_
  refine xr_aload_n C dX4_step_118 1 rfl rfl ?_
  refine xr_aload_n C dX4_step_119 0 rfl rfl ?_
  refine xr_geti C Kd4 (k := 0) (by decide) rfl wk_145 rfl H0.1 dX4_step_120 ?_
  obtain ⟨⟨r4, I3⟩, h2, hf⟩ := ob_x hf
  refine xr_callNI C [.int (I1 a0 0)] lkX4_72 (kX7_pinIn H1 h2) Kd7 rfl H1.1 rfl (Nat.le_of_ble_eq_true rfl) rfl dX4_step_123 ⟨by decide, by decide, by decide⟩ rfl ?_
  obtain ⟨I6, h5, hf⟩ := ob_x hf
  refine xr_callVV C [rf g a1, .int r4] lkX4_78 (kX4_knock H0 H1 h5) Kd4 rfl H0.1 rfl (Nat.le_of_ble_eq_true rfl) rfl dX4_step_126 ⟨by decide, by decide, by decide⟩ rfl ?_
  refine xr_lv [] rfl ?_
  exact ebX4_step_129 C H0 H1 q hf
def fnX4_step_54 (a0 : Nat) (a1 : Nat) (I0 : Mem) : Option Mem :=
  ob (fnX4_isAtSide a0 I0) fun ⟨r3, I2⟩ => if r3 = 0 then (if (I2 a0 1) = 0 then (fnX4_step_112 a0 a1 I2 (I2 a0 0) 7) else (if (I2 a0 1) = 1 then (fnX4_step_112 a0 a1 I2 (I2 a0 0) 1) else (if (I2 a0 1) = 2 then (fnX4_step_112 a0 a1 I2 (I2 a0 0) (-7)) else (fnX4_step_112 a0 a1 I2 (I2 a0 0) (-1))))) else (ob (fnX4_turn a0 I2 2) fun I9 => fnX4_step_129 a0 a1 I9)
set_option maxRecDepth 20000 in
set_option maxHeartbeats 2000000 in
theorem ebX4_step_54 {g : Cfg} (C : Cx g RX4 cX4_step 2 3 65 0 0) {h : Shp} {a0 : Nat} {a1 : Nat} (H0 : PlayAt h a0) (H1 : TableAt h a1) {o1 : Mem} (q : QV g 0 0 (o1, h)) {I0 : Mem} (hf : fnX4_step_54 a0 a1 I0 = some o1) : XE g 0 0 (I0, h) 54 [(0, rf g a0), (1, rf g a1)] [] := by
  unfold fnX4_step_54 at hf
  refine xr_aload_n C dX4_step_54 0 rfl rfl ?_
  obtain ⟨⟨r3, I2⟩, h1, hf⟩ := ob_x hf
  refine xr_callVI C [] lkX4_64 (kX4_isAtSide H0 h1) Kd4 rfl H0.1 rfl (Nat.le_of_ble_eq_true rfl) rfl dX4_step_55 ⟨by decide, by decide, by decide⟩ rfl ?_
  refine xr_if_eq (tgt := 69) C dX4_step_58 (by decide) hf (fun c4 hf => ?_) (fun c4 hf => ?_)
  · refine xr_aload_n C dX4_step_69 0 rfl rfl ?_
    refine xr_dup C dX4_step_70 rfl ?_
    refine xr_geti C Kd4 (k := 0) (by decide) rfl wk_145 rfl H0.1 dX4_step_71 ?_
    refine xr_aload_n C dX4_step_74 0 rfl rfl ?_
    refine xr_geti C Kd4 (k := 1) (by decide) rfl wk_148 rfl H0.1 dX4_step_75 ?_
    refine xr_if_ne (tgt := 86) C dX4_step_78 (by decide) hf (fun c5 hf => ?_) (fun c5 hf => ?_)
    · refine xr_aload_n C dX4_step_86 0 rfl rfl ?_
      refine xr_geti C Kd4 (k := 1) (by decide) rfl wk_148 rfl H0.1 dX4_step_87 ?_
      refine xr_iconst (v := 1) C dX4_step_90 (by decide) ?_
      refine xr_icmp_ne (tgt := 98) C dX4_step_91 (by decide) hf (fun c6 hf => ?_) (fun c6 hf => ?_)
      · refine xr_aload_n C dX4_step_98 0 rfl rfl ?_
        refine xr_geti C Kd4 (k := 1) (by decide) rfl wk_148 rfl H0.1 dX4_step_99 ?_
        refine xr_iconst (v := 2) C dX4_step_102 (by decide) ?_
        refine xr_icmp_ne (tgt := 111) C dX4_step_103 (by decide) hf (fun c7 hf => ?_) (fun c7 hf => ?_)
        · refine xr_iconst (v := (-1)) C dX4_step_111 (by decide) ?_
          exact ebX4_step_112 C H0 H1 q hf
        · refine xr_bipush (v := (-7)) C dX4_step_106 (by decide) ?_
          refine xr_goto (tgt := 112) C dX4_step_108 (by decide) ?_
          exact ebX4_step_112 C H0 H1 q hf
      · refine xr_iconst (v := 1) C dX4_step_94 (by decide) ?_
        refine xr_goto (tgt := 112) C dX4_step_95 (by decide) ?_
        exact ebX4_step_112 C H0 H1 q hf
    · refine xr_bipush (v := 7) C dX4_step_81 (by decide) ?_
      refine xr_goto (tgt := 112) C dX4_step_83 (by decide) ?_
      exact ebX4_step_112 C H0 H1 q hf
  · refine xr_aload_n C dX4_step_61 0 rfl rfl ?_
    refine xr_iconst (v := 2) C dX4_step_62 (by decide) ?_
    obtain ⟨I9, h8, hf⟩ := ob_x hf
    refine xr_callVV C [.int 2] lkX4_68 (kX4_turn H0 h8) Kd4 rfl H0.1 rfl (Nat.le_of_ble_eq_true rfl) rfl dX4_step_63 ⟨by decide, by decide, by decide⟩ rfl ?_
    refine xr_goto (tgt := 129) C dX4_step_66 (by decide) ?_
    refine xr_lv [] rfl ?_
    exact ebX4_step_129 C H0 H1 q hf
def fnX4_step (a0 : Nat) (a1 : Nat) (I0 : Mem) : Option Mem :=
  bnd (up2 I0 a0 7 ((I0 a0 7) + 1)) fun I1 => bnd (up2 I1 a0 3 (mxI 0 ((I1 a0 3) - 1))) fun I2 => bnd (up2 I2 a0 9 (-1)) fun I3 => if (I3 a0 1) = 2 then (if 7 ≤ (I3 a0 0) then (fnX4_step_54 a0 a1 I3) else (bnd (up2 I3 a0 2 1) fun I6 => fnX4_step_129 a0 a1 I6)) else (fnX4_step_54 a0 a1 I3)
set_option maxRecDepth 20000 in
set_option maxHeartbeats 2000000 in
theorem ebX4_step_0 {g : Cfg} (C : Cx g RX4 cX4_step 2 3 65 0 0) {h : Shp} {a0 : Nat} {a1 : Nat} (H0 : PlayAt h a0) (H1 : TableAt h a1) {o1 : Mem} (q : QV g 0 0 (o1, h)) {I0 : Mem} (hf : fnX4_step a0 a1 I0 = some o1) : XE g 0 0 (I0, h) 0 [(0, rf g a0), (1, rf g a1)] [] := by
  unfold fnX4_step at hf
  refine xr_aload_n C dX4_step_0 0 rfl rfl ?_
  refine xr_dup C dX4_step_1 rfl ?_
  refine xr_geti C Kd4 (k := 7) (by decide) rfl wk_163 rfl H0.1 dX4_step_2 ?_
  refine xr_iconst (v := 1) C dX4_step_5 (by decide) ?_
  refine xr_iadd C dX4_step_6 ?_
  obtain ⟨I1, eI1, hf⟩ := bnd_x hf
  refine xr_putI C Kd4 (k := 7) (by decide) rfl rfl wk_163 rfl rfl rfl H0.1 dX4_step_7 eI1 ?_
  refine xr_aload_n C dX4_step_10 0 rfl rfl ?_
  refine xr_iconst (v := 0) C dX4_step_11 (by decide) ?_
  refine xr_aload_n C dX4_step_12 0 rfl rfl ?_
  refine xr_geti C Kd4 (k := 3) (by decide) rfl wk_154 rfl H0.1 dX4_step_13 ?_
  refine xr_iconst (v := 1) C dX4_step_16 (by decide) ?_
  refine xr_isub C dX4_step_17 ?_
  refine xr_max C wk_578 wk_579 wk_17 wk_580 (by decide) (Nat.le_of_ble_eq_true rfl) ⟨Nat.zero_le _, Nat.zero_le _⟩ dX4_step_18 ?_
  obtain ⟨I2, eI2, hf⟩ := bnd_x hf
  refine xr_putI C Kd4 (k := 3) (by decide) rfl rfl wk_154 rfl rfl rfl H0.1 dX4_step_21 eI2 ?_
  refine xr_aload_n C dX4_step_24 0 rfl rfl ?_
  refine xr_iconst (v := (-1)) C dX4_step_25 (by decide) ?_
  obtain ⟨I3, eI3, hf⟩ := bnd_x hf
  refine xr_putI C Kd4 (k := 9) (by decide) rfl rfl wk_168 rfl rfl rfl H0.1 dX4_step_26 eI3 ?_
  refine xr_aload_n C dX4_step_29 0 rfl rfl ?_
  refine xr_geti C Kd4 (k := 1) (by decide) rfl wk_148 rfl H0.1 dX4_step_30 ?_
  refine xr_iconst (v := 2) C dX4_step_33 (by decide) ?_
  refine xr_icmp_ne (tgt := 54) C dX4_step_34 (by decide) hf (fun c4 hf => ?_) (fun c4 hf => ?_)
  · exact ebX4_step_54 C H0 H1 q hf
  · refine xr_aload_n C dX4_step_37 0 rfl rfl ?_
    refine xr_geti C Kd4 (k := 0) (by decide) rfl wk_145 rfl H0.1 dX4_step_38 ?_
    refine xr_bipush (v := 7) C dX4_step_41 (by decide) ?_
    refine xr_icmp_ge (tgt := 54) C dX4_step_43 (by decide) hf (fun c5 hf => ?_) (fun c5 hf => ?_)
    · exact ebX4_step_54 C H0 H1 q hf
    · refine xr_aload_n C dX4_step_46 0 rfl rfl ?_
      refine xr_iconst (v := 1) C dX4_step_47 (by decide) ?_
      obtain ⟨I6, eI6, hf⟩ := bnd_x hf
      refine xr_putI C Kd4 (k := 2) (by decide) rfl rfl wk_151 rfl rfl rfl H0.1 dX4_step_48 eI6 ?_
      refine xr_goto (tgt := 129) C dX4_step_51 (by decide) ?_
      refine xr_lv [] rfl ?_
      exact ebX4_step_129 C H0 H1 q hf
theorem kX4_step {B : Bs} {h : Shp} {a0 : Nat} {a1 : Nat} (H0 : PlayAt h a0) (H1 : TableAt h a1) {I0 : Mem} {o1 : Mem} (hf : fnX4_step a0 a1 I0 = some o1) : CtrV B yX4_step cX4_step 2 3 65 0 0 [rfB B a0, rfB B a1] (I0, h) (o1, h) := by
  refine xr_enterV (lv0 := [(0, rfB B a0), (1, rfB B a1)]) (by decide) (Nat.le_of_ble_eq_true rfl) rfl (fun g hg C q => ?_)
  subst hg
  exact ebX4_step_0 C H0 H1 q hf
theorem dX4_run_0 : decode cX4_run 0 = .ok (.iconst 0, 1) := by decide +kernel
theorem dX4_run_1 : decode cX4_run 1 = .ok (.istore_n 3, 1) := by decide +kernel
theorem dX4_run_2 : decode cX4_run 2 = .ok (.iload_n 3, 1) := by decide +kernel
theorem dX4_run_3 : decode cX4_run 3 = .ok (.iload_n 2, 1) := by decide +kernel
theorem dX4_run_4 : decode cX4_run 4 = .ok (.if_icmp .ge 21, 3) := by decide +kernel
theorem dX4_run_7 : decode cX4_run 7 = .ok (.aload_n 0, 1) := by decide +kernel
theorem dX4_run_8 : decode cX4_run 8 = .ok (.getfield 18, 3) := by decide +kernel
theorem dX4_run_11 : decode cX4_run 11 = .ok (.ifCond .ne 14, 3) := by decide +kernel
theorem dX4_run_14 : decode cX4_run 14 = .ok (.aload_n 0, 1) := by decide +kernel
theorem dX4_run_15 : decode cX4_run 15 = .ok (.aload_n 1, 1) := by decide +kernel
theorem dX4_run_16 : decode cX4_run 16 = .ok (.invokevirtual 54, 3) := by decide +kernel
theorem dX4_run_19 : decode cX4_run 19 = .ok (.iinc 3 1, 3) := by decide +kernel
theorem dX4_run_22 : decode cX4_run 22 = .ok (.goto (-20), 3) := by decide +kernel
theorem dX4_run_25 : decode cX4_run 25 = .ok (.return_, 1) := by decide +kernel
theorem lkX4_54 : LkV "BumperBalls$Play" 54 yX4_step cX4_step 2 none 1 := ⟨wk_577, wk_5, wk_576, wk_s30, ⟨by decide +kernel, by decide +kernel, by decide +kernel⟩, wk_651⟩
/-! BumperBalls$Play.run(LBumperBalls$Table;I)V -/
def fnX4_run_25 (a0 : Nat) (a1 : Nat) (I0 : Mem) : Option Mem :=
  some I0
set_option maxRecDepth 20000 in
set_option maxHeartbeats 2000000 in
theorem ebX4_run_25 {g : Cfg} (C : Cx g RX4 cX4_run 4 4 86 0 0) {h : Shp} {a0 : Nat} {a1 : Nat} (H0 : PlayAt h a0) (H1 : TableAt h a1) {o1 : Mem} (q : QV g 0 0 (o1, h)) {I0 : Mem} (hf : fnX4_run_25 a0 a1 I0 = some o1) : XE g 0 0 (I0, h) 25 [] [] := by
  unfold fnX4_run_25 at hf
  exact xr_return C q dX4_run_25 (so_v hf)
def fnX4_run_2b (a0 : Nat) (a1 : Nat) (rec2 : Mem → Int32 → Int32 → Option Mem) (I0 : Mem) (l2 : Int32) (l3 : Int32) : Option Mem :=
  if l2 ≤ l3 then (fnX4_run_25 a0 a1 I0) else (if (I0 a0 2) = 0 then (ob (fnX4_step a0 a1 I0) fun I4 => bnd (l3 + 1) fun v5 => rec2 I4 l2 v5) else (fnX4_run_25 a0 a1 I0))
def fnX4_run_2 (a0 : Nat) (a1 : Nat) : Nat → Mem → Int32 → Int32 → Option Mem
  | 0 => fun _ _ _ => none
  | fu + 1 => fnX4_run_2b a0 a1 (fnX4_run_2 a0 a1 fu)
set_option maxRecDepth 20000 in
set_option maxHeartbeats 2000000 in
theorem ebX4_run_2b {g : Cfg} (C : Cx g RX4 cX4_run 4 4 86 0 0) {h : Shp} {a0 : Nat} {a1 : Nat} (H0 : PlayAt h a0) (H1 : TableAt h a1) {o1 : Mem} {rec2 : Mem → Int32 → Int32 → Option Mem} (q : QV g 0 0 (o1, h)) (ih2 : ∀ (I0 : Mem) (l2 : Int32) (l3 : Int32), rec2 I0 l2 l3 = some o1 → XE g 0 0 (I0, h) 2 [(0, rf g a0), (1, rf g a1), (2, .int l2), (3, .int l3)] []) {I0 : Mem} {l2 : Int32} {l3 : Int32} (hf : fnX4_run_2b a0 a1 rec2 I0 l2 l3 = some o1) : XE g 0 0 (I0, h) 2 [(0, rf g a0), (1, rf g a1), (2, .int l2), (3, .int l3)] [] := by
  unfold fnX4_run_2b at hf
  refine xr_iload_n C dX4_run_2 3 rfl rfl ?_
  refine xr_iload_n C dX4_run_3 2 rfl rfl ?_
  refine xr_icmp_ge (tgt := 25) C dX4_run_4 (by decide) hf (fun c1 hf => ?_) (fun c1 hf => ?_)
  · refine xr_lv [] rfl ?_
    exact ebX4_run_25 C H0 H1 q hf
  · refine xr_aload_n C dX4_run_7 0 rfl rfl ?_
    refine xr_geti C Kd4 (k := 2) (by decide) rfl wk_151 rfl H0.1 dX4_run_8 ?_
    refine xr_if_ne (tgt := 25) C dX4_run_11 (by decide) hf (fun c2 hf => ?_) (fun c2 hf => ?_)
    · refine xr_lv [] rfl ?_
      exact ebX4_run_25 C H0 H1 q hf
    · refine xr_aload_n C dX4_run_14 0 rfl rfl ?_
      refine xr_aload_n C dX4_run_15 1 rfl rfl ?_
      obtain ⟨I4, h3, hf⟩ := ob_x hf
      refine xr_callVV C [rf g a1] lkX4_54 (kX4_step H0 H1 h3) Kd4 rfl H0.1 rfl (Nat.le_of_ble_eq_true rfl) rfl dX4_run_16 ⟨by decide, by decide, by decide⟩ rfl ?_
      obtain ⟨v5, ev5, hf⟩ := bnd_x hf
      refine xr_iinc (k := 3) (v := v5) C dX4_run_19 rfl (by rw [ev5]; rfl) (by decide) rfl ?_
      refine xr_goto (tgt := 2) C dX4_run_22 (by decide) ?_
      refine xr_lv [1, 2, 3, 0] rfl ?_
      exact ih2 _ _ _ hf
theorem ebX4_run_2 {g : Cfg} (C : Cx g RX4 cX4_run 4 4 86 0 0) {h : Shp} {a0 : Nat} {a1 : Nat} (H0 : PlayAt h a0) (H1 : TableAt h a1) {o1 : Mem} (q : QV g 0 0 (o1, h)) : ∀ (fu : Nat) {I0 : Mem} {l2 : Int32} {l3 : Int32} (hf : fnX4_run_2 a0 a1 fu I0 l2 l3 = some o1), XE g 0 0 (I0, h) 2 [(0, rf g a0), (1, rf g a1), (2, .int l2), (3, .int l3)] [] := by
  intro fu
  induction fu with
  | zero =>
    intro I0 l2 l3 hf
    cases hf
  | succ fu ihn =>
    intro I0 l2 l3 hf
    exact ebX4_run_2b C H0 H1 q (fun _ _ _ hf => ihn hf) hf
def fnX4_run (a0 : Nat) (a1 : Nat) (I0 : Mem) (p2 : Int32) : Option Mem :=
  fnX4_run_2 a0 a1 FU I0 p2 0
set_option maxRecDepth 20000 in
set_option maxHeartbeats 2000000 in
theorem ebX4_run_0 {g : Cfg} (C : Cx g RX4 cX4_run 4 4 86 0 0) {h : Shp} {a0 : Nat} {a1 : Nat} (H0 : PlayAt h a0) (H1 : TableAt h a1) {o1 : Mem} (q : QV g 0 0 (o1, h)) {I0 : Mem} {p2 : Int32} (hf : fnX4_run a0 a1 I0 p2 = some o1) : XE g 0 0 (I0, h) 0 [(0, rf g a0), (1, rf g a1), (2, .int p2)] [] := by
  unfold fnX4_run at hf
  refine xr_iconst (v := 0) C dX4_run_0 (by decide) ?_
  refine xr_istore_n C dX4_run_1 rfl (by decide) rfl ?_
  refine xr_lv [1, 2, 3, 0] rfl ?_
  exact ebX4_run_2 C H0 H1 q _ hf
theorem kX4_run {B : Bs} {h : Shp} {a0 : Nat} {a1 : Nat} (H0 : PlayAt h a0) (H1 : TableAt h a1) {I0 : Mem} {p2 : Int32} {o1 : Mem} (hf : fnX4_run a0 a1 I0 p2 = some o1) : CtrV B yX4_run cX4_run 4 4 86 0 0 [rfB B a0, rfB B a1, .int p2] (I0, h) (o1, h) := by
  refine xr_enterV (lv0 := [(0, rfB B a0), (1, rfB B a1), (2, .int p2)]) (by decide) (Nat.le_of_ble_eq_true rfl) rfl (fun g hg C q => ?_)
  subst hg
  exact ebX4_run_0 C H0 H1 q hf
theorem dX4_shake_0 : decode cX4_shake 0 = .ok (.aload_n 0, 1) := by decide +kernel
theorem dX4_shake_1 : decode cX4_shake 1 = .ok (.iconst 1, 1) := by decide +kernel
theorem dX4_shake_2 : decode cX4_shake 2 = .ok (.invokevirtual 68, 3) := by decide +kernel
theorem dX4_shake_5 : decode cX4_shake 5 = .ok (.aload_n 0, 1) := by decide +kernel
theorem dX4_shake_6 : decode cX4_shake 6 = .ok (.dup, 1) := by decide +kernel
theorem dX4_shake_7 : decode cX4_shake 7 = .ok (.getfield 22, 3) := by decide +kernel
theorem dX4_shake_10 : decode cX4_shake 10 = .ok (.iconst 3, 1) := by decide +kernel
theorem dX4_shake_11 : decode cX4_shake 11 = .ok (.iadd, 1) := by decide +kernel
theorem dX4_shake_12 : decode cX4_shake 12 = .ok (.putfield 22, 3) := by decide +kernel
theorem dX4_shake_15 : decode cX4_shake 15 = .ok (.aload_n 0, 1) := by decide +kernel
theorem dX4_shake_16 : decode cX4_shake 16 = .ok (.getfield 22, 3) := by decide +kernel
theorem dX4_shake_19 : decode cX4_shake 19 = .ok (.iload_n 1, 1) := by decide +kernel
theorem dX4_shake_20 : decode cX4_shake 20 = .ok (.if_icmp .le 8, 3) := by decide +kernel
theorem dX4_shake_23 : decode cX4_shake 23 = .ok (.aload_n 0, 1) := by decide +kernel
theorem dX4_shake_24 : decode cX4_shake 24 = .ok (.iconst 1, 1) := by decide +kernel
theorem dX4_shake_25 : decode cX4_shake 25 = .ok (.putfield 18, 3) := by decide +kernel
theorem dX4_shake_28 : decode cX4_shake 28 = .ok (.return_, 1) := by decide +kernel
/-! BumperBalls$Play.shake(I)V -/
def fnX4_shake_28 (a0 : Nat) (I0 : Mem) : Option Mem :=
  some I0
set_option maxRecDepth 20000 in
set_option maxHeartbeats 2000000 in
theorem ebX4_shake_28 {g : Cfg} (C : Cx g RX4 cX4_shake 2 1 21 0 0) {h : Shp} {a0 : Nat} (H0 : PlayAt h a0) {o1 : Mem} (q : QV g 0 0 (o1, h)) {I0 : Mem} (hf : fnX4_shake_28 a0 I0 = some o1) : XE g 0 0 (I0, h) 28 [] [] := by
  unfold fnX4_shake_28 at hf
  exact xr_return C q dX4_shake_28 (so_v hf)
def fnX4_shake (a0 : Nat) (I0 : Mem) (p1 : Int32) : Option Mem :=
  ob (fnX4_turn a0 I0 1) fun I2 => bnd (up2 I2 a0 3 ((I2 a0 3) + 3)) fun I3 => if (I3 a0 3) ≤ p1 then (fnX4_shake_28 a0 I3) else (bnd (up2 I3 a0 2 1) fun I5 => fnX4_shake_28 a0 I5)
set_option maxRecDepth 20000 in
set_option maxHeartbeats 2000000 in
theorem ebX4_shake_0 {g : Cfg} (C : Cx g RX4 cX4_shake 2 1 21 0 0) {h : Shp} {a0 : Nat} (H0 : PlayAt h a0) {o1 : Mem} (q : QV g 0 0 (o1, h)) {I0 : Mem} {p1 : Int32} (hf : fnX4_shake a0 I0 p1 = some o1) : XE g 0 0 (I0, h) 0 [(0, rf g a0), (1, .int p1)] [] := by
  unfold fnX4_shake at hf
  refine xr_aload_n C dX4_shake_0 0 rfl rfl ?_
  refine xr_iconst (v := 1) C dX4_shake_1 (by decide) ?_
  obtain ⟨I2, h1, hf⟩ := ob_x hf
  refine xr_callVV C [.int 1] lkX4_68 (kX4_turn H0 h1) Kd4 rfl H0.1 rfl (Nat.le_of_ble_eq_true rfl) rfl dX4_shake_2 ⟨by decide, by decide, by decide⟩ rfl ?_
  refine xr_aload_n C dX4_shake_5 0 rfl rfl ?_
  refine xr_dup C dX4_shake_6 rfl ?_
  refine xr_geti C Kd4 (k := 3) (by decide) rfl wk_154 rfl H0.1 dX4_shake_7 ?_
  refine xr_iconst (v := 3) C dX4_shake_10 (by decide) ?_
  refine xr_iadd C dX4_shake_11 ?_
  obtain ⟨I3, eI3, hf⟩ := bnd_x hf
  refine xr_putI C Kd4 (k := 3) (by decide) rfl rfl wk_154 rfl rfl rfl H0.1 dX4_shake_12 eI3 ?_
  refine xr_aload_n C dX4_shake_15 0 rfl rfl ?_
  refine xr_geti C Kd4 (k := 3) (by decide) rfl wk_154 rfl H0.1 dX4_shake_16 ?_
  refine xr_iload_n C dX4_shake_19 1 rfl rfl ?_
  refine xr_icmp_le (tgt := 28) C dX4_shake_20 (by decide) hf (fun c4 hf => ?_) (fun c4 hf => ?_)
  · refine xr_lv [] rfl ?_
    exact ebX4_shake_28 C H0 q hf
  · refine xr_aload_n C dX4_shake_23 0 rfl rfl ?_
    refine xr_iconst (v := 1) C dX4_shake_24 (by decide) ?_
    obtain ⟨I5, eI5, hf⟩ := bnd_x hf
    refine xr_putI C Kd4 (k := 2) (by decide) rfl rfl wk_151 rfl rfl rfl H0.1 dX4_shake_25 eI5 ?_
    refine xr_lv [] rfl ?_
    exact ebX4_shake_28 C H0 q hf
theorem kX4_shake {B : Bs} {h : Shp} {a0 : Nat} (H0 : PlayAt h a0) {I0 : Mem} {p1 : Int32} {o1 : Mem} (hf : fnX4_shake a0 I0 p1 = some o1) : CtrV B yX4_shake cX4_shake 2 1 21 0 0 [rfB B a0, .int p1] (I0, h) (o1, h) := by
  refine xr_enterV (lv0 := [(0, rfB B a0), (1, .int p1)]) (by decide) (Nat.le_of_ble_eq_true rfl) rfl (fun g hg C q => ?_)
  subst hg
  exact ebX4_shake_0 C H0 q hf
theorem dX3_clear_0 : decode cX3_clear 0 = .ok (.iconst 0, 1) := by decide +kernel
theorem dX3_clear_1 : decode cX3_clear 1 = .ok (.istore_n 1, 1) := by decide +kernel
theorem dX3_clear_2 : decode cX3_clear 2 = .ok (.iload_n 1, 1) := by decide +kernel
theorem dX3_clear_3 : decode cX3_clear 3 = .ok (.aload_n 0, 1) := by decide +kernel
theorem dX3_clear_4 : decode cX3_clear 4 = .ok (.getfield 9, 3) := by decide +kernel
theorem dX3_clear_7 : decode cX3_clear 7 = .ok (.if_icmp .ge 21, 3) := by decide +kernel
theorem dX3_clear_10 : decode cX3_clear 10 = .ok (.aload_n 0, 1) := by decide +kernel
theorem dX3_clear_11 : decode cX3_clear 11 = .ok (.getfield 19, 3) := by decide +kernel
theorem dX3_clear_14 : decode cX3_clear 14 = .ok (.aload_n 0, 1) := by decide +kernel
theorem dX3_clear_15 : decode cX3_clear 15 = .ok (.getfield 15, 3) := by decide +kernel
theorem dX3_clear_18 : decode cX3_clear 18 = .ok (.iload_n 1, 1) := by decide +kernel
theorem dX3_clear_19 : decode cX3_clear 19 = .ok (.iaload, 1) := by decide +kernel
theorem dX3_clear_20 : decode cX3_clear 20 = .ok (.iconst 0, 1) := by decide +kernel
theorem dX3_clear_21 : decode cX3_clear 21 = .ok (.iastore, 1) := by decide +kernel
theorem dX3_clear_22 : decode cX3_clear 22 = .ok (.iinc 1 1, 3) := by decide +kernel
theorem dX3_clear_25 : decode cX3_clear 25 = .ok (.goto (-23), 3) := by decide +kernel
theorem dX3_clear_28 : decode cX3_clear 28 = .ok (.aload_n 0, 1) := by decide +kernel
theorem dX3_clear_29 : decode cX3_clear 29 = .ok (.iconst 0, 1) := by decide +kernel
theorem dX3_clear_30 : decode cX3_clear 30 = .ok (.putfield 9, 3) := by decide +kernel
theorem dX3_clear_33 : decode cX3_clear 33 = .ok (.return_, 1) := by decide +kernel
/-! BumperBalls$Layer.clear()V -/
def fnX3_clear_2b (a0 : Nat) (n0 : Nat) (rec2 : Mem → Int32 → Option Mem) (I0 : Mem) (l1 : Int32) : Option Mem :=
  if (I0 a0 2) ≤ l1 then (bnd (up2 I0 a0 2 0) fun I2 => some I2) else (ck (inb l1 n0) <| ck (inb (I0 (a0 + 1) (ix l1)) n0) <| bnd (up2 I0 (a0 + 2) (ix (I0 (a0 + 1) (ix l1))) 0) fun I5 => bnd (l1 + 1) fun v6 => rec2 I5 v6)
def fnX3_clear_2 (a0 : Nat) (n0 : Nat) : Nat → Mem → Int32 → Option Mem
  | 0 => fun _ _ => none
  | fu + 1 => fnX3_clear_2b a0 n0 (fnX3_clear_2 a0 n0 fu)
set_option maxRecDepth 20000 in
set_option maxHeartbeats 2000000 in
theorem ebX3_clear_2b {g : Cfg} (C : Cx g RX3 cX3_clear 2 0 0 0 0) {h : Shp} {a0 : Nat} {n0 : Nat} (H0 : LayerAt h a0 n0) {o1 : Mem} {rec2 : Mem → Int32 → Option Mem} (q : QV g 0 0 (o1, h)) (ih2 : ∀ (I0 : Mem) (l1 : Int32), rec2 I0 l1 = some o1 → XE g 0 0 (I0, h) 2 [(0, rf g a0), (1, .int l1)] []) {I0 : Mem} {l1 : Int32} (hf : fnX3_clear_2b a0 n0 rec2 I0 l1 = some o1) : XE g 0 0 (I0, h) 2 [(0, rf g a0), (1, .int l1)] [] := by
  unfold fnX3_clear_2b at hf
  refine xr_iload_n C dX3_clear_2 1 rfl rfl ?_
  refine xr_aload_n C dX3_clear_3 0 rfl rfl ?_
  refine xr_geti C Kd3 (k := 2) (by decide) rfl wk_230 rfl H0.1 dX3_clear_4 ?_
  refine xr_icmp_ge (tgt := 28) C dX3_clear_7 (by decide) hf (fun c1 hf => ?_) (fun c1 hf => ?_)
  · refine xr_aload_n C dX3_clear_28 0 rfl rfl ?_
    refine xr_iconst (v := 0) C dX3_clear_29 (by decide) ?_
    obtain ⟨I2, eI2, hf⟩ := bnd_x hf
    refine xr_putI C Kd3 (k := 2) (by decide) rfl rfl wk_230 rfl rfl rfl H0.1 dX3_clear_30 eI2 ?_
    exact xr_return C q dX3_clear_33 (so_v hf)
  · refine xr_aload_n C dX3_clear_10 0 rfl rfl ?_
    refine xr_getr C Kd3 (k := 1) (by decide) rfl wk_228 rfl H0.1 H0.2.2.1 dX3_clear_11 ?_
    refine xr_aload_n C dX3_clear_14 0 rfl rfl ?_
    refine xr_getr C Kd3 (k := 0) (by decide) rfl wk_226 rfl H0.1 H0.2.1.1 dX3_clear_15 ?_
    refine xr_iload_n C dX3_clear_18 1 rfl rfl ?_
    obtain ⟨i3, hf⟩ := ck_x hf
    refine xr_iald C H0.2.1.2 i3 dX3_clear_19 ?_
    refine xr_iconst (v := 0) C dX3_clear_20 (by decide) ?_
    obtain ⟨i4, hf⟩ := ck_x hf
    obtain ⟨I5, eI5, hf⟩ := bnd_x hf
    refine xr_iast C H0.2.2.2 i4 dX3_clear_21 eI5 ?_
    obtain ⟨v6, ev6, hf⟩ := bnd_x hf
    refine xr_iinc (k := 1) (v := v6) C dX3_clear_22 rfl (by rw [ev6]; rfl) (by decide) rfl ?_
    refine xr_goto (tgt := 2) C dX3_clear_25 (by decide) ?_
    refine xr_lv [1, 0] rfl ?_
    exact ih2 _ _ hf
theorem ebX3_clear_2 {g : Cfg} (C : Cx g RX3 cX3_clear 2 0 0 0 0) {h : Shp} {a0 : Nat} {n0 : Nat} (H0 : LayerAt h a0 n0) {o1 : Mem} (q : QV g 0 0 (o1, h)) : ∀ (fu : Nat) {I0 : Mem} {l1 : Int32} (hf : fnX3_clear_2 a0 n0 fu I0 l1 = some o1), XE g 0 0 (I0, h) 2 [(0, rf g a0), (1, .int l1)] [] := by
  intro fu
  induction fu with
  | zero =>
    intro I0 l1 hf
    cases hf
  | succ fu ihn =>
    intro I0 l1 hf
    exact ebX3_clear_2b C H0 q (fun _ _ hf => ihn hf) hf
def fnX3_clear (a0 : Nat) (n0 : Nat) (I0 : Mem) : Option Mem :=
  fnX3_clear_2 a0 n0 FU I0 0
set_option maxRecDepth 20000 in
set_option maxHeartbeats 2000000 in
theorem ebX3_clear_0 {g : Cfg} (C : Cx g RX3 cX3_clear 2 0 0 0 0) {h : Shp} {a0 : Nat} {n0 : Nat} (H0 : LayerAt h a0 n0) {o1 : Mem} (q : QV g 0 0 (o1, h)) {I0 : Mem} (hf : fnX3_clear a0 n0 I0 = some o1) : XE g 0 0 (I0, h) 0 [(0, rf g a0)] [] := by
  unfold fnX3_clear at hf
  refine xr_iconst (v := 0) C dX3_clear_0 (by decide) ?_
  refine xr_istore_n C dX3_clear_1 rfl (by decide) rfl ?_
  refine xr_lv [1, 0] rfl ?_
  exact ebX3_clear_2 C H0 q _ hf
theorem kX3_clear {B : Bs} {h : Shp} {a0 : Nat} {n0 : Nat} (H0 : LayerAt h a0 n0) {I0 : Mem} {o1 : Mem} (hf : fnX3_clear a0 n0 I0 = some o1) : CtrV B yX3_clear cX3_clear 2 0 0 0 0 [rfB B a0] (I0, h) (o1, h) := by
  refine xr_enterV (lv0 := [(0, rfB B a0)]) (by decide) (Nat.le_of_ble_eq_true rfl) rfl (fun g hg C q => ?_)
  subst hg
  exact ebX3_clear_0 C H0 q hf
theorem dX3_reach_0 : decode cX3_reach 0 = .ok (.aload_n 1, 1) := by decide +kernel
theorem dX3_reach_1 : decode cX3_reach 1 = .ok (.getfield 22, 3) := by decide +kernel
theorem dX3_reach_4 : decode cX3_reach 4 = .ok (.sipush 168, 3) := by decide +kernel
theorem dX3_reach_7 : decode cX3_reach 7 = .ok (.imul, 1) := by decide +kernel
theorem dX3_reach_8 : decode cX3_reach 8 = .ok (.aload_n 1, 1) := by decide +kernel
theorem dX3_reach_9 : decode cX3_reach 9 = .ok (.getfield 27, 3) := by decide +kernel
theorem dX3_reach_12 : decode cX3_reach 12 = .ok (.iconst 4, 1) := by decide +kernel
theorem dX3_reach_13 : decode cX3_reach 13 = .ok (.imul, 1) := by decide +kernel
theorem dX3_reach_14 : decode cX3_reach 14 = .ok (.iadd, 1) := by decide +kernel
theorem dX3_reach_15 : decode cX3_reach 15 = .ok (.aload_n 1, 1) := by decide +kernel
theorem dX3_reach_16 : decode cX3_reach 16 = .ok (.getfield 30, 3) := by decide +kernel
theorem dX3_reach_19 : decode cX3_reach 19 = .ok (.iadd, 1) := by decide +kernel
theorem dX3_reach_20 : decode cX3_reach 20 = .ok (.istore_n 3, 1) := by decide +kernel
theorem dX3_reach_21 : decode cX3_reach 21 = .ok (.iload_n 3, 1) := by decide +kernel
theorem dX3_reach_22 : decode cX3_reach 22 = .ok (.aload_n 0, 1) := by decide +kernel
theorem dX3_reach_23 : decode cX3_reach 23 = .ok (.getfield 19, 3) := by decide +kernel
theorem dX3_reach_26 : decode cX3_reach 26 = .ok (.arraylength, 1) := by decide +kernel
theorem dX3_reach_27 : decode cX3_reach 27 = .ok (.iconst 1, 1) := by decide +kernel
theorem dX3_reach_28 : decode cX3_reach 28 = .ok (.isub, 1) := by decide +kernel
theorem dX3_reach_29 : decode cX3_reach 29 = .ok (.invokestatic 33, 3) := by decide +kernel
theorem dX3_reach_32 : decode cX3_reach 32 = .ok (.ifCond .ne 4, 3) := by decide +kernel
theorem dX3_reach_35 : decode cX3_reach 35 = .ok (.return_, 1) := by decide +kernel
theorem dX3_reach_36 : decode cX3_reach 36 = .ok (.aload_n 0, 1) := by decide +kernel
theorem dX3_reach_37 : decode cX3_reach 37 = .ok (.getfield 19, 3) := by decide +kernel
theorem dX3_reach_40 : decode cX3_reach 40 = .ok (.iload_n 3, 1) := by decide +kernel
theorem dX3_reach_41 : decode cX3_reach 41 = .ok (.iaload, 1) := by decide +kernel
theorem dX3_reach_42 : decode cX3_reach 42 = .ok (.ifCond .ne 47, 3) := by decide +kernel
theorem dX3_reach_45 : decode cX3_reach 45 = .ok (.aload_n 0, 1) := by decide +kernel
theorem dX3_reach_46 : decode cX3_reach 46 = .ok (.getfield 9, 3) := by decide +kernel
theorem dX3_reach_49 : decode cX3_reach 49 = .ok (.aload_n 0, 1) := by decide +kernel
theorem dX3_reach_50 : decode cX3_reach 50 = .ok (.getfield 15, 3) := by decide +kernel
theorem dX3_reach_53 : decode cX3_reach 53 = .ok (.arraylength, 1) := by decide +kernel
theorem dX3_reach_54 : decode cX3_reach 54 = .ok (.if_icmp .ge 35, 3) := by decide +kernel
theorem dX3_reach_57 : decode cX3_reach 57 = .ok (.aload_n 0, 1) := by decide +kernel
theorem dX3_reach_58 : decode cX3_reach 58 = .ok (.getfield 15, 3) := by decide +kernel
theorem dX3_reach_61 : decode cX3_reach 61 = .ok (.aload_n 0, 1) := by decide +kernel
theorem dX3_reach_62 : decode cX3_reach 62 = .ok (.getfield 9, 3) := by decide +kernel
theorem dX3_reach_65 : decode cX3_reach 65 = .ok (.iload_n 3, 1) := by decide +kernel
theorem dX3_reach_66 : decode cX3_reach 66 = .ok (.iastore, 1) := by decide +kernel
theorem dX3_reach_67 : decode cX3_reach 67 = .ok (.aload_n 0, 1) := by decide +kernel
theorem dX3_reach_68 : decode cX3_reach 68 = .ok (.dup, 1) := by decide +kernel
theorem dX3_reach_69 : decode cX3_reach 69 = .ok (.getfield 9, 3) := by decide +kernel
theorem dX3_reach_72 : decode cX3_reach 72 = .ok (.iconst 1, 1) := by decide +kernel
theorem dX3_reach_73 : decode cX3_reach 73 = .ok (.iadd, 1) := by decide +kernel
theorem dX3_reach_74 : decode cX3_reach 74 = .ok (.putfield 9, 3) := by decide +kernel
theorem dX3_reach_77 : decode cX3_reach 77 = .ok (.aload_n 0, 1) := by decide +kernel
theorem dX3_reach_78 : decode cX3_reach 78 = .ok (.getfield 19, 3) := by decide +kernel
theorem dX3_reach_81 : decode cX3_reach 81 = .ok (.iload_n 3, 1) := by decide +kernel
theorem dX3_reach_82 : decode cX3_reach 82 = .ok (.iload_n 2, 1) := by decide +kernel
theorem dX3_reach_83 : decode cX3_reach 83 = .ok (.iconst 1, 1) := by decide +kernel
theorem dX3_reach_84 : decode cX3_reach 84 = .ok (.iadd, 1) := by decide +kernel
theorem dX3_reach_85 : decode cX3_reach 85 = .ok (.iastore, 1) := by decide +kernel
theorem dX3_reach_86 : decode cX3_reach 86 = .ok (.goto 21, 3) := by decide +kernel
theorem dX3_reach_89 : decode cX3_reach 89 = .ok (.aload_n 0, 1) := by decide +kernel
theorem dX3_reach_90 : decode cX3_reach 90 = .ok (.getfield 19, 3) := by decide +kernel
theorem dX3_reach_93 : decode cX3_reach 93 = .ok (.iload_n 3, 1) := by decide +kernel
theorem dX3_reach_94 : decode cX3_reach 94 = .ok (.aload_n 0, 1) := by decide +kernel
theorem dX3_reach_95 : decode cX3_reach 95 = .ok (.getfield 19, 3) := by decide +kernel
theorem dX3_reach_98 : decode cX3_reach 98 = .ok (.iload_n 3, 1) := by decide +kernel
theorem dX3_reach_99 : decode cX3_reach 99 = .ok (.iaload, 1) := by decide +kernel
theorem dX3_reach_100 : decode cX3_reach 100 = .ok (.iload_n 2, 1) := by decide +kernel
theorem dX3_reach_101 : decode cX3_reach 101 = .ok (.iconst 1, 1) := by decide +kernel
theorem dX3_reach_102 : decode cX3_reach 102 = .ok (.iadd, 1) := by decide +kernel
theorem dX3_reach_103 : decode cX3_reach 103 = .ok (.invokestatic 37, 3) := by decide +kernel
theorem dX3_reach_106 : decode cX3_reach 106 = .ok (.iastore, 1) := by decide +kernel
theorem dX3_reach_107 : decode cX3_reach 107 = .ok (.return_, 1) := by decide +kernel
theorem lkX3_33 : LkSN "BumperBalls$Layer" 33 yX9_isUpTo cX9_isUpTo 2 (some Jvm.ClassFile.FieldType.boolean) 2 := ⟨wk_351, wk_1, wk_350, ⟨by decide +kernel, by decide +kernel, by decide +kernel⟩, (List.mem_of_getElem? (i := 92) (by decide +kernel))⟩
/-! BumperBalls$Layer.reach(LBumperBalls$Play;I)V -/
def fnX3_reach_107 (a0 : Nat) (n0 : Nat) (a1 : Nat) (I0 : Mem) : Option Mem :=
  some I0
set_option maxRecDepth 20000 in
set_option maxHeartbeats 2000000 in
theorem ebX3_reach_107 {g : Cfg} (C : Cx g RX3 cX3_reach 4 1 21 0 0) {h : Shp} {a0 : Nat} {n0 : Nat} {a1 : Nat} (H0 : LayerAt h a0 n0) (H1 : PlayAt h a1) {o1 : Mem} (q : QV g 0 0 (o1, h)) {I0 : Mem} (hf : fnX3_reach_107 a0 n0 a1 I0 = some o1) : XE g 0 0 (I0, h) 107 [] [] := by
  unfold fnX3_reach_107 at hf
  exact xr_return C q dX3_reach_107 (so_v hf)
def fnX3_reach_89 (a0 : Nat) (n0 : Nat) (a1 : Nat) (I0 : Mem) (l2 : Int32) (l3 : Int32) : Option Mem :=
  ck (inb l3 n0) <| ck (inb l3 n0) <| bnd (up2 I0 (a0 + 2) (ix l3) (mnI (I0 (a0 + 2) (ix l3)) (l2 + 1))) fun I3 => fnX3_reach_107 a0 n0 a1 I3
set_option maxRecDepth 20000 in
set_option maxHeartbeats 2000000 in
theorem ebX3_reach_89 {g : Cfg} (C : Cx g RX3 cX3_reach 4 1 21 0 0) {h : Shp} {a0 : Nat} {n0 : Nat} {a1 : Nat} (H0 : LayerAt h a0 n0) (H1 : PlayAt h a1) {o1 : Mem} (q : QV g 0 0 (o1, h)) {I0 : Mem} {l2 : Int32} {l3 : Int32} (hf : fnX3_reach_89 a0 n0 a1 I0 l2 l3 = some o1) : XE g 0 0 (I0, h) 89 [(0, rf g a0), (2, .int l2), (3, .int l3)] [] := by
  unfold fnX3_reach_89 at hf
  refine xr_aload_n C dX3_reach_89 0 rfl rfl ?_
  refine xr_getr C Kd3 (k := 1) (by decide) rfl wk_228 rfl H0.1 H0.2.2.1 dX3_reach_90 ?_
  refine xr_iload_n C dX3_reach_93 2 rfl rfl ?_
  refine xr_aload_n C dX3_reach_94 0 rfl rfl ?_
  refine xr_getr C Kd3 (k := 1) (by decide) rfl wk_228 rfl H0.1 H0.2.2.1 dX3_reach_95 ?_
  refine xr_iload_n C dX3_reach_98 2 rfl rfl ?_
  obtain ⟨i1, hf⟩ := ck_x hf
  refine xr_iald C H0.2.2.2 i1 dX3_reach_99 ?_
  refine xr_iload_n C dX3_reach_100 1 rfl rfl ?_
  refine xr_iconst (v := 1) C dX3_reach_101 (by decide) ?_
  refine xr_iadd C dX3_reach_102 ?_
  refine xr_min C wk_701 wk_690 wk_17 wk_691 (by decide) (Nat.le_of_ble_eq_true rfl) ⟨Nat.zero_le _, Nat.zero_le _⟩ dX3_reach_103 ?_
  obtain ⟨i2, hf⟩ := ck_x hf
  obtain ⟨I3, eI3, hf⟩ := bnd_x hf
  refine xr_iast C H0.2.2.2 i2 dX3_reach_106 eI3 ?_
  refine xr_lv [] rfl ?_
  exact ebX3_reach_107 C H0 H1 q hf
def fnX3_reach (a0 : Nat) (n0 : Nat) (a1 : Nat) (I0 : Mem) (p2 : Int32) : Option Mem :=
  bnd ((((I0 a1 6) * 168) + ((I0 a1 0) * 4)) + (I0 a1 1)) fun v1 => ob (fnX9_isUpTo I0 v1 ((nI n0) - 1)) fun ⟨r4, I3⟩ => if r4 = 0 then (some I3) else (ck (inb v1 n0) <| if (I3 (a0 + 2) (ix v1)) = 0 then (if (nI n0) ≤ (I3 a0 2) then (fnX3_reach_89 a0 n0 a1 I3 p2 v1) else (ck (inb (I3 a0 2) n0) <| bnd (up2 I3 (a0 + 1) (ix (I3 a0 2)) v1) fun I10 => bnd (up2 I10 a0 2 ((I10 a0 2) + 1)) fun I11 => ck (inb v1 n0) <| bnd (up2 I11 (a0 + 2) (ix v1) (p2 + 1)) fun I13 => fnX3_reach_107 a0 n0 a1 I13)) else (fnX3_reach_89 a0 n0 a1 I3 p2 v1))
set_option maxRecDepth 20000 in
set_option maxHeartbeats 2000000 in
theorem ebX3_reach_0 {g : Cfg} (C : Cx g RX3 cX3_reach 4 1 21 0 0) {h : Shp} {a0 : Nat} {n0 : Nat} {a1 : Nat} (H0 : LayerAt h a0 n0) (H1 : PlayAt h a1) {o1 : Mem} (q : QV g 0 0 (o1, h)) {I0 : Mem} {p2 : Int32} (hf : fnX3_reach a0 n0 a1 I0 p2 = some o1) : XE g 0 0 (I0, h) 0 [(0, rf g a0), (1, rf g a1), (2, .int p2)] [] := by
  unfold fnX3_reach at hf
  refine xr_aload_n C dX3_reach_0 1 rfl rfl ?_
  refine xr_getiN C Kd4 (k := 6) (by decide) rfl nk33 rfl H1.1 dX3_reach_1 ?_
  refine xr_sipush (v := 168) C dX3_reach_4 (by decide) ?_
  refine xr_imul C dX3_reach_7 ?_
  refine xr_aload_n C dX3_reach_8 1 rfl rfl ?_
  refine xr_getiN C Kd4 (k := 0) (by decide) rfl nk34 rfl H1.1 dX3_reach_9 ?_
  refine xr_iconst (v := 4) C dX3_reach_12 (by decide) ?_
  refine xr_imul C dX3_reach_13 ?_
  refine xr_iadd C dX3_reach_14 ?_
  refine xr_aload_n C dX3_reach_15 1 rfl rfl ?_
  refine xr_getiN C Kd4 (k := 1) (by decide) rfl nk35 rfl H1.1 dX3_reach_16 ?_
  refine xr_iadd C dX3_reach_19 ?_
  obtain ⟨v1, ev1, hf⟩ := bnd_x hf
  refine xr_nm ev1 ?_
  refine xr_istore_n C dX3_reach_20 rfl (by decide) rfl ?_
  refine xr_iload_n C dX3_reach_21 0 rfl rfl ?_
  refine xr_aload_n C dX3_reach_22 1 rfl rfl ?_
  refine xr_getr C Kd3 (k := 1) (by decide) rfl wk_228 rfl H0.1 H0.2.2.1 dX3_reach_23 ?_
  refine xr_alen C H0.2.2.2 dX3_reach_26 ?_
  refine xr_iconst (v := 1) C dX3_reach_27 (by decide) ?_
  refine xr_isub C dX3_reach_28 ?_
  obtain ⟨⟨r4, I3⟩, h2, hf⟩ := ob_x hf
  refine xr_callSNI C [.int v1, .int ((nI n0) - 1)] lkX3_33 (kX9_isUpTo h2) rfl (Nat.le_of_ble_eq_true rfl) rfl dX3_reach_29 ⟨by decide, by decide, by decide⟩ rfl ?_
  refine xr_if_ne (tgt := 36) C dX3_reach_32 (by decide) hf (fun c5 hf => ?_) (fun c5 hf => ?_)
  · refine xr_aload_n C dX3_reach_36 1 rfl rfl ?_
    refine xr_getr C Kd3 (k := 1) (by decide) rfl wk_228 rfl H0.1 H0.2.2.1 dX3_reach_37 ?_
    refine xr_iload_n C dX3_reach_40 0 rfl rfl ?_
    obtain ⟨i6, hf⟩ := ck_x hf
    refine xr_iald C H0.2.2.2 i6 dX3_reach_41 ?_
    refine xr_if_ne (tgt := 89) C dX3_reach_42 (by decide) hf (fun c7 hf => ?_) (fun c7 hf => ?_)
    · refine xr_lv [1, 3, 0] rfl ?_
      exact ebX3_reach_89 C H0 H1 q hf
    · refine xr_aload_n C dX3_reach_45 1 rfl rfl ?_
      refine xr_geti C Kd3 (k := 2) (by decide) rfl wk_230 rfl H0.1 dX3_reach_46 ?_
      refine xr_aload_n C dX3_reach_49 1 rfl rfl ?_
      refine xr_getr C Kd3 (k := 0) (by decide) rfl wk_226 rfl H0.1 H0.2.1.1 dX3_reach_50 ?_
      refine xr_alen C H0.2.1.2 dX3_reach_53 ?_
      refine xr_icmp_ge (tgt := 89) C dX3_reach_54 (by decide) hf (fun c8 hf => ?_) (fun c8 hf => ?_)
      · refine xr_lv [1, 3, 0] rfl ?_
        exact ebX3_reach_89 C H0 H1 q hf
      · refine xr_aload_n C dX3_reach_57 1 rfl rfl ?_
        refine xr_getr C Kd3 (k := 0) (by decide) rfl wk_226 rfl H0.1 H0.2.1.1 dX3_reach_58 ?_
        refine xr_aload_n C dX3_reach_61 1 rfl rfl ?_
        refine xr_geti C Kd3 (k := 2) (by decide) rfl wk_230 rfl H0.1 dX3_reach_62 ?_
        refine xr_iload_n C dX3_reach_65 0 rfl rfl ?_
        obtain ⟨i9, hf⟩ := ck_x hf
        obtain ⟨I10, eI10, hf⟩ := bnd_x hf
        refine xr_iast C H0.2.1.2 i9 dX3_reach_66 eI10 ?_
        refine xr_aload_n C dX3_reach_67 1 rfl rfl ?_
        refine xr_dup C dX3_reach_68 rfl ?_
        refine xr_geti C Kd3 (k := 2) (by decide) rfl wk_230 rfl H0.1 dX3_reach_69 ?_
        refine xr_iconst (v := 1) C dX3_reach_72 (by decide) ?_
        refine xr_iadd C dX3_reach_73 ?_
        obtain ⟨I11, eI11, hf⟩ := bnd_x hf
        refine xr_putI C Kd3 (k := 2) (by decide) rfl rfl wk_230 rfl rfl rfl H0.1 dX3_reach_74 eI11 ?_
        refine xr_aload_n C dX3_reach_77 1 rfl rfl ?_
        refine xr_getr C Kd3 (k := 1) (by decide) rfl wk_228 rfl H0.1 H0.2.2.1 dX3_reach_78 ?_
        refine xr_iload_n C dX3_reach_81 0 rfl rfl ?_
        refine xr_iload_n C dX3_reach_82 3 rfl rfl ?_
        refine xr_iconst (v := 1) C dX3_reach_83 (by decide) ?_
        refine xr_iadd C dX3_reach_84 ?_
        obtain ⟨i12, hf⟩ := ck_x hf
        obtain ⟨I13, eI13, hf⟩ := bnd_x hf
        refine xr_iast C H0.2.2.2 i12 dX3_reach_85 eI13 ?_
        refine xr_goto (tgt := 107) C dX3_reach_86 (by decide) ?_
        refine xr_lv [] rfl ?_
        exact ebX3_reach_107 C H0 H1 q hf
  · exact xr_return C q dX3_reach_35 (so_v hf)
theorem kX3_reach {B : Bs} {h : Shp} {a0 : Nat} {n0 : Nat} {a1 : Nat} (H0 : LayerAt h a0 n0) (H1 : PlayAt h a1) {I0 : Mem} {p2 : Int32} {o1 : Mem} (hf : fnX3_reach a0 n0 a1 I0 p2 = some o1) : CtrV B yX3_reach cX3_reach 4 1 21 0 0 [rfB B a0, rfB B a1, .int p2] (I0, h) (o1, h) := by
  refine xr_enterV (lv0 := [(0, rfB B a0), (1, rfB B a1), (2, .int p2)]) (by decide) (Nat.le_of_ble_eq_true rfl) rfl (fun g hg C q => ?_)
  subst hg
  exact ebX3_reach_0 C H0 H1 q hf
theorem dX5_isMissing_0 : decode cX5_isMissing 0 = .ok (.aload_n 0, 1) := by decide +kernel
theorem dX5_isMissing_1 : decode cX5_isMissing 1 = .ok (.getfield 15, 3) := by decide +kernel
theorem dX5_isMissing_4 : decode cX5_isMissing 4 = .ok (.iload_n 1, 1) := by decide +kernel
theorem dX5_isMissing_5 : decode cX5_isMissing 5 = .ok (.iaload, 1) := by decide +kernel
theorem dX5_isMissing_6 : decode cX5_isMissing 6 = .ok (.iconst (-1), 1) := by decide +kernel
theorem dX5_isMissing_7 : decode cX5_isMissing 7 = .ok (.if_icmp .ne 7, 3) := by decide +kernel
theorem dX5_isMissing_10 : decode cX5_isMissing 10 = .ok (.iconst 1, 1) := by decide +kernel
theorem dX5_isMissing_11 : decode cX5_isMissing 11 = .ok (.goto 4, 3) := by decide +kernel
theorem dX5_isMissing_14 : decode cX5_isMissing 14 = .ok (.iconst 0, 1) := by decide +kernel
theorem dX5_isMissing_15 : decode cX5_isMissing 15 = .ok (.ireturn, 1) := by decide +kernel
/-! BumperBalls$Rows.isMissing(I)Z -/
def fnX5_isMissing_15 (I0 : Mem) (t0 : Int32) : Option (Int32 × Mem) :=
  ck (zb t0) <| some (t0, I0)
set_option maxRecDepth 20000 in
set_option maxHeartbeats 2000000 in
theorem ebX5_isMissing_15 {g : Cfg} (C : Cx g RX5 cX5_isMissing 2 0 0 0 0) {h : Shp} (H0 : RowsAt h) {r1 : Int32} {o1 : Mem} (q : QI g (some Jvm.ClassFile.FieldType.boolean) 0 0 r1 (o1, h)) {I0 : Mem} {t0 : Int32} (hf : fnX5_isMissing_15 I0 t0 = some (r1, o1)) : XE g 0 0 (I0, h) 15 [] [.int t0] := by
  unfold fnX5_isMissing_15 at hf
  obtain ⟨z1, hf⟩ := ck_x hf
  exact xr_ireturn C q rfl (zb_ok z1).1 dX5_isMissing_15 (so_1 hf) (so_w hf)
def fnX5_isMissing (I0 : Mem) (p1 : Int32) : Option (Int32 × Mem) :=
  ck (inb p1 8) <| if (I0 3 (ix p1)) = (-1) then (fnX5_isMissing_15 I0 1) else (fnX5_isMissing_15 I0 0)
set_option maxRecDepth 20000 in
set_option maxHeartbeats 2000000 in
theorem ebX5_isMissing_0 {g : Cfg} (C : Cx g RX5 cX5_isMissing 2 0 0 0 0) {h : Shp} (H0 : RowsAt h) {r1 : Int32} {o1 : Mem} (q : QI g (some Jvm.ClassFile.FieldType.boolean) 0 0 r1 (o1, h)) {I0 : Mem} {p1 : Int32} (hf : fnX5_isMissing I0 p1 = some (r1, o1)) : XE g 0 0 (I0, h) 0 [(0, rf g 1), (1, .int p1)] [] := by
  unfold fnX5_isMissing at hf
  refine xr_aload_n C dX5_isMissing_0 0 rfl rfl ?_
  refine xr_getr C Kd5 (k := 1) (by decide) rfl wk_36 rfl H0.1 H0.2.2.1.1 dX5_isMissing_1 ?_
  refine xr_iload_n C dX5_isMissing_4 1 rfl rfl ?_
  obtain ⟨i1, hf⟩ := ck_x hf
  refine xr_iald C H0.2.2.1.2 i1 dX5_isMissing_5 ?_
  refine xr_iconst (v := (-1)) C dX5_isMissing_6 (by decide) ?_
  refine xr_icmp_ne (tgt := 14) C dX5_isMissing_7 (by decide) hf (fun c2 hf => ?_) (fun c2 hf => ?_)
  · refine xr_iconst (v := 0) C dX5_isMissing_14 (by decide) ?_
    refine xr_lv [] rfl ?_
    exact ebX5_isMissing_15 C H0 q hf
  · refine xr_iconst (v := 1) C dX5_isMissing_10 (by decide) ?_
    refine xr_goto (tgt := 15) C dX5_isMissing_11 (by decide) ?_
    refine xr_lv [] rfl ?_
    exact ebX5_isMissing_15 C H0 q hf
theorem kX5_isMissing {B : Bs} {h : Shp} (H0 : RowsAt h) {I0 : Mem} {p1 : Int32} {r1 : Int32} {o1 : Mem} (hf : fnX5_isMissing I0 p1 = some (r1, o1)) : CtrI B yX5_isMissing cX5_isMissing 2 (some Jvm.ClassFile.FieldType.boolean) 0 0 0 0 [rfB B 1, .int p1] (I0, h) r1 (o1, h) := by
  refine xr_enterI (lv0 := [(0, rfB B 1), (1, .int p1)]) (by decide) (Nat.le_of_ble_eq_true rfl) rfl (fun g hg C q => ?_)
  subst hg
  exact ebX5_isMissing_0 C H0 q hf
theorem dX5_hasPlaces_0 : decode cX5_hasPlaces 0 = .ok (.iload_n 2, 1) := by decide +kernel
theorem dX5_hasPlaces_1 : decode cX5_hasPlaces 1 = .ok (.ifCond .lt 23, 3) := by decide +kernel
theorem dX5_hasPlaces_4 : decode cX5_hasPlaces 4 = .ok (.iload_n 3, 1) := by decide +kernel
theorem dX5_hasPlaces_5 : decode cX5_hasPlaces 5 = .ok (.ifCond .lt 19, 3) := by decide +kernel
theorem dX5_hasPlaces_8 : decode cX5_hasPlaces 8 = .ok (.iload_n 2, 1) := by decide +kernel
theorem dX5_hasPlaces_9 : decode cX5_hasPlaces 9 = .ok (.aload_n 0, 1) := by decide +kernel
theorem dX5_hasPlaces_10 : decode cX5_hasPlaces 10 = .ok (.getfield 15, 3) := by decide +kernel
theorem dX5_hasPlaces_13 : decode cX5_hasPlaces 13 = .ok (.iload_n 1, 1) := by decide +kernel
theorem dX5_hasPlaces_14 : decode cX5_hasPlaces 14 = .ok (.iaload, 1) := by decide +kernel
theorem dX5_hasPlaces_15 : decode cX5_hasPlaces 15 = .ok (.iload_n 3, 1) := by decide +kernel
theorem dX5_hasPlaces_16 : decode cX5_hasPlaces 16 = .ok (.isub, 1) := by decide +kernel
theorem dX5_hasPlaces_17 : decode cX5_hasPlaces 17 = .ok (.if_icmp .gt 7, 3) := by decide +kernel
theorem dX5_hasPlaces_20 : decode cX5_hasPlaces 20 = .ok (.iconst 1, 1) := by decide +kernel
theorem dX5_hasPlaces_21 : decode cX5_hasPlaces 21 = .ok (.goto 4, 3) := by decide +kernel
theorem dX5_hasPlaces_24 : decode cX5_hasPlaces 24 = .ok (.iconst 0, 1) := by decide +kernel
theorem dX5_hasPlaces_25 : decode cX5_hasPlaces 25 = .ok (.ireturn, 1) := by decide +kernel
/-! BumperBalls$Rows.hasPlaces(III)Z -/
def fnX5_hasPlaces_25 (I0 : Mem) (t0 : Int32) : Option (Int32 × Mem) :=
  ck (zb t0) <| some (t0, I0)
set_option maxRecDepth 20000 in
set_option maxHeartbeats 2000000 in
theorem ebX5_hasPlaces_25 {g : Cfg} (C : Cx g RX5 cX5_hasPlaces 4 0 0 0 0) {h : Shp} (H0 : RowsAt h) {r1 : Int32} {o1 : Mem} (q : QI g (some Jvm.ClassFile.FieldType.boolean) 0 0 r1 (o1, h)) {I0 : Mem} {t0 : Int32} (hf : fnX5_hasPlaces_25 I0 t0 = some (r1, o1)) : XE g 0 0 (I0, h) 25 [] [.int t0] := by
  unfold fnX5_hasPlaces_25 at hf
  obtain ⟨z1, hf⟩ := ck_x hf
  exact xr_ireturn C q rfl (zb_ok z1).1 dX5_hasPlaces_25 (so_1 hf) (so_w hf)
def fnX5_hasPlaces_24 (I0 : Mem) : Option (Int32 × Mem) :=
  fnX5_hasPlaces_25 I0 0
set_option maxRecDepth 20000 in
set_option maxHeartbeats 2000000 in
theorem ebX5_hasPlaces_24 {g : Cfg} (C : Cx g RX5 cX5_hasPlaces 4 0 0 0 0) {h : Shp} (H0 : RowsAt h) {r1 : Int32} {o1 : Mem} (q : QI g (some Jvm.ClassFile.FieldType.boolean) 0 0 r1 (o1, h)) {I0 : Mem} (hf : fnX5_hasPlaces_24 I0 = some (r1, o1)) : XE g 0 0 (I0, h) 24 [] [] := by
  unfold fnX5_hasPlaces_24 at hf
  refine xr_iconst (v := 0) C dX5_hasPlaces_24 (by decide) ?_
  exact ebX5_hasPlaces_25 C H0 q hf
def fnX5_hasPlaces (I0 : Mem) (p1 : Int32) (p2 : Int32) (p3 : Int32) : Option (Int32 × Mem) :=
  if p2 < 0 then (fnX5_hasPlaces_24 I0) else (if p3 < 0 then (fnX5_hasPlaces_24 I0) else (ck (inb p1 8) <| if ((I0 3 (ix p1)) - p3) < p2 then (fnX5_hasPlaces_24 I0) else (fnX5_hasPlaces_25 I0 1)))
set_option maxRecDepth 20000 in
set_option maxHeartbeats 2000000 in
theorem ebX5_hasPlaces_0 {g : Cfg} (C : Cx g RX5 cX5_hasPlaces 4 0 0 0 0) {h : Shp} (H0 : RowsAt h) {r1 : Int32} {o1 : Mem} (q : QI g (some Jvm.ClassFile.FieldType.boolean) 0 0 r1 (o1, h)) {I0 : Mem} {p1 : Int32} {p2 : Int32} {p3 : Int32} (hf : fnX5_hasPlaces I0 p1 p2 p3 = some (r1, o1)) : XE g 0 0 (I0, h) 0 [(0, rf g 1), (1, .int p1), (2, .int p2), (3, .int p3)] [] := by
  unfold fnX5_hasPlaces at hf
  refine xr_iload_n C dX5_hasPlaces_0 2 rfl rfl ?_
  refine xr_if_lt (tgt := 24) C dX5_hasPlaces_1 (by decide) hf (fun c1 hf => ?_) (fun c1 hf => ?_)
  · refine xr_lv [] rfl ?_
    exact ebX5_hasPlaces_24 C H0 q hf
  · refine xr_iload_n C dX5_hasPlaces_4 3 rfl rfl ?_
    refine xr_if_lt (tgt := 24) C dX5_hasPlaces_5 (by decide) hf (fun c2 hf => ?_) (fun c2 hf => ?_)
    · refine xr_lv [] rfl ?_
      exact ebX5_hasPlaces_24 C H0 q hf
    · refine xr_iload_n C dX5_hasPlaces_8 2 rfl rfl ?_
      refine xr_aload_n C dX5_hasPlaces_9 0 rfl rfl ?_
      refine xr_getr C Kd5 (k := 1) (by decide) rfl wk_36 rfl H0.1 H0.2.2.1.1 dX5_hasPlaces_10 ?_
      refine xr_iload_n C dX5_hasPlaces_13 1 rfl rfl ?_
      obtain ⟨i3, hf⟩ := ck_x hf
      refine xr_iald C H0.2.2.1.2 i3 dX5_hasPlaces_14 ?_
      refine xr_iload_n C dX5_hasPlaces_15 3 rfl rfl ?_
      refine xr_isub C dX5_hasPlaces_16 ?_
      refine xr_icmp_gt (tgt := 24) C dX5_hasPlaces_17 (by decide) hf (fun c4 hf => ?_) (fun c4 hf => ?_)
      · refine xr_lv [] rfl ?_
        exact ebX5_hasPlaces_24 C H0 q hf
      · refine xr_iconst (v := 1) C dX5_hasPlaces_20 (by decide) ?_
        refine xr_goto (tgt := 25) C dX5_hasPlaces_21 (by decide) ?_
        refine xr_lv [] rfl ?_
        exact ebX5_hasPlaces_25 C H0 q hf
theorem kX5_hasPlaces {B : Bs} {h : Shp} (H0 : RowsAt h) {I0 : Mem} {p1 : Int32} {p2 : Int32} {p3 : Int32} {r1 : Int32} {o1 : Mem} (hf : fnX5_hasPlaces I0 p1 p2 p3 = some (r1, o1)) : CtrI B yX5_hasPlaces cX5_hasPlaces 4 (some Jvm.ClassFile.FieldType.boolean) 0 0 0 0 [rfB B 1, .int p1, .int p2, .int p3] (I0, h) r1 (o1, h) := by
  refine xr_enterI (lv0 := [(0, rfB B 1), (1, .int p1), (2, .int p2), (3, .int p3)]) (by decide) (Nat.le_of_ble_eq_true rfl) rfl (fun g hg C q => ?_)
  subst hg
  exact ebX5_hasPlaces_0 C H0 q hf
theorem dX5_make_0 : decode cX5_make 0 = .ok (.aload_n 0, 1) := by decide +kernel
theorem dX5_make_1 : decode cX5_make 1 = .ok (.getfield 9, 3) := by decide +kernel
theorem dX5_make_4 : decode cX5_make 4 = .ok (.iload_n 1, 1) := by decide +kernel
theorem dX5_make_5 : decode cX5_make 5 = .ok (.iload_n 2, 1) := by decide +kernel
theorem dX5_make_6 : decode cX5_make 6 = .ok (.iastore, 1) := by decide +kernel
theorem dX5_make_7 : decode cX5_make 7 = .ok (.aload_n 0, 1) := by decide +kernel
theorem dX5_make_8 : decode cX5_make 8 = .ok (.getfield 15, 3) := by decide +kernel
theorem dX5_make_11 : decode cX5_make 11 = .ok (.iload_n 1, 1) := by decide +kernel
theorem dX5_make_12 : decode cX5_make 12 = .ok (.iload_n 3, 1) := by decide +kernel
theorem dX5_make_13 : decode cX5_make 13 = .ok (.iastore, 1) := by decide +kernel
theorem dX5_make_14 : decode cX5_make 14 = .ok (.iconst 0, 1) := by decide +kernel
theorem dX5_make_15 : decode cX5_make 15 = .ok (.istore 4, 2) := by decide +kernel
theorem dX5_make_17 : decode cX5_make 17 = .ok (.iload 4, 2) := by decide +kernel
theorem dX5_make_19 : decode cX5_make 19 = .ok (.bipush 40, 2) := by decide +kernel
theorem dX5_make_21 : decode cX5_make 21 = .ok (.if_icmp .ge 19, 3) := by decide +kernel
theorem dX5_make_24 : decode cX5_make 24 = .ok (.aload_n 0, 1) := by decide +kernel
theorem dX5_make_25 : decode cX5_make 25 = .ok (.getfield 20, 3) := by decide +kernel
theorem dX5_make_28 : decode cX5_make 28 = .ok (.iload_n 1, 1) := by decide +kernel
theorem dX5_make_29 : decode cX5_make 29 = .ok (.aaload, 1) := by decide +kernel
theorem dX5_make_30 : decode cX5_make 30 = .ok (.iload 4, 2) := by decide +kernel
theorem dX5_make_32 : decode cX5_make 32 = .ok (.iconst 0, 1) := by decide +kernel
theorem dX5_make_33 : decode cX5_make 33 = .ok (.iastore, 1) := by decide +kernel
theorem dX5_make_34 : decode cX5_make 34 = .ok (.iinc 4 1, 3) := by decide +kernel
theorem dX5_make_37 : decode cX5_make 37 = .ok (.goto (-20), 3) := by decide +kernel
theorem dX5_make_40 : decode cX5_make 40 = .ok (.return_, 1) := by decide +kernel
/-! BumperBalls$Rows.make(III)V -/
def fnX5_make_17b (rec17 : Mem → Int32 → Int32 → Option Mem) (I0 : Mem) (l1 : Int32) (l4 : Int32) : Option Mem :=
  if 40 ≤ l4 then (some I0) else (ck (inb l1 8) <| ck (inb l4 40) <| bnd (up2 I0 (5 + 1 * ix l1) (ix l4) 0) fun I4 => bnd (l4 + 1) fun v5 => rec17 I4 l1 v5)
def fnX5_make_17 : Nat → Mem → Int32 → Int32 → Option Mem
  | 0 => fun _ _ _ => none
  | fu + 1 => fnX5_make_17b (fnX5_make_17 fu)
set_option maxRecDepth 20000 in
set_option maxHeartbeats 2000000 in
theorem ebX5_make_17b {g : Cfg} (C : Cx g RX5 cX5_make 5 0 0 0 0) {h : Shp} (H0 : RowsAt h) {o1 : Mem} {rec17 : Mem → Int32 → Int32 → Option Mem} (q : QV g 0 0 (o1, h)) (ih17 : ∀ (I0 : Mem) (l1 : Int32) (l4 : Int32), rec17 I0 l1 l4 = some o1 → XE g 0 0 (I0, h) 17 [(0, rf g 1), (1, .int l1), (4, .int l4)] []) {I0 : Mem} {l1 : Int32} {l4 : Int32} (hf : fnX5_make_17b rec17 I0 l1 l4 = some o1) : XE g 0 0 (I0, h) 17 [(0, rf g 1), (1, .int l1), (4, .int l4)] [] := by
  unfold fnX5_make_17b at hf
  refine xr_iload C dX5_make_17 2 rfl ?_
  refine xr_bipush (v := 40) C dX5_make_19 (by decide) ?_
  refine xr_icmp_ge (tgt := 40) C dX5_make_21 (by decide) hf (fun c1 hf => ?_) (fun c1 hf => ?_)
  · exact xr_return C q dX5_make_40 (so_v hf)
  · refine xr_aload_n C dX5_make_24 0 rfl rfl ?_
    refine xr_getr C Kd5 (k := 2) (by decide) rfl wk_37 rfl H0.1 H0.2.2.2.1 dX5_make_25 ?_
    refine xr_iload_n C dX5_make_28 1 rfl rfl ?_
    obtain ⟨i2, hf⟩ := ck_x hf
    refine xr_aald C (kd := 14) (by decide) H0.2.2.2.2.1 i2 (H0.2.2.2.2.2 (ix l1) (inb_lt i2)).1 dX5_make_29 ?_
    refine xr_iload C dX5_make_30 2 rfl ?_
    refine xr_iconst (v := 0) C dX5_make_32 (by decide) ?_
    obtain ⟨i3, hf⟩ := ck_x hf
    obtain ⟨I4, eI4, hf⟩ := bnd_x hf
    refine xr_iast C (H0.2.2.2.2.2 (ix l1) (inb_lt i2)).2 i3 dX5_make_33 eI4 ?_
    obtain ⟨v5, ev5, hf⟩ := bnd_x hf
    refine xr_iinc (k := 2) (v := v5) C dX5_make_34 rfl (by rw [ev5]; rfl) (by decide) rfl ?_
    refine xr_goto (tgt := 17) C dX5_make_37 (by decide) ?_
    refine xr_lv [1, 2, 0] rfl ?_
    exact ih17 _ _ _ hf
theorem ebX5_make_17 {g : Cfg} (C : Cx g RX5 cX5_make 5 0 0 0 0) {h : Shp} (H0 : RowsAt h) {o1 : Mem} (q : QV g 0 0 (o1, h)) : ∀ (fu : Nat) {I0 : Mem} {l1 : Int32} {l4 : Int32} (hf : fnX5_make_17 fu I0 l1 l4 = some o1), XE g 0 0 (I0, h) 17 [(0, rf g 1), (1, .int l1), (4, .int l4)] [] := by
  intro fu
  induction fu with
  | zero =>
    intro I0 l1 l4 hf
    cases hf
  | succ fu ihn =>
    intro I0 l1 l4 hf
    exact ebX5_make_17b C H0 q (fun _ _ _ hf => ihn hf) hf
def fnX5_make (I0 : Mem) (p1 : Int32) (p2 : Int32) (p3 : Int32) : Option Mem :=
  ck (inb p1 8) <| bnd (up2 I0 2 (ix p1) p2) fun I2 => ck (inb p1 8) <| bnd (up2 I2 3 (ix p1) p3) fun I4 => fnX5_make_17 FU I4 p1 0
set_option maxRecDepth 20000 in
set_option maxHeartbeats 2000000 in
theorem ebX5_make_0 {g : Cfg} (C : Cx g RX5 cX5_make 5 0 0 0 0) {h : Shp} (H0 : RowsAt h) {o1 : Mem} (q : QV g 0 0 (o1, h)) {I0 : Mem} {p1 : Int32} {p2 : Int32} {p3 : Int32} (hf : fnX5_make I0 p1 p2 p3 = some o1) : XE g 0 0 (I0, h) 0 [(0, rf g 1), (1, .int p1), (2, .int p2), (3, .int p3)] [] := by
  unfold fnX5_make at hf
  refine xr_aload_n C dX5_make_0 0 rfl rfl ?_
  refine xr_getr C Kd5 (k := 0) (by decide) rfl wk_34 rfl H0.1 H0.2.1.1 dX5_make_1 ?_
  refine xr_iload_n C dX5_make_4 1 rfl rfl ?_
  refine xr_iload_n C dX5_make_5 2 rfl rfl ?_
  obtain ⟨i1, hf⟩ := ck_x hf
  obtain ⟨I2, eI2, hf⟩ := bnd_x hf
  refine xr_iast C H0.2.1.2 i1 dX5_make_6 eI2 ?_
  refine xr_aload_n C dX5_make_7 0 rfl rfl ?_
  refine xr_getr C Kd5 (k := 1) (by decide) rfl wk_36 rfl H0.1 H0.2.2.1.1 dX5_make_8 ?_
  refine xr_iload_n C dX5_make_11 1 rfl rfl ?_
  refine xr_iload_n C dX5_make_12 3 rfl rfl ?_
  obtain ⟨i3, hf⟩ := ck_x hf
  obtain ⟨I4, eI4, hf⟩ := bnd_x hf
  refine xr_iast C H0.2.2.1.2 i3 dX5_make_13 eI4 ?_
  refine xr_iconst (v := 0) C dX5_make_14 (by decide) ?_
  refine xr_istore C dX5_make_15 (by decide) rfl ?_
  refine xr_lv [1, 2, 0] rfl ?_
  exact ebX5_make_17 C H0 q _ hf
theorem kX5_make {B : Bs} {h : Shp} (H0 : RowsAt h) {I0 : Mem} {p1 : Int32} {p2 : Int32} {p3 : Int32} {o1 : Mem} (hf : fnX5_make I0 p1 p2 p3 = some o1) : CtrV B yX5_make cX5_make 5 0 0 0 0 [rfB B 1, .int p1, .int p2, .int p3] (I0, h) (o1, h) := by
  refine xr_enterV (lv0 := [(0, rfB B 1), (1, .int p1), (2, .int p2), (3, .int p3)]) (by decide) (Nat.le_of_ble_eq_true rfl) rfl (fun g hg C q => ?_)
  subst hg
  exact ebX5_make_0 C H0 q hf
theorem dX5_remove_0 : decode cX5_remove 0 = .ok (.aload_n 0, 1) := by decide +kernel
theorem dX5_remove_1 : decode cX5_remove 1 = .ok (.getfield 15, 3) := by decide +kernel
theorem dX5_remove_4 : decode cX5_remove 4 = .ok (.iload_n 1, 1) := by decide +kernel
theorem dX5_remove_5 : decode cX5_remove 5 = .ok (.iaload, 1) := by decide +kernel
theorem dX5_remove_6 : decode cX5_remove 6 = .ok (.istore_n 2, 1) := by decide +kernel
theorem dX5_remove_7 : decode cX5_remove 7 = .ok (.aload_n 0, 1) := by decide +kernel
theorem dX5_remove_8 : decode cX5_remove 8 = .ok (.getfield 15, 3) := by decide +kernel
theorem dX5_remove_11 : decode cX5_remove 11 = .ok (.iload_n 1, 1) := by decide +kernel
theorem dX5_remove_12 : decode cX5_remove 12 = .ok (.iconst (-1), 1) := by decide +kernel
theorem dX5_remove_13 : decode cX5_remove 13 = .ok (.iastore, 1) := by decide +kernel
theorem dX5_remove_14 : decode cX5_remove 14 = .ok (.iload_n 2, 1) := by decide +kernel
theorem dX5_remove_15 : decode cX5_remove 15 = .ok (.ireturn, 1) := by decide +kernel
/-! BumperBalls$Rows.remove(I)I -/
def fnX5_remove (I0 : Mem) (p1 : Int32) : Option (Int32 × Mem) :=
  ck (inb p1 8) <| bnd (I0 3 (ix p1)) fun v2 => ck (inb p1 8) <| bnd (up2 I0 3 (ix p1) (-1)) fun I4 => some (v2, I4)
set_option maxRecDepth 20000 in
set_option maxHeartbeats 2000000 in
theorem ebX5_remove_0 {g : Cfg} (C : Cx g RX5 cX5_remove 3 0 0 0 0) {h : Shp} (H0 : RowsAt h) {r1 : Int32} {o1 : Mem} (q : QI g (some Jvm.ClassFile.FieldType.int) 0 0 r1 (o1, h)) {I0 : Mem} {p1 : Int32} (hf : fnX5_remove I0 p1 = some (r1, o1)) : XE g 0 0 (I0, h) 0 [(0, rf g 1), (1, .int p1)] [] := by
  unfold fnX5_remove at hf
  refine xr_aload_n C dX5_remove_0 0 rfl rfl ?_
  refine xr_getr C Kd5 (k := 1) (by decide) rfl wk_36 rfl H0.1 H0.2.2.1.1 dX5_remove_1 ?_
  refine xr_iload_n C dX5_remove_4 1 rfl rfl ?_
  obtain ⟨i1, hf⟩ := ck_x hf
  refine xr_iald C H0.2.2.1.2 i1 dX5_remove_5 ?_
  obtain ⟨v2, ev2, hf⟩ := bnd_x hf
  refine xr_nm ev2 ?_
  refine xr_istore_n C dX5_remove_6 rfl (by decide) rfl ?_
  refine xr_aload_n C dX5_remove_7 1 rfl rfl ?_
  refine xr_getr C Kd5 (k := 1) (by decide) rfl wk_36 rfl H0.1 H0.2.2.1.1 dX5_remove_8 ?_
  refine xr_iload_n C dX5_remove_11 2 rfl rfl ?_
  refine xr_iconst (v := (-1)) C dX5_remove_12 (by decide) ?_
  obtain ⟨i3, hf⟩ := ck_x hf
  obtain ⟨I4, eI4, hf⟩ := bnd_x hf
  refine xr_iast C H0.2.2.1.2 i3 dX5_remove_13 eI4 ?_
  refine xr_iload_n C dX5_remove_14 0 rfl rfl ?_
  exact xr_ireturn C q rfl rfl dX5_remove_15 (so_1 hf) (so_w hf)
theorem kX5_remove {B : Bs} {h : Shp} (H0 : RowsAt h) {I0 : Mem} {p1 : Int32} {r1 : Int32} {o1 : Mem} (hf : fnX5_remove I0 p1 = some (r1, o1)) : CtrI B yX5_remove cX5_remove 3 (some Jvm.ClassFile.FieldType.int) 0 0 0 0 [rfB B 1, .int p1] (I0, h) r1 (o1, h) := by
  refine xr_enterI (lv0 := [(0, rfB B 1), (1, .int p1)]) (by decide) (Nat.le_of_ble_eq_true rfl) rfl (fun g hg C q => ?_)
  subst hg
  exact ebX5_remove_0 C H0 q hf
theorem dX5_write_0 : decode cX5_write 0 = .ok (.aload_n 0, 1) := by decide +kernel
theorem dX5_write_1 : decode cX5_write 1 = .ok (.getfield 20, 3) := by decide +kernel
theorem dX5_write_4 : decode cX5_write 4 = .ok (.iload_n 1, 1) := by decide +kernel
theorem dX5_write_5 : decode cX5_write 5 = .ok (.aaload, 1) := by decide +kernel
theorem dX5_write_6 : decode cX5_write 6 = .ok (.iload_n 2, 1) := by decide +kernel
theorem dX5_write_7 : decode cX5_write 7 = .ok (.aload_n 0, 1) := by decide +kernel
theorem dX5_write_8 : decode cX5_write 8 = .ok (.getfield 9, 3) := by decide +kernel
theorem dX5_write_11 : decode cX5_write 11 = .ok (.iload_n 1, 1) := by decide +kernel
theorem dX5_write_12 : decode cX5_write 12 = .ok (.iaload, 1) := by decide +kernel
theorem dX5_write_13 : decode cX5_write 13 = .ok (.ifCond .ne 8, 3) := by decide +kernel
theorem dX5_write_16 : decode cX5_write 16 = .ok (.iload_n 3, 1) := by decide +kernel
theorem dX5_write_17 : decode cX5_write 17 = .ok (.i2b, 1) := by decide +kernel
theorem dX5_write_18 : decode cX5_write 18 = .ok (.goto 19, 3) := by decide +kernel
theorem dX5_write_21 : decode cX5_write 21 = .ok (.aload_n 0, 1) := by decide +kernel
theorem dX5_write_22 : decode cX5_write 22 = .ok (.getfield 9, 3) := by decide +kernel
theorem dX5_write_25 : decode cX5_write 25 = .ok (.iload_n 1, 1) := by decide +kernel
theorem dX5_write_26 : decode cX5_write 26 = .ok (.iaload, 1) := by decide +kernel
theorem dX5_write_27 : decode cX5_write 27 = .ok (.iconst 1, 1) := by decide +kernel
theorem dX5_write_28 : decode cX5_write 28 = .ok (.if_icmp .ne 8, 3) := by decide +kernel
theorem dX5_write_31 : decode cX5_write 31 = .ok (.iload_n 3, 1) := by decide +kernel
theorem dX5_write_32 : decode cX5_write 32 = .ok (.i2s, 1) := by decide +kernel
theorem dX5_write_33 : decode cX5_write 33 = .ok (.goto 4, 3) := by decide +kernel
theorem dX5_write_36 : decode cX5_write 36 = .ok (.iload_n 3, 1) := by decide +kernel
theorem dX5_write_37 : decode cX5_write 37 = .ok (.iastore, 1) := by decide +kernel
theorem dX5_write_38 : decode cX5_write 38 = .ok (.aload_n 0, 1) := by decide +kernel
theorem dX5_write_39 : decode cX5_write 39 = .ok (.getfield 20, 3) := by decide +kernel
theorem dX5_write_42 : decode cX5_write 42 = .ok (.iload_n 1, 1) := by decide +kernel
theorem dX5_write_43 : decode cX5_write 43 = .ok (.aaload, 1) := by decide +kernel
theorem dX5_write_44 : decode cX5_write 44 = .ok (.iload_n 2, 1) := by decide +kernel
theorem dX5_write_45 : decode cX5_write 45 = .ok (.iaload, 1) := by decide +kernel
theorem dX5_write_46 : decode cX5_write 46 = .ok (.ireturn, 1) := by decide +kernel
/-! BumperBalls$Rows.write(III)I -/
def fnX5_write_37 (I0 : Mem) (l1 : Int32) (l2 : Int32) (y0 : Nat) (t1 : Int32) (t2 : Int32) : Option (Int32 × Mem) :=
  ck (inb t1 40) <| bnd (up2 I0 y0 (ix t1) t2) fun I2 => ck (inb l1 8) <| ck (inb l2 40) <| some ((I2 (5 + 1 * ix l1) (ix l2)), I2)
set_option maxRecDepth 20000 in
set_option maxHeartbeats 2000000 in
theorem ebX5_write_37 {g : Cfg} (C : Cx g RX5 cX5_write 4 0 0 0 0) {h : Shp} (H0 : RowsAt h) {r1 : Int32} {o1 : Mem} (q : QI g (some Jvm.ClassFile.FieldType.int) 0 0 r1 (o1, h)) {y0 : Nat} (hy0 : tA h y0 11 40) {I0 : Mem} {l1 : Int32} {l2 : Int32} {t1 : Int32} {t2 : Int32} (hf : fnX5_write_37 I0 l1 l2 y0 t1 t2 = some (r1, o1)) : XE g 0 0 (I0, h) 37 [(0, rf g 1), (1, .int l1), (2, .int l2)] [.int t2, .int t1, rf g y0] := by
  unfold fnX5_write_37 at hf
  obtain ⟨i1, hf⟩ := ck_x hf
  obtain ⟨I2, eI2, hf⟩ := bnd_x hf
  refine xr_iast C hy0 i1 dX5_write_37 eI2 ?_
  refine xr_aload_n C dX5_write_38 0 rfl rfl ?_
  refine xr_getr C Kd5 (k := 2) (by decide) rfl wk_37 rfl H0.1 H0.2.2.2.1 dX5_write_39 ?_
  refine xr_iload_n C dX5_write_42 1 rfl rfl ?_
  obtain ⟨i3, hf⟩ := ck_x hf
  refine xr_aald C (kd := 14) (by decide) H0.2.2.2.2.1 i3 (H0.2.2.2.2.2 (ix l1) (inb_lt i3)).1 dX5_write_43 ?_
  refine xr_iload_n C dX5_write_44 2 rfl rfl ?_
  obtain ⟨i4, hf⟩ := ck_x hf
  refine xr_iald C (H0.2.2.2.2.2 (ix l1) (inb_lt i3)).2 i4 dX5_write_45 ?_
  exact xr_ireturn C q rfl rfl dX5_write_46 (so_1 hf) (so_w hf)
def fnX5_write (I0 : Mem) (p1 : Int32) (p2 : Int32) (p3 : Int32) : Option (Int32 × Mem) :=
  ck (inb p1 8) <| ck (inb p1 8) <| if (I0 2 (ix p1)) = 0 then (fnX5_write_37 I0 p1 p2 (5 + 1 * ix p1) p2 ((p3).toInt8.toInt32)) else (ck (inb p1 8) <| if (I0 2 (ix p1)) = 1 then (fnX5_write_37 I0 p1 p2 (5 + 1 * ix p1) p2 ((p3).toInt16.toInt32)) else (fnX5_write_37 I0 p1 p2 (5 + 1 * ix p1) p2 p3))
set_option maxRecDepth 20000 in
set_option maxHeartbeats 2000000 in
theorem ebX5_write_0 {g : Cfg} (C : Cx g RX5 cX5_write 4 0 0 0 0) {h : Shp} (H0 : RowsAt h) {r1 : Int32} {o1 : Mem} (q : QI g (some Jvm.ClassFile.FieldType.int) 0 0 r1 (o1, h)) {I0 : Mem} {p1 : Int32} {p2 : Int32} {p3 : Int32} (hf : fnX5_write I0 p1 p2 p3 = some (r1, o1)) : XE g 0 0 (I0, h) 0 [(0, rf g 1), (1, .int p1), (2, .int p2), (3, .int p3)] [] := by
  unfold fnX5_write at hf
  refine xr_aload_n C dX5_write_0 0 rfl rfl ?_
  refine xr_getr C Kd5 (k := 2) (by decide) rfl wk_37 rfl H0.1 H0.2.2.2.1 dX5_write_1 ?_
  refine xr_iload_n C dX5_write_4 1 rfl rfl ?_
  obtain ⟨i1, hf⟩ := ck_x hf
  refine xr_aald C (kd := 14) (by decide) H0.2.2.2.2.1 i1 (H0.2.2.2.2.2 (ix p1) (inb_lt i1)).1 dX5_write_5 ?_
  refine xr_iload_n C dX5_write_6 2 rfl rfl ?_
  refine xr_aload_n C dX5_write_7 0 rfl rfl ?_
  refine xr_getr C Kd5 (k := 0) (by decide) rfl wk_34 rfl H0.1 H0.2.1.1 dX5_write_8 ?_
  refine xr_iload_n C dX5_write_11 1 rfl rfl ?_
  obtain ⟨i2, hf⟩ := ck_x hf
  refine xr_iald C H0.2.1.2 i2 dX5_write_12 ?_
  refine xr_if_ne (tgt := 21) C dX5_write_13 (by decide) hf (fun c3 hf => ?_) (fun c3 hf => ?_)
  · refine xr_aload_n C dX5_write_21 0 rfl rfl ?_
    refine xr_getr C Kd5 (k := 0) (by decide) rfl wk_34 rfl H0.1 H0.2.1.1 dX5_write_22 ?_
    refine xr_iload_n C dX5_write_25 1 rfl rfl ?_
    obtain ⟨i4, hf⟩ := ck_x hf
    refine xr_iald C H0.2.1.2 i4 dX5_write_26 ?_
    refine xr_iconst (v := 1) C dX5_write_27 (by decide) ?_
    refine xr_icmp_ne (tgt := 36) C dX5_write_28 (by decide) hf (fun c5 hf => ?_) (fun c5 hf => ?_)
    · refine xr_iload_n C dX5_write_36 3 rfl rfl ?_
      refine xr_lv [0, 1, 2] rfl ?_
      exact ebX5_write_37 C H0 q (H0.2.2.2.2.2 (ix p1) (inb_lt i1)).2 hf
    · refine xr_iload_n C dX5_write_31 3 rfl rfl ?_
      refine xr_i2s C dX5_write_32 ?_
      refine xr_goto (tgt := 37) C dX5_write_33 (by decide) ?_
      refine xr_lv [0, 1, 2] rfl ?_
      exact ebX5_write_37 C H0 q (H0.2.2.2.2.2 (ix p1) (inb_lt i1)).2 hf
  · refine xr_iload_n C dX5_write_16 3 rfl rfl ?_
    refine xr_i2b C dX5_write_17 ?_
    refine xr_goto (tgt := 37) C dX5_write_18 (by decide) ?_
    refine xr_lv [0, 1, 2] rfl ?_
    exact ebX5_write_37 C H0 q (H0.2.2.2.2.2 (ix p1) (inb_lt i1)).2 hf
theorem kX5_write {B : Bs} {h : Shp} (H0 : RowsAt h) {I0 : Mem} {p1 : Int32} {p2 : Int32} {p3 : Int32} {r1 : Int32} {o1 : Mem} (hf : fnX5_write I0 p1 p2 p3 = some (r1, o1)) : CtrI B yX5_write cX5_write 4 (some Jvm.ClassFile.FieldType.int) 0 0 0 0 [rfB B 1, .int p1, .int p2, .int p3] (I0, h) r1 (o1, h) := by
  refine xr_enterI (lv0 := [(0, rfB B 1), (1, .int p1), (2, .int p2), (3, .int p3)]) (by decide) (Nat.le_of_ble_eq_true rfl) rfl (fun g hg C q => ?_)
  subst hg
  exact ebX5_write_0 C H0 q hf
theorem dX5_tellsLetters_0 : decode cX5_tellsLetters 0 = .ok (.iconst 0, 1) := by decide +kernel
theorem dX5_tellsLetters_1 : decode cX5_tellsLetters 1 = .ok (.istore 4, 2) := by decide +kernel
theorem dX5_tellsLetters_3 : decode cX5_tellsLetters 3 = .ok (.iload 4, 2) := by decide +kernel
theorem dX5_tellsLetters_5 : decode cX5_tellsLetters 5 = .ok (.iload_n 3, 1) := by decide +kernel
theorem dX5_tellsLetters_6 : decode cX5_tellsLetters 6 = .ok (.if_icmp .ge 30, 3) := by decide +kernel
theorem dX5_tellsLetters_9 : decode cX5_tellsLetters 9 = .ok (.aload_n 0, 1) := by decide +kernel
theorem dX5_tellsLetters_10 : decode cX5_tellsLetters 10 = .ok (.getfield 20, 3) := by decide +kernel
theorem dX5_tellsLetters_13 : decode cX5_tellsLetters 13 = .ok (.iload_n 1, 1) := by decide +kernel
theorem dX5_tellsLetters_14 : decode cX5_tellsLetters 14 = .ok (.aaload, 1) := by decide +kernel
theorem dX5_tellsLetters_15 : decode cX5_tellsLetters 15 = .ok (.iload_n 2, 1) := by decide +kernel
theorem dX5_tellsLetters_16 : decode cX5_tellsLetters 16 = .ok (.iload 4, 2) := by decide +kernel
theorem dX5_tellsLetters_18 : decode cX5_tellsLetters 18 = .ok (.iadd, 1) := by decide +kernel
theorem dX5_tellsLetters_19 : decode cX5_tellsLetters 19 = .ok (.iaload, 1) := by decide +kernel
theorem dX5_tellsLetters_20 : decode cX5_tellsLetters 20 = .ok (.bipush 7, 2) := by decide +kernel
theorem dX5_tellsLetters_22 : decode cX5_tellsLetters 22 = .ok (.invokestatic 23, 3) := by decide +kernel
theorem dX5_tellsLetters_25 : decode cX5_tellsLetters 25 = .ok (.ifCond .ne 5, 3) := by decide +kernel
theorem dX5_tellsLetters_28 : decode cX5_tellsLetters 28 = .ok (.iconst 0, 1) := by decide +kernel
theorem dX5_tellsLetters_29 : decode cX5_tellsLetters 29 = .ok (.ireturn, 1) := by decide +kernel
theorem dX5_tellsLetters_30 : decode cX5_tellsLetters 30 = .ok (.iinc 4 1, 3) := by decide +kernel
theorem dX5_tellsLetters_33 : decode cX5_tellsLetters 33 = .ok (.goto (-30), 3) := by decide +kernel
theorem dX5_tellsLetters_36 : decode cX5_tellsLetters 36 = .ok (.iconst 1, 1) := by decide +kernel
theorem dX5_tellsLetters_37 : decode cX5_tellsLetters 37 = .ok (.ireturn, 1) := by decide +kernel
theorem lkX5_23 : LkSN "BumperBalls$Rows" 23 yX9_isUpTo cX9_isUpTo 2 (some Jvm.ClassFile.FieldType.boolean) 2 := ⟨wk_351, wk_1, wk_350, ⟨by decide +kernel, by decide +kernel, by decide +kernel⟩, (List.mem_of_getElem? (i := 95) (by decide +kernel))⟩
/-! BumperBalls$Rows.tellsLetters(III)Z -/
def fnX5_tellsLetters_3b (rec3 : Mem → Int32 → Int32 → Int32 → Int32 → Option (Int32 × Mem)) (I0 : Mem) (l1 : Int32) (l2 : Int32) (l3 : Int32) (l4 : Int32) : Option (Int32 × Mem) :=
  if l3 ≤ l4 then (some (1, I0)) else (ck (inb l1 8) <| ck (inb (l2 + l4) 40) <| ob (fnX9_isUpTo I0 (I0 (5 + 1 * ix l1) (ix (l2 + l4))) 7) fun ⟨r6, I5⟩ => if r6 = 0 then (some (0, I5)) else (bnd (l4 + 1) fun v8 => rec3 I5 l1 l2 l3 v8))
def fnX5_tellsLetters_3 : Nat → Mem → Int32 → Int32 → Int32 → Int32 → Option (Int32 × Mem)
  | 0 => fun _ _ _ _ _ => none
  | fu + 1 => fnX5_tellsLetters_3b (fnX5_tellsLetters_3 fu)
set_option maxRecDepth 20000 in
set_option maxHeartbeats 2000000 in
theorem ebX5_tellsLetters_3b {g : Cfg} (C : Cx g RX5 cX5_tellsLetters 5 1 21 0 0) {h : Shp} (H0 : RowsAt h) {r1 : Int32} {o1 : Mem} {rec3 : Mem → Int32 → Int32 → Int32 → Int32 → Option (Int32 × Mem)} (q : QI g (some Jvm.ClassFile.FieldType.boolean) 0 0 r1 (o1, h)) (ih3 : ∀ (I0 : Mem) (l1 : Int32) (l2 : Int32) (l3 : Int32) (l4 : Int32), rec3 I0 l1 l2 l3 l4 = some (r1, o1) → XE g 0 0 (I0, h) 3 [(0, rf g 1), (1, .int l1), (2, .int l2), (3, .int l3), (4, .int l4)] []) {I0 : Mem} {l1 : Int32} {l2 : Int32} {l3 : Int32} {l4 : Int32} (hf : fnX5_tellsLetters_3b rec3 I0 l1 l2 l3 l4 = some (r1, o1)) : XE g 0 0 (I0, h) 3 [(0, rf g 1), (1, .int l1), (2, .int l2), (3, .int l3), (4, .int l4)] [] := by
  unfold fnX5_tellsLetters_3b at hf
  refine xr_iload C dX5_tellsLetters_3 4 rfl ?_
  refine xr_iload_n C dX5_tellsLetters_5 3 rfl rfl ?_
  refine xr_icmp_ge (tgt := 36) C dX5_tellsLetters_6 (by decide) hf (fun c1 hf => ?_) (fun c1 hf => ?_)
  · refine xr_iconst (v := 1) C dX5_tellsLetters_36 (by decide) ?_
    exact xr_ireturn C q rfl rfl dX5_tellsLetters_37 (so_1 hf) (so_w hf)
  · refine xr_aload_n C dX5_tellsLetters_9 0 rfl rfl ?_
    refine xr_getr C Kd5 (k := 2) (by decide) rfl wk_37 rfl H0.1 H0.2.2.2.1 dX5_tellsLetters_10 ?_
    refine xr_iload_n C dX5_tellsLetters_13 1 rfl rfl ?_
    obtain ⟨i2, hf⟩ := ck_x hf
    refine xr_aald C (kd := 14) (by decide) H0.2.2.2.2.1 i2 (H0.2.2.2.2.2 (ix l1) (inb_lt i2)).1 dX5_tellsLetters_14 ?_
    refine xr_iload_n C dX5_tellsLetters_15 2 rfl rfl ?_
    refine xr_iload C dX5_tellsLetters_16 4 rfl ?_
    refine xr_iadd C dX5_tellsLetters_18 ?_
    obtain ⟨i3, hf⟩ := ck_x hf
    refine xr_iald C (H0.2.2.2.2.2 (ix l1) (inb_lt i2)).2 i3 dX5_tellsLetters_19 ?_
    refine xr_bipush (v := 7) C dX5_tellsLetters_20 (by decide) ?_
    obtain ⟨⟨r6, I5⟩, h4, hf⟩ := ob_x hf
    refine xr_callSNI C [.int (I0 (5 + 1 * ix l1) (ix (l2 + l4))), .int 7] lkX5_23 (kX9_isUpTo h4) rfl (Nat.le_of_ble_eq_true rfl) rfl dX5_tellsLetters_22 ⟨by decide, by decide, by decide⟩ rfl ?_
    refine xr_if_ne (tgt := 30) C dX5_tellsLetters_25 (by decide) hf (fun c7 hf => ?_) (fun c7 hf => ?_)
    · obtain ⟨v8, ev8, hf⟩ := bnd_x hf
      refine xr_iinc (k := 4) (v := v8) C dX5_tellsLetters_30 rfl (by rw [ev8]; rfl) (by decide) rfl ?_
      refine xr_goto (tgt := 3) C dX5_tellsLetters_33 (by decide) ?_
      refine xr_lv [1, 2, 3, 4, 0] rfl ?_
      exact ih3 _ _ _ _ _ hf
    · refine xr_iconst (v := 0) C dX5_tellsLetters_28 (by decide) ?_
      exact xr_ireturn C q rfl rfl dX5_tellsLetters_29 (so_1 hf) (so_w hf)
theorem ebX5_tellsLetters_3 {g : Cfg} (C : Cx g RX5 cX5_tellsLetters 5 1 21 0 0) {h : Shp} (H0 : RowsAt h) {r1 : Int32} {o1 : Mem} (q : QI g (some Jvm.ClassFile.FieldType.boolean) 0 0 r1 (o1, h)) : ∀ (fu : Nat) {I0 : Mem} {l1 : Int32} {l2 : Int32} {l3 : Int32} {l4 : Int32} (hf : fnX5_tellsLetters_3 fu I0 l1 l2 l3 l4 = some (r1, o1)), XE g 0 0 (I0, h) 3 [(0, rf g 1), (1, .int l1), (2, .int l2), (3, .int l3), (4, .int l4)] [] := by
  intro fu
  induction fu with
  | zero =>
    intro I0 l1 l2 l3 l4 hf
    cases hf
  | succ fu ihn =>
    intro I0 l1 l2 l3 l4 hf
    exact ebX5_tellsLetters_3b C H0 q (fun _ _ _ _ _ hf => ihn hf) hf
def fnX5_tellsLetters (I0 : Mem) (p1 : Int32) (p2 : Int32) (p3 : Int32) : Option (Int32 × Mem) :=
  fnX5_tellsLetters_3 FU I0 p1 p2 p3 0
set_option maxRecDepth 20000 in
set_option maxHeartbeats 2000000 in
theorem ebX5_tellsLetters_0 {g : Cfg} (C : Cx g RX5 cX5_tellsLetters 5 1 21 0 0) {h : Shp} (H0 : RowsAt h) {r1 : Int32} {o1 : Mem} (q : QI g (some Jvm.ClassFile.FieldType.boolean) 0 0 r1 (o1, h)) {I0 : Mem} {p1 : Int32} {p2 : Int32} {p3 : Int32} (hf : fnX5_tellsLetters I0 p1 p2 p3 = some (r1, o1)) : XE g 0 0 (I0, h) 0 [(0, rf g 1), (1, .int p1), (2, .int p2), (3, .int p3)] [] := by
  unfold fnX5_tellsLetters at hf
  refine xr_iconst (v := 0) C dX5_tellsLetters_0 (by decide) ?_
  refine xr_istore C dX5_tellsLetters_1 (by decide) rfl ?_
  refine xr_lv [1, 2, 3, 4, 0] rfl ?_
  exact ebX5_tellsLetters_3 C H0 q _ hf
theorem kX5_tellsLetters {B : Bs} {h : Shp} (H0 : RowsAt h) {I0 : Mem} {p1 : Int32} {p2 : Int32} {p3 : Int32} {r1 : Int32} {o1 : Mem} (hf : fnX5_tellsLetters I0 p1 p2 p3 = some (r1, o1)) : CtrI B yX5_tellsLetters cX5_tellsLetters 5 (some Jvm.ClassFile.FieldType.boolean) 1 21 0 0 [rfB B 1, .int p1, .int p2, .int p3] (I0, h) r1 (o1, h) := by
  refine xr_enterI (lv0 := [(0, rfB B 1), (1, .int p1), (2, .int p2), (3, .int p3)]) (by decide) (Nat.le_of_ble_eq_true rfl) rfl (fun g hg C q => ?_)
  subst hg
  exact ebX5_tellsLetters_0 C H0 q hf
theorem dX5_there_0 : decode cX5_there 0 = .ok (.iconst 0, 1) := by decide +kernel
theorem dX5_there_1 : decode cX5_there 1 = .ok (.istore_n 1, 1) := by decide +kernel
theorem dX5_there_2 : decode cX5_there 2 = .ok (.iconst 0, 1) := by decide +kernel
theorem dX5_there_3 : decode cX5_there 3 = .ok (.istore_n 2, 1) := by decide +kernel
theorem dX5_there_4 : decode cX5_there 4 = .ok (.iload_n 2, 1) := by decide +kernel
theorem dX5_there_5 : decode cX5_there 5 = .ok (.bipush 8, 2) := by decide +kernel
theorem dX5_there_7 : decode cX5_there 7 = .ok (.if_icmp .ge 20, 3) := by decide +kernel
theorem dX5_there_10 : decode cX5_there 10 = .ok (.aload_n 0, 1) := by decide +kernel
theorem dX5_there_11 : decode cX5_there 11 = .ok (.iload_n 2, 1) := by decide +kernel
theorem dX5_there_12 : decode cX5_there 12 = .ok (.invokevirtual 27, 3) := by decide +kernel
theorem dX5_there_15 : decode cX5_there 15 = .ok (.ifCond .ne 6, 3) := by decide +kernel
theorem dX5_there_18 : decode cX5_there 18 = .ok (.iinc 1 1, 3) := by decide +kernel
theorem dX5_there_21 : decode cX5_there 21 = .ok (.iinc 2 1, 3) := by decide +kernel
theorem dX5_there_24 : decode cX5_there 24 = .ok (.goto (-20), 3) := by decide +kernel
theorem dX5_there_27 : decode cX5_there 27 = .ok (.iload_n 1, 1) := by decide +kernel
theorem dX5_there_28 : decode cX5_there 28 = .ok (.ireturn, 1) := by decide +kernel
theorem lkX5_27 : LkV "BumperBalls$Rows" 27 yX5_isMissing cX5_isMissing 2 (some Jvm.ClassFile.FieldType.boolean) 1 := ⟨wk_373, wk_2, wk_372, wk_s4, ⟨by decide +kernel, by decide +kernel, by decide +kernel⟩, wk_809⟩
/-! BumperBalls$Rows.there()I -/
def fnX5_there_21 (rec4 : Mem → Int32 → Int32 → Option (Int32 × Mem)) (I0 : Mem) (l1 : Int32) (l2 : Int32) : Option (Int32 × Mem) :=
  bnd (l2 + 1) fun v1 => rec4 I0 l1 v1
set_option maxRecDepth 20000 in
set_option maxHeartbeats 2000000 in
theorem ebX5_there_21 {g : Cfg} (C : Cx g RX5 cX5_there 3 1 21 0 0) {h : Shp} (H0 : RowsAt h) {r1 : Int32} {o1 : Mem} {rec4 : Mem → Int32 → Int32 → Option (Int32 × Mem)} (ih4 : ∀ (I0 : Mem) (l1 : Int32) (l2 : Int32), rec4 I0 l1 l2 = some (r1, o1) → XE g 0 0 (I0, h) 4 [(0, rf g 1), (1, .int l1), (2, .int l2)] []) (q : QI g (some Jvm.ClassFile.FieldType.int) 0 0 r1 (o1, h)) {I0 : Mem} {l1 : Int32} {l2 : Int32} (hf : fnX5_there_21 rec4 I0 l1 l2 = some (r1, o1)) : XE g 0 0 (I0, h) 21 [(0, rf g 1), (1, .int l1), (2, .int l2)] [] := by
  unfold fnX5_there_21 at hf
  obtain ⟨v1, ev1, hf⟩ := bnd_x hf
  refine xr_iinc (k := 2) (v := v1) C dX5_there_21 rfl (by rw [ev1]; rfl) (by decide) rfl ?_
  refine xr_goto (tgt := 4) C dX5_there_24 (by decide) ?_
  refine xr_lv [1, 2, 0] rfl ?_
  exact ih4 _ _ _ hf
def fnX5_there_4b (rec4 : Mem → Int32 → Int32 → Option (Int32 × Mem)) (I0 : Mem) (l1 : Int32) (l2 : Int32) : Option (Int32 × Mem) :=
  if 8 ≤ l2 then (some (l1, I0)) else (ob (fnX5_isMissing I0 l2) fun ⟨r4, I3⟩ => if r4 = 0 then (bnd (l1 + 1) fun v6 => fnX5_there_21 rec4 I3 v6 l2) else (fnX5_there_21 rec4 I3 l1 l2))
def fnX5_there_4 : Nat → Mem → Int32 → Int32 → Option (Int32 × Mem)
  | 0 => fun _ _ _ => none
  | fu + 1 => fnX5_there_4b (fnX5_there_4 fu)
set_option maxRecDepth 20000 in
set_option maxHeartbeats 2000000 in
theorem ebX5_there_4b {g : Cfg} (C : Cx g RX5 cX5_there 3 1 21 0 0) {h : Shp} (H0 : RowsAt h) {r1 : Int32} {o1 : Mem} {rec4 : Mem → Int32 → Int32 → Option (Int32 × Mem)} (q : QI g (some Jvm.ClassFile.FieldType.int) 0 0 r1 (o1, h)) (ih4 : ∀ (I0 : Mem) (l1 : Int32) (l2 : Int32), rec4 I0 l1 l2 = some (r1, o1) → XE g 0 0 (I0, h) 4 [(0, rf g 1), (1, .int l1), (2, .int l2)] []) {I0 : Mem} {l1 : Int32} {l2 : Int32} (hf : fnX5_there_4b rec4 I0 l1 l2 = some (r1, o1)) : XE g 0 0 (I0, h) 4 [(0, rf g 1), (1, .int l1), (2, .int l2)] [] := by
  unfold fnX5_there_4b at hf
  refine xr_iload_n C dX5_there_4 2 rfl rfl ?_
  refine xr_bipush (v := 8) C dX5_there_5 (by decide) ?_
  refine xr_icmp_ge (tgt := 27) C dX5_there_7 (by decide) hf (fun c1 hf => ?_) (fun c1 hf => ?_)
  · refine xr_iload_n C dX5_there_27 1 rfl rfl ?_
    exact xr_ireturn C q rfl rfl dX5_there_28 (so_1 hf) (so_w hf)
  · refine xr_aload_n C dX5_there_10 0 rfl rfl ?_
    refine xr_iload_n C dX5_there_11 2 rfl rfl ?_
    obtain ⟨⟨r4, I3⟩, h2, hf⟩ := ob_x hf
    refine xr_callVI C [.int l2] lkX5_27 (kX5_isMissing H0 h2) Kd5 rfl H0.1 rfl (Nat.le_of_ble_eq_true rfl) rfl dX5_there_12 ⟨by decide, by decide, by decide⟩ rfl ?_
    refine xr_if_ne (tgt := 21) C dX5_there_15 (by decide) hf (fun c5 hf => ?_) (fun c5 hf => ?_)
    · exact ebX5_there_21 C H0 ih4 q hf
    · obtain ⟨v6, ev6, hf⟩ := bnd_x hf
      refine xr_iinc (k := 1) (v := v6) C dX5_there_18 rfl (by rw [ev6]; rfl) (by decide) rfl ?_
      refine xr_lv [1, 0, 2] rfl ?_
      exact ebX5_there_21 C H0 ih4 q hf
theorem ebX5_there_4 {g : Cfg} (C : Cx g RX5 cX5_there 3 1 21 0 0) {h : Shp} (H0 : RowsAt h) {r1 : Int32} {o1 : Mem} (q : QI g (some Jvm.ClassFile.FieldType.int) 0 0 r1 (o1, h)) : ∀ (fu : Nat) {I0 : Mem} {l1 : Int32} {l2 : Int32} (hf : fnX5_there_4 fu I0 l1 l2 = some (r1, o1)), XE g 0 0 (I0, h) 4 [(0, rf g 1), (1, .int l1), (2, .int l2)] [] := by
  intro fu
  induction fu with
  | zero =>
    intro I0 l1 l2 hf
    cases hf
  | succ fu ihn =>
    intro I0 l1 l2 hf
    exact ebX5_there_4b C H0 q (fun _ _ _ hf => ihn hf) hf
def fnX5_there (I0 : Mem) : Option (Int32 × Mem) :=
  fnX5_there_4 FU I0 0 0
set_option maxRecDepth 20000 in
set_option maxHeartbeats 2000000 in
theorem ebX5_there_0 {g : Cfg} (C : Cx g RX5 cX5_there 3 1 21 0 0) {h : Shp} (H0 : RowsAt h) {r1 : Int32} {o1 : Mem} (q : QI g (some Jvm.ClassFile.FieldType.int) 0 0 r1 (o1, h)) {I0 : Mem} (hf : fnX5_there I0 = some (r1, o1)) : XE g 0 0 (I0, h) 0 [(0, rf g 1)] [] := by
  unfold fnX5_there at hf
  refine xr_iconst (v := 0) C dX5_there_0 (by decide) ?_
  refine xr_istore_n C dX5_there_1 rfl (by decide) rfl ?_
  refine xr_iconst (v := 0) C dX5_there_2 (by decide) ?_
  refine xr_istore_n C dX5_there_3 rfl (by decide) rfl ?_
  refine xr_lv [2, 1, 0] rfl ?_
  exact ebX5_there_4 C H0 q _ hf
theorem kX5_there {B : Bs} {h : Shp} (H0 : RowsAt h) {I0 : Mem} {r1 : Int32} {o1 : Mem} (hf : fnX5_there I0 = some (r1, o1)) : CtrI B yX5_there cX5_there 3 (some Jvm.ClassFile.FieldType.int) 1 21 0 0 [rfB B 1] (I0, h) r1 (o1, h) := by
  refine xr_enterI (lv0 := [(0, rfB B 1)]) (by decide) (Nat.le_of_ble_eq_true rfl) rfl (fun g hg C q => ?_)
  subst hg
  exact ebX5_there_0 C H0 q hf
theorem dX2_keep_0 : decode cX2_keep 0 = .ok (.aload_n 0, 1) := by decide +kernel
theorem dX2_keep_1 : decode cX2_keep 1 = .ok (.getfield 10, 3) := by decide +kernel
theorem dX2_keep_4 : decode cX2_keep 4 = .ok (.aload_n 1, 1) := by decide +kernel
theorem dX2_keep_5 : decode cX2_keep 5 = .ok (.invokevirtual 27, 3) := by decide +kernel
theorem dX2_keep_8 : decode cX2_keep 8 = .ok (.aload_n 0, 1) := by decide +kernel
theorem dX2_keep_9 : decode cX2_keep 9 = .ok (.getfield 19, 3) := by decide +kernel
theorem dX2_keep_12 : decode cX2_keep 12 = .ok (.aload_n 2, 1) := by decide +kernel
theorem dX2_keep_13 : decode cX2_keep 13 = .ok (.invokevirtual 31, 3) := by decide +kernel
theorem dX2_keep_16 : decode cX2_keep 16 = .ok (.aload_n 0, 1) := by decide +kernel
theorem dX2_keep_17 : decode cX2_keep 17 = .ok (.iconst 1, 1) := by decide +kernel
theorem dX2_keep_18 : decode cX2_keep 18 = .ok (.putfield 23, 3) := by decide +kernel
theorem dX2_keep_21 : decode cX2_keep 21 = .ok (.return_, 1) := by decide +kernel
theorem lkX2_27 : LkN "BumperBalls$Image" 27 yX7_become cX7_become 2 none 1 := ⟨wk_541, wk_4, wk_540, wk_s24, ⟨by decide +kernel, by decide +kernel, by decide +kernel⟩, (List.mem_of_getElem? (i := 89) (by decide +kernel))⟩
theorem lkX2_31 : LkN "BumperBalls$Image" 31 yX4_become cX4_become 2 none 1 := ⟨wk_572, wk_5, wk_571, wk_s29, ⟨by decide +kernel, by decide +kernel, by decide +kernel⟩, (List.mem_of_getElem? (i := 90) (by decide +kernel))⟩
/-! BumperBalls$Image.keep(LBumperBalls$Table;LBumperBalls$Play;)V -/
def fnX2_keep (a0 : Nat) (a1 : Nat) (a2 : Nat) (I0 : Mem) : Option Mem :=
  ob (fnX7_become (a0 + 1) a1 I0) fun I2 => ob (fnX4_become (a0 + 7) a2 I2) fun I4 => bnd (up2 I4 a0 2 1) fun I5 => some I5
set_option maxRecDepth 20000 in
set_option maxHeartbeats 2000000 in
theorem ebX2_keep_0 {g : Cfg} (C : Cx g RX2 cX2_keep 3 2 60 0 0) {h : Shp} {a0 : Nat} {a1 : Nat} {a2 : Nat} (H0 : ImageAt h a0) (H1 : TableAt h a1) (H2 : PlayAt h a2) {o1 : Mem} (q : QV g 0 0 (o1, h)) {I0 : Mem} (hf : fnX2_keep a0 a1 a2 I0 = some o1) : XE g 0 0 (I0, h) 0 [(0, rf g a0), (1, rf g a1), (2, rf g a2)] [] := by
  unfold fnX2_keep at hf
  refine xr_aload_n C dX2_keep_0 0 rfl rfl ?_
  refine xr_getr C Kd2 (k := 0) (by decide) rfl wk_292 rfl H0.1 H0.2.1.1 dX2_keep_1 ?_
  refine xr_aload_n C dX2_keep_4 1 rfl rfl ?_
  obtain ⟨I2, h1, hf⟩ := ob_x hf
  refine xr_callNV C [rf g a1] lkX2_27 (kX7_become H0.2.1.2 H1 h1) Kd7 rfl H0.2.1.2.1 rfl (Nat.le_of_ble_eq_true rfl) rfl dX2_keep_5 ⟨by decide, by decide, by decide⟩ rfl ?_
  refine xr_aload_n C dX2_keep_8 0 rfl rfl ?_
  refine xr_getr C Kd2 (k := 1) (by decide) rfl wk_294 rfl H0.1 H0.2.2.1 dX2_keep_9 ?_
  refine xr_aload_n C dX2_keep_12 2 rfl rfl ?_
  obtain ⟨I4, h3, hf⟩ := ob_x hf
  refine xr_callNV C [rf g a2] lkX2_31 (kX4_become H0.2.2.2 H2 h3) Kd4 rfl H0.2.2.2.1 rfl (Nat.le_of_ble_eq_true rfl) rfl dX2_keep_13 ⟨by decide, by decide, by decide⟩ rfl ?_
  refine xr_aload_n C dX2_keep_16 0 rfl rfl ?_
  refine xr_iconst (v := 1) C dX2_keep_17 (by decide) ?_
  obtain ⟨I5, eI5, hf⟩ := bnd_x hf
  refine xr_putI C Kd2 (k := 2) (by decide) rfl rfl wk_296 rfl rfl rfl H0.1 dX2_keep_18 eI5 ?_
  exact xr_return C q dX2_keep_21 (so_v hf)
theorem kX2_keep {B : Bs} {h : Shp} {a0 : Nat} {a1 : Nat} {a2 : Nat} (H0 : ImageAt h a0) (H1 : TableAt h a1) (H2 : PlayAt h a2) {I0 : Mem} {o1 : Mem} (hf : fnX2_keep a0 a1 a2 I0 = some o1) : CtrV B yX2_keep cX2_keep 3 2 60 0 0 [rfB B a0, rfB B a1, rfB B a2] (I0, h) (o1, h) := by
  refine xr_enterV (lv0 := [(0, rfB B a0), (1, rfB B a1), (2, rfB B a2)]) (by decide) (Nat.le_of_ble_eq_true rfl) rfl (fun g hg C q => ?_)
  subst hg
  exact ebX2_keep_0 C H0 H1 H2 q hf
theorem dX0_forget_0 : decode cX0_forget 0 = .ok (.aload_n 0, 1) := by decide +kernel
theorem dX0_forget_1 : decode cX0_forget 1 = .ok (.iconst 0, 1) := by decide +kernel
theorem dX0_forget_2 : decode cX0_forget 2 = .ok (.putfield 21, 3) := by decide +kernel
theorem dX0_forget_5 : decode cX0_forget 5 = .ok (.return_, 1) := by decide +kernel
/-! BumperBalls$Acts.forget()V -/
def fnX0_forget (I0 : Mem) : Option Mem :=
  bnd (up2 I0 29 2 0) fun I1 => some I1
set_option maxRecDepth 20000 in
set_option maxHeartbeats 2000000 in
theorem ebX0_forget_0 {g : Cfg} (C : Cx g RX0 cX0_forget 1 0 0 0 0) {h : Shp} (H0 : ActsAt h) {o1 : Mem} (q : QV g 0 0 (o1, h)) {I0 : Mem} (hf : fnX0_forget I0 = some o1) : XE g 0 0 (I0, h) 0 [(0, rf g 29)] [] := by
  unfold fnX0_forget at hf
  refine xr_aload_n C dX0_forget_0 0 rfl rfl ?_
  refine xr_iconst (v := 0) C dX0_forget_1 (by decide) ?_
  obtain ⟨I1, eI1, hf⟩ := bnd_x hf
  refine xr_putI C Kd0 (k := 2) (by decide) rfl rfl wk_203 rfl rfl rfl H0.1 dX0_forget_2 eI1 ?_
  exact xr_return C q dX0_forget_5 (so_v hf)
theorem kX0_forget {B : Bs} {h : Shp} (H0 : ActsAt h) {I0 : Mem} {o1 : Mem} (hf : fnX0_forget I0 = some o1) : CtrV B yX0_forget cX0_forget 1 0 0 0 0 [rfB B 29] (I0, h) (o1, h) := by
  refine xr_enterV (lv0 := [(0, rfB B 29)]) (by decide) (Nat.le_of_ble_eq_true rfl) rfl (fun g hg C q => ?_)
  subst hg
  exact ebX0_forget_0 C H0 q hf
theorem dX0_keep_0 : decode cX0_keep 0 = .ok (.aload_n 0, 1) := by decide +kernel
theorem dX0_keep_1 : decode cX0_keep 1 = .ok (.getfield 21, 3) := by decide +kernel
theorem dX0_keep_4 : decode cX0_keep 4 = .ok (.bipush 24, 2) := by decide +kernel
theorem dX0_keep_6 : decode cX0_keep 6 = .ok (.if_icmp .ne 26, 3) := by decide +kernel
theorem dX0_keep_9 : decode cX0_keep 9 = .ok (.aload_n 0, 1) := by decide +kernel
theorem dX0_keep_10 : decode cX0_keep 10 = .ok (.aload_n 0, 1) := by decide +kernel
theorem dX0_keep_11 : decode cX0_keep 11 = .ok (.getfield 17, 3) := by decide +kernel
theorem dX0_keep_14 : decode cX0_keep 14 = .ok (.iconst 1, 1) := by decide +kernel
theorem dX0_keep_15 : decode cX0_keep 15 = .ok (.iadd, 1) := by decide +kernel
theorem dX0_keep_16 : decode cX0_keep 16 = .ok (.bipush 24, 2) := by decide +kernel
theorem dX0_keep_18 : decode cX0_keep 18 = .ok (.irem, 1) := by decide +kernel
theorem dX0_keep_19 : decode cX0_keep 19 = .ok (.putfield 17, 3) := by decide +kernel
theorem dX0_keep_22 : decode cX0_keep 22 = .ok (.aload_n 0, 1) := by decide +kernel
theorem dX0_keep_23 : decode cX0_keep 23 = .ok (.dup, 1) := by decide +kernel
theorem dX0_keep_24 : decode cX0_keep 24 = .ok (.getfield 21, 3) := by decide +kernel
theorem dX0_keep_27 : decode cX0_keep 27 = .ok (.iconst 1, 1) := by decide +kernel
theorem dX0_keep_28 : decode cX0_keep 28 = .ok (.isub, 1) := by decide +kernel
theorem dX0_keep_29 : decode cX0_keep 29 = .ok (.putfield 21, 3) := by decide +kernel
theorem dX0_keep_32 : decode cX0_keep 32 = .ok (.aload_n 0, 1) := by decide +kernel
theorem dX0_keep_33 : decode cX0_keep 33 = .ok (.getfield 11, 3) := by decide +kernel
theorem dX0_keep_36 : decode cX0_keep 36 = .ok (.aload_n 0, 1) := by decide +kernel
theorem dX0_keep_37 : decode cX0_keep 37 = .ok (.getfield 17, 3) := by decide +kernel
theorem dX0_keep_40 : decode cX0_keep 40 = .ok (.aload_n 0, 1) := by decide +kernel
theorem dX0_keep_41 : decode cX0_keep 41 = .ok (.getfield 21, 3) := by decide +kernel
theorem dX0_keep_44 : decode cX0_keep 44 = .ok (.iadd, 1) := by decide +kernel
theorem dX0_keep_45 : decode cX0_keep 45 = .ok (.bipush 24, 2) := by decide +kernel
theorem dX0_keep_47 : decode cX0_keep 47 = .ok (.irem, 1) := by decide +kernel
theorem dX0_keep_48 : decode cX0_keep 48 = .ok (.aaload, 1) := by decide +kernel
theorem dX0_keep_49 : decode cX0_keep 49 = .ok (.aload_n 1, 1) := by decide +kernel
theorem dX0_keep_50 : decode cX0_keep 50 = .ok (.invokevirtual 25, 3) := by decide +kernel
theorem dX0_keep_53 : decode cX0_keep 53 = .ok (.aload_n 0, 1) := by decide +kernel
theorem dX0_keep_54 : decode cX0_keep 54 = .ok (.dup, 1) := by decide +kernel
theorem dX0_keep_55 : decode cX0_keep 55 = .ok (.getfield 21, 3) := by decide +kernel
theorem dX0_keep_58 : decode cX0_keep 58 = .ok (.iconst 1, 1) := by decide +kernel
theorem dX0_keep_59 : decode cX0_keep 59 = .ok (.iadd, 1) := by decide +kernel
theorem dX0_keep_60 : decode cX0_keep 60 = .ok (.putfield 21, 3) := by decide +kernel
theorem dX0_keep_63 : decode cX0_keep 63 = .ok (.return_, 1) := by decide +kernel
theorem lkX0_25 : LkN "BumperBalls$Acts" 25 yX4_become cX4_become 2 none 1 := ⟨wk_572, wk_5, wk_571, wk_s29, ⟨by decide +kernel, by decide +kernel, by decide +kernel⟩, (List.mem_of_getElem? (i := 86) (by decide +kernel))⟩
/-! BumperBalls$Acts.keep(LBumperBalls$Play;)V -/
def fnX0_keep_32 (a1 : Nat) (I0 : Mem) : Option Mem :=
  ck (inb (irm ((I0 29 1) + (I0 29 2)) 24) 24) <| ob (fnX4_become (31 + 2 * ix (irm ((I0 29 1) + (I0 29 2)) 24)) a1 I0) fun I3 => bnd (up2 I3 29 2 ((I3 29 2) + 1)) fun I4 => some I4
set_option maxRecDepth 20000 in
set_option maxHeartbeats 2000000 in
theorem ebX0_keep_32 {g : Cfg} (C : Cx g RX0 cX0_keep 2 2 60 0 0) {h : Shp} {a1 : Nat} (H0 : ActsAt h) (H1 : PlayAt h a1) {o1 : Mem} (q : QV g 0 0 (o1, h)) {I0 : Mem} (hf : fnX0_keep_32 a1 I0 = some o1) : XE g 0 0 (I0, h) 32 [(0, rf g 29), (1, rf g a1)] [] := by
  unfold fnX0_keep_32 at hf
  refine xr_aload_n C dX0_keep_32 0 rfl rfl ?_
  refine xr_getr C Kd0 (k := 0) (by decide) rfl wk_201 rfl H0.1 H0.2.1 dX0_keep_33 ?_
  refine xr_aload_n C dX0_keep_36 0 rfl rfl ?_
  refine xr_geti C Kd0 (k := 1) (by decide) rfl wk_202 rfl H0.1 dX0_keep_37 ?_
  refine xr_aload_n C dX0_keep_40 0 rfl rfl ?_
  refine xr_geti C Kd0 (k := 2) (by decide) rfl wk_203 rfl H0.1 dX0_keep_41 ?_
  refine xr_iadd C dX0_keep_44 ?_
  refine xr_bipush (v := 24) C dX0_keep_45 (by decide) ?_
  refine xr_irem C dX0_keep_47 (by decide) ?_
  obtain ⟨i1, hf⟩ := ck_x hf
  refine xr_aald C (kd := 13) (by decide) H0.2.2.1 i1 (H0.2.2.2 (ix (irm ((I0 29 1) + (I0 29 2)) 24)) (inb_lt i1)).1 dX0_keep_48 ?_
  refine xr_aload_n C dX0_keep_49 1 rfl rfl ?_
  obtain ⟨I3, h2, hf⟩ := ob_x hf
  refine xr_callNV C [rf g a1] lkX0_25 (kX4_become (H0.2.2.2 (ix (irm ((I0 29 1) + (I0 29 2)) 24)) (inb_lt i1)).2 H1 h2) Kd4 rfl (H0.2.2.2 (ix (irm ((I0 29 1) + (I0 29 2)) 24)) (inb_lt i1)).2.1 rfl (Nat.le_of_ble_eq_true rfl) rfl dX0_keep_50 ⟨by decide, by decide, by decide⟩ rfl ?_
  refine xr_aload_n C dX0_keep_53 0 rfl rfl ?_
  refine xr_dup C dX0_keep_54 rfl ?_
  refine xr_geti C Kd0 (k := 2) (by decide) rfl wk_203 rfl H0.1 dX0_keep_55 ?_
  refine xr_iconst (v := 1) C dX0_keep_58 (by decide) ?_
  refine xr_iadd C dX0_keep_59 ?_
  obtain ⟨I4, eI4, hf⟩ := bnd_x hf
  refine xr_putI C Kd0 (k := 2) (by decide) rfl rfl wk_203 rfl rfl rfl H0.1 dX0_keep_60 eI4 ?_
  exact xr_return C q dX0_keep_63 (so_v hf)
def fnX0_keep (a1 : Nat) (I0 : Mem) : Option Mem :=
  if (I0 29 2) = 24 then (bnd (up2 I0 29 1 (irm ((I0 29 1) + 1) 24)) fun I2 => bnd (up2 I2 29 2 ((I2 29 2) - 1)) fun I3 => fnX0_keep_32 a1 I3) else (fnX0_keep_32 a1 I0)
set_option maxRecDepth 20000 in
set_option maxHeartbeats 2000000 in
theorem ebX0_keep_0 {g : Cfg} (C : Cx g RX0 cX0_keep 2 2 60 0 0) {h : Shp} {a1 : Nat} (H0 : ActsAt h) (H1 : PlayAt h a1) {o1 : Mem} (q : QV g 0 0 (o1, h)) {I0 : Mem} (hf : fnX0_keep a1 I0 = some o1) : XE g 0 0 (I0, h) 0 [(0, rf g 29), (1, rf g a1)] [] := by
  unfold fnX0_keep at hf
  refine xr_aload_n C dX0_keep_0 0 rfl rfl ?_
  refine xr_geti C Kd0 (k := 2) (by decide) rfl wk_203 rfl H0.1 dX0_keep_1 ?_
  refine xr_bipush (v := 24) C dX0_keep_4 (by decide) ?_
  refine xr_icmp_ne (tgt := 32) C dX0_keep_6 (by decide) hf (fun c1 hf => ?_) (fun c1 hf => ?_)
  · exact ebX0_keep_32 C H0 H1 q hf
  · refine xr_aload_n C dX0_keep_9 0 rfl rfl ?_
    refine xr_aload_n C dX0_keep_10 0 rfl rfl ?_
    refine xr_geti C Kd0 (k := 1) (by decide) rfl wk_202 rfl H0.1 dX0_keep_11 ?_
    refine xr_iconst (v := 1) C dX0_keep_14 (by decide) ?_
    refine xr_iadd C dX0_keep_15 ?_
    refine xr_bipush (v := 24) C dX0_keep_16 (by decide) ?_
    refine xr_irem C dX0_keep_18 (by decide) ?_
    obtain ⟨I2, eI2, hf⟩ := bnd_x hf
    refine xr_putI C Kd0 (k := 1) (by decide) rfl rfl wk_202 rfl rfl rfl H0.1 dX0_keep_19 eI2 ?_
    refine xr_aload_n C dX0_keep_22 0 rfl rfl ?_
    refine xr_dup C dX0_keep_23 rfl ?_
    refine xr_geti C Kd0 (k := 2) (by decide) rfl wk_203 rfl H0.1 dX0_keep_24 ?_
    refine xr_iconst (v := 1) C dX0_keep_27 (by decide) ?_
    refine xr_isub C dX0_keep_28 ?_
    obtain ⟨I3, eI3, hf⟩ := bnd_x hf
    refine xr_putI C Kd0 (k := 2) (by decide) rfl rfl wk_203 rfl rfl rfl H0.1 dX0_keep_29 eI3 ?_
    exact ebX0_keep_32 C H0 H1 q hf
theorem kX0_keep {B : Bs} {h : Shp} {a1 : Nat} (H0 : ActsAt h) (H1 : PlayAt h a1) {I0 : Mem} {o1 : Mem} (hf : fnX0_keep a1 I0 = some o1) : CtrV B yX0_keep cX0_keep 2 2 60 0 0 [rfB B 29, rfB B a1] (I0, h) (o1, h) := by
  refine xr_enterV (lv0 := [(0, rfB B 29), (1, rfB B a1)]) (by decide) (Nat.le_of_ble_eq_true rfl) rfl (fun g hg C q => ?_)
  subst hg
  exact ebX0_keep_0 C H0 H1 q hf
theorem dX0_takeBack_0 : decode cX0_takeBack 0 = .ok (.aload_n 0, 1) := by decide +kernel
theorem dX0_takeBack_1 : decode cX0_takeBack 1 = .ok (.getfield 21, 3) := by decide +kernel
theorem dX0_takeBack_4 : decode cX0_takeBack 4 = .ok (.ifCond .le 34, 3) := by decide +kernel
theorem dX0_takeBack_7 : decode cX0_takeBack 7 = .ok (.aload_n 0, 1) := by decide +kernel
theorem dX0_takeBack_8 : decode cX0_takeBack 8 = .ok (.dup, 1) := by decide +kernel
theorem dX0_takeBack_9 : decode cX0_takeBack 9 = .ok (.getfield 21, 3) := by decide +kernel
theorem dX0_takeBack_12 : decode cX0_takeBack 12 = .ok (.iconst 1, 1) := by decide +kernel
theorem dX0_takeBack_13 : decode cX0_takeBack 13 = .ok (.isub, 1) := by decide +kernel
theorem dX0_takeBack_14 : decode cX0_takeBack 14 = .ok (.putfield 21, 3) := by decide +kernel
theorem dX0_takeBack_17 : decode cX0_takeBack 17 = .ok (.aload_n 1, 1) := by decide +kernel
theorem dX0_takeBack_18 : decode cX0_takeBack 18 = .ok (.aload_n 0, 1) := by decide +kernel
theorem dX0_takeBack_19 : decode cX0_takeBack 19 = .ok (.getfield 11, 3) := by decide +kernel
theorem dX0_takeBack_22 : decode cX0_takeBack 22 = .ok (.aload_n 0, 1) := by decide +kernel
theorem dX0_takeBack_23 : decode cX0_takeBack 23 = .ok (.getfield 17, 3) := by decide +kernel
theorem dX0_takeBack_26 : decode cX0_takeBack 26 = .ok (.aload_n 0, 1) := by decide +kernel
theorem dX0_takeBack_27 : decode cX0_takeBack 27 = .ok (.getfield 21, 3) := by decide +kernel
theorem dX0_takeBack_30 : decode cX0_takeBack 30 = .ok (.iadd, 1) := by decide +kernel
theorem dX0_takeBack_31 : decode cX0_takeBack 31 = .ok (.bipush 24, 2) := by decide +kernel
theorem dX0_takeBack_33 : decode cX0_takeBack 33 = .ok (.irem, 1) := by decide +kernel
theorem dX0_takeBack_34 : decode cX0_takeBack 34 = .ok (.aaload, 1) := by decide +kernel
theorem dX0_takeBack_35 : decode cX0_takeBack 35 = .ok (.invokevirtual 25, 3) := by decide +kernel
theorem dX0_takeBack_38 : decode cX0_takeBack 38 = .ok (.return_, 1) := by decide +kernel
/-! BumperBalls$Acts.takeBack(LBumperBalls$Play;)V -/
def fnX0_takeBack_38 (a1 : Nat) (I0 : Mem) : Option Mem :=
  some I0
set_option maxRecDepth 20000 in
set_option maxHeartbeats 2000000 in
theorem ebX0_takeBack_38 {g : Cfg} (C : Cx g RX0 cX0_takeBack 2 2 60 0 0) {h : Shp} {a1 : Nat} (H0 : ActsAt h) (H1 : PlayAt h a1) {o1 : Mem} (q : QV g 0 0 (o1, h)) {I0 : Mem} (hf : fnX0_takeBack_38 a1 I0 = some o1) : XE g 0 0 (I0, h) 38 [] [] := by
  unfold fnX0_takeBack_38 at hf
  exact xr_return C q dX0_takeBack_38 (so_v hf)
def fnX0_takeBack (a1 : Nat) (I0 : Mem) : Option Mem :=
  if (I0 29 2) ≤ 0 then (fnX0_takeBack_38 a1 I0) else (bnd (up2 I0 29 2 ((I0 29 2) - 1)) fun I2 => ck (inb (irm ((I2 29 1) + (I2 29 2)) 24) 24) <| ob (fnX4_become a1 (31 + 2 * ix (irm ((I2 29 1) + (I2 29 2)) 24)) I2) fun I5 => fnX0_takeBack_38 a1 I5)
set_option maxRecDepth 20000 in
set_option maxHeartbeats 2000000 in
theorem ebX0_takeBack_0 {g : Cfg} (C : Cx g RX0 cX0_takeBack 2 2 60 0 0) {h : Shp} {a1 : Nat} (H0 : ActsAt h) (H1 : PlayAt h a1) {o1 : Mem} (q : QV g 0 0 (o1, h)) {I0 : Mem} (hf : fnX0_takeBack a1 I0 = some o1) : XE g 0 0 (I0, h) 0 [(0, rf g 29), (1, rf g a1)] [] := by
  unfold fnX0_takeBack at hf
  refine xr_aload_n C dX0_takeBack_0 0 rfl rfl ?_
  refine xr_geti C Kd0 (k := 2) (by decide) rfl wk_203 rfl H0.1 dX0_takeBack_1 ?_
  refine xr_if_le (tgt := 38) C dX0_takeBack_4 (by decide) hf (fun c1 hf => ?_) (fun c1 hf => ?_)
  · refine xr_lv [] rfl ?_
    exact ebX0_takeBack_38 C H0 H1 q hf
  · refine xr_aload_n C dX0_takeBack_7 0 rfl rfl ?_
    refine xr_dup C dX0_takeBack_8 rfl ?_
    refine xr_geti C Kd0 (k := 2) (by decide) rfl wk_203 rfl H0.1 dX0_takeBack_9 ?_
    refine xr_iconst (v := 1) C dX0_takeBack_12 (by decide) ?_
    refine xr_isub C dX0_takeBack_13 ?_
    obtain ⟨I2, eI2, hf⟩ := bnd_x hf
    refine xr_putI C Kd0 (k := 2) (by decide) rfl rfl wk_203 rfl rfl rfl H0.1 dX0_takeBack_14 eI2 ?_
    refine xr_aload_n C dX0_takeBack_17 1 rfl rfl ?_
    refine xr_aload_n C dX0_takeBack_18 0 rfl rfl ?_
    refine xr_getr C Kd0 (k := 0) (by decide) rfl wk_201 rfl H0.1 H0.2.1 dX0_takeBack_19 ?_
    refine xr_aload_n C dX0_takeBack_22 0 rfl rfl ?_
    refine xr_geti C Kd0 (k := 1) (by decide) rfl wk_202 rfl H0.1 dX0_takeBack_23 ?_
    refine xr_aload_n C dX0_takeBack_26 0 rfl rfl ?_
    refine xr_geti C Kd0 (k := 2) (by decide) rfl wk_203 rfl H0.1 dX0_takeBack_27 ?_
    refine xr_iadd C dX0_takeBack_30 ?_
    refine xr_bipush (v := 24) C dX0_takeBack_31 (by decide) ?_
    refine xr_irem C dX0_takeBack_33 (by decide) ?_
    obtain ⟨i3, hf⟩ := ck_x hf
    refine xr_aald C (kd := 13) (by decide) H0.2.2.1 i3 (H0.2.2.2 (ix (irm ((I2 29 1) + (I2 29 2)) 24)) (inb_lt i3)).1 dX0_takeBack_34 ?_
    obtain ⟨I5, h4, hf⟩ := ob_x hf
    refine xr_callNV C [rf g (31 + 2 * ix (irm ((I2 29 1) + (I2 29 2)) 24))] lkX0_25 (kX4_become H1 (H0.2.2.2 (ix (irm ((I2 29 1) + (I2 29 2)) 24)) (inb_lt i3)).2 h4) Kd4 rfl H1.1 rfl (Nat.le_of_ble_eq_true rfl) rfl dX0_takeBack_35 ⟨by decide, by decide, by decide⟩ rfl ?_
    refine xr_lv [] rfl ?_
    exact ebX0_takeBack_38 C H0 H1 q hf
theorem kX0_takeBack {B : Bs} {h : Shp} {a1 : Nat} (H0 : ActsAt h) (H1 : PlayAt h a1) {I0 : Mem} {o1 : Mem} (hf : fnX0_takeBack a1 I0 = some o1) : CtrV B yX0_takeBack cX0_takeBack 2 2 60 0 0 [rfB B 29, rfB B a1] (I0, h) (o1, h) := by
  refine xr_enterV (lv0 := [(0, rfB B 29), (1, rfB B a1)]) (by decide) (Nat.le_of_ble_eq_true rfl) rfl (fun g hg C q => ?_)
  subst hg
  exact ebX0_takeBack_0 C H0 H1 q hf
