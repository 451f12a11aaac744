theorem dX9_ball_0 : decode cX9_ball 0 = .ok (.aload_n 0, 1) := by decide +kernel
theorem dX9_ball_1 : decode cX9_ball 1 = .ok (.getfield 67, 3) := by decide +kernel
theorem dX9_ball_4 : decode cX9_ball 4 = .ok (.ifCond .ne 6, 3) := by decide +kernel
theorem dX9_ball_7 : decode cX9_ball 7 = .ok (.ldc 168, 2) := by decide +kernel
theorem dX9_ball_9 : decode cX9_ball 9 = .ok (.ireturn, 1) := by decide +kernel
theorem dX9_ball_10 : decode cX9_ball 10 = .ok (.iload_n 1, 1) := by decide +kernel
theorem dX9_ball_11 : decode cX9_ball 11 = .ok (.tableswitch 93 0 5 #[37, 45, 53, 69, 77, 85], 37) := by decide +kernel
theorem dX9_ball_48 : decode cX9_ball 48 = .ok (.aload_n 0, 1) := by decide +kernel
theorem dX9_ball_49 : decode cX9_ball 49 = .ok (.getfield 33, 3) := by decide +kernel
theorem dX9_ball_52 : decode cX9_ball 52 = .ok (.getfield 192, 3) := by decide +kernel
theorem dX9_ball_55 : decode cX9_ball 55 = .ok (.ireturn, 1) := by decide +kernel
theorem dX9_ball_56 : decode cX9_ball 56 = .ok (.aload_n 0, 1) := by decide +kernel
theorem dX9_ball_57 : decode cX9_ball 57 = .ok (.getfield 33, 3) := by decide +kernel
theorem dX9_ball_60 : decode cX9_ball 60 = .ok (.getfield 195, 3) := by decide +kernel
theorem dX9_ball_63 : decode cX9_ball 63 = .ok (.ireturn, 1) := by decide +kernel
theorem dX9_ball_64 : decode cX9_ball 64 = .ok (.aload_n 0, 1) := by decide +kernel
theorem dX9_ball_65 : decode cX9_ball 65 = .ok (.getfield 33, 3) := by decide +kernel
theorem dX9_ball_68 : decode cX9_ball 68 = .ok (.getfield 169, 3) := by decide +kernel
theorem dX9_ball_71 : decode cX9_ball 71 = .ok (.ifCond .eq 7, 3) := by decide +kernel
theorem dX9_ball_74 : decode cX9_ball 74 = .ok (.iconst 1, 1) := by decide +kernel
theorem dX9_ball_75 : decode cX9_ball 75 = .ok (.goto 4, 3) := by decide +kernel
theorem dX9_ball_78 : decode cX9_ball 78 = .ok (.iconst 0, 1) := by decide +kernel
theorem dX9_ball_79 : decode cX9_ball 79 = .ok (.ireturn, 1) := by decide +kernel
theorem dX9_ball_80 : decode cX9_ball 80 = .ok (.aload_n 0, 1) := by decide +kernel
theorem dX9_ball_81 : decode cX9_ball 81 = .ok (.getfield 33, 3) := by decide +kernel
theorem dX9_ball_84 : decode cX9_ball 84 = .ok (.getfield 189, 3) := by decide +kernel
theorem dX9_ball_87 : decode cX9_ball 87 = .ok (.ireturn, 1) := by decide +kernel
theorem dX9_ball_88 : decode cX9_ball 88 = .ok (.aload_n 0, 1) := by decide +kernel
theorem dX9_ball_89 : decode cX9_ball 89 = .ok (.getfield 33, 3) := by decide +kernel
theorem dX9_ball_92 : decode cX9_ball 92 = .ok (.getfield 210, 3) := by decide +kernel
theorem dX9_ball_95 : decode cX9_ball 95 = .ok (.ireturn, 1) := by decide +kernel
theorem dX9_ball_96 : decode cX9_ball 96 = .ok (.aload_n 0, 1) := by decide +kernel
theorem dX9_ball_97 : decode cX9_ball 97 = .ok (.getfield 33, 3) := by decide +kernel
theorem dX9_ball_100 : decode cX9_ball 100 = .ok (.getfield 213, 3) := by decide +kernel
theorem dX9_ball_103 : decode cX9_ball 103 = .ok (.ireturn, 1) := by decide +kernel
theorem dX9_ball_104 : decode cX9_ball 104 = .ok (.ldc 87, 2) := by decide +kernel
theorem dX9_ball_106 : decode cX9_ball 106 = .ok (.ireturn, 1) := by decide +kernel
/-! BumperBalls.ball(I)I -/
def fnX9_ball_79 (I0 : Mem) (t0 : Int32) : Option (Int32 × Mem) :=
  some (t0, I0)
set_option maxRecDepth 20000 in
set_option maxHeartbeats 2000000 in
theorem ebX9_ball_79 {g : Cfg} (C : Cx g RX9 cX9_ball 2 0 0 0 0) {h : Shp} (H0 : XAt h) {r1 : Int32} {o1 : Mem} (q : QI g (some Jvm.ClassFile.FieldType.int) 0 0 r1 (o1, h)) {I0 : Mem} {t0 : Int32} (hf : fnX9_ball_79 I0 t0 = some (r1, o1)) : XE g 0 0 (I0, h) 79 [] [.int t0] := by
  unfold fnX9_ball_79 at hf
  exact xr_ireturn C q rfl rfl dX9_ball_79 (so_1 hf) (so_w hf)
def fnX9_ball (I0 : Mem) (p1 : Int32) : Option (Int32 × Mem) :=
  if (I0 0 9) = 0 then (some ((-1000002), I0)) else (if p1 = 0 then (some ((I0 27 0), I0)) else if p1 = 1 then (some ((I0 27 1), I0)) else if p1 = 2 then (if (I0 27 2) = 0 then (fnX9_ball_79 I0 0) else (fnX9_ball_79 I0 1)) else if p1 = 3 then (some ((I0 27 3), I0)) else if p1 = 4 then (some ((I0 27 4), I0)) else if p1 = 5 then (some ((I0 27 5), I0)) else (some ((-1000001), I0)))
set_option maxRecDepth 20000 in
set_option maxHeartbeats 2000000 in
theorem ebX9_ball_0 {g : Cfg} (C : Cx g RX9 cX9_ball 2 0 0 0 0) {h : Shp} (H0 : XAt h) {r1 : Int32} {o1 : Mem} (q : QI g (some Jvm.ClassFile.FieldType.int) 0 0 r1 (o1, h)) {I0 : Mem} {p1 : Int32} (hf : fnX9_ball I0 p1 = some (r1, o1)) : XE g 0 0 (I0, h) 0 [(0, rf g 0), (1, .int p1)] [] := by
  unfold fnX9_ball at hf
  refine xr_aload_n C dX9_ball_0 0 rfl rfl ?_
  refine xr_geti C Kd9 (k := 9) (by decide) rfl wk_314 rfl H0.1 dX9_ball_1 ?_
  refine xr_if_ne (tgt := 10) C dX9_ball_4 (by decide) hf (fun c1 hf => ?_) (fun c1 hf => ?_)
  · refine xr_iload_n C dX9_ball_10 1 rfl rfl ?_
    rcases if_or hf with ⟨c2, hf⟩ | ⟨c2_0, hf⟩
    · refine xr_swIn (v := 0) (tgt := 48) C dX9_ball_11 c2 (by decide) (by decide) rfl (by decide) ?_
      refine xr_aload_n C dX9_ball_48 0 rfl rfl ?_
      refine xr_getr C Kd9 (k := 3) (by decide) rfl wk_308 rfl H0.1 H0.2.2.2.2.1.1 dX9_ball_49 ?_
      refine xr_getiN C Kd4 (k := 0) (by decide) rfl nk13 rfl H0.2.2.2.2.1.2.1 dX9_ball_52 ?_
      exact xr_ireturn C q rfl rfl dX9_ball_55 (so_1 hf) (so_w hf)
    rcases if_or hf with ⟨c2, hf⟩ | ⟨c2_1, hf⟩
    · refine xr_swIn (v := 1) (tgt := 56) C dX9_ball_11 c2 (by decide) (by decide) rfl (by decide) ?_
      refine xr_aload_n C dX9_ball_56 0 rfl rfl ?_
      refine xr_getr C Kd9 (k := 3) (by decide) rfl wk_308 rfl H0.1 H0.2.2.2.2.1.1 dX9_ball_57 ?_
      refine xr_getiN C Kd4 (k := 1) (by decide) rfl nk14 rfl H0.2.2.2.2.1.2.1 dX9_ball_60 ?_
      exact xr_ireturn C q rfl rfl dX9_ball_63 (so_1 hf) (so_w hf)
    rcases if_or hf with ⟨c2, hf⟩ | ⟨c2_2, hf⟩
    · refine xr_swIn (v := 2) (tgt := 64) C dX9_ball_11 c2 (by decide) (by decide) rfl (by decide) ?_
      refine xr_aload_n C dX9_ball_64 0 rfl rfl ?_
      refine xr_getr C Kd9 (k := 3) (by decide) rfl wk_308 rfl H0.1 H0.2.2.2.2.1.1 dX9_ball_65 ?_
      refine xr_getiN C Kd4 (k := 2) (by decide) rfl nk9 rfl H0.2.2.2.2.1.2.1 dX9_ball_68 ?_
      refine xr_if_eq (tgt := 78) C dX9_ball_71 (by decide) hf (fun c3 hf => ?_) (fun c3 hf => ?_)
      · refine xr_iconst (v := 0) C dX9_ball_78 (by decide) ?_
        refine xr_lv [] rfl ?_
        exact ebX9_ball_79 C H0 q hf
      · refine xr_iconst (v := 1) C dX9_ball_74 (by decide) ?_
        refine xr_goto (tgt := 79) C dX9_ball_75 (by decide) ?_
        refine xr_lv [] rfl ?_
        exact ebX9_ball_79 C H0 q hf
    rcases if_or hf with ⟨c2, hf⟩ | ⟨c2_3, hf⟩
    · refine xr_swIn (v := 3) (tgt := 80) C dX9_ball_11 c2 (by decide) (by decide) rfl (by decide) ?_
      refine xr_aload_n C dX9_ball_80 0 rfl rfl ?_
      refine xr_getr C Kd9 (k := 3) (by decide) rfl wk_308 rfl H0.1 H0.2.2.2.2.1.1 dX9_ball_81 ?_
      refine xr_getiN C Kd4 (k := 3) (by decide) rfl nk12 rfl H0.2.2.2.2.1.2.1 dX9_ball_84 ?_
      exact xr_ireturn C q rfl rfl dX9_ball_87 (so_1 hf) (so_w hf)
    rcases if_or hf with ⟨c2, hf⟩ | ⟨c2_4, hf⟩
    · refine xr_swIn (v := 4) (tgt := 88) C dX9_ball_11 c2 (by decide) (by decide) rfl (by decide) ?_
      refine xr_aload_n C dX9_ball_88 0 rfl rfl ?_
      refine xr_getr C Kd9 (k := 3) (by decide) rfl wk_308 rfl H0.1 H0.2.2.2.2.1.1 dX9_ball_89 ?_
      refine xr_getiN C Kd4 (k := 4) (by decide) rfl nk16 rfl H0.2.2.2.2.1.2.1 dX9_ball_92 ?_
      exact xr_ireturn C q rfl rfl dX9_ball_95 (so_1 hf) (so_w hf)
    rcases if_or hf with ⟨c2, hf⟩ | ⟨c2_5, hf⟩
    · refine xr_swIn (v := 5) (tgt := 96) C dX9_ball_11 c2 (by decide) (by decide) rfl (by decide) ?_
      refine xr_aload_n C dX9_ball_96 0 rfl rfl ?_
      refine xr_getr C Kd9 (k := 3) (by decide) rfl wk_308 rfl H0.1 H0.2.2.2.2.1.1 dX9_ball_97 ?_
      refine xr_getiN C Kd4 (k := 5) (by decide) rfl nk17 rfl H0.2.2.2.2.1.2.1 dX9_ball_100 ?_
      exact xr_ireturn C q rfl rfl dX9_ball_103 (so_1 hf) (so_w hf)
    refine xr_swOut (tgt := 104) C dX9_ball_11 (sw_out6 c2_0 c2_1 c2_2 c2_3 c2_4 c2_5) (by decide) ?_
    refine xr_ldc C wk_352 dX9_ball_104 ?_
    exact xr_ireturn C q rfl rfl dX9_ball_106 (so_1 hf) (so_w hf)
  · refine xr_ldc C wk_564 dX9_ball_7 ?_
    exact xr_ireturn C q rfl rfl dX9_ball_9 (so_1 hf) (so_w hf)
theorem kX9_ball {B : Bs} {h : Shp} (H0 : XAt h) {I0 : Mem} {p1 : Int32} {r1 : Int32} {o1 : Mem} (hf : fnX9_ball I0 p1 = some (r1, o1)) : CtrI B yX9_ball cX9_ball 2 (some Jvm.ClassFile.FieldType.int) 0 0 0 0 [rfB B 0, .int p1] (I0, h) r1 (o1, h) := by
  refine xr_enterI (lv0 := [(0, rfB B 0), (1, .int p1)]) (by decide) (Nat.le_of_ble_eq_true rfl) rfl (fun g hg C q => ?_)
  subst hg
  exact ebX9_ball_0 C H0 q hf
theorem dX9_isPin_0 : decode cX9_isPin 0 = .ok (.iload_n 1, 1) := by decide +kernel
theorem dX9_isPin_1 : decode cX9_isPin 1 = .ok (.ifCond .lt 18, 3) := by decide +kernel
theorem dX9_isPin_4 : decode cX9_isPin 4 = .ok (.iload_n 1, 1) := by decide +kernel
theorem dX9_isPin_5 : decode cX9_isPin 5 = .ok (.aload_n 0, 1) := by decide +kernel
theorem dX9_isPin_6 : decode cX9_isPin 6 = .ok (.getfield 26, 3) := by decide +kernel
theorem dX9_isPin_9 : decode cX9_isPin 9 = .ok (.getfield 165, 3) := by decide +kernel
theorem dX9_isPin_12 : decode cX9_isPin 12 = .ok (.if_icmp .ge 7, 3) := by decide +kernel
theorem dX9_isPin_15 : decode cX9_isPin 15 = .ok (.iconst 1, 1) := by decide +kernel
theorem dX9_isPin_16 : decode cX9_isPin 16 = .ok (.goto 4, 3) := by decide +kernel
theorem dX9_isPin_19 : decode cX9_isPin 19 = .ok (.iconst 0, 1) := by decide +kernel
theorem dX9_isPin_20 : decode cX9_isPin 20 = .ok (.ireturn, 1) := by decide +kernel
/-! BumperBalls.isPin(I)Z -/
def fnX9_isPin_20 (I0 : Mem) (t0 : Int32) : Option (Int32 × Mem) :=
  ck (zb t0) <| some (t0, I0)
set_option maxRecDepth 20000 in
set_option maxHeartbeats 2000000 in
theorem ebX9_isPin_20 {g : Cfg} (C : Cx g RX9 cX9_isPin 2 0 0 0 0) {h : Shp} (H0 : XAt h) {r1 : Int32} {o1 : Mem} (q : QI g (some Jvm.ClassFile.FieldType.boolean) 0 0 r1 (o1, h)) {I0 : Mem} {t0 : Int32} (hf : fnX9_isPin_20 I0 t0 = some (r1, o1)) : XE g 0 0 (I0, h) 20 [] [.int t0] := by
  unfold fnX9_isPin_20 at hf
  obtain ⟨z1, hf⟩ := ck_x hf
  exact xr_ireturn C q rfl (zb_ok z1).1 dX9_isPin_20 (so_1 hf) (so_w hf)
def fnX9_isPin_19 (I0 : Mem) : Option (Int32 × Mem) :=
  fnX9_isPin_20 I0 0
set_option maxRecDepth 20000 in
set_option maxHeartbeats 2000000 in
theorem ebX9_isPin_19 {g : Cfg} (C : Cx g RX9 cX9_isPin 2 0 0 0 0) {h : Shp} (H0 : XAt h) {r1 : Int32} {o1 : Mem} (q : QI g (some Jvm.ClassFile.FieldType.boolean) 0 0 r1 (o1, h)) {I0 : Mem} (hf : fnX9_isPin_19 I0 = some (r1, o1)) : XE g 0 0 (I0, h) 19 [] [] := by
  unfold fnX9_isPin_19 at hf
  refine xr_iconst (v := 0) C dX9_isPin_19 (by decide) ?_
  exact ebX9_isPin_20 C H0 q hf
def fnX9_isPin (I0 : Mem) (p1 : Int32) : Option (Int32 × Mem) :=
  if p1 < 0 then (fnX9_isPin_19 I0) else (if (I0 21 1) ≤ p1 then (fnX9_isPin_19 I0) else (fnX9_isPin_20 I0 1))
set_option maxRecDepth 20000 in
set_option maxHeartbeats 2000000 in
theorem ebX9_isPin_0 {g : Cfg} (C : Cx g RX9 cX9_isPin 2 0 0 0 0) {h : Shp} (H0 : XAt h) {r1 : Int32} {o1 : Mem} (q : QI g (some Jvm.ClassFile.FieldType.boolean) 0 0 r1 (o1, h)) {I0 : Mem} {p1 : Int32} (hf : fnX9_isPin I0 p1 = some (r1, o1)) : XE g 0 0 (I0, h) 0 [(0, rf g 0), (1, .int p1)] [] := by
  unfold fnX9_isPin at hf
  refine xr_iload_n C dX9_isPin_0 1 rfl rfl ?_
  refine xr_if_lt (tgt := 19) C dX9_isPin_1 (by decide) hf (fun c1 hf => ?_) (fun c1 hf => ?_)
  · refine xr_lv [] rfl ?_
    exact ebX9_isPin_19 C H0 q hf
  · refine xr_iload_n C dX9_isPin_4 1 rfl rfl ?_
    refine xr_aload_n C dX9_isPin_5 0 rfl rfl ?_
    refine xr_getr C Kd9 (k := 2) (by decide) rfl wk_307 rfl H0.1 H0.2.2.2.1.1 dX9_isPin_6 ?_
    refine xr_getiN C Kd7 (k := 1) (by decide) rfl nk8 rfl H0.2.2.2.1.2.1 dX9_isPin_9 ?_
    refine xr_icmp_ge (tgt := 19) C dX9_isPin_12 (by decide) hf (fun c2 hf => ?_) (fun c2 hf => ?_)
    · refine xr_lv [] rfl ?_
      exact ebX9_isPin_19 C H0 q hf
    · refine xr_iconst (v := 1) C dX9_isPin_15 (by decide) ?_
      refine xr_goto (tgt := 20) C dX9_isPin_16 (by decide) ?_
      refine xr_lv [] rfl ?_
      exact ebX9_isPin_20 C H0 q hf
theorem kX9_isPin {B : Bs} {h : Shp} (H0 : XAt h) {I0 : Mem} {p1 : Int32} {r1 : Int32} {o1 : Mem} (hf : fnX9_isPin I0 p1 = some (r1, o1)) : CtrI B yX9_isPin cX9_isPin 2 (some Jvm.ClassFile.FieldType.boolean) 0 0 0 0 [rfB B 0, .int p1] (I0, h) r1 (o1, h) := by
  refine xr_enterI (lv0 := [(0, rfB B 0), (1, .int p1)]) (by decide) (Nat.le_of_ble_eq_true rfl) rfl (fun g hg C q => ?_)
  subst hg
  exact ebX9_isPin_0 C H0 q hf
theorem dX9_pin_0 : decode cX9_pin 0 = .ok (.aload_n 0, 1) := by decide +kernel
theorem dX9_pin_1 : decode cX9_pin 1 = .ok (.iload_n 1, 1) := by decide +kernel
theorem dX9_pin_2 : decode cX9_pin 2 = .ok (.invokevirtual 216, 3) := by decide +kernel
theorem dX9_pin_5 : decode cX9_pin 5 = .ok (.ifCond .ne 6, 3) := by decide +kernel
theorem dX9_pin_8 : decode cX9_pin 8 = .ok (.ldc 87, 2) := by decide +kernel
theorem dX9_pin_10 : decode cX9_pin 10 = .ok (.ireturn, 1) := by decide +kernel
theorem dX9_pin_11 : decode cX9_pin 11 = .ok (.iload_n 2, 1) := by decide +kernel
theorem dX9_pin_12 : decode cX9_pin 12 = .ok (.tableswitch 93 0 4 #[36, 46, 56, 66, 76], 36) := by decide +kernel
theorem dX9_pin_48 : decode cX9_pin 48 = .ok (.aload_n 0, 1) := by decide +kernel
theorem dX9_pin_49 : decode cX9_pin 49 = .ok (.getfield 26, 3) := by decide +kernel
theorem dX9_pin_52 : decode cX9_pin 52 = .ok (.getfield 219, 3) := by decide +kernel
theorem dX9_pin_55 : decode cX9_pin 55 = .ok (.iload_n 1, 1) := by decide +kernel
theorem dX9_pin_56 : decode cX9_pin 56 = .ok (.iaload, 1) := by decide +kernel
theorem dX9_pin_57 : decode cX9_pin 57 = .ok (.ireturn, 1) := by decide +kernel
theorem dX9_pin_58 : decode cX9_pin 58 = .ok (.aload_n 0, 1) := by decide +kernel
theorem dX9_pin_59 : decode cX9_pin 59 = .ok (.getfield 26, 3) := by decide +kernel
theorem dX9_pin_62 : decode cX9_pin 62 = .ok (.getfield 222, 3) := by decide +kernel
theorem dX9_pin_65 : decode cX9_pin 65 = .ok (.iload_n 1, 1) := by decide +kernel
theorem dX9_pin_66 : decode cX9_pin 66 = .ok (.iaload, 1) := by decide +kernel
theorem dX9_pin_67 : decode cX9_pin 67 = .ok (.ireturn, 1) := by decide +kernel
theorem dX9_pin_68 : decode cX9_pin 68 = .ok (.aload_n 0, 1) := by decide +kernel
theorem dX9_pin_69 : decode cX9_pin 69 = .ok (.getfield 26, 3) := by decide +kernel
theorem dX9_pin_72 : decode cX9_pin 72 = .ok (.getfield 225, 3) := by decide +kernel
theorem dX9_pin_75 : decode cX9_pin 75 = .ok (.iload_n 1, 1) := by decide +kernel
theorem dX9_pin_76 : decode cX9_pin 76 = .ok (.iaload, 1) := by decide +kernel
theorem dX9_pin_77 : decode cX9_pin 77 = .ok (.ireturn, 1) := by decide +kernel
theorem dX9_pin_78 : decode cX9_pin 78 = .ok (.aload_n 0, 1) := by decide +kernel
theorem dX9_pin_79 : decode cX9_pin 79 = .ok (.getfield 33, 3) := by decide +kernel
theorem dX9_pin_82 : decode cX9_pin 82 = .ok (.getfield 228, 3) := by decide +kernel
theorem dX9_pin_85 : decode cX9_pin 85 = .ok (.iload_n 1, 1) := by decide +kernel
theorem dX9_pin_86 : decode cX9_pin 86 = .ok (.iaload, 1) := by decide +kernel
theorem dX9_pin_87 : decode cX9_pin 87 = .ok (.ireturn, 1) := by decide +kernel
theorem dX9_pin_88 : decode cX9_pin 88 = .ok (.aload_n 0, 1) := by decide +kernel
theorem dX9_pin_89 : decode cX9_pin 89 = .ok (.getfield 33, 3) := by decide +kernel
theorem dX9_pin_92 : decode cX9_pin 92 = .ok (.iload_n 1, 1) := by decide +kernel
theorem dX9_pin_93 : decode cX9_pin 93 = .ok (.invokevirtual 231, 3) := by decide +kernel
theorem dX9_pin_96 : decode cX9_pin 96 = .ok (.ifCond .eq 7, 3) := by decide +kernel
theorem dX9_pin_99 : decode cX9_pin 99 = .ok (.iconst 1, 1) := by decide +kernel
theorem dX9_pin_100 : decode cX9_pin 100 = .ok (.goto 4, 3) := by decide +kernel
theorem dX9_pin_103 : decode cX9_pin 103 = .ok (.iconst 0, 1) := by decide +kernel
theorem dX9_pin_104 : decode cX9_pin 104 = .ok (.ireturn, 1) := by decide +kernel
theorem dX9_pin_105 : decode cX9_pin 105 = .ok (.ldc 87, 2) := by decide +kernel
theorem dX9_pin_107 : decode cX9_pin 107 = .ok (.ireturn, 1) := by decide +kernel
theorem lkX9_216 : LkV "BumperBalls" 216 yX9_isPin cX9_isPin 2 (some Jvm.ClassFile.FieldType.boolean) 1 := ⟨wk_640, wk_1, wk_639, wk_s38, ⟨by decide +kernel, by decide +kernel, by decide +kernel⟩, wk_637⟩
theorem lkX9_231 : LkN "BumperBalls" 231 yX4_isOpen cX4_isOpen 2 (some Jvm.ClassFile.FieldType.boolean) 1 := ⟨wk_602, wk_5, wk_601, wk_s35, ⟨by decide +kernel, by decide +kernel, by decide +kernel⟩, (List.mem_of_getElem? (i := 64) (by decide +kernel))⟩
/-! BumperBalls.pin(II)I -/
def fnX9_pin_104 (I0 : Mem) (t0 : Int32) : Option (Int32 × Mem) :=
  some (t0, I0)
set_option maxRecDepth 20000 in
set_option maxHeartbeats 2000000 in
theorem ebX9_pin_104 {g : Cfg} (C : Cx g RX9 cX9_pin 3 1 21 0 0) {h : Shp} (H0 : XAt h) {r1 : Int32} {o1 : Mem} (q : QI g (some Jvm.ClassFile.FieldType.int) 0 0 r1 (o1, h)) {I0 : Mem} {t0 : Int32} (hf : fnX9_pin_104 I0 t0 = some (r1, o1)) : XE g 0 0 (I0, h) 104 [] [.int t0] := by
  unfold fnX9_pin_104 at hf
  exact xr_ireturn C q rfl rfl dX9_pin_104 (so_1 hf) (so_w hf)
def fnX9_pin (I0 : Mem) (p1 : Int32) (p2 : Int32) : Option (Int32 × Mem) :=
  ob (fnX9_isPin I0 p1) fun ⟨r3, I2⟩ => if r3 = 0 then (some ((-1000001), I2)) else (if p2 = 0 then (ck (inb p1 6) <| some ((I2 (21 + 2) (ix p1)), I2)) else if p2 = 1 then (ck (inb p1 6) <| some ((I2 (21 + 3) (ix p1)), I2)) else if p2 = 2 then (ck (inb p1 6) <| some ((I2 (21 + 4) (ix p1)), I2)) else if p2 = 3 then (ck (inb p1 6) <| some ((I2 (27 + 1) (ix p1)), I2)) else if p2 = 4 then (ob (fnX4_isOpen 27 I2 p1) fun ⟨r12, I11⟩ => if r12 = 0 then (fnX9_pin_104 I11 0) else (fnX9_pin_104 I11 1)) else (some ((-1000001), I2)))
set_option maxRecDepth 20000 in
set_option maxHeartbeats 2000000 in
theorem ebX9_pin_0 {g : Cfg} (C : Cx g RX9 cX9_pin 3 1 21 0 0) {h : Shp} (H0 : XAt h) {r1 : Int32} {o1 : Mem} (q : QI g (some Jvm.ClassFile.FieldType.int) 0 0 r1 (o1, h)) {I0 : Mem} {p1 : Int32} {p2 : Int32} (hf : fnX9_pin I0 p1 p2 = some (r1, o1)) : XE g 0 0 (I0, h) 0 [(0, rf g 0), (1, .int p1), (2, .int p2)] [] := by
  unfold fnX9_pin at hf
  refine xr_aload_n C dX9_pin_0 0 rfl rfl ?_
  refine xr_iload_n C dX9_pin_1 1 rfl rfl ?_
  obtain ⟨⟨r3, I2⟩, h1, hf⟩ := ob_x hf
  refine xr_callVI C [.int p1] lkX9_216 (kX9_isPin H0 h1) Kd9 rfl H0.1 rfl (Nat.le_of_ble_eq_true rfl) rfl dX9_pin_2 ⟨by decide, by decide, by decide⟩ rfl ?_
  refine xr_if_ne (tgt := 11) C dX9_pin_5 (by decide) hf (fun c4 hf => ?_) (fun c4 hf => ?_)
  · refine xr_iload_n C dX9_pin_11 2 rfl rfl ?_
    rcases if_or hf with ⟨c5, hf⟩ | ⟨c5_0, hf⟩
    · refine xr_swIn (v := 0) (tgt := 48) C dX9_pin_12 c5 (by decide) (by decide) rfl (by decide) ?_
      refine xr_aload_n C dX9_pin_48 0 rfl rfl ?_
      refine xr_getr C Kd9 (k := 2) (by decide) rfl wk_307 rfl H0.1 H0.2.2.2.1.1 dX9_pin_49 ?_
      refine xr_getrN C Kd7 (k := 3) (by decide) rfl nk18 rfl H0.2.2.2.1.2.1 H0.2.2.2.1.2.2.2.1.1 dX9_pin_52 ?_
      refine xr_iload_n C dX9_pin_55 1 rfl rfl ?_
      obtain ⟨i6, hf⟩ := ck_x hf
      refine xr_iald C H0.2.2.2.1.2.2.2.1.2 i6 dX9_pin_56 ?_
      exact xr_ireturn C q rfl rfl dX9_pin_57 (so_1 hf) (so_w hf)
    rcases if_or hf with ⟨c5, hf⟩ | ⟨c5_1, hf⟩
    · refine xr_swIn (v := 1) (tgt := 58) C dX9_pin_12 c5 (by decide) (by decide) rfl (by decide) ?_
      refine xr_aload_n C dX9_pin_58 0 rfl rfl ?_
      refine xr_getr C Kd9 (k := 2) (by decide) rfl wk_307 rfl H0.1 H0.2.2.2.1.1 dX9_pin_59 ?_
      refine xr_getrN C Kd7 (k := 4) (by decide) rfl nk19 rfl H0.2.2.2.1.2.1 H0.2.2.2.1.2.2.2.2.1.1 dX9_pin_62 ?_
      refine xr_iload_n C dX9_pin_65 1 rfl rfl ?_
      obtain ⟨i7, hf⟩ := ck_x hf
      refine xr_iald C H0.2.2.2.1.2.2.2.2.1.2 i7 dX9_pin_66 ?_
      exact xr_ireturn C q rfl rfl dX9_pin_67 (so_1 hf) (so_w hf)
    rcases if_or hf with ⟨c5, hf⟩ | ⟨c5_2, hf⟩
    · refine xr_swIn (v := 2) (tgt := 68) C dX9_pin_12 c5 (by decide) (by decide) rfl (by decide) ?_
      refine xr_aload_n C dX9_pin_68 0 rfl rfl ?_
      refine xr_getr C Kd9 (k := 2) (by decide) rfl wk_307 rfl H0.1 H0.2.2.2.1.1 dX9_pin_69 ?_
      refine xr_getrN C Kd7 (k := 5) (by decide) rfl nk20 rfl H0.2.2.2.1.2.1 H0.2.2.2.1.2.2.2.2.2.1.1 dX9_pin_72 ?_
      refine xr_iload_n C dX9_pin_75 1 rfl rfl ?_
      obtain ⟨i8, hf⟩ := ck_x hf
      refine xr_iald C H0.2.2.2.1.2.2.2.2.2.1.2 i8 dX9_pin_76 ?_
      exact xr_ireturn C q rfl rfl dX9_pin_77 (so_1 hf) (so_w hf)
    rcases if_or hf with ⟨c5, hf⟩ | ⟨c5_3, hf⟩
    · refine xr_swIn (v := 3) (tgt := 78) C dX9_pin_12 c5 (by decide) (by decide) rfl (by decide) ?_
      refine xr_aload_n C dX9_pin_78 0 rfl rfl ?_
      refine xr_getr C Kd9 (k := 3) (by decide) rfl wk_308 rfl H0.1 H0.2.2.2.2.1.1 dX9_pin_79 ?_
      refine xr_getrN C Kd4 (k := 8) (by decide) rfl nk21 rfl H0.2.2.2.2.1.2.1 H0.2.2.2.2.1.2.2.1 dX9_pin_82 ?_
      refine xr_iload_n C dX9_pin_85 1 rfl rfl ?_
      obtain ⟨i9, hf⟩ := ck_x hf
      refine xr_iald C H0.2.2.2.2.1.2.2.2 i9 dX9_pin_86 ?_
      exact xr_ireturn C q rfl rfl dX9_pin_87 (so_1 hf) (so_w hf)
    rcases if_or hf with ⟨c5, hf⟩ | ⟨c5_4, hf⟩
    · refine xr_swIn (v := 4) (tgt := 88) C dX9_pin_12 c5 (by decide) (by decide) rfl (by decide) ?_
      refine xr_aload_n C dX9_pin_88 0 rfl rfl ?_
      refine xr_getr C Kd9 (k := 3) (by decide) rfl wk_308 rfl H0.1 H0.2.2.2.2.1.1 dX9_pin_89 ?_
      refine xr_iload_n C dX9_pin_92 1 rfl rfl ?_
      obtain ⟨⟨r12, I11⟩, h10, hf⟩ := ob_x hf
      refine xr_callNI C [.int p1] lkX9_231 (kX4_isOpen H0.2.2.2.2.1.2 h10) Kd4 rfl H0.2.2.2.2.1.2.1 rfl (Nat.le_of_ble_eq_true rfl) rfl dX9_pin_93 ⟨by decide, by decide, by decide⟩ rfl ?_
      refine xr_if_eq (tgt := 103) C dX9_pin_96 (by decide) hf (fun c13 hf => ?_) (fun c13 hf => ?_)
      · refine xr_iconst (v := 0) C dX9_pin_103 (by decide) ?_
        refine xr_lv [] rfl ?_
        exact ebX9_pin_104 C H0 q hf
      · refine xr_iconst (v := 1) C dX9_pin_99 (by decide) ?_
        refine xr_goto (tgt := 104) C dX9_pin_100 (by decide) ?_
        refine xr_lv [] rfl ?_
        exact ebX9_pin_104 C H0 q hf
    refine xr_swOut (tgt := 105) C dX9_pin_12 (sw_out5 c5_0 c5_1 c5_2 c5_3 c5_4) (by decide) ?_
    refine xr_ldc C wk_352 dX9_pin_105 ?_
    exact xr_ireturn C q rfl rfl dX9_pin_107 (so_1 hf) (so_w hf)
  · refine xr_ldc C wk_352 dX9_pin_8 ?_
    exact xr_ireturn C q rfl rfl dX9_pin_10 (so_1 hf) (so_w hf)
theorem kX9_pin {B : Bs} {h : Shp} (H0 : XAt h) {I0 : Mem} {p1 : Int32} {p2 : Int32} {r1 : Int32} {o1 : Mem} (hf : fnX9_pin I0 p1 p2 = some (r1, o1)) : CtrI B yX9_pin cX9_pin 3 (some Jvm.ClassFile.FieldType.int) 1 21 0 0 [rfB B 0, .int p1, .int p2] (I0, h) r1 (o1, h) := by
  refine xr_enterI (lv0 := [(0, rfB B 0), (1, .int p1), (2, .int p2)]) (by decide) (Nat.le_of_ble_eq_true rfl) rfl (fun g hg C q => ?_)
  subst hg
  exact ebX9_pin_0 C H0 q hf
theorem dX9_ahead_0 : decode cX9_ahead 0 = .ok (.aload_n 0, 1) := by decide +kernel
theorem dX9_ahead_1 : decode cX9_ahead 1 = .ok (.getfield 67, 3) := by decide +kernel
theorem dX9_ahead_4 : decode cX9_ahead 4 = .ok (.ifCond .ne 6, 3) := by decide +kernel
theorem dX9_ahead_7 : decode cX9_ahead 7 = .ok (.ldc 168, 2) := by decide +kernel
theorem dX9_ahead_9 : decode cX9_ahead 9 = .ok (.ireturn, 1) := by decide +kernel
theorem dX9_ahead_10 : decode cX9_ahead 10 = .ok (.iload_n 1, 1) := by decide +kernel
theorem dX9_ahead_11 : decode cX9_ahead 11 = .ok (.sipush 200, 3) := by decide +kernel
theorem dX9_ahead_14 : decode cX9_ahead 14 = .ok (.invokestatic 83, 3) := by decide +kernel
theorem dX9_ahead_17 : decode cX9_ahead 17 = .ok (.ifCond .eq 11, 3) := by decide +kernel
theorem dX9_ahead_20 : decode cX9_ahead 20 = .ok (.iload_n 2, 1) := by decide +kernel
theorem dX9_ahead_21 : decode cX9_ahead 21 = .ok (.iconst 3, 1) := by decide +kernel
theorem dX9_ahead_22 : decode cX9_ahead 22 = .ok (.invokestatic 83, 3) := by decide +kernel
theorem dX9_ahead_25 : decode cX9_ahead 25 = .ok (.ifCond .ne 6, 3) := by decide +kernel
theorem dX9_ahead_28 : decode cX9_ahead 28 = .ok (.ldc 87, 2) := by decide +kernel
theorem dX9_ahead_30 : decode cX9_ahead 30 = .ok (.ireturn, 1) := by decide +kernel
theorem dX9_ahead_31 : decode cX9_ahead 31 = .ok (.aload_n 0, 1) := by decide +kernel
theorem dX9_ahead_32 : decode cX9_ahead 32 = .ok (.getfield 50, 3) := by decide +kernel
theorem dX9_ahead_35 : decode cX9_ahead 35 = .ok (.aload_n 0, 1) := by decide +kernel
theorem dX9_ahead_36 : decode cX9_ahead 36 = .ok (.getfield 33, 3) := by decide +kernel
theorem dX9_ahead_39 : decode cX9_ahead 39 = .ok (.invokevirtual 234, 3) := by decide +kernel
theorem dX9_ahead_42 : decode cX9_ahead 42 = .ok (.aload_n 0, 1) := by decide +kernel
theorem dX9_ahead_43 : decode cX9_ahead 43 = .ok (.getfield 50, 3) := by decide +kernel
theorem dX9_ahead_46 : decode cX9_ahead 46 = .ok (.aload_n 0, 1) := by decide +kernel
theorem dX9_ahead_47 : decode cX9_ahead 47 = .ok (.getfield 26, 3) := by decide +kernel
theorem dX9_ahead_50 : decode cX9_ahead 50 = .ok (.iload_n 1, 1) := by decide +kernel
theorem dX9_ahead_51 : decode cX9_ahead 51 = .ok (.invokevirtual 236, 3) := by decide +kernel
theorem dX9_ahead_54 : decode cX9_ahead 54 = .ok (.iload_n 2, 1) := by decide +kernel
theorem dX9_ahead_55 : decode cX9_ahead 55 = .ok (.tableswitch 64 0 2 #[25, 48, 56], 25) := by decide +kernel
theorem dX9_ahead_80 : decode cX9_ahead 80 = .ok (.aload_n 0, 1) := by decide +kernel
theorem dX9_ahead_81 : decode cX9_ahead 81 = .ok (.getfield 50, 3) := by decide +kernel
theorem dX9_ahead_84 : decode cX9_ahead 84 = .ok (.getfield 169, 3) := by decide +kernel
theorem dX9_ahead_87 : decode cX9_ahead 87 = .ok (.ifCond .eq 8, 3) := by decide +kernel
theorem dX9_ahead_90 : decode cX9_ahead 90 = .ok (.ldc 240, 2) := by decide +kernel
theorem dX9_ahead_92 : decode cX9_ahead 92 = .ok (.goto 10, 3) := by decide +kernel
theorem dX9_ahead_95 : decode cX9_ahead 95 = .ok (.aload_n 0, 1) := by decide +kernel
theorem dX9_ahead_96 : decode cX9_ahead 96 = .ok (.getfield 50, 3) := by decide +kernel
theorem dX9_ahead_99 : decode cX9_ahead 99 = .ok (.getfield 192, 3) := by decide +kernel
theorem dX9_ahead_102 : decode cX9_ahead 102 = .ok (.ireturn, 1) := by decide +kernel
theorem dX9_ahead_103 : decode cX9_ahead 103 = .ok (.aload_n 0, 1) := by decide +kernel
theorem dX9_ahead_104 : decode cX9_ahead 104 = .ok (.getfield 50, 3) := by decide +kernel
theorem dX9_ahead_107 : decode cX9_ahead 107 = .ok (.getfield 195, 3) := by decide +kernel
theorem dX9_ahead_110 : decode cX9_ahead 110 = .ok (.ireturn, 1) := by decide +kernel
theorem dX9_ahead_111 : decode cX9_ahead 111 = .ok (.aload_n 0, 1) := by decide +kernel
theorem dX9_ahead_112 : decode cX9_ahead 112 = .ok (.getfield 50, 3) := by decide +kernel
theorem dX9_ahead_115 : decode cX9_ahead 115 = .ok (.getfield 210, 3) := by decide +kernel
theorem dX9_ahead_118 : decode cX9_ahead 118 = .ok (.ireturn, 1) := by decide +kernel
theorem dX9_ahead_119 : decode cX9_ahead 119 = .ok (.aload_n 0, 1) := by decide +kernel
theorem dX9_ahead_120 : decode cX9_ahead 120 = .ok (.getfield 50, 3) := by decide +kernel
theorem dX9_ahead_123 : decode cX9_ahead 123 = .ok (.getfield 213, 3) := by decide +kernel
theorem dX9_ahead_126 : decode cX9_ahead 126 = .ok (.ireturn, 1) := by decide +kernel
theorem lkX9_234 : LkN "BumperBalls" 234 yX4_become cX4_become 2 none 1 := ⟨wk_572, wk_5, wk_571, wk_s29, ⟨by decide +kernel, by decide +kernel, by decide +kernel⟩, (List.mem_of_getElem? (i := 65) (by decide +kernel))⟩
theorem lkX9_236 : LkN "BumperBalls" 236 yX4_run cX4_run 4 none 2 := ⟨wk_650, wk_5, wk_649, wk_s39, ⟨by decide +kernel, by decide +kernel, by decide +kernel⟩, (List.mem_of_getElem? (i := 66) (by decide +kernel))⟩
/-! BumperBalls.ahead(II)I -/
def fnX9_ahead_102 (I0 : Mem) (t0 : Int32) : Option (Int32 × Mem) :=
  some (t0, I0)
set_option maxRecDepth 20000 in
set_option maxHeartbeats 2000000 in
theorem ebX9_ahead_102 {g : Cfg} (C : Cx g RX9 cX9_ahead 3 5 109 0 0) {h : Shp} (H0 : XAt h) {r1 : Int32} {o1 : Mem} (q : QI g (some Jvm.ClassFile.FieldType.int) 0 0 r1 (o1, h)) {I0 : Mem} {t0 : Int32} (hf : fnX9_ahead_102 I0 t0 = some (r1, o1)) : XE g 0 0 (I0, h) 102 [] [.int t0] := by
  unfold fnX9_ahead_102 at hf
  exact xr_ireturn C q rfl rfl dX9_ahead_102 (so_1 hf) (so_w hf)
def fnX9_ahead_28 (I0 : Mem) : Option (Int32 × Mem) :=
  some ((-1000001), I0)
set_option maxRecDepth 20000 in
set_option maxHeartbeats 2000000 in
theorem ebX9_ahead_28 {g : Cfg} (C : Cx g RX9 cX9_ahead 3 5 109 0 0) {h : Shp} (H0 : XAt h) {r1 : Int32} {o1 : Mem} (q : QI g (some Jvm.ClassFile.FieldType.int) 0 0 r1 (o1, h)) {I0 : Mem} (hf : fnX9_ahead_28 I0 = some (r1, o1)) : XE g 0 0 (I0, h) 28 [] [] := by
  unfold fnX9_ahead_28 at hf
  refine xr_ldc C wk_352 dX9_ahead_28 ?_
  exact xr_ireturn C q rfl rfl dX9_ahead_30 (so_1 hf) (so_w hf)
def fnX9_ahead (I0 : Mem) (p1 : Int32) (p2 : Int32) : Option (Int32 × Mem) :=
  if (I0 0 9) = 0 then (some ((-1000002), I0)) else (ob (fnX9_isUpTo I0 p1 200) fun ⟨r4, I3⟩ => if r4 = 0 then (fnX9_ahead_28 I3) else (ob (fnX9_isUpTo I3 p2 3) fun ⟨r8, I7⟩ => if r8 = 0 then (fnX9_ahead_28 I7) else (ob (fnX4_become 80 27 I7) fun I11 => ob (fnX4_run 80 21 I11 p1) fun I13 => if p2 = 0 then (if (I13 80 2) = 0 then (fnX9_ahead_102 I13 (I13 80 0)) else (fnX9_ahead_102 I13 (-1000000))) else if p2 = 1 then (some ((I13 80 1), I13)) else if p2 = 2 then (some ((I13 80 4), I13)) else (some ((I13 80 5), I13)))))
set_option maxRecDepth 20000 in
set_option maxHeartbeats 2000000 in
theorem ebX9_ahead_0 {g : Cfg} (C : Cx g RX9 cX9_ahead 3 5 109 0 0) {h : Shp} (H0 : XAt h) {r1 : Int32} {o1 : Mem} (q : QI g (some Jvm.ClassFile.FieldType.int) 0 0 r1 (o1, h)) {I0 : Mem} {p1 : Int32} {p2 : Int32} (hf : fnX9_ahead I0 p1 p2 = some (r1, o1)) : XE g 0 0 (I0, h) 0 [(0, rf g 0), (1, .int p1), (2, .int p2)] [] := by
  unfold fnX9_ahead at hf
  refine xr_aload_n C dX9_ahead_0 0 rfl rfl ?_
  refine xr_geti C Kd9 (k := 9) (by decide) rfl wk_314 rfl H0.1 dX9_ahead_1 ?_
  refine xr_if_ne (tgt := 10) C dX9_ahead_4 (by decide) hf (fun c1 hf => ?_) (fun c1 hf => ?_)
  · refine xr_iload_n C dX9_ahead_10 1 rfl rfl ?_
    refine xr_sipush (v := 200) C dX9_ahead_11 (by decide) ?_
    obtain ⟨⟨r4, I3⟩, h2, hf⟩ := ob_x hf
    refine xr_callSI C [.int p1, .int 200] lkX9_83 (kX9_isUpTo h2) rfl (Nat.le_of_ble_eq_true rfl) rfl dX9_ahead_14 ⟨by decide, by decide, by decide⟩ rfl ?_
    refine xr_if_eq (tgt := 28) C dX9_ahead_17 (by decide) hf (fun c5 hf => ?_) (fun c5 hf => ?_)
    · refine xr_lv [] rfl ?_
      exact ebX9_ahead_28 C H0 q hf
    · refine xr_iload_n C dX9_ahead_20 2 rfl rfl ?_
      refine xr_iconst (v := 3) C dX9_ahead_21 (by decide) ?_
      obtain ⟨⟨r8, I7⟩, h6, hf⟩ := ob_x hf
      refine xr_callSI C [.int p2, .int 3] lkX9_83 (kX9_isUpTo h6) rfl (Nat.le_of_ble_eq_true rfl) rfl dX9_ahead_22 ⟨by decide, by decide, by decide⟩ rfl ?_
      refine xr_if_ne (tgt := 31) C dX9_ahead_25 (by decide) hf (fun c9 hf => ?_) (fun c9 hf => ?_)
      · refine xr_aload_n C dX9_ahead_31 0 rfl rfl ?_
        refine xr_getr C Kd9 (k := 6) (by decide) rfl wk_311 rfl H0.1 H0.2.2.2.2.2.2.2.1.1 dX9_ahead_32 ?_
        refine xr_aload_n C dX9_ahead_35 0 rfl rfl ?_
        refine xr_getr C Kd9 (k := 3) (by decide) rfl wk_308 rfl H0.1 H0.2.2.2.2.1.1 dX9_ahead_36 ?_
        obtain ⟨I11, h10, hf⟩ := ob_x hf
        refine xr_callNV C [rf g 27] lkX9_234 (kX4_become H0.2.2.2.2.2.2.2.1.2 H0.2.2.2.2.1.2 h10) Kd4 rfl H0.2.2.2.2.2.2.2.1.2.1 rfl (Nat.le_of_ble_eq_true rfl) rfl dX9_ahead_39 ⟨by decide, by decide, by decide⟩ rfl ?_
        refine xr_aload_n C dX9_ahead_42 0 rfl rfl ?_
        refine xr_getr C Kd9 (k := 6) (by decide) rfl wk_311 rfl H0.1 H0.2.2.2.2.2.2.2.1.1 dX9_ahead_43 ?_
        refine xr_aload_n C dX9_ahead_46 0 rfl rfl ?_
        refine xr_getr C Kd9 (k := 2) (by decide) rfl wk_307 rfl H0.1 H0.2.2.2.1.1 dX9_ahead_47 ?_
        refine xr_iload_n C dX9_ahead_50 1 rfl rfl ?_
        obtain ⟨I13, h12, hf⟩ := ob_x hf
        refine xr_callNV C [rf g 21, .int p1] lkX9_236 (kX4_run H0.2.2.2.2.2.2.2.1.2 H0.2.2.2.1.2 h12) Kd4 rfl H0.2.2.2.2.2.2.2.1.2.1 rfl (Nat.le_of_ble_eq_true rfl) rfl dX9_ahead_51 ⟨by decide, by decide, by decide⟩ rfl ?_
        refine xr_iload_n C dX9_ahead_54 2 rfl rfl ?_
        rcases if_or hf with ⟨c14, hf⟩ | ⟨c14_0, hf⟩
        · refine xr_swIn (v := 0) (tgt := 80) C dX9_ahead_55 c14 (by decide) (by decide) rfl (by decide) ?_
          refine xr_aload_n C dX9_ahead_80 0 rfl rfl ?_
          refine xr_getr C Kd9 (k := 6) (by decide) rfl wk_311 rfl H0.1 H0.2.2.2.2.2.2.2.1.1 dX9_ahead_81 ?_
          refine xr_getiN C Kd4 (k := 2) (by decide) rfl nk9 rfl H0.2.2.2.2.2.2.2.1.2.1 dX9_ahead_84 ?_
          refine xr_if_eq (tgt := 95) C dX9_ahead_87 (by decide) hf (fun c15 hf => ?_) (fun c15 hf => ?_)
          · refine xr_aload_n C dX9_ahead_95 0 rfl rfl ?_
            refine xr_getr C Kd9 (k := 6) (by decide) rfl wk_311 rfl H0.1 H0.2.2.2.2.2.2.2.1.1 dX9_ahead_96 ?_
            refine xr_getiN C Kd4 (k := 0) (by decide) rfl nk13 rfl H0.2.2.2.2.2.2.2.1.2.1 dX9_ahead_99 ?_
            refine xr_lv [] rfl ?_
            exact ebX9_ahead_102 C H0 q hf
          · refine xr_ldc C wk_652 dX9_ahead_90 ?_
            refine xr_goto (tgt := 102) C dX9_ahead_92 (by decide) ?_
            refine xr_lv [] rfl ?_
            exact ebX9_ahead_102 C H0 q hf
        rcases if_or hf with ⟨c14, hf⟩ | ⟨c14_1, hf⟩
        · refine xr_swIn (v := 1) (tgt := 103) C dX9_ahead_55 c14 (by decide) (by decide) rfl (by decide) ?_
          refine xr_aload_n C dX9_ahead_103 0 rfl rfl ?_
          refine xr_getr C Kd9 (k := 6) (by decide) rfl wk_311 rfl H0.1 H0.2.2.2.2.2.2.2.1.1 dX9_ahead_104 ?_
          refine xr_getiN C Kd4 (k := 1) (by decide) rfl nk14 rfl H0.2.2.2.2.2.2.2.1.2.1 dX9_ahead_107 ?_
          exact xr_ireturn C q rfl rfl dX9_ahead_110 (so_1 hf) (so_w hf)
        rcases if_or hf with ⟨c14, hf⟩ | ⟨c14_2, hf⟩
        · refine xr_swIn (v := 2) (tgt := 111) C dX9_ahead_55 c14 (by decide) (by decide) rfl (by decide) ?_
          refine xr_aload_n C dX9_ahead_111 0 rfl rfl ?_
          refine xr_getr C Kd9 (k := 6) (by decide) rfl wk_311 rfl H0.1 H0.2.2.2.2.2.2.2.1.1 dX9_ahead_112 ?_
          refine xr_getiN C Kd4 (k := 4) (by decide) rfl nk16 rfl H0.2.2.2.2.2.2.2.1.2.1 dX9_ahead_115 ?_
          exact xr_ireturn C q rfl rfl dX9_ahead_118 (so_1 hf) (so_w hf)
        refine xr_swOut (tgt := 119) C dX9_ahead_55 (sw_out3 c14_0 c14_1 c14_2) (by decide) ?_
        refine xr_aload_n C dX9_ahead_119 0 rfl rfl ?_
        refine xr_getr C Kd9 (k := 6) (by decide) rfl wk_311 rfl H0.1 H0.2.2.2.2.2.2.2.1.1 dX9_ahead_120 ?_
        refine xr_getiN C Kd4 (k := 5) (by decide) rfl nk17 rfl H0.2.2.2.2.2.2.2.1.2.1 dX9_ahead_123 ?_
        exact xr_ireturn C q rfl rfl dX9_ahead_126 (so_1 hf) (so_w hf)
      · refine xr_lv [] rfl ?_
        exact ebX9_ahead_28 C H0 q hf
  · refine xr_ldc C wk_564 dX9_ahead_7 ?_
    exact xr_ireturn C q rfl rfl dX9_ahead_9 (so_1 hf) (so_w hf)
theorem kX9_ahead {B : Bs} {h : Shp} (H0 : XAt h) {I0 : Mem} {p1 : Int32} {p2 : Int32} {r1 : Int32} {o1 : Mem} (hf : fnX9_ahead I0 p1 p2 = some (r1, o1)) : CtrI B yX9_ahead cX9_ahead 3 (some Jvm.ClassFile.FieldType.int) 5 109 0 0 [rfB B 0, .int p1, .int p2] (I0, h) r1 (o1, h) := by
  refine xr_enterI (lv0 := [(0, rfB B 0), (1, .int p1), (2, .int p2)]) (by decide) (Nat.le_of_ble_eq_true rfl) rfl (fun g hg C q => ?_)
  subst hg
  exact ebX9_ahead_0 C H0 q hf
theorem dX9_stepsTillLost_0 : decode cX9_stepsTillLost 0 = .ok (.aload_n 0, 1) := by decide +kernel
theorem dX9_stepsTillLost_1 : decode cX9_stepsTillLost 1 = .ok (.getfield 50, 3) := by decide +kernel
theorem dX9_stepsTillLost_4 : decode cX9_stepsTillLost 4 = .ok (.aload_n 0, 1) := by decide +kernel
theorem dX9_stepsTillLost_5 : decode cX9_stepsTillLost 5 = .ok (.getfield 33, 3) := by decide +kernel
theorem dX9_stepsTillLost_8 : decode cX9_stepsTillLost 8 = .ok (.invokevirtual 234, 3) := by decide +kernel
theorem dX9_stepsTillLost_11 : decode cX9_stepsTillLost 11 = .ok (.iconst 1, 1) := by decide +kernel
theorem dX9_stepsTillLost_12 : decode cX9_stepsTillLost 12 = .ok (.istore_n 1, 1) := by decide +kernel
theorem dX9_stepsTillLost_13 : decode cX9_stepsTillLost 13 = .ok (.iload_n 1, 1) := by decide +kernel
theorem dX9_stepsTillLost_14 : decode cX9_stepsTillLost 14 = .ok (.sipush 500, 3) := by decide +kernel
theorem dX9_stepsTillLost_17 : decode cX9_stepsTillLost 17 = .ok (.if_icmp .gt 32, 3) := by decide +kernel
theorem dX9_stepsTillLost_20 : decode cX9_stepsTillLost 20 = .ok (.aload_n 0, 1) := by decide +kernel
theorem dX9_stepsTillLost_21 : decode cX9_stepsTillLost 21 = .ok (.getfield 50, 3) := by decide +kernel
theorem dX9_stepsTillLost_24 : decode cX9_stepsTillLost 24 = .ok (.aload_n 0, 1) := by decide +kernel
theorem dX9_stepsTillLost_25 : decode cX9_stepsTillLost 25 = .ok (.getfield 26, 3) := by decide +kernel
theorem dX9_stepsTillLost_28 : decode cX9_stepsTillLost 28 = .ok (.invokevirtual 179, 3) := by decide +kernel
theorem dX9_stepsTillLost_31 : decode cX9_stepsTillLost 31 = .ok (.aload_n 0, 1) := by decide +kernel
theorem dX9_stepsTillLost_32 : decode cX9_stepsTillLost 32 = .ok (.getfield 50, 3) := by decide +kernel
theorem dX9_stepsTillLost_35 : decode cX9_stepsTillLost 35 = .ok (.getfield 169, 3) := by decide +kernel
theorem dX9_stepsTillLost_38 : decode cX9_stepsTillLost 38 = .ok (.ifCond .eq 5, 3) := by decide +kernel
theorem dX9_stepsTillLost_41 : decode cX9_stepsTillLost 41 = .ok (.iload_n 1, 1) := by decide +kernel
theorem dX9_stepsTillLost_42 : decode cX9_stepsTillLost 42 = .ok (.ireturn, 1) := by decide +kernel
theorem dX9_stepsTillLost_43 : decode cX9_stepsTillLost 43 = .ok (.iinc 1 1, 3) := by decide +kernel
theorem dX9_stepsTillLost_46 : decode cX9_stepsTillLost 46 = .ok (.goto (-33), 3) := by decide +kernel
theorem dX9_stepsTillLost_49 : decode cX9_stepsTillLost 49 = .ok (.ldc 240, 2) := by decide +kernel
theorem dX9_stepsTillLost_51 : decode cX9_stepsTillLost 51 = .ok (.ireturn, 1) := by decide +kernel
/-! BumperBalls.stepsTillLost()I -/
def fnX9_stepsTillLost_13b (rec13 : Mem → Int32 → Option (Int32 × Mem)) (I0 : Mem) (l1 : Int32) : Option (Int32 × Mem) :=
  if 500 < l1 then (some ((-1000000), I0)) else (ob (fnX4_step 80 21 I0) fun I3 => if (I3 80 2) = 0 then (bnd (l1 + 1) fun v5 => rec13 I3 v5) else (some (l1, I3)))
def fnX9_stepsTillLost_13 : Nat → Mem → Int32 → Option (Int32 × Mem)
  | 0 => fun _ _ => none
  | fu + 1 => fnX9_stepsTillLost_13b (fnX9_stepsTillLost_13 fu)
set_option maxRecDepth 20000 in
set_option maxHeartbeats 2000000 in
theorem ebX9_stepsTillLost_13b {g : Cfg} (C : Cx g RX9 cX9_stepsTillLost 2 4 86 0 0) {h : Shp} (H0 : XAt h) {r1 : Int32} {o1 : Mem} {rec13 : Mem → Int32 → Option (Int32 × Mem)} (q : QI g (some Jvm.ClassFile.FieldType.int) 0 0 r1 (o1, h)) (ih13 : ∀ (I0 : Mem) (l1 : Int32), rec13 I0 l1 = some (r1, o1) → XE g 0 0 (I0, h) 13 [(0, rf g 0), (1, .int l1)] []) {I0 : Mem} {l1 : Int32} (hf : fnX9_stepsTillLost_13b rec13 I0 l1 = some (r1, o1)) : XE g 0 0 (I0, h) 13 [(0, rf g 0), (1, .int l1)] [] := by
  unfold fnX9_stepsTillLost_13b at hf
  refine xr_iload_n C dX9_stepsTillLost_13 1 rfl rfl ?_
  refine xr_sipush (v := 500) C dX9_stepsTillLost_14 (by decide) ?_
  refine xr_icmp_gt (tgt := 49) C dX9_stepsTillLost_17 (by decide) hf (fun c1 hf => ?_) (fun c1 hf => ?_)
  · refine xr_ldc C wk_652 dX9_stepsTillLost_49 ?_
    exact xr_ireturn C q rfl rfl dX9_stepsTillLost_51 (so_1 hf) (so_w hf)
  · refine xr_aload_n C dX9_stepsTillLost_20 0 rfl rfl ?_
    refine xr_getr C Kd9 (k := 6) (by decide) rfl wk_311 rfl H0.1 H0.2.2.2.2.2.2.2.1.1 dX9_stepsTillLost_21 ?_
    refine xr_aload_n C dX9_stepsTillLost_24 0 rfl rfl ?_
    refine xr_getr C Kd9 (k := 2) (by decide) rfl wk_307 rfl H0.1 H0.2.2.2.1.1 dX9_stepsTillLost_25 ?_
    obtain ⟨I3, h2, hf⟩ := ob_x hf
    refine xr_callNV C [rf g 21] lkX9_179 (kX4_step H0.2.2.2.2.2.2.2.1.2 H0.2.2.2.1.2 h2) Kd4 rfl H0.2.2.2.2.2.2.2.1.2.1 rfl (Nat.le_of_ble_eq_true rfl) rfl dX9_stepsTillLost_28 ⟨by decide, by decide, by decide⟩ rfl ?_
    refine xr_aload_n C dX9_stepsTillLost_31 0 rfl rfl ?_
    refine xr_getr C Kd9 (k := 6) (by decide) rfl wk_311 rfl H0.1 H0.2.2.2.2.2.2.2.1.1 dX9_stepsTillLost_32 ?_
    refine xr_getiN C Kd4 (k := 2) (by decide) rfl nk9 rfl H0.2.2.2.2.2.2.2.1.2.1 dX9_stepsTillLost_35 ?_
    refine xr_if_eq (tgt := 43) C dX9_stepsTillLost_38 (by decide) hf (fun c4 hf => ?_) (fun c4 hf => ?_)
    · obtain ⟨v5, ev5, hf⟩ := bnd_x hf
      refine xr_iinc (k := 1) (v := v5) C dX9_stepsTillLost_43 rfl (by rw [ev5]; rfl) (by decide) rfl ?_
      refine xr_goto (tgt := 13) C dX9_stepsTillLost_46 (by decide) ?_
      refine xr_lv [1, 0] rfl ?_
      exact ih13 _ _ hf
    · refine xr_iload_n C dX9_stepsTillLost_41 1 rfl rfl ?_
      exact xr_ireturn C q rfl rfl dX9_stepsTillLost_42 (so_1 hf) (so_w hf)
theorem ebX9_stepsTillLost_13 {g : Cfg} (C : Cx g RX9 cX9_stepsTillLost 2 4 86 0 0) {h : Shp} (H0 : XAt h) {r1 : Int32} {o1 : Mem} (q : QI g (some Jvm.ClassFile.FieldType.int) 0 0 r1 (o1, h)) : ∀ (fu : Nat) {I0 : Mem} {l1 : Int32} (hf : fnX9_stepsTillLost_13 fu I0 l1 = some (r1, o1)), XE g 0 0 (I0, h) 13 [(0, rf g 0), (1, .int l1)] [] := by
  intro fu
  induction fu with
  | zero =>
    intro I0 l1 hf
    cases hf
  | succ fu ihn =>
    intro I0 l1 hf
    exact ebX9_stepsTillLost_13b C H0 q (fun _ _ hf => ihn hf) hf
def fnX9_stepsTillLost (I0 : Mem) : Option (Int32 × Mem) :=
  ob (fnX4_become 80 27 I0) fun I2 => fnX9_stepsTillLost_13 FU I2 1
set_option maxRecDepth 20000 in
set_option maxHeartbeats 2000000 in
theorem ebX9_stepsTillLost_0 {g : Cfg} (C : Cx g RX9 cX9_stepsTillLost 2 4 86 0 0) {h : Shp} (H0 : XAt h) {r1 : Int32} {o1 : Mem} (q : QI g (some Jvm.ClassFile.FieldType.int) 0 0 r1 (o1, h)) {I0 : Mem} (hf : fnX9_stepsTillLost I0 = some (r1, o1)) : XE g 0 0 (I0, h) 0 [(0, rf g 0)] [] := by
  unfold fnX9_stepsTillLost at hf
  refine xr_aload_n C dX9_stepsTillLost_0 0 rfl rfl ?_
  refine xr_getr C Kd9 (k := 6) (by decide) rfl wk_311 rfl H0.1 H0.2.2.2.2.2.2.2.1.1 dX9_stepsTillLost_1 ?_
  refine xr_aload_n C dX9_stepsTillLost_4 0 rfl rfl ?_
  refine xr_getr C Kd9 (k := 3) (by decide) rfl wk_308 rfl H0.1 H0.2.2.2.2.1.1 dX9_stepsTillLost_5 ?_
  obtain ⟨I2, h1, hf⟩ := ob_x hf
  refine xr_callNV C [rf g 27] lkX9_234 (kX4_become H0.2.2.2.2.2.2.2.1.2 H0.2.2.2.2.1.2 h1) Kd4 rfl H0.2.2.2.2.2.2.2.1.2.1 rfl (Nat.le_of_ble_eq_true rfl) rfl dX9_stepsTillLost_8 ⟨by decide, by decide, by decide⟩ rfl ?_
  refine xr_iconst (v := 1) C dX9_stepsTillLost_11 (by decide) ?_
  refine xr_istore_n C dX9_stepsTillLost_12 rfl (by decide) rfl ?_
  refine xr_lv [1, 0] rfl ?_
  exact ebX9_stepsTillLost_13 C H0 q _ hf
theorem kX9_stepsTillLost {B : Bs} {h : Shp} (H0 : XAt h) {I0 : Mem} {r1 : Int32} {o1 : Mem} (hf : fnX9_stepsTillLost I0 = some (r1, o1)) : CtrI B yX9_stepsTillLost cX9_stepsTillLost 2 (some Jvm.ClassFile.FieldType.int) 4 86 0 0 [rfB B 0] (I0, h) r1 (o1, h) := by
  refine xr_enterI (lv0 := [(0, rfB B 0)]) (by decide) (Nat.le_of_ble_eq_true rfl) rfl (fun g hg C q => ?_)
  subst hg
  exact ebX9_stepsTillLost_0 C H0 q hf
theorem dX9_stepsTillAgain_0 : decode cX9_stepsTillAgain 0 = .ok (.aload_n 0, 1) := by decide +kernel
theorem dX9_stepsTillAgain_1 : decode cX9_stepsTillAgain 1 = .ok (.getfield 50, 3) := by decide +kernel
theorem dX9_stepsTillAgain_4 : decode cX9_stepsTillAgain 4 = .ok (.aload_n 0, 1) := by decide +kernel
theorem dX9_stepsTillAgain_5 : decode cX9_stepsTillAgain 5 = .ok (.getfield 33, 3) := by decide +kernel
theorem dX9_stepsTillAgain_8 : decode cX9_stepsTillAgain 8 = .ok (.invokevirtual 234, 3) := by decide +kernel
theorem dX9_stepsTillAgain_11 : decode cX9_stepsTillAgain 11 = .ok (.iconst 1, 1) := by decide +kernel
theorem dX9_stepsTillAgain_12 : decode cX9_stepsTillAgain 12 = .ok (.istore_n 1, 1) := by decide +kernel
theorem dX9_stepsTillAgain_13 : decode cX9_stepsTillAgain 13 = .ok (.iload_n 1, 1) := by decide +kernel
theorem dX9_stepsTillAgain_14 : decode cX9_stepsTillAgain 14 = .ok (.sipush 400, 3) := by decide +kernel
theorem dX9_stepsTillAgain_17 : decode cX9_stepsTillAgain 17 = .ok (.if_icmp .gt 49, 3) := by decide +kernel
theorem dX9_stepsTillAgain_20 : decode cX9_stepsTillAgain 20 = .ok (.aload_n 0, 1) := by decide +kernel
theorem dX9_stepsTillAgain_21 : decode cX9_stepsTillAgain 21 = .ok (.getfield 50, 3) := by decide +kernel
theorem dX9_stepsTillAgain_24 : decode cX9_stepsTillAgain 24 = .ok (.aload_n 0, 1) := by decide +kernel
theorem dX9_stepsTillAgain_25 : decode cX9_stepsTillAgain 25 = .ok (.getfield 26, 3) := by decide +kernel
theorem dX9_stepsTillAgain_28 : decode cX9_stepsTillAgain 28 = .ok (.invokevirtual 179, 3) := by decide +kernel
theorem dX9_stepsTillAgain_31 : decode cX9_stepsTillAgain 31 = .ok (.aload_n 0, 1) := by decide +kernel
theorem dX9_stepsTillAgain_32 : decode cX9_stepsTillAgain 32 = .ok (.getfield 50, 3) := by decide +kernel
theorem dX9_stepsTillAgain_35 : decode cX9_stepsTillAgain 35 = .ok (.getfield 169, 3) := by decide +kernel
theorem dX9_stepsTillAgain_38 : decode cX9_stepsTillAgain 38 = .ok (.ifCond .eq 6, 3) := by decide +kernel
theorem dX9_stepsTillAgain_41 : decode cX9_stepsTillAgain 41 = .ok (.ldc 240, 2) := by decide +kernel
theorem dX9_stepsTillAgain_43 : decode cX9_stepsTillAgain 43 = .ok (.ireturn, 1) := by decide +kernel
theorem dX9_stepsTillAgain_44 : decode cX9_stepsTillAgain 44 = .ok (.aload_n 0, 1) := by decide +kernel
theorem dX9_stepsTillAgain_45 : decode cX9_stepsTillAgain 45 = .ok (.getfield 50, 3) := by decide +kernel
theorem dX9_stepsTillAgain_48 : decode cX9_stepsTillAgain 48 = .ok (.aload_n 0, 1) := by decide +kernel
theorem dX9_stepsTillAgain_49 : decode cX9_stepsTillAgain 49 = .ok (.getfield 33, 3) := by decide +kernel
theorem dX9_stepsTillAgain_52 : decode cX9_stepsTillAgain 52 = .ok (.invokevirtual 303, 3) := by decide +kernel
theorem dX9_stepsTillAgain_55 : decode cX9_stepsTillAgain 55 = .ok (.ifCond .eq 5, 3) := by decide +kernel
theorem dX9_stepsTillAgain_58 : decode cX9_stepsTillAgain 58 = .ok (.iload_n 1, 1) := by decide +kernel
theorem dX9_stepsTillAgain_59 : decode cX9_stepsTillAgain 59 = .ok (.ireturn, 1) := by decide +kernel
theorem dX9_stepsTillAgain_60 : decode cX9_stepsTillAgain 60 = .ok (.iinc 1 1, 3) := by decide +kernel
theorem dX9_stepsTillAgain_63 : decode cX9_stepsTillAgain 63 = .ok (.goto (-50), 3) := by decide +kernel
theorem dX9_stepsTillAgain_66 : decode cX9_stepsTillAgain 66 = .ok (.ldc 240, 2) := by decide +kernel
theorem dX9_stepsTillAgain_68 : decode cX9_stepsTillAgain 68 = .ok (.ireturn, 1) := by decide +kernel
theorem lkX9_303 : LkN "BumperBalls" 303 yX4_isAs cX4_isAs 2 (some Jvm.ClassFile.FieldType.boolean) 1 := ⟨wk_668, wk_5, wk_667, wk_s42, ⟨by decide +kernel, by decide +kernel, by decide +kernel⟩, (List.mem_of_getElem? (i := 76) (by decide +kernel))⟩
/-! BumperBalls.stepsTillAgain()I -/
def fnX9_stepsTillAgain_13b (rec13 : Mem → Int32 → Option (Int32 × Mem)) (I0 : Mem) (l1 : Int32) : Option (Int32 × Mem) :=
  if 400 < l1 then (some ((-1000000), I0)) else (ob (fnX4_step 80 21 I0) fun I3 => if (I3 80 2) = 0 then (ob (fnX4_isAs 80 27 I3) fun ⟨r7, I6⟩ => if r7 = 0 then (bnd (l1 + 1) fun v9 => rec13 I6 v9) else (some (l1, I6))) else (some ((-1000000), I3)))
def fnX9_stepsTillAgain_13 : Nat → Mem → Int32 → Option (Int32 × Mem)
  | 0 => fun _ _ => none
  | fu + 1 => fnX9_stepsTillAgain_13b (fnX9_stepsTillAgain_13 fu)
set_option maxRecDepth 20000 in
set_option maxHeartbeats 2000000 in
theorem ebX9_stepsTillAgain_13b {g : Cfg} (C : Cx g RX9 cX9_stepsTillAgain 2 4 86 0 0) {h : Shp} (H0 : XAt h) {r1 : Int32} {o1 : Mem} {rec13 : Mem → Int32 → Option (Int32 × Mem)} (q : QI g (some Jvm.ClassFile.FieldType.int) 0 0 r1 (o1, h)) (ih13 : ∀ (I0 : Mem) (l1 : Int32), rec13 I0 l1 = some (r1, o1) → XE g 0 0 (I0, h) 13 [(0, rf g 0), (1, .int l1)] []) {I0 : Mem} {l1 : Int32} (hf : fnX9_stepsTillAgain_13b rec13 I0 l1 = some (r1, o1)) : XE g 0 0 (I0, h) 13 [(0, rf g 0), (1, .int l1)] [] := by
  unfold fnX9_stepsTillAgain_13b at hf
  refine xr_iload_n C dX9_stepsTillAgain_13 1 rfl rfl ?_
  refine xr_sipush (v := 400) C dX9_stepsTillAgain_14 (by decide) ?_
  refine xr_icmp_gt (tgt := 66) C dX9_stepsTillAgain_17 (by decide) hf (fun c1 hf => ?_) (fun c1 hf => ?_)
  · refine xr_ldc C wk_652 dX9_stepsTillAgain_66 ?_
    exact xr_ireturn C q rfl rfl dX9_stepsTillAgain_68 (so_1 hf) (so_w hf)
  · refine xr_aload_n C dX9_stepsTillAgain_20 0 rfl rfl ?_
    refine xr_getr C Kd9 (k := 6) (by decide) rfl wk_311 rfl H0.1 H0.2.2.2.2.2.2.2.1.1 dX9_stepsTillAgain_21 ?_
    refine xr_aload_n C dX9_stepsTillAgain_24 0 rfl rfl ?_
    refine xr_getr C Kd9 (k := 2) (by decide) rfl wk_307 rfl H0.1 H0.2.2.2.1.1 dX9_stepsTillAgain_25 ?_
    obtain ⟨I3, h2, hf⟩ := ob_x hf
    refine xr_callNV C [rf g 21] lkX9_179 (kX4_step H0.2.2.2.2.2.2.2.1.2 H0.2.2.2.1.2 h2) Kd4 rfl H0.2.2.2.2.2.2.2.1.2.1 rfl (Nat.le_of_ble_eq_true rfl) rfl dX9_stepsTillAgain_28 ⟨by decide, by decide, by decide⟩ rfl ?_
    refine xr_aload_n C dX9_stepsTillAgain_31 0 rfl rfl ?_
    refine xr_getr C Kd9 (k := 6) (by decide) rfl wk_311 rfl H0.1 H0.2.2.2.2.2.2.2.1.1 dX9_stepsTillAgain_32 ?_
    refine xr_getiN C Kd4 (k := 2) (by decide) rfl nk9 rfl H0.2.2.2.2.2.2.2.1.2.1 dX9_stepsTillAgain_35 ?_
    refine xr_if_eq (tgt := 44) C dX9_stepsTillAgain_38 (by decide) hf (fun c4 hf => ?_) (fun c4 hf => ?_)
    · refine xr_aload_n C dX9_stepsTillAgain_44 0 rfl rfl ?_
      refine xr_getr C Kd9 (k := 6) (by decide) rfl wk_311 rfl H0.1 H0.2.2.2.2.2.2.2.1.1 dX9_stepsTillAgain_45 ?_
      refine xr_aload_n C dX9_stepsTillAgain_48 0 rfl rfl ?_
      refine xr_getr C Kd9 (k := 3) (by decide) rfl wk_308 rfl H0.1 H0.2.2.2.2.1.1 dX9_stepsTillAgain_49 ?_
      obtain ⟨⟨r7, I6⟩, h5, hf⟩ := ob_x hf
      refine xr_callNI C [rf g 27] lkX9_303 (kX4_isAs H0.2.2.2.2.2.2.2.1.2 H0.2.2.2.2.1.2 h5) Kd4 rfl H0.2.2.2.2.2.2.2.1.2.1 rfl (Nat.le_of_ble_eq_true rfl) rfl dX9_stepsTillAgain_52 ⟨by decide, by decide, by decide⟩ rfl ?_
      refine xr_if_eq (tgt := 60) C dX9_stepsTillAgain_55 (by decide) hf (fun c8 hf => ?_) (fun c8 hf => ?_)
      · obtain ⟨v9, ev9, hf⟩ := bnd_x hf
        refine xr_iinc (k := 1) (v := v9) C dX9_stepsTillAgain_60 rfl (by rw [ev9]; rfl) (by decide) rfl ?_
        refine xr_goto (tgt := 13) C dX9_stepsTillAgain_63 (by decide) ?_
        refine xr_lv [1, 0] rfl ?_
        exact ih13 _ _ hf
      · refine xr_iload_n C dX9_stepsTillAgain_58 1 rfl rfl ?_
        exact xr_ireturn C q rfl rfl dX9_stepsTillAgain_59 (so_1 hf) (so_w hf)
    · refine xr_ldc C wk_652 dX9_stepsTillAgain_41 ?_
      exact xr_ireturn C q rfl rfl dX9_stepsTillAgain_43 (so_1 hf) (so_w hf)
theorem ebX9_stepsTillAgain_13 {g : Cfg} (C : Cx g RX9 cX9_stepsTillAgain 2 4 86 0 0) {h : Shp} (H0 : XAt h) {r1 : Int32} {o1 : Mem} (q : QI g (some Jvm.ClassFile.FieldType.int) 0 0 r1 (o1, h)) : ∀ (fu : Nat) {I0 : Mem} {l1 : Int32} (hf : fnX9_stepsTillAgain_13 fu I0 l1 = some (r1, o1)), XE g 0 0 (I0, h) 13 [(0, rf g 0), (1, .int l1)] [] := by
  intro fu
  induction fu with
  | zero =>
    intro I0 l1 hf
    cases hf
  | succ fu ihn =>
    intro I0 l1 hf
    exact ebX9_stepsTillAgain_13b C H0 q (fun _ _ hf => ihn hf) hf
def fnX9_stepsTillAgain (I0 : Mem) : Option (Int32 × Mem) :=
  ob (fnX4_become 80 27 I0) fun I2 => fnX9_stepsTillAgain_13 FU I2 1
set_option maxRecDepth 20000 in
set_option maxHeartbeats 2000000 in
theorem ebX9_stepsTillAgain_0 {g : Cfg} (C : Cx g RX9 cX9_stepsTillAgain 2 4 86 0 0) {h : Shp} (H0 : XAt h) {r1 : Int32} {o1 : Mem} (q : QI g (some Jvm.ClassFile.FieldType.int) 0 0 r1 (o1, h)) {I0 : Mem} (hf : fnX9_stepsTillAgain I0 = some (r1, o1)) : XE g 0 0 (I0, h) 0 [(0, rf g 0)] [] := by
  unfold fnX9_stepsTillAgain at hf
  refine xr_aload_n C dX9_stepsTillAgain_0 0 rfl rfl ?_
  refine xr_getr C Kd9 (k := 6) (by decide) rfl wk_311 rfl H0.1 H0.2.2.2.2.2.2.2.1.1 dX9_stepsTillAgain_1 ?_
  refine xr_aload_n C dX9_stepsTillAgain_4 0 rfl rfl ?_
  refine xr_getr C Kd9 (k := 3) (by decide) rfl wk_308 rfl H0.1 H0.2.2.2.2.1.1 dX9_stepsTillAgain_5 ?_
  obtain ⟨I2, h1, hf⟩ := ob_x hf
  refine xr_callNV C [rf g 27] lkX9_234 (kX4_become H0.2.2.2.2.2.2.2.1.2 H0.2.2.2.2.1.2 h1) Kd4 rfl H0.2.2.2.2.2.2.2.1.2.1 rfl (Nat.le_of_ble_eq_true rfl) rfl dX9_stepsTillAgain_8 ⟨by decide, by decide, by decide⟩ rfl ?_
  refine xr_iconst (v := 1) C dX9_stepsTillAgain_11 (by decide) ?_
  refine xr_istore_n C dX9_stepsTillAgain_12 rfl (by decide) rfl ?_
  refine xr_lv [1, 0] rfl ?_
  exact ebX9_stepsTillAgain_13 C H0 q _ hf
theorem kX9_stepsTillAgain {B : Bs} {h : Shp} (H0 : XAt h) {I0 : Mem} {r1 : Int32} {o1 : Mem} (hf : fnX9_stepsTillAgain I0 = some (r1, o1)) : CtrI B yX9_stepsTillAgain cX9_stepsTillAgain 2 (some Jvm.ClassFile.FieldType.int) 4 86 0 0 [rfB B 0] (I0, h) r1 (o1, h) := by
  refine xr_enterI (lv0 := [(0, rfB B 0)]) (by decide) (Nat.le_of_ble_eq_true rfl) rfl (fun g hg C q => ?_)
  subst hg
  exact ebX9_stepsTillAgain_0 C H0 q hf
theorem dX9_lasts_0 : decode cX9_lasts 0 = .ok (.aload_n 0, 1) := by decide +kernel
theorem dX9_lasts_1 : decode cX9_lasts 1 = .ok (.getfield 67, 3) := by decide +kernel
theorem dX9_lasts_4 : decode cX9_lasts 4 = .ok (.ifCond .ne 6, 3) := by decide +kernel
theorem dX9_lasts_7 : decode cX9_lasts 7 = .ok (.ldc 168, 2) := by decide +kernel
theorem dX9_lasts_9 : decode cX9_lasts 9 = .ok (.ireturn, 1) := by decide +kernel
theorem dX9_lasts_10 : decode cX9_lasts 10 = .ok (.iload_n 1, 1) := by decide +kernel
theorem dX9_lasts_11 : decode cX9_lasts 11 = .ok (.iconst 1, 1) := by decide +kernel
theorem dX9_lasts_12 : decode cX9_lasts 12 = .ok (.invokestatic 83, 3) := by decide +kernel
theorem dX9_lasts_15 : decode cX9_lasts 15 = .ok (.ifCond .ne 6, 3) := by decide +kernel
theorem dX9_lasts_18 : decode cX9_lasts 18 = .ok (.ldc 87, 2) := by decide +kernel
theorem dX9_lasts_20 : decode cX9_lasts 20 = .ok (.ireturn, 1) := by decide +kernel
theorem dX9_lasts_21 : decode cX9_lasts 21 = .ok (.aload_n 0, 1) := by decide +kernel
theorem dX9_lasts_22 : decode cX9_lasts 22 = .ok (.getfield 33, 3) := by decide +kernel
theorem dX9_lasts_25 : decode cX9_lasts 25 = .ok (.getfield 169, 3) := by decide +kernel
theorem dX9_lasts_28 : decode cX9_lasts 28 = .ok (.ifCond .eq 6, 3) := by decide +kernel
theorem dX9_lasts_31 : decode cX9_lasts 31 = .ok (.ldc 168, 2) := by decide +kernel
theorem dX9_lasts_33 : decode cX9_lasts 33 = .ok (.ireturn, 1) := by decide +kernel
theorem dX9_lasts_34 : decode cX9_lasts 34 = .ok (.iload_n 1, 1) := by decide +kernel
theorem dX9_lasts_35 : decode cX9_lasts 35 = .ok (.ifCond .ne 10, 3) := by decide +kernel
theorem dX9_lasts_38 : decode cX9_lasts 38 = .ok (.aload_n 0, 1) := by decide +kernel
theorem dX9_lasts_39 : decode cX9_lasts 39 = .ok (.invokevirtual 241, 3) := by decide +kernel
theorem dX9_lasts_42 : decode cX9_lasts 42 = .ok (.goto 7, 3) := by decide +kernel
theorem dX9_lasts_45 : decode cX9_lasts 45 = .ok (.aload_n 0, 1) := by decide +kernel
theorem dX9_lasts_46 : decode cX9_lasts 46 = .ok (.invokevirtual 245, 3) := by decide +kernel
theorem dX9_lasts_49 : decode cX9_lasts 49 = .ok (.ireturn, 1) := by decide +kernel
theorem lkX9_241 : LkV "BumperBalls" 241 yX9_stepsTillLost cX9_stepsTillLost 2 (some Jvm.ClassFile.FieldType.int) 0 := ⟨wk_660, wk_1, wk_659, wk_s40, ⟨by decide +kernel, by decide +kernel, by decide +kernel⟩, wk_657⟩
theorem lkX9_245 : LkV "BumperBalls" 245 yX9_stepsTillAgain cX9_stepsTillAgain 2 (some Jvm.ClassFile.FieldType.int) 0 := ⟨wk_664, wk_1, wk_663, wk_s41, ⟨by decide +kernel, by decide +kernel, by decide +kernel⟩, wk_661⟩
/-! BumperBalls.lasts(I)I -/
def fnX9_lasts_49 (I0 : Mem) (t0 : Int32) : Option (Int32 × Mem) :=
  some (t0, I0)
set_option maxRecDepth 20000 in
set_option maxHeartbeats 2000000 in
theorem ebX9_lasts_49 {g : Cfg} (C : Cx g RX9 cX9_lasts 2 5 107 0 0) {h : Shp} (H0 : XAt h) {r1 : Int32} {o1 : Mem} (q : QI g (some Jvm.ClassFile.FieldType.int) 0 0 r1 (o1, h)) {I0 : Mem} {t0 : Int32} (hf : fnX9_lasts_49 I0 t0 = some (r1, o1)) : XE g 0 0 (I0, h) 49 [] [.int t0] := by
  unfold fnX9_lasts_49 at hf
  exact xr_ireturn C q rfl rfl dX9_lasts_49 (so_1 hf) (so_w hf)
def fnX9_lasts (I0 : Mem) (p1 : Int32) : Option (Int32 × Mem) :=
  if (I0 0 9) = 0 then (some ((-1000002), I0)) else (ob (fnX9_isUpTo I0 p1 1) fun ⟨r4, I3⟩ => if r4 = 0 then (some ((-1000001), I3)) else (if (I3 27 2) = 0 then (if p1 = 0 then (ob (fnX9_stepsTillLost I3) fun ⟨r13, I12⟩ => fnX9_lasts_49 I12 r13) else (ob (fnX9_stepsTillAgain I3) fun ⟨r10, I9⟩ => fnX9_lasts_49 I9 r10)) else (some ((-1000002), I3))))
set_option maxRecDepth 20000 in
set_option maxHeartbeats 2000000 in
theorem ebX9_lasts_0 {g : Cfg} (C : Cx g RX9 cX9_lasts 2 5 107 0 0) {h : Shp} (H0 : XAt h) {r1 : Int32} {o1 : Mem} (q : QI g (some Jvm.ClassFile.FieldType.int) 0 0 r1 (o1, h)) {I0 : Mem} {p1 : Int32} (hf : fnX9_lasts I0 p1 = some (r1, o1)) : XE g 0 0 (I0, h) 0 [(0, rf g 0), (1, .int p1)] [] := by
  unfold fnX9_lasts at hf
  refine xr_aload_n C dX9_lasts_0 0 rfl rfl ?_
  refine xr_geti C Kd9 (k := 9) (by decide) rfl wk_314 rfl H0.1 dX9_lasts_1 ?_
  refine xr_if_ne (tgt := 10) C dX9_lasts_4 (by decide) hf (fun c1 hf => ?_) (fun c1 hf => ?_)
  · refine xr_iload_n C dX9_lasts_10 1 rfl rfl ?_
    refine xr_iconst (v := 1) C dX9_lasts_11 (by decide) ?_
    obtain ⟨⟨r4, I3⟩, h2, hf⟩ := ob_x hf
    refine xr_callSI C [.int p1, .int 1] lkX9_83 (kX9_isUpTo h2) rfl (Nat.le_of_ble_eq_true rfl) rfl dX9_lasts_12 ⟨by decide, by decide, by decide⟩ rfl ?_
    refine xr_if_ne (tgt := 21) C dX9_lasts_15 (by decide) hf (fun c5 hf => ?_) (fun c5 hf => ?_)
    · refine xr_aload_n C dX9_lasts_21 0 rfl rfl ?_
      refine xr_getr C Kd9 (k := 3) (by decide) rfl wk_308 rfl H0.1 H0.2.2.2.2.1.1 dX9_lasts_22 ?_
      refine xr_getiN C Kd4 (k := 2) (by decide) rfl nk9 rfl H0.2.2.2.2.1.2.1 dX9_lasts_25 ?_
      refine xr_if_eq (tgt := 34) C dX9_lasts_28 (by decide) hf (fun c6 hf => ?_) (fun c6 hf => ?_)
      · refine xr_iload_n C dX9_lasts_34 1 rfl rfl ?_
        refine xr_if_ne (tgt := 45) C dX9_lasts_35 (by decide) hf (fun c7 hf => ?_) (fun c7 hf => ?_)
        · refine xr_aload_n C dX9_lasts_45 0 rfl rfl ?_
          obtain ⟨⟨r10, I9⟩, h8, hf⟩ := ob_x hf
          refine xr_callVI C [] lkX9_245 (kX9_stepsTillAgain H0 h8) Kd9 rfl H0.1 rfl (Nat.le_of_ble_eq_true rfl) rfl dX9_lasts_46 ⟨by decide, by decide, by decide⟩ rfl ?_
          refine xr_lv [] rfl ?_
          exact ebX9_lasts_49 C H0 q hf
        · refine xr_aload_n C dX9_lasts_38 0 rfl rfl ?_
          obtain ⟨⟨r13, I12⟩, h11, hf⟩ := ob_x hf
          refine xr_callVI C [] lkX9_241 (kX9_stepsTillLost H0 h11) Kd9 rfl H0.1 rfl (Nat.le_of_ble_eq_true rfl) rfl dX9_lasts_39 ⟨by decide, by decide, by decide⟩ rfl ?_
          refine xr_goto (tgt := 49) C dX9_lasts_42 (by decide) ?_
          refine xr_lv [] rfl ?_
          exact ebX9_lasts_49 C H0 q hf
      · refine xr_ldc C wk_564 dX9_lasts_31 ?_
        exact xr_ireturn C q rfl rfl dX9_lasts_33 (so_1 hf) (so_w hf)
    · refine xr_ldc C wk_352 dX9_lasts_18 ?_
      exact xr_ireturn C q rfl rfl dX9_lasts_20 (so_1 hf) (so_w hf)
  · refine xr_ldc C wk_564 dX9_lasts_7 ?_
    exact xr_ireturn C q rfl rfl dX9_lasts_9 (so_1 hf) (so_w hf)
theorem kX9_lasts {B : Bs} {h : Shp} (H0 : XAt h) {I0 : Mem} {p1 : Int32} {r1 : Int32} {o1 : Mem} (hf : fnX9_lasts I0 p1 = some (r1, o1)) : CtrI B yX9_lasts cX9_lasts 2 (some Jvm.ClassFile.FieldType.int) 5 107 0 0 [rfB B 0, .int p1] (I0, h) r1 (o1, h) := by
  refine xr_enterI (lv0 := [(0, rfB B 0), (1, .int p1)]) (by decide) (Nat.le_of_ble_eq_true rfl) rfl (fun g hg C q => ?_)
  subst hg
  exact ebX9_lasts_0 C H0 q hf
theorem dX9_broughtBy_0 : decode cX9_broughtBy 0 = .ok (.aload_n 0, 1) := by decide +kernel
theorem dX9_broughtBy_1 : decode cX9_broughtBy 1 = .ok (.getfield 50, 3) := by decide +kernel
theorem dX9_broughtBy_4 : decode cX9_broughtBy 4 = .ok (.aload_n 0, 1) := by decide +kernel
theorem dX9_broughtBy_5 : decode cX9_broughtBy 5 = .ok (.getfield 33, 3) := by decide +kernel
theorem dX9_broughtBy_8 : decode cX9_broughtBy 8 = .ok (.invokevirtual 234, 3) := by decide +kernel
theorem dX9_broughtBy_11 : decode cX9_broughtBy 11 = .ok (.aload_n 0, 1) := by decide +kernel
theorem dX9_broughtBy_12 : decode cX9_broughtBy 12 = .ok (.getfield 50, 3) := by decide +kernel
theorem dX9_broughtBy_15 : decode cX9_broughtBy 15 = .ok (.iload_n 1, 1) := by decide +kernel
theorem dX9_broughtBy_16 : decode cX9_broughtBy 16 = .ok (.iconst 4, 1) := by decide +kernel
theorem dX9_broughtBy_17 : decode cX9_broughtBy 17 = .ok (.idiv, 1) := by decide +kernel
theorem dX9_broughtBy_18 : decode cX9_broughtBy 18 = .ok (.iload_n 1, 1) := by decide +kernel
theorem dX9_broughtBy_19 : decode cX9_broughtBy 19 = .ok (.iconst 4, 1) := by decide +kernel
theorem dX9_broughtBy_20 : decode cX9_broughtBy 20 = .ok (.irem, 1) := by decide +kernel
theorem dX9_broughtBy_21 : decode cX9_broughtBy 21 = .ok (.invokevirtual 201, 3) := by decide +kernel
theorem dX9_broughtBy_24 : decode cX9_broughtBy 24 = .ok (.aload_n 0, 1) := by decide +kernel
theorem dX9_broughtBy_25 : decode cX9_broughtBy 25 = .ok (.getfield 50, 3) := by decide +kernel
theorem dX9_broughtBy_28 : decode cX9_broughtBy 28 = .ok (.aload_n 0, 1) := by decide +kernel
theorem dX9_broughtBy_29 : decode cX9_broughtBy 29 = .ok (.getfield 26, 3) := by decide +kernel
theorem dX9_broughtBy_32 : decode cX9_broughtBy 32 = .ok (.iload_n 2, 1) := by decide +kernel
theorem dX9_broughtBy_33 : decode cX9_broughtBy 33 = .ok (.invokevirtual 236, 3) := by decide +kernel
theorem dX9_broughtBy_36 : decode cX9_broughtBy 36 = .ok (.aload_n 0, 1) := by decide +kernel
theorem dX9_broughtBy_37 : decode cX9_broughtBy 37 = .ok (.getfield 50, 3) := by decide +kernel
theorem dX9_broughtBy_40 : decode cX9_broughtBy 40 = .ok (.getfield 210, 3) := by decide +kernel
theorem dX9_broughtBy_43 : decode cX9_broughtBy 43 = .ok (.aload_n 0, 1) := by decide +kernel
theorem dX9_broughtBy_44 : decode cX9_broughtBy 44 = .ok (.getfield 33, 3) := by decide +kernel
theorem dX9_broughtBy_47 : decode cX9_broughtBy 47 = .ok (.getfield 210, 3) := by decide +kernel
theorem dX9_broughtBy_50 : decode cX9_broughtBy 50 = .ok (.isub, 1) := by decide +kernel
theorem dX9_broughtBy_51 : decode cX9_broughtBy 51 = .ok (.ireturn, 1) := by decide +kernel
/-! BumperBalls.broughtBy(II)I -/
def fnX9_broughtBy (I0 : Mem) (p1 : Int32) (p2 : Int32) : Option (Int32 × Mem) :=
  ob (fnX4_become 80 27 I0) fun I2 => ob (fnX4_place 80 I2 (p1 / 4) (irm p1 4)) fun I4 => ob (fnX4_run 80 21 I4 p2) fun I6 => some (((I6 80 4) - (I6 27 4)), I6)
set_option maxRecDepth 20000 in
set_option maxHeartbeats 2000000 in
theorem ebX9_broughtBy_0 {g : Cfg} (C : Cx g RX9 cX9_broughtBy 3 5 109 0 0) {h : Shp} (H0 : XAt h) {r1 : Int32} {o1 : Mem} (q : QI g (some Jvm.ClassFile.FieldType.int) 0 0 r1 (o1, h)) {I0 : Mem} {p1 : Int32} {p2 : Int32} (hf : fnX9_broughtBy I0 p1 p2 = some (r1, o1)) : XE g 0 0 (I0, h) 0 [(0, rf g 0), (1, .int p1), (2, .int p2)] [] := by
  unfold fnX9_broughtBy at hf
  refine xr_aload_n C dX9_broughtBy_0 0 rfl rfl ?_
  refine xr_getr C Kd9 (k := 6) (by decide) rfl wk_311 rfl H0.1 H0.2.2.2.2.2.2.2.1.1 dX9_broughtBy_1 ?_
  refine xr_aload_n C dX9_broughtBy_4 0 rfl rfl ?_
  refine xr_getr C Kd9 (k := 3) (by decide) rfl wk_308 rfl H0.1 H0.2.2.2.2.1.1 dX9_broughtBy_5 ?_
  obtain ⟨I2, h1, hf⟩ := ob_x hf
  refine xr_callNV C [rf g 27] lkX9_234 (kX4_become H0.2.2.2.2.2.2.2.1.2 H0.2.2.2.2.1.2 h1) Kd4 rfl H0.2.2.2.2.2.2.2.1.2.1 rfl (Nat.le_of_ble_eq_true rfl) rfl dX9_broughtBy_8 ⟨by decide, by decide, by decide⟩ rfl ?_
  refine xr_aload_n C dX9_broughtBy_11 0 rfl rfl ?_
  refine xr_getr C Kd9 (k := 6) (by decide) rfl wk_311 rfl H0.1 H0.2.2.2.2.2.2.2.1.1 dX9_broughtBy_12 ?_
  refine xr_iload_n C dX9_broughtBy_15 1 rfl rfl ?_
  refine xr_iconst (v := 4) C dX9_broughtBy_16 (by decide) ?_
  refine xr_idiv C dX9_broughtBy_17 (by decide) ?_
  refine xr_iload_n C dX9_broughtBy_18 1 rfl rfl ?_
  refine xr_iconst (v := 4) C dX9_broughtBy_19 (by decide) ?_
  refine xr_irem C dX9_broughtBy_20 (by decide) ?_
  obtain ⟨I4, h3, hf⟩ := ob_x hf
  refine xr_callNV C [.int (p1 / 4), .int (irm p1 4)] lkX9_201 (kX4_place H0.2.2.2.2.2.2.2.1.2 h3) Kd4 rfl H0.2.2.2.2.2.2.2.1.2.1 rfl (Nat.le_of_ble_eq_true rfl) rfl dX9_broughtBy_21 ⟨by decide, by decide, by decide⟩ rfl ?_
  refine xr_aload_n C dX9_broughtBy_24 0 rfl rfl ?_
  refine xr_getr C Kd9 (k := 6) (by decide) rfl wk_311 rfl H0.1 H0.2.2.2.2.2.2.2.1.1 dX9_broughtBy_25 ?_
  refine xr_aload_n C dX9_broughtBy_28 0 rfl rfl ?_
  refine xr_getr C Kd9 (k := 2) (by decide) rfl wk_307 rfl H0.1 H0.2.2.2.1.1 dX9_broughtBy_29 ?_
  refine xr_iload_n C dX9_broughtBy_32 2 rfl rfl ?_
  obtain ⟨I6, h5, hf⟩ := ob_x hf
  refine xr_callNV C [rf g 21, .int p2] lkX9_236 (kX4_run H0.2.2.2.2.2.2.2.1.2 H0.2.2.2.1.2 h5) Kd4 rfl H0.2.2.2.2.2.2.2.1.2.1 rfl (Nat.le_of_ble_eq_true rfl) rfl dX9_broughtBy_33 ⟨by decide, by decide, by decide⟩ rfl ?_
  refine xr_aload_n C dX9_broughtBy_36 0 rfl rfl ?_
  refine xr_getr C Kd9 (k := 6) (by decide) rfl wk_311 rfl H0.1 H0.2.2.2.2.2.2.2.1.1 dX9_broughtBy_37 ?_
  refine xr_getiN C Kd4 (k := 4) (by decide) rfl nk16 rfl H0.2.2.2.2.2.2.2.1.2.1 dX9_broughtBy_40 ?_
  refine xr_aload_n C dX9_broughtBy_43 0 rfl rfl ?_
  refine xr_getr C Kd9 (k := 3) (by decide) rfl wk_308 rfl H0.1 H0.2.2.2.2.1.1 dX9_broughtBy_44 ?_
  refine xr_getiN C Kd4 (k := 4) (by decide) rfl nk16 rfl H0.2.2.2.2.1.2.1 dX9_broughtBy_47 ?_
  refine xr_isub C dX9_broughtBy_50 ?_
  exact xr_ireturn C q rfl rfl dX9_broughtBy_51 (so_1 hf) (so_w hf)
theorem kX9_broughtBy {B : Bs} {h : Shp} (H0 : XAt h) {I0 : Mem} {p1 : Int32} {p2 : Int32} {r1 : Int32} {o1 : Mem} (hf : fnX9_broughtBy I0 p1 p2 = some (r1, o1)) : CtrI B yX9_broughtBy cX9_broughtBy 3 (some Jvm.ClassFile.FieldType.int) 5 109 0 0 [rfB B 0, .int p1, .int p2] (I0, h) r1 (o1, h) := by
  refine xr_enterI (lv0 := [(0, rfB B 0), (1, .int p1), (2, .int p2)]) (by decide) (Nat.le_of_ble_eq_true rfl) rfl (fun g hg C q => ?_)
  subst hg
  exact ebX9_broughtBy_0 C H0 q hf
theorem dX9_richest_0 : decode cX9_richest 0 = .ok (.aload_n 0, 1) := by decide +kernel
theorem dX9_richest_1 : decode cX9_richest 1 = .ok (.getfield 67, 3) := by decide +kernel
theorem dX9_richest_4 : decode cX9_richest 4 = .ok (.ifCond .ne 6, 3) := by decide +kernel
theorem dX9_richest_7 : decode cX9_richest 7 = .ok (.ldc 168, 2) := by decide +kernel
theorem dX9_richest_9 : decode cX9_richest 9 = .ok (.ireturn, 1) := by decide +kernel
theorem dX9_richest_10 : decode cX9_richest 10 = .ok (.iload_n 1, 1) := by decide +kernel
theorem dX9_richest_11 : decode cX9_richest 11 = .ok (.iconst 1, 1) := by decide +kernel
theorem dX9_richest_12 : decode cX9_richest 12 = .ok (.if_icmp .lt 17, 3) := by decide +kernel
theorem dX9_richest_15 : decode cX9_richest 15 = .ok (.iload_n 1, 1) := by decide +kernel
theorem dX9_richest_16 : decode cX9_richest 16 = .ok (.bipush 40, 2) := by decide +kernel
theorem dX9_richest_18 : decode cX9_richest 18 = .ok (.if_icmp .gt 11, 3) := by decide +kernel
theorem dX9_richest_21 : decode cX9_richest 21 = .ok (.iload_n 2, 1) := by decide +kernel
theorem dX9_richest_22 : decode cX9_richest 22 = .ok (.iconst 1, 1) := by decide +kernel
theorem dX9_richest_23 : decode cX9_richest 23 = .ok (.invokestatic 83, 3) := by decide +kernel
theorem dX9_richest_26 : decode cX9_richest 26 = .ok (.ifCond .ne 6, 3) := by decide +kernel
theorem dX9_richest_29 : decode cX9_richest 29 = .ok (.ldc 87, 2) := by decide +kernel
theorem dX9_richest_31 : decode cX9_richest 31 = .ok (.ireturn, 1) := by decide +kernel
theorem dX9_richest_32 : decode cX9_richest 32 = .ok (.ldc 240, 2) := by decide +kernel
theorem dX9_richest_34 : decode cX9_richest 34 = .ok (.istore_n 3, 1) := by decide +kernel
theorem dX9_richest_35 : decode cX9_richest 35 = .ok (.iconst (-1), 1) := by decide +kernel
theorem dX9_richest_36 : decode cX9_richest 36 = .ok (.istore 4, 2) := by decide +kernel
theorem dX9_richest_38 : decode cX9_richest 38 = .ok (.iconst 0, 1) := by decide +kernel
theorem dX9_richest_39 : decode cX9_richest 39 = .ok (.istore 5, 2) := by decide +kernel
theorem dX9_richest_41 : decode cX9_richest 41 = .ok (.iload 5, 2) := by decide +kernel
theorem dX9_richest_43 : decode cX9_richest 43 = .ok (.sipush 168, 3) := by decide +kernel
theorem dX9_richest_46 : decode cX9_richest 46 = .ok (.if_icmp .ge 51, 3) := by decide +kernel
theorem dX9_richest_49 : decode cX9_richest 49 = .ok (.aload_n 0, 1) := by decide +kernel
theorem dX9_richest_50 : decode cX9_richest 50 = .ok (.getfield 26, 3) := by decide +kernel
theorem dX9_richest_53 : decode cX9_richest 53 = .ok (.iload 5, 2) := by decide +kernel
theorem dX9_richest_55 : decode cX9_richest 55 = .ok (.iconst 4, 1) := by decide +kernel
theorem dX9_richest_56 : decode cX9_richest 56 = .ok (.idiv, 1) := by decide +kernel
theorem dX9_richest_57 : decode cX9_richest 57 = .ok (.invokevirtual 198, 3) := by decide +kernel
theorem dX9_richest_60 : decode cX9_richest 60 = .ok (.iconst (-1), 1) := by decide +kernel
theorem dX9_richest_61 : decode cX9_richest 61 = .ok (.if_icmp .ne 13, 3) := by decide +kernel
theorem dX9_richest_64 : decode cX9_richest 64 = .ok (.aload_n 0, 1) := by decide +kernel
theorem dX9_richest_65 : decode cX9_richest 65 = .ok (.iload 5, 2) := by decide +kernel
theorem dX9_richest_67 : decode cX9_richest 67 = .ok (.iload_n 1, 1) := by decide +kernel
theorem dX9_richest_68 : decode cX9_richest 68 = .ok (.invokevirtual 248, 3) := by decide +kernel
theorem dX9_richest_71 : decode cX9_richest 71 = .ok (.goto 4, 3) := by decide +kernel
theorem dX9_richest_74 : decode cX9_richest 74 = .ok (.iconst (-1), 1) := by decide +kernel
theorem dX9_richest_75 : decode cX9_richest 75 = .ok (.istore 6, 2) := by decide +kernel
theorem dX9_richest_77 : decode cX9_richest 77 = .ok (.iload 6, 2) := by decide +kernel
theorem dX9_richest_79 : decode cX9_richest 79 = .ok (.iload 4, 2) := by decide +kernel
theorem dX9_richest_81 : decode cX9_richest 81 = .ok (.if_icmp .le 10, 3) := by decide +kernel
theorem dX9_richest_84 : decode cX9_richest 84 = .ok (.iload 6, 2) := by decide +kernel
theorem dX9_richest_86 : decode cX9_richest 86 = .ok (.istore 4, 2) := by decide +kernel
theorem dX9_richest_88 : decode cX9_richest 88 = .ok (.iload 5, 2) := by decide +kernel
theorem dX9_richest_90 : decode cX9_richest 90 = .ok (.istore_n 3, 1) := by decide +kernel
theorem dX9_richest_91 : decode cX9_richest 91 = .ok (.iinc 5 1, 3) := by decide +kernel
theorem dX9_richest_94 : decode cX9_richest 94 = .ok (.goto (-53), 3) := by decide +kernel
theorem dX9_richest_97 : decode cX9_richest 97 = .ok (.iload_n 2, 1) := by decide +kernel
theorem dX9_richest_98 : decode cX9_richest 98 = .ok (.ifCond .ne 7, 3) := by decide +kernel
theorem dX9_richest_101 : decode cX9_richest 101 = .ok (.iload_n 3, 1) := by decide +kernel
theorem dX9_richest_102 : decode cX9_richest 102 = .ok (.goto 5, 3) := by decide +kernel
theorem dX9_richest_105 : decode cX9_richest 105 = .ok (.iload 4, 2) := by decide +kernel
theorem dX9_richest_107 : decode cX9_richest 107 = .ok (.ireturn, 1) := by decide +kernel
theorem lkX9_248 : LkV "BumperBalls" 248 yX9_broughtBy cX9_broughtBy 3 (some Jvm.ClassFile.FieldType.int) 2 := ⟨wk_676, wk_1, wk_675, wk_s43, ⟨by decide +kernel, by decide +kernel, by decide +kernel⟩, wk_673⟩
/-! BumperBalls.richest(II)I -/
def fnX9_richest_107 (I0 : Mem) (t0 : Int32) : Option (Int32 × Mem) :=
  some (t0, I0)
set_option maxRecDepth 20000 in
set_option maxHeartbeats 2000000 in
theorem ebX9_richest_107 {g : Cfg} (C : Cx g RX9 cX9_richest 7 6 131 0 0) {h : Shp} (H0 : XAt h) {r1 : Int32} {o1 : Mem} (q : QI g (some Jvm.ClassFile.FieldType.int) 0 0 r1 (o1, h)) {I0 : Mem} {t0 : Int32} (hf : fnX9_richest_107 I0 t0 = some (r1, o1)) : XE g 0 0 (I0, h) 107 [] [.int t0] := by
  unfold fnX9_richest_107 at hf
  exact xr_ireturn C q rfl rfl dX9_richest_107 (so_1 hf) (so_w hf)
def fnX9_richest_91 (rec41 : Mem → Int32 → Int32 → Int32 → Int32 → Int32 → Option (Int32 × Mem)) (I0 : Mem) (l1 : Int32) (l2 : Int32) (l3 : Int32) (l4 : Int32) (l5 : Int32) : Option (Int32 × Mem) :=
  bnd (l5 + 1) fun v1 => rec41 I0 l1 l2 l3 l4 v1
set_option maxRecDepth 20000 in
set_option maxHeartbeats 2000000 in
theorem ebX9_richest_91 {g : Cfg} (C : Cx g RX9 cX9_richest 7 6 131 0 0) {h : Shp} (H0 : XAt h) {r1 : Int32} {o1 : Mem} {rec41 : Mem → Int32 → Int32 → Int32 → Int32 → Int32 → Option (Int32 × Mem)} (ih41 : ∀ (I0 : Mem) (l1 : Int32) (l2 : Int32) (l3 : Int32) (l4 : Int32) (l5 : Int32), rec41 I0 l1 l2 l3 l4 l5 = some (r1, o1) → XE g 0 0 (I0, h) 41 [(0, rf g 0), (1, .int l1), (2, .int l2), (3, .int l3), (4, .int l4), (5, .int l5)] []) (q : QI g (some Jvm.ClassFile.FieldType.int) 0 0 r1 (o1, h)) {I0 : Mem} {l1 : Int32} {l2 : Int32} {l3 : Int32} {l4 : Int32} {l5 : Int32} (hf : fnX9_richest_91 rec41 I0 l1 l2 l3 l4 l5 = some (r1, o1)) : XE g 0 0 (I0, h) 91 [(0, rf g 0), (1, .int l1), (2, .int l2), (3, .int l3), (4, .int l4), (5, .int l5)] [] := by
  unfold fnX9_richest_91 at hf
  obtain ⟨v1, ev1, hf⟩ := bnd_x hf
  refine xr_iinc (k := 5) (v := v1) C dX9_richest_91 rfl (by rw [ev1]; rfl) (by decide) rfl ?_
  refine xr_goto (tgt := 41) C dX9_richest_94 (by decide) ?_
  refine xr_lv [1, 2, 3, 4, 5, 0] rfl ?_
  exact ih41 _ _ _ _ _ _ hf
def fnX9_richest_75 (rec41 : Mem → Int32 → Int32 → Int32 → Int32 → Int32 → Option (Int32 × Mem)) (I0 : Mem) (l1 : Int32) (l2 : Int32) (l3 : Int32) (l4 : Int32) (l5 : Int32) (t0 : Int32) : Option (Int32 × Mem) :=
  if t0 ≤ l4 then (fnX9_richest_91 rec41 I0 l1 l2 l3 l4 l5) else (fnX9_richest_91 rec41 I0 l1 l2 l5 t0 l5)
set_option maxRecDepth 20000 in
set_option maxHeartbeats 2000000 in
theorem ebX9_richest_75 {g : Cfg} (C : Cx g RX9 cX9_richest 7 6 131 0 0) {h : Shp} (H0 : XAt h) {r1 : Int32} {o1 : Mem} {rec41 : Mem → Int32 → Int32 → Int32 → Int32 → Int32 → Option (Int32 × Mem)} (ih41 : ∀ (I0 : Mem) (l1 : Int32) (l2 : Int32) (l3 : Int32) (l4 : Int32) (l5 : Int32), rec41 I0 l1 l2 l3 l4 l5 = some (r1, o1) → XE g 0 0 (I0, h) 41 [(0, rf g 0), (1, .int l1), (2, .int l2), (3, .int l3), (4, .int l4), (5, .int l5)] []) (q : QI g (some Jvm.ClassFile.FieldType.int) 0 0 r1 (o1, h)) {I0 : Mem} {l1 : Int32} {l2 : Int32} {l3 : Int32} {l4 : Int32} {l5 : Int32} {t0 : Int32} (hf : fnX9_richest_75 rec41 I0 l1 l2 l3 l4 l5 t0 = some (r1, o1)) : XE g 0 0 (I0, h) 75 [(0, rf g 0), (1, .int l1), (2, .int l2), (3, .int l3), (4, .int l4), (5, .int l5)] [.int t0] := by
  unfold fnX9_richest_75 at hf
  refine xr_istore C dX9_richest_75 (by decide) rfl ?_
  refine xr_iload C dX9_richest_77 0 rfl ?_
  refine xr_iload C dX9_richest_79 5 rfl ?_
  refine xr_icmp_le (tgt := 91) C dX9_richest_81 (by decide) hf (fun c1 hf => ?_) (fun c1 hf => ?_)
  · refine xr_lv [1, 2, 3, 4, 5, 6] rfl ?_
    exact ebX9_richest_91 C H0 ih41 q hf
  · refine xr_iload C dX9_richest_84 0 rfl ?_
    refine xr_istore C dX9_richest_86 (by decide) rfl ?_
    refine xr_iload C dX9_richest_88 6 rfl ?_
    refine xr_istore_n C dX9_richest_90 rfl (by decide) rfl ?_
    refine xr_lv [3, 4, 5, 0, 1, 6] rfl ?_
    exact ebX9_richest_91 C H0 ih41 q hf
def fnX9_richest_41b (rec41 : Mem → Int32 → Int32 → Int32 → Int32 → Int32 → Option (Int32 × Mem)) (I0 : Mem) (l1 : Int32) (l2 : Int32) (l3 : Int32) (l4 : Int32) (l5 : Int32) : Option (Int32 × Mem) :=
  if 168 ≤ l5 then (if l2 = 0 then (fnX9_richest_107 I0 l3) else (fnX9_richest_107 I0 l4)) else (ob (fnX7_pinIn 21 I0 (l5 / 4)) fun ⟨r5, I4⟩ => if r5 = (-1) then (ob (fnX9_broughtBy I4 l5 l1) fun ⟨r9, I8⟩ => fnX9_richest_75 rec41 I8 l1 l2 l3 l4 l5 r9) else (fnX9_richest_75 rec41 I4 l1 l2 l3 l4 l5 (-1)))
def fnX9_richest_41 : Nat → Mem → Int32 → Int32 → Int32 → Int32 → Int32 → Option (Int32 × Mem)
  | 0 => fun _ _ _ _ _ _ => none
  | fu + 1 => fnX9_richest_41b (fnX9_richest_41 fu)
set_option maxRecDepth 20000 in
set_option maxHeartbeats 2000000 in
theorem ebX9_richest_41b {g : Cfg} (C : Cx g RX9 cX9_richest 7 6 131 0 0) {h : Shp} (H0 : XAt h) {r1 : Int32} {o1 : Mem} {rec41 : Mem → Int32 → Int32 → Int32 → Int32 → Int32 → Option (Int32 × Mem)} (q : QI g (some Jvm.ClassFile.FieldType.int) 0 0 r1 (o1, h)) (ih41 : ∀ (I0 : Mem) (l1 : Int32) (l2 : Int32) (l3 : Int32) (l4 : Int32) (l5 : Int32), rec41 I0 l1 l2 l3 l4 l5 = some (r1, o1) → XE g 0 0 (I0, h) 41 [(0, rf g 0), (1, .int l1), (2, .int l2), (3, .int l3), (4, .int l4), (5, .int l5)] []) {I0 : Mem} {l1 : Int32} {l2 : Int32} {l3 : Int32} {l4 : Int32} {l5 : Int32} (hf : fnX9_richest_41b rec41 I0 l1 l2 l3 l4 l5 = some (r1, o1)) : XE g 0 0 (I0, h) 41 [(0, rf g 0), (1, .int l1), (2, .int l2), (3, .int l3), (4, .int l4), (5, .int l5)] [] := by
  unfold fnX9_richest_41b at hf
  refine xr_iload C dX9_richest_41 5 rfl ?_
  refine xr_sipush (v := 168) C dX9_richest_43 (by decide) ?_
  refine xr_icmp_ge (tgt := 97) C dX9_richest_46 (by decide) hf (fun c1 hf => ?_) (fun c1 hf => ?_)
  · refine xr_iload_n C dX9_richest_97 2 rfl rfl ?_
    refine xr_if_ne (tgt := 105) C dX9_richest_98 (by decide) hf (fun c2 hf => ?_) (fun c2 hf => ?_)
    · refine xr_iload C dX9_richest_105 4 rfl ?_
      refine xr_lv [] rfl ?_
      exact ebX9_richest_107 C H0 q hf
    · refine xr_iload_n C dX9_richest_101 3 rfl rfl ?_
      refine xr_goto (tgt := 107) C dX9_richest_102 (by decide) ?_
      refine xr_lv [] rfl ?_
      exact ebX9_richest_107 C H0 q hf
  · refine xr_aload_n C dX9_richest_49 0 rfl rfl ?_
    refine xr_getr C Kd9 (k := 2) (by decide) rfl wk_307 rfl H0.1 H0.2.2.2.1.1 dX9_richest_50 ?_
    refine xr_iload C dX9_richest_53 5 rfl ?_
    refine xr_iconst (v := 4) C dX9_richest_55 (by decide) ?_
    refine xr_idiv C dX9_richest_56 (by decide) ?_
    obtain ⟨⟨r5, I4⟩, h3, hf⟩ := ob_x hf
    refine xr_callNI C [.int (l5 / 4)] lkX9_198 (kX7_pinIn H0.2.2.2.1.2 h3) Kd7 rfl H0.2.2.2.1.2.1 rfl (Nat.le_of_ble_eq_true rfl) rfl dX9_richest_57 ⟨by decide, by decide, by decide⟩ rfl ?_
    refine xr_iconst (v := (-1)) C dX9_richest_60 (by decide) ?_
    refine xr_icmp_ne (tgt := 74) C dX9_richest_61 (by decide) hf (fun c6 hf => ?_) (fun c6 hf => ?_)
    · refine xr_iconst (v := (-1)) C dX9_richest_74 (by decide) ?_
      exact ebX9_richest_75 C H0 ih41 q hf
    · refine xr_aload_n C dX9_richest_64 0 rfl rfl ?_
      refine xr_iload C dX9_richest_65 5 rfl ?_
      refine xr_iload_n C dX9_richest_67 1 rfl rfl ?_
      obtain ⟨⟨r9, I8⟩, h7, hf⟩ := ob_x hf
      refine xr_callVI C [.int l5, .int l1] lkX9_248 (kX9_broughtBy H0 h7) Kd9 rfl H0.1 rfl (Nat.le_of_ble_eq_true rfl) rfl dX9_richest_68 ⟨by decide, by decide, by decide⟩ rfl ?_
      refine xr_goto (tgt := 75) C dX9_richest_71 (by decide) ?_
      exact ebX9_richest_75 C H0 ih41 q hf
theorem ebX9_richest_41 {g : Cfg} (C : Cx g RX9 cX9_richest 7 6 131 0 0) {h : Shp} (H0 : XAt h) {r1 : Int32} {o1 : Mem} (q : QI g (some Jvm.ClassFile.FieldType.int) 0 0 r1 (o1, h)) : ∀ (fu : Nat) {I0 : Mem} {l1 : Int32} {l2 : Int32} {l3 : Int32} {l4 : Int32} {l5 : Int32} (hf : fnX9_richest_41 fu I0 l1 l2 l3 l4 l5 = some (r1, o1)), XE g 0 0 (I0, h) 41 [(0, rf g 0), (1, .int l1), (2, .int l2), (3, .int l3), (4, .int l4), (5, .int l5)] [] := by
  intro fu
  induction fu with
  | zero =>
    intro I0 l1 l2 l3 l4 l5 hf
    cases hf
  | succ fu ihn =>
    intro I0 l1 l2 l3 l4 l5 hf
    exact ebX9_richest_41b C H0 q (fun _ _ _ _ _ _ hf => ihn hf) hf
def fnX9_richest_29 (I0 : Mem) : Option (Int32 × Mem) :=
  some ((-1000001), I0)
set_option maxRecDepth 20000 in
set_option maxHeartbeats 2000000 in
theorem ebX9_richest_29 {g : Cfg} (C : Cx g RX9 cX9_richest 7 6 131 0 0) {h : Shp} (H0 : XAt h) {r1 : Int32} {o1 : Mem} (q : QI g (some Jvm.ClassFile.FieldType.int) 0 0 r1 (o1, h)) {I0 : Mem} (hf : fnX9_richest_29 I0 = some (r1, o1)) : XE g 0 0 (I0, h) 29 [] [] := by
  unfold fnX9_richest_29 at hf
  refine xr_ldc C wk_352 dX9_richest_29 ?_
  exact xr_ireturn C q rfl rfl dX9_richest_31 (so_1 hf) (so_w hf)
def fnX9_richest (I0 : Mem) (p1 : Int32) (p2 : Int32) : Option (Int32 × Mem) :=
  if (I0 0 9) = 0 then (some ((-1000002), I0)) else (if p1 < 1 then (fnX9_richest_29 I0) else (if 40 < p1 then (fnX9_richest_29 I0) else (ob (fnX9_isUpTo I0 p2 1) fun ⟨r6, I5⟩ => if r6 = 0 then (fnX9_richest_29 I5) else (fnX9_richest_41 FU I5 p1 p2 (-1000000) (-1) 0))))
set_option maxRecDepth 20000 in
set_option maxHeartbeats 2000000 in
theorem ebX9_richest_0 {g : Cfg} (C : Cx g RX9 cX9_richest 7 6 131 0 0) {h : Shp} (H0 : XAt h) {r1 : Int32} {o1 : Mem} (q : QI g (some Jvm.ClassFile.FieldType.int) 0 0 r1 (o1, h)) {I0 : Mem} {p1 : Int32} {p2 : Int32} (hf : fnX9_richest I0 p1 p2 = some (r1, o1)) : XE g 0 0 (I0, h) 0 [(0, rf g 0), (1, .int p1), (2, .int p2)] [] := by
  unfold fnX9_richest at hf
  refine xr_aload_n C dX9_richest_0 0 rfl rfl ?_
  refine xr_geti C Kd9 (k := 9) (by decide) rfl wk_314 rfl H0.1 dX9_richest_1 ?_
  refine xr_if_ne (tgt := 10) C dX9_richest_4 (by decide) hf (fun c1 hf => ?_) (fun c1 hf => ?_)
  · refine xr_iload_n C dX9_richest_10 1 rfl rfl ?_
    refine xr_iconst (v := 1) C dX9_richest_11 (by decide) ?_
    refine xr_icmp_lt (tgt := 29) C dX9_richest_12 (by decide) hf (fun c2 hf => ?_) (fun c2 hf => ?_)
    · refine xr_lv [] rfl ?_
      exact ebX9_richest_29 C H0 q hf
    · refine xr_iload_n C dX9_richest_15 1 rfl rfl ?_
      refine xr_bipush (v := 40) C dX9_richest_16 (by decide) ?_
      refine xr_icmp_gt (tgt := 29) C dX9_richest_18 (by decide) hf (fun c3 hf => ?_) (fun c3 hf => ?_)
      · refine xr_lv [] rfl ?_
        exact ebX9_richest_29 C H0 q hf
      · refine xr_iload_n C dX9_richest_21 2 rfl rfl ?_
        refine xr_iconst (v := 1) C dX9_richest_22 (by decide) ?_
        obtain ⟨⟨r6, I5⟩, h4, hf⟩ := ob_x hf
        refine xr_callSI C [.int p2, .int 1] lkX9_83 (kX9_isUpTo h4) rfl (Nat.le_of_ble_eq_true rfl) rfl dX9_richest_23 ⟨by decide, by decide, by decide⟩ rfl ?_
        refine xr_if_ne (tgt := 32) C dX9_richest_26 (by decide) hf (fun c7 hf => ?_) (fun c7 hf => ?_)
        · refine xr_ldc C wk_652 dX9_richest_32 ?_
          refine xr_istore_n C dX9_richest_34 rfl (by decide) rfl ?_
          refine xr_iconst (v := (-1)) C dX9_richest_35 (by decide) ?_
          refine xr_istore C dX9_richest_36 (by decide) rfl ?_
          refine xr_iconst (v := 0) C dX9_richest_38 (by decide) ?_
          refine xr_istore C dX9_richest_39 (by decide) rfl ?_
          refine xr_lv [3, 4, 5, 2, 1, 0] rfl ?_
          exact ebX9_richest_41 C H0 q _ hf
        · refine xr_lv [] rfl ?_
          exact ebX9_richest_29 C H0 q hf
  · refine xr_ldc C wk_564 dX9_richest_7 ?_
    exact xr_ireturn C q rfl rfl dX9_richest_9 (so_1 hf) (so_w hf)
theorem kX9_richest {B : Bs} {h : Shp} (H0 : XAt h) {I0 : Mem} {p1 : Int32} {p2 : Int32} {r1 : Int32} {o1 : Mem} (hf : fnX9_richest I0 p1 p2 = some (r1, o1)) : CtrI B yX9_richest cX9_richest 7 (some Jvm.ClassFile.FieldType.int) 6 131 0 0 [rfB B 0, .int p1, .int p2] (I0, h) r1 (o1, h) := by
  refine xr_enterI (lv0 := [(0, rfB B 0), (1, .int p1), (2, .int p2)]) (by decide) (Nat.le_of_ble_eq_true rfl) rfl (fun g hg C q => ?_)
  subst hg
  exact ebX9_richest_0 C H0 q hf
theorem dX9_isHeard_0 : decode cX9_isHeard 0 = .ok (.aload_n 0, 1) := by decide +kernel
theorem dX9_isHeard_1 : decode cX9_isHeard 1 = .ok (.getfield 50, 3) := by decide +kernel
theorem dX9_isHeard_4 : decode cX9_isHeard 4 = .ok (.aload_n 0, 1) := by decide +kernel
theorem dX9_isHeard_5 : decode cX9_isHeard 5 = .ok (.getfield 33, 3) := by decide +kernel
theorem dX9_isHeard_8 : decode cX9_isHeard 8 = .ok (.invokevirtual 234, 3) := by decide +kernel
theorem dX9_isHeard_11 : decode cX9_isHeard 11 = .ok (.aload_n 0, 1) := by decide +kernel
theorem dX9_isHeard_12 : decode cX9_isHeard 12 = .ok (.getfield 50, 3) := by decide +kernel
theorem dX9_isHeard_15 : decode cX9_isHeard 15 = .ok (.iload_n 1, 1) := by decide +kernel
theorem dX9_isHeard_16 : decode cX9_isHeard 16 = .ok (.iconst 4, 1) := by decide +kernel
theorem dX9_isHeard_17 : decode cX9_isHeard 17 = .ok (.idiv, 1) := by decide +kernel
theorem dX9_isHeard_18 : decode cX9_isHeard 18 = .ok (.iload_n 1, 1) := by decide +kernel
theorem dX9_isHeard_19 : decode cX9_isHeard 19 = .ok (.iconst 4, 1) := by decide +kernel
theorem dX9_isHeard_20 : decode cX9_isHeard 20 = .ok (.irem, 1) := by decide +kernel
theorem dX9_isHeard_21 : decode cX9_isHeard 21 = .ok (.invokevirtual 201, 3) := by decide +kernel
theorem dX9_isHeard_24 : decode cX9_isHeard 24 = .ok (.iconst 0, 1) := by decide +kernel
theorem dX9_isHeard_25 : decode cX9_isHeard 25 = .ok (.istore 5, 2) := by decide +kernel
theorem dX9_isHeard_27 : decode cX9_isHeard 27 = .ok (.iconst 0, 1) := by decide +kernel
theorem dX9_isHeard_28 : decode cX9_isHeard 28 = .ok (.istore 6, 2) := by decide +kernel
theorem dX9_isHeard_30 : decode cX9_isHeard 30 = .ok (.iload 6, 2) := by decide +kernel
theorem dX9_isHeard_32 : decode cX9_isHeard 32 = .ok (.bipush 60, 2) := by decide +kernel
theorem dX9_isHeard_34 : decode cX9_isHeard 34 = .ok (.if_icmp .ge 87, 3) := by decide +kernel
theorem dX9_isHeard_37 : decode cX9_isHeard 37 = .ok (.aload_n 0, 1) := by decide +kernel
theorem dX9_isHeard_38 : decode cX9_isHeard 38 = .ok (.getfield 50, 3) := by decide +kernel
theorem dX9_isHeard_41 : decode cX9_isHeard 41 = .ok (.getfield 169, 3) := by decide +kernel
theorem dX9_isHeard_44 : decode cX9_isHeard 44 = .ok (.ifCond .ne 77, 3) := by decide +kernel
theorem dX9_isHeard_47 : decode cX9_isHeard 47 = .ok (.aload_n 0, 1) := by decide +kernel
theorem dX9_isHeard_48 : decode cX9_isHeard 48 = .ok (.getfield 50, 3) := by decide +kernel
theorem dX9_isHeard_51 : decode cX9_isHeard 51 = .ok (.aload_n 0, 1) := by decide +kernel
theorem dX9_isHeard_52 : decode cX9_isHeard 52 = .ok (.getfield 26, 3) := by decide +kernel
theorem dX9_isHeard_55 : decode cX9_isHeard 55 = .ok (.invokevirtual 179, 3) := by decide +kernel
theorem dX9_isHeard_58 : decode cX9_isHeard 58 = .ok (.aload_n 0, 1) := by decide +kernel
theorem dX9_isHeard_59 : decode cX9_isHeard 59 = .ok (.getfield 50, 3) := by decide +kernel
theorem dX9_isHeard_62 : decode cX9_isHeard 62 = .ok (.getfield 307, 3) := by decide +kernel
theorem dX9_isHeard_65 : decode cX9_isHeard 65 = .ok (.iconst (-1), 1) := by decide +kernel
theorem dX9_isHeard_66 : decode cX9_isHeard 66 = .ok (.if_icmp .eq 49, 3) := by decide +kernel
theorem dX9_isHeard_69 : decode cX9_isHeard 69 = .ok (.aload_n 0, 1) := by decide +kernel
theorem dX9_isHeard_70 : decode cX9_isHeard 70 = .ok (.getfield 26, 3) := by decide +kernel
theorem dX9_isHeard_73 : decode cX9_isHeard 73 = .ok (.getfield 222, 3) := by decide +kernel
theorem dX9_isHeard_76 : decode cX9_isHeard 76 = .ok (.aload_n 0, 1) := by decide +kernel
theorem dX9_isHeard_77 : decode cX9_isHeard 77 = .ok (.getfield 50, 3) := by decide +kernel
theorem dX9_isHeard_80 : decode cX9_isHeard 80 = .ok (.getfield 307, 3) := by decide +kernel
theorem dX9_isHeard_83 : decode cX9_isHeard 83 = .ok (.iaload, 1) := by decide +kernel
theorem dX9_isHeard_84 : decode cX9_isHeard 84 = .ok (.aload_n 0, 1) := by decide +kernel
theorem dX9_isHeard_85 : decode cX9_isHeard 85 = .ok (.getfield 10, 3) := by decide +kernel
theorem dX9_isHeard_88 : decode cX9_isHeard 88 = .ok (.getfield 114, 3) := by decide +kernel
theorem dX9_isHeard_91 : decode cX9_isHeard 91 = .ok (.iload_n 2, 1) := by decide +kernel
theorem dX9_isHeard_92 : decode cX9_isHeard 92 = .ok (.aaload, 1) := by decide +kernel
theorem dX9_isHeard_93 : decode cX9_isHeard 93 = .ok (.iload_n 3, 1) := by decide +kernel
theorem dX9_isHeard_94 : decode cX9_isHeard 94 = .ok (.iload 5, 2) := by decide +kernel
theorem dX9_isHeard_96 : decode cX9_isHeard 96 = .ok (.iadd, 1) := by decide +kernel
theorem dX9_isHeard_97 : decode cX9_isHeard 97 = .ok (.iaload, 1) := by decide +kernel
theorem dX9_isHeard_98 : decode cX9_isHeard 98 = .ok (.if_icmp .eq 5, 3) := by decide +kernel
theorem dX9_isHeard_101 : decode cX9_isHeard 101 = .ok (.iconst 0, 1) := by decide +kernel
theorem dX9_isHeard_102 : decode cX9_isHeard 102 = .ok (.ireturn, 1) := by decide +kernel
theorem dX9_isHeard_103 : decode cX9_isHeard 103 = .ok (.iinc 5 1, 3) := by decide +kernel
theorem dX9_isHeard_106 : decode cX9_isHeard 106 = .ok (.iload 5, 2) := by decide +kernel
theorem dX9_isHeard_108 : decode cX9_isHeard 108 = .ok (.iload 4, 2) := by decide +kernel
theorem dX9_isHeard_110 : decode cX9_isHeard 110 = .ok (.if_icmp .ne 5, 3) := by decide +kernel
theorem dX9_isHeard_113 : decode cX9_isHeard 113 = .ok (.iconst 1, 1) := by decide +kernel
theorem dX9_isHeard_114 : decode cX9_isHeard 114 = .ok (.ireturn, 1) := by decide +kernel
theorem dX9_isHeard_115 : decode cX9_isHeard 115 = .ok (.iinc 6 1, 3) := by decide +kernel
theorem dX9_isHeard_118 : decode cX9_isHeard 118 = .ok (.goto (-88), 3) := by decide +kernel
theorem dX9_isHeard_121 : decode cX9_isHeard 121 = .ok (.iconst 0, 1) := by decide +kernel
theorem dX9_isHeard_122 : decode cX9_isHeard 122 = .ok (.ireturn, 1) := by decide +kernel
/-! BumperBalls.isHeard(IIII)Z -/
def fnX9_isHeard_121 (I0 : Mem) : Option (Int32 × Mem) :=
  some (0, I0)
set_option maxRecDepth 20000 in
set_option maxHeartbeats 2000000 in
theorem ebX9_isHeard_121 {g : Cfg} (C : Cx g RX9 cX9_isHeard 7 4 86 0 0) {h : Shp} (H0 : XAt h) {r1 : Int32} {o1 : Mem} (q : QI g (some Jvm.ClassFile.FieldType.boolean) 0 0 r1 (o1, h)) {I0 : Mem} (hf : fnX9_isHeard_121 I0 = some (r1, o1)) : XE g 0 0 (I0, h) 121 [] [] := by
  unfold fnX9_isHeard_121 at hf
  refine xr_iconst (v := 0) C dX9_isHeard_121 (by decide) ?_
  exact xr_ireturn C q rfl rfl dX9_isHeard_122 (so_1 hf) (so_w hf)
def fnX9_isHeard_115 (rec30 : Mem → Int32 → Int32 → Int32 → Int32 → Int32 → Option (Int32 × Mem)) (I0 : Mem) (l2 : Int32) (l3 : Int32) (l4 : Int32) (l5 : Int32) (l6 : Int32) : Option (Int32 × Mem) :=
  bnd (l6 + 1) fun v1 => rec30 I0 l2 l3 l4 l5 v1
set_option maxRecDepth 20000 in
set_option maxHeartbeats 2000000 in
theorem ebX9_isHeard_115 {g : Cfg} (C : Cx g RX9 cX9_isHeard 7 4 86 0 0) {h : Shp} (H0 : XAt h) {r1 : Int32} {o1 : Mem} {rec30 : Mem → Int32 → Int32 → Int32 → Int32 → Int32 → Option (Int32 × Mem)} (ih30 : ∀ (I0 : Mem) (l2 : Int32) (l3 : Int32) (l4 : Int32) (l5 : Int32) (l6 : Int32), rec30 I0 l2 l3 l4 l5 l6 = some (r1, o1) → XE g 0 0 (I0, h) 30 [(0, rf g 0), (2, .int l2), (3, .int l3), (4, .int l4), (5, .int l5), (6, .int l6)] []) (q : QI g (some Jvm.ClassFile.FieldType.boolean) 0 0 r1 (o1, h)) {I0 : Mem} {l2 : Int32} {l3 : Int32} {l4 : Int32} {l5 : Int32} {l6 : Int32} (hf : fnX9_isHeard_115 rec30 I0 l2 l3 l4 l5 l6 = some (r1, o1)) : XE g 0 0 (I0, h) 115 [(0, rf g 0), (2, .int l2), (3, .int l3), (4, .int l4), (5, .int l5), (6, .int l6)] [] := by
  unfold fnX9_isHeard_115 at hf
  obtain ⟨v1, ev1, hf⟩ := bnd_x hf
  refine xr_iinc (k := 5) (v := v1) C dX9_isHeard_115 rfl (by rw [ev1]; rfl) (by decide) rfl ?_
  refine xr_goto (tgt := 30) C dX9_isHeard_118 (by decide) ?_
  refine xr_lv [1, 2, 3, 4, 5, 0] rfl ?_
  exact ih30 _ _ _ _ _ _ hf
def fnX9_isHeard_30b (rec30 : Mem → Int32 → Int32 → Int32 → Int32 → Int32 → Option (Int32 × Mem)) (I0 : Mem) (l2 : Int32) (l3 : Int32) (l4 : Int32) (l5 : Int32) (l6 : Int32) : Option (Int32 × Mem) :=
  if 60 ≤ l6 then (fnX9_isHeard_121 I0) else (if (I0 80 2) = 0 then (ob (fnX4_step 80 21 I0) fun I4 => if (I4 80 9) = (-1) then (fnX9_isHeard_115 rec30 I4 l2 l3 l4 l5 l6) else (ck (inb (I4 80 9) 6) <| ck (inb l2 8) <| ck (inb (l3 + l5) 40) <| if (I4 (21 + 3) (ix (I4 80 9))) = (I4 (5 + 1 * ix l2) (ix (l3 + l5))) then (bnd (l5 + 1) fun v10 => if v10 = l4 then (some (1, I4)) else (fnX9_isHeard_115 rec30 I4 l2 l3 l4 v10 l6)) else (some (0, I4)))) else (fnX9_isHeard_121 I0))
def fnX9_isHeard_30 : Nat → Mem → Int32 → Int32 → Int32 → Int32 → Int32 → Option (Int32 × Mem)
  | 0 => fun _ _ _ _ _ _ => none
  | fu + 1 => fnX9_isHeard_30b (fnX9_isHeard_30 fu)
set_option maxRecDepth 20000 in
set_option maxHeartbeats 2000000 in
theorem ebX9_isHeard_30b {g : Cfg} (C : Cx g RX9 cX9_isHeard 7 4 86 0 0) {h : Shp} (H0 : XAt h) {r1 : Int32} {o1 : Mem} {rec30 : Mem → Int32 → Int32 → Int32 → Int32 → Int32 → Option (Int32 × Mem)} (q : QI g (some Jvm.ClassFile.FieldType.boolean) 0 0 r1 (o1, h)) (ih30 : ∀ (I0 : Mem) (l2 : Int32) (l3 : Int32) (l4 : Int32) (l5 : Int32) (l6 : Int32), rec30 I0 l2 l3 l4 l5 l6 = some (r1, o1) → XE g 0 0 (I0, h) 30 [(0, rf g 0), (2, .int l2), (3, .int l3), (4, .int l4), (5, .int l5), (6, .int l6)] []) {I0 : Mem} {l2 : Int32} {l3 : Int32} {l4 : Int32} {l5 : Int32} {l6 : Int32} (hf : fnX9_isHeard_30b rec30 I0 l2 l3 l4 l5 l6 = some (r1, o1)) : XE g 0 0 (I0, h) 30 [(0, rf g 0), (2, .int l2), (3, .int l3), (4, .int l4), (5, .int l5), (6, .int l6)] [] := by
  unfold fnX9_isHeard_30b at hf
  refine xr_iload C dX9_isHeard_30 5 rfl ?_
  refine xr_bipush (v := 60) C dX9_isHeard_32 (by decide) ?_
  refine xr_icmp_ge (tgt := 121) C dX9_isHeard_34 (by decide) hf (fun c1 hf => ?_) (fun c1 hf => ?_)
  · refine xr_lv [] rfl ?_
    exact ebX9_isHeard_121 C H0 q hf
  · refine xr_aload_n C dX9_isHeard_37 0 rfl rfl ?_
    refine xr_getr C Kd9 (k := 6) (by decide) rfl wk_311 rfl H0.1 H0.2.2.2.2.2.2.2.1.1 dX9_isHeard_38 ?_
    refine xr_getiN C Kd4 (k := 2) (by decide) rfl nk9 rfl H0.2.2.2.2.2.2.2.1.2.1 dX9_isHeard_41 ?_
    refine xr_if_ne (tgt := 121) C dX9_isHeard_44 (by decide) hf (fun c2 hf => ?_) (fun c2 hf => ?_)
    · refine xr_lv [] rfl ?_
      exact ebX9_isHeard_121 C H0 q hf
    · refine xr_aload_n C dX9_isHeard_47 0 rfl rfl ?_
      refine xr_getr C Kd9 (k := 6) (by decide) rfl wk_311 rfl H0.1 H0.2.2.2.2.2.2.2.1.1 dX9_isHeard_48 ?_
      refine xr_aload_n C dX9_isHeard_51 0 rfl rfl ?_
      refine xr_getr C Kd9 (k := 2) (by decide) rfl wk_307 rfl H0.1 H0.2.2.2.1.1 dX9_isHeard_52 ?_
      obtain ⟨I4, h3, hf⟩ := ob_x hf
      refine xr_callNV C [rf g 21] lkX9_179 (kX4_step H0.2.2.2.2.2.2.2.1.2 H0.2.2.2.1.2 h3) Kd4 rfl H0.2.2.2.2.2.2.2.1.2.1 rfl (Nat.le_of_ble_eq_true rfl) rfl dX9_isHeard_55 ⟨by decide, by decide, by decide⟩ rfl ?_
      refine xr_aload_n C dX9_isHeard_58 0 rfl rfl ?_
      refine xr_getr C Kd9 (k := 6) (by decide) rfl wk_311 rfl H0.1 H0.2.2.2.2.2.2.2.1.1 dX9_isHeard_59 ?_
      refine xr_getiN C Kd4 (k := 9) (by decide) rfl nk29 rfl H0.2.2.2.2.2.2.2.1.2.1 dX9_isHeard_62 ?_
      refine xr_iconst (v := (-1)) C dX9_isHeard_65 (by decide) ?_
      refine xr_icmp_eq (tgt := 115) C dX9_isHeard_66 (by decide) hf (fun c5 hf => ?_) (fun c5 hf => ?_)
      · exact ebX9_isHeard_115 C H0 ih30 q hf
      · refine xr_aload_n C dX9_isHeard_69 0 rfl rfl ?_
        refine xr_getr C Kd9 (k := 2) (by decide) rfl wk_307 rfl H0.1 H0.2.2.2.1.1 dX9_isHeard_70 ?_
        refine xr_getrN C Kd7 (k := 4) (by decide) rfl nk19 rfl H0.2.2.2.1.2.1 H0.2.2.2.1.2.2.2.2.1.1 dX9_isHeard_73 ?_
        refine xr_aload_n C dX9_isHeard_76 0 rfl rfl ?_
        refine xr_getr C Kd9 (k := 6) (by decide) rfl wk_311 rfl H0.1 H0.2.2.2.2.2.2.2.1.1 dX9_isHeard_77 ?_
        refine xr_getiN C Kd4 (k := 9) (by decide) rfl nk29 rfl H0.2.2.2.2.2.2.2.1.2.1 dX9_isHeard_80 ?_
        obtain ⟨i6, hf⟩ := ck_x hf
        refine xr_iald C H0.2.2.2.1.2.2.2.2.1.2 i6 dX9_isHeard_83 ?_
        refine xr_aload_n C dX9_isHeard_84 0 rfl rfl ?_
        refine xr_getr C Kd9 (k := 0) (by decide) rfl wk_305 rfl H0.1 H0.2.1.1 dX9_isHeard_85 ?_
        refine xr_getrN C Kd5 (k := 2) (by decide) rfl nk1 rfl H0.2.1.2.1 H0.2.1.2.2.2.2.1 dX9_isHeard_88 ?_
        refine xr_iload_n C dX9_isHeard_91 1 rfl rfl ?_
        obtain ⟨i7, hf⟩ := ck_x hf
        refine xr_aald C (kd := 14) (by decide) H0.2.1.2.2.2.2.2.1 i7 (H0.2.1.2.2.2.2.2.2 (ix l2) (inb_lt i7)).1 dX9_isHeard_92 ?_
        refine xr_iload_n C dX9_isHeard_93 2 rfl rfl ?_
        refine xr_iload C dX9_isHeard_94 4 rfl ?_
        refine xr_iadd C dX9_isHeard_96 ?_
        obtain ⟨i8, hf⟩ := ck_x hf
        refine xr_iald C (H0.2.1.2.2.2.2.2.2 (ix l2) (inb_lt i7)).2 i8 dX9_isHeard_97 ?_
        refine xr_icmp_eq (tgt := 103) C dX9_isHeard_98 (by decide) hf (fun c9 hf => ?_) (fun c9 hf => ?_)
        · obtain ⟨v10, ev10, hf⟩ := bnd_x hf
          refine xr_iinc (k := 4) (v := v10) C dX9_isHeard_103 rfl (by rw [ev10]; rfl) (by decide) rfl ?_
          refine xr_iload C dX9_isHeard_106 0 rfl ?_
          refine xr_iload C dX9_isHeard_108 4 rfl ?_
          refine xr_icmp_ne (tgt := 115) C dX9_isHeard_110 (by decide) hf (fun c11 hf => ?_) (fun c11 hf => ?_)
          · refine xr_lv [1, 2, 3, 4, 0, 5] rfl ?_
            exact ebX9_isHeard_115 C H0 ih30 q hf
          · refine xr_iconst (v := 1) C dX9_isHeard_113 (by decide) ?_
            exact xr_ireturn C q rfl rfl dX9_isHeard_114 (so_1 hf) (so_w hf)
        · refine xr_iconst (v := 0) C dX9_isHeard_101 (by decide) ?_
          exact xr_ireturn C q rfl rfl dX9_isHeard_102 (so_1 hf) (so_w hf)
theorem ebX9_isHeard_30 {g : Cfg} (C : Cx g RX9 cX9_isHeard 7 4 86 0 0) {h : Shp} (H0 : XAt h) {r1 : Int32} {o1 : Mem} (q : QI g (some Jvm.ClassFile.FieldType.boolean) 0 0 r1 (o1, h)) : ∀ (fu : Nat) {I0 : Mem} {l2 : Int32} {l3 : Int32} {l4 : Int32} {l5 : Int32} {l6 : Int32} (hf : fnX9_isHeard_30 fu I0 l2 l3 l4 l5 l6 = some (r1, o1)), XE g 0 0 (I0, h) 30 [(0, rf g 0), (2, .int l2), (3, .int l3), (4, .int l4), (5, .int l5), (6, .int l6)] [] := by
  intro fu
  induction fu with
  | zero =>
    intro I0 l2 l3 l4 l5 l6 hf
    cases hf
  | succ fu ihn =>
    intro I0 l2 l3 l4 l5 l6 hf
    exact ebX9_isHeard_30b C H0 q (fun _ _ _ _ _ _ hf => ihn hf) hf
def fnX9_isHeard (I0 : Mem) (p1 : Int32) (p2 : Int32) (p3 : Int32) (p4 : Int32) : Option (Int32 × Mem) :=
  ob (fnX4_become 80 27 I0) fun I2 => ob (fnX4_place 80 I2 (p1 / 4) (irm p1 4)) fun I4 => fnX9_isHeard_30 FU I4 p2 p3 p4 0 0
set_option maxRecDepth 20000 in
set_option maxHeartbeats 2000000 in
theorem ebX9_isHeard_0 {g : Cfg} (C : Cx g RX9 cX9_isHeard 7 4 86 0 0) {h : Shp} (H0 : XAt h) {r1 : Int32} {o1 : Mem} (q : QI g (some Jvm.ClassFile.FieldType.boolean) 0 0 r1 (o1, h)) {I0 : Mem} {p1 : Int32} {p2 : Int32} {p3 : Int32} {p4 : Int32} (hf : fnX9_isHeard I0 p1 p2 p3 p4 = some (r1, o1)) : XE g 0 0 (I0, h) 0 [(0, rf g 0), (1, .int p1), (2, .int p2), (3, .int p3), (4, .int p4)] [] := by
  unfold fnX9_isHeard at hf
  refine xr_aload_n C dX9_isHeard_0 0 rfl rfl ?_
  refine xr_getr C Kd9 (k := 6) (by decide) rfl wk_311 rfl H0.1 H0.2.2.2.2.2.2.2.1.1 dX9_isHeard_1 ?_
  refine xr_aload_n C dX9_isHeard_4 0 rfl rfl ?_
  refine xr_getr C Kd9 (k := 3) (by decide) rfl wk_308 rfl H0.1 H0.2.2.2.2.1.1 dX9_isHeard_5 ?_
  obtain ⟨I2, h1, hf⟩ := ob_x hf
  refine xr_callNV C [rf g 27] lkX9_234 (kX4_become H0.2.2.2.2.2.2.2.1.2 H0.2.2.2.2.1.2 h1) Kd4 rfl H0.2.2.2.2.2.2.2.1.2.1 rfl (Nat.le_of_ble_eq_true rfl) rfl dX9_isHeard_8 ⟨by decide, by decide, by decide⟩ rfl ?_
  refine xr_aload_n C dX9_isHeard_11 0 rfl rfl ?_
  refine xr_getr C Kd9 (k := 6) (by decide) rfl wk_311 rfl H0.1 H0.2.2.2.2.2.2.2.1.1 dX9_isHeard_12 ?_
  refine xr_iload_n C dX9_isHeard_15 1 rfl rfl ?_
  refine xr_iconst (v := 4) C dX9_isHeard_16 (by decide) ?_
  refine xr_idiv C dX9_isHeard_17 (by decide) ?_
  refine xr_iload_n C dX9_isHeard_18 1 rfl rfl ?_
  refine xr_iconst (v := 4) C dX9_isHeard_19 (by decide) ?_
  refine xr_irem C dX9_isHeard_20 (by decide) ?_
  obtain ⟨I4, h3, hf⟩ := ob_x hf
  refine xr_callNV C [.int (p1 / 4), .int (irm p1 4)] lkX9_201 (kX4_place H0.2.2.2.2.2.2.2.1.2 h3) Kd4 rfl H0.2.2.2.2.2.2.2.1.2.1 rfl (Nat.le_of_ble_eq_true rfl) rfl dX9_isHeard_21 ⟨by decide, by decide, by decide⟩ rfl ?_
  refine xr_iconst (v := 0) C dX9_isHeard_24 (by decide) ?_
  refine xr_istore C dX9_isHeard_25 (by decide) rfl ?_
  refine xr_iconst (v := 0) C dX9_isHeard_27 (by decide) ?_
  refine xr_istore C dX9_isHeard_28 (by decide) rfl ?_
  refine xr_lv [2, 4, 5, 6, 1, 0] rfl ?_
  exact ebX9_isHeard_30 C H0 q _ hf
theorem kX9_isHeard {B : Bs} {h : Shp} (H0 : XAt h) {I0 : Mem} {p1 : Int32} {p2 : Int32} {p3 : Int32} {p4 : Int32} {r1 : Int32} {o1 : Mem} (hf : fnX9_isHeard I0 p1 p2 p3 p4 = some (r1, o1)) : CtrI B yX9_isHeard cX9_isHeard 7 (some Jvm.ClassFile.FieldType.boolean) 4 86 0 0 [rfB B 0, .int p1, .int p2, .int p3, .int p4] (I0, h) r1 (o1, h) := by
  refine xr_enterI (lv0 := [(0, rfB B 0), (1, .int p1), (2, .int p2), (3, .int p3), (4, .int p4)]) (by decide) (Nat.le_of_ble_eq_true rfl) rfl (fun g hg C q => ?_)
  subst hg
  exact ebX9_isHeard_0 C H0 q hf
