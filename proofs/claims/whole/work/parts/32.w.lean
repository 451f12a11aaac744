theorem dX6_makeRoom_0 : decode cX6_makeRoom 0 = .ok (.sipush 168, 3) := by decide +kernel
theorem dX6_makeRoom_3 : decode cX6_makeRoom 3 = .ok (.iload_n 1, 1) := by decide +kernel
theorem dX6_makeRoom_4 : decode cX6_makeRoom 4 = .ok (.bipush 6, 2) := by decide +kernel
theorem dX6_makeRoom_6 : decode cX6_makeRoom 6 = .ok (.invokestatic 64, 3) := by decide +kernel
theorem dX6_makeRoom_9 : decode cX6_makeRoom 9 = .ok (.ishl, 1) := by decide +kernel
theorem dX6_makeRoom_10 : decode cX6_makeRoom 10 = .ok (.istore_n 2, 1) := by decide +kernel
theorem dX6_makeRoom_11 : decode cX6_makeRoom 11 = .ok (.iload_n 2, 1) := by decide +kernel
theorem dX6_makeRoom_12 : decode cX6_makeRoom 12 = .ok (.aload_n 0, 1) := by decide +kernel
theorem dX6_makeRoom_13 : decode cX6_makeRoom 13 = .ok (.getfield 14, 3) := by decide +kernel
theorem dX6_makeRoom_16 : decode cX6_makeRoom 16 = .ok (.getfield 53, 3) := by decide +kernel
theorem dX6_makeRoom_19 : decode cX6_makeRoom 19 = .ok (.arraylength, 1) := by decide +kernel
theorem dX6_makeRoom_20 : decode cX6_makeRoom 20 = .ok (.if_icmp .le 27, 3) := by decide +kernel
theorem dX6_makeRoom_23 : decode cX6_makeRoom 23 = .ok (.aload_n 0, 1) := by decide +kernel
theorem dX6_makeRoom_24 : decode cX6_makeRoom 24 = .ok (.new 9, 3) := by decide +kernel
theorem dX6_makeRoom_27 : decode cX6_makeRoom 27 = .ok (.dup, 1) := by decide +kernel
theorem dX6_makeRoom_28 : decode cX6_makeRoom 28 = .ok (.iload_n 2, 1) := by decide +kernel
theorem dX6_makeRoom_29 : decode cX6_makeRoom 29 = .ok (.invokespecial 11, 3) := by decide +kernel
theorem dX6_makeRoom_32 : decode cX6_makeRoom 32 = .ok (.putfield 14, 3) := by decide +kernel
theorem dX6_makeRoom_35 : decode cX6_makeRoom 35 = .ok (.aload_n 0, 1) := by decide +kernel
theorem dX6_makeRoom_36 : decode cX6_makeRoom 36 = .ok (.new 9, 3) := by decide +kernel
theorem dX6_makeRoom_39 : decode cX6_makeRoom 39 = .ok (.dup, 1) := by decide +kernel
theorem dX6_makeRoom_40 : decode cX6_makeRoom 40 = .ok (.iload_n 2, 1) := by decide +kernel
theorem dX6_makeRoom_41 : decode cX6_makeRoom 41 = .ok (.invokespecial 11, 3) := by decide +kernel
theorem dX6_makeRoom_44 : decode cX6_makeRoom 44 = .ok (.putfield 20, 3) := by decide +kernel
theorem dX6_makeRoom_47 : decode cX6_makeRoom 47 = .ok (.return_, 1) := by decide +kernel
/-! BumperBalls$Search.makeRoom(I)V -/
def fwX6_makeRoom_47 (mB sB : Nat) (w0 : Wt) (ce sl : Nat) : Option Wt :=
  ck (cnB ce sl mB sB) <| some w0
set_option maxRecDepth 20000 in
set_option maxHeartbeats 2000000 in
theorem ewX6_makeRoom_47 {g : Cfg} {mB sB : Nat} (C : Cx g RX6 cX6_makeRoom 3 2 41 mB sB) {o1 : Wt} (q : QV g mB sB o1) {w0 : Wt} {ce sl : Nat} (hf : fwX6_makeRoom_47 mB sB w0 ce sl = some o1) : XE g ce sl w0 47 [] [] := by
  unfold fwX6_makeRoom_47 at hf
  obtain ⟨z1, hf⟩ := ck_x hf
  obtain ⟨q1, q2⟩ := cnB_ok z1
  exact xr_returnW C q q1 q2 dX6_makeRoom_47 (Option.some.inj hf)
def fwX6_makeRoom (mB sB : Nat) (w0 : Wt) (ce sl : Nat) (x0 : Nat) (p1 : Int32) : Option Wt :=
  ck (rmB ce sl mB sB) <| bnd ((168 : Int32) <<< ((mnI p1 6) &&& 31)) fun v2 => ck (isK w0 x0 6) <| ob (w0.2.1 x0 0) fun x_4 => ck (isK w0 x_4 3) <| ob (w0.2.1 x_4 0) fun x_7 => ck (isK w0 x_7 11) <| if v2 ≤ (nI (w0.2.2.2.1 x_7)) then (fwX6_makeRoom_47 mB sB w0 ce sl) else (ck (rmB (ce + 1) (sl + 3) mB sB) <| bnd (al w0 3 3) fun w11 => ob (fwX3_init 2 (2 * ix v2) w11 0 0 w0.2.2.2.2 v2) fun w13 => ck (rmB ((ce + 1) + 2) ((sl + 3) + (2 * ix v2)) mB sB) <| ck (decide (w13.2.2.2.2 = w11.2.2.2.2 + 2)) <| ck (isK w13 x0 6) <| bnd ((w13.1, up2 w13.2.1 x0 0 (some w0.2.2.2.2), w13.2.2) : Wt) fun w18 => ck (rmB (((ce + 1) + 2) + 1) (((sl + 3) + (2 * ix v2)) + 3) mB sB) <| bnd (al w18 3 3) fun w19 => ob (fwX3_init 2 (2 * ix v2) w19 0 0 w18.2.2.2.2 v2) fun w21 => ck (rmB ((((ce + 1) + 2) + 1) + 2) ((((sl + 3) + (2 * ix v2)) + 3) + (2 * ix v2)) mB sB) <| ck (decide (w21.2.2.2.2 = w19.2.2.2.2 + 2)) <| ck (isK w21 x0 6) <| bnd ((w21.1, up2 w21.2.1 x0 1 (some w18.2.2.2.2), w21.2.2) : Wt) fun w26 => fwX6_makeRoom_47 mB sB w26 ((((ce + 1) + 2) + 1) + 2) ((((sl + 3) + (2 * ix v2)) + 3) + (2 * ix v2)))
set_option maxRecDepth 20000 in
set_option maxHeartbeats 2000000 in
theorem ewX6_makeRoom_0 {g : Cfg} {mB sB : Nat} (C : Cx g RX6 cX6_makeRoom 3 2 41 mB sB) {o1 : Wt} (q : QV g mB sB o1) {w0 : Wt} {ce sl : Nat} {x0 : Nat} {p1 : Int32} (hf : fwX6_makeRoom mB sB w0 ce sl x0 p1 = some o1) : XE g ce sl w0 0 [(0, rf g x0), (1, .int p1)] [] := by
  unfold fwX6_makeRoom at hf
  refine xr_sipush (v := 168) C dX6_makeRoom_0 (by decide) ?_
  refine xr_iload_n C dX6_makeRoom_3 1 rfl rfl ?_
  refine xr_bipush (v := 6) C dX6_makeRoom_4 (by decide) ?_
  obtain ⟨z1, hf⟩ := ck_x hf
  refine xr_min C wk_689 wk_690 wk_17 wk_691 (by decide) (Nat.le_of_ble_eq_true rfl) (rmB_ok z1) dX6_makeRoom_6 ?_
  refine xr_ishl C dX6_makeRoom_9 ?_
  obtain ⟨v2, ev2, hf⟩ := bnd_x hf
  refine xr_nm ev2 ?_
  refine xr_istore_n C dX6_makeRoom_10 rfl (by decide) rfl ?_
  refine xr_iload_n C dX6_makeRoom_11 0 rfl rfl ?_
  refine xr_aload_n C dX6_makeRoom_12 1 rfl rfl ?_
  obtain ⟨z3, hf⟩ := ck_x hf
  obtain ⟨x_4, r5, hf⟩ := ob_x hf
  refine xr_getr C Kd6 (k := 0) (by decide) rfl wk_242 rfl (isK_ok z3) r5 dX6_makeRoom_13 ?_
  obtain ⟨z6, hf⟩ := ck_x hf
  obtain ⟨x_7, r8, hf⟩ := ob_x hf
  refine xr_getrN C Kd3 (k := 0) (by decide) rfl nk41 rfl (isK_ok z6) r8 dX6_makeRoom_16 ?_
  obtain ⟨z9, hf⟩ := ck_x hf
  refine xr_alen C (isA_ok z9) dX6_makeRoom_19 ?_
  refine xr_icmp_le (tgt := 47) C dX6_makeRoom_20 (by decide) hf (fun c10 hf => ?_) (fun c10 hf => ?_)
  · refine xr_lv [] rfl ?_
    exact ewX6_makeRoom_47 C q hf
  · refine xr_aload_n C dX6_makeRoom_23 1 rfl rfl ?_
    obtain ⟨z12, hf⟩ := ck_x hf
    obtain ⟨w11, ew11, hf⟩ := bnd_x hf
    refine xr_new C Kd3 df3 wk_220 wk_221 wk_8 (rmB_ok z12) dX6_makeRoom_24 ew11 ?_
    refine xr_dup C dX6_makeRoom_27 rfl ?_
    refine xr_iload_n C dX6_makeRoom_28 0 rfl rfl ?_
    obtain ⟨w13, h14, hf⟩ := ob_x hf
    obtain ⟨z15, hf⟩ := ck_x hf
    obtain ⟨z16, hf⟩ := ck_x hf
    refine xr_callC (np := 1) C [.int v2] wk_224 wk_8 wk_223 rfl ⟨by decide +kernel, by decide +kernel, by decide +kernel⟩ (List.mem_of_getElem? (i := 96) (by decide +kernel)) (kwX3_init h14) rfl (Nat.le_of_ble_eq_true rfl) rfl dX6_makeRoom_29 ⟨by decide, (rmB_ok z15).1, (rmB_ok z15).2⟩ (of_decide_eq_true z16) ?_
    obtain ⟨z17, hf⟩ := ck_x hf
    obtain ⟨w18, ew18, hf⟩ := bnd_x hf
    refine xr_putRw C Kd6 (k := 0) (by decide) rfl rfl wk_242 rfl (fun _ => ⟨rfl, rfl⟩) (isK_ok z17) dX6_makeRoom_32 ew18 ?_
    refine xr_aload_n C dX6_makeRoom_35 1 rfl rfl ?_
    obtain ⟨z20, hf⟩ := ck_x hf
    obtain ⟨w19, ew19, hf⟩ := bnd_x hf
    refine xr_new C Kd3 df3 wk_220 wk_221 wk_8 (rmB_ok z20) dX6_makeRoom_36 ew19 ?_
    refine xr_dup C dX6_makeRoom_39 rfl ?_
    refine xr_iload_n C dX6_makeRoom_40 0 rfl rfl ?_
    obtain ⟨w21, h22, hf⟩ := ob_x hf
    obtain ⟨z23, hf⟩ := ck_x hf
    obtain ⟨z24, hf⟩ := ck_x hf
    refine xr_callC (np := 1) C [.int v2] wk_224 wk_8 wk_223 rfl ⟨by decide +kernel, by decide +kernel, by decide +kernel⟩ (List.mem_of_getElem? (i := 96) (by decide +kernel)) (kwX3_init h22) rfl (Nat.le_of_ble_eq_true rfl) rfl dX6_makeRoom_41 ⟨by decide, (rmB_ok z23).1, (rmB_ok z23).2⟩ (of_decide_eq_true z24) ?_
    obtain ⟨z25, hf⟩ := ck_x hf
    obtain ⟨w26, ew26, hf⟩ := bnd_x hf
    refine xr_putRw C Kd6 (k := 1) (by decide) rfl rfl wk_243 rfl (fun _ => ⟨rfl, rfl⟩) (isK_ok z25) dX6_makeRoom_44 ew26 ?_
    refine xr_lv [] rfl ?_
    exact ewX6_makeRoom_47 C q hf
theorem kwX6_makeRoom {B : Bs} {mB sB : Nat} {w0 : Wt} {x0 : Nat} {p1 : Int32} {o1 : Wt} (hf : fwX6_makeRoom mB sB w0 0 0 x0 p1 = some o1) : CtrV B yX6_makeRoom cX6_makeRoom 3 2 41 mB sB [rfB B x0, .int p1] w0 o1 := by
  refine xr_enterV (lv0 := [(0, rfB B x0), (1, .int p1)]) (by decide) (Nat.le_of_ble_eq_true rfl) rfl (fun g hg C q => ?_)
  subst hg
  exact ewX6_makeRoom_0 C q hf
theorem dX6_walk_0 : decode cX6_walk 0 = .ok (.aload_n 0, 1) := by decide +kernel
theorem dX6_walk_1 : decode cX6_walk 1 = .ok (.aload_n 1, 1) := by decide +kernel
theorem dX6_walk_2 : decode cX6_walk 2 = .ok (.getfield 35, 3) := by decide +kernel
theorem dX6_walk_5 : decode cX6_walk 5 = .ok (.invokevirtual 40, 3) := by decide +kernel
theorem dX6_walk_8 : decode cX6_walk 8 = .ok (.aload_n 0, 1) := by decide +kernel
theorem dX6_walk_9 : decode cX6_walk 9 = .ok (.ldc 30, 2) := by decide +kernel
theorem dX6_walk_11 : decode cX6_walk 11 = .ok (.putfield 31, 3) := by decide +kernel
theorem dX6_walk_14 : decode cX6_walk 14 = .ok (.aload_n 0, 1) := by decide +kernel
theorem dX6_walk_15 : decode cX6_walk 15 = .ok (.getfield 14, 3) := by decide +kernel
theorem dX6_walk_18 : decode cX6_walk 18 = .ok (.invokevirtual 43, 3) := by decide +kernel
theorem dX6_walk_21 : decode cX6_walk 21 = .ok (.aload_n 0, 1) := by decide +kernel
theorem dX6_walk_22 : decode cX6_walk 22 = .ok (.getfield 14, 3) := by decide +kernel
theorem dX6_walk_25 : decode cX6_walk 25 = .ok (.aload_n 2, 1) := by decide +kernel
theorem dX6_walk_26 : decode cX6_walk 26 = .ok (.iconst 0, 1) := by decide +kernel
theorem dX6_walk_27 : decode cX6_walk 27 = .ok (.invokevirtual 46, 3) := by decide +kernel
theorem dX6_walk_30 : decode cX6_walk 30 = .ok (.iconst 0, 1) := by decide +kernel
theorem dX6_walk_31 : decode cX6_walk 31 = .ok (.istore 5, 2) := by decide +kernel
theorem dX6_walk_33 : decode cX6_walk 33 = .ok (.iload 5, 2) := by decide +kernel
theorem dX6_walk_35 : decode cX6_walk 35 = .ok (.iload 4, 2) := by decide +kernel
theorem dX6_walk_37 : decode cX6_walk 37 = .ok (.if_icmp .ge 107, 3) := by decide +kernel
theorem dX6_walk_40 : decode cX6_walk 40 = .ok (.aload_n 0, 1) := by decide +kernel
theorem dX6_walk_41 : decode cX6_walk 41 = .ok (.getfield 20, 3) := by decide +kernel
theorem dX6_walk_44 : decode cX6_walk 44 = .ok (.invokevirtual 43, 3) := by decide +kernel
theorem dX6_walk_47 : decode cX6_walk 47 = .ok (.iconst 0, 1) := by decide +kernel
theorem dX6_walk_48 : decode cX6_walk 48 = .ok (.istore 6, 2) := by decide +kernel
theorem dX6_walk_50 : decode cX6_walk 50 = .ok (.iload 6, 2) := by decide +kernel
theorem dX6_walk_52 : decode cX6_walk 52 = .ok (.aload_n 0, 1) := by decide +kernel
theorem dX6_walk_53 : decode cX6_walk 53 = .ok (.getfield 14, 3) := by decide +kernel
theorem dX6_walk_56 : decode cX6_walk 56 = .ok (.getfield 50, 3) := by decide +kernel
theorem dX6_walk_59 : decode cX6_walk 59 = .ok (.if_icmp .ge 59, 3) := by decide +kernel
theorem dX6_walk_62 : decode cX6_walk 62 = .ok (.aload_n 0, 1) := by decide +kernel
theorem dX6_walk_63 : decode cX6_walk 63 = .ok (.getfield 14, 3) := by decide +kernel
theorem dX6_walk_66 : decode cX6_walk 66 = .ok (.getfield 53, 3) := by decide +kernel
theorem dX6_walk_69 : decode cX6_walk 69 = .ok (.iload 6, 2) := by decide +kernel
theorem dX6_walk_71 : decode cX6_walk 71 = .ok (.iaload, 1) := by decide +kernel
theorem dX6_walk_72 : decode cX6_walk 72 = .ok (.istore 7, 2) := by decide +kernel
theorem dX6_walk_74 : decode cX6_walk 74 = .ok (.aload_n 0, 1) := by decide +kernel
theorem dX6_walk_75 : decode cX6_walk 75 = .ok (.getfield 14, 3) := by decide +kernel
theorem dX6_walk_78 : decode cX6_walk 78 = .ok (.getfield 57, 3) := by decide +kernel
theorem dX6_walk_81 : decode cX6_walk 81 = .ok (.iload 7, 2) := by decide +kernel
theorem dX6_walk_83 : decode cX6_walk 83 = .ok (.iaload, 1) := by decide +kernel
theorem dX6_walk_84 : decode cX6_walk 84 = .ok (.iconst 1, 1) := by decide +kernel
theorem dX6_walk_85 : decode cX6_walk 85 = .ok (.isub, 1) := by decide +kernel
theorem dX6_walk_86 : decode cX6_walk 86 = .ok (.istore 8, 2) := by decide +kernel
theorem dX6_walk_88 : decode cX6_walk 88 = .ok (.aload_n 0, 1) := by decide +kernel
theorem dX6_walk_89 : decode cX6_walk 89 = .ok (.aload_n 1, 1) := by decide +kernel
theorem dX6_walk_90 : decode cX6_walk 90 = .ok (.iload 7, 2) := by decide +kernel
theorem dX6_walk_92 : decode cX6_walk 92 = .ok (.iconst 0, 1) := by decide +kernel
theorem dX6_walk_93 : decode cX6_walk 93 = .ok (.iload 8, 2) := by decide +kernel
theorem dX6_walk_95 : decode cX6_walk 95 = .ok (.iload_n 3, 1) := by decide +kernel
theorem dX6_walk_96 : decode cX6_walk 96 = .ok (.invokevirtual 60, 3) := by decide +kernel
theorem dX6_walk_99 : decode cX6_walk 99 = .ok (.aload_n 0, 1) := by decide +kernel
theorem dX6_walk_100 : decode cX6_walk 100 = .ok (.aload_n 1, 1) := by decide +kernel
theorem dX6_walk_101 : decode cX6_walk 101 = .ok (.iload 7, 2) := by decide +kernel
theorem dX6_walk_103 : decode cX6_walk 103 = .ok (.iconst 1, 1) := by decide +kernel
theorem dX6_walk_104 : decode cX6_walk 104 = .ok (.iload 8, 2) := by decide +kernel
theorem dX6_walk_106 : decode cX6_walk 106 = .ok (.iconst 1, 1) := by decide +kernel
theorem dX6_walk_107 : decode cX6_walk 107 = .ok (.iadd, 1) := by decide +kernel
theorem dX6_walk_108 : decode cX6_walk 108 = .ok (.iload_n 3, 1) := by decide +kernel
theorem dX6_walk_109 : decode cX6_walk 109 = .ok (.invokevirtual 60, 3) := by decide +kernel
theorem dX6_walk_112 : decode cX6_walk 112 = .ok (.iinc 6 1, 3) := by decide +kernel
theorem dX6_walk_115 : decode cX6_walk 115 = .ok (.goto (-65), 3) := by decide +kernel
theorem dX6_walk_118 : decode cX6_walk 118 = .ok (.aload_n 0, 1) := by decide +kernel
theorem dX6_walk_119 : decode cX6_walk 119 = .ok (.getfield 14, 3) := by decide +kernel
theorem dX6_walk_122 : decode cX6_walk 122 = .ok (.astore 6, 2) := by decide +kernel
theorem dX6_walk_124 : decode cX6_walk 124 = .ok (.aload_n 0, 1) := by decide +kernel
theorem dX6_walk_125 : decode cX6_walk 125 = .ok (.aload_n 0, 1) := by decide +kernel
theorem dX6_walk_126 : decode cX6_walk 126 = .ok (.getfield 20, 3) := by decide +kernel
theorem dX6_walk_129 : decode cX6_walk 129 = .ok (.putfield 14, 3) := by decide +kernel
theorem dX6_walk_132 : decode cX6_walk 132 = .ok (.aload_n 0, 1) := by decide +kernel
theorem dX6_walk_133 : decode cX6_walk 133 = .ok (.aload 6, 2) := by decide +kernel
theorem dX6_walk_135 : decode cX6_walk 135 = .ok (.putfield 20, 3) := by decide +kernel
theorem dX6_walk_138 : decode cX6_walk 138 = .ok (.iinc 5 1, 3) := by decide +kernel
theorem dX6_walk_141 : decode cX6_walk 141 = .ok (.goto (-108), 3) := by decide +kernel
theorem dX6_walk_144 : decode cX6_walk 144 = .ok (.return_, 1) := by decide +kernel
theorem lkX6_40 : LkV "BumperBalls$Search" 40 yX6_makeRoom cX6_makeRoom 3 none 1 := ⟨wk_688, wk_7, wk_687, wk_s45, ⟨by decide +kernel, by decide +kernel, by decide +kernel⟩, wk_685⟩
theorem lkX6_43 : LkN "BumperBalls$Search" 43 yX3_clear cX3_clear 2 none 0 := ⟨wk_695, wk_8, wk_694, wk_s46, ⟨by decide +kernel, by decide +kernel, by decide +kernel⟩, (List.mem_of_getElem? (i := 98) (by decide +kernel))⟩
theorem lkX6_60 : LkV "BumperBalls$Search" 60 yX6_goOn cX6_goOn 6 none 5 := ⟨wk_705, wk_7, wk_704, wk_s48, ⟨by decide +kernel, by decide +kernel, by decide +kernel⟩, wk_702⟩
/-! BumperBalls$Search.walk(LBumperBalls$Table;LBumperBalls$Play;II)V -/
def fwX6_walk_50b (mB sB : Nat) (rec33 : Wt → Nat → Nat → Nat → Nat → Int32 → Int32 → Int32 → Option Wt) (rec50 : Wt → Nat → Nat → Nat → Nat → Int32 → Int32 → Int32 → Int32 → Option Wt) (w0 : Wt) (ce sl : Nat) (x0 : Nat) (x1 : Nat) (l3 : Int32) (l4 : Int32) (l5 : Int32) (l6 : Int32) : Option Wt :=
  ck (isK w0 x0 6) <| ob (w0.2.1 x0 0) fun x_2 => ck (isK w0 x_2 3) <| if (w0.1 x_2 2) ≤ l6 then (ck (isK w0 x0 6) <| ob (w0.2.1 x0 0) fun x_7 => ck (isK w0 x0 6) <| ob (w0.2.1 x0 1) fun x_10 => ck (isK w0 x0 6) <| bnd ((w0.1, up2 w0.2.1 x0 0 (some x_10), w0.2.2) : Wt) fun w13 => ck (isK w13 x0 6) <| bnd ((w13.1, up2 w13.2.1 x0 1 (some x_7), w13.2.2) : Wt) fun w15 => bnd (l5 + 1) fun v16 => rec33 w15 ce sl x0 x1 l3 l4 v16) else (ck (isK w0 x0 6) <| ob (w0.2.1 x0 0) fun x_18 => ck (isK w0 x_18 3) <| ob (w0.2.1 x_18 0) fun x_21 => ck (isK w0 x_21 11) <| ck (inb l6 (w0.2.2.2.1 x_21)) <| bnd (w0.1 x_21 (ix l6)) fun v25 => ck (isK w0 x0 6) <| ob (w0.2.1 x0 0) fun x_27 => ck (isK w0 x_27 3) <| ob (w0.2.1 x_27 1) fun x_30 => ck (isK w0 x_30 11) <| ck (inb v25 (w0.2.2.2.1 x_30)) <| bnd ((w0.1 x_30 (ix v25)) - 1) fun v34 => ck (decide (x0 = 82)) <| ck (searchB w0.2 ((w0.2.1 82 0).getD 0) ((w0.2.1 82 1).getD 0) (w0.2.2.2.1 (((w0.2.1 82 0).getD 0) + 1))) <| ck (tableB w0.2 x1) <| ck (rmB ce sl mB sB) <| ob (fnX6_goOn ((w0.2.1 82 0).getD 0) ((w0.2.1 82 1).getD 0) (w0.2.2.2.1 (((w0.2.1 82 0).getD 0) + 1)) x1 w0.1 v25 0 v34 l3) fun I38 => bnd ((I38, w0.2) : Wt) fun w40 => ck (decide (x0 = 82)) <| ck (searchB w40.2 ((w40.2.1 82 0).getD 0) ((w40.2.1 82 1).getD 0) (w40.2.2.2.1 (((w40.2.1 82 0).getD 0) + 1))) <| ck (tableB w40.2 x1) <| ck (rmB ce sl mB sB) <| ob (fnX6_goOn ((w40.2.1 82 0).getD 0) ((w40.2.1 82 1).getD 0) (w40.2.2.2.1 (((w40.2.1 82 0).getD 0) + 1)) x1 w40.1 v25 1 (v34 + 1) l3) fun I45 => bnd ((I45, w40.2) : Wt) fun w47 => bnd (l6 + 1) fun v49 => rec50 w47 ce sl x0 x1 l3 l4 l5 v49)
def fwX6_walk_50 (mB sB : Nat) (rec33 : Wt → Nat → Nat → Nat → Nat → Int32 → Int32 → Int32 → Option Wt) : Nat → Wt → Nat → Nat → Nat → Nat → Int32 → Int32 → Int32 → Int32 → Option Wt
  | 0 => fun _ _ _ _ _ _ _ _ _ => none
  | fu + 1 => fwX6_walk_50b mB sB rec33 (fwX6_walk_50 mB sB rec33 fu)
set_option maxRecDepth 20000 in
set_option maxHeartbeats 2000000 in
theorem ewX6_walk_50b {g : Cfg} {mB sB : Nat} (C : Cx g RX6 cX6_walk 9 5 111 mB sB) {o1 : Wt} {rec33 : Wt → Nat → Nat → Nat → Nat → Int32 → Int32 → Int32 → Option Wt} (ih33 : ∀ (w0 : Wt) (ce sl : Nat) (x0 : Nat) (x1 : Nat) (l3 : Int32) (l4 : Int32) (l5 : Int32), rec33 w0 ce sl x0 x1 l3 l4 l5 = some o1 → XE g ce sl w0 33 [(0, rf g x0), (1, rf g x1), (3, .int l3), (4, .int l4), (5, .int l5)] []) {rec50 : Wt → Nat → Nat → Nat → Nat → Int32 → Int32 → Int32 → Int32 → Option Wt} (q : QV g mB sB o1) (ih50 : ∀ (w0 : Wt) (ce sl : Nat) (x0 : Nat) (x1 : Nat) (l3 : Int32) (l4 : Int32) (l5 : Int32) (l6 : Int32), rec50 w0 ce sl x0 x1 l3 l4 l5 l6 = some o1 → XE g ce sl w0 50 [(0, rf g x0), (1, rf g x1), (3, .int l3), (4, .int l4), (5, .int l5), (6, .int l6)] []) {w0 : Wt} {ce sl : Nat} {x0 : Nat} {x1 : Nat} {l3 : Int32} {l4 : Int32} {l5 : Int32} {l6 : Int32} (hf : fwX6_walk_50b mB sB rec33 rec50 w0 ce sl x0 x1 l3 l4 l5 l6 = some o1) : XE g ce sl w0 50 [(0, rf g x0), (1, rf g x1), (3, .int l3), (4, .int l4), (5, .int l5), (6, .int l6)] [] := by
  unfold fwX6_walk_50b at hf
  refine xr_iload C dX6_walk_50 5 rfl ?_
  refine xr_aload_n C dX6_walk_52 0 rfl rfl ?_
  obtain ⟨z1, hf⟩ := ck_x hf
  obtain ⟨x_2, r3, hf⟩ := ob_x hf
  refine xr_getr C Kd6 (k := 0) (by decide) rfl wk_242 rfl (isK_ok z1) r3 dX6_walk_53 ?_
  obtain ⟨z4, hf⟩ := ck_x hf
  refine xr_getiN C Kd3 (k := 2) (by decide) rfl nk40 rfl (isK_ok z4) dX6_walk_56 ?_
  refine xr_icmp_ge (tgt := 118) C dX6_walk_59 (by decide) hf (fun c5 hf => ?_) (fun c5 hf => ?_)
  · refine xr_aload_n C dX6_walk_118 0 rfl rfl ?_
    obtain ⟨z6, hf⟩ := ck_x hf
    obtain ⟨x_7, r8, hf⟩ := ob_x hf
    refine xr_getr C Kd6 (k := 0) (by decide) rfl wk_242 rfl (isK_ok z6) r8 dX6_walk_119 ?_
    refine xr_astore C dX6_walk_122 (by decide) rfl ?_
    refine xr_aload_n C dX6_walk_124 1 rfl rfl ?_
    refine xr_aload_n C dX6_walk_125 1 rfl rfl ?_
    obtain ⟨z9, hf⟩ := ck_x hf
    obtain ⟨x_10, r11, hf⟩ := ob_x hf
    refine xr_getr C Kd6 (k := 1) (by decide) rfl wk_243 rfl (isK_ok z9) r11 dX6_walk_126 ?_
    obtain ⟨z12, hf⟩ := ck_x hf
    obtain ⟨w13, ew13, hf⟩ := bnd_x hf
    refine xr_putRw C Kd6 (k := 0) (by decide) rfl rfl wk_242 rfl (fun _ => ⟨rfl, rfl⟩) (isK_ok z12) dX6_walk_129 ew13 ?_
    refine xr_aload_n C dX6_walk_132 1 rfl rfl ?_
    refine xr_aload C dX6_walk_133 0 rfl ?_
    obtain ⟨z14, hf⟩ := ck_x hf
    obtain ⟨w15, ew15, hf⟩ := bnd_x hf
    refine xr_putRw C Kd6 (k := 1) (by decide) rfl rfl wk_243 rfl (fun _ => ⟨rfl, rfl⟩) (isK_ok z14) dX6_walk_135 ew15 ?_
    obtain ⟨v16, ev16, hf⟩ := bnd_x hf
    refine xr_iinc (k := 5) (v := v16) C dX6_walk_138 rfl (by rw [ev16]; rfl) (by decide) rfl ?_
    refine xr_goto (tgt := 33) C dX6_walk_141 (by decide) ?_
    refine xr_lv [2, 3, 4, 5, 0] rfl ?_
    exact ih33 _ _ _ _ _ _ _ _ hf
  · refine xr_aload_n C dX6_walk_62 0 rfl rfl ?_
    obtain ⟨z17, hf⟩ := ck_x hf
    obtain ⟨x_18, r19, hf⟩ := ob_x hf
    refine xr_getr C Kd6 (k := 0) (by decide) rfl wk_242 rfl (isK_ok z17) r19 dX6_walk_63 ?_
    obtain ⟨z20, hf⟩ := ck_x hf
    obtain ⟨x_21, r22, hf⟩ := ob_x hf
    refine xr_getrN C Kd3 (k := 0) (by decide) rfl nk41 rfl (isK_ok z20) r22 dX6_walk_66 ?_
    refine xr_iload C dX6_walk_69 5 rfl ?_
    obtain ⟨z23, hf⟩ := ck_x hf
    obtain ⟨i24, hf⟩ := ck_x hf
    refine xr_iald C (isA_ok z23) i24 dX6_walk_71 ?_
    obtain ⟨v25, ev25, hf⟩ := bnd_x hf
    refine xr_nm ev25 ?_
    refine xr_istore C dX6_walk_72 (by decide) rfl ?_
    refine xr_aload_n C dX6_walk_74 1 rfl rfl ?_
    obtain ⟨z26, hf⟩ := ck_x hf
    obtain ⟨x_27, r28, hf⟩ := ob_x hf
    refine xr_getr C Kd6 (k := 0) (by decide) rfl wk_242 rfl (isK_ok z26) r28 dX6_walk_75 ?_
    obtain ⟨z29, hf⟩ := ck_x hf
    obtain ⟨x_30, r31, hf⟩ := ob_x hf
    refine xr_getrN C Kd3 (k := 1) (by decide) rfl nk42 rfl (isK_ok z29) r31 dX6_walk_78 ?_
    refine xr_iload C dX6_walk_81 0 rfl ?_
    obtain ⟨z32, hf⟩ := ck_x hf
    obtain ⟨i33, hf⟩ := ck_x hf
    refine xr_iald C (isA_ok z32) i33 dX6_walk_83 ?_
    refine xr_iconst (v := 1) C dX6_walk_84 (by decide) ?_
    refine xr_isub C dX6_walk_85 ?_
    obtain ⟨v34, ev34, hf⟩ := bnd_x hf
    refine xr_nm ev34 ?_
    refine xr_istore C dX6_walk_86 (by decide) rfl ?_
    refine xr_aload_n C dX6_walk_88 2 rfl rfl ?_
    refine xr_aload_n C dX6_walk_89 3 rfl rfl ?_
    refine xr_iload C dX6_walk_90 1 rfl ?_
    refine xr_iconst (v := 0) C dX6_walk_92 (by decide) ?_
    refine xr_iload C dX6_walk_93 0 rfl ?_
    refine xr_iload_n C dX6_walk_95 4 rfl rfl ?_
    obtain ⟨z35, hf⟩ := ck_x hf
    obtain ⟨z36, hf⟩ := ck_x hf
    obtain ⟨z37, hf⟩ := ck_x hf
    obtain ⟨z41, hf⟩ := ck_x hf
    obtain ⟨I38, h39, hf⟩ := ob_x hf
    refine xr_callVV (w1 := (I38, w0.2)) C [rf g x1, .int v25, .int 0, .int v34, .int l3] lkX6_60 (by rw [of_decide_eq_true z35]; exact kX6_goOn (searchB_ok z36) (tableB_ok z37) h39) Kd6 rfl (by rw [of_decide_eq_true z35]; exact (searchB_ok z36).1) rfl (Nat.le_of_ble_eq_true rfl) rfl dX6_walk_96 ⟨by decide, (rmB_ok z41).1, (rmB_ok z41).2⟩ rfl ?_
    obtain ⟨w40, ew40, hf⟩ := bnd_x hf
    refine xr_wn ew40 ?_
    refine xr_aload_n C dX6_walk_99 2 rfl rfl ?_
    refine xr_aload_n C dX6_walk_100 3 rfl rfl ?_
    refine xr_iload C dX6_walk_101 1 rfl ?_
    refine xr_iconst (v := 1) C dX6_walk_103 (by decide) ?_
    refine xr_iload C dX6_walk_104 0 rfl ?_
    refine xr_iconst (v := 1) C dX6_walk_106 (by decide) ?_
    refine xr_iadd C dX6_walk_107 ?_
    refine xr_iload_n C dX6_walk_108 4 rfl rfl ?_
    obtain ⟨z42, hf⟩ := ck_x hf
    obtain ⟨z43, hf⟩ := ck_x hf
    obtain ⟨z44, hf⟩ := ck_x hf
    obtain ⟨z48, hf⟩ := ck_x hf
    obtain ⟨I45, h46, hf⟩ := ob_x hf
    refine xr_callVV (w1 := (I45, w40.2)) C [rf g x1, .int v25, .int 1, .int (v34 + 1), .int l3] lkX6_60 (by rw [of_decide_eq_true z42]; exact kX6_goOn (searchB_ok z43) (tableB_ok z44) h46) Kd6 rfl (by rw [of_decide_eq_true z42]; exact (searchB_ok z43).1) rfl (Nat.le_of_ble_eq_true rfl) rfl dX6_walk_109 ⟨by decide, (rmB_ok z48).1, (rmB_ok z48).2⟩ rfl ?_
    obtain ⟨w47, ew47, hf⟩ := bnd_x hf
    refine xr_wn ew47 ?_
    obtain ⟨v49, ev49, hf⟩ := bnd_x hf
    refine xr_iinc (k := 7) (v := v49) C dX6_walk_112 rfl (by rw [ev49]; rfl) (by decide) rfl ?_
    refine xr_goto (tgt := 50) C dX6_walk_115 (by decide) ?_
    refine xr_lv [3, 4, 5, 6, 7, 0] rfl ?_
    exact ih50 _ _ _ _ _ _ _ _ _ hf
theorem ewX6_walk_50 {g : Cfg} {mB sB : Nat} (C : Cx g RX6 cX6_walk 9 5 111 mB sB) {o1 : Wt} {rec33 : Wt → Nat → Nat → Nat → Nat → Int32 → Int32 → Int32 → Option Wt} (ih33 : ∀ (w0 : Wt) (ce sl : Nat) (x0 : Nat) (x1 : Nat) (l3 : Int32) (l4 : Int32) (l5 : Int32), rec33 w0 ce sl x0 x1 l3 l4 l5 = some o1 → XE g ce sl w0 33 [(0, rf g x0), (1, rf g x1), (3, .int l3), (4, .int l4), (5, .int l5)] []) (q : QV g mB sB o1) : ∀ (fu : Nat) {w0 : Wt} {ce sl : Nat} {x0 : Nat} {x1 : Nat} {l3 : Int32} {l4 : Int32} {l5 : Int32} {l6 : Int32} (hf : fwX6_walk_50 mB sB rec33 fu w0 ce sl x0 x1 l3 l4 l5 l6 = some o1), XE g ce sl w0 50 [(0, rf g x0), (1, rf g x1), (3, .int l3), (4, .int l4), (5, .int l5), (6, .int l6)] [] := by
  intro fu
  induction fu with
  | zero =>
    intro w0 ce sl x0 x1 l3 l4 l5 l6 hf
    cases hf
  | succ fu ihn =>
    intro w0 ce sl x0 x1 l3 l4 l5 l6 hf
    exact ewX6_walk_50b C ih33 q (fun _ _ _ _ _ _ _ _ _ hf => ihn hf) hf
def fwX6_walk_33b (mB sB : Nat) (rec33 : Wt → Nat → Nat → Nat → Nat → Int32 → Int32 → Int32 → Option Wt) (w0 : Wt) (ce sl : Nat) (x0 : Nat) (x1 : Nat) (l3 : Int32) (l4 : Int32) (l5 : Int32) : Option Wt :=
  if l4 ≤ l5 then (ck (cnB ce sl mB sB) <| some w0) else (ck (isK w0 x0 6) <| ob (w0.2.1 x0 1) fun x_4 => ck (layerB w0.2 x_4 (w0.2.2.2.1 (x_4 + 1))) <| ck (rmB ce sl mB sB) <| ob (fnX3_clear x_4 (w0.2.2.2.1 (x_4 + 1)) w0.1) fun I7 => bnd ((I7, w0.2) : Wt) fun w9 => fwX6_walk_50 mB sB rec33 FU w9 ce sl x0 x1 l3 l4 l5 0)
def fwX6_walk_33 (mB sB : Nat) : Nat → Wt → Nat → Nat → Nat → Nat → Int32 → Int32 → Int32 → Option Wt
  | 0 => fun _ _ _ _ _ _ _ _ => none
  | fu + 1 => fwX6_walk_33b mB sB (fwX6_walk_33 mB sB fu)
set_option maxRecDepth 20000 in
set_option maxHeartbeats 2000000 in
theorem ewX6_walk_33b {g : Cfg} {mB sB : Nat} (C : Cx g RX6 cX6_walk 9 5 111 mB sB) {o1 : Wt} {rec33 : Wt → Nat → Nat → Nat → Nat → Int32 → Int32 → Int32 → Option Wt} (q : QV g mB sB o1) (ih33 : ∀ (w0 : Wt) (ce sl : Nat) (x0 : Nat) (x1 : Nat) (l3 : Int32) (l4 : Int32) (l5 : Int32), rec33 w0 ce sl x0 x1 l3 l4 l5 = some o1 → XE g ce sl w0 33 [(0, rf g x0), (1, rf g x1), (3, .int l3), (4, .int l4), (5, .int l5)] []) {w0 : Wt} {ce sl : Nat} {x0 : Nat} {x1 : Nat} {l3 : Int32} {l4 : Int32} {l5 : Int32} (hf : fwX6_walk_33b mB sB rec33 w0 ce sl x0 x1 l3 l4 l5 = some o1) : XE g ce sl w0 33 [(0, rf g x0), (1, rf g x1), (3, .int l3), (4, .int l4), (5, .int l5)] [] := by
  unfold fwX6_walk_33b at hf
  refine xr_iload C dX6_walk_33 4 rfl ?_
  refine xr_iload C dX6_walk_35 3 rfl ?_
  refine xr_icmp_ge (tgt := 144) C dX6_walk_37 (by decide) hf (fun c1 hf => ?_) (fun c1 hf => ?_)
  · obtain ⟨z2, hf⟩ := ck_x hf
    obtain ⟨q1, q2⟩ := cnB_ok z2
    exact xr_returnW C q q1 q2 dX6_walk_144 (Option.some.inj hf)
  · refine xr_aload_n C dX6_walk_40 0 rfl rfl ?_
    obtain ⟨z3, hf⟩ := ck_x hf
    obtain ⟨x_4, r5, hf⟩ := ob_x hf
    refine xr_getr C Kd6 (k := 1) (by decide) rfl wk_243 rfl (isK_ok z3) r5 dX6_walk_41 ?_
    obtain ⟨z6, hf⟩ := ck_x hf
    obtain ⟨z10, hf⟩ := ck_x hf
    obtain ⟨I7, h8, hf⟩ := ob_x hf
    refine xr_callNV (w1 := (I7, w0.2)) C [] lkX6_43 (kX3_clear (layerB_ok z6) h8) Kd3 rfl (layerB_ok z6).1 rfl (Nat.le_of_ble_eq_true rfl) rfl dX6_walk_44 ⟨by decide, (rmB_ok z10).1, (rmB_ok z10).2⟩ rfl ?_
    obtain ⟨w9, ew9, hf⟩ := bnd_x hf
    refine xr_wn ew9 ?_
    refine xr_iconst (v := 0) C dX6_walk_47 (by decide) ?_
    refine xr_istore C dX6_walk_48 (by decide) rfl ?_
    refine xr_lv [1, 2, 3, 4, 5, 0] rfl ?_
    exact ewX6_walk_50 C ih33 q _ hf
theorem ewX6_walk_33 {g : Cfg} {mB sB : Nat} (C : Cx g RX6 cX6_walk 9 5 111 mB sB) {o1 : Wt} (q : QV g mB sB o1) : ∀ (fu : Nat) {w0 : Wt} {ce sl : Nat} {x0 : Nat} {x1 : Nat} {l3 : Int32} {l4 : Int32} {l5 : Int32} (hf : fwX6_walk_33 mB sB fu w0 ce sl x0 x1 l3 l4 l5 = some o1), XE g ce sl w0 33 [(0, rf g x0), (1, rf g x1), (3, .int l3), (4, .int l4), (5, .int l5)] [] := by
  intro fu
  induction fu with
  | zero =>
    intro w0 ce sl x0 x1 l3 l4 l5 hf
    cases hf
  | succ fu ihn =>
    intro w0 ce sl x0 x1 l3 l4 l5 hf
    exact ewX6_walk_33b C q (fun _ _ _ _ _ _ _ _ hf => ihn hf) hf
def fwX6_walk (mB sB : Nat) (w0 : Wt) (ce sl : Nat) (x0 : Nat) (x1 : Nat) (x2 : Nat) (p3 : Int32) (p4 : Int32) : Option Wt :=
  ck (isK w0 x1 7) <| ob (fwX6_makeRoom mB sB w0 0 0 x0 (w0.1 x1 1)) fun w2 => ck (rmB (ce + mB) (sl + sB) mB sB) <| ck (decide (w2.2.2.2.2 = w0.2.2.2.2 + mB)) <| ck (isK w0 x0 6) <| ck (isK w2 x0 6) <| bnd ((up2 w2.1 x0 3 (-1000000), w2.2) : Wt) fun w8 => ck (isK w8 x0 6) <| ob (w8.2.1 x0 0) fun x_10 => ck (layerB w8.2 x_10 (w8.2.2.2.1 (x_10 + 1))) <| ck (rmB (ce + mB) (sl + sB) mB sB) <| ob (fnX3_clear x_10 (w8.2.2.2.1 (x_10 + 1)) w8.1) fun I13 => bnd ((I13, w8.2) : Wt) fun w15 => ck (isK w15 x0 6) <| ob (w15.2.1 x0 0) fun x_18 => ck (layerB w15.2 x_18 (w15.2.2.2.1 (x_18 + 1))) <| ck (playB w15.2 x2) <| ck (rmB (ce + mB) (sl + sB) mB sB) <| ob (fnX3_reach x_18 (w15.2.2.2.1 (x_18 + 1)) x2 w15.1 0) fun I22 => bnd ((I22, w15.2) : Wt) fun w24 => fwX6_walk_33 mB sB FU w24 (ce + mB) (sl + sB) x0 x1 p3 p4 0
set_option maxRecDepth 20000 in
set_option maxHeartbeats 2000000 in
theorem ewX6_walk_0 {g : Cfg} {mB sB : Nat} (C : Cx g RX6 cX6_walk 9 5 111 mB sB) {o1 : Wt} (q : QV g mB sB o1) {w0 : Wt} {ce sl : Nat} {x0 : Nat} {x1 : Nat} {x2 : Nat} {p3 : Int32} {p4 : Int32} (hf : fwX6_walk mB sB w0 ce sl x0 x1 x2 p3 p4 = some o1) : XE g ce sl w0 0 [(0, rf g x0), (1, rf g x1), (2, rf g x2), (3, .int p3), (4, .int p4)] [] := by
  unfold fwX6_walk at hf
  refine xr_aload_n C dX6_walk_0 0 rfl rfl ?_
  refine xr_aload_n C dX6_walk_1 1 rfl rfl ?_
  obtain ⟨z1, hf⟩ := ck_x hf
  refine xr_getiN C Kd7 (k := 1) (by decide) rfl nk39 rfl (isK_ok z1) dX6_walk_2 ?_
  obtain ⟨w2, h3, hf⟩ := ob_x hf
  obtain ⟨z4, hf⟩ := ck_x hf
  obtain ⟨z5, hf⟩ := ck_x hf
  obtain ⟨z6, hf⟩ := ck_x hf
  refine xr_callVV C [.int (w0.1 x1 1)] lkX6_40 (kwX6_makeRoom h3) Kd6 rfl (isK_ok z6) rfl (Nat.le_of_ble_eq_true rfl) rfl dX6_walk_5 ⟨by decide, (rmB_ok z4).1, (rmB_ok z4).2⟩ (of_decide_eq_true z5) ?_
  refine xr_aload_n C dX6_walk_8 0 rfl rfl ?_
  refine xr_ldc C wk_241 dX6_walk_9 ?_
  obtain ⟨z7, hf⟩ := ck_x hf
  obtain ⟨w8, ew8, hf⟩ := bnd_x hf
  refine xr_putIw C Kd6 (k := 3) (by decide) rfl rfl wk_245 rfl rfl rfl (isK_ok z7) dX6_walk_11 ew8 ?_
  refine xr_aload_n C dX6_walk_14 0 rfl rfl ?_
  obtain ⟨z9, hf⟩ := ck_x hf
  obtain ⟨x_10, r11, hf⟩ := ob_x hf
  refine xr_getr C Kd6 (k := 0) (by decide) rfl wk_242 rfl (isK_ok z9) r11 dX6_walk_15 ?_
  obtain ⟨z12, hf⟩ := ck_x hf
  obtain ⟨z16, hf⟩ := ck_x hf
  obtain ⟨I13, h14, hf⟩ := ob_x hf
  refine xr_callNV (w1 := (I13, w8.2)) C [] lkX6_43 (kX3_clear (layerB_ok z12) h14) Kd3 rfl (layerB_ok z12).1 rfl (Nat.le_of_ble_eq_true rfl) rfl dX6_walk_18 ⟨by decide, (rmB_ok z16).1, (rmB_ok z16).2⟩ rfl ?_
  obtain ⟨w15, ew15, hf⟩ := bnd_x hf
  refine xr_wn ew15 ?_
  refine xr_aload_n C dX6_walk_21 0 rfl rfl ?_
  obtain ⟨z17, hf⟩ := ck_x hf
  obtain ⟨x_18, r19, hf⟩ := ob_x hf
  refine xr_getr C Kd6 (k := 0) (by decide) rfl wk_242 rfl (isK_ok z17) r19 dX6_walk_22 ?_
  refine xr_aload_n C dX6_walk_25 2 rfl rfl ?_
  refine xr_iconst (v := 0) C dX6_walk_26 (by decide) ?_
  obtain ⟨z20, hf⟩ := ck_x hf
  obtain ⟨z21, hf⟩ := ck_x hf
  obtain ⟨z25, hf⟩ := ck_x hf
  obtain ⟨I22, h23, hf⟩ := ob_x hf
  refine xr_callNV (w1 := (I22, w15.2)) C [rf g x2, .int 0] lkX6_46 (kX3_reach (layerB_ok z20) (playB_ok z21) h23) Kd3 rfl (layerB_ok z20).1 rfl (Nat.le_of_ble_eq_true rfl) rfl dX6_walk_27 ⟨by decide, (rmB_ok z25).1, (rmB_ok z25).2⟩ rfl ?_
  obtain ⟨w24, ew24, hf⟩ := bnd_x hf
  refine xr_wn ew24 ?_
  refine xr_iconst (v := 0) C dX6_walk_30 (by decide) ?_
  refine xr_istore C dX6_walk_31 (by decide) rfl ?_
  refine xr_lv [1, 2, 4, 5, 0] rfl ?_
  exact ewX6_walk_33 C q _ hf
theorem kwX6_walk {B : Bs} {mB sB : Nat} {w0 : Wt} {x0 : Nat} {x1 : Nat} {x2 : Nat} {p3 : Int32} {p4 : Int32} {o1 : Wt} (hf : fwX6_walk mB sB w0 0 0 x0 x1 x2 p3 p4 = some o1) : CtrV B yX6_walk cX6_walk 9 5 111 mB sB [rfB B x0, rfB B x1, rfB B x2, .int p3, .int p4] w0 o1 := by
  refine xr_enterV (lv0 := [(0, rfB B x0), (1, rfB B x1), (2, rfB B x2), (3, .int p3), (4, .int p4)]) (by decide) (Nat.le_of_ble_eq_true rfl) rfl (fun g hg C q => ?_)
  subst hg
  exact ewX6_walk_0 C q hf
theorem dX9_nudged_0 : decode cX9_nudged 0 = .ok (.aload_n 0, 1) := by decide +kernel
theorem dX9_nudged_1 : decode cX9_nudged 1 = .ok (.getfield 67, 3) := by decide +kernel
theorem dX9_nudged_4 : decode cX9_nudged 4 = .ok (.ifCond .ne 6, 3) := by decide +kernel
theorem dX9_nudged_7 : decode cX9_nudged 7 = .ok (.ldc 168, 2) := by decide +kernel
theorem dX9_nudged_9 : decode cX9_nudged 9 = .ok (.ireturn, 1) := by decide +kernel
theorem dX9_nudged_10 : decode cX9_nudged 10 = .ok (.iload_n 1, 1) := by decide +kernel
theorem dX9_nudged_11 : decode cX9_nudged 11 = .ok (.bipush 7, 2) := by decide +kernel
theorem dX9_nudged_13 : decode cX9_nudged 13 = .ok (.invokestatic 83, 3) := by decide +kernel
theorem dX9_nudged_16 : decode cX9_nudged 16 = .ok (.ifCond .eq 14, 3) := by decide +kernel
theorem dX9_nudged_19 : decode cX9_nudged 19 = .ok (.iload_n 2, 1) := by decide +kernel
theorem dX9_nudged_20 : decode cX9_nudged 20 = .ok (.iconst 1, 1) := by decide +kernel
theorem dX9_nudged_21 : decode cX9_nudged 21 = .ok (.if_icmp .lt 9, 3) := by decide +kernel
theorem dX9_nudged_24 : decode cX9_nudged 24 = .ok (.iload_n 2, 1) := by decide +kernel
theorem dX9_nudged_25 : decode cX9_nudged 25 = .ok (.bipush 20, 2) := by decide +kernel
theorem dX9_nudged_27 : decode cX9_nudged 27 = .ok (.if_icmp .le 6, 3) := by decide +kernel
theorem dX9_nudged_30 : decode cX9_nudged 30 = .ok (.ldc 87, 2) := by decide +kernel
theorem dX9_nudged_32 : decode cX9_nudged 32 = .ok (.ireturn, 1) := by decide +kernel
theorem dX9_nudged_33 : decode cX9_nudged 33 = .ok (.aload_n 0, 1) := by decide +kernel
theorem dX9_nudged_34 : decode cX9_nudged 34 = .ok (.getfield 33, 3) := by decide +kernel
theorem dX9_nudged_37 : decode cX9_nudged 37 = .ok (.getfield 169, 3) := by decide +kernel
theorem dX9_nudged_40 : decode cX9_nudged 40 = .ok (.ifCond .eq 6, 3) := by decide +kernel
theorem dX9_nudged_43 : decode cX9_nudged 43 = .ok (.ldc 168, 2) := by decide +kernel
theorem dX9_nudged_45 : decode cX9_nudged 45 = .ok (.ireturn, 1) := by decide +kernel
theorem dX9_nudged_46 : decode cX9_nudged 46 = .ok (.aload_n 0, 1) := by decide +kernel
theorem dX9_nudged_47 : decode cX9_nudged 47 = .ok (.getfield 56, 3) := by decide +kernel
theorem dX9_nudged_50 : decode cX9_nudged 50 = .ok (.aload_n 0, 1) := by decide +kernel
theorem dX9_nudged_51 : decode cX9_nudged 51 = .ok (.getfield 26, 3) := by decide +kernel
theorem dX9_nudged_54 : decode cX9_nudged 54 = .ok (.aload_n 0, 1) := by decide +kernel
theorem dX9_nudged_55 : decode cX9_nudged 55 = .ok (.getfield 33, 3) := by decide +kernel
theorem dX9_nudged_58 : decode cX9_nudged 58 = .ok (.iload_n 1, 1) := by decide +kernel
theorem dX9_nudged_59 : decode cX9_nudged 59 = .ok (.iload_n 2, 1) := by decide +kernel
theorem dX9_nudged_60 : decode cX9_nudged 60 = .ok (.invokevirtual 252, 3) := by decide +kernel
theorem dX9_nudged_63 : decode cX9_nudged 63 = .ok (.aload_n 0, 1) := by decide +kernel
theorem dX9_nudged_64 : decode cX9_nudged 64 = .ok (.getfield 56, 3) := by decide +kernel
theorem dX9_nudged_67 : decode cX9_nudged 67 = .ok (.getfield 256, 3) := by decide +kernel
theorem dX9_nudged_70 : decode cX9_nudged 70 = .ok (.ireturn, 1) := by decide +kernel
theorem lkX9_252 : LkN "BumperBalls" 252 yX6_walk cX6_walk 9 none 4 := ⟨wk_684, wk_7, wk_683, wk_s44, ⟨by decide +kernel, by decide +kernel, by decide +kernel⟩, (List.mem_of_getElem? (i := 68) (by decide +kernel))⟩
/-! BumperBalls.nudged(II)I -/
def fwX9_nudged_30 (mB sB : Nat) (w0 : Wt) (ce sl : Nat) : Option (Int32 × Wt) :=
  ck (cnB ce sl mB sB) <| some ((-1000001), w0)
set_option maxRecDepth 20000 in
set_option maxHeartbeats 2000000 in
theorem ewX9_nudged_30 {g : Cfg} {mB sB : Nat} (C : Cx g RX9 cX9_nudged 3 6 139 mB sB) {r1 : Int32} {o1 : Wt} (q : QI g (some Jvm.ClassFile.FieldType.int) mB sB r1 o1) {w0 : Wt} {ce sl : Nat} (hf : fwX9_nudged_30 mB sB w0 ce sl = some (r1, o1)) : XE g ce sl w0 30 [] [] := by
  unfold fwX9_nudged_30 at hf
  refine xr_ldc C wk_352 dX9_nudged_30 ?_
  obtain ⟨z1, hf⟩ := ck_x hf
  obtain ⟨q1, q2⟩ := cnB_ok z1
  exact xr_ireturnW C q q1 q2 rfl rfl dX9_nudged_32 (congrArg Prod.fst (Option.some.inj hf)) (congrArg Prod.snd (Option.some.inj hf))
def fwX9_nudged (mB sB : Nat) (w0 : Wt) (ce sl : Nat) (x0 : Nat) (p1 : Int32) (p2 : Int32) : Option (Int32 × Wt) :=
  ck (isK w0 x0 9) <| if (w0.1 x0 9) = 0 then (ck (cnB ce sl mB sB) <| some ((-1000002), w0)) else (ck (rmB ce sl mB sB) <| ob (fnX9_isUpTo w0.1 p1 7) fun ⟨r7, I3⟩ => bnd ((I3, w0.2) : Wt) fun w5 => if r7 = 0 then (fwX9_nudged_30 mB sB w5 ce sl) else (if p2 < (1 : Int32) then (fwX9_nudged_30 mB sB w5 ce sl) else (if p2 ≤ (20 : Int32) then (ck (isK w5 x0 9) <| ob (w5.2.1 x0 3) fun x_12 => ck (isK w5 x_12 4) <| if (w5.1 x_12 2) = 0 then (ck (isK w5 x0 9) <| ob (w5.2.1 x0 7) fun x_17 => ck (isK w5 x0 9) <| ob (w5.2.1 x0 2) fun x_20 => ck (isK w5 x0 9) <| ob (w5.2.1 x0 3) fun x_23 => ob (fwX6_walk mB sB w5 0 0 x_17 x_20 x_23 p1 p2) fun w25 => ck (rmB (ce + mB) (sl + sB) mB sB) <| ck (decide (w25.2.2.2.2 = w5.2.2.2.2 + mB)) <| ck (isK w5 x_17 6) <| ck (isK w25 x0 9) <| ob (w25.2.1 x0 7) fun x_31 => ck (isK w25 x_31 6) <| ck (cnB (ce + mB) (sl + sB) mB sB) <| some ((w25.1 x_31 3), w25)) else (ck (cnB ce sl mB sB) <| some ((-1000002), w5))) else (fwX9_nudged_30 mB sB w5 ce sl))))
set_option maxRecDepth 20000 in
set_option maxHeartbeats 2000000 in
theorem ewX9_nudged_0 {g : Cfg} {mB sB : Nat} (C : Cx g RX9 cX9_nudged 3 6 139 mB sB) {r1 : Int32} {o1 : Wt} (q : QI g (some Jvm.ClassFile.FieldType.int) mB sB r1 o1) {w0 : Wt} {ce sl : Nat} {x0 : Nat} {p1 : Int32} {p2 : Int32} (hf : fwX9_nudged mB sB w0 ce sl x0 p1 p2 = some (r1, o1)) : XE g ce sl w0 0 [(0, rf g x0), (1, .int p1), (2, .int p2)] [] := by
  unfold fwX9_nudged at hf
  refine xr_aload_n C dX9_nudged_0 0 rfl rfl ?_
  obtain ⟨z1, hf⟩ := ck_x hf
  refine xr_geti C Kd9 (k := 9) (by decide) rfl wk_314 rfl (isK_ok z1) dX9_nudged_1 ?_
  refine xr_if_ne (tgt := 10) C dX9_nudged_4 (by decide) hf (fun c2 hf => ?_) (fun c2 hf => ?_)
  · refine xr_iload_n C dX9_nudged_10 1 rfl rfl ?_
    refine xr_bipush (v := 7) C dX9_nudged_11 (by decide) ?_
    obtain ⟨z6, hf⟩ := ck_x hf
    obtain ⟨⟨r7, I3⟩, h4, hf⟩ := ob_x hf
    refine xr_callSI (w1 := (I3, w0.2)) C [.int p1, .int 7] lkX9_83 (kX9_isUpTo h4) rfl (Nat.le_of_ble_eq_true rfl) rfl dX9_nudged_13 ⟨by decide, (rmB_ok z6).1, (rmB_ok z6).2⟩ rfl ?_
    obtain ⟨w5, ew5, hf⟩ := bnd_x hf
    refine xr_wn ew5 ?_
    refine xr_if_eq (tgt := 30) C dX9_nudged_16 (by decide) hf (fun c8 hf => ?_) (fun c8 hf => ?_)
    · refine xr_lv [] rfl ?_
      exact ewX9_nudged_30 C q hf
    · refine xr_iload_n C dX9_nudged_19 2 rfl rfl ?_
      refine xr_iconst (v := 1) C dX9_nudged_20 (by decide) ?_
      refine xr_icmp_lt (tgt := 30) C dX9_nudged_21 (by decide) hf (fun c9 hf => ?_) (fun c9 hf => ?_)
      · refine xr_lv [] rfl ?_
        exact ewX9_nudged_30 C q hf
      · refine xr_iload_n C dX9_nudged_24 2 rfl rfl ?_
        refine xr_bipush (v := 20) C dX9_nudged_25 (by decide) ?_
        refine xr_icmp_le (tgt := 33) C dX9_nudged_27 (by decide) hf (fun c10 hf => ?_) (fun c10 hf => ?_)
        · refine xr_aload_n C dX9_nudged_33 0 rfl rfl ?_
          obtain ⟨z11, hf⟩ := ck_x hf
          obtain ⟨x_12, r13, hf⟩ := ob_x hf
          refine xr_getr C Kd9 (k := 3) (by decide) rfl wk_308 rfl (isK_ok z11) r13 dX9_nudged_34 ?_
          obtain ⟨z14, hf⟩ := ck_x hf
          refine xr_getiN C Kd4 (k := 2) (by decide) rfl nk9 rfl (isK_ok z14) dX9_nudged_37 ?_
          refine xr_if_eq (tgt := 46) C dX9_nudged_40 (by decide) hf (fun c15 hf => ?_) (fun c15 hf => ?_)
          · refine xr_aload_n C dX9_nudged_46 0 rfl rfl ?_
            obtain ⟨z16, hf⟩ := ck_x hf
            obtain ⟨x_17, r18, hf⟩ := ob_x hf
            refine xr_getr C Kd9 (k := 7) (by decide) rfl wk_312 rfl (isK_ok z16) r18 dX9_nudged_47 ?_
            refine xr_aload_n C dX9_nudged_50 0 rfl rfl ?_
            obtain ⟨z19, hf⟩ := ck_x hf
            obtain ⟨x_20, r21, hf⟩ := ob_x hf
            refine xr_getr C Kd9 (k := 2) (by decide) rfl wk_307 rfl (isK_ok z19) r21 dX9_nudged_51 ?_
            refine xr_aload_n C dX9_nudged_54 0 rfl rfl ?_
            obtain ⟨z22, hf⟩ := ck_x hf
            obtain ⟨x_23, r24, hf⟩ := ob_x hf
            refine xr_getr C Kd9 (k := 3) (by decide) rfl wk_308 rfl (isK_ok z22) r24 dX9_nudged_55 ?_
            refine xr_iload_n C dX9_nudged_58 1 rfl rfl ?_
            refine xr_iload_n C dX9_nudged_59 2 rfl rfl ?_
            obtain ⟨w25, h26, hf⟩ := ob_x hf
            obtain ⟨z27, hf⟩ := ck_x hf
            obtain ⟨z28, hf⟩ := ck_x hf
            obtain ⟨z29, hf⟩ := ck_x hf
            refine xr_callNV C [rf g x_20, rf g x_23, .int p1, .int p2] lkX9_252 (kwX6_walk h26) Kd6 rfl (isK_ok z29) rfl (Nat.le_of_ble_eq_true rfl) rfl dX9_nudged_60 ⟨by decide, (rmB_ok z27).1, (rmB_ok z27).2⟩ (of_decide_eq_true z28) ?_
            refine xr_aload_n C dX9_nudged_63 0 rfl rfl ?_
            obtain ⟨z30, hf⟩ := ck_x hf
            obtain ⟨x_31, r32, hf⟩ := ob_x hf
            refine xr_getr C Kd9 (k := 7) (by decide) rfl wk_312 rfl (isK_ok z30) r32 dX9_nudged_64 ?_
            obtain ⟨z33, hf⟩ := ck_x hf
            refine xr_getiN C Kd6 (k := 3) (by decide) rfl nk22 rfl (isK_ok z33) dX9_nudged_67 ?_
            obtain ⟨z34, hf⟩ := ck_x hf
            obtain ⟨q1, q2⟩ := cnB_ok z34
            exact xr_ireturnW C q q1 q2 rfl rfl dX9_nudged_70 (congrArg Prod.fst (Option.some.inj hf)) (congrArg Prod.snd (Option.some.inj hf))
          · refine xr_ldc C wk_564 dX9_nudged_43 ?_
            obtain ⟨z35, hf⟩ := ck_x hf
            obtain ⟨q1, q2⟩ := cnB_ok z35
            exact xr_ireturnW C q q1 q2 rfl rfl dX9_nudged_45 (congrArg Prod.fst (Option.some.inj hf)) (congrArg Prod.snd (Option.some.inj hf))
        · refine xr_lv [] rfl ?_
          exact ewX9_nudged_30 C q hf
  · refine xr_ldc C wk_564 dX9_nudged_7 ?_
    obtain ⟨z36, hf⟩ := ck_x hf
    obtain ⟨q1, q2⟩ := cnB_ok z36
    exact xr_ireturnW C q q1 q2 rfl rfl dX9_nudged_9 (congrArg Prod.fst (Option.some.inj hf)) (congrArg Prod.snd (Option.some.inj hf))
theorem kwX9_nudged {B : Bs} {mB sB : Nat} {w0 : Wt} {x0 : Nat} {p1 : Int32} {p2 : Int32} {r1 : Int32} {o1 : Wt} (hf : fwX9_nudged mB sB w0 0 0 x0 p1 p2 = some (r1, o1)) : CtrI B yX9_nudged cX9_nudged 3 (some Jvm.ClassFile.FieldType.int) 6 139 mB sB [rfB B x0, .int p1, .int p2] w0 r1 o1 := by
  refine xr_enterI (lv0 := [(0, rfB B x0), (1, .int p1), (2, .int p2)]) (by decide) (Nat.le_of_ble_eq_true rfl) rfl (fun g hg C q => ?_)
  subst hg
  exact ewX9_nudged_0 C q hf
theorem dX9_kept_0 : decode cX9_kept 0 = .ok (.aload_n 0, 1) := by decide +kernel
theorem dX9_kept_1 : decode cX9_kept 1 = .ok (.getfield 67, 3) := by decide +kernel
theorem dX9_kept_4 : decode cX9_kept 4 = .ok (.ifCond .ne 6, 3) := by decide +kernel
theorem dX9_kept_7 : decode cX9_kept 7 = .ok (.ldc 168, 2) := by decide +kernel
theorem dX9_kept_9 : decode cX9_kept 9 = .ok (.ireturn, 1) := by decide +kernel
theorem dX9_kept_10 : decode cX9_kept 10 = .ok (.iload_n 1, 1) := by decide +kernel
theorem dX9_kept_11 : decode cX9_kept 11 = .ok (.iconst 1, 1) := by decide +kernel
theorem dX9_kept_12 : decode cX9_kept 12 = .ok (.if_icmp .lt 9, 3) := by decide +kernel
theorem dX9_kept_15 : decode cX9_kept 15 = .ok (.iload_n 1, 1) := by decide +kernel
theorem dX9_kept_16 : decode cX9_kept 16 = .ok (.bipush 20, 2) := by decide +kernel
theorem dX9_kept_18 : decode cX9_kept 18 = .ok (.if_icmp .le 6, 3) := by decide +kernel
theorem dX9_kept_21 : decode cX9_kept 21 = .ok (.ldc 87, 2) := by decide +kernel
theorem dX9_kept_23 : decode cX9_kept 23 = .ok (.ireturn, 1) := by decide +kernel
theorem dX9_kept_24 : decode cX9_kept 24 = .ok (.aload_n 0, 1) := by decide +kernel
theorem dX9_kept_25 : decode cX9_kept 25 = .ok (.getfield 33, 3) := by decide +kernel
theorem dX9_kept_28 : decode cX9_kept 28 = .ok (.getfield 169, 3) := by decide +kernel
theorem dX9_kept_31 : decode cX9_kept 31 = .ok (.ifCond .eq 6, 3) := by decide +kernel
theorem dX9_kept_34 : decode cX9_kept 34 = .ok (.ldc 168, 2) := by decide +kernel
theorem dX9_kept_36 : decode cX9_kept 36 = .ok (.ireturn, 1) := by decide +kernel
theorem dX9_kept_37 : decode cX9_kept 37 = .ok (.aload_n 0, 1) := by decide +kernel
theorem dX9_kept_38 : decode cX9_kept 38 = .ok (.getfield 56, 3) := by decide +kernel
theorem dX9_kept_41 : decode cX9_kept 41 = .ok (.aload_n 0, 1) := by decide +kernel
theorem dX9_kept_42 : decode cX9_kept 42 = .ok (.getfield 26, 3) := by decide +kernel
theorem dX9_kept_45 : decode cX9_kept 45 = .ok (.aload_n 0, 1) := by decide +kernel
theorem dX9_kept_46 : decode cX9_kept 46 = .ok (.getfield 33, 3) := by decide +kernel
theorem dX9_kept_49 : decode cX9_kept 49 = .ok (.iconst (-1), 1) := by decide +kernel
theorem dX9_kept_50 : decode cX9_kept 50 = .ok (.iload_n 1, 1) := by decide +kernel
theorem dX9_kept_51 : decode cX9_kept 51 = .ok (.invokevirtual 252, 3) := by decide +kernel
theorem dX9_kept_54 : decode cX9_kept 54 = .ok (.aload_n 0, 1) := by decide +kernel
theorem dX9_kept_55 : decode cX9_kept 55 = .ok (.getfield 56, 3) := by decide +kernel
theorem dX9_kept_58 : decode cX9_kept 58 = .ok (.invokevirtual 259, 3) := by decide +kernel
theorem dX9_kept_61 : decode cX9_kept 61 = .ok (.ireturn, 1) := by decide +kernel
theorem lkX9_259 : LkN "BumperBalls" 259 yX6_fewestStaying cX6_fewestStaying 3 (some Jvm.ClassFile.FieldType.int) 0 := ⟨wk_719, wk_7, wk_718, wk_s49, ⟨by decide +kernel, by decide +kernel, by decide +kernel⟩, (List.mem_of_getElem? (i := 69) (by decide +kernel))⟩
/-! BumperBalls.kept(I)I -/
def fwX9_kept_21 (mB sB : Nat) (w0 : Wt) (ce sl : Nat) : Option (Int32 × Wt) :=
  ck (cnB ce sl mB sB) <| some ((-1000001), w0)
set_option maxRecDepth 20000 in
set_option maxHeartbeats 2000000 in
theorem ewX9_kept_21 {g : Cfg} {mB sB : Nat} (C : Cx g RX9 cX9_kept 2 6 139 mB sB) {r1 : Int32} {o1 : Wt} (q : QI g (some Jvm.ClassFile.FieldType.int) mB sB r1 o1) {w0 : Wt} {ce sl : Nat} (hf : fwX9_kept_21 mB sB w0 ce sl = some (r1, o1)) : XE g ce sl w0 21 [] [] := by
  unfold fwX9_kept_21 at hf
  refine xr_ldc C wk_352 dX9_kept_21 ?_
  obtain ⟨z1, hf⟩ := ck_x hf
  obtain ⟨q1, q2⟩ := cnB_ok z1
  exact xr_ireturnW C q q1 q2 rfl rfl dX9_kept_23 (congrArg Prod.fst (Option.some.inj hf)) (congrArg Prod.snd (Option.some.inj hf))
def fwX9_kept (mB sB : Nat) (w0 : Wt) (ce sl : Nat) (x0 : Nat) (p1 : Int32) : Option (Int32 × Wt) :=
  ck (isK w0 x0 9) <| if (w0.1 x0 9) = 0 then (ck (cnB ce sl mB sB) <| some ((-1000002), w0)) else (if p1 < (1 : Int32) then (fwX9_kept_21 mB sB w0 ce sl) else (if p1 ≤ (20 : Int32) then (ck (isK w0 x0 9) <| ob (w0.2.1 x0 3) fun x_6 => ck (isK w0 x_6 4) <| if (w0.1 x_6 2) = 0 then (ck (isK w0 x0 9) <| ob (w0.2.1 x0 7) fun x_11 => ck (isK w0 x0 9) <| ob (w0.2.1 x0 2) fun x_14 => ck (isK w0 x0 9) <| ob (w0.2.1 x0 3) fun x_17 => ob (fwX6_walk mB sB w0 0 0 x_11 x_14 x_17 (-1) p1) fun w19 => ck (rmB (ce + mB) (sl + sB) mB sB) <| ck (decide (w19.2.2.2.2 = w0.2.2.2.2 + mB)) <| ck (isK w0 x_11 6) <| ck (isK w19 x0 9) <| ob (w19.2.1 x0 7) fun x_25 => ck (decide (x_25 = 82)) <| ck (searchB w19.2 ((w19.2.1 82 0).getD 0) ((w19.2.1 82 1).getD 0) (w19.2.2.2.1 (((w19.2.1 82 0).getD 0) + 1))) <| ck (rmB (ce + mB) (sl + sB) mB sB) <| ob (fnX6_fewestStaying ((w19.2.1 82 0).getD 0) ((w19.2.1 82 1).getD 0) (w19.2.2.2.1 (((w19.2.1 82 0).getD 0) + 1)) w19.1) fun ⟨r33, I29⟩ => bnd ((I29, w19.2) : Wt) fun w31 => ck (cnB (ce + mB) (sl + sB) mB sB) <| some (r33, w31)) else (ck (cnB ce sl mB sB) <| some ((-1000002), w0))) else (fwX9_kept_21 mB sB w0 ce sl)))
set_option maxRecDepth 20000 in
set_option maxHeartbeats 2000000 in
theorem ewX9_kept_0 {g : Cfg} {mB sB : Nat} (C : Cx g RX9 cX9_kept 2 6 139 mB sB) {r1 : Int32} {o1 : Wt} (q : QI g (some Jvm.ClassFile.FieldType.int) mB sB r1 o1) {w0 : Wt} {ce sl : Nat} {x0 : Nat} {p1 : Int32} (hf : fwX9_kept mB sB w0 ce sl x0 p1 = some (r1, o1)) : XE g ce sl w0 0 [(0, rf g x0), (1, .int p1)] [] := by
  unfold fwX9_kept at hf
  refine xr_aload_n C dX9_kept_0 0 rfl rfl ?_
  obtain ⟨z1, hf⟩ := ck_x hf
  refine xr_geti C Kd9 (k := 9) (by decide) rfl wk_314 rfl (isK_ok z1) dX9_kept_1 ?_
  refine xr_if_ne (tgt := 10) C dX9_kept_4 (by decide) hf (fun c2 hf => ?_) (fun c2 hf => ?_)
  · refine xr_iload_n C dX9_kept_10 1 rfl rfl ?_
    refine xr_iconst (v := 1) C dX9_kept_11 (by decide) ?_
    refine xr_icmp_lt (tgt := 21) C dX9_kept_12 (by decide) hf (fun c3 hf => ?_) (fun c3 hf => ?_)
    · refine xr_lv [] rfl ?_
      exact ewX9_kept_21 C q hf
    · refine xr_iload_n C dX9_kept_15 1 rfl rfl ?_
      refine xr_bipush (v := 20) C dX9_kept_16 (by decide) ?_
      refine xr_icmp_le (tgt := 24) C dX9_kept_18 (by decide) hf (fun c4 hf => ?_) (fun c4 hf => ?_)
      · refine xr_aload_n C dX9_kept_24 0 rfl rfl ?_
        obtain ⟨z5, hf⟩ := ck_x hf
        obtain ⟨x_6, r7, hf⟩ := ob_x hf
        refine xr_getr C Kd9 (k := 3) (by decide) rfl wk_308 rfl (isK_ok z5) r7 dX9_kept_25 ?_
        obtain ⟨z8, hf⟩ := ck_x hf
        refine xr_getiN C Kd4 (k := 2) (by decide) rfl nk9 rfl (isK_ok z8) dX9_kept_28 ?_
        refine xr_if_eq (tgt := 37) C dX9_kept_31 (by decide) hf (fun c9 hf => ?_) (fun c9 hf => ?_)
        · refine xr_aload_n C dX9_kept_37 0 rfl rfl ?_
          obtain ⟨z10, hf⟩ := ck_x hf
          obtain ⟨x_11, r12, hf⟩ := ob_x hf
          refine xr_getr C Kd9 (k := 7) (by decide) rfl wk_312 rfl (isK_ok z10) r12 dX9_kept_38 ?_
          refine xr_aload_n C dX9_kept_41 0 rfl rfl ?_
          obtain ⟨z13, hf⟩ := ck_x hf
          obtain ⟨x_14, r15, hf⟩ := ob_x hf
          refine xr_getr C Kd9 (k := 2) (by decide) rfl wk_307 rfl (isK_ok z13) r15 dX9_kept_42 ?_
          refine xr_aload_n C dX9_kept_45 0 rfl rfl ?_
          obtain ⟨z16, hf⟩ := ck_x hf
          obtain ⟨x_17, r18, hf⟩ := ob_x hf
          refine xr_getr C Kd9 (k := 3) (by decide) rfl wk_308 rfl (isK_ok z16) r18 dX9_kept_46 ?_
          refine xr_iconst (v := (-1)) C dX9_kept_49 (by decide) ?_
          refine xr_iload_n C dX9_kept_50 1 rfl rfl ?_
          obtain ⟨w19, h20, hf⟩ := ob_x hf
          obtain ⟨z21, hf⟩ := ck_x hf
          obtain ⟨z22, hf⟩ := ck_x hf
          obtain ⟨z23, hf⟩ := ck_x hf
          refine xr_callNV C [rf g x_14, rf g x_17, .int (-1), .int p1] lkX9_252 (kwX6_walk h20) Kd6 rfl (isK_ok z23) rfl (Nat.le_of_ble_eq_true rfl) rfl dX9_kept_51 ⟨by decide, (rmB_ok z21).1, (rmB_ok z21).2⟩ (of_decide_eq_true z22) ?_
          refine xr_aload_n C dX9_kept_54 0 rfl rfl ?_
          obtain ⟨z24, hf⟩ := ck_x hf
          obtain ⟨x_25, r26, hf⟩ := ob_x hf
          refine xr_getr C Kd9 (k := 7) (by decide) rfl wk_312 rfl (isK_ok z24) r26 dX9_kept_55 ?_
          obtain ⟨z27, hf⟩ := ck_x hf
          obtain ⟨z28, hf⟩ := ck_x hf
          obtain ⟨z32, hf⟩ := ck_x hf
          obtain ⟨⟨r33, I29⟩, h30, hf⟩ := ob_x hf
          refine xr_callNI (w1 := (I29, w19.2)) C [] lkX9_259 (by rw [of_decide_eq_true z27]; exact kX6_fewestStaying (searchB_ok z28) h30) Kd6 rfl (by rw [of_decide_eq_true z27]; exact (searchB_ok z28).1) rfl (Nat.le_of_ble_eq_true rfl) rfl dX9_kept_58 ⟨by decide, (rmB_ok z32).1, (rmB_ok z32).2⟩ rfl ?_
          obtain ⟨w31, ew31, hf⟩ := bnd_x hf
          refine xr_wn ew31 ?_
          obtain ⟨z34, hf⟩ := ck_x hf
          obtain ⟨q1, q2⟩ := cnB_ok z34
          exact xr_ireturnW C q q1 q2 rfl rfl dX9_kept_61 (congrArg Prod.fst (Option.some.inj hf)) (congrArg Prod.snd (Option.some.inj hf))
        · refine xr_ldc C wk_564 dX9_kept_34 ?_
          obtain ⟨z35, hf⟩ := ck_x hf
          obtain ⟨q1, q2⟩ := cnB_ok z35
          exact xr_ireturnW C q q1 q2 rfl rfl dX9_kept_36 (congrArg Prod.fst (Option.some.inj hf)) (congrArg Prod.snd (Option.some.inj hf))
      · refine xr_lv [] rfl ?_
        exact ewX9_kept_21 C q hf
  · refine xr_ldc C wk_564 dX9_kept_7 ?_
    obtain ⟨z36, hf⟩ := ck_x hf
    obtain ⟨q1, q2⟩ := cnB_ok z36
    exact xr_ireturnW C q q1 q2 rfl rfl dX9_kept_9 (congrArg Prod.fst (Option.some.inj hf)) (congrArg Prod.snd (Option.some.inj hf))
theorem kwX9_kept {B : Bs} {mB sB : Nat} {w0 : Wt} {x0 : Nat} {p1 : Int32} {r1 : Int32} {o1 : Wt} (hf : fwX9_kept mB sB w0 0 0 x0 p1 = some (r1, o1)) : CtrI B yX9_kept cX9_kept 2 (some Jvm.ClassFile.FieldType.int) 6 139 mB sB [rfB B x0, .int p1] w0 r1 o1 := by
  refine xr_enterI (lv0 := [(0, rfB B x0), (1, .int p1)]) (by decide) (Nat.le_of_ble_eq_true rfl) rfl (fun g hg C q => ?_)
  subst hg
  exact ewX9_kept_0 C q hf
