theorem dX10_strike_0 : decode cX10_strike 0 = .ok (.aload_n 0, 1) := by decide +kernel
theorem dX10_strike_1 : decode cX10_strike 1 = .ok (.getfield 7, 3) := by decide +kernel
theorem dX10_strike_4 : decode cX10_strike 4 = .ok (.iconst 3, 1) := by decide +kernel
theorem dX10_strike_5 : decode cX10_strike 5 = .ok (.iconst 4, 1) := by decide +kernel
theorem dX10_strike_6 : decode cX10_strike 6 = .ok (.iload_n 2, 1) := by decide +kernel
theorem dX10_strike_7 : decode cX10_strike 7 = .ok (.imul, 1) := by decide +kernel
theorem dX10_strike_8 : decode cX10_strike 8 = .ok (.iadd, 1) := by decide +kernel
theorem dX10_strike_9 : decode cX10_strike 9 = .ok (.iconst 2, 1) := by decide +kernel
theorem dX10_strike_10 : decode cX10_strike 10 = .ok (.iadd, 1) := by decide +kernel
theorem dX10_strike_11 : decode cX10_strike 11 = .ok (.iaload, 1) := by decide +kernel
theorem dX10_strike_12 : decode cX10_strike 12 = .ok (.istore_n 3, 1) := by decide +kernel
theorem dX10_strike_13 : decode cX10_strike 13 = .ok (.aload_n 0, 1) := by decide +kernel
theorem dX10_strike_14 : decode cX10_strike 14 = .ok (.getfield 7, 3) := by decide +kernel
theorem dX10_strike_17 : decode cX10_strike 17 = .ok (.iload_n 1, 1) := by decide +kernel
theorem dX10_strike_18 : decode cX10_strike 18 = .ok (.bipush 31, 2) := by decide +kernel
theorem dX10_strike_20 : decode cX10_strike 20 = .ok (.iadd, 1) := by decide +kernel
theorem dX10_strike_21 : decode cX10_strike 21 = .ok (.dup2, 1) := by decide +kernel
theorem dX10_strike_22 : decode cX10_strike 22 = .ok (.iaload, 1) := by decide +kernel
theorem dX10_strike_23 : decode cX10_strike 23 = .ok (.aload_n 0, 1) := by decide +kernel
theorem dX10_strike_24 : decode cX10_strike 24 = .ok (.getfield 7, 3) := by decide +kernel
theorem dX10_strike_27 : decode cX10_strike 27 = .ok (.iload_n 1, 1) := by decide +kernel
theorem dX10_strike_28 : decode cX10_strike 28 = .ok (.bipush 32, 2) := by decide +kernel
theorem dX10_strike_30 : decode cX10_strike 30 = .ok (.iadd, 1) := by decide +kernel
theorem dX10_strike_31 : decode cX10_strike 31 = .ok (.iaload, 1) := by decide +kernel
theorem dX10_strike_32 : decode cX10_strike 32 = .ok (.iload_n 3, 1) := by decide +kernel
theorem dX10_strike_33 : decode cX10_strike 33 = .ok (.if_icmp .ne 7, 3) := by decide +kernel
theorem dX10_strike_36 : decode cX10_strike 36 = .ok (.iconst 0, 1) := by decide +kernel
theorem dX10_strike_37 : decode cX10_strike 37 = .ok (.goto 15, 3) := by decide +kernel
theorem dX10_strike_40 : decode cX10_strike 40 = .ok (.aload_n 0, 1) := by decide +kernel
theorem dX10_strike_41 : decode cX10_strike 41 = .ok (.getfield 7, 3) := by decide +kernel
theorem dX10_strike_44 : decode cX10_strike 44 = .ok (.iconst 3, 1) := by decide +kernel
theorem dX10_strike_45 : decode cX10_strike 45 = .ok (.iconst 4, 1) := by decide +kernel
theorem dX10_strike_46 : decode cX10_strike 46 = .ok (.iload_n 2, 1) := by decide +kernel
theorem dX10_strike_47 : decode cX10_strike 47 = .ok (.imul, 1) := by decide +kernel
theorem dX10_strike_48 : decode cX10_strike 48 = .ok (.iadd, 1) := by decide +kernel
theorem dX10_strike_49 : decode cX10_strike 49 = .ok (.iconst 3, 1) := by decide +kernel
theorem dX10_strike_50 : decode cX10_strike 50 = .ok (.iadd, 1) := by decide +kernel
theorem dX10_strike_51 : decode cX10_strike 51 = .ok (.iaload, 1) := by decide +kernel
theorem dX10_strike_52 : decode cX10_strike 52 = .ok (.iadd, 1) := by decide +kernel
theorem dX10_strike_53 : decode cX10_strike 53 = .ok (.iastore, 1) := by decide +kernel
theorem dX10_strike_54 : decode cX10_strike 54 = .ok (.aload_n 0, 1) := by decide +kernel
theorem dX10_strike_55 : decode cX10_strike 55 = .ok (.getfield 7, 3) := by decide +kernel
theorem dX10_strike_58 : decode cX10_strike 58 = .ok (.iload_n 1, 1) := by decide +kernel
theorem dX10_strike_59 : decode cX10_strike 59 = .ok (.bipush 32, 2) := by decide +kernel
theorem dX10_strike_61 : decode cX10_strike 61 = .ok (.iadd, 1) := by decide +kernel
theorem dX10_strike_62 : decode cX10_strike 62 = .ok (.iload_n 3, 1) := by decide +kernel
theorem dX10_strike_63 : decode cX10_strike 63 = .ok (.iastore, 1) := by decide +kernel
theorem dX10_strike_64 : decode cX10_strike 64 = .ok (.aload_n 0, 1) := by decide +kernel
theorem dX10_strike_65 : decode cX10_strike 65 = .ok (.getfield 7, 3) := by decide +kernel
theorem dX10_strike_68 : decode cX10_strike 68 = .ok (.iload_n 1, 1) := by decide +kernel
theorem dX10_strike_69 : decode cX10_strike 69 = .ok (.bipush 35, 2) := by decide +kernel
theorem dX10_strike_71 : decode cX10_strike 71 = .ok (.iadd, 1) := by decide +kernel
theorem dX10_strike_72 : decode cX10_strike 72 = .ok (.iload_n 2, 1) := by decide +kernel
theorem dX10_strike_73 : decode cX10_strike 73 = .ok (.iadd, 1) := by decide +kernel
theorem dX10_strike_74 : decode cX10_strike 74 = .ok (.dup2, 1) := by decide +kernel
theorem dX10_strike_75 : decode cX10_strike 75 = .ok (.iaload, 1) := by decide +kernel
theorem dX10_strike_76 : decode cX10_strike 76 = .ok (.iconst 1, 1) := by decide +kernel
theorem dX10_strike_77 : decode cX10_strike 77 = .ok (.iadd, 1) := by decide +kernel
theorem dX10_strike_78 : decode cX10_strike 78 = .ok (.iastore, 1) := by decide +kernel
theorem dX10_strike_79 : decode cX10_strike 79 = .ok (.aload_n 0, 1) := by decide +kernel
theorem dX10_strike_80 : decode cX10_strike 80 = .ok (.getfield 7, 3) := by decide +kernel
theorem dX10_strike_83 : decode cX10_strike 83 = .ok (.iload_n 1, 1) := by decide +kernel
theorem dX10_strike_84 : decode cX10_strike 84 = .ok (.bipush 28, 2) := by decide +kernel
theorem dX10_strike_86 : decode cX10_strike 86 = .ok (.iadd, 1) := by decide +kernel
theorem dX10_strike_87 : decode cX10_strike 87 = .ok (.aload_n 0, 1) := by decide +kernel
theorem dX10_strike_88 : decode cX10_strike 88 = .ok (.getfield 7, 3) := by decide +kernel
theorem dX10_strike_91 : decode cX10_strike 91 = .ok (.iload_n 1, 1) := by decide +kernel
theorem dX10_strike_92 : decode cX10_strike 92 = .ok (.bipush 28, 2) := by decide +kernel
theorem dX10_strike_94 : decode cX10_strike 94 = .ok (.iadd, 1) := by decide +kernel
theorem dX10_strike_95 : decode cX10_strike 95 = .ok (.iaload, 1) := by decide +kernel
theorem dX10_strike_96 : decode cX10_strike 96 = .ok (.aload_n 0, 1) := by decide +kernel
theorem dX10_strike_97 : decode cX10_strike 97 = .ok (.iload_n 1, 1) := by decide +kernel
theorem dX10_strike_98 : decode cX10_strike 98 = .ok (.iload_n 2, 1) := by decide +kernel
theorem dX10_strike_99 : decode cX10_strike 99 = .ok (.invokevirtual 164, 3) := by decide +kernel
theorem dX10_strike_102 : decode cX10_strike 102 = .ok (.iadd, 1) := by decide +kernel
theorem dX10_strike_103 : decode cX10_strike 103 = .ok (.iconst 4, 1) := by decide +kernel
theorem dX10_strike_104 : decode cX10_strike 104 = .ok (.irem, 1) := by decide +kernel
theorem dX10_strike_105 : decode cX10_strike 105 = .ok (.iastore, 1) := by decide +kernel
theorem dX10_strike_106 : decode cX10_strike 106 = .ok (.aload_n 0, 1) := by decide +kernel
theorem dX10_strike_107 : decode cX10_strike 107 = .ok (.getfield 7, 3) := by decide +kernel
theorem dX10_strike_110 : decode cX10_strike 110 = .ok (.iload_n 1, 1) := by decide +kernel
theorem dX10_strike_111 : decode cX10_strike 111 = .ok (.bipush 34, 2) := by decide +kernel
theorem dX10_strike_113 : decode cX10_strike 113 = .ok (.iadd, 1) := by decide +kernel
theorem dX10_strike_114 : decode cX10_strike 114 = .ok (.dup2, 1) := by decide +kernel
theorem dX10_strike_115 : decode cX10_strike 115 = .ok (.iaload, 1) := by decide +kernel
theorem dX10_strike_116 : decode cX10_strike 116 = .ok (.aload_n 0, 1) := by decide +kernel
theorem dX10_strike_117 : decode cX10_strike 117 = .ok (.getfield 7, 3) := by decide +kernel
theorem dX10_strike_120 : decode cX10_strike 120 = .ok (.iconst 3, 1) := by decide +kernel
theorem dX10_strike_121 : decode cX10_strike 121 = .ok (.iconst 4, 1) := by decide +kernel
theorem dX10_strike_122 : decode cX10_strike 122 = .ok (.iload_n 2, 1) := by decide +kernel
theorem dX10_strike_123 : decode cX10_strike 123 = .ok (.imul, 1) := by decide +kernel
theorem dX10_strike_124 : decode cX10_strike 124 = .ok (.iadd, 1) := by decide +kernel
theorem dX10_strike_125 : decode cX10_strike 125 = .ok (.iaload, 1) := by decide +kernel
theorem dX10_strike_126 : decode cX10_strike 126 = .ok (.iconst 5, 1) := by decide +kernel
theorem dX10_strike_127 : decode cX10_strike 127 = .ok (.if_icmp .ne 9, 3) := by decide +kernel
theorem dX10_strike_130 : decode cX10_strike 130 = .ok (.iconst 1, 1) := by decide +kernel
theorem dX10_strike_131 : decode cX10_strike 131 = .ok (.iload_n 2, 1) := by decide +kernel
theorem dX10_strike_132 : decode cX10_strike 132 = .ok (.ishl, 1) := by decide +kernel
theorem dX10_strike_133 : decode cX10_strike 133 = .ok (.goto 4, 3) := by decide +kernel
theorem dX10_strike_136 : decode cX10_strike 136 = .ok (.iconst 0, 1) := by decide +kernel
theorem dX10_strike_137 : decode cX10_strike 137 = .ok (.ixor, 1) := by decide +kernel
theorem dX10_strike_138 : decode cX10_strike 138 = .ok (.iastore, 1) := by decide +kernel
theorem dX10_strike_139 : decode cX10_strike 139 = .ok (.return_, 1) := by decide +kernel
theorem lkX10_164 : LkV "BumperBallsModel" 164 yX10_turns cX10_turns 3 (some Jvm.ClassFile.FieldType.int) 2 := ⟨wk_1033, wk_11, wk_1032, wk_s83, ⟨by decide +kernel, by decide +kernel, by decide +kernel⟩, wk_1030⟩
/-! BumperBallsModel.strike(II)V -/
def fnX10_strike_137 (I0 : Mem) (t1 : Int32) (t2 : Int32) (t3 : Int32) : Option Mem :=
  ck (inb t1 164) <| bnd (up2 I0 112 (ix t1) (t2 ^^^ t3)) fun I2 => some I2
set_option maxRecDepth 20000 in
set_option maxHeartbeats 2000000 in
theorem ebX10_strike_137 {g : Cfg} (C : Cx g RX10 cX10_strike 4 2 43 0 0) {h : Shp} (H0 : MAt h) {o1 : Mem} (q : QV g 0 0 (o1, h)) {I0 : Mem} {t1 : Int32} {t2 : Int32} {t3 : Int32} (hf : fnX10_strike_137 I0 t1 t2 t3 = some o1) : XE g 0 0 (I0, h) 137 [] [.int t3, .int t2, .int t1, rf g 112] := by
  unfold fnX10_strike_137 at hf
  refine xr_ixor C dX10_strike_137 ?_
  obtain ⟨i1, hf⟩ := ck_x hf
  obtain ⟨I2, eI2, hf⟩ := bnd_x hf
  refine xr_iast C H0.2.1.2 i1 dX10_strike_138 eI2 ?_
  exact xr_return C q dX10_strike_139 (so_v hf)
def fnX10_strike_52 (I0 : Mem) (l1 : Int32) (l2 : Int32) (l3 : Int32) (t1 : Int32) (t2 : Int32) (t3 : Int32) : Option Mem :=
  ck (inb t1 164) <| bnd (up2 I0 112 (ix t1) (t2 + t3)) fun I2 => ck (inb (l1 + 32) 164) <| bnd (up2 I2 112 (ix (l1 + 32)) l3) fun I4 => ck (inb ((l1 + 35) + l2) 164) <| ck (inb ((l1 + 35) + l2) 164) <| bnd (up2 I4 112 (ix ((l1 + 35) + l2)) ((I4 112 (ix ((l1 + 35) + l2))) + 1)) fun I7 => ck (inb (l1 + 28) 164) <| ob (fnX10_turns I7 l1 l2) fun ⟨r11, I10⟩ => ck (inb (l1 + 28) 164) <| bnd (up2 I10 112 (ix (l1 + 28)) (irm ((I7 112 (ix (l1 + 28))) + r11) 4)) fun I13 => ck (inb (l1 + 34) 164) <| ck (inb ((3 : Int32) + ((4 : Int32) * l2)) 164) <| if (I13 112 (ix ((3 : Int32) + ((4 : Int32) * l2)))) = 5 then (fnX10_strike_137 I13 (l1 + 34) (I13 112 (ix (l1 + 34))) ((1 : Int32) <<< (l2 &&& 31))) else (fnX10_strike_137 I13 (l1 + 34) (I13 112 (ix (l1 + 34))) 0)
set_option maxRecDepth 20000 in
set_option maxHeartbeats 2000000 in
theorem ebX10_strike_52 {g : Cfg} (C : Cx g RX10 cX10_strike 4 2 43 0 0) {h : Shp} (H0 : MAt h) {o1 : Mem} (q : QV g 0 0 (o1, h)) {I0 : Mem} {l1 : Int32} {l2 : Int32} {l3 : Int32} {t1 : Int32} {t2 : Int32} {t3 : Int32} (hf : fnX10_strike_52 I0 l1 l2 l3 t1 t2 t3 = some o1) : XE g 0 0 (I0, h) 52 [(0, rf g 111), (1, .int l1), (2, .int l2), (3, .int l3)] [.int t3, .int t2, .int t1, rf g 112] := by
  unfold fnX10_strike_52 at hf
  refine xr_iadd C dX10_strike_52 ?_
  obtain ⟨i1, hf⟩ := ck_x hf
  obtain ⟨I2, eI2, hf⟩ := bnd_x hf
  refine xr_iast C H0.2.1.2 i1 dX10_strike_53 eI2 ?_
  refine xr_aload_n C dX10_strike_54 0 rfl rfl ?_
  refine xr_getr C Kd10 (k := 0) (by decide) rfl wk_821 rfl H0.1 H0.2.1.1 dX10_strike_55 ?_
  refine xr_iload_n C dX10_strike_58 1 rfl rfl ?_
  refine xr_bipush (v := 32) C dX10_strike_59 (by decide) ?_
  refine xr_iadd C dX10_strike_61 ?_
  refine xr_iload_n C dX10_strike_62 3 rfl rfl ?_
  obtain ⟨i3, hf⟩ := ck_x hf
  obtain ⟨I4, eI4, hf⟩ := bnd_x hf
  refine xr_iast C H0.2.1.2 i3 dX10_strike_63 eI4 ?_
  refine xr_aload_n C dX10_strike_64 0 rfl rfl ?_
  refine xr_getr C Kd10 (k := 0) (by decide) rfl wk_821 rfl H0.1 H0.2.1.1 dX10_strike_65 ?_
  refine xr_iload_n C dX10_strike_68 1 rfl rfl ?_
  refine xr_bipush (v := 35) C dX10_strike_69 (by decide) ?_
  refine xr_iadd C dX10_strike_71 ?_
  refine xr_iload_n C dX10_strike_72 2 rfl rfl ?_
  refine xr_iadd C dX10_strike_73 ?_
  refine xr_dup2 C dX10_strike_74 rfl rfl ?_
  obtain ⟨i5, hf⟩ := ck_x hf
  refine xr_iald C H0.2.1.2 i5 dX10_strike_75 ?_
  refine xr_iconst (v := 1) C dX10_strike_76 (by decide) ?_
  refine xr_iadd C dX10_strike_77 ?_
  obtain ⟨i6, hf⟩ := ck_x hf
  obtain ⟨I7, eI7, hf⟩ := bnd_x hf
  refine xr_iast C H0.2.1.2 i6 dX10_strike_78 eI7 ?_
  refine xr_aload_n C dX10_strike_79 0 rfl rfl ?_
  refine xr_getr C Kd10 (k := 0) (by decide) rfl wk_821 rfl H0.1 H0.2.1.1 dX10_strike_80 ?_
  refine xr_iload_n C dX10_strike_83 1 rfl rfl ?_
  refine xr_bipush (v := 28) C dX10_strike_84 (by decide) ?_
  refine xr_iadd C dX10_strike_86 ?_
  refine xr_aload_n C dX10_strike_87 0 rfl rfl ?_
  refine xr_getr C Kd10 (k := 0) (by decide) rfl wk_821 rfl H0.1 H0.2.1.1 dX10_strike_88 ?_
  refine xr_iload_n C dX10_strike_91 1 rfl rfl ?_
  refine xr_bipush (v := 28) C dX10_strike_92 (by decide) ?_
  refine xr_iadd C dX10_strike_94 ?_
  obtain ⟨i8, hf⟩ := ck_x hf
  refine xr_iald C H0.2.1.2 i8 dX10_strike_95 ?_
  refine xr_aload_n C dX10_strike_96 0 rfl rfl ?_
  refine xr_iload_n C dX10_strike_97 1 rfl rfl ?_
  refine xr_iload_n C dX10_strike_98 2 rfl rfl ?_
  obtain ⟨⟨r11, I10⟩, h9, hf⟩ := ob_x hf
  refine xr_callVI C [.int l1, .int l2] lkX10_164 (kX10_turns H0 h9) Kd10 rfl H0.1 rfl (Nat.le_of_ble_eq_true rfl) rfl dX10_strike_99 ⟨by decide, by decide, by decide⟩ rfl ?_
  refine xr_iadd C dX10_strike_102 ?_
  refine xr_iconst (v := 4) C dX10_strike_103 (by decide) ?_
  refine xr_irem C dX10_strike_104 (by decide) ?_
  obtain ⟨i12, hf⟩ := ck_x hf
  obtain ⟨I13, eI13, hf⟩ := bnd_x hf
  refine xr_iast C H0.2.1.2 i12 dX10_strike_105 eI13 ?_
  refine xr_aload_n C dX10_strike_106 0 rfl rfl ?_
  refine xr_getr C Kd10 (k := 0) (by decide) rfl wk_821 rfl H0.1 H0.2.1.1 dX10_strike_107 ?_
  refine xr_iload_n C dX10_strike_110 1 rfl rfl ?_
  refine xr_bipush (v := 34) C dX10_strike_111 (by decide) ?_
  refine xr_iadd C dX10_strike_113 ?_
  refine xr_dup2 C dX10_strike_114 rfl rfl ?_
  obtain ⟨i14, hf⟩ := ck_x hf
  refine xr_iald C H0.2.1.2 i14 dX10_strike_115 ?_
  refine xr_aload_n C dX10_strike_116 0 rfl rfl ?_
  refine xr_getr C Kd10 (k := 0) (by decide) rfl wk_821 rfl H0.1 H0.2.1.1 dX10_strike_117 ?_
  refine xr_iconst (v := 3) C dX10_strike_120 (by decide) ?_
  refine xr_iconst (v := 4) C dX10_strike_121 (by decide) ?_
  refine xr_iload_n C dX10_strike_122 2 rfl rfl ?_
  refine xr_imul C dX10_strike_123 ?_
  refine xr_iadd C dX10_strike_124 ?_
  obtain ⟨i15, hf⟩ := ck_x hf
  refine xr_iald C H0.2.1.2 i15 dX10_strike_125 ?_
  refine xr_iconst (v := 5) C dX10_strike_126 (by decide) ?_
  refine xr_icmp_ne (tgt := 136) C dX10_strike_127 (by decide) hf (fun c16 hf => ?_) (fun c16 hf => ?_)
  · refine xr_iconst (v := 0) C dX10_strike_136 (by decide) ?_
    refine xr_lv [] rfl ?_
    exact ebX10_strike_137 C H0 q hf
  · refine xr_iconst (v := 1) C dX10_strike_130 (by decide) ?_
    refine xr_iload_n C dX10_strike_131 2 rfl rfl ?_
    refine xr_ishl C dX10_strike_132 ?_
    refine xr_goto (tgt := 137) C dX10_strike_133 (by decide) ?_
    refine xr_lv [] rfl ?_
    exact ebX10_strike_137 C H0 q hf
def fnX10_strike (I0 : Mem) (p1 : Int32) (p2 : Int32) : Option Mem :=
  ck (inb (((3 : Int32) + ((4 : Int32) * p2)) + 2) 164) <| bnd (I0 112 (ix (((3 : Int32) + ((4 : Int32) * p2)) + 2))) fun v2 => ck (inb (p1 + 31) 164) <| ck (inb (p1 + 32) 164) <| if (I0 112 (ix (p1 + 32))) = v2 then (fnX10_strike_52 I0 p1 p2 v2 (p1 + 31) (I0 112 (ix (p1 + 31))) 0) else (ck (inb (((3 : Int32) + ((4 : Int32) * p2)) + 3) 164) <| fnX10_strike_52 I0 p1 p2 v2 (p1 + 31) (I0 112 (ix (p1 + 31))) (I0 112 (ix (((3 : Int32) + ((4 : Int32) * p2)) + 3))))
set_option maxRecDepth 20000 in
set_option maxHeartbeats 2000000 in
theorem ebX10_strike_0 {g : Cfg} (C : Cx g RX10 cX10_strike 4 2 43 0 0) {h : Shp} (H0 : MAt h) {o1 : Mem} (q : QV g 0 0 (o1, h)) {I0 : Mem} {p1 : Int32} {p2 : Int32} (hf : fnX10_strike I0 p1 p2 = some o1) : XE g 0 0 (I0, h) 0 [(0, rf g 111), (1, .int p1), (2, .int p2)] [] := by
  unfold fnX10_strike at hf
  refine xr_aload_n C dX10_strike_0 0 rfl rfl ?_
  refine xr_getr C Kd10 (k := 0) (by decide) rfl wk_821 rfl H0.1 H0.2.1.1 dX10_strike_1 ?_
  refine xr_iconst (v := 3) C dX10_strike_4 (by decide) ?_
  refine xr_iconst (v := 4) C dX10_strike_5 (by decide) ?_
  refine xr_iload_n C dX10_strike_6 2 rfl rfl ?_
  refine xr_imul C dX10_strike_7 ?_
  refine xr_iadd C dX10_strike_8 ?_
  refine xr_iconst (v := 2) C dX10_strike_9 (by decide) ?_
  refine xr_iadd C dX10_strike_10 ?_
  obtain ⟨i1, hf⟩ := ck_x hf
  refine xr_iald C H0.2.1.2 i1 dX10_strike_11 ?_
  obtain ⟨v2, ev2, hf⟩ := bnd_x hf
  refine xr_nm ev2 ?_
  refine xr_istore_n C dX10_strike_12 rfl (by decide) rfl ?_
  refine xr_aload_n C dX10_strike_13 1 rfl rfl ?_
  refine xr_getr C Kd10 (k := 0) (by decide) rfl wk_821 rfl H0.1 H0.2.1.1 dX10_strike_14 ?_
  refine xr_iload_n C dX10_strike_17 2 rfl rfl ?_
  refine xr_bipush (v := 31) C dX10_strike_18 (by decide) ?_
  refine xr_iadd C dX10_strike_20 ?_
  refine xr_dup2 C dX10_strike_21 rfl rfl ?_
  obtain ⟨i3, hf⟩ := ck_x hf
  refine xr_iald C H0.2.1.2 i3 dX10_strike_22 ?_
  refine xr_aload_n C dX10_strike_23 1 rfl rfl ?_
  refine xr_getr C Kd10 (k := 0) (by decide) rfl wk_821 rfl H0.1 H0.2.1.1 dX10_strike_24 ?_
  refine xr_iload_n C dX10_strike_27 2 rfl rfl ?_
  refine xr_bipush (v := 32) C dX10_strike_28 (by decide) ?_
  refine xr_iadd C dX10_strike_30 ?_
  obtain ⟨i4, hf⟩ := ck_x hf
  refine xr_iald C H0.2.1.2 i4 dX10_strike_31 ?_
  refine xr_iload_n C dX10_strike_32 0 rfl rfl ?_
  refine xr_icmp_ne (tgt := 40) C dX10_strike_33 (by decide) hf (fun c5 hf => ?_) (fun c5 hf => ?_)
  · refine xr_aload_n C dX10_strike_40 1 rfl rfl ?_
    refine xr_getr C Kd10 (k := 0) (by decide) rfl wk_821 rfl H0.1 H0.2.1.1 dX10_strike_41 ?_
    refine xr_iconst (v := 3) C dX10_strike_44 (by decide) ?_
    refine xr_iconst (v := 4) C dX10_strike_45 (by decide) ?_
    refine xr_iload_n C dX10_strike_46 3 rfl rfl ?_
    refine xr_imul C dX10_strike_47 ?_
    refine xr_iadd C dX10_strike_48 ?_
    refine xr_iconst (v := 3) C dX10_strike_49 (by decide) ?_
    refine xr_iadd C dX10_strike_50 ?_
    obtain ⟨i6, hf⟩ := ck_x hf
    refine xr_iald C H0.2.1.2 i6 dX10_strike_51 ?_
    refine xr_lv [1, 2, 3, 0] rfl ?_
    exact ebX10_strike_52 C H0 q hf
  · refine xr_iconst (v := 0) C dX10_strike_36 (by decide) ?_
    refine xr_goto (tgt := 52) C dX10_strike_37 (by decide) ?_
    refine xr_lv [1, 2, 3, 0] rfl ?_
    exact ebX10_strike_52 C H0 q hf
theorem kX10_strike {B : Bs} {h : Shp} (H0 : MAt h) {I0 : Mem} {p1 : Int32} {p2 : Int32} {o1 : Mem} (hf : fnX10_strike I0 p1 p2 = some o1) : CtrV B yX10_strike cX10_strike 4 2 43 0 0 [rfB B 111, .int p1, .int p2] (I0, h) (o1, h) := by
  refine xr_enterV (lv0 := [(0, rfB B 111), (1, .int p1), (2, .int p2)]) (by decide) (Nat.le_of_ble_eq_true rfl) rfl (fun g hg C q => ?_)
  subst hg
  exact ebX10_strike_0 C H0 q hf
theorem dX10_step_0 : decode cX10_step 0 = .ok (.aload_n 0, 1) := by decide +kernel
theorem dX10_step_1 : decode cX10_step 1 = .ok (.getfield 7, 3) := by decide +kernel
theorem dX10_step_4 : decode cX10_step 4 = .ok (.iload_n 1, 1) := by decide +kernel
theorem dX10_step_5 : decode cX10_step 5 = .ok (.bipush 28, 2) := by decide +kernel
theorem dX10_step_7 : decode cX10_step 7 = .ok (.iadd, 1) := by decide +kernel
theorem dX10_step_8 : decode cX10_step 8 = .ok (.iaload, 1) := by decide +kernel
theorem dX10_step_9 : decode cX10_step 9 = .ok (.istore_n 2, 1) := by decide +kernel
theorem dX10_step_10 : decode cX10_step 10 = .ok (.aload_n 0, 1) := by decide +kernel
theorem dX10_step_11 : decode cX10_step 11 = .ok (.getfield 7, 3) := by decide +kernel
theorem dX10_step_14 : decode cX10_step 14 = .ok (.iload_n 1, 1) := by decide +kernel
theorem dX10_step_15 : decode cX10_step 15 = .ok (.bipush 27, 2) := by decide +kernel
theorem dX10_step_17 : decode cX10_step 17 = .ok (.iadd, 1) := by decide +kernel
theorem dX10_step_18 : decode cX10_step 18 = .ok (.iaload, 1) := by decide +kernel
theorem dX10_step_19 : decode cX10_step 19 = .ok (.bipush 7, 2) := by decide +kernel
theorem dX10_step_21 : decode cX10_step 21 = .ok (.irem, 1) := by decide +kernel
theorem dX10_step_22 : decode cX10_step 22 = .ok (.iload_n 2, 1) := by decide +kernel
theorem dX10_step_23 : decode cX10_step 23 = .ok (.iconst 1, 1) := by decide +kernel
theorem dX10_step_24 : decode cX10_step 24 = .ok (.if_icmp .ne 7, 3) := by decide +kernel
theorem dX10_step_27 : decode cX10_step 27 = .ok (.iconst 1, 1) := by decide +kernel
theorem dX10_step_28 : decode cX10_step 28 = .ok (.goto 13, 3) := by decide +kernel
theorem dX10_step_31 : decode cX10_step 31 = .ok (.iload_n 2, 1) := by decide +kernel
theorem dX10_step_32 : decode cX10_step 32 = .ok (.iconst 3, 1) := by decide +kernel
theorem dX10_step_33 : decode cX10_step 33 = .ok (.if_icmp .ne 7, 3) := by decide +kernel
theorem dX10_step_36 : decode cX10_step 36 = .ok (.iconst (-1), 1) := by decide +kernel
theorem dX10_step_37 : decode cX10_step 37 = .ok (.goto 4, 3) := by decide +kernel
theorem dX10_step_40 : decode cX10_step 40 = .ok (.iconst 0, 1) := by decide +kernel
theorem dX10_step_41 : decode cX10_step 41 = .ok (.iadd, 1) := by decide +kernel
theorem dX10_step_42 : decode cX10_step 42 = .ok (.istore_n 3, 1) := by decide +kernel
theorem dX10_step_43 : decode cX10_step 43 = .ok (.aload_n 0, 1) := by decide +kernel
theorem dX10_step_44 : decode cX10_step 44 = .ok (.getfield 7, 3) := by decide +kernel
theorem dX10_step_47 : decode cX10_step 47 = .ok (.iload_n 1, 1) := by decide +kernel
theorem dX10_step_48 : decode cX10_step 48 = .ok (.bipush 27, 2) := by decide +kernel
theorem dX10_step_50 : decode cX10_step 50 = .ok (.iadd, 1) := by decide +kernel
theorem dX10_step_51 : decode cX10_step 51 = .ok (.iaload, 1) := by decide +kernel
theorem dX10_step_52 : decode cX10_step 52 = .ok (.bipush 7, 2) := by decide +kernel
theorem dX10_step_54 : decode cX10_step 54 = .ok (.idiv, 1) := by decide +kernel
theorem dX10_step_55 : decode cX10_step 55 = .ok (.iload_n 2, 1) := by decide +kernel
theorem dX10_step_56 : decode cX10_step 56 = .ok (.ifCond .ne 7, 3) := by decide +kernel
theorem dX10_step_59 : decode cX10_step 59 = .ok (.iconst 1, 1) := by decide +kernel
theorem dX10_step_60 : decode cX10_step 60 = .ok (.goto 13, 3) := by decide +kernel
theorem dX10_step_63 : decode cX10_step 63 = .ok (.iload_n 2, 1) := by decide +kernel
theorem dX10_step_64 : decode cX10_step 64 = .ok (.iconst 2, 1) := by decide +kernel
theorem dX10_step_65 : decode cX10_step 65 = .ok (.if_icmp .ne 7, 3) := by decide +kernel
theorem dX10_step_68 : decode cX10_step 68 = .ok (.iconst (-1), 1) := by decide +kernel
theorem dX10_step_69 : decode cX10_step 69 = .ok (.goto 4, 3) := by decide +kernel
theorem dX10_step_72 : decode cX10_step 72 = .ok (.iconst 0, 1) := by decide +kernel
theorem dX10_step_73 : decode cX10_step 73 = .ok (.iadd, 1) := by decide +kernel
theorem dX10_step_74 : decode cX10_step 74 = .ok (.istore 4, 2) := by decide +kernel
theorem dX10_step_76 : decode cX10_step 76 = .ok (.aload_n 0, 1) := by decide +kernel
theorem dX10_step_77 : decode cX10_step 77 = .ok (.getfield 7, 3) := by decide +kernel
theorem dX10_step_80 : decode cX10_step 80 = .ok (.iload_n 1, 1) := by decide +kernel
theorem dX10_step_81 : decode cX10_step 81 = .ok (.bipush 30, 2) := by decide +kernel
theorem dX10_step_83 : decode cX10_step 83 = .ok (.iadd, 1) := by decide +kernel
theorem dX10_step_84 : decode cX10_step 84 = .ok (.dup2, 1) := by decide +kernel
theorem dX10_step_85 : decode cX10_step 85 = .ok (.iaload, 1) := by decide +kernel
theorem dX10_step_86 : decode cX10_step 86 = .ok (.aload_n 0, 1) := by decide +kernel
theorem dX10_step_87 : decode cX10_step 87 = .ok (.getfield 7, 3) := by decide +kernel
theorem dX10_step_90 : decode cX10_step 90 = .ok (.iload_n 1, 1) := by decide +kernel
theorem dX10_step_91 : decode cX10_step 91 = .ok (.bipush 30, 2) := by decide +kernel
theorem dX10_step_93 : decode cX10_step 93 = .ok (.iadd, 1) := by decide +kernel
theorem dX10_step_94 : decode cX10_step 94 = .ok (.iaload, 1) := by decide +kernel
theorem dX10_step_95 : decode cX10_step 95 = .ok (.ifCond .le 7, 3) := by decide +kernel
theorem dX10_step_98 : decode cX10_step 98 = .ok (.iconst 1, 1) := by decide +kernel
theorem dX10_step_99 : decode cX10_step 99 = .ok (.goto 4, 3) := by decide +kernel
theorem dX10_step_102 : decode cX10_step 102 = .ok (.iconst 0, 1) := by decide +kernel
theorem dX10_step_103 : decode cX10_step 103 = .ok (.isub, 1) := by decide +kernel
theorem dX10_step_104 : decode cX10_step 104 = .ok (.iastore, 1) := by decide +kernel
theorem dX10_step_105 : decode cX10_step 105 = .ok (.aload_n 0, 1) := by decide +kernel
theorem dX10_step_106 : decode cX10_step 106 = .ok (.getfield 7, 3) := by decide +kernel
theorem dX10_step_109 : decode cX10_step 109 = .ok (.iload_n 1, 1) := by decide +kernel
theorem dX10_step_110 : decode cX10_step 110 = .ok (.bipush 33, 2) := by decide +kernel
theorem dX10_step_112 : decode cX10_step 112 = .ok (.iadd, 1) := by decide +kernel
theorem dX10_step_113 : decode cX10_step 113 = .ok (.dup2, 1) := by decide +kernel
theorem dX10_step_114 : decode cX10_step 114 = .ok (.iaload, 1) := by decide +kernel
theorem dX10_step_115 : decode cX10_step 115 = .ok (.iconst 1, 1) := by decide +kernel
theorem dX10_step_116 : decode cX10_step 116 = .ok (.iadd, 1) := by decide +kernel
theorem dX10_step_117 : decode cX10_step 117 = .ok (.iastore, 1) := by decide +kernel
theorem dX10_step_118 : decode cX10_step 118 = .ok (.iload 4, 2) := by decide +kernel
theorem dX10_step_120 : decode cX10_step 120 = .ok (.ifCond .ge 16, 3) := by decide +kernel
theorem dX10_step_123 : decode cX10_step 123 = .ok (.aload_n 0, 1) := by decide +kernel
theorem dX10_step_124 : decode cX10_step 124 = .ok (.getfield 7, 3) := by decide +kernel
theorem dX10_step_127 : decode cX10_step 127 = .ok (.iload_n 1, 1) := by decide +kernel
theorem dX10_step_128 : decode cX10_step 128 = .ok (.bipush 29, 2) := by decide +kernel
theorem dX10_step_130 : decode cX10_step 130 = .ok (.iadd, 1) := by decide +kernel
theorem dX10_step_131 : decode cX10_step 131 = .ok (.iconst 1, 1) := by decide +kernel
theorem dX10_step_132 : decode cX10_step 132 = .ok (.iastore, 1) := by decide +kernel
theorem dX10_step_133 : decode cX10_step 133 = .ok (.ldc 19, 2) := by decide +kernel
theorem dX10_step_135 : decode cX10_step 135 = .ok (.ireturn, 1) := by decide +kernel
theorem dX10_step_136 : decode cX10_step 136 = .ok (.iload_n 3, 1) := by decide +kernel
theorem dX10_step_137 : decode cX10_step 137 = .ok (.i2l, 1) := by decide +kernel
theorem dX10_step_138 : decode cX10_step 138 = .ok (.lconst 0, 1) := by decide +kernel
theorem dX10_step_139 : decode cX10_step 139 = .ok (.ldc2_w 167, 3) := by decide +kernel
theorem dX10_step_142 : decode cX10_step 142 = .ok (.invokestatic 48, 3) := by decide +kernel
theorem dX10_step_145 : decode cX10_step 145 = .ok (.ifCond .eq 10, 3) := by decide +kernel
theorem dX10_step_148 : decode cX10_step 148 = .ok (.iload 4, 2) := by decide +kernel
theorem dX10_step_150 : decode cX10_step 150 = .ok (.bipush 6, 2) := by decide +kernel
theorem dX10_step_152 : decode cX10_step 152 = .ok (.if_icmp .ne 20, 3) := by decide +kernel
theorem dX10_step_155 : decode cX10_step 155 = .ok (.aload_n 0, 1) := by decide +kernel
theorem dX10_step_156 : decode cX10_step 156 = .ok (.getfield 7, 3) := by decide +kernel
theorem dX10_step_159 : decode cX10_step 159 = .ok (.iload_n 1, 1) := by decide +kernel
theorem dX10_step_160 : decode cX10_step 160 = .ok (.bipush 28, 2) := by decide +kernel
theorem dX10_step_162 : decode cX10_step 162 = .ok (.iadd, 1) := by decide +kernel
theorem dX10_step_163 : decode cX10_step 163 = .ok (.iload_n 2, 1) := by decide +kernel
theorem dX10_step_164 : decode cX10_step 164 = .ok (.iconst 2, 1) := by decide +kernel
theorem dX10_step_165 : decode cX10_step 165 = .ok (.iadd, 1) := by decide +kernel
theorem dX10_step_166 : decode cX10_step 166 = .ok (.iconst 4, 1) := by decide +kernel
theorem dX10_step_167 : decode cX10_step 167 = .ok (.irem, 1) := by decide +kernel
theorem dX10_step_168 : decode cX10_step 168 = .ok (.iastore, 1) := by decide +kernel
theorem dX10_step_169 : decode cX10_step 169 = .ok (.ldc 19, 2) := by decide +kernel
theorem dX10_step_171 : decode cX10_step 171 = .ok (.ireturn, 1) := by decide +kernel
theorem dX10_step_172 : decode cX10_step 172 = .ok (.aload_n 0, 1) := by decide +kernel
theorem dX10_step_173 : decode cX10_step 173 = .ok (.getfield 7, 3) := by decide +kernel
theorem dX10_step_176 : decode cX10_step 176 = .ok (.iload_n 1, 1) := by decide +kernel
theorem dX10_step_177 : decode cX10_step 177 = .ok (.bipush 27, 2) := by decide +kernel
theorem dX10_step_179 : decode cX10_step 179 = .ok (.iadd, 1) := by decide +kernel
theorem dX10_step_180 : decode cX10_step 180 = .ok (.bipush 7, 2) := by decide +kernel
theorem dX10_step_182 : decode cX10_step 182 = .ok (.iload 4, 2) := by decide +kernel
theorem dX10_step_184 : decode cX10_step 184 = .ok (.imul, 1) := by decide +kernel
theorem dX10_step_185 : decode cX10_step 185 = .ok (.iload_n 3, 1) := by decide +kernel
theorem dX10_step_186 : decode cX10_step 186 = .ok (.iadd, 1) := by decide +kernel
theorem dX10_step_187 : decode cX10_step 187 = .ok (.iastore, 1) := by decide +kernel
theorem dX10_step_188 : decode cX10_step 188 = .ok (.aload_n 0, 1) := by decide +kernel
theorem dX10_step_189 : decode cX10_step 189 = .ok (.aload_n 0, 1) := by decide +kernel
theorem dX10_step_190 : decode cX10_step 190 = .ok (.getfield 7, 3) := by decide +kernel
theorem dX10_step_193 : decode cX10_step 193 = .ok (.iload_n 1, 1) := by decide +kernel
theorem dX10_step_194 : decode cX10_step 194 = .ok (.bipush 27, 2) := by decide +kernel
theorem dX10_step_196 : decode cX10_step 196 = .ok (.iadd, 1) := by decide +kernel
theorem dX10_step_197 : decode cX10_step 197 = .ok (.iaload, 1) := by decide +kernel
theorem dX10_step_198 : decode cX10_step 198 = .ok (.invokevirtual 169, 3) := by decide +kernel
theorem dX10_step_201 : decode cX10_step 201 = .ok (.istore 5, 2) := by decide +kernel
theorem dX10_step_203 : decode cX10_step 203 = .ok (.iload 5, 2) := by decide +kernel
theorem dX10_step_205 : decode cX10_step 205 = .ok (.ldc 19, 2) := by decide +kernel
theorem dX10_step_207 : decode cX10_step 207 = .ok (.if_icmp .eq 10, 3) := by decide +kernel
theorem dX10_step_210 : decode cX10_step 210 = .ok (.aload_n 0, 1) := by decide +kernel
theorem dX10_step_211 : decode cX10_step 211 = .ok (.iload_n 1, 1) := by decide +kernel
theorem dX10_step_212 : decode cX10_step 212 = .ok (.iload 5, 2) := by decide +kernel
theorem dX10_step_214 : decode cX10_step 214 = .ok (.invokevirtual 172, 3) := by decide +kernel
theorem dX10_step_217 : decode cX10_step 217 = .ok (.iload 5, 2) := by decide +kernel
theorem dX10_step_219 : decode cX10_step 219 = .ok (.ireturn, 1) := by decide +kernel
theorem lkX10_169 : LkV "BumperBallsModel" 169 yX10_pinAt cX10_pinAt 4 (some Jvm.ClassFile.FieldType.int) 1 := ⟨wk_1025, wk_11, wk_1024, wk_s81, ⟨by decide +kernel, by decide +kernel, by decide +kernel⟩, wk_1022⟩
theorem lkX10_172 : LkV "BumperBallsModel" 172 yX10_strike cX10_strike 4 none 2 := ⟨wk_1029, wk_11, wk_1028, wk_s82, ⟨by decide +kernel, by decide +kernel, by decide +kernel⟩, wk_1026⟩
/-! BumperBallsModel.step(I)I -/
def fnX10_step_217 (I0 : Mem) (l5 : Int32) : Option (Int32 × Mem) :=
  some (l5, I0)
set_option maxRecDepth 20000 in
set_option maxHeartbeats 2000000 in
theorem ebX10_step_217 {g : Cfg} (C : Cx g RX10 cX10_step 6 3 66 0 0) {h : Shp} (H0 : MAt h) {r1 : Int32} {o1 : Mem} (q : QI g (some Jvm.ClassFile.FieldType.int) 0 0 r1 (o1, h)) {I0 : Mem} {l5 : Int32} (hf : fnX10_step_217 I0 l5 = some (r1, o1)) : XE g 0 0 (I0, h) 217 [(5, .int l5)] [] := by
  unfold fnX10_step_217 at hf
  refine xr_iload C dX10_step_217 0 rfl ?_
  exact xr_ireturn C q rfl rfl dX10_step_219 (so_1 hf) (so_w hf)
def fnX10_step_155 (I0 : Mem) (l1 : Int32) (l2 : Int32) : Option (Int32 × Mem) :=
  ck (inb (l1 + 28) 164) <| bnd (up2 I0 112 (ix (l1 + 28)) (irm (l2 + 2) 4)) fun I2 => some ((-1000000), I2)
set_option maxRecDepth 20000 in
set_option maxHeartbeats 2000000 in
theorem ebX10_step_155 {g : Cfg} (C : Cx g RX10 cX10_step 6 3 66 0 0) {h : Shp} (H0 : MAt h) {r1 : Int32} {o1 : Mem} (q : QI g (some Jvm.ClassFile.FieldType.int) 0 0 r1 (o1, h)) {I0 : Mem} {l1 : Int32} {l2 : Int32} (hf : fnX10_step_155 I0 l1 l2 = some (r1, o1)) : XE g 0 0 (I0, h) 155 [(0, rf g 111), (1, .int l1), (2, .int l2)] [] := by
  unfold fnX10_step_155 at hf
  refine xr_aload_n C dX10_step_155 0 rfl rfl ?_
  refine xr_getr C Kd10 (k := 0) (by decide) rfl wk_821 rfl H0.1 H0.2.1.1 dX10_step_156 ?_
  refine xr_iload_n C dX10_step_159 1 rfl rfl ?_
  refine xr_bipush (v := 28) C dX10_step_160 (by decide) ?_
  refine xr_iadd C dX10_step_162 ?_
  refine xr_iload_n C dX10_step_163 2 rfl rfl ?_
  refine xr_iconst (v := 2) C dX10_step_164 (by decide) ?_
  refine xr_iadd C dX10_step_165 ?_
  refine xr_iconst (v := 4) C dX10_step_166 (by decide) ?_
  refine xr_irem C dX10_step_167 (by decide) ?_
  obtain ⟨i1, hf⟩ := ck_x hf
  obtain ⟨I2, eI2, hf⟩ := bnd_x hf
  refine xr_iast C H0.2.1.2 i1 dX10_step_168 eI2 ?_
  refine xr_ldc C wk_820 dX10_step_169 ?_
  exact xr_ireturn C q rfl rfl dX10_step_171 (so_1 hf) (so_w hf)
def fnX10_step_103 (I0 : Mem) (l1 : Int32) (l2 : Int32) (l3 : Int32) (l4 : Int32) (t1 : Int32) (t2 : Int32) (t3 : Int32) : Option (Int32 × Mem) :=
  ck (inb t1 164) <| bnd (up2 I0 112 (ix t1) (t2 - t3)) fun I2 => ck (inb (l1 + 33) 164) <| ck (inb (l1 + 33) 164) <| bnd (up2 I2 112 (ix (l1 + 33)) ((I2 112 (ix (l1 + 33))) + 1)) fun I5 => if 0 ≤ l4 then (ob (fnX10_in I5 (l3.toInt64) 0 6) fun ⟨r9, I8⟩ => if r9 = 0 then (fnX10_step_155 I8 l1 l2) else (if l4 = 6 then (fnX10_step_155 I8 l1 l2) else (ck (inb (l1 + 27) 164) <| bnd (up2 I8 112 (ix (l1 + 27)) (((7 : Int32) * l4) + l3)) fun I13 => ck (inb (l1 + 27) 164) <| ob (fnX10_pinAt I13 (I13 112 (ix (l1 + 27)))) fun ⟨r17, I16⟩ => if r17 = (-1000000) then (fnX10_step_217 I16 r17) else (ob (fnX10_strike I16 l1 r17) fun I20 => fnX10_step_217 I20 r17)))) else (ck (inb (l1 + 29) 164) <| bnd (up2 I5 112 (ix (l1 + 29)) 1) fun I22 => some ((-1000000), I22))
set_option maxRecDepth 20000 in
set_option maxHeartbeats 2000000 in
theorem ebX10_step_103 {g : Cfg} (C : Cx g RX10 cX10_step 6 3 66 0 0) {h : Shp} (H0 : MAt h) {r1 : Int32} {o1 : Mem} (q : QI g (some Jvm.ClassFile.FieldType.int) 0 0 r1 (o1, h)) {I0 : Mem} {l1 : Int32} {l2 : Int32} {l3 : Int32} {l4 : Int32} {t1 : Int32} {t2 : Int32} {t3 : Int32} (hf : fnX10_step_103 I0 l1 l2 l3 l4 t1 t2 t3 = some (r1, o1)) : XE g 0 0 (I0, h) 103 [(0, rf g 111), (1, .int l1), (2, .int l2), (3, .int l3), (4, .int l4)] [.int t3, .int t2, .int t1, rf g 112] := by
  unfold fnX10_step_103 at hf
  refine xr_isub C dX10_step_103 ?_
  obtain ⟨i1, hf⟩ := ck_x hf
  obtain ⟨I2, eI2, hf⟩ := bnd_x hf
  refine xr_iast C H0.2.1.2 i1 dX10_step_104 eI2 ?_
  refine xr_aload_n C dX10_step_105 0 rfl rfl ?_
  refine xr_getr C Kd10 (k := 0) (by decide) rfl wk_821 rfl H0.1 H0.2.1.1 dX10_step_106 ?_
  refine xr_iload_n C dX10_step_109 1 rfl rfl ?_
  refine xr_bipush (v := 33) C dX10_step_110 (by decide) ?_
  refine xr_iadd C dX10_step_112 ?_
  refine xr_dup2 C dX10_step_113 rfl rfl ?_
  obtain ⟨i3, hf⟩ := ck_x hf
  refine xr_iald C H0.2.1.2 i3 dX10_step_114 ?_
  refine xr_iconst (v := 1) C dX10_step_115 (by decide) ?_
  refine xr_iadd C dX10_step_116 ?_
  obtain ⟨i4, hf⟩ := ck_x hf
  obtain ⟨I5, eI5, hf⟩ := bnd_x hf
  refine xr_iast C H0.2.1.2 i4 dX10_step_117 eI5 ?_
  refine xr_iload C dX10_step_118 4 rfl ?_
  refine xr_if_ge (tgt := 136) C dX10_step_120 (by decide) hf (fun c6 hf => ?_) (fun c6 hf => ?_)
  · refine xr_iload_n C dX10_step_136 3 rfl rfl ?_
    refine xr_i2l C dX10_step_137 ?_
    refine xr_lconst (v := 0) C dX10_step_138 (by decide) ?_
    refine xr_ldc2 C wk_1021 dX10_step_139 ?_
    obtain ⟨⟨r9, I8⟩, h7, hf⟩ := ob_x hf
    refine xr_callSI C [.long (l3.toInt64), .long 0, .long 6] lkX10_48 (kX10_in h7) rfl (Nat.le_of_ble_eq_true rfl) rfl dX10_step_142 ⟨by decide, by decide, by decide⟩ rfl ?_
    refine xr_if_eq (tgt := 155) C dX10_step_145 (by decide) hf (fun c10 hf => ?_) (fun c10 hf => ?_)
    · refine xr_lv [0, 1, 2] rfl ?_
      exact ebX10_step_155 C H0 q hf
    · refine xr_iload C dX10_step_148 4 rfl ?_
      refine xr_bipush (v := 6) C dX10_step_150 (by decide) ?_
      refine xr_icmp_ne (tgt := 172) C dX10_step_152 (by decide) hf (fun c11 hf => ?_) (fun c11 hf => ?_)
      · refine xr_aload_n C dX10_step_172 0 rfl rfl ?_
        refine xr_getr C Kd10 (k := 0) (by decide) rfl wk_821 rfl H0.1 H0.2.1.1 dX10_step_173 ?_
        refine xr_iload_n C dX10_step_176 1 rfl rfl ?_
        refine xr_bipush (v := 27) C dX10_step_177 (by decide) ?_
        refine xr_iadd C dX10_step_179 ?_
        refine xr_bipush (v := 7) C dX10_step_180 (by decide) ?_
        refine xr_iload C dX10_step_182 4 rfl ?_
        refine xr_imul C dX10_step_184 ?_
        refine xr_iload_n C dX10_step_185 3 rfl rfl ?_
        refine xr_iadd C dX10_step_186 ?_
        obtain ⟨i12, hf⟩ := ck_x hf
        obtain ⟨I13, eI13, hf⟩ := bnd_x hf
        refine xr_iast C H0.2.1.2 i12 dX10_step_187 eI13 ?_
        refine xr_aload_n C dX10_step_188 0 rfl rfl ?_
        refine xr_aload_n C dX10_step_189 0 rfl rfl ?_
        refine xr_getr C Kd10 (k := 0) (by decide) rfl wk_821 rfl H0.1 H0.2.1.1 dX10_step_190 ?_
        refine xr_iload_n C dX10_step_193 1 rfl rfl ?_
        refine xr_bipush (v := 27) C dX10_step_194 (by decide) ?_
        refine xr_iadd C dX10_step_196 ?_
        obtain ⟨i14, hf⟩ := ck_x hf
        refine xr_iald C H0.2.1.2 i14 dX10_step_197 ?_
        obtain ⟨⟨r17, I16⟩, h15, hf⟩ := ob_x hf
        refine xr_callVI C [.int (I13 112 (ix (l1 + 27)))] lkX10_169 (kX10_pinAt H0 h15) Kd10 rfl H0.1 rfl (Nat.le_of_ble_eq_true rfl) rfl dX10_step_198 ⟨by decide, by decide, by decide⟩ rfl ?_
        refine xr_istore C dX10_step_201 (by decide) rfl ?_
        refine xr_iload C dX10_step_203 0 rfl ?_
        refine xr_ldc C wk_820 dX10_step_205 ?_
        refine xr_icmp_eq (tgt := 217) C dX10_step_207 (by decide) hf (fun c18 hf => ?_) (fun c18 hf => ?_)
        · refine xr_lv [0] rfl ?_
          exact ebX10_step_217 C H0 q hf
        · refine xr_aload_n C dX10_step_210 1 rfl rfl ?_
          refine xr_iload_n C dX10_step_211 2 rfl rfl ?_
          refine xr_iload C dX10_step_212 0 rfl ?_
          obtain ⟨I20, h19, hf⟩ := ob_x hf
          refine xr_callVV C [.int l1, .int r17] lkX10_172 (kX10_strike H0 h19) Kd10 rfl H0.1 rfl (Nat.le_of_ble_eq_true rfl) rfl dX10_step_214 ⟨by decide, by decide, by decide⟩ rfl ?_
          refine xr_lv [0] rfl ?_
          exact ebX10_step_217 C H0 q hf
      · refine xr_lv [0, 1, 2] rfl ?_
        exact ebX10_step_155 C H0 q hf
  · refine xr_aload_n C dX10_step_123 0 rfl rfl ?_
    refine xr_getr C Kd10 (k := 0) (by decide) rfl wk_821 rfl H0.1 H0.2.1.1 dX10_step_124 ?_
    refine xr_iload_n C dX10_step_127 1 rfl rfl ?_
    refine xr_bipush (v := 29) C dX10_step_128 (by decide) ?_
    refine xr_iadd C dX10_step_130 ?_
    refine xr_iconst (v := 1) C dX10_step_131 (by decide) ?_
    obtain ⟨i21, hf⟩ := ck_x hf
    obtain ⟨I22, eI22, hf⟩ := bnd_x hf
    refine xr_iast C H0.2.1.2 i21 dX10_step_132 eI22 ?_
    refine xr_ldc C wk_820 dX10_step_133 ?_
    exact xr_ireturn C q rfl rfl dX10_step_135 (so_1 hf) (so_w hf)
def fnX10_step_73 (I0 : Mem) (l1 : Int32) (l2 : Int32) (l3 : Int32) (t0 : Int32) (t1 : Int32) : Option (Int32 × Mem) :=
  bnd (t0 + t1) fun v1 => ck (inb (l1 + 30) 164) <| ck (inb (l1 + 30) 164) <| if (I0 112 (ix (l1 + 30))) ≤ 0 then (fnX10_step_103 I0 l1 l2 l3 v1 (l1 + 30) (I0 112 (ix (l1 + 30))) 0) else (fnX10_step_103 I0 l1 l2 l3 v1 (l1 + 30) (I0 112 (ix (l1 + 30))) 1)
set_option maxRecDepth 20000 in
set_option maxHeartbeats 2000000 in
theorem ebX10_step_73 {g : Cfg} (C : Cx g RX10 cX10_step 6 3 66 0 0) {h : Shp} (H0 : MAt h) {r1 : Int32} {o1 : Mem} (q : QI g (some Jvm.ClassFile.FieldType.int) 0 0 r1 (o1, h)) {I0 : Mem} {l1 : Int32} {l2 : Int32} {l3 : Int32} {t0 : Int32} {t1 : Int32} (hf : fnX10_step_73 I0 l1 l2 l3 t0 t1 = some (r1, o1)) : XE g 0 0 (I0, h) 73 [(0, rf g 111), (1, .int l1), (2, .int l2), (3, .int l3)] [.int t1, .int t0] := by
  unfold fnX10_step_73 at hf
  refine xr_iadd C dX10_step_73 ?_
  obtain ⟨v1, ev1, hf⟩ := bnd_x hf
  refine xr_nm ev1 ?_
  refine xr_istore C dX10_step_74 (by decide) rfl ?_
  refine xr_aload_n C dX10_step_76 1 rfl rfl ?_
  refine xr_getr C Kd10 (k := 0) (by decide) rfl wk_821 rfl H0.1 H0.2.1.1 dX10_step_77 ?_
  refine xr_iload_n C dX10_step_80 2 rfl rfl ?_
  refine xr_bipush (v := 30) C dX10_step_81 (by decide) ?_
  refine xr_iadd C dX10_step_83 ?_
  refine xr_dup2 C dX10_step_84 rfl rfl ?_
  obtain ⟨i2, hf⟩ := ck_x hf
  refine xr_iald C H0.2.1.2 i2 dX10_step_85 ?_
  refine xr_aload_n C dX10_step_86 1 rfl rfl ?_
  refine xr_getr C Kd10 (k := 0) (by decide) rfl wk_821 rfl H0.1 H0.2.1.1 dX10_step_87 ?_
  refine xr_iload_n C dX10_step_90 2 rfl rfl ?_
  refine xr_bipush (v := 30) C dX10_step_91 (by decide) ?_
  refine xr_iadd C dX10_step_93 ?_
  obtain ⟨i3, hf⟩ := ck_x hf
  refine xr_iald C H0.2.1.2 i3 dX10_step_94 ?_
  refine xr_if_le (tgt := 102) C dX10_step_95 (by decide) hf (fun c4 hf => ?_) (fun c4 hf => ?_)
  · refine xr_iconst (v := 0) C dX10_step_102 (by decide) ?_
    refine xr_lv [1, 2, 3, 4, 0] rfl ?_
    exact ebX10_step_103 C H0 q hf
  · refine xr_iconst (v := 1) C dX10_step_98 (by decide) ?_
    refine xr_goto (tgt := 103) C dX10_step_99 (by decide) ?_
    refine xr_lv [1, 2, 3, 4, 0] rfl ?_
    exact ebX10_step_103 C H0 q hf
def fnX10_step_41 (I0 : Mem) (l1 : Int32) (l2 : Int32) (t0 : Int32) (t1 : Int32) : Option (Int32 × Mem) :=
  bnd (t0 + t1) fun v1 => ck (inb (l1 + 27) 164) <| if l2 = 0 then (fnX10_step_73 I0 l1 l2 v1 ((I0 112 (ix (l1 + 27))) / 7) 1) else (if l2 = 2 then (fnX10_step_73 I0 l1 l2 v1 ((I0 112 (ix (l1 + 27))) / 7) (-1)) else (fnX10_step_73 I0 l1 l2 v1 ((I0 112 (ix (l1 + 27))) / 7) 0))
set_option maxRecDepth 20000 in
set_option maxHeartbeats 2000000 in
theorem ebX10_step_41 {g : Cfg} (C : Cx g RX10 cX10_step 6 3 66 0 0) {h : Shp} (H0 : MAt h) {r1 : Int32} {o1 : Mem} (q : QI g (some Jvm.ClassFile.FieldType.int) 0 0 r1 (o1, h)) {I0 : Mem} {l1 : Int32} {l2 : Int32} {t0 : Int32} {t1 : Int32} (hf : fnX10_step_41 I0 l1 l2 t0 t1 = some (r1, o1)) : XE g 0 0 (I0, h) 41 [(0, rf g 111), (1, .int l1), (2, .int l2)] [.int t1, .int t0] := by
  unfold fnX10_step_41 at hf
  refine xr_iadd C dX10_step_41 ?_
  obtain ⟨v1, ev1, hf⟩ := bnd_x hf
  refine xr_nm ev1 ?_
  refine xr_istore_n C dX10_step_42 rfl (by decide) rfl ?_
  refine xr_aload_n C dX10_step_43 1 rfl rfl ?_
  refine xr_getr C Kd10 (k := 0) (by decide) rfl wk_821 rfl H0.1 H0.2.1.1 dX10_step_44 ?_
  refine xr_iload_n C dX10_step_47 2 rfl rfl ?_
  refine xr_bipush (v := 27) C dX10_step_48 (by decide) ?_
  refine xr_iadd C dX10_step_50 ?_
  obtain ⟨i2, hf⟩ := ck_x hf
  refine xr_iald C H0.2.1.2 i2 dX10_step_51 ?_
  refine xr_bipush (v := 7) C dX10_step_52 (by decide) ?_
  refine xr_idiv C dX10_step_54 (by decide) ?_
  refine xr_iload_n C dX10_step_55 3 rfl rfl ?_
  refine xr_if_ne (tgt := 63) C dX10_step_56 (by decide) hf (fun c3 hf => ?_) (fun c3 hf => ?_)
  · refine xr_iload_n C dX10_step_63 3 rfl rfl ?_
    refine xr_iconst (v := 2) C dX10_step_64 (by decide) ?_
    refine xr_icmp_ne (tgt := 72) C dX10_step_65 (by decide) hf (fun c4 hf => ?_) (fun c4 hf => ?_)
    · refine xr_iconst (v := 0) C dX10_step_72 (by decide) ?_
      refine xr_lv [1, 2, 3, 0] rfl ?_
      exact ebX10_step_73 C H0 q hf
    · refine xr_iconst (v := (-1)) C dX10_step_68 (by decide) ?_
      refine xr_goto (tgt := 73) C dX10_step_69 (by decide) ?_
      refine xr_lv [1, 2, 3, 0] rfl ?_
      exact ebX10_step_73 C H0 q hf
  · refine xr_iconst (v := 1) C dX10_step_59 (by decide) ?_
    refine xr_goto (tgt := 73) C dX10_step_60 (by decide) ?_
    refine xr_lv [1, 2, 3, 0] rfl ?_
    exact ebX10_step_73 C H0 q hf
def fnX10_step (I0 : Mem) (p1 : Int32) : Option (Int32 × Mem) :=
  ck (inb (p1 + 28) 164) <| bnd (I0 112 (ix (p1 + 28))) fun v2 => ck (inb (p1 + 27) 164) <| if v2 = 1 then (fnX10_step_41 I0 p1 v2 (irm (I0 112 (ix (p1 + 27))) 7) 1) else (if v2 = 3 then (fnX10_step_41 I0 p1 v2 (irm (I0 112 (ix (p1 + 27))) 7) (-1)) else (fnX10_step_41 I0 p1 v2 (irm (I0 112 (ix (p1 + 27))) 7) 0))
set_option maxRecDepth 20000 in
set_option maxHeartbeats 2000000 in
theorem ebX10_step_0 {g : Cfg} (C : Cx g RX10 cX10_step 6 3 66 0 0) {h : Shp} (H0 : MAt h) {r1 : Int32} {o1 : Mem} (q : QI g (some Jvm.ClassFile.FieldType.int) 0 0 r1 (o1, h)) {I0 : Mem} {p1 : Int32} (hf : fnX10_step I0 p1 = some (r1, o1)) : XE g 0 0 (I0, h) 0 [(0, rf g 111), (1, .int p1)] [] := by
  unfold fnX10_step at hf
  refine xr_aload_n C dX10_step_0 0 rfl rfl ?_
  refine xr_getr C Kd10 (k := 0) (by decide) rfl wk_821 rfl H0.1 H0.2.1.1 dX10_step_1 ?_
  refine xr_iload_n C dX10_step_4 1 rfl rfl ?_
  refine xr_bipush (v := 28) C dX10_step_5 (by decide) ?_
  refine xr_iadd C dX10_step_7 ?_
  obtain ⟨i1, hf⟩ := ck_x hf
  refine xr_iald C H0.2.1.2 i1 dX10_step_8 ?_
  obtain ⟨v2, ev2, hf⟩ := bnd_x hf
  refine xr_nm ev2 ?_
  refine xr_istore_n C dX10_step_9 rfl (by decide) rfl ?_
  refine xr_aload_n C dX10_step_10 1 rfl rfl ?_
  refine xr_getr C Kd10 (k := 0) (by decide) rfl wk_821 rfl H0.1 H0.2.1.1 dX10_step_11 ?_
  refine xr_iload_n C dX10_step_14 2 rfl rfl ?_
  refine xr_bipush (v := 27) C dX10_step_15 (by decide) ?_
  refine xr_iadd C dX10_step_17 ?_
  obtain ⟨i3, hf⟩ := ck_x hf
  refine xr_iald C H0.2.1.2 i3 dX10_step_18 ?_
  refine xr_bipush (v := 7) C dX10_step_19 (by decide) ?_
  refine xr_irem C dX10_step_21 (by decide) ?_
  refine xr_iload_n C dX10_step_22 0 rfl rfl ?_
  refine xr_iconst (v := 1) C dX10_step_23 (by decide) ?_
  refine xr_icmp_ne (tgt := 31) C dX10_step_24 (by decide) hf (fun c4 hf => ?_) (fun c4 hf => ?_)
  · refine xr_iload_n C dX10_step_31 0 rfl rfl ?_
    refine xr_iconst (v := 3) C dX10_step_32 (by decide) ?_
    refine xr_icmp_ne (tgt := 40) C dX10_step_33 (by decide) hf (fun c5 hf => ?_) (fun c5 hf => ?_)
    · refine xr_iconst (v := 0) C dX10_step_40 (by decide) ?_
      refine xr_lv [1, 2, 0] rfl ?_
      exact ebX10_step_41 C H0 q hf
    · refine xr_iconst (v := (-1)) C dX10_step_36 (by decide) ?_
      refine xr_goto (tgt := 41) C dX10_step_37 (by decide) ?_
      refine xr_lv [1, 2, 0] rfl ?_
      exact ebX10_step_41 C H0 q hf
  · refine xr_iconst (v := 1) C dX10_step_27 (by decide) ?_
    refine xr_goto (tgt := 41) C dX10_step_28 (by decide) ?_
    refine xr_lv [1, 2, 0] rfl ?_
    exact ebX10_step_41 C H0 q hf
theorem kX10_step {B : Bs} {h : Shp} (H0 : MAt h) {I0 : Mem} {p1 : Int32} {r1 : Int32} {o1 : Mem} (hf : fnX10_step I0 p1 = some (r1, o1)) : CtrI B yX10_step cX10_step 6 (some Jvm.ClassFile.FieldType.int) 3 66 0 0 [rfB B 111, .int p1] (I0, h) r1 (o1, h) := by
  refine xr_enterI (lv0 := [(0, rfB B 111), (1, .int p1)]) (by decide) (Nat.le_of_ble_eq_true rfl) rfl (fun g hg C q => ?_)
  subst hg
  exact ebX10_step_0 C H0 q hf
theorem dX10_keepPast_0 : decode cX10_keepPast 0 = .ok (.iconst 0, 1) := by decide +kernel
theorem dX10_keepPast_1 : decode cX10_keepPast 1 = .ok (.istore_n 1, 1) := by decide +kernel
theorem dX10_keepPast_2 : decode cX10_keepPast 2 = .ok (.iload_n 1, 1) := by decide +kernel
theorem dX10_keepPast_3 : decode cX10_keepPast 3 = .ok (.sipush 322, 3) := by decide +kernel
theorem dX10_keepPast_6 : decode cX10_keepPast 6 = .ok (.if_icmp .ge 33, 3) := by decide +kernel
theorem dX10_keepPast_9 : decode cX10_keepPast 9 = .ok (.aload_n 0, 1) := by decide +kernel
theorem dX10_keepPast_10 : decode cX10_keepPast 10 = .ok (.getfield 158, 3) := by decide +kernel
theorem dX10_keepPast_13 : decode cX10_keepPast 13 = .ok (.bipush 24, 2) := by decide +kernel
theorem dX10_keepPast_15 : decode cX10_keepPast 15 = .ok (.if_icmp .ne 24, 3) := by decide +kernel
theorem dX10_keepPast_18 : decode cX10_keepPast 18 = .ok (.aload_n 0, 1) := by decide +kernel
theorem dX10_keepPast_19 : decode cX10_keepPast 19 = .ok (.getfield 13, 3) := by decide +kernel
theorem dX10_keepPast_22 : decode cX10_keepPast 22 = .ok (.iload_n 1, 1) := by decide +kernel
theorem dX10_keepPast_23 : decode cX10_keepPast 23 = .ok (.aload_n 0, 1) := by decide +kernel
theorem dX10_keepPast_24 : decode cX10_keepPast 24 = .ok (.getfield 13, 3) := by decide +kernel
theorem dX10_keepPast_27 : decode cX10_keepPast 27 = .ok (.iload_n 1, 1) := by decide +kernel
theorem dX10_keepPast_28 : decode cX10_keepPast 28 = .ok (.bipush 14, 2) := by decide +kernel
theorem dX10_keepPast_30 : decode cX10_keepPast 30 = .ok (.iadd, 1) := by decide +kernel
theorem dX10_keepPast_31 : decode cX10_keepPast 31 = .ok (.iaload, 1) := by decide +kernel
theorem dX10_keepPast_32 : decode cX10_keepPast 32 = .ok (.iastore, 1) := by decide +kernel
theorem dX10_keepPast_33 : decode cX10_keepPast 33 = .ok (.iinc 1 1, 3) := by decide +kernel
theorem dX10_keepPast_36 : decode cX10_keepPast 36 = .ok (.goto (-34), 3) := by decide +kernel
theorem dX10_keepPast_39 : decode cX10_keepPast 39 = .ok (.aload_n 0, 1) := by decide +kernel
theorem dX10_keepPast_40 : decode cX10_keepPast 40 = .ok (.dup, 1) := by decide +kernel
theorem dX10_keepPast_41 : decode cX10_keepPast 41 = .ok (.getfield 158, 3) := by decide +kernel
theorem dX10_keepPast_44 : decode cX10_keepPast 44 = .ok (.aload_n 0, 1) := by decide +kernel
theorem dX10_keepPast_45 : decode cX10_keepPast 45 = .ok (.getfield 158, 3) := by decide +kernel
theorem dX10_keepPast_48 : decode cX10_keepPast 48 = .ok (.bipush 24, 2) := by decide +kernel
theorem dX10_keepPast_50 : decode cX10_keepPast 50 = .ok (.if_icmp .ne 7, 3) := by decide +kernel
theorem dX10_keepPast_53 : decode cX10_keepPast 53 = .ok (.iconst 1, 1) := by decide +kernel
theorem dX10_keepPast_54 : decode cX10_keepPast 54 = .ok (.goto 4, 3) := by decide +kernel
theorem dX10_keepPast_57 : decode cX10_keepPast 57 = .ok (.iconst 0, 1) := by decide +kernel
theorem dX10_keepPast_58 : decode cX10_keepPast 58 = .ok (.isub, 1) := by decide +kernel
theorem dX10_keepPast_59 : decode cX10_keepPast 59 = .ok (.putfield 158, 3) := by decide +kernel
theorem dX10_keepPast_62 : decode cX10_keepPast 62 = .ok (.iconst 0, 1) := by decide +kernel
theorem dX10_keepPast_63 : decode cX10_keepPast 63 = .ok (.istore_n 1, 1) := by decide +kernel
theorem dX10_keepPast_64 : decode cX10_keepPast 64 = .ok (.iload_n 1, 1) := by decide +kernel
theorem dX10_keepPast_65 : decode cX10_keepPast 65 = .ok (.bipush 14, 2) := by decide +kernel
theorem dX10_keepPast_67 : decode cX10_keepPast 67 = .ok (.if_icmp .ge 32, 3) := by decide +kernel
theorem dX10_keepPast_70 : decode cX10_keepPast 70 = .ok (.aload_n 0, 1) := by decide +kernel
theorem dX10_keepPast_71 : decode cX10_keepPast 71 = .ok (.getfield 13, 3) := by decide +kernel
theorem dX10_keepPast_74 : decode cX10_keepPast 74 = .ok (.bipush 14, 2) := by decide +kernel
theorem dX10_keepPast_76 : decode cX10_keepPast 76 = .ok (.aload_n 0, 1) := by decide +kernel
theorem dX10_keepPast_77 : decode cX10_keepPast 77 = .ok (.getfield 158, 3) := by decide +kernel
theorem dX10_keepPast_80 : decode cX10_keepPast 80 = .ok (.imul, 1) := by decide +kernel
theorem dX10_keepPast_81 : decode cX10_keepPast 81 = .ok (.iload_n 1, 1) := by decide +kernel
theorem dX10_keepPast_82 : decode cX10_keepPast 82 = .ok (.iadd, 1) := by decide +kernel
theorem dX10_keepPast_83 : decode cX10_keepPast 83 = .ok (.aload_n 0, 1) := by decide +kernel
theorem dX10_keepPast_84 : decode cX10_keepPast 84 = .ok (.getfield 7, 3) := by decide +kernel
theorem dX10_keepPast_87 : decode cX10_keepPast 87 = .ok (.bipush 27, 2) := by decide +kernel
theorem dX10_keepPast_89 : decode cX10_keepPast 89 = .ok (.iload_n 1, 1) := by decide +kernel
theorem dX10_keepPast_90 : decode cX10_keepPast 90 = .ok (.iadd, 1) := by decide +kernel
theorem dX10_keepPast_91 : decode cX10_keepPast 91 = .ok (.iaload, 1) := by decide +kernel
theorem dX10_keepPast_92 : decode cX10_keepPast 92 = .ok (.iastore, 1) := by decide +kernel
theorem dX10_keepPast_93 : decode cX10_keepPast 93 = .ok (.iinc 1 1, 3) := by decide +kernel
theorem dX10_keepPast_96 : decode cX10_keepPast 96 = .ok (.goto (-32), 3) := by decide +kernel
theorem dX10_keepPast_99 : decode cX10_keepPast 99 = .ok (.aload_n 0, 1) := by decide +kernel
theorem dX10_keepPast_100 : decode cX10_keepPast 100 = .ok (.dup, 1) := by decide +kernel
theorem dX10_keepPast_101 : decode cX10_keepPast 101 = .ok (.getfield 158, 3) := by decide +kernel
theorem dX10_keepPast_104 : decode cX10_keepPast 104 = .ok (.iconst 1, 1) := by decide +kernel
theorem dX10_keepPast_105 : decode cX10_keepPast 105 = .ok (.iadd, 1) := by decide +kernel
theorem dX10_keepPast_106 : decode cX10_keepPast 106 = .ok (.putfield 158, 3) := by decide +kernel
theorem dX10_keepPast_109 : decode cX10_keepPast 109 = .ok (.return_, 1) := by decide +kernel
/-! BumperBallsModel.keepPast()V -/
def fnX10_keepPast_64b (rec64 : Mem → Int32 → Option Mem) (I0 : Mem) (l1 : Int32) : Option Mem :=
  if 14 ≤ l1 then (bnd (up2 I0 111 2 ((I0 111 2) + 1)) fun I2 => some I2) else (ck (inb ((27 : Int32) + l1) 164) <| ck (inb (((14 : Int32) * (I0 111 2)) + l1) 336) <| bnd (up2 I0 113 (ix (((14 : Int32) * (I0 111 2)) + l1)) (I0 112 (ix ((27 : Int32) + l1)))) fun I5 => bnd (l1 + 1) fun v6 => rec64 I5 v6)
def fnX10_keepPast_64 : Nat → Mem → Int32 → Option Mem
  | 0 => fun _ _ => none
  | fu + 1 => fnX10_keepPast_64b (fnX10_keepPast_64 fu)
set_option maxRecDepth 20000 in
set_option maxHeartbeats 2000000 in
theorem ebX10_keepPast_64b {g : Cfg} (C : Cx g RX10 cX10_keepPast 2 0 0 0 0) {h : Shp} (H0 : MAt h) {o1 : Mem} {rec64 : Mem → Int32 → Option Mem} (q : QV g 0 0 (o1, h)) (ih64 : ∀ (I0 : Mem) (l1 : Int32), rec64 I0 l1 = some o1 → XE g 0 0 (I0, h) 64 [(0, rf g 111), (1, .int l1)] []) {I0 : Mem} {l1 : Int32} (hf : fnX10_keepPast_64b rec64 I0 l1 = some o1) : XE g 0 0 (I0, h) 64 [(0, rf g 111), (1, .int l1)] [] := by
  unfold fnX10_keepPast_64b at hf
  refine xr_iload_n C dX10_keepPast_64 1 rfl rfl ?_
  refine xr_bipush (v := 14) C dX10_keepPast_65 (by decide) ?_
  refine xr_icmp_ge (tgt := 99) C dX10_keepPast_67 (by decide) hf (fun c1 hf => ?_) (fun c1 hf => ?_)
  · refine xr_aload_n C dX10_keepPast_99 0 rfl rfl ?_
    refine xr_dup C dX10_keepPast_100 rfl ?_
    refine xr_geti C Kd10 (k := 2) (by decide) rfl wk_823 rfl H0.1 dX10_keepPast_101 ?_
    refine xr_iconst (v := 1) C dX10_keepPast_104 (by decide) ?_
    refine xr_iadd C dX10_keepPast_105 ?_
    obtain ⟨I2, eI2, hf⟩ := bnd_x hf
    refine xr_putI C Kd10 (k := 2) (by decide) rfl rfl wk_823 rfl rfl rfl H0.1 dX10_keepPast_106 eI2 ?_
    exact xr_return C q dX10_keepPast_109 (so_v hf)
  · refine xr_aload_n C dX10_keepPast_70 0 rfl rfl ?_
    refine xr_getr C Kd10 (k := 1) (by decide) rfl wk_822 rfl H0.1 H0.2.2.1.1 dX10_keepPast_71 ?_
    refine xr_bipush (v := 14) C dX10_keepPast_74 (by decide) ?_
    refine xr_aload_n C dX10_keepPast_76 0 rfl rfl ?_
    refine xr_geti C Kd10 (k := 2) (by decide) rfl wk_823 rfl H0.1 dX10_keepPast_77 ?_
    refine xr_imul C dX10_keepPast_80 ?_
    refine xr_iload_n C dX10_keepPast_81 1 rfl rfl ?_
    refine xr_iadd C dX10_keepPast_82 ?_
    refine xr_aload_n C dX10_keepPast_83 0 rfl rfl ?_
    refine xr_getr C Kd10 (k := 0) (by decide) rfl wk_821 rfl H0.1 H0.2.1.1 dX10_keepPast_84 ?_
    refine xr_bipush (v := 27) C dX10_keepPast_87 (by decide) ?_
    refine xr_iload_n C dX10_keepPast_89 1 rfl rfl ?_
    refine xr_iadd C dX10_keepPast_90 ?_
    obtain ⟨i3, hf⟩ := ck_x hf
    refine xr_iald C H0.2.1.2 i3 dX10_keepPast_91 ?_
    obtain ⟨i4, hf⟩ := ck_x hf
    obtain ⟨I5, eI5, hf⟩ := bnd_x hf
    refine xr_iast C H0.2.2.1.2 i4 dX10_keepPast_92 eI5 ?_
    obtain ⟨v6, ev6, hf⟩ := bnd_x hf
    refine xr_iinc (k := 1) (v := v6) C dX10_keepPast_93 rfl (by rw [ev6]; rfl) (by decide) rfl ?_
    refine xr_goto (tgt := 64) C dX10_keepPast_96 (by decide) ?_
    refine xr_lv [1, 0] rfl ?_
    exact ih64 _ _ hf
theorem ebX10_keepPast_64 {g : Cfg} (C : Cx g RX10 cX10_keepPast 2 0 0 0 0) {h : Shp} (H0 : MAt h) {o1 : Mem} (q : QV g 0 0 (o1, h)) : ∀ (fu : Nat) {I0 : Mem} {l1 : Int32} (hf : fnX10_keepPast_64 fu I0 l1 = some o1), XE g 0 0 (I0, h) 64 [(0, rf g 111), (1, .int l1)] [] := by
  intro fu
  induction fu with
  | zero =>
    intro I0 l1 hf
    cases hf
  | succ fu ihn =>
    intro I0 l1 hf
    exact ebX10_keepPast_64b C H0 q (fun _ _ hf => ihn hf) hf
def fnX10_keepPast_58 (I0 : Mem) (t1 : Int32) (t2 : Int32) : Option Mem :=
  bnd (up2 I0 111 2 (t1 - t2)) fun I1 => fnX10_keepPast_64 FU I1 0
set_option maxRecDepth 20000 in
set_option maxHeartbeats 2000000 in
theorem ebX10_keepPast_58 {g : Cfg} (C : Cx g RX10 cX10_keepPast 2 0 0 0 0) {h : Shp} (H0 : MAt h) {o1 : Mem} (q : QV g 0 0 (o1, h)) {I0 : Mem} {t1 : Int32} {t2 : Int32} (hf : fnX10_keepPast_58 I0 t1 t2 = some o1) : XE g 0 0 (I0, h) 58 [(0, rf g 111)] [.int t2, .int t1, rf g 111] := by
  unfold fnX10_keepPast_58 at hf
  refine xr_isub C dX10_keepPast_58 ?_
  obtain ⟨I1, eI1, hf⟩ := bnd_x hf
  refine xr_putI C Kd10 (k := 2) (by decide) rfl rfl wk_823 rfl rfl rfl H0.1 dX10_keepPast_59 eI1 ?_
  refine xr_iconst (v := 0) C dX10_keepPast_62 (by decide) ?_
  refine xr_istore_n C dX10_keepPast_63 rfl (by decide) rfl ?_
  refine xr_lv [1, 0] rfl ?_
  exact ebX10_keepPast_64 C H0 q _ hf
def fnX10_keepPast_39 (I0 : Mem) : Option Mem :=
  if (I0 111 2) = 24 then (fnX10_keepPast_58 I0 (I0 111 2) 1) else (fnX10_keepPast_58 I0 (I0 111 2) 0)
set_option maxRecDepth 20000 in
set_option maxHeartbeats 2000000 in
theorem ebX10_keepPast_39 {g : Cfg} (C : Cx g RX10 cX10_keepPast 2 0 0 0 0) {h : Shp} (H0 : MAt h) {o1 : Mem} (q : QV g 0 0 (o1, h)) {I0 : Mem} (hf : fnX10_keepPast_39 I0 = some o1) : XE g 0 0 (I0, h) 39 [(0, rf g 111)] [] := by
  unfold fnX10_keepPast_39 at hf
  refine xr_aload_n C dX10_keepPast_39 0 rfl rfl ?_
  refine xr_dup C dX10_keepPast_40 rfl ?_
  refine xr_geti C Kd10 (k := 2) (by decide) rfl wk_823 rfl H0.1 dX10_keepPast_41 ?_
  refine xr_aload_n C dX10_keepPast_44 0 rfl rfl ?_
  refine xr_geti C Kd10 (k := 2) (by decide) rfl wk_823 rfl H0.1 dX10_keepPast_45 ?_
  refine xr_bipush (v := 24) C dX10_keepPast_48 (by decide) ?_
  refine xr_icmp_ne (tgt := 57) C dX10_keepPast_50 (by decide) hf (fun c1 hf => ?_) (fun c1 hf => ?_)
  · refine xr_iconst (v := 0) C dX10_keepPast_57 (by decide) ?_
    exact ebX10_keepPast_58 C H0 q hf
  · refine xr_iconst (v := 1) C dX10_keepPast_53 (by decide) ?_
    refine xr_goto (tgt := 58) C dX10_keepPast_54 (by decide) ?_
    exact ebX10_keepPast_58 C H0 q hf
def fnX10_keepPast_2b (rec2 : Mem → Int32 → Option Mem) (I0 : Mem) (l1 : Int32) : Option Mem :=
  if 322 ≤ l1 then (fnX10_keepPast_39 I0) else (if (I0 111 2) = 24 then (ck (inb (l1 + 14) 336) <| ck (inb l1 336) <| bnd (up2 I0 113 (ix l1) (I0 113 (ix (l1 + 14)))) fun I5 => bnd (l1 + 1) fun v6 => rec2 I5 v6) else (fnX10_keepPast_39 I0))
def fnX10_keepPast_2 : Nat → Mem → Int32 → Option Mem
  | 0 => fun _ _ => none
  | fu + 1 => fnX10_keepPast_2b (fnX10_keepPast_2 fu)
set_option maxRecDepth 20000 in
set_option maxHeartbeats 2000000 in
theorem ebX10_keepPast_2b {g : Cfg} (C : Cx g RX10 cX10_keepPast 2 0 0 0 0) {h : Shp} (H0 : MAt h) {o1 : Mem} {rec2 : Mem → Int32 → Option Mem} (q : QV g 0 0 (o1, h)) (ih2 : ∀ (I0 : Mem) (l1 : Int32), rec2 I0 l1 = some o1 → XE g 0 0 (I0, h) 2 [(0, rf g 111), (1, .int l1)] []) {I0 : Mem} {l1 : Int32} (hf : fnX10_keepPast_2b rec2 I0 l1 = some o1) : XE g 0 0 (I0, h) 2 [(0, rf g 111), (1, .int l1)] [] := by
  unfold fnX10_keepPast_2b at hf
  refine xr_iload_n C dX10_keepPast_2 1 rfl rfl ?_
  refine xr_sipush (v := 322) C dX10_keepPast_3 (by decide) ?_
  refine xr_icmp_ge (tgt := 39) C dX10_keepPast_6 (by decide) hf (fun c1 hf => ?_) (fun c1 hf => ?_)
  · refine xr_lv [0] rfl ?_
    exact ebX10_keepPast_39 C H0 q hf
  · refine xr_aload_n C dX10_keepPast_9 0 rfl rfl ?_
    refine xr_geti C Kd10 (k := 2) (by decide) rfl wk_823 rfl H0.1 dX10_keepPast_10 ?_
    refine xr_bipush (v := 24) C dX10_keepPast_13 (by decide) ?_
    refine xr_icmp_ne (tgt := 39) C dX10_keepPast_15 (by decide) hf (fun c2 hf => ?_) (fun c2 hf => ?_)
    · refine xr_lv [0] rfl ?_
      exact ebX10_keepPast_39 C H0 q hf
    · refine xr_aload_n C dX10_keepPast_18 0 rfl rfl ?_
      refine xr_getr C Kd10 (k := 1) (by decide) rfl wk_822 rfl H0.1 H0.2.2.1.1 dX10_keepPast_19 ?_
      refine xr_iload_n C dX10_keepPast_22 1 rfl rfl ?_
      refine xr_aload_n C dX10_keepPast_23 0 rfl rfl ?_
      refine xr_getr C Kd10 (k := 1) (by decide) rfl wk_822 rfl H0.1 H0.2.2.1.1 dX10_keepPast_24 ?_
      refine xr_iload_n C dX10_keepPast_27 1 rfl rfl ?_
      refine xr_bipush (v := 14) C dX10_keepPast_28 (by decide) ?_
      refine xr_iadd C dX10_keepPast_30 ?_
      obtain ⟨i3, hf⟩ := ck_x hf
      refine xr_iald C H0.2.2.1.2 i3 dX10_keepPast_31 ?_
      obtain ⟨i4, hf⟩ := ck_x hf
      obtain ⟨I5, eI5, hf⟩ := bnd_x hf
      refine xr_iast C H0.2.2.1.2 i4 dX10_keepPast_32 eI5 ?_
      obtain ⟨v6, ev6, hf⟩ := bnd_x hf
      refine xr_iinc (k := 1) (v := v6) C dX10_keepPast_33 rfl (by rw [ev6]; rfl) (by decide) rfl ?_
      refine xr_goto (tgt := 2) C dX10_keepPast_36 (by decide) ?_
      refine xr_lv [1, 0] rfl ?_
      exact ih2 _ _ hf
theorem ebX10_keepPast_2 {g : Cfg} (C : Cx g RX10 cX10_keepPast 2 0 0 0 0) {h : Shp} (H0 : MAt h) {o1 : Mem} (q : QV g 0 0 (o1, h)) : ∀ (fu : Nat) {I0 : Mem} {l1 : Int32} (hf : fnX10_keepPast_2 fu I0 l1 = some o1), XE g 0 0 (I0, h) 2 [(0, rf g 111), (1, .int l1)] [] := by
  intro fu
  induction fu with
  | zero =>
    intro I0 l1 hf
    cases hf
  | succ fu ihn =>
    intro I0 l1 hf
    exact ebX10_keepPast_2b C H0 q (fun _ _ hf => ihn hf) hf
def fnX10_keepPast (I0 : Mem) : Option Mem :=
  fnX10_keepPast_2 FU I0 0
set_option maxRecDepth 20000 in
set_option maxHeartbeats 2000000 in
theorem ebX10_keepPast_0 {g : Cfg} (C : Cx g RX10 cX10_keepPast 2 0 0 0 0) {h : Shp} (H0 : MAt h) {o1 : Mem} (q : QV g 0 0 (o1, h)) {I0 : Mem} (hf : fnX10_keepPast I0 = some o1) : XE g 0 0 (I0, h) 0 [(0, rf g 111)] [] := by
  unfold fnX10_keepPast at hf
  refine xr_iconst (v := 0) C dX10_keepPast_0 (by decide) ?_
  refine xr_istore_n C dX10_keepPast_1 rfl (by decide) rfl ?_
  refine xr_lv [1, 0] rfl ?_
  exact ebX10_keepPast_2 C H0 q _ hf
theorem kX10_keepPast {B : Bs} {h : Shp} (H0 : MAt h) {I0 : Mem} {o1 : Mem} (hf : fnX10_keepPast I0 = some o1) : CtrV B yX10_keepPast cX10_keepPast 2 0 0 0 0 [rfB B 111] (I0, h) (o1, h) := by
  refine xr_enterV (lv0 := [(0, rfB B 111)]) (by decide) (Nat.le_of_ble_eq_true rfl) rfl (fun g hg C q => ?_)
  subst hg
  exact ebX10_keepPast_0 C H0 q hf
theorem dX10_isGone_0 : decode cX10_isGone 0 = .ok (.aload_n 0, 1) := by decide +kernel
theorem dX10_isGone_1 : decode cX10_isGone 1 = .ok (.getfield 7, 3) := by decide +kernel
theorem dX10_isGone_4 : decode cX10_isGone 4 = .ok (.iconst 0, 1) := by decide +kernel
theorem dX10_isGone_5 : decode cX10_isGone 5 = .ok (.iaload, 1) := by decide +kernel
theorem dX10_isGone_6 : decode cX10_isGone 6 = .ok (.ifCond .eq 14, 3) := by decide +kernel
theorem dX10_isGone_9 : decode cX10_isGone 9 = .ok (.aload_n 0, 1) := by decide +kernel
theorem dX10_isGone_10 : decode cX10_isGone 10 = .ok (.getfield 7, 3) := by decide +kernel
theorem dX10_isGone_13 : decode cX10_isGone 13 = .ok (.bipush 29, 2) := by decide +kernel
theorem dX10_isGone_15 : decode cX10_isGone 15 = .ok (.iaload, 1) := by decide +kernel
theorem dX10_isGone_16 : decode cX10_isGone 16 = .ok (.iconst 1, 1) := by decide +kernel
theorem dX10_isGone_17 : decode cX10_isGone 17 = .ok (.if_icmp .ne 7, 3) := by decide +kernel
theorem dX10_isGone_20 : decode cX10_isGone 20 = .ok (.iconst 1, 1) := by decide +kernel
theorem dX10_isGone_21 : decode cX10_isGone 21 = .ok (.goto 4, 3) := by decide +kernel
theorem dX10_isGone_24 : decode cX10_isGone 24 = .ok (.iconst 0, 1) := by decide +kernel
theorem dX10_isGone_25 : decode cX10_isGone 25 = .ok (.ireturn, 1) := by decide +kernel
/-! BumperBallsModel.isGone()Z -/
def fnX10_isGone_25 (I0 : Mem) (t0 : Int32) : Option (Int32 × Mem) :=
  ck (zb t0) <| some (t0, I0)
set_option maxRecDepth 20000 in
set_option maxHeartbeats 2000000 in
theorem ebX10_isGone_25 {g : Cfg} (C : Cx g RX10 cX10_isGone 1 0 0 0 0) {h : Shp} (H0 : MAt h) {r1 : Int32} {o1 : Mem} (q : QI g (some Jvm.ClassFile.FieldType.boolean) 0 0 r1 (o1, h)) {I0 : Mem} {t0 : Int32} (hf : fnX10_isGone_25 I0 t0 = some (r1, o1)) : XE g 0 0 (I0, h) 25 [] [.int t0] := by
  unfold fnX10_isGone_25 at hf
  obtain ⟨z1, hf⟩ := ck_x hf
  exact xr_ireturn C q rfl (zb_ok z1).1 dX10_isGone_25 (so_1 hf) (so_w hf)
def fnX10_isGone_20 (I0 : Mem) : Option (Int32 × Mem) :=
  fnX10_isGone_25 I0 1
set_option maxRecDepth 20000 in
set_option maxHeartbeats 2000000 in
theorem ebX10_isGone_20 {g : Cfg} (C : Cx g RX10 cX10_isGone 1 0 0 0 0) {h : Shp} (H0 : MAt h) {r1 : Int32} {o1 : Mem} (q : QI g (some Jvm.ClassFile.FieldType.boolean) 0 0 r1 (o1, h)) {I0 : Mem} (hf : fnX10_isGone_20 I0 = some (r1, o1)) : XE g 0 0 (I0, h) 20 [] [] := by
  unfold fnX10_isGone_20 at hf
  refine xr_iconst (v := 1) C dX10_isGone_20 (by decide) ?_
  refine xr_goto (tgt := 25) C dX10_isGone_21 (by decide) ?_
  exact ebX10_isGone_25 C H0 q hf
def fnX10_isGone (I0 : Mem) : Option (Int32 × Mem) :=
  ck (inb 0 164) <| if (I0 112 (ix 0)) = 0 then (fnX10_isGone_20 I0) else (ck (inb 29 164) <| if (I0 112 (ix 29)) = 1 then (fnX10_isGone_20 I0) else (fnX10_isGone_25 I0 0))
set_option maxRecDepth 20000 in
set_option maxHeartbeats 2000000 in
theorem ebX10_isGone_0 {g : Cfg} (C : Cx g RX10 cX10_isGone 1 0 0 0 0) {h : Shp} (H0 : MAt h) {r1 : Int32} {o1 : Mem} (q : QI g (some Jvm.ClassFile.FieldType.boolean) 0 0 r1 (o1, h)) {I0 : Mem} (hf : fnX10_isGone I0 = some (r1, o1)) : XE g 0 0 (I0, h) 0 [(0, rf g 111)] [] := by
  unfold fnX10_isGone at hf
  refine xr_aload_n C dX10_isGone_0 0 rfl rfl ?_
  refine xr_getr C Kd10 (k := 0) (by decide) rfl wk_821 rfl H0.1 H0.2.1.1 dX10_isGone_1 ?_
  refine xr_iconst (v := 0) C dX10_isGone_4 (by decide) ?_
  obtain ⟨i1, hf⟩ := ck_x hf
  refine xr_iald C H0.2.1.2 i1 dX10_isGone_5 ?_
  refine xr_if_eq (tgt := 20) C dX10_isGone_6 (by decide) hf (fun c2 hf => ?_) (fun c2 hf => ?_)
  · refine xr_lv [] rfl ?_
    exact ebX10_isGone_20 C H0 q hf
  · refine xr_aload_n C dX10_isGone_9 0 rfl rfl ?_
    refine xr_getr C Kd10 (k := 0) (by decide) rfl wk_821 rfl H0.1 H0.2.1.1 dX10_isGone_10 ?_
    refine xr_bipush (v := 29) C dX10_isGone_13 (by decide) ?_
    obtain ⟨i3, hf⟩ := ck_x hf
    refine xr_iald C H0.2.1.2 i3 dX10_isGone_15 ?_
    refine xr_iconst (v := 1) C dX10_isGone_16 (by decide) ?_
    refine xr_icmp_ne (tgt := 24) C dX10_isGone_17 (by decide) hf (fun c4 hf => ?_) (fun c4 hf => ?_)
    · refine xr_iconst (v := 0) C dX10_isGone_24 (by decide) ?_
      refine xr_lv [] rfl ?_
      exact ebX10_isGone_25 C H0 q hf
    · refine xr_lv [] rfl ?_
      exact ebX10_isGone_20 C H0 q hf
theorem kX10_isGone {B : Bs} {h : Shp} (H0 : MAt h) {I0 : Mem} {r1 : Int32} {o1 : Mem} (hf : fnX10_isGone I0 = some (r1, o1)) : CtrI B yX10_isGone cX10_isGone 1 (some Jvm.ClassFile.FieldType.boolean) 0 0 0 0 [rfB B 111] (I0, h) r1 (o1, h) := by
  refine xr_enterI (lv0 := [(0, rfB B 111)]) (by decide) (Nat.le_of_ble_eq_true rfl) rfl (fun g hg C q => ?_)
  subst hg
  exact ebX10_isGone_0 C H0 q hf
theorem dX10_steps_0 : decode cX10_steps 0 = .ok (.aload_n 0, 1) := by decide +kernel
theorem dX10_steps_1 : decode cX10_steps 1 = .ok (.getfield 7, 3) := by decide +kernel
theorem dX10_steps_4 : decode cX10_steps 4 = .ok (.iconst 0, 1) := by decide +kernel
theorem dX10_steps_5 : decode cX10_steps 5 = .ok (.iaload, 1) := by decide +kernel
theorem dX10_steps_6 : decode cX10_steps 6 = .ok (.ifCond .ne 6, 3) := by decide +kernel
theorem dX10_steps_9 : decode cX10_steps 9 = .ok (.ldc 176, 2) := by decide +kernel
theorem dX10_steps_11 : decode cX10_steps 11 = .ok (.ireturn, 1) := by decide +kernel
theorem dX10_steps_12 : decode cX10_steps 12 = .ok (.iload_n 1, 1) := by decide +kernel
theorem dX10_steps_13 : decode cX10_steps 13 = .ok (.i2l, 1) := by decide +kernel
theorem dX10_steps_14 : decode cX10_steps 14 = .ok (.lconst 1, 1) := by decide +kernel
theorem dX10_steps_15 : decode cX10_steps 15 = .ok (.ldc2_w 177, 3) := by decide +kernel
theorem dX10_steps_18 : decode cX10_steps 18 = .ok (.invokestatic 48, 3) := by decide +kernel
theorem dX10_steps_21 : decode cX10_steps 21 = .ok (.ifCond .ne 6, 3) := by decide +kernel
theorem dX10_steps_24 : decode cX10_steps 24 = .ok (.ldc 58, 2) := by decide +kernel
theorem dX10_steps_26 : decode cX10_steps 26 = .ok (.ireturn, 1) := by decide +kernel
theorem dX10_steps_27 : decode cX10_steps 27 = .ok (.aload_n 0, 1) := by decide +kernel
theorem dX10_steps_28 : decode cX10_steps 28 = .ok (.getfield 7, 3) := by decide +kernel
theorem dX10_steps_31 : decode cX10_steps 31 = .ok (.bipush 29, 2) := by decide +kernel
theorem dX10_steps_33 : decode cX10_steps 33 = .ok (.iaload, 1) := by decide +kernel
theorem dX10_steps_34 : decode cX10_steps 34 = .ok (.iconst 1, 1) := by decide +kernel
theorem dX10_steps_35 : decode cX10_steps 35 = .ok (.if_icmp .ne 6, 3) := by decide +kernel
theorem dX10_steps_38 : decode cX10_steps 38 = .ok (.ldc 176, 2) := by decide +kernel
theorem dX10_steps_40 : decode cX10_steps 40 = .ok (.ireturn, 1) := by decide +kernel
theorem dX10_steps_41 : decode cX10_steps 41 = .ok (.aload_n 0, 1) := by decide +kernel
theorem dX10_steps_42 : decode cX10_steps 42 = .ok (.getfield 7, 3) := by decide +kernel
theorem dX10_steps_45 : decode cX10_steps 45 = .ok (.bipush 33, 2) := by decide +kernel
theorem dX10_steps_47 : decode cX10_steps 47 = .ok (.iaload, 1) := by decide +kernel
theorem dX10_steps_48 : decode cX10_steps 48 = .ok (.iload_n 1, 1) := by decide +kernel
theorem dX10_steps_49 : decode cX10_steps 49 = .ok (.iadd, 1) := by decide +kernel
theorem dX10_steps_50 : decode cX10_steps 50 = .ok (.sipush 9999, 3) := by decide +kernel
theorem dX10_steps_53 : decode cX10_steps 53 = .ok (.if_icmp .le 6, 3) := by decide +kernel
theorem dX10_steps_56 : decode cX10_steps 56 = .ok (.ldc 75, 2) := by decide +kernel
theorem dX10_steps_58 : decode cX10_steps 58 = .ok (.ireturn, 1) := by decide +kernel
theorem dX10_steps_59 : decode cX10_steps 59 = .ok (.iconst 0, 1) := by decide +kernel
theorem dX10_steps_60 : decode cX10_steps 60 = .ok (.istore_n 2, 1) := by decide +kernel
theorem dX10_steps_61 : decode cX10_steps 61 = .ok (.iload_n 2, 1) := by decide +kernel
theorem dX10_steps_62 : decode cX10_steps 62 = .ok (.iload_n 1, 1) := by decide +kernel
theorem dX10_steps_63 : decode cX10_steps 63 = .ok (.if_icmp .ge 29, 3) := by decide +kernel
theorem dX10_steps_66 : decode cX10_steps 66 = .ok (.aload_n 0, 1) := by decide +kernel
theorem dX10_steps_67 : decode cX10_steps 67 = .ok (.getfield 7, 3) := by decide +kernel
theorem dX10_steps_70 : decode cX10_steps 70 = .ok (.bipush 29, 2) := by decide +kernel
theorem dX10_steps_72 : decode cX10_steps 72 = .ok (.iaload, 1) := by decide +kernel
theorem dX10_steps_73 : decode cX10_steps 73 = .ok (.ifCond .ne 19, 3) := by decide +kernel
theorem dX10_steps_76 : decode cX10_steps 76 = .ok (.aload_n 0, 1) := by decide +kernel
theorem dX10_steps_77 : decode cX10_steps 77 = .ok (.invokevirtual 179, 3) := by decide +kernel
theorem dX10_steps_80 : decode cX10_steps 80 = .ok (.aload_n 0, 1) := by decide +kernel
theorem dX10_steps_81 : decode cX10_steps 81 = .ok (.iconst 0, 1) := by decide +kernel
theorem dX10_steps_82 : decode cX10_steps 82 = .ok (.invokevirtual 182, 3) := by decide +kernel
theorem dX10_steps_85 : decode cX10_steps 85 = .ok (.pop, 1) := by decide +kernel
theorem dX10_steps_86 : decode cX10_steps 86 = .ok (.iinc 2 1, 3) := by decide +kernel
theorem dX10_steps_89 : decode cX10_steps 89 = .ok (.goto (-28), 3) := by decide +kernel
theorem dX10_steps_92 : decode cX10_steps 92 = .ok (.iload_n 2, 1) := by decide +kernel
theorem dX10_steps_93 : decode cX10_steps 93 = .ok (.ireturn, 1) := by decide +kernel
theorem lkX10_179 : LkV "BumperBallsModel" 179 yX10_keepPast cX10_keepPast 2 none 0 := ⟨wk_1016, wk_11, wk_1015, wk_s79, ⟨by decide +kernel, by decide +kernel, by decide +kernel⟩, wk_1013⟩
theorem lkX10_182 : LkV "BumperBallsModel" 182 yX10_step cX10_step 6 (some Jvm.ClassFile.FieldType.int) 1 := ⟨wk_1020, wk_11, wk_1019, wk_s80, ⟨by decide +kernel, by decide +kernel, by decide +kernel⟩, wk_1017⟩
/-! BumperBallsModel.steps(I)I -/
def fnX10_steps_92 (I0 : Mem) (l2 : Int32) : Option (Int32 × Mem) :=
  some (l2, I0)
set_option maxRecDepth 20000 in
set_option maxHeartbeats 2000000 in
theorem ebX10_steps_92 {g : Cfg} (C : Cx g RX10 cX10_steps 3 4 91 0 0) {h : Shp} (H0 : MAt h) {r1 : Int32} {o1 : Mem} (q : QI g (some Jvm.ClassFile.FieldType.int) 0 0 r1 (o1, h)) {I0 : Mem} {l2 : Int32} (hf : fnX10_steps_92 I0 l2 = some (r1, o1)) : XE g 0 0 (I0, h) 92 [(2, .int l2)] [] := by
  unfold fnX10_steps_92 at hf
  refine xr_iload_n C dX10_steps_92 0 rfl rfl ?_
  exact xr_ireturn C q rfl rfl dX10_steps_93 (so_1 hf) (so_w hf)
def fnX10_steps_61b (rec61 : Mem → Int32 → Int32 → Option (Int32 × Mem)) (I0 : Mem) (l1 : Int32) (l2 : Int32) : Option (Int32 × Mem) :=
  if l1 ≤ l2 then (fnX10_steps_92 I0 l2) else (ck (inb 29 164) <| if (I0 112 (ix 29)) = 0 then (ob (fnX10_keepPast I0) fun I5 => ob (fnX10_step I5 0) fun ⟨r8, I7⟩ => bnd (l2 + 1) fun v9 => rec61 I7 l1 v9) else (fnX10_steps_92 I0 l2))
def fnX10_steps_61 : Nat → Mem → Int32 → Int32 → Option (Int32 × Mem)
  | 0 => fun _ _ _ => none
  | fu + 1 => fnX10_steps_61b (fnX10_steps_61 fu)
set_option maxRecDepth 20000 in
set_option maxHeartbeats 2000000 in
theorem ebX10_steps_61b {g : Cfg} (C : Cx g RX10 cX10_steps 3 4 91 0 0) {h : Shp} (H0 : MAt h) {r1 : Int32} {o1 : Mem} {rec61 : Mem → Int32 → Int32 → Option (Int32 × Mem)} (q : QI g (some Jvm.ClassFile.FieldType.int) 0 0 r1 (o1, h)) (ih61 : ∀ (I0 : Mem) (l1 : Int32) (l2 : Int32), rec61 I0 l1 l2 = some (r1, o1) → XE g 0 0 (I0, h) 61 [(0, rf g 111), (1, .int l1), (2, .int l2)] []) {I0 : Mem} {l1 : Int32} {l2 : Int32} (hf : fnX10_steps_61b rec61 I0 l1 l2 = some (r1, o1)) : XE g 0 0 (I0, h) 61 [(0, rf g 111), (1, .int l1), (2, .int l2)] [] := by
  unfold fnX10_steps_61b at hf
  refine xr_iload_n C dX10_steps_61 2 rfl rfl ?_
  refine xr_iload_n C dX10_steps_62 1 rfl rfl ?_
  refine xr_icmp_ge (tgt := 92) C dX10_steps_63 (by decide) hf (fun c1 hf => ?_) (fun c1 hf => ?_)
  · refine xr_lv [2] rfl ?_
    exact ebX10_steps_92 C H0 q hf
  · refine xr_aload_n C dX10_steps_66 0 rfl rfl ?_
    refine xr_getr C Kd10 (k := 0) (by decide) rfl wk_821 rfl H0.1 H0.2.1.1 dX10_steps_67 ?_
    refine xr_bipush (v := 29) C dX10_steps_70 (by decide) ?_
    obtain ⟨i2, hf⟩ := ck_x hf
    refine xr_iald C H0.2.1.2 i2 dX10_steps_72 ?_
    refine xr_if_ne (tgt := 92) C dX10_steps_73 (by decide) hf (fun c3 hf => ?_) (fun c3 hf => ?_)
    · refine xr_lv [2] rfl ?_
      exact ebX10_steps_92 C H0 q hf
    · refine xr_aload_n C dX10_steps_76 0 rfl rfl ?_
      obtain ⟨I5, h4, hf⟩ := ob_x hf
      refine xr_callVV C [] lkX10_179 (kX10_keepPast H0 h4) Kd10 rfl H0.1 rfl (Nat.le_of_ble_eq_true rfl) rfl dX10_steps_77 ⟨by decide, by decide, by decide⟩ rfl ?_
      refine xr_aload_n C dX10_steps_80 0 rfl rfl ?_
      refine xr_iconst (v := 0) C dX10_steps_81 (by decide) ?_
      obtain ⟨⟨r8, I7⟩, h6, hf⟩ := ob_x hf
      refine xr_callVI C [.int 0] lkX10_182 (kX10_step H0 h6) Kd10 rfl H0.1 rfl (Nat.le_of_ble_eq_true rfl) rfl dX10_steps_82 ⟨by decide, by decide, by decide⟩ rfl ?_
      refine xr_pop C dX10_steps_85 rfl ?_
      obtain ⟨v9, ev9, hf⟩ := bnd_x hf
      refine xr_iinc (k := 2) (v := v9) C dX10_steps_86 rfl (by rw [ev9]; rfl) (by decide) rfl ?_
      refine xr_goto (tgt := 61) C dX10_steps_89 (by decide) ?_
      refine xr_lv [1, 2, 0] rfl ?_
      exact ih61 _ _ _ hf
theorem ebX10_steps_61 {g : Cfg} (C : Cx g RX10 cX10_steps 3 4 91 0 0) {h : Shp} (H0 : MAt h) {r1 : Int32} {o1 : Mem} (q : QI g (some Jvm.ClassFile.FieldType.int) 0 0 r1 (o1, h)) : ∀ (fu : Nat) {I0 : Mem} {l1 : Int32} {l2 : Int32} (hf : fnX10_steps_61 fu I0 l1 l2 = some (r1, o1)), XE g 0 0 (I0, h) 61 [(0, rf g 111), (1, .int l1), (2, .int l2)] [] := by
  intro fu
  induction fu with
  | zero =>
    intro I0 l1 l2 hf
    cases hf
  | succ fu ihn =>
    intro I0 l1 l2 hf
    exact ebX10_steps_61b C H0 q (fun _ _ _ hf => ihn hf) hf
def fnX10_steps (I0 : Mem) (p1 : Int32) : Option (Int32 × Mem) :=
  ck (inb 0 164) <| if (I0 112 (ix 0)) = 0 then (some ((-1000002), I0)) else (ob (fnX10_in I0 (p1.toInt64) 1 24) fun ⟨r5, I4⟩ => if r5 = 0 then (some ((-1000001), I4)) else (ck (inb 29 164) <| if (I4 112 (ix 29)) = 1 then (some ((-1000002), I4)) else (ck (inb 33 164) <| if ((I4 112 (ix 33)) + p1) ≤ 9999 then (fnX10_steps_61 FU I4 p1 0) else (some ((-1000003), I4)))))
set_option maxRecDepth 20000 in
set_option maxHeartbeats 2000000 in
theorem ebX10_steps_0 {g : Cfg} (C : Cx g RX10 cX10_steps 3 4 91 0 0) {h : Shp} (H0 : MAt h) {r1 : Int32} {o1 : Mem} (q : QI g (some Jvm.ClassFile.FieldType.int) 0 0 r1 (o1, h)) {I0 : Mem} {p1 : Int32} (hf : fnX10_steps I0 p1 = some (r1, o1)) : XE g 0 0 (I0, h) 0 [(0, rf g 111), (1, .int p1)] [] := by
  unfold fnX10_steps at hf
  refine xr_aload_n C dX10_steps_0 0 rfl rfl ?_
  refine xr_getr C Kd10 (k := 0) (by decide) rfl wk_821 rfl H0.1 H0.2.1.1 dX10_steps_1 ?_
  refine xr_iconst (v := 0) C dX10_steps_4 (by decide) ?_
  obtain ⟨i1, hf⟩ := ck_x hf
  refine xr_iald C H0.2.1.2 i1 dX10_steps_5 ?_
  refine xr_if_ne (tgt := 12) C dX10_steps_6 (by decide) hf (fun c2 hf => ?_) (fun c2 hf => ?_)
  · refine xr_iload_n C dX10_steps_12 1 rfl rfl ?_
    refine xr_i2l C dX10_steps_13 ?_
    refine xr_lconst (v := 1) C dX10_steps_14 (by decide) ?_
    refine xr_ldc2 C wk_1012 dX10_steps_15 ?_
    obtain ⟨⟨r5, I4⟩, h3, hf⟩ := ob_x hf
    refine xr_callSI C [.long (p1.toInt64), .long 1, .long 24] lkX10_48 (kX10_in h3) rfl (Nat.le_of_ble_eq_true rfl) rfl dX10_steps_18 ⟨by decide, by decide, by decide⟩ rfl ?_
    refine xr_if_ne (tgt := 27) C dX10_steps_21 (by decide) hf (fun c6 hf => ?_) (fun c6 hf => ?_)
    · refine xr_aload_n C dX10_steps_27 0 rfl rfl ?_
      refine xr_getr C Kd10 (k := 0) (by decide) rfl wk_821 rfl H0.1 H0.2.1.1 dX10_steps_28 ?_
      refine xr_bipush (v := 29) C dX10_steps_31 (by decide) ?_
      obtain ⟨i7, hf⟩ := ck_x hf
      refine xr_iald C H0.2.1.2 i7 dX10_steps_33 ?_
      refine xr_iconst (v := 1) C dX10_steps_34 (by decide) ?_
      refine xr_icmp_ne (tgt := 41) C dX10_steps_35 (by decide) hf (fun c8 hf => ?_) (fun c8 hf => ?_)
      · refine xr_aload_n C dX10_steps_41 0 rfl rfl ?_
        refine xr_getr C Kd10 (k := 0) (by decide) rfl wk_821 rfl H0.1 H0.2.1.1 dX10_steps_42 ?_
        refine xr_bipush (v := 33) C dX10_steps_45 (by decide) ?_
        obtain ⟨i9, hf⟩ := ck_x hf
        refine xr_iald C H0.2.1.2 i9 dX10_steps_47 ?_
        refine xr_iload_n C dX10_steps_48 1 rfl rfl ?_
        refine xr_iadd C dX10_steps_49 ?_
        refine xr_sipush (v := 9999) C dX10_steps_50 (by decide) ?_
        refine xr_icmp_le (tgt := 59) C dX10_steps_53 (by decide) hf (fun c10 hf => ?_) (fun c10 hf => ?_)
        · refine xr_iconst (v := 0) C dX10_steps_59 (by decide) ?_
          refine xr_istore_n C dX10_steps_60 rfl (by decide) rfl ?_
          refine xr_lv [1, 2, 0] rfl ?_
          exact ebX10_steps_61 C H0 q _ hf
        · refine xr_ldc C wk_931 dX10_steps_56 ?_
          exact xr_ireturn C q rfl rfl dX10_steps_58 (so_1 hf) (so_w hf)
      · refine xr_ldc C wk_1011 dX10_steps_38 ?_
        exact xr_ireturn C q rfl rfl dX10_steps_40 (so_1 hf) (so_w hf)
    · refine xr_ldc C wk_900 dX10_steps_24 ?_
      exact xr_ireturn C q rfl rfl dX10_steps_26 (so_1 hf) (so_w hf)
  · refine xr_ldc C wk_1011 dX10_steps_9 ?_
    exact xr_ireturn C q rfl rfl dX10_steps_11 (so_1 hf) (so_w hf)
theorem kX10_steps {B : Bs} {h : Shp} (H0 : MAt h) {I0 : Mem} {p1 : Int32} {r1 : Int32} {o1 : Mem} (hf : fnX10_steps I0 p1 = some (r1, o1)) : CtrI B yX10_steps cX10_steps 3 (some Jvm.ClassFile.FieldType.int) 4 91 0 0 [rfB B 111, .int p1] (I0, h) r1 (o1, h) := by
  refine xr_enterI (lv0 := [(0, rfB B 111), (1, .int p1)]) (by decide) (Nat.le_of_ble_eq_true rfl) rfl (fun g hg C q => ?_)
  subst hg
  exact ebX10_steps_0 C H0 q hf
theorem dX10_nudge_0 : decode cX10_nudge 0 = .ok (.aload_n 0, 1) := by decide +kernel
theorem dX10_nudge_1 : decode cX10_nudge 1 = .ok (.invokevirtual 185, 3) := by decide +kernel
theorem dX10_nudge_4 : decode cX10_nudge 4 = .ok (.ifCond .eq 6, 3) := by decide +kernel
theorem dX10_nudge_7 : decode cX10_nudge 7 = .ok (.ldc 176, 2) := by decide +kernel
theorem dX10_nudge_9 : decode cX10_nudge 9 = .ok (.ireturn, 1) := by decide +kernel
theorem dX10_nudge_10 : decode cX10_nudge 10 = .ok (.aload_n 0, 1) := by decide +kernel
theorem dX10_nudge_11 : decode cX10_nudge 11 = .ok (.invokevirtual 179, 3) := by decide +kernel
theorem dX10_nudge_14 : decode cX10_nudge 14 = .ok (.aload_n 0, 1) := by decide +kernel
theorem dX10_nudge_15 : decode cX10_nudge 15 = .ok (.getfield 7, 3) := by decide +kernel
theorem dX10_nudge_18 : decode cX10_nudge 18 = .ok (.bipush 28, 2) := by decide +kernel
theorem dX10_nudge_20 : decode cX10_nudge 20 = .ok (.aload_n 0, 1) := by decide +kernel
theorem dX10_nudge_21 : decode cX10_nudge 21 = .ok (.getfield 7, 3) := by decide +kernel
theorem dX10_nudge_24 : decode cX10_nudge 24 = .ok (.bipush 28, 2) := by decide +kernel
theorem dX10_nudge_26 : decode cX10_nudge 26 = .ok (.iaload, 1) := by decide +kernel
theorem dX10_nudge_27 : decode cX10_nudge 27 = .ok (.iconst 1, 1) := by decide +kernel
theorem dX10_nudge_28 : decode cX10_nudge 28 = .ok (.iadd, 1) := by decide +kernel
theorem dX10_nudge_29 : decode cX10_nudge 29 = .ok (.iconst 4, 1) := by decide +kernel
theorem dX10_nudge_30 : decode cX10_nudge 30 = .ok (.irem, 1) := by decide +kernel
theorem dX10_nudge_31 : decode cX10_nudge 31 = .ok (.iastore, 1) := by decide +kernel
theorem dX10_nudge_32 : decode cX10_nudge 32 = .ok (.aload_n 0, 1) := by decide +kernel
theorem dX10_nudge_33 : decode cX10_nudge 33 = .ok (.getfield 7, 3) := by decide +kernel
theorem dX10_nudge_36 : decode cX10_nudge 36 = .ok (.bipush 30, 2) := by decide +kernel
theorem dX10_nudge_38 : decode cX10_nudge 38 = .ok (.dup2, 1) := by decide +kernel
theorem dX10_nudge_39 : decode cX10_nudge 39 = .ok (.iaload, 1) := by decide +kernel
theorem dX10_nudge_40 : decode cX10_nudge 40 = .ok (.iconst 3, 1) := by decide +kernel
theorem dX10_nudge_41 : decode cX10_nudge 41 = .ok (.iadd, 1) := by decide +kernel
theorem dX10_nudge_42 : decode cX10_nudge 42 = .ok (.iastore, 1) := by decide +kernel
theorem dX10_nudge_43 : decode cX10_nudge 43 = .ok (.aload_n 0, 1) := by decide +kernel
theorem dX10_nudge_44 : decode cX10_nudge 44 = .ok (.getfield 7, 3) := by decide +kernel
theorem dX10_nudge_47 : decode cX10_nudge 47 = .ok (.bipush 29, 2) := by decide +kernel
theorem dX10_nudge_49 : decode cX10_nudge 49 = .ok (.aload_n 0, 1) := by decide +kernel
theorem dX10_nudge_50 : decode cX10_nudge 50 = .ok (.getfield 7, 3) := by decide +kernel
theorem dX10_nudge_53 : decode cX10_nudge 53 = .ok (.bipush 30, 2) := by decide +kernel
theorem dX10_nudge_55 : decode cX10_nudge 55 = .ok (.iaload, 1) := by decide +kernel
theorem dX10_nudge_56 : decode cX10_nudge 56 = .ok (.aload_n 0, 1) := by decide +kernel
theorem dX10_nudge_57 : decode cX10_nudge 57 = .ok (.getfield 7, 3) := by decide +kernel
theorem dX10_nudge_60 : decode cX10_nudge 60 = .ok (.iconst 1, 1) := by decide +kernel
theorem dX10_nudge_61 : decode cX10_nudge 61 = .ok (.iaload, 1) := by decide +kernel
theorem dX10_nudge_62 : decode cX10_nudge 62 = .ok (.if_icmp .le 7, 3) := by decide +kernel
theorem dX10_nudge_65 : decode cX10_nudge 65 = .ok (.iconst 1, 1) := by decide +kernel
theorem dX10_nudge_66 : decode cX10_nudge 66 = .ok (.goto 4, 3) := by decide +kernel
theorem dX10_nudge_69 : decode cX10_nudge 69 = .ok (.iconst 0, 1) := by decide +kernel
theorem dX10_nudge_70 : decode cX10_nudge 70 = .ok (.iastore, 1) := by decide +kernel
theorem dX10_nudge_71 : decode cX10_nudge 71 = .ok (.aload_n 0, 1) := by decide +kernel
theorem dX10_nudge_72 : decode cX10_nudge 72 = .ok (.getfield 7, 3) := by decide +kernel
theorem dX10_nudge_75 : decode cX10_nudge 75 = .ok (.bipush 30, 2) := by decide +kernel
theorem dX10_nudge_77 : decode cX10_nudge 77 = .ok (.iaload, 1) := by decide +kernel
theorem dX10_nudge_78 : decode cX10_nudge 78 = .ok (.ireturn, 1) := by decide +kernel
theorem lkX10_185 : LkV "BumperBallsModel" 185 yX10_isGone cX10_isGone 1 (some Jvm.ClassFile.FieldType.boolean) 0 := ⟨wk_1044, wk_11, wk_1043, wk_s84, ⟨by decide +kernel, by decide +kernel, by decide +kernel⟩, wk_1041⟩
/-! BumperBallsModel.nudge()I -/
def fnX10_nudge_70 (I0 : Mem) (t1 : Int32) (t2 : Int32) : Option (Int32 × Mem) :=
  ck (inb t1 164) <| bnd (up2 I0 112 (ix t1) t2) fun I2 => ck (inb 30 164) <| some ((I2 112 (ix 30)), I2)
set_option maxRecDepth 20000 in
set_option maxHeartbeats 2000000 in
theorem ebX10_nudge_70 {g : Cfg} (C : Cx g RX10 cX10_nudge 1 1 21 0 0) {h : Shp} (H0 : MAt h) {r1 : Int32} {o1 : Mem} (q : QI g (some Jvm.ClassFile.FieldType.int) 0 0 r1 (o1, h)) {I0 : Mem} {t1 : Int32} {t2 : Int32} (hf : fnX10_nudge_70 I0 t1 t2 = some (r1, o1)) : XE g 0 0 (I0, h) 70 [(0, rf g 111)] [.int t2, .int t1, rf g 112] := by
  unfold fnX10_nudge_70 at hf
  obtain ⟨i1, hf⟩ := ck_x hf
  obtain ⟨I2, eI2, hf⟩ := bnd_x hf
  refine xr_iast C H0.2.1.2 i1 dX10_nudge_70 eI2 ?_
  refine xr_aload_n C dX10_nudge_71 0 rfl rfl ?_
  refine xr_getr C Kd10 (k := 0) (by decide) rfl wk_821 rfl H0.1 H0.2.1.1 dX10_nudge_72 ?_
  refine xr_bipush (v := 30) C dX10_nudge_75 (by decide) ?_
  obtain ⟨i3, hf⟩ := ck_x hf
  refine xr_iald C H0.2.1.2 i3 dX10_nudge_77 ?_
  exact xr_ireturn C q rfl rfl dX10_nudge_78 (so_1 hf) (so_w hf)
def fnX10_nudge (I0 : Mem) : Option (Int32 × Mem) :=
  ob (fnX10_isGone I0) fun ⟨r3, I2⟩ => if r3 = 0 then (ob (fnX10_keepPast I2) fun I6 => ck (inb 28 164) <| ck (inb 28 164) <| bnd (up2 I6 112 (ix 28) (irm ((I6 112 (ix 28)) + 1) 4)) fun I9 => ck (inb 30 164) <| ck (inb 30 164) <| bnd (up2 I9 112 (ix 30) ((I9 112 (ix 30)) + 3)) fun I12 => ck (inb 30 164) <| ck (inb 1 164) <| if (I12 112 (ix 30)) ≤ (I12 112 (ix 1)) then (fnX10_nudge_70 I12 29 0) else (fnX10_nudge_70 I12 29 1)) else (some ((-1000002), I2))
set_option maxRecDepth 20000 in
set_option maxHeartbeats 2000000 in
theorem ebX10_nudge_0 {g : Cfg} (C : Cx g RX10 cX10_nudge 1 1 21 0 0) {h : Shp} (H0 : MAt h) {r1 : Int32} {o1 : Mem} (q : QI g (some Jvm.ClassFile.FieldType.int) 0 0 r1 (o1, h)) {I0 : Mem} (hf : fnX10_nudge I0 = some (r1, o1)) : XE g 0 0 (I0, h) 0 [(0, rf g 111)] [] := by
  unfold fnX10_nudge at hf
  refine xr_aload_n C dX10_nudge_0 0 rfl rfl ?_
  obtain ⟨⟨r3, I2⟩, h1, hf⟩ := ob_x hf
  refine xr_callVI C [] lkX10_185 (kX10_isGone H0 h1) Kd10 rfl H0.1 rfl (Nat.le_of_ble_eq_true rfl) rfl dX10_nudge_1 ⟨by decide, by decide, by decide⟩ rfl ?_
  refine xr_if_eq (tgt := 10) C dX10_nudge_4 (by decide) hf (fun c4 hf => ?_) (fun c4 hf => ?_)
  · refine xr_aload_n C dX10_nudge_10 0 rfl rfl ?_
    obtain ⟨I6, h5, hf⟩ := ob_x hf
    refine xr_callVV C [] lkX10_179 (kX10_keepPast H0 h5) Kd10 rfl H0.1 rfl (Nat.le_of_ble_eq_true rfl) rfl dX10_nudge_11 ⟨by decide, by decide, by decide⟩ rfl ?_
    refine xr_aload_n C dX10_nudge_14 0 rfl rfl ?_
    refine xr_getr C Kd10 (k := 0) (by decide) rfl wk_821 rfl H0.1 H0.2.1.1 dX10_nudge_15 ?_
    refine xr_bipush (v := 28) C dX10_nudge_18 (by decide) ?_
    refine xr_aload_n C dX10_nudge_20 0 rfl rfl ?_
    refine xr_getr C Kd10 (k := 0) (by decide) rfl wk_821 rfl H0.1 H0.2.1.1 dX10_nudge_21 ?_
    refine xr_bipush (v := 28) C dX10_nudge_24 (by decide) ?_
    obtain ⟨i7, hf⟩ := ck_x hf
    refine xr_iald C H0.2.1.2 i7 dX10_nudge_26 ?_
    refine xr_iconst (v := 1) C dX10_nudge_27 (by decide) ?_
    refine xr_iadd C dX10_nudge_28 ?_
    refine xr_iconst (v := 4) C dX10_nudge_29 (by decide) ?_
    refine xr_irem C dX10_nudge_30 (by decide) ?_
    obtain ⟨i8, hf⟩ := ck_x hf
    obtain ⟨I9, eI9, hf⟩ := bnd_x hf
    refine xr_iast C H0.2.1.2 i8 dX10_nudge_31 eI9 ?_
    refine xr_aload_n C dX10_nudge_32 0 rfl rfl ?_
    refine xr_getr C Kd10 (k := 0) (by decide) rfl wk_821 rfl H0.1 H0.2.1.1 dX10_nudge_33 ?_
    refine xr_bipush (v := 30) C dX10_nudge_36 (by decide) ?_
    refine xr_dup2 C dX10_nudge_38 rfl rfl ?_
    obtain ⟨i10, hf⟩ := ck_x hf
    refine xr_iald C H0.2.1.2 i10 dX10_nudge_39 ?_
    refine xr_iconst (v := 3) C dX10_nudge_40 (by decide) ?_
    refine xr_iadd C dX10_nudge_41 ?_
    obtain ⟨i11, hf⟩ := ck_x hf
    obtain ⟨I12, eI12, hf⟩ := bnd_x hf
    refine xr_iast C H0.2.1.2 i11 dX10_nudge_42 eI12 ?_
    refine xr_aload_n C dX10_nudge_43 0 rfl rfl ?_
    refine xr_getr C Kd10 (k := 0) (by decide) rfl wk_821 rfl H0.1 H0.2.1.1 dX10_nudge_44 ?_
    refine xr_bipush (v := 29) C dX10_nudge_47 (by decide) ?_
    refine xr_aload_n C dX10_nudge_49 0 rfl rfl ?_
    refine xr_getr C Kd10 (k := 0) (by decide) rfl wk_821 rfl H0.1 H0.2.1.1 dX10_nudge_50 ?_
    refine xr_bipush (v := 30) C dX10_nudge_53 (by decide) ?_
    obtain ⟨i13, hf⟩ := ck_x hf
    refine xr_iald C H0.2.1.2 i13 dX10_nudge_55 ?_
    refine xr_aload_n C dX10_nudge_56 0 rfl rfl ?_
    refine xr_getr C Kd10 (k := 0) (by decide) rfl wk_821 rfl H0.1 H0.2.1.1 dX10_nudge_57 ?_
    refine xr_iconst (v := 1) C dX10_nudge_60 (by decide) ?_
    obtain ⟨i14, hf⟩ := ck_x hf
    refine xr_iald C H0.2.1.2 i14 dX10_nudge_61 ?_
    refine xr_icmp_le (tgt := 69) C dX10_nudge_62 (by decide) hf (fun c15 hf => ?_) (fun c15 hf => ?_)
    · refine xr_iconst (v := 0) C dX10_nudge_69 (by decide) ?_
      exact ebX10_nudge_70 C H0 q hf
    · refine xr_iconst (v := 1) C dX10_nudge_65 (by decide) ?_
      refine xr_goto (tgt := 70) C dX10_nudge_66 (by decide) ?_
      exact ebX10_nudge_70 C H0 q hf
  · refine xr_ldc C wk_1011 dX10_nudge_7 ?_
    exact xr_ireturn C q rfl rfl dX10_nudge_9 (so_1 hf) (so_w hf)
theorem kX10_nudge {B : Bs} {h : Shp} (H0 : MAt h) {I0 : Mem} {r1 : Int32} {o1 : Mem} (hf : fnX10_nudge I0 = some (r1, o1)) : CtrI B yX10_nudge cX10_nudge 1 (some Jvm.ClassFile.FieldType.int) 1 21 0 0 [rfB B 111] (I0, h) r1 (o1, h) := by
  refine xr_enterI (lv0 := [(0, rfB B 111)]) (by decide) (Nat.le_of_ble_eq_true rfl) rfl (fun g hg C q => ?_)
  subst hg
  exact ebX10_nudge_0 C H0 q hf
