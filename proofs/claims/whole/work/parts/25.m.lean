theorem dX10_tryPut_0 : decode cX10_tryPut 0 = .ok (.aload_n 0, 1) := by decide +kernel
theorem dX10_tryPut_1 : decode cX10_tryPut 1 = .ok (.iconst 0, 1) := by decide +kernel
theorem dX10_tryPut_2 : decode cX10_tryPut 2 = .ok (.bipush 123, 2) := by decide +kernel
theorem dX10_tryPut_4 : decode cX10_tryPut 4 = .ok (.invokevirtual 199, 3) := by decide +kernel
theorem dX10_tryPut_7 : decode cX10_tryPut 7 = .ok (.aload_n 0, 1) := by decide +kernel
theorem dX10_tryPut_8 : decode cX10_tryPut 8 = .ok (.getfield 7, 3) := by decide +kernel
theorem dX10_tryPut_11 : decode cX10_tryPut 11 = .ok (.sipush 150, 3) := by decide +kernel
theorem dX10_tryPut_14 : decode cX10_tryPut 14 = .ok (.iload_n 1, 1) := by decide +kernel
theorem dX10_tryPut_15 : decode cX10_tryPut 15 = .ok (.iconst 4, 1) := by decide +kernel
theorem dX10_tryPut_16 : decode cX10_tryPut 16 = .ok (.idiv, 1) := by decide +kernel
theorem dX10_tryPut_17 : decode cX10_tryPut 17 = .ok (.iastore, 1) := by decide +kernel
theorem dX10_tryPut_18 : decode cX10_tryPut 18 = .ok (.aload_n 0, 1) := by decide +kernel
theorem dX10_tryPut_19 : decode cX10_tryPut 19 = .ok (.getfield 7, 3) := by decide +kernel
theorem dX10_tryPut_22 : decode cX10_tryPut 22 = .ok (.sipush 151, 3) := by decide +kernel
theorem dX10_tryPut_25 : decode cX10_tryPut 25 = .ok (.iload_n 1, 1) := by decide +kernel
theorem dX10_tryPut_26 : decode cX10_tryPut 26 = .ok (.iconst 4, 1) := by decide +kernel
theorem dX10_tryPut_27 : decode cX10_tryPut 27 = .ok (.irem, 1) := by decide +kernel
theorem dX10_tryPut_28 : decode cX10_tryPut 28 = .ok (.iastore, 1) := by decide +kernel
theorem dX10_tryPut_29 : decode cX10_tryPut 29 = .ok (.aload_n 0, 1) := by decide +kernel
theorem dX10_tryPut_30 : decode cX10_tryPut 30 = .ok (.getfield 7, 3) := by decide +kernel
theorem dX10_tryPut_33 : decode cX10_tryPut 33 = .ok (.sipush 152, 3) := by decide +kernel
theorem dX10_tryPut_36 : decode cX10_tryPut 36 = .ok (.iconst 0, 1) := by decide +kernel
theorem dX10_tryPut_37 : decode cX10_tryPut 37 = .ok (.iastore, 1) := by decide +kernel
theorem dX10_tryPut_38 : decode cX10_tryPut 38 = .ok (.return_, 1) := by decide +kernel
/-! BumperBallsModel.tryPut(I)V -/
def fnX10_tryPut (I0 : Mem) (p1 : Int32) : Option Mem :=
  ob (fnX10_copyRow I0 0 123) fun I2 => ck (inb 150 164) <| bnd (up2 I2 112 (ix 150) (p1 / 4)) fun I4 => ck (inb 151 164) <| bnd (up2 I4 112 (ix 151) (irm p1 4)) fun I6 => ck (inb 152 164) <| bnd (up2 I6 112 (ix 152) 0) fun I8 => some I8
set_option maxRecDepth 20000 in
set_option maxHeartbeats 2000000 in
theorem ebX10_tryPut_0 {g : Cfg} (C : Cx g RX10 cX10_tryPut 2 1 23 0 0) {h : Shp} (H0 : MAt h) {o1 : Mem} (q : QV g 0 0 (o1, h)) {I0 : Mem} {p1 : Int32} (hf : fnX10_tryPut I0 p1 = some o1) : XE g 0 0 (I0, h) 0 [(0, rf g 111), (1, .int p1)] [] := by
  unfold fnX10_tryPut at hf
  refine xr_aload_n C dX10_tryPut_0 0 rfl rfl ?_
  refine xr_iconst (v := 0) C dX10_tryPut_1 (by decide) ?_
  refine xr_bipush (v := 123) C dX10_tryPut_2 (by decide) ?_
  obtain ⟨I2, h1, hf⟩ := ob_x hf
  refine xr_callVV C [.int 0, .int 123] lkX10_199 (kX10_copyRow H0 h1) Kd10 rfl H0.1 rfl (Nat.le_of_ble_eq_true rfl) rfl dX10_tryPut_4 ⟨by decide, by decide, by decide⟩ rfl ?_
  refine xr_aload_n C dX10_tryPut_7 0 rfl rfl ?_
  refine xr_getr C Kd10 (k := 0) (by decide) rfl wk_821 rfl H0.1 H0.2.1.1 dX10_tryPut_8 ?_
  refine xr_sipush (v := 150) C dX10_tryPut_11 (by decide) ?_
  refine xr_iload_n C dX10_tryPut_14 1 rfl rfl ?_
  refine xr_iconst (v := 4) C dX10_tryPut_15 (by decide) ?_
  refine xr_idiv C dX10_tryPut_16 (by decide) ?_
  obtain ⟨i3, hf⟩ := ck_x hf
  obtain ⟨I4, eI4, hf⟩ := bnd_x hf
  refine xr_iast C H0.2.1.2 i3 dX10_tryPut_17 eI4 ?_
  refine xr_aload_n C dX10_tryPut_18 0 rfl rfl ?_
  refine xr_getr C Kd10 (k := 0) (by decide) rfl wk_821 rfl H0.1 H0.2.1.1 dX10_tryPut_19 ?_
  refine xr_sipush (v := 151) C dX10_tryPut_22 (by decide) ?_
  refine xr_iload_n C dX10_tryPut_25 1 rfl rfl ?_
  refine xr_iconst (v := 4) C dX10_tryPut_26 (by decide) ?_
  refine xr_irem C dX10_tryPut_27 (by decide) ?_
  obtain ⟨i5, hf⟩ := ck_x hf
  obtain ⟨I6, eI6, hf⟩ := bnd_x hf
  refine xr_iast C H0.2.1.2 i5 dX10_tryPut_28 eI6 ?_
  refine xr_aload_n C dX10_tryPut_29 0 rfl rfl ?_
  refine xr_getr C Kd10 (k := 0) (by decide) rfl wk_821 rfl H0.1 H0.2.1.1 dX10_tryPut_30 ?_
  refine xr_sipush (v := 152) C dX10_tryPut_33 (by decide) ?_
  refine xr_iconst (v := 0) C dX10_tryPut_36 (by decide) ?_
  obtain ⟨i7, hf⟩ := ck_x hf
  obtain ⟨I8, eI8, hf⟩ := bnd_x hf
  refine xr_iast C H0.2.1.2 i7 dX10_tryPut_37 eI8 ?_
  exact xr_return C q dX10_tryPut_38 (so_v hf)
theorem kX10_tryPut {B : Bs} {h : Shp} (H0 : MAt h) {I0 : Mem} {p1 : Int32} {o1 : Mem} (hf : fnX10_tryPut I0 p1 = some o1) : CtrV B yX10_tryPut cX10_tryPut 2 1 23 0 0 [rfB B 111, .int p1] (I0, h) (o1, h) := by
  refine xr_enterV (lv0 := [(0, rfB B 111), (1, .int p1)]) (by decide) (Nat.le_of_ble_eq_true rfl) rfl (fun g hg C q => ?_)
  subst hg
  exact ebX10_tryPut_0 C H0 q hf
theorem dX10_richest_0 : decode cX10_richest 0 = .ok (.aload_n 0, 1) := by decide +kernel
theorem dX10_richest_1 : decode cX10_richest 1 = .ok (.getfield 7, 3) := by decide +kernel
theorem dX10_richest_4 : decode cX10_richest 4 = .ok (.iconst 0, 1) := by decide +kernel
theorem dX10_richest_5 : decode cX10_richest 5 = .ok (.iaload, 1) := by decide +kernel
theorem dX10_richest_6 : decode cX10_richest 6 = .ok (.ifCond .ne 6, 3) := by decide +kernel
theorem dX10_richest_9 : decode cX10_richest 9 = .ok (.ldc 176, 2) := by decide +kernel
theorem dX10_richest_11 : decode cX10_richest 11 = .ok (.ireturn, 1) := by decide +kernel
theorem dX10_richest_12 : decode cX10_richest 12 = .ok (.iload_n 1, 1) := by decide +kernel
theorem dX10_richest_13 : decode cX10_richest 13 = .ok (.i2l, 1) := by decide +kernel
theorem dX10_richest_14 : decode cX10_richest 14 = .ok (.lconst 1, 1) := by decide +kernel
theorem dX10_richest_15 : decode cX10_richest 15 = .ok (.ldc2_w 205, 3) := by decide +kernel
theorem dX10_richest_18 : decode cX10_richest 18 = .ok (.invokestatic 48, 3) := by decide +kernel
theorem dX10_richest_21 : decode cX10_richest 21 = .ok (.ifCond .eq 13, 3) := by decide +kernel
theorem dX10_richest_24 : decode cX10_richest 24 = .ok (.iload_n 2, 1) := by decide +kernel
theorem dX10_richest_25 : decode cX10_richest 25 = .ok (.i2l, 1) := by decide +kernel
theorem dX10_richest_26 : decode cX10_richest 26 = .ok (.lconst 0, 1) := by decide +kernel
theorem dX10_richest_27 : decode cX10_richest 27 = .ok (.lconst 1, 1) := by decide +kernel
theorem dX10_richest_28 : decode cX10_richest 28 = .ok (.invokestatic 48, 3) := by decide +kernel
theorem dX10_richest_31 : decode cX10_richest 31 = .ok (.ifCond .ne 6, 3) := by decide +kernel
theorem dX10_richest_34 : decode cX10_richest 34 = .ok (.ldc 58, 2) := by decide +kernel
theorem dX10_richest_36 : decode cX10_richest 36 = .ok (.ireturn, 1) := by decide +kernel
theorem dX10_richest_37 : decode cX10_richest 37 = .ok (.ldc 19, 2) := by decide +kernel
theorem dX10_richest_39 : decode cX10_richest 39 = .ok (.istore_n 3, 1) := by decide +kernel
theorem dX10_richest_40 : decode cX10_richest 40 = .ok (.iconst (-1), 1) := by decide +kernel
theorem dX10_richest_41 : decode cX10_richest 41 = .ok (.istore 4, 2) := by decide +kernel
theorem dX10_richest_43 : decode cX10_richest 43 = .ok (.iconst 0, 1) := by decide +kernel
theorem dX10_richest_44 : decode cX10_richest 44 = .ok (.istore 5, 2) := by decide +kernel
theorem dX10_richest_46 : decode cX10_richest 46 = .ok (.iload 5, 2) := by decide +kernel
theorem dX10_richest_48 : decode cX10_richest 48 = .ok (.sipush 168, 3) := by decide +kernel
theorem dX10_richest_51 : decode cX10_richest 51 = .ok (.if_icmp .ge 109, 3) := by decide +kernel
theorem dX10_richest_54 : decode cX10_richest 54 = .ok (.aload_n 0, 1) := by decide +kernel
theorem dX10_richest_55 : decode cX10_richest 55 = .ok (.iload 5, 2) := by decide +kernel
theorem dX10_richest_57 : decode cX10_richest 57 = .ok (.iconst 4, 1) := by decide +kernel
theorem dX10_richest_58 : decode cX10_richest 58 = .ok (.idiv, 1) := by decide +kernel
theorem dX10_richest_59 : decode cX10_richest 59 = .ok (.invokevirtual 169, 3) := by decide +kernel
theorem dX10_richest_62 : decode cX10_richest 62 = .ok (.ldc 19, 2) := by decide +kernel
theorem dX10_richest_64 : decode cX10_richest 64 = .ok (.if_icmp .ne 90, 3) := by decide +kernel
theorem dX10_richest_67 : decode cX10_richest 67 = .ok (.aload_n 0, 1) := by decide +kernel
theorem dX10_richest_68 : decode cX10_richest 68 = .ok (.iload 5, 2) := by decide +kernel
theorem dX10_richest_70 : decode cX10_richest 70 = .ok (.invokevirtual 207, 3) := by decide +kernel
theorem dX10_richest_73 : decode cX10_richest 73 = .ok (.iconst 0, 1) := by decide +kernel
theorem dX10_richest_74 : decode cX10_richest 74 = .ok (.istore 6, 2) := by decide +kernel
theorem dX10_richest_76 : decode cX10_richest 76 = .ok (.iload 6, 2) := by decide +kernel
theorem dX10_richest_78 : decode cX10_richest 78 = .ok (.iload_n 1, 1) := by decide +kernel
theorem dX10_richest_79 : decode cX10_richest 79 = .ok (.if_icmp .ge 27, 3) := by decide +kernel
theorem dX10_richest_82 : decode cX10_richest 82 = .ok (.aload_n 0, 1) := by decide +kernel
theorem dX10_richest_83 : decode cX10_richest 83 = .ok (.getfield 7, 3) := by decide +kernel
theorem dX10_richest_86 : decode cX10_richest 86 = .ok (.sipush 152, 3) := by decide +kernel
theorem dX10_richest_89 : decode cX10_richest 89 = .ok (.iaload, 1) := by decide +kernel
theorem dX10_richest_90 : decode cX10_richest 90 = .ok (.ifCond .ne 16, 3) := by decide +kernel
theorem dX10_richest_93 : decode cX10_richest 93 = .ok (.aload_n 0, 1) := by decide +kernel
theorem dX10_richest_94 : decode cX10_richest 94 = .ok (.bipush 123, 2) := by decide +kernel
theorem dX10_richest_96 : decode cX10_richest 96 = .ok (.invokevirtual 182, 3) := by decide +kernel
theorem dX10_richest_99 : decode cX10_richest 99 = .ok (.pop, 1) := by decide +kernel
theorem dX10_richest_100 : decode cX10_richest 100 = .ok (.iinc 6 1, 3) := by decide +kernel
theorem dX10_richest_103 : decode cX10_richest 103 = .ok (.goto (-27), 3) := by decide +kernel
theorem dX10_richest_106 : decode cX10_richest 106 = .ok (.aload_n 0, 1) := by decide +kernel
theorem dX10_richest_107 : decode cX10_richest 107 = .ok (.getfield 7, 3) := by decide +kernel
theorem dX10_richest_110 : decode cX10_richest 110 = .ok (.sipush 154, 3) := by decide +kernel
theorem dX10_richest_113 : decode cX10_richest 113 = .ok (.iaload, 1) := by decide +kernel
theorem dX10_richest_114 : decode cX10_richest 114 = .ok (.aload_n 0, 1) := by decide +kernel
theorem dX10_richest_115 : decode cX10_richest 115 = .ok (.getfield 7, 3) := by decide +kernel
theorem dX10_richest_118 : decode cX10_richest 118 = .ok (.bipush 31, 2) := by decide +kernel
theorem dX10_richest_120 : decode cX10_richest 120 = .ok (.iaload, 1) := by decide +kernel
theorem dX10_richest_121 : decode cX10_richest 121 = .ok (.isub, 1) := by decide +kernel
theorem dX10_richest_122 : decode cX10_richest 122 = .ok (.istore 6, 2) := by decide +kernel
theorem dX10_richest_124 : decode cX10_richest 124 = .ok (.iload 6, 2) := by decide +kernel
theorem dX10_richest_126 : decode cX10_richest 126 = .ok (.iload 4, 2) := by decide +kernel
theorem dX10_richest_128 : decode cX10_richest 128 = .ok (.if_icmp .le 8, 3) := by decide +kernel
theorem dX10_richest_131 : decode cX10_richest 131 = .ok (.iload 5, 2) := by decide +kernel
theorem dX10_richest_133 : decode cX10_richest 133 = .ok (.goto 4, 3) := by decide +kernel
theorem dX10_richest_136 : decode cX10_richest 136 = .ok (.iload_n 3, 1) := by decide +kernel
theorem dX10_richest_137 : decode cX10_richest 137 = .ok (.istore_n 3, 1) := by decide +kernel
theorem dX10_richest_138 : decode cX10_richest 138 = .ok (.iload 6, 2) := by decide +kernel
theorem dX10_richest_140 : decode cX10_richest 140 = .ok (.iload 4, 2) := by decide +kernel
theorem dX10_richest_142 : decode cX10_richest 142 = .ok (.if_icmp .le 8, 3) := by decide +kernel
theorem dX10_richest_145 : decode cX10_richest 145 = .ok (.iload 6, 2) := by decide +kernel
theorem dX10_richest_147 : decode cX10_richest 147 = .ok (.goto 5, 3) := by decide +kernel
theorem dX10_richest_150 : decode cX10_richest 150 = .ok (.iload 4, 2) := by decide +kernel
theorem dX10_richest_152 : decode cX10_richest 152 = .ok (.istore 4, 2) := by decide +kernel
theorem dX10_richest_154 : decode cX10_richest 154 = .ok (.iinc 5 1, 3) := by decide +kernel
theorem dX10_richest_157 : decode cX10_richest 157 = .ok (.goto (-111), 3) := by decide +kernel
theorem dX10_richest_160 : decode cX10_richest 160 = .ok (.iload_n 2, 1) := by decide +kernel
theorem dX10_richest_161 : decode cX10_richest 161 = .ok (.ifCond .ne 7, 3) := by decide +kernel
theorem dX10_richest_164 : decode cX10_richest 164 = .ok (.iload_n 3, 1) := by decide +kernel
theorem dX10_richest_165 : decode cX10_richest 165 = .ok (.goto 5, 3) := by decide +kernel
theorem dX10_richest_168 : decode cX10_richest 168 = .ok (.iload 4, 2) := by decide +kernel
theorem dX10_richest_170 : decode cX10_richest 170 = .ok (.ireturn, 1) := by decide +kernel
theorem lkX10_207 : LkV "BumperBallsModel" 207 yX10_tryPut cX10_tryPut 2 none 1 := ⟨wk_1097, wk_11, wk_1096, wk_s88, ⟨by decide +kernel, by decide +kernel, by decide +kernel⟩, wk_1094⟩
/-! BumperBallsModel.richest(II)I -/
def fnX10_richest_170 (I0 : Mem) (t0 : Int32) : Option (Int32 × Mem) :=
  some (t0, I0)
set_option maxRecDepth 20000 in
set_option maxHeartbeats 2000000 in
theorem ebX10_richest_170 {g : Cfg} (C : Cx g RX10 cX10_richest 7 4 91 0 0) {h : Shp} (H0 : MAt h) {r1 : Int32} {o1 : Mem} (q : QI g (some Jvm.ClassFile.FieldType.int) 0 0 r1 (o1, h)) {I0 : Mem} {t0 : Int32} (hf : fnX10_richest_170 I0 t0 = some (r1, o1)) : XE g 0 0 (I0, h) 170 [] [.int t0] := by
  unfold fnX10_richest_170 at hf
  exact xr_ireturn C q rfl rfl dX10_richest_170 (so_1 hf) (so_w hf)
def fnX10_richest_154 (rec46 : Mem → Int32 → Int32 → Int32 → Int32 → Int32 → Option (Int32 × Mem)) (I0 : Mem) (l1 : Int32) (l2 : Int32) (l3 : Int32) (l4 : Int32) (l5 : Int32) : Option (Int32 × Mem) :=
  bnd (l5 + 1) fun v1 => rec46 I0 l1 l2 l3 l4 v1
set_option maxRecDepth 20000 in
set_option maxHeartbeats 2000000 in
theorem ebX10_richest_154 {g : Cfg} (C : Cx g RX10 cX10_richest 7 4 91 0 0) {h : Shp} (H0 : MAt h) {r1 : Int32} {o1 : Mem} {rec46 : Mem → Int32 → Int32 → Int32 → Int32 → Int32 → Option (Int32 × Mem)} (ih46 : ∀ (I0 : Mem) (l1 : Int32) (l2 : Int32) (l3 : Int32) (l4 : Int32) (l5 : Int32), rec46 I0 l1 l2 l3 l4 l5 = some (r1, o1) → XE g 0 0 (I0, h) 46 [(0, rf g 111), (1, .int l1), (2, .int l2), (3, .int l3), (4, .int l4), (5, .int l5)] []) (q : QI g (some Jvm.ClassFile.FieldType.int) 0 0 r1 (o1, h)) {I0 : Mem} {l1 : Int32} {l2 : Int32} {l3 : Int32} {l4 : Int32} {l5 : Int32} (hf : fnX10_richest_154 rec46 I0 l1 l2 l3 l4 l5 = some (r1, o1)) : XE g 0 0 (I0, h) 154 [(0, rf g 111), (1, .int l1), (2, .int l2), (3, .int l3), (4, .int l4), (5, .int l5)] [] := by
  unfold fnX10_richest_154 at hf
  obtain ⟨v1, ev1, hf⟩ := bnd_x hf
  refine xr_iinc (k := 5) (v := v1) C dX10_richest_154 rfl (by rw [ev1]; rfl) (by decide) rfl ?_
  refine xr_goto (tgt := 46) C dX10_richest_157 (by decide) ?_
  refine xr_lv [1, 2, 3, 4, 5, 0] rfl ?_
  exact ih46 _ _ _ _ _ _ hf
def fnX10_richest_152 (rec46 : Mem → Int32 → Int32 → Int32 → Int32 → Int32 → Option (Int32 × Mem)) (I0 : Mem) (l1 : Int32) (l2 : Int32) (l3 : Int32) (l5 : Int32) (t0 : Int32) : Option (Int32 × Mem) :=
  fnX10_richest_154 rec46 I0 l1 l2 l3 t0 l5
set_option maxRecDepth 20000 in
set_option maxHeartbeats 2000000 in
theorem ebX10_richest_152 {g : Cfg} (C : Cx g RX10 cX10_richest 7 4 91 0 0) {h : Shp} (H0 : MAt h) {r1 : Int32} {o1 : Mem} {rec46 : Mem → Int32 → Int32 → Int32 → Int32 → Int32 → Option (Int32 × Mem)} (ih46 : ∀ (I0 : Mem) (l1 : Int32) (l2 : Int32) (l3 : Int32) (l4 : Int32) (l5 : Int32), rec46 I0 l1 l2 l3 l4 l5 = some (r1, o1) → XE g 0 0 (I0, h) 46 [(0, rf g 111), (1, .int l1), (2, .int l2), (3, .int l3), (4, .int l4), (5, .int l5)] []) (q : QI g (some Jvm.ClassFile.FieldType.int) 0 0 r1 (o1, h)) {I0 : Mem} {l1 : Int32} {l2 : Int32} {l3 : Int32} {l5 : Int32} {t0 : Int32} (hf : fnX10_richest_152 rec46 I0 l1 l2 l3 l5 t0 = some (r1, o1)) : XE g 0 0 (I0, h) 152 [(0, rf g 111), (1, .int l1), (2, .int l2), (3, .int l3), (5, .int l5)] [.int t0] := by
  unfold fnX10_richest_152 at hf
  refine xr_istore C dX10_richest_152 (by decide) rfl ?_
  refine xr_lv [1, 2, 3, 4, 0, 5] rfl ?_
  exact ebX10_richest_154 C H0 ih46 q hf
def fnX10_richest_137 (rec46 : Mem → Int32 → Int32 → Int32 → Int32 → Int32 → Option (Int32 × Mem)) (I0 : Mem) (l1 : Int32) (l2 : Int32) (l4 : Int32) (l5 : Int32) (l6 : Int32) (t0 : Int32) : Option (Int32 × Mem) :=
  if l6 ≤ l4 then (fnX10_richest_152 rec46 I0 l1 l2 t0 l5 l4) else (fnX10_richest_152 rec46 I0 l1 l2 t0 l5 l6)
set_option maxRecDepth 20000 in
set_option maxHeartbeats 2000000 in
theorem ebX10_richest_137 {g : Cfg} (C : Cx g RX10 cX10_richest 7 4 91 0 0) {h : Shp} (H0 : MAt h) {r1 : Int32} {o1 : Mem} {rec46 : Mem → Int32 → Int32 → Int32 → Int32 → Int32 → Option (Int32 × Mem)} (ih46 : ∀ (I0 : Mem) (l1 : Int32) (l2 : Int32) (l3 : Int32) (l4 : Int32) (l5 : Int32), rec46 I0 l1 l2 l3 l4 l5 = some (r1, o1) → XE g 0 0 (I0, h) 46 [(0, rf g 111), (1, .int l1), (2, .int l2), (3, .int l3), (4, .int l4), (5, .int l5)] []) (q : QI g (some Jvm.ClassFile.FieldType.int) 0 0 r1 (o1, h)) {I0 : Mem} {l1 : Int32} {l2 : Int32} {l4 : Int32} {l5 : Int32} {l6 : Int32} {t0 : Int32} (hf : fnX10_richest_137 rec46 I0 l1 l2 l4 l5 l6 t0 = some (r1, o1)) : XE g 0 0 (I0, h) 137 [(0, rf g 111), (1, .int l1), (2, .int l2), (4, .int l4), (5, .int l5), (6, .int l6)] [.int t0] := by
  unfold fnX10_richest_137 at hf
  refine xr_istore_n C dX10_richest_137 rfl (by decide) rfl ?_
  refine xr_iload C dX10_richest_138 6 rfl ?_
  refine xr_iload C dX10_richest_140 4 rfl ?_
  refine xr_icmp_le (tgt := 150) C dX10_richest_142 (by decide) hf (fun c1 hf => ?_) (fun c1 hf => ?_)
  · refine xr_iload C dX10_richest_150 4 rfl ?_
    refine xr_lv [1, 2, 3, 0, 5] rfl ?_
    exact ebX10_richest_152 C H0 ih46 q hf
  · refine xr_iload C dX10_richest_145 6 rfl ?_
    refine xr_goto (tgt := 152) C dX10_richest_147 (by decide) ?_
    refine xr_lv [1, 2, 3, 0, 5] rfl ?_
    exact ebX10_richest_152 C H0 ih46 q hf
def fnX10_richest_106 (rec46 : Mem → Int32 → Int32 → Int32 → Int32 → Int32 → Option (Int32 × Mem)) (I0 : Mem) (l1 : Int32) (l2 : Int32) (l3 : Int32) (l4 : Int32) (l5 : Int32) : Option (Int32 × Mem) :=
  ck (inb 154 164) <| ck (inb 31 164) <| bnd ((I0 112 (ix 154)) - (I0 112 (ix 31))) fun v3 => if v3 ≤ l4 then (fnX10_richest_137 rec46 I0 l1 l2 l4 l5 v3 l3) else (fnX10_richest_137 rec46 I0 l1 l2 l4 l5 v3 l5)
set_option maxRecDepth 20000 in
set_option maxHeartbeats 2000000 in
theorem ebX10_richest_106 {g : Cfg} (C : Cx g RX10 cX10_richest 7 4 91 0 0) {h : Shp} (H0 : MAt h) {r1 : Int32} {o1 : Mem} {rec46 : Mem → Int32 → Int32 → Int32 → Int32 → Int32 → Option (Int32 × Mem)} (ih46 : ∀ (I0 : Mem) (l1 : Int32) (l2 : Int32) (l3 : Int32) (l4 : Int32) (l5 : Int32), rec46 I0 l1 l2 l3 l4 l5 = some (r1, o1) → XE g 0 0 (I0, h) 46 [(0, rf g 111), (1, .int l1), (2, .int l2), (3, .int l3), (4, .int l4), (5, .int l5)] []) (q : QI g (some Jvm.ClassFile.FieldType.int) 0 0 r1 (o1, h)) {I0 : Mem} {l1 : Int32} {l2 : Int32} {l3 : Int32} {l4 : Int32} {l5 : Int32} (hf : fnX10_richest_106 rec46 I0 l1 l2 l3 l4 l5 = some (r1, o1)) : XE g 0 0 (I0, h) 106 [(0, rf g 111), (1, .int l1), (2, .int l2), (3, .int l3), (4, .int l4), (5, .int l5)] [] := by
  unfold fnX10_richest_106 at hf
  refine xr_aload_n C dX10_richest_106 0 rfl rfl ?_
  refine xr_getr C Kd10 (k := 0) (by decide) rfl wk_821 rfl H0.1 H0.2.1.1 dX10_richest_107 ?_
  refine xr_sipush (v := 154) C dX10_richest_110 (by decide) ?_
  obtain ⟨i1, hf⟩ := ck_x hf
  refine xr_iald C H0.2.1.2 i1 dX10_richest_113 ?_
  refine xr_aload_n C dX10_richest_114 0 rfl rfl ?_
  refine xr_getr C Kd10 (k := 0) (by decide) rfl wk_821 rfl H0.1 H0.2.1.1 dX10_richest_115 ?_
  refine xr_bipush (v := 31) C dX10_richest_118 (by decide) ?_
  obtain ⟨i2, hf⟩ := ck_x hf
  refine xr_iald C H0.2.1.2 i2 dX10_richest_120 ?_
  refine xr_isub C dX10_richest_121 ?_
  obtain ⟨v3, ev3, hf⟩ := bnd_x hf
  refine xr_nm ev3 ?_
  refine xr_istore C dX10_richest_122 (by decide) rfl ?_
  refine xr_iload C dX10_richest_124 0 rfl ?_
  refine xr_iload C dX10_richest_126 5 rfl ?_
  refine xr_icmp_le (tgt := 136) C dX10_richest_128 (by decide) hf (fun c4 hf => ?_) (fun c4 hf => ?_)
  · refine xr_iload_n C dX10_richest_136 4 rfl rfl ?_
    refine xr_lv [1, 2, 3, 5, 6, 0] rfl ?_
    exact ebX10_richest_137 C H0 ih46 q hf
  · refine xr_iload C dX10_richest_131 6 rfl ?_
    refine xr_goto (tgt := 137) C dX10_richest_133 (by decide) ?_
    refine xr_lv [1, 2, 3, 5, 6, 0] rfl ?_
    exact ebX10_richest_137 C H0 ih46 q hf
def fnX10_richest_76b (rec46 : Mem → Int32 → Int32 → Int32 → Int32 → Int32 → Option (Int32 × Mem)) (rec76 : Mem → Int32 → Int32 → Int32 → Int32 → Int32 → Int32 → Option (Int32 × Mem)) (I0 : Mem) (l1 : Int32) (l2 : Int32) (l3 : Int32) (l4 : Int32) (l5 : Int32) (l6 : Int32) : Option (Int32 × Mem) :=
  if l1 ≤ l6 then (fnX10_richest_106 rec46 I0 l1 l2 l3 l4 l5) else (ck (inb 152 164) <| if (I0 112 (ix 152)) = 0 then (ob (fnX10_step I0 123) fun ⟨r6, I5⟩ => bnd (l6 + 1) fun v7 => rec76 I5 l1 l2 l3 l4 l5 v7) else (fnX10_richest_106 rec46 I0 l1 l2 l3 l4 l5))
def fnX10_richest_76 (rec46 : Mem → Int32 → Int32 → Int32 → Int32 → Int32 → Option (Int32 × Mem)) : Nat → Mem → Int32 → Int32 → Int32 → Int32 → Int32 → Int32 → Option (Int32 × Mem)
  | 0 => fun _ _ _ _ _ _ _ => none
  | fu + 1 => fnX10_richest_76b rec46 (fnX10_richest_76 rec46 fu)
set_option maxRecDepth 20000 in
set_option maxHeartbeats 2000000 in
theorem ebX10_richest_76b {g : Cfg} (C : Cx g RX10 cX10_richest 7 4 91 0 0) {h : Shp} (H0 : MAt h) {r1 : Int32} {o1 : Mem} {rec46 : Mem → Int32 → Int32 → Int32 → Int32 → Int32 → Option (Int32 × Mem)} (ih46 : ∀ (I0 : Mem) (l1 : Int32) (l2 : Int32) (l3 : Int32) (l4 : Int32) (l5 : Int32), rec46 I0 l1 l2 l3 l4 l5 = some (r1, o1) → XE g 0 0 (I0, h) 46 [(0, rf g 111), (1, .int l1), (2, .int l2), (3, .int l3), (4, .int l4), (5, .int l5)] []) {rec76 : Mem → Int32 → Int32 → Int32 → Int32 → Int32 → Int32 → Option (Int32 × Mem)} (q : QI g (some Jvm.ClassFile.FieldType.int) 0 0 r1 (o1, h)) (ih76 : ∀ (I0 : Mem) (l1 : Int32) (l2 : Int32) (l3 : Int32) (l4 : Int32) (l5 : Int32) (l6 : Int32), rec76 I0 l1 l2 l3 l4 l5 l6 = some (r1, o1) → XE g 0 0 (I0, h) 76 [(0, rf g 111), (1, .int l1), (2, .int l2), (3, .int l3), (4, .int l4), (5, .int l5), (6, .int l6)] []) {I0 : Mem} {l1 : Int32} {l2 : Int32} {l3 : Int32} {l4 : Int32} {l5 : Int32} {l6 : Int32} (hf : fnX10_richest_76b rec46 rec76 I0 l1 l2 l3 l4 l5 l6 = some (r1, o1)) : XE g 0 0 (I0, h) 76 [(0, rf g 111), (1, .int l1), (2, .int l2), (3, .int l3), (4, .int l4), (5, .int l5), (6, .int l6)] [] := by
  unfold fnX10_richest_76b at hf
  refine xr_iload C dX10_richest_76 6 rfl ?_
  refine xr_iload_n C dX10_richest_78 1 rfl rfl ?_
  refine xr_icmp_ge (tgt := 106) C dX10_richest_79 (by decide) hf (fun c1 hf => ?_) (fun c1 hf => ?_)
  · refine xr_lv [0, 1, 2, 3, 4, 5] rfl ?_
    exact ebX10_richest_106 C H0 ih46 q hf
  · refine xr_aload_n C dX10_richest_82 0 rfl rfl ?_
    refine xr_getr C Kd10 (k := 0) (by decide) rfl wk_821 rfl H0.1 H0.2.1.1 dX10_richest_83 ?_
    refine xr_sipush (v := 152) C dX10_richest_86 (by decide) ?_
    obtain ⟨i2, hf⟩ := ck_x hf
    refine xr_iald C H0.2.1.2 i2 dX10_richest_89 ?_
    refine xr_if_ne (tgt := 106) C dX10_richest_90 (by decide) hf (fun c3 hf => ?_) (fun c3 hf => ?_)
    · refine xr_lv [0, 1, 2, 3, 4, 5] rfl ?_
      exact ebX10_richest_106 C H0 ih46 q hf
    · refine xr_aload_n C dX10_richest_93 0 rfl rfl ?_
      refine xr_bipush (v := 123) C dX10_richest_94 (by decide) ?_
      obtain ⟨⟨r6, I5⟩, h4, hf⟩ := ob_x hf
      refine xr_callVI C [.int 123] lkX10_182 (kX10_step H0 h4) Kd10 rfl H0.1 rfl (Nat.le_of_ble_eq_true rfl) rfl dX10_richest_96 ⟨by decide, by decide, by decide⟩ rfl ?_
      refine xr_pop C dX10_richest_99 rfl ?_
      obtain ⟨v7, ev7, hf⟩ := bnd_x hf
      refine xr_iinc (k := 6) (v := v7) C dX10_richest_100 rfl (by rw [ev7]; rfl) (by decide) rfl ?_
      refine xr_goto (tgt := 76) C dX10_richest_103 (by decide) ?_
      refine xr_lv [1, 2, 3, 4, 5, 6, 0] rfl ?_
      exact ih76 _ _ _ _ _ _ _ hf
theorem ebX10_richest_76 {g : Cfg} (C : Cx g RX10 cX10_richest 7 4 91 0 0) {h : Shp} (H0 : MAt h) {r1 : Int32} {o1 : Mem} {rec46 : Mem → Int32 → Int32 → Int32 → Int32 → Int32 → Option (Int32 × Mem)} (ih46 : ∀ (I0 : Mem) (l1 : Int32) (l2 : Int32) (l3 : Int32) (l4 : Int32) (l5 : Int32), rec46 I0 l1 l2 l3 l4 l5 = some (r1, o1) → XE g 0 0 (I0, h) 46 [(0, rf g 111), (1, .int l1), (2, .int l2), (3, .int l3), (4, .int l4), (5, .int l5)] []) (q : QI g (some Jvm.ClassFile.FieldType.int) 0 0 r1 (o1, h)) : ∀ (fu : Nat) {I0 : Mem} {l1 : Int32} {l2 : Int32} {l3 : Int32} {l4 : Int32} {l5 : Int32} {l6 : Int32} (hf : fnX10_richest_76 rec46 fu I0 l1 l2 l3 l4 l5 l6 = some (r1, o1)), XE g 0 0 (I0, h) 76 [(0, rf g 111), (1, .int l1), (2, .int l2), (3, .int l3), (4, .int l4), (5, .int l5), (6, .int l6)] [] := by
  intro fu
  induction fu with
  | zero =>
    intro I0 l1 l2 l3 l4 l5 l6 hf
    cases hf
  | succ fu ihn =>
    intro I0 l1 l2 l3 l4 l5 l6 hf
    exact ebX10_richest_76b C H0 ih46 q (fun _ _ _ _ _ _ _ hf => ihn hf) hf
def fnX10_richest_46b (rec46 : Mem → Int32 → Int32 → Int32 → Int32 → Int32 → Option (Int32 × Mem)) (I0 : Mem) (l1 : Int32) (l2 : Int32) (l3 : Int32) (l4 : Int32) (l5 : Int32) : Option (Int32 × Mem) :=
  if 168 ≤ l5 then (if l2 = 0 then (fnX10_richest_170 I0 l3) else (fnX10_richest_170 I0 l4)) else (ob (fnX10_pinAt I0 (l5 / 4)) fun ⟨r5, I4⟩ => if r5 = (-1000000) then (ob (fnX10_tryPut I4 l5) fun I8 => fnX10_richest_76 rec46 FU I8 l1 l2 l3 l4 l5 0) else (fnX10_richest_154 rec46 I4 l1 l2 l3 l4 l5))
def fnX10_richest_46 : Nat → Mem → Int32 → Int32 → Int32 → Int32 → Int32 → Option (Int32 × Mem)
  | 0 => fun _ _ _ _ _ _ => none
  | fu + 1 => fnX10_richest_46b (fnX10_richest_46 fu)
set_option maxRecDepth 20000 in
set_option maxHeartbeats 2000000 in
theorem ebX10_richest_46b {g : Cfg} (C : Cx g RX10 cX10_richest 7 4 91 0 0) {h : Shp} (H0 : MAt h) {r1 : Int32} {o1 : Mem} {rec46 : Mem → Int32 → Int32 → Int32 → Int32 → Int32 → Option (Int32 × Mem)} (q : QI g (some Jvm.ClassFile.FieldType.int) 0 0 r1 (o1, h)) (ih46 : ∀ (I0 : Mem) (l1 : Int32) (l2 : Int32) (l3 : Int32) (l4 : Int32) (l5 : Int32), rec46 I0 l1 l2 l3 l4 l5 = some (r1, o1) → XE g 0 0 (I0, h) 46 [(0, rf g 111), (1, .int l1), (2, .int l2), (3, .int l3), (4, .int l4), (5, .int l5)] []) {I0 : Mem} {l1 : Int32} {l2 : Int32} {l3 : Int32} {l4 : Int32} {l5 : Int32} (hf : fnX10_richest_46b rec46 I0 l1 l2 l3 l4 l5 = some (r1, o1)) : XE g 0 0 (I0, h) 46 [(0, rf g 111), (1, .int l1), (2, .int l2), (3, .int l3), (4, .int l4), (5, .int l5)] [] := by
  unfold fnX10_richest_46b at hf
  refine xr_iload C dX10_richest_46 5 rfl ?_
  refine xr_sipush (v := 168) C dX10_richest_48 (by decide) ?_
  refine xr_icmp_ge (tgt := 160) C dX10_richest_51 (by decide) hf (fun c1 hf => ?_) (fun c1 hf => ?_)
  · refine xr_iload_n C dX10_richest_160 2 rfl rfl ?_
    refine xr_if_ne (tgt := 168) C dX10_richest_161 (by decide) hf (fun c2 hf => ?_) (fun c2 hf => ?_)
    · refine xr_iload C dX10_richest_168 4 rfl ?_
      refine xr_lv [] rfl ?_
      exact ebX10_richest_170 C H0 q hf
    · refine xr_iload_n C dX10_richest_164 3 rfl rfl ?_
      refine xr_goto (tgt := 170) C dX10_richest_165 (by decide) ?_
      refine xr_lv [] rfl ?_
      exact ebX10_richest_170 C H0 q hf
  · refine xr_aload_n C dX10_richest_54 0 rfl rfl ?_
    refine xr_iload C dX10_richest_55 5 rfl ?_
    refine xr_iconst (v := 4) C dX10_richest_57 (by decide) ?_
    refine xr_idiv C dX10_richest_58 (by decide) ?_
    obtain ⟨⟨r5, I4⟩, h3, hf⟩ := ob_x hf
    refine xr_callVI C [.int (l5 / 4)] lkX10_169 (kX10_pinAt H0 h3) Kd10 rfl H0.1 rfl (Nat.le_of_ble_eq_true rfl) rfl dX10_richest_59 ⟨by decide, by decide, by decide⟩ rfl ?_
    refine xr_ldc C wk_820 dX10_richest_62 ?_
    refine xr_icmp_ne (tgt := 154) C dX10_richest_64 (by decide) hf (fun c6 hf => ?_) (fun c6 hf => ?_)
    · exact ebX10_richest_154 C H0 ih46 q hf
    · refine xr_aload_n C dX10_richest_67 0 rfl rfl ?_
      refine xr_iload C dX10_richest_68 5 rfl ?_
      obtain ⟨I8, h7, hf⟩ := ob_x hf
      refine xr_callVV C [.int l5] lkX10_207 (kX10_tryPut H0 h7) Kd10 rfl H0.1 rfl (Nat.le_of_ble_eq_true rfl) rfl dX10_richest_70 ⟨by decide, by decide, by decide⟩ rfl ?_
      refine xr_iconst (v := 0) C dX10_richest_73 (by decide) ?_
      refine xr_istore C dX10_richest_74 (by decide) rfl ?_
      refine xr_lv [1, 2, 3, 4, 5, 6, 0] rfl ?_
      exact ebX10_richest_76 C H0 ih46 q _ hf
theorem ebX10_richest_46 {g : Cfg} (C : Cx g RX10 cX10_richest 7 4 91 0 0) {h : Shp} (H0 : MAt h) {r1 : Int32} {o1 : Mem} (q : QI g (some Jvm.ClassFile.FieldType.int) 0 0 r1 (o1, h)) : ∀ (fu : Nat) {I0 : Mem} {l1 : Int32} {l2 : Int32} {l3 : Int32} {l4 : Int32} {l5 : Int32} (hf : fnX10_richest_46 fu I0 l1 l2 l3 l4 l5 = some (r1, o1)), XE g 0 0 (I0, h) 46 [(0, rf g 111), (1, .int l1), (2, .int l2), (3, .int l3), (4, .int l4), (5, .int l5)] [] := by
  intro fu
  induction fu with
  | zero =>
    intro I0 l1 l2 l3 l4 l5 hf
    cases hf
  | succ fu ihn =>
    intro I0 l1 l2 l3 l4 l5 hf
    exact ebX10_richest_46b C H0 q (fun _ _ _ _ _ _ hf => ihn hf) hf
def fnX10_richest_34 (I0 : Mem) : Option (Int32 × Mem) :=
  some ((-1000001), I0)
set_option maxRecDepth 20000 in
set_option maxHeartbeats 2000000 in
theorem ebX10_richest_34 {g : Cfg} (C : Cx g RX10 cX10_richest 7 4 91 0 0) {h : Shp} (H0 : MAt h) {r1 : Int32} {o1 : Mem} (q : QI g (some Jvm.ClassFile.FieldType.int) 0 0 r1 (o1, h)) {I0 : Mem} (hf : fnX10_richest_34 I0 = some (r1, o1)) : XE g 0 0 (I0, h) 34 [] [] := by
  unfold fnX10_richest_34 at hf
  refine xr_ldc C wk_900 dX10_richest_34 ?_
  exact xr_ireturn C q rfl rfl dX10_richest_36 (so_1 hf) (so_w hf)
def fnX10_richest (I0 : Mem) (p1 : Int32) (p2 : Int32) : Option (Int32 × Mem) :=
  ck (inb 0 164) <| if (I0 112 (ix 0)) = 0 then (some ((-1000002), I0)) else (ob (fnX10_in I0 (p1.toInt64) 1 40) fun ⟨r5, I4⟩ => if r5 = 0 then (fnX10_richest_34 I4) else (ob (fnX10_in I4 (p2.toInt64) 0 1) fun ⟨r9, I8⟩ => if r9 = 0 then (fnX10_richest_34 I8) else (fnX10_richest_46 FU I8 p1 p2 (-1000000) (-1) 0)))
set_option maxRecDepth 20000 in
set_option maxHeartbeats 2000000 in
theorem ebX10_richest_0 {g : Cfg} (C : Cx g RX10 cX10_richest 7 4 91 0 0) {h : Shp} (H0 : MAt h) {r1 : Int32} {o1 : Mem} (q : QI g (some Jvm.ClassFile.FieldType.int) 0 0 r1 (o1, h)) {I0 : Mem} {p1 : Int32} {p2 : Int32} (hf : fnX10_richest I0 p1 p2 = some (r1, o1)) : XE g 0 0 (I0, h) 0 [(0, rf g 111), (1, .int p1), (2, .int p2)] [] := by
  unfold fnX10_richest at hf
  refine xr_aload_n C dX10_richest_0 0 rfl rfl ?_
  refine xr_getr C Kd10 (k := 0) (by decide) rfl wk_821 rfl H0.1 H0.2.1.1 dX10_richest_1 ?_
  refine xr_iconst (v := 0) C dX10_richest_4 (by decide) ?_
  obtain ⟨i1, hf⟩ := ck_x hf
  refine xr_iald C H0.2.1.2 i1 dX10_richest_5 ?_
  refine xr_if_ne (tgt := 12) C dX10_richest_6 (by decide) hf (fun c2 hf => ?_) (fun c2 hf => ?_)
  · refine xr_iload_n C dX10_richest_12 1 rfl rfl ?_
    refine xr_i2l C dX10_richest_13 ?_
    refine xr_lconst (v := 1) C dX10_richest_14 (by decide) ?_
    refine xr_ldc2 C wk_1093 dX10_richest_15 ?_
    obtain ⟨⟨r5, I4⟩, h3, hf⟩ := ob_x hf
    refine xr_callSI C [.long (p1.toInt64), .long 1, .long 40] lkX10_48 (kX10_in h3) rfl (Nat.le_of_ble_eq_true rfl) rfl dX10_richest_18 ⟨by decide, by decide, by decide⟩ rfl ?_
    refine xr_if_eq (tgt := 34) C dX10_richest_21 (by decide) hf (fun c6 hf => ?_) (fun c6 hf => ?_)
    · refine xr_lv [] rfl ?_
      exact ebX10_richest_34 C H0 q hf
    · refine xr_iload_n C dX10_richest_24 2 rfl rfl ?_
      refine xr_i2l C dX10_richest_25 ?_
      refine xr_lconst (v := 0) C dX10_richest_26 (by decide) ?_
      refine xr_lconst (v := 1) C dX10_richest_27 (by decide) ?_
      obtain ⟨⟨r9, I8⟩, h7, hf⟩ := ob_x hf
      refine xr_callSI C [.long (p2.toInt64), .long 0, .long 1] lkX10_48 (kX10_in h7) rfl (Nat.le_of_ble_eq_true rfl) rfl dX10_richest_28 ⟨by decide, by decide, by decide⟩ rfl ?_
      refine xr_if_ne (tgt := 37) C dX10_richest_31 (by decide) hf (fun c10 hf => ?_) (fun c10 hf => ?_)
      · refine xr_ldc C wk_820 dX10_richest_37 ?_
        refine xr_istore_n C dX10_richest_39 rfl (by decide) rfl ?_
        refine xr_iconst (v := (-1)) C dX10_richest_40 (by decide) ?_
        refine xr_istore C dX10_richest_41 (by decide) rfl ?_
        refine xr_iconst (v := 0) C dX10_richest_43 (by decide) ?_
        refine xr_istore C dX10_richest_44 (by decide) rfl ?_
        refine xr_lv [3, 4, 5, 2, 1, 0] rfl ?_
        exact ebX10_richest_46 C H0 q _ hf
      · refine xr_lv [] rfl ?_
        exact ebX10_richest_34 C H0 q hf
  · refine xr_ldc C wk_1011 dX10_richest_9 ?_
    exact xr_ireturn C q rfl rfl dX10_richest_11 (so_1 hf) (so_w hf)
theorem kX10_richest {B : Bs} {h : Shp} (H0 : MAt h) {I0 : Mem} {p1 : Int32} {p2 : Int32} {r1 : Int32} {o1 : Mem} (hf : fnX10_richest I0 p1 p2 = some (r1, o1)) : CtrI B yX10_richest cX10_richest 7 (some Jvm.ClassFile.FieldType.int) 4 91 0 0 [rfB B 111, .int p1, .int p2] (I0, h) r1 (o1, h) := by
  refine xr_enterI (lv0 := [(0, rfB B 111), (1, .int p1), (2, .int p2)]) (by decide) (Nat.le_of_ble_eq_true rfl) rfl (fun g hg C q => ?_)
  subst hg
  exact ebX10_richest_0 C H0 q hf
theorem dX10_stateOf_0 : decode cX10_stateOf 0 = .ok (.iconst 4, 1) := by decide +kernel
theorem dX10_stateOf_1 : decode cX10_stateOf 1 = .ok (.iload_n 0, 1) := by decide +kernel
theorem dX10_stateOf_2 : decode cX10_stateOf 2 = .ok (.imul, 1) := by decide +kernel
theorem dX10_stateOf_3 : decode cX10_stateOf 3 = .ok (.iload_n 1, 1) := by decide +kernel
theorem dX10_stateOf_4 : decode cX10_stateOf 4 = .ok (.iadd, 1) := by decide +kernel
theorem dX10_stateOf_5 : decode cX10_stateOf 5 = .ok (.bipush 64, 2) := by decide +kernel
theorem dX10_stateOf_7 : decode cX10_stateOf 7 = .ok (.imul, 1) := by decide +kernel
theorem dX10_stateOf_8 : decode cX10_stateOf 8 = .ok (.iload_n 2, 1) := by decide +kernel
theorem dX10_stateOf_9 : decode cX10_stateOf 9 = .ok (.iadd, 1) := by decide +kernel
theorem dX10_stateOf_10 : decode cX10_stateOf 10 = .ok (.ireturn, 1) := by decide +kernel
/-! BumperBallsModel.stateOf(III)I -/
def fnX10_stateOf (I0 : Mem) (p0 : Int32) (p1 : Int32) (p2 : Int32) : Option (Int32 × Mem) :=
  some ((((((4 : Int32) * p0) + p1) * 64) + p2), I0)
set_option maxRecDepth 20000 in
set_option maxHeartbeats 2000000 in
theorem ebX10_stateOf_0 {g : Cfg} (C : Cx g RX10 cX10_stateOf 3 0 0 0 0) {h : Shp} {r1 : Int32} {o1 : Mem} (q : QI g (some Jvm.ClassFile.FieldType.int) 0 0 r1 (o1, h)) {I0 : Mem} {p0 : Int32} {p1 : Int32} {p2 : Int32} (hf : fnX10_stateOf I0 p0 p1 p2 = some (r1, o1)) : XE g 0 0 (I0, h) 0 [(0, .int p0), (1, .int p1), (2, .int p2)] [] := by
  unfold fnX10_stateOf at hf
  refine xr_iconst (v := 4) C dX10_stateOf_0 (by decide) ?_
  refine xr_iload_n C dX10_stateOf_1 0 rfl rfl ?_
  refine xr_imul C dX10_stateOf_2 ?_
  refine xr_iload_n C dX10_stateOf_3 1 rfl rfl ?_
  refine xr_iadd C dX10_stateOf_4 ?_
  refine xr_bipush (v := 64) C dX10_stateOf_5 (by decide) ?_
  refine xr_imul C dX10_stateOf_7 ?_
  refine xr_iload_n C dX10_stateOf_8 2 rfl rfl ?_
  refine xr_iadd C dX10_stateOf_9 ?_
  exact xr_ireturn C q rfl rfl dX10_stateOf_10 (so_1 hf) (so_w hf)
theorem kX10_stateOf {B : Bs} {h : Shp} {I0 : Mem} {p0 : Int32} {p1 : Int32} {p2 : Int32} {r1 : Int32} {o1 : Mem} (hf : fnX10_stateOf I0 p0 p1 p2 = some (r1, o1)) : CtrI B yX10_stateOf cX10_stateOf 3 (some Jvm.ClassFile.FieldType.int) 0 0 0 0 [.int p0, .int p1, .int p2] (I0, h) r1 (o1, h) := by
  refine xr_enterI (lv0 := [(0, .int p0), (1, .int p1), (2, .int p2)]) (by decide) (Nat.le_of_ble_eq_true rfl) rfl (fun g hg C q => ?_)
  subst hg
  exact ebX10_stateOf_0 C q hf
theorem dX10_goOn_0 : decode cX10_goOn 0 = .ok (.aload_n 0, 1) := by decide +kernel
theorem dX10_goOn_1 : decode cX10_goOn 1 = .ok (.iconst 0, 1) := by decide +kernel
theorem dX10_goOn_2 : decode cX10_goOn 2 = .ok (.bipush 123, 2) := by decide +kernel
theorem dX10_goOn_4 : decode cX10_goOn 4 = .ok (.invokevirtual 199, 3) := by decide +kernel
theorem dX10_goOn_7 : decode cX10_goOn 7 = .ok (.aload_n 0, 1) := by decide +kernel
theorem dX10_goOn_8 : decode cX10_goOn 8 = .ok (.getfield 7, 3) := by decide +kernel
theorem dX10_goOn_11 : decode cX10_goOn 11 = .ok (.sipush 150, 3) := by decide +kernel
theorem dX10_goOn_14 : decode cX10_goOn 14 = .ok (.iload_n 1, 1) := by decide +kernel
theorem dX10_goOn_15 : decode cX10_goOn 15 = .ok (.sipush 256, 3) := by decide +kernel
theorem dX10_goOn_18 : decode cX10_goOn 18 = .ok (.idiv, 1) := by decide +kernel
theorem dX10_goOn_19 : decode cX10_goOn 19 = .ok (.iastore, 1) := by decide +kernel
theorem dX10_goOn_20 : decode cX10_goOn 20 = .ok (.aload_n 0, 1) := by decide +kernel
theorem dX10_goOn_21 : decode cX10_goOn 21 = .ok (.getfield 7, 3) := by decide +kernel
theorem dX10_goOn_24 : decode cX10_goOn 24 = .ok (.sipush 151, 3) := by decide +kernel
theorem dX10_goOn_27 : decode cX10_goOn 27 = .ok (.iload_n 1, 1) := by decide +kernel
theorem dX10_goOn_28 : decode cX10_goOn 28 = .ok (.bipush 64, 2) := by decide +kernel
theorem dX10_goOn_30 : decode cX10_goOn 30 = .ok (.idiv, 1) := by decide +kernel
theorem dX10_goOn_31 : decode cX10_goOn 31 = .ok (.iload_n 2, 1) := by decide +kernel
theorem dX10_goOn_32 : decode cX10_goOn 32 = .ok (.iadd, 1) := by decide +kernel
theorem dX10_goOn_33 : decode cX10_goOn 33 = .ok (.iconst 4, 1) := by decide +kernel
theorem dX10_goOn_34 : decode cX10_goOn 34 = .ok (.irem, 1) := by decide +kernel
theorem dX10_goOn_35 : decode cX10_goOn 35 = .ok (.iastore, 1) := by decide +kernel
theorem dX10_goOn_36 : decode cX10_goOn 36 = .ok (.aload_n 0, 1) := by decide +kernel
theorem dX10_goOn_37 : decode cX10_goOn 37 = .ok (.getfield 7, 3) := by decide +kernel
theorem dX10_goOn_40 : decode cX10_goOn 40 = .ok (.sipush 157, 3) := by decide +kernel
theorem dX10_goOn_43 : decode cX10_goOn 43 = .ok (.iload_n 1, 1) := by decide +kernel
theorem dX10_goOn_44 : decode cX10_goOn 44 = .ok (.bipush 64, 2) := by decide +kernel
theorem dX10_goOn_46 : decode cX10_goOn 46 = .ok (.irem, 1) := by decide +kernel
theorem dX10_goOn_47 : decode cX10_goOn 47 = .ok (.iastore, 1) := by decide +kernel
theorem dX10_goOn_48 : decode cX10_goOn 48 = .ok (.aload_n 0, 1) := by decide +kernel
theorem dX10_goOn_49 : decode cX10_goOn 49 = .ok (.getfield 7, 3) := by decide +kernel
theorem dX10_goOn_52 : decode cX10_goOn 52 = .ok (.sipush 152, 3) := by decide +kernel
theorem dX10_goOn_55 : decode cX10_goOn 55 = .ok (.iconst 0, 1) := by decide +kernel
theorem dX10_goOn_56 : decode cX10_goOn 56 = .ok (.iastore, 1) := by decide +kernel
theorem dX10_goOn_57 : decode cX10_goOn 57 = .ok (.aload_n 0, 1) := by decide +kernel
theorem dX10_goOn_58 : decode cX10_goOn 58 = .ok (.getfield 35, 3) := by decide +kernel
theorem dX10_goOn_61 : decode cX10_goOn 61 = .ok (.iload_n 1, 1) := by decide +kernel
theorem dX10_goOn_62 : decode cX10_goOn 62 = .ok (.iaload, 1) := by decide +kernel
theorem dX10_goOn_63 : decode cX10_goOn 63 = .ok (.iload_n 2, 1) := by decide +kernel
theorem dX10_goOn_64 : decode cX10_goOn 64 = .ok (.iadd, 1) := by decide +kernel
theorem dX10_goOn_65 : decode cX10_goOn 65 = .ok (.istore 4, 2) := by decide +kernel
theorem dX10_goOn_67 : decode cX10_goOn 67 = .ok (.aload_n 0, 1) := by decide +kernel
theorem dX10_goOn_68 : decode cX10_goOn 68 = .ok (.bipush 123, 2) := by decide +kernel
theorem dX10_goOn_70 : decode cX10_goOn 70 = .ok (.invokevirtual 182, 3) := by decide +kernel
theorem dX10_goOn_73 : decode cX10_goOn 73 = .ok (.istore 5, 2) := by decide +kernel
theorem dX10_goOn_75 : decode cX10_goOn 75 = .ok (.aload_n 0, 1) := by decide +kernel
theorem dX10_goOn_76 : decode cX10_goOn 76 = .ok (.getfield 7, 3) := by decide +kernel
theorem dX10_goOn_79 : decode cX10_goOn 79 = .ok (.sipush 152, 3) := by decide +kernel
theorem dX10_goOn_82 : decode cX10_goOn 82 = .ok (.iaload, 1) := by decide +kernel
theorem dX10_goOn_83 : decode cX10_goOn 83 = .ok (.ifCond .ne 75, 3) := by decide +kernel
theorem dX10_goOn_86 : decode cX10_goOn 86 = .ok (.aload_n 0, 1) := by decide +kernel
theorem dX10_goOn_87 : decode cX10_goOn 87 = .ok (.getfield 7, 3) := by decide +kernel
theorem dX10_goOn_90 : decode cX10_goOn 90 = .ok (.sipush 150, 3) := by decide +kernel
theorem dX10_goOn_93 : decode cX10_goOn 93 = .ok (.iaload, 1) := by decide +kernel
theorem dX10_goOn_94 : decode cX10_goOn 94 = .ok (.aload_n 0, 1) := by decide +kernel
theorem dX10_goOn_95 : decode cX10_goOn 95 = .ok (.getfield 7, 3) := by decide +kernel
theorem dX10_goOn_98 : decode cX10_goOn 98 = .ok (.sipush 151, 3) := by decide +kernel
theorem dX10_goOn_101 : decode cX10_goOn 101 = .ok (.iaload, 1) := by decide +kernel
theorem dX10_goOn_102 : decode cX10_goOn 102 = .ok (.aload_n 0, 1) := by decide +kernel
theorem dX10_goOn_103 : decode cX10_goOn 103 = .ok (.getfield 7, 3) := by decide +kernel
theorem dX10_goOn_106 : decode cX10_goOn 106 = .ok (.sipush 157, 3) := by decide +kernel
theorem dX10_goOn_109 : decode cX10_goOn 109 = .ok (.iaload, 1) := by decide +kernel
theorem dX10_goOn_110 : decode cX10_goOn 110 = .ok (.invokestatic 211, 3) := by decide +kernel
theorem dX10_goOn_113 : decode cX10_goOn 113 = .ok (.istore 6, 2) := by decide +kernel
theorem dX10_goOn_115 : decode cX10_goOn 115 = .ok (.aload_n 0, 1) := by decide +kernel
theorem dX10_goOn_116 : decode cX10_goOn 116 = .ok (.getfield 38, 3) := by decide +kernel
theorem dX10_goOn_119 : decode cX10_goOn 119 = .ok (.iload 6, 2) := by decide +kernel
theorem dX10_goOn_121 : decode cX10_goOn 121 = .ok (.aload_n 0, 1) := by decide +kernel
theorem dX10_goOn_122 : decode cX10_goOn 122 = .ok (.getfield 38, 3) := by decide +kernel
theorem dX10_goOn_125 : decode cX10_goOn 125 = .ok (.iload 6, 2) := by decide +kernel
theorem dX10_goOn_127 : decode cX10_goOn 127 = .ok (.iaload, 1) := by decide +kernel
theorem dX10_goOn_128 : decode cX10_goOn 128 = .ok (.ldc 19, 2) := by decide +kernel
theorem dX10_goOn_130 : decode cX10_goOn 130 = .ok (.if_icmp .eq 15, 3) := by decide +kernel
theorem dX10_goOn_133 : decode cX10_goOn 133 = .ok (.iload 4, 2) := by decide +kernel
theorem dX10_goOn_135 : decode cX10_goOn 135 = .ok (.aload_n 0, 1) := by decide +kernel
theorem dX10_goOn_136 : decode cX10_goOn 136 = .ok (.getfield 38, 3) := by decide +kernel
theorem dX10_goOn_139 : decode cX10_goOn 139 = .ok (.iload 6, 2) := by decide +kernel
theorem dX10_goOn_141 : decode cX10_goOn 141 = .ok (.iaload, 1) := by decide +kernel
theorem dX10_goOn_142 : decode cX10_goOn 142 = .ok (.if_icmp .ge 8, 3) := by decide +kernel
theorem dX10_goOn_145 : decode cX10_goOn 145 = .ok (.iload 4, 2) := by decide +kernel
theorem dX10_goOn_147 : decode cX10_goOn 147 = .ok (.goto 10, 3) := by decide +kernel
theorem dX10_goOn_150 : decode cX10_goOn 150 = .ok (.aload_n 0, 1) := by decide +kernel
theorem dX10_goOn_151 : decode cX10_goOn 151 = .ok (.getfield 38, 3) := by decide +kernel
theorem dX10_goOn_154 : decode cX10_goOn 154 = .ok (.iload 6, 2) := by decide +kernel
theorem dX10_goOn_156 : decode cX10_goOn 156 = .ok (.iaload, 1) := by decide +kernel
theorem dX10_goOn_157 : decode cX10_goOn 157 = .ok (.iastore, 1) := by decide +kernel
theorem dX10_goOn_158 : decode cX10_goOn 158 = .ok (.iload 5, 2) := by decide +kernel
theorem dX10_goOn_160 : decode cX10_goOn 160 = .ok (.ldc 19, 2) := by decide +kernel
theorem dX10_goOn_162 : decode cX10_goOn 162 = .ok (.if_icmp .eq 25, 3) := by decide +kernel
theorem dX10_goOn_165 : decode cX10_goOn 165 = .ok (.aload_n 0, 1) := by decide +kernel
theorem dX10_goOn_166 : decode cX10_goOn 166 = .ok (.getfield 7, 3) := by decide +kernel
theorem dX10_goOn_169 : decode cX10_goOn 169 = .ok (.iconst 3, 1) := by decide +kernel
theorem dX10_goOn_170 : decode cX10_goOn 170 = .ok (.iconst 4, 1) := by decide +kernel
theorem dX10_goOn_171 : decode cX10_goOn 171 = .ok (.iload 5, 2) := by decide +kernel
theorem dX10_goOn_173 : decode cX10_goOn 173 = .ok (.imul, 1) := by decide +kernel
theorem dX10_goOn_174 : decode cX10_goOn 174 = .ok (.iadd, 1) := by decide +kernel
theorem dX10_goOn_175 : decode cX10_goOn 175 = .ok (.iconst 2, 1) := by decide +kernel
theorem dX10_goOn_176 : decode cX10_goOn 176 = .ok (.iadd, 1) := by decide +kernel
theorem dX10_goOn_177 : decode cX10_goOn 177 = .ok (.iaload, 1) := by decide +kernel
theorem dX10_goOn_178 : decode cX10_goOn 178 = .ok (.iload_n 3, 1) := by decide +kernel
theorem dX10_goOn_179 : decode cX10_goOn 179 = .ok (.if_icmp .ne 8, 3) := by decide +kernel
theorem dX10_goOn_182 : decode cX10_goOn 182 = .ok (.iload 4, 2) := by decide +kernel
theorem dX10_goOn_184 : decode cX10_goOn 184 = .ok (.goto 5, 3) := by decide +kernel
theorem dX10_goOn_187 : decode cX10_goOn 187 = .ok (.ldc 19, 2) := by decide +kernel
theorem dX10_goOn_189 : decode cX10_goOn 189 = .ok (.ireturn, 1) := by decide +kernel
theorem lkX10_211 : LkS "BumperBallsModel" 211 yX10_stateOf cX10_stateOf 3 (some Jvm.ClassFile.FieldType.int) 3 := ⟨wk_1109, wk_11, wk_1108, ⟨by decide +kernel, by decide +kernel, by decide +kernel⟩, wk_1107⟩
/-! BumperBallsModel.goOn(III)I -/
def fnX10_goOn_189 (I0 : Mem) (t0 : Int32) : Option (Int32 × Mem) :=
  some (t0, I0)
set_option maxRecDepth 20000 in
set_option maxHeartbeats 2000000 in
theorem ebX10_goOn_189 {g : Cfg} (C : Cx g RX10 cX10_goOn 7 4 91 0 0) {h : Shp} (H0 : MAt h) {r1 : Int32} {o1 : Mem} (q : QI g (some Jvm.ClassFile.FieldType.int) 0 0 r1 (o1, h)) {I0 : Mem} {t0 : Int32} (hf : fnX10_goOn_189 I0 t0 = some (r1, o1)) : XE g 0 0 (I0, h) 189 [] [.int t0] := by
  unfold fnX10_goOn_189 at hf
  exact xr_ireturn C q rfl rfl dX10_goOn_189 (so_1 hf) (so_w hf)
def fnX10_goOn_187 (I0 : Mem) : Option (Int32 × Mem) :=
  fnX10_goOn_189 I0 (-1000000)
set_option maxRecDepth 20000 in
set_option maxHeartbeats 2000000 in
theorem ebX10_goOn_187 {g : Cfg} (C : Cx g RX10 cX10_goOn 7 4 91 0 0) {h : Shp} (H0 : MAt h) {r1 : Int32} {o1 : Mem} (q : QI g (some Jvm.ClassFile.FieldType.int) 0 0 r1 (o1, h)) {I0 : Mem} (hf : fnX10_goOn_187 I0 = some (r1, o1)) : XE g 0 0 (I0, h) 187 [] [] := by
  unfold fnX10_goOn_187 at hf
  refine xr_ldc C wk_820 dX10_goOn_187 ?_
  exact ebX10_goOn_189 C H0 q hf
def fnX10_goOn_158 (I0 : Mem) (l3 : Int32) (l4 : Int32) (l5 : Int32) : Option (Int32 × Mem) :=
  if l5 = (-1000000) then (fnX10_goOn_187 I0) else (ck (inb (((3 : Int32) + ((4 : Int32) * l5)) + 2) 164) <| if (I0 112 (ix (((3 : Int32) + ((4 : Int32) * l5)) + 2))) = l3 then (fnX10_goOn_189 I0 l4) else (fnX10_goOn_187 I0))
set_option maxRecDepth 20000 in
set_option maxHeartbeats 2000000 in
theorem ebX10_goOn_158 {g : Cfg} (C : Cx g RX10 cX10_goOn 7 4 91 0 0) {h : Shp} (H0 : MAt h) {r1 : Int32} {o1 : Mem} (q : QI g (some Jvm.ClassFile.FieldType.int) 0 0 r1 (o1, h)) {I0 : Mem} {l3 : Int32} {l4 : Int32} {l5 : Int32} (hf : fnX10_goOn_158 I0 l3 l4 l5 = some (r1, o1)) : XE g 0 0 (I0, h) 158 [(0, rf g 111), (3, .int l3), (4, .int l4), (5, .int l5)] [] := by
  unfold fnX10_goOn_158 at hf
  refine xr_iload C dX10_goOn_158 3 rfl ?_
  refine xr_ldc C wk_820 dX10_goOn_160 ?_
  refine xr_icmp_eq (tgt := 187) C dX10_goOn_162 (by decide) hf (fun c1 hf => ?_) (fun c1 hf => ?_)
  · refine xr_lv [] rfl ?_
    exact ebX10_goOn_187 C H0 q hf
  · refine xr_aload_n C dX10_goOn_165 0 rfl rfl ?_
    refine xr_getr C Kd10 (k := 0) (by decide) rfl wk_821 rfl H0.1 H0.2.1.1 dX10_goOn_166 ?_
    refine xr_iconst (v := 3) C dX10_goOn_169 (by decide) ?_
    refine xr_iconst (v := 4) C dX10_goOn_170 (by decide) ?_
    refine xr_iload C dX10_goOn_171 3 rfl ?_
    refine xr_imul C dX10_goOn_173 ?_
    refine xr_iadd C dX10_goOn_174 ?_
    refine xr_iconst (v := 2) C dX10_goOn_175 (by decide) ?_
    refine xr_iadd C dX10_goOn_176 ?_
    obtain ⟨i2, hf⟩ := ck_x hf
    refine xr_iald C H0.2.1.2 i2 dX10_goOn_177 ?_
    refine xr_iload_n C dX10_goOn_178 1 rfl rfl ?_
    refine xr_icmp_ne (tgt := 187) C dX10_goOn_179 (by decide) hf (fun c3 hf => ?_) (fun c3 hf => ?_)
    · refine xr_lv [] rfl ?_
      exact ebX10_goOn_187 C H0 q hf
    · refine xr_iload C dX10_goOn_182 2 rfl ?_
      refine xr_goto (tgt := 189) C dX10_goOn_184 (by decide) ?_
      refine xr_lv [] rfl ?_
      exact ebX10_goOn_189 C H0 q hf
def fnX10_goOn_157 (I0 : Mem) (l3 : Int32) (l4 : Int32) (l5 : Int32) (t1 : Int32) (t2 : Int32) : Option (Int32 × Mem) :=
  ck (inb t1 10752) <| bnd (up2 I0 121 (ix t1) t2) fun I2 => fnX10_goOn_158 I2 l3 l4 l5
set_option maxRecDepth 20000 in
set_option maxHeartbeats 2000000 in
theorem ebX10_goOn_157 {g : Cfg} (C : Cx g RX10 cX10_goOn 7 4 91 0 0) {h : Shp} (H0 : MAt h) {r1 : Int32} {o1 : Mem} (q : QI g (some Jvm.ClassFile.FieldType.int) 0 0 r1 (o1, h)) {I0 : Mem} {l3 : Int32} {l4 : Int32} {l5 : Int32} {t1 : Int32} {t2 : Int32} (hf : fnX10_goOn_157 I0 l3 l4 l5 t1 t2 = some (r1, o1)) : XE g 0 0 (I0, h) 157 [(0, rf g 111), (3, .int l3), (4, .int l4), (5, .int l5)] [.int t2, .int t1, rf g 121] := by
  unfold fnX10_goOn_157 at hf
  obtain ⟨i1, hf⟩ := ck_x hf
  obtain ⟨I2, eI2, hf⟩ := bnd_x hf
  refine xr_iast C H0.2.2.2.2.2.2.2.2.2.2.2 i1 dX10_goOn_157 eI2 ?_
  exact ebX10_goOn_158 C H0 q hf
def fnX10_goOn_145 (I0 : Mem) (l3 : Int32) (l4 : Int32) (l5 : Int32) (t1 : Int32) : Option (Int32 × Mem) :=
  fnX10_goOn_157 I0 l3 l4 l5 t1 l4
set_option maxRecDepth 20000 in
set_option maxHeartbeats 2000000 in
theorem ebX10_goOn_145 {g : Cfg} (C : Cx g RX10 cX10_goOn 7 4 91 0 0) {h : Shp} (H0 : MAt h) {r1 : Int32} {o1 : Mem} (q : QI g (some Jvm.ClassFile.FieldType.int) 0 0 r1 (o1, h)) {I0 : Mem} {l3 : Int32} {l4 : Int32} {l5 : Int32} {t1 : Int32} (hf : fnX10_goOn_145 I0 l3 l4 l5 t1 = some (r1, o1)) : XE g 0 0 (I0, h) 145 [(0, rf g 111), (3, .int l3), (4, .int l4), (5, .int l5)] [.int t1, rf g 121] := by
  unfold fnX10_goOn_145 at hf
  refine xr_iload C dX10_goOn_145 2 rfl ?_
  refine xr_goto (tgt := 157) C dX10_goOn_147 (by decide) ?_
  exact ebX10_goOn_157 C H0 q hf
def fnX10_goOn (I0 : Mem) (p1 : Int32) (p2 : Int32) (p3 : Int32) : Option (Int32 × Mem) :=
  ob (fnX10_copyRow I0 0 123) fun I2 => ck (inb 150 164) <| bnd (up2 I2 112 (ix 150) (p1 / 256)) fun I4 => ck (inb 151 164) <| bnd (up2 I4 112 (ix 151) (irm ((p1 / 64) + p2) 4)) fun I6 => ck (inb 157 164) <| bnd (up2 I6 112 (ix 157) (irm p1 64)) fun I8 => ck (inb 152 164) <| bnd (up2 I8 112 (ix 152) 0) fun I10 => ck (inb p1 10752) <| bnd ((I10 120 (ix p1)) + p2) fun v12 => ob (fnX10_step I10 123) fun ⟨r15, I14⟩ => ck (inb 152 164) <| if (I14 112 (ix 152)) = 0 then (ck (inb 150 164) <| ck (inb 151 164) <| ck (inb 157 164) <| ob (fnX10_stateOf I14 (I14 112 (ix 150)) (I14 112 (ix 151)) (I14 112 (ix 157))) fun ⟨r23, I22⟩ => ck (inb r23 10752) <| if (I22 121 (ix r23)) = (-1000000) then (fnX10_goOn_145 I22 p3 v12 r15 r23) else (ck (inb r23 10752) <| if (I22 121 (ix r23)) ≤ v12 then (ck (inb r23 10752) <| fnX10_goOn_157 I22 p3 v12 r15 r23 (I22 121 (ix r23))) else (fnX10_goOn_145 I22 p3 v12 r15 r23))) else (fnX10_goOn_158 I14 p3 v12 r15)
set_option maxRecDepth 20000 in
set_option maxHeartbeats 2000000 in
theorem ebX10_goOn_0 {g : Cfg} (C : Cx g RX10 cX10_goOn 7 4 91 0 0) {h : Shp} (H0 : MAt h) {r1 : Int32} {o1 : Mem} (q : QI g (some Jvm.ClassFile.FieldType.int) 0 0 r1 (o1, h)) {I0 : Mem} {p1 : Int32} {p2 : Int32} {p3 : Int32} (hf : fnX10_goOn I0 p1 p2 p3 = some (r1, o1)) : XE g 0 0 (I0, h) 0 [(0, rf g 111), (1, .int p1), (2, .int p2), (3, .int p3)] [] := by
  unfold fnX10_goOn at hf
  refine xr_aload_n C dX10_goOn_0 0 rfl rfl ?_
  refine xr_iconst (v := 0) C dX10_goOn_1 (by decide) ?_
  refine xr_bipush (v := 123) C dX10_goOn_2 (by decide) ?_
  obtain ⟨I2, h1, hf⟩ := ob_x hf
  refine xr_callVV C [.int 0, .int 123] lkX10_199 (kX10_copyRow H0 h1) Kd10 rfl H0.1 rfl (Nat.le_of_ble_eq_true rfl) rfl dX10_goOn_4 ⟨by decide, by decide, by decide⟩ rfl ?_
  refine xr_aload_n C dX10_goOn_7 0 rfl rfl ?_
  refine xr_getr C Kd10 (k := 0) (by decide) rfl wk_821 rfl H0.1 H0.2.1.1 dX10_goOn_8 ?_
  refine xr_sipush (v := 150) C dX10_goOn_11 (by decide) ?_
  refine xr_iload_n C dX10_goOn_14 1 rfl rfl ?_
  refine xr_sipush (v := 256) C dX10_goOn_15 (by decide) ?_
  refine xr_idiv C dX10_goOn_18 (by decide) ?_
  obtain ⟨i3, hf⟩ := ck_x hf
  obtain ⟨I4, eI4, hf⟩ := bnd_x hf
  refine xr_iast C H0.2.1.2 i3 dX10_goOn_19 eI4 ?_
  refine xr_aload_n C dX10_goOn_20 0 rfl rfl ?_
  refine xr_getr C Kd10 (k := 0) (by decide) rfl wk_821 rfl H0.1 H0.2.1.1 dX10_goOn_21 ?_
  refine xr_sipush (v := 151) C dX10_goOn_24 (by decide) ?_
  refine xr_iload_n C dX10_goOn_27 1 rfl rfl ?_
  refine xr_bipush (v := 64) C dX10_goOn_28 (by decide) ?_
  refine xr_idiv C dX10_goOn_30 (by decide) ?_
  refine xr_iload_n C dX10_goOn_31 2 rfl rfl ?_
  refine xr_iadd C dX10_goOn_32 ?_
  refine xr_iconst (v := 4) C dX10_goOn_33 (by decide) ?_
  refine xr_irem C dX10_goOn_34 (by decide) ?_
  obtain ⟨i5, hf⟩ := ck_x hf
  obtain ⟨I6, eI6, hf⟩ := bnd_x hf
  refine xr_iast C H0.2.1.2 i5 dX10_goOn_35 eI6 ?_
  refine xr_aload_n C dX10_goOn_36 0 rfl rfl ?_
  refine xr_getr C Kd10 (k := 0) (by decide) rfl wk_821 rfl H0.1 H0.2.1.1 dX10_goOn_37 ?_
  refine xr_sipush (v := 157) C dX10_goOn_40 (by decide) ?_
  refine xr_iload_n C dX10_goOn_43 1 rfl rfl ?_
  refine xr_bipush (v := 64) C dX10_goOn_44 (by decide) ?_
  refine xr_irem C dX10_goOn_46 (by decide) ?_
  obtain ⟨i7, hf⟩ := ck_x hf
  obtain ⟨I8, eI8, hf⟩ := bnd_x hf
  refine xr_iast C H0.2.1.2 i7 dX10_goOn_47 eI8 ?_
  refine xr_aload_n C dX10_goOn_48 0 rfl rfl ?_
  refine xr_getr C Kd10 (k := 0) (by decide) rfl wk_821 rfl H0.1 H0.2.1.1 dX10_goOn_49 ?_
  refine xr_sipush (v := 152) C dX10_goOn_52 (by decide) ?_
  refine xr_iconst (v := 0) C dX10_goOn_55 (by decide) ?_
  obtain ⟨i9, hf⟩ := ck_x hf
  obtain ⟨I10, eI10, hf⟩ := bnd_x hf
  refine xr_iast C H0.2.1.2 i9 dX10_goOn_56 eI10 ?_
  refine xr_aload_n C dX10_goOn_57 0 rfl rfl ?_
  refine xr_getr C Kd10 (k := 20) (by decide) rfl wk_841 rfl H0.1 H0.2.2.2.2.2.2.2.2.2.1.1 dX10_goOn_58 ?_
  refine xr_iload_n C dX10_goOn_61 1 rfl rfl ?_
  obtain ⟨i11, hf⟩ := ck_x hf
  refine xr_iald C H0.2.2.2.2.2.2.2.2.2.1.2 i11 dX10_goOn_62 ?_
  refine xr_iload_n C dX10_goOn_63 2 rfl rfl ?_
  refine xr_iadd C dX10_goOn_64 ?_
  obtain ⟨v12, ev12, hf⟩ := bnd_x hf
  refine xr_nm ev12 ?_
  refine xr_istore C dX10_goOn_65 (by decide) rfl ?_
  refine xr_aload_n C dX10_goOn_67 1 rfl rfl ?_
  refine xr_bipush (v := 123) C dX10_goOn_68 (by decide) ?_
  obtain ⟨⟨r15, I14⟩, h13, hf⟩ := ob_x hf
  refine xr_callVI C [.int 123] lkX10_182 (kX10_step H0 h13) Kd10 rfl H0.1 rfl (Nat.le_of_ble_eq_true rfl) rfl dX10_goOn_70 ⟨by decide, by decide, by decide⟩ rfl ?_
  refine xr_istore C dX10_goOn_73 (by decide) rfl ?_
  refine xr_aload_n C dX10_goOn_75 2 rfl rfl ?_
  refine xr_getr C Kd10 (k := 0) (by decide) rfl wk_821 rfl H0.1 H0.2.1.1 dX10_goOn_76 ?_
  refine xr_sipush (v := 152) C dX10_goOn_79 (by decide) ?_
  obtain ⟨i16, hf⟩ := ck_x hf
  refine xr_iald C H0.2.1.2 i16 dX10_goOn_82 ?_
  refine xr_if_ne (tgt := 158) C dX10_goOn_83 (by decide) hf (fun c17 hf => ?_) (fun c17 hf => ?_)
  · refine xr_lv [2, 5, 1, 0] rfl ?_
    exact ebX10_goOn_158 C H0 q hf
  · refine xr_aload_n C dX10_goOn_86 2 rfl rfl ?_
    refine xr_getr C Kd10 (k := 0) (by decide) rfl wk_821 rfl H0.1 H0.2.1.1 dX10_goOn_87 ?_
    refine xr_sipush (v := 150) C dX10_goOn_90 (by decide) ?_
    obtain ⟨i18, hf⟩ := ck_x hf
    refine xr_iald C H0.2.1.2 i18 dX10_goOn_93 ?_
    refine xr_aload_n C dX10_goOn_94 2 rfl rfl ?_
    refine xr_getr C Kd10 (k := 0) (by decide) rfl wk_821 rfl H0.1 H0.2.1.1 dX10_goOn_95 ?_
    refine xr_sipush (v := 151) C dX10_goOn_98 (by decide) ?_
    obtain ⟨i19, hf⟩ := ck_x hf
    refine xr_iald C H0.2.1.2 i19 dX10_goOn_101 ?_
    refine xr_aload_n C dX10_goOn_102 2 rfl rfl ?_
    refine xr_getr C Kd10 (k := 0) (by decide) rfl wk_821 rfl H0.1 H0.2.1.1 dX10_goOn_103 ?_
    refine xr_sipush (v := 157) C dX10_goOn_106 (by decide) ?_
    obtain ⟨i20, hf⟩ := ck_x hf
    refine xr_iald C H0.2.1.2 i20 dX10_goOn_109 ?_
    obtain ⟨⟨r23, I22⟩, h21, hf⟩ := ob_x hf
    refine xr_callSI C [.int (I14 112 (ix 150)), .int (I14 112 (ix 151)), .int (I14 112 (ix 157))] lkX10_211 (kX10_stateOf h21) rfl (Nat.le_of_ble_eq_true rfl) rfl dX10_goOn_110 ⟨by decide, by decide, by decide⟩ rfl ?_
    refine xr_istore C dX10_goOn_113 (by decide) rfl ?_
    refine xr_aload_n C dX10_goOn_115 3 rfl rfl ?_
    refine xr_getr C Kd10 (k := 21) (by decide) rfl wk_842 rfl H0.1 H0.2.2.2.2.2.2.2.2.2.2.1 dX10_goOn_116 ?_
    refine xr_iload C dX10_goOn_119 0 rfl ?_
    refine xr_aload_n C dX10_goOn_121 3 rfl rfl ?_
    refine xr_getr C Kd10 (k := 21) (by decide) rfl wk_842 rfl H0.1 H0.2.2.2.2.2.2.2.2.2.2.1 dX10_goOn_122 ?_
    refine xr_iload C dX10_goOn_125 0 rfl ?_
    obtain ⟨i24, hf⟩ := ck_x hf
    refine xr_iald C H0.2.2.2.2.2.2.2.2.2.2.2 i24 dX10_goOn_127 ?_
    refine xr_ldc C wk_820 dX10_goOn_128 ?_
    refine xr_icmp_eq (tgt := 145) C dX10_goOn_130 (by decide) hf (fun c25 hf => ?_) (fun c25 hf => ?_)
    · refine xr_lv [3, 6, 2, 1] rfl ?_
      exact ebX10_goOn_145 C H0 q hf
    · refine xr_iload C dX10_goOn_133 2 rfl ?_
      refine xr_aload_n C dX10_goOn_135 3 rfl rfl ?_
      refine xr_getr C Kd10 (k := 21) (by decide) rfl wk_842 rfl H0.1 H0.2.2.2.2.2.2.2.2.2.2.1 dX10_goOn_136 ?_
      refine xr_iload C dX10_goOn_139 0 rfl ?_
      obtain ⟨i26, hf⟩ := ck_x hf
      refine xr_iald C H0.2.2.2.2.2.2.2.2.2.2.2 i26 dX10_goOn_141 ?_
      refine xr_icmp_ge (tgt := 150) C dX10_goOn_142 (by decide) hf (fun c27 hf => ?_) (fun c27 hf => ?_)
      · refine xr_aload_n C dX10_goOn_150 3 rfl rfl ?_
        refine xr_getr C Kd10 (k := 21) (by decide) rfl wk_842 rfl H0.1 H0.2.2.2.2.2.2.2.2.2.2.1 dX10_goOn_151 ?_
        refine xr_iload C dX10_goOn_154 0 rfl ?_
        obtain ⟨i28, hf⟩ := ck_x hf
        refine xr_iald C H0.2.2.2.2.2.2.2.2.2.2.2 i28 dX10_goOn_156 ?_
        refine xr_lv [3, 6, 2, 1] rfl ?_
        exact ebX10_goOn_157 C H0 q hf
      · refine xr_lv [3, 6, 2, 1] rfl ?_
        exact ebX10_goOn_145 C H0 q hf
theorem kX10_goOn {B : Bs} {h : Shp} (H0 : MAt h) {I0 : Mem} {p1 : Int32} {p2 : Int32} {p3 : Int32} {r1 : Int32} {o1 : Mem} (hf : fnX10_goOn I0 p1 p2 p3 = some (r1, o1)) : CtrI B yX10_goOn cX10_goOn 7 (some Jvm.ClassFile.FieldType.int) 4 91 0 0 [rfB B 111, .int p1, .int p2, .int p3] (I0, h) r1 (o1, h) := by
  refine xr_enterI (lv0 := [(0, rfB B 111), (1, .int p1), (2, .int p2), (3, .int p3)]) (by decide) (Nat.le_of_ble_eq_true rfl) rfl (fun g hg C q => ?_)
  subst hg
  exact ebX10_goOn_0 C H0 q hf
theorem dX10_nudgesFor_0 : decode cX10_nudgesFor 0 = .ok (.iconst 0, 1) := by decide +kernel
theorem dX10_nudgesFor_1 : decode cX10_nudgesFor 1 = .ok (.istore_n 3, 1) := by decide +kernel
theorem dX10_nudgesFor_2 : decode cX10_nudgesFor 2 = .ok (.iload_n 3, 1) := by decide +kernel
theorem dX10_nudgesFor_3 : decode cX10_nudgesFor 3 = .ok (.sipush 10752, 3) := by decide +kernel
theorem dX10_nudgesFor_6 : decode cX10_nudgesFor 6 = .ok (.if_icmp .ge 17, 3) := by decide +kernel
theorem dX10_nudgesFor_9 : decode cX10_nudgesFor 9 = .ok (.aload_n 0, 1) := by decide +kernel
theorem dX10_nudgesFor_10 : decode cX10_nudgesFor 10 = .ok (.getfield 35, 3) := by decide +kernel
theorem dX10_nudgesFor_13 : decode cX10_nudgesFor 13 = .ok (.iload_n 3, 1) := by decide +kernel
theorem dX10_nudgesFor_14 : decode cX10_nudgesFor 14 = .ok (.ldc 19, 2) := by decide +kernel
theorem dX10_nudgesFor_16 : decode cX10_nudgesFor 16 = .ok (.iastore, 1) := by decide +kernel
theorem dX10_nudgesFor_17 : decode cX10_nudgesFor 17 = .ok (.iinc 3 1, 3) := by decide +kernel
theorem dX10_nudgesFor_20 : decode cX10_nudgesFor 20 = .ok (.goto (-18), 3) := by decide +kernel
theorem dX10_nudgesFor_23 : decode cX10_nudgesFor 23 = .ok (.aload_n 0, 1) := by decide +kernel
theorem dX10_nudgesFor_24 : decode cX10_nudgesFor 24 = .ok (.getfield 35, 3) := by decide +kernel
theorem dX10_nudgesFor_27 : decode cX10_nudgesFor 27 = .ok (.aload_n 0, 1) := by decide +kernel
theorem dX10_nudgesFor_28 : decode cX10_nudgesFor 28 = .ok (.getfield 7, 3) := by decide +kernel
theorem dX10_nudgesFor_31 : decode cX10_nudgesFor 31 = .ok (.bipush 27, 2) := by decide +kernel
theorem dX10_nudgesFor_33 : decode cX10_nudgesFor 33 = .ok (.iaload, 1) := by decide +kernel
theorem dX10_nudgesFor_34 : decode cX10_nudgesFor 34 = .ok (.aload_n 0, 1) := by decide +kernel
theorem dX10_nudgesFor_35 : decode cX10_nudgesFor 35 = .ok (.getfield 7, 3) := by decide +kernel
theorem dX10_nudgesFor_38 : decode cX10_nudgesFor 38 = .ok (.bipush 28, 2) := by decide +kernel
theorem dX10_nudgesFor_40 : decode cX10_nudgesFor 40 = .ok (.iaload, 1) := by decide +kernel
theorem dX10_nudgesFor_41 : decode cX10_nudgesFor 41 = .ok (.aload_n 0, 1) := by decide +kernel
theorem dX10_nudgesFor_42 : decode cX10_nudgesFor 42 = .ok (.getfield 7, 3) := by decide +kernel
theorem dX10_nudgesFor_45 : decode cX10_nudgesFor 45 = .ok (.bipush 34, 2) := by decide +kernel
theorem dX10_nudgesFor_47 : decode cX10_nudgesFor 47 = .ok (.iaload, 1) := by decide +kernel
theorem dX10_nudgesFor_48 : decode cX10_nudgesFor 48 = .ok (.invokestatic 211, 3) := by decide +kernel
theorem dX10_nudgesFor_51 : decode cX10_nudgesFor 51 = .ok (.iconst 0, 1) := by decide +kernel
theorem dX10_nudgesFor_52 : decode cX10_nudgesFor 52 = .ok (.iastore, 1) := by decide +kernel
theorem dX10_nudgesFor_53 : decode cX10_nudgesFor 53 = .ok (.ldc 19, 2) := by decide +kernel
theorem dX10_nudgesFor_55 : decode cX10_nudgesFor 55 = .ok (.istore_n 3, 1) := by decide +kernel
theorem dX10_nudgesFor_56 : decode cX10_nudgesFor 56 = .ok (.iconst 0, 1) := by decide +kernel
theorem dX10_nudgesFor_57 : decode cX10_nudgesFor 57 = .ok (.istore 4, 2) := by decide +kernel
theorem dX10_nudgesFor_59 : decode cX10_nudgesFor 59 = .ok (.iload 4, 2) := by decide +kernel
theorem dX10_nudgesFor_61 : decode cX10_nudgesFor 61 = .ok (.iload_n 2, 1) := by decide +kernel
theorem dX10_nudgesFor_62 : decode cX10_nudgesFor 62 = .ok (.if_icmp .ge 138, 3) := by decide +kernel
theorem dX10_nudgesFor_65 : decode cX10_nudgesFor 65 = .ok (.iconst 0, 1) := by decide +kernel
theorem dX10_nudgesFor_66 : decode cX10_nudgesFor 66 = .ok (.istore 5, 2) := by decide +kernel
theorem dX10_nudgesFor_68 : decode cX10_nudgesFor 68 = .ok (.iload 5, 2) := by decide +kernel
theorem dX10_nudgesFor_70 : decode cX10_nudgesFor 70 = .ok (.sipush 10752, 3) := by decide +kernel
theorem dX10_nudgesFor_73 : decode cX10_nudgesFor 73 = .ok (.if_icmp .ge 18, 3) := by decide +kernel
theorem dX10_nudgesFor_76 : decode cX10_nudgesFor 76 = .ok (.aload_n 0, 1) := by decide +kernel
theorem dX10_nudgesFor_77 : decode cX10_nudgesFor 77 = .ok (.getfield 38, 3) := by decide +kernel
theorem dX10_nudgesFor_80 : decode cX10_nudgesFor 80 = .ok (.iload 5, 2) := by decide +kernel
theorem dX10_nudgesFor_82 : decode cX10_nudgesFor 82 = .ok (.ldc 19, 2) := by decide +kernel
theorem dX10_nudgesFor_84 : decode cX10_nudgesFor 84 = .ok (.iastore, 1) := by decide +kernel
theorem dX10_nudgesFor_85 : decode cX10_nudgesFor 85 = .ok (.iinc 5 1, 3) := by decide +kernel
theorem dX10_nudgesFor_88 : decode cX10_nudgesFor 88 = .ok (.goto (-20), 3) := by decide +kernel
theorem dX10_nudgesFor_91 : decode cX10_nudgesFor 91 = .ok (.iconst 0, 1) := by decide +kernel
theorem dX10_nudgesFor_92 : decode cX10_nudgesFor 92 = .ok (.istore 5, 2) := by decide +kernel
theorem dX10_nudgesFor_94 : decode cX10_nudgesFor 94 = .ok (.iload 5, 2) := by decide +kernel
theorem dX10_nudgesFor_96 : decode cX10_nudgesFor 96 = .ok (.sipush 21504, 3) := by decide +kernel
theorem dX10_nudgesFor_99 : decode cX10_nudgesFor 99 = .ok (.if_icmp .ge 64, 3) := by decide +kernel
theorem dX10_nudgesFor_102 : decode cX10_nudgesFor 102 = .ok (.aload_n 0, 1) := by decide +kernel
theorem dX10_nudgesFor_103 : decode cX10_nudgesFor 103 = .ok (.getfield 35, 3) := by decide +kernel
theorem dX10_nudgesFor_106 : decode cX10_nudgesFor 106 = .ok (.iload 5, 2) := by decide +kernel
theorem dX10_nudgesFor_108 : decode cX10_nudgesFor 108 = .ok (.iconst 2, 1) := by decide +kernel
theorem dX10_nudgesFor_109 : decode cX10_nudgesFor 109 = .ok (.idiv, 1) := by decide +kernel
theorem dX10_nudgesFor_110 : decode cX10_nudgesFor 110 = .ok (.iaload, 1) := by decide +kernel
theorem dX10_nudgesFor_111 : decode cX10_nudgesFor 111 = .ok (.ldc 19, 2) := by decide +kernel
theorem dX10_nudgesFor_113 : decode cX10_nudgesFor 113 = .ok (.if_icmp .eq 44, 3) := by decide +kernel
theorem dX10_nudgesFor_116 : decode cX10_nudgesFor 116 = .ok (.aload_n 0, 1) := by decide +kernel
theorem dX10_nudgesFor_117 : decode cX10_nudgesFor 117 = .ok (.iload 5, 2) := by decide +kernel
theorem dX10_nudgesFor_119 : decode cX10_nudgesFor 119 = .ok (.iconst 2, 1) := by decide +kernel
theorem dX10_nudgesFor_120 : decode cX10_nudgesFor 120 = .ok (.idiv, 1) := by decide +kernel
theorem dX10_nudgesFor_121 : decode cX10_nudgesFor 121 = .ok (.iload 5, 2) := by decide +kernel
theorem dX10_nudgesFor_123 : decode cX10_nudgesFor 123 = .ok (.iconst 2, 1) := by decide +kernel
theorem dX10_nudgesFor_124 : decode cX10_nudgesFor 124 = .ok (.irem, 1) := by decide +kernel
theorem dX10_nudgesFor_125 : decode cX10_nudgesFor 125 = .ok (.iload_n 1, 1) := by decide +kernel
theorem dX10_nudgesFor_126 : decode cX10_nudgesFor 126 = .ok (.invokevirtual 215, 3) := by decide +kernel
theorem dX10_nudgesFor_129 : decode cX10_nudgesFor 129 = .ok (.istore 6, 2) := by decide +kernel
theorem dX10_nudgesFor_131 : decode cX10_nudgesFor 131 = .ok (.iload 6, 2) := by decide +kernel
theorem dX10_nudgesFor_133 : decode cX10_nudgesFor 133 = .ok (.ldc 19, 2) := by decide +kernel
theorem dX10_nudgesFor_135 : decode cX10_nudgesFor 135 = .ok (.if_icmp .eq 20, 3) := by decide +kernel
theorem dX10_nudgesFor_138 : decode cX10_nudgesFor 138 = .ok (.iload_n 3, 1) := by decide +kernel
theorem dX10_nudgesFor_139 : decode cX10_nudgesFor 139 = .ok (.ldc 19, 2) := by decide +kernel
theorem dX10_nudgesFor_141 : decode cX10_nudgesFor 141 = .ok (.if_icmp .eq 9, 3) := by decide +kernel
theorem dX10_nudgesFor_144 : decode cX10_nudgesFor 144 = .ok (.iload 6, 2) := by decide +kernel
theorem dX10_nudgesFor_146 : decode cX10_nudgesFor 146 = .ok (.iload_n 3, 1) := by decide +kernel
theorem dX10_nudgesFor_147 : decode cX10_nudgesFor 147 = .ok (.if_icmp .ge 8, 3) := by decide +kernel
theorem dX10_nudgesFor_150 : decode cX10_nudgesFor 150 = .ok (.iload 6, 2) := by decide +kernel
theorem dX10_nudgesFor_152 : decode cX10_nudgesFor 152 = .ok (.goto 4, 3) := by decide +kernel
theorem dX10_nudgesFor_155 : decode cX10_nudgesFor 155 = .ok (.iload_n 3, 1) := by decide +kernel
theorem dX10_nudgesFor_156 : decode cX10_nudgesFor 156 = .ok (.istore_n 3, 1) := by decide +kernel
theorem dX10_nudgesFor_157 : decode cX10_nudgesFor 157 = .ok (.iinc 5 1, 3) := by decide +kernel
theorem dX10_nudgesFor_160 : decode cX10_nudgesFor 160 = .ok (.goto (-66), 3) := by decide +kernel
theorem dX10_nudgesFor_163 : decode cX10_nudgesFor 163 = .ok (.iconst 0, 1) := by decide +kernel
theorem dX10_nudgesFor_164 : decode cX10_nudgesFor 164 = .ok (.istore 5, 2) := by decide +kernel
theorem dX10_nudgesFor_166 : decode cX10_nudgesFor 166 = .ok (.iload 5, 2) := by decide +kernel
theorem dX10_nudgesFor_168 : decode cX10_nudgesFor 168 = .ok (.sipush 10752, 3) := by decide +kernel
theorem dX10_nudgesFor_171 : decode cX10_nudgesFor 171 = .ok (.if_icmp .ge 23, 3) := by decide +kernel
theorem dX10_nudgesFor_174 : decode cX10_nudgesFor 174 = .ok (.aload_n 0, 1) := by decide +kernel
theorem dX10_nudgesFor_175 : decode cX10_nudgesFor 175 = .ok (.getfield 35, 3) := by decide +kernel
theorem dX10_nudgesFor_178 : decode cX10_nudgesFor 178 = .ok (.iload 5, 2) := by decide +kernel
theorem dX10_nudgesFor_180 : decode cX10_nudgesFor 180 = .ok (.aload_n 0, 1) := by decide +kernel
theorem dX10_nudgesFor_181 : decode cX10_nudgesFor 181 = .ok (.getfield 38, 3) := by decide +kernel
theorem dX10_nudgesFor_184 : decode cX10_nudgesFor 184 = .ok (.iload 5, 2) := by decide +kernel
theorem dX10_nudgesFor_186 : decode cX10_nudgesFor 186 = .ok (.iaload, 1) := by decide +kernel
theorem dX10_nudgesFor_187 : decode cX10_nudgesFor 187 = .ok (.iastore, 1) := by decide +kernel
theorem dX10_nudgesFor_188 : decode cX10_nudgesFor 188 = .ok (.iinc 5 1, 3) := by decide +kernel
theorem dX10_nudgesFor_191 : decode cX10_nudgesFor 191 = .ok (.goto (-25), 3) := by decide +kernel
theorem dX10_nudgesFor_194 : decode cX10_nudgesFor 194 = .ok (.iinc 4 1, 3) := by decide +kernel
theorem dX10_nudgesFor_197 : decode cX10_nudgesFor 197 = .ok (.goto (-138), 3) := by decide +kernel
theorem dX10_nudgesFor_200 : decode cX10_nudgesFor 200 = .ok (.iconst 0, 1) := by decide +kernel
theorem dX10_nudgesFor_201 : decode cX10_nudgesFor 201 = .ok (.istore 4, 2) := by decide +kernel
theorem dX10_nudgesFor_203 : decode cX10_nudgesFor 203 = .ok (.iload 4, 2) := by decide +kernel
theorem dX10_nudgesFor_205 : decode cX10_nudgesFor 205 = .ok (.sipush 10752, 3) := by decide +kernel
theorem dX10_nudgesFor_208 : decode cX10_nudgesFor 208 = .ok (.if_icmp .ge 56, 3) := by decide +kernel
theorem dX10_nudgesFor_211 : decode cX10_nudgesFor 211 = .ok (.iload_n 1, 1) := by decide +kernel
theorem dX10_nudgesFor_212 : decode cX10_nudgesFor 212 = .ok (.ldc 19, 2) := by decide +kernel
theorem dX10_nudgesFor_214 : decode cX10_nudgesFor 214 = .ok (.if_icmp .ne 50, 3) := by decide +kernel
theorem dX10_nudgesFor_217 : decode cX10_nudgesFor 217 = .ok (.aload_n 0, 1) := by decide +kernel
theorem dX10_nudgesFor_218 : decode cX10_nudgesFor 218 = .ok (.getfield 35, 3) := by decide +kernel
theorem dX10_nudgesFor_221 : decode cX10_nudgesFor 221 = .ok (.iload 4, 2) := by decide +kernel
theorem dX10_nudgesFor_223 : decode cX10_nudgesFor 223 = .ok (.iaload, 1) := by decide +kernel
theorem dX10_nudgesFor_224 : decode cX10_nudgesFor 224 = .ok (.ldc 19, 2) := by decide +kernel
theorem dX10_nudgesFor_226 : decode cX10_nudgesFor 226 = .ok (.if_icmp .eq 30, 3) := by decide +kernel
theorem dX10_nudgesFor_229 : decode cX10_nudgesFor 229 = .ok (.iload_n 3, 1) := by decide +kernel
theorem dX10_nudgesFor_230 : decode cX10_nudgesFor 230 = .ok (.ldc 19, 2) := by decide +kernel
theorem dX10_nudgesFor_232 : decode cX10_nudgesFor 232 = .ok (.if_icmp .eq 14, 3) := by decide +kernel
theorem dX10_nudgesFor_235 : decode cX10_nudgesFor 235 = .ok (.aload_n 0, 1) := by decide +kernel
theorem dX10_nudgesFor_236 : decode cX10_nudgesFor 236 = .ok (.getfield 35, 3) := by decide +kernel
theorem dX10_nudgesFor_239 : decode cX10_nudgesFor 239 = .ok (.iload 4, 2) := by decide +kernel
theorem dX10_nudgesFor_241 : decode cX10_nudgesFor 241 = .ok (.iaload, 1) := by decide +kernel
theorem dX10_nudgesFor_242 : decode cX10_nudgesFor 242 = .ok (.iload_n 3, 1) := by decide +kernel
theorem dX10_nudgesFor_243 : decode cX10_nudgesFor 243 = .ok (.if_icmp .ge 13, 3) := by decide +kernel
theorem dX10_nudgesFor_246 : decode cX10_nudgesFor 246 = .ok (.aload_n 0, 1) := by decide +kernel
theorem dX10_nudgesFor_247 : decode cX10_nudgesFor 247 = .ok (.getfield 35, 3) := by decide +kernel
theorem dX10_nudgesFor_250 : decode cX10_nudgesFor 250 = .ok (.iload 4, 2) := by decide +kernel
theorem dX10_nudgesFor_252 : decode cX10_nudgesFor 252 = .ok (.iaload, 1) := by decide +kernel
theorem dX10_nudgesFor_253 : decode cX10_nudgesFor 253 = .ok (.goto 4, 3) := by decide +kernel
theorem dX10_nudgesFor_256 : decode cX10_nudgesFor 256 = .ok (.iload_n 3, 1) := by decide +kernel
theorem dX10_nudgesFor_257 : decode cX10_nudgesFor 257 = .ok (.istore_n 3, 1) := by decide +kernel
theorem dX10_nudgesFor_258 : decode cX10_nudgesFor 258 = .ok (.iinc 4 1, 3) := by decide +kernel
theorem dX10_nudgesFor_261 : decode cX10_nudgesFor 261 = .ok (.goto (-58), 3) := by decide +kernel
theorem dX10_nudgesFor_264 : decode cX10_nudgesFor 264 = .ok (.iload_n 3, 1) := by decide +kernel
theorem dX10_nudgesFor_265 : decode cX10_nudgesFor 265 = .ok (.ireturn, 1) := by decide +kernel
theorem lkX10_215 : LkV "BumperBallsModel" 215 yX10_goOn cX10_goOn 7 (some Jvm.ClassFile.FieldType.int) 3 := ⟨wk_1113, wk_11, wk_1112, wk_s90, ⟨by decide +kernel, by decide +kernel, by decide +kernel⟩, wk_1110⟩
/-! BumperBallsModel.nudgesFor(II)I -/
def fnX10_nudgesFor_264 (I0 : Mem) (l3 : Int32) : Option (Int32 × Mem) :=
  some (l3, I0)
set_option maxRecDepth 20000 in
set_option maxHeartbeats 2000000 in
theorem ebX10_nudgesFor_264 {g : Cfg} (C : Cx g RX10 cX10_nudgesFor 7 5 117 0 0) {h : Shp} (H0 : MAt h) {r1 : Int32} {o1 : Mem} (q : QI g (some Jvm.ClassFile.FieldType.int) 0 0 r1 (o1, h)) {I0 : Mem} {l3 : Int32} (hf : fnX10_nudgesFor_264 I0 l3 = some (r1, o1)) : XE g 0 0 (I0, h) 264 [(3, .int l3)] [] := by
  unfold fnX10_nudgesFor_264 at hf
  refine xr_iload_n C dX10_nudgesFor_264 0 rfl rfl ?_
  exact xr_ireturn C q rfl rfl dX10_nudgesFor_265 (so_1 hf) (so_w hf)
def fnX10_nudgesFor_257 (rec203 : Mem → Int32 → Int32 → Int32 → Option (Int32 × Mem)) (I0 : Mem) (l1 : Int32) (l4 : Int32) (t0 : Int32) : Option (Int32 × Mem) :=
  bnd (l4 + 1) fun v1 => rec203 I0 l1 t0 v1
set_option maxRecDepth 20000 in
set_option maxHeartbeats 2000000 in
theorem ebX10_nudgesFor_257 {g : Cfg} (C : Cx g RX10 cX10_nudgesFor 7 5 117 0 0) {h : Shp} (H0 : MAt h) {r1 : Int32} {o1 : Mem} {rec203 : Mem → Int32 → Int32 → Int32 → Option (Int32 × Mem)} (ih203 : ∀ (I0 : Mem) (l1 : Int32) (l3 : Int32) (l4 : Int32), rec203 I0 l1 l3 l4 = some (r1, o1) → XE g 0 0 (I0, h) 203 [(0, rf g 111), (1, .int l1), (3, .int l3), (4, .int l4)] []) (q : QI g (some Jvm.ClassFile.FieldType.int) 0 0 r1 (o1, h)) {I0 : Mem} {l1 : Int32} {l4 : Int32} {t0 : Int32} (hf : fnX10_nudgesFor_257 rec203 I0 l1 l4 t0 = some (r1, o1)) : XE g 0 0 (I0, h) 257 [(0, rf g 111), (1, .int l1), (4, .int l4)] [.int t0] := by
  unfold fnX10_nudgesFor_257 at hf
  refine xr_istore_n C dX10_nudgesFor_257 rfl (by decide) rfl ?_
  obtain ⟨v1, ev1, hf⟩ := bnd_x hf
  refine xr_iinc (k := 3) (v := v1) C dX10_nudgesFor_258 rfl (by rw [ev1]; rfl) (by decide) rfl ?_
  refine xr_goto (tgt := 203) C dX10_nudgesFor_261 (by decide) ?_
  refine xr_lv [2, 3, 1, 0] rfl ?_
  exact ih203 _ _ _ _ hf
def fnX10_nudgesFor_256 (rec203 : Mem → Int32 → Int32 → Int32 → Option (Int32 × Mem)) (I0 : Mem) (l1 : Int32) (l3 : Int32) (l4 : Int32) : Option (Int32 × Mem) :=
  fnX10_nudgesFor_257 rec203 I0 l1 l4 l3
set_option maxRecDepth 20000 in
set_option maxHeartbeats 2000000 in
theorem ebX10_nudgesFor_256 {g : Cfg} (C : Cx g RX10 cX10_nudgesFor 7 5 117 0 0) {h : Shp} (H0 : MAt h) {r1 : Int32} {o1 : Mem} {rec203 : Mem → Int32 → Int32 → Int32 → Option (Int32 × Mem)} (ih203 : ∀ (I0 : Mem) (l1 : Int32) (l3 : Int32) (l4 : Int32), rec203 I0 l1 l3 l4 = some (r1, o1) → XE g 0 0 (I0, h) 203 [(0, rf g 111), (1, .int l1), (3, .int l3), (4, .int l4)] []) (q : QI g (some Jvm.ClassFile.FieldType.int) 0 0 r1 (o1, h)) {I0 : Mem} {l1 : Int32} {l3 : Int32} {l4 : Int32} (hf : fnX10_nudgesFor_256 rec203 I0 l1 l3 l4 = some (r1, o1)) : XE g 0 0 (I0, h) 256 [(0, rf g 111), (1, .int l1), (3, .int l3), (4, .int l4)] [] := by
  unfold fnX10_nudgesFor_256 at hf
  refine xr_iload_n C dX10_nudgesFor_256 2 rfl rfl ?_
  refine xr_lv [0, 1, 3] rfl ?_
  exact ebX10_nudgesFor_257 C H0 ih203 q hf
def fnX10_nudgesFor_246 (rec203 : Mem → Int32 → Int32 → Int32 → Option (Int32 × Mem)) (I0 : Mem) (l1 : Int32) (l4 : Int32) : Option (Int32 × Mem) :=
  ck (inb l4 10752) <| fnX10_nudgesFor_257 rec203 I0 l1 l4 (I0 120 (ix l4))
set_option maxRecDepth 20000 in
set_option maxHeartbeats 2000000 in
theorem ebX10_nudgesFor_246 {g : Cfg} (C : Cx g RX10 cX10_nudgesFor 7 5 117 0 0) {h : Shp} (H0 : MAt h) {r1 : Int32} {o1 : Mem} {rec203 : Mem → Int32 → Int32 → Int32 → Option (Int32 × Mem)} (ih203 : ∀ (I0 : Mem) (l1 : Int32) (l3 : Int32) (l4 : Int32), rec203 I0 l1 l3 l4 = some (r1, o1) → XE g 0 0 (I0, h) 203 [(0, rf g 111), (1, .int l1), (3, .int l3), (4, .int l4)] []) (q : QI g (some Jvm.ClassFile.FieldType.int) 0 0 r1 (o1, h)) {I0 : Mem} {l1 : Int32} {l4 : Int32} (hf : fnX10_nudgesFor_246 rec203 I0 l1 l4 = some (r1, o1)) : XE g 0 0 (I0, h) 246 [(0, rf g 111), (1, .int l1), (4, .int l4)] [] := by
  unfold fnX10_nudgesFor_246 at hf
  refine xr_aload_n C dX10_nudgesFor_246 0 rfl rfl ?_
  refine xr_getr C Kd10 (k := 20) (by decide) rfl wk_841 rfl H0.1 H0.2.2.2.2.2.2.2.2.2.1.1 dX10_nudgesFor_247 ?_
  refine xr_iload C dX10_nudgesFor_250 2 rfl ?_
  obtain ⟨i1, hf⟩ := ck_x hf
  refine xr_iald C H0.2.2.2.2.2.2.2.2.2.1.2 i1 dX10_nudgesFor_252 ?_
  refine xr_goto (tgt := 257) C dX10_nudgesFor_253 (by decide) ?_
  exact ebX10_nudgesFor_257 C H0 ih203 q hf
def fnX10_nudgesFor_203b (rec203 : Mem → Int32 → Int32 → Int32 → Option (Int32 × Mem)) (I0 : Mem) (l1 : Int32) (l3 : Int32) (l4 : Int32) : Option (Int32 × Mem) :=
  if 10752 ≤ l4 then (fnX10_nudgesFor_264 I0 l3) else (if l1 = (-1000000) then (ck (inb l4 10752) <| if (I0 120 (ix l4)) = (-1000000) then (fnX10_nudgesFor_256 rec203 I0 l1 l3 l4) else (if l3 = (-1000000) then (fnX10_nudgesFor_246 rec203 I0 l1 l4) else (ck (inb l4 10752) <| if l3 ≤ (I0 120 (ix l4)) then (fnX10_nudgesFor_256 rec203 I0 l1 l3 l4) else (fnX10_nudgesFor_246 rec203 I0 l1 l4)))) else (fnX10_nudgesFor_264 I0 l3))
def fnX10_nudgesFor_203 : Nat → Mem → Int32 → Int32 → Int32 → Option (Int32 × Mem)
  | 0 => fun _ _ _ _ => none
  | fu + 1 => fnX10_nudgesFor_203b (fnX10_nudgesFor_203 fu)
set_option maxRecDepth 20000 in
set_option maxHeartbeats 2000000 in
theorem ebX10_nudgesFor_203b {g : Cfg} (C : Cx g RX10 cX10_nudgesFor 7 5 117 0 0) {h : Shp} (H0 : MAt h) {r1 : Int32} {o1 : Mem} {rec203 : Mem → Int32 → Int32 → Int32 → Option (Int32 × Mem)} (q : QI g (some Jvm.ClassFile.FieldType.int) 0 0 r1 (o1, h)) (ih203 : ∀ (I0 : Mem) (l1 : Int32) (l3 : Int32) (l4 : Int32), rec203 I0 l1 l3 l4 = some (r1, o1) → XE g 0 0 (I0, h) 203 [(0, rf g 111), (1, .int l1), (3, .int l3), (4, .int l4)] []) {I0 : Mem} {l1 : Int32} {l3 : Int32} {l4 : Int32} (hf : fnX10_nudgesFor_203b rec203 I0 l1 l3 l4 = some (r1, o1)) : XE g 0 0 (I0, h) 203 [(0, rf g 111), (1, .int l1), (3, .int l3), (4, .int l4)] [] := by
  unfold fnX10_nudgesFor_203b at hf
  refine xr_iload C dX10_nudgesFor_203 3 rfl ?_
  refine xr_sipush (v := 10752) C dX10_nudgesFor_205 (by decide) ?_
  refine xr_icmp_ge (tgt := 264) C dX10_nudgesFor_208 (by decide) hf (fun c1 hf => ?_) (fun c1 hf => ?_)
  · refine xr_lv [2] rfl ?_
    exact ebX10_nudgesFor_264 C H0 q hf
  · refine xr_iload_n C dX10_nudgesFor_211 1 rfl rfl ?_
    refine xr_ldc C wk_820 dX10_nudgesFor_212 ?_
    refine xr_icmp_ne (tgt := 264) C dX10_nudgesFor_214 (by decide) hf (fun c2 hf => ?_) (fun c2 hf => ?_)
    · refine xr_lv [2] rfl ?_
      exact ebX10_nudgesFor_264 C H0 q hf
    · refine xr_aload_n C dX10_nudgesFor_217 0 rfl rfl ?_
      refine xr_getr C Kd10 (k := 20) (by decide) rfl wk_841 rfl H0.1 H0.2.2.2.2.2.2.2.2.2.1.1 dX10_nudgesFor_218 ?_
      refine xr_iload C dX10_nudgesFor_221 3 rfl ?_
      obtain ⟨i3, hf⟩ := ck_x hf
      refine xr_iald C H0.2.2.2.2.2.2.2.2.2.1.2 i3 dX10_nudgesFor_223 ?_
      refine xr_ldc C wk_820 dX10_nudgesFor_224 ?_
      refine xr_icmp_eq (tgt := 256) C dX10_nudgesFor_226 (by decide) hf (fun c4 hf => ?_) (fun c4 hf => ?_)
      · exact ebX10_nudgesFor_256 C H0 ih203 q hf
      · refine xr_iload_n C dX10_nudgesFor_229 2 rfl rfl ?_
        refine xr_ldc C wk_820 dX10_nudgesFor_230 ?_
        refine xr_icmp_eq (tgt := 246) C dX10_nudgesFor_232 (by decide) hf (fun c5 hf => ?_) (fun c5 hf => ?_)
        · refine xr_lv [0, 1, 3] rfl ?_
          exact ebX10_nudgesFor_246 C H0 ih203 q hf
        · refine xr_aload_n C dX10_nudgesFor_235 0 rfl rfl ?_
          refine xr_getr C Kd10 (k := 20) (by decide) rfl wk_841 rfl H0.1 H0.2.2.2.2.2.2.2.2.2.1.1 dX10_nudgesFor_236 ?_
          refine xr_iload C dX10_nudgesFor_239 3 rfl ?_
          obtain ⟨i6, hf⟩ := ck_x hf
          refine xr_iald C H0.2.2.2.2.2.2.2.2.2.1.2 i6 dX10_nudgesFor_241 ?_
          refine xr_iload_n C dX10_nudgesFor_242 2 rfl rfl ?_
          refine xr_icmp_ge (tgt := 256) C dX10_nudgesFor_243 (by decide) hf (fun c7 hf => ?_) (fun c7 hf => ?_)
          · exact ebX10_nudgesFor_256 C H0 ih203 q hf
          · refine xr_lv [0, 1, 3] rfl ?_
            exact ebX10_nudgesFor_246 C H0 ih203 q hf
theorem ebX10_nudgesFor_203 {g : Cfg} (C : Cx g RX10 cX10_nudgesFor 7 5 117 0 0) {h : Shp} (H0 : MAt h) {r1 : Int32} {o1 : Mem} (q : QI g (some Jvm.ClassFile.FieldType.int) 0 0 r1 (o1, h)) : ∀ (fu : Nat) {I0 : Mem} {l1 : Int32} {l3 : Int32} {l4 : Int32} (hf : fnX10_nudgesFor_203 fu I0 l1 l3 l4 = some (r1, o1)), XE g 0 0 (I0, h) 203 [(0, rf g 111), (1, .int l1), (3, .int l3), (4, .int l4)] [] := by
  intro fu
  induction fu with
  | zero =>
    intro I0 l1 l3 l4 hf
    cases hf
  | succ fu ihn =>
    intro I0 l1 l3 l4 hf
    exact ebX10_nudgesFor_203b C H0 q (fun _ _ _ _ hf => ihn hf) hf
def fnX10_nudgesFor_166b (rec59 : Mem → Int32 → Int32 → Int32 → Int32 → Option (Int32 × Mem)) (rec166 : Mem → Int32 → Int32 → Int32 → Int32 → Int32 → Option (Int32 × Mem)) (I0 : Mem) (l1 : Int32) (l2 : Int32) (l3 : Int32) (l4 : Int32) (l5 : Int32) : Option (Int32 × Mem) :=
  if 10752 ≤ l5 then (bnd (l4 + 1) fun v2 => rec59 I0 l1 l2 l3 v2) else (ck (inb l5 10752) <| ck (inb l5 10752) <| bnd (up2 I0 120 (ix l5) (I0 121 (ix l5))) fun I5 => bnd (l5 + 1) fun v6 => rec166 I5 l1 l2 l3 l4 v6)
def fnX10_nudgesFor_166 (rec59 : Mem → Int32 → Int32 → Int32 → Int32 → Option (Int32 × Mem)) : Nat → Mem → Int32 → Int32 → Int32 → Int32 → Int32 → Option (Int32 × Mem)
  | 0 => fun _ _ _ _ _ _ => none
  | fu + 1 => fnX10_nudgesFor_166b rec59 (fnX10_nudgesFor_166 rec59 fu)
set_option maxRecDepth 20000 in
set_option maxHeartbeats 2000000 in
theorem ebX10_nudgesFor_166b {g : Cfg} (C : Cx g RX10 cX10_nudgesFor 7 5 117 0 0) {h : Shp} (H0 : MAt h) {r1 : Int32} {o1 : Mem} {rec59 : Mem → Int32 → Int32 → Int32 → Int32 → Option (Int32 × Mem)} (ih59 : ∀ (I0 : Mem) (l1 : Int32) (l2 : Int32) (l3 : Int32) (l4 : Int32), rec59 I0 l1 l2 l3 l4 = some (r1, o1) → XE g 0 0 (I0, h) 59 [(0, rf g 111), (1, .int l1), (2, .int l2), (3, .int l3), (4, .int l4)] []) {rec166 : Mem → Int32 → Int32 → Int32 → Int32 → Int32 → Option (Int32 × Mem)} (q : QI g (some Jvm.ClassFile.FieldType.int) 0 0 r1 (o1, h)) (ih166 : ∀ (I0 : Mem) (l1 : Int32) (l2 : Int32) (l3 : Int32) (l4 : Int32) (l5 : Int32), rec166 I0 l1 l2 l3 l4 l5 = some (r1, o1) → XE g 0 0 (I0, h) 166 [(0, rf g 111), (1, .int l1), (2, .int l2), (3, .int l3), (4, .int l4), (5, .int l5)] []) {I0 : Mem} {l1 : Int32} {l2 : Int32} {l3 : Int32} {l4 : Int32} {l5 : Int32} (hf : fnX10_nudgesFor_166b rec59 rec166 I0 l1 l2 l3 l4 l5 = some (r1, o1)) : XE g 0 0 (I0, h) 166 [(0, rf g 111), (1, .int l1), (2, .int l2), (3, .int l3), (4, .int l4), (5, .int l5)] [] := by
  unfold fnX10_nudgesFor_166b at hf
  refine xr_iload C dX10_nudgesFor_166 5 rfl ?_
  refine xr_sipush (v := 10752) C dX10_nudgesFor_168 (by decide) ?_
  refine xr_icmp_ge (tgt := 194) C dX10_nudgesFor_171 (by decide) hf (fun c1 hf => ?_) (fun c1 hf => ?_)
  · obtain ⟨v2, ev2, hf⟩ := bnd_x hf
    refine xr_iinc (k := 4) (v := v2) C dX10_nudgesFor_194 rfl (by rw [ev2]; rfl) (by decide) rfl ?_
    refine xr_goto (tgt := 59) C dX10_nudgesFor_197 (by decide) ?_
    refine xr_lv [1, 2, 3, 4, 0] rfl ?_
    exact ih59 _ _ _ _ _ hf
  · refine xr_aload_n C dX10_nudgesFor_174 0 rfl rfl ?_
    refine xr_getr C Kd10 (k := 20) (by decide) rfl wk_841 rfl H0.1 H0.2.2.2.2.2.2.2.2.2.1.1 dX10_nudgesFor_175 ?_
    refine xr_iload C dX10_nudgesFor_178 5 rfl ?_
    refine xr_aload_n C dX10_nudgesFor_180 0 rfl rfl ?_
    refine xr_getr C Kd10 (k := 21) (by decide) rfl wk_842 rfl H0.1 H0.2.2.2.2.2.2.2.2.2.2.1 dX10_nudgesFor_181 ?_
    refine xr_iload C dX10_nudgesFor_184 5 rfl ?_
    obtain ⟨i3, hf⟩ := ck_x hf
    refine xr_iald C H0.2.2.2.2.2.2.2.2.2.2.2 i3 dX10_nudgesFor_186 ?_
    obtain ⟨i4, hf⟩ := ck_x hf
    obtain ⟨I5, eI5, hf⟩ := bnd_x hf
    refine xr_iast C H0.2.2.2.2.2.2.2.2.2.1.2 i4 dX10_nudgesFor_187 eI5 ?_
    obtain ⟨v6, ev6, hf⟩ := bnd_x hf
    refine xr_iinc (k := 5) (v := v6) C dX10_nudgesFor_188 rfl (by rw [ev6]; rfl) (by decide) rfl ?_
    refine xr_goto (tgt := 166) C dX10_nudgesFor_191 (by decide) ?_
    refine xr_lv [1, 2, 3, 4, 5, 0] rfl ?_
    exact ih166 _ _ _ _ _ _ hf
theorem ebX10_nudgesFor_166 {g : Cfg} (C : Cx g RX10 cX10_nudgesFor 7 5 117 0 0) {h : Shp} (H0 : MAt h) {r1 : Int32} {o1 : Mem} {rec59 : Mem → Int32 → Int32 → Int32 → Int32 → Option (Int32 × Mem)} (ih59 : ∀ (I0 : Mem) (l1 : Int32) (l2 : Int32) (l3 : Int32) (l4 : Int32), rec59 I0 l1 l2 l3 l4 = some (r1, o1) → XE g 0 0 (I0, h) 59 [(0, rf g 111), (1, .int l1), (2, .int l2), (3, .int l3), (4, .int l4)] []) (q : QI g (some Jvm.ClassFile.FieldType.int) 0 0 r1 (o1, h)) : ∀ (fu : Nat) {I0 : Mem} {l1 : Int32} {l2 : Int32} {l3 : Int32} {l4 : Int32} {l5 : Int32} (hf : fnX10_nudgesFor_166 rec59 fu I0 l1 l2 l3 l4 l5 = some (r1, o1)), XE g 0 0 (I0, h) 166 [(0, rf g 111), (1, .int l1), (2, .int l2), (3, .int l3), (4, .int l4), (5, .int l5)] [] := by
  intro fu
  induction fu with
  | zero =>
    intro I0 l1 l2 l3 l4 l5 hf
    cases hf
  | succ fu ihn =>
    intro I0 l1 l2 l3 l4 l5 hf
    exact ebX10_nudgesFor_166b C H0 ih59 q (fun _ _ _ _ _ _ hf => ihn hf) hf
def fnX10_nudgesFor_157 (rec59 : Mem → Int32 → Int32 → Int32 → Int32 → Option (Int32 × Mem)) (rec94 : Mem → Int32 → Int32 → Int32 → Int32 → Int32 → Option (Int32 × Mem)) (I0 : Mem) (l1 : Int32) (l2 : Int32) (l3 : Int32) (l4 : Int32) (l5 : Int32) : Option (Int32 × Mem) :=
  bnd (l5 + 1) fun v1 => rec94 I0 l1 l2 l3 l4 v1
set_option maxRecDepth 20000 in
set_option maxHeartbeats 2000000 in
theorem ebX10_nudgesFor_157 {g : Cfg} (C : Cx g RX10 cX10_nudgesFor 7 5 117 0 0) {h : Shp} (H0 : MAt h) {r1 : Int32} {o1 : Mem} {rec59 : Mem → Int32 → Int32 → Int32 → Int32 → Option (Int32 × Mem)} {rec94 : Mem → Int32 → Int32 → Int32 → Int32 → Int32 → Option (Int32 × Mem)} (ih59 : ∀ (I0 : Mem) (l1 : Int32) (l2 : Int32) (l3 : Int32) (l4 : Int32), rec59 I0 l1 l2 l3 l4 = some (r1, o1) → XE g 0 0 (I0, h) 59 [(0, rf g 111), (1, .int l1), (2, .int l2), (3, .int l3), (4, .int l4)] []) (ih94 : ∀ (I0 : Mem) (l1 : Int32) (l2 : Int32) (l3 : Int32) (l4 : Int32) (l5 : Int32), rec94 I0 l1 l2 l3 l4 l5 = some (r1, o1) → XE g 0 0 (I0, h) 94 [(0, rf g 111), (1, .int l1), (2, .int l2), (3, .int l3), (4, .int l4), (5, .int l5)] []) (q : QI g (some Jvm.ClassFile.FieldType.int) 0 0 r1 (o1, h)) {I0 : Mem} {l1 : Int32} {l2 : Int32} {l3 : Int32} {l4 : Int32} {l5 : Int32} (hf : fnX10_nudgesFor_157 rec59 rec94 I0 l1 l2 l3 l4 l5 = some (r1, o1)) : XE g 0 0 (I0, h) 157 [(0, rf g 111), (1, .int l1), (2, .int l2), (3, .int l3), (4, .int l4), (5, .int l5)] [] := by
  unfold fnX10_nudgesFor_157 at hf
  obtain ⟨v1, ev1, hf⟩ := bnd_x hf
  refine xr_iinc (k := 5) (v := v1) C dX10_nudgesFor_157 rfl (by rw [ev1]; rfl) (by decide) rfl ?_
  refine xr_goto (tgt := 94) C dX10_nudgesFor_160 (by decide) ?_
  refine xr_lv [1, 2, 3, 4, 5, 0] rfl ?_
  exact ih94 _ _ _ _ _ _ hf
def fnX10_nudgesFor_156 (rec59 : Mem → Int32 → Int32 → Int32 → Int32 → Option (Int32 × Mem)) (rec94 : Mem → Int32 → Int32 → Int32 → Int32 → Int32 → Option (Int32 × Mem)) (I0 : Mem) (l1 : Int32) (l2 : Int32) (l4 : Int32) (l5 : Int32) (t0 : Int32) : Option (Int32 × Mem) :=
  fnX10_nudgesFor_157 rec59 rec94 I0 l1 l2 t0 l4 l5
set_option maxRecDepth 20000 in
set_option maxHeartbeats 2000000 in
theorem ebX10_nudgesFor_156 {g : Cfg} (C : Cx g RX10 cX10_nudgesFor 7 5 117 0 0) {h : Shp} (H0 : MAt h) {r1 : Int32} {o1 : Mem} {rec59 : Mem → Int32 → Int32 → Int32 → Int32 → Option (Int32 × Mem)} {rec94 : Mem → Int32 → Int32 → Int32 → Int32 → Int32 → Option (Int32 × Mem)} (ih59 : ∀ (I0 : Mem) (l1 : Int32) (l2 : Int32) (l3 : Int32) (l4 : Int32), rec59 I0 l1 l2 l3 l4 = some (r1, o1) → XE g 0 0 (I0, h) 59 [(0, rf g 111), (1, .int l1), (2, .int l2), (3, .int l3), (4, .int l4)] []) (ih94 : ∀ (I0 : Mem) (l1 : Int32) (l2 : Int32) (l3 : Int32) (l4 : Int32) (l5 : Int32), rec94 I0 l1 l2 l3 l4 l5 = some (r1, o1) → XE g 0 0 (I0, h) 94 [(0, rf g 111), (1, .int l1), (2, .int l2), (3, .int l3), (4, .int l4), (5, .int l5)] []) (q : QI g (some Jvm.ClassFile.FieldType.int) 0 0 r1 (o1, h)) {I0 : Mem} {l1 : Int32} {l2 : Int32} {l4 : Int32} {l5 : Int32} {t0 : Int32} (hf : fnX10_nudgesFor_156 rec59 rec94 I0 l1 l2 l4 l5 t0 = some (r1, o1)) : XE g 0 0 (I0, h) 156 [(0, rf g 111), (1, .int l1), (2, .int l2), (4, .int l4), (5, .int l5)] [.int t0] := by
  unfold fnX10_nudgesFor_156 at hf
  refine xr_istore_n C dX10_nudgesFor_156 rfl (by decide) rfl ?_
  refine xr_lv [1, 2, 3, 0, 4, 5] rfl ?_
  exact ebX10_nudgesFor_157 C H0 ih59 ih94 q hf
def fnX10_nudgesFor_155 (rec59 : Mem → Int32 → Int32 → Int32 → Int32 → Option (Int32 × Mem)) (rec94 : Mem → Int32 → Int32 → Int32 → Int32 → Int32 → Option (Int32 × Mem)) (I0 : Mem) (l1 : Int32) (l2 : Int32) (l3 : Int32) (l4 : Int32) (l5 : Int32) : Option (Int32 × Mem) :=
  fnX10_nudgesFor_156 rec59 rec94 I0 l1 l2 l4 l5 l3
set_option maxRecDepth 20000 in
set_option maxHeartbeats 2000000 in
theorem ebX10_nudgesFor_155 {g : Cfg} (C : Cx g RX10 cX10_nudgesFor 7 5 117 0 0) {h : Shp} (H0 : MAt h) {r1 : Int32} {o1 : Mem} {rec59 : Mem → Int32 → Int32 → Int32 → Int32 → Option (Int32 × Mem)} {rec94 : Mem → Int32 → Int32 → Int32 → Int32 → Int32 → Option (Int32 × Mem)} (ih59 : ∀ (I0 : Mem) (l1 : Int32) (l2 : Int32) (l3 : Int32) (l4 : Int32), rec59 I0 l1 l2 l3 l4 = some (r1, o1) → XE g 0 0 (I0, h) 59 [(0, rf g 111), (1, .int l1), (2, .int l2), (3, .int l3), (4, .int l4)] []) (ih94 : ∀ (I0 : Mem) (l1 : Int32) (l2 : Int32) (l3 : Int32) (l4 : Int32) (l5 : Int32), rec94 I0 l1 l2 l3 l4 l5 = some (r1, o1) → XE g 0 0 (I0, h) 94 [(0, rf g 111), (1, .int l1), (2, .int l2), (3, .int l3), (4, .int l4), (5, .int l5)] []) (q : QI g (some Jvm.ClassFile.FieldType.int) 0 0 r1 (o1, h)) {I0 : Mem} {l1 : Int32} {l2 : Int32} {l3 : Int32} {l4 : Int32} {l5 : Int32} (hf : fnX10_nudgesFor_155 rec59 rec94 I0 l1 l2 l3 l4 l5 = some (r1, o1)) : XE g 0 0 (I0, h) 155 [(0, rf g 111), (1, .int l1), (2, .int l2), (3, .int l3), (4, .int l4), (5, .int l5)] [] := by
  unfold fnX10_nudgesFor_155 at hf
  refine xr_iload_n C dX10_nudgesFor_155 3 rfl rfl ?_
  refine xr_lv [0, 1, 2, 4, 5] rfl ?_
  exact ebX10_nudgesFor_156 C H0 ih59 ih94 q hf
def fnX10_nudgesFor_150 (rec59 : Mem → Int32 → Int32 → Int32 → Int32 → Option (Int32 × Mem)) (rec94 : Mem → Int32 → Int32 → Int32 → Int32 → Int32 → Option (Int32 × Mem)) (I0 : Mem) (l1 : Int32) (l2 : Int32) (l4 : Int32) (l5 : Int32) (l6 : Int32) : Option (Int32 × Mem) :=
  fnX10_nudgesFor_156 rec59 rec94 I0 l1 l2 l4 l5 l6
set_option maxRecDepth 20000 in
set_option maxHeartbeats 2000000 in
theorem ebX10_nudgesFor_150 {g : Cfg} (C : Cx g RX10 cX10_nudgesFor 7 5 117 0 0) {h : Shp} (H0 : MAt h) {r1 : Int32} {o1 : Mem} {rec59 : Mem → Int32 → Int32 → Int32 → Int32 → Option (Int32 × Mem)} {rec94 : Mem → Int32 → Int32 → Int32 → Int32 → Int32 → Option (Int32 × Mem)} (ih59 : ∀ (I0 : Mem) (l1 : Int32) (l2 : Int32) (l3 : Int32) (l4 : Int32), rec59 I0 l1 l2 l3 l4 = some (r1, o1) → XE g 0 0 (I0, h) 59 [(0, rf g 111), (1, .int l1), (2, .int l2), (3, .int l3), (4, .int l4)] []) (ih94 : ∀ (I0 : Mem) (l1 : Int32) (l2 : Int32) (l3 : Int32) (l4 : Int32) (l5 : Int32), rec94 I0 l1 l2 l3 l4 l5 = some (r1, o1) → XE g 0 0 (I0, h) 94 [(0, rf g 111), (1, .int l1), (2, .int l2), (3, .int l3), (4, .int l4), (5, .int l5)] []) (q : QI g (some Jvm.ClassFile.FieldType.int) 0 0 r1 (o1, h)) {I0 : Mem} {l1 : Int32} {l2 : Int32} {l4 : Int32} {l5 : Int32} {l6 : Int32} (hf : fnX10_nudgesFor_150 rec59 rec94 I0 l1 l2 l4 l5 l6 = some (r1, o1)) : XE g 0 0 (I0, h) 150 [(0, rf g 111), (1, .int l1), (2, .int l2), (4, .int l4), (5, .int l5), (6, .int l6)] [] := by
  unfold fnX10_nudgesFor_150 at hf
  refine xr_iload C dX10_nudgesFor_150 5 rfl ?_
  refine xr_goto (tgt := 156) C dX10_nudgesFor_152 (by decide) ?_
  refine xr_lv [0, 1, 2, 3, 4] rfl ?_
  exact ebX10_nudgesFor_156 C H0 ih59 ih94 q hf
def fnX10_nudgesFor_94b (rec59 : Mem → Int32 → Int32 → Int32 → Int32 → Option (Int32 × Mem)) (rec94 : Mem → Int32 → Int32 → Int32 → Int32 → Int32 → Option (Int32 × Mem)) (I0 : Mem) (l1 : Int32) (l2 : Int32) (l3 : Int32) (l4 : Int32) (l5 : Int32) : Option (Int32 × Mem) :=
  if 21504 ≤ l5 then (fnX10_nudgesFor_166 rec59 FU I0 l1 l2 l3 l4 0) else (ck (inb (l5 / 2) 10752) <| if (I0 120 (ix (l5 / 2))) = (-1000000) then (fnX10_nudgesFor_157 rec59 rec94 I0 l1 l2 l3 l4 l5) else (ob (fnX10_goOn I0 (l5 / 2) (irm l5 2) l1) fun ⟨r6, I5⟩ => if r6 = (-1000000) then (fnX10_nudgesFor_155 rec59 rec94 I5 l1 l2 l3 l4 l5) else (if l3 = (-1000000) then (fnX10_nudgesFor_150 rec59 rec94 I5 l1 l2 l4 l5 r6) else (if l3 ≤ r6 then (fnX10_nudgesFor_155 rec59 rec94 I5 l1 l2 l3 l4 l5) else (fnX10_nudgesFor_150 rec59 rec94 I5 l1 l2 l4 l5 r6)))))
def fnX10_nudgesFor_94 (rec59 : Mem → Int32 → Int32 → Int32 → Int32 → Option (Int32 × Mem)) : Nat → Mem → Int32 → Int32 → Int32 → Int32 → Int32 → Option (Int32 × Mem)
  | 0 => fun _ _ _ _ _ _ => none
  | fu + 1 => fnX10_nudgesFor_94b rec59 (fnX10_nudgesFor_94 rec59 fu)
set_option maxRecDepth 20000 in
set_option maxHeartbeats 2000000 in
theorem ebX10_nudgesFor_94b {g : Cfg} (C : Cx g RX10 cX10_nudgesFor 7 5 117 0 0) {h : Shp} (H0 : MAt h) {r1 : Int32} {o1 : Mem} {rec59 : Mem → Int32 → Int32 → Int32 → Int32 → Option (Int32 × Mem)} (ih59 : ∀ (I0 : Mem) (l1 : Int32) (l2 : Int32) (l3 : Int32) (l4 : Int32), rec59 I0 l1 l2 l3 l4 = some (r1, o1) → XE g 0 0 (I0, h) 59 [(0, rf g 111), (1, .int l1), (2, .int l2), (3, .int l3), (4, .int l4)] []) {rec94 : Mem → Int32 → Int32 → Int32 → Int32 → Int32 → Option (Int32 × Mem)} (q : QI g (some Jvm.ClassFile.FieldType.int) 0 0 r1 (o1, h)) (ih94 : ∀ (I0 : Mem) (l1 : Int32) (l2 : Int32) (l3 : Int32) (l4 : Int32) (l5 : Int32), rec94 I0 l1 l2 l3 l4 l5 = some (r1, o1) → XE g 0 0 (I0, h) 94 [(0, rf g 111), (1, .int l1), (2, .int l2), (3, .int l3), (4, .int l4), (5, .int l5)] []) {I0 : Mem} {l1 : Int32} {l2 : Int32} {l3 : Int32} {l4 : Int32} {l5 : Int32} (hf : fnX10_nudgesFor_94b rec59 rec94 I0 l1 l2 l3 l4 l5 = some (r1, o1)) : XE g 0 0 (I0, h) 94 [(0, rf g 111), (1, .int l1), (2, .int l2), (3, .int l3), (4, .int l4), (5, .int l5)] [] := by
  unfold fnX10_nudgesFor_94b at hf
  refine xr_iload C dX10_nudgesFor_94 5 rfl ?_
  refine xr_sipush (v := 21504) C dX10_nudgesFor_96 (by decide) ?_
  refine xr_icmp_ge (tgt := 163) C dX10_nudgesFor_99 (by decide) hf (fun c1 hf => ?_) (fun c1 hf => ?_)
  · refine xr_iconst (v := 0) C dX10_nudgesFor_163 (by decide) ?_
    refine xr_istore C dX10_nudgesFor_164 (by decide) rfl ?_
    refine xr_lv [1, 2, 3, 4, 5, 0] rfl ?_
    exact ebX10_nudgesFor_166 C H0 ih59 q _ hf
  · refine xr_aload_n C dX10_nudgesFor_102 0 rfl rfl ?_
    refine xr_getr C Kd10 (k := 20) (by decide) rfl wk_841 rfl H0.1 H0.2.2.2.2.2.2.2.2.2.1.1 dX10_nudgesFor_103 ?_
    refine xr_iload C dX10_nudgesFor_106 5 rfl ?_
    refine xr_iconst (v := 2) C dX10_nudgesFor_108 (by decide) ?_
    refine xr_idiv C dX10_nudgesFor_109 (by decide) ?_
    obtain ⟨i2, hf⟩ := ck_x hf
    refine xr_iald C H0.2.2.2.2.2.2.2.2.2.1.2 i2 dX10_nudgesFor_110 ?_
    refine xr_ldc C wk_820 dX10_nudgesFor_111 ?_
    refine xr_icmp_eq (tgt := 157) C dX10_nudgesFor_113 (by decide) hf (fun c3 hf => ?_) (fun c3 hf => ?_)
    · exact ebX10_nudgesFor_157 C H0 ih59 ih94 q hf
    · refine xr_aload_n C dX10_nudgesFor_116 0 rfl rfl ?_
      refine xr_iload C dX10_nudgesFor_117 5 rfl ?_
      refine xr_iconst (v := 2) C dX10_nudgesFor_119 (by decide) ?_
      refine xr_idiv C dX10_nudgesFor_120 (by decide) ?_
      refine xr_iload C dX10_nudgesFor_121 5 rfl ?_
      refine xr_iconst (v := 2) C dX10_nudgesFor_123 (by decide) ?_
      refine xr_irem C dX10_nudgesFor_124 (by decide) ?_
      refine xr_iload_n C dX10_nudgesFor_125 1 rfl rfl ?_
      obtain ⟨⟨r6, I5⟩, h4, hf⟩ := ob_x hf
      refine xr_callVI C [.int (l5 / 2), .int (irm l5 2), .int l1] lkX10_215 (kX10_goOn H0 h4) Kd10 rfl H0.1 rfl (Nat.le_of_ble_eq_true rfl) rfl dX10_nudgesFor_126 ⟨by decide, by decide, by decide⟩ rfl ?_
      refine xr_istore C dX10_nudgesFor_129 (by decide) rfl ?_
      refine xr_iload C dX10_nudgesFor_131 0 rfl ?_
      refine xr_ldc C wk_820 dX10_nudgesFor_133 ?_
      refine xr_icmp_eq (tgt := 155) C dX10_nudgesFor_135 (by decide) hf (fun c7 hf => ?_) (fun c7 hf => ?_)
      · refine xr_lv [1, 2, 3, 4, 5, 6] rfl ?_
        exact ebX10_nudgesFor_155 C H0 ih59 ih94 q hf
      · refine xr_iload_n C dX10_nudgesFor_138 4 rfl rfl ?_
        refine xr_ldc C wk_820 dX10_nudgesFor_139 ?_
        refine xr_icmp_eq (tgt := 150) C dX10_nudgesFor_141 (by decide) hf (fun c8 hf => ?_) (fun c8 hf => ?_)
        · refine xr_lv [1, 2, 3, 5, 6, 0] rfl ?_
          exact ebX10_nudgesFor_150 C H0 ih59 ih94 q hf
        · refine xr_iload C dX10_nudgesFor_144 0 rfl ?_
          refine xr_iload_n C dX10_nudgesFor_146 4 rfl rfl ?_
          refine xr_icmp_ge (tgt := 155) C dX10_nudgesFor_147 (by decide) hf (fun c9 hf => ?_) (fun c9 hf => ?_)
          · refine xr_lv [1, 2, 3, 4, 5, 6] rfl ?_
            exact ebX10_nudgesFor_155 C H0 ih59 ih94 q hf
          · refine xr_lv [1, 2, 3, 5, 6, 0] rfl ?_
            exact ebX10_nudgesFor_150 C H0 ih59 ih94 q hf
theorem ebX10_nudgesFor_94 {g : Cfg} (C : Cx g RX10 cX10_nudgesFor 7 5 117 0 0) {h : Shp} (H0 : MAt h) {r1 : Int32} {o1 : Mem} {rec59 : Mem → Int32 → Int32 → Int32 → Int32 → Option (Int32 × Mem)} (ih59 : ∀ (I0 : Mem) (l1 : Int32) (l2 : Int32) (l3 : Int32) (l4 : Int32), rec59 I0 l1 l2 l3 l4 = some (r1, o1) → XE g 0 0 (I0, h) 59 [(0, rf g 111), (1, .int l1), (2, .int l2), (3, .int l3), (4, .int l4)] []) (q : QI g (some Jvm.ClassFile.FieldType.int) 0 0 r1 (o1, h)) : ∀ (fu : Nat) {I0 : Mem} {l1 : Int32} {l2 : Int32} {l3 : Int32} {l4 : Int32} {l5 : Int32} (hf : fnX10_nudgesFor_94 rec59 fu I0 l1 l2 l3 l4 l5 = some (r1, o1)), XE g 0 0 (I0, h) 94 [(0, rf g 111), (1, .int l1), (2, .int l2), (3, .int l3), (4, .int l4), (5, .int l5)] [] := by
  intro fu
  induction fu with
  | zero =>
    intro I0 l1 l2 l3 l4 l5 hf
    cases hf
  | succ fu ihn =>
    intro I0 l1 l2 l3 l4 l5 hf
    exact ebX10_nudgesFor_94b C H0 ih59 q (fun _ _ _ _ _ _ hf => ihn hf) hf
def fnX10_nudgesFor_68b (rec59 : Mem → Int32 → Int32 → Int32 → Int32 → Option (Int32 × Mem)) (rec68 : Mem → Int32 → Int32 → Int32 → Int32 → Int32 → Option (Int32 × Mem)) (I0 : Mem) (l1 : Int32) (l2 : Int32) (l3 : Int32) (l4 : Int32) (l5 : Int32) : Option (Int32 × Mem) :=
  if 10752 ≤ l5 then (fnX10_nudgesFor_94 rec59 FU I0 l1 l2 l3 l4 0) else (ck (inb l5 10752) <| bnd (up2 I0 121 (ix l5) (-1000000)) fun I3 => bnd (l5 + 1) fun v4 => rec68 I3 l1 l2 l3 l4 v4)
def fnX10_nudgesFor_68 (rec59 : Mem → Int32 → Int32 → Int32 → Int32 → Option (Int32 × Mem)) : Nat → Mem → Int32 → Int32 → Int32 → Int32 → Int32 → Option (Int32 × Mem)
  | 0 => fun _ _ _ _ _ _ => none
  | fu + 1 => fnX10_nudgesFor_68b rec59 (fnX10_nudgesFor_68 rec59 fu)
set_option maxRecDepth 20000 in
set_option maxHeartbeats 2000000 in
theorem ebX10_nudgesFor_68b {g : Cfg} (C : Cx g RX10 cX10_nudgesFor 7 5 117 0 0) {h : Shp} (H0 : MAt h) {r1 : Int32} {o1 : Mem} {rec59 : Mem → Int32 → Int32 → Int32 → Int32 → Option (Int32 × Mem)} (ih59 : ∀ (I0 : Mem) (l1 : Int32) (l2 : Int32) (l3 : Int32) (l4 : Int32), rec59 I0 l1 l2 l3 l4 = some (r1, o1) → XE g 0 0 (I0, h) 59 [(0, rf g 111), (1, .int l1), (2, .int l2), (3, .int l3), (4, .int l4)] []) {rec68 : Mem → Int32 → Int32 → Int32 → Int32 → Int32 → Option (Int32 × Mem)} (q : QI g (some Jvm.ClassFile.FieldType.int) 0 0 r1 (o1, h)) (ih68 : ∀ (I0 : Mem) (l1 : Int32) (l2 : Int32) (l3 : Int32) (l4 : Int32) (l5 : Int32), rec68 I0 l1 l2 l3 l4 l5 = some (r1, o1) → XE g 0 0 (I0, h) 68 [(0, rf g 111), (1, .int l1), (2, .int l2), (3, .int l3), (4, .int l4), (5, .int l5)] []) {I0 : Mem} {l1 : Int32} {l2 : Int32} {l3 : Int32} {l4 : Int32} {l5 : Int32} (hf : fnX10_nudgesFor_68b rec59 rec68 I0 l1 l2 l3 l4 l5 = some (r1, o1)) : XE g 0 0 (I0, h) 68 [(0, rf g 111), (1, .int l1), (2, .int l2), (3, .int l3), (4, .int l4), (5, .int l5)] [] := by
  unfold fnX10_nudgesFor_68b at hf
  refine xr_iload C dX10_nudgesFor_68 5 rfl ?_
  refine xr_sipush (v := 10752) C dX10_nudgesFor_70 (by decide) ?_
  refine xr_icmp_ge (tgt := 91) C dX10_nudgesFor_73 (by decide) hf (fun c1 hf => ?_) (fun c1 hf => ?_)
  · refine xr_iconst (v := 0) C dX10_nudgesFor_91 (by decide) ?_
    refine xr_istore C dX10_nudgesFor_92 (by decide) rfl ?_
    refine xr_lv [1, 2, 3, 4, 5, 0] rfl ?_
    exact ebX10_nudgesFor_94 C H0 ih59 q _ hf
  · refine xr_aload_n C dX10_nudgesFor_76 0 rfl rfl ?_
    refine xr_getr C Kd10 (k := 21) (by decide) rfl wk_842 rfl H0.1 H0.2.2.2.2.2.2.2.2.2.2.1 dX10_nudgesFor_77 ?_
    refine xr_iload C dX10_nudgesFor_80 5 rfl ?_
    refine xr_ldc C wk_820 dX10_nudgesFor_82 ?_
    obtain ⟨i2, hf⟩ := ck_x hf
    obtain ⟨I3, eI3, hf⟩ := bnd_x hf
    refine xr_iast C H0.2.2.2.2.2.2.2.2.2.2.2 i2 dX10_nudgesFor_84 eI3 ?_
    obtain ⟨v4, ev4, hf⟩ := bnd_x hf
    refine xr_iinc (k := 5) (v := v4) C dX10_nudgesFor_85 rfl (by rw [ev4]; rfl) (by decide) rfl ?_
    refine xr_goto (tgt := 68) C dX10_nudgesFor_88 (by decide) ?_
    refine xr_lv [1, 2, 3, 4, 5, 0] rfl ?_
    exact ih68 _ _ _ _ _ _ hf
theorem ebX10_nudgesFor_68 {g : Cfg} (C : Cx g RX10 cX10_nudgesFor 7 5 117 0 0) {h : Shp} (H0 : MAt h) {r1 : Int32} {o1 : Mem} {rec59 : Mem → Int32 → Int32 → Int32 → Int32 → Option (Int32 × Mem)} (ih59 : ∀ (I0 : Mem) (l1 : Int32) (l2 : Int32) (l3 : Int32) (l4 : Int32), rec59 I0 l1 l2 l3 l4 = some (r1, o1) → XE g 0 0 (I0, h) 59 [(0, rf g 111), (1, .int l1), (2, .int l2), (3, .int l3), (4, .int l4)] []) (q : QI g (some Jvm.ClassFile.FieldType.int) 0 0 r1 (o1, h)) : ∀ (fu : Nat) {I0 : Mem} {l1 : Int32} {l2 : Int32} {l3 : Int32} {l4 : Int32} {l5 : Int32} (hf : fnX10_nudgesFor_68 rec59 fu I0 l1 l2 l3 l4 l5 = some (r1, o1)), XE g 0 0 (I0, h) 68 [(0, rf g 111), (1, .int l1), (2, .int l2), (3, .int l3), (4, .int l4), (5, .int l5)] [] := by
  intro fu
  induction fu with
  | zero =>
    intro I0 l1 l2 l3 l4 l5 hf
    cases hf
  | succ fu ihn =>
    intro I0 l1 l2 l3 l4 l5 hf
    exact ebX10_nudgesFor_68b C H0 ih59 q (fun _ _ _ _ _ _ hf => ihn hf) hf
def fnX10_nudgesFor_59b (rec59 : Mem → Int32 → Int32 → Int32 → Int32 → Option (Int32 × Mem)) (I0 : Mem) (l1 : Int32) (l2 : Int32) (l3 : Int32) (l4 : Int32) : Option (Int32 × Mem) :=
  if l2 ≤ l4 then (fnX10_nudgesFor_203 FU I0 l1 l3 0) else (fnX10_nudgesFor_68 rec59 FU I0 l1 l2 l3 l4 0)
def fnX10_nudgesFor_59 : Nat → Mem → Int32 → Int32 → Int32 → Int32 → Option (Int32 × Mem)
  | 0 => fun _ _ _ _ _ => none
  | fu + 1 => fnX10_nudgesFor_59b (fnX10_nudgesFor_59 fu)
set_option maxRecDepth 20000 in
set_option maxHeartbeats 2000000 in
theorem ebX10_nudgesFor_59b {g : Cfg} (C : Cx g RX10 cX10_nudgesFor 7 5 117 0 0) {h : Shp} (H0 : MAt h) {r1 : Int32} {o1 : Mem} {rec59 : Mem → Int32 → Int32 → Int32 → Int32 → Option (Int32 × Mem)} (q : QI g (some Jvm.ClassFile.FieldType.int) 0 0 r1 (o1, h)) (ih59 : ∀ (I0 : Mem) (l1 : Int32) (l2 : Int32) (l3 : Int32) (l4 : Int32), rec59 I0 l1 l2 l3 l4 = some (r1, o1) → XE g 0 0 (I0, h) 59 [(0, rf g 111), (1, .int l1), (2, .int l2), (3, .int l3), (4, .int l4)] []) {I0 : Mem} {l1 : Int32} {l2 : Int32} {l3 : Int32} {l4 : Int32} (hf : fnX10_nudgesFor_59b rec59 I0 l1 l2 l3 l4 = some (r1, o1)) : XE g 0 0 (I0, h) 59 [(0, rf g 111), (1, .int l1), (2, .int l2), (3, .int l3), (4, .int l4)] [] := by
  unfold fnX10_nudgesFor_59b at hf
  refine xr_iload C dX10_nudgesFor_59 4 rfl ?_
  refine xr_iload_n C dX10_nudgesFor_61 2 rfl rfl ?_
  refine xr_icmp_ge (tgt := 200) C dX10_nudgesFor_62 (by decide) hf (fun c1 hf => ?_) (fun c1 hf => ?_)
  · refine xr_iconst (v := 0) C dX10_nudgesFor_200 (by decide) ?_
    refine xr_istore C dX10_nudgesFor_201 (by decide) rfl ?_
    refine xr_lv [1, 2, 4, 0] rfl ?_
    exact ebX10_nudgesFor_203 C H0 q _ hf
  · refine xr_iconst (v := 0) C dX10_nudgesFor_65 (by decide) ?_
    refine xr_istore C dX10_nudgesFor_66 (by decide) rfl ?_
    refine xr_lv [1, 2, 3, 4, 5, 0] rfl ?_
    exact ebX10_nudgesFor_68 C H0 ih59 q _ hf
theorem ebX10_nudgesFor_59 {g : Cfg} (C : Cx g RX10 cX10_nudgesFor 7 5 117 0 0) {h : Shp} (H0 : MAt h) {r1 : Int32} {o1 : Mem} (q : QI g (some Jvm.ClassFile.FieldType.int) 0 0 r1 (o1, h)) : ∀ (fu : Nat) {I0 : Mem} {l1 : Int32} {l2 : Int32} {l3 : Int32} {l4 : Int32} (hf : fnX10_nudgesFor_59 fu I0 l1 l2 l3 l4 = some (r1, o1)), XE g 0 0 (I0, h) 59 [(0, rf g 111), (1, .int l1), (2, .int l2), (3, .int l3), (4, .int l4)] [] := by
  intro fu
  induction fu with
  | zero =>
    intro I0 l1 l2 l3 l4 hf
    cases hf
  | succ fu ihn =>
    intro I0 l1 l2 l3 l4 hf
    exact ebX10_nudgesFor_59b C H0 q (fun _ _ _ _ _ hf => ihn hf) hf
def fnX10_nudgesFor_2b (rec2 : Mem → Int32 → Int32 → Int32 → Option (Int32 × Mem)) (I0 : Mem) (l1 : Int32) (l2 : Int32) (l3 : Int32) : Option (Int32 × Mem) :=
  if 10752 ≤ l3 then (ck (inb 27 164) <| ck (inb 28 164) <| ck (inb 34 164) <| ob (fnX10_stateOf I0 (I0 112 (ix 27)) (I0 112 (ix 28)) (I0 112 (ix 34))) fun ⟨r7, I6⟩ => ck (inb r7 10752) <| bnd (up2 I6 120 (ix r7) 0) fun I9 => fnX10_nudgesFor_59 FU I9 l1 l2 (-1000000) 0) else (ck (inb l3 10752) <| bnd (up2 I0 120 (ix l3) (-1000000)) fun I11 => bnd (l3 + 1) fun v12 => rec2 I11 l1 l2 v12)
def fnX10_nudgesFor_2 : Nat → Mem → Int32 → Int32 → Int32 → Option (Int32 × Mem)
  | 0 => fun _ _ _ _ => none
  | fu + 1 => fnX10_nudgesFor_2b (fnX10_nudgesFor_2 fu)
set_option maxRecDepth 20000 in
set_option maxHeartbeats 2000000 in
theorem ebX10_nudgesFor_2b {g : Cfg} (C : Cx g RX10 cX10_nudgesFor 7 5 117 0 0) {h : Shp} (H0 : MAt h) {r1 : Int32} {o1 : Mem} {rec2 : Mem → Int32 → Int32 → Int32 → Option (Int32 × Mem)} (q : QI g (some Jvm.ClassFile.FieldType.int) 0 0 r1 (o1, h)) (ih2 : ∀ (I0 : Mem) (l1 : Int32) (l2 : Int32) (l3 : Int32), rec2 I0 l1 l2 l3 = some (r1, o1) → XE g 0 0 (I0, h) 2 [(0, rf g 111), (1, .int l1), (2, .int l2), (3, .int l3)] []) {I0 : Mem} {l1 : Int32} {l2 : Int32} {l3 : Int32} (hf : fnX10_nudgesFor_2b rec2 I0 l1 l2 l3 = some (r1, o1)) : XE g 0 0 (I0, h) 2 [(0, rf g 111), (1, .int l1), (2, .int l2), (3, .int l3)] [] := by
  unfold fnX10_nudgesFor_2b at hf
  refine xr_iload_n C dX10_nudgesFor_2 3 rfl rfl ?_
  refine xr_sipush (v := 10752) C dX10_nudgesFor_3 (by decide) ?_
  refine xr_icmp_ge (tgt := 23) C dX10_nudgesFor_6 (by decide) hf (fun c1 hf => ?_) (fun c1 hf => ?_)
  · refine xr_aload_n C dX10_nudgesFor_23 0 rfl rfl ?_
    refine xr_getr C Kd10 (k := 20) (by decide) rfl wk_841 rfl H0.1 H0.2.2.2.2.2.2.2.2.2.1.1 dX10_nudgesFor_24 ?_
    refine xr_aload_n C dX10_nudgesFor_27 0 rfl rfl ?_
    refine xr_getr C Kd10 (k := 0) (by decide) rfl wk_821 rfl H0.1 H0.2.1.1 dX10_nudgesFor_28 ?_
    refine xr_bipush (v := 27) C dX10_nudgesFor_31 (by decide) ?_
    obtain ⟨i2, hf⟩ := ck_x hf
    refine xr_iald C H0.2.1.2 i2 dX10_nudgesFor_33 ?_
    refine xr_aload_n C dX10_nudgesFor_34 0 rfl rfl ?_
    refine xr_getr C Kd10 (k := 0) (by decide) rfl wk_821 rfl H0.1 H0.2.1.1 dX10_nudgesFor_35 ?_
    refine xr_bipush (v := 28) C dX10_nudgesFor_38 (by decide) ?_
    obtain ⟨i3, hf⟩ := ck_x hf
    refine xr_iald C H0.2.1.2 i3 dX10_nudgesFor_40 ?_
    refine xr_aload_n C dX10_nudgesFor_41 0 rfl rfl ?_
    refine xr_getr C Kd10 (k := 0) (by decide) rfl wk_821 rfl H0.1 H0.2.1.1 dX10_nudgesFor_42 ?_
    refine xr_bipush (v := 34) C dX10_nudgesFor_45 (by decide) ?_
    obtain ⟨i4, hf⟩ := ck_x hf
    refine xr_iald C H0.2.1.2 i4 dX10_nudgesFor_47 ?_
    obtain ⟨⟨r7, I6⟩, h5, hf⟩ := ob_x hf
    refine xr_callSI C [.int (I0 112 (ix 27)), .int (I0 112 (ix 28)), .int (I0 112 (ix 34))] lkX10_211 (kX10_stateOf h5) rfl (Nat.le_of_ble_eq_true rfl) rfl dX10_nudgesFor_48 ⟨by decide, by decide, by decide⟩ rfl ?_
    refine xr_iconst (v := 0) C dX10_nudgesFor_51 (by decide) ?_
    obtain ⟨i8, hf⟩ := ck_x hf
    obtain ⟨I9, eI9, hf⟩ := bnd_x hf
    refine xr_iast C H0.2.2.2.2.2.2.2.2.2.1.2 i8 dX10_nudgesFor_52 eI9 ?_
    refine xr_ldc C wk_820 dX10_nudgesFor_53 ?_
    refine xr_istore_n C dX10_nudgesFor_55 rfl (by decide) rfl ?_
    refine xr_iconst (v := 0) C dX10_nudgesFor_56 (by decide) ?_
    refine xr_istore C dX10_nudgesFor_57 (by decide) rfl ?_
    refine xr_lv [2, 3, 4, 1, 0] rfl ?_
    exact ebX10_nudgesFor_59 C H0 q _ hf
  · refine xr_aload_n C dX10_nudgesFor_9 0 rfl rfl ?_
    refine xr_getr C Kd10 (k := 20) (by decide) rfl wk_841 rfl H0.1 H0.2.2.2.2.2.2.2.2.2.1.1 dX10_nudgesFor_10 ?_
    refine xr_iload_n C dX10_nudgesFor_13 3 rfl rfl ?_
    refine xr_ldc C wk_820 dX10_nudgesFor_14 ?_
    obtain ⟨i10, hf⟩ := ck_x hf
    obtain ⟨I11, eI11, hf⟩ := bnd_x hf
    refine xr_iast C H0.2.2.2.2.2.2.2.2.2.1.2 i10 dX10_nudgesFor_16 eI11 ?_
    obtain ⟨v12, ev12, hf⟩ := bnd_x hf
    refine xr_iinc (k := 3) (v := v12) C dX10_nudgesFor_17 rfl (by rw [ev12]; rfl) (by decide) rfl ?_
    refine xr_goto (tgt := 2) C dX10_nudgesFor_20 (by decide) ?_
    refine xr_lv [1, 2, 3, 0] rfl ?_
    exact ih2 _ _ _ _ hf
theorem ebX10_nudgesFor_2 {g : Cfg} (C : Cx g RX10 cX10_nudgesFor 7 5 117 0 0) {h : Shp} (H0 : MAt h) {r1 : Int32} {o1 : Mem} (q : QI g (some Jvm.ClassFile.FieldType.int) 0 0 r1 (o1, h)) : ∀ (fu : Nat) {I0 : Mem} {l1 : Int32} {l2 : Int32} {l3 : Int32} (hf : fnX10_nudgesFor_2 fu I0 l1 l2 l3 = some (r1, o1)), XE g 0 0 (I0, h) 2 [(0, rf g 111), (1, .int l1), (2, .int l2), (3, .int l3)] [] := by
  intro fu
  induction fu with
  | zero =>
    intro I0 l1 l2 l3 hf
    cases hf
  | succ fu ihn =>
    intro I0 l1 l2 l3 hf
    exact ebX10_nudgesFor_2b C H0 q (fun _ _ _ _ hf => ihn hf) hf
def fnX10_nudgesFor (I0 : Mem) (p1 : Int32) (p2 : Int32) : Option (Int32 × Mem) :=
  fnX10_nudgesFor_2 FU I0 p1 p2 0
set_option maxRecDepth 20000 in
set_option maxHeartbeats 2000000 in
theorem ebX10_nudgesFor_0 {g : Cfg} (C : Cx g RX10 cX10_nudgesFor 7 5 117 0 0) {h : Shp} (H0 : MAt h) {r1 : Int32} {o1 : Mem} (q : QI g (some Jvm.ClassFile.FieldType.int) 0 0 r1 (o1, h)) {I0 : Mem} {p1 : Int32} {p2 : Int32} (hf : fnX10_nudgesFor I0 p1 p2 = some (r1, o1)) : XE g 0 0 (I0, h) 0 [(0, rf g 111), (1, .int p1), (2, .int p2)] [] := by
  unfold fnX10_nudgesFor at hf
  refine xr_iconst (v := 0) C dX10_nudgesFor_0 (by decide) ?_
  refine xr_istore_n C dX10_nudgesFor_1 rfl (by decide) rfl ?_
  refine xr_lv [1, 2, 3, 0] rfl ?_
  exact ebX10_nudgesFor_2 C H0 q _ hf
theorem kX10_nudgesFor {B : Bs} {h : Shp} (H0 : MAt h) {I0 : Mem} {p1 : Int32} {p2 : Int32} {r1 : Int32} {o1 : Mem} (hf : fnX10_nudgesFor I0 p1 p2 = some (r1, o1)) : CtrI B yX10_nudgesFor cX10_nudgesFor 7 (some Jvm.ClassFile.FieldType.int) 5 117 0 0 [rfB B 111, .int p1, .int p2] (I0, h) r1 (o1, h) := by
  refine xr_enterI (lv0 := [(0, rfB B 111), (1, .int p1), (2, .int p2)]) (by decide) (Nat.le_of_ble_eq_true rfl) rfl (fun g hg C q => ?_)
  subst hg
  exact ebX10_nudgesFor_0 C H0 q hf
theorem dX10_nudged_0 : decode cX10_nudged 0 = .ok (.aload_n 0, 1) := by decide +kernel
theorem dX10_nudged_1 : decode cX10_nudged 1 = .ok (.getfield 7, 3) := by decide +kernel
theorem dX10_nudged_4 : decode cX10_nudged 4 = .ok (.iconst 0, 1) := by decide +kernel
theorem dX10_nudged_5 : decode cX10_nudged 5 = .ok (.iaload, 1) := by decide +kernel
theorem dX10_nudged_6 : decode cX10_nudged 6 = .ok (.ifCond .ne 6, 3) := by decide +kernel
theorem dX10_nudged_9 : decode cX10_nudged 9 = .ok (.ldc 176, 2) := by decide +kernel
theorem dX10_nudged_11 : decode cX10_nudged 11 = .ok (.ireturn, 1) := by decide +kernel
theorem dX10_nudged_12 : decode cX10_nudged 12 = .ok (.iload_n 1, 1) := by decide +kernel
theorem dX10_nudged_13 : decode cX10_nudged 13 = .ok (.i2l, 1) := by decide +kernel
theorem dX10_nudged_14 : decode cX10_nudged 14 = .ok (.lconst 0, 1) := by decide +kernel
theorem dX10_nudged_15 : decode cX10_nudged 15 = .ok (.ldc2_w 46, 3) := by decide +kernel
theorem dX10_nudged_18 : decode cX10_nudged 18 = .ok (.invokestatic 48, 3) := by decide +kernel
theorem dX10_nudged_21 : decode cX10_nudged 21 = .ok (.ifCond .eq 15, 3) := by decide +kernel
theorem dX10_nudged_24 : decode cX10_nudged 24 = .ok (.iload_n 2, 1) := by decide +kernel
theorem dX10_nudged_25 : decode cX10_nudged 25 = .ok (.i2l, 1) := by decide +kernel
theorem dX10_nudged_26 : decode cX10_nudged 26 = .ok (.lconst 1, 1) := by decide +kernel
theorem dX10_nudged_27 : decode cX10_nudged 27 = .ok (.ldc2_w 218, 3) := by decide +kernel
theorem dX10_nudged_30 : decode cX10_nudged 30 = .ok (.invokestatic 48, 3) := by decide +kernel
theorem dX10_nudged_33 : decode cX10_nudged 33 = .ok (.ifCond .ne 6, 3) := by decide +kernel
theorem dX10_nudged_36 : decode cX10_nudged 36 = .ok (.ldc 58, 2) := by decide +kernel
theorem dX10_nudged_38 : decode cX10_nudged 38 = .ok (.ireturn, 1) := by decide +kernel
theorem dX10_nudged_39 : decode cX10_nudged 39 = .ok (.aload_n 0, 1) := by decide +kernel
theorem dX10_nudged_40 : decode cX10_nudged 40 = .ok (.getfield 7, 3) := by decide +kernel
theorem dX10_nudged_43 : decode cX10_nudged 43 = .ok (.bipush 29, 2) := by decide +kernel
theorem dX10_nudged_45 : decode cX10_nudged 45 = .ok (.iaload, 1) := by decide +kernel
theorem dX10_nudged_46 : decode cX10_nudged 46 = .ok (.iconst 1, 1) := by decide +kernel
theorem dX10_nudged_47 : decode cX10_nudged 47 = .ok (.if_icmp .ne 8, 3) := by decide +kernel
theorem dX10_nudged_50 : decode cX10_nudged 50 = .ok (.ldc 176, 2) := by decide +kernel
theorem dX10_nudged_52 : decode cX10_nudged 52 = .ok (.goto 9, 3) := by decide +kernel
theorem dX10_nudged_55 : decode cX10_nudged 55 = .ok (.aload_n 0, 1) := by decide +kernel
theorem dX10_nudged_56 : decode cX10_nudged 56 = .ok (.iload_n 1, 1) := by decide +kernel
theorem dX10_nudged_57 : decode cX10_nudged 57 = .ok (.iload_n 2, 1) := by decide +kernel
theorem dX10_nudged_58 : decode cX10_nudged 58 = .ok (.invokevirtual 220, 3) := by decide +kernel
theorem dX10_nudged_61 : decode cX10_nudged 61 = .ok (.ireturn, 1) := by decide +kernel
theorem lkX10_220 : LkV "BumperBallsModel" 220 yX10_nudgesFor cX10_nudgesFor 7 (some Jvm.ClassFile.FieldType.int) 2 := ⟨wk_1106, wk_11, wk_1105, wk_s89, ⟨by decide +kernel, by decide +kernel, by decide +kernel⟩, wk_1103⟩
/-! BumperBallsModel.nudged(II)I -/
def fnX10_nudged_61 (I0 : Mem) (t0 : Int32) : Option (Int32 × Mem) :=
  some (t0, I0)
set_option maxRecDepth 20000 in
set_option maxHeartbeats 2000000 in
theorem ebX10_nudged_61 {g : Cfg} (C : Cx g RX10 cX10_nudged 3 6 143 0 0) {h : Shp} (H0 : MAt h) {r1 : Int32} {o1 : Mem} (q : QI g (some Jvm.ClassFile.FieldType.int) 0 0 r1 (o1, h)) {I0 : Mem} {t0 : Int32} (hf : fnX10_nudged_61 I0 t0 = some (r1, o1)) : XE g 0 0 (I0, h) 61 [] [.int t0] := by
  unfold fnX10_nudged_61 at hf
  exact xr_ireturn C q rfl rfl dX10_nudged_61 (so_1 hf) (so_w hf)
def fnX10_nudged_36 (I0 : Mem) : Option (Int32 × Mem) :=
  some ((-1000001), I0)
set_option maxRecDepth 20000 in
set_option maxHeartbeats 2000000 in
theorem ebX10_nudged_36 {g : Cfg} (C : Cx g RX10 cX10_nudged 3 6 143 0 0) {h : Shp} (H0 : MAt h) {r1 : Int32} {o1 : Mem} (q : QI g (some Jvm.ClassFile.FieldType.int) 0 0 r1 (o1, h)) {I0 : Mem} (hf : fnX10_nudged_36 I0 = some (r1, o1)) : XE g 0 0 (I0, h) 36 [] [] := by
  unfold fnX10_nudged_36 at hf
  refine xr_ldc C wk_900 dX10_nudged_36 ?_
  exact xr_ireturn C q rfl rfl dX10_nudged_38 (so_1 hf) (so_w hf)
def fnX10_nudged (I0 : Mem) (p1 : Int32) (p2 : Int32) : Option (Int32 × Mem) :=
  ck (inb 0 164) <| if (I0 112 (ix 0)) = 0 then (some ((-1000002), I0)) else (ob (fnX10_in I0 (p1.toInt64) 0 7) fun ⟨r5, I4⟩ => if r5 = 0 then (fnX10_nudged_36 I4) else (ob (fnX10_in I4 (p2.toInt64) 1 20) fun ⟨r9, I8⟩ => if r9 = 0 then (fnX10_nudged_36 I8) else (ck (inb 29 164) <| if (I8 112 (ix 29)) = 1 then (fnX10_nudged_61 I8 (-1000002)) else (ob (fnX10_nudgesFor I8 p1 p2) fun ⟨r15, I14⟩ => fnX10_nudged_61 I14 r15))))
set_option maxRecDepth 20000 in
set_option maxHeartbeats 2000000 in
theorem ebX10_nudged_0 {g : Cfg} (C : Cx g RX10 cX10_nudged 3 6 143 0 0) {h : Shp} (H0 : MAt h) {r1 : Int32} {o1 : Mem} (q : QI g (some Jvm.ClassFile.FieldType.int) 0 0 r1 (o1, h)) {I0 : Mem} {p1 : Int32} {p2 : Int32} (hf : fnX10_nudged I0 p1 p2 = some (r1, o1)) : XE g 0 0 (I0, h) 0 [(0, rf g 111), (1, .int p1), (2, .int p2)] [] := by
  unfold fnX10_nudged at hf
  refine xr_aload_n C dX10_nudged_0 0 rfl rfl ?_
  refine xr_getr C Kd10 (k := 0) (by decide) rfl wk_821 rfl H0.1 H0.2.1.1 dX10_nudged_1 ?_
  refine xr_iconst (v := 0) C dX10_nudged_4 (by decide) ?_
  obtain ⟨i1, hf⟩ := ck_x hf
  refine xr_iald C H0.2.1.2 i1 dX10_nudged_5 ?_
  refine xr_if_ne (tgt := 12) C dX10_nudged_6 (by decide) hf (fun c2 hf => ?_) (fun c2 hf => ?_)
  · refine xr_iload_n C dX10_nudged_12 1 rfl rfl ?_
    refine xr_i2l C dX10_nudged_13 ?_
    refine xr_lconst (v := 0) C dX10_nudged_14 (by decide) ?_
    refine xr_ldc2 C wk_895 dX10_nudged_15 ?_
    obtain ⟨⟨r5, I4⟩, h3, hf⟩ := ob_x hf
    refine xr_callSI C [.long (p1.toInt64), .long 0, .long 7] lkX10_48 (kX10_in h3) rfl (Nat.le_of_ble_eq_true rfl) rfl dX10_nudged_18 ⟨by decide, by decide, by decide⟩ rfl ?_
    refine xr_if_eq (tgt := 36) C dX10_nudged_21 (by decide) hf (fun c6 hf => ?_) (fun c6 hf => ?_)
    · refine xr_lv [] rfl ?_
      exact ebX10_nudged_36 C H0 q hf
    · refine xr_iload_n C dX10_nudged_24 2 rfl rfl ?_
      refine xr_i2l C dX10_nudged_25 ?_
      refine xr_lconst (v := 1) C dX10_nudged_26 (by decide) ?_
      refine xr_ldc2 C wk_1102 dX10_nudged_27 ?_
      obtain ⟨⟨r9, I8⟩, h7, hf⟩ := ob_x hf
      refine xr_callSI C [.long (p2.toInt64), .long 1, .long 20] lkX10_48 (kX10_in h7) rfl (Nat.le_of_ble_eq_true rfl) rfl dX10_nudged_30 ⟨by decide, by decide, by decide⟩ rfl ?_
      refine xr_if_ne (tgt := 39) C dX10_nudged_33 (by decide) hf (fun c10 hf => ?_) (fun c10 hf => ?_)
      · refine xr_aload_n C dX10_nudged_39 0 rfl rfl ?_
        refine xr_getr C Kd10 (k := 0) (by decide) rfl wk_821 rfl H0.1 H0.2.1.1 dX10_nudged_40 ?_
        refine xr_bipush (v := 29) C dX10_nudged_43 (by decide) ?_
        obtain ⟨i11, hf⟩ := ck_x hf
        refine xr_iald C H0.2.1.2 i11 dX10_nudged_45 ?_
        refine xr_iconst (v := 1) C dX10_nudged_46 (by decide) ?_
        refine xr_icmp_ne (tgt := 55) C dX10_nudged_47 (by decide) hf (fun c12 hf => ?_) (fun c12 hf => ?_)
        · refine xr_aload_n C dX10_nudged_55 0 rfl rfl ?_
          refine xr_iload_n C dX10_nudged_56 1 rfl rfl ?_
          refine xr_iload_n C dX10_nudged_57 2 rfl rfl ?_
          obtain ⟨⟨r15, I14⟩, h13, hf⟩ := ob_x hf
          refine xr_callVI C [.int p1, .int p2] lkX10_220 (kX10_nudgesFor H0 h13) Kd10 rfl H0.1 rfl (Nat.le_of_ble_eq_true rfl) rfl dX10_nudged_58 ⟨by decide, by decide, by decide⟩ rfl ?_
          refine xr_lv [] rfl ?_
          exact ebX10_nudged_61 C H0 q hf
        · refine xr_ldc C wk_1011 dX10_nudged_50 ?_
          refine xr_goto (tgt := 61) C dX10_nudged_52 (by decide) ?_
          refine xr_lv [] rfl ?_
          exact ebX10_nudged_61 C H0 q hf
      · refine xr_lv [] rfl ?_
        exact ebX10_nudged_36 C H0 q hf
  · refine xr_ldc C wk_1011 dX10_nudged_9 ?_
    exact xr_ireturn C q rfl rfl dX10_nudged_11 (so_1 hf) (so_w hf)
theorem kX10_nudged {B : Bs} {h : Shp} (H0 : MAt h) {I0 : Mem} {p1 : Int32} {p2 : Int32} {r1 : Int32} {o1 : Mem} (hf : fnX10_nudged I0 p1 p2 = some (r1, o1)) : CtrI B yX10_nudged cX10_nudged 3 (some Jvm.ClassFile.FieldType.int) 6 143 0 0 [rfB B 111, .int p1, .int p2] (I0, h) r1 (o1, h) := by
  refine xr_enterI (lv0 := [(0, rfB B 111), (1, .int p1), (2, .int p2)]) (by decide) (Nat.le_of_ble_eq_true rfl) rfl (fun g hg C q => ?_)
  subst hg
  exact ebX10_nudged_0 C H0 q hf
