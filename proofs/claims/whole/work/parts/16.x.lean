theorem dX9_heard_0 : decode cX9_heard 0 = .ok (.aload_n 0, 1) := by decide +kernel
theorem dX9_heard_1 : decode cX9_heard 1 = .ok (.getfield 67, 3) := by decide +kernel
theorem dX9_heard_4 : decode cX9_heard 4 = .ok (.ifCond .ne 6, 3) := by decide +kernel
theorem dX9_heard_7 : decode cX9_heard 7 = .ok (.ldc 168, 2) := by decide +kernel
theorem dX9_heard_9 : decode cX9_heard 9 = .ok (.ireturn, 1) := by decide +kernel
theorem dX9_heard_10 : decode cX9_heard 10 = .ok (.iload_n 1, 1) := by decide +kernel
theorem dX9_heard_11 : decode cX9_heard 11 = .ok (.invokestatic 79, 3) := by decide +kernel
theorem dX9_heard_14 : decode cX9_heard 14 = .ok (.ifCond .eq 23, 3) := by decide +kernel
theorem dX9_heard_17 : decode cX9_heard 17 = .ok (.iload_n 3, 1) := by decide +kernel
theorem dX9_heard_18 : decode cX9_heard 18 = .ok (.iconst 1, 1) := by decide +kernel
theorem dX9_heard_19 : decode cX9_heard 19 = .ok (.if_icmp .lt 18, 3) := by decide +kernel
theorem dX9_heard_22 : decode cX9_heard 22 = .ok (.iload_n 3, 1) := by decide +kernel
theorem dX9_heard_23 : decode cX9_heard 23 = .ok (.bipush 10, 2) := by decide +kernel
theorem dX9_heard_25 : decode cX9_heard 25 = .ok (.if_icmp .gt 12, 3) := by decide +kernel
theorem dX9_heard_28 : decode cX9_heard 28 = .ok (.iload 4, 2) := by decide +kernel
theorem dX9_heard_30 : decode cX9_heard 30 = .ok (.iconst 1, 1) := by decide +kernel
theorem dX9_heard_31 : decode cX9_heard 31 = .ok (.invokestatic 83, 3) := by decide +kernel
theorem dX9_heard_34 : decode cX9_heard 34 = .ok (.ifCond .ne 6, 3) := by decide +kernel
theorem dX9_heard_37 : decode cX9_heard 37 = .ok (.ldc 87, 2) := by decide +kernel
theorem dX9_heard_39 : decode cX9_heard 39 = .ok (.ireturn, 1) := by decide +kernel
theorem dX9_heard_40 : decode cX9_heard 40 = .ok (.aload_n 0, 1) := by decide +kernel
theorem dX9_heard_41 : decode cX9_heard 41 = .ok (.getfield 10, 3) := by decide +kernel
theorem dX9_heard_44 : decode cX9_heard 44 = .ok (.iload_n 1, 1) := by decide +kernel
theorem dX9_heard_45 : decode cX9_heard 45 = .ok (.invokevirtual 99, 3) := by decide +kernel
theorem dX9_heard_48 : decode cX9_heard 48 = .ok (.ifCond .eq 9, 3) := by decide +kernel
theorem dX9_heard_51 : decode cX9_heard 51 = .ok (.aload_n 0, 1) := by decide +kernel
theorem dX9_heard_52 : decode cX9_heard 52 = .ok (.iconst 1, 1) := by decide +kernel
theorem dX9_heard_53 : decode cX9_heard 53 = .ok (.invokevirtual 88, 3) := by decide +kernel
theorem dX9_heard_56 : decode cX9_heard 56 = .ok (.ireturn, 1) := by decide +kernel
theorem dX9_heard_57 : decode cX9_heard 57 = .ok (.aload_n 0, 1) := by decide +kernel
theorem dX9_heard_58 : decode cX9_heard 58 = .ok (.getfield 10, 3) := by decide +kernel
theorem dX9_heard_61 : decode cX9_heard 61 = .ok (.iload_n 1, 1) := by decide +kernel
theorem dX9_heard_62 : decode cX9_heard 62 = .ok (.iload_n 2, 1) := by decide +kernel
theorem dX9_heard_63 : decode cX9_heard 63 = .ok (.iload_n 3, 1) := by decide +kernel
theorem dX9_heard_64 : decode cX9_heard 64 = .ok (.invokevirtual 102, 3) := by decide +kernel
theorem dX9_heard_67 : decode cX9_heard 67 = .ok (.ifCond .ne 9, 3) := by decide +kernel
theorem dX9_heard_70 : decode cX9_heard 70 = .ok (.aload_n 0, 1) := by decide +kernel
theorem dX9_heard_71 : decode cX9_heard 71 = .ok (.iconst 2, 1) := by decide +kernel
theorem dX9_heard_72 : decode cX9_heard 72 = .ok (.invokevirtual 88, 3) := by decide +kernel
theorem dX9_heard_75 : decode cX9_heard 75 = .ok (.ireturn, 1) := by decide +kernel
theorem dX9_heard_76 : decode cX9_heard 76 = .ok (.aload_n 0, 1) := by decide +kernel
theorem dX9_heard_77 : decode cX9_heard 77 = .ok (.getfield 10, 3) := by decide +kernel
theorem dX9_heard_80 : decode cX9_heard 80 = .ok (.iload_n 1, 1) := by decide +kernel
theorem dX9_heard_81 : decode cX9_heard 81 = .ok (.iload_n 2, 1) := by decide +kernel
theorem dX9_heard_82 : decode cX9_heard 82 = .ok (.iload_n 3, 1) := by decide +kernel
theorem dX9_heard_83 : decode cX9_heard 83 = .ok (.invokevirtual 262, 3) := by decide +kernel
theorem dX9_heard_86 : decode cX9_heard 86 = .ok (.ifCond .ne 6, 3) := by decide +kernel
theorem dX9_heard_89 : decode cX9_heard 89 = .ok (.ldc 87, 2) := by decide +kernel
theorem dX9_heard_91 : decode cX9_heard 91 = .ok (.ireturn, 1) := by decide +kernel
theorem dX9_heard_92 : decode cX9_heard 92 = .ok (.iconst 0, 1) := by decide +kernel
theorem dX9_heard_93 : decode cX9_heard 93 = .ok (.istore 5, 2) := by decide +kernel
theorem dX9_heard_95 : decode cX9_heard 95 = .ok (.ldc 240, 2) := by decide +kernel
theorem dX9_heard_97 : decode cX9_heard 97 = .ok (.istore 6, 2) := by decide +kernel
theorem dX9_heard_99 : decode cX9_heard 99 = .ok (.sipush 167, 3) := by decide +kernel
theorem dX9_heard_102 : decode cX9_heard 102 = .ok (.istore 7, 2) := by decide +kernel
theorem dX9_heard_104 : decode cX9_heard 104 = .ok (.iload 7, 2) := by decide +kernel
theorem dX9_heard_106 : decode cX9_heard 106 = .ok (.ifCond .lt 43, 3) := by decide +kernel
theorem dX9_heard_109 : decode cX9_heard 109 = .ok (.aload_n 0, 1) := by decide +kernel
theorem dX9_heard_110 : decode cX9_heard 110 = .ok (.getfield 26, 3) := by decide +kernel
theorem dX9_heard_113 : decode cX9_heard 113 = .ok (.iload 7, 2) := by decide +kernel
theorem dX9_heard_115 : decode cX9_heard 115 = .ok (.iconst 4, 1) := by decide +kernel
theorem dX9_heard_116 : decode cX9_heard 116 = .ok (.idiv, 1) := by decide +kernel
theorem dX9_heard_117 : decode cX9_heard 117 = .ok (.invokevirtual 198, 3) := by decide +kernel
theorem dX9_heard_120 : decode cX9_heard 120 = .ok (.iconst (-1), 1) := by decide +kernel
theorem dX9_heard_121 : decode cX9_heard 121 = .ok (.if_icmp .ne 22, 3) := by decide +kernel
theorem dX9_heard_124 : decode cX9_heard 124 = .ok (.aload_n 0, 1) := by decide +kernel
theorem dX9_heard_125 : decode cX9_heard 125 = .ok (.iload 7, 2) := by decide +kernel
theorem dX9_heard_127 : decode cX9_heard 127 = .ok (.iload_n 1, 1) := by decide +kernel
theorem dX9_heard_128 : decode cX9_heard 128 = .ok (.iload_n 2, 1) := by decide +kernel
theorem dX9_heard_129 : decode cX9_heard 129 = .ok (.iload_n 3, 1) := by decide +kernel
theorem dX9_heard_130 : decode cX9_heard 130 = .ok (.invokevirtual 265, 3) := by decide +kernel
theorem dX9_heard_133 : decode cX9_heard 133 = .ok (.ifCond .eq 10, 3) := by decide +kernel
theorem dX9_heard_136 : decode cX9_heard 136 = .ok (.iinc 5 1, 3) := by decide +kernel
theorem dX9_heard_139 : decode cX9_heard 139 = .ok (.iload 7, 2) := by decide +kernel
theorem dX9_heard_141 : decode cX9_heard 141 = .ok (.istore 6, 2) := by decide +kernel
theorem dX9_heard_143 : decode cX9_heard 143 = .ok (.iinc 7 (-1), 3) := by decide +kernel
theorem dX9_heard_146 : decode cX9_heard 146 = .ok (.goto (-42), 3) := by decide +kernel
theorem dX9_heard_149 : decode cX9_heard 149 = .ok (.aload_n 0, 1) := by decide +kernel
theorem dX9_heard_150 : decode cX9_heard 150 = .ok (.iload 4, 2) := by decide +kernel
theorem dX9_heard_152 : decode cX9_heard 152 = .ok (.ifCond .ne 8, 3) := by decide +kernel
theorem dX9_heard_155 : decode cX9_heard 155 = .ok (.iload 5, 2) := by decide +kernel
theorem dX9_heard_157 : decode cX9_heard 157 = .ok (.goto 5, 3) := by decide +kernel
theorem dX9_heard_160 : decode cX9_heard 160 = .ok (.iload 6, 2) := by decide +kernel
theorem dX9_heard_162 : decode cX9_heard 162 = .ok (.invokevirtual 96, 3) := by decide +kernel
theorem dX9_heard_165 : decode cX9_heard 165 = .ok (.ireturn, 1) := by decide +kernel
theorem lkX9_262 : LkN "BumperBalls" 262 yX5_tellsLetters cX5_tellsLetters 5 (some Jvm.ClassFile.FieldType.boolean) 3 := ⟨wk_727, wk_2, wk_726, wk_s50, ⟨by decide +kernel, by decide +kernel, by decide +kernel⟩, (List.mem_of_getElem? (i := 70) (by decide +kernel))⟩
theorem lkX9_265 : LkV "BumperBalls" 265 yX9_isHeard cX9_isHeard 7 (some Jvm.ClassFile.FieldType.boolean) 4 := ⟨wk_732, wk_1, wk_731, wk_s51, ⟨by decide +kernel, by decide +kernel, by decide +kernel⟩, wk_729⟩
/-! BumperBalls.heard(IIII)I -/
def fnX9_heard_162 (I0 : Mem) (t1 : Int32) : Option (Int32 × Mem) :=
  ob (fnX9_plain I0 t1) fun ⟨r3, I2⟩ => some (r3, I2)
set_option maxRecDepth 20000 in
set_option maxHeartbeats 2000000 in
theorem ebX9_heard_162 {g : Cfg} (C : Cx g RX9 cX9_heard 8 5 112 0 0) {h : Shp} (H0 : XAt h) {r1 : Int32} {o1 : Mem} (q : QI g (some Jvm.ClassFile.FieldType.int) 0 0 r1 (o1, h)) {I0 : Mem} {t1 : Int32} (hf : fnX9_heard_162 I0 t1 = some (r1, o1)) : XE g 0 0 (I0, h) 162 [] [.int t1, rf g 0] := by
  unfold fnX9_heard_162 at hf
  obtain ⟨⟨r3, I2⟩, h1, hf⟩ := ob_x hf
  refine xr_callVI C [.int t1] lkX9_96 (kX9_plain H0 h1) Kd9 rfl H0.1 rfl (Nat.le_of_ble_eq_true rfl) rfl dX9_heard_162 ⟨by decide, by decide, by decide⟩ rfl ?_
  exact xr_ireturn C q rfl rfl dX9_heard_165 (so_1 hf) (so_w hf)
def fnX9_heard_143 (rec104 : Mem → Int32 → Int32 → Int32 → Int32 → Int32 → Int32 → Int32 → Option (Int32 × Mem)) (I0 : Mem) (l1 : Int32) (l2 : Int32) (l3 : Int32) (l4 : Int32) (l5 : Int32) (l6 : Int32) (l7 : Int32) : Option (Int32 × Mem) :=
  bnd (l7 + (-1)) fun v1 => rec104 I0 l1 l2 l3 l4 l5 l6 v1
set_option maxRecDepth 20000 in
set_option maxHeartbeats 2000000 in
theorem ebX9_heard_143 {g : Cfg} (C : Cx g RX9 cX9_heard 8 5 112 0 0) {h : Shp} (H0 : XAt h) {r1 : Int32} {o1 : Mem} {rec104 : Mem → Int32 → Int32 → Int32 → Int32 → Int32 → Int32 → Int32 → Option (Int32 × Mem)} (ih104 : ∀ (I0 : Mem) (l1 : Int32) (l2 : Int32) (l3 : Int32) (l4 : Int32) (l5 : Int32) (l6 : Int32) (l7 : Int32), rec104 I0 l1 l2 l3 l4 l5 l6 l7 = some (r1, o1) → XE g 0 0 (I0, h) 104 [(0, rf g 0), (1, .int l1), (2, .int l2), (3, .int l3), (4, .int l4), (5, .int l5), (6, .int l6), (7, .int l7)] []) (q : QI g (some Jvm.ClassFile.FieldType.int) 0 0 r1 (o1, h)) {I0 : Mem} {l1 : Int32} {l2 : Int32} {l3 : Int32} {l4 : Int32} {l5 : Int32} {l6 : Int32} {l7 : Int32} (hf : fnX9_heard_143 rec104 I0 l1 l2 l3 l4 l5 l6 l7 = some (r1, o1)) : XE g 0 0 (I0, h) 143 [(0, rf g 0), (1, .int l1), (2, .int l2), (3, .int l3), (4, .int l4), (5, .int l5), (6, .int l6), (7, .int l7)] [] := by
  unfold fnX9_heard_143 at hf
  obtain ⟨v1, ev1, hf⟩ := bnd_x hf
  refine xr_iinc (k := 7) (v := v1) C dX9_heard_143 rfl (by rw [ev1]; rfl) (by decide) rfl ?_
  refine xr_goto (tgt := 104) C dX9_heard_146 (by decide) ?_
  refine xr_lv [1, 2, 3, 4, 5, 6, 7, 0] rfl ?_
  exact ih104 _ _ _ _ _ _ _ _ hf
def fnX9_heard_104b (rec104 : Mem → Int32 → Int32 → Int32 → Int32 → Int32 → Int32 → Int32 → Option (Int32 × Mem)) (I0 : Mem) (l1 : Int32) (l2 : Int32) (l3 : Int32) (l4 : Int32) (l5 : Int32) (l6 : Int32) (l7 : Int32) : Option (Int32 × Mem) :=
  if l7 < 0 then (if l4 = 0 then (fnX9_heard_162 I0 l5) else (fnX9_heard_162 I0 l6)) else (ob (fnX7_pinIn 21 I0 (l7 / 4)) fun ⟨r5, I4⟩ => if r5 = (-1) then (ob (fnX9_isHeard I4 l7 l1 l2 l3) fun ⟨r9, I8⟩ => if r9 = 0 then (fnX9_heard_143 rec104 I8 l1 l2 l3 l4 l5 l6 l7) else (bnd (l5 + 1) fun v11 => fnX9_heard_143 rec104 I8 l1 l2 l3 l4 v11 l7 l7)) else (fnX9_heard_143 rec104 I4 l1 l2 l3 l4 l5 l6 l7))
def fnX9_heard_104 : Nat → Mem → Int32 → Int32 → Int32 → Int32 → Int32 → Int32 → Int32 → Option (Int32 × Mem)
  | 0 => fun _ _ _ _ _ _ _ _ => none
  | fu + 1 => fnX9_heard_104b (fnX9_heard_104 fu)
set_option maxRecDepth 20000 in
set_option maxHeartbeats 2000000 in
theorem ebX9_heard_104b {g : Cfg} (C : Cx g RX9 cX9_heard 8 5 112 0 0) {h : Shp} (H0 : XAt h) {r1 : Int32} {o1 : Mem} {rec104 : Mem → Int32 → Int32 → Int32 → Int32 → Int32 → Int32 → Int32 → Option (Int32 × Mem)} (q : QI g (some Jvm.ClassFile.FieldType.int) 0 0 r1 (o1, h)) (ih104 : ∀ (I0 : Mem) (l1 : Int32) (l2 : Int32) (l3 : Int32) (l4 : Int32) (l5 : Int32) (l6 : Int32) (l7 : Int32), rec104 I0 l1 l2 l3 l4 l5 l6 l7 = some (r1, o1) → XE g 0 0 (I0, h) 104 [(0, rf g 0), (1, .int l1), (2, .int l2), (3, .int l3), (4, .int l4), (5, .int l5), (6, .int l6), (7, .int l7)] []) {I0 : Mem} {l1 : Int32} {l2 : Int32} {l3 : Int32} {l4 : Int32} {l5 : Int32} {l6 : Int32} {l7 : Int32} (hf : fnX9_heard_104b rec104 I0 l1 l2 l3 l4 l5 l6 l7 = some (r1, o1)) : XE g 0 0 (I0, h) 104 [(0, rf g 0), (1, .int l1), (2, .int l2), (3, .int l3), (4, .int l4), (5, .int l5), (6, .int l6), (7, .int l7)] [] := by
  unfold fnX9_heard_104b at hf
  refine xr_iload C dX9_heard_104 7 rfl ?_
  refine xr_if_lt (tgt := 149) C dX9_heard_106 (by decide) hf (fun c1 hf => ?_) (fun c1 hf => ?_)
  · refine xr_aload_n C dX9_heard_149 0 rfl rfl ?_
    refine xr_iload C dX9_heard_150 4 rfl ?_
    refine xr_if_ne (tgt := 160) C dX9_heard_152 (by decide) hf (fun c2 hf => ?_) (fun c2 hf => ?_)
    · refine xr_iload C dX9_heard_160 6 rfl ?_
      refine xr_lv [] rfl ?_
      exact ebX9_heard_162 C H0 q hf
    · refine xr_iload C dX9_heard_155 5 rfl ?_
      refine xr_goto (tgt := 162) C dX9_heard_157 (by decide) ?_
      refine xr_lv [] rfl ?_
      exact ebX9_heard_162 C H0 q hf
  · refine xr_aload_n C dX9_heard_109 0 rfl rfl ?_
    refine xr_getr C Kd9 (k := 2) (by decide) rfl wk_307 rfl H0.1 H0.2.2.2.1.1 dX9_heard_110 ?_
    refine xr_iload C dX9_heard_113 7 rfl ?_
    refine xr_iconst (v := 4) C dX9_heard_115 (by decide) ?_
    refine xr_idiv C dX9_heard_116 (by decide) ?_
    obtain ⟨⟨r5, I4⟩, h3, hf⟩ := ob_x hf
    refine xr_callNI C [.int (l7 / 4)] lkX9_198 (kX7_pinIn H0.2.2.2.1.2 h3) Kd7 rfl H0.2.2.2.1.2.1 rfl (Nat.le_of_ble_eq_true rfl) rfl dX9_heard_117 ⟨by decide, by decide, by decide⟩ rfl ?_
    refine xr_iconst (v := (-1)) C dX9_heard_120 (by decide) ?_
    refine xr_icmp_ne (tgt := 143) C dX9_heard_121 (by decide) hf (fun c6 hf => ?_) (fun c6 hf => ?_)
    · exact ebX9_heard_143 C H0 ih104 q hf
    · refine xr_aload_n C dX9_heard_124 0 rfl rfl ?_
      refine xr_iload C dX9_heard_125 7 rfl ?_
      refine xr_iload_n C dX9_heard_127 1 rfl rfl ?_
      refine xr_iload_n C dX9_heard_128 2 rfl rfl ?_
      refine xr_iload_n C dX9_heard_129 3 rfl rfl ?_
      obtain ⟨⟨r9, I8⟩, h7, hf⟩ := ob_x hf
      refine xr_callVI C [.int l7, .int l1, .int l2, .int l3] lkX9_265 (kX9_isHeard H0 h7) Kd9 rfl H0.1 rfl (Nat.le_of_ble_eq_true rfl) rfl dX9_heard_130 ⟨by decide, by decide, by decide⟩ rfl ?_
      refine xr_if_eq (tgt := 143) C dX9_heard_133 (by decide) hf (fun c10 hf => ?_) (fun c10 hf => ?_)
      · exact ebX9_heard_143 C H0 ih104 q hf
      · obtain ⟨v11, ev11, hf⟩ := bnd_x hf
        refine xr_iinc (k := 5) (v := v11) C dX9_heard_136 rfl (by rw [ev11]; rfl) (by decide) rfl ?_
        refine xr_iload C dX9_heard_139 7 rfl ?_
        refine xr_istore C dX9_heard_141 (by decide) rfl ?_
        refine xr_lv [2, 3, 4, 5, 6, 1, 0, 7] rfl ?_
        exact ebX9_heard_143 C H0 ih104 q hf
theorem ebX9_heard_104 {g : Cfg} (C : Cx g RX9 cX9_heard 8 5 112 0 0) {h : Shp} (H0 : XAt h) {r1 : Int32} {o1 : Mem} (q : QI g (some Jvm.ClassFile.FieldType.int) 0 0 r1 (o1, h)) : ∀ (fu : Nat) {I0 : Mem} {l1 : Int32} {l2 : Int32} {l3 : Int32} {l4 : Int32} {l5 : Int32} {l6 : Int32} {l7 : Int32} (hf : fnX9_heard_104 fu I0 l1 l2 l3 l4 l5 l6 l7 = some (r1, o1)), XE g 0 0 (I0, h) 104 [(0, rf g 0), (1, .int l1), (2, .int l2), (3, .int l3), (4, .int l4), (5, .int l5), (6, .int l6), (7, .int l7)] [] := by
  intro fu
  induction fu with
  | zero =>
    intro I0 l1 l2 l3 l4 l5 l6 l7 hf
    cases hf
  | succ fu ihn =>
    intro I0 l1 l2 l3 l4 l5 l6 l7 hf
    exact ebX9_heard_104b C H0 q (fun _ _ _ _ _ _ _ _ hf => ihn hf) hf
def fnX9_heard_37 (I0 : Mem) : Option (Int32 × Mem) :=
  some ((-1000001), I0)
set_option maxRecDepth 20000 in
set_option maxHeartbeats 2000000 in
theorem ebX9_heard_37 {g : Cfg} (C : Cx g RX9 cX9_heard 8 5 112 0 0) {h : Shp} (H0 : XAt h) {r1 : Int32} {o1 : Mem} (q : QI g (some Jvm.ClassFile.FieldType.int) 0 0 r1 (o1, h)) {I0 : Mem} (hf : fnX9_heard_37 I0 = some (r1, o1)) : XE g 0 0 (I0, h) 37 [] [] := by
  unfold fnX9_heard_37 at hf
  refine xr_ldc C wk_352 dX9_heard_37 ?_
  exact xr_ireturn C q rfl rfl dX9_heard_39 (so_1 hf) (so_w hf)
def fnX9_heard (I0 : Mem) (p1 : Int32) (p2 : Int32) (p3 : Int32) (p4 : Int32) : Option (Int32 × Mem) :=
  if (I0 0 9) = 0 then (some ((-1000002), I0)) else (ob (fnX9_isRow I0 p1) fun ⟨r4, I3⟩ => if r4 = 0 then (fnX9_heard_37 I3) else (if p3 < 1 then (fnX9_heard_37 I3) else (if 10 < p3 then (fnX9_heard_37 I3) else (ob (fnX9_isUpTo I3 p4 1) fun ⟨r10, I9⟩ => if r10 = 0 then (fnX9_heard_37 I9) else (ob (fnX5_isMissing I9 p1) fun ⟨r14, I13⟩ => if r14 = 0 then (ob (fnX5_hasPlaces I13 p1 p2 p3) fun ⟨r18, I17⟩ => if r18 = 0 then (ob (fnX9_found I17 2) fun ⟨r26, I25⟩ => some (r26, I25)) else (ob (fnX5_tellsLetters I17 p1 p2 p3) fun ⟨r22, I21⟩ => if r22 = 0 then (some ((-1000001), I21)) else (fnX9_heard_104 FU I21 p1 p2 p3 p4 0 (-1000000) 167))) else (ob (fnX9_found I13 1) fun ⟨r29, I28⟩ => some (r29, I28)))))))
set_option maxRecDepth 20000 in
set_option maxHeartbeats 2000000 in
theorem ebX9_heard_0 {g : Cfg} (C : Cx g RX9 cX9_heard 8 5 112 0 0) {h : Shp} (H0 : XAt h) {r1 : Int32} {o1 : Mem} (q : QI g (some Jvm.ClassFile.FieldType.int) 0 0 r1 (o1, h)) {I0 : Mem} {p1 : Int32} {p2 : Int32} {p3 : Int32} {p4 : Int32} (hf : fnX9_heard I0 p1 p2 p3 p4 = some (r1, o1)) : XE g 0 0 (I0, h) 0 [(0, rf g 0), (1, .int p1), (2, .int p2), (3, .int p3), (4, .int p4)] [] := by
  unfold fnX9_heard at hf
  refine xr_aload_n C dX9_heard_0 0 rfl rfl ?_
  refine xr_geti C Kd9 (k := 9) (by decide) rfl wk_314 rfl H0.1 dX9_heard_1 ?_
  refine xr_if_ne (tgt := 10) C dX9_heard_4 (by decide) hf (fun c1 hf => ?_) (fun c1 hf => ?_)
  · refine xr_iload_n C dX9_heard_10 1 rfl rfl ?_
    obtain ⟨⟨r4, I3⟩, h2, hf⟩ := ob_x hf
    refine xr_callSI C [.int p1] lkX9_79 (kX9_isRow h2) rfl (Nat.le_of_ble_eq_true rfl) rfl dX9_heard_11 ⟨by decide, by decide, by decide⟩ rfl ?_
    refine xr_if_eq (tgt := 37) C dX9_heard_14 (by decide) hf (fun c5 hf => ?_) (fun c5 hf => ?_)
    · refine xr_lv [] rfl ?_
      exact ebX9_heard_37 C H0 q hf
    · refine xr_iload_n C dX9_heard_17 3 rfl rfl ?_
      refine xr_iconst (v := 1) C dX9_heard_18 (by decide) ?_
      refine xr_icmp_lt (tgt := 37) C dX9_heard_19 (by decide) hf (fun c6 hf => ?_) (fun c6 hf => ?_)
      · refine xr_lv [] rfl ?_
        exact ebX9_heard_37 C H0 q hf
      · refine xr_iload_n C dX9_heard_22 3 rfl rfl ?_
        refine xr_bipush (v := 10) C dX9_heard_23 (by decide) ?_
        refine xr_icmp_gt (tgt := 37) C dX9_heard_25 (by decide) hf (fun c7 hf => ?_) (fun c7 hf => ?_)
        · refine xr_lv [] rfl ?_
          exact ebX9_heard_37 C H0 q hf
        · refine xr_iload C dX9_heard_28 4 rfl ?_
          refine xr_iconst (v := 1) C dX9_heard_30 (by decide) ?_
          obtain ⟨⟨r10, I9⟩, h8, hf⟩ := ob_x hf
          refine xr_callSI C [.int p4, .int 1] lkX9_83 (kX9_isUpTo h8) rfl (Nat.le_of_ble_eq_true rfl) rfl dX9_heard_31 ⟨by decide, by decide, by decide⟩ rfl ?_
          refine xr_if_ne (tgt := 40) C dX9_heard_34 (by decide) hf (fun c11 hf => ?_) (fun c11 hf => ?_)
          · refine xr_aload_n C dX9_heard_40 0 rfl rfl ?_
            refine xr_getr C Kd9 (k := 0) (by decide) rfl wk_305 rfl H0.1 H0.2.1.1 dX9_heard_41 ?_
            refine xr_iload_n C dX9_heard_44 1 rfl rfl ?_
            obtain ⟨⟨r14, I13⟩, h12, hf⟩ := ob_x hf
            refine xr_callNI C [.int p1] lkX9_99 (kX5_isMissing H0.2.1.2 h12) Kd5 rfl H0.2.1.2.1 rfl (Nat.le_of_ble_eq_true rfl) rfl dX9_heard_45 ⟨by decide, by decide, by decide⟩ rfl ?_
            refine xr_if_eq (tgt := 57) C dX9_heard_48 (by decide) hf (fun c15 hf => ?_) (fun c15 hf => ?_)
            · refine xr_aload_n C dX9_heard_57 0 rfl rfl ?_
              refine xr_getr C Kd9 (k := 0) (by decide) rfl wk_305 rfl H0.1 H0.2.1.1 dX9_heard_58 ?_
              refine xr_iload_n C dX9_heard_61 1 rfl rfl ?_
              refine xr_iload_n C dX9_heard_62 2 rfl rfl ?_
              refine xr_iload_n C dX9_heard_63 3 rfl rfl ?_
              obtain ⟨⟨r18, I17⟩, h16, hf⟩ := ob_x hf
              refine xr_callNI C [.int p1, .int p2, .int p3] lkX9_102 (kX5_hasPlaces H0.2.1.2 h16) Kd5 rfl H0.2.1.2.1 rfl (Nat.le_of_ble_eq_true rfl) rfl dX9_heard_64 ⟨by decide, by decide, by decide⟩ rfl ?_
              refine xr_if_ne (tgt := 76) C dX9_heard_67 (by decide) hf (fun c19 hf => ?_) (fun c19 hf => ?_)
              · refine xr_aload_n C dX9_heard_76 0 rfl rfl ?_
                refine xr_getr C Kd9 (k := 0) (by decide) rfl wk_305 rfl H0.1 H0.2.1.1 dX9_heard_77 ?_
                refine xr_iload_n C dX9_heard_80 1 rfl rfl ?_
                refine xr_iload_n C dX9_heard_81 2 rfl rfl ?_
                refine xr_iload_n C dX9_heard_82 3 rfl rfl ?_
                obtain ⟨⟨r22, I21⟩, h20, hf⟩ := ob_x hf
                refine xr_callNI C [.int p1, .int p2, .int p3] lkX9_262 (kX5_tellsLetters H0.2.1.2 h20) Kd5 rfl H0.2.1.2.1 rfl (Nat.le_of_ble_eq_true rfl) rfl dX9_heard_83 ⟨by decide, by decide, by decide⟩ rfl ?_
                refine xr_if_ne (tgt := 92) C dX9_heard_86 (by decide) hf (fun c23 hf => ?_) (fun c23 hf => ?_)
                · refine xr_iconst (v := 0) C dX9_heard_92 (by decide) ?_
                  refine xr_istore C dX9_heard_93 (by decide) rfl ?_
                  refine xr_ldc C wk_652 dX9_heard_95 ?_
                  refine xr_istore C dX9_heard_97 (by decide) rfl ?_
                  refine xr_sipush (v := 167) C dX9_heard_99 (by decide) ?_
                  refine xr_istore C dX9_heard_102 (by decide) rfl ?_
                  refine xr_lv [3, 4, 5, 6, 7, 2, 1, 0] rfl ?_
                  exact ebX9_heard_104 C H0 q _ hf
                · refine xr_ldc C wk_352 dX9_heard_89 ?_
                  exact xr_ireturn C q rfl rfl dX9_heard_91 (so_1 hf) (so_w hf)
              · refine xr_aload_n C dX9_heard_70 0 rfl rfl ?_
                refine xr_iconst (v := 2) C dX9_heard_71 (by decide) ?_
                obtain ⟨⟨r26, I25⟩, h24, hf⟩ := ob_x hf
                refine xr_callVI C [.int 2] lkX9_88 (kX9_found H0 h24) Kd9 rfl H0.1 rfl (Nat.le_of_ble_eq_true rfl) rfl dX9_heard_72 ⟨by decide, by decide, by decide⟩ rfl ?_
                exact xr_ireturn C q rfl rfl dX9_heard_75 (so_1 hf) (so_w hf)
            · refine xr_aload_n C dX9_heard_51 0 rfl rfl ?_
              refine xr_iconst (v := 1) C dX9_heard_52 (by decide) ?_
              obtain ⟨⟨r29, I28⟩, h27, hf⟩ := ob_x hf
              refine xr_callVI C [.int 1] lkX9_88 (kX9_found H0 h27) Kd9 rfl H0.1 rfl (Nat.le_of_ble_eq_true rfl) rfl dX9_heard_53 ⟨by decide, by decide, by decide⟩ rfl ?_
              exact xr_ireturn C q rfl rfl dX9_heard_56 (so_1 hf) (so_w hf)
          · refine xr_lv [] rfl ?_
            exact ebX9_heard_37 C H0 q hf
  · refine xr_ldc C wk_564 dX9_heard_7 ?_
    exact xr_ireturn C q rfl rfl dX9_heard_9 (so_1 hf) (so_w hf)
theorem kX9_heard {B : Bs} {h : Shp} (H0 : XAt h) {I0 : Mem} {p1 : Int32} {p2 : Int32} {p3 : Int32} {p4 : Int32} {r1 : Int32} {o1 : Mem} (hf : fnX9_heard I0 p1 p2 p3 p4 = some (r1, o1)) : CtrI B yX9_heard cX9_heard 8 (some Jvm.ClassFile.FieldType.int) 5 112 0 0 [rfB B 0, .int p1, .int p2, .int p3, .int p4] (I0, h) r1 (o1, h) := by
  refine xr_enterI (lv0 := [(0, rfB B 0), (1, .int p1), (2, .int p2), (3, .int p3), (4, .int p4)]) (by decide) (Nat.le_of_ble_eq_true rfl) rfl (fun g hg C q => ?_)
  subst hg
  exact ebX9_heard_0 C H0 q hf
theorem dX9_image_0 : decode cX9_image 0 = .ok (.iload_n 1, 1) := by decide +kernel
theorem dX9_image_1 : decode cX9_image 1 = .ok (.iconst 1, 1) := by decide +kernel
theorem dX9_image_2 : decode cX9_image 2 = .ok (.invokestatic 83, 3) := by decide +kernel
theorem dX9_image_5 : decode cX9_image 5 = .ok (.ifCond .ne 6, 3) := by decide +kernel
theorem dX9_image_8 : decode cX9_image 8 = .ok (.ldc 87, 2) := by decide +kernel
theorem dX9_image_10 : decode cX9_image 10 = .ok (.ireturn, 1) := by decide +kernel
theorem dX9_image_11 : decode cX9_image 11 = .ok (.aload_n 0, 1) := by decide +kernel
theorem dX9_image_12 : decode cX9_image 12 = .ok (.getfield 67, 3) := by decide +kernel
theorem dX9_image_15 : decode cX9_image 15 = .ok (.ifCond .ne 6, 3) := by decide +kernel
theorem dX9_image_18 : decode cX9_image 18 = .ok (.ldc 168, 2) := by decide +kernel
theorem dX9_image_20 : decode cX9_image 20 = .ok (.ireturn, 1) := by decide +kernel
theorem dX9_image_21 : decode cX9_image 21 = .ok (.aload_n 0, 1) := by decide +kernel
theorem dX9_image_22 : decode cX9_image 22 = .ok (.getfield 46, 3) := by decide +kernel
theorem dX9_image_25 : decode cX9_image 25 = .ok (.iload_n 1, 1) := by decide +kernel
theorem dX9_image_26 : decode cX9_image 26 = .ok (.aaload, 1) := by decide +kernel
theorem dX9_image_27 : decode cX9_image 27 = .ok (.aload_n 0, 1) := by decide +kernel
theorem dX9_image_28 : decode cX9_image 28 = .ok (.getfield 26, 3) := by decide +kernel
theorem dX9_image_31 : decode cX9_image 31 = .ok (.aload_n 0, 1) := by decide +kernel
theorem dX9_image_32 : decode cX9_image 32 = .ok (.getfield 33, 3) := by decide +kernel
theorem dX9_image_35 : decode cX9_image 35 = .ok (.invokevirtual 269, 3) := by decide +kernel
theorem dX9_image_38 : decode cX9_image 38 = .ok (.iconst 1, 1) := by decide +kernel
theorem dX9_image_39 : decode cX9_image 39 = .ok (.ireturn, 1) := by decide +kernel
theorem lkX9_269 : LkN "BumperBalls" 269 yX2_keep cX2_keep 3 none 2 := ⟨wk_740, wk_10, wk_739, wk_s52, ⟨by decide +kernel, by decide +kernel, by decide +kernel⟩, (List.mem_of_getElem? (i := 71) (by decide +kernel))⟩
/-! BumperBalls.image(I)I -/
def fnX9_image (I0 : Mem) (p1 : Int32) : Option (Int32 × Mem) :=
  ob (fnX9_isUpTo I0 p1 1) fun ⟨r3, I2⟩ => if r3 = 0 then (some ((-1000001), I2)) else (if (I2 0 9) = 0 then (some ((-1000002), I2)) else (ck (inb p1 2) <| ob (fnX2_keep (93 + 9 * ix p1) 21 27 I2) fun I8 => some (1, I8)))
set_option maxRecDepth 20000 in
set_option maxHeartbeats 2000000 in
theorem ebX9_image_0 {g : Cfg} (C : Cx g RX9 cX9_image 2 3 82 0 0) {h : Shp} (H0 : XAt h) {r1 : Int32} {o1 : Mem} (q : QI g (some Jvm.ClassFile.FieldType.int) 0 0 r1 (o1, h)) {I0 : Mem} {p1 : Int32} (hf : fnX9_image I0 p1 = some (r1, o1)) : XE g 0 0 (I0, h) 0 [(0, rf g 0), (1, .int p1)] [] := by
  unfold fnX9_image at hf
  refine xr_iload_n C dX9_image_0 1 rfl rfl ?_
  refine xr_iconst (v := 1) C dX9_image_1 (by decide) ?_
  obtain ⟨⟨r3, I2⟩, h1, hf⟩ := ob_x hf
  refine xr_callSI C [.int p1, .int 1] lkX9_83 (kX9_isUpTo h1) rfl (Nat.le_of_ble_eq_true rfl) rfl dX9_image_2 ⟨by decide, by decide, by decide⟩ rfl ?_
  refine xr_if_ne (tgt := 11) C dX9_image_5 (by decide) hf (fun c4 hf => ?_) (fun c4 hf => ?_)
  · refine xr_aload_n C dX9_image_11 0 rfl rfl ?_
    refine xr_geti C Kd9 (k := 9) (by decide) rfl wk_314 rfl H0.1 dX9_image_12 ?_
    refine xr_if_ne (tgt := 21) C dX9_image_15 (by decide) hf (fun c5 hf => ?_) (fun c5 hf => ?_)
    · refine xr_aload_n C dX9_image_21 0 rfl rfl ?_
      refine xr_getr C Kd9 (k := 5) (by decide) rfl wk_310 rfl H0.1 H0.2.2.2.2.2.2.1.1 dX9_image_22 ?_
      refine xr_iload_n C dX9_image_25 1 rfl rfl ?_
      obtain ⟨i6, hf⟩ := ck_x hf
      refine xr_aald C (kd := 12) (by decide) H0.2.2.2.2.2.2.1.2.1 i6 (H0.2.2.2.2.2.2.1.2.2 (ix p1) (inb_lt i6)).1 dX9_image_26 ?_
      refine xr_aload_n C dX9_image_27 0 rfl rfl ?_
      refine xr_getr C Kd9 (k := 2) (by decide) rfl wk_307 rfl H0.1 H0.2.2.2.1.1 dX9_image_28 ?_
      refine xr_aload_n C dX9_image_31 0 rfl rfl ?_
      refine xr_getr C Kd9 (k := 3) (by decide) rfl wk_308 rfl H0.1 H0.2.2.2.2.1.1 dX9_image_32 ?_
      obtain ⟨I8, h7, hf⟩ := ob_x hf
      refine xr_callNV C [rf g 21, rf g 27] lkX9_269 (kX2_keep (H0.2.2.2.2.2.2.1.2.2 (ix p1) (inb_lt i6)).2 H0.2.2.2.1.2 H0.2.2.2.2.1.2 h7) Kd2 rfl (H0.2.2.2.2.2.2.1.2.2 (ix p1) (inb_lt i6)).2.1 rfl (Nat.le_of_ble_eq_true rfl) rfl dX9_image_35 ⟨by decide, by decide, by decide⟩ rfl ?_
      refine xr_iconst (v := 1) C dX9_image_38 (by decide) ?_
      exact xr_ireturn C q rfl rfl dX9_image_39 (so_1 hf) (so_w hf)
    · refine xr_ldc C wk_564 dX9_image_18 ?_
      exact xr_ireturn C q rfl rfl dX9_image_20 (so_1 hf) (so_w hf)
  · refine xr_ldc C wk_352 dX9_image_8 ?_
    exact xr_ireturn C q rfl rfl dX9_image_10 (so_1 hf) (so_w hf)
theorem kX9_image {B : Bs} {h : Shp} (H0 : XAt h) {I0 : Mem} {p1 : Int32} {r1 : Int32} {o1 : Mem} (hf : fnX9_image I0 p1 = some (r1, o1)) : CtrI B yX9_image cX9_image 2 (some Jvm.ClassFile.FieldType.int) 3 82 0 0 [rfB B 0, .int p1] (I0, h) r1 (o1, h) := by
  refine xr_enterI (lv0 := [(0, rfB B 0), (1, .int p1)]) (by decide) (Nat.le_of_ble_eq_true rfl) rfl (fun g hg C q => ?_)
  subst hg
  exact ebX9_image_0 C H0 q hf
theorem dX9_restore_0 : decode cX9_restore 0 = .ok (.iload_n 1, 1) := by decide +kernel
theorem dX9_restore_1 : decode cX9_restore 1 = .ok (.iconst 1, 1) := by decide +kernel
theorem dX9_restore_2 : decode cX9_restore 2 = .ok (.invokestatic 83, 3) := by decide +kernel
theorem dX9_restore_5 : decode cX9_restore 5 = .ok (.ifCond .ne 6, 3) := by decide +kernel
theorem dX9_restore_8 : decode cX9_restore 8 = .ok (.ldc 87, 2) := by decide +kernel
theorem dX9_restore_10 : decode cX9_restore 10 = .ok (.ireturn, 1) := by decide +kernel
theorem dX9_restore_11 : decode cX9_restore 11 = .ok (.aload_n 0, 1) := by decide +kernel
theorem dX9_restore_12 : decode cX9_restore 12 = .ok (.getfield 46, 3) := by decide +kernel
theorem dX9_restore_15 : decode cX9_restore 15 = .ok (.iload_n 1, 1) := by decide +kernel
theorem dX9_restore_16 : decode cX9_restore 16 = .ok (.aaload, 1) := by decide +kernel
theorem dX9_restore_17 : decode cX9_restore 17 = .ok (.getfield 272, 3) := by decide +kernel
theorem dX9_restore_20 : decode cX9_restore 20 = .ok (.ifCond .ne 6, 3) := by decide +kernel
theorem dX9_restore_23 : decode cX9_restore 23 = .ok (.ldc 168, 2) := by decide +kernel
theorem dX9_restore_25 : decode cX9_restore 25 = .ok (.ireturn, 1) := by decide +kernel
theorem dX9_restore_26 : decode cX9_restore 26 = .ok (.aload_n 0, 1) := by decide +kernel
theorem dX9_restore_27 : decode cX9_restore 27 = .ok (.getfield 26, 3) := by decide +kernel
theorem dX9_restore_30 : decode cX9_restore 30 = .ok (.aload_n 0, 1) := by decide +kernel
theorem dX9_restore_31 : decode cX9_restore 31 = .ok (.getfield 46, 3) := by decide +kernel
theorem dX9_restore_34 : decode cX9_restore 34 = .ok (.iload_n 1, 1) := by decide +kernel
theorem dX9_restore_35 : decode cX9_restore 35 = .ok (.aaload, 1) := by decide +kernel
theorem dX9_restore_36 : decode cX9_restore 36 = .ok (.getfield 275, 3) := by decide +kernel
theorem dX9_restore_39 : decode cX9_restore 39 = .ok (.invokevirtual 148, 3) := by decide +kernel
theorem dX9_restore_42 : decode cX9_restore 42 = .ok (.aload_n 0, 1) := by decide +kernel
theorem dX9_restore_43 : decode cX9_restore 43 = .ok (.getfield 33, 3) := by decide +kernel
theorem dX9_restore_46 : decode cX9_restore 46 = .ok (.aload_n 0, 1) := by decide +kernel
theorem dX9_restore_47 : decode cX9_restore 47 = .ok (.getfield 46, 3) := by decide +kernel
theorem dX9_restore_50 : decode cX9_restore 50 = .ok (.iload_n 1, 1) := by decide +kernel
theorem dX9_restore_51 : decode cX9_restore 51 = .ok (.aaload, 1) := by decide +kernel
theorem dX9_restore_52 : decode cX9_restore 52 = .ok (.getfield 276, 3) := by decide +kernel
theorem dX9_restore_55 : decode cX9_restore 55 = .ok (.invokevirtual 234, 3) := by decide +kernel
theorem dX9_restore_58 : decode cX9_restore 58 = .ok (.aload_n 0, 1) := by decide +kernel
theorem dX9_restore_59 : decode cX9_restore 59 = .ok (.getfield 40, 3) := by decide +kernel
theorem dX9_restore_62 : decode cX9_restore 62 = .ok (.invokevirtual 162, 3) := by decide +kernel
theorem dX9_restore_65 : decode cX9_restore 65 = .ok (.iconst 1, 1) := by decide +kernel
theorem dX9_restore_66 : decode cX9_restore 66 = .ok (.ireturn, 1) := by decide +kernel
/-! BumperBalls.restore(I)I -/
def fnX9_restore (I0 : Mem) (p1 : Int32) : Option (Int32 × Mem) :=
  ob (fnX9_isUpTo I0 p1 1) fun ⟨r3, I2⟩ => if r3 = 0 then (some ((-1000001), I2)) else (ck (inb p1 2) <| if (I2 (93 + 9 * ix p1) 2) = 0 then (some ((-1000002), I2)) else (ck (inb p1 2) <| ob (fnX7_become 21 ((93 + 9 * ix p1) + 1) I2) fun I9 => ck (inb p1 2) <| ob (fnX4_become 27 ((93 + 9 * ix p1) + 7) I9) fun I12 => ob (fnX0_forget I12) fun I14 => some (1, I14)))
set_option maxRecDepth 20000 in
set_option maxHeartbeats 2000000 in
theorem ebX9_restore_0 {g : Cfg} (C : Cx g RX9 cX9_restore 2 2 60 0 0) {h : Shp} (H0 : XAt h) {r1 : Int32} {o1 : Mem} (q : QI g (some Jvm.ClassFile.FieldType.int) 0 0 r1 (o1, h)) {I0 : Mem} {p1 : Int32} (hf : fnX9_restore I0 p1 = some (r1, o1)) : XE g 0 0 (I0, h) 0 [(0, rf g 0), (1, .int p1)] [] := by
  unfold fnX9_restore at hf
  refine xr_iload_n C dX9_restore_0 1 rfl rfl ?_
  refine xr_iconst (v := 1) C dX9_restore_1 (by decide) ?_
  obtain ⟨⟨r3, I2⟩, h1, hf⟩ := ob_x hf
  refine xr_callSI C [.int p1, .int 1] lkX9_83 (kX9_isUpTo h1) rfl (Nat.le_of_ble_eq_true rfl) rfl dX9_restore_2 ⟨by decide, by decide, by decide⟩ rfl ?_
  refine xr_if_ne (tgt := 11) C dX9_restore_5 (by decide) hf (fun c4 hf => ?_) (fun c4 hf => ?_)
  · refine xr_aload_n C dX9_restore_11 0 rfl rfl ?_
    refine xr_getr C Kd9 (k := 5) (by decide) rfl wk_310 rfl H0.1 H0.2.2.2.2.2.2.1.1 dX9_restore_12 ?_
    refine xr_iload_n C dX9_restore_15 1 rfl rfl ?_
    obtain ⟨i5, hf⟩ := ck_x hf
    refine xr_aald C (kd := 12) (by decide) H0.2.2.2.2.2.2.1.2.1 i5 (H0.2.2.2.2.2.2.1.2.2 (ix p1) (inb_lt i5)).1 dX9_restore_16 ?_
    refine xr_getiN C Kd2 (k := 2) (by decide) rfl nk23 rfl (H0.2.2.2.2.2.2.1.2.2 (ix p1) (inb_lt i5)).2.1 dX9_restore_17 ?_
    refine xr_if_ne (tgt := 26) C dX9_restore_20 (by decide) hf (fun c6 hf => ?_) (fun c6 hf => ?_)
    · refine xr_aload_n C dX9_restore_26 0 rfl rfl ?_
      refine xr_getr C Kd9 (k := 2) (by decide) rfl wk_307 rfl H0.1 H0.2.2.2.1.1 dX9_restore_27 ?_
      refine xr_aload_n C dX9_restore_30 0 rfl rfl ?_
      refine xr_getr C Kd9 (k := 5) (by decide) rfl wk_310 rfl H0.1 H0.2.2.2.2.2.2.1.1 dX9_restore_31 ?_
      refine xr_iload_n C dX9_restore_34 1 rfl rfl ?_
      obtain ⟨i7, hf⟩ := ck_x hf
      refine xr_aald C (kd := 12) (by decide) H0.2.2.2.2.2.2.1.2.1 i7 (H0.2.2.2.2.2.2.1.2.2 (ix p1) (inb_lt i7)).1 dX9_restore_35 ?_
      refine xr_getrN C Kd2 (k := 0) (by decide) rfl nk24 rfl (H0.2.2.2.2.2.2.1.2.2 (ix p1) (inb_lt i7)).2.1 (H0.2.2.2.2.2.2.1.2.2 (ix p1) (inb_lt i7)).2.2.1.1 dX9_restore_36 ?_
      obtain ⟨I9, h8, hf⟩ := ob_x hf
      refine xr_callNV C [rf g ((93 + 9 * ix p1) + 1)] lkX9_148 (kX7_become H0.2.2.2.1.2 (H0.2.2.2.2.2.2.1.2.2 (ix p1) (inb_lt i7)).2.2.1.2 h8) Kd7 rfl H0.2.2.2.1.2.1 rfl (Nat.le_of_ble_eq_true rfl) rfl dX9_restore_39 ⟨by decide, by decide, by decide⟩ rfl ?_
      refine xr_aload_n C dX9_restore_42 0 rfl rfl ?_
      refine xr_getr C Kd9 (k := 3) (by decide) rfl wk_308 rfl H0.1 H0.2.2.2.2.1.1 dX9_restore_43 ?_
      refine xr_aload_n C dX9_restore_46 0 rfl rfl ?_
      refine xr_getr C Kd9 (k := 5) (by decide) rfl wk_310 rfl H0.1 H0.2.2.2.2.2.2.1.1 dX9_restore_47 ?_
      refine xr_iload_n C dX9_restore_50 1 rfl rfl ?_
      obtain ⟨i10, hf⟩ := ck_x hf
      refine xr_aald C (kd := 12) (by decide) H0.2.2.2.2.2.2.1.2.1 i10 (H0.2.2.2.2.2.2.1.2.2 (ix p1) (inb_lt i10)).1 dX9_restore_51 ?_
      refine xr_getrN C Kd2 (k := 1) (by decide) rfl nk25 rfl (H0.2.2.2.2.2.2.1.2.2 (ix p1) (inb_lt i10)).2.1 (H0.2.2.2.2.2.2.1.2.2 (ix p1) (inb_lt i10)).2.2.2.1 dX9_restore_52 ?_
      obtain ⟨I12, h11, hf⟩ := ob_x hf
      refine xr_callNV C [rf g ((93 + 9 * ix p1) + 7)] lkX9_234 (kX4_become H0.2.2.2.2.1.2 (H0.2.2.2.2.2.2.1.2.2 (ix p1) (inb_lt i10)).2.2.2.2 h11) Kd4 rfl H0.2.2.2.2.1.2.1 rfl (Nat.le_of_ble_eq_true rfl) rfl dX9_restore_55 ⟨by decide, by decide, by decide⟩ rfl ?_
      refine xr_aload_n C dX9_restore_58 0 rfl rfl ?_
      refine xr_getr C Kd9 (k := 4) (by decide) rfl wk_309 rfl H0.1 H0.2.2.2.2.2.1.1 dX9_restore_59 ?_
      obtain ⟨I14, h13, hf⟩ := ob_x hf
      refine xr_callNV C [] lkX9_162 (kX0_forget H0.2.2.2.2.2.1.2 h13) Kd0 rfl H0.2.2.2.2.2.1.2.1 rfl (Nat.le_of_ble_eq_true rfl) rfl dX9_restore_62 ⟨by decide, by decide, by decide⟩ rfl ?_
      refine xr_iconst (v := 1) C dX9_restore_65 (by decide) ?_
      exact xr_ireturn C q rfl rfl dX9_restore_66 (so_1 hf) (so_w hf)
    · refine xr_ldc C wk_564 dX9_restore_23 ?_
      exact xr_ireturn C q rfl rfl dX9_restore_25 (so_1 hf) (so_w hf)
  · refine xr_ldc C wk_352 dX9_restore_8 ?_
    exact xr_ireturn C q rfl rfl dX9_restore_10 (so_1 hf) (so_w hf)
theorem kX9_restore {B : Bs} {h : Shp} (H0 : XAt h) {I0 : Mem} {p1 : Int32} {r1 : Int32} {o1 : Mem} (hf : fnX9_restore I0 p1 = some (r1, o1)) : CtrI B yX9_restore cX9_restore 2 (some Jvm.ClassFile.FieldType.int) 2 60 0 0 [rfB B 0, .int p1] (I0, h) r1 (o1, h) := by
  refine xr_enterI (lv0 := [(0, rfB B 0), (1, .int p1)]) (by decide) (Nat.le_of_ble_eq_true rfl) rfl (fun g hg C q => ?_)
  subst hg
  exact ebX9_restore_0 C H0 q hf
theorem dX9_kind_0 : decode cX9_kind 0 = .ok (.aload_n 0, 1) := by decide +kernel
theorem dX9_kind_1 : decode cX9_kind 1 = .ok (.iload_n 1, 1) := by decide +kernel
theorem dX9_kind_2 : decode cX9_kind 2 = .ok (.invokevirtual 216, 3) := by decide +kernel
theorem dX9_kind_5 : decode cX9_kind 5 = .ok (.ifCond .eq 15, 3) := by decide +kernel
theorem dX9_kind_8 : decode cX9_kind 8 = .ok (.aload_n 0, 1) := by decide +kernel
theorem dX9_kind_9 : decode cX9_kind 9 = .ok (.getfield 26, 3) := by decide +kernel
theorem dX9_kind_12 : decode cX9_kind 12 = .ok (.getfield 277, 3) := by decide +kernel
theorem dX9_kind_15 : decode cX9_kind 15 = .ok (.iload_n 1, 1) := by decide +kernel
theorem dX9_kind_16 : decode cX9_kind 16 = .ok (.iaload, 1) := by decide +kernel
theorem dX9_kind_17 : decode cX9_kind 17 = .ok (.goto 5, 3) := by decide +kernel
theorem dX9_kind_20 : decode cX9_kind 20 = .ok (.ldc 87, 2) := by decide +kernel
theorem dX9_kind_22 : decode cX9_kind 22 = .ok (.ireturn, 1) := by decide +kernel
/-! BumperBalls.kind(I)I -/
def fnX9_kind_22 (I0 : Mem) (t0 : Int32) : Option (Int32 × Mem) :=
  some (t0, I0)
set_option maxRecDepth 20000 in
set_option maxHeartbeats 2000000 in
theorem ebX9_kind_22 {g : Cfg} (C : Cx g RX9 cX9_kind 2 1 21 0 0) {h : Shp} (H0 : XAt h) {r1 : Int32} {o1 : Mem} (q : QI g (some Jvm.ClassFile.FieldType.int) 0 0 r1 (o1, h)) {I0 : Mem} {t0 : Int32} (hf : fnX9_kind_22 I0 t0 = some (r1, o1)) : XE g 0 0 (I0, h) 22 [] [.int t0] := by
  unfold fnX9_kind_22 at hf
  exact xr_ireturn C q rfl rfl dX9_kind_22 (so_1 hf) (so_w hf)
def fnX9_kind (I0 : Mem) (p1 : Int32) : Option (Int32 × Mem) :=
  ob (fnX9_isPin I0 p1) fun ⟨r3, I2⟩ => if r3 = 0 then (fnX9_kind_22 I2 (-1000001)) else (ck (inb p1 6) <| fnX9_kind_22 I2 (I2 (21 + 1) (ix p1)))
set_option maxRecDepth 20000 in
set_option maxHeartbeats 2000000 in
theorem ebX9_kind_0 {g : Cfg} (C : Cx g RX9 cX9_kind 2 1 21 0 0) {h : Shp} (H0 : XAt h) {r1 : Int32} {o1 : Mem} (q : QI g (some Jvm.ClassFile.FieldType.int) 0 0 r1 (o1, h)) {I0 : Mem} {p1 : Int32} (hf : fnX9_kind I0 p1 = some (r1, o1)) : XE g 0 0 (I0, h) 0 [(0, rf g 0), (1, .int p1)] [] := by
  unfold fnX9_kind at hf
  refine xr_aload_n C dX9_kind_0 0 rfl rfl ?_
  refine xr_iload_n C dX9_kind_1 1 rfl rfl ?_
  obtain ⟨⟨r3, I2⟩, h1, hf⟩ := ob_x hf
  refine xr_callVI C [.int p1] lkX9_216 (kX9_isPin H0 h1) Kd9 rfl H0.1 rfl (Nat.le_of_ble_eq_true rfl) rfl dX9_kind_2 ⟨by decide, by decide, by decide⟩ rfl ?_
  refine xr_if_eq (tgt := 20) C dX9_kind_5 (by decide) hf (fun c4 hf => ?_) (fun c4 hf => ?_)
  · refine xr_ldc C wk_352 dX9_kind_20 ?_
    refine xr_lv [] rfl ?_
    exact ebX9_kind_22 C H0 q hf
  · refine xr_aload_n C dX9_kind_8 0 rfl rfl ?_
    refine xr_getr C Kd9 (k := 2) (by decide) rfl wk_307 rfl H0.1 H0.2.2.2.1.1 dX9_kind_9 ?_
    refine xr_getrN C Kd7 (k := 2) (by decide) rfl nk26 rfl H0.2.2.2.1.2.1 H0.2.2.2.1.2.2.1.1 dX9_kind_12 ?_
    refine xr_iload_n C dX9_kind_15 1 rfl rfl ?_
    obtain ⟨i5, hf⟩ := ck_x hf
    refine xr_iald C H0.2.2.2.1.2.2.1.2 i5 dX9_kind_16 ?_
    refine xr_goto (tgt := 22) C dX9_kind_17 (by decide) ?_
    refine xr_lv [] rfl ?_
    exact ebX9_kind_22 C H0 q hf
theorem kX9_kind {B : Bs} {h : Shp} (H0 : XAt h) {I0 : Mem} {p1 : Int32} {r1 : Int32} {o1 : Mem} (hf : fnX9_kind I0 p1 = some (r1, o1)) : CtrI B yX9_kind cX9_kind 2 (some Jvm.ClassFile.FieldType.int) 1 21 0 0 [rfB B 0, .int p1] (I0, h) r1 (o1, h) := by
  refine xr_enterI (lv0 := [(0, rfB B 0), (1, .int p1)]) (by decide) (Nat.le_of_ble_eq_true rfl) rfl (fun g hg C q => ?_)
  subst hg
  exact ebX9_kind_0 C H0 q hf
theorem dX9_as_0 : decode cX9_as 0 = .ok (.aload_n 0, 1) := by decide +kernel
theorem dX9_as_1 : decode cX9_as 1 = .ok (.iload_n 1, 1) := by decide +kernel
theorem dX9_as_2 : decode cX9_as 2 = .ok (.invokevirtual 216, 3) := by decide +kernel
theorem dX9_as_5 : decode cX9_as 5 = .ok (.ifCond .eq 11, 3) := by decide +kernel
theorem dX9_as_8 : decode cX9_as 8 = .ok (.iload_n 2, 1) := by decide +kernel
theorem dX9_as_9 : decode cX9_as 9 = .ok (.iconst 5, 1) := by decide +kernel
theorem dX9_as_10 : decode cX9_as 10 = .ok (.invokestatic 83, 3) := by decide +kernel
theorem dX9_as_13 : decode cX9_as 13 = .ok (.ifCond .ne 6, 3) := by decide +kernel
theorem dX9_as_16 : decode cX9_as 16 = .ok (.ldc 87, 2) := by decide +kernel
theorem dX9_as_18 : decode cX9_as 18 = .ok (.ireturn, 1) := by decide +kernel
theorem dX9_as_19 : decode cX9_as 19 = .ok (.aload_n 0, 1) := by decide +kernel
theorem dX9_as_20 : decode cX9_as 20 = .ok (.getfield 26, 3) := by decide +kernel
theorem dX9_as_23 : decode cX9_as 23 = .ok (.getfield 277, 3) := by decide +kernel
theorem dX9_as_26 : decode cX9_as 26 = .ok (.iload_n 1, 1) := by decide +kernel
theorem dX9_as_27 : decode cX9_as 27 = .ok (.iaload, 1) := by decide +kernel
theorem dX9_as_28 : decode cX9_as 28 = .ok (.iload_n 2, 1) := by decide +kernel
theorem dX9_as_29 : decode cX9_as 29 = .ok (.invokestatic 280, 3) := by decide +kernel
theorem dX9_as_32 : decode cX9_as 32 = .ok (.ifCond .ne 9, 3) := by decide +kernel
theorem dX9_as_35 : decode cX9_as 35 = .ok (.aload_n 0, 1) := by decide +kernel
theorem dX9_as_36 : decode cX9_as 36 = .ok (.iconst 3, 1) := by decide +kernel
theorem dX9_as_37 : decode cX9_as 37 = .ok (.invokevirtual 88, 3) := by decide +kernel
theorem dX9_as_40 : decode cX9_as 40 = .ok (.ireturn, 1) := by decide +kernel
theorem dX9_as_41 : decode cX9_as 41 = .ok (.aload_n 0, 1) := by decide +kernel
theorem dX9_as_42 : decode cX9_as 42 = .ok (.iload_n 1, 1) := by decide +kernel
theorem dX9_as_43 : decode cX9_as 43 = .ok (.invokevirtual 96, 3) := by decide +kernel
theorem dX9_as_46 : decode cX9_as 46 = .ok (.ireturn, 1) := by decide +kernel
theorem lkX9_280 : LkS "BumperBalls" 280 yX9_isOfKind cX9_isOfKind 4 (some Jvm.ClassFile.FieldType.boolean) 2 := ⟨wk_757, wk_1, wk_756, ⟨by decide +kernel, by decide +kernel, by decide +kernel⟩, wk_755⟩
/-! BumperBalls.as(II)I -/
def fnX9_as_16 (I0 : Mem) : Option (Int32 × Mem) :=
  some ((-1000001), I0)
set_option maxRecDepth 20000 in
set_option maxHeartbeats 2000000 in
theorem ebX9_as_16 {g : Cfg} (C : Cx g RX9 cX9_as 3 1 23 0 0) {h : Shp} (H0 : XAt h) {r1 : Int32} {o1 : Mem} (q : QI g (some Jvm.ClassFile.FieldType.int) 0 0 r1 (o1, h)) {I0 : Mem} (hf : fnX9_as_16 I0 = some (r1, o1)) : XE g 0 0 (I0, h) 16 [] [] := by
  unfold fnX9_as_16 at hf
  refine xr_ldc C wk_352 dX9_as_16 ?_
  exact xr_ireturn C q rfl rfl dX9_as_18 (so_1 hf) (so_w hf)
def fnX9_as (I0 : Mem) (p1 : Int32) (p2 : Int32) : Option (Int32 × Mem) :=
  ob (fnX9_isPin I0 p1) fun ⟨r3, I2⟩ => if r3 = 0 then (fnX9_as_16 I2) else (ob (fnX9_isUpTo I2 p2 5) fun ⟨r7, I6⟩ => if r7 = 0 then (fnX9_as_16 I6) else (ck (inb p1 6) <| ob (fnX9_isOfKind I6 (I6 (21 + 1) (ix p1)) p2) fun ⟨r12, I11⟩ => if r12 = 0 then (ob (fnX9_found I11 3) fun ⟨r19, I18⟩ => some (r19, I18)) else (ob (fnX9_plain I11 p1) fun ⟨r16, I15⟩ => some (r16, I15))))
set_option maxRecDepth 20000 in
set_option maxHeartbeats 2000000 in
theorem ebX9_as_0 {g : Cfg} (C : Cx g RX9 cX9_as 3 1 23 0 0) {h : Shp} (H0 : XAt h) {r1 : Int32} {o1 : Mem} (q : QI g (some Jvm.ClassFile.FieldType.int) 0 0 r1 (o1, h)) {I0 : Mem} {p1 : Int32} {p2 : Int32} (hf : fnX9_as I0 p1 p2 = some (r1, o1)) : XE g 0 0 (I0, h) 0 [(0, rf g 0), (1, .int p1), (2, .int p2)] [] := by
  unfold fnX9_as at hf
  refine xr_aload_n C dX9_as_0 0 rfl rfl ?_
  refine xr_iload_n C dX9_as_1 1 rfl rfl ?_
  obtain ⟨⟨r3, I2⟩, h1, hf⟩ := ob_x hf
  refine xr_callVI C [.int p1] lkX9_216 (kX9_isPin H0 h1) Kd9 rfl H0.1 rfl (Nat.le_of_ble_eq_true rfl) rfl dX9_as_2 ⟨by decide, by decide, by decide⟩ rfl ?_
  refine xr_if_eq (tgt := 16) C dX9_as_5 (by decide) hf (fun c4 hf => ?_) (fun c4 hf => ?_)
  · refine xr_lv [] rfl ?_
    exact ebX9_as_16 C H0 q hf
  · refine xr_iload_n C dX9_as_8 2 rfl rfl ?_
    refine xr_iconst (v := 5) C dX9_as_9 (by decide) ?_
    obtain ⟨⟨r7, I6⟩, h5, hf⟩ := ob_x hf
    refine xr_callSI C [.int p2, .int 5] lkX9_83 (kX9_isUpTo h5) rfl (Nat.le_of_ble_eq_true rfl) rfl dX9_as_10 ⟨by decide, by decide, by decide⟩ rfl ?_
    refine xr_if_ne (tgt := 19) C dX9_as_13 (by decide) hf (fun c8 hf => ?_) (fun c8 hf => ?_)
    · refine xr_aload_n C dX9_as_19 0 rfl rfl ?_
      refine xr_getr C Kd9 (k := 2) (by decide) rfl wk_307 rfl H0.1 H0.2.2.2.1.1 dX9_as_20 ?_
      refine xr_getrN C Kd7 (k := 2) (by decide) rfl nk26 rfl H0.2.2.2.1.2.1 H0.2.2.2.1.2.2.1.1 dX9_as_23 ?_
      refine xr_iload_n C dX9_as_26 1 rfl rfl ?_
      obtain ⟨i9, hf⟩ := ck_x hf
      refine xr_iald C H0.2.2.2.1.2.2.1.2 i9 dX9_as_27 ?_
      refine xr_iload_n C dX9_as_28 2 rfl rfl ?_
      obtain ⟨⟨r12, I11⟩, h10, hf⟩ := ob_x hf
      refine xr_callSI C [.int (I6 (21 + 1) (ix p1)), .int p2] lkX9_280 (kX9_isOfKind h10) rfl (Nat.le_of_ble_eq_true rfl) rfl dX9_as_29 ⟨by decide, by decide, by decide⟩ rfl ?_
      refine xr_if_ne (tgt := 41) C dX9_as_32 (by decide) hf (fun c13 hf => ?_) (fun c13 hf => ?_)
      · refine xr_aload_n C dX9_as_41 0 rfl rfl ?_
        refine xr_iload_n C dX9_as_42 1 rfl rfl ?_
        obtain ⟨⟨r16, I15⟩, h14, hf⟩ := ob_x hf
        refine xr_callVI C [.int p1] lkX9_96 (kX9_plain H0 h14) Kd9 rfl H0.1 rfl (Nat.le_of_ble_eq_true rfl) rfl dX9_as_43 ⟨by decide, by decide, by decide⟩ rfl ?_
        exact xr_ireturn C q rfl rfl dX9_as_46 (so_1 hf) (so_w hf)
      · refine xr_aload_n C dX9_as_35 0 rfl rfl ?_
        refine xr_iconst (v := 3) C dX9_as_36 (by decide) ?_
        obtain ⟨⟨r19, I18⟩, h17, hf⟩ := ob_x hf
        refine xr_callVI C [.int 3] lkX9_88 (kX9_found H0 h17) Kd9 rfl H0.1 rfl (Nat.le_of_ble_eq_true rfl) rfl dX9_as_37 ⟨by decide, by decide, by decide⟩ rfl ?_
        exact xr_ireturn C q rfl rfl dX9_as_40 (so_1 hf) (so_w hf)
    · refine xr_lv [] rfl ?_
      exact ebX9_as_16 C H0 q hf
theorem kX9_as {B : Bs} {h : Shp} (H0 : XAt h) {I0 : Mem} {p1 : Int32} {p2 : Int32} {r1 : Int32} {o1 : Mem} (hf : fnX9_as I0 p1 p2 = some (r1, o1)) : CtrI B yX9_as cX9_as 3 (some Jvm.ClassFile.FieldType.int) 1 23 0 0 [rfB B 0, .int p1, .int p2] (I0, h) r1 (o1, h) := by
  refine xr_enterI (lv0 := [(0, rfB B 0), (1, .int p1), (2, .int p2)]) (by decide) (Nat.le_of_ble_eq_true rfl) rfl (fun g hg C q => ?_)
  subst hg
  exact ebX9_as_0 C H0 q hf
theorem dX9_ask_0 : decode cX9_ask 0 = .ok (.aload_n 0, 1) := by decide +kernel
theorem dX9_ask_1 : decode cX9_ask 1 = .ok (.iload_n 1, 1) := by decide +kernel
theorem dX9_ask_2 : decode cX9_ask 2 = .ok (.invokevirtual 216, 3) := by decide +kernel
theorem dX9_ask_5 : decode cX9_ask 5 = .ok (.ifCond .eq 11, 3) := by decide +kernel
theorem dX9_ask_8 : decode cX9_ask 8 = .ok (.iload_n 2, 1) := by decide +kernel
theorem dX9_ask_9 : decode cX9_ask 9 = .ok (.iconst 1, 1) := by decide +kernel
theorem dX9_ask_10 : decode cX9_ask 10 = .ok (.invokestatic 83, 3) := by decide +kernel
theorem dX9_ask_13 : decode cX9_ask 13 = .ok (.ifCond .ne 6, 3) := by decide +kernel
theorem dX9_ask_16 : decode cX9_ask 16 = .ok (.ldc 87, 2) := by decide +kernel
theorem dX9_ask_18 : decode cX9_ask 18 = .ok (.ireturn, 1) := by decide +kernel
theorem dX9_ask_19 : decode cX9_ask 19 = .ok (.aload_n 0, 1) := by decide +kernel
theorem dX9_ask_20 : decode cX9_ask 20 = .ok (.getfield 63, 3) := by decide +kernel
theorem dX9_ask_23 : decode cX9_ask 23 = .ok (.iload_n 1, 1) := by decide +kernel
theorem dX9_ask_24 : decode cX9_ask 24 = .ok (.aload_n 0, 1) := by decide +kernel
theorem dX9_ask_25 : decode cX9_ask 25 = .ok (.getfield 26, 3) := by decide +kernel
theorem dX9_ask_28 : decode cX9_ask 28 = .ok (.aload_n 0, 1) := by decide +kernel
theorem dX9_ask_29 : decode cX9_ask 29 = .ok (.getfield 33, 3) := by decide +kernel
theorem dX9_ask_32 : decode cX9_ask 32 = .ok (.invokevirtual 283, 3) := by decide +kernel
theorem dX9_ask_35 : decode cX9_ask 35 = .ok (.iload_n 2, 1) := by decide +kernel
theorem dX9_ask_36 : decode cX9_ask 36 = .ok (.ifCond .ne 13, 3) := by decide +kernel
theorem dX9_ask_39 : decode cX9_ask 39 = .ok (.aload_n 0, 1) := by decide +kernel
theorem dX9_ask_40 : decode cX9_ask 40 = .ok (.getfield 63, 3) := by decide +kernel
theorem dX9_ask_43 : decode cX9_ask 43 = .ok (.invokevirtual 286, 3) := by decide +kernel
theorem dX9_ask_46 : decode cX9_ask 46 = .ok (.goto 10, 3) := by decide +kernel
theorem dX9_ask_49 : decode cX9_ask 49 = .ok (.aload_n 0, 1) := by decide +kernel
theorem dX9_ask_50 : decode cX9_ask 50 = .ok (.getfield 63, 3) := by decide +kernel
theorem dX9_ask_53 : decode cX9_ask 53 = .ok (.invokevirtual 289, 3) := by decide +kernel
theorem dX9_ask_56 : decode cX9_ask 56 = .ok (.ireturn, 1) := by decide +kernel
theorem lkX9_283 : LkN "BumperBalls" 283 yX1_begin cX1_begin 4 none 3 := ⟨wk_767, wk_9, wk_766, wk_s53, ⟨by decide +kernel, by decide +kernel, by decide +kernel⟩, (List.mem_of_getElem? (i := 72) (by decide +kernel))⟩
theorem lkX9_286 : LkN "BumperBalls" 286 yX1_sizeAsked cX1_sizeAsked 1 (some Jvm.ClassFile.FieldType.int) 0 := ⟨wk_771, wk_9, wk_770, wk_s54, ⟨by decide +kernel, by decide +kernel, by decide +kernel⟩, (List.mem_of_getElem? (i := 73) (by decide +kernel))⟩
theorem lkX9_289 : LkN "BumperBalls" 289 yX1_markAsked cX1_markAsked 1 (some Jvm.ClassFile.FieldType.int) 0 := ⟨wk_792, wk_9, wk_791, wk_s59, ⟨by decide +kernel, by decide +kernel, by decide +kernel⟩, (List.mem_of_getElem? (i := 74) (by decide +kernel))⟩
/-! BumperBalls.ask(II)I -/
def fnX9_ask_56 (I0 : Mem) (t0 : Int32) : Option (Int32 × Mem) :=
  some (t0, I0)
set_option maxRecDepth 20000 in
set_option maxHeartbeats 2000000 in
theorem ebX9_ask_56 {g : Cfg} (C : Cx g RX9 cX9_ask 3 4 83 0 0) {h : Shp} (H0 : XAt h) {r1 : Int32} {o1 : Mem} (q : QI g (some Jvm.ClassFile.FieldType.int) 0 0 r1 (o1, h)) {I0 : Mem} {t0 : Int32} (hf : fnX9_ask_56 I0 t0 = some (r1, o1)) : XE g 0 0 (I0, h) 56 [] [.int t0] := by
  unfold fnX9_ask_56 at hf
  exact xr_ireturn C q rfl rfl dX9_ask_56 (so_1 hf) (so_w hf)
def fnX9_ask_16 (I0 : Mem) : Option (Int32 × Mem) :=
  some ((-1000001), I0)
set_option maxRecDepth 20000 in
set_option maxHeartbeats 2000000 in
theorem ebX9_ask_16 {g : Cfg} (C : Cx g RX9 cX9_ask 3 4 83 0 0) {h : Shp} (H0 : XAt h) {r1 : Int32} {o1 : Mem} (q : QI g (some Jvm.ClassFile.FieldType.int) 0 0 r1 (o1, h)) {I0 : Mem} (hf : fnX9_ask_16 I0 = some (r1, o1)) : XE g 0 0 (I0, h) 16 [] [] := by
  unfold fnX9_ask_16 at hf
  refine xr_ldc C wk_352 dX9_ask_16 ?_
  exact xr_ireturn C q rfl rfl dX9_ask_18 (so_1 hf) (so_w hf)
def fnX9_ask (I0 : Mem) (p1 : Int32) (p2 : Int32) : Option (Int32 × Mem) :=
  ob (fnX9_isPin I0 p1) fun ⟨r3, I2⟩ => if r3 = 0 then (fnX9_ask_16 I2) else (ob (fnX9_isUpTo I2 p2 1) fun ⟨r7, I6⟩ => if r7 = 0 then (fnX9_ask_16 I6) else (ob (fnX1_begin 21 27 I6 p1) fun I10 => if p2 = 0 then (ob (fnX1_sizeAsked I10) fun ⟨r17, I16⟩ => fnX9_ask_56 I16 r17) else (ob (fnX1_markAsked I10) fun ⟨r14, I13⟩ => fnX9_ask_56 I13 r14)))
set_option maxRecDepth 20000 in
set_option maxHeartbeats 2000000 in
theorem ebX9_ask_0 {g : Cfg} (C : Cx g RX9 cX9_ask 3 4 83 0 0) {h : Shp} (H0 : XAt h) {r1 : Int32} {o1 : Mem} (q : QI g (some Jvm.ClassFile.FieldType.int) 0 0 r1 (o1, h)) {I0 : Mem} {p1 : Int32} {p2 : Int32} (hf : fnX9_ask I0 p1 p2 = some (r1, o1)) : XE g 0 0 (I0, h) 0 [(0, rf g 0), (1, .int p1), (2, .int p2)] [] := by
  unfold fnX9_ask at hf
  refine xr_aload_n C dX9_ask_0 0 rfl rfl ?_
  refine xr_iload_n C dX9_ask_1 1 rfl rfl ?_
  obtain ⟨⟨r3, I2⟩, h1, hf⟩ := ob_x hf
  refine xr_callVI C [.int p1] lkX9_216 (kX9_isPin H0 h1) Kd9 rfl H0.1 rfl (Nat.le_of_ble_eq_true rfl) rfl dX9_ask_2 ⟨by decide, by decide, by decide⟩ rfl ?_
  refine xr_if_eq (tgt := 16) C dX9_ask_5 (by decide) hf (fun c4 hf => ?_) (fun c4 hf => ?_)
  · refine xr_lv [] rfl ?_
    exact ebX9_ask_16 C H0 q hf
  · refine xr_iload_n C dX9_ask_8 2 rfl rfl ?_
    refine xr_iconst (v := 1) C dX9_ask_9 (by decide) ?_
    obtain ⟨⟨r7, I6⟩, h5, hf⟩ := ob_x hf
    refine xr_callSI C [.int p2, .int 1] lkX9_83 (kX9_isUpTo h5) rfl (Nat.le_of_ble_eq_true rfl) rfl dX9_ask_10 ⟨by decide, by decide, by decide⟩ rfl ?_
    refine xr_if_ne (tgt := 19) C dX9_ask_13 (by decide) hf (fun c8 hf => ?_) (fun c8 hf => ?_)
    · refine xr_aload_n C dX9_ask_19 0 rfl rfl ?_
      refine xr_getr C Kd9 (k := 8) (by decide) rfl wk_313 rfl H0.1 H0.2.2.2.2.2.2.2.2.2.1 dX9_ask_20 ?_
      refine xr_iload_n C dX9_ask_23 1 rfl rfl ?_
      refine xr_aload_n C dX9_ask_24 0 rfl rfl ?_
      refine xr_getr C Kd9 (k := 2) (by decide) rfl wk_307 rfl H0.1 H0.2.2.2.1.1 dX9_ask_25 ?_
      refine xr_aload_n C dX9_ask_28 0 rfl rfl ?_
      refine xr_getr C Kd9 (k := 3) (by decide) rfl wk_308 rfl H0.1 H0.2.2.2.2.1.1 dX9_ask_29 ?_
      obtain ⟨I10, h9, hf⟩ := ob_x hf
      refine xr_callNV C [.int p1, rf g 21, rf g 27] lkX9_283 (kX1_begin H0.2.2.2.2.2.2.2.2.2.2 H0.2.2.2.1.2 H0.2.2.2.2.1.2 h9) Kd1 rfl H0.2.2.2.2.2.2.2.2.2.2.1 rfl (Nat.le_of_ble_eq_true rfl) rfl dX9_ask_32 ⟨by decide, by decide, by decide⟩ rfl ?_
      refine xr_iload_n C dX9_ask_35 2 rfl rfl ?_
      refine xr_if_ne (tgt := 49) C dX9_ask_36 (by decide) hf (fun c11 hf => ?_) (fun c11 hf => ?_)
      · refine xr_aload_n C dX9_ask_49 0 rfl rfl ?_
        refine xr_getr C Kd9 (k := 8) (by decide) rfl wk_313 rfl H0.1 H0.2.2.2.2.2.2.2.2.2.1 dX9_ask_50 ?_
        obtain ⟨⟨r14, I13⟩, h12, hf⟩ := ob_x hf
        refine xr_callNI C [] lkX9_289 (kX1_markAsked H0.2.2.2.2.2.2.2.2.2.2 h12) Kd1 rfl H0.2.2.2.2.2.2.2.2.2.2.1 rfl (Nat.le_of_ble_eq_true rfl) rfl dX9_ask_53 ⟨by decide, by decide, by decide⟩ rfl ?_
        refine xr_lv [] rfl ?_
        exact ebX9_ask_56 C H0 q hf
      · refine xr_aload_n C dX9_ask_39 0 rfl rfl ?_
        refine xr_getr C Kd9 (k := 8) (by decide) rfl wk_313 rfl H0.1 H0.2.2.2.2.2.2.2.2.2.1 dX9_ask_40 ?_
        obtain ⟨⟨r17, I16⟩, h15, hf⟩ := ob_x hf
        refine xr_callNI C [] lkX9_286 (kX1_sizeAsked H0.2.2.2.2.2.2.2.2.2.2 h15) Kd1 rfl H0.2.2.2.2.2.2.2.2.2.2.1 rfl (Nat.le_of_ble_eq_true rfl) rfl dX9_ask_43 ⟨by decide, by decide, by decide⟩ rfl ?_
        refine xr_goto (tgt := 56) C dX9_ask_46 (by decide) ?_
        refine xr_lv [] rfl ?_
        exact ebX9_ask_56 C H0 q hf
    · refine xr_lv [] rfl ?_
      exact ebX9_ask_16 C H0 q hf
theorem kX9_ask {B : Bs} {h : Shp} (H0 : XAt h) {I0 : Mem} {p1 : Int32} {p2 : Int32} {r1 : Int32} {o1 : Mem} (hf : fnX9_ask I0 p1 p2 = some (r1, o1)) : CtrI B yX9_ask cX9_ask 3 (some Jvm.ClassFile.FieldType.int) 4 83 0 0 [rfB B 0, .int p1, .int p2] (I0, h) r1 (o1, h) := by
  refine xr_enterI (lv0 := [(0, rfB B 0), (1, .int p1), (2, .int p2)]) (by decide) (Nat.le_of_ble_eq_true rfl) rfl (fun g hg C q => ?_)
  subst hg
  exact ebX9_ask_0 C H0 q hf
theorem dX9_trace_0 : decode cX9_trace 0 = .ok (.iload_n 1, 1) := by decide +kernel
theorem dX9_trace_1 : decode cX9_trace 1 = .ok (.ifCond .lt 26, 3) := by decide +kernel
theorem dX9_trace_4 : decode cX9_trace 4 = .ok (.iload_n 1, 1) := by decide +kernel
theorem dX9_trace_5 : decode cX9_trace 5 = .ok (.aload_n 0, 1) := by decide +kernel
theorem dX9_trace_6 : decode cX9_trace 6 = .ok (.getfield 63, 3) := by decide +kernel
theorem dX9_trace_9 : decode cX9_trace 9 = .ok (.getfield 292, 3) := by decide +kernel
theorem dX9_trace_12 : decode cX9_trace 12 = .ok (.if_icmp .ge 15, 3) := by decide +kernel
theorem dX9_trace_15 : decode cX9_trace 15 = .ok (.aload_n 0, 1) := by decide +kernel
theorem dX9_trace_16 : decode cX9_trace 16 = .ok (.getfield 63, 3) := by decide +kernel
theorem dX9_trace_19 : decode cX9_trace 19 = .ok (.getfield 293, 3) := by decide +kernel
theorem dX9_trace_22 : decode cX9_trace 22 = .ok (.iload_n 1, 1) := by decide +kernel
theorem dX9_trace_23 : decode cX9_trace 23 = .ok (.iaload, 1) := by decide +kernel
theorem dX9_trace_24 : decode cX9_trace 24 = .ok (.goto 5, 3) := by decide +kernel
theorem dX9_trace_27 : decode cX9_trace 27 = .ok (.ldc 240, 2) := by decide +kernel
theorem dX9_trace_29 : decode cX9_trace 29 = .ok (.ireturn, 1) := by decide +kernel
/-! BumperBalls.trace(I)I -/
def fnX9_trace_29 (I0 : Mem) (t0 : Int32) : Option (Int32 × Mem) :=
  some (t0, I0)
set_option maxRecDepth 20000 in
set_option maxHeartbeats 2000000 in
theorem ebX9_trace_29 {g : Cfg} (C : Cx g RX9 cX9_trace 2 0 0 0 0) {h : Shp} (H0 : XAt h) {r1 : Int32} {o1 : Mem} (q : QI g (some Jvm.ClassFile.FieldType.int) 0 0 r1 (o1, h)) {I0 : Mem} {t0 : Int32} (hf : fnX9_trace_29 I0 t0 = some (r1, o1)) : XE g 0 0 (I0, h) 29 [] [.int t0] := by
  unfold fnX9_trace_29 at hf
  exact xr_ireturn C q rfl rfl dX9_trace_29 (so_1 hf) (so_w hf)
def fnX9_trace_27 (I0 : Mem) : Option (Int32 × Mem) :=
  fnX9_trace_29 I0 (-1000000)
set_option maxRecDepth 20000 in
set_option maxHeartbeats 2000000 in
theorem ebX9_trace_27 {g : Cfg} (C : Cx g RX9 cX9_trace 2 0 0 0 0) {h : Shp} (H0 : XAt h) {r1 : Int32} {o1 : Mem} (q : QI g (some Jvm.ClassFile.FieldType.int) 0 0 r1 (o1, h)) {I0 : Mem} (hf : fnX9_trace_27 I0 = some (r1, o1)) : XE g 0 0 (I0, h) 27 [] [] := by
  unfold fnX9_trace_27 at hf
  refine xr_ldc C wk_652 dX9_trace_27 ?_
  exact ebX9_trace_29 C H0 q hf
def fnX9_trace (I0 : Mem) (p1 : Int32) : Option (Int32 × Mem) :=
  if p1 < 0 then (fnX9_trace_27 I0) else (if (I0 91 1) ≤ p1 then (fnX9_trace_27 I0) else (ck (inb p1 16) <| fnX9_trace_29 I0 (I0 92 (ix p1))))
set_option maxRecDepth 20000 in
set_option maxHeartbeats 2000000 in
theorem ebX9_trace_0 {g : Cfg} (C : Cx g RX9 cX9_trace 2 0 0 0 0) {h : Shp} (H0 : XAt h) {r1 : Int32} {o1 : Mem} (q : QI g (some Jvm.ClassFile.FieldType.int) 0 0 r1 (o1, h)) {I0 : Mem} {p1 : Int32} (hf : fnX9_trace I0 p1 = some (r1, o1)) : XE g 0 0 (I0, h) 0 [(0, rf g 0), (1, .int p1)] [] := by
  unfold fnX9_trace at hf
  refine xr_iload_n C dX9_trace_0 1 rfl rfl ?_
  refine xr_if_lt (tgt := 27) C dX9_trace_1 (by decide) hf (fun c1 hf => ?_) (fun c1 hf => ?_)
  · refine xr_lv [] rfl ?_
    exact ebX9_trace_27 C H0 q hf
  · refine xr_iload_n C dX9_trace_4 1 rfl rfl ?_
    refine xr_aload_n C dX9_trace_5 0 rfl rfl ?_
    refine xr_getr C Kd9 (k := 8) (by decide) rfl wk_313 rfl H0.1 H0.2.2.2.2.2.2.2.2.2.1 dX9_trace_6 ?_
    refine xr_getiN C Kd1 (k := 1) (by decide) rfl nk27 rfl H0.2.2.2.2.2.2.2.2.2.2.1 dX9_trace_9 ?_
    refine xr_icmp_ge (tgt := 27) C dX9_trace_12 (by decide) hf (fun c2 hf => ?_) (fun c2 hf => ?_)
    · refine xr_lv [] rfl ?_
      exact ebX9_trace_27 C H0 q hf
    · refine xr_aload_n C dX9_trace_15 0 rfl rfl ?_
      refine xr_getr C Kd9 (k := 8) (by decide) rfl wk_313 rfl H0.1 H0.2.2.2.2.2.2.2.2.2.1 dX9_trace_16 ?_
      refine xr_getrN C Kd1 (k := 0) (by decide) rfl nk28 rfl H0.2.2.2.2.2.2.2.2.2.2.1 H0.2.2.2.2.2.2.2.2.2.2.2.1 dX9_trace_19 ?_
      refine xr_iload_n C dX9_trace_22 1 rfl rfl ?_
      obtain ⟨i3, hf⟩ := ck_x hf
      refine xr_iald C H0.2.2.2.2.2.2.2.2.2.2.2.2 i3 dX9_trace_23 ?_
      refine xr_goto (tgt := 29) C dX9_trace_24 (by decide) ?_
      refine xr_lv [] rfl ?_
      exact ebX9_trace_29 C H0 q hf
theorem kX9_trace {B : Bs} {h : Shp} (H0 : XAt h) {I0 : Mem} {p1 : Int32} {r1 : Int32} {o1 : Mem} (hf : fnX9_trace I0 p1 = some (r1, o1)) : CtrI B yX9_trace cX9_trace 2 (some Jvm.ClassFile.FieldType.int) 0 0 0 0 [rfB B 0, .int p1] (I0, h) r1 (o1, h) := by
  refine xr_enterI (lv0 := [(0, rfB B 0), (1, .int p1)]) (by decide) (Nat.le_of_ble_eq_true rfl) rfl (fun g hg C q => ?_)
  subst hg
  exact ebX9_trace_0 C H0 q hf
theorem dX9_count_0 : decode cX9_count 0 = .ok (.iload_n 1, 1) := by decide +kernel
theorem dX9_count_1 : decode cX9_count 1 = .ok (.tableswitch 87 0 5 #[39, 47, 55, 63, 71, 79], 39) := by decide +kernel
theorem dX9_count_40 : decode cX9_count 40 = .ok (.aload_n 0, 1) := by decide +kernel
theorem dX9_count_41 : decode cX9_count 41 = .ok (.getfield 10, 3) := by decide +kernel
theorem dX9_count_44 : decode cX9_count 44 = .ok (.invokevirtual 296, 3) := by decide +kernel
theorem dX9_count_47 : decode cX9_count 47 = .ok (.ireturn, 1) := by decide +kernel
theorem dX9_count_48 : decode cX9_count 48 = .ok (.aload_n 0, 1) := by decide +kernel
theorem dX9_count_49 : decode cX9_count 49 = .ok (.getfield 26, 3) := by decide +kernel
theorem dX9_count_52 : decode cX9_count 52 = .ok (.getfield 165, 3) := by decide +kernel
theorem dX9_count_55 : decode cX9_count 55 = .ok (.ireturn, 1) := by decide +kernel
theorem dX9_count_56 : decode cX9_count 56 = .ok (.aload_n 0, 1) := by decide +kernel
theorem dX9_count_57 : decode cX9_count 57 = .ok (.getfield 33, 3) := by decide +kernel
theorem dX9_count_60 : decode cX9_count 60 = .ok (.getfield 172, 3) := by decide +kernel
theorem dX9_count_63 : decode cX9_count 63 = .ok (.ireturn, 1) := by decide +kernel
theorem dX9_count_64 : decode cX9_count 64 = .ok (.aload_n 0, 1) := by decide +kernel
theorem dX9_count_65 : decode cX9_count 65 = .ok (.getfield 40, 3) := by decide +kernel
theorem dX9_count_68 : decode cX9_count 68 = .ok (.getfield 204, 3) := by decide +kernel
theorem dX9_count_71 : decode cX9_count 71 = .ok (.ireturn, 1) := by decide +kernel
theorem dX9_count_72 : decode cX9_count 72 = .ok (.aload_n 0, 1) := by decide +kernel
theorem dX9_count_73 : decode cX9_count 73 = .ok (.getfield 26, 3) := by decide +kernel
theorem dX9_count_76 : decode cX9_count 76 = .ok (.getfield 182, 3) := by decide +kernel
theorem dX9_count_79 : decode cX9_count 79 = .ok (.ireturn, 1) := by decide +kernel
theorem dX9_count_80 : decode cX9_count 80 = .ok (.aload_n 0, 1) := by decide +kernel
theorem dX9_count_81 : decode cX9_count 81 = .ok (.getfield 19, 3) := by decide +kernel
theorem dX9_count_84 : decode cX9_count 84 = .ok (.getfield 127, 3) := by decide +kernel
theorem dX9_count_87 : decode cX9_count 87 = .ok (.ireturn, 1) := by decide +kernel
theorem dX9_count_88 : decode cX9_count 88 = .ok (.ldc 87, 2) := by decide +kernel
theorem dX9_count_90 : decode cX9_count 90 = .ok (.ireturn, 1) := by decide +kernel
theorem lkX9_296 : LkN "BumperBalls" 296 yX5_there cX5_there 3 (some Jvm.ClassFile.FieldType.int) 0 := ⟨wk_808, wk_2, wk_807, wk_s61, ⟨by decide +kernel, by decide +kernel, by decide +kernel⟩, (List.mem_of_getElem? (i := 75) (by decide +kernel))⟩
/-! BumperBalls.count(I)I -/
def fnX9_count (I0 : Mem) (p1 : Int32) : Option (Int32 × Mem) :=
  if p1 = 0 then (ob (fnX5_there I0) fun ⟨r4, I3⟩ => some (r4, I3)) else if p1 = 1 then (some ((I0 21 1), I0)) else if p1 = 2 then (some ((I0 27 7), I0)) else if p1 = 3 then (some ((I0 29 2), I0)) else if p1 = 4 then (some ((I0 21 0), I0)) else if p1 = 5 then (some ((I0 13 1), I0)) else (some ((-1000001), I0))
set_option maxRecDepth 20000 in
set_option maxHeartbeats 2000000 in
theorem ebX9_count_0 {g : Cfg} (C : Cx g RX9 cX9_count 2 2 43 0 0) {h : Shp} (H0 : XAt h) {r1 : Int32} {o1 : Mem} (q : QI g (some Jvm.ClassFile.FieldType.int) 0 0 r1 (o1, h)) {I0 : Mem} {p1 : Int32} (hf : fnX9_count I0 p1 = some (r1, o1)) : XE g 0 0 (I0, h) 0 [(0, rf g 0), (1, .int p1)] [] := by
  unfold fnX9_count at hf
  refine xr_iload_n C dX9_count_0 1 rfl rfl ?_
  rcases if_or hf with ⟨c1, hf⟩ | ⟨c1_0, hf⟩
  · refine xr_swIn (v := 0) (tgt := 40) C dX9_count_1 c1 (by decide) (by decide) rfl (by decide) ?_
    refine xr_aload_n C dX9_count_40 0 rfl rfl ?_
    refine xr_getr C Kd9 (k := 0) (by decide) rfl wk_305 rfl H0.1 H0.2.1.1 dX9_count_41 ?_
    obtain ⟨⟨r4, I3⟩, h2, hf⟩ := ob_x hf
    refine xr_callNI C [] lkX9_296 (kX5_there H0.2.1.2 h2) Kd5 rfl H0.2.1.2.1 rfl (Nat.le_of_ble_eq_true rfl) rfl dX9_count_44 ⟨by decide, by decide, by decide⟩ rfl ?_
    exact xr_ireturn C q rfl rfl dX9_count_47 (so_1 hf) (so_w hf)
  rcases if_or hf with ⟨c1, hf⟩ | ⟨c1_1, hf⟩
  · refine xr_swIn (v := 1) (tgt := 48) C dX9_count_1 c1 (by decide) (by decide) rfl (by decide) ?_
    refine xr_aload_n C dX9_count_48 0 rfl rfl ?_
    refine xr_getr C Kd9 (k := 2) (by decide) rfl wk_307 rfl H0.1 H0.2.2.2.1.1 dX9_count_49 ?_
    refine xr_getiN C Kd7 (k := 1) (by decide) rfl nk8 rfl H0.2.2.2.1.2.1 dX9_count_52 ?_
    exact xr_ireturn C q rfl rfl dX9_count_55 (so_1 hf) (so_w hf)
  rcases if_or hf with ⟨c1, hf⟩ | ⟨c1_2, hf⟩
  · refine xr_swIn (v := 2) (tgt := 56) C dX9_count_1 c1 (by decide) (by decide) rfl (by decide) ?_
    refine xr_aload_n C dX9_count_56 0 rfl rfl ?_
    refine xr_getr C Kd9 (k := 3) (by decide) rfl wk_308 rfl H0.1 H0.2.2.2.2.1.1 dX9_count_57 ?_
    refine xr_getiN C Kd4 (k := 7) (by decide) rfl nk10 rfl H0.2.2.2.2.1.2.1 dX9_count_60 ?_
    exact xr_ireturn C q rfl rfl dX9_count_63 (so_1 hf) (so_w hf)
  rcases if_or hf with ⟨c1, hf⟩ | ⟨c1_3, hf⟩
  · refine xr_swIn (v := 3) (tgt := 64) C dX9_count_1 c1 (by decide) (by decide) rfl (by decide) ?_
    refine xr_aload_n C dX9_count_64 0 rfl rfl ?_
    refine xr_getr C Kd9 (k := 4) (by decide) rfl wk_309 rfl H0.1 H0.2.2.2.2.2.1.1 dX9_count_65 ?_
    refine xr_getiN C Kd0 (k := 2) (by decide) rfl nk15 rfl H0.2.2.2.2.2.1.2.1 dX9_count_68 ?_
    exact xr_ireturn C q rfl rfl dX9_count_71 (so_1 hf) (so_w hf)
  rcases if_or hf with ⟨c1, hf⟩ | ⟨c1_4, hf⟩
  · refine xr_swIn (v := 4) (tgt := 72) C dX9_count_1 c1 (by decide) (by decide) rfl (by decide) ?_
    refine xr_aload_n C dX9_count_72 0 rfl rfl ?_
    refine xr_getr C Kd9 (k := 2) (by decide) rfl wk_307 rfl H0.1 H0.2.2.2.1.1 dX9_count_73 ?_
    refine xr_getiN C Kd7 (k := 0) (by decide) rfl nk11 rfl H0.2.2.2.1.2.1 dX9_count_76 ?_
    exact xr_ireturn C q rfl rfl dX9_count_79 (so_1 hf) (so_w hf)
  rcases if_or hf with ⟨c1, hf⟩ | ⟨c1_5, hf⟩
  · refine xr_swIn (v := 5) (tgt := 80) C dX9_count_1 c1 (by decide) (by decide) rfl (by decide) ?_
    refine xr_aload_n C dX9_count_80 0 rfl rfl ?_
    refine xr_getr C Kd9 (k := 1) (by decide) rfl wk_306 rfl H0.1 H0.2.2.1.1 dX9_count_81 ?_
    refine xr_getiN C Kd8 (k := 1) (by decide) rfl nk2 rfl H0.2.2.1.2.1 dX9_count_84 ?_
    exact xr_ireturn C q rfl rfl dX9_count_87 (so_1 hf) (so_w hf)
  refine xr_swOut (tgt := 88) C dX9_count_1 (sw_out6 c1_0 c1_1 c1_2 c1_3 c1_4 c1_5) (by decide) ?_
  refine xr_ldc C wk_352 dX9_count_88 ?_
  exact xr_ireturn C q rfl rfl dX9_count_90 (so_1 hf) (so_w hf)
theorem kX9_count {B : Bs} {h : Shp} (H0 : XAt h) {I0 : Mem} {p1 : Int32} {r1 : Int32} {o1 : Mem} (hf : fnX9_count I0 p1 = some (r1, o1)) : CtrI B yX9_count cX9_count 2 (some Jvm.ClassFile.FieldType.int) 2 43 0 0 [rfB B 0, .int p1] (I0, h) r1 (o1, h) := by
  refine xr_enterI (lv0 := [(0, rfB B 0), (1, .int p1)]) (by decide) (Nat.le_of_ble_eq_true rfl) rfl (fun g hg C q => ?_)
  subst hg
  exact ebX9_count_0 C H0 q hf
theorem dX9_status_0 : decode cX9_status 0 = .ok (.aload_n 0, 1) := by decide +kernel
theorem dX9_status_1 : decode cX9_status 1 = .ok (.getfield 75, 3) := by decide +kernel
theorem dX9_status_4 : decode cX9_status 4 = .ok (.ireturn, 1) := by decide +kernel
/-! BumperBalls.status()I -/
def fnX9_status (I0 : Mem) : Option (Int32 × Mem) :=
  some ((I0 0 11), I0)
set_option maxRecDepth 20000 in
set_option maxHeartbeats 2000000 in
theorem ebX9_status_0 {g : Cfg} (C : Cx g RX9 cX9_status 1 0 0 0 0) {h : Shp} (H0 : XAt h) {r1 : Int32} {o1 : Mem} (q : QI g (some Jvm.ClassFile.FieldType.int) 0 0 r1 (o1, h)) {I0 : Mem} (hf : fnX9_status I0 = some (r1, o1)) : XE g 0 0 (I0, h) 0 [(0, rf g 0)] [] := by
  unfold fnX9_status at hf
  refine xr_aload_n C dX9_status_0 0 rfl rfl ?_
  refine xr_geti C Kd9 (k := 11) (by decide) rfl wk_316 rfl H0.1 dX9_status_1 ?_
  exact xr_ireturn C q rfl rfl dX9_status_4 (so_1 hf) (so_w hf)
theorem kX9_status {B : Bs} {h : Shp} (H0 : XAt h) {I0 : Mem} {r1 : Int32} {o1 : Mem} (hf : fnX9_status I0 = some (r1, o1)) : CtrI B yX9_status cX9_status 1 (some Jvm.ClassFile.FieldType.int) 0 0 0 0 [rfB B 0] (I0, h) r1 (o1, h) := by
  refine xr_enterI (lv0 := [(0, rfB B 0)]) (by decide) (Nat.le_of_ble_eq_true rfl) rfl (fun g hg C q => ?_)
  subst hg
  exact ebX9_status_0 C H0 q hf
