theorem dX10_kept_0 : decode cX10_kept 0 = .ok (.aload_n 0, 1) := by decide +kernel
theorem dX10_kept_1 : decode cX10_kept 1 = .ok (.getfield 7, 3) := by decide +kernel
theorem dX10_kept_4 : decode cX10_kept 4 = .ok (.iconst 0, 1) := by decide +kernel
theorem dX10_kept_5 : decode cX10_kept 5 = .ok (.iaload, 1) := by decide +kernel
theorem dX10_kept_6 : decode cX10_kept 6 = .ok (.ifCond .ne 6, 3) := by decide +kernel
theorem dX10_kept_9 : decode cX10_kept 9 = .ok (.ldc 176, 2) := by decide +kernel
theorem dX10_kept_11 : decode cX10_kept 11 = .ok (.ireturn, 1) := by decide +kernel
theorem dX10_kept_12 : decode cX10_kept 12 = .ok (.iload_n 1, 1) := by decide +kernel
theorem dX10_kept_13 : decode cX10_kept 13 = .ok (.i2l, 1) := by decide +kernel
theorem dX10_kept_14 : decode cX10_kept 14 = .ok (.lconst 1, 1) := by decide +kernel
theorem dX10_kept_15 : decode cX10_kept 15 = .ok (.ldc2_w 218, 3) := by decide +kernel
theorem dX10_kept_18 : decode cX10_kept 18 = .ok (.invokestatic 48, 3) := by decide +kernel
theorem dX10_kept_21 : decode cX10_kept 21 = .ok (.ifCond .ne 6, 3) := by decide +kernel
theorem dX10_kept_24 : decode cX10_kept 24 = .ok (.ldc 58, 2) := by decide +kernel
theorem dX10_kept_26 : decode cX10_kept 26 = .ok (.ireturn, 1) := by decide +kernel
theorem dX10_kept_27 : decode cX10_kept 27 = .ok (.aload_n 0, 1) := by decide +kernel
theorem dX10_kept_28 : decode cX10_kept 28 = .ok (.getfield 7, 3) := by decide +kernel
theorem dX10_kept_31 : decode cX10_kept 31 = .ok (.bipush 29, 2) := by decide +kernel
theorem dX10_kept_33 : decode cX10_kept 33 = .ok (.iaload, 1) := by decide +kernel
theorem dX10_kept_34 : decode cX10_kept 34 = .ok (.iconst 1, 1) := by decide +kernel
theorem dX10_kept_35 : decode cX10_kept 35 = .ok (.if_icmp .ne 8, 3) := by decide +kernel
theorem dX10_kept_38 : decode cX10_kept 38 = .ok (.ldc 176, 2) := by decide +kernel
theorem dX10_kept_40 : decode cX10_kept 40 = .ok (.goto 10, 3) := by decide +kernel
theorem dX10_kept_43 : decode cX10_kept 43 = .ok (.aload_n 0, 1) := by decide +kernel
theorem dX10_kept_44 : decode cX10_kept 44 = .ok (.ldc 19, 2) := by decide +kernel
theorem dX10_kept_46 : decode cX10_kept 46 = .ok (.iload_n 1, 1) := by decide +kernel
theorem dX10_kept_47 : decode cX10_kept 47 = .ok (.invokevirtual 220, 3) := by decide +kernel
theorem dX10_kept_50 : decode cX10_kept 50 = .ok (.ireturn, 1) := by decide +kernel
/-! BumperBallsModel.kept(I)I -/
def fnX10_kept_50 (I0 : Mem) (t0 : Int32) : Option (Int32 × Mem) :=
  some (t0, I0)
set_option maxRecDepth 20000 in
set_option maxHeartbeats 2000000 in
theorem ebX10_kept_50 {g : Cfg} (C : Cx g RX10 cX10_kept 2 6 143 0 0) {h : Shp} (H0 : MAt h) {r1 : Int32} {o1 : Mem} (q : QI g (some Jvm.ClassFile.FieldType.int) 0 0 r1 (o1, h)) {I0 : Mem} {t0 : Int32} (hf : fnX10_kept_50 I0 t0 = some (r1, o1)) : XE g 0 0 (I0, h) 50 [] [.int t0] := by
  unfold fnX10_kept_50 at hf
  exact xr_ireturn C q rfl rfl dX10_kept_50 (so_1 hf) (so_w hf)
def fnX10_kept (I0 : Mem) (p1 : Int32) : Option (Int32 × Mem) :=
  ck (inb 0 164) <| if (I0 112 (ix 0)) = 0 then (some ((-1000002), I0)) else (ob (fnX10_in I0 (p1.toInt64) 1 20) fun ⟨r5, I4⟩ => if r5 = 0 then (some ((-1000001), I4)) else (ck (inb 29 164) <| if (I4 112 (ix 29)) = 1 then (fnX10_kept_50 I4 (-1000002)) else (ob (fnX10_nudgesFor I4 (-1000000) p1) fun ⟨r11, I10⟩ => fnX10_kept_50 I10 r11)))
set_option maxRecDepth 20000 in
set_option maxHeartbeats 2000000 in
theorem ebX10_kept_0 {g : Cfg} (C : Cx g RX10 cX10_kept 2 6 143 0 0) {h : Shp} (H0 : MAt h) {r1 : Int32} {o1 : Mem} (q : QI g (some Jvm.ClassFile.FieldType.int) 0 0 r1 (o1, h)) {I0 : Mem} {p1 : Int32} (hf : fnX10_kept I0 p1 = some (r1, o1)) : XE g 0 0 (I0, h) 0 [(0, rf g 111), (1, .int p1)] [] := by
  unfold fnX10_kept at hf
  refine xr_aload_n C dX10_kept_0 0 rfl rfl ?_
  refine xr_getr C Kd10 (k := 0) (by decide) rfl wk_821 rfl H0.1 H0.2.1.1 dX10_kept_1 ?_
  refine xr_iconst (v := 0) C dX10_kept_4 (by decide) ?_
  obtain ⟨i1, hf⟩ := ck_x hf
  refine xr_iald C H0.2.1.2 i1 dX10_kept_5 ?_
  refine xr_if_ne (tgt := 12) C dX10_kept_6 (by decide) hf (fun c2 hf => ?_) (fun c2 hf => ?_)
  · refine xr_iload_n C dX10_kept_12 1 rfl rfl ?_
    refine xr_i2l C dX10_kept_13 ?_
    refine xr_lconst (v := 1) C dX10_kept_14 (by decide) ?_
    refine xr_ldc2 C wk_1102 dX10_kept_15 ?_
    obtain ⟨⟨r5, I4⟩, h3, hf⟩ := ob_x hf
    refine xr_callSI C [.long (p1.toInt64), .long 1, .long 20] lkX10_48 (kX10_in h3) rfl (Nat.le_of_ble_eq_true rfl) rfl dX10_kept_18 ⟨by decide, by decide, by decide⟩ rfl ?_
    refine xr_if_ne (tgt := 27) C dX10_kept_21 (by decide) hf (fun c6 hf => ?_) (fun c6 hf => ?_)
    · refine xr_aload_n C dX10_kept_27 0 rfl rfl ?_
      refine xr_getr C Kd10 (k := 0) (by decide) rfl wk_821 rfl H0.1 H0.2.1.1 dX10_kept_28 ?_
      refine xr_bipush (v := 29) C dX10_kept_31 (by decide) ?_
      obtain ⟨i7, hf⟩ := ck_x hf
      refine xr_iald C H0.2.1.2 i7 dX10_kept_33 ?_
      refine xr_iconst (v := 1) C dX10_kept_34 (by decide) ?_
      refine xr_icmp_ne (tgt := 43) C dX10_kept_35 (by decide) hf (fun c8 hf => ?_) (fun c8 hf => ?_)
      · refine xr_aload_n C dX10_kept_43 0 rfl rfl ?_
        refine xr_ldc C wk_820 dX10_kept_44 ?_
        refine xr_iload_n C dX10_kept_46 1 rfl rfl ?_
        obtain ⟨⟨r11, I10⟩, h9, hf⟩ := ob_x hf
        refine xr_callVI C [.int (-1000000), .int p1] lkX10_220 (kX10_nudgesFor H0 h9) Kd10 rfl H0.1 rfl (Nat.le_of_ble_eq_true rfl) rfl dX10_kept_47 ⟨by decide, by decide, by decide⟩ rfl ?_
        refine xr_lv [] rfl ?_
        exact ebX10_kept_50 C H0 q hf
      · refine xr_ldc C wk_1011 dX10_kept_38 ?_
        refine xr_goto (tgt := 50) C dX10_kept_40 (by decide) ?_
        refine xr_lv [] rfl ?_
        exact ebX10_kept_50 C H0 q hf
    · refine xr_ldc C wk_900 dX10_kept_24 ?_
      exact xr_ireturn C q rfl rfl dX10_kept_26 (so_1 hf) (so_w hf)
  · refine xr_ldc C wk_1011 dX10_kept_9 ?_
    exact xr_ireturn C q rfl rfl dX10_kept_11 (so_1 hf) (so_w hf)
theorem kX10_kept {B : Bs} {h : Shp} (H0 : MAt h) {I0 : Mem} {p1 : Int32} {r1 : Int32} {o1 : Mem} (hf : fnX10_kept I0 p1 = some (r1, o1)) : CtrI B yX10_kept cX10_kept 2 (some Jvm.ClassFile.FieldType.int) 6 143 0 0 [rfB B 111, .int p1] (I0, h) r1 (o1, h) := by
  refine xr_enterI (lv0 := [(0, rfB B 111), (1, .int p1)]) (by decide) (Nat.le_of_ble_eq_true rfl) rfl (fun g hg C q => ?_)
  subst hg
  exact ebX10_kept_0 C H0 q hf
theorem dX10_isHeard_0 : decode cX10_isHeard 0 = .ok (.aload_n 0, 1) := by decide +kernel
theorem dX10_isHeard_1 : decode cX10_isHeard 1 = .ok (.iload_n 1, 1) := by decide +kernel
theorem dX10_isHeard_2 : decode cX10_isHeard 2 = .ok (.invokevirtual 207, 3) := by decide +kernel
theorem dX10_isHeard_5 : decode cX10_isHeard 5 = .ok (.iconst 0, 1) := by decide +kernel
theorem dX10_isHeard_6 : decode cX10_isHeard 6 = .ok (.istore 4, 2) := by decide +kernel
theorem dX10_isHeard_8 : decode cX10_isHeard 8 = .ok (.iconst 0, 1) := by decide +kernel
theorem dX10_isHeard_9 : decode cX10_isHeard 9 = .ok (.istore 5, 2) := by decide +kernel
theorem dX10_isHeard_11 : decode cX10_isHeard 11 = .ok (.iload 5, 2) := by decide +kernel
theorem dX10_isHeard_13 : decode cX10_isHeard 13 = .ok (.bipush 60, 2) := by decide +kernel
theorem dX10_isHeard_15 : decode cX10_isHeard 15 = .ok (.if_icmp .ge 71, 3) := by decide +kernel
theorem dX10_isHeard_18 : decode cX10_isHeard 18 = .ok (.iload 4, 2) := by decide +kernel
theorem dX10_isHeard_20 : decode cX10_isHeard 20 = .ok (.iload_n 3, 1) := by decide +kernel
theorem dX10_isHeard_21 : decode cX10_isHeard 21 = .ok (.if_icmp .ge 65, 3) := by decide +kernel
theorem dX10_isHeard_24 : decode cX10_isHeard 24 = .ok (.aload_n 0, 1) := by decide +kernel
theorem dX10_isHeard_25 : decode cX10_isHeard 25 = .ok (.getfield 7, 3) := by decide +kernel
theorem dX10_isHeard_28 : decode cX10_isHeard 28 = .ok (.sipush 152, 3) := by decide +kernel
theorem dX10_isHeard_31 : decode cX10_isHeard 31 = .ok (.iaload, 1) := by decide +kernel
theorem dX10_isHeard_32 : decode cX10_isHeard 32 = .ok (.ifCond .ne 54, 3) := by decide +kernel
theorem dX10_isHeard_35 : decode cX10_isHeard 35 = .ok (.aload_n 0, 1) := by decide +kernel
theorem dX10_isHeard_36 : decode cX10_isHeard 36 = .ok (.bipush 123, 2) := by decide +kernel
theorem dX10_isHeard_38 : decode cX10_isHeard 38 = .ok (.invokevirtual 182, 3) := by decide +kernel
theorem dX10_isHeard_41 : decode cX10_isHeard 41 = .ok (.istore 6, 2) := by decide +kernel
theorem dX10_isHeard_43 : decode cX10_isHeard 43 = .ok (.iload 6, 2) := by decide +kernel
theorem dX10_isHeard_45 : decode cX10_isHeard 45 = .ok (.ldc 19, 2) := by decide +kernel
theorem dX10_isHeard_47 : decode cX10_isHeard 47 = .ok (.if_icmp .eq 33, 3) := by decide +kernel
theorem dX10_isHeard_50 : decode cX10_isHeard 50 = .ok (.aload_n 0, 1) := by decide +kernel
theorem dX10_isHeard_51 : decode cX10_isHeard 51 = .ok (.getfield 7, 3) := by decide +kernel
theorem dX10_isHeard_54 : decode cX10_isHeard 54 = .ok (.iconst 3, 1) := by decide +kernel
theorem dX10_isHeard_55 : decode cX10_isHeard 55 = .ok (.iconst 4, 1) := by decide +kernel
theorem dX10_isHeard_56 : decode cX10_isHeard 56 = .ok (.iload 6, 2) := by decide +kernel
theorem dX10_isHeard_58 : decode cX10_isHeard 58 = .ok (.imul, 1) := by decide +kernel
theorem dX10_isHeard_59 : decode cX10_isHeard 59 = .ok (.iadd, 1) := by decide +kernel
theorem dX10_isHeard_60 : decode cX10_isHeard 60 = .ok (.iconst 2, 1) := by decide +kernel
theorem dX10_isHeard_61 : decode cX10_isHeard 61 = .ok (.iadd, 1) := by decide +kernel
theorem dX10_isHeard_62 : decode cX10_isHeard 62 = .ok (.iaload, 1) := by decide +kernel
theorem dX10_isHeard_63 : decode cX10_isHeard 63 = .ok (.aload_n 0, 1) := by decide +kernel
theorem dX10_isHeard_64 : decode cX10_isHeard 64 = .ok (.getfield 26, 3) := by decide +kernel
theorem dX10_isHeard_67 : decode cX10_isHeard 67 = .ok (.iload_n 2, 1) := by decide +kernel
theorem dX10_isHeard_68 : decode cX10_isHeard 68 = .ok (.iload 4, 2) := by decide +kernel
theorem dX10_isHeard_70 : decode cX10_isHeard 70 = .ok (.iadd, 1) := by decide +kernel
theorem dX10_isHeard_71 : decode cX10_isHeard 71 = .ok (.iaload, 1) := by decide +kernel
theorem dX10_isHeard_72 : decode cX10_isHeard 72 = .ok (.if_icmp .eq 5, 3) := by decide +kernel
theorem dX10_isHeard_75 : decode cX10_isHeard 75 = .ok (.iconst 0, 1) := by decide +kernel
theorem dX10_isHeard_76 : decode cX10_isHeard 76 = .ok (.ireturn, 1) := by decide +kernel
theorem dX10_isHeard_77 : decode cX10_isHeard 77 = .ok (.iinc 4 1, 3) := by decide +kernel
theorem dX10_isHeard_80 : decode cX10_isHeard 80 = .ok (.iinc 5 1, 3) := by decide +kernel
theorem dX10_isHeard_83 : decode cX10_isHeard 83 = .ok (.goto (-72), 3) := by decide +kernel
theorem dX10_isHeard_86 : decode cX10_isHeard 86 = .ok (.iload 4, 2) := by decide +kernel
theorem dX10_isHeard_88 : decode cX10_isHeard 88 = .ok (.iload_n 3, 1) := by decide +kernel
theorem dX10_isHeard_89 : decode cX10_isHeard 89 = .ok (.if_icmp .ne 7, 3) := by decide +kernel
theorem dX10_isHeard_92 : decode cX10_isHeard 92 = .ok (.iconst 1, 1) := by decide +kernel
theorem dX10_isHeard_93 : decode cX10_isHeard 93 = .ok (.goto 4, 3) := by decide +kernel
theorem dX10_isHeard_96 : decode cX10_isHeard 96 = .ok (.iconst 0, 1) := by decide +kernel
theorem dX10_isHeard_97 : decode cX10_isHeard 97 = .ok (.ireturn, 1) := by decide +kernel
/-! BumperBallsModel.isHeard(III)Z -/
def fnX10_isHeard_97 (I0 : Mem) (t0 : Int32) : Option (Int32 × Mem) :=
  ck (zb t0) <| some (t0, I0)
set_option maxRecDepth 20000 in
set_option maxHeartbeats 2000000 in
theorem ebX10_isHeard_97 {g : Cfg} (C : Cx g RX10 cX10_isHeard 7 4 91 0 0) {h : Shp} (H0 : MAt h) {r1 : Int32} {o1 : Mem} (q : QI g (some Jvm.ClassFile.FieldType.boolean) 0 0 r1 (o1, h)) {I0 : Mem} {t0 : Int32} (hf : fnX10_isHeard_97 I0 t0 = some (r1, o1)) : XE g 0 0 (I0, h) 97 [] [.int t0] := by
  unfold fnX10_isHeard_97 at hf
  obtain ⟨z1, hf⟩ := ck_x hf
  exact xr_ireturn C q rfl (zb_ok z1).1 dX10_isHeard_97 (so_1 hf) (so_w hf)
def fnX10_isHeard_86 (I0 : Mem) (l3 : Int32) (l4 : Int32) : Option (Int32 × Mem) :=
  if l4 = l3 then (fnX10_isHeard_97 I0 1) else (fnX10_isHeard_97 I0 0)
set_option maxRecDepth 20000 in
set_option maxHeartbeats 2000000 in
theorem ebX10_isHeard_86 {g : Cfg} (C : Cx g RX10 cX10_isHeard 7 4 91 0 0) {h : Shp} (H0 : MAt h) {r1 : Int32} {o1 : Mem} (q : QI g (some Jvm.ClassFile.FieldType.boolean) 0 0 r1 (o1, h)) {I0 : Mem} {l3 : Int32} {l4 : Int32} (hf : fnX10_isHeard_86 I0 l3 l4 = some (r1, o1)) : XE g 0 0 (I0, h) 86 [(3, .int l3), (4, .int l4)] [] := by
  unfold fnX10_isHeard_86 at hf
  refine xr_iload C dX10_isHeard_86 1 rfl ?_
  refine xr_iload_n C dX10_isHeard_88 0 rfl rfl ?_
  refine xr_icmp_ne (tgt := 96) C dX10_isHeard_89 (by decide) hf (fun c1 hf => ?_) (fun c1 hf => ?_)
  · refine xr_iconst (v := 0) C dX10_isHeard_96 (by decide) ?_
    refine xr_lv [] rfl ?_
    exact ebX10_isHeard_97 C H0 q hf
  · refine xr_iconst (v := 1) C dX10_isHeard_92 (by decide) ?_
    refine xr_goto (tgt := 97) C dX10_isHeard_93 (by decide) ?_
    refine xr_lv [] rfl ?_
    exact ebX10_isHeard_97 C H0 q hf
def fnX10_isHeard_80 (rec11 : Mem → Int32 → Int32 → Int32 → Int32 → Option (Int32 × Mem)) (I0 : Mem) (l2 : Int32) (l3 : Int32) (l4 : Int32) (l5 : Int32) : Option (Int32 × Mem) :=
  bnd (l5 + 1) fun v1 => rec11 I0 l2 l3 l4 v1
set_option maxRecDepth 20000 in
set_option maxHeartbeats 2000000 in
theorem ebX10_isHeard_80 {g : Cfg} (C : Cx g RX10 cX10_isHeard 7 4 91 0 0) {h : Shp} (H0 : MAt h) {r1 : Int32} {o1 : Mem} {rec11 : Mem → Int32 → Int32 → Int32 → Int32 → Option (Int32 × Mem)} (ih11 : ∀ (I0 : Mem) (l2 : Int32) (l3 : Int32) (l4 : Int32) (l5 : Int32), rec11 I0 l2 l3 l4 l5 = some (r1, o1) → XE g 0 0 (I0, h) 11 [(0, rf g 111), (2, .int l2), (3, .int l3), (4, .int l4), (5, .int l5)] []) (q : QI g (some Jvm.ClassFile.FieldType.boolean) 0 0 r1 (o1, h)) {I0 : Mem} {l2 : Int32} {l3 : Int32} {l4 : Int32} {l5 : Int32} (hf : fnX10_isHeard_80 rec11 I0 l2 l3 l4 l5 = some (r1, o1)) : XE g 0 0 (I0, h) 80 [(0, rf g 111), (2, .int l2), (3, .int l3), (4, .int l4), (5, .int l5)] [] := by
  unfold fnX10_isHeard_80 at hf
  obtain ⟨v1, ev1, hf⟩ := bnd_x hf
  refine xr_iinc (k := 4) (v := v1) C dX10_isHeard_80 rfl (by rw [ev1]; rfl) (by decide) rfl ?_
  refine xr_goto (tgt := 11) C dX10_isHeard_83 (by decide) ?_
  refine xr_lv [1, 2, 3, 4, 0] rfl ?_
  exact ih11 _ _ _ _ _ hf
def fnX10_isHeard_11b (rec11 : Mem → Int32 → Int32 → Int32 → Int32 → Option (Int32 × Mem)) (I0 : Mem) (l2 : Int32) (l3 : Int32) (l4 : Int32) (l5 : Int32) : Option (Int32 × Mem) :=
  if 60 ≤ l5 then (fnX10_isHeard_86 I0 l3 l4) else (if l3 ≤ l4 then (fnX10_isHeard_86 I0 l3 l4) else (ck (inb 152 164) <| if (I0 112 (ix 152)) = 0 then (ob (fnX10_step I0 123) fun ⟨r7, I6⟩ => if r7 = (-1000000) then (fnX10_isHeard_80 rec11 I6 l2 l3 l4 l5) else (ck (inb (((3 : Int32) + ((4 : Int32) * r7)) + 2) 164) <| ck (inb (l2 + l4) 320) <| if (I6 112 (ix (((3 : Int32) + ((4 : Int32) * r7)) + 2))) = (I6 117 (ix (l2 + l4))) then (bnd (l4 + 1) fun v12 => fnX10_isHeard_80 rec11 I6 l2 l3 v12 l5) else (some (0, I6)))) else (fnX10_isHeard_86 I0 l3 l4)))
def fnX10_isHeard_11 : Nat → Mem → Int32 → Int32 → Int32 → Int32 → Option (Int32 × Mem)
  | 0 => fun _ _ _ _ _ => none
  | fu + 1 => fnX10_isHeard_11b (fnX10_isHeard_11 fu)
set_option maxRecDepth 20000 in
set_option maxHeartbeats 2000000 in
theorem ebX10_isHeard_11b {g : Cfg} (C : Cx g RX10 cX10_isHeard 7 4 91 0 0) {h : Shp} (H0 : MAt h) {r1 : Int32} {o1 : Mem} {rec11 : Mem → Int32 → Int32 → Int32 → Int32 → Option (Int32 × Mem)} (q : QI g (some Jvm.ClassFile.FieldType.boolean) 0 0 r1 (o1, h)) (ih11 : ∀ (I0 : Mem) (l2 : Int32) (l3 : Int32) (l4 : Int32) (l5 : Int32), rec11 I0 l2 l3 l4 l5 = some (r1, o1) → XE g 0 0 (I0, h) 11 [(0, rf g 111), (2, .int l2), (3, .int l3), (4, .int l4), (5, .int l5)] []) {I0 : Mem} {l2 : Int32} {l3 : Int32} {l4 : Int32} {l5 : Int32} (hf : fnX10_isHeard_11b rec11 I0 l2 l3 l4 l5 = some (r1, o1)) : XE g 0 0 (I0, h) 11 [(0, rf g 111), (2, .int l2), (3, .int l3), (4, .int l4), (5, .int l5)] [] := by
  unfold fnX10_isHeard_11b at hf
  refine xr_iload C dX10_isHeard_11 4 rfl ?_
  refine xr_bipush (v := 60) C dX10_isHeard_13 (by decide) ?_
  refine xr_icmp_ge (tgt := 86) C dX10_isHeard_15 (by decide) hf (fun c1 hf => ?_) (fun c1 hf => ?_)
  · refine xr_lv [2, 3] rfl ?_
    exact ebX10_isHeard_86 C H0 q hf
  · refine xr_iload C dX10_isHeard_18 3 rfl ?_
    refine xr_iload_n C dX10_isHeard_20 2 rfl rfl ?_
    refine xr_icmp_ge (tgt := 86) C dX10_isHeard_21 (by decide) hf (fun c2 hf => ?_) (fun c2 hf => ?_)
    · refine xr_lv [2, 3] rfl ?_
      exact ebX10_isHeard_86 C H0 q hf
    · refine xr_aload_n C dX10_isHeard_24 0 rfl rfl ?_
      refine xr_getr C Kd10 (k := 0) (by decide) rfl wk_821 rfl H0.1 H0.2.1.1 dX10_isHeard_25 ?_
      refine xr_sipush (v := 152) C dX10_isHeard_28 (by decide) ?_
      obtain ⟨i3, hf⟩ := ck_x hf
      refine xr_iald C H0.2.1.2 i3 dX10_isHeard_31 ?_
      refine xr_if_ne (tgt := 86) C dX10_isHeard_32 (by decide) hf (fun c4 hf => ?_) (fun c4 hf => ?_)
      · refine xr_lv [2, 3] rfl ?_
        exact ebX10_isHeard_86 C H0 q hf
      · refine xr_aload_n C dX10_isHeard_35 0 rfl rfl ?_
        refine xr_bipush (v := 123) C dX10_isHeard_36 (by decide) ?_
        obtain ⟨⟨r7, I6⟩, h5, hf⟩ := ob_x hf
        refine xr_callVI C [.int 123] lkX10_182 (kX10_step H0 h5) Kd10 rfl H0.1 rfl (Nat.le_of_ble_eq_true rfl) rfl dX10_isHeard_38 ⟨by decide, by decide, by decide⟩ rfl ?_
        refine xr_istore C dX10_isHeard_41 (by decide) rfl ?_
        refine xr_iload C dX10_isHeard_43 0 rfl ?_
        refine xr_ldc C wk_820 dX10_isHeard_45 ?_
        refine xr_icmp_eq (tgt := 80) C dX10_isHeard_47 (by decide) hf (fun c8 hf => ?_) (fun c8 hf => ?_)
        · refine xr_lv [1, 2, 3, 4, 5] rfl ?_
          exact ebX10_isHeard_80 C H0 ih11 q hf
        · refine xr_aload_n C dX10_isHeard_50 1 rfl rfl ?_
          refine xr_getr C Kd10 (k := 0) (by decide) rfl wk_821 rfl H0.1 H0.2.1.1 dX10_isHeard_51 ?_
          refine xr_iconst (v := 3) C dX10_isHeard_54 (by decide) ?_
          refine xr_iconst (v := 4) C dX10_isHeard_55 (by decide) ?_
          refine xr_iload C dX10_isHeard_56 0 rfl ?_
          refine xr_imul C dX10_isHeard_58 ?_
          refine xr_iadd C dX10_isHeard_59 ?_
          refine xr_iconst (v := 2) C dX10_isHeard_60 (by decide) ?_
          refine xr_iadd C dX10_isHeard_61 ?_
          obtain ⟨i9, hf⟩ := ck_x hf
          refine xr_iald C H0.2.1.2 i9 dX10_isHeard_62 ?_
          refine xr_aload_n C dX10_isHeard_63 1 rfl rfl ?_
          refine xr_getr C Kd10 (k := 9) (by decide) rfl wk_830 rfl H0.1 H0.2.2.2.2.2.2.1.1 dX10_isHeard_64 ?_
          refine xr_iload_n C dX10_isHeard_67 2 rfl rfl ?_
          refine xr_iload C dX10_isHeard_68 4 rfl ?_
          refine xr_iadd C dX10_isHeard_70 ?_
          obtain ⟨i10, hf⟩ := ck_x hf
          refine xr_iald C H0.2.2.2.2.2.2.1.2 i10 dX10_isHeard_71 ?_
          refine xr_icmp_eq (tgt := 77) C dX10_isHeard_72 (by decide) hf (fun c11 hf => ?_) (fun c11 hf => ?_)
          · obtain ⟨v12, ev12, hf⟩ := bnd_x hf
            refine xr_iinc (k := 4) (v := v12) C dX10_isHeard_77 rfl (by rw [ev12]; rfl) (by decide) rfl ?_
            refine xr_lv [2, 3, 4, 0, 5] rfl ?_
            exact ebX10_isHeard_80 C H0 ih11 q hf
          · refine xr_iconst (v := 0) C dX10_isHeard_75 (by decide) ?_
            exact xr_ireturn C q rfl rfl dX10_isHeard_76 (so_1 hf) (so_w hf)
theorem ebX10_isHeard_11 {g : Cfg} (C : Cx g RX10 cX10_isHeard 7 4 91 0 0) {h : Shp} (H0 : MAt h) {r1 : Int32} {o1 : Mem} (q : QI g (some Jvm.ClassFile.FieldType.boolean) 0 0 r1 (o1, h)) : ∀ (fu : Nat) {I0 : Mem} {l2 : Int32} {l3 : Int32} {l4 : Int32} {l5 : Int32} (hf : fnX10_isHeard_11 fu I0 l2 l3 l4 l5 = some (r1, o1)), XE g 0 0 (I0, h) 11 [(0, rf g 111), (2, .int l2), (3, .int l3), (4, .int l4), (5, .int l5)] [] := by
  intro fu
  induction fu with
  | zero =>
    intro I0 l2 l3 l4 l5 hf
    cases hf
  | succ fu ihn =>
    intro I0 l2 l3 l4 l5 hf
    exact ebX10_isHeard_11b C H0 q (fun _ _ _ _ _ hf => ihn hf) hf
def fnX10_isHeard (I0 : Mem) (p1 : Int32) (p2 : Int32) (p3 : Int32) : Option (Int32 × Mem) :=
  ob (fnX10_tryPut I0 p1) fun I2 => fnX10_isHeard_11 FU I2 p2 p3 0 0
set_option maxRecDepth 20000 in
set_option maxHeartbeats 2000000 in
theorem ebX10_isHeard_0 {g : Cfg} (C : Cx g RX10 cX10_isHeard 7 4 91 0 0) {h : Shp} (H0 : MAt h) {r1 : Int32} {o1 : Mem} (q : QI g (some Jvm.ClassFile.FieldType.boolean) 0 0 r1 (o1, h)) {I0 : Mem} {p1 : Int32} {p2 : Int32} {p3 : Int32} (hf : fnX10_isHeard I0 p1 p2 p3 = some (r1, o1)) : XE g 0 0 (I0, h) 0 [(0, rf g 111), (1, .int p1), (2, .int p2), (3, .int p3)] [] := by
  unfold fnX10_isHeard at hf
  refine xr_aload_n C dX10_isHeard_0 0 rfl rfl ?_
  refine xr_iload_n C dX10_isHeard_1 1 rfl rfl ?_
  obtain ⟨I2, h1, hf⟩ := ob_x hf
  refine xr_callVV C [.int p1] lkX10_207 (kX10_tryPut H0 h1) Kd10 rfl H0.1 rfl (Nat.le_of_ble_eq_true rfl) rfl dX10_isHeard_2 ⟨by decide, by decide, by decide⟩ rfl ?_
  refine xr_iconst (v := 0) C dX10_isHeard_5 (by decide) ?_
  refine xr_istore C dX10_isHeard_6 (by decide) rfl ?_
  refine xr_iconst (v := 0) C dX10_isHeard_8 (by decide) ?_
  refine xr_istore C dX10_isHeard_9 (by decide) rfl ?_
  refine xr_lv [2, 4, 5, 1, 0] rfl ?_
  exact ebX10_isHeard_11 C H0 q _ hf
theorem kX10_isHeard {B : Bs} {h : Shp} (H0 : MAt h) {I0 : Mem} {p1 : Int32} {p2 : Int32} {p3 : Int32} {r1 : Int32} {o1 : Mem} (hf : fnX10_isHeard I0 p1 p2 p3 = some (r1, o1)) : CtrI B yX10_isHeard cX10_isHeard 7 (some Jvm.ClassFile.FieldType.boolean) 4 91 0 0 [rfB B 111, .int p1, .int p2, .int p3] (I0, h) r1 (o1, h) := by
  refine xr_enterI (lv0 := [(0, rfB B 111), (1, .int p1), (2, .int p2), (3, .int p3)]) (by decide) (Nat.le_of_ble_eq_true rfl) rfl (fun g hg C q => ?_)
  subst hg
  exact ebX10_isHeard_0 C H0 q hf
theorem dX10_heard_0 : decode cX10_heard 0 = .ok (.aload_n 0, 1) := by decide +kernel
theorem dX10_heard_1 : decode cX10_heard 1 = .ok (.getfield 7, 3) := by decide +kernel
theorem dX10_heard_4 : decode cX10_heard 4 = .ok (.iconst 0, 1) := by decide +kernel
theorem dX10_heard_5 : decode cX10_heard 5 = .ok (.iaload, 1) := by decide +kernel
theorem dX10_heard_6 : decode cX10_heard 6 = .ok (.ifCond .ne 6, 3) := by decide +kernel
theorem dX10_heard_9 : decode cX10_heard 9 = .ok (.ldc 176, 2) := by decide +kernel
theorem dX10_heard_11 : decode cX10_heard 11 = .ok (.ireturn, 1) := by decide +kernel
theorem dX10_heard_12 : decode cX10_heard 12 = .ok (.iload_n 1, 1) := by decide +kernel
theorem dX10_heard_13 : decode cX10_heard 13 = .ok (.invokestatic 52, 3) := by decide +kernel
theorem dX10_heard_16 : decode cX10_heard 16 = .ok (.ifCond .eq 26, 3) := by decide +kernel
theorem dX10_heard_19 : decode cX10_heard 19 = .ok (.iload_n 3, 1) := by decide +kernel
theorem dX10_heard_20 : decode cX10_heard 20 = .ok (.i2l, 1) := by decide +kernel
theorem dX10_heard_21 : decode cX10_heard 21 = .ok (.lconst 1, 1) := by decide +kernel
theorem dX10_heard_22 : decode cX10_heard 22 = .ok (.ldc2_w 223, 3) := by decide +kernel
theorem dX10_heard_25 : decode cX10_heard 25 = .ok (.invokestatic 48, 3) := by decide +kernel
theorem dX10_heard_28 : decode cX10_heard 28 = .ok (.ifCond .eq 14, 3) := by decide +kernel
theorem dX10_heard_31 : decode cX10_heard 31 = .ok (.iload 4, 2) := by decide +kernel
theorem dX10_heard_33 : decode cX10_heard 33 = .ok (.i2l, 1) := by decide +kernel
theorem dX10_heard_34 : decode cX10_heard 34 = .ok (.lconst 0, 1) := by decide +kernel
theorem dX10_heard_35 : decode cX10_heard 35 = .ok (.lconst 1, 1) := by decide +kernel
theorem dX10_heard_36 : decode cX10_heard 36 = .ok (.invokestatic 48, 3) := by decide +kernel
theorem dX10_heard_39 : decode cX10_heard 39 = .ok (.ifCond .ne 6, 3) := by decide +kernel
theorem dX10_heard_42 : decode cX10_heard 42 = .ok (.ldc 58, 2) := by decide +kernel
theorem dX10_heard_44 : decode cX10_heard 44 = .ok (.ireturn, 1) := by decide +kernel
theorem dX10_heard_45 : decode cX10_heard 45 = .ok (.aload_n 0, 1) := by decide +kernel
theorem dX10_heard_46 : decode cX10_heard 46 = .ok (.getfield 20, 3) := by decide +kernel
theorem dX10_heard_49 : decode cX10_heard 49 = .ok (.iload_n 1, 1) := by decide +kernel
theorem dX10_heard_50 : decode cX10_heard 50 = .ok (.iaload, 1) := by decide +kernel
theorem dX10_heard_51 : decode cX10_heard 51 = .ok (.ldc 19, 2) := by decide +kernel
theorem dX10_heard_53 : decode cX10_heard 53 = .ok (.if_icmp .ne 9, 3) := by decide +kernel
theorem dX10_heard_56 : decode cX10_heard 56 = .ok (.aload_n 0, 1) := by decide +kernel
theorem dX10_heard_57 : decode cX10_heard 57 = .ok (.iconst 1, 1) := by decide +kernel
theorem dX10_heard_58 : decode cX10_heard 58 = .ok (.invokevirtual 59, 3) := by decide +kernel
theorem dX10_heard_61 : decode cX10_heard 61 = .ok (.ireturn, 1) := by decide +kernel
theorem dX10_heard_62 : decode cX10_heard 62 = .ok (.aload_n 0, 1) := by decide +kernel
theorem dX10_heard_63 : decode cX10_heard 63 = .ok (.iload_n 1, 1) := by decide +kernel
theorem dX10_heard_64 : decode cX10_heard 64 = .ok (.iload_n 2, 1) := by decide +kernel
theorem dX10_heard_65 : decode cX10_heard 65 = .ok (.iload_n 3, 1) := by decide +kernel
theorem dX10_heard_66 : decode cX10_heard 66 = .ok (.invokevirtual 66, 3) := by decide +kernel
theorem dX10_heard_69 : decode cX10_heard 69 = .ok (.ifCond .ne 9, 3) := by decide +kernel
theorem dX10_heard_72 : decode cX10_heard 72 = .ok (.aload_n 0, 1) := by decide +kernel
theorem dX10_heard_73 : decode cX10_heard 73 = .ok (.iconst 2, 1) := by decide +kernel
theorem dX10_heard_74 : decode cX10_heard 74 = .ok (.invokevirtual 59, 3) := by decide +kernel
theorem dX10_heard_77 : decode cX10_heard 77 = .ok (.ireturn, 1) := by decide +kernel
theorem dX10_heard_78 : decode cX10_heard 78 = .ok (.iconst 0, 1) := by decide +kernel
theorem dX10_heard_79 : decode cX10_heard 79 = .ok (.istore 5, 2) := by decide +kernel
theorem dX10_heard_81 : decode cX10_heard 81 = .ok (.iload 5, 2) := by decide +kernel
theorem dX10_heard_83 : decode cX10_heard 83 = .ok (.iload_n 3, 1) := by decide +kernel
theorem dX10_heard_84 : decode cX10_heard 84 = .ok (.if_icmp .ge 37, 3) := by decide +kernel
theorem dX10_heard_87 : decode cX10_heard 87 = .ok (.aload_n 0, 1) := by decide +kernel
theorem dX10_heard_88 : decode cX10_heard 88 = .ok (.getfield 26, 3) := by decide +kernel
theorem dX10_heard_91 : decode cX10_heard 91 = .ok (.bipush 40, 2) := by decide +kernel
theorem dX10_heard_93 : decode cX10_heard 93 = .ok (.iload_n 1, 1) := by decide +kernel
theorem dX10_heard_94 : decode cX10_heard 94 = .ok (.imul, 1) := by decide +kernel
theorem dX10_heard_95 : decode cX10_heard 95 = .ok (.iload_n 2, 1) := by decide +kernel
theorem dX10_heard_96 : decode cX10_heard 96 = .ok (.iadd, 1) := by decide +kernel
theorem dX10_heard_97 : decode cX10_heard 97 = .ok (.iload 5, 2) := by decide +kernel
theorem dX10_heard_99 : decode cX10_heard 99 = .ok (.iadd, 1) := by decide +kernel
theorem dX10_heard_100 : decode cX10_heard 100 = .ok (.iaload, 1) := by decide +kernel
theorem dX10_heard_101 : decode cX10_heard 101 = .ok (.i2l, 1) := by decide +kernel
theorem dX10_heard_102 : decode cX10_heard 102 = .ok (.lconst 0, 1) := by decide +kernel
theorem dX10_heard_103 : decode cX10_heard 103 = .ok (.ldc2_w 46, 3) := by decide +kernel
theorem dX10_heard_106 : decode cX10_heard 106 = .ok (.invokestatic 48, 3) := by decide +kernel
theorem dX10_heard_109 : decode cX10_heard 109 = .ok (.ifCond .ne 6, 3) := by decide +kernel
theorem dX10_heard_112 : decode cX10_heard 112 = .ok (.ldc 58, 2) := by decide +kernel
theorem dX10_heard_114 : decode cX10_heard 114 = .ok (.ireturn, 1) := by decide +kernel
theorem dX10_heard_115 : decode cX10_heard 115 = .ok (.iinc 5 1, 3) := by decide +kernel
theorem dX10_heard_118 : decode cX10_heard 118 = .ok (.goto (-37), 3) := by decide +kernel
theorem dX10_heard_121 : decode cX10_heard 121 = .ok (.iconst 0, 1) := by decide +kernel
theorem dX10_heard_122 : decode cX10_heard 122 = .ok (.istore 5, 2) := by decide +kernel
theorem dX10_heard_124 : decode cX10_heard 124 = .ok (.ldc 19, 2) := by decide +kernel
theorem dX10_heard_126 : decode cX10_heard 126 = .ok (.istore 6, 2) := by decide +kernel
theorem dX10_heard_128 : decode cX10_heard 128 = .ok (.iconst 0, 1) := by decide +kernel
theorem dX10_heard_129 : decode cX10_heard 129 = .ok (.istore 7, 2) := by decide +kernel
theorem dX10_heard_131 : decode cX10_heard 131 = .ok (.iload 7, 2) := by decide +kernel
theorem dX10_heard_133 : decode cX10_heard 133 = .ok (.sipush 168, 3) := by decide +kernel
theorem dX10_heard_136 : decode cX10_heard 136 = .ok (.if_icmp .ge 55, 3) := by decide +kernel
theorem dX10_heard_139 : decode cX10_heard 139 = .ok (.aload_n 0, 1) := by decide +kernel
theorem dX10_heard_140 : decode cX10_heard 140 = .ok (.iload 7, 2) := by decide +kernel
theorem dX10_heard_142 : decode cX10_heard 142 = .ok (.iconst 4, 1) := by decide +kernel
theorem dX10_heard_143 : decode cX10_heard 143 = .ok (.idiv, 1) := by decide +kernel
theorem dX10_heard_144 : decode cX10_heard 144 = .ok (.invokevirtual 169, 3) := by decide +kernel
theorem dX10_heard_147 : decode cX10_heard 147 = .ok (.ldc 19, 2) := by decide +kernel
theorem dX10_heard_149 : decode cX10_heard 149 = .ok (.if_icmp .ne 36, 3) := by decide +kernel
theorem dX10_heard_152 : decode cX10_heard 152 = .ok (.aload_n 0, 1) := by decide +kernel
theorem dX10_heard_153 : decode cX10_heard 153 = .ok (.iload 7, 2) := by decide +kernel
theorem dX10_heard_155 : decode cX10_heard 155 = .ok (.bipush 40, 2) := by decide +kernel
theorem dX10_heard_157 : decode cX10_heard 157 = .ok (.iload_n 1, 1) := by decide +kernel
theorem dX10_heard_158 : decode cX10_heard 158 = .ok (.imul, 1) := by decide +kernel
theorem dX10_heard_159 : decode cX10_heard 159 = .ok (.iload_n 2, 1) := by decide +kernel
theorem dX10_heard_160 : decode cX10_heard 160 = .ok (.iadd, 1) := by decide +kernel
theorem dX10_heard_161 : decode cX10_heard 161 = .ok (.iload_n 3, 1) := by decide +kernel
theorem dX10_heard_162 : decode cX10_heard 162 = .ok (.invokevirtual 225, 3) := by decide +kernel
theorem dX10_heard_165 : decode cX10_heard 165 = .ok (.ifCond .eq 20, 3) := by decide +kernel
theorem dX10_heard_168 : decode cX10_heard 168 = .ok (.iload 5, 2) := by decide +kernel
theorem dX10_heard_170 : decode cX10_heard 170 = .ok (.ifCond .ne 8, 3) := by decide +kernel
theorem dX10_heard_173 : decode cX10_heard 173 = .ok (.iload 7, 2) := by decide +kernel
theorem dX10_heard_175 : decode cX10_heard 175 = .ok (.goto 5, 3) := by decide +kernel
theorem dX10_heard_178 : decode cX10_heard 178 = .ok (.iload 6, 2) := by decide +kernel
theorem dX10_heard_180 : decode cX10_heard 180 = .ok (.istore 6, 2) := by decide +kernel
theorem dX10_heard_182 : decode cX10_heard 182 = .ok (.iinc 5 1, 3) := by decide +kernel
theorem dX10_heard_185 : decode cX10_heard 185 = .ok (.iinc 7 1, 3) := by decide +kernel
theorem dX10_heard_188 : decode cX10_heard 188 = .ok (.goto (-57), 3) := by decide +kernel
theorem dX10_heard_191 : decode cX10_heard 191 = .ok (.aload_n 0, 1) := by decide +kernel
theorem dX10_heard_192 : decode cX10_heard 192 = .ok (.iload 4, 2) := by decide +kernel
theorem dX10_heard_194 : decode cX10_heard 194 = .ok (.ifCond .ne 8, 3) := by decide +kernel
theorem dX10_heard_197 : decode cX10_heard 197 = .ok (.iload 5, 2) := by decide +kernel
theorem dX10_heard_199 : decode cX10_heard 199 = .ok (.goto 5, 3) := by decide +kernel
theorem dX10_heard_202 : decode cX10_heard 202 = .ok (.iload 6, 2) := by decide +kernel
theorem dX10_heard_204 : decode cX10_heard 204 = .ok (.invokevirtual 63, 3) := by decide +kernel
theorem dX10_heard_207 : decode cX10_heard 207 = .ok (.ireturn, 1) := by decide +kernel
theorem lkX10_225 : LkV "BumperBallsModel" 225 yX10_isHeard cX10_isHeard 7 (some Jvm.ClassFile.FieldType.boolean) 3 := ⟨wk_1126, wk_11, wk_1125, wk_s91, ⟨by decide +kernel, by decide +kernel, by decide +kernel⟩, wk_1123⟩
/-! BumperBallsModel.heard(IIII)I -/
def fnX10_heard_204 (I0 : Mem) (t1 : Int32) : Option (Int32 × Mem) :=
  ob (fnX10_give I0 t1) fun ⟨r3, I2⟩ => some (r3, I2)
set_option maxRecDepth 20000 in
set_option maxHeartbeats 2000000 in
theorem ebX10_heard_204 {g : Cfg} (C : Cx g RX10 cX10_heard 8 5 117 0 0) {h : Shp} (H0 : MAt h) {r1 : Int32} {o1 : Mem} (q : QI g (some Jvm.ClassFile.FieldType.int) 0 0 r1 (o1, h)) {I0 : Mem} {t1 : Int32} (hf : fnX10_heard_204 I0 t1 = some (r1, o1)) : XE g 0 0 (I0, h) 204 [] [.int t1, rf g 111] := by
  unfold fnX10_heard_204 at hf
  obtain ⟨⟨r3, I2⟩, h1, hf⟩ := ob_x hf
  refine xr_callVI C [.int t1] lkX10_63 (kX10_give H0 h1) Kd10 rfl H0.1 rfl (Nat.le_of_ble_eq_true rfl) rfl dX10_heard_204 ⟨by decide, by decide, by decide⟩ rfl ?_
  exact xr_ireturn C q rfl rfl dX10_heard_207 (so_1 hf) (so_w hf)
def fnX10_heard_185 (rec131 : Mem → Int32 → Int32 → Int32 → Int32 → Int32 → Int32 → Int32 → Option (Int32 × Mem)) (I0 : Mem) (l1 : Int32) (l2 : Int32) (l3 : Int32) (l4 : Int32) (l5 : Int32) (l6 : Int32) (l7 : Int32) : Option (Int32 × Mem) :=
  bnd (l7 + 1) fun v1 => rec131 I0 l1 l2 l3 l4 l5 l6 v1
set_option maxRecDepth 20000 in
set_option maxHeartbeats 2000000 in
theorem ebX10_heard_185 {g : Cfg} (C : Cx g RX10 cX10_heard 8 5 117 0 0) {h : Shp} (H0 : MAt h) {r1 : Int32} {o1 : Mem} {rec131 : Mem → Int32 → Int32 → Int32 → Int32 → Int32 → Int32 → Int32 → Option (Int32 × Mem)} (ih131 : ∀ (I0 : Mem) (l1 : Int32) (l2 : Int32) (l3 : Int32) (l4 : Int32) (l5 : Int32) (l6 : Int32) (l7 : Int32), rec131 I0 l1 l2 l3 l4 l5 l6 l7 = some (r1, o1) → XE g 0 0 (I0, h) 131 [(0, rf g 111), (1, .int l1), (2, .int l2), (3, .int l3), (4, .int l4), (5, .int l5), (6, .int l6), (7, .int l7)] []) (q : QI g (some Jvm.ClassFile.FieldType.int) 0 0 r1 (o1, h)) {I0 : Mem} {l1 : Int32} {l2 : Int32} {l3 : Int32} {l4 : Int32} {l5 : Int32} {l6 : Int32} {l7 : Int32} (hf : fnX10_heard_185 rec131 I0 l1 l2 l3 l4 l5 l6 l7 = some (r1, o1)) : XE g 0 0 (I0, h) 185 [(0, rf g 111), (1, .int l1), (2, .int l2), (3, .int l3), (4, .int l4), (5, .int l5), (6, .int l6), (7, .int l7)] [] := by
  unfold fnX10_heard_185 at hf
  obtain ⟨v1, ev1, hf⟩ := bnd_x hf
  refine xr_iinc (k := 7) (v := v1) C dX10_heard_185 rfl (by rw [ev1]; rfl) (by decide) rfl ?_
  refine xr_goto (tgt := 131) C dX10_heard_188 (by decide) ?_
  refine xr_lv [1, 2, 3, 4, 5, 6, 7, 0] rfl ?_
  exact ih131 _ _ _ _ _ _ _ _ hf
def fnX10_heard_180 (rec131 : Mem → Int32 → Int32 → Int32 → Int32 → Int32 → Int32 → Int32 → Option (Int32 × Mem)) (I0 : Mem) (l1 : Int32) (l2 : Int32) (l3 : Int32) (l4 : Int32) (l5 : Int32) (l7 : Int32) (t0 : Int32) : Option (Int32 × Mem) :=
  bnd (l5 + 1) fun v1 => fnX10_heard_185 rec131 I0 l1 l2 l3 l4 v1 t0 l7
set_option maxRecDepth 20000 in
set_option maxHeartbeats 2000000 in
theorem ebX10_heard_180 {g : Cfg} (C : Cx g RX10 cX10_heard 8 5 117 0 0) {h : Shp} (H0 : MAt h) {r1 : Int32} {o1 : Mem} {rec131 : Mem → Int32 → Int32 → Int32 → Int32 → Int32 → Int32 → Int32 → Option (Int32 × Mem)} (ih131 : ∀ (I0 : Mem) (l1 : Int32) (l2 : Int32) (l3 : Int32) (l4 : Int32) (l5 : Int32) (l6 : Int32) (l7 : Int32), rec131 I0 l1 l2 l3 l4 l5 l6 l7 = some (r1, o1) → XE g 0 0 (I0, h) 131 [(0, rf g 111), (1, .int l1), (2, .int l2), (3, .int l3), (4, .int l4), (5, .int l5), (6, .int l6), (7, .int l7)] []) (q : QI g (some Jvm.ClassFile.FieldType.int) 0 0 r1 (o1, h)) {I0 : Mem} {l1 : Int32} {l2 : Int32} {l3 : Int32} {l4 : Int32} {l5 : Int32} {l7 : Int32} {t0 : Int32} (hf : fnX10_heard_180 rec131 I0 l1 l2 l3 l4 l5 l7 t0 = some (r1, o1)) : XE g 0 0 (I0, h) 180 [(0, rf g 111), (1, .int l1), (2, .int l2), (3, .int l3), (4, .int l4), (5, .int l5), (7, .int l7)] [.int t0] := by
  unfold fnX10_heard_180 at hf
  refine xr_istore C dX10_heard_180 (by decide) rfl ?_
  obtain ⟨v1, ev1, hf⟩ := bnd_x hf
  refine xr_iinc (k := 6) (v := v1) C dX10_heard_182 rfl (by rw [ev1]; rfl) (by decide) rfl ?_
  refine xr_lv [2, 3, 4, 5, 6, 0, 1, 7] rfl ?_
  exact ebX10_heard_185 C H0 ih131 q hf
def fnX10_heard_131b (rec131 : Mem → Int32 → Int32 → Int32 → Int32 → Int32 → Int32 → Int32 → Option (Int32 × Mem)) (I0 : Mem) (l1 : Int32) (l2 : Int32) (l3 : Int32) (l4 : Int32) (l5 : Int32) (l6 : Int32) (l7 : Int32) : Option (Int32 × Mem) :=
  if 168 ≤ l7 then (if l4 = 0 then (fnX10_heard_204 I0 l5) else (fnX10_heard_204 I0 l6)) else (ob (fnX10_pinAt I0 (l7 / 4)) fun ⟨r5, I4⟩ => if r5 = (-1000000) then (ob (fnX10_isHeard I4 l7 (((40 : Int32) * l1) + l2) l3) fun ⟨r9, I8⟩ => if r9 = 0 then (fnX10_heard_185 rec131 I8 l1 l2 l3 l4 l5 l6 l7) else (if l5 = 0 then (fnX10_heard_180 rec131 I8 l1 l2 l3 l4 l5 l7 l7) else (fnX10_heard_180 rec131 I8 l1 l2 l3 l4 l5 l7 l6))) else (fnX10_heard_185 rec131 I4 l1 l2 l3 l4 l5 l6 l7))
def fnX10_heard_131 : Nat → Mem → Int32 → Int32 → Int32 → Int32 → Int32 → Int32 → Int32 → Option (Int32 × Mem)
  | 0 => fun _ _ _ _ _ _ _ _ => none
  | fu + 1 => fnX10_heard_131b (fnX10_heard_131 fu)
set_option maxRecDepth 20000 in
set_option maxHeartbeats 2000000 in
theorem ebX10_heard_131b {g : Cfg} (C : Cx g RX10 cX10_heard 8 5 117 0 0) {h : Shp} (H0 : MAt h) {r1 : Int32} {o1 : Mem} {rec131 : Mem → Int32 → Int32 → Int32 → Int32 → Int32 → Int32 → Int32 → Option (Int32 × Mem)} (q : QI g (some Jvm.ClassFile.FieldType.int) 0 0 r1 (o1, h)) (ih131 : ∀ (I0 : Mem) (l1 : Int32) (l2 : Int32) (l3 : Int32) (l4 : Int32) (l5 : Int32) (l6 : Int32) (l7 : Int32), rec131 I0 l1 l2 l3 l4 l5 l6 l7 = some (r1, o1) → XE g 0 0 (I0, h) 131 [(0, rf g 111), (1, .int l1), (2, .int l2), (3, .int l3), (4, .int l4), (5, .int l5), (6, .int l6), (7, .int l7)] []) {I0 : Mem} {l1 : Int32} {l2 : Int32} {l3 : Int32} {l4 : Int32} {l5 : Int32} {l6 : Int32} {l7 : Int32} (hf : fnX10_heard_131b rec131 I0 l1 l2 l3 l4 l5 l6 l7 = some (r1, o1)) : XE g 0 0 (I0, h) 131 [(0, rf g 111), (1, .int l1), (2, .int l2), (3, .int l3), (4, .int l4), (5, .int l5), (6, .int l6), (7, .int l7)] [] := by
  unfold fnX10_heard_131b at hf
  refine xr_iload C dX10_heard_131 7 rfl ?_
  refine xr_sipush (v := 168) C dX10_heard_133 (by decide) ?_
  refine xr_icmp_ge (tgt := 191) C dX10_heard_136 (by decide) hf (fun c1 hf => ?_) (fun c1 hf => ?_)
  · refine xr_aload_n C dX10_heard_191 0 rfl rfl ?_
    refine xr_iload C dX10_heard_192 4 rfl ?_
    refine xr_if_ne (tgt := 202) C dX10_heard_194 (by decide) hf (fun c2 hf => ?_) (fun c2 hf => ?_)
    · refine xr_iload C dX10_heard_202 6 rfl ?_
      refine xr_lv [] rfl ?_
      exact ebX10_heard_204 C H0 q hf
    · refine xr_iload C dX10_heard_197 5 rfl ?_
      refine xr_goto (tgt := 204) C dX10_heard_199 (by decide) ?_
      refine xr_lv [] rfl ?_
      exact ebX10_heard_204 C H0 q hf
  · refine xr_aload_n C dX10_heard_139 0 rfl rfl ?_
    refine xr_iload C dX10_heard_140 7 rfl ?_
    refine xr_iconst (v := 4) C dX10_heard_142 (by decide) ?_
    refine xr_idiv C dX10_heard_143 (by decide) ?_
    obtain ⟨⟨r5, I4⟩, h3, hf⟩ := ob_x hf
    refine xr_callVI C [.int (l7 / 4)] lkX10_169 (kX10_pinAt H0 h3) Kd10 rfl H0.1 rfl (Nat.le_of_ble_eq_true rfl) rfl dX10_heard_144 ⟨by decide, by decide, by decide⟩ rfl ?_
    refine xr_ldc C wk_820 dX10_heard_147 ?_
    refine xr_icmp_ne (tgt := 185) C dX10_heard_149 (by decide) hf (fun c6 hf => ?_) (fun c6 hf => ?_)
    · exact ebX10_heard_185 C H0 ih131 q hf
    · refine xr_aload_n C dX10_heard_152 0 rfl rfl ?_
      refine xr_iload C dX10_heard_153 7 rfl ?_
      refine xr_bipush (v := 40) C dX10_heard_155 (by decide) ?_
      refine xr_iload_n C dX10_heard_157 1 rfl rfl ?_
      refine xr_imul C dX10_heard_158 ?_
      refine xr_iload_n C dX10_heard_159 2 rfl rfl ?_
      refine xr_iadd C dX10_heard_160 ?_
      refine xr_iload_n C dX10_heard_161 3 rfl rfl ?_
      obtain ⟨⟨r9, I8⟩, h7, hf⟩ := ob_x hf
      refine xr_callVI C [.int l7, .int (((40 : Int32) * l1) + l2), .int l3] lkX10_225 (kX10_isHeard H0 h7) Kd10 rfl H0.1 rfl (Nat.le_of_ble_eq_true rfl) rfl dX10_heard_162 ⟨by decide, by decide, by decide⟩ rfl ?_
      refine xr_if_eq (tgt := 185) C dX10_heard_165 (by decide) hf (fun c10 hf => ?_) (fun c10 hf => ?_)
      · exact ebX10_heard_185 C H0 ih131 q hf
      · refine xr_iload C dX10_heard_168 5 rfl ?_
        refine xr_if_ne (tgt := 178) C dX10_heard_170 (by decide) hf (fun c11 hf => ?_) (fun c11 hf => ?_)
        · refine xr_iload C dX10_heard_178 6 rfl ?_
          refine xr_lv [0, 1, 2, 3, 4, 5, 7] rfl ?_
          exact ebX10_heard_180 C H0 ih131 q hf
        · refine xr_iload C dX10_heard_173 7 rfl ?_
          refine xr_goto (tgt := 180) C dX10_heard_175 (by decide) ?_
          refine xr_lv [0, 1, 2, 3, 4, 5, 7] rfl ?_
          exact ebX10_heard_180 C H0 ih131 q hf
theorem ebX10_heard_131 {g : Cfg} (C : Cx g RX10 cX10_heard 8 5 117 0 0) {h : Shp} (H0 : MAt h) {r1 : Int32} {o1 : Mem} (q : QI g (some Jvm.ClassFile.FieldType.int) 0 0 r1 (o1, h)) : ∀ (fu : Nat) {I0 : Mem} {l1 : Int32} {l2 : Int32} {l3 : Int32} {l4 : Int32} {l5 : Int32} {l6 : Int32} {l7 : Int32} (hf : fnX10_heard_131 fu I0 l1 l2 l3 l4 l5 l6 l7 = some (r1, o1)), XE g 0 0 (I0, h) 131 [(0, rf g 111), (1, .int l1), (2, .int l2), (3, .int l3), (4, .int l4), (5, .int l5), (6, .int l6), (7, .int l7)] [] := by
  intro fu
  induction fu with
  | zero =>
    intro I0 l1 l2 l3 l4 l5 l6 l7 hf
    cases hf
  | succ fu ihn =>
    intro I0 l1 l2 l3 l4 l5 l6 l7 hf
    exact ebX10_heard_131b C H0 q (fun _ _ _ _ _ _ _ _ hf => ihn hf) hf
def fnX10_heard_81b (rec81 : Mem → Int32 → Int32 → Int32 → Int32 → Int32 → Option (Int32 × Mem)) (I0 : Mem) (l1 : Int32) (l2 : Int32) (l3 : Int32) (l4 : Int32) (l5 : Int32) : Option (Int32 × Mem) :=
  if l3 ≤ l5 then (fnX10_heard_131 FU I0 l1 l2 l3 l4 0 (-1000000) 0) else (ck (inb ((((40 : Int32) * l1) + l2) + l5) 320) <| ob (fnX10_in I0 ((I0 117 (ix ((((40 : Int32) * l1) + l2) + l5))).toInt64) 0 7) fun ⟨r5, I4⟩ => if r5 = 0 then (some ((-1000001), I4)) else (bnd (l5 + 1) fun v7 => rec81 I4 l1 l2 l3 l4 v7))
def fnX10_heard_81 : Nat → Mem → Int32 → Int32 → Int32 → Int32 → Int32 → Option (Int32 × Mem)
  | 0 => fun _ _ _ _ _ _ => none
  | fu + 1 => fnX10_heard_81b (fnX10_heard_81 fu)
set_option maxRecDepth 20000 in
set_option maxHeartbeats 2000000 in
theorem ebX10_heard_81b {g : Cfg} (C : Cx g RX10 cX10_heard 8 5 117 0 0) {h : Shp} (H0 : MAt h) {r1 : Int32} {o1 : Mem} {rec81 : Mem → Int32 → Int32 → Int32 → Int32 → Int32 → Option (Int32 × Mem)} (q : QI g (some Jvm.ClassFile.FieldType.int) 0 0 r1 (o1, h)) (ih81 : ∀ (I0 : Mem) (l1 : Int32) (l2 : Int32) (l3 : Int32) (l4 : Int32) (l5 : Int32), rec81 I0 l1 l2 l3 l4 l5 = some (r1, o1) → XE g 0 0 (I0, h) 81 [(0, rf g 111), (1, .int l1), (2, .int l2), (3, .int l3), (4, .int l4), (5, .int l5)] []) {I0 : Mem} {l1 : Int32} {l2 : Int32} {l3 : Int32} {l4 : Int32} {l5 : Int32} (hf : fnX10_heard_81b rec81 I0 l1 l2 l3 l4 l5 = some (r1, o1)) : XE g 0 0 (I0, h) 81 [(0, rf g 111), (1, .int l1), (2, .int l2), (3, .int l3), (4, .int l4), (5, .int l5)] [] := by
  unfold fnX10_heard_81b at hf
  refine xr_iload C dX10_heard_81 5 rfl ?_
  refine xr_iload_n C dX10_heard_83 3 rfl rfl ?_
  refine xr_icmp_ge (tgt := 121) C dX10_heard_84 (by decide) hf (fun c1 hf => ?_) (fun c1 hf => ?_)
  · refine xr_iconst (v := 0) C dX10_heard_121 (by decide) ?_
    refine xr_istore C dX10_heard_122 (by decide) rfl ?_
    refine xr_ldc C wk_820 dX10_heard_124 ?_
    refine xr_istore C dX10_heard_126 (by decide) rfl ?_
    refine xr_iconst (v := 0) C dX10_heard_128 (by decide) ?_
    refine xr_istore C dX10_heard_129 (by decide) rfl ?_
    refine xr_lv [3, 4, 5, 6, 7, 2, 1, 0] rfl ?_
    exact ebX10_heard_131 C H0 q _ hf
  · refine xr_aload_n C dX10_heard_87 0 rfl rfl ?_
    refine xr_getr C Kd10 (k := 9) (by decide) rfl wk_830 rfl H0.1 H0.2.2.2.2.2.2.1.1 dX10_heard_88 ?_
    refine xr_bipush (v := 40) C dX10_heard_91 (by decide) ?_
    refine xr_iload_n C dX10_heard_93 1 rfl rfl ?_
    refine xr_imul C dX10_heard_94 ?_
    refine xr_iload_n C dX10_heard_95 2 rfl rfl ?_
    refine xr_iadd C dX10_heard_96 ?_
    refine xr_iload C dX10_heard_97 5 rfl ?_
    refine xr_iadd C dX10_heard_99 ?_
    obtain ⟨i2, hf⟩ := ck_x hf
    refine xr_iald C H0.2.2.2.2.2.2.1.2 i2 dX10_heard_100 ?_
    refine xr_i2l C dX10_heard_101 ?_
    refine xr_lconst (v := 0) C dX10_heard_102 (by decide) ?_
    refine xr_ldc2 C wk_895 dX10_heard_103 ?_
    obtain ⟨⟨r5, I4⟩, h3, hf⟩ := ob_x hf
    refine xr_callSI C [.long ((I0 117 (ix ((((40 : Int32) * l1) + l2) + l5))).toInt64), .long 0, .long 7] lkX10_48 (kX10_in h3) rfl (Nat.le_of_ble_eq_true rfl) rfl dX10_heard_106 ⟨by decide, by decide, by decide⟩ rfl ?_
    refine xr_if_ne (tgt := 115) C dX10_heard_109 (by decide) hf (fun c6 hf => ?_) (fun c6 hf => ?_)
    · obtain ⟨v7, ev7, hf⟩ := bnd_x hf
      refine xr_iinc (k := 5) (v := v7) C dX10_heard_115 rfl (by rw [ev7]; rfl) (by decide) rfl ?_
      refine xr_goto (tgt := 81) C dX10_heard_118 (by decide) ?_
      refine xr_lv [1, 2, 3, 4, 5, 0] rfl ?_
      exact ih81 _ _ _ _ _ _ hf
    · refine xr_ldc C wk_900 dX10_heard_112 ?_
      exact xr_ireturn C q rfl rfl dX10_heard_114 (so_1 hf) (so_w hf)
theorem ebX10_heard_81 {g : Cfg} (C : Cx g RX10 cX10_heard 8 5 117 0 0) {h : Shp} (H0 : MAt h) {r1 : Int32} {o1 : Mem} (q : QI g (some Jvm.ClassFile.FieldType.int) 0 0 r1 (o1, h)) : ∀ (fu : Nat) {I0 : Mem} {l1 : Int32} {l2 : Int32} {l3 : Int32} {l4 : Int32} {l5 : Int32} (hf : fnX10_heard_81 fu I0 l1 l2 l3 l4 l5 = some (r1, o1)), XE g 0 0 (I0, h) 81 [(0, rf g 111), (1, .int l1), (2, .int l2), (3, .int l3), (4, .int l4), (5, .int l5)] [] := by
  intro fu
  induction fu with
  | zero =>
    intro I0 l1 l2 l3 l4 l5 hf
    cases hf
  | succ fu ihn =>
    intro I0 l1 l2 l3 l4 l5 hf
    exact ebX10_heard_81b C H0 q (fun _ _ _ _ _ _ hf => ihn hf) hf
def fnX10_heard_42 (I0 : Mem) : Option (Int32 × Mem) :=
  some ((-1000001), I0)
set_option maxRecDepth 20000 in
set_option maxHeartbeats 2000000 in
theorem ebX10_heard_42 {g : Cfg} (C : Cx g RX10 cX10_heard 8 5 117 0 0) {h : Shp} (H0 : MAt h) {r1 : Int32} {o1 : Mem} (q : QI g (some Jvm.ClassFile.FieldType.int) 0 0 r1 (o1, h)) {I0 : Mem} (hf : fnX10_heard_42 I0 = some (r1, o1)) : XE g 0 0 (I0, h) 42 [] [] := by
  unfold fnX10_heard_42 at hf
  refine xr_ldc C wk_900 dX10_heard_42 ?_
  exact xr_ireturn C q rfl rfl dX10_heard_44 (so_1 hf) (so_w hf)
def fnX10_heard (I0 : Mem) (p1 : Int32) (p2 : Int32) (p3 : Int32) (p4 : Int32) : Option (Int32 × Mem) :=
  ck (inb 0 164) <| if (I0 112 (ix 0)) = 0 then (some ((-1000002), I0)) else (ob (fnX10_isRow I0 p1) fun ⟨r5, I4⟩ => if r5 = 0 then (fnX10_heard_42 I4) else (ob (fnX10_in I4 (p3.toInt64) 1 10) fun ⟨r9, I8⟩ => if r9 = 0 then (fnX10_heard_42 I8) else (ob (fnX10_in I8 (p4.toInt64) 0 1) fun ⟨r13, I12⟩ => if r13 = 0 then (fnX10_heard_42 I12) else (ck (inb p1 8) <| if (I12 115 (ix p1)) = (-1000000) then (ob (fnX10_find I12 1) fun ⟨r26, I25⟩ => some (r26, I25)) else (ob (fnX10_isSpan I12 p1 p2 p3) fun ⟨r19, I18⟩ => if r19 = 0 then (ob (fnX10_find I18 2) fun ⟨r23, I22⟩ => some (r23, I22)) else (fnX10_heard_81 FU I18 p1 p2 p3 p4 0))))))
set_option maxRecDepth 20000 in
set_option maxHeartbeats 2000000 in
theorem ebX10_heard_0 {g : Cfg} (C : Cx g RX10 cX10_heard 8 5 117 0 0) {h : Shp} (H0 : MAt h) {r1 : Int32} {o1 : Mem} (q : QI g (some Jvm.ClassFile.FieldType.int) 0 0 r1 (o1, h)) {I0 : Mem} {p1 : Int32} {p2 : Int32} {p3 : Int32} {p4 : Int32} (hf : fnX10_heard I0 p1 p2 p3 p4 = some (r1, o1)) : XE g 0 0 (I0, h) 0 [(0, rf g 111), (1, .int p1), (2, .int p2), (3, .int p3), (4, .int p4)] [] := by
  unfold fnX10_heard at hf
  refine xr_aload_n C dX10_heard_0 0 rfl rfl ?_
  refine xr_getr C Kd10 (k := 0) (by decide) rfl wk_821 rfl H0.1 H0.2.1.1 dX10_heard_1 ?_
  refine xr_iconst (v := 0) C dX10_heard_4 (by decide) ?_
  obtain ⟨i1, hf⟩ := ck_x hf
  refine xr_iald C H0.2.1.2 i1 dX10_heard_5 ?_
  refine xr_if_ne (tgt := 12) C dX10_heard_6 (by decide) hf (fun c2 hf => ?_) (fun c2 hf => ?_)
  · refine xr_iload_n C dX10_heard_12 1 rfl rfl ?_
    obtain ⟨⟨r5, I4⟩, h3, hf⟩ := ob_x hf
    refine xr_callSI C [.int p1] lkX10_52 (kX10_isRow h3) rfl (Nat.le_of_ble_eq_true rfl) rfl dX10_heard_13 ⟨by decide, by decide, by decide⟩ rfl ?_
    refine xr_if_eq (tgt := 42) C dX10_heard_16 (by decide) hf (fun c6 hf => ?_) (fun c6 hf => ?_)
    · refine xr_lv [] rfl ?_
      exact ebX10_heard_42 C H0 q hf
    · refine xr_iload_n C dX10_heard_19 3 rfl rfl ?_
      refine xr_i2l C dX10_heard_20 ?_
      refine xr_lconst (v := 1) C dX10_heard_21 (by decide) ?_
      refine xr_ldc2 C wk_1122 dX10_heard_22 ?_
      obtain ⟨⟨r9, I8⟩, h7, hf⟩ := ob_x hf
      refine xr_callSI C [.long (p3.toInt64), .long 1, .long 10] lkX10_48 (kX10_in h7) rfl (Nat.le_of_ble_eq_true rfl) rfl dX10_heard_25 ⟨by decide, by decide, by decide⟩ rfl ?_
      refine xr_if_eq (tgt := 42) C dX10_heard_28 (by decide) hf (fun c10 hf => ?_) (fun c10 hf => ?_)
      · refine xr_lv [] rfl ?_
        exact ebX10_heard_42 C H0 q hf
      · refine xr_iload C dX10_heard_31 4 rfl ?_
        refine xr_i2l C dX10_heard_33 ?_
        refine xr_lconst (v := 0) C dX10_heard_34 (by decide) ?_
        refine xr_lconst (v := 1) C dX10_heard_35 (by decide) ?_
        obtain ⟨⟨r13, I12⟩, h11, hf⟩ := ob_x hf
        refine xr_callSI C [.long (p4.toInt64), .long 0, .long 1] lkX10_48 (kX10_in h11) rfl (Nat.le_of_ble_eq_true rfl) rfl dX10_heard_36 ⟨by decide, by decide, by decide⟩ rfl ?_
        refine xr_if_ne (tgt := 45) C dX10_heard_39 (by decide) hf (fun c14 hf => ?_) (fun c14 hf => ?_)
        · refine xr_aload_n C dX10_heard_45 0 rfl rfl ?_
          refine xr_getr C Kd10 (k := 7) (by decide) rfl wk_828 rfl H0.1 H0.2.2.2.2.1.1 dX10_heard_46 ?_
          refine xr_iload_n C dX10_heard_49 1 rfl rfl ?_
          obtain ⟨i15, hf⟩ := ck_x hf
          refine xr_iald C H0.2.2.2.2.1.2 i15 dX10_heard_50 ?_
          refine xr_ldc C wk_820 dX10_heard_51 ?_
          refine xr_icmp_ne (tgt := 62) C dX10_heard_53 (by decide) hf (fun c16 hf => ?_) (fun c16 hf => ?_)
          · refine xr_aload_n C dX10_heard_62 0 rfl rfl ?_
            refine xr_iload_n C dX10_heard_63 1 rfl rfl ?_
            refine xr_iload_n C dX10_heard_64 2 rfl rfl ?_
            refine xr_iload_n C dX10_heard_65 3 rfl rfl ?_
            obtain ⟨⟨r19, I18⟩, h17, hf⟩ := ob_x hf
            refine xr_callVI C [.int p1, .int p2, .int p3] lkX10_66 (kX10_isSpan H0 h17) Kd10 rfl H0.1 rfl (Nat.le_of_ble_eq_true rfl) rfl dX10_heard_66 ⟨by decide, by decide, by decide⟩ rfl ?_
            refine xr_if_ne (tgt := 78) C dX10_heard_69 (by decide) hf (fun c20 hf => ?_) (fun c20 hf => ?_)
            · refine xr_iconst (v := 0) C dX10_heard_78 (by decide) ?_
              refine xr_istore C dX10_heard_79 (by decide) rfl ?_
              refine xr_lv [1, 2, 3, 4, 5, 0] rfl ?_
              exact ebX10_heard_81 C H0 q _ hf
            · refine xr_aload_n C dX10_heard_72 0 rfl rfl ?_
              refine xr_iconst (v := 2) C dX10_heard_73 (by decide) ?_
              obtain ⟨⟨r23, I22⟩, h21, hf⟩ := ob_x hf
              refine xr_callVI C [.int 2] lkX10_59 (kX10_find H0 h21) Kd10 rfl H0.1 rfl (Nat.le_of_ble_eq_true rfl) rfl dX10_heard_74 ⟨by decide, by decide, by decide⟩ rfl ?_
              exact xr_ireturn C q rfl rfl dX10_heard_77 (so_1 hf) (so_w hf)
          · refine xr_aload_n C dX10_heard_56 0 rfl rfl ?_
            refine xr_iconst (v := 1) C dX10_heard_57 (by decide) ?_
            obtain ⟨⟨r26, I25⟩, h24, hf⟩ := ob_x hf
            refine xr_callVI C [.int 1] lkX10_59 (kX10_find H0 h24) Kd10 rfl H0.1 rfl (Nat.le_of_ble_eq_true rfl) rfl dX10_heard_58 ⟨by decide, by decide, by decide⟩ rfl ?_
            exact xr_ireturn C q rfl rfl dX10_heard_61 (so_1 hf) (so_w hf)
        · refine xr_lv [] rfl ?_
          exact ebX10_heard_42 C H0 q hf
  · refine xr_ldc C wk_1011 dX10_heard_9 ?_
    exact xr_ireturn C q rfl rfl dX10_heard_11 (so_1 hf) (so_w hf)
theorem kX10_heard {B : Bs} {h : Shp} (H0 : MAt h) {I0 : Mem} {p1 : Int32} {p2 : Int32} {p3 : Int32} {p4 : Int32} {r1 : Int32} {o1 : Mem} (hf : fnX10_heard I0 p1 p2 p3 p4 = some (r1, o1)) : CtrI B yX10_heard cX10_heard 8 (some Jvm.ClassFile.FieldType.int) 5 117 0 0 [rfB B 111, .int p1, .int p2, .int p3, .int p4] (I0, h) r1 (o1, h) := by
  refine xr_enterI (lv0 := [(0, rfB B 111), (1, .int p1), (2, .int p2), (3, .int p3), (4, .int p4)]) (by decide) (Nat.le_of_ble_eq_true rfl) rfl (fun g hg C q => ?_)
  subst hg
  exact ebX10_heard_0 C H0 q hf
theorem dX10_image_0 : decode cX10_image 0 = .ok (.iload_n 1, 1) := by decide +kernel
theorem dX10_image_1 : decode cX10_image 1 = .ok (.i2l, 1) := by decide +kernel
theorem dX10_image_2 : decode cX10_image 2 = .ok (.lconst 0, 1) := by decide +kernel
theorem dX10_image_3 : decode cX10_image 3 = .ok (.lconst 1, 1) := by decide +kernel
theorem dX10_image_4 : decode cX10_image 4 = .ok (.invokestatic 48, 3) := by decide +kernel
theorem dX10_image_7 : decode cX10_image 7 = .ok (.ifCond .ne 6, 3) := by decide +kernel
theorem dX10_image_10 : decode cX10_image 10 = .ok (.ldc 58, 2) := by decide +kernel
theorem dX10_image_12 : decode cX10_image 12 = .ok (.ireturn, 1) := by decide +kernel
theorem dX10_image_13 : decode cX10_image 13 = .ok (.aload_n 0, 1) := by decide +kernel
theorem dX10_image_14 : decode cX10_image 14 = .ok (.getfield 7, 3) := by decide +kernel
theorem dX10_image_17 : decode cX10_image 17 = .ok (.iconst 0, 1) := by decide +kernel
theorem dX10_image_18 : decode cX10_image 18 = .ok (.iaload, 1) := by decide +kernel
theorem dX10_image_19 : decode cX10_image 19 = .ok (.ifCond .ne 6, 3) := by decide +kernel
theorem dX10_image_22 : decode cX10_image 22 = .ok (.ldc 176, 2) := by decide +kernel
theorem dX10_image_24 : decode cX10_image 24 = .ok (.ireturn, 1) := by decide +kernel
theorem dX10_image_25 : decode cX10_image 25 = .ok (.aload_n 0, 1) := by decide +kernel
theorem dX10_image_26 : decode cX10_image 26 = .ok (.iconst 0, 1) := by decide +kernel
theorem dX10_image_27 : decode cX10_image 27 = .ok (.bipush 41, 2) := by decide +kernel
theorem dX10_image_29 : decode cX10_image 29 = .ok (.iconst 1, 1) := by decide +kernel
theorem dX10_image_30 : decode cX10_image 30 = .ok (.iload_n 1, 1) := by decide +kernel
theorem dX10_image_31 : decode cX10_image 31 = .ok (.iadd, 1) := by decide +kernel
theorem dX10_image_32 : decode cX10_image 32 = .ok (.imul, 1) := by decide +kernel
theorem dX10_image_33 : decode cX10_image 33 = .ok (.invokevirtual 199, 3) := by decide +kernel
theorem dX10_image_36 : decode cX10_image 36 = .ok (.iconst 1, 1) := by decide +kernel
theorem dX10_image_37 : decode cX10_image 37 = .ok (.ireturn, 1) := by decide +kernel
/-! BumperBallsModel.image(I)I -/
def fnX10_image (I0 : Mem) (p1 : Int32) : Option (Int32 × Mem) :=
  ob (fnX10_in I0 (p1.toInt64) 0 1) fun ⟨r3, I2⟩ => if r3 = 0 then (some ((-1000001), I2)) else (ck (inb 0 164) <| if (I2 112 (ix 0)) = 0 then (some ((-1000002), I2)) else (ob (fnX10_copyRow I2 0 ((41 : Int32) * ((1 : Int32) + p1))) fun I8 => some (1, I8)))
set_option maxRecDepth 20000 in
set_option maxHeartbeats 2000000 in
theorem ebX10_image_0 {g : Cfg} (C : Cx g RX10 cX10_image 2 1 25 0 0) {h : Shp} (H0 : MAt h) {r1 : Int32} {o1 : Mem} (q : QI g (some Jvm.ClassFile.FieldType.int) 0 0 r1 (o1, h)) {I0 : Mem} {p1 : Int32} (hf : fnX10_image I0 p1 = some (r1, o1)) : XE g 0 0 (I0, h) 0 [(0, rf g 111), (1, .int p1)] [] := by
  unfold fnX10_image at hf
  refine xr_iload_n C dX10_image_0 1 rfl rfl ?_
  refine xr_i2l C dX10_image_1 ?_
  refine xr_lconst (v := 0) C dX10_image_2 (by decide) ?_
  refine xr_lconst (v := 1) C dX10_image_3 (by decide) ?_
  obtain ⟨⟨r3, I2⟩, h1, hf⟩ := ob_x hf
  refine xr_callSI C [.long (p1.toInt64), .long 0, .long 1] lkX10_48 (kX10_in h1) rfl (Nat.le_of_ble_eq_true rfl) rfl dX10_image_4 ⟨by decide, by decide, by decide⟩ rfl ?_
  refine xr_if_ne (tgt := 13) C dX10_image_7 (by decide) hf (fun c4 hf => ?_) (fun c4 hf => ?_)
  · refine xr_aload_n C dX10_image_13 0 rfl rfl ?_
    refine xr_getr C Kd10 (k := 0) (by decide) rfl wk_821 rfl H0.1 H0.2.1.1 dX10_image_14 ?_
    refine xr_iconst (v := 0) C dX10_image_17 (by decide) ?_
    obtain ⟨i5, hf⟩ := ck_x hf
    refine xr_iald C H0.2.1.2 i5 dX10_image_18 ?_
    refine xr_if_ne (tgt := 25) C dX10_image_19 (by decide) hf (fun c6 hf => ?_) (fun c6 hf => ?_)
    · refine xr_aload_n C dX10_image_25 0 rfl rfl ?_
      refine xr_iconst (v := 0) C dX10_image_26 (by decide) ?_
      refine xr_bipush (v := 41) C dX10_image_27 (by decide) ?_
      refine xr_iconst (v := 1) C dX10_image_29 (by decide) ?_
      refine xr_iload_n C dX10_image_30 1 rfl rfl ?_
      refine xr_iadd C dX10_image_31 ?_
      refine xr_imul C dX10_image_32 ?_
      obtain ⟨I8, h7, hf⟩ := ob_x hf
      refine xr_callVV C [.int 0, .int ((41 : Int32) * ((1 : Int32) + p1))] lkX10_199 (kX10_copyRow H0 h7) Kd10 rfl H0.1 rfl (Nat.le_of_ble_eq_true rfl) rfl dX10_image_33 ⟨by decide, by decide, by decide⟩ rfl ?_
      refine xr_iconst (v := 1) C dX10_image_36 (by decide) ?_
      exact xr_ireturn C q rfl rfl dX10_image_37 (so_1 hf) (so_w hf)
    · refine xr_ldc C wk_1011 dX10_image_22 ?_
      exact xr_ireturn C q rfl rfl dX10_image_24 (so_1 hf) (so_w hf)
  · refine xr_ldc C wk_900 dX10_image_10 ?_
    exact xr_ireturn C q rfl rfl dX10_image_12 (so_1 hf) (so_w hf)
theorem kX10_image {B : Bs} {h : Shp} (H0 : MAt h) {I0 : Mem} {p1 : Int32} {r1 : Int32} {o1 : Mem} (hf : fnX10_image I0 p1 = some (r1, o1)) : CtrI B yX10_image cX10_image 2 (some Jvm.ClassFile.FieldType.int) 1 25 0 0 [rfB B 111, .int p1] (I0, h) r1 (o1, h) := by
  refine xr_enterI (lv0 := [(0, rfB B 111), (1, .int p1)]) (by decide) (Nat.le_of_ble_eq_true rfl) rfl (fun g hg C q => ?_)
  subst hg
  exact ebX10_image_0 C H0 q hf
theorem dX10_restore_0 : decode cX10_restore 0 = .ok (.iload_n 1, 1) := by decide +kernel
theorem dX10_restore_1 : decode cX10_restore 1 = .ok (.i2l, 1) := by decide +kernel
theorem dX10_restore_2 : decode cX10_restore 2 = .ok (.lconst 0, 1) := by decide +kernel
theorem dX10_restore_3 : decode cX10_restore 3 = .ok (.lconst 1, 1) := by decide +kernel
theorem dX10_restore_4 : decode cX10_restore 4 = .ok (.invokestatic 48, 3) := by decide +kernel
theorem dX10_restore_7 : decode cX10_restore 7 = .ok (.ifCond .ne 6, 3) := by decide +kernel
theorem dX10_restore_10 : decode cX10_restore 10 = .ok (.ldc 58, 2) := by decide +kernel
theorem dX10_restore_12 : decode cX10_restore 12 = .ok (.ireturn, 1) := by decide +kernel
theorem dX10_restore_13 : decode cX10_restore 13 = .ok (.aload_n 0, 1) := by decide +kernel
theorem dX10_restore_14 : decode cX10_restore 14 = .ok (.getfield 7, 3) := by decide +kernel
theorem dX10_restore_17 : decode cX10_restore 17 = .ok (.bipush 41, 2) := by decide +kernel
theorem dX10_restore_19 : decode cX10_restore 19 = .ok (.iconst 1, 1) := by decide +kernel
theorem dX10_restore_20 : decode cX10_restore 20 = .ok (.iload_n 1, 1) := by decide +kernel
theorem dX10_restore_21 : decode cX10_restore 21 = .ok (.iadd, 1) := by decide +kernel
theorem dX10_restore_22 : decode cX10_restore 22 = .ok (.imul, 1) := by decide +kernel
theorem dX10_restore_23 : decode cX10_restore 23 = .ok (.iconst 0, 1) := by decide +kernel
theorem dX10_restore_24 : decode cX10_restore 24 = .ok (.iadd, 1) := by decide +kernel
theorem dX10_restore_25 : decode cX10_restore 25 = .ok (.iaload, 1) := by decide +kernel
theorem dX10_restore_26 : decode cX10_restore 26 = .ok (.ifCond .ne 6, 3) := by decide +kernel
theorem dX10_restore_29 : decode cX10_restore 29 = .ok (.ldc 176, 2) := by decide +kernel
theorem dX10_restore_31 : decode cX10_restore 31 = .ok (.ireturn, 1) := by decide +kernel
theorem dX10_restore_32 : decode cX10_restore 32 = .ok (.aload_n 0, 1) := by decide +kernel
theorem dX10_restore_33 : decode cX10_restore 33 = .ok (.bipush 41, 2) := by decide +kernel
theorem dX10_restore_35 : decode cX10_restore 35 = .ok (.iconst 1, 1) := by decide +kernel
theorem dX10_restore_36 : decode cX10_restore 36 = .ok (.iload_n 1, 1) := by decide +kernel
theorem dX10_restore_37 : decode cX10_restore 37 = .ok (.iadd, 1) := by decide +kernel
theorem dX10_restore_38 : decode cX10_restore 38 = .ok (.imul, 1) := by decide +kernel
theorem dX10_restore_39 : decode cX10_restore 39 = .ok (.iconst 0, 1) := by decide +kernel
theorem dX10_restore_40 : decode cX10_restore 40 = .ok (.invokevirtual 199, 3) := by decide +kernel
theorem dX10_restore_43 : decode cX10_restore 43 = .ok (.aload_n 0, 1) := by decide +kernel
theorem dX10_restore_44 : decode cX10_restore 44 = .ok (.iconst 0, 1) := by decide +kernel
theorem dX10_restore_45 : decode cX10_restore 45 = .ok (.putfield 158, 3) := by decide +kernel
theorem dX10_restore_48 : decode cX10_restore 48 = .ok (.iconst 1, 1) := by decide +kernel
theorem dX10_restore_49 : decode cX10_restore 49 = .ok (.ireturn, 1) := by decide +kernel
/-! BumperBallsModel.restore(I)I -/
def fnX10_restore (I0 : Mem) (p1 : Int32) : Option (Int32 × Mem) :=
  ob (fnX10_in I0 (p1.toInt64) 0 1) fun ⟨r3, I2⟩ => if r3 = 0 then (some ((-1000001), I2)) else (ck (inb (((41 : Int32) * ((1 : Int32) + p1)) + 0) 164) <| if (I2 112 (ix (((41 : Int32) * ((1 : Int32) + p1)) + 0))) = 0 then (some ((-1000002), I2)) else (ob (fnX10_copyRow I2 ((41 : Int32) * ((1 : Int32) + p1)) 0) fun I8 => bnd (up2 I8 111 2 0) fun I9 => some (1, I9)))
set_option maxRecDepth 20000 in
set_option maxHeartbeats 2000000 in
theorem ebX10_restore_0 {g : Cfg} (C : Cx g RX10 cX10_restore 2 1 25 0 0) {h : Shp} (H0 : MAt h) {r1 : Int32} {o1 : Mem} (q : QI g (some Jvm.ClassFile.FieldType.int) 0 0 r1 (o1, h)) {I0 : Mem} {p1 : Int32} (hf : fnX10_restore I0 p1 = some (r1, o1)) : XE g 0 0 (I0, h) 0 [(0, rf g 111), (1, .int p1)] [] := by
  unfold fnX10_restore at hf
  refine xr_iload_n C dX10_restore_0 1 rfl rfl ?_
  refine xr_i2l C dX10_restore_1 ?_
  refine xr_lconst (v := 0) C dX10_restore_2 (by decide) ?_
  refine xr_lconst (v := 1) C dX10_restore_3 (by decide) ?_
  obtain ⟨⟨r3, I2⟩, h1, hf⟩ := ob_x hf
  refine xr_callSI C [.long (p1.toInt64), .long 0, .long 1] lkX10_48 (kX10_in h1) rfl (Nat.le_of_ble_eq_true rfl) rfl dX10_restore_4 ⟨by decide, by decide, by decide⟩ rfl ?_
  refine xr_if_ne (tgt := 13) C dX10_restore_7 (by decide) hf (fun c4 hf => ?_) (fun c4 hf => ?_)
  · refine xr_aload_n C dX10_restore_13 0 rfl rfl ?_
    refine xr_getr C Kd10 (k := 0) (by decide) rfl wk_821 rfl H0.1 H0.2.1.1 dX10_restore_14 ?_
    refine xr_bipush (v := 41) C dX10_restore_17 (by decide) ?_
    refine xr_iconst (v := 1) C dX10_restore_19 (by decide) ?_
    refine xr_iload_n C dX10_restore_20 1 rfl rfl ?_
    refine xr_iadd C dX10_restore_21 ?_
    refine xr_imul C dX10_restore_22 ?_
    refine xr_iconst (v := 0) C dX10_restore_23 (by decide) ?_
    refine xr_iadd C dX10_restore_24 ?_
    obtain ⟨i5, hf⟩ := ck_x hf
    refine xr_iald C H0.2.1.2 i5 dX10_restore_25 ?_
    refine xr_if_ne (tgt := 32) C dX10_restore_26 (by decide) hf (fun c6 hf => ?_) (fun c6 hf => ?_)
    · refine xr_aload_n C dX10_restore_32 0 rfl rfl ?_
      refine xr_bipush (v := 41) C dX10_restore_33 (by decide) ?_
      refine xr_iconst (v := 1) C dX10_restore_35 (by decide) ?_
      refine xr_iload_n C dX10_restore_36 1 rfl rfl ?_
      refine xr_iadd C dX10_restore_37 ?_
      refine xr_imul C dX10_restore_38 ?_
      refine xr_iconst (v := 0) C dX10_restore_39 (by decide) ?_
      obtain ⟨I8, h7, hf⟩ := ob_x hf
      refine xr_callVV C [.int ((41 : Int32) * ((1 : Int32) + p1)), .int 0] lkX10_199 (kX10_copyRow H0 h7) Kd10 rfl H0.1 rfl (Nat.le_of_ble_eq_true rfl) rfl dX10_restore_40 ⟨by decide, by decide, by decide⟩ rfl ?_
      refine xr_aload_n C dX10_restore_43 0 rfl rfl ?_
      refine xr_iconst (v := 0) C dX10_restore_44 (by decide) ?_
      obtain ⟨I9, eI9, hf⟩ := bnd_x hf
      refine xr_putI C Kd10 (k := 2) (by decide) rfl rfl wk_823 rfl rfl rfl H0.1 dX10_restore_45 eI9 ?_
      refine xr_iconst (v := 1) C dX10_restore_48 (by decide) ?_
      exact xr_ireturn C q rfl rfl dX10_restore_49 (so_1 hf) (so_w hf)
    · refine xr_ldc C wk_1011 dX10_restore_29 ?_
      exact xr_ireturn C q rfl rfl dX10_restore_31 (so_1 hf) (so_w hf)
  · refine xr_ldc C wk_900 dX10_restore_10 ?_
    exact xr_ireturn C q rfl rfl dX10_restore_12 (so_1 hf) (so_w hf)
theorem kX10_restore {B : Bs} {h : Shp} (H0 : MAt h) {I0 : Mem} {p1 : Int32} {r1 : Int32} {o1 : Mem} (hf : fnX10_restore I0 p1 = some (r1, o1)) : CtrI B yX10_restore cX10_restore 2 (some Jvm.ClassFile.FieldType.int) 1 25 0 0 [rfB B 111, .int p1] (I0, h) r1 (o1, h) := by
  refine xr_enterI (lv0 := [(0, rfB B 111), (1, .int p1)]) (by decide) (Nat.le_of_ble_eq_true rfl) rfl (fun g hg C q => ?_)
  subst hg
  exact ebX10_restore_0 C H0 q hf
theorem dX10_kind_0 : decode cX10_kind 0 = .ok (.aload_n 0, 1) := by decide +kernel
theorem dX10_kind_1 : decode cX10_kind 1 = .ok (.iload_n 1, 1) := by decide +kernel
theorem dX10_kind_2 : decode cX10_kind 2 = .ok (.invokevirtual 194, 3) := by decide +kernel
theorem dX10_kind_5 : decode cX10_kind 5 = .ok (.ifCond .eq 16, 3) := by decide +kernel
theorem dX10_kind_8 : decode cX10_kind 8 = .ok (.aload_n 0, 1) := by decide +kernel
theorem dX10_kind_9 : decode cX10_kind 9 = .ok (.getfield 7, 3) := by decide +kernel
theorem dX10_kind_12 : decode cX10_kind 12 = .ok (.iconst 3, 1) := by decide +kernel
theorem dX10_kind_13 : decode cX10_kind 13 = .ok (.iconst 4, 1) := by decide +kernel
theorem dX10_kind_14 : decode cX10_kind 14 = .ok (.iload_n 1, 1) := by decide +kernel
theorem dX10_kind_15 : decode cX10_kind 15 = .ok (.imul, 1) := by decide +kernel
theorem dX10_kind_16 : decode cX10_kind 16 = .ok (.iadd, 1) := by decide +kernel
theorem dX10_kind_17 : decode cX10_kind 17 = .ok (.iaload, 1) := by decide +kernel
theorem dX10_kind_18 : decode cX10_kind 18 = .ok (.goto 5, 3) := by decide +kernel
theorem dX10_kind_21 : decode cX10_kind 21 = .ok (.ldc 58, 2) := by decide +kernel
theorem dX10_kind_23 : decode cX10_kind 23 = .ok (.ireturn, 1) := by decide +kernel
/-! BumperBallsModel.kind(I)I -/
def fnX10_kind_23 (I0 : Mem) (t0 : Int32) : Option (Int32 × Mem) :=
  some (t0, I0)
set_option maxRecDepth 20000 in
set_option maxHeartbeats 2000000 in
theorem ebX10_kind_23 {g : Cfg} (C : Cx g RX10 cX10_kind 2 2 46 0 0) {h : Shp} (H0 : MAt h) {r1 : Int32} {o1 : Mem} (q : QI g (some Jvm.ClassFile.FieldType.int) 0 0 r1 (o1, h)) {I0 : Mem} {t0 : Int32} (hf : fnX10_kind_23 I0 t0 = some (r1, o1)) : XE g 0 0 (I0, h) 23 [] [.int t0] := by
  unfold fnX10_kind_23 at hf
  exact xr_ireturn C q rfl rfl dX10_kind_23 (so_1 hf) (so_w hf)
def fnX10_kind (I0 : Mem) (p1 : Int32) : Option (Int32 × Mem) :=
  ob (fnX10_isPin I0 p1) fun ⟨r3, I2⟩ => if r3 = 0 then (fnX10_kind_23 I2 (-1000001)) else (ck (inb ((3 : Int32) + ((4 : Int32) * p1)) 164) <| fnX10_kind_23 I2 (I2 112 (ix ((3 : Int32) + ((4 : Int32) * p1)))))
set_option maxRecDepth 20000 in
set_option maxHeartbeats 2000000 in
theorem ebX10_kind_0 {g : Cfg} (C : Cx g RX10 cX10_kind 2 2 46 0 0) {h : Shp} (H0 : MAt h) {r1 : Int32} {o1 : Mem} (q : QI g (some Jvm.ClassFile.FieldType.int) 0 0 r1 (o1, h)) {I0 : Mem} {p1 : Int32} (hf : fnX10_kind I0 p1 = some (r1, o1)) : XE g 0 0 (I0, h) 0 [(0, rf g 111), (1, .int p1)] [] := by
  unfold fnX10_kind at hf
  refine xr_aload_n C dX10_kind_0 0 rfl rfl ?_
  refine xr_iload_n C dX10_kind_1 1 rfl rfl ?_
  obtain ⟨⟨r3, I2⟩, h1, hf⟩ := ob_x hf
  refine xr_callVI C [.int p1] lkX10_194 (kX10_isPin H0 h1) Kd10 rfl H0.1 rfl (Nat.le_of_ble_eq_true rfl) rfl dX10_kind_2 ⟨by decide, by decide, by decide⟩ rfl ?_
  refine xr_if_eq (tgt := 21) C dX10_kind_5 (by decide) hf (fun c4 hf => ?_) (fun c4 hf => ?_)
  · refine xr_ldc C wk_900 dX10_kind_21 ?_
    refine xr_lv [] rfl ?_
    exact ebX10_kind_23 C H0 q hf
  · refine xr_aload_n C dX10_kind_8 0 rfl rfl ?_
    refine xr_getr C Kd10 (k := 0) (by decide) rfl wk_821 rfl H0.1 H0.2.1.1 dX10_kind_9 ?_
    refine xr_iconst (v := 3) C dX10_kind_12 (by decide) ?_
    refine xr_iconst (v := 4) C dX10_kind_13 (by decide) ?_
    refine xr_iload_n C dX10_kind_14 1 rfl rfl ?_
    refine xr_imul C dX10_kind_15 ?_
    refine xr_iadd C dX10_kind_16 ?_
    obtain ⟨i5, hf⟩ := ck_x hf
    refine xr_iald C H0.2.1.2 i5 dX10_kind_17 ?_
    refine xr_goto (tgt := 23) C dX10_kind_18 (by decide) ?_
    refine xr_lv [] rfl ?_
    exact ebX10_kind_23 C H0 q hf
theorem kX10_kind {B : Bs} {h : Shp} (H0 : MAt h) {I0 : Mem} {p1 : Int32} {r1 : Int32} {o1 : Mem} (hf : fnX10_kind I0 p1 = some (r1, o1)) : CtrI B yX10_kind cX10_kind 2 (some Jvm.ClassFile.FieldType.int) 2 46 0 0 [rfB B 111, .int p1] (I0, h) r1 (o1, h) := by
  refine xr_enterI (lv0 := [(0, rfB B 111), (1, .int p1)]) (by decide) (Nat.le_of_ble_eq_true rfl) rfl (fun g hg C q => ?_)
  subst hg
  exact ebX10_kind_0 C H0 q hf
theorem dX10_isKind_0 : decode cX10_isKind 0 = .ok (.iload_n 0, 1) := by decide +kernel
theorem dX10_isKind_1 : decode cX10_isKind 1 = .ok (.iconst 1, 1) := by decide +kernel
theorem dX10_isKind_2 : decode cX10_isKind 2 = .ok (.if_icmp .eq 13, 3) := by decide +kernel
theorem dX10_isKind_5 : decode cX10_isKind 5 = .ok (.iload_n 0, 1) := by decide +kernel
theorem dX10_isKind_6 : decode cX10_isKind 6 = .ok (.iconst 2, 1) := by decide +kernel
theorem dX10_isKind_7 : decode cX10_isKind 7 = .ok (.if_icmp .eq 8, 3) := by decide +kernel
theorem dX10_isKind_10 : decode cX10_isKind 10 = .ok (.iload_n 0, 1) := by decide +kernel
theorem dX10_isKind_11 : decode cX10_isKind 11 = .ok (.iconst 3, 1) := by decide +kernel
theorem dX10_isKind_12 : decode cX10_isKind 12 = .ok (.if_icmp .ne 7, 3) := by decide +kernel
theorem dX10_isKind_15 : decode cX10_isKind 15 = .ok (.iconst 1, 1) := by decide +kernel
theorem dX10_isKind_16 : decode cX10_isKind 16 = .ok (.goto 4, 3) := by decide +kernel
theorem dX10_isKind_19 : decode cX10_isKind 19 = .ok (.iconst 0, 1) := by decide +kernel
theorem dX10_isKind_20 : decode cX10_isKind 20 = .ok (.istore_n 2, 1) := by decide +kernel
theorem dX10_isKind_21 : decode cX10_isKind 21 = .ok (.iload_n 1, 1) := by decide +kernel
theorem dX10_isKind_22 : decode cX10_isKind 22 = .ok (.ifCond .eq 27, 3) := by decide +kernel
theorem dX10_isKind_25 : decode cX10_isKind 25 = .ok (.iload_n 1, 1) := by decide +kernel
theorem dX10_isKind_26 : decode cX10_isKind 26 = .ok (.iload_n 0, 1) := by decide +kernel
theorem dX10_isKind_27 : decode cX10_isKind 27 = .ok (.if_icmp .eq 22, 3) := by decide +kernel
theorem dX10_isKind_30 : decode cX10_isKind 30 = .ok (.iload_n 1, 1) := by decide +kernel
theorem dX10_isKind_31 : decode cX10_isKind 31 = .ok (.iconst 1, 1) := by decide +kernel
theorem dX10_isKind_32 : decode cX10_isKind 32 = .ok (.if_icmp .ne 7, 3) := by decide +kernel
theorem dX10_isKind_35 : decode cX10_isKind 35 = .ok (.iload_n 2, 1) := by decide +kernel
theorem dX10_isKind_36 : decode cX10_isKind 36 = .ok (.ifCond .ne 13, 3) := by decide +kernel
theorem dX10_isKind_39 : decode cX10_isKind 39 = .ok (.iload_n 1, 1) := by decide +kernel
theorem dX10_isKind_40 : decode cX10_isKind 40 = .ok (.iconst 4, 1) := by decide +kernel
theorem dX10_isKind_41 : decode cX10_isKind 41 = .ok (.if_icmp .ne 12, 3) := by decide +kernel
theorem dX10_isKind_44 : decode cX10_isKind 44 = .ok (.iload_n 0, 1) := by decide +kernel
theorem dX10_isKind_45 : decode cX10_isKind 45 = .ok (.iconst 5, 1) := by decide +kernel
theorem dX10_isKind_46 : decode cX10_isKind 46 = .ok (.if_icmp .ne 7, 3) := by decide +kernel
theorem dX10_isKind_49 : decode cX10_isKind 49 = .ok (.iconst 1, 1) := by decide +kernel
theorem dX10_isKind_50 : decode cX10_isKind 50 = .ok (.goto 4, 3) := by decide +kernel
theorem dX10_isKind_53 : decode cX10_isKind 53 = .ok (.iconst 0, 1) := by decide +kernel
theorem dX10_isKind_54 : decode cX10_isKind 54 = .ok (.ireturn, 1) := by decide +kernel
/-! BumperBallsModel.isKind(II)Z -/
def fnX10_isKind_54 (I0 : Mem) (t0 : Int32) : Option (Int32 × Mem) :=
  ck (zb t0) <| some (t0, I0)
set_option maxRecDepth 20000 in
set_option maxHeartbeats 2000000 in
theorem ebX10_isKind_54 {g : Cfg} (C : Cx g RX10 cX10_isKind 3 0 0 0 0) {h : Shp} {r1 : Int32} {o1 : Mem} (q : QI g (some Jvm.ClassFile.FieldType.boolean) 0 0 r1 (o1, h)) {I0 : Mem} {t0 : Int32} (hf : fnX10_isKind_54 I0 t0 = some (r1, o1)) : XE g 0 0 (I0, h) 54 [] [.int t0] := by
  unfold fnX10_isKind_54 at hf
  obtain ⟨z1, hf⟩ := ck_x hf
  exact xr_ireturn C q rfl (zb_ok z1).1 dX10_isKind_54 (so_1 hf) (so_w hf)
def fnX10_isKind_53 (I0 : Mem) : Option (Int32 × Mem) :=
  fnX10_isKind_54 I0 0
set_option maxRecDepth 20000 in
set_option maxHeartbeats 2000000 in
theorem ebX10_isKind_53 {g : Cfg} (C : Cx g RX10 cX10_isKind 3 0 0 0 0) {h : Shp} {r1 : Int32} {o1 : Mem} (q : QI g (some Jvm.ClassFile.FieldType.boolean) 0 0 r1 (o1, h)) {I0 : Mem} (hf : fnX10_isKind_53 I0 = some (r1, o1)) : XE g 0 0 (I0, h) 53 [] [] := by
  unfold fnX10_isKind_53 at hf
  refine xr_iconst (v := 0) C dX10_isKind_53 (by decide) ?_
  exact ebX10_isKind_54 C q hf
def fnX10_isKind_49 (I0 : Mem) : Option (Int32 × Mem) :=
  fnX10_isKind_54 I0 1
set_option maxRecDepth 20000 in
set_option maxHeartbeats 2000000 in
theorem ebX10_isKind_49 {g : Cfg} (C : Cx g RX10 cX10_isKind 3 0 0 0 0) {h : Shp} {r1 : Int32} {o1 : Mem} (q : QI g (some Jvm.ClassFile.FieldType.boolean) 0 0 r1 (o1, h)) {I0 : Mem} (hf : fnX10_isKind_49 I0 = some (r1, o1)) : XE g 0 0 (I0, h) 49 [] [] := by
  unfold fnX10_isKind_49 at hf
  refine xr_iconst (v := 1) C dX10_isKind_49 (by decide) ?_
  refine xr_goto (tgt := 54) C dX10_isKind_50 (by decide) ?_
  exact ebX10_isKind_54 C q hf
def fnX10_isKind_39 (I0 : Mem) (l0 : Int32) (l1 : Int32) : Option (Int32 × Mem) :=
  if l1 = 4 then (if l0 = 5 then (fnX10_isKind_49 I0) else (fnX10_isKind_53 I0)) else (fnX10_isKind_53 I0)
set_option maxRecDepth 20000 in
set_option maxHeartbeats 2000000 in
theorem ebX10_isKind_39 {g : Cfg} (C : Cx g RX10 cX10_isKind 3 0 0 0 0) {h : Shp} {r1 : Int32} {o1 : Mem} (q : QI g (some Jvm.ClassFile.FieldType.boolean) 0 0 r1 (o1, h)) {I0 : Mem} {l0 : Int32} {l1 : Int32} (hf : fnX10_isKind_39 I0 l0 l1 = some (r1, o1)) : XE g 0 0 (I0, h) 39 [(0, .int l0), (1, .int l1)] [] := by
  unfold fnX10_isKind_39 at hf
  refine xr_iload_n C dX10_isKind_39 1 rfl rfl ?_
  refine xr_iconst (v := 4) C dX10_isKind_40 (by decide) ?_
  refine xr_icmp_ne (tgt := 53) C dX10_isKind_41 (by decide) hf (fun c1 hf => ?_) (fun c1 hf => ?_)
  · refine xr_lv [] rfl ?_
    exact ebX10_isKind_53 C q hf
  · refine xr_iload_n C dX10_isKind_44 0 rfl rfl ?_
    refine xr_iconst (v := 5) C dX10_isKind_45 (by decide) ?_
    refine xr_icmp_ne (tgt := 53) C dX10_isKind_46 (by decide) hf (fun c2 hf => ?_) (fun c2 hf => ?_)
    · refine xr_lv [] rfl ?_
      exact ebX10_isKind_53 C q hf
    · refine xr_lv [] rfl ?_
      exact ebX10_isKind_49 C q hf
def fnX10_isKind_20 (I0 : Mem) (l0 : Int32) (l1 : Int32) (t0 : Int32) : Option (Int32 × Mem) :=
  if l1 = 0 then (fnX10_isKind_49 I0) else (if l1 = l0 then (fnX10_isKind_49 I0) else (if l1 = 1 then (if t0 = 0 then (fnX10_isKind_39 I0 l0 l1) else (fnX10_isKind_49 I0)) else (fnX10_isKind_39 I0 l0 l1)))
set_option maxRecDepth 20000 in
set_option maxHeartbeats 2000000 in
theorem ebX10_isKind_20 {g : Cfg} (C : Cx g RX10 cX10_isKind 3 0 0 0 0) {h : Shp} {r1 : Int32} {o1 : Mem} (q : QI g (some Jvm.ClassFile.FieldType.boolean) 0 0 r1 (o1, h)) {I0 : Mem} {l0 : Int32} {l1 : Int32} {t0 : Int32} (hf : fnX10_isKind_20 I0 l0 l1 t0 = some (r1, o1)) : XE g 0 0 (I0, h) 20 [(0, .int l0), (1, .int l1)] [.int t0] := by
  unfold fnX10_isKind_20 at hf
  refine xr_istore_n C dX10_isKind_20 rfl (by decide) rfl ?_
  refine xr_iload_n C dX10_isKind_21 2 rfl rfl ?_
  refine xr_if_eq (tgt := 49) C dX10_isKind_22 (by decide) hf (fun c1 hf => ?_) (fun c1 hf => ?_)
  · refine xr_lv [] rfl ?_
    exact ebX10_isKind_49 C q hf
  · refine xr_iload_n C dX10_isKind_25 2 rfl rfl ?_
    refine xr_iload_n C dX10_isKind_26 1 rfl rfl ?_
    refine xr_icmp_eq (tgt := 49) C dX10_isKind_27 (by decide) hf (fun c2 hf => ?_) (fun c2 hf => ?_)
    · refine xr_lv [] rfl ?_
      exact ebX10_isKind_49 C q hf
    · refine xr_iload_n C dX10_isKind_30 2 rfl rfl ?_
      refine xr_iconst (v := 1) C dX10_isKind_31 (by decide) ?_
      refine xr_icmp_ne (tgt := 39) C dX10_isKind_32 (by decide) hf (fun c3 hf => ?_) (fun c3 hf => ?_)
      · refine xr_lv [1, 2] rfl ?_
        exact ebX10_isKind_39 C q hf
      · refine xr_iload_n C dX10_isKind_35 0 rfl rfl ?_
        refine xr_if_ne (tgt := 49) C dX10_isKind_36 (by decide) hf (fun c4 hf => ?_) (fun c4 hf => ?_)
        · refine xr_lv [] rfl ?_
          exact ebX10_isKind_49 C q hf
        · refine xr_lv [1, 2] rfl ?_
          exact ebX10_isKind_39 C q hf
def fnX10_isKind_15 (I0 : Mem) (l0 : Int32) (l1 : Int32) : Option (Int32 × Mem) :=
  fnX10_isKind_20 I0 l0 l1 1
set_option maxRecDepth 20000 in
set_option maxHeartbeats 2000000 in
theorem ebX10_isKind_15 {g : Cfg} (C : Cx g RX10 cX10_isKind 3 0 0 0 0) {h : Shp} {r1 : Int32} {o1 : Mem} (q : QI g (some Jvm.ClassFile.FieldType.boolean) 0 0 r1 (o1, h)) {I0 : Mem} {l0 : Int32} {l1 : Int32} (hf : fnX10_isKind_15 I0 l0 l1 = some (r1, o1)) : XE g 0 0 (I0, h) 15 [(0, .int l0), (1, .int l1)] [] := by
  unfold fnX10_isKind_15 at hf
  refine xr_iconst (v := 1) C dX10_isKind_15 (by decide) ?_
  refine xr_goto (tgt := 20) C dX10_isKind_16 (by decide) ?_
  exact ebX10_isKind_20 C q hf
def fnX10_isKind (I0 : Mem) (p0 : Int32) (p1 : Int32) : Option (Int32 × Mem) :=
  if p0 = 1 then (fnX10_isKind_15 I0 p0 p1) else (if p0 = 2 then (fnX10_isKind_15 I0 p0 p1) else (if p0 = 3 then (fnX10_isKind_15 I0 p0 p1) else (fnX10_isKind_20 I0 p0 p1 0)))
set_option maxRecDepth 20000 in
set_option maxHeartbeats 2000000 in
theorem ebX10_isKind_0 {g : Cfg} (C : Cx g RX10 cX10_isKind 3 0 0 0 0) {h : Shp} {r1 : Int32} {o1 : Mem} (q : QI g (some Jvm.ClassFile.FieldType.boolean) 0 0 r1 (o1, h)) {I0 : Mem} {p0 : Int32} {p1 : Int32} (hf : fnX10_isKind I0 p0 p1 = some (r1, o1)) : XE g 0 0 (I0, h) 0 [(0, .int p0), (1, .int p1)] [] := by
  unfold fnX10_isKind at hf
  refine xr_iload_n C dX10_isKind_0 0 rfl rfl ?_
  refine xr_iconst (v := 1) C dX10_isKind_1 (by decide) ?_
  refine xr_icmp_eq (tgt := 15) C dX10_isKind_2 (by decide) hf (fun c1 hf => ?_) (fun c1 hf => ?_)
  · exact ebX10_isKind_15 C q hf
  · refine xr_iload_n C dX10_isKind_5 0 rfl rfl ?_
    refine xr_iconst (v := 2) C dX10_isKind_6 (by decide) ?_
    refine xr_icmp_eq (tgt := 15) C dX10_isKind_7 (by decide) hf (fun c2 hf => ?_) (fun c2 hf => ?_)
    · exact ebX10_isKind_15 C q hf
    · refine xr_iload_n C dX10_isKind_10 0 rfl rfl ?_
      refine xr_iconst (v := 3) C dX10_isKind_11 (by decide) ?_
      refine xr_icmp_ne (tgt := 19) C dX10_isKind_12 (by decide) hf (fun c3 hf => ?_) (fun c3 hf => ?_)
      · refine xr_iconst (v := 0) C dX10_isKind_19 (by decide) ?_
        exact ebX10_isKind_20 C q hf
      · exact ebX10_isKind_15 C q hf
theorem kX10_isKind {B : Bs} {h : Shp} {I0 : Mem} {p0 : Int32} {p1 : Int32} {r1 : Int32} {o1 : Mem} (hf : fnX10_isKind I0 p0 p1 = some (r1, o1)) : CtrI B yX10_isKind cX10_isKind 3 (some Jvm.ClassFile.FieldType.boolean) 0 0 0 0 [.int p0, .int p1] (I0, h) r1 (o1, h) := by
  refine xr_enterI (lv0 := [(0, .int p0), (1, .int p1)]) (by decide) (Nat.le_of_ble_eq_true rfl) rfl (fun g hg C q => ?_)
  subst hg
  exact ebX10_isKind_0 C q hf
theorem dX10_as_0 : decode cX10_as 0 = .ok (.aload_n 0, 1) := by decide +kernel
theorem dX10_as_1 : decode cX10_as 1 = .ok (.iload_n 1, 1) := by decide +kernel
theorem dX10_as_2 : decode cX10_as 2 = .ok (.invokevirtual 194, 3) := by decide +kernel
theorem dX10_as_5 : decode cX10_as 5 = .ok (.ifCond .eq 15, 3) := by decide +kernel
theorem dX10_as_8 : decode cX10_as 8 = .ok (.iload_n 2, 1) := by decide +kernel
theorem dX10_as_9 : decode cX10_as 9 = .ok (.i2l, 1) := by decide +kernel
theorem dX10_as_10 : decode cX10_as 10 = .ok (.lconst 0, 1) := by decide +kernel
theorem dX10_as_11 : decode cX10_as 11 = .ok (.ldc2_w 192, 3) := by decide +kernel
theorem dX10_as_14 : decode cX10_as 14 = .ok (.invokestatic 48, 3) := by decide +kernel
theorem dX10_as_17 : decode cX10_as 17 = .ok (.ifCond .ne 6, 3) := by decide +kernel
theorem dX10_as_20 : decode cX10_as 20 = .ok (.ldc 58, 2) := by decide +kernel
theorem dX10_as_22 : decode cX10_as 22 = .ok (.ireturn, 1) := by decide +kernel
theorem dX10_as_23 : decode cX10_as 23 = .ok (.aload_n 0, 1) := by decide +kernel
theorem dX10_as_24 : decode cX10_as 24 = .ok (.getfield 7, 3) := by decide +kernel
theorem dX10_as_27 : decode cX10_as 27 = .ok (.iconst 3, 1) := by decide +kernel
theorem dX10_as_28 : decode cX10_as 28 = .ok (.iconst 4, 1) := by decide +kernel
theorem dX10_as_29 : decode cX10_as 29 = .ok (.iload_n 1, 1) := by decide +kernel
theorem dX10_as_30 : decode cX10_as 30 = .ok (.imul, 1) := by decide +kernel
theorem dX10_as_31 : decode cX10_as 31 = .ok (.iadd, 1) := by decide +kernel
theorem dX10_as_32 : decode cX10_as 32 = .ok (.iaload, 1) := by decide +kernel
theorem dX10_as_33 : decode cX10_as 33 = .ok (.iload_n 2, 1) := by decide +kernel
theorem dX10_as_34 : decode cX10_as 34 = .ok (.invokestatic 228, 3) := by decide +kernel
theorem dX10_as_37 : decode cX10_as 37 = .ok (.ifCond .eq 11, 3) := by decide +kernel
theorem dX10_as_40 : decode cX10_as 40 = .ok (.aload_n 0, 1) := by decide +kernel
theorem dX10_as_41 : decode cX10_as 41 = .ok (.iload_n 1, 1) := by decide +kernel
theorem dX10_as_42 : decode cX10_as 42 = .ok (.invokevirtual 63, 3) := by decide +kernel
theorem dX10_as_45 : decode cX10_as 45 = .ok (.goto 8, 3) := by decide +kernel
theorem dX10_as_48 : decode cX10_as 48 = .ok (.aload_n 0, 1) := by decide +kernel
theorem dX10_as_49 : decode cX10_as 49 = .ok (.iconst 3, 1) := by decide +kernel
theorem dX10_as_50 : decode cX10_as 50 = .ok (.invokevirtual 59, 3) := by decide +kernel
theorem dX10_as_53 : decode cX10_as 53 = .ok (.ireturn, 1) := by decide +kernel
theorem lkX10_228 : LkS "BumperBallsModel" 228 yX10_isKind cX10_isKind 3 (some Jvm.ClassFile.FieldType.boolean) 2 := ⟨wk_1145, wk_11, wk_1144, ⟨by decide +kernel, by decide +kernel, by decide +kernel⟩, wk_1143⟩
/-! BumperBallsModel.as(II)I -/
def fnX10_as_53 (I0 : Mem) (t0 : Int32) : Option (Int32 × Mem) :=
  some (t0, I0)
set_option maxRecDepth 20000 in
set_option maxHeartbeats 2000000 in
theorem ebX10_as_53 {g : Cfg} (C : Cx g RX10 cX10_as 3 2 46 0 0) {h : Shp} (H0 : MAt h) {r1 : Int32} {o1 : Mem} (q : QI g (some Jvm.ClassFile.FieldType.int) 0 0 r1 (o1, h)) {I0 : Mem} {t0 : Int32} (hf : fnX10_as_53 I0 t0 = some (r1, o1)) : XE g 0 0 (I0, h) 53 [] [.int t0] := by
  unfold fnX10_as_53 at hf
  exact xr_ireturn C q rfl rfl dX10_as_53 (so_1 hf) (so_w hf)
def fnX10_as_20 (I0 : Mem) : Option (Int32 × Mem) :=
  some ((-1000001), I0)
set_option maxRecDepth 20000 in
set_option maxHeartbeats 2000000 in
theorem ebX10_as_20 {g : Cfg} (C : Cx g RX10 cX10_as 3 2 46 0 0) {h : Shp} (H0 : MAt h) {r1 : Int32} {o1 : Mem} (q : QI g (some Jvm.ClassFile.FieldType.int) 0 0 r1 (o1, h)) {I0 : Mem} (hf : fnX10_as_20 I0 = some (r1, o1)) : XE g 0 0 (I0, h) 20 [] [] := by
  unfold fnX10_as_20 at hf
  refine xr_ldc C wk_900 dX10_as_20 ?_
  exact xr_ireturn C q rfl rfl dX10_as_22 (so_1 hf) (so_w hf)
def fnX10_as (I0 : Mem) (p1 : Int32) (p2 : Int32) : Option (Int32 × Mem) :=
  ob (fnX10_isPin I0 p1) fun ⟨r3, I2⟩ => if r3 = 0 then (fnX10_as_20 I2) else (ob (fnX10_in I2 (p2.toInt64) 0 5) fun ⟨r7, I6⟩ => if r7 = 0 then (fnX10_as_20 I6) else (ck (inb ((3 : Int32) + ((4 : Int32) * p1)) 164) <| ob (fnX10_isKind I6 (I6 112 (ix ((3 : Int32) + ((4 : Int32) * p1)))) p2) fun ⟨r12, I11⟩ => if r12 = 0 then (ob (fnX10_find I11 3) fun ⟨r16, I15⟩ => fnX10_as_53 I15 r16) else (ob (fnX10_give I11 p1) fun ⟨r19, I18⟩ => fnX10_as_53 I18 r19)))
set_option maxRecDepth 20000 in
set_option maxHeartbeats 2000000 in
theorem ebX10_as_0 {g : Cfg} (C : Cx g RX10 cX10_as 3 2 46 0 0) {h : Shp} (H0 : MAt h) {r1 : Int32} {o1 : Mem} (q : QI g (some Jvm.ClassFile.FieldType.int) 0 0 r1 (o1, h)) {I0 : Mem} {p1 : Int32} {p2 : Int32} (hf : fnX10_as I0 p1 p2 = some (r1, o1)) : XE g 0 0 (I0, h) 0 [(0, rf g 111), (1, .int p1), (2, .int p2)] [] := by
  unfold fnX10_as at hf
  refine xr_aload_n C dX10_as_0 0 rfl rfl ?_
  refine xr_iload_n C dX10_as_1 1 rfl rfl ?_
  obtain ⟨⟨r3, I2⟩, h1, hf⟩ := ob_x hf
  refine xr_callVI C [.int p1] lkX10_194 (kX10_isPin H0 h1) Kd10 rfl H0.1 rfl (Nat.le_of_ble_eq_true rfl) rfl dX10_as_2 ⟨by decide, by decide, by decide⟩ rfl ?_
  refine xr_if_eq (tgt := 20) C dX10_as_5 (by decide) hf (fun c4 hf => ?_) (fun c4 hf => ?_)
  · refine xr_lv [] rfl ?_
    exact ebX10_as_20 C H0 q hf
  · refine xr_iload_n C dX10_as_8 2 rfl rfl ?_
    refine xr_i2l C dX10_as_9 ?_
    refine xr_lconst (v := 0) C dX10_as_10 (by decide) ?_
    refine xr_ldc2 C wk_1063 dX10_as_11 ?_
    obtain ⟨⟨r7, I6⟩, h5, hf⟩ := ob_x hf
    refine xr_callSI C [.long (p2.toInt64), .long 0, .long 5] lkX10_48 (kX10_in h5) rfl (Nat.le_of_ble_eq_true rfl) rfl dX10_as_14 ⟨by decide, by decide, by decide⟩ rfl ?_
    refine xr_if_ne (tgt := 23) C dX10_as_17 (by decide) hf (fun c8 hf => ?_) (fun c8 hf => ?_)
    · refine xr_aload_n C dX10_as_23 0 rfl rfl ?_
      refine xr_getr C Kd10 (k := 0) (by decide) rfl wk_821 rfl H0.1 H0.2.1.1 dX10_as_24 ?_
      refine xr_iconst (v := 3) C dX10_as_27 (by decide) ?_
      refine xr_iconst (v := 4) C dX10_as_28 (by decide) ?_
      refine xr_iload_n C dX10_as_29 1 rfl rfl ?_
      refine xr_imul C dX10_as_30 ?_
      refine xr_iadd C dX10_as_31 ?_
      obtain ⟨i9, hf⟩ := ck_x hf
      refine xr_iald C H0.2.1.2 i9 dX10_as_32 ?_
      refine xr_iload_n C dX10_as_33 2 rfl rfl ?_
      obtain ⟨⟨r12, I11⟩, h10, hf⟩ := ob_x hf
      refine xr_callSI C [.int (I6 112 (ix ((3 : Int32) + ((4 : Int32) * p1)))), .int p2] lkX10_228 (kX10_isKind h10) rfl (Nat.le_of_ble_eq_true rfl) rfl dX10_as_34 ⟨by decide, by decide, by decide⟩ rfl ?_
      refine xr_if_eq (tgt := 48) C dX10_as_37 (by decide) hf (fun c13 hf => ?_) (fun c13 hf => ?_)
      · refine xr_aload_n C dX10_as_48 0 rfl rfl ?_
        refine xr_iconst (v := 3) C dX10_as_49 (by decide) ?_
        obtain ⟨⟨r16, I15⟩, h14, hf⟩ := ob_x hf
        refine xr_callVI C [.int 3] lkX10_59 (kX10_find H0 h14) Kd10 rfl H0.1 rfl (Nat.le_of_ble_eq_true rfl) rfl dX10_as_50 ⟨by decide, by decide, by decide⟩ rfl ?_
        refine xr_lv [] rfl ?_
        exact ebX10_as_53 C H0 q hf
      · refine xr_aload_n C dX10_as_40 0 rfl rfl ?_
        refine xr_iload_n C dX10_as_41 1 rfl rfl ?_
        obtain ⟨⟨r19, I18⟩, h17, hf⟩ := ob_x hf
        refine xr_callVI C [.int p1] lkX10_63 (kX10_give H0 h17) Kd10 rfl H0.1 rfl (Nat.le_of_ble_eq_true rfl) rfl dX10_as_42 ⟨by decide, by decide, by decide⟩ rfl ?_
        refine xr_goto (tgt := 53) C dX10_as_45 (by decide) ?_
        refine xr_lv [] rfl ?_
        exact ebX10_as_53 C H0 q hf
    · refine xr_lv [] rfl ?_
      exact ebX10_as_20 C H0 q hf
theorem kX10_as {B : Bs} {h : Shp} (H0 : MAt h) {I0 : Mem} {p1 : Int32} {p2 : Int32} {r1 : Int32} {o1 : Mem} (hf : fnX10_as I0 p1 p2 = some (r1, o1)) : CtrI B yX10_as cX10_as 3 (some Jvm.ClassFile.FieldType.int) 2 46 0 0 [rfB B 111, .int p1, .int p2] (I0, h) r1 (o1, h) := by
  refine xr_enterI (lv0 := [(0, rfB B 111), (1, .int p1), (2, .int p2)]) (by decide) (Nat.le_of_ble_eq_true rfl) rfl (fun g hg C q => ?_)
  subst hg
  exact ebX10_as_0 C H0 q hf
theorem dX10_leave_0 : decode cX10_leave 0 = .ok (.aload_n 0, 1) := by decide +kernel
theorem dX10_leave_1 : decode cX10_leave 1 = .ok (.getfield 231, 3) := by decide +kernel
theorem dX10_leave_4 : decode cX10_leave 4 = .ok (.bipush 16, 2) := by decide +kernel
theorem dX10_leave_6 : decode cX10_leave 6 = .ok (.if_icmp .ge 23, 3) := by decide +kernel
theorem dX10_leave_9 : decode cX10_leave 9 = .ok (.aload_n 0, 1) := by decide +kernel
theorem dX10_leave_10 : decode cX10_leave 10 = .ok (.getfield 29, 3) := by decide +kernel
theorem dX10_leave_13 : decode cX10_leave 13 = .ok (.aload_n 0, 1) := by decide +kernel
theorem dX10_leave_14 : decode cX10_leave 14 = .ok (.getfield 231, 3) := by decide +kernel
theorem dX10_leave_17 : decode cX10_leave 17 = .ok (.iload_n 1, 1) := by decide +kernel
theorem dX10_leave_18 : decode cX10_leave 18 = .ok (.iastore, 1) := by decide +kernel
theorem dX10_leave_19 : decode cX10_leave 19 = .ok (.aload_n 0, 1) := by decide +kernel
theorem dX10_leave_20 : decode cX10_leave 20 = .ok (.dup, 1) := by decide +kernel
theorem dX10_leave_21 : decode cX10_leave 21 = .ok (.getfield 231, 3) := by decide +kernel
theorem dX10_leave_24 : decode cX10_leave 24 = .ok (.iconst 1, 1) := by decide +kernel
theorem dX10_leave_25 : decode cX10_leave 25 = .ok (.iadd, 1) := by decide +kernel
theorem dX10_leave_26 : decode cX10_leave 26 = .ok (.putfield 231, 3) := by decide +kernel
theorem dX10_leave_29 : decode cX10_leave 29 = .ok (.return_, 1) := by decide +kernel
/-! BumperBallsModel.leave(I)V -/
def fnX10_leave_29 (I0 : Mem) : Option Mem :=
  some I0
set_option maxRecDepth 20000 in
set_option maxHeartbeats 2000000 in
theorem ebX10_leave_29 {g : Cfg} (C : Cx g RX10 cX10_leave 2 0 0 0 0) {h : Shp} (H0 : MAt h) {o1 : Mem} (q : QV g 0 0 (o1, h)) {I0 : Mem} (hf : fnX10_leave_29 I0 = some o1) : XE g 0 0 (I0, h) 29 [] [] := by
  unfold fnX10_leave_29 at hf
  exact xr_return C q dX10_leave_29 (so_v hf)
def fnX10_leave (I0 : Mem) (p1 : Int32) : Option Mem :=
  if 16 ≤ (I0 111 11) then (fnX10_leave_29 I0) else (ck (inb (I0 111 11) 16) <| bnd (up2 I0 118 (ix (I0 111 11)) p1) fun I3 => bnd (up2 I3 111 11 ((I3 111 11) + 1)) fun I4 => fnX10_leave_29 I4)
set_option maxRecDepth 20000 in
set_option maxHeartbeats 2000000 in
theorem ebX10_leave_0 {g : Cfg} (C : Cx g RX10 cX10_leave 2 0 0 0 0) {h : Shp} (H0 : MAt h) {o1 : Mem} (q : QV g 0 0 (o1, h)) {I0 : Mem} {p1 : Int32} (hf : fnX10_leave I0 p1 = some o1) : XE g 0 0 (I0, h) 0 [(0, rf g 111), (1, .int p1)] [] := by
  unfold fnX10_leave at hf
  refine xr_aload_n C dX10_leave_0 0 rfl rfl ?_
  refine xr_geti C Kd10 (k := 11) (by decide) rfl wk_832 rfl H0.1 dX10_leave_1 ?_
  refine xr_bipush (v := 16) C dX10_leave_4 (by decide) ?_
  refine xr_icmp_ge (tgt := 29) C dX10_leave_6 (by decide) hf (fun c1 hf => ?_) (fun c1 hf => ?_)
  · refine xr_lv [] rfl ?_
    exact ebX10_leave_29 C H0 q hf
  · refine xr_aload_n C dX10_leave_9 0 rfl rfl ?_
    refine xr_getr C Kd10 (k := 10) (by decide) rfl wk_831 rfl H0.1 H0.2.2.2.2.2.2.2.1.1 dX10_leave_10 ?_
    refine xr_aload_n C dX10_leave_13 0 rfl rfl ?_
    refine xr_geti C Kd10 (k := 11) (by decide) rfl wk_832 rfl H0.1 dX10_leave_14 ?_
    refine xr_iload_n C dX10_leave_17 1 rfl rfl ?_
    obtain ⟨i2, hf⟩ := ck_x hf
    obtain ⟨I3, eI3, hf⟩ := bnd_x hf
    refine xr_iast C H0.2.2.2.2.2.2.2.1.2 i2 dX10_leave_18 eI3 ?_
    refine xr_aload_n C dX10_leave_19 0 rfl rfl ?_
    refine xr_dup C dX10_leave_20 rfl ?_
    refine xr_geti C Kd10 (k := 11) (by decide) rfl wk_832 rfl H0.1 dX10_leave_21 ?_
    refine xr_iconst (v := 1) C dX10_leave_24 (by decide) ?_
    refine xr_iadd C dX10_leave_25 ?_
    obtain ⟨I4, eI4, hf⟩ := bnd_x hf
    refine xr_putI C Kd10 (k := 11) (by decide) rfl rfl wk_832 rfl rfl rfl H0.1 dX10_leave_26 eI4 ?_
    refine xr_lv [] rfl ?_
    exact ebX10_leave_29 C H0 q hf
theorem kX10_leave {B : Bs} {h : Shp} (H0 : MAt h) {I0 : Mem} {p1 : Int32} {o1 : Mem} (hf : fnX10_leave I0 p1 = some o1) : CtrV B yX10_leave cX10_leave 2 0 0 0 0 [rfB B 111, .int p1] (I0, h) (o1, h) := by
  refine xr_enterV (lv0 := [(0, rfB B 111), (1, .int p1)]) (by decide) (Nat.le_of_ble_eq_true rfl) rfl (fun g hg C q => ?_)
  subst hg
  exact ebX10_leave_0 C H0 q hf
theorem dX10_paysBody_0 : decode cX10_paysBody 0 = .ok (.aload_n 0, 1) := by decide +kernel
theorem dX10_paysBody_1 : decode cX10_paysBody 1 = .ok (.bipush 10, 2) := by decide +kernel
theorem dX10_paysBody_3 : decode cX10_paysBody 3 = .ok (.invokevirtual 234, 3) := by decide +kernel
theorem dX10_paysBody_6 : decode cX10_paysBody 6 = .ok (.aload_n 0, 1) := by decide +kernel
theorem dX10_paysBody_7 : decode cX10_paysBody 7 = .ok (.getfield 7, 3) := by decide +kernel
theorem dX10_paysBody_10 : decode cX10_paysBody 10 = .ok (.iconst 3, 1) := by decide +kernel
theorem dX10_paysBody_11 : decode cX10_paysBody 11 = .ok (.iconst 4, 1) := by decide +kernel
theorem dX10_paysBody_12 : decode cX10_paysBody 12 = .ok (.iload_n 1, 1) := by decide +kernel
theorem dX10_paysBody_13 : decode cX10_paysBody 13 = .ok (.imul, 1) := by decide +kernel
theorem dX10_paysBody_14 : decode cX10_paysBody 14 = .ok (.iadd, 1) := by decide +kernel
theorem dX10_paysBody_15 : decode cX10_paysBody 15 = .ok (.iconst 3, 1) := by decide +kernel
theorem dX10_paysBody_16 : decode cX10_paysBody 16 = .ok (.iadd, 1) := by decide +kernel
theorem dX10_paysBody_17 : decode cX10_paysBody 17 = .ok (.iaload, 1) := by decide +kernel
theorem dX10_paysBody_18 : decode cX10_paysBody 18 = .ok (.ireturn, 1) := by decide +kernel
theorem lkX10_234 : LkV "BumperBallsModel" 234 yX10_leave cX10_leave 2 none 1 := ⟨wk_1161, wk_11, wk_1160, wk_s94, ⟨by decide +kernel, by decide +kernel, by decide +kernel⟩, wk_1158⟩
/-! BumperBallsModel.paysBody(I)I -/
def fnX10_paysBody (I0 : Mem) (p1 : Int32) : Option (Int32 × Mem) :=
  ob (fnX10_leave I0 10) fun I2 => ck (inb (((3 : Int32) + ((4 : Int32) * p1)) + 3) 164) <| some ((I2 112 (ix (((3 : Int32) + ((4 : Int32) * p1)) + 3))), I2)
set_option maxRecDepth 20000 in
set_option maxHeartbeats 2000000 in
theorem ebX10_paysBody_0 {g : Cfg} (C : Cx g RX10 cX10_paysBody 2 1 21 0 0) {h : Shp} (H0 : MAt h) {r1 : Int32} {o1 : Mem} (q : QI g (some Jvm.ClassFile.FieldType.int) 0 0 r1 (o1, h)) {I0 : Mem} {p1 : Int32} (hf : fnX10_paysBody I0 p1 = some (r1, o1)) : XE g 0 0 (I0, h) 0 [(0, rf g 111), (1, .int p1)] [] := by
  unfold fnX10_paysBody at hf
  refine xr_aload_n C dX10_paysBody_0 0 rfl rfl ?_
  refine xr_bipush (v := 10) C dX10_paysBody_1 (by decide) ?_
  obtain ⟨I2, h1, hf⟩ := ob_x hf
  refine xr_callVV C [.int 10] lkX10_234 (kX10_leave H0 h1) Kd10 rfl H0.1 rfl (Nat.le_of_ble_eq_true rfl) rfl dX10_paysBody_3 ⟨by decide, by decide, by decide⟩ rfl ?_
  refine xr_aload_n C dX10_paysBody_6 0 rfl rfl ?_
  refine xr_getr C Kd10 (k := 0) (by decide) rfl wk_821 rfl H0.1 H0.2.1.1 dX10_paysBody_7 ?_
  refine xr_iconst (v := 3) C dX10_paysBody_10 (by decide) ?_
  refine xr_iconst (v := 4) C dX10_paysBody_11 (by decide) ?_
  refine xr_iload_n C dX10_paysBody_12 1 rfl rfl ?_
  refine xr_imul C dX10_paysBody_13 ?_
  refine xr_iadd C dX10_paysBody_14 ?_
  refine xr_iconst (v := 3) C dX10_paysBody_15 (by decide) ?_
  refine xr_iadd C dX10_paysBody_16 ?_
  obtain ⟨i3, hf⟩ := ck_x hf
  refine xr_iald C H0.2.1.2 i3 dX10_paysBody_17 ?_
  exact xr_ireturn C q rfl rfl dX10_paysBody_18 (so_1 hf) (so_w hf)
theorem kX10_paysBody {B : Bs} {h : Shp} (H0 : MAt h) {I0 : Mem} {p1 : Int32} {r1 : Int32} {o1 : Mem} (hf : fnX10_paysBody I0 p1 = some (r1, o1)) : CtrI B yX10_paysBody cX10_paysBody 2 (some Jvm.ClassFile.FieldType.int) 1 21 0 0 [rfB B 111, .int p1] (I0, h) r1 (o1, h) := by
  refine xr_enterI (lv0 := [(0, rfB B 111), (1, .int p1)]) (by decide) (Nat.le_of_ble_eq_true rfl) rfl (fun g hg C q => ?_)
  subst hg
  exact ebX10_paysBody_0 C H0 q hf
theorem dX10_numberBody_0 : decode cX10_numberBody 0 = .ok (.aload_n 0, 1) := by decide +kernel
theorem dX10_numberBody_1 : decode cX10_numberBody 1 = .ok (.bipush 20, 2) := by decide +kernel
theorem dX10_numberBody_3 : decode cX10_numberBody 3 = .ok (.invokevirtual 234, 3) := by decide +kernel
theorem dX10_numberBody_6 : decode cX10_numberBody 6 = .ok (.iload_n 1, 1) := by decide +kernel
theorem dX10_numberBody_7 : decode cX10_numberBody 7 = .ok (.ireturn, 1) := by decide +kernel
/-! BumperBallsModel.numberBody(I)I -/
def fnX10_numberBody (I0 : Mem) (p1 : Int32) : Option (Int32 × Mem) :=
  ob (fnX10_leave I0 20) fun I2 => some (p1, I2)
set_option maxRecDepth 20000 in
set_option maxHeartbeats 2000000 in
theorem ebX10_numberBody_0 {g : Cfg} (C : Cx g RX10 cX10_numberBody 2 1 21 0 0) {h : Shp} (H0 : MAt h) {r1 : Int32} {o1 : Mem} (q : QI g (some Jvm.ClassFile.FieldType.int) 0 0 r1 (o1, h)) {I0 : Mem} {p1 : Int32} (hf : fnX10_numberBody I0 p1 = some (r1, o1)) : XE g 0 0 (I0, h) 0 [(0, rf g 111), (1, .int p1)] [] := by
  unfold fnX10_numberBody at hf
  refine xr_aload_n C dX10_numberBody_0 0 rfl rfl ?_
  refine xr_bipush (v := 20) C dX10_numberBody_1 (by decide) ?_
  obtain ⟨I2, h1, hf⟩ := ob_x hf
  refine xr_callVV C [.int 20] lkX10_234 (kX10_leave H0 h1) Kd10 rfl H0.1 rfl (Nat.le_of_ble_eq_true rfl) rfl dX10_numberBody_3 ⟨by decide, by decide, by decide⟩ rfl ?_
  refine xr_iload_n C dX10_numberBody_6 1 rfl rfl ?_
  exact xr_ireturn C q rfl rfl dX10_numberBody_7 (so_1 hf) (so_w hf)
theorem kX10_numberBody {B : Bs} {h : Shp} (H0 : MAt h) {I0 : Mem} {p1 : Int32} {r1 : Int32} {o1 : Mem} (hf : fnX10_numberBody I0 p1 = some (r1, o1)) : CtrI B yX10_numberBody cX10_numberBody 2 (some Jvm.ClassFile.FieldType.int) 1 21 0 0 [rfB B 111, .int p1] (I0, h) r1 (o1, h) := by
  refine xr_enterI (lv0 := [(0, rfB B 111), (1, .int p1)]) (by decide) (Nat.le_of_ble_eq_true rfl) rfl (fun g hg C q => ?_)
  subst hg
  exact ebX10_numberBody_0 C H0 q hf
theorem dX10_struckBody_0 : decode cX10_struckBody 0 = .ok (.aload_n 0, 1) := by decide +kernel
theorem dX10_struckBody_1 : decode cX10_struckBody 1 = .ok (.bipush 21, 2) := by decide +kernel
theorem dX10_struckBody_3 : decode cX10_struckBody 3 = .ok (.invokevirtual 234, 3) := by decide +kernel
theorem dX10_struckBody_6 : decode cX10_struckBody 6 = .ok (.aload_n 0, 1) := by decide +kernel
theorem dX10_struckBody_7 : decode cX10_struckBody 7 = .ok (.iload_n 1, 1) := by decide +kernel
theorem dX10_struckBody_8 : decode cX10_struckBody 8 = .ok (.invokevirtual 237, 3) := by decide +kernel
theorem dX10_struckBody_11 : decode cX10_struckBody 11 = .ok (.aload_n 0, 1) := by decide +kernel
theorem dX10_struckBody_12 : decode cX10_struckBody 12 = .ok (.getfield 7, 3) := by decide +kernel
theorem dX10_struckBody_15 : decode cX10_struckBody 15 = .ok (.bipush 35, 2) := by decide +kernel
theorem dX10_struckBody_17 : decode cX10_struckBody 17 = .ok (.iload_n 1, 1) := by decide +kernel
theorem dX10_struckBody_18 : decode cX10_struckBody 18 = .ok (.iadd, 1) := by decide +kernel
theorem dX10_struckBody_19 : decode cX10_struckBody 19 = .ok (.iaload, 1) := by decide +kernel
theorem dX10_struckBody_20 : decode cX10_struckBody 20 = .ok (.iadd, 1) := by decide +kernel
theorem dX10_struckBody_21 : decode cX10_struckBody 21 = .ok (.ireturn, 1) := by decide +kernel
theorem lkX10_237 : LkV "BumperBallsModel" 237 yX10_numberBody cX10_numberBody 2 (some Jvm.ClassFile.FieldType.int) 1 := ⟨wk_1177, wk_11, wk_1176, wk_s98, ⟨by decide +kernel, by decide +kernel, by decide +kernel⟩, wk_1174⟩
/-! BumperBallsModel.struckBody(I)I -/
def fnX10_struckBody (I0 : Mem) (p1 : Int32) : Option (Int32 × Mem) :=
  ob (fnX10_leave I0 21) fun I2 => ob (fnX10_numberBody I2 p1) fun ⟨r5, I4⟩ => ck (inb ((35 : Int32) + p1) 164) <| some ((r5 + (I4 112 (ix ((35 : Int32) + p1)))), I4)
set_option maxRecDepth 20000 in
set_option maxHeartbeats 2000000 in
theorem ebX10_struckBody_0 {g : Cfg} (C : Cx g RX10 cX10_struckBody 2 2 42 0 0) {h : Shp} (H0 : MAt h) {r1 : Int32} {o1 : Mem} (q : QI g (some Jvm.ClassFile.FieldType.int) 0 0 r1 (o1, h)) {I0 : Mem} {p1 : Int32} (hf : fnX10_struckBody I0 p1 = some (r1, o1)) : XE g 0 0 (I0, h) 0 [(0, rf g 111), (1, .int p1)] [] := by
  unfold fnX10_struckBody at hf
  refine xr_aload_n C dX10_struckBody_0 0 rfl rfl ?_
  refine xr_bipush (v := 21) C dX10_struckBody_1 (by decide) ?_
  obtain ⟨I2, h1, hf⟩ := ob_x hf
  refine xr_callVV C [.int 21] lkX10_234 (kX10_leave H0 h1) Kd10 rfl H0.1 rfl (Nat.le_of_ble_eq_true rfl) rfl dX10_struckBody_3 ⟨by decide, by decide, by decide⟩ rfl ?_
  refine xr_aload_n C dX10_struckBody_6 0 rfl rfl ?_
  refine xr_iload_n C dX10_struckBody_7 1 rfl rfl ?_
  obtain ⟨⟨r5, I4⟩, h3, hf⟩ := ob_x hf
  refine xr_callVI C [.int p1] lkX10_237 (kX10_numberBody H0 h3) Kd10 rfl H0.1 rfl (Nat.le_of_ble_eq_true rfl) rfl dX10_struckBody_8 ⟨by decide, by decide, by decide⟩ rfl ?_
  refine xr_aload_n C dX10_struckBody_11 0 rfl rfl ?_
  refine xr_getr C Kd10 (k := 0) (by decide) rfl wk_821 rfl H0.1 H0.2.1.1 dX10_struckBody_12 ?_
  refine xr_bipush (v := 35) C dX10_struckBody_15 (by decide) ?_
  refine xr_iload_n C dX10_struckBody_17 1 rfl rfl ?_
  refine xr_iadd C dX10_struckBody_18 ?_
  obtain ⟨i6, hf⟩ := ck_x hf
  refine xr_iald C H0.2.1.2 i6 dX10_struckBody_19 ?_
  refine xr_iadd C dX10_struckBody_20 ?_
  exact xr_ireturn C q rfl rfl dX10_struckBody_21 (so_1 hf) (so_w hf)
theorem kX10_struckBody {B : Bs} {h : Shp} (H0 : MAt h) {I0 : Mem} {p1 : Int32} {r1 : Int32} {o1 : Mem} (hf : fnX10_struckBody I0 p1 = some (r1, o1)) : CtrI B yX10_struckBody cX10_struckBody 2 (some Jvm.ClassFile.FieldType.int) 2 42 0 0 [rfB B 111, .int p1] (I0, h) r1 (o1, h) := by
  refine xr_enterI (lv0 := [(0, rfB B 111), (1, .int p1)]) (by decide) (Nat.le_of_ble_eq_true rfl) rfl (fun g hg C q => ?_)
  subst hg
  exact ebX10_struckBody_0 C H0 q hf
theorem dX10_markOfBumper_0 : decode cX10_markOfBumper 0 = .ok (.aload_n 0, 1) := by decide +kernel
theorem dX10_markOfBumper_1 : decode cX10_markOfBumper 1 = .ok (.getfield 7, 3) := by decide +kernel
theorem dX10_markOfBumper_4 : decode cX10_markOfBumper 4 = .ok (.iconst 3, 1) := by decide +kernel
theorem dX10_markOfBumper_5 : decode cX10_markOfBumper 5 = .ok (.iconst 4, 1) := by decide +kernel
theorem dX10_markOfBumper_6 : decode cX10_markOfBumper 6 = .ok (.iload_n 1, 1) := by decide +kernel
theorem dX10_markOfBumper_7 : decode cX10_markOfBumper 7 = .ok (.imul, 1) := by decide +kernel
theorem dX10_markOfBumper_8 : decode cX10_markOfBumper 8 = .ok (.iadd, 1) := by decide +kernel
theorem dX10_markOfBumper_9 : decode cX10_markOfBumper 9 = .ok (.iaload, 1) := by decide +kernel
theorem dX10_markOfBumper_10 : decode cX10_markOfBumper 10 = .ok (.istore_n 2, 1) := by decide +kernel
theorem dX10_markOfBumper_11 : decode cX10_markOfBumper 11 = .ok (.iload_n 2, 1) := by decide +kernel
theorem dX10_markOfBumper_12 : decode cX10_markOfBumper 12 = .ok (.iconst 1, 1) := by decide +kernel
theorem dX10_markOfBumper_13 : decode cX10_markOfBumper 13 = .ok (.if_icmp .ne 9, 3) := by decide +kernel
theorem dX10_markOfBumper_16 : decode cX10_markOfBumper 16 = .ok (.aload_n 0, 1) := by decide +kernel
theorem dX10_markOfBumper_17 : decode cX10_markOfBumper 17 = .ok (.iload_n 1, 1) := by decide +kernel
theorem dX10_markOfBumper_18 : decode cX10_markOfBumper 18 = .ok (.invokevirtual 240, 3) := by decide +kernel
theorem dX10_markOfBumper_21 : decode cX10_markOfBumper 21 = .ok (.ireturn, 1) := by decide +kernel
theorem dX10_markOfBumper_22 : decode cX10_markOfBumper 22 = .ok (.aload_n 0, 1) := by decide +kernel
theorem dX10_markOfBumper_23 : decode cX10_markOfBumper 23 = .ok (.iload_n 2, 1) := by decide +kernel
theorem dX10_markOfBumper_24 : decode cX10_markOfBumper 24 = .ok (.iconst 3, 1) := by decide +kernel
theorem dX10_markOfBumper_25 : decode cX10_markOfBumper 25 = .ok (.if_icmp .ne 8, 3) := by decide +kernel
theorem dX10_markOfBumper_28 : decode cX10_markOfBumper 28 = .ok (.bipush 22, 2) := by decide +kernel
theorem dX10_markOfBumper_30 : decode cX10_markOfBumper 30 = .ok (.goto 5, 3) := by decide +kernel
theorem dX10_markOfBumper_33 : decode cX10_markOfBumper 33 = .ok (.bipush 24, 2) := by decide +kernel
theorem dX10_markOfBumper_35 : decode cX10_markOfBumper 35 = .ok (.invokevirtual 234, 3) := by decide +kernel
theorem dX10_markOfBumper_38 : decode cX10_markOfBumper 38 = .ok (.aload_n 0, 1) := by decide +kernel
theorem dX10_markOfBumper_39 : decode cX10_markOfBumper 39 = .ok (.iload_n 1, 1) := by decide +kernel
theorem dX10_markOfBumper_40 : decode cX10_markOfBumper 40 = .ok (.invokevirtual 240, 3) := by decide +kernel
theorem dX10_markOfBumper_43 : decode cX10_markOfBumper 43 = .ok (.istore_n 3, 1) := by decide +kernel
theorem dX10_markOfBumper_44 : decode cX10_markOfBumper 44 = .ok (.iload_n 2, 1) := by decide +kernel
theorem dX10_markOfBumper_45 : decode cX10_markOfBumper 45 = .ok (.iconst 3, 1) := by decide +kernel
theorem dX10_markOfBumper_46 : decode cX10_markOfBumper 46 = .ok (.if_icmp .ne 11, 3) := by decide +kernel
theorem dX10_markOfBumper_49 : decode cX10_markOfBumper 49 = .ok (.iload_n 3, 1) := by decide +kernel
theorem dX10_markOfBumper_50 : decode cX10_markOfBumper 50 = .ok (.sipush 1000, 3) := by decide +kernel
theorem dX10_markOfBumper_53 : decode cX10_markOfBumper 53 = .ok (.isub, 1) := by decide +kernel
theorem dX10_markOfBumper_54 : decode cX10_markOfBumper 54 = .ok (.goto 6, 3) := by decide +kernel
theorem dX10_markOfBumper_57 : decode cX10_markOfBumper 57 = .ok (.iconst 2, 1) := by decide +kernel
theorem dX10_markOfBumper_58 : decode cX10_markOfBumper 58 = .ok (.iload_n 3, 1) := by decide +kernel
theorem dX10_markOfBumper_59 : decode cX10_markOfBumper 59 = .ok (.imul, 1) := by decide +kernel
theorem dX10_markOfBumper_60 : decode cX10_markOfBumper 60 = .ok (.ireturn, 1) := by decide +kernel
theorem lkX10_240 : LkV "BumperBallsModel" 240 yX10_struckBody cX10_struckBody 2 (some Jvm.ClassFile.FieldType.int) 1 := ⟨wk_1173, wk_11, wk_1172, wk_s97, ⟨by decide +kernel, by decide +kernel, by decide +kernel⟩, wk_1170⟩
/-! BumperBallsModel.markOfBumper(I)I -/
def fnX10_markOfBumper_60 (I0 : Mem) (t0 : Int32) : Option (Int32 × Mem) :=
  some (t0, I0)
set_option maxRecDepth 20000 in
set_option maxHeartbeats 2000000 in
theorem ebX10_markOfBumper_60 {g : Cfg} (C : Cx g RX10 cX10_markOfBumper 4 3 63 0 0) {h : Shp} (H0 : MAt h) {r1 : Int32} {o1 : Mem} (q : QI g (some Jvm.ClassFile.FieldType.int) 0 0 r1 (o1, h)) {I0 : Mem} {t0 : Int32} (hf : fnX10_markOfBumper_60 I0 t0 = some (r1, o1)) : XE g 0 0 (I0, h) 60 [] [.int t0] := by
  unfold fnX10_markOfBumper_60 at hf
  exact xr_ireturn C q rfl rfl dX10_markOfBumper_60 (so_1 hf) (so_w hf)
def fnX10_markOfBumper_35 (I0 : Mem) (l1 : Int32) (l2 : Int32) (t1 : Int32) : Option (Int32 × Mem) :=
  ob (fnX10_leave I0 t1) fun I2 => ob (fnX10_struckBody I2 l1) fun ⟨r5, I4⟩ => if l2 = 3 then (fnX10_markOfBumper_60 I4 (r5 - 1000)) else (fnX10_markOfBumper_60 I4 ((2 : Int32) * r5))
set_option maxRecDepth 20000 in
set_option maxHeartbeats 2000000 in
theorem ebX10_markOfBumper_35 {g : Cfg} (C : Cx g RX10 cX10_markOfBumper 4 3 63 0 0) {h : Shp} (H0 : MAt h) {r1 : Int32} {o1 : Mem} (q : QI g (some Jvm.ClassFile.FieldType.int) 0 0 r1 (o1, h)) {I0 : Mem} {l1 : Int32} {l2 : Int32} {t1 : Int32} (hf : fnX10_markOfBumper_35 I0 l1 l2 t1 = some (r1, o1)) : XE g 0 0 (I0, h) 35 [(0, rf g 111), (1, .int l1), (2, .int l2)] [.int t1, rf g 111] := by
  unfold fnX10_markOfBumper_35 at hf
  obtain ⟨I2, h1, hf⟩ := ob_x hf
  refine xr_callVV C [.int t1] lkX10_234 (kX10_leave H0 h1) Kd10 rfl H0.1 rfl (Nat.le_of_ble_eq_true rfl) rfl dX10_markOfBumper_35 ⟨by decide, by decide, by decide⟩ rfl ?_
  refine xr_aload_n C dX10_markOfBumper_38 0 rfl rfl ?_
  refine xr_iload_n C dX10_markOfBumper_39 1 rfl rfl ?_
  obtain ⟨⟨r5, I4⟩, h3, hf⟩ := ob_x hf
  refine xr_callVI C [.int l1] lkX10_240 (kX10_struckBody H0 h3) Kd10 rfl H0.1 rfl (Nat.le_of_ble_eq_true rfl) rfl dX10_markOfBumper_40 ⟨by decide, by decide, by decide⟩ rfl ?_
  refine xr_istore_n C dX10_markOfBumper_43 rfl (by decide) rfl ?_
  refine xr_iload_n C dX10_markOfBumper_44 3 rfl rfl ?_
  refine xr_iconst (v := 3) C dX10_markOfBumper_45 (by decide) ?_
  refine xr_icmp_ne (tgt := 57) C dX10_markOfBumper_46 (by decide) hf (fun c6 hf => ?_) (fun c6 hf => ?_)
  · refine xr_iconst (v := 2) C dX10_markOfBumper_57 (by decide) ?_
    refine xr_iload_n C dX10_markOfBumper_58 0 rfl rfl ?_
    refine xr_imul C dX10_markOfBumper_59 ?_
    refine xr_lv [] rfl ?_
    exact ebX10_markOfBumper_60 C H0 q hf
  · refine xr_iload_n C dX10_markOfBumper_49 0 rfl rfl ?_
    refine xr_sipush (v := 1000) C dX10_markOfBumper_50 (by decide) ?_
    refine xr_isub C dX10_markOfBumper_53 ?_
    refine xr_goto (tgt := 60) C dX10_markOfBumper_54 (by decide) ?_
    refine xr_lv [] rfl ?_
    exact ebX10_markOfBumper_60 C H0 q hf
def fnX10_markOfBumper (I0 : Mem) (p1 : Int32) : Option (Int32 × Mem) :=
  ck (inb ((3 : Int32) + ((4 : Int32) * p1)) 164) <| bnd (I0 112 (ix ((3 : Int32) + ((4 : Int32) * p1)))) fun v2 => if v2 = 1 then (ob (fnX10_struckBody I0 p1) fun ⟨r7, I6⟩ => some (r7, I6)) else (if v2 = 3 then (fnX10_markOfBumper_35 I0 p1 v2 22) else (fnX10_markOfBumper_35 I0 p1 v2 24))
set_option maxRecDepth 20000 in
set_option maxHeartbeats 2000000 in
theorem ebX10_markOfBumper_0 {g : Cfg} (C : Cx g RX10 cX10_markOfBumper 4 3 63 0 0) {h : Shp} (H0 : MAt h) {r1 : Int32} {o1 : Mem} (q : QI g (some Jvm.ClassFile.FieldType.int) 0 0 r1 (o1, h)) {I0 : Mem} {p1 : Int32} (hf : fnX10_markOfBumper I0 p1 = some (r1, o1)) : XE g 0 0 (I0, h) 0 [(0, rf g 111), (1, .int p1)] [] := by
  unfold fnX10_markOfBumper at hf
  refine xr_aload_n C dX10_markOfBumper_0 0 rfl rfl ?_
  refine xr_getr C Kd10 (k := 0) (by decide) rfl wk_821 rfl H0.1 H0.2.1.1 dX10_markOfBumper_1 ?_
  refine xr_iconst (v := 3) C dX10_markOfBumper_4 (by decide) ?_
  refine xr_iconst (v := 4) C dX10_markOfBumper_5 (by decide) ?_
  refine xr_iload_n C dX10_markOfBumper_6 1 rfl rfl ?_
  refine xr_imul C dX10_markOfBumper_7 ?_
  refine xr_iadd C dX10_markOfBumper_8 ?_
  obtain ⟨i1, hf⟩ := ck_x hf
  refine xr_iald C H0.2.1.2 i1 dX10_markOfBumper_9 ?_
  obtain ⟨v2, ev2, hf⟩ := bnd_x hf
  refine xr_nm ev2 ?_
  refine xr_istore_n C dX10_markOfBumper_10 rfl (by decide) rfl ?_
  refine xr_iload_n C dX10_markOfBumper_11 0 rfl rfl ?_
  refine xr_iconst (v := 1) C dX10_markOfBumper_12 (by decide) ?_
  refine xr_icmp_ne (tgt := 22) C dX10_markOfBumper_13 (by decide) hf (fun c3 hf => ?_) (fun c3 hf => ?_)
  · refine xr_aload_n C dX10_markOfBumper_22 1 rfl rfl ?_
    refine xr_iload_n C dX10_markOfBumper_23 0 rfl rfl ?_
    refine xr_iconst (v := 3) C dX10_markOfBumper_24 (by decide) ?_
    refine xr_icmp_ne (tgt := 33) C dX10_markOfBumper_25 (by decide) hf (fun c4 hf => ?_) (fun c4 hf => ?_)
    · refine xr_bipush (v := 24) C dX10_markOfBumper_33 (by decide) ?_
      refine xr_lv [1, 2, 0] rfl ?_
      exact ebX10_markOfBumper_35 C H0 q hf
    · refine xr_bipush (v := 22) C dX10_markOfBumper_28 (by decide) ?_
      refine xr_goto (tgt := 35) C dX10_markOfBumper_30 (by decide) ?_
      refine xr_lv [1, 2, 0] rfl ?_
      exact ebX10_markOfBumper_35 C H0 q hf
  · refine xr_aload_n C dX10_markOfBumper_16 1 rfl rfl ?_
    refine xr_iload_n C dX10_markOfBumper_17 2 rfl rfl ?_
    obtain ⟨⟨r7, I6⟩, h5, hf⟩ := ob_x hf
    refine xr_callVI C [.int p1] lkX10_240 (kX10_struckBody H0 h5) Kd10 rfl H0.1 rfl (Nat.le_of_ble_eq_true rfl) rfl dX10_markOfBumper_18 ⟨by decide, by decide, by decide⟩ rfl ?_
    exact xr_ireturn C q rfl rfl dX10_markOfBumper_21 (so_1 hf) (so_w hf)
theorem kX10_markOfBumper {B : Bs} {h : Shp} (H0 : MAt h) {I0 : Mem} {p1 : Int32} {r1 : Int32} {o1 : Mem} (hf : fnX10_markOfBumper I0 p1 = some (r1, o1)) : CtrI B yX10_markOfBumper cX10_markOfBumper 4 (some Jvm.ClassFile.FieldType.int) 3 63 0 0 [rfB B 111, .int p1] (I0, h) r1 (o1, h) := by
  refine xr_enterI (lv0 := [(0, rfB B 111), (1, .int p1)]) (by decide) (Nat.le_of_ble_eq_true rfl) rfl (fun g hg C q => ?_)
  subst hg
  exact ebX10_markOfBumper_0 C H0 q hf
