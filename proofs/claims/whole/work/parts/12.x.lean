theorem dX8_append_0 : decode cX8_append 0 = .ok (.iload_n 3, 1) := by decide +kernel
theorem dX8_append_1 : decode cX8_append 1 = .ok (.iconst 1, 1) := by decide +kernel
theorem dX8_append_2 : decode cX8_append 2 = .ok (.isub, 1) := by decide +kernel
theorem dX8_append_3 : decode cX8_append 3 = .ok (.istore 4, 2) := by decide +kernel
theorem dX8_append_5 : decode cX8_append 5 = .ok (.iload 4, 2) := by decide +kernel
theorem dX8_append_7 : decode cX8_append 7 = .ok (.ifCond .lt 50, 3) := by decide +kernel
theorem dX8_append_10 : decode cX8_append 10 = .ok (.aload_n 0, 1) := by decide +kernel
theorem dX8_append_11 : decode cX8_append 11 = .ok (.getfield 15, 3) := by decide +kernel
theorem dX8_append_14 : decode cX8_append 14 = .ok (.sipush 400, 3) := by decide +kernel
theorem dX8_append_17 : decode cX8_append 17 = .ok (.if_icmp .ge 40, 3) := by decide +kernel
theorem dX8_append_20 : decode cX8_append 20 = .ok (.aload_n 0, 1) := by decide +kernel
theorem dX8_append_21 : decode cX8_append 21 = .ok (.getfield 9, 3) := by decide +kernel
theorem dX8_append_24 : decode cX8_append 24 = .ok (.aload_n 0, 1) := by decide +kernel
theorem dX8_append_25 : decode cX8_append 25 = .ok (.getfield 15, 3) := by decide +kernel
theorem dX8_append_28 : decode cX8_append 28 = .ok (.lload_n 1, 1) := by decide +kernel
theorem dX8_append_29 : decode cX8_append 29 = .ok (.bipush 8, 2) := by decide +kernel
theorem dX8_append_31 : decode cX8_append 31 = .ok (.iload 4, 2) := by decide +kernel
theorem dX8_append_33 : decode cX8_append 33 = .ok (.imul, 1) := by decide +kernel
theorem dX8_append_34 : decode cX8_append 34 = .ok (.lshr, 1) := by decide +kernel
theorem dX8_append_35 : decode cX8_append 35 = .ok (.l2i, 1) := by decide +kernel
theorem dX8_append_36 : decode cX8_append 36 = .ok (.sipush 255, 3) := by decide +kernel
theorem dX8_append_39 : decode cX8_append 39 = .ok (.iand, 1) := by decide +kernel
theorem dX8_append_40 : decode cX8_append 40 = .ok (.iastore, 1) := by decide +kernel
theorem dX8_append_41 : decode cX8_append 41 = .ok (.aload_n 0, 1) := by decide +kernel
theorem dX8_append_42 : decode cX8_append 42 = .ok (.dup, 1) := by decide +kernel
theorem dX8_append_43 : decode cX8_append 43 = .ok (.getfield 15, 3) := by decide +kernel
theorem dX8_append_46 : decode cX8_append 46 = .ok (.iconst 1, 1) := by decide +kernel
theorem dX8_append_47 : decode cX8_append 47 = .ok (.iadd, 1) := by decide +kernel
theorem dX8_append_48 : decode cX8_append 48 = .ok (.putfield 15, 3) := by decide +kernel
theorem dX8_append_51 : decode cX8_append 51 = .ok (.iinc 4 (-1), 3) := by decide +kernel
theorem dX8_append_54 : decode cX8_append 54 = .ok (.goto (-49), 3) := by decide +kernel
theorem dX8_append_57 : decode cX8_append 57 = .ok (.return_, 1) := by decide +kernel
/-! BumperBalls$Tape.append(JI)V -/
def fnX8_append_57 (I0 : Mem) : Option Mem :=
  some I0
set_option maxRecDepth 20000 in
set_option maxHeartbeats 2000000 in
theorem ebX8_append_57 {g : Cfg} (C : Cx g RX8 cX8_append 5 0 0 0 0) {h : Shp} (H0 : TapeAt h) {o1 : Mem} (q : QV g 0 0 (o1, h)) {I0 : Mem} (hf : fnX8_append_57 I0 = some o1) : XE g 0 0 (I0, h) 57 [] [] := by
  unfold fnX8_append_57 at hf
  exact xr_return C q dX8_append_57 (so_v hf)
def fnX8_append_5b (rec5 : Mem → Int64 → Int32 → Option Mem) (I0 : Mem) (l1 : Int64) (l4 : Int32) : Option Mem :=
  if l4 < 0 then (fnX8_append_57 I0) else (if 400 ≤ (I0 13 1) then (fnX8_append_57 I0) else (ck (inb (I0 13 1) 400) <| bnd (up2 I0 14 (ix (I0 13 1)) (((l1 >>> (((8 : Int32) * l4).toInt64 &&& 63)).toInt32) &&& 255)) fun I4 => bnd (up2 I4 13 1 ((I4 13 1) + 1)) fun I5 => bnd (l4 + (-1)) fun v6 => rec5 I5 l1 v6))
def fnX8_append_5 : Nat → Mem → Int64 → Int32 → Option Mem
  | 0 => fun _ _ _ => none
  | fu + 1 => fnX8_append_5b (fnX8_append_5 fu)
set_option maxRecDepth 20000 in
set_option maxHeartbeats 2000000 in
theorem ebX8_append_5b {g : Cfg} (C : Cx g RX8 cX8_append 5 0 0 0 0) {h : Shp} (H0 : TapeAt h) {o1 : Mem} {rec5 : Mem → Int64 → Int32 → Option Mem} (q : QV g 0 0 (o1, h)) (ih5 : ∀ (I0 : Mem) (l1 : Int64) (l4 : Int32), rec5 I0 l1 l4 = some o1 → XE g 0 0 (I0, h) 5 [(0, rf g 13), (1, .long l1), (4, .int l4)] []) {I0 : Mem} {l1 : Int64} {l4 : Int32} (hf : fnX8_append_5b rec5 I0 l1 l4 = some o1) : XE g 0 0 (I0, h) 5 [(0, rf g 13), (1, .long l1), (4, .int l4)] [] := by
  unfold fnX8_append_5b at hf
  refine xr_iload C dX8_append_5 2 rfl ?_
  refine xr_if_lt (tgt := 57) C dX8_append_7 (by decide) hf (fun c1 hf => ?_) (fun c1 hf => ?_)
  · refine xr_lv [] rfl ?_
    exact ebX8_append_57 C H0 q hf
  · refine xr_aload_n C dX8_append_10 0 rfl rfl ?_
    refine xr_geti C Kd8 (k := 1) (by decide) rfl wk_101 rfl H0.1 dX8_append_11 ?_
    refine xr_sipush (v := 400) C dX8_append_14 (by decide) ?_
    refine xr_icmp_ge (tgt := 57) C dX8_append_17 (by decide) hf (fun c2 hf => ?_) (fun c2 hf => ?_)
    · refine xr_lv [] rfl ?_
      exact ebX8_append_57 C H0 q hf
    · refine xr_aload_n C dX8_append_20 0 rfl rfl ?_
      refine xr_getr C Kd8 (k := 0) (by decide) rfl wk_100 rfl H0.1 H0.2.1.1 dX8_append_21 ?_
      refine xr_aload_n C dX8_append_24 0 rfl rfl ?_
      refine xr_geti C Kd8 (k := 1) (by decide) rfl wk_101 rfl H0.1 dX8_append_25 ?_
      refine xr_lload_n C dX8_append_28 1 rfl rfl ?_
      refine xr_bipush (v := 8) C dX8_append_29 (by decide) ?_
      refine xr_iload C dX8_append_31 2 rfl ?_
      refine xr_imul C dX8_append_33 ?_
      refine xr_lshr C dX8_append_34 ?_
      refine xr_l2i C dX8_append_35 ?_
      refine xr_sipush (v := 255) C dX8_append_36 (by decide) ?_
      refine xr_iand C dX8_append_39 ?_
      obtain ⟨i3, hf⟩ := ck_x hf
      obtain ⟨I4, eI4, hf⟩ := bnd_x hf
      refine xr_iast C H0.2.1.2 i3 dX8_append_40 eI4 ?_
      refine xr_aload_n C dX8_append_41 0 rfl rfl ?_
      refine xr_dup C dX8_append_42 rfl ?_
      refine xr_geti C Kd8 (k := 1) (by decide) rfl wk_101 rfl H0.1 dX8_append_43 ?_
      refine xr_iconst (v := 1) C dX8_append_46 (by decide) ?_
      refine xr_iadd C dX8_append_47 ?_
      obtain ⟨I5, eI5, hf⟩ := bnd_x hf
      refine xr_putI C Kd8 (k := 1) (by decide) rfl rfl wk_101 rfl rfl rfl H0.1 dX8_append_48 eI5 ?_
      obtain ⟨v6, ev6, hf⟩ := bnd_x hf
      refine xr_iinc (k := 2) (v := v6) C dX8_append_51 rfl (by rw [ev6]; rfl) (by decide) rfl ?_
      refine xr_goto (tgt := 5) C dX8_append_54 (by decide) ?_
      refine xr_lv [1, 2, 0] rfl ?_
      exact ih5 _ _ _ hf
theorem ebX8_append_5 {g : Cfg} (C : Cx g RX8 cX8_append 5 0 0 0 0) {h : Shp} (H0 : TapeAt h) {o1 : Mem} (q : QV g 0 0 (o1, h)) : ∀ (fu : Nat) {I0 : Mem} {l1 : Int64} {l4 : Int32} (hf : fnX8_append_5 fu I0 l1 l4 = some o1), XE g 0 0 (I0, h) 5 [(0, rf g 13), (1, .long l1), (4, .int l4)] [] := by
  intro fu
  induction fu with
  | zero =>
    intro I0 l1 l4 hf
    cases hf
  | succ fu ihn =>
    intro I0 l1 l4 hf
    exact ebX8_append_5b C H0 q (fun _ _ _ hf => ihn hf) hf
def fnX8_append (I0 : Mem) (p1 : Int64) (p3 : Int32) : Option Mem :=
  bnd (p3 - 1) fun v1 => fnX8_append_5 FU I0 p1 v1
set_option maxRecDepth 20000 in
set_option maxHeartbeats 2000000 in
theorem ebX8_append_0 {g : Cfg} (C : Cx g RX8 cX8_append 5 0 0 0 0) {h : Shp} (H0 : TapeAt h) {o1 : Mem} (q : QV g 0 0 (o1, h)) {I0 : Mem} {p1 : Int64} {p3 : Int32} (hf : fnX8_append I0 p1 p3 = some o1) : XE g 0 0 (I0, h) 0 [(0, rf g 13), (1, .long p1), (3, .int p3)] [] := by
  unfold fnX8_append at hf
  refine xr_iload_n C dX8_append_0 2 rfl rfl ?_
  refine xr_iconst (v := 1) C dX8_append_1 (by decide) ?_
  refine xr_isub C dX8_append_2 ?_
  obtain ⟨v1, ev1, hf⟩ := bnd_x hf
  refine xr_nm ev1 ?_
  refine xr_istore C dX8_append_3 (by decide) rfl ?_
  refine xr_lv [1, 2, 0] rfl ?_
  exact ebX8_append_5 C H0 q _ hf
theorem kX8_append {B : Bs} {h : Shp} (H0 : TapeAt h) {I0 : Mem} {p1 : Int64} {p3 : Int32} {o1 : Mem} (hf : fnX8_append I0 p1 p3 = some o1) : CtrV B yX8_append cX8_append 5 0 0 0 0 [rfB B 13, .long p1, .int p3] (I0, h) (o1, h) := by
  refine xr_enterV (lv0 := [(0, rfB B 13), (1, .long p1), (3, .int p3)]) (by decide) (Nat.le_of_ble_eq_true rfl) rfl (fun g hg C q => ?_)
  subst hg
  exact ebX8_append_0 C H0 q hf
theorem dX8_isBlank_0 : decode cX8_isBlank 0 = .ok (.iload_n 0, 1) := by decide +kernel
theorem dX8_isBlank_1 : decode cX8_isBlank 1 = .ok (.bipush 32, 2) := by decide +kernel
theorem dX8_isBlank_3 : decode cX8_isBlank 3 = .ok (.if_icmp .eq 9, 3) := by decide +kernel
theorem dX8_isBlank_6 : decode cX8_isBlank 6 = .ok (.iload_n 0, 1) := by decide +kernel
theorem dX8_isBlank_7 : decode cX8_isBlank 7 = .ok (.bipush 10, 2) := by decide +kernel
theorem dX8_isBlank_9 : decode cX8_isBlank 9 = .ok (.if_icmp .ne 7, 3) := by decide +kernel
theorem dX8_isBlank_12 : decode cX8_isBlank 12 = .ok (.iconst 1, 1) := by decide +kernel
theorem dX8_isBlank_13 : decode cX8_isBlank 13 = .ok (.goto 4, 3) := by decide +kernel
theorem dX8_isBlank_16 : decode cX8_isBlank 16 = .ok (.iconst 0, 1) := by decide +kernel
theorem dX8_isBlank_17 : decode cX8_isBlank 17 = .ok (.ireturn, 1) := by decide +kernel
/-! BumperBalls$Tape.isBlank(I)Z -/
def fnX8_isBlank_17 (I0 : Mem) (t0 : Int32) : Option (Int32 × Mem) :=
  ck (zb t0) <| some (t0, I0)
set_option maxRecDepth 20000 in
set_option maxHeartbeats 2000000 in
theorem ebX8_isBlank_17 {g : Cfg} (C : Cx g RX8 cX8_isBlank 1 0 0 0 0) {h : Shp} {r1 : Int32} {o1 : Mem} (q : QI g (some Jvm.ClassFile.FieldType.boolean) 0 0 r1 (o1, h)) {I0 : Mem} {t0 : Int32} (hf : fnX8_isBlank_17 I0 t0 = some (r1, o1)) : XE g 0 0 (I0, h) 17 [] [.int t0] := by
  unfold fnX8_isBlank_17 at hf
  obtain ⟨z1, hf⟩ := ck_x hf
  exact xr_ireturn C q rfl (zb_ok z1).1 dX8_isBlank_17 (so_1 hf) (so_w hf)
def fnX8_isBlank_12 (I0 : Mem) : Option (Int32 × Mem) :=
  fnX8_isBlank_17 I0 1
set_option maxRecDepth 20000 in
set_option maxHeartbeats 2000000 in
theorem ebX8_isBlank_12 {g : Cfg} (C : Cx g RX8 cX8_isBlank 1 0 0 0 0) {h : Shp} {r1 : Int32} {o1 : Mem} (q : QI g (some Jvm.ClassFile.FieldType.boolean) 0 0 r1 (o1, h)) {I0 : Mem} (hf : fnX8_isBlank_12 I0 = some (r1, o1)) : XE g 0 0 (I0, h) 12 [] [] := by
  unfold fnX8_isBlank_12 at hf
  refine xr_iconst (v := 1) C dX8_isBlank_12 (by decide) ?_
  refine xr_goto (tgt := 17) C dX8_isBlank_13 (by decide) ?_
  exact ebX8_isBlank_17 C q hf
def fnX8_isBlank (I0 : Mem) (p0 : Int32) : Option (Int32 × Mem) :=
  if p0 = 32 then (fnX8_isBlank_12 I0) else (if p0 = 10 then (fnX8_isBlank_12 I0) else (fnX8_isBlank_17 I0 0))
set_option maxRecDepth 20000 in
set_option maxHeartbeats 2000000 in
theorem ebX8_isBlank_0 {g : Cfg} (C : Cx g RX8 cX8_isBlank 1 0 0 0 0) {h : Shp} {r1 : Int32} {o1 : Mem} (q : QI g (some Jvm.ClassFile.FieldType.boolean) 0 0 r1 (o1, h)) {I0 : Mem} {p0 : Int32} (hf : fnX8_isBlank I0 p0 = some (r1, o1)) : XE g 0 0 (I0, h) 0 [(0, .int p0)] [] := by
  unfold fnX8_isBlank at hf
  refine xr_iload_n C dX8_isBlank_0 0 rfl rfl ?_
  refine xr_bipush (v := 32) C dX8_isBlank_1 (by decide) ?_
  refine xr_icmp_eq (tgt := 12) C dX8_isBlank_3 (by decide) hf (fun c1 hf => ?_) (fun c1 hf => ?_)
  · refine xr_lv [] rfl ?_
    exact ebX8_isBlank_12 C q hf
  · refine xr_iload_n C dX8_isBlank_6 0 rfl rfl ?_
    refine xr_bipush (v := 10) C dX8_isBlank_7 (by decide) ?_
    refine xr_icmp_ne (tgt := 16) C dX8_isBlank_9 (by decide) hf (fun c2 hf => ?_) (fun c2 hf => ?_)
    · refine xr_iconst (v := 0) C dX8_isBlank_16 (by decide) ?_
      refine xr_lv [] rfl ?_
      exact ebX8_isBlank_17 C q hf
    · refine xr_lv [] rfl ?_
      exact ebX8_isBlank_12 C q hf
theorem kX8_isBlank {B : Bs} {h : Shp} {I0 : Mem} {p0 : Int32} {r1 : Int32} {o1 : Mem} (hf : fnX8_isBlank I0 p0 = some (r1, o1)) : CtrI B yX8_isBlank cX8_isBlank 1 (some Jvm.ClassFile.FieldType.boolean) 0 0 0 0 [.int p0] (I0, h) r1 (o1, h) := by
  refine xr_enterI (lv0 := [(0, .int p0)]) (by decide) (Nat.le_of_ble_eq_true rfl) rfl (fun g hg C q => ?_)
  subst hg
  exact ebX8_isBlank_0 C q hf
theorem dX8_isLetter_0 : decode cX8_isLetter 0 = .ok (.iload_n 0, 1) := by decide +kernel
theorem dX8_isLetter_1 : decode cX8_isLetter 1 = .ok (.bipush 97, 2) := by decide +kernel
theorem dX8_isLetter_3 : decode cX8_isLetter 3 = .ok (.if_icmp .lt 13, 3) := by decide +kernel
theorem dX8_isLetter_6 : decode cX8_isLetter 6 = .ok (.iload_n 0, 1) := by decide +kernel
theorem dX8_isLetter_7 : decode cX8_isLetter 7 = .ok (.bipush 122, 2) := by decide +kernel
theorem dX8_isLetter_9 : decode cX8_isLetter 9 = .ok (.if_icmp .gt 7, 3) := by decide +kernel
theorem dX8_isLetter_12 : decode cX8_isLetter 12 = .ok (.iconst 1, 1) := by decide +kernel
theorem dX8_isLetter_13 : decode cX8_isLetter 13 = .ok (.goto 4, 3) := by decide +kernel
theorem dX8_isLetter_16 : decode cX8_isLetter 16 = .ok (.iconst 0, 1) := by decide +kernel
theorem dX8_isLetter_17 : decode cX8_isLetter 17 = .ok (.ireturn, 1) := by decide +kernel
/-! BumperBalls$Tape.isLetter(I)Z -/
def fnX8_isLetter_17 (I0 : Mem) (t0 : Int32) : Option (Int32 × Mem) :=
  ck (zb t0) <| some (t0, I0)
set_option maxRecDepth 20000 in
set_option maxHeartbeats 2000000 in
theorem ebX8_isLetter_17 {g : Cfg} (C : Cx g RX8 cX8_isLetter 1 0 0 0 0) {h : Shp} {r1 : Int32} {o1 : Mem} (q : QI g (some Jvm.ClassFile.FieldType.boolean) 0 0 r1 (o1, h)) {I0 : Mem} {t0 : Int32} (hf : fnX8_isLetter_17 I0 t0 = some (r1, o1)) : XE g 0 0 (I0, h) 17 [] [.int t0] := by
  unfold fnX8_isLetter_17 at hf
  obtain ⟨z1, hf⟩ := ck_x hf
  exact xr_ireturn C q rfl (zb_ok z1).1 dX8_isLetter_17 (so_1 hf) (so_w hf)
def fnX8_isLetter_16 (I0 : Mem) : Option (Int32 × Mem) :=
  fnX8_isLetter_17 I0 0
set_option maxRecDepth 20000 in
set_option maxHeartbeats 2000000 in
theorem ebX8_isLetter_16 {g : Cfg} (C : Cx g RX8 cX8_isLetter 1 0 0 0 0) {h : Shp} {r1 : Int32} {o1 : Mem} (q : QI g (some Jvm.ClassFile.FieldType.boolean) 0 0 r1 (o1, h)) {I0 : Mem} (hf : fnX8_isLetter_16 I0 = some (r1, o1)) : XE g 0 0 (I0, h) 16 [] [] := by
  unfold fnX8_isLetter_16 at hf
  refine xr_iconst (v := 0) C dX8_isLetter_16 (by decide) ?_
  exact ebX8_isLetter_17 C q hf
def fnX8_isLetter (I0 : Mem) (p0 : Int32) : Option (Int32 × Mem) :=
  if p0 < 97 then (fnX8_isLetter_16 I0) else (if 122 < p0 then (fnX8_isLetter_16 I0) else (fnX8_isLetter_17 I0 1))
set_option maxRecDepth 20000 in
set_option maxHeartbeats 2000000 in
theorem ebX8_isLetter_0 {g : Cfg} (C : Cx g RX8 cX8_isLetter 1 0 0 0 0) {h : Shp} {r1 : Int32} {o1 : Mem} (q : QI g (some Jvm.ClassFile.FieldType.boolean) 0 0 r1 (o1, h)) {I0 : Mem} {p0 : Int32} (hf : fnX8_isLetter I0 p0 = some (r1, o1)) : XE g 0 0 (I0, h) 0 [(0, .int p0)] [] := by
  unfold fnX8_isLetter at hf
  refine xr_iload_n C dX8_isLetter_0 0 rfl rfl ?_
  refine xr_bipush (v := 97) C dX8_isLetter_1 (by decide) ?_
  refine xr_icmp_lt (tgt := 16) C dX8_isLetter_3 (by decide) hf (fun c1 hf => ?_) (fun c1 hf => ?_)
  · refine xr_lv [] rfl ?_
    exact ebX8_isLetter_16 C q hf
  · refine xr_iload_n C dX8_isLetter_6 0 rfl rfl ?_
    refine xr_bipush (v := 122) C dX8_isLetter_7 (by decide) ?_
    refine xr_icmp_gt (tgt := 16) C dX8_isLetter_9 (by decide) hf (fun c2 hf => ?_) (fun c2 hf => ?_)
    · refine xr_lv [] rfl ?_
      exact ebX8_isLetter_16 C q hf
    · refine xr_iconst (v := 1) C dX8_isLetter_12 (by decide) ?_
      refine xr_goto (tgt := 17) C dX8_isLetter_13 (by decide) ?_
      refine xr_lv [] rfl ?_
      exact ebX8_isLetter_17 C q hf
theorem kX8_isLetter {B : Bs} {h : Shp} {I0 : Mem} {p0 : Int32} {r1 : Int32} {o1 : Mem} (hf : fnX8_isLetter I0 p0 = some (r1, o1)) : CtrI B yX8_isLetter cX8_isLetter 1 (some Jvm.ClassFile.FieldType.boolean) 0 0 0 0 [.int p0] (I0, h) r1 (o1, h) := by
  refine xr_enterI (lv0 := [(0, .int p0)]) (by decide) (Nat.le_of_ble_eq_true rfl) rfl (fun g hg C q => ?_)
  subst hg
  exact ebX8_isLetter_0 C q hf
theorem dX8_takeName_0 : decode cX8_takeName 0 = .ok (.aload_n 0, 1) := by decide +kernel
theorem dX8_takeName_1 : decode cX8_takeName 1 = .ok (.getfield 35, 3) := by decide +kernel
theorem dX8_takeName_4 : decode cX8_takeName 4 = .ok (.aload_n 0, 1) := by decide +kernel
theorem dX8_takeName_5 : decode cX8_takeName 5 = .ok (.getfield 15, 3) := by decide +kernel
theorem dX8_takeName_8 : decode cX8_takeName 8 = .ok (.if_icmp .ge 31, 3) := by decide +kernel
theorem dX8_takeName_11 : decode cX8_takeName 11 = .ok (.aload_n 0, 1) := by decide +kernel
theorem dX8_takeName_12 : decode cX8_takeName 12 = .ok (.getfield 9, 3) := by decide +kernel
theorem dX8_takeName_15 : decode cX8_takeName 15 = .ok (.aload_n 0, 1) := by decide +kernel
theorem dX8_takeName_16 : decode cX8_takeName 16 = .ok (.getfield 35, 3) := by decide +kernel
theorem dX8_takeName_19 : decode cX8_takeName 19 = .ok (.iaload, 1) := by decide +kernel
theorem dX8_takeName_20 : decode cX8_takeName 20 = .ok (.invokestatic 118, 3) := by decide +kernel
theorem dX8_takeName_23 : decode cX8_takeName 23 = .ok (.ifCond .eq 16, 3) := by decide +kernel
theorem dX8_takeName_26 : decode cX8_takeName 26 = .ok (.aload_n 0, 1) := by decide +kernel
theorem dX8_takeName_27 : decode cX8_takeName 27 = .ok (.dup, 1) := by decide +kernel
theorem dX8_takeName_28 : decode cX8_takeName 28 = .ok (.getfield 35, 3) := by decide +kernel
theorem dX8_takeName_31 : decode cX8_takeName 31 = .ok (.iconst 1, 1) := by decide +kernel
theorem dX8_takeName_32 : decode cX8_takeName 32 = .ok (.iadd, 1) := by decide +kernel
theorem dX8_takeName_33 : decode cX8_takeName 33 = .ok (.putfield 35, 3) := by decide +kernel
theorem dX8_takeName_36 : decode cX8_takeName 36 = .ok (.goto (-36), 3) := by decide +kernel
theorem dX8_takeName_39 : decode cX8_takeName 39 = .ok (.aload_n 0, 1) := by decide +kernel
theorem dX8_takeName_40 : decode cX8_takeName 40 = .ok (.iconst 1, 1) := by decide +kernel
theorem dX8_takeName_41 : decode cX8_takeName 41 = .ok (.putfield 41, 3) := by decide +kernel
theorem dX8_takeName_44 : decode cX8_takeName 44 = .ok (.return_, 1) := by decide +kernel
theorem lkX8_118 : LkS "BumperBalls$Tape" 118 yX8_isLetter cX8_isLetter 1 (some Jvm.ClassFile.FieldType.boolean) 1 := ⟨wk_428, wk_3, wk_427, ⟨by decide +kernel, by decide +kernel, by decide +kernel⟩, wk_426⟩
/-! BumperBalls$Tape.takeName()V -/
def fnX8_takeName_39 (I0 : Mem) : Option Mem :=
  bnd (up2 I0 13 8 1) fun I1 => some I1
set_option maxRecDepth 20000 in
set_option maxHeartbeats 2000000 in
theorem ebX8_takeName_39 {g : Cfg} (C : Cx g RX8 cX8_takeName 1 1 20 0 0) {h : Shp} (H0 : TapeAt h) {o1 : Mem} (q : QV g 0 0 (o1, h)) {I0 : Mem} (hf : fnX8_takeName_39 I0 = some o1) : XE g 0 0 (I0, h) 39 [(0, rf g 13)] [] := by
  unfold fnX8_takeName_39 at hf
  refine xr_aload_n C dX8_takeName_39 0 rfl rfl ?_
  refine xr_iconst (v := 1) C dX8_takeName_40 (by decide) ?_
  obtain ⟨I1, eI1, hf⟩ := bnd_x hf
  refine xr_putI C Kd8 (k := 8) (by decide) rfl rfl wk_114 rfl rfl rfl H0.1 dX8_takeName_41 eI1 ?_
  exact xr_return C q dX8_takeName_44 (so_v hf)
def fnX8_takeName_0b (rec0 : Mem → Option Mem) (I0 : Mem) : Option Mem :=
  if (I0 13 1) ≤ (I0 13 6) then (fnX8_takeName_39 I0) else (ck (inb (I0 13 6) 400) <| ob (fnX8_isLetter I0 (I0 14 (ix (I0 13 6)))) fun ⟨r5, I4⟩ => if r5 = 0 then (fnX8_takeName_39 I4) else (bnd (up2 I4 13 6 ((I4 13 6) + 1)) fun I7 => rec0 I7))
def fnX8_takeName_0 : Nat → Mem → Option Mem
  | 0 => fun _ => none
  | fu + 1 => fnX8_takeName_0b (fnX8_takeName_0 fu)
set_option maxRecDepth 20000 in
set_option maxHeartbeats 2000000 in
theorem ebX8_takeName_0b {g : Cfg} (C : Cx g RX8 cX8_takeName 1 1 20 0 0) {h : Shp} (H0 : TapeAt h) {o1 : Mem} {rec0 : Mem → Option Mem} (q : QV g 0 0 (o1, h)) (ih0 : ∀ (I0 : Mem), rec0 I0 = some o1 → XE g 0 0 (I0, h) 0 [(0, rf g 13)] []) {I0 : Mem} (hf : fnX8_takeName_0b rec0 I0 = some o1) : XE g 0 0 (I0, h) 0 [(0, rf g 13)] [] := by
  unfold fnX8_takeName_0b at hf
  refine xr_aload_n C dX8_takeName_0 0 rfl rfl ?_
  refine xr_geti C Kd8 (k := 6) (by decide) rfl wk_111 rfl H0.1 dX8_takeName_1 ?_
  refine xr_aload_n C dX8_takeName_4 0 rfl rfl ?_
  refine xr_geti C Kd8 (k := 1) (by decide) rfl wk_101 rfl H0.1 dX8_takeName_5 ?_
  refine xr_icmp_ge (tgt := 39) C dX8_takeName_8 (by decide) hf (fun c1 hf => ?_) (fun c1 hf => ?_)
  · exact ebX8_takeName_39 C H0 q hf
  · refine xr_aload_n C dX8_takeName_11 0 rfl rfl ?_
    refine xr_getr C Kd8 (k := 0) (by decide) rfl wk_100 rfl H0.1 H0.2.1.1 dX8_takeName_12 ?_
    refine xr_aload_n C dX8_takeName_15 0 rfl rfl ?_
    refine xr_geti C Kd8 (k := 6) (by decide) rfl wk_111 rfl H0.1 dX8_takeName_16 ?_
    obtain ⟨i2, hf⟩ := ck_x hf
    refine xr_iald C H0.2.1.2 i2 dX8_takeName_19 ?_
    obtain ⟨⟨r5, I4⟩, h3, hf⟩ := ob_x hf
    refine xr_callSI C [.int (I0 14 (ix (I0 13 6)))] lkX8_118 (kX8_isLetter h3) rfl (Nat.le_of_ble_eq_true rfl) rfl dX8_takeName_20 ⟨by decide, by decide, by decide⟩ rfl ?_
    refine xr_if_eq (tgt := 39) C dX8_takeName_23 (by decide) hf (fun c6 hf => ?_) (fun c6 hf => ?_)
    · exact ebX8_takeName_39 C H0 q hf
    · refine xr_aload_n C dX8_takeName_26 0 rfl rfl ?_
      refine xr_dup C dX8_takeName_27 rfl ?_
      refine xr_geti C Kd8 (k := 6) (by decide) rfl wk_111 rfl H0.1 dX8_takeName_28 ?_
      refine xr_iconst (v := 1) C dX8_takeName_31 (by decide) ?_
      refine xr_iadd C dX8_takeName_32 ?_
      obtain ⟨I7, eI7, hf⟩ := bnd_x hf
      refine xr_putI C Kd8 (k := 6) (by decide) rfl rfl wk_111 rfl rfl rfl H0.1 dX8_takeName_33 eI7 ?_
      refine xr_goto (tgt := 0) C dX8_takeName_36 (by decide) ?_
      exact ih0 _ hf
theorem ebX8_takeName_0 {g : Cfg} (C : Cx g RX8 cX8_takeName 1 1 20 0 0) {h : Shp} (H0 : TapeAt h) {o1 : Mem} (q : QV g 0 0 (o1, h)) : ∀ (fu : Nat) {I0 : Mem} (hf : fnX8_takeName_0 fu I0 = some o1), XE g 0 0 (I0, h) 0 [(0, rf g 13)] [] := by
  intro fu
  induction fu with
  | zero =>
    intro I0 hf
    cases hf
  | succ fu ihn =>
    intro I0 hf
    exact ebX8_takeName_0b C H0 q (fun _ hf => ihn hf) hf
def fnX8_takeName (I0 : Mem) : Option Mem :=
  fnX8_takeName_0 FU I0
set_option maxRecDepth 20000 in
set_option maxHeartbeats 2000000 in
theorem ebX8_takeName_e {g : Cfg} (C : Cx g RX8 cX8_takeName 1 1 20 0 0) {h : Shp} (H0 : TapeAt h) {o1 : Mem} (q : QV g 0 0 (o1, h)) {I0 : Mem} (hf : fnX8_takeName I0 = some o1) : XE g 0 0 (I0, h) 0 [(0, rf g 13)] [] := by
  unfold fnX8_takeName at hf
  exact ebX8_takeName_0 C H0 q _ hf
theorem kX8_takeName {B : Bs} {h : Shp} (H0 : TapeAt h) {I0 : Mem} {o1 : Mem} (hf : fnX8_takeName I0 = some o1) : CtrV B yX8_takeName cX8_takeName 1 1 20 0 0 [rfB B 13] (I0, h) (o1, h) := by
  refine xr_enterV (lv0 := [(0, rfB B 13)]) (by decide) (Nat.le_of_ble_eq_true rfl) rfl (fun g hg C q => ?_)
  subst hg
  exact ebX8_takeName_e C H0 q hf
theorem dX8_isFigure_0 : decode cX8_isFigure 0 = .ok (.iload_n 0, 1) := by decide +kernel
theorem dX8_isFigure_1 : decode cX8_isFigure 1 = .ok (.bipush 48, 2) := by decide +kernel
theorem dX8_isFigure_3 : decode cX8_isFigure 3 = .ok (.if_icmp .lt 13, 3) := by decide +kernel
theorem dX8_isFigure_6 : decode cX8_isFigure 6 = .ok (.iload_n 0, 1) := by decide +kernel
theorem dX8_isFigure_7 : decode cX8_isFigure 7 = .ok (.bipush 57, 2) := by decide +kernel
theorem dX8_isFigure_9 : decode cX8_isFigure 9 = .ok (.if_icmp .gt 7, 3) := by decide +kernel
theorem dX8_isFigure_12 : decode cX8_isFigure 12 = .ok (.iconst 1, 1) := by decide +kernel
theorem dX8_isFigure_13 : decode cX8_isFigure 13 = .ok (.goto 4, 3) := by decide +kernel
theorem dX8_isFigure_16 : decode cX8_isFigure 16 = .ok (.iconst 0, 1) := by decide +kernel
theorem dX8_isFigure_17 : decode cX8_isFigure 17 = .ok (.ireturn, 1) := by decide +kernel
/-! BumperBalls$Tape.isFigure(I)Z -/
def fnX8_isFigure_17 (I0 : Mem) (t0 : Int32) : Option (Int32 × Mem) :=
  ck (zb t0) <| some (t0, I0)
set_option maxRecDepth 20000 in
set_option maxHeartbeats 2000000 in
theorem ebX8_isFigure_17 {g : Cfg} (C : Cx g RX8 cX8_isFigure 1 0 0 0 0) {h : Shp} {r1 : Int32} {o1 : Mem} (q : QI g (some Jvm.ClassFile.FieldType.boolean) 0 0 r1 (o1, h)) {I0 : Mem} {t0 : Int32} (hf : fnX8_isFigure_17 I0 t0 = some (r1, o1)) : XE g 0 0 (I0, h) 17 [] [.int t0] := by
  unfold fnX8_isFigure_17 at hf
  obtain ⟨z1, hf⟩ := ck_x hf
  exact xr_ireturn C q rfl (zb_ok z1).1 dX8_isFigure_17 (so_1 hf) (so_w hf)
def fnX8_isFigure_16 (I0 : Mem) : Option (Int32 × Mem) :=
  fnX8_isFigure_17 I0 0
set_option maxRecDepth 20000 in
set_option maxHeartbeats 2000000 in
theorem ebX8_isFigure_16 {g : Cfg} (C : Cx g RX8 cX8_isFigure 1 0 0 0 0) {h : Shp} {r1 : Int32} {o1 : Mem} (q : QI g (some Jvm.ClassFile.FieldType.boolean) 0 0 r1 (o1, h)) {I0 : Mem} (hf : fnX8_isFigure_16 I0 = some (r1, o1)) : XE g 0 0 (I0, h) 16 [] [] := by
  unfold fnX8_isFigure_16 at hf
  refine xr_iconst (v := 0) C dX8_isFigure_16 (by decide) ?_
  exact ebX8_isFigure_17 C q hf
def fnX8_isFigure (I0 : Mem) (p0 : Int32) : Option (Int32 × Mem) :=
  if p0 < 48 then (fnX8_isFigure_16 I0) else (if 57 < p0 then (fnX8_isFigure_16 I0) else (fnX8_isFigure_17 I0 1))
set_option maxRecDepth 20000 in
set_option maxHeartbeats 2000000 in
theorem ebX8_isFigure_0 {g : Cfg} (C : Cx g RX8 cX8_isFigure 1 0 0 0 0) {h : Shp} {r1 : Int32} {o1 : Mem} (q : QI g (some Jvm.ClassFile.FieldType.boolean) 0 0 r1 (o1, h)) {I0 : Mem} {p0 : Int32} (hf : fnX8_isFigure I0 p0 = some (r1, o1)) : XE g 0 0 (I0, h) 0 [(0, .int p0)] [] := by
  unfold fnX8_isFigure at hf
  refine xr_iload_n C dX8_isFigure_0 0 rfl rfl ?_
  refine xr_bipush (v := 48) C dX8_isFigure_1 (by decide) ?_
  refine xr_icmp_lt (tgt := 16) C dX8_isFigure_3 (by decide) hf (fun c1 hf => ?_) (fun c1 hf => ?_)
  · refine xr_lv [] rfl ?_
    exact ebX8_isFigure_16 C q hf
  · refine xr_iload_n C dX8_isFigure_6 0 rfl rfl ?_
    refine xr_bipush (v := 57) C dX8_isFigure_7 (by decide) ?_
    refine xr_icmp_gt (tgt := 16) C dX8_isFigure_9 (by decide) hf (fun c2 hf => ?_) (fun c2 hf => ?_)
    · refine xr_lv [] rfl ?_
      exact ebX8_isFigure_16 C q hf
    · refine xr_iconst (v := 1) C dX8_isFigure_12 (by decide) ?_
      refine xr_goto (tgt := 17) C dX8_isFigure_13 (by decide) ?_
      refine xr_lv [] rfl ?_
      exact ebX8_isFigure_17 C q hf
theorem kX8_isFigure {B : Bs} {h : Shp} {I0 : Mem} {p0 : Int32} {r1 : Int32} {o1 : Mem} (hf : fnX8_isFigure I0 p0 = some (r1, o1)) : CtrI B yX8_isFigure cX8_isFigure 1 (some Jvm.ClassFile.FieldType.boolean) 0 0 0 0 [.int p0] (I0, h) r1 (o1, h) := by
  refine xr_enterI (lv0 := [(0, .int p0)]) (by decide) (Nat.le_of_ble_eq_true rfl) rfl (fun g hg C q => ?_)
  subst hg
  exact ebX8_isFigure_0 C q hf
theorem dX8_takeFigures_0 : decode cX8_takeFigures 0 = .ok (.aload_n 0, 1) := by decide +kernel
theorem dX8_takeFigures_1 : decode cX8_takeFigures 1 = .ok (.getfield 35, 3) := by decide +kernel
theorem dX8_takeFigures_4 : decode cX8_takeFigures 4 = .ok (.aload_n 0, 1) := by decide +kernel
theorem dX8_takeFigures_5 : decode cX8_takeFigures 5 = .ok (.getfield 15, 3) := by decide +kernel
theorem dX8_takeFigures_8 : decode cX8_takeFigures 8 = .ok (.if_icmp .ge 68, 3) := by decide +kernel
theorem dX8_takeFigures_11 : decode cX8_takeFigures 11 = .ok (.aload_n 0, 1) := by decide +kernel
theorem dX8_takeFigures_12 : decode cX8_takeFigures 12 = .ok (.getfield 9, 3) := by decide +kernel
theorem dX8_takeFigures_15 : decode cX8_takeFigures 15 = .ok (.aload_n 0, 1) := by decide +kernel
theorem dX8_takeFigures_16 : decode cX8_takeFigures 16 = .ok (.getfield 35, 3) := by decide +kernel
theorem dX8_takeFigures_19 : decode cX8_takeFigures 19 = .ok (.iaload, 1) := by decide +kernel
theorem dX8_takeFigures_20 : decode cX8_takeFigures 20 = .ok (.invokestatic 124, 3) := by decide +kernel
theorem dX8_takeFigures_23 : decode cX8_takeFigures 23 = .ok (.ifCond .eq 53, 3) := by decide +kernel
theorem dX8_takeFigures_26 : decode cX8_takeFigures 26 = .ok (.aload_n 0, 1) := by decide +kernel
theorem dX8_takeFigures_27 : decode cX8_takeFigures 27 = .ok (.getfield 35, 3) := by decide +kernel
theorem dX8_takeFigures_30 : decode cX8_takeFigures 30 = .ok (.aload_n 0, 1) := by decide +kernel
theorem dX8_takeFigures_31 : decode cX8_takeFigures 31 = .ok (.getfield 38, 3) := by decide +kernel
theorem dX8_takeFigures_34 : decode cX8_takeFigures 34 = .ok (.isub, 1) := by decide +kernel
theorem dX8_takeFigures_35 : decode cX8_takeFigures 35 = .ok (.iconst 3, 1) := by decide +kernel
theorem dX8_takeFigures_36 : decode cX8_takeFigures 36 = .ok (.if_icmp .ge 27, 3) := by decide +kernel
theorem dX8_takeFigures_39 : decode cX8_takeFigures 39 = .ok (.aload_n 0, 1) := by decide +kernel
theorem dX8_takeFigures_40 : decode cX8_takeFigures 40 = .ok (.bipush 10, 2) := by decide +kernel
theorem dX8_takeFigures_42 : decode cX8_takeFigures 42 = .ok (.aload_n 0, 1) := by decide +kernel
theorem dX8_takeFigures_43 : decode cX8_takeFigures 43 = .ok (.getfield 44, 3) := by decide +kernel
theorem dX8_takeFigures_46 : decode cX8_takeFigures 46 = .ok (.imul, 1) := by decide +kernel
theorem dX8_takeFigures_47 : decode cX8_takeFigures 47 = .ok (.aload_n 0, 1) := by decide +kernel
theorem dX8_takeFigures_48 : decode cX8_takeFigures 48 = .ok (.getfield 9, 3) := by decide +kernel
theorem dX8_takeFigures_51 : decode cX8_takeFigures 51 = .ok (.aload_n 0, 1) := by decide +kernel
theorem dX8_takeFigures_52 : decode cX8_takeFigures 52 = .ok (.getfield 35, 3) := by decide +kernel
theorem dX8_takeFigures_55 : decode cX8_takeFigures 55 = .ok (.iaload, 1) := by decide +kernel
theorem dX8_takeFigures_56 : decode cX8_takeFigures 56 = .ok (.iadd, 1) := by decide +kernel
theorem dX8_takeFigures_57 : decode cX8_takeFigures 57 = .ok (.bipush 48, 2) := by decide +kernel
theorem dX8_takeFigures_59 : decode cX8_takeFigures 59 = .ok (.isub, 1) := by decide +kernel
theorem dX8_takeFigures_60 : decode cX8_takeFigures 60 = .ok (.putfield 44, 3) := by decide +kernel
theorem dX8_takeFigures_63 : decode cX8_takeFigures 63 = .ok (.aload_n 0, 1) := by decide +kernel
theorem dX8_takeFigures_64 : decode cX8_takeFigures 64 = .ok (.dup, 1) := by decide +kernel
theorem dX8_takeFigures_65 : decode cX8_takeFigures 65 = .ok (.getfield 35, 3) := by decide +kernel
theorem dX8_takeFigures_68 : decode cX8_takeFigures 68 = .ok (.iconst 1, 1) := by decide +kernel
theorem dX8_takeFigures_69 : decode cX8_takeFigures 69 = .ok (.iadd, 1) := by decide +kernel
theorem dX8_takeFigures_70 : decode cX8_takeFigures 70 = .ok (.putfield 35, 3) := by decide +kernel
theorem dX8_takeFigures_73 : decode cX8_takeFigures 73 = .ok (.goto (-73), 3) := by decide +kernel
theorem dX8_takeFigures_76 : decode cX8_takeFigures 76 = .ok (.aload_n 0, 1) := by decide +kernel
theorem dX8_takeFigures_77 : decode cX8_takeFigures 77 = .ok (.aload_n 0, 1) := by decide +kernel
theorem dX8_takeFigures_78 : decode cX8_takeFigures 78 = .ok (.getfield 35, 3) := by decide +kernel
theorem dX8_takeFigures_81 : decode cX8_takeFigures 81 = .ok (.aload_n 0, 1) := by decide +kernel
theorem dX8_takeFigures_82 : decode cX8_takeFigures 82 = .ok (.getfield 38, 3) := by decide +kernel
theorem dX8_takeFigures_85 : decode cX8_takeFigures 85 = .ok (.isub, 1) := by decide +kernel
theorem dX8_takeFigures_86 : decode cX8_takeFigures 86 = .ok (.iconst 3, 1) := by decide +kernel
theorem dX8_takeFigures_87 : decode cX8_takeFigures 87 = .ok (.if_icmp .le 7, 3) := by decide +kernel
theorem dX8_takeFigures_90 : decode cX8_takeFigures 90 = .ok (.iconst 4, 1) := by decide +kernel
theorem dX8_takeFigures_91 : decode cX8_takeFigures 91 = .ok (.goto 4, 3) := by decide +kernel
theorem dX8_takeFigures_94 : decode cX8_takeFigures 94 = .ok (.iconst 2, 1) := by decide +kernel
theorem dX8_takeFigures_95 : decode cX8_takeFigures 95 = .ok (.putfield 41, 3) := by decide +kernel
theorem dX8_takeFigures_98 : decode cX8_takeFigures 98 = .ok (.return_, 1) := by decide +kernel
theorem lkX8_124 : LkS "BumperBalls$Tape" 124 yX8_isFigure cX8_isFigure 1 (some Jvm.ClassFile.FieldType.boolean) 1 := ⟨wk_435, wk_3, wk_434, ⟨by decide +kernel, by decide +kernel, by decide +kernel⟩, wk_433⟩
/-! BumperBalls$Tape.takeFigures()V -/
def fnX8_takeFigures_95 (I0 : Mem) (t1 : Int32) : Option Mem :=
  bnd (up2 I0 13 8 t1) fun I1 => some I1
set_option maxRecDepth 20000 in
set_option maxHeartbeats 2000000 in
theorem ebX8_takeFigures_95 {g : Cfg} (C : Cx g RX8 cX8_takeFigures 1 1 20 0 0) {h : Shp} (H0 : TapeAt h) {o1 : Mem} (q : QV g 0 0 (o1, h)) {I0 : Mem} {t1 : Int32} (hf : fnX8_takeFigures_95 I0 t1 = some o1) : XE g 0 0 (I0, h) 95 [] [.int t1, rf g 13] := by
  unfold fnX8_takeFigures_95 at hf
  obtain ⟨I1, eI1, hf⟩ := bnd_x hf
  refine xr_putI C Kd8 (k := 8) (by decide) rfl rfl wk_114 rfl rfl rfl H0.1 dX8_takeFigures_95 eI1 ?_
  exact xr_return C q dX8_takeFigures_98 (so_v hf)
def fnX8_takeFigures_76 (I0 : Mem) : Option Mem :=
  if ((I0 13 6) - (I0 13 7)) ≤ 3 then (fnX8_takeFigures_95 I0 2) else (fnX8_takeFigures_95 I0 4)
set_option maxRecDepth 20000 in
set_option maxHeartbeats 2000000 in
theorem ebX8_takeFigures_76 {g : Cfg} (C : Cx g RX8 cX8_takeFigures 1 1 20 0 0) {h : Shp} (H0 : TapeAt h) {o1 : Mem} (q : QV g 0 0 (o1, h)) {I0 : Mem} (hf : fnX8_takeFigures_76 I0 = some o1) : XE g 0 0 (I0, h) 76 [(0, rf g 13)] [] := by
  unfold fnX8_takeFigures_76 at hf
  refine xr_aload_n C dX8_takeFigures_76 0 rfl rfl ?_
  refine xr_aload_n C dX8_takeFigures_77 0 rfl rfl ?_
  refine xr_geti C Kd8 (k := 6) (by decide) rfl wk_111 rfl H0.1 dX8_takeFigures_78 ?_
  refine xr_aload_n C dX8_takeFigures_81 0 rfl rfl ?_
  refine xr_geti C Kd8 (k := 7) (by decide) rfl wk_112 rfl H0.1 dX8_takeFigures_82 ?_
  refine xr_isub C dX8_takeFigures_85 ?_
  refine xr_iconst (v := 3) C dX8_takeFigures_86 (by decide) ?_
  refine xr_icmp_le (tgt := 94) C dX8_takeFigures_87 (by decide) hf (fun c1 hf => ?_) (fun c1 hf => ?_)
  · refine xr_iconst (v := 2) C dX8_takeFigures_94 (by decide) ?_
    refine xr_lv [] rfl ?_
    exact ebX8_takeFigures_95 C H0 q hf
  · refine xr_iconst (v := 4) C dX8_takeFigures_90 (by decide) ?_
    refine xr_goto (tgt := 95) C dX8_takeFigures_91 (by decide) ?_
    refine xr_lv [] rfl ?_
    exact ebX8_takeFigures_95 C H0 q hf
def fnX8_takeFigures_63 (rec0 : Mem → Option Mem) (I0 : Mem) : Option Mem :=
  bnd (up2 I0 13 6 ((I0 13 6) + 1)) fun I1 => rec0 I1
set_option maxRecDepth 20000 in
set_option maxHeartbeats 2000000 in
theorem ebX8_takeFigures_63 {g : Cfg} (C : Cx g RX8 cX8_takeFigures 1 1 20 0 0) {h : Shp} (H0 : TapeAt h) {o1 : Mem} {rec0 : Mem → Option Mem} (ih0 : ∀ (I0 : Mem), rec0 I0 = some o1 → XE g 0 0 (I0, h) 0 [(0, rf g 13)] []) (q : QV g 0 0 (o1, h)) {I0 : Mem} (hf : fnX8_takeFigures_63 rec0 I0 = some o1) : XE g 0 0 (I0, h) 63 [(0, rf g 13)] [] := by
  unfold fnX8_takeFigures_63 at hf
  refine xr_aload_n C dX8_takeFigures_63 0 rfl rfl ?_
  refine xr_dup C dX8_takeFigures_64 rfl ?_
  refine xr_geti C Kd8 (k := 6) (by decide) rfl wk_111 rfl H0.1 dX8_takeFigures_65 ?_
  refine xr_iconst (v := 1) C dX8_takeFigures_68 (by decide) ?_
  refine xr_iadd C dX8_takeFigures_69 ?_
  obtain ⟨I1, eI1, hf⟩ := bnd_x hf
  refine xr_putI C Kd8 (k := 6) (by decide) rfl rfl wk_111 rfl rfl rfl H0.1 dX8_takeFigures_70 eI1 ?_
  refine xr_goto (tgt := 0) C dX8_takeFigures_73 (by decide) ?_
  exact ih0 _ hf
def fnX8_takeFigures_0b (rec0 : Mem → Option Mem) (I0 : Mem) : Option Mem :=
  if (I0 13 1) ≤ (I0 13 6) then (fnX8_takeFigures_76 I0) else (ck (inb (I0 13 6) 400) <| ob (fnX8_isFigure I0 (I0 14 (ix (I0 13 6)))) fun ⟨r5, I4⟩ => if r5 = 0 then (fnX8_takeFigures_76 I4) else (if 3 ≤ ((I4 13 6) - (I4 13 7)) then (fnX8_takeFigures_63 rec0 I4) else (ck (inb (I4 13 6) 400) <| bnd (up2 I4 13 9 ((((10 : Int32) * (I4 13 9)) + (I4 14 (ix (I4 13 6)))) - 48)) fun I9 => fnX8_takeFigures_63 rec0 I9)))
def fnX8_takeFigures_0 : Nat → Mem → Option Mem
  | 0 => fun _ => none
  | fu + 1 => fnX8_takeFigures_0b (fnX8_takeFigures_0 fu)
set_option maxRecDepth 20000 in
set_option maxHeartbeats 2000000 in
theorem ebX8_takeFigures_0b {g : Cfg} (C : Cx g RX8 cX8_takeFigures 1 1 20 0 0) {h : Shp} (H0 : TapeAt h) {o1 : Mem} {rec0 : Mem → Option Mem} (q : QV g 0 0 (o1, h)) (ih0 : ∀ (I0 : Mem), rec0 I0 = some o1 → XE g 0 0 (I0, h) 0 [(0, rf g 13)] []) {I0 : Mem} (hf : fnX8_takeFigures_0b rec0 I0 = some o1) : XE g 0 0 (I0, h) 0 [(0, rf g 13)] [] := by
  unfold fnX8_takeFigures_0b at hf
  refine xr_aload_n C dX8_takeFigures_0 0 rfl rfl ?_
  refine xr_geti C Kd8 (k := 6) (by decide) rfl wk_111 rfl H0.1 dX8_takeFigures_1 ?_
  refine xr_aload_n C dX8_takeFigures_4 0 rfl rfl ?_
  refine xr_geti C Kd8 (k := 1) (by decide) rfl wk_101 rfl H0.1 dX8_takeFigures_5 ?_
  refine xr_icmp_ge (tgt := 76) C dX8_takeFigures_8 (by decide) hf (fun c1 hf => ?_) (fun c1 hf => ?_)
  · exact ebX8_takeFigures_76 C H0 q hf
  · refine xr_aload_n C dX8_takeFigures_11 0 rfl rfl ?_
    refine xr_getr C Kd8 (k := 0) (by decide) rfl wk_100 rfl H0.1 H0.2.1.1 dX8_takeFigures_12 ?_
    refine xr_aload_n C dX8_takeFigures_15 0 rfl rfl ?_
    refine xr_geti C Kd8 (k := 6) (by decide) rfl wk_111 rfl H0.1 dX8_takeFigures_16 ?_
    obtain ⟨i2, hf⟩ := ck_x hf
    refine xr_iald C H0.2.1.2 i2 dX8_takeFigures_19 ?_
    obtain ⟨⟨r5, I4⟩, h3, hf⟩ := ob_x hf
    refine xr_callSI C [.int (I0 14 (ix (I0 13 6)))] lkX8_124 (kX8_isFigure h3) rfl (Nat.le_of_ble_eq_true rfl) rfl dX8_takeFigures_20 ⟨by decide, by decide, by decide⟩ rfl ?_
    refine xr_if_eq (tgt := 76) C dX8_takeFigures_23 (by decide) hf (fun c6 hf => ?_) (fun c6 hf => ?_)
    · exact ebX8_takeFigures_76 C H0 q hf
    · refine xr_aload_n C dX8_takeFigures_26 0 rfl rfl ?_
      refine xr_geti C Kd8 (k := 6) (by decide) rfl wk_111 rfl H0.1 dX8_takeFigures_27 ?_
      refine xr_aload_n C dX8_takeFigures_30 0 rfl rfl ?_
      refine xr_geti C Kd8 (k := 7) (by decide) rfl wk_112 rfl H0.1 dX8_takeFigures_31 ?_
      refine xr_isub C dX8_takeFigures_34 ?_
      refine xr_iconst (v := 3) C dX8_takeFigures_35 (by decide) ?_
      refine xr_icmp_ge (tgt := 63) C dX8_takeFigures_36 (by decide) hf (fun c7 hf => ?_) (fun c7 hf => ?_)
      · exact ebX8_takeFigures_63 C H0 ih0 q hf
      · refine xr_aload_n C dX8_takeFigures_39 0 rfl rfl ?_
        refine xr_bipush (v := 10) C dX8_takeFigures_40 (by decide) ?_
        refine xr_aload_n C dX8_takeFigures_42 0 rfl rfl ?_
        refine xr_geti C Kd8 (k := 9) (by decide) rfl wk_115 rfl H0.1 dX8_takeFigures_43 ?_
        refine xr_imul C dX8_takeFigures_46 ?_
        refine xr_aload_n C dX8_takeFigures_47 0 rfl rfl ?_
        refine xr_getr C Kd8 (k := 0) (by decide) rfl wk_100 rfl H0.1 H0.2.1.1 dX8_takeFigures_48 ?_
        refine xr_aload_n C dX8_takeFigures_51 0 rfl rfl ?_
        refine xr_geti C Kd8 (k := 6) (by decide) rfl wk_111 rfl H0.1 dX8_takeFigures_52 ?_
        obtain ⟨i8, hf⟩ := ck_x hf
        refine xr_iald C H0.2.1.2 i8 dX8_takeFigures_55 ?_
        refine xr_iadd C dX8_takeFigures_56 ?_
        refine xr_bipush (v := 48) C dX8_takeFigures_57 (by decide) ?_
        refine xr_isub C dX8_takeFigures_59 ?_
        obtain ⟨I9, eI9, hf⟩ := bnd_x hf
        refine xr_putI C Kd8 (k := 9) (by decide) rfl rfl wk_115 rfl rfl rfl H0.1 dX8_takeFigures_60 eI9 ?_
        exact ebX8_takeFigures_63 C H0 ih0 q hf
theorem ebX8_takeFigures_0 {g : Cfg} (C : Cx g RX8 cX8_takeFigures 1 1 20 0 0) {h : Shp} (H0 : TapeAt h) {o1 : Mem} (q : QV g 0 0 (o1, h)) : ∀ (fu : Nat) {I0 : Mem} (hf : fnX8_takeFigures_0 fu I0 = some o1), XE g 0 0 (I0, h) 0 [(0, rf g 13)] [] := by
  intro fu
  induction fu with
  | zero =>
    intro I0 hf
    cases hf
  | succ fu ihn =>
    intro I0 hf
    exact ebX8_takeFigures_0b C H0 q (fun _ hf => ihn hf) hf
def fnX8_takeFigures (I0 : Mem) : Option Mem :=
  fnX8_takeFigures_0 FU I0
set_option maxRecDepth 20000 in
set_option maxHeartbeats 2000000 in
theorem ebX8_takeFigures_e {g : Cfg} (C : Cx g RX8 cX8_takeFigures 1 1 20 0 0) {h : Shp} (H0 : TapeAt h) {o1 : Mem} (q : QV g 0 0 (o1, h)) {I0 : Mem} (hf : fnX8_takeFigures I0 = some o1) : XE g 0 0 (I0, h) 0 [(0, rf g 13)] [] := by
  unfold fnX8_takeFigures at hf
  exact ebX8_takeFigures_0 C H0 q _ hf
theorem kX8_takeFigures {B : Bs} {h : Shp} (H0 : TapeAt h) {I0 : Mem} {o1 : Mem} (hf : fnX8_takeFigures I0 = some o1) : CtrV B yX8_takeFigures cX8_takeFigures 1 1 20 0 0 [rfB B 13] (I0, h) (o1, h) := by
  refine xr_enterV (lv0 := [(0, rfB B 13)]) (by decide) (Nat.le_of_ble_eq_true rfl) rfl (fun g hg C q => ?_)
  subst hg
  exact ebX8_takeFigures_e C H0 q hf
theorem dX8_take_0 : decode cX8_take 0 = .ok (.aload_n 0, 1) := by decide +kernel
theorem dX8_take_1 : decode cX8_take 1 = .ok (.getfield 32, 3) := by decide +kernel
theorem dX8_take_4 : decode cX8_take 4 = .ok (.ifCond .eq 4, 3) := by decide +kernel
theorem dX8_take_7 : decode cX8_take 7 = .ok (.return_, 1) := by decide +kernel
theorem dX8_take_8 : decode cX8_take 8 = .ok (.aload_n 0, 1) := by decide +kernel
theorem dX8_take_9 : decode cX8_take 9 = .ok (.getfield 35, 3) := by decide +kernel
theorem dX8_take_12 : decode cX8_take 12 = .ok (.aload_n 0, 1) := by decide +kernel
theorem dX8_take_13 : decode cX8_take 13 = .ok (.getfield 15, 3) := by decide +kernel
theorem dX8_take_16 : decode cX8_take 16 = .ok (.if_icmp .ge 31, 3) := by decide +kernel
theorem dX8_take_19 : decode cX8_take 19 = .ok (.aload_n 0, 1) := by decide +kernel
theorem dX8_take_20 : decode cX8_take 20 = .ok (.getfield 9, 3) := by decide +kernel
theorem dX8_take_23 : decode cX8_take 23 = .ok (.aload_n 0, 1) := by decide +kernel
theorem dX8_take_24 : decode cX8_take 24 = .ok (.getfield 35, 3) := by decide +kernel
theorem dX8_take_27 : decode cX8_take 27 = .ok (.iaload, 1) := by decide +kernel
theorem dX8_take_28 : decode cX8_take 28 = .ok (.invokestatic 114, 3) := by decide +kernel
theorem dX8_take_31 : decode cX8_take 31 = .ok (.ifCond .eq 16, 3) := by decide +kernel
theorem dX8_take_34 : decode cX8_take 34 = .ok (.aload_n 0, 1) := by decide +kernel
theorem dX8_take_35 : decode cX8_take 35 = .ok (.dup, 1) := by decide +kernel
theorem dX8_take_36 : decode cX8_take 36 = .ok (.getfield 35, 3) := by decide +kernel
theorem dX8_take_39 : decode cX8_take 39 = .ok (.iconst 1, 1) := by decide +kernel
theorem dX8_take_40 : decode cX8_take 40 = .ok (.iadd, 1) := by decide +kernel
theorem dX8_take_41 : decode cX8_take 41 = .ok (.putfield 35, 3) := by decide +kernel
theorem dX8_take_44 : decode cX8_take 44 = .ok (.goto (-36), 3) := by decide +kernel
theorem dX8_take_47 : decode cX8_take 47 = .ok (.aload_n 0, 1) := by decide +kernel
theorem dX8_take_48 : decode cX8_take 48 = .ok (.aload_n 0, 1) := by decide +kernel
theorem dX8_take_49 : decode cX8_take 49 = .ok (.getfield 35, 3) := by decide +kernel
theorem dX8_take_52 : decode cX8_take 52 = .ok (.putfield 38, 3) := by decide +kernel
theorem dX8_take_55 : decode cX8_take 55 = .ok (.aload_n 0, 1) := by decide +kernel
theorem dX8_take_56 : decode cX8_take 56 = .ok (.iconst 0, 1) := by decide +kernel
theorem dX8_take_57 : decode cX8_take 57 = .ok (.putfield 44, 3) := by decide +kernel
theorem dX8_take_60 : decode cX8_take 60 = .ok (.aload_n 0, 1) := by decide +kernel
theorem dX8_take_61 : decode cX8_take 61 = .ok (.getfield 35, 3) := by decide +kernel
theorem dX8_take_64 : decode cX8_take 64 = .ok (.aload_n 0, 1) := by decide +kernel
theorem dX8_take_65 : decode cX8_take 65 = .ok (.getfield 15, 3) := by decide +kernel
theorem dX8_take_68 : decode cX8_take 68 = .ok (.if_icmp .lt 11, 3) := by decide +kernel
theorem dX8_take_71 : decode cX8_take 71 = .ok (.aload_n 0, 1) := by decide +kernel
theorem dX8_take_72 : decode cX8_take 72 = .ok (.iconst 0, 1) := by decide +kernel
theorem dX8_take_73 : decode cX8_take 73 = .ok (.putfield 41, 3) := by decide +kernel
theorem dX8_take_76 : decode cX8_take 76 = .ok (.goto 80, 3) := by decide +kernel
theorem dX8_take_79 : decode cX8_take 79 = .ok (.aload_n 0, 1) := by decide +kernel
theorem dX8_take_80 : decode cX8_take 80 = .ok (.getfield 9, 3) := by decide +kernel
theorem dX8_take_83 : decode cX8_take 83 = .ok (.aload_n 0, 1) := by decide +kernel
theorem dX8_take_84 : decode cX8_take 84 = .ok (.getfield 35, 3) := by decide +kernel
theorem dX8_take_87 : decode cX8_take 87 = .ok (.iaload, 1) := by decide +kernel
theorem dX8_take_88 : decode cX8_take 88 = .ok (.invokestatic 118, 3) := by decide +kernel
theorem dX8_take_91 : decode cX8_take 91 = .ok (.ifCond .eq 10, 3) := by decide +kernel
theorem dX8_take_94 : decode cX8_take 94 = .ok (.aload_n 0, 1) := by decide +kernel
theorem dX8_take_95 : decode cX8_take 95 = .ok (.invokevirtual 121, 3) := by decide +kernel
theorem dX8_take_98 : decode cX8_take 98 = .ok (.goto 58, 3) := by decide +kernel
theorem dX8_take_101 : decode cX8_take 101 = .ok (.aload_n 0, 1) := by decide +kernel
theorem dX8_take_102 : decode cX8_take 102 = .ok (.getfield 9, 3) := by decide +kernel
theorem dX8_take_105 : decode cX8_take 105 = .ok (.aload_n 0, 1) := by decide +kernel
theorem dX8_take_106 : decode cX8_take 106 = .ok (.getfield 35, 3) := by decide +kernel
theorem dX8_take_109 : decode cX8_take 109 = .ok (.iaload, 1) := by decide +kernel
theorem dX8_take_110 : decode cX8_take 110 = .ok (.invokestatic 124, 3) := by decide +kernel
theorem dX8_take_113 : decode cX8_take 113 = .ok (.ifCond .eq 10, 3) := by decide +kernel
theorem dX8_take_116 : decode cX8_take 116 = .ok (.aload_n 0, 1) := by decide +kernel
theorem dX8_take_117 : decode cX8_take 117 = .ok (.invokevirtual 127, 3) := by decide +kernel
theorem dX8_take_120 : decode cX8_take 120 = .ok (.goto 36, 3) := by decide +kernel
theorem dX8_take_123 : decode cX8_take 123 = .ok (.aload_n 0, 1) := by decide +kernel
theorem dX8_take_124 : decode cX8_take 124 = .ok (.aload_n 0, 1) := by decide +kernel
theorem dX8_take_125 : decode cX8_take 125 = .ok (.getfield 9, 3) := by decide +kernel
theorem dX8_take_128 : decode cX8_take 128 = .ok (.aload_n 0, 1) := by decide +kernel
theorem dX8_take_129 : decode cX8_take 129 = .ok (.getfield 35, 3) := by decide +kernel
theorem dX8_take_132 : decode cX8_take 132 = .ok (.iaload, 1) := by decide +kernel
theorem dX8_take_133 : decode cX8_take 133 = .ok (.bipush 59, 2) := by decide +kernel
theorem dX8_take_135 : decode cX8_take 135 = .ok (.if_icmp .ne 7, 3) := by decide +kernel
theorem dX8_take_138 : decode cX8_take 138 = .ok (.iconst 3, 1) := by decide +kernel
theorem dX8_take_139 : decode cX8_take 139 = .ok (.goto 4, 3) := by decide +kernel
theorem dX8_take_142 : decode cX8_take 142 = .ok (.iconst 4, 1) := by decide +kernel
theorem dX8_take_143 : decode cX8_take 143 = .ok (.putfield 41, 3) := by decide +kernel
theorem dX8_take_146 : decode cX8_take 146 = .ok (.aload_n 0, 1) := by decide +kernel
theorem dX8_take_147 : decode cX8_take 147 = .ok (.dup, 1) := by decide +kernel
theorem dX8_take_148 : decode cX8_take 148 = .ok (.getfield 35, 3) := by decide +kernel
theorem dX8_take_151 : decode cX8_take 151 = .ok (.iconst 1, 1) := by decide +kernel
theorem dX8_take_152 : decode cX8_take 152 = .ok (.iadd, 1) := by decide +kernel
theorem dX8_take_153 : decode cX8_take 153 = .ok (.putfield 35, 3) := by decide +kernel
theorem dX8_take_156 : decode cX8_take 156 = .ok (.return_, 1) := by decide +kernel
theorem lkX8_114 : LkS "BumperBalls$Tape" 114 yX8_isBlank cX8_isBlank 1 (some Jvm.ClassFile.FieldType.boolean) 1 := ⟨wk_425, wk_3, wk_424, ⟨by decide +kernel, by decide +kernel, by decide +kernel⟩, wk_423⟩
theorem lkX8_121 : LkV "BumperBalls$Tape" 121 yX8_takeName cX8_takeName 1 none 0 := ⟨wk_432, wk_3, wk_431, wk_s12, ⟨by decide +kernel, by decide +kernel, by decide +kernel⟩, wk_429⟩
theorem lkX8_127 : LkV "BumperBalls$Tape" 127 yX8_takeFigures cX8_takeFigures 1 none 0 := ⟨wk_439, wk_3, wk_438, wk_s13, ⟨by decide +kernel, by decide +kernel, by decide +kernel⟩, wk_436⟩
/-! BumperBalls$Tape.take()V -/
def fnX8_take_156 (I0 : Mem) : Option Mem :=
  some I0
set_option maxRecDepth 20000 in
set_option maxHeartbeats 2000000 in
theorem ebX8_take_156 {g : Cfg} (C : Cx g RX8 cX8_take 1 2 40 0 0) {h : Shp} (H0 : TapeAt h) {o1 : Mem} (q : QV g 0 0 (o1, h)) {I0 : Mem} (hf : fnX8_take_156 I0 = some o1) : XE g 0 0 (I0, h) 156 [] [] := by
  unfold fnX8_take_156 at hf
  exact xr_return C q dX8_take_156 (so_v hf)
def fnX8_take_143 (I0 : Mem) (t1 : Int32) : Option Mem :=
  bnd (up2 I0 13 8 t1) fun I1 => bnd (up2 I1 13 6 ((I1 13 6) + 1)) fun I2 => fnX8_take_156 I2
set_option maxRecDepth 20000 in
set_option maxHeartbeats 2000000 in
theorem ebX8_take_143 {g : Cfg} (C : Cx g RX8 cX8_take 1 2 40 0 0) {h : Shp} (H0 : TapeAt h) {o1 : Mem} (q : QV g 0 0 (o1, h)) {I0 : Mem} {t1 : Int32} (hf : fnX8_take_143 I0 t1 = some o1) : XE g 0 0 (I0, h) 143 [(0, rf g 13)] [.int t1, rf g 13] := by
  unfold fnX8_take_143 at hf
  obtain ⟨I1, eI1, hf⟩ := bnd_x hf
  refine xr_putI C Kd8 (k := 8) (by decide) rfl rfl wk_114 rfl rfl rfl H0.1 dX8_take_143 eI1 ?_
  refine xr_aload_n C dX8_take_146 0 rfl rfl ?_
  refine xr_dup C dX8_take_147 rfl ?_
  refine xr_geti C Kd8 (k := 6) (by decide) rfl wk_111 rfl H0.1 dX8_take_148 ?_
  refine xr_iconst (v := 1) C dX8_take_151 (by decide) ?_
  refine xr_iadd C dX8_take_152 ?_
  obtain ⟨I2, eI2, hf⟩ := bnd_x hf
  refine xr_putI C Kd8 (k := 6) (by decide) rfl rfl wk_111 rfl rfl rfl H0.1 dX8_take_153 eI2 ?_
  refine xr_lv [] rfl ?_
  exact ebX8_take_156 C H0 q hf
def fnX8_take_47 (I0 : Mem) : Option Mem :=
  bnd (up2 I0 13 7 (I0 13 6)) fun I1 => bnd (up2 I1 13 9 0) fun I2 => if (I2 13 6) < (I2 13 1) then (ck (inb (I2 13 6) 400) <| ob (fnX8_isLetter I2 (I2 14 (ix (I2 13 6)))) fun ⟨r7, I6⟩ => if r7 = 0 then (ck (inb (I6 13 6) 400) <| ob (fnX8_isFigure I6 (I6 14 (ix (I6 13 6)))) fun ⟨r12, I11⟩ => if r12 = 0 then (ck (inb (I11 13 6) 400) <| if (I11 14 (ix (I11 13 6))) = 59 then (fnX8_take_143 I11 3) else (fnX8_take_143 I11 4)) else (ob (fnX8_takeFigures I11) fun I17 => fnX8_take_156 I17)) else (ob (fnX8_takeName I6) fun I19 => fnX8_take_156 I19)) else (bnd (up2 I2 13 8 0) fun I20 => fnX8_take_156 I20)
set_option maxRecDepth 20000 in
set_option maxHeartbeats 2000000 in
theorem ebX8_take_47 {g : Cfg} (C : Cx g RX8 cX8_take 1 2 40 0 0) {h : Shp} (H0 : TapeAt h) {o1 : Mem} (q : QV g 0 0 (o1, h)) {I0 : Mem} (hf : fnX8_take_47 I0 = some o1) : XE g 0 0 (I0, h) 47 [(0, rf g 13)] [] := by
  unfold fnX8_take_47 at hf
  refine xr_aload_n C dX8_take_47 0 rfl rfl ?_
  refine xr_aload_n C dX8_take_48 0 rfl rfl ?_
  refine xr_geti C Kd8 (k := 6) (by decide) rfl wk_111 rfl H0.1 dX8_take_49 ?_
  obtain ⟨I1, eI1, hf⟩ := bnd_x hf
  refine xr_putI C Kd8 (k := 7) (by decide) rfl rfl wk_112 rfl rfl rfl H0.1 dX8_take_52 eI1 ?_
  refine xr_aload_n C dX8_take_55 0 rfl rfl ?_
  refine xr_iconst (v := 0) C dX8_take_56 (by decide) ?_
  obtain ⟨I2, eI2, hf⟩ := bnd_x hf
  refine xr_putI C Kd8 (k := 9) (by decide) rfl rfl wk_115 rfl rfl rfl H0.1 dX8_take_57 eI2 ?_
  refine xr_aload_n C dX8_take_60 0 rfl rfl ?_
  refine xr_geti C Kd8 (k := 6) (by decide) rfl wk_111 rfl H0.1 dX8_take_61 ?_
  refine xr_aload_n C dX8_take_64 0 rfl rfl ?_
  refine xr_geti C Kd8 (k := 1) (by decide) rfl wk_101 rfl H0.1 dX8_take_65 ?_
  refine xr_icmp_lt (tgt := 79) C dX8_take_68 (by decide) hf (fun c3 hf => ?_) (fun c3 hf => ?_)
  · refine xr_aload_n C dX8_take_79 0 rfl rfl ?_
    refine xr_getr C Kd8 (k := 0) (by decide) rfl wk_100 rfl H0.1 H0.2.1.1 dX8_take_80 ?_
    refine xr_aload_n C dX8_take_83 0 rfl rfl ?_
    refine xr_geti C Kd8 (k := 6) (by decide) rfl wk_111 rfl H0.1 dX8_take_84 ?_
    obtain ⟨i4, hf⟩ := ck_x hf
    refine xr_iald C H0.2.1.2 i4 dX8_take_87 ?_
    obtain ⟨⟨r7, I6⟩, h5, hf⟩ := ob_x hf
    refine xr_callSI C [.int (I2 14 (ix (I2 13 6)))] lkX8_118 (kX8_isLetter h5) rfl (Nat.le_of_ble_eq_true rfl) rfl dX8_take_88 ⟨by decide, by decide, by decide⟩ rfl ?_
    refine xr_if_eq (tgt := 101) C dX8_take_91 (by decide) hf (fun c8 hf => ?_) (fun c8 hf => ?_)
    · refine xr_aload_n C dX8_take_101 0 rfl rfl ?_
      refine xr_getr C Kd8 (k := 0) (by decide) rfl wk_100 rfl H0.1 H0.2.1.1 dX8_take_102 ?_
      refine xr_aload_n C dX8_take_105 0 rfl rfl ?_
      refine xr_geti C Kd8 (k := 6) (by decide) rfl wk_111 rfl H0.1 dX8_take_106 ?_
      obtain ⟨i9, hf⟩ := ck_x hf
      refine xr_iald C H0.2.1.2 i9 dX8_take_109 ?_
      obtain ⟨⟨r12, I11⟩, h10, hf⟩ := ob_x hf
      refine xr_callSI C [.int (I6 14 (ix (I6 13 6)))] lkX8_124 (kX8_isFigure h10) rfl (Nat.le_of_ble_eq_true rfl) rfl dX8_take_110 ⟨by decide, by decide, by decide⟩ rfl ?_
      refine xr_if_eq (tgt := 123) C dX8_take_113 (by decide) hf (fun c13 hf => ?_) (fun c13 hf => ?_)
      · refine xr_aload_n C dX8_take_123 0 rfl rfl ?_
        refine xr_aload_n C dX8_take_124 0 rfl rfl ?_
        refine xr_getr C Kd8 (k := 0) (by decide) rfl wk_100 rfl H0.1 H0.2.1.1 dX8_take_125 ?_
        refine xr_aload_n C dX8_take_128 0 rfl rfl ?_
        refine xr_geti C Kd8 (k := 6) (by decide) rfl wk_111 rfl H0.1 dX8_take_129 ?_
        obtain ⟨i14, hf⟩ := ck_x hf
        refine xr_iald C H0.2.1.2 i14 dX8_take_132 ?_
        refine xr_bipush (v := 59) C dX8_take_133 (by decide) ?_
        refine xr_icmp_ne (tgt := 142) C dX8_take_135 (by decide) hf (fun c15 hf => ?_) (fun c15 hf => ?_)
        · refine xr_iconst (v := 4) C dX8_take_142 (by decide) ?_
          exact ebX8_take_143 C H0 q hf
        · refine xr_iconst (v := 3) C dX8_take_138 (by decide) ?_
          refine xr_goto (tgt := 143) C dX8_take_139 (by decide) ?_
          exact ebX8_take_143 C H0 q hf
      · refine xr_aload_n C dX8_take_116 0 rfl rfl ?_
        obtain ⟨I17, h16, hf⟩ := ob_x hf
        refine xr_callVV C [] lkX8_127 (kX8_takeFigures H0 h16) Kd8 rfl H0.1 rfl (Nat.le_of_ble_eq_true rfl) rfl dX8_take_117 ⟨by decide, by decide, by decide⟩ rfl ?_
        refine xr_goto (tgt := 156) C dX8_take_120 (by decide) ?_
        refine xr_lv [] rfl ?_
        exact ebX8_take_156 C H0 q hf
    · refine xr_aload_n C dX8_take_94 0 rfl rfl ?_
      obtain ⟨I19, h18, hf⟩ := ob_x hf
      refine xr_callVV C [] lkX8_121 (kX8_takeName H0 h18) Kd8 rfl H0.1 rfl (Nat.le_of_ble_eq_true rfl) rfl dX8_take_95 ⟨by decide, by decide, by decide⟩ rfl ?_
      refine xr_goto (tgt := 156) C dX8_take_98 (by decide) ?_
      refine xr_lv [] rfl ?_
      exact ebX8_take_156 C H0 q hf
  · refine xr_aload_n C dX8_take_71 0 rfl rfl ?_
    refine xr_iconst (v := 0) C dX8_take_72 (by decide) ?_
    obtain ⟨I20, eI20, hf⟩ := bnd_x hf
    refine xr_putI C Kd8 (k := 8) (by decide) rfl rfl wk_114 rfl rfl rfl H0.1 dX8_take_73 eI20 ?_
    refine xr_goto (tgt := 156) C dX8_take_76 (by decide) ?_
    refine xr_lv [] rfl ?_
    exact ebX8_take_156 C H0 q hf
def fnX8_take_8b (rec8 : Mem → Option Mem) (I0 : Mem) : Option Mem :=
  if (I0 13 1) ≤ (I0 13 6) then (fnX8_take_47 I0) else (ck (inb (I0 13 6) 400) <| ob (fnX8_isBlank I0 (I0 14 (ix (I0 13 6)))) fun ⟨r5, I4⟩ => if r5 = 0 then (fnX8_take_47 I4) else (bnd (up2 I4 13 6 ((I4 13 6) + 1)) fun I7 => rec8 I7))
def fnX8_take_8 : Nat → Mem → Option Mem
  | 0 => fun _ => none
  | fu + 1 => fnX8_take_8b (fnX8_take_8 fu)
set_option maxRecDepth 20000 in
set_option maxHeartbeats 2000000 in
theorem ebX8_take_8b {g : Cfg} (C : Cx g RX8 cX8_take 1 2 40 0 0) {h : Shp} (H0 : TapeAt h) {o1 : Mem} {rec8 : Mem → Option Mem} (q : QV g 0 0 (o1, h)) (ih8 : ∀ (I0 : Mem), rec8 I0 = some o1 → XE g 0 0 (I0, h) 8 [(0, rf g 13)] []) {I0 : Mem} (hf : fnX8_take_8b rec8 I0 = some o1) : XE g 0 0 (I0, h) 8 [(0, rf g 13)] [] := by
  unfold fnX8_take_8b at hf
  refine xr_aload_n C dX8_take_8 0 rfl rfl ?_
  refine xr_geti C Kd8 (k := 6) (by decide) rfl wk_111 rfl H0.1 dX8_take_9 ?_
  refine xr_aload_n C dX8_take_12 0 rfl rfl ?_
  refine xr_geti C Kd8 (k := 1) (by decide) rfl wk_101 rfl H0.1 dX8_take_13 ?_
  refine xr_icmp_ge (tgt := 47) C dX8_take_16 (by decide) hf (fun c1 hf => ?_) (fun c1 hf => ?_)
  · exact ebX8_take_47 C H0 q hf
  · refine xr_aload_n C dX8_take_19 0 rfl rfl ?_
    refine xr_getr C Kd8 (k := 0) (by decide) rfl wk_100 rfl H0.1 H0.2.1.1 dX8_take_20 ?_
    refine xr_aload_n C dX8_take_23 0 rfl rfl ?_
    refine xr_geti C Kd8 (k := 6) (by decide) rfl wk_111 rfl H0.1 dX8_take_24 ?_
    obtain ⟨i2, hf⟩ := ck_x hf
    refine xr_iald C H0.2.1.2 i2 dX8_take_27 ?_
    obtain ⟨⟨r5, I4⟩, h3, hf⟩ := ob_x hf
    refine xr_callSI C [.int (I0 14 (ix (I0 13 6)))] lkX8_114 (kX8_isBlank h3) rfl (Nat.le_of_ble_eq_true rfl) rfl dX8_take_28 ⟨by decide, by decide, by decide⟩ rfl ?_
    refine xr_if_eq (tgt := 47) C dX8_take_31 (by decide) hf (fun c6 hf => ?_) (fun c6 hf => ?_)
    · exact ebX8_take_47 C H0 q hf
    · refine xr_aload_n C dX8_take_34 0 rfl rfl ?_
      refine xr_dup C dX8_take_35 rfl ?_
      refine xr_geti C Kd8 (k := 6) (by decide) rfl wk_111 rfl H0.1 dX8_take_36 ?_
      refine xr_iconst (v := 1) C dX8_take_39 (by decide) ?_
      refine xr_iadd C dX8_take_40 ?_
      obtain ⟨I7, eI7, hf⟩ := bnd_x hf
      refine xr_putI C Kd8 (k := 6) (by decide) rfl rfl wk_111 rfl rfl rfl H0.1 dX8_take_41 eI7 ?_
      refine xr_goto (tgt := 8) C dX8_take_44 (by decide) ?_
      exact ih8 _ hf
theorem ebX8_take_8 {g : Cfg} (C : Cx g RX8 cX8_take 1 2 40 0 0) {h : Shp} (H0 : TapeAt h) {o1 : Mem} (q : QV g 0 0 (o1, h)) : ∀ (fu : Nat) {I0 : Mem} (hf : fnX8_take_8 fu I0 = some o1), XE g 0 0 (I0, h) 8 [(0, rf g 13)] [] := by
  intro fu
  induction fu with
  | zero =>
    intro I0 hf
    cases hf
  | succ fu ihn =>
    intro I0 hf
    exact ebX8_take_8b C H0 q (fun _ hf => ihn hf) hf
def fnX8_take (I0 : Mem) : Option Mem :=
  if (I0 13 5) = 0 then (fnX8_take_8 FU I0) else (some I0)
set_option maxRecDepth 20000 in
set_option maxHeartbeats 2000000 in
theorem ebX8_take_0 {g : Cfg} (C : Cx g RX8 cX8_take 1 2 40 0 0) {h : Shp} (H0 : TapeAt h) {o1 : Mem} (q : QV g 0 0 (o1, h)) {I0 : Mem} (hf : fnX8_take I0 = some o1) : XE g 0 0 (I0, h) 0 [(0, rf g 13)] [] := by
  unfold fnX8_take at hf
  refine xr_aload_n C dX8_take_0 0 rfl rfl ?_
  refine xr_geti C Kd8 (k := 5) (by decide) rfl wk_109 rfl H0.1 dX8_take_1 ?_
  refine xr_if_eq (tgt := 8) C dX8_take_4 (by decide) hf (fun c1 hf => ?_) (fun c1 hf => ?_)
  · exact ebX8_take_8 C H0 q _ hf
  · exact xr_return C q dX8_take_7 (so_v hf)
theorem kX8_take {B : Bs} {h : Shp} (H0 : TapeAt h) {I0 : Mem} {o1 : Mem} (hf : fnX8_take I0 = some o1) : CtrV B yX8_take cX8_take 1 2 40 0 0 [rfB B 13] (I0, h) (o1, h) := by
  refine xr_enterV (lv0 := [(0, rfB B 13)]) (by decide) (Nat.le_of_ble_eq_true rfl) rfl (fun g hg C q => ?_)
  subst hg
  exact ebX8_take_0 C H0 q hf
theorem dX8_isName_0 : decode cX8_isName 0 = .ok (.aload_n 0, 1) := by decide +kernel
theorem dX8_isName_1 : decode cX8_isName 1 = .ok (.getfield 41, 3) := by decide +kernel
theorem dX8_isName_4 : decode cX8_isName 4 = .ok (.iconst 1, 1) := by decide +kernel
theorem dX8_isName_5 : decode cX8_isName 5 = .ok (.if_icmp .ne 19, 3) := by decide +kernel
theorem dX8_isName_8 : decode cX8_isName 8 = .ok (.aload_n 0, 1) := by decide +kernel
theorem dX8_isName_9 : decode cX8_isName 9 = .ok (.getfield 35, 3) := by decide +kernel
theorem dX8_isName_12 : decode cX8_isName 12 = .ok (.aload_n 0, 1) := by decide +kernel
theorem dX8_isName_13 : decode cX8_isName 13 = .ok (.getfield 38, 3) := by decide +kernel
theorem dX8_isName_16 : decode cX8_isName 16 = .ok (.isub, 1) := by decide +kernel
theorem dX8_isName_17 : decode cX8_isName 17 = .ok (.aload_n 1, 1) := by decide +kernel
theorem dX8_isName_18 : decode cX8_isName 18 = .ok (.invokevirtual 130, 3) := by decide +kernel
theorem dX8_isName_21 : decode cX8_isName 21 = .ok (.if_icmp .eq 5, 3) := by decide +kernel
theorem dX8_isName_24 : decode cX8_isName 24 = .ok (.iconst 0, 1) := by decide +kernel
theorem dX8_isName_25 : decode cX8_isName 25 = .ok (.ireturn, 1) := by decide +kernel
theorem dX8_isName_26 : decode cX8_isName 26 = .ok (.iconst 0, 1) := by decide +kernel
theorem dX8_isName_27 : decode cX8_isName 27 = .ok (.istore_n 2, 1) := by decide +kernel
theorem dX8_isName_28 : decode cX8_isName 28 = .ok (.iload_n 2, 1) := by decide +kernel
theorem dX8_isName_29 : decode cX8_isName 29 = .ok (.aload_n 1, 1) := by decide +kernel
theorem dX8_isName_30 : decode cX8_isName 30 = .ok (.invokevirtual 130, 3) := by decide +kernel
theorem dX8_isName_33 : decode cX8_isName 33 = .ok (.if_icmp .ge 30, 3) := by decide +kernel
theorem dX8_isName_36 : decode cX8_isName 36 = .ok (.aload_n 0, 1) := by decide +kernel
theorem dX8_isName_37 : decode cX8_isName 37 = .ok (.getfield 9, 3) := by decide +kernel
theorem dX8_isName_40 : decode cX8_isName 40 = .ok (.aload_n 0, 1) := by decide +kernel
theorem dX8_isName_41 : decode cX8_isName 41 = .ok (.getfield 38, 3) := by decide +kernel
theorem dX8_isName_44 : decode cX8_isName 44 = .ok (.iload_n 2, 1) := by decide +kernel
theorem dX8_isName_45 : decode cX8_isName 45 = .ok (.iadd, 1) := by decide +kernel
theorem dX8_isName_46 : decode cX8_isName 46 = .ok (.iaload, 1) := by decide +kernel
theorem dX8_isName_47 : decode cX8_isName 47 = .ok (.aload_n 1, 1) := by decide +kernel
theorem dX8_isName_48 : decode cX8_isName 48 = .ok (.iload_n 2, 1) := by decide +kernel
theorem dX8_isName_49 : decode cX8_isName 49 = .ok (.invokevirtual 134, 3) := by decide +kernel
theorem dX8_isName_52 : decode cX8_isName 52 = .ok (.if_icmp .eq 5, 3) := by decide +kernel
theorem dX8_isName_55 : decode cX8_isName 55 = .ok (.iconst 0, 1) := by decide +kernel
theorem dX8_isName_56 : decode cX8_isName 56 = .ok (.ireturn, 1) := by decide +kernel
theorem dX8_isName_57 : decode cX8_isName 57 = .ok (.iinc 2 1, 3) := by decide +kernel
theorem dX8_isName_60 : decode cX8_isName 60 = .ok (.goto (-32), 3) := by decide +kernel
theorem dX8_isName_63 : decode cX8_isName 63 = .ok (.iconst 1, 1) := by decide +kernel
theorem dX8_isName_64 : decode cX8_isName 64 = .ok (.ireturn, 1) := by decide +kernel
/-! BumperBalls$Tape.isName(Ljava/lang/String;)Z -/
def fnX8_isName_28b (s1 : Nat) (rec28 : Mem → Int32 → Option (Int32 × Mem)) (I0 : Mem) (l2 : Int32) : Option (Int32 × Mem) :=
  if (nI (stLen.getD s1 0)) ≤ l2 then (some (1, I0)) else (ck (inb ((I0 13 7) + l2) 400) <| ck (inb l2 (stLen.getD s1 0)) <| if (I0 14 (ix ((I0 13 7) + l2))) = ((stByt.getD s1 []).getD (ix l2) 0) then (bnd (l2 + 1) fun v5 => rec28 I0 v5) else (some (0, I0)))
def fnX8_isName_28 (s1 : Nat) : Nat → Mem → Int32 → Option (Int32 × Mem)
  | 0 => fun _ _ => none
  | fu + 1 => fnX8_isName_28b s1 (fnX8_isName_28 s1 fu)
set_option maxRecDepth 20000 in
set_option maxHeartbeats 2000000 in
theorem ebX8_isName_28b {g : Cfg} (C : Cx g RX8 cX8_isName 3 4 85 0 0) {h : Shp} {s1 : Nat} (H0 : TapeAt h) (H1 : s1 < 8) {r1 : Int32} {o1 : Mem} {rec28 : Mem → Int32 → Option (Int32 × Mem)} (q : QI g (some Jvm.ClassFile.FieldType.boolean) 0 0 r1 (o1, h)) (ih28 : ∀ (I0 : Mem) (l2 : Int32), rec28 I0 l2 = some (r1, o1) → XE g 0 0 (I0, h) 28 [(0, rf g 13), (1, srf g s1), (2, .int l2)] []) {I0 : Mem} {l2 : Int32} (hf : fnX8_isName_28b s1 rec28 I0 l2 = some (r1, o1)) : XE g 0 0 (I0, h) 28 [(0, rf g 13), (1, srf g s1), (2, .int l2)] [] := by
  unfold fnX8_isName_28b at hf
  refine xr_iload_n C dX8_isName_28 2 rfl rfl ?_
  refine xr_aload_n C dX8_isName_29 1 rfl rfl ?_
  refine xr_slen C H1 dX8_isName_30 ?_
  refine xr_icmp_ge (tgt := 63) C dX8_isName_33 (by decide) hf (fun c1 hf => ?_) (fun c1 hf => ?_)
  · refine xr_iconst (v := 1) C dX8_isName_63 (by decide) ?_
    exact xr_ireturn C q rfl rfl dX8_isName_64 (so_1 hf) (so_w hf)
  · refine xr_aload_n C dX8_isName_36 0 rfl rfl ?_
    refine xr_getr C Kd8 (k := 0) (by decide) rfl wk_100 rfl H0.1 H0.2.1.1 dX8_isName_37 ?_
    refine xr_aload_n C dX8_isName_40 0 rfl rfl ?_
    refine xr_geti C Kd8 (k := 7) (by decide) rfl wk_112 rfl H0.1 dX8_isName_41 ?_
    refine xr_iload_n C dX8_isName_44 2 rfl rfl ?_
    refine xr_iadd C dX8_isName_45 ?_
    obtain ⟨i2, hf⟩ := ck_x hf
    refine xr_iald C H0.2.1.2 i2 dX8_isName_46 ?_
    refine xr_aload_n C dX8_isName_47 1 rfl rfl ?_
    refine xr_iload_n C dX8_isName_48 2 rfl rfl ?_
    obtain ⟨i3, hf⟩ := ck_x hf
    refine xr_schar C H1 i3 dX8_isName_49 ?_
    refine xr_icmp_eq (tgt := 57) C dX8_isName_52 (by decide) hf (fun c4 hf => ?_) (fun c4 hf => ?_)
    · obtain ⟨v5, ev5, hf⟩ := bnd_x hf
      refine xr_iinc (k := 2) (v := v5) C dX8_isName_57 rfl (by rw [ev5]; rfl) (by decide) rfl ?_
      refine xr_goto (tgt := 28) C dX8_isName_60 (by decide) ?_
      refine xr_lv [1, 2, 0] rfl ?_
      exact ih28 _ _ hf
    · refine xr_iconst (v := 0) C dX8_isName_55 (by decide) ?_
      exact xr_ireturn C q rfl rfl dX8_isName_56 (so_1 hf) (so_w hf)
theorem ebX8_isName_28 {g : Cfg} (C : Cx g RX8 cX8_isName 3 4 85 0 0) {h : Shp} {s1 : Nat} (H0 : TapeAt h) (H1 : s1 < 8) {r1 : Int32} {o1 : Mem} (q : QI g (some Jvm.ClassFile.FieldType.boolean) 0 0 r1 (o1, h)) : ∀ (fu : Nat) {I0 : Mem} {l2 : Int32} (hf : fnX8_isName_28 s1 fu I0 l2 = some (r1, o1)), XE g 0 0 (I0, h) 28 [(0, rf g 13), (1, srf g s1), (2, .int l2)] [] := by
  intro fu
  induction fu with
  | zero =>
    intro I0 l2 hf
    cases hf
  | succ fu ihn =>
    intro I0 l2 hf
    exact ebX8_isName_28b C H0 H1 q (fun _ _ hf => ihn hf) hf
def fnX8_isName_24 (s1 : Nat) (I0 : Mem) : Option (Int32 × Mem) :=
  some (0, I0)
set_option maxRecDepth 20000 in
set_option maxHeartbeats 2000000 in
theorem ebX8_isName_24 {g : Cfg} (C : Cx g RX8 cX8_isName 3 4 85 0 0) {h : Shp} {s1 : Nat} (H0 : TapeAt h) (H1 : s1 < 8) {r1 : Int32} {o1 : Mem} (q : QI g (some Jvm.ClassFile.FieldType.boolean) 0 0 r1 (o1, h)) {I0 : Mem} (hf : fnX8_isName_24 s1 I0 = some (r1, o1)) : XE g 0 0 (I0, h) 24 [] [] := by
  unfold fnX8_isName_24 at hf
  refine xr_iconst (v := 0) C dX8_isName_24 (by decide) ?_
  exact xr_ireturn C q rfl rfl dX8_isName_25 (so_1 hf) (so_w hf)
def fnX8_isName (s1 : Nat) (I0 : Mem) : Option (Int32 × Mem) :=
  if (I0 13 8) = 1 then (if ((I0 13 6) - (I0 13 7)) = (nI (stLen.getD s1 0)) then (fnX8_isName_28 s1 FU I0 0) else (fnX8_isName_24 s1 I0)) else (fnX8_isName_24 s1 I0)
set_option maxRecDepth 20000 in
set_option maxHeartbeats 2000000 in
theorem ebX8_isName_0 {g : Cfg} (C : Cx g RX8 cX8_isName 3 4 85 0 0) {h : Shp} {s1 : Nat} (H0 : TapeAt h) (H1 : s1 < 8) {r1 : Int32} {o1 : Mem} (q : QI g (some Jvm.ClassFile.FieldType.boolean) 0 0 r1 (o1, h)) {I0 : Mem} (hf : fnX8_isName s1 I0 = some (r1, o1)) : XE g 0 0 (I0, h) 0 [(0, rf g 13), (1, srf g s1)] [] := by
  unfold fnX8_isName at hf
  refine xr_aload_n C dX8_isName_0 0 rfl rfl ?_
  refine xr_geti C Kd8 (k := 8) (by decide) rfl wk_114 rfl H0.1 dX8_isName_1 ?_
  refine xr_iconst (v := 1) C dX8_isName_4 (by decide) ?_
  refine xr_icmp_ne (tgt := 24) C dX8_isName_5 (by decide) hf (fun c1 hf => ?_) (fun c1 hf => ?_)
  · refine xr_lv [] rfl ?_
    exact ebX8_isName_24 C H0 H1 q hf
  · refine xr_aload_n C dX8_isName_8 0 rfl rfl ?_
    refine xr_geti C Kd8 (k := 6) (by decide) rfl wk_111 rfl H0.1 dX8_isName_9 ?_
    refine xr_aload_n C dX8_isName_12 0 rfl rfl ?_
    refine xr_geti C Kd8 (k := 7) (by decide) rfl wk_112 rfl H0.1 dX8_isName_13 ?_
    refine xr_isub C dX8_isName_16 ?_
    refine xr_aload_n C dX8_isName_17 1 rfl rfl ?_
    refine xr_slen C H1 dX8_isName_18 ?_
    refine xr_icmp_eq (tgt := 26) C dX8_isName_21 (by decide) hf (fun c2 hf => ?_) (fun c2 hf => ?_)
    · refine xr_iconst (v := 0) C dX8_isName_26 (by decide) ?_
      refine xr_istore_n C dX8_isName_27 rfl (by decide) rfl ?_
      refine xr_lv [1, 2, 0] rfl ?_
      exact ebX8_isName_28 C H0 H1 q _ hf
    · refine xr_lv [] rfl ?_
      exact ebX8_isName_24 C H0 H1 q hf
theorem kX8_isName {B : Bs} {h : Shp} {s1 : Nat} (H0 : TapeAt h) (H1 : s1 < 8) {I0 : Mem} {r1 : Int32} {o1 : Mem} (hf : fnX8_isName s1 I0 = some (r1, o1)) : CtrI B yX8_isName cX8_isName 3 (some Jvm.ClassFile.FieldType.boolean) 4 85 0 0 [rfB B 13, srfB B s1] (I0, h) r1 (o1, h) := by
  refine xr_enterI (lv0 := [(0, rfB B 13), (1, srfB B s1)]) (by decide) (Nat.le_of_ble_eq_true rfl) rfl (fun g hg C q => ?_)
  subst hg
  exact ebX8_isName_0 C H0 H1 q hf
theorem dX8_demand_0 : decode cX8_demand 0 = .ok (.aload_n 0, 1) := by decide +kernel
theorem dX8_demand_1 : decode cX8_demand 1 = .ok (.getfield 32, 3) := by decide +kernel
theorem dX8_demand_4 : decode cX8_demand 4 = .ok (.ifCond .ne 12, 3) := by decide +kernel
theorem dX8_demand_7 : decode cX8_demand 7 = .ok (.iload_n 1, 1) := by decide +kernel
theorem dX8_demand_8 : decode cX8_demand 8 = .ok (.ifCond .ne 8, 3) := by decide +kernel
theorem dX8_demand_11 : decode cX8_demand 11 = .ok (.aload_n 0, 1) := by decide +kernel
theorem dX8_demand_12 : decode cX8_demand 12 = .ok (.iconst 1, 1) := by decide +kernel
theorem dX8_demand_13 : decode cX8_demand 13 = .ok (.putfield 32, 3) := by decide +kernel
theorem dX8_demand_16 : decode cX8_demand 16 = .ok (.return_, 1) := by decide +kernel
/-! BumperBalls$Tape.demand(Z)V -/
def fnX8_demand_16 (I0 : Mem) : Option Mem :=
  some I0
set_option maxRecDepth 20000 in
set_option maxHeartbeats 2000000 in
theorem ebX8_demand_16 {g : Cfg} (C : Cx g RX8 cX8_demand 2 0 0 0 0) {h : Shp} (H0 : TapeAt h) {o1 : Mem} (q : QV g 0 0 (o1, h)) {I0 : Mem} (hf : fnX8_demand_16 I0 = some o1) : XE g 0 0 (I0, h) 16 [] [] := by
  unfold fnX8_demand_16 at hf
  exact xr_return C q dX8_demand_16 (so_v hf)
def fnX8_demand (I0 : Mem) (p1 : Int32) : Option Mem :=
  if (I0 13 5) = 0 then (if p1 = 0 then (bnd (up2 I0 13 5 1) fun I3 => fnX8_demand_16 I3) else (fnX8_demand_16 I0)) else (fnX8_demand_16 I0)
set_option maxRecDepth 20000 in
set_option maxHeartbeats 2000000 in
theorem ebX8_demand_0 {g : Cfg} (C : Cx g RX8 cX8_demand 2 0 0 0 0) {h : Shp} (H0 : TapeAt h) {o1 : Mem} (q : QV g 0 0 (o1, h)) {I0 : Mem} {p1 : Int32} (hf : fnX8_demand I0 p1 = some o1) : XE g 0 0 (I0, h) 0 [(0, rf g 13), (1, .int p1)] [] := by
  unfold fnX8_demand at hf
  refine xr_aload_n C dX8_demand_0 0 rfl rfl ?_
  refine xr_geti C Kd8 (k := 5) (by decide) rfl wk_109 rfl H0.1 dX8_demand_1 ?_
  refine xr_if_ne (tgt := 16) C dX8_demand_4 (by decide) hf (fun c1 hf => ?_) (fun c1 hf => ?_)
  · refine xr_lv [] rfl ?_
    exact ebX8_demand_16 C H0 q hf
  · refine xr_iload_n C dX8_demand_7 1 rfl rfl ?_
    refine xr_if_ne (tgt := 16) C dX8_demand_8 (by decide) hf (fun c2 hf => ?_) (fun c2 hf => ?_)
    · refine xr_lv [] rfl ?_
      exact ebX8_demand_16 C H0 q hf
    · refine xr_aload_n C dX8_demand_11 0 rfl rfl ?_
      refine xr_iconst (v := 1) C dX8_demand_12 (by decide) ?_
      obtain ⟨I3, eI3, hf⟩ := bnd_x hf
      refine xr_putI C Kd8 (k := 5) (by decide) rfl rfl wk_109 rfl rfl rfl H0.1 dX8_demand_13 eI3 ?_
      refine xr_lv [] rfl ?_
      exact ebX8_demand_16 C H0 q hf
theorem kX8_demand {B : Bs} {h : Shp} (H0 : TapeAt h) {I0 : Mem} {p1 : Int32} {o1 : Mem} (hf : fnX8_demand I0 p1 = some o1) : CtrV B yX8_demand cX8_demand 2 0 0 0 0 [rfB B 13, .int p1] (I0, h) (o1, h) := by
  refine xr_enterV (lv0 := [(0, rfB B 13), (1, .int p1)]) (by decide) (Nat.le_of_ble_eq_true rfl) rfl (fun g hg C q => ?_)
  subst hg
  exact ebX8_demand_0 C H0 q hf
theorem dX8_takeNumber_0 : decode cX8_takeNumber 0 = .ok (.aload_n 0, 1) := by decide +kernel
theorem dX8_takeNumber_1 : decode cX8_takeNumber 1 = .ok (.invokevirtual 53, 3) := by decide +kernel
theorem dX8_takeNumber_4 : decode cX8_takeNumber 4 = .ok (.aload_n 0, 1) := by decide +kernel
theorem dX8_takeNumber_5 : decode cX8_takeNumber 5 = .ok (.aload_n 0, 1) := by decide +kernel
theorem dX8_takeNumber_6 : decode cX8_takeNumber 6 = .ok (.getfield 41, 3) := by decide +kernel
theorem dX8_takeNumber_9 : decode cX8_takeNumber 9 = .ok (.iconst 2, 1) := by decide +kernel
theorem dX8_takeNumber_10 : decode cX8_takeNumber 10 = .ok (.if_icmp .ne 7, 3) := by decide +kernel
theorem dX8_takeNumber_13 : decode cX8_takeNumber 13 = .ok (.iconst 1, 1) := by decide +kernel
theorem dX8_takeNumber_14 : decode cX8_takeNumber 14 = .ok (.goto 4, 3) := by decide +kernel
theorem dX8_takeNumber_17 : decode cX8_takeNumber 17 = .ok (.iconst 0, 1) := by decide +kernel
theorem dX8_takeNumber_18 : decode cX8_takeNumber 18 = .ok (.invokevirtual 68, 3) := by decide +kernel
theorem dX8_takeNumber_21 : decode cX8_takeNumber 21 = .ok (.aload_n 0, 1) := by decide +kernel
theorem dX8_takeNumber_22 : decode cX8_takeNumber 22 = .ok (.getfield 32, 3) := by decide +kernel
theorem dX8_takeNumber_25 : decode cX8_takeNumber 25 = .ok (.ifCond .ne 24, 3) := by decide +kernel
theorem dX8_takeNumber_28 : decode cX8_takeNumber 28 = .ok (.aload_n 0, 1) := by decide +kernel
theorem dX8_takeNumber_29 : decode cX8_takeNumber 29 = .ok (.getfield 44, 3) := by decide +kernel
theorem dX8_takeNumber_32 : decode cX8_takeNumber 32 = .ok (.iload_n 1, 1) := by decide +kernel
theorem dX8_takeNumber_33 : decode cX8_takeNumber 33 = .ok (.if_icmp .lt 11, 3) := by decide +kernel
theorem dX8_takeNumber_36 : decode cX8_takeNumber 36 = .ok (.aload_n 0, 1) := by decide +kernel
theorem dX8_takeNumber_37 : decode cX8_takeNumber 37 = .ok (.getfield 44, 3) := by decide +kernel
theorem dX8_takeNumber_40 : decode cX8_takeNumber 40 = .ok (.iload_n 2, 1) := by decide +kernel
theorem dX8_takeNumber_41 : decode cX8_takeNumber 41 = .ok (.if_icmp .le 8, 3) := by decide +kernel
theorem dX8_takeNumber_44 : decode cX8_takeNumber 44 = .ok (.aload_n 0, 1) := by decide +kernel
theorem dX8_takeNumber_45 : decode cX8_takeNumber 45 = .ok (.iconst 2, 1) := by decide +kernel
theorem dX8_takeNumber_46 : decode cX8_takeNumber 46 = .ok (.putfield 32, 3) := by decide +kernel
theorem dX8_takeNumber_49 : decode cX8_takeNumber 49 = .ok (.aload_n 0, 1) := by decide +kernel
theorem dX8_takeNumber_50 : decode cX8_takeNumber 50 = .ok (.getfield 44, 3) := by decide +kernel
theorem dX8_takeNumber_53 : decode cX8_takeNumber 53 = .ok (.ireturn, 1) := by decide +kernel
theorem lkX8_53 : LkV "BumperBalls$Tape" 53 yX8_take cX8_take 1 none 0 := ⟨wk_422, wk_3, wk_421, wk_s11, ⟨by decide +kernel, by decide +kernel, by decide +kernel⟩, wk_419⟩
theorem lkX8_68 : LkV "BumperBalls$Tape" 68 yX8_demand cX8_demand 2 none 1 := ⟨wk_496, wk_3, wk_495, wk_s15, ⟨by decide +kernel, by decide +kernel, by decide +kernel⟩, wk_493⟩
/-! BumperBalls$Tape.takeNumber(II)I -/
def fnX8_takeNumber_49 (I0 : Mem) : Option (Int32 × Mem) :=
  some ((I0 13 9), I0)
set_option maxRecDepth 20000 in
set_option maxHeartbeats 2000000 in
theorem ebX8_takeNumber_49 {g : Cfg} (C : Cx g RX8 cX8_takeNumber 3 3 60 0 0) {h : Shp} (H0 : TapeAt h) {r1 : Int32} {o1 : Mem} (q : QI g (some Jvm.ClassFile.FieldType.int) 0 0 r1 (o1, h)) {I0 : Mem} (hf : fnX8_takeNumber_49 I0 = some (r1, o1)) : XE g 0 0 (I0, h) 49 [(0, rf g 13)] [] := by
  unfold fnX8_takeNumber_49 at hf
  refine xr_aload_n C dX8_takeNumber_49 0 rfl rfl ?_
  refine xr_geti C Kd8 (k := 9) (by decide) rfl wk_115 rfl H0.1 dX8_takeNumber_50 ?_
  exact xr_ireturn C q rfl rfl dX8_takeNumber_53 (so_1 hf) (so_w hf)
def fnX8_takeNumber_44 (I0 : Mem) : Option (Int32 × Mem) :=
  bnd (up2 I0 13 5 2) fun I1 => fnX8_takeNumber_49 I1
set_option maxRecDepth 20000 in
set_option maxHeartbeats 2000000 in
theorem ebX8_takeNumber_44 {g : Cfg} (C : Cx g RX8 cX8_takeNumber 3 3 60 0 0) {h : Shp} (H0 : TapeAt h) {r1 : Int32} {o1 : Mem} (q : QI g (some Jvm.ClassFile.FieldType.int) 0 0 r1 (o1, h)) {I0 : Mem} (hf : fnX8_takeNumber_44 I0 = some (r1, o1)) : XE g 0 0 (I0, h) 44 [(0, rf g 13)] [] := by
  unfold fnX8_takeNumber_44 at hf
  refine xr_aload_n C dX8_takeNumber_44 0 rfl rfl ?_
  refine xr_iconst (v := 2) C dX8_takeNumber_45 (by decide) ?_
  obtain ⟨I1, eI1, hf⟩ := bnd_x hf
  refine xr_putI C Kd8 (k := 5) (by decide) rfl rfl wk_109 rfl rfl rfl H0.1 dX8_takeNumber_46 eI1 ?_
  exact ebX8_takeNumber_49 C H0 q hf
def fnX8_takeNumber_18 (I0 : Mem) (l1 : Int32) (l2 : Int32) (t1 : Int32) : Option (Int32 × Mem) :=
  ob (fnX8_demand I0 t1) fun I2 => if (I2 13 5) = 0 then (if (I2 13 9) < l1 then (fnX8_takeNumber_44 I2) else (if (I2 13 9) ≤ l2 then (fnX8_takeNumber_49 I2) else (fnX8_takeNumber_44 I2))) else (fnX8_takeNumber_49 I2)
set_option maxRecDepth 20000 in
set_option maxHeartbeats 2000000 in
theorem ebX8_takeNumber_18 {g : Cfg} (C : Cx g RX8 cX8_takeNumber 3 3 60 0 0) {h : Shp} (H0 : TapeAt h) {r1 : Int32} {o1 : Mem} (q : QI g (some Jvm.ClassFile.FieldType.int) 0 0 r1 (o1, h)) {I0 : Mem} {l1 : Int32} {l2 : Int32} {t1 : Int32} (hf : fnX8_takeNumber_18 I0 l1 l2 t1 = some (r1, o1)) : XE g 0 0 (I0, h) 18 [(0, rf g 13), (1, .int l1), (2, .int l2)] [.int t1, rf g 13] := by
  unfold fnX8_takeNumber_18 at hf
  obtain ⟨I2, h1, hf⟩ := ob_x hf
  refine xr_callVV C [.int t1] lkX8_68 (kX8_demand H0 h1) Kd8 rfl H0.1 rfl (Nat.le_of_ble_eq_true rfl) rfl dX8_takeNumber_18 ⟨by decide, by decide, by decide⟩ rfl ?_
  refine xr_aload_n C dX8_takeNumber_21 0 rfl rfl ?_
  refine xr_geti C Kd8 (k := 5) (by decide) rfl wk_109 rfl H0.1 dX8_takeNumber_22 ?_
  refine xr_if_ne (tgt := 49) C dX8_takeNumber_25 (by decide) hf (fun c3 hf => ?_) (fun c3 hf => ?_)
  · refine xr_lv [0] rfl ?_
    exact ebX8_takeNumber_49 C H0 q hf
  · refine xr_aload_n C dX8_takeNumber_28 0 rfl rfl ?_
    refine xr_geti C Kd8 (k := 9) (by decide) rfl wk_115 rfl H0.1 dX8_takeNumber_29 ?_
    refine xr_iload_n C dX8_takeNumber_32 1 rfl rfl ?_
    refine xr_icmp_lt (tgt := 44) C dX8_takeNumber_33 (by decide) hf (fun c4 hf => ?_) (fun c4 hf => ?_)
    · refine xr_lv [0] rfl ?_
      exact ebX8_takeNumber_44 C H0 q hf
    · refine xr_aload_n C dX8_takeNumber_36 0 rfl rfl ?_
      refine xr_geti C Kd8 (k := 9) (by decide) rfl wk_115 rfl H0.1 dX8_takeNumber_37 ?_
      refine xr_iload_n C dX8_takeNumber_40 2 rfl rfl ?_
      refine xr_icmp_le (tgt := 49) C dX8_takeNumber_41 (by decide) hf (fun c5 hf => ?_) (fun c5 hf => ?_)
      · refine xr_lv [0] rfl ?_
        exact ebX8_takeNumber_49 C H0 q hf
      · refine xr_lv [0] rfl ?_
        exact ebX8_takeNumber_44 C H0 q hf
def fnX8_takeNumber (I0 : Mem) (p1 : Int32) (p2 : Int32) : Option (Int32 × Mem) :=
  ob (fnX8_take I0) fun I2 => if (I2 13 8) = 2 then (fnX8_takeNumber_18 I2 p1 p2 1) else (fnX8_takeNumber_18 I2 p1 p2 0)
set_option maxRecDepth 20000 in
set_option maxHeartbeats 2000000 in
theorem ebX8_takeNumber_0 {g : Cfg} (C : Cx g RX8 cX8_takeNumber 3 3 60 0 0) {h : Shp} (H0 : TapeAt h) {r1 : Int32} {o1 : Mem} (q : QI g (some Jvm.ClassFile.FieldType.int) 0 0 r1 (o1, h)) {I0 : Mem} {p1 : Int32} {p2 : Int32} (hf : fnX8_takeNumber I0 p1 p2 = some (r1, o1)) : XE g 0 0 (I0, h) 0 [(0, rf g 13), (1, .int p1), (2, .int p2)] [] := by
  unfold fnX8_takeNumber at hf
  refine xr_aload_n C dX8_takeNumber_0 0 rfl rfl ?_
  obtain ⟨I2, h1, hf⟩ := ob_x hf
  refine xr_callVV C [] lkX8_53 (kX8_take H0 h1) Kd8 rfl H0.1 rfl (Nat.le_of_ble_eq_true rfl) rfl dX8_takeNumber_1 ⟨by decide, by decide, by decide⟩ rfl ?_
  refine xr_aload_n C dX8_takeNumber_4 0 rfl rfl ?_
  refine xr_aload_n C dX8_takeNumber_5 0 rfl rfl ?_
  refine xr_geti C Kd8 (k := 8) (by decide) rfl wk_114 rfl H0.1 dX8_takeNumber_6 ?_
  refine xr_iconst (v := 2) C dX8_takeNumber_9 (by decide) ?_
  refine xr_icmp_ne (tgt := 17) C dX8_takeNumber_10 (by decide) hf (fun c3 hf => ?_) (fun c3 hf => ?_)
  · refine xr_iconst (v := 0) C dX8_takeNumber_17 (by decide) ?_
    exact ebX8_takeNumber_18 C H0 q hf
  · refine xr_iconst (v := 1) C dX8_takeNumber_13 (by decide) ?_
    refine xr_goto (tgt := 18) C dX8_takeNumber_14 (by decide) ?_
    exact ebX8_takeNumber_18 C H0 q hf
theorem kX8_takeNumber {B : Bs} {h : Shp} (H0 : TapeAt h) {I0 : Mem} {p1 : Int32} {p2 : Int32} {r1 : Int32} {o1 : Mem} (hf : fnX8_takeNumber I0 p1 p2 = some (r1, o1)) : CtrI B yX8_takeNumber cX8_takeNumber 3 (some Jvm.ClassFile.FieldType.int) 3 60 0 0 [rfB B 13, .int p1, .int p2] (I0, h) r1 (o1, h) := by
  refine xr_enterI (lv0 := [(0, rfB B 13), (1, .int p1), (2, .int p2)]) (by decide) (Nat.le_of_ble_eq_true rfl) rfl (fun g hg C q => ?_)
  subst hg
  exact ebX8_takeNumber_0 C H0 q hf
theorem dX8_takeSemicolon_0 : decode cX8_takeSemicolon 0 = .ok (.aload_n 0, 1) := by decide +kernel
theorem dX8_takeSemicolon_1 : decode cX8_takeSemicolon 1 = .ok (.invokevirtual 53, 3) := by decide +kernel
theorem dX8_takeSemicolon_4 : decode cX8_takeSemicolon 4 = .ok (.aload_n 0, 1) := by decide +kernel
theorem dX8_takeSemicolon_5 : decode cX8_takeSemicolon 5 = .ok (.aload_n 0, 1) := by decide +kernel
theorem dX8_takeSemicolon_6 : decode cX8_takeSemicolon 6 = .ok (.getfield 41, 3) := by decide +kernel
theorem dX8_takeSemicolon_9 : decode cX8_takeSemicolon 9 = .ok (.iconst 3, 1) := by decide +kernel
theorem dX8_takeSemicolon_10 : decode cX8_takeSemicolon 10 = .ok (.if_icmp .ne 7, 3) := by decide +kernel
theorem dX8_takeSemicolon_13 : decode cX8_takeSemicolon 13 = .ok (.iconst 1, 1) := by decide +kernel
theorem dX8_takeSemicolon_14 : decode cX8_takeSemicolon 14 = .ok (.goto 4, 3) := by decide +kernel
theorem dX8_takeSemicolon_17 : decode cX8_takeSemicolon 17 = .ok (.iconst 0, 1) := by decide +kernel
theorem dX8_takeSemicolon_18 : decode cX8_takeSemicolon 18 = .ok (.invokevirtual 68, 3) := by decide +kernel
theorem dX8_takeSemicolon_21 : decode cX8_takeSemicolon 21 = .ok (.return_, 1) := by decide +kernel
/-! BumperBalls$Tape.takeSemicolon()V -/
def fnX8_takeSemicolon_18 (I0 : Mem) (t1 : Int32) : Option Mem :=
  ob (fnX8_demand I0 t1) fun I2 => some I2
set_option maxRecDepth 20000 in
set_option maxHeartbeats 2000000 in
theorem ebX8_takeSemicolon_18 {g : Cfg} (C : Cx g RX8 cX8_takeSemicolon 1 3 60 0 0) {h : Shp} (H0 : TapeAt h) {o1 : Mem} (q : QV g 0 0 (o1, h)) {I0 : Mem} {t1 : Int32} (hf : fnX8_takeSemicolon_18 I0 t1 = some o1) : XE g 0 0 (I0, h) 18 [] [.int t1, rf g 13] := by
  unfold fnX8_takeSemicolon_18 at hf
  obtain ⟨I2, h1, hf⟩ := ob_x hf
  refine xr_callVV C [.int t1] lkX8_68 (kX8_demand H0 h1) Kd8 rfl H0.1 rfl (Nat.le_of_ble_eq_true rfl) rfl dX8_takeSemicolon_18 ⟨by decide, by decide, by decide⟩ rfl ?_
  exact xr_return C q dX8_takeSemicolon_21 (so_v hf)
def fnX8_takeSemicolon (I0 : Mem) : Option Mem :=
  ob (fnX8_take I0) fun I2 => if (I2 13 8) = 3 then (fnX8_takeSemicolon_18 I2 1) else (fnX8_takeSemicolon_18 I2 0)
set_option maxRecDepth 20000 in
set_option maxHeartbeats 2000000 in
theorem ebX8_takeSemicolon_0 {g : Cfg} (C : Cx g RX8 cX8_takeSemicolon 1 3 60 0 0) {h : Shp} (H0 : TapeAt h) {o1 : Mem} (q : QV g 0 0 (o1, h)) {I0 : Mem} (hf : fnX8_takeSemicolon I0 = some o1) : XE g 0 0 (I0, h) 0 [(0, rf g 13)] [] := by
  unfold fnX8_takeSemicolon at hf
  refine xr_aload_n C dX8_takeSemicolon_0 0 rfl rfl ?_
  obtain ⟨I2, h1, hf⟩ := ob_x hf
  refine xr_callVV C [] lkX8_53 (kX8_take H0 h1) Kd8 rfl H0.1 rfl (Nat.le_of_ble_eq_true rfl) rfl dX8_takeSemicolon_1 ⟨by decide, by decide, by decide⟩ rfl ?_
  refine xr_aload_n C dX8_takeSemicolon_4 0 rfl rfl ?_
  refine xr_aload_n C dX8_takeSemicolon_5 0 rfl rfl ?_
  refine xr_geti C Kd8 (k := 8) (by decide) rfl wk_114 rfl H0.1 dX8_takeSemicolon_6 ?_
  refine xr_iconst (v := 3) C dX8_takeSemicolon_9 (by decide) ?_
  refine xr_icmp_ne (tgt := 17) C dX8_takeSemicolon_10 (by decide) hf (fun c3 hf => ?_) (fun c3 hf => ?_)
  · refine xr_iconst (v := 0) C dX8_takeSemicolon_17 (by decide) ?_
    refine xr_lv [] rfl ?_
    exact ebX8_takeSemicolon_18 C H0 q hf
  · refine xr_iconst (v := 1) C dX8_takeSemicolon_13 (by decide) ?_
    refine xr_goto (tgt := 18) C dX8_takeSemicolon_14 (by decide) ?_
    refine xr_lv [] rfl ?_
    exact ebX8_takeSemicolon_18 C H0 q hf
theorem kX8_takeSemicolon {B : Bs} {h : Shp} (H0 : TapeAt h) {I0 : Mem} {o1 : Mem} (hf : fnX8_takeSemicolon I0 = some o1) : CtrV B yX8_takeSemicolon cX8_takeSemicolon 1 3 60 0 0 [rfB B 13] (I0, h) (o1, h) := by
  refine xr_enterV (lv0 := [(0, rfB B 13)]) (by decide) (Nat.le_of_ble_eq_true rfl) rfl (fun g hg C q => ?_)
  subst hg
  exact ebX8_takeSemicolon_0 C H0 q hf
theorem dX8_readLaw_0 : decode cX8_readLaw 0 = .ok (.aload_n 0, 1) := by decide +kernel
theorem dX8_readLaw_1 : decode cX8_readLaw 1 = .ok (.invokevirtual 53, 3) := by decide +kernel
theorem dX8_readLaw_4 : decode cX8_readLaw 4 = .ok (.aload_n 0, 1) := by decide +kernel
theorem dX8_readLaw_5 : decode cX8_readLaw 5 = .ok (.aload_n 0, 1) := by decide +kernel
theorem dX8_readLaw_6 : decode cX8_readLaw 6 = .ok (.ldc 72, 2) := by decide +kernel
theorem dX8_readLaw_8 : decode cX8_readLaw 8 = .ok (.invokevirtual 58, 3) := by decide +kernel
theorem dX8_readLaw_11 : decode cX8_readLaw 11 = .ok (.invokevirtual 68, 3) := by decide +kernel
theorem dX8_readLaw_14 : decode cX8_readLaw 14 = .ok (.aload_n 0, 1) := by decide +kernel
theorem dX8_readLaw_15 : decode cX8_readLaw 15 = .ok (.getfield 22, 3) := by decide +kernel
theorem dX8_readLaw_18 : decode cX8_readLaw 18 = .ok (.aload_n 0, 1) := by decide +kernel
theorem dX8_readLaw_19 : decode cX8_readLaw 19 = .ok (.iconst 1, 1) := by decide +kernel
theorem dX8_readLaw_20 : decode cX8_readLaw 20 = .ok (.bipush 20, 2) := by decide +kernel
theorem dX8_readLaw_22 : decode cX8_readLaw 22 = .ok (.invokevirtual 74, 3) := by decide +kernel
theorem dX8_readLaw_25 : decode cX8_readLaw 25 = .ok (.putfield 78, 3) := by decide +kernel
theorem dX8_readLaw_28 : decode cX8_readLaw 28 = .ok (.aload_n 0, 1) := by decide +kernel
theorem dX8_readLaw_29 : decode cX8_readLaw 29 = .ok (.invokevirtual 81, 3) := by decide +kernel
theorem dX8_readLaw_32 : decode cX8_readLaw 32 = .ok (.return_, 1) := by decide +kernel
theorem lkX8_58 : LkV "BumperBalls$Tape" 58 yX8_isName cX8_isName 3 (some Jvm.ClassFile.FieldType.boolean) 1 := ⟨wk_444, wk_3, wk_443, wk_s14, ⟨by decide +kernel, by decide +kernel, by decide +kernel⟩, wk_441⟩
theorem lkX8_74 : LkV "BumperBalls$Tape" 74 yX8_takeNumber cX8_takeNumber 3 (some Jvm.ClassFile.FieldType.int) 2 := ⟨wk_500, wk_3, wk_499, wk_s16, ⟨by decide +kernel, by decide +kernel, by decide +kernel⟩, wk_497⟩
theorem lkX8_81 : LkV "BumperBalls$Tape" 81 yX8_takeSemicolon cX8_takeSemicolon 1 none 0 := ⟨wk_504, wk_3, wk_503, wk_s17, ⟨by decide +kernel, by decide +kernel, by decide +kernel⟩, wk_501⟩
/-! BumperBalls$Tape.readLaw()V -/
def fnX8_readLaw (I0 : Mem) : Option Mem :=
  ob (fnX8_take I0) fun I2 => ob (fnX8_isName 1 I2) fun ⟨r5, I4⟩ => ob (fnX8_demand I4 r5) fun I7 => ob (fnX8_takeNumber I7 1 20) fun ⟨r10, I9⟩ => bnd (up2 I9 15 0 r10) fun I11 => ob (fnX8_takeSemicolon I11) fun I13 => some I13
set_option maxRecDepth 20000 in
set_option maxHeartbeats 2000000 in
theorem ebX8_readLaw_0 {g : Cfg} (C : Cx g RX8 cX8_readLaw 1 5 107 0 0) {h : Shp} (H0 : TapeAt h) {o1 : Mem} (q : QV g 0 0 (o1, h)) {I0 : Mem} (hf : fnX8_readLaw I0 = some o1) : XE g 0 0 (I0, h) 0 [(0, rf g 13)] [] := by
  unfold fnX8_readLaw at hf
  refine xr_aload_n C dX8_readLaw_0 0 rfl rfl ?_
  obtain ⟨I2, h1, hf⟩ := ob_x hf
  refine xr_callVV C [] lkX8_53 (kX8_take H0 h1) Kd8 rfl H0.1 rfl (Nat.le_of_ble_eq_true rfl) rfl dX8_readLaw_1 ⟨by decide, by decide, by decide⟩ rfl ?_
  refine xr_aload_n C dX8_readLaw_4 0 rfl rfl ?_
  refine xr_aload_n C dX8_readLaw_5 0 rfl rfl ?_
  refine xr_ldcs (i := 1) C (by decide) rfl rfl dX8_readLaw_6 ?_
  obtain ⟨⟨r5, I4⟩, h3, hf⟩ := ob_x hf
  refine xr_callVI C [srf g 1] lkX8_58 (kX8_isName H0 (by decide) h3) Kd8 rfl H0.1 rfl (Nat.le_of_ble_eq_true rfl) rfl dX8_readLaw_8 ⟨by decide, by decide, by decide⟩ rfl ?_
  obtain ⟨I7, h6, hf⟩ := ob_x hf
  refine xr_callVV C [.int r5] lkX8_68 (kX8_demand H0 h6) Kd8 rfl H0.1 rfl (Nat.le_of_ble_eq_true rfl) rfl dX8_readLaw_11 ⟨by decide, by decide, by decide⟩ rfl ?_
  refine xr_aload_n C dX8_readLaw_14 0 rfl rfl ?_
  refine xr_getr C Kd8 (k := 2) (by decide) rfl wk_103 rfl H0.1 H0.2.2.1 dX8_readLaw_15 ?_
  refine xr_aload_n C dX8_readLaw_18 0 rfl rfl ?_
  refine xr_iconst (v := 1) C dX8_readLaw_19 (by decide) ?_
  refine xr_bipush (v := 20) C dX8_readLaw_20 (by decide) ?_
  obtain ⟨⟨r10, I9⟩, h8, hf⟩ := ob_x hf
  refine xr_callVI C [.int 1, .int 20] lkX8_74 (kX8_takeNumber H0 h8) Kd8 rfl H0.1 rfl (Nat.le_of_ble_eq_true rfl) rfl dX8_readLaw_22 ⟨by decide, by decide, by decide⟩ rfl ?_
  obtain ⟨I11, eI11, hf⟩ := bnd_x hf
  refine xr_putIN C Kd7 (k := 0) (by decide) rfl rfl nk47 rfl rfl rfl H0.2.2.2.1 dX8_readLaw_25 eI11 ?_
  refine xr_aload_n C dX8_readLaw_28 0 rfl rfl ?_
  obtain ⟨I13, h12, hf⟩ := ob_x hf
  refine xr_callVV C [] lkX8_81 (kX8_takeSemicolon H0 h12) Kd8 rfl H0.1 rfl (Nat.le_of_ble_eq_true rfl) rfl dX8_readLaw_29 ⟨by decide, by decide, by decide⟩ rfl ?_
  exact xr_return C q dX8_readLaw_32 (so_v hf)
theorem kX8_readLaw {B : Bs} {h : Shp} (H0 : TapeAt h) {I0 : Mem} {o1 : Mem} (hf : fnX8_readLaw I0 = some o1) : CtrV B yX8_readLaw cX8_readLaw 1 5 107 0 0 [rfB B 13] (I0, h) (o1, h) := by
  refine xr_enterV (lv0 := [(0, rfB B 13)]) (by decide) (Nat.le_of_ble_eq_true rfl) rfl (fun g hg C q => ?_)
  subst hg
  exact ebX8_readLaw_0 C H0 q hf
theorem dX8_takeKind_0 : decode cX8_takeKind 0 = .ok (.aload_n 0, 1) := by decide +kernel
theorem dX8_takeKind_1 : decode cX8_takeKind 1 = .ok (.invokevirtual 53, 3) := by decide +kernel
theorem dX8_takeKind_4 : decode cX8_takeKind 4 = .ok (.aload_n 0, 1) := by decide +kernel
theorem dX8_takeKind_5 : decode cX8_takeKind 5 = .ok (.ldc 100, 2) := by decide +kernel
theorem dX8_takeKind_7 : decode cX8_takeKind 7 = .ok (.invokevirtual 58, 3) := by decide +kernel
theorem dX8_takeKind_10 : decode cX8_takeKind 10 = .ok (.ifCond .eq 7, 3) := by decide +kernel
theorem dX8_takeKind_13 : decode cX8_takeKind 13 = .ok (.iconst 1, 1) := by decide +kernel
theorem dX8_takeKind_14 : decode cX8_takeKind 14 = .ok (.goto 56, 3) := by decide +kernel
theorem dX8_takeKind_17 : decode cX8_takeKind 17 = .ok (.aload_n 0, 1) := by decide +kernel
theorem dX8_takeKind_18 : decode cX8_takeKind 18 = .ok (.ldc 102, 2) := by decide +kernel
theorem dX8_takeKind_20 : decode cX8_takeKind 20 = .ok (.invokevirtual 58, 3) := by decide +kernel
theorem dX8_takeKind_23 : decode cX8_takeKind 23 = .ok (.ifCond .eq 7, 3) := by decide +kernel
theorem dX8_takeKind_26 : decode cX8_takeKind 26 = .ok (.iconst 2, 1) := by decide +kernel
theorem dX8_takeKind_27 : decode cX8_takeKind 27 = .ok (.goto 43, 3) := by decide +kernel
theorem dX8_takeKind_30 : decode cX8_takeKind 30 = .ok (.aload_n 0, 1) := by decide +kernel
theorem dX8_takeKind_31 : decode cX8_takeKind 31 = .ok (.ldc 104, 2) := by decide +kernel
theorem dX8_takeKind_33 : decode cX8_takeKind 33 = .ok (.invokevirtual 58, 3) := by decide +kernel
theorem dX8_takeKind_36 : decode cX8_takeKind 36 = .ok (.ifCond .eq 7, 3) := by decide +kernel
theorem dX8_takeKind_39 : decode cX8_takeKind 39 = .ok (.iconst 3, 1) := by decide +kernel
theorem dX8_takeKind_40 : decode cX8_takeKind 40 = .ok (.goto 30, 3) := by decide +kernel
theorem dX8_takeKind_43 : decode cX8_takeKind 43 = .ok (.aload_n 0, 1) := by decide +kernel
theorem dX8_takeKind_44 : decode cX8_takeKind 44 = .ok (.ldc 106, 2) := by decide +kernel
theorem dX8_takeKind_46 : decode cX8_takeKind 46 = .ok (.invokevirtual 58, 3) := by decide +kernel
theorem dX8_takeKind_49 : decode cX8_takeKind 49 = .ok (.ifCond .eq 7, 3) := by decide +kernel
theorem dX8_takeKind_52 : decode cX8_takeKind 52 = .ok (.iconst 4, 1) := by decide +kernel
theorem dX8_takeKind_53 : decode cX8_takeKind 53 = .ok (.goto 17, 3) := by decide +kernel
theorem dX8_takeKind_56 : decode cX8_takeKind 56 = .ok (.aload_n 0, 1) := by decide +kernel
theorem dX8_takeKind_57 : decode cX8_takeKind 57 = .ok (.ldc 108, 2) := by decide +kernel
theorem dX8_takeKind_59 : decode cX8_takeKind 59 = .ok (.invokevirtual 58, 3) := by decide +kernel
theorem dX8_takeKind_62 : decode cX8_takeKind 62 = .ok (.ifCond .eq 7, 3) := by decide +kernel
theorem dX8_takeKind_65 : decode cX8_takeKind 65 = .ok (.iconst 5, 1) := by decide +kernel
theorem dX8_takeKind_66 : decode cX8_takeKind 66 = .ok (.goto 4, 3) := by decide +kernel
theorem dX8_takeKind_69 : decode cX8_takeKind 69 = .ok (.iconst 0, 1) := by decide +kernel
theorem dX8_takeKind_70 : decode cX8_takeKind 70 = .ok (.istore_n 1, 1) := by decide +kernel
theorem dX8_takeKind_71 : decode cX8_takeKind 71 = .ok (.aload_n 0, 1) := by decide +kernel
theorem dX8_takeKind_72 : decode cX8_takeKind 72 = .ok (.iload_n 1, 1) := by decide +kernel
theorem dX8_takeKind_73 : decode cX8_takeKind 73 = .ok (.ifCond .eq 7, 3) := by decide +kernel
theorem dX8_takeKind_76 : decode cX8_takeKind 76 = .ok (.iconst 1, 1) := by decide +kernel
theorem dX8_takeKind_77 : decode cX8_takeKind 77 = .ok (.goto 4, 3) := by decide +kernel
theorem dX8_takeKind_80 : decode cX8_takeKind 80 = .ok (.iconst 0, 1) := by decide +kernel
theorem dX8_takeKind_81 : decode cX8_takeKind 81 = .ok (.invokevirtual 68, 3) := by decide +kernel
theorem dX8_takeKind_84 : decode cX8_takeKind 84 = .ok (.iload_n 1, 1) := by decide +kernel
theorem dX8_takeKind_85 : decode cX8_takeKind 85 = .ok (.ireturn, 1) := by decide +kernel
/-! BumperBalls$Tape.takeKind()I -/
def fnX8_takeKind_81 (I0 : Mem) (l1 : Int32) (t1 : Int32) : Option (Int32 × Mem) :=
  ob (fnX8_demand I0 t1) fun I2 => some (l1, I2)
set_option maxRecDepth 20000 in
set_option maxHeartbeats 2000000 in
theorem ebX8_takeKind_81 {g : Cfg} (C : Cx g RX8 cX8_takeKind 2 5 107 0 0) {h : Shp} (H0 : TapeAt h) {r1 : Int32} {o1 : Mem} (q : QI g (some Jvm.ClassFile.FieldType.int) 0 0 r1 (o1, h)) {I0 : Mem} {l1 : Int32} {t1 : Int32} (hf : fnX8_takeKind_81 I0 l1 t1 = some (r1, o1)) : XE g 0 0 (I0, h) 81 [(1, .int l1)] [.int t1, rf g 13] := by
  unfold fnX8_takeKind_81 at hf
  obtain ⟨I2, h1, hf⟩ := ob_x hf
  refine xr_callVV C [.int t1] lkX8_68 (kX8_demand H0 h1) Kd8 rfl H0.1 rfl (Nat.le_of_ble_eq_true rfl) rfl dX8_takeKind_81 ⟨by decide, by decide, by decide⟩ rfl ?_
  refine xr_iload_n C dX8_takeKind_84 0 rfl rfl ?_
  exact xr_ireturn C q rfl rfl dX8_takeKind_85 (so_1 hf) (so_w hf)
def fnX8_takeKind_70 (I0 : Mem) (t0 : Int32) : Option (Int32 × Mem) :=
  if t0 = 0 then (fnX8_takeKind_81 I0 t0 0) else (fnX8_takeKind_81 I0 t0 1)
set_option maxRecDepth 20000 in
set_option maxHeartbeats 2000000 in
theorem ebX8_takeKind_70 {g : Cfg} (C : Cx g RX8 cX8_takeKind 2 5 107 0 0) {h : Shp} (H0 : TapeAt h) {r1 : Int32} {o1 : Mem} (q : QI g (some Jvm.ClassFile.FieldType.int) 0 0 r1 (o1, h)) {I0 : Mem} {t0 : Int32} (hf : fnX8_takeKind_70 I0 t0 = some (r1, o1)) : XE g 0 0 (I0, h) 70 [(0, rf g 13)] [.int t0] := by
  unfold fnX8_takeKind_70 at hf
  refine xr_istore_n C dX8_takeKind_70 rfl (by decide) rfl ?_
  refine xr_aload_n C dX8_takeKind_71 1 rfl rfl ?_
  refine xr_iload_n C dX8_takeKind_72 0 rfl rfl ?_
  refine xr_if_eq (tgt := 80) C dX8_takeKind_73 (by decide) hf (fun c1 hf => ?_) (fun c1 hf => ?_)
  · refine xr_iconst (v := 0) C dX8_takeKind_80 (by decide) ?_
    refine xr_lv [0] rfl ?_
    exact ebX8_takeKind_81 C H0 q hf
  · refine xr_iconst (v := 1) C dX8_takeKind_76 (by decide) ?_
    refine xr_goto (tgt := 81) C dX8_takeKind_77 (by decide) ?_
    refine xr_lv [0] rfl ?_
    exact ebX8_takeKind_81 C H0 q hf
def fnX8_takeKind (I0 : Mem) : Option (Int32 × Mem) :=
  ob (fnX8_take I0) fun I2 => ob (fnX8_isName 3 I2) fun ⟨r5, I4⟩ => if r5 = 0 then (ob (fnX8_isName 4 I4) fun ⟨r9, I8⟩ => if r9 = 0 then (ob (fnX8_isName 5 I8) fun ⟨r13, I12⟩ => if r13 = 0 then (ob (fnX8_isName 6 I12) fun ⟨r17, I16⟩ => if r17 = 0 then (ob (fnX8_isName 7 I16) fun ⟨r21, I20⟩ => if r21 = 0 then (fnX8_takeKind_70 I20 0) else (fnX8_takeKind_70 I20 5)) else (fnX8_takeKind_70 I16 4)) else (fnX8_takeKind_70 I12 3)) else (fnX8_takeKind_70 I8 2)) else (fnX8_takeKind_70 I4 1)
set_option maxRecDepth 20000 in
set_option maxHeartbeats 2000000 in
theorem ebX8_takeKind_0 {g : Cfg} (C : Cx g RX8 cX8_takeKind 2 5 107 0 0) {h : Shp} (H0 : TapeAt h) {r1 : Int32} {o1 : Mem} (q : QI g (some Jvm.ClassFile.FieldType.int) 0 0 r1 (o1, h)) {I0 : Mem} (hf : fnX8_takeKind I0 = some (r1, o1)) : XE g 0 0 (I0, h) 0 [(0, rf g 13)] [] := by
  unfold fnX8_takeKind at hf
  refine xr_aload_n C dX8_takeKind_0 0 rfl rfl ?_
  obtain ⟨I2, h1, hf⟩ := ob_x hf
  refine xr_callVV C [] lkX8_53 (kX8_take H0 h1) Kd8 rfl H0.1 rfl (Nat.le_of_ble_eq_true rfl) rfl dX8_takeKind_1 ⟨by decide, by decide, by decide⟩ rfl ?_
  refine xr_aload_n C dX8_takeKind_4 0 rfl rfl ?_
  refine xr_ldcs (i := 3) C (by decide) rfl rfl dX8_takeKind_5 ?_
  obtain ⟨⟨r5, I4⟩, h3, hf⟩ := ob_x hf
  refine xr_callVI C [srf g 3] lkX8_58 (kX8_isName H0 (by decide) h3) Kd8 rfl H0.1 rfl (Nat.le_of_ble_eq_true rfl) rfl dX8_takeKind_7 ⟨by decide, by decide, by decide⟩ rfl ?_
  refine xr_if_eq (tgt := 17) C dX8_takeKind_10 (by decide) hf (fun c6 hf => ?_) (fun c6 hf => ?_)
  · refine xr_aload_n C dX8_takeKind_17 0 rfl rfl ?_
    refine xr_ldcs (i := 4) C (by decide) rfl rfl dX8_takeKind_18 ?_
    obtain ⟨⟨r9, I8⟩, h7, hf⟩ := ob_x hf
    refine xr_callVI C [srf g 4] lkX8_58 (kX8_isName H0 (by decide) h7) Kd8 rfl H0.1 rfl (Nat.le_of_ble_eq_true rfl) rfl dX8_takeKind_20 ⟨by decide, by decide, by decide⟩ rfl ?_
    refine xr_if_eq (tgt := 30) C dX8_takeKind_23 (by decide) hf (fun c10 hf => ?_) (fun c10 hf => ?_)
    · refine xr_aload_n C dX8_takeKind_30 0 rfl rfl ?_
      refine xr_ldcs (i := 5) C (by decide) rfl rfl dX8_takeKind_31 ?_
      obtain ⟨⟨r13, I12⟩, h11, hf⟩ := ob_x hf
      refine xr_callVI C [srf g 5] lkX8_58 (kX8_isName H0 (by decide) h11) Kd8 rfl H0.1 rfl (Nat.le_of_ble_eq_true rfl) rfl dX8_takeKind_33 ⟨by decide, by decide, by decide⟩ rfl ?_
      refine xr_if_eq (tgt := 43) C dX8_takeKind_36 (by decide) hf (fun c14 hf => ?_) (fun c14 hf => ?_)
      · refine xr_aload_n C dX8_takeKind_43 0 rfl rfl ?_
        refine xr_ldcs (i := 6) C (by decide) rfl rfl dX8_takeKind_44 ?_
        obtain ⟨⟨r17, I16⟩, h15, hf⟩ := ob_x hf
        refine xr_callVI C [srf g 6] lkX8_58 (kX8_isName H0 (by decide) h15) Kd8 rfl H0.1 rfl (Nat.le_of_ble_eq_true rfl) rfl dX8_takeKind_46 ⟨by decide, by decide, by decide⟩ rfl ?_
        refine xr_if_eq (tgt := 56) C dX8_takeKind_49 (by decide) hf (fun c18 hf => ?_) (fun c18 hf => ?_)
        · refine xr_aload_n C dX8_takeKind_56 0 rfl rfl ?_
          refine xr_ldcs (i := 7) C (by decide) rfl rfl dX8_takeKind_57 ?_
          obtain ⟨⟨r21, I20⟩, h19, hf⟩ := ob_x hf
          refine xr_callVI C [srf g 7] lkX8_58 (kX8_isName H0 (by decide) h19) Kd8 rfl H0.1 rfl (Nat.le_of_ble_eq_true rfl) rfl dX8_takeKind_59 ⟨by decide, by decide, by decide⟩ rfl ?_
          refine xr_if_eq (tgt := 69) C dX8_takeKind_62 (by decide) hf (fun c22 hf => ?_) (fun c22 hf => ?_)
          · refine xr_iconst (v := 0) C dX8_takeKind_69 (by decide) ?_
            exact ebX8_takeKind_70 C H0 q hf
          · refine xr_iconst (v := 5) C dX8_takeKind_65 (by decide) ?_
            refine xr_goto (tgt := 70) C dX8_takeKind_66 (by decide) ?_
            exact ebX8_takeKind_70 C H0 q hf
        · refine xr_iconst (v := 4) C dX8_takeKind_52 (by decide) ?_
          refine xr_goto (tgt := 70) C dX8_takeKind_53 (by decide) ?_
          exact ebX8_takeKind_70 C H0 q hf
      · refine xr_iconst (v := 3) C dX8_takeKind_39 (by decide) ?_
        refine xr_goto (tgt := 70) C dX8_takeKind_40 (by decide) ?_
        exact ebX8_takeKind_70 C H0 q hf
    · refine xr_iconst (v := 2) C dX8_takeKind_26 (by decide) ?_
      refine xr_goto (tgt := 70) C dX8_takeKind_27 (by decide) ?_
      exact ebX8_takeKind_70 C H0 q hf
  · refine xr_iconst (v := 1) C dX8_takeKind_13 (by decide) ?_
    refine xr_goto (tgt := 70) C dX8_takeKind_14 (by decide) ?_
    exact ebX8_takeKind_70 C H0 q hf
theorem kX8_takeKind {B : Bs} {h : Shp} (H0 : TapeAt h) {I0 : Mem} {r1 : Int32} {o1 : Mem} (hf : fnX8_takeKind I0 = some (r1, o1)) : CtrI B yX8_takeKind cX8_takeKind 2 (some Jvm.ClassFile.FieldType.int) 5 107 0 0 [rfB B 13] (I0, h) r1 (o1, h) := by
  refine xr_enterI (lv0 := [(0, rfB B 13)]) (by decide) (Nat.le_of_ble_eq_true rfl) rfl (fun g hg C q => ?_)
  subst hg
  exact ebX8_takeKind_0 C H0 q hf
theorem dX8_takeFreeCell_0 : decode cX8_takeFreeCell 0 = .ok (.aload_n 0, 1) := by decide +kernel
theorem dX8_takeFreeCell_1 : decode cX8_takeFreeCell 1 = .ok (.iconst 0, 1) := by decide +kernel
theorem dX8_takeFreeCell_2 : decode cX8_takeFreeCell 2 = .ok (.bipush 6, 2) := by decide +kernel
theorem dX8_takeFreeCell_4 : decode cX8_takeFreeCell 4 = .ok (.invokevirtual 74, 3) := by decide +kernel
theorem dX8_takeFreeCell_7 : decode cX8_takeFreeCell 7 = .ok (.istore_n 1, 1) := by decide +kernel
theorem dX8_takeFreeCell_8 : decode cX8_takeFreeCell 8 = .ok (.aload_n 0, 1) := by decide +kernel
theorem dX8_takeFreeCell_9 : decode cX8_takeFreeCell 9 = .ok (.iconst 0, 1) := by decide +kernel
theorem dX8_takeFreeCell_10 : decode cX8_takeFreeCell 10 = .ok (.iconst 5, 1) := by decide +kernel
theorem dX8_takeFreeCell_11 : decode cX8_takeFreeCell 11 = .ok (.invokevirtual 74, 3) := by decide +kernel
theorem dX8_takeFreeCell_14 : decode cX8_takeFreeCell 14 = .ok (.istore_n 2, 1) := by decide +kernel
theorem dX8_takeFreeCell_15 : decode cX8_takeFreeCell 15 = .ok (.bipush 7, 2) := by decide +kernel
theorem dX8_takeFreeCell_17 : decode cX8_takeFreeCell 17 = .ok (.iload_n 2, 1) := by decide +kernel
theorem dX8_takeFreeCell_18 : decode cX8_takeFreeCell 18 = .ok (.imul, 1) := by decide +kernel
theorem dX8_takeFreeCell_19 : decode cX8_takeFreeCell 19 = .ok (.iload_n 1, 1) := by decide +kernel
theorem dX8_takeFreeCell_20 : decode cX8_takeFreeCell 20 = .ok (.iadd, 1) := by decide +kernel
theorem dX8_takeFreeCell_21 : decode cX8_takeFreeCell 21 = .ok (.istore_n 3, 1) := by decide +kernel
theorem dX8_takeFreeCell_22 : decode cX8_takeFreeCell 22 = .ok (.aload_n 0, 1) := by decide +kernel
theorem dX8_takeFreeCell_23 : decode cX8_takeFreeCell 23 = .ok (.getfield 32, 3) := by decide +kernel
theorem dX8_takeFreeCell_26 : decode cX8_takeFreeCell 26 = .ok (.ifCond .ne 20, 3) := by decide +kernel
theorem dX8_takeFreeCell_29 : decode cX8_takeFreeCell 29 = .ok (.aload_n 0, 1) := by decide +kernel
theorem dX8_takeFreeCell_30 : decode cX8_takeFreeCell 30 = .ok (.getfield 22, 3) := by decide +kernel
theorem dX8_takeFreeCell_33 : decode cX8_takeFreeCell 33 = .ok (.iload_n 3, 1) := by decide +kernel
theorem dX8_takeFreeCell_34 : decode cX8_takeFreeCell 34 = .ok (.invokevirtual 110, 3) := by decide +kernel
theorem dX8_takeFreeCell_37 : decode cX8_takeFreeCell 37 = .ok (.iconst (-1), 1) := by decide +kernel
theorem dX8_takeFreeCell_38 : decode cX8_takeFreeCell 38 = .ok (.if_icmp .eq 8, 3) := by decide +kernel
theorem dX8_takeFreeCell_41 : decode cX8_takeFreeCell 41 = .ok (.aload_n 0, 1) := by decide +kernel
theorem dX8_takeFreeCell_42 : decode cX8_takeFreeCell 42 = .ok (.iconst 2, 1) := by decide +kernel
theorem dX8_takeFreeCell_43 : decode cX8_takeFreeCell 43 = .ok (.putfield 32, 3) := by decide +kernel
theorem dX8_takeFreeCell_46 : decode cX8_takeFreeCell 46 = .ok (.iload_n 3, 1) := by decide +kernel
theorem dX8_takeFreeCell_47 : decode cX8_takeFreeCell 47 = .ok (.ireturn, 1) := by decide +kernel
theorem lkX8_110 : LkN "BumperBalls$Tape" 110 yX7_pinIn cX7_pinIn 2 (some Jvm.ClassFile.FieldType.int) 1 := ⟨wk_526, wk_4, wk_525, wk_s21, ⟨by decide +kernel, by decide +kernel, by decide +kernel⟩, (List.mem_of_getElem? (i := 104) (by decide +kernel))⟩
/-! BumperBalls$Tape.takeFreeCell()I -/
def fnX8_takeFreeCell_46 (I0 : Mem) (l3 : Int32) : Option (Int32 × Mem) :=
  some (l3, I0)
set_option maxRecDepth 20000 in
set_option maxHeartbeats 2000000 in
theorem ebX8_takeFreeCell_46 {g : Cfg} (C : Cx g RX8 cX8_takeFreeCell 4 4 82 0 0) {h : Shp} (H0 : TapeAt h) {r1 : Int32} {o1 : Mem} (q : QI g (some Jvm.ClassFile.FieldType.int) 0 0 r1 (o1, h)) {I0 : Mem} {l3 : Int32} (hf : fnX8_takeFreeCell_46 I0 l3 = some (r1, o1)) : XE g 0 0 (I0, h) 46 [(3, .int l3)] [] := by
  unfold fnX8_takeFreeCell_46 at hf
  refine xr_iload_n C dX8_takeFreeCell_46 0 rfl rfl ?_
  exact xr_ireturn C q rfl rfl dX8_takeFreeCell_47 (so_1 hf) (so_w hf)
def fnX8_takeFreeCell (I0 : Mem) : Option (Int32 × Mem) :=
  ob (fnX8_takeNumber I0 0 6) fun ⟨r3, I2⟩ => ob (fnX8_takeNumber I2 0 5) fun ⟨r6, I5⟩ => bnd (((7 : Int32) * r6) + r3) fun v7 => if (I5 13 5) = 0 then (ob (fnX7_pinIn 15 I5 v7) fun ⟨r11, I10⟩ => if r11 = (-1) then (fnX8_takeFreeCell_46 I10 v7) else (bnd (up2 I10 13 5 2) fun I13 => fnX8_takeFreeCell_46 I13 v7)) else (fnX8_takeFreeCell_46 I5 v7)
set_option maxRecDepth 20000 in
set_option maxHeartbeats 2000000 in
theorem ebX8_takeFreeCell_0 {g : Cfg} (C : Cx g RX8 cX8_takeFreeCell 4 4 82 0 0) {h : Shp} (H0 : TapeAt h) {r1 : Int32} {o1 : Mem} (q : QI g (some Jvm.ClassFile.FieldType.int) 0 0 r1 (o1, h)) {I0 : Mem} (hf : fnX8_takeFreeCell I0 = some (r1, o1)) : XE g 0 0 (I0, h) 0 [(0, rf g 13)] [] := by
  unfold fnX8_takeFreeCell at hf
  refine xr_aload_n C dX8_takeFreeCell_0 0 rfl rfl ?_
  refine xr_iconst (v := 0) C dX8_takeFreeCell_1 (by decide) ?_
  refine xr_bipush (v := 6) C dX8_takeFreeCell_2 (by decide) ?_
  obtain ⟨⟨r3, I2⟩, h1, hf⟩ := ob_x hf
  refine xr_callVI C [.int 0, .int 6] lkX8_74 (kX8_takeNumber H0 h1) Kd8 rfl H0.1 rfl (Nat.le_of_ble_eq_true rfl) rfl dX8_takeFreeCell_4 ⟨by decide, by decide, by decide⟩ rfl ?_
  refine xr_istore_n C dX8_takeFreeCell_7 rfl (by decide) rfl ?_
  refine xr_aload_n C dX8_takeFreeCell_8 1 rfl rfl ?_
  refine xr_iconst (v := 0) C dX8_takeFreeCell_9 (by decide) ?_
  refine xr_iconst (v := 5) C dX8_takeFreeCell_10 (by decide) ?_
  obtain ⟨⟨r6, I5⟩, h4, hf⟩ := ob_x hf
  refine xr_callVI C [.int 0, .int 5] lkX8_74 (kX8_takeNumber H0 h4) Kd8 rfl H0.1 rfl (Nat.le_of_ble_eq_true rfl) rfl dX8_takeFreeCell_11 ⟨by decide, by decide, by decide⟩ rfl ?_
  refine xr_istore_n C dX8_takeFreeCell_14 rfl (by decide) rfl ?_
  refine xr_bipush (v := 7) C dX8_takeFreeCell_15 (by decide) ?_
  refine xr_iload_n C dX8_takeFreeCell_17 0 rfl rfl ?_
  refine xr_imul C dX8_takeFreeCell_18 ?_
  refine xr_iload_n C dX8_takeFreeCell_19 1 rfl rfl ?_
  refine xr_iadd C dX8_takeFreeCell_20 ?_
  obtain ⟨v7, ev7, hf⟩ := bnd_x hf
  refine xr_nm ev7 ?_
  refine xr_istore_n C dX8_takeFreeCell_21 rfl (by decide) rfl ?_
  refine xr_aload_n C dX8_takeFreeCell_22 3 rfl rfl ?_
  refine xr_geti C Kd8 (k := 5) (by decide) rfl wk_109 rfl H0.1 dX8_takeFreeCell_23 ?_
  refine xr_if_ne (tgt := 46) C dX8_takeFreeCell_26 (by decide) hf (fun c8 hf => ?_) (fun c8 hf => ?_)
  · refine xr_lv [0] rfl ?_
    exact ebX8_takeFreeCell_46 C H0 q hf
  · refine xr_aload_n C dX8_takeFreeCell_29 3 rfl rfl ?_
    refine xr_getr C Kd8 (k := 2) (by decide) rfl wk_103 rfl H0.1 H0.2.2.1 dX8_takeFreeCell_30 ?_
    refine xr_iload_n C dX8_takeFreeCell_33 0 rfl rfl ?_
    obtain ⟨⟨r11, I10⟩, h9, hf⟩ := ob_x hf
    refine xr_callNI C [.int v7] lkX8_110 (kX7_pinIn H0.2.2.2 h9) Kd7 rfl H0.2.2.2.1 rfl (Nat.le_of_ble_eq_true rfl) rfl dX8_takeFreeCell_34 ⟨by decide, by decide, by decide⟩ rfl ?_
    refine xr_iconst (v := (-1)) C dX8_takeFreeCell_37 (by decide) ?_
    refine xr_icmp_eq (tgt := 46) C dX8_takeFreeCell_38 (by decide) hf (fun c12 hf => ?_) (fun c12 hf => ?_)
    · refine xr_lv [0] rfl ?_
      exact ebX8_takeFreeCell_46 C H0 q hf
    · refine xr_aload_n C dX8_takeFreeCell_41 3 rfl rfl ?_
      refine xr_iconst (v := 2) C dX8_takeFreeCell_42 (by decide) ?_
      obtain ⟨I13, eI13, hf⟩ := bnd_x hf
      refine xr_putI C Kd8 (k := 5) (by decide) rfl rfl wk_109 rfl rfl rfl H0.1 dX8_takeFreeCell_43 eI13 ?_
      refine xr_lv [0] rfl ?_
      exact ebX8_takeFreeCell_46 C H0 q hf
theorem kX8_takeFreeCell {B : Bs} {h : Shp} (H0 : TapeAt h) {I0 : Mem} {r1 : Int32} {o1 : Mem} (hf : fnX8_takeFreeCell I0 = some (r1, o1)) : CtrI B yX8_takeFreeCell cX8_takeFreeCell 4 (some Jvm.ClassFile.FieldType.int) 4 82 0 0 [rfB B 13] (I0, h) r1 (o1, h) := by
  refine xr_enterI (lv0 := [(0, rfB B 13)]) (by decide) (Nat.le_of_ble_eq_true rfl) rfl (fun g hg C q => ?_)
  subst hg
  exact ebX8_takeFreeCell_0 C H0 q hf
