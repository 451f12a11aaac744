theorem dX10_token_0 : decode cX10_token 0 = .ok (.aload_n 0, 1) := by decide +kernel
theorem dX10_token_1 : decode cX10_token 1 = .ok (.getfield 78, 3) := by decide +kernel
theorem dX10_token_4 : decode cX10_token 4 = .ok (.aload_n 0, 1) := by decide +kernel
theorem dX10_token_5 : decode cX10_token 5 = .ok (.getfield 72, 3) := by decide +kernel
theorem dX10_token_8 : decode cX10_token 8 = .ok (.if_icmp .ge 44, 3) := by decide +kernel
theorem dX10_token_11 : decode cX10_token 11 = .ok (.aload_n 0, 1) := by decide +kernel
theorem dX10_token_12 : decode cX10_token 12 = .ok (.getfield 16, 3) := by decide +kernel
theorem dX10_token_15 : decode cX10_token 15 = .ok (.aload_n 0, 1) := by decide +kernel
theorem dX10_token_16 : decode cX10_token 16 = .ok (.getfield 78, 3) := by decide +kernel
theorem dX10_token_19 : decode cX10_token 19 = .ok (.iaload, 1) := by decide +kernel
theorem dX10_token_20 : decode cX10_token 20 = .ok (.bipush 32, 2) := by decide +kernel
theorem dX10_token_22 : decode cX10_token 22 = .ok (.if_icmp .eq 17, 3) := by decide +kernel
theorem dX10_token_25 : decode cX10_token 25 = .ok (.aload_n 0, 1) := by decide +kernel
theorem dX10_token_26 : decode cX10_token 26 = .ok (.getfield 16, 3) := by decide +kernel
theorem dX10_token_29 : decode cX10_token 29 = .ok (.aload_n 0, 1) := by decide +kernel
theorem dX10_token_30 : decode cX10_token 30 = .ok (.getfield 78, 3) := by decide +kernel
theorem dX10_token_33 : decode cX10_token 33 = .ok (.iaload, 1) := by decide +kernel
theorem dX10_token_34 : decode cX10_token 34 = .ok (.bipush 10, 2) := by decide +kernel
theorem dX10_token_36 : decode cX10_token 36 = .ok (.if_icmp .ne 16, 3) := by decide +kernel
theorem dX10_token_39 : decode cX10_token 39 = .ok (.aload_n 0, 1) := by decide +kernel
theorem dX10_token_40 : decode cX10_token 40 = .ok (.dup, 1) := by decide +kernel
theorem dX10_token_41 : decode cX10_token 41 = .ok (.getfield 78, 3) := by decide +kernel
theorem dX10_token_44 : decode cX10_token 44 = .ok (.iconst 1, 1) := by decide +kernel
theorem dX10_token_45 : decode cX10_token 45 = .ok (.iadd, 1) := by decide +kernel
theorem dX10_token_46 : decode cX10_token 46 = .ok (.putfield 78, 3) := by decide +kernel
theorem dX10_token_49 : decode cX10_token 49 = .ok (.goto (-49), 3) := by decide +kernel
theorem dX10_token_52 : decode cX10_token 52 = .ok (.aload_n 0, 1) := by decide +kernel
theorem dX10_token_53 : decode cX10_token 53 = .ok (.aload_n 0, 1) := by decide +kernel
theorem dX10_token_54 : decode cX10_token 54 = .ok (.getfield 78, 3) := by decide +kernel
theorem dX10_token_57 : decode cX10_token 57 = .ok (.putfield 81, 3) := by decide +kernel
theorem dX10_token_60 : decode cX10_token 60 = .ok (.aload_n 0, 1) := by decide +kernel
theorem dX10_token_61 : decode cX10_token 61 = .ok (.dup, 1) := by decide +kernel
theorem dX10_token_62 : decode cX10_token 62 = .ok (.getfield 78, 3) := by decide +kernel
theorem dX10_token_65 : decode cX10_token 65 = .ok (.aload_n 0, 1) := by decide +kernel
theorem dX10_token_66 : decode cX10_token 66 = .ok (.getfield 78, 3) := by decide +kernel
theorem dX10_token_69 : decode cX10_token 69 = .ok (.aload_n 0, 1) := by decide +kernel
theorem dX10_token_70 : decode cX10_token 70 = .ok (.getfield 72, 3) := by decide +kernel
theorem dX10_token_73 : decode cX10_token 73 = .ok (.if_icmp .ge 7, 3) := by decide +kernel
theorem dX10_token_76 : decode cX10_token 76 = .ok (.iconst 1, 1) := by decide +kernel
theorem dX10_token_77 : decode cX10_token 77 = .ok (.goto 4, 3) := by decide +kernel
theorem dX10_token_80 : decode cX10_token 80 = .ok (.iconst 0, 1) := by decide +kernel
theorem dX10_token_81 : decode cX10_token 81 = .ok (.iadd, 1) := by decide +kernel
theorem dX10_token_82 : decode cX10_token 82 = .ok (.putfield 78, 3) := by decide +kernel
theorem dX10_token_85 : decode cX10_token 85 = .ok (.aload_n 0, 1) := by decide +kernel
theorem dX10_token_86 : decode cX10_token 86 = .ok (.getfield 78, 3) := by decide +kernel
theorem dX10_token_89 : decode cX10_token 89 = .ok (.aload_n 0, 1) := by decide +kernel
theorem dX10_token_90 : decode cX10_token 90 = .ok (.getfield 72, 3) := by decide +kernel
theorem dX10_token_93 : decode cX10_token 93 = .ok (.if_icmp .ge 58, 3) := by decide +kernel
theorem dX10_token_96 : decode cX10_token 96 = .ok (.aload_n 0, 1) := by decide +kernel
theorem dX10_token_97 : decode cX10_token 97 = .ok (.getfield 16, 3) := by decide +kernel
theorem dX10_token_100 : decode cX10_token 100 = .ok (.aload_n 0, 1) := by decide +kernel
theorem dX10_token_101 : decode cX10_token 101 = .ok (.getfield 81, 3) := by decide +kernel
theorem dX10_token_104 : decode cX10_token 104 = .ok (.iaload, 1) := by decide +kernel
theorem dX10_token_105 : decode cX10_token 105 = .ok (.invokestatic 84, 3) := by decide +kernel
theorem dX10_token_108 : decode cX10_token 108 = .ok (.ifCond .le 43, 3) := by decide +kernel
theorem dX10_token_111 : decode cX10_token 111 = .ok (.aload_n 0, 1) := by decide +kernel
theorem dX10_token_112 : decode cX10_token 112 = .ok (.getfield 16, 3) := by decide +kernel
theorem dX10_token_115 : decode cX10_token 115 = .ok (.aload_n 0, 1) := by decide +kernel
theorem dX10_token_116 : decode cX10_token 116 = .ok (.getfield 78, 3) := by decide +kernel
theorem dX10_token_119 : decode cX10_token 119 = .ok (.iaload, 1) := by decide +kernel
theorem dX10_token_120 : decode cX10_token 120 = .ok (.invokestatic 84, 3) := by decide +kernel
theorem dX10_token_123 : decode cX10_token 123 = .ok (.aload_n 0, 1) := by decide +kernel
theorem dX10_token_124 : decode cX10_token 124 = .ok (.getfield 16, 3) := by decide +kernel
theorem dX10_token_127 : decode cX10_token 127 = .ok (.aload_n 0, 1) := by decide +kernel
theorem dX10_token_128 : decode cX10_token 128 = .ok (.getfield 81, 3) := by decide +kernel
theorem dX10_token_131 : decode cX10_token 131 = .ok (.iaload, 1) := by decide +kernel
theorem dX10_token_132 : decode cX10_token 132 = .ok (.invokestatic 84, 3) := by decide +kernel
theorem dX10_token_135 : decode cX10_token 135 = .ok (.if_icmp .ne 16, 3) := by decide +kernel
theorem dX10_token_138 : decode cX10_token 138 = .ok (.aload_n 0, 1) := by decide +kernel
theorem dX10_token_139 : decode cX10_token 139 = .ok (.dup, 1) := by decide +kernel
theorem dX10_token_140 : decode cX10_token 140 = .ok (.getfield 78, 3) := by decide +kernel
theorem dX10_token_143 : decode cX10_token 143 = .ok (.iconst 1, 1) := by decide +kernel
theorem dX10_token_144 : decode cX10_token 144 = .ok (.iadd, 1) := by decide +kernel
theorem dX10_token_145 : decode cX10_token 145 = .ok (.putfield 78, 3) := by decide +kernel
theorem dX10_token_148 : decode cX10_token 148 = .ok (.goto (-63), 3) := by decide +kernel
theorem dX10_token_151 : decode cX10_token 151 = .ok (.aload_n 0, 1) := by decide +kernel
theorem dX10_token_152 : decode cX10_token 152 = .ok (.aload_n 0, 1) := by decide +kernel
theorem dX10_token_153 : decode cX10_token 153 = .ok (.getfield 78, 3) := by decide +kernel
theorem dX10_token_156 : decode cX10_token 156 = .ok (.putfield 87, 3) := by decide +kernel
theorem dX10_token_159 : decode cX10_token 159 = .ok (.return_, 1) := by decide +kernel
theorem lkX10_84 : LkS "BumperBallsModel" 84 yX10_sort cX10_sort 1 (some Jvm.ClassFile.FieldType.int) 1 := ⟨wk_947, wk_11, wk_946, ⟨by decide +kernel, by decide +kernel, by decide +kernel⟩, wk_945⟩
/-! BumperBallsModel.token()V -/
def fnX10_token_151 (I0 : Mem) : Option Mem :=
  bnd (up2 I0 111 14 (I0 111 12)) fun I1 => some I1
set_option maxRecDepth 20000 in
set_option maxHeartbeats 2000000 in
theorem ebX10_token_151 {g : Cfg} (C : Cx g RX10 cX10_token 1 1 20 0 0) {h : Shp} (H0 : MAt h) {o1 : Mem} (q : QV g 0 0 (o1, h)) {I0 : Mem} (hf : fnX10_token_151 I0 = some o1) : XE g 0 0 (I0, h) 151 [(0, rf g 111)] [] := by
  unfold fnX10_token_151 at hf
  refine xr_aload_n C dX10_token_151 0 rfl rfl ?_
  refine xr_aload_n C dX10_token_152 0 rfl rfl ?_
  refine xr_geti C Kd10 (k := 12) (by decide) rfl wk_833 rfl H0.1 dX10_token_153 ?_
  obtain ⟨I1, eI1, hf⟩ := bnd_x hf
  refine xr_putI C Kd10 (k := 14) (by decide) rfl rfl wk_835 rfl rfl rfl H0.1 dX10_token_156 eI1 ?_
  exact xr_return C q dX10_token_159 (so_v hf)
def fnX10_token_85b (rec85 : Mem → Option Mem) (I0 : Mem) : Option Mem :=
  if (I0 111 4) ≤ (I0 111 12) then (fnX10_token_151 I0) else (ck (inb (I0 111 13) 400) <| ob (fnX10_sort I0 (I0 114 (ix (I0 111 13)))) fun ⟨r5, I4⟩ => if r5 ≤ 0 then (fnX10_token_151 I4) else (ck (inb (I4 111 12) 400) <| ob (fnX10_sort I4 (I4 114 (ix (I4 111 12)))) fun ⟨r10, I9⟩ => ck (inb (I9 111 13) 400) <| ob (fnX10_sort I9 (I9 114 (ix (I9 111 13)))) fun ⟨r14, I13⟩ => if r10 = r14 then (bnd (up2 I13 111 12 ((I13 111 12) + 1)) fun I16 => rec85 I16) else (fnX10_token_151 I13)))
def fnX10_token_85 : Nat → Mem → Option Mem
  | 0 => fun _ => none
  | fu + 1 => fnX10_token_85b (fnX10_token_85 fu)
set_option maxRecDepth 20000 in
set_option maxHeartbeats 2000000 in
theorem ebX10_token_85b {g : Cfg} (C : Cx g RX10 cX10_token 1 1 20 0 0) {h : Shp} (H0 : MAt h) {o1 : Mem} {rec85 : Mem → Option Mem} (q : QV g 0 0 (o1, h)) (ih85 : ∀ (I0 : Mem), rec85 I0 = some o1 → XE g 0 0 (I0, h) 85 [(0, rf g 111)] []) {I0 : Mem} (hf : fnX10_token_85b rec85 I0 = some o1) : XE g 0 0 (I0, h) 85 [(0, rf g 111)] [] := by
  unfold fnX10_token_85b at hf
  refine xr_aload_n C dX10_token_85 0 rfl rfl ?_
  refine xr_geti C Kd10 (k := 12) (by decide) rfl wk_833 rfl H0.1 dX10_token_86 ?_
  refine xr_aload_n C dX10_token_89 0 rfl rfl ?_
  refine xr_geti C Kd10 (k := 4) (by decide) rfl wk_825 rfl H0.1 dX10_token_90 ?_
  refine xr_icmp_ge (tgt := 151) C dX10_token_93 (by decide) hf (fun c1 hf => ?_) (fun c1 hf => ?_)
  · exact ebX10_token_151 C H0 q hf
  · refine xr_aload_n C dX10_token_96 0 rfl rfl ?_
    refine xr_getr C Kd10 (k := 3) (by decide) rfl wk_824 rfl H0.1 H0.2.2.2.1.1 dX10_token_97 ?_
    refine xr_aload_n C dX10_token_100 0 rfl rfl ?_
    refine xr_geti C Kd10 (k := 13) (by decide) rfl wk_834 rfl H0.1 dX10_token_101 ?_
    obtain ⟨i2, hf⟩ := ck_x hf
    refine xr_iald C H0.2.2.2.1.2 i2 dX10_token_104 ?_
    obtain ⟨⟨r5, I4⟩, h3, hf⟩ := ob_x hf
    refine xr_callSI C [.int (I0 114 (ix (I0 111 13)))] lkX10_84 (kX10_sort h3) rfl (Nat.le_of_ble_eq_true rfl) rfl dX10_token_105 ⟨by decide, by decide, by decide⟩ rfl ?_
    refine xr_if_le (tgt := 151) C dX10_token_108 (by decide) hf (fun c6 hf => ?_) (fun c6 hf => ?_)
    · exact ebX10_token_151 C H0 q hf
    · refine xr_aload_n C dX10_token_111 0 rfl rfl ?_
      refine xr_getr C Kd10 (k := 3) (by decide) rfl wk_824 rfl H0.1 H0.2.2.2.1.1 dX10_token_112 ?_
      refine xr_aload_n C dX10_token_115 0 rfl rfl ?_
      refine xr_geti C Kd10 (k := 12) (by decide) rfl wk_833 rfl H0.1 dX10_token_116 ?_
      obtain ⟨i7, hf⟩ := ck_x hf
      refine xr_iald C H0.2.2.2.1.2 i7 dX10_token_119 ?_
      obtain ⟨⟨r10, I9⟩, h8, hf⟩ := ob_x hf
      refine xr_callSI C [.int (I4 114 (ix (I4 111 12)))] lkX10_84 (kX10_sort h8) rfl (Nat.le_of_ble_eq_true rfl) rfl dX10_token_120 ⟨by decide, by decide, by decide⟩ rfl ?_
      refine xr_aload_n C dX10_token_123 0 rfl rfl ?_
      refine xr_getr C Kd10 (k := 3) (by decide) rfl wk_824 rfl H0.1 H0.2.2.2.1.1 dX10_token_124 ?_
      refine xr_aload_n C dX10_token_127 0 rfl rfl ?_
      refine xr_geti C Kd10 (k := 13) (by decide) rfl wk_834 rfl H0.1 dX10_token_128 ?_
      obtain ⟨i11, hf⟩ := ck_x hf
      refine xr_iald C H0.2.2.2.1.2 i11 dX10_token_131 ?_
      obtain ⟨⟨r14, I13⟩, h12, hf⟩ := ob_x hf
      refine xr_callSI C [.int (I9 114 (ix (I9 111 13)))] lkX10_84 (kX10_sort h12) rfl (Nat.le_of_ble_eq_true rfl) rfl dX10_token_132 ⟨by decide, by decide, by decide⟩ rfl ?_
      refine xr_icmp_ne (tgt := 151) C dX10_token_135 (by decide) hf (fun c15 hf => ?_) (fun c15 hf => ?_)
      · exact ebX10_token_151 C H0 q hf
      · refine xr_aload_n C dX10_token_138 0 rfl rfl ?_
        refine xr_dup C dX10_token_139 rfl ?_
        refine xr_geti C Kd10 (k := 12) (by decide) rfl wk_833 rfl H0.1 dX10_token_140 ?_
        refine xr_iconst (v := 1) C dX10_token_143 (by decide) ?_
        refine xr_iadd C dX10_token_144 ?_
        obtain ⟨I16, eI16, hf⟩ := bnd_x hf
        refine xr_putI C Kd10 (k := 12) (by decide) rfl rfl wk_833 rfl rfl rfl H0.1 dX10_token_145 eI16 ?_
        refine xr_goto (tgt := 85) C dX10_token_148 (by decide) ?_
        exact ih85 _ hf
theorem ebX10_token_85 {g : Cfg} (C : Cx g RX10 cX10_token 1 1 20 0 0) {h : Shp} (H0 : MAt h) {o1 : Mem} (q : QV g 0 0 (o1, h)) : ∀ (fu : Nat) {I0 : Mem} (hf : fnX10_token_85 fu I0 = some o1), XE g 0 0 (I0, h) 85 [(0, rf g 111)] [] := by
  intro fu
  induction fu with
  | zero =>
    intro I0 hf
    cases hf
  | succ fu ihn =>
    intro I0 hf
    exact ebX10_token_85b C H0 q (fun _ hf => ihn hf) hf
def fnX10_token_81 (I0 : Mem) (t1 : Int32) (t2 : Int32) : Option Mem :=
  bnd (up2 I0 111 12 (t1 + t2)) fun I1 => fnX10_token_85 FU I1
set_option maxRecDepth 20000 in
set_option maxHeartbeats 2000000 in
theorem ebX10_token_81 {g : Cfg} (C : Cx g RX10 cX10_token 1 1 20 0 0) {h : Shp} (H0 : MAt h) {o1 : Mem} (q : QV g 0 0 (o1, h)) {I0 : Mem} {t1 : Int32} {t2 : Int32} (hf : fnX10_token_81 I0 t1 t2 = some o1) : XE g 0 0 (I0, h) 81 [(0, rf g 111)] [.int t2, .int t1, rf g 111] := by
  unfold fnX10_token_81 at hf
  refine xr_iadd C dX10_token_81 ?_
  obtain ⟨I1, eI1, hf⟩ := bnd_x hf
  refine xr_putI C Kd10 (k := 12) (by decide) rfl rfl wk_833 rfl rfl rfl H0.1 dX10_token_82 eI1 ?_
  exact ebX10_token_85 C H0 q _ hf
def fnX10_token_52 (I0 : Mem) : Option Mem :=
  bnd (up2 I0 111 13 (I0 111 12)) fun I1 => if (I1 111 4) ≤ (I1 111 12) then (fnX10_token_81 I1 (I1 111 12) 0) else (fnX10_token_81 I1 (I1 111 12) 1)
set_option maxRecDepth 20000 in
set_option maxHeartbeats 2000000 in
theorem ebX10_token_52 {g : Cfg} (C : Cx g RX10 cX10_token 1 1 20 0 0) {h : Shp} (H0 : MAt h) {o1 : Mem} (q : QV g 0 0 (o1, h)) {I0 : Mem} (hf : fnX10_token_52 I0 = some o1) : XE g 0 0 (I0, h) 52 [(0, rf g 111)] [] := by
  unfold fnX10_token_52 at hf
  refine xr_aload_n C dX10_token_52 0 rfl rfl ?_
  refine xr_aload_n C dX10_token_53 0 rfl rfl ?_
  refine xr_geti C Kd10 (k := 12) (by decide) rfl wk_833 rfl H0.1 dX10_token_54 ?_
  obtain ⟨I1, eI1, hf⟩ := bnd_x hf
  refine xr_putI C Kd10 (k := 13) (by decide) rfl rfl wk_834 rfl rfl rfl H0.1 dX10_token_57 eI1 ?_
  refine xr_aload_n C dX10_token_60 0 rfl rfl ?_
  refine xr_dup C dX10_token_61 rfl ?_
  refine xr_geti C Kd10 (k := 12) (by decide) rfl wk_833 rfl H0.1 dX10_token_62 ?_
  refine xr_aload_n C dX10_token_65 0 rfl rfl ?_
  refine xr_geti C Kd10 (k := 12) (by decide) rfl wk_833 rfl H0.1 dX10_token_66 ?_
  refine xr_aload_n C dX10_token_69 0 rfl rfl ?_
  refine xr_geti C Kd10 (k := 4) (by decide) rfl wk_825 rfl H0.1 dX10_token_70 ?_
  refine xr_icmp_ge (tgt := 80) C dX10_token_73 (by decide) hf (fun c2 hf => ?_) (fun c2 hf => ?_)
  · refine xr_iconst (v := 0) C dX10_token_80 (by decide) ?_
    exact ebX10_token_81 C H0 q hf
  · refine xr_iconst (v := 1) C dX10_token_76 (by decide) ?_
    refine xr_goto (tgt := 81) C dX10_token_77 (by decide) ?_
    exact ebX10_token_81 C H0 q hf
def fnX10_token_39 (rec0 : Mem → Option Mem) (I0 : Mem) : Option Mem :=
  bnd (up2 I0 111 12 ((I0 111 12) + 1)) fun I1 => rec0 I1
set_option maxRecDepth 20000 in
set_option maxHeartbeats 2000000 in
theorem ebX10_token_39 {g : Cfg} (C : Cx g RX10 cX10_token 1 1 20 0 0) {h : Shp} (H0 : MAt h) {o1 : Mem} {rec0 : Mem → Option Mem} (ih0 : ∀ (I0 : Mem), rec0 I0 = some o1 → XE g 0 0 (I0, h) 0 [(0, rf g 111)] []) (q : QV g 0 0 (o1, h)) {I0 : Mem} (hf : fnX10_token_39 rec0 I0 = some o1) : XE g 0 0 (I0, h) 39 [(0, rf g 111)] [] := by
  unfold fnX10_token_39 at hf
  refine xr_aload_n C dX10_token_39 0 rfl rfl ?_
  refine xr_dup C dX10_token_40 rfl ?_
  refine xr_geti C Kd10 (k := 12) (by decide) rfl wk_833 rfl H0.1 dX10_token_41 ?_
  refine xr_iconst (v := 1) C dX10_token_44 (by decide) ?_
  refine xr_iadd C dX10_token_45 ?_
  obtain ⟨I1, eI1, hf⟩ := bnd_x hf
  refine xr_putI C Kd10 (k := 12) (by decide) rfl rfl wk_833 rfl rfl rfl H0.1 dX10_token_46 eI1 ?_
  refine xr_goto (tgt := 0) C dX10_token_49 (by decide) ?_
  exact ih0 _ hf
def fnX10_token_0b (rec0 : Mem → Option Mem) (I0 : Mem) : Option Mem :=
  if (I0 111 4) ≤ (I0 111 12) then (fnX10_token_52 I0) else (ck (inb (I0 111 12) 400) <| if (I0 114 (ix (I0 111 12))) = 32 then (fnX10_token_39 rec0 I0) else (ck (inb (I0 111 12) 400) <| if (I0 114 (ix (I0 111 12))) = 10 then (fnX10_token_39 rec0 I0) else (fnX10_token_52 I0)))
def fnX10_token_0 : Nat → Mem → Option Mem
  | 0 => fun _ => none
  | fu + 1 => fnX10_token_0b (fnX10_token_0 fu)
set_option maxRecDepth 20000 in
set_option maxHeartbeats 2000000 in
theorem ebX10_token_0b {g : Cfg} (C : Cx g RX10 cX10_token 1 1 20 0 0) {h : Shp} (H0 : MAt h) {o1 : Mem} {rec0 : Mem → Option Mem} (q : QV g 0 0 (o1, h)) (ih0 : ∀ (I0 : Mem), rec0 I0 = some o1 → XE g 0 0 (I0, h) 0 [(0, rf g 111)] []) {I0 : Mem} (hf : fnX10_token_0b rec0 I0 = some o1) : XE g 0 0 (I0, h) 0 [(0, rf g 111)] [] := by
  unfold fnX10_token_0b at hf
  refine xr_aload_n C dX10_token_0 0 rfl rfl ?_
  refine xr_geti C Kd10 (k := 12) (by decide) rfl wk_833 rfl H0.1 dX10_token_1 ?_
  refine xr_aload_n C dX10_token_4 0 rfl rfl ?_
  refine xr_geti C Kd10 (k := 4) (by decide) rfl wk_825 rfl H0.1 dX10_token_5 ?_
  refine xr_icmp_ge (tgt := 52) C dX10_token_8 (by decide) hf (fun c1 hf => ?_) (fun c1 hf => ?_)
  · exact ebX10_token_52 C H0 q hf
  · refine xr_aload_n C dX10_token_11 0 rfl rfl ?_
    refine xr_getr C Kd10 (k := 3) (by decide) rfl wk_824 rfl H0.1 H0.2.2.2.1.1 dX10_token_12 ?_
    refine xr_aload_n C dX10_token_15 0 rfl rfl ?_
    refine xr_geti C Kd10 (k := 12) (by decide) rfl wk_833 rfl H0.1 dX10_token_16 ?_
    obtain ⟨i2, hf⟩ := ck_x hf
    refine xr_iald C H0.2.2.2.1.2 i2 dX10_token_19 ?_
    refine xr_bipush (v := 32) C dX10_token_20 (by decide) ?_
    refine xr_icmp_eq (tgt := 39) C dX10_token_22 (by decide) hf (fun c3 hf => ?_) (fun c3 hf => ?_)
    · exact ebX10_token_39 C H0 ih0 q hf
    · refine xr_aload_n C dX10_token_25 0 rfl rfl ?_
      refine xr_getr C Kd10 (k := 3) (by decide) rfl wk_824 rfl H0.1 H0.2.2.2.1.1 dX10_token_26 ?_
      refine xr_aload_n C dX10_token_29 0 rfl rfl ?_
      refine xr_geti C Kd10 (k := 12) (by decide) rfl wk_833 rfl H0.1 dX10_token_30 ?_
      obtain ⟨i4, hf⟩ := ck_x hf
      refine xr_iald C H0.2.2.2.1.2 i4 dX10_token_33 ?_
      refine xr_bipush (v := 10) C dX10_token_34 (by decide) ?_
      refine xr_icmp_ne (tgt := 52) C dX10_token_36 (by decide) hf (fun c5 hf => ?_) (fun c5 hf => ?_)
      · exact ebX10_token_52 C H0 q hf
      · exact ebX10_token_39 C H0 ih0 q hf
theorem ebX10_token_0 {g : Cfg} (C : Cx g RX10 cX10_token 1 1 20 0 0) {h : Shp} (H0 : MAt h) {o1 : Mem} (q : QV g 0 0 (o1, h)) : ∀ (fu : Nat) {I0 : Mem} (hf : fnX10_token_0 fu I0 = some o1), XE g 0 0 (I0, h) 0 [(0, rf g 111)] [] := by
  intro fu
  induction fu with
  | zero =>
    intro I0 hf
    cases hf
  | succ fu ihn =>
    intro I0 hf
    exact ebX10_token_0b C H0 q (fun _ hf => ihn hf) hf
def fnX10_token (I0 : Mem) : Option Mem :=
  fnX10_token_0 FU I0
set_option maxRecDepth 20000 in
set_option maxHeartbeats 2000000 in
theorem ebX10_token_e {g : Cfg} (C : Cx g RX10 cX10_token 1 1 20 0 0) {h : Shp} (H0 : MAt h) {o1 : Mem} (q : QV g 0 0 (o1, h)) {I0 : Mem} (hf : fnX10_token I0 = some o1) : XE g 0 0 (I0, h) 0 [(0, rf g 111)] [] := by
  unfold fnX10_token at hf
  exact ebX10_token_0 C H0 q _ hf
theorem kX10_token {B : Bs} {h : Shp} (H0 : MAt h) {I0 : Mem} {o1 : Mem} (hf : fnX10_token I0 = some o1) : CtrV B yX10_token cX10_token 1 1 20 0 0 [rfB B 111] (I0, h) (o1, h) := by
  refine xr_enterV (lv0 := [(0, rfB B 111)]) (by decide) (Nat.le_of_ble_eq_true rfl) rfl (fun g hg C q => ?_)
  subst hg
  exact ebX10_token_e C H0 q hf
theorem dX10_isWord_0 : decode cX10_isWord 0 = .ok (.aload_n 0, 1) := by decide +kernel
theorem dX10_isWord_1 : decode cX10_isWord 1 = .ok (.getfield 87, 3) := by decide +kernel
theorem dX10_isWord_4 : decode cX10_isWord 4 = .ok (.aload_n 0, 1) := by decide +kernel
theorem dX10_isWord_5 : decode cX10_isWord 5 = .ok (.getfield 81, 3) := by decide +kernel
theorem dX10_isWord_8 : decode cX10_isWord 8 = .ok (.isub, 1) := by decide +kernel
theorem dX10_isWord_9 : decode cX10_isWord 9 = .ok (.iload_n 2, 1) := by decide +kernel
theorem dX10_isWord_10 : decode cX10_isWord 10 = .ok (.if_icmp .ne 7, 3) := by decide +kernel
theorem dX10_isWord_13 : decode cX10_isWord 13 = .ok (.iconst 1, 1) := by decide +kernel
theorem dX10_isWord_14 : decode cX10_isWord 14 = .ok (.goto 4, 3) := by decide +kernel
theorem dX10_isWord_17 : decode cX10_isWord 17 = .ok (.iconst 0, 1) := by decide +kernel
theorem dX10_isWord_18 : decode cX10_isWord 18 = .ok (.istore_n 3, 1) := by decide +kernel
theorem dX10_isWord_19 : decode cX10_isWord 19 = .ok (.iconst 0, 1) := by decide +kernel
theorem dX10_isWord_20 : decode cX10_isWord 20 = .ok (.istore 4, 2) := by decide +kernel
theorem dX10_isWord_22 : decode cX10_isWord 22 = .ok (.iload_n 3, 1) := by decide +kernel
theorem dX10_isWord_23 : decode cX10_isWord 23 = .ok (.ifCond .eq 48, 3) := by decide +kernel
theorem dX10_isWord_26 : decode cX10_isWord 26 = .ok (.iload 4, 2) := by decide +kernel
theorem dX10_isWord_28 : decode cX10_isWord 28 = .ok (.iload_n 2, 1) := by decide +kernel
theorem dX10_isWord_29 : decode cX10_isWord 29 = .ok (.if_icmp .ge 42, 3) := by decide +kernel
theorem dX10_isWord_32 : decode cX10_isWord 32 = .ok (.aload_n 0, 1) := by decide +kernel
theorem dX10_isWord_33 : decode cX10_isWord 33 = .ok (.getfield 16, 3) := by decide +kernel
theorem dX10_isWord_36 : decode cX10_isWord 36 = .ok (.aload_n 0, 1) := by decide +kernel
theorem dX10_isWord_37 : decode cX10_isWord 37 = .ok (.getfield 81, 3) := by decide +kernel
theorem dX10_isWord_40 : decode cX10_isWord 40 = .ok (.iload 4, 2) := by decide +kernel
theorem dX10_isWord_42 : decode cX10_isWord 42 = .ok (.iadd, 1) := by decide +kernel
theorem dX10_isWord_43 : decode cX10_isWord 43 = .ok (.iaload, 1) := by decide +kernel
theorem dX10_isWord_44 : decode cX10_isWord 44 = .ok (.bipush 96, 2) := by decide +kernel
theorem dX10_isWord_46 : decode cX10_isWord 46 = .ok (.iload_n 1, 1) := by decide +kernel
theorem dX10_isWord_47 : decode cX10_isWord 47 = .ok (.iconst 5, 1) := by decide +kernel
theorem dX10_isWord_48 : decode cX10_isWord 48 = .ok (.iload 4, 2) := by decide +kernel
theorem dX10_isWord_50 : decode cX10_isWord 50 = .ok (.imul, 1) := by decide +kernel
theorem dX10_isWord_51 : decode cX10_isWord 51 = .ok (.ishr, 1) := by decide +kernel
theorem dX10_isWord_52 : decode cX10_isWord 52 = .ok (.bipush 31, 2) := by decide +kernel
theorem dX10_isWord_54 : decode cX10_isWord 54 = .ok (.iand, 1) := by decide +kernel
theorem dX10_isWord_55 : decode cX10_isWord 55 = .ok (.iadd, 1) := by decide +kernel
theorem dX10_isWord_56 : decode cX10_isWord 56 = .ok (.if_icmp .ne 7, 3) := by decide +kernel
theorem dX10_isWord_59 : decode cX10_isWord 59 = .ok (.iconst 1, 1) := by decide +kernel
theorem dX10_isWord_60 : decode cX10_isWord 60 = .ok (.goto 4, 3) := by decide +kernel
theorem dX10_isWord_63 : decode cX10_isWord 63 = .ok (.iconst 0, 1) := by decide +kernel
theorem dX10_isWord_64 : decode cX10_isWord 64 = .ok (.istore_n 3, 1) := by decide +kernel
theorem dX10_isWord_65 : decode cX10_isWord 65 = .ok (.iinc 4 1, 3) := by decide +kernel
theorem dX10_isWord_68 : decode cX10_isWord 68 = .ok (.goto (-46), 3) := by decide +kernel
theorem dX10_isWord_71 : decode cX10_isWord 71 = .ok (.iload_n 3, 1) := by decide +kernel
theorem dX10_isWord_72 : decode cX10_isWord 72 = .ok (.ireturn, 1) := by decide +kernel
/-! BumperBallsModel.isWord(II)Z -/
def fnX10_isWord_71 (I0 : Mem) (l3 : Int32) : Option (Int32 × Mem) :=
  ck (zb l3) <| some (l3, I0)
set_option maxRecDepth 20000 in
set_option maxHeartbeats 2000000 in
theorem ebX10_isWord_71 {g : Cfg} (C : Cx g RX10 cX10_isWord 5 0 0 0 0) {h : Shp} (H0 : MAt h) {r1 : Int32} {o1 : Mem} (q : QI g (some Jvm.ClassFile.FieldType.boolean) 0 0 r1 (o1, h)) {I0 : Mem} {l3 : Int32} (hf : fnX10_isWord_71 I0 l3 = some (r1, o1)) : XE g 0 0 (I0, h) 71 [(3, .int l3)] [] := by
  unfold fnX10_isWord_71 at hf
  refine xr_iload_n C dX10_isWord_71 0 rfl rfl ?_
  obtain ⟨z1, hf⟩ := ck_x hf
  exact xr_ireturn C q rfl (zb_ok z1).1 dX10_isWord_72 (so_1 hf) (so_w hf)
def fnX10_isWord_64 (rec22 : Mem → Int32 → Int32 → Int32 → Int32 → Option (Int32 × Mem)) (I0 : Mem) (l1 : Int32) (l2 : Int32) (l4 : Int32) (t0 : Int32) : Option (Int32 × Mem) :=
  bnd (l4 + 1) fun v1 => rec22 I0 l1 l2 t0 v1
set_option maxRecDepth 20000 in
set_option maxHeartbeats 2000000 in
theorem ebX10_isWord_64 {g : Cfg} (C : Cx g RX10 cX10_isWord 5 0 0 0 0) {h : Shp} (H0 : MAt h) {r1 : Int32} {o1 : Mem} {rec22 : Mem → Int32 → Int32 → Int32 → Int32 → Option (Int32 × Mem)} (ih22 : ∀ (I0 : Mem) (l1 : Int32) (l2 : Int32) (l3 : Int32) (l4 : Int32), rec22 I0 l1 l2 l3 l4 = some (r1, o1) → XE g 0 0 (I0, h) 22 [(0, rf g 111), (1, .int l1), (2, .int l2), (3, .int l3), (4, .int l4)] []) (q : QI g (some Jvm.ClassFile.FieldType.boolean) 0 0 r1 (o1, h)) {I0 : Mem} {l1 : Int32} {l2 : Int32} {l4 : Int32} {t0 : Int32} (hf : fnX10_isWord_64 rec22 I0 l1 l2 l4 t0 = some (r1, o1)) : XE g 0 0 (I0, h) 64 [(0, rf g 111), (1, .int l1), (2, .int l2), (4, .int l4)] [.int t0] := by
  unfold fnX10_isWord_64 at hf
  refine xr_istore_n C dX10_isWord_64 rfl (by decide) rfl ?_
  obtain ⟨v1, ev1, hf⟩ := bnd_x hf
  refine xr_iinc (k := 4) (v := v1) C dX10_isWord_65 rfl (by rw [ev1]; rfl) (by decide) rfl ?_
  refine xr_goto (tgt := 22) C dX10_isWord_68 (by decide) ?_
  refine xr_lv [2, 3, 4, 1, 0] rfl ?_
  exact ih22 _ _ _ _ _ hf
def fnX10_isWord_22b (rec22 : Mem → Int32 → Int32 → Int32 → Int32 → Option (Int32 × Mem)) (I0 : Mem) (l1 : Int32) (l2 : Int32) (l3 : Int32) (l4 : Int32) : Option (Int32 × Mem) :=
  if l3 = 0 then (fnX10_isWord_71 I0 l3) else (if l2 ≤ l4 then (fnX10_isWord_71 I0 l3) else (ck (inb ((I0 111 13) + l4) 400) <| if (I0 114 (ix ((I0 111 13) + l4))) = ((96 : Int32) + ((l1 >>> (((5 : Int32) * l4) &&& 31)) &&& 31)) then (fnX10_isWord_64 rec22 I0 l1 l2 l4 1) else (fnX10_isWord_64 rec22 I0 l1 l2 l4 0)))
def fnX10_isWord_22 : Nat → Mem → Int32 → Int32 → Int32 → Int32 → Option (Int32 × Mem)
  | 0 => fun _ _ _ _ _ => none
  | fu + 1 => fnX10_isWord_22b (fnX10_isWord_22 fu)
set_option maxRecDepth 20000 in
set_option maxHeartbeats 2000000 in
theorem ebX10_isWord_22b {g : Cfg} (C : Cx g RX10 cX10_isWord 5 0 0 0 0) {h : Shp} (H0 : MAt h) {r1 : Int32} {o1 : Mem} {rec22 : Mem → Int32 → Int32 → Int32 → Int32 → Option (Int32 × Mem)} (q : QI g (some Jvm.ClassFile.FieldType.boolean) 0 0 r1 (o1, h)) (ih22 : ∀ (I0 : Mem) (l1 : Int32) (l2 : Int32) (l3 : Int32) (l4 : Int32), rec22 I0 l1 l2 l3 l4 = some (r1, o1) → XE g 0 0 (I0, h) 22 [(0, rf g 111), (1, .int l1), (2, .int l2), (3, .int l3), (4, .int l4)] []) {I0 : Mem} {l1 : Int32} {l2 : Int32} {l3 : Int32} {l4 : Int32} (hf : fnX10_isWord_22b rec22 I0 l1 l2 l3 l4 = some (r1, o1)) : XE g 0 0 (I0, h) 22 [(0, rf g 111), (1, .int l1), (2, .int l2), (3, .int l3), (4, .int l4)] [] := by
  unfold fnX10_isWord_22b at hf
  refine xr_iload_n C dX10_isWord_22 3 rfl rfl ?_
  refine xr_if_eq (tgt := 71) C dX10_isWord_23 (by decide) hf (fun c1 hf => ?_) (fun c1 hf => ?_)
  · refine xr_lv [3] rfl ?_
    exact ebX10_isWord_71 C H0 q hf
  · refine xr_iload C dX10_isWord_26 4 rfl ?_
    refine xr_iload_n C dX10_isWord_28 2 rfl rfl ?_
    refine xr_icmp_ge (tgt := 71) C dX10_isWord_29 (by decide) hf (fun c2 hf => ?_) (fun c2 hf => ?_)
    · refine xr_lv [3] rfl ?_
      exact ebX10_isWord_71 C H0 q hf
    · refine xr_aload_n C dX10_isWord_32 0 rfl rfl ?_
      refine xr_getr C Kd10 (k := 3) (by decide) rfl wk_824 rfl H0.1 H0.2.2.2.1.1 dX10_isWord_33 ?_
      refine xr_aload_n C dX10_isWord_36 0 rfl rfl ?_
      refine xr_geti C Kd10 (k := 13) (by decide) rfl wk_834 rfl H0.1 dX10_isWord_37 ?_
      refine xr_iload C dX10_isWord_40 4 rfl ?_
      refine xr_iadd C dX10_isWord_42 ?_
      obtain ⟨i3, hf⟩ := ck_x hf
      refine xr_iald C H0.2.2.2.1.2 i3 dX10_isWord_43 ?_
      refine xr_bipush (v := 96) C dX10_isWord_44 (by decide) ?_
      refine xr_iload_n C dX10_isWord_46 1 rfl rfl ?_
      refine xr_iconst (v := 5) C dX10_isWord_47 (by decide) ?_
      refine xr_iload C dX10_isWord_48 4 rfl ?_
      refine xr_imul C dX10_isWord_50 ?_
      refine xr_ishr C dX10_isWord_51 ?_
      refine xr_bipush (v := 31) C dX10_isWord_52 (by decide) ?_
      refine xr_iand C dX10_isWord_54 ?_
      refine xr_iadd C dX10_isWord_55 ?_
      refine xr_icmp_ne (tgt := 63) C dX10_isWord_56 (by decide) hf (fun c4 hf => ?_) (fun c4 hf => ?_)
      · refine xr_iconst (v := 0) C dX10_isWord_63 (by decide) ?_
        refine xr_lv [0, 1, 2, 4] rfl ?_
        exact ebX10_isWord_64 C H0 ih22 q hf
      · refine xr_iconst (v := 1) C dX10_isWord_59 (by decide) ?_
        refine xr_goto (tgt := 64) C dX10_isWord_60 (by decide) ?_
        refine xr_lv [0, 1, 2, 4] rfl ?_
        exact ebX10_isWord_64 C H0 ih22 q hf
theorem ebX10_isWord_22 {g : Cfg} (C : Cx g RX10 cX10_isWord 5 0 0 0 0) {h : Shp} (H0 : MAt h) {r1 : Int32} {o1 : Mem} (q : QI g (some Jvm.ClassFile.FieldType.boolean) 0 0 r1 (o1, h)) : ∀ (fu : Nat) {I0 : Mem} {l1 : Int32} {l2 : Int32} {l3 : Int32} {l4 : Int32} (hf : fnX10_isWord_22 fu I0 l1 l2 l3 l4 = some (r1, o1)), XE g 0 0 (I0, h) 22 [(0, rf g 111), (1, .int l1), (2, .int l2), (3, .int l3), (4, .int l4)] [] := by
  intro fu
  induction fu with
  | zero =>
    intro I0 l1 l2 l3 l4 hf
    cases hf
  | succ fu ihn =>
    intro I0 l1 l2 l3 l4 hf
    exact ebX10_isWord_22b C H0 q (fun _ _ _ _ _ hf => ihn hf) hf
def fnX10_isWord_18 (I0 : Mem) (l1 : Int32) (l2 : Int32) (t0 : Int32) : Option (Int32 × Mem) :=
  fnX10_isWord_22 FU I0 l1 l2 t0 0
set_option maxRecDepth 20000 in
set_option maxHeartbeats 2000000 in
theorem ebX10_isWord_18 {g : Cfg} (C : Cx g RX10 cX10_isWord 5 0 0 0 0) {h : Shp} (H0 : MAt h) {r1 : Int32} {o1 : Mem} (q : QI g (some Jvm.ClassFile.FieldType.boolean) 0 0 r1 (o1, h)) {I0 : Mem} {l1 : Int32} {l2 : Int32} {t0 : Int32} (hf : fnX10_isWord_18 I0 l1 l2 t0 = some (r1, o1)) : XE g 0 0 (I0, h) 18 [(0, rf g 111), (1, .int l1), (2, .int l2)] [.int t0] := by
  unfold fnX10_isWord_18 at hf
  refine xr_istore_n C dX10_isWord_18 rfl (by decide) rfl ?_
  refine xr_iconst (v := 0) C dX10_isWord_19 (by decide) ?_
  refine xr_istore C dX10_isWord_20 (by decide) rfl ?_
  refine xr_lv [2, 3, 4, 1, 0] rfl ?_
  exact ebX10_isWord_22 C H0 q _ hf
def fnX10_isWord (I0 : Mem) (p1 : Int32) (p2 : Int32) : Option (Int32 × Mem) :=
  if ((I0 111 14) - (I0 111 13)) = p2 then (fnX10_isWord_18 I0 p1 p2 1) else (fnX10_isWord_18 I0 p1 p2 0)
set_option maxRecDepth 20000 in
set_option maxHeartbeats 2000000 in
theorem ebX10_isWord_0 {g : Cfg} (C : Cx g RX10 cX10_isWord 5 0 0 0 0) {h : Shp} (H0 : MAt h) {r1 : Int32} {o1 : Mem} (q : QI g (some Jvm.ClassFile.FieldType.boolean) 0 0 r1 (o1, h)) {I0 : Mem} {p1 : Int32} {p2 : Int32} (hf : fnX10_isWord I0 p1 p2 = some (r1, o1)) : XE g 0 0 (I0, h) 0 [(0, rf g 111), (1, .int p1), (2, .int p2)] [] := by
  unfold fnX10_isWord at hf
  refine xr_aload_n C dX10_isWord_0 0 rfl rfl ?_
  refine xr_geti C Kd10 (k := 14) (by decide) rfl wk_835 rfl H0.1 dX10_isWord_1 ?_
  refine xr_aload_n C dX10_isWord_4 0 rfl rfl ?_
  refine xr_geti C Kd10 (k := 13) (by decide) rfl wk_834 rfl H0.1 dX10_isWord_5 ?_
  refine xr_isub C dX10_isWord_8 ?_
  refine xr_iload_n C dX10_isWord_9 2 rfl rfl ?_
  refine xr_icmp_ne (tgt := 17) C dX10_isWord_10 (by decide) hf (fun c1 hf => ?_) (fun c1 hf => ?_)
  · refine xr_iconst (v := 0) C dX10_isWord_17 (by decide) ?_
    exact ebX10_isWord_18 C H0 q hf
  · refine xr_iconst (v := 1) C dX10_isWord_13 (by decide) ?_
    refine xr_goto (tgt := 18) C dX10_isWord_14 (by decide) ?_
    exact ebX10_isWord_18 C H0 q hf
theorem kX10_isWord {B : Bs} {h : Shp} (H0 : MAt h) {I0 : Mem} {p1 : Int32} {p2 : Int32} {r1 : Int32} {o1 : Mem} (hf : fnX10_isWord I0 p1 p2 = some (r1, o1)) : CtrI B yX10_isWord cX10_isWord 5 (some Jvm.ClassFile.FieldType.boolean) 0 0 0 0 [rfB B 111, .int p1, .int p2] (I0, h) r1 (o1, h) := by
  refine xr_enterI (lv0 := [(0, rfB B 111), (1, .int p1), (2, .int p2)]) (by decide) (Nat.le_of_ble_eq_true rfl) rfl (fun g hg C q => ?_)
  subst hg
  exact ebX10_isWord_0 C H0 q hf
theorem dX10_isRighter_0 : decode cX10_isRighter 0 = .ok (.aload_n 0, 1) := by decide +kernel
theorem dX10_isRighter_1 : decode cX10_isRighter 1 = .ok (.getfield 87, 3) := by decide +kernel
theorem dX10_isRighter_4 : decode cX10_isRighter 4 = .ok (.aload_n 0, 1) := by decide +kernel
theorem dX10_isRighter_5 : decode cX10_isRighter 5 = .ok (.getfield 81, 3) := by decide +kernel
theorem dX10_isRighter_8 : decode cX10_isRighter 8 = .ok (.isub, 1) := by decide +kernel
theorem dX10_isRighter_9 : decode cX10_isRighter 9 = .ok (.bipush 7, 2) := by decide +kernel
theorem dX10_isRighter_11 : decode cX10_isRighter 11 = .ok (.if_icmp .ne 24, 3) := by decide +kernel
theorem dX10_isRighter_14 : decode cX10_isRighter 14 = .ok (.aload_n 0, 1) := by decide +kernel
theorem dX10_isRighter_15 : decode cX10_isRighter 15 = .ok (.getfield 16, 3) := by decide +kernel
theorem dX10_isRighter_18 : decode cX10_isRighter 18 = .ok (.aload_n 0, 1) := by decide +kernel
theorem dX10_isRighter_19 : decode cX10_isRighter 19 = .ok (.getfield 81, 3) := by decide +kernel
theorem dX10_isRighter_22 : decode cX10_isRighter 22 = .ok (.bipush 6, 2) := by decide +kernel
theorem dX10_isRighter_24 : decode cX10_isRighter 24 = .ok (.iadd, 1) := by decide +kernel
theorem dX10_isRighter_25 : decode cX10_isRighter 25 = .ok (.iaload, 1) := by decide +kernel
theorem dX10_isRighter_26 : decode cX10_isRighter 26 = .ok (.bipush 114, 2) := by decide +kernel
theorem dX10_isRighter_28 : decode cX10_isRighter 28 = .ok (.if_icmp .ne 7, 3) := by decide +kernel
theorem dX10_isRighter_31 : decode cX10_isRighter 31 = .ok (.iconst 1, 1) := by decide +kernel
theorem dX10_isRighter_32 : decode cX10_isRighter 32 = .ok (.goto 4, 3) := by decide +kernel
theorem dX10_isRighter_35 : decode cX10_isRighter 35 = .ok (.iconst 0, 1) := by decide +kernel
theorem dX10_isRighter_36 : decode cX10_isRighter 36 = .ok (.istore_n 1, 1) := by decide +kernel
theorem dX10_isRighter_37 : decode cX10_isRighter 37 = .ok (.iconst 0, 1) := by decide +kernel
theorem dX10_isRighter_38 : decode cX10_isRighter 38 = .ok (.istore_n 2, 1) := by decide +kernel
theorem dX10_isRighter_39 : decode cX10_isRighter 39 = .ok (.iload_n 1, 1) := by decide +kernel
theorem dX10_isRighter_40 : decode cX10_isRighter 40 = .ok (.ifCond .eq 47, 3) := by decide +kernel
theorem dX10_isRighter_43 : decode cX10_isRighter 43 = .ok (.iload_n 2, 1) := by decide +kernel
theorem dX10_isRighter_44 : decode cX10_isRighter 44 = .ok (.bipush 6, 2) := by decide +kernel
theorem dX10_isRighter_46 : decode cX10_isRighter 46 = .ok (.if_icmp .ge 41, 3) := by decide +kernel
theorem dX10_isRighter_49 : decode cX10_isRighter 49 = .ok (.aload_n 0, 1) := by decide +kernel
theorem dX10_isRighter_50 : decode cX10_isRighter 50 = .ok (.getfield 16, 3) := by decide +kernel
theorem dX10_isRighter_53 : decode cX10_isRighter 53 = .ok (.aload_n 0, 1) := by decide +kernel
theorem dX10_isRighter_54 : decode cX10_isRighter 54 = .ok (.getfield 81, 3) := by decide +kernel
theorem dX10_isRighter_57 : decode cX10_isRighter 57 = .ok (.iload_n 2, 1) := by decide +kernel
theorem dX10_isRighter_58 : decode cX10_isRighter 58 = .ok (.iadd, 1) := by decide +kernel
theorem dX10_isRighter_59 : decode cX10_isRighter 59 = .ok (.iaload, 1) := by decide +kernel
theorem dX10_isRighter_60 : decode cX10_isRighter 60 = .ok (.bipush 96, 2) := by decide +kernel
theorem dX10_isRighter_62 : decode cX10_isRighter 62 = .ok (.ldc 90, 2) := by decide +kernel
theorem dX10_isRighter_64 : decode cX10_isRighter 64 = .ok (.iconst 5, 1) := by decide +kernel
theorem dX10_isRighter_65 : decode cX10_isRighter 65 = .ok (.iload_n 2, 1) := by decide +kernel
theorem dX10_isRighter_66 : decode cX10_isRighter 66 = .ok (.imul, 1) := by decide +kernel
theorem dX10_isRighter_67 : decode cX10_isRighter 67 = .ok (.ishr, 1) := by decide +kernel
theorem dX10_isRighter_68 : decode cX10_isRighter 68 = .ok (.bipush 31, 2) := by decide +kernel
theorem dX10_isRighter_70 : decode cX10_isRighter 70 = .ok (.iand, 1) := by decide +kernel
theorem dX10_isRighter_71 : decode cX10_isRighter 71 = .ok (.iadd, 1) := by decide +kernel
theorem dX10_isRighter_72 : decode cX10_isRighter 72 = .ok (.if_icmp .ne 7, 3) := by decide +kernel
theorem dX10_isRighter_75 : decode cX10_isRighter 75 = .ok (.iconst 1, 1) := by decide +kernel
theorem dX10_isRighter_76 : decode cX10_isRighter 76 = .ok (.goto 4, 3) := by decide +kernel
theorem dX10_isRighter_79 : decode cX10_isRighter 79 = .ok (.iconst 0, 1) := by decide +kernel
theorem dX10_isRighter_80 : decode cX10_isRighter 80 = .ok (.istore_n 1, 1) := by decide +kernel
theorem dX10_isRighter_81 : decode cX10_isRighter 81 = .ok (.iinc 2 1, 3) := by decide +kernel
theorem dX10_isRighter_84 : decode cX10_isRighter 84 = .ok (.goto (-45), 3) := by decide +kernel
theorem dX10_isRighter_87 : decode cX10_isRighter 87 = .ok (.iload_n 1, 1) := by decide +kernel
theorem dX10_isRighter_88 : decode cX10_isRighter 88 = .ok (.ireturn, 1) := by decide +kernel
/-! BumperBallsModel.isRighter()Z -/
def fnX10_isRighter_87 (I0 : Mem) (l1 : Int32) : Option (Int32 × Mem) :=
  ck (zb l1) <| some (l1, I0)
set_option maxRecDepth 20000 in
set_option maxHeartbeats 2000000 in
theorem ebX10_isRighter_87 {g : Cfg} (C : Cx g RX10 cX10_isRighter 3 0 0 0 0) {h : Shp} (H0 : MAt h) {r1 : Int32} {o1 : Mem} (q : QI g (some Jvm.ClassFile.FieldType.boolean) 0 0 r1 (o1, h)) {I0 : Mem} {l1 : Int32} (hf : fnX10_isRighter_87 I0 l1 = some (r1, o1)) : XE g 0 0 (I0, h) 87 [(1, .int l1)] [] := by
  unfold fnX10_isRighter_87 at hf
  refine xr_iload_n C dX10_isRighter_87 0 rfl rfl ?_
  obtain ⟨z1, hf⟩ := ck_x hf
  exact xr_ireturn C q rfl (zb_ok z1).1 dX10_isRighter_88 (so_1 hf) (so_w hf)
def fnX10_isRighter_80 (rec39 : Mem → Int32 → Int32 → Option (Int32 × Mem)) (I0 : Mem) (l2 : Int32) (t0 : Int32) : Option (Int32 × Mem) :=
  bnd (l2 + 1) fun v1 => rec39 I0 t0 v1
set_option maxRecDepth 20000 in
set_option maxHeartbeats 2000000 in
theorem ebX10_isRighter_80 {g : Cfg} (C : Cx g RX10 cX10_isRighter 3 0 0 0 0) {h : Shp} (H0 : MAt h) {r1 : Int32} {o1 : Mem} {rec39 : Mem → Int32 → Int32 → Option (Int32 × Mem)} (ih39 : ∀ (I0 : Mem) (l1 : Int32) (l2 : Int32), rec39 I0 l1 l2 = some (r1, o1) → XE g 0 0 (I0, h) 39 [(0, rf g 111), (1, .int l1), (2, .int l2)] []) (q : QI g (some Jvm.ClassFile.FieldType.boolean) 0 0 r1 (o1, h)) {I0 : Mem} {l2 : Int32} {t0 : Int32} (hf : fnX10_isRighter_80 rec39 I0 l2 t0 = some (r1, o1)) : XE g 0 0 (I0, h) 80 [(0, rf g 111), (2, .int l2)] [.int t0] := by
  unfold fnX10_isRighter_80 at hf
  refine xr_istore_n C dX10_isRighter_80 rfl (by decide) rfl ?_
  obtain ⟨v1, ev1, hf⟩ := bnd_x hf
  refine xr_iinc (k := 2) (v := v1) C dX10_isRighter_81 rfl (by rw [ev1]; rfl) (by decide) rfl ?_
  refine xr_goto (tgt := 39) C dX10_isRighter_84 (by decide) ?_
  refine xr_lv [2, 1, 0] rfl ?_
  exact ih39 _ _ _ hf
def fnX10_isRighter_39b (rec39 : Mem → Int32 → Int32 → Option (Int32 × Mem)) (I0 : Mem) (l1 : Int32) (l2 : Int32) : Option (Int32 × Mem) :=
  if l1 = 0 then (fnX10_isRighter_87 I0 l1) else (if 6 ≤ l2 then (fnX10_isRighter_87 I0 l1) else (ck (inb ((I0 111 13) + l2) 400) <| if (I0 114 (ix ((I0 111 13) + l2))) = ((96 : Int32) + (((189013298 : Int32) >>> (((5 : Int32) * l2) &&& 31)) &&& 31)) then (fnX10_isRighter_80 rec39 I0 l2 1) else (fnX10_isRighter_80 rec39 I0 l2 0)))
def fnX10_isRighter_39 : Nat → Mem → Int32 → Int32 → Option (Int32 × Mem)
  | 0 => fun _ _ _ => none
  | fu + 1 => fnX10_isRighter_39b (fnX10_isRighter_39 fu)
set_option maxRecDepth 20000 in
set_option maxHeartbeats 2000000 in
theorem ebX10_isRighter_39b {g : Cfg} (C : Cx g RX10 cX10_isRighter 3 0 0 0 0) {h : Shp} (H0 : MAt h) {r1 : Int32} {o1 : Mem} {rec39 : Mem → Int32 → Int32 → Option (Int32 × Mem)} (q : QI g (some Jvm.ClassFile.FieldType.boolean) 0 0 r1 (o1, h)) (ih39 : ∀ (I0 : Mem) (l1 : Int32) (l2 : Int32), rec39 I0 l1 l2 = some (r1, o1) → XE g 0 0 (I0, h) 39 [(0, rf g 111), (1, .int l1), (2, .int l2)] []) {I0 : Mem} {l1 : Int32} {l2 : Int32} (hf : fnX10_isRighter_39b rec39 I0 l1 l2 = some (r1, o1)) : XE g 0 0 (I0, h) 39 [(0, rf g 111), (1, .int l1), (2, .int l2)] [] := by
  unfold fnX10_isRighter_39b at hf
  refine xr_iload_n C dX10_isRighter_39 1 rfl rfl ?_
  refine xr_if_eq (tgt := 87) C dX10_isRighter_40 (by decide) hf (fun c1 hf => ?_) (fun c1 hf => ?_)
  · refine xr_lv [1] rfl ?_
    exact ebX10_isRighter_87 C H0 q hf
  · refine xr_iload_n C dX10_isRighter_43 2 rfl rfl ?_
    refine xr_bipush (v := 6) C dX10_isRighter_44 (by decide) ?_
    refine xr_icmp_ge (tgt := 87) C dX10_isRighter_46 (by decide) hf (fun c2 hf => ?_) (fun c2 hf => ?_)
    · refine xr_lv [1] rfl ?_
      exact ebX10_isRighter_87 C H0 q hf
    · refine xr_aload_n C dX10_isRighter_49 0 rfl rfl ?_
      refine xr_getr C Kd10 (k := 3) (by decide) rfl wk_824 rfl H0.1 H0.2.2.2.1.1 dX10_isRighter_50 ?_
      refine xr_aload_n C dX10_isRighter_53 0 rfl rfl ?_
      refine xr_geti C Kd10 (k := 13) (by decide) rfl wk_834 rfl H0.1 dX10_isRighter_54 ?_
      refine xr_iload_n C dX10_isRighter_57 2 rfl rfl ?_
      refine xr_iadd C dX10_isRighter_58 ?_
      obtain ⟨i3, hf⟩ := ck_x hf
      refine xr_iald C H0.2.2.2.1.2 i3 dX10_isRighter_59 ?_
      refine xr_bipush (v := 96) C dX10_isRighter_60 (by decide) ?_
      refine xr_ldc C wk_986 dX10_isRighter_62 ?_
      refine xr_iconst (v := 5) C dX10_isRighter_64 (by decide) ?_
      refine xr_iload_n C dX10_isRighter_65 2 rfl rfl ?_
      refine xr_imul C dX10_isRighter_66 ?_
      refine xr_ishr C dX10_isRighter_67 ?_
      refine xr_bipush (v := 31) C dX10_isRighter_68 (by decide) ?_
      refine xr_iand C dX10_isRighter_70 ?_
      refine xr_iadd C dX10_isRighter_71 ?_
      refine xr_icmp_ne (tgt := 79) C dX10_isRighter_72 (by decide) hf (fun c4 hf => ?_) (fun c4 hf => ?_)
      · refine xr_iconst (v := 0) C dX10_isRighter_79 (by decide) ?_
        refine xr_lv [0, 2] rfl ?_
        exact ebX10_isRighter_80 C H0 ih39 q hf
      · refine xr_iconst (v := 1) C dX10_isRighter_75 (by decide) ?_
        refine xr_goto (tgt := 80) C dX10_isRighter_76 (by decide) ?_
        refine xr_lv [0, 2] rfl ?_
        exact ebX10_isRighter_80 C H0 ih39 q hf
theorem ebX10_isRighter_39 {g : Cfg} (C : Cx g RX10 cX10_isRighter 3 0 0 0 0) {h : Shp} (H0 : MAt h) {r1 : Int32} {o1 : Mem} (q : QI g (some Jvm.ClassFile.FieldType.boolean) 0 0 r1 (o1, h)) : ∀ (fu : Nat) {I0 : Mem} {l1 : Int32} {l2 : Int32} (hf : fnX10_isRighter_39 fu I0 l1 l2 = some (r1, o1)), XE g 0 0 (I0, h) 39 [(0, rf g 111), (1, .int l1), (2, .int l2)] [] := by
  intro fu
  induction fu with
  | zero =>
    intro I0 l1 l2 hf
    cases hf
  | succ fu ihn =>
    intro I0 l1 l2 hf
    exact ebX10_isRighter_39b C H0 q (fun _ _ _ hf => ihn hf) hf
def fnX10_isRighter_36 (I0 : Mem) (t0 : Int32) : Option (Int32 × Mem) :=
  fnX10_isRighter_39 FU I0 t0 0
set_option maxRecDepth 20000 in
set_option maxHeartbeats 2000000 in
theorem ebX10_isRighter_36 {g : Cfg} (C : Cx g RX10 cX10_isRighter 3 0 0 0 0) {h : Shp} (H0 : MAt h) {r1 : Int32} {o1 : Mem} (q : QI g (some Jvm.ClassFile.FieldType.boolean) 0 0 r1 (o1, h)) {I0 : Mem} {t0 : Int32} (hf : fnX10_isRighter_36 I0 t0 = some (r1, o1)) : XE g 0 0 (I0, h) 36 [(0, rf g 111)] [.int t0] := by
  unfold fnX10_isRighter_36 at hf
  refine xr_istore_n C dX10_isRighter_36 rfl (by decide) rfl ?_
  refine xr_iconst (v := 0) C dX10_isRighter_37 (by decide) ?_
  refine xr_istore_n C dX10_isRighter_38 rfl (by decide) rfl ?_
  refine xr_lv [2, 1, 0] rfl ?_
  exact ebX10_isRighter_39 C H0 q _ hf
def fnX10_isRighter_35 (I0 : Mem) : Option (Int32 × Mem) :=
  fnX10_isRighter_36 I0 0
set_option maxRecDepth 20000 in
set_option maxHeartbeats 2000000 in
theorem ebX10_isRighter_35 {g : Cfg} (C : Cx g RX10 cX10_isRighter 3 0 0 0 0) {h : Shp} (H0 : MAt h) {r1 : Int32} {o1 : Mem} (q : QI g (some Jvm.ClassFile.FieldType.boolean) 0 0 r1 (o1, h)) {I0 : Mem} (hf : fnX10_isRighter_35 I0 = some (r1, o1)) : XE g 0 0 (I0, h) 35 [(0, rf g 111)] [] := by
  unfold fnX10_isRighter_35 at hf
  refine xr_iconst (v := 0) C dX10_isRighter_35 (by decide) ?_
  exact ebX10_isRighter_36 C H0 q hf
def fnX10_isRighter (I0 : Mem) : Option (Int32 × Mem) :=
  if ((I0 111 14) - (I0 111 13)) = 7 then (ck (inb ((I0 111 13) + 6) 400) <| if (I0 114 (ix ((I0 111 13) + 6))) = 114 then (fnX10_isRighter_36 I0 1) else (fnX10_isRighter_35 I0)) else (fnX10_isRighter_35 I0)
set_option maxRecDepth 20000 in
set_option maxHeartbeats 2000000 in
theorem ebX10_isRighter_0 {g : Cfg} (C : Cx g RX10 cX10_isRighter 3 0 0 0 0) {h : Shp} (H0 : MAt h) {r1 : Int32} {o1 : Mem} (q : QI g (some Jvm.ClassFile.FieldType.boolean) 0 0 r1 (o1, h)) {I0 : Mem} (hf : fnX10_isRighter I0 = some (r1, o1)) : XE g 0 0 (I0, h) 0 [(0, rf g 111)] [] := by
  unfold fnX10_isRighter at hf
  refine xr_aload_n C dX10_isRighter_0 0 rfl rfl ?_
  refine xr_geti C Kd10 (k := 14) (by decide) rfl wk_835 rfl H0.1 dX10_isRighter_1 ?_
  refine xr_aload_n C dX10_isRighter_4 0 rfl rfl ?_
  refine xr_geti C Kd10 (k := 13) (by decide) rfl wk_834 rfl H0.1 dX10_isRighter_5 ?_
  refine xr_isub C dX10_isRighter_8 ?_
  refine xr_bipush (v := 7) C dX10_isRighter_9 (by decide) ?_
  refine xr_icmp_ne (tgt := 35) C dX10_isRighter_11 (by decide) hf (fun c1 hf => ?_) (fun c1 hf => ?_)
  · exact ebX10_isRighter_35 C H0 q hf
  · refine xr_aload_n C dX10_isRighter_14 0 rfl rfl ?_
    refine xr_getr C Kd10 (k := 3) (by decide) rfl wk_824 rfl H0.1 H0.2.2.2.1.1 dX10_isRighter_15 ?_
    refine xr_aload_n C dX10_isRighter_18 0 rfl rfl ?_
    refine xr_geti C Kd10 (k := 13) (by decide) rfl wk_834 rfl H0.1 dX10_isRighter_19 ?_
    refine xr_bipush (v := 6) C dX10_isRighter_22 (by decide) ?_
    refine xr_iadd C dX10_isRighter_24 ?_
    obtain ⟨i2, hf⟩ := ck_x hf
    refine xr_iald C H0.2.2.2.1.2 i2 dX10_isRighter_25 ?_
    refine xr_bipush (v := 114) C dX10_isRighter_26 (by decide) ?_
    refine xr_icmp_ne (tgt := 35) C dX10_isRighter_28 (by decide) hf (fun c3 hf => ?_) (fun c3 hf => ?_)
    · exact ebX10_isRighter_35 C H0 q hf
    · refine xr_iconst (v := 1) C dX10_isRighter_31 (by decide) ?_
      refine xr_goto (tgt := 36) C dX10_isRighter_32 (by decide) ?_
      exact ebX10_isRighter_36 C H0 q hf
theorem kX10_isRighter {B : Bs} {h : Shp} (H0 : MAt h) {I0 : Mem} {r1 : Int32} {o1 : Mem} (hf : fnX10_isRighter I0 = some (r1, o1)) : CtrI B yX10_isRighter cX10_isRighter 3 (some Jvm.ClassFile.FieldType.boolean) 0 0 0 0 [rfB B 111] (I0, h) r1 (o1, h) := by
  refine xr_enterI (lv0 := [(0, rfB B 111)]) (by decide) (Nat.le_of_ble_eq_true rfl) rfl (fun g hg C q => ?_)
  subst hg
  exact ebX10_isRighter_0 C H0 q hf
theorem dX10_sortOfWord_0 : decode cX10_sortOfWord 0 = .ok (.aload_n 0, 1) := by decide +kernel
theorem dX10_sortOfWord_1 : decode cX10_sortOfWord 1 = .ok (.ldc 91, 2) := by decide +kernel
theorem dX10_sortOfWord_3 : decode cX10_sortOfWord 3 = .ok (.bipush 6, 2) := by decide +kernel
theorem dX10_sortOfWord_5 : decode cX10_sortOfWord 5 = .ok (.invokevirtual 92, 3) := by decide +kernel
theorem dX10_sortOfWord_8 : decode cX10_sortOfWord 8 = .ok (.ifCond .eq 7, 3) := by decide +kernel
theorem dX10_sortOfWord_11 : decode cX10_sortOfWord 11 = .ok (.iconst 1, 1) := by decide +kernel
theorem dX10_sortOfWord_12 : decode cX10_sortOfWord 12 = .ok (.goto 59, 3) := by decide +kernel
theorem dX10_sortOfWord_15 : decode cX10_sortOfWord 15 = .ok (.aload_n 0, 1) := by decide +kernel
theorem dX10_sortOfWord_16 : decode cX10_sortOfWord 16 = .ok (.ldc 96, 2) := by decide +kernel
theorem dX10_sortOfWord_18 : decode cX10_sortOfWord 18 = .ok (.bipush 6, 2) := by decide +kernel
theorem dX10_sortOfWord_20 : decode cX10_sortOfWord 20 = .ok (.invokevirtual 92, 3) := by decide +kernel
theorem dX10_sortOfWord_23 : decode cX10_sortOfWord 23 = .ok (.ifCond .eq 7, 3) := by decide +kernel
theorem dX10_sortOfWord_26 : decode cX10_sortOfWord 26 = .ok (.iconst 2, 1) := by decide +kernel
theorem dX10_sortOfWord_27 : decode cX10_sortOfWord 27 = .ok (.goto 44, 3) := by decide +kernel
theorem dX10_sortOfWord_30 : decode cX10_sortOfWord 30 = .ok (.aload_n 0, 1) := by decide +kernel
theorem dX10_sortOfWord_31 : decode cX10_sortOfWord 31 = .ok (.invokevirtual 97, 3) := by decide +kernel
theorem dX10_sortOfWord_34 : decode cX10_sortOfWord 34 = .ok (.ifCond .eq 7, 3) := by decide +kernel
theorem dX10_sortOfWord_37 : decode cX10_sortOfWord 37 = .ok (.iconst 3, 1) := by decide +kernel
theorem dX10_sortOfWord_38 : decode cX10_sortOfWord 38 = .ok (.goto 33, 3) := by decide +kernel
theorem dX10_sortOfWord_41 : decode cX10_sortOfWord 41 = .ok (.aload_n 0, 1) := by decide +kernel
theorem dX10_sortOfWord_42 : decode cX10_sortOfWord 42 = .ok (.ldc 101, 2) := by decide +kernel
theorem dX10_sortOfWord_44 : decode cX10_sortOfWord 44 = .ok (.iconst 4, 1) := by decide +kernel
theorem dX10_sortOfWord_45 : decode cX10_sortOfWord 45 = .ok (.invokevirtual 92, 3) := by decide +kernel
theorem dX10_sortOfWord_48 : decode cX10_sortOfWord 48 = .ok (.ifCond .eq 7, 3) := by decide +kernel
theorem dX10_sortOfWord_51 : decode cX10_sortOfWord 51 = .ok (.iconst 4, 1) := by decide +kernel
theorem dX10_sortOfWord_52 : decode cX10_sortOfWord 52 = .ok (.goto 19, 3) := by decide +kernel
theorem dX10_sortOfWord_55 : decode cX10_sortOfWord 55 = .ok (.aload_n 0, 1) := by decide +kernel
theorem dX10_sortOfWord_56 : decode cX10_sortOfWord 56 = .ok (.ldc 102, 2) := by decide +kernel
theorem dX10_sortOfWord_58 : decode cX10_sortOfWord 58 = .ok (.iconst 4, 1) := by decide +kernel
theorem dX10_sortOfWord_59 : decode cX10_sortOfWord 59 = .ok (.invokevirtual 92, 3) := by decide +kernel
theorem dX10_sortOfWord_62 : decode cX10_sortOfWord 62 = .ok (.ifCond .eq 7, 3) := by decide +kernel
theorem dX10_sortOfWord_65 : decode cX10_sortOfWord 65 = .ok (.iconst 5, 1) := by decide +kernel
theorem dX10_sortOfWord_66 : decode cX10_sortOfWord 66 = .ok (.goto 5, 3) := by decide +kernel
theorem dX10_sortOfWord_69 : decode cX10_sortOfWord 69 = .ok (.ldc 19, 2) := by decide +kernel
theorem dX10_sortOfWord_71 : decode cX10_sortOfWord 71 = .ok (.ireturn, 1) := by decide +kernel
theorem lkX10_92 : LkV "BumperBallsModel" 92 yX10_isWord cX10_isWord 5 (some Jvm.ClassFile.FieldType.boolean) 2 := ⟨wk_955, wk_11, wk_954, wk_s68, ⟨by decide +kernel, by decide +kernel, by decide +kernel⟩, wk_952⟩
theorem lkX10_97 : LkV "BumperBallsModel" 97 yX10_isRighter cX10_isRighter 3 (some Jvm.ClassFile.FieldType.boolean) 0 := ⟨wk_985, wk_11, wk_984, wk_s75, ⟨by decide +kernel, by decide +kernel, by decide +kernel⟩, wk_982⟩
/-! BumperBallsModel.sortOfWord()I -/
def fnX10_sortOfWord_71 (I0 : Mem) (t0 : Int32) : Option (Int32 × Mem) :=
  some (t0, I0)
set_option maxRecDepth 20000 in
set_option maxHeartbeats 2000000 in
theorem ebX10_sortOfWord_71 {g : Cfg} (C : Cx g RX10 cX10_sortOfWord 1 1 24 0 0) {h : Shp} (H0 : MAt h) {r1 : Int32} {o1 : Mem} (q : QI g (some Jvm.ClassFile.FieldType.int) 0 0 r1 (o1, h)) {I0 : Mem} {t0 : Int32} (hf : fnX10_sortOfWord_71 I0 t0 = some (r1, o1)) : XE g 0 0 (I0, h) 71 [] [.int t0] := by
  unfold fnX10_sortOfWord_71 at hf
  exact xr_ireturn C q rfl rfl dX10_sortOfWord_71 (so_1 hf) (so_w hf)
def fnX10_sortOfWord (I0 : Mem) : Option (Int32 × Mem) :=
  ob (fnX10_isWord I0 609760930 6) fun ⟨r3, I2⟩ => if r3 = 0 then (ob (fnX10_isWord I2 609884332 6) fun ⟨r7, I6⟩ => if r7 = 0 then (ob (fnX10_isRighter I6) fun ⟨r11, I10⟩ => if r11 = 0 then (ob (fnX10_isWord I10 537644 4) fun ⟨r15, I14⟩ => if r15 = 0 then (ob (fnX10_isWord I14 184359 4) fun ⟨r19, I18⟩ => if r19 = 0 then (fnX10_sortOfWord_71 I18 (-1000000)) else (fnX10_sortOfWord_71 I18 5)) else (fnX10_sortOfWord_71 I14 4)) else (fnX10_sortOfWord_71 I10 3)) else (fnX10_sortOfWord_71 I6 2)) else (fnX10_sortOfWord_71 I2 1)
set_option maxRecDepth 20000 in
set_option maxHeartbeats 2000000 in
theorem ebX10_sortOfWord_0 {g : Cfg} (C : Cx g RX10 cX10_sortOfWord 1 1 24 0 0) {h : Shp} (H0 : MAt h) {r1 : Int32} {o1 : Mem} (q : QI g (some Jvm.ClassFile.FieldType.int) 0 0 r1 (o1, h)) {I0 : Mem} (hf : fnX10_sortOfWord I0 = some (r1, o1)) : XE g 0 0 (I0, h) 0 [(0, rf g 111)] [] := by
  unfold fnX10_sortOfWord at hf
  refine xr_aload_n C dX10_sortOfWord_0 0 rfl rfl ?_
  refine xr_ldc C wk_980 dX10_sortOfWord_1 ?_
  refine xr_bipush (v := 6) C dX10_sortOfWord_3 (by decide) ?_
  obtain ⟨⟨r3, I2⟩, h1, hf⟩ := ob_x hf
  refine xr_callVI C [.int 609760930, .int 6] lkX10_92 (kX10_isWord H0 h1) Kd10 rfl H0.1 rfl (Nat.le_of_ble_eq_true rfl) rfl dX10_sortOfWord_5 ⟨by decide, by decide, by decide⟩ rfl ?_
  refine xr_if_eq (tgt := 15) C dX10_sortOfWord_8 (by decide) hf (fun c4 hf => ?_) (fun c4 hf => ?_)
  · refine xr_aload_n C dX10_sortOfWord_15 0 rfl rfl ?_
    refine xr_ldc C wk_981 dX10_sortOfWord_16 ?_
    refine xr_bipush (v := 6) C dX10_sortOfWord_18 (by decide) ?_
    obtain ⟨⟨r7, I6⟩, h5, hf⟩ := ob_x hf
    refine xr_callVI C [.int 609884332, .int 6] lkX10_92 (kX10_isWord H0 h5) Kd10 rfl H0.1 rfl (Nat.le_of_ble_eq_true rfl) rfl dX10_sortOfWord_20 ⟨by decide, by decide, by decide⟩ rfl ?_
    refine xr_if_eq (tgt := 30) C dX10_sortOfWord_23 (by decide) hf (fun c8 hf => ?_) (fun c8 hf => ?_)
    · refine xr_aload_n C dX10_sortOfWord_30 0 rfl rfl ?_
      obtain ⟨⟨r11, I10⟩, h9, hf⟩ := ob_x hf
      refine xr_callVI C [] lkX10_97 (kX10_isRighter H0 h9) Kd10 rfl H0.1 rfl (Nat.le_of_ble_eq_true rfl) rfl dX10_sortOfWord_31 ⟨by decide, by decide, by decide⟩ rfl ?_
      refine xr_if_eq (tgt := 41) C dX10_sortOfWord_34 (by decide) hf (fun c12 hf => ?_) (fun c12 hf => ?_)
      · refine xr_aload_n C dX10_sortOfWord_41 0 rfl rfl ?_
        refine xr_ldc C wk_987 dX10_sortOfWord_42 ?_
        refine xr_iconst (v := 4) C dX10_sortOfWord_44 (by decide) ?_
        obtain ⟨⟨r15, I14⟩, h13, hf⟩ := ob_x hf
        refine xr_callVI C [.int 537644, .int 4] lkX10_92 (kX10_isWord H0 h13) Kd10 rfl H0.1 rfl (Nat.le_of_ble_eq_true rfl) rfl dX10_sortOfWord_45 ⟨by decide, by decide, by decide⟩ rfl ?_
        refine xr_if_eq (tgt := 55) C dX10_sortOfWord_48 (by decide) hf (fun c16 hf => ?_) (fun c16 hf => ?_)
        · refine xr_aload_n C dX10_sortOfWord_55 0 rfl rfl ?_
          refine xr_ldc C wk_988 dX10_sortOfWord_56 ?_
          refine xr_iconst (v := 4) C dX10_sortOfWord_58 (by decide) ?_
          obtain ⟨⟨r19, I18⟩, h17, hf⟩ := ob_x hf
          refine xr_callVI C [.int 184359, .int 4] lkX10_92 (kX10_isWord H0 h17) Kd10 rfl H0.1 rfl (Nat.le_of_ble_eq_true rfl) rfl dX10_sortOfWord_59 ⟨by decide, by decide, by decide⟩ rfl ?_
          refine xr_if_eq (tgt := 69) C dX10_sortOfWord_62 (by decide) hf (fun c20 hf => ?_) (fun c20 hf => ?_)
          · refine xr_ldc C wk_820 dX10_sortOfWord_69 ?_
            refine xr_lv [] rfl ?_
            exact ebX10_sortOfWord_71 C H0 q hf
          · refine xr_iconst (v := 5) C dX10_sortOfWord_65 (by decide) ?_
            refine xr_goto (tgt := 71) C dX10_sortOfWord_66 (by decide) ?_
            refine xr_lv [] rfl ?_
            exact ebX10_sortOfWord_71 C H0 q hf
        · refine xr_iconst (v := 4) C dX10_sortOfWord_51 (by decide) ?_
          refine xr_goto (tgt := 71) C dX10_sortOfWord_52 (by decide) ?_
          refine xr_lv [] rfl ?_
          exact ebX10_sortOfWord_71 C H0 q hf
      · refine xr_iconst (v := 3) C dX10_sortOfWord_37 (by decide) ?_
        refine xr_goto (tgt := 71) C dX10_sortOfWord_38 (by decide) ?_
        refine xr_lv [] rfl ?_
        exact ebX10_sortOfWord_71 C H0 q hf
    · refine xr_iconst (v := 2) C dX10_sortOfWord_26 (by decide) ?_
      refine xr_goto (tgt := 71) C dX10_sortOfWord_27 (by decide) ?_
      refine xr_lv [] rfl ?_
      exact ebX10_sortOfWord_71 C H0 q hf
  · refine xr_iconst (v := 1) C dX10_sortOfWord_11 (by decide) ?_
    refine xr_goto (tgt := 71) C dX10_sortOfWord_12 (by decide) ?_
    refine xr_lv [] rfl ?_
    exact ebX10_sortOfWord_71 C H0 q hf
theorem kX10_sortOfWord {B : Bs} {h : Shp} (H0 : MAt h) {I0 : Mem} {r1 : Int32} {o1 : Mem} (hf : fnX10_sortOfWord I0 = some (r1, o1)) : CtrI B yX10_sortOfWord cX10_sortOfWord 1 (some Jvm.ClassFile.FieldType.int) 1 24 0 0 [rfB B 111] (I0, h) r1 (o1, h) := by
  refine xr_enterI (lv0 := [(0, rfB B 111)]) (by decide) (Nat.le_of_ble_eq_true rfl) rfl (fun g hg C q => ?_)
  subst hg
  exact ebX10_sortOfWord_0 C H0 q hf
theorem dX10_isSign_0 : decode cX10_isSign 0 = .ok (.aload_n 0, 1) := by decide +kernel
theorem dX10_isSign_1 : decode cX10_isSign 1 = .ok (.getfield 81, 3) := by decide +kernel
theorem dX10_isSign_4 : decode cX10_isSign 4 = .ok (.aload_n 0, 1) := by decide +kernel
theorem dX10_isSign_5 : decode cX10_isSign 5 = .ok (.getfield 72, 3) := by decide +kernel
theorem dX10_isSign_8 : decode cX10_isSign 8 = .ok (.if_icmp .ge 21, 3) := by decide +kernel
theorem dX10_isSign_11 : decode cX10_isSign 11 = .ok (.aload_n 0, 1) := by decide +kernel
theorem dX10_isSign_12 : decode cX10_isSign 12 = .ok (.getfield 16, 3) := by decide +kernel
theorem dX10_isSign_15 : decode cX10_isSign 15 = .ok (.aload_n 0, 1) := by decide +kernel
theorem dX10_isSign_16 : decode cX10_isSign 16 = .ok (.getfield 81, 3) := by decide +kernel
theorem dX10_isSign_19 : decode cX10_isSign 19 = .ok (.iaload, 1) := by decide +kernel
theorem dX10_isSign_20 : decode cX10_isSign 20 = .ok (.bipush 59, 2) := by decide +kernel
theorem dX10_isSign_22 : decode cX10_isSign 22 = .ok (.if_icmp .ne 7, 3) := by decide +kernel
theorem dX10_isSign_25 : decode cX10_isSign 25 = .ok (.iconst 1, 1) := by decide +kernel
theorem dX10_isSign_26 : decode cX10_isSign 26 = .ok (.goto 4, 3) := by decide +kernel
theorem dX10_isSign_29 : decode cX10_isSign 29 = .ok (.iconst 0, 1) := by decide +kernel
theorem dX10_isSign_30 : decode cX10_isSign 30 = .ok (.ireturn, 1) := by decide +kernel
/-! BumperBallsModel.isSign()Z -/
def fnX10_isSign_30 (I0 : Mem) (t0 : Int32) : Option (Int32 × Mem) :=
  ck (zb t0) <| some (t0, I0)
set_option maxRecDepth 20000 in
set_option maxHeartbeats 2000000 in
theorem ebX10_isSign_30 {g : Cfg} (C : Cx g RX10 cX10_isSign 1 0 0 0 0) {h : Shp} (H0 : MAt h) {r1 : Int32} {o1 : Mem} (q : QI g (some Jvm.ClassFile.FieldType.boolean) 0 0 r1 (o1, h)) {I0 : Mem} {t0 : Int32} (hf : fnX10_isSign_30 I0 t0 = some (r1, o1)) : XE g 0 0 (I0, h) 30 [] [.int t0] := by
  unfold fnX10_isSign_30 at hf
  obtain ⟨z1, hf⟩ := ck_x hf
  exact xr_ireturn C q rfl (zb_ok z1).1 dX10_isSign_30 (so_1 hf) (so_w hf)
def fnX10_isSign_29 (I0 : Mem) : Option (Int32 × Mem) :=
  fnX10_isSign_30 I0 0
set_option maxRecDepth 20000 in
set_option maxHeartbeats 2000000 in
theorem ebX10_isSign_29 {g : Cfg} (C : Cx g RX10 cX10_isSign 1 0 0 0 0) {h : Shp} (H0 : MAt h) {r1 : Int32} {o1 : Mem} (q : QI g (some Jvm.ClassFile.FieldType.boolean) 0 0 r1 (o1, h)) {I0 : Mem} (hf : fnX10_isSign_29 I0 = some (r1, o1)) : XE g 0 0 (I0, h) 29 [] [] := by
  unfold fnX10_isSign_29 at hf
  refine xr_iconst (v := 0) C dX10_isSign_29 (by decide) ?_
  exact ebX10_isSign_30 C H0 q hf
def fnX10_isSign (I0 : Mem) : Option (Int32 × Mem) :=
  if (I0 111 4) ≤ (I0 111 13) then (fnX10_isSign_29 I0) else (ck (inb (I0 111 13) 400) <| if (I0 114 (ix (I0 111 13))) = 59 then (fnX10_isSign_30 I0 1) else (fnX10_isSign_29 I0))
set_option maxRecDepth 20000 in
set_option maxHeartbeats 2000000 in
theorem ebX10_isSign_0 {g : Cfg} (C : Cx g RX10 cX10_isSign 1 0 0 0 0) {h : Shp} (H0 : MAt h) {r1 : Int32} {o1 : Mem} (q : QI g (some Jvm.ClassFile.FieldType.boolean) 0 0 r1 (o1, h)) {I0 : Mem} (hf : fnX10_isSign I0 = some (r1, o1)) : XE g 0 0 (I0, h) 0 [(0, rf g 111)] [] := by
  unfold fnX10_isSign at hf
  refine xr_aload_n C dX10_isSign_0 0 rfl rfl ?_
  refine xr_geti C Kd10 (k := 13) (by decide) rfl wk_834 rfl H0.1 dX10_isSign_1 ?_
  refine xr_aload_n C dX10_isSign_4 0 rfl rfl ?_
  refine xr_geti C Kd10 (k := 4) (by decide) rfl wk_825 rfl H0.1 dX10_isSign_5 ?_
  refine xr_icmp_ge (tgt := 29) C dX10_isSign_8 (by decide) hf (fun c1 hf => ?_) (fun c1 hf => ?_)
  · refine xr_lv [] rfl ?_
    exact ebX10_isSign_29 C H0 q hf
  · refine xr_aload_n C dX10_isSign_11 0 rfl rfl ?_
    refine xr_getr C Kd10 (k := 3) (by decide) rfl wk_824 rfl H0.1 H0.2.2.2.1.1 dX10_isSign_12 ?_
    refine xr_aload_n C dX10_isSign_15 0 rfl rfl ?_
    refine xr_geti C Kd10 (k := 13) (by decide) rfl wk_834 rfl H0.1 dX10_isSign_16 ?_
    obtain ⟨i2, hf⟩ := ck_x hf
    refine xr_iald C H0.2.2.2.1.2 i2 dX10_isSign_19 ?_
    refine xr_bipush (v := 59) C dX10_isSign_20 (by decide) ?_
    refine xr_icmp_ne (tgt := 29) C dX10_isSign_22 (by decide) hf (fun c3 hf => ?_) (fun c3 hf => ?_)
    · refine xr_lv [] rfl ?_
      exact ebX10_isSign_29 C H0 q hf
    · refine xr_iconst (v := 1) C dX10_isSign_25 (by decide) ?_
      refine xr_goto (tgt := 30) C dX10_isSign_26 (by decide) ?_
      refine xr_lv [] rfl ?_
      exact ebX10_isSign_30 C H0 q hf
theorem kX10_isSign {B : Bs} {h : Shp} (H0 : MAt h) {I0 : Mem} {r1 : Int32} {o1 : Mem} (hf : fnX10_isSign I0 = some (r1, o1)) : CtrI B yX10_isSign cX10_isSign 1 (some Jvm.ClassFile.FieldType.boolean) 0 0 0 0 [rfB B 111] (I0, h) r1 (o1, h) := by
  refine xr_enterI (lv0 := [(0, rfB B 111)]) (by decide) (Nat.le_of_ble_eq_true rfl) rfl (fun g hg C q => ?_)
  subst hg
  exact ebX10_isSign_0 C H0 q hf
theorem dX10_numberHere_0 : decode cX10_numberHere 0 = .ok (.aload_n 0, 1) := by decide +kernel
theorem dX10_numberHere_1 : decode cX10_numberHere 1 = .ok (.getfield 81, 3) := by decide +kernel
theorem dX10_numberHere_4 : decode cX10_numberHere 4 = .ok (.aload_n 0, 1) := by decide +kernel
theorem dX10_numberHere_5 : decode cX10_numberHere 5 = .ok (.getfield 72, 3) := by decide +kernel
theorem dX10_numberHere_8 : decode cX10_numberHere 8 = .ok (.if_icmp .eq 32, 3) := by decide +kernel
theorem dX10_numberHere_11 : decode cX10_numberHere 11 = .ok (.aload_n 0, 1) := by decide +kernel
theorem dX10_numberHere_12 : decode cX10_numberHere 12 = .ok (.getfield 16, 3) := by decide +kernel
theorem dX10_numberHere_15 : decode cX10_numberHere 15 = .ok (.aload_n 0, 1) := by decide +kernel
theorem dX10_numberHere_16 : decode cX10_numberHere 16 = .ok (.getfield 81, 3) := by decide +kernel
theorem dX10_numberHere_19 : decode cX10_numberHere 19 = .ok (.iaload, 1) := by decide +kernel
theorem dX10_numberHere_20 : decode cX10_numberHere 20 = .ok (.invokestatic 84, 3) := by decide +kernel
theorem dX10_numberHere_23 : decode cX10_numberHere 23 = .ok (.iconst 2, 1) := by decide +kernel
theorem dX10_numberHere_24 : decode cX10_numberHere 24 = .ok (.if_icmp .ne 16, 3) := by decide +kernel
theorem dX10_numberHere_27 : decode cX10_numberHere 27 = .ok (.aload_n 0, 1) := by decide +kernel
theorem dX10_numberHere_28 : decode cX10_numberHere 28 = .ok (.getfield 87, 3) := by decide +kernel
theorem dX10_numberHere_31 : decode cX10_numberHere 31 = .ok (.aload_n 0, 1) := by decide +kernel
theorem dX10_numberHere_32 : decode cX10_numberHere 32 = .ok (.getfield 81, 3) := by decide +kernel
theorem dX10_numberHere_35 : decode cX10_numberHere 35 = .ok (.isub, 1) := by decide +kernel
theorem dX10_numberHere_36 : decode cX10_numberHere 36 = .ok (.iconst 3, 1) := by decide +kernel
theorem dX10_numberHere_37 : decode cX10_numberHere 37 = .ok (.if_icmp .le 11, 3) := by decide +kernel
theorem dX10_numberHere_40 : decode cX10_numberHere 40 = .ok (.aload_n 0, 1) := by decide +kernel
theorem dX10_numberHere_41 : decode cX10_numberHere 41 = .ok (.iconst 1, 1) := by decide +kernel
theorem dX10_numberHere_42 : decode cX10_numberHere 42 = .ok (.putfield 103, 3) := by decide +kernel
theorem dX10_numberHere_45 : decode cX10_numberHere 45 = .ok (.ldc 19, 2) := by decide +kernel
theorem dX10_numberHere_47 : decode cX10_numberHere 47 = .ok (.ireturn, 1) := by decide +kernel
theorem dX10_numberHere_48 : decode cX10_numberHere 48 = .ok (.iconst 0, 1) := by decide +kernel
theorem dX10_numberHere_49 : decode cX10_numberHere 49 = .ok (.istore_n 3, 1) := by decide +kernel
theorem dX10_numberHere_50 : decode cX10_numberHere 50 = .ok (.aload_n 0, 1) := by decide +kernel
theorem dX10_numberHere_51 : decode cX10_numberHere 51 = .ok (.getfield 81, 3) := by decide +kernel
theorem dX10_numberHere_54 : decode cX10_numberHere 54 = .ok (.istore 4, 2) := by decide +kernel
theorem dX10_numberHere_56 : decode cX10_numberHere 56 = .ok (.iload 4, 2) := by decide +kernel
theorem dX10_numberHere_58 : decode cX10_numberHere 58 = .ok (.aload_n 0, 1) := by decide +kernel
theorem dX10_numberHere_59 : decode cX10_numberHere 59 = .ok (.getfield 87, 3) := by decide +kernel
theorem dX10_numberHere_62 : decode cX10_numberHere 62 = .ok (.if_icmp .ge 25, 3) := by decide +kernel
theorem dX10_numberHere_65 : decode cX10_numberHere 65 = .ok (.bipush 10, 2) := by decide +kernel
theorem dX10_numberHere_67 : decode cX10_numberHere 67 = .ok (.iload_n 3, 1) := by decide +kernel
theorem dX10_numberHere_68 : decode cX10_numberHere 68 = .ok (.imul, 1) := by decide +kernel
theorem dX10_numberHere_69 : decode cX10_numberHere 69 = .ok (.aload_n 0, 1) := by decide +kernel
theorem dX10_numberHere_70 : decode cX10_numberHere 70 = .ok (.getfield 16, 3) := by decide +kernel
theorem dX10_numberHere_73 : decode cX10_numberHere 73 = .ok (.iload 4, 2) := by decide +kernel
theorem dX10_numberHere_75 : decode cX10_numberHere 75 = .ok (.iaload, 1) := by decide +kernel
theorem dX10_numberHere_76 : decode cX10_numberHere 76 = .ok (.iadd, 1) := by decide +kernel
theorem dX10_numberHere_77 : decode cX10_numberHere 77 = .ok (.bipush 48, 2) := by decide +kernel
theorem dX10_numberHere_79 : decode cX10_numberHere 79 = .ok (.isub, 1) := by decide +kernel
theorem dX10_numberHere_80 : decode cX10_numberHere 80 = .ok (.istore_n 3, 1) := by decide +kernel
theorem dX10_numberHere_81 : decode cX10_numberHere 81 = .ok (.iinc 4 1, 3) := by decide +kernel
theorem dX10_numberHere_84 : decode cX10_numberHere 84 = .ok (.goto (-28), 3) := by decide +kernel
theorem dX10_numberHere_87 : decode cX10_numberHere 87 = .ok (.aload_n 0, 1) := by decide +kernel
theorem dX10_numberHere_88 : decode cX10_numberHere 88 = .ok (.iload_n 3, 1) := by decide +kernel
theorem dX10_numberHere_89 : decode cX10_numberHere 89 = .ok (.i2l, 1) := by decide +kernel
theorem dX10_numberHere_90 : decode cX10_numberHere 90 = .ok (.iload_n 1, 1) := by decide +kernel
theorem dX10_numberHere_91 : decode cX10_numberHere 91 = .ok (.i2l, 1) := by decide +kernel
theorem dX10_numberHere_92 : decode cX10_numberHere 92 = .ok (.iload_n 2, 1) := by decide +kernel
theorem dX10_numberHere_93 : decode cX10_numberHere 93 = .ok (.i2l, 1) := by decide +kernel
theorem dX10_numberHere_94 : decode cX10_numberHere 94 = .ok (.invokestatic 48, 3) := by decide +kernel
theorem dX10_numberHere_97 : decode cX10_numberHere 97 = .ok (.ifCond .eq 10, 3) := by decide +kernel
theorem dX10_numberHere_100 : decode cX10_numberHere 100 = .ok (.aload_n 0, 1) := by decide +kernel
theorem dX10_numberHere_101 : decode cX10_numberHere 101 = .ok (.getfield 103, 3) := by decide +kernel
theorem dX10_numberHere_104 : decode cX10_numberHere 104 = .ok (.goto 4, 3) := by decide +kernel
theorem dX10_numberHere_107 : decode cX10_numberHere 107 = .ok (.iconst 2, 1) := by decide +kernel
theorem dX10_numberHere_108 : decode cX10_numberHere 108 = .ok (.putfield 103, 3) := by decide +kernel
theorem dX10_numberHere_111 : decode cX10_numberHere 111 = .ok (.iload_n 3, 1) := by decide +kernel
theorem dX10_numberHere_112 : decode cX10_numberHere 112 = .ok (.i2l, 1) := by decide +kernel
theorem dX10_numberHere_113 : decode cX10_numberHere 113 = .ok (.iload_n 1, 1) := by decide +kernel
theorem dX10_numberHere_114 : decode cX10_numberHere 114 = .ok (.i2l, 1) := by decide +kernel
theorem dX10_numberHere_115 : decode cX10_numberHere 115 = .ok (.iload_n 2, 1) := by decide +kernel
theorem dX10_numberHere_116 : decode cX10_numberHere 116 = .ok (.i2l, 1) := by decide +kernel
theorem dX10_numberHere_117 : decode cX10_numberHere 117 = .ok (.invokestatic 48, 3) := by decide +kernel
theorem dX10_numberHere_120 : decode cX10_numberHere 120 = .ok (.ifCond .eq 7, 3) := by decide +kernel
theorem dX10_numberHere_123 : decode cX10_numberHere 123 = .ok (.iload_n 3, 1) := by decide +kernel
theorem dX10_numberHere_124 : decode cX10_numberHere 124 = .ok (.goto 5, 3) := by decide +kernel
theorem dX10_numberHere_127 : decode cX10_numberHere 127 = .ok (.ldc 19, 2) := by decide +kernel
theorem dX10_numberHere_129 : decode cX10_numberHere 129 = .ok (.ireturn, 1) := by decide +kernel
/-! BumperBallsModel.numberHere(II)I -/
def fnX10_numberHere_129 (I0 : Mem) (t0 : Int32) : Option (Int32 × Mem) :=
  some (t0, I0)
set_option maxRecDepth 20000 in
set_option maxHeartbeats 2000000 in
theorem ebX10_numberHere_129 {g : Cfg} (C : Cx g RX10 cX10_numberHere 5 1 25 0 0) {h : Shp} (H0 : MAt h) {r1 : Int32} {o1 : Mem} (q : QI g (some Jvm.ClassFile.FieldType.int) 0 0 r1 (o1, h)) {I0 : Mem} {t0 : Int32} (hf : fnX10_numberHere_129 I0 t0 = some (r1, o1)) : XE g 0 0 (I0, h) 129 [] [.int t0] := by
  unfold fnX10_numberHere_129 at hf
  exact xr_ireturn C q rfl rfl dX10_numberHere_129 (so_1 hf) (so_w hf)
def fnX10_numberHere_108 (I0 : Mem) (l1 : Int32) (l2 : Int32) (l3 : Int32) (t1 : Int32) : Option (Int32 × Mem) :=
  bnd (up2 I0 111 5 t1) fun I1 => ob (fnX10_in I1 (l3.toInt64) (l1.toInt64) (l2.toInt64)) fun ⟨r4, I3⟩ => if r4 = 0 then (fnX10_numberHere_129 I3 (-1000000)) else (fnX10_numberHere_129 I3 l3)
set_option maxRecDepth 20000 in
set_option maxHeartbeats 2000000 in
theorem ebX10_numberHere_108 {g : Cfg} (C : Cx g RX10 cX10_numberHere 5 1 25 0 0) {h : Shp} (H0 : MAt h) {r1 : Int32} {o1 : Mem} (q : QI g (some Jvm.ClassFile.FieldType.int) 0 0 r1 (o1, h)) {I0 : Mem} {l1 : Int32} {l2 : Int32} {l3 : Int32} {t1 : Int32} (hf : fnX10_numberHere_108 I0 l1 l2 l3 t1 = some (r1, o1)) : XE g 0 0 (I0, h) 108 [(1, .int l1), (2, .int l2), (3, .int l3)] [.int t1, rf g 111] := by
  unfold fnX10_numberHere_108 at hf
  obtain ⟨I1, eI1, hf⟩ := bnd_x hf
  refine xr_putI C Kd10 (k := 5) (by decide) rfl rfl wk_826 rfl rfl rfl H0.1 dX10_numberHere_108 eI1 ?_
  refine xr_iload_n C dX10_numberHere_111 2 rfl rfl ?_
  refine xr_i2l C dX10_numberHere_112 ?_
  refine xr_iload_n C dX10_numberHere_113 0 rfl rfl ?_
  refine xr_i2l C dX10_numberHere_114 ?_
  refine xr_iload_n C dX10_numberHere_115 1 rfl rfl ?_
  refine xr_i2l C dX10_numberHere_116 ?_
  obtain ⟨⟨r4, I3⟩, h2, hf⟩ := ob_x hf
  refine xr_callSI C [.long (l3.toInt64), .long (l1.toInt64), .long (l2.toInt64)] lkX10_48 (kX10_in h2) rfl (Nat.le_of_ble_eq_true rfl) rfl dX10_numberHere_117 ⟨by decide, by decide, by decide⟩ rfl ?_
  refine xr_if_eq (tgt := 127) C dX10_numberHere_120 (by decide) hf (fun c5 hf => ?_) (fun c5 hf => ?_)
  · refine xr_ldc C wk_820 dX10_numberHere_127 ?_
    refine xr_lv [] rfl ?_
    exact ebX10_numberHere_129 C H0 q hf
  · refine xr_iload_n C dX10_numberHere_123 2 rfl rfl ?_
    refine xr_goto (tgt := 129) C dX10_numberHere_124 (by decide) ?_
    refine xr_lv [] rfl ?_
    exact ebX10_numberHere_129 C H0 q hf
def fnX10_numberHere_56b (rec56 : Mem → Int32 → Int32 → Int32 → Int32 → Option (Int32 × Mem)) (I0 : Mem) (l1 : Int32) (l2 : Int32) (l3 : Int32) (l4 : Int32) : Option (Int32 × Mem) :=
  if (I0 111 14) ≤ l4 then (ob (fnX10_in I0 (l3.toInt64) (l1.toInt64) (l2.toInt64)) fun ⟨r4, I3⟩ => if r4 = 0 then (fnX10_numberHere_108 I3 l1 l2 l3 2) else (fnX10_numberHere_108 I3 l1 l2 l3 (I3 111 5))) else (ck (inb l4 400) <| bnd ((((10 : Int32) * l3) + (I0 114 (ix l4))) - 48) fun v7 => bnd (l4 + 1) fun v8 => rec56 I0 l1 l2 v7 v8)
def fnX10_numberHere_56 : Nat → Mem → Int32 → Int32 → Int32 → Int32 → Option (Int32 × Mem)
  | 0 => fun _ _ _ _ _ => none
  | fu + 1 => fnX10_numberHere_56b (fnX10_numberHere_56 fu)
set_option maxRecDepth 20000 in
set_option maxHeartbeats 2000000 in
theorem ebX10_numberHere_56b {g : Cfg} (C : Cx g RX10 cX10_numberHere 5 1 25 0 0) {h : Shp} (H0 : MAt h) {r1 : Int32} {o1 : Mem} {rec56 : Mem → Int32 → Int32 → Int32 → Int32 → Option (Int32 × Mem)} (q : QI g (some Jvm.ClassFile.FieldType.int) 0 0 r1 (o1, h)) (ih56 : ∀ (I0 : Mem) (l1 : Int32) (l2 : Int32) (l3 : Int32) (l4 : Int32), rec56 I0 l1 l2 l3 l4 = some (r1, o1) → XE g 0 0 (I0, h) 56 [(0, rf g 111), (1, .int l1), (2, .int l2), (3, .int l3), (4, .int l4)] []) {I0 : Mem} {l1 : Int32} {l2 : Int32} {l3 : Int32} {l4 : Int32} (hf : fnX10_numberHere_56b rec56 I0 l1 l2 l3 l4 = some (r1, o1)) : XE g 0 0 (I0, h) 56 [(0, rf g 111), (1, .int l1), (2, .int l2), (3, .int l3), (4, .int l4)] [] := by
  unfold fnX10_numberHere_56b at hf
  refine xr_iload C dX10_numberHere_56 4 rfl ?_
  refine xr_aload_n C dX10_numberHere_58 0 rfl rfl ?_
  refine xr_geti C Kd10 (k := 14) (by decide) rfl wk_835 rfl H0.1 dX10_numberHere_59 ?_
  refine xr_icmp_ge (tgt := 87) C dX10_numberHere_62 (by decide) hf (fun c1 hf => ?_) (fun c1 hf => ?_)
  · refine xr_aload_n C dX10_numberHere_87 0 rfl rfl ?_
    refine xr_iload_n C dX10_numberHere_88 3 rfl rfl ?_
    refine xr_i2l C dX10_numberHere_89 ?_
    refine xr_iload_n C dX10_numberHere_90 1 rfl rfl ?_
    refine xr_i2l C dX10_numberHere_91 ?_
    refine xr_iload_n C dX10_numberHere_92 2 rfl rfl ?_
    refine xr_i2l C dX10_numberHere_93 ?_
    obtain ⟨⟨r4, I3⟩, h2, hf⟩ := ob_x hf
    refine xr_callSI C [.long (l3.toInt64), .long (l1.toInt64), .long (l2.toInt64)] lkX10_48 (kX10_in h2) rfl (Nat.le_of_ble_eq_true rfl) rfl dX10_numberHere_94 ⟨by decide, by decide, by decide⟩ rfl ?_
    refine xr_if_eq (tgt := 107) C dX10_numberHere_97 (by decide) hf (fun c5 hf => ?_) (fun c5 hf => ?_)
    · refine xr_iconst (v := 2) C dX10_numberHere_107 (by decide) ?_
      refine xr_lv [1, 2, 3] rfl ?_
      exact ebX10_numberHere_108 C H0 q hf
    · refine xr_aload_n C dX10_numberHere_100 0 rfl rfl ?_
      refine xr_geti C Kd10 (k := 5) (by decide) rfl wk_826 rfl H0.1 dX10_numberHere_101 ?_
      refine xr_goto (tgt := 108) C dX10_numberHere_104 (by decide) ?_
      refine xr_lv [1, 2, 3] rfl ?_
      exact ebX10_numberHere_108 C H0 q hf
  · refine xr_bipush (v := 10) C dX10_numberHere_65 (by decide) ?_
    refine xr_iload_n C dX10_numberHere_67 3 rfl rfl ?_
    refine xr_imul C dX10_numberHere_68 ?_
    refine xr_aload_n C dX10_numberHere_69 0 rfl rfl ?_
    refine xr_getr C Kd10 (k := 3) (by decide) rfl wk_824 rfl H0.1 H0.2.2.2.1.1 dX10_numberHere_70 ?_
    refine xr_iload C dX10_numberHere_73 4 rfl ?_
    obtain ⟨i6, hf⟩ := ck_x hf
    refine xr_iald C H0.2.2.2.1.2 i6 dX10_numberHere_75 ?_
    refine xr_iadd C dX10_numberHere_76 ?_
    refine xr_bipush (v := 48) C dX10_numberHere_77 (by decide) ?_
    refine xr_isub C dX10_numberHere_79 ?_
    obtain ⟨v7, ev7, hf⟩ := bnd_x hf
    refine xr_nm ev7 ?_
    refine xr_istore_n C dX10_numberHere_80 rfl (by decide) rfl ?_
    obtain ⟨v8, ev8, hf⟩ := bnd_x hf
    refine xr_iinc (k := 4) (v := v8) C dX10_numberHere_81 rfl (by rw [ev8]; rfl) (by decide) rfl ?_
    refine xr_goto (tgt := 56) C dX10_numberHere_84 (by decide) ?_
    refine xr_lv [2, 3, 4, 1, 0] rfl ?_
    exact ih56 _ _ _ _ _ hf
theorem ebX10_numberHere_56 {g : Cfg} (C : Cx g RX10 cX10_numberHere 5 1 25 0 0) {h : Shp} (H0 : MAt h) {r1 : Int32} {o1 : Mem} (q : QI g (some Jvm.ClassFile.FieldType.int) 0 0 r1 (o1, h)) : ∀ (fu : Nat) {I0 : Mem} {l1 : Int32} {l2 : Int32} {l3 : Int32} {l4 : Int32} (hf : fnX10_numberHere_56 fu I0 l1 l2 l3 l4 = some (r1, o1)), XE g 0 0 (I0, h) 56 [(0, rf g 111), (1, .int l1), (2, .int l2), (3, .int l3), (4, .int l4)] [] := by
  intro fu
  induction fu with
  | zero =>
    intro I0 l1 l2 l3 l4 hf
    cases hf
  | succ fu ihn =>
    intro I0 l1 l2 l3 l4 hf
    exact ebX10_numberHere_56b C H0 q (fun _ _ _ _ _ hf => ihn hf) hf
def fnX10_numberHere_40 (I0 : Mem) : Option (Int32 × Mem) :=
  bnd (up2 I0 111 5 1) fun I1 => some ((-1000000), I1)
set_option maxRecDepth 20000 in
set_option maxHeartbeats 2000000 in
theorem ebX10_numberHere_40 {g : Cfg} (C : Cx g RX10 cX10_numberHere 5 1 25 0 0) {h : Shp} (H0 : MAt h) {r1 : Int32} {o1 : Mem} (q : QI g (some Jvm.ClassFile.FieldType.int) 0 0 r1 (o1, h)) {I0 : Mem} (hf : fnX10_numberHere_40 I0 = some (r1, o1)) : XE g 0 0 (I0, h) 40 [(0, rf g 111)] [] := by
  unfold fnX10_numberHere_40 at hf
  refine xr_aload_n C dX10_numberHere_40 0 rfl rfl ?_
  refine xr_iconst (v := 1) C dX10_numberHere_41 (by decide) ?_
  obtain ⟨I1, eI1, hf⟩ := bnd_x hf
  refine xr_putI C Kd10 (k := 5) (by decide) rfl rfl wk_826 rfl rfl rfl H0.1 dX10_numberHere_42 eI1 ?_
  refine xr_ldc C wk_820 dX10_numberHere_45 ?_
  exact xr_ireturn C q rfl rfl dX10_numberHere_47 (so_1 hf) (so_w hf)
def fnX10_numberHere (I0 : Mem) (p1 : Int32) (p2 : Int32) : Option (Int32 × Mem) :=
  if (I0 111 13) = (I0 111 4) then (fnX10_numberHere_40 I0) else (ck (inb (I0 111 13) 400) <| ob (fnX10_sort I0 (I0 114 (ix (I0 111 13)))) fun ⟨r5, I4⟩ => if r5 = 2 then (if ((I4 111 14) - (I4 111 13)) ≤ 3 then (bnd (I4 111 13) fun v8 => fnX10_numberHere_56 FU I4 p1 p2 0 v8) else (fnX10_numberHere_40 I4)) else (fnX10_numberHere_40 I4))
set_option maxRecDepth 20000 in
set_option maxHeartbeats 2000000 in
theorem ebX10_numberHere_0 {g : Cfg} (C : Cx g RX10 cX10_numberHere 5 1 25 0 0) {h : Shp} (H0 : MAt h) {r1 : Int32} {o1 : Mem} (q : QI g (some Jvm.ClassFile.FieldType.int) 0 0 r1 (o1, h)) {I0 : Mem} {p1 : Int32} {p2 : Int32} (hf : fnX10_numberHere I0 p1 p2 = some (r1, o1)) : XE g 0 0 (I0, h) 0 [(0, rf g 111), (1, .int p1), (2, .int p2)] [] := by
  unfold fnX10_numberHere at hf
  refine xr_aload_n C dX10_numberHere_0 0 rfl rfl ?_
  refine xr_geti C Kd10 (k := 13) (by decide) rfl wk_834 rfl H0.1 dX10_numberHere_1 ?_
  refine xr_aload_n C dX10_numberHere_4 0 rfl rfl ?_
  refine xr_geti C Kd10 (k := 4) (by decide) rfl wk_825 rfl H0.1 dX10_numberHere_5 ?_
  refine xr_icmp_eq (tgt := 40) C dX10_numberHere_8 (by decide) hf (fun c1 hf => ?_) (fun c1 hf => ?_)
  · refine xr_lv [0] rfl ?_
    exact ebX10_numberHere_40 C H0 q hf
  · refine xr_aload_n C dX10_numberHere_11 0 rfl rfl ?_
    refine xr_getr C Kd10 (k := 3) (by decide) rfl wk_824 rfl H0.1 H0.2.2.2.1.1 dX10_numberHere_12 ?_
    refine xr_aload_n C dX10_numberHere_15 0 rfl rfl ?_
    refine xr_geti C Kd10 (k := 13) (by decide) rfl wk_834 rfl H0.1 dX10_numberHere_16 ?_
    obtain ⟨i2, hf⟩ := ck_x hf
    refine xr_iald C H0.2.2.2.1.2 i2 dX10_numberHere_19 ?_
    obtain ⟨⟨r5, I4⟩, h3, hf⟩ := ob_x hf
    refine xr_callSI C [.int (I0 114 (ix (I0 111 13)))] lkX10_84 (kX10_sort h3) rfl (Nat.le_of_ble_eq_true rfl) rfl dX10_numberHere_20 ⟨by decide, by decide, by decide⟩ rfl ?_
    refine xr_iconst (v := 2) C dX10_numberHere_23 (by decide) ?_
    refine xr_icmp_ne (tgt := 40) C dX10_numberHere_24 (by decide) hf (fun c6 hf => ?_) (fun c6 hf => ?_)
    · refine xr_lv [0] rfl ?_
      exact ebX10_numberHere_40 C H0 q hf
    · refine xr_aload_n C dX10_numberHere_27 0 rfl rfl ?_
      refine xr_geti C Kd10 (k := 14) (by decide) rfl wk_835 rfl H0.1 dX10_numberHere_28 ?_
      refine xr_aload_n C dX10_numberHere_31 0 rfl rfl ?_
      refine xr_geti C Kd10 (k := 13) (by decide) rfl wk_834 rfl H0.1 dX10_numberHere_32 ?_
      refine xr_isub C dX10_numberHere_35 ?_
      refine xr_iconst (v := 3) C dX10_numberHere_36 (by decide) ?_
      refine xr_icmp_le (tgt := 48) C dX10_numberHere_37 (by decide) hf (fun c7 hf => ?_) (fun c7 hf => ?_)
      · refine xr_iconst (v := 0) C dX10_numberHere_48 (by decide) ?_
        refine xr_istore_n C dX10_numberHere_49 rfl (by decide) rfl ?_
        refine xr_aload_n C dX10_numberHere_50 1 rfl rfl ?_
        refine xr_geti C Kd10 (k := 13) (by decide) rfl wk_834 rfl H0.1 dX10_numberHere_51 ?_
        obtain ⟨v8, ev8, hf⟩ := bnd_x hf
        refine xr_nm ev8 ?_
        refine xr_istore C dX10_numberHere_54 (by decide) rfl ?_
        refine xr_lv [2, 3, 4, 1, 0] rfl ?_
        exact ebX10_numberHere_56 C H0 q _ hf
      · refine xr_lv [0] rfl ?_
        exact ebX10_numberHere_40 C H0 q hf
theorem kX10_numberHere {B : Bs} {h : Shp} (H0 : MAt h) {I0 : Mem} {p1 : Int32} {p2 : Int32} {r1 : Int32} {o1 : Mem} (hf : fnX10_numberHere I0 p1 p2 = some (r1, o1)) : CtrI B yX10_numberHere cX10_numberHere 5 (some Jvm.ClassFile.FieldType.int) 1 25 0 0 [rfB B 111, .int p1, .int p2] (I0, h) r1 (o1, h) := by
  refine xr_enterI (lv0 := [(0, rfB B 111), (1, .int p1), (2, .int p2)]) (by decide) (Nat.le_of_ble_eq_true rfl) rfl (fun g hg C q => ?_)
  subst hg
  exact ebX10_numberHere_0 C H0 q hf
theorem dX10_number_0 : decode cX10_number 0 = .ok (.aload_n 0, 1) := by decide +kernel
theorem dX10_number_1 : decode cX10_number 1 = .ok (.iload_n 1, 1) := by decide +kernel
theorem dX10_number_2 : decode cX10_number 2 = .ok (.iload_n 2, 1) := by decide +kernel
theorem dX10_number_3 : decode cX10_number 3 = .ok (.invokevirtual 106, 3) := by decide +kernel
theorem dX10_number_6 : decode cX10_number 6 = .ok (.istore_n 3, 1) := by decide +kernel
theorem dX10_number_7 : decode cX10_number 7 = .ok (.iload_n 3, 1) := by decide +kernel
theorem dX10_number_8 : decode cX10_number 8 = .ok (.ldc 19, 2) := by decide +kernel
theorem dX10_number_10 : decode cX10_number 10 = .ok (.if_icmp .eq 7, 3) := by decide +kernel
theorem dX10_number_13 : decode cX10_number 13 = .ok (.aload_n 0, 1) := by decide +kernel
theorem dX10_number_14 : decode cX10_number 14 = .ok (.invokevirtual 110, 3) := by decide +kernel
theorem dX10_number_17 : decode cX10_number 17 = .ok (.iload_n 3, 1) := by decide +kernel
theorem dX10_number_18 : decode cX10_number 18 = .ok (.ireturn, 1) := by decide +kernel
theorem lkX10_106 : LkV "BumperBallsModel" 106 yX10_numberHere cX10_numberHere 5 (some Jvm.ClassFile.FieldType.int) 2 := ⟨wk_963, wk_11, wk_962, wk_s70, ⟨by decide +kernel, by decide +kernel, by decide +kernel⟩, wk_960⟩
theorem lkX10_110 : LkV "BumperBallsModel" 110 yX10_token cX10_token 1 none 0 := ⟨wk_944, wk_11, wk_943, wk_s66, ⟨by decide +kernel, by decide +kernel, by decide +kernel⟩, wk_941⟩
/-! BumperBallsModel.number(II)I -/
def fnX10_number_17 (I0 : Mem) (l3 : Int32) : Option (Int32 × Mem) :=
  some (l3, I0)
set_option maxRecDepth 20000 in
set_option maxHeartbeats 2000000 in
theorem ebX10_number_17 {g : Cfg} (C : Cx g RX10 cX10_number 4 2 49 0 0) {h : Shp} (H0 : MAt h) {r1 : Int32} {o1 : Mem} (q : QI g (some Jvm.ClassFile.FieldType.int) 0 0 r1 (o1, h)) {I0 : Mem} {l3 : Int32} (hf : fnX10_number_17 I0 l3 = some (r1, o1)) : XE g 0 0 (I0, h) 17 [(3, .int l3)] [] := by
  unfold fnX10_number_17 at hf
  refine xr_iload_n C dX10_number_17 0 rfl rfl ?_
  exact xr_ireturn C q rfl rfl dX10_number_18 (so_1 hf) (so_w hf)
def fnX10_number (I0 : Mem) (p1 : Int32) (p2 : Int32) : Option (Int32 × Mem) :=
  ob (fnX10_numberHere I0 p1 p2) fun ⟨r3, I2⟩ => if r3 = (-1000000) then (fnX10_number_17 I2 r3) else (ob (fnX10_token I2) fun I6 => fnX10_number_17 I6 r3)
set_option maxRecDepth 20000 in
set_option maxHeartbeats 2000000 in
theorem ebX10_number_0 {g : Cfg} (C : Cx g RX10 cX10_number 4 2 49 0 0) {h : Shp} (H0 : MAt h) {r1 : Int32} {o1 : Mem} (q : QI g (some Jvm.ClassFile.FieldType.int) 0 0 r1 (o1, h)) {I0 : Mem} {p1 : Int32} {p2 : Int32} (hf : fnX10_number I0 p1 p2 = some (r1, o1)) : XE g 0 0 (I0, h) 0 [(0, rf g 111), (1, .int p1), (2, .int p2)] [] := by
  unfold fnX10_number at hf
  refine xr_aload_n C dX10_number_0 0 rfl rfl ?_
  refine xr_iload_n C dX10_number_1 1 rfl rfl ?_
  refine xr_iload_n C dX10_number_2 2 rfl rfl ?_
  obtain ⟨⟨r3, I2⟩, h1, hf⟩ := ob_x hf
  refine xr_callVI C [.int p1, .int p2] lkX10_106 (kX10_numberHere H0 h1) Kd10 rfl H0.1 rfl (Nat.le_of_ble_eq_true rfl) rfl dX10_number_3 ⟨by decide, by decide, by decide⟩ rfl ?_
  refine xr_istore_n C dX10_number_6 rfl (by decide) rfl ?_
  refine xr_iload_n C dX10_number_7 0 rfl rfl ?_
  refine xr_ldc C wk_820 dX10_number_8 ?_
  refine xr_icmp_eq (tgt := 17) C dX10_number_10 (by decide) hf (fun c4 hf => ?_) (fun c4 hf => ?_)
  · refine xr_lv [0] rfl ?_
    exact ebX10_number_17 C H0 q hf
  · refine xr_aload_n C dX10_number_13 1 rfl rfl ?_
    obtain ⟨I6, h5, hf⟩ := ob_x hf
    refine xr_callVV C [] lkX10_110 (kX10_token H0 h5) Kd10 rfl H0.1 rfl (Nat.le_of_ble_eq_true rfl) rfl dX10_number_14 ⟨by decide, by decide, by decide⟩ rfl ?_
    refine xr_lv [0] rfl ?_
    exact ebX10_number_17 C H0 q hf
theorem kX10_number {B : Bs} {h : Shp} (H0 : MAt h) {I0 : Mem} {p1 : Int32} {p2 : Int32} {r1 : Int32} {o1 : Mem} (hf : fnX10_number I0 p1 p2 = some (r1, o1)) : CtrI B yX10_number cX10_number 4 (some Jvm.ClassFile.FieldType.int) 2 49 0 0 [rfB B 111, .int p1, .int p2] (I0, h) r1 (o1, h) := by
  refine xr_enterI (lv0 := [(0, rfB B 111), (1, .int p1), (2, .int p2)]) (by decide) (Nat.le_of_ble_eq_true rfl) rfl (fun g hg C q => ?_)
  subst hg
  exact ebX10_number_0 C H0 q hf
theorem dX10_readsSign_0 : decode cX10_readsSign 0 = .ok (.aload_n 0, 1) := by decide +kernel
theorem dX10_readsSign_1 : decode cX10_readsSign 1 = .ok (.invokevirtual 113, 3) := by decide +kernel
theorem dX10_readsSign_4 : decode cX10_readsSign 4 = .ok (.ifCond .ne 10, 3) := by decide +kernel
theorem dX10_readsSign_7 : decode cX10_readsSign 7 = .ok (.aload_n 0, 1) := by decide +kernel
theorem dX10_readsSign_8 : decode cX10_readsSign 8 = .ok (.iconst 1, 1) := by decide +kernel
theorem dX10_readsSign_9 : decode cX10_readsSign 9 = .ok (.putfield 103, 3) := by decide +kernel
theorem dX10_readsSign_12 : decode cX10_readsSign 12 = .ok (.iconst 0, 1) := by decide +kernel
theorem dX10_readsSign_13 : decode cX10_readsSign 13 = .ok (.ireturn, 1) := by decide +kernel
theorem dX10_readsSign_14 : decode cX10_readsSign 14 = .ok (.aload_n 0, 1) := by decide +kernel
theorem dX10_readsSign_15 : decode cX10_readsSign 15 = .ok (.invokevirtual 110, 3) := by decide +kernel
theorem dX10_readsSign_18 : decode cX10_readsSign 18 = .ok (.iconst 1, 1) := by decide +kernel
theorem dX10_readsSign_19 : decode cX10_readsSign 19 = .ok (.ireturn, 1) := by decide +kernel
theorem lkX10_113 : LkV "BumperBallsModel" 113 yX10_isSign cX10_isSign 1 (some Jvm.ClassFile.FieldType.boolean) 0 := ⟨wk_971, wk_11, wk_970, wk_s72, ⟨by decide +kernel, by decide +kernel, by decide +kernel⟩, wk_968⟩
/-! BumperBallsModel.readsSign()Z -/
def fnX10_readsSign (I0 : Mem) : Option (Int32 × Mem) :=
  ob (fnX10_isSign I0) fun ⟨r3, I2⟩ => if r3 = 0 then (bnd (up2 I2 111 5 1) fun I7 => some (0, I7)) else (ob (fnX10_token I2) fun I6 => some (1, I6))
set_option maxRecDepth 20000 in
set_option maxHeartbeats 2000000 in
theorem ebX10_readsSign_0 {g : Cfg} (C : Cx g RX10 cX10_readsSign 1 2 40 0 0) {h : Shp} (H0 : MAt h) {r1 : Int32} {o1 : Mem} (q : QI g (some Jvm.ClassFile.FieldType.boolean) 0 0 r1 (o1, h)) {I0 : Mem} (hf : fnX10_readsSign I0 = some (r1, o1)) : XE g 0 0 (I0, h) 0 [(0, rf g 111)] [] := by
  unfold fnX10_readsSign at hf
  refine xr_aload_n C dX10_readsSign_0 0 rfl rfl ?_
  obtain ⟨⟨r3, I2⟩, h1, hf⟩ := ob_x hf
  refine xr_callVI C [] lkX10_113 (kX10_isSign H0 h1) Kd10 rfl H0.1 rfl (Nat.le_of_ble_eq_true rfl) rfl dX10_readsSign_1 ⟨by decide, by decide, by decide⟩ rfl ?_
  refine xr_if_ne (tgt := 14) C dX10_readsSign_4 (by decide) hf (fun c4 hf => ?_) (fun c4 hf => ?_)
  · refine xr_aload_n C dX10_readsSign_14 0 rfl rfl ?_
    obtain ⟨I6, h5, hf⟩ := ob_x hf
    refine xr_callVV C [] lkX10_110 (kX10_token H0 h5) Kd10 rfl H0.1 rfl (Nat.le_of_ble_eq_true rfl) rfl dX10_readsSign_15 ⟨by decide, by decide, by decide⟩ rfl ?_
    refine xr_iconst (v := 1) C dX10_readsSign_18 (by decide) ?_
    exact xr_ireturn C q rfl rfl dX10_readsSign_19 (so_1 hf) (so_w hf)
  · refine xr_aload_n C dX10_readsSign_7 0 rfl rfl ?_
    refine xr_iconst (v := 1) C dX10_readsSign_8 (by decide) ?_
    obtain ⟨I7, eI7, hf⟩ := bnd_x hf
    refine xr_putI C Kd10 (k := 5) (by decide) rfl rfl wk_826 rfl rfl rfl H0.1 dX10_readsSign_9 eI7 ?_
    refine xr_iconst (v := 0) C dX10_readsSign_12 (by decide) ?_
    exact xr_ireturn C q rfl rfl dX10_readsSign_13 (so_1 hf) (so_w hf)
theorem kX10_readsSign {B : Bs} {h : Shp} (H0 : MAt h) {I0 : Mem} {r1 : Int32} {o1 : Mem} (hf : fnX10_readsSign I0 = some (r1, o1)) : CtrI B yX10_readsSign cX10_readsSign 1 (some Jvm.ClassFile.FieldType.boolean) 2 40 0 0 [rfB B 111] (I0, h) r1 (o1, h) := by
  refine xr_enterI (lv0 := [(0, rfB B 111)]) (by decide) (Nat.le_of_ble_eq_true rfl) rfl (fun g hg C q => ?_)
  subst hg
  exact ebX10_readsSign_0 C H0 q hf
theorem dX10_isPinRead_0 : decode cX10_isPinRead 0 = .ok (.iconst 0, 1) := by decide +kernel
theorem dX10_isPinRead_1 : decode cX10_isPinRead 1 = .ok (.istore_n 2, 1) := by decide +kernel
theorem dX10_isPinRead_2 : decode cX10_isPinRead 2 = .ok (.iconst 0, 1) := by decide +kernel
theorem dX10_isPinRead_3 : decode cX10_isPinRead 3 = .ok (.istore_n 3, 1) := by decide +kernel
theorem dX10_isPinRead_4 : decode cX10_isPinRead 4 = .ok (.iload_n 3, 1) := by decide +kernel
theorem dX10_isPinRead_5 : decode cX10_isPinRead 5 = .ok (.aload_n 0, 1) := by decide +kernel
theorem dX10_isPinRead_6 : decode cX10_isPinRead 6 = .ok (.getfield 116, 3) := by decide +kernel
theorem dX10_isPinRead_9 : decode cX10_isPinRead 9 = .ok (.if_icmp .ge 33, 3) := by decide +kernel
theorem dX10_isPinRead_12 : decode cX10_isPinRead 12 = .ok (.iload_n 2, 1) := by decide +kernel
theorem dX10_isPinRead_13 : decode cX10_isPinRead 13 = .ok (.ifCond .ne 17, 3) := by decide +kernel
theorem dX10_isPinRead_16 : decode cX10_isPinRead 16 = .ok (.aload_n 0, 1) := by decide +kernel
theorem dX10_isPinRead_17 : decode cX10_isPinRead 17 = .ok (.getfield 32, 3) := by decide +kernel
theorem dX10_isPinRead_20 : decode cX10_isPinRead 20 = .ok (.iconst 4, 1) := by decide +kernel
theorem dX10_isPinRead_21 : decode cX10_isPinRead 21 = .ok (.iload_n 3, 1) := by decide +kernel
theorem dX10_isPinRead_22 : decode cX10_isPinRead 22 = .ok (.imul, 1) := by decide +kernel
theorem dX10_isPinRead_23 : decode cX10_isPinRead 23 = .ok (.iconst 1, 1) := by decide +kernel
theorem dX10_isPinRead_24 : decode cX10_isPinRead 24 = .ok (.iadd, 1) := by decide +kernel
theorem dX10_isPinRead_25 : decode cX10_isPinRead 25 = .ok (.iaload, 1) := by decide +kernel
theorem dX10_isPinRead_26 : decode cX10_isPinRead 26 = .ok (.iload_n 1, 1) := by decide +kernel
theorem dX10_isPinRead_27 : decode cX10_isPinRead 27 = .ok (.if_icmp .ne 7, 3) := by decide +kernel
theorem dX10_isPinRead_30 : decode cX10_isPinRead 30 = .ok (.iconst 1, 1) := by decide +kernel
theorem dX10_isPinRead_31 : decode cX10_isPinRead 31 = .ok (.goto 4, 3) := by decide +kernel
theorem dX10_isPinRead_34 : decode cX10_isPinRead 34 = .ok (.iconst 0, 1) := by decide +kernel
theorem dX10_isPinRead_35 : decode cX10_isPinRead 35 = .ok (.istore_n 2, 1) := by decide +kernel
theorem dX10_isPinRead_36 : decode cX10_isPinRead 36 = .ok (.iinc 3 1, 3) := by decide +kernel
theorem dX10_isPinRead_39 : decode cX10_isPinRead 39 = .ok (.goto (-35), 3) := by decide +kernel
theorem dX10_isPinRead_42 : decode cX10_isPinRead 42 = .ok (.iload_n 2, 1) := by decide +kernel
theorem dX10_isPinRead_43 : decode cX10_isPinRead 43 = .ok (.ireturn, 1) := by decide +kernel
/-! BumperBallsModel.isPinRead(I)Z -/
def fnX10_isPinRead_35 (rec4 : Mem → Int32 → Int32 → Int32 → Option (Int32 × Mem)) (I0 : Mem) (l1 : Int32) (l3 : Int32) (t0 : Int32) : Option (Int32 × Mem) :=
  bnd (l3 + 1) fun v1 => rec4 I0 l1 t0 v1
set_option maxRecDepth 20000 in
set_option maxHeartbeats 2000000 in
theorem ebX10_isPinRead_35 {g : Cfg} (C : Cx g RX10 cX10_isPinRead 4 0 0 0 0) {h : Shp} (H0 : MAt h) {r1 : Int32} {o1 : Mem} {rec4 : Mem → Int32 → Int32 → Int32 → Option (Int32 × Mem)} (ih4 : ∀ (I0 : Mem) (l1 : Int32) (l2 : Int32) (l3 : Int32), rec4 I0 l1 l2 l3 = some (r1, o1) → XE g 0 0 (I0, h) 4 [(0, rf g 111), (1, .int l1), (2, .int l2), (3, .int l3)] []) (q : QI g (some Jvm.ClassFile.FieldType.boolean) 0 0 r1 (o1, h)) {I0 : Mem} {l1 : Int32} {l3 : Int32} {t0 : Int32} (hf : fnX10_isPinRead_35 rec4 I0 l1 l3 t0 = some (r1, o1)) : XE g 0 0 (I0, h) 35 [(0, rf g 111), (1, .int l1), (3, .int l3)] [.int t0] := by
  unfold fnX10_isPinRead_35 at hf
  refine xr_istore_n C dX10_isPinRead_35 rfl (by decide) rfl ?_
  obtain ⟨v1, ev1, hf⟩ := bnd_x hf
  refine xr_iinc (k := 3) (v := v1) C dX10_isPinRead_36 rfl (by rw [ev1]; rfl) (by decide) rfl ?_
  refine xr_goto (tgt := 4) C dX10_isPinRead_39 (by decide) ?_
  refine xr_lv [2, 3, 1, 0] rfl ?_
  exact ih4 _ _ _ _ hf
def fnX10_isPinRead_30 (rec4 : Mem → Int32 → Int32 → Int32 → Option (Int32 × Mem)) (I0 : Mem) (l1 : Int32) (l3 : Int32) : Option (Int32 × Mem) :=
  fnX10_isPinRead_35 rec4 I0 l1 l3 1
set_option maxRecDepth 20000 in
set_option maxHeartbeats 2000000 in
theorem ebX10_isPinRead_30 {g : Cfg} (C : Cx g RX10 cX10_isPinRead 4 0 0 0 0) {h : Shp} (H0 : MAt h) {r1 : Int32} {o1 : Mem} {rec4 : Mem → Int32 → Int32 → Int32 → Option (Int32 × Mem)} (ih4 : ∀ (I0 : Mem) (l1 : Int32) (l2 : Int32) (l3 : Int32), rec4 I0 l1 l2 l3 = some (r1, o1) → XE g 0 0 (I0, h) 4 [(0, rf g 111), (1, .int l1), (2, .int l2), (3, .int l3)] []) (q : QI g (some Jvm.ClassFile.FieldType.boolean) 0 0 r1 (o1, h)) {I0 : Mem} {l1 : Int32} {l3 : Int32} (hf : fnX10_isPinRead_30 rec4 I0 l1 l3 = some (r1, o1)) : XE g 0 0 (I0, h) 30 [(0, rf g 111), (1, .int l1), (3, .int l3)] [] := by
  unfold fnX10_isPinRead_30 at hf
  refine xr_iconst (v := 1) C dX10_isPinRead_30 (by decide) ?_
  refine xr_goto (tgt := 35) C dX10_isPinRead_31 (by decide) ?_
  exact ebX10_isPinRead_35 C H0 ih4 q hf
def fnX10_isPinRead_4b (rec4 : Mem → Int32 → Int32 → Int32 → Option (Int32 × Mem)) (I0 : Mem) (l1 : Int32) (l2 : Int32) (l3 : Int32) : Option (Int32 × Mem) :=
  if (I0 111 17) ≤ l3 then (ck (zb l2) <| some (l2, I0)) else (if l2 = 0 then (ck (inb (((4 : Int32) * l3) + 1) 24) <| if (I0 119 (ix (((4 : Int32) * l3) + 1))) = l1 then (fnX10_isPinRead_30 rec4 I0 l1 l3) else (fnX10_isPinRead_35 rec4 I0 l1 l3 0)) else (fnX10_isPinRead_30 rec4 I0 l1 l3))
def fnX10_isPinRead_4 : Nat → Mem → Int32 → Int32 → Int32 → Option (Int32 × Mem)
  | 0 => fun _ _ _ _ => none
  | fu + 1 => fnX10_isPinRead_4b (fnX10_isPinRead_4 fu)
set_option maxRecDepth 20000 in
set_option maxHeartbeats 2000000 in
theorem ebX10_isPinRead_4b {g : Cfg} (C : Cx g RX10 cX10_isPinRead 4 0 0 0 0) {h : Shp} (H0 : MAt h) {r1 : Int32} {o1 : Mem} {rec4 : Mem → Int32 → Int32 → Int32 → Option (Int32 × Mem)} (q : QI g (some Jvm.ClassFile.FieldType.boolean) 0 0 r1 (o1, h)) (ih4 : ∀ (I0 : Mem) (l1 : Int32) (l2 : Int32) (l3 : Int32), rec4 I0 l1 l2 l3 = some (r1, o1) → XE g 0 0 (I0, h) 4 [(0, rf g 111), (1, .int l1), (2, .int l2), (3, .int l3)] []) {I0 : Mem} {l1 : Int32} {l2 : Int32} {l3 : Int32} (hf : fnX10_isPinRead_4b rec4 I0 l1 l2 l3 = some (r1, o1)) : XE g 0 0 (I0, h) 4 [(0, rf g 111), (1, .int l1), (2, .int l2), (3, .int l3)] [] := by
  unfold fnX10_isPinRead_4b at hf
  refine xr_iload_n C dX10_isPinRead_4 3 rfl rfl ?_
  refine xr_aload_n C dX10_isPinRead_5 0 rfl rfl ?_
  refine xr_geti C Kd10 (k := 17) (by decide) rfl wk_838 rfl H0.1 dX10_isPinRead_6 ?_
  refine xr_icmp_ge (tgt := 42) C dX10_isPinRead_9 (by decide) hf (fun c1 hf => ?_) (fun c1 hf => ?_)
  · refine xr_iload_n C dX10_isPinRead_42 2 rfl rfl ?_
    obtain ⟨z2, hf⟩ := ck_x hf
    exact xr_ireturn C q rfl (zb_ok z2).1 dX10_isPinRead_43 (so_1 hf) (so_w hf)
  · refine xr_iload_n C dX10_isPinRead_12 2 rfl rfl ?_
    refine xr_if_ne (tgt := 30) C dX10_isPinRead_13 (by decide) hf (fun c3 hf => ?_) (fun c3 hf => ?_)
    · refine xr_lv [0, 1, 3] rfl ?_
      exact ebX10_isPinRead_30 C H0 ih4 q hf
    · refine xr_aload_n C dX10_isPinRead_16 0 rfl rfl ?_
      refine xr_getr C Kd10 (k := 16) (by decide) rfl wk_837 rfl H0.1 H0.2.2.2.2.2.2.2.2.1.1 dX10_isPinRead_17 ?_
      refine xr_iconst (v := 4) C dX10_isPinRead_20 (by decide) ?_
      refine xr_iload_n C dX10_isPinRead_21 3 rfl rfl ?_
      refine xr_imul C dX10_isPinRead_22 ?_
      refine xr_iconst (v := 1) C dX10_isPinRead_23 (by decide) ?_
      refine xr_iadd C dX10_isPinRead_24 ?_
      obtain ⟨i4, hf⟩ := ck_x hf
      refine xr_iald C H0.2.2.2.2.2.2.2.2.1.2 i4 dX10_isPinRead_25 ?_
      refine xr_iload_n C dX10_isPinRead_26 1 rfl rfl ?_
      refine xr_icmp_ne (tgt := 34) C dX10_isPinRead_27 (by decide) hf (fun c5 hf => ?_) (fun c5 hf => ?_)
      · refine xr_iconst (v := 0) C dX10_isPinRead_34 (by decide) ?_
        refine xr_lv [0, 1, 3] rfl ?_
        exact ebX10_isPinRead_35 C H0 ih4 q hf
      · refine xr_lv [0, 1, 3] rfl ?_
        exact ebX10_isPinRead_30 C H0 ih4 q hf
theorem ebX10_isPinRead_4 {g : Cfg} (C : Cx g RX10 cX10_isPinRead 4 0 0 0 0) {h : Shp} (H0 : MAt h) {r1 : Int32} {o1 : Mem} (q : QI g (some Jvm.ClassFile.FieldType.boolean) 0 0 r1 (o1, h)) : ∀ (fu : Nat) {I0 : Mem} {l1 : Int32} {l2 : Int32} {l3 : Int32} (hf : fnX10_isPinRead_4 fu I0 l1 l2 l3 = some (r1, o1)), XE g 0 0 (I0, h) 4 [(0, rf g 111), (1, .int l1), (2, .int l2), (3, .int l3)] [] := by
  intro fu
  induction fu with
  | zero =>
    intro I0 l1 l2 l3 hf
    cases hf
  | succ fu ihn =>
    intro I0 l1 l2 l3 hf
    exact ebX10_isPinRead_4b C H0 q (fun _ _ _ _ hf => ihn hf) hf
def fnX10_isPinRead (I0 : Mem) (p1 : Int32) : Option (Int32 × Mem) :=
  fnX10_isPinRead_4 FU I0 p1 0 0
set_option maxRecDepth 20000 in
set_option maxHeartbeats 2000000 in
theorem ebX10_isPinRead_0 {g : Cfg} (C : Cx g RX10 cX10_isPinRead 4 0 0 0 0) {h : Shp} (H0 : MAt h) {r1 : Int32} {o1 : Mem} (q : QI g (some Jvm.ClassFile.FieldType.boolean) 0 0 r1 (o1, h)) {I0 : Mem} {p1 : Int32} (hf : fnX10_isPinRead I0 p1 = some (r1, o1)) : XE g 0 0 (I0, h) 0 [(0, rf g 111), (1, .int p1)] [] := by
  unfold fnX10_isPinRead at hf
  refine xr_iconst (v := 0) C dX10_isPinRead_0 (by decide) ?_
  refine xr_istore_n C dX10_isPinRead_1 rfl (by decide) rfl ?_
  refine xr_iconst (v := 0) C dX10_isPinRead_2 (by decide) ?_
  refine xr_istore_n C dX10_isPinRead_3 rfl (by decide) rfl ?_
  refine xr_lv [2, 3, 1, 0] rfl ?_
  exact ebX10_isPinRead_4 C H0 q _ hf
theorem kX10_isPinRead {B : Bs} {h : Shp} (H0 : MAt h) {I0 : Mem} {p1 : Int32} {r1 : Int32} {o1 : Mem} (hf : fnX10_isPinRead I0 p1 = some (r1, o1)) : CtrI B yX10_isPinRead cX10_isPinRead 4 (some Jvm.ClassFile.FieldType.boolean) 0 0 0 0 [rfB B 111, .int p1] (I0, h) r1 (o1, h) := by
  refine xr_enterI (lv0 := [(0, rfB B 111), (1, .int p1)]) (by decide) (Nat.le_of_ble_eq_true rfl) rfl (fun g hg C q => ?_)
  subst hg
  exact ebX10_isPinRead_0 C H0 q hf
theorem dX10_cell_0 : decode cX10_cell 0 = .ok (.aload_n 0, 1) := by decide +kernel
theorem dX10_cell_1 : decode cX10_cell 1 = .ok (.iconst 0, 1) := by decide +kernel
theorem dX10_cell_2 : decode cX10_cell 2 = .ok (.bipush 6, 2) := by decide +kernel
theorem dX10_cell_4 : decode cX10_cell 4 = .ok (.invokevirtual 119, 3) := by decide +kernel
theorem dX10_cell_7 : decode cX10_cell 7 = .ok (.istore_n 1, 1) := by decide +kernel
theorem dX10_cell_8 : decode cX10_cell 8 = .ok (.iload_n 1, 1) := by decide +kernel
theorem dX10_cell_9 : decode cX10_cell 9 = .ok (.ldc 19, 2) := by decide +kernel
theorem dX10_cell_11 : decode cX10_cell 11 = .ok (.if_icmp .ne 8, 3) := by decide +kernel
theorem dX10_cell_14 : decode cX10_cell 14 = .ok (.ldc 19, 2) := by decide +kernel
theorem dX10_cell_16 : decode cX10_cell 16 = .ok (.goto 9, 3) := by decide +kernel
theorem dX10_cell_19 : decode cX10_cell 19 = .ok (.aload_n 0, 1) := by decide +kernel
theorem dX10_cell_20 : decode cX10_cell 20 = .ok (.iconst 0, 1) := by decide +kernel
theorem dX10_cell_21 : decode cX10_cell 21 = .ok (.iconst 5, 1) := by decide +kernel
theorem dX10_cell_22 : decode cX10_cell 22 = .ok (.invokevirtual 106, 3) := by decide +kernel
theorem dX10_cell_25 : decode cX10_cell 25 = .ok (.istore_n 2, 1) := by decide +kernel
theorem dX10_cell_26 : decode cX10_cell 26 = .ok (.iload_n 2, 1) := by decide +kernel
theorem dX10_cell_27 : decode cX10_cell 27 = .ok (.ldc 19, 2) := by decide +kernel
theorem dX10_cell_29 : decode cX10_cell 29 = .ok (.if_icmp .ne 6, 3) := by decide +kernel
theorem dX10_cell_32 : decode cX10_cell 32 = .ok (.ldc 19, 2) := by decide +kernel
theorem dX10_cell_34 : decode cX10_cell 34 = .ok (.ireturn, 1) := by decide +kernel
theorem dX10_cell_35 : decode cX10_cell 35 = .ok (.aload_n 0, 1) := by decide +kernel
theorem dX10_cell_36 : decode cX10_cell 36 = .ok (.bipush 7, 2) := by decide +kernel
theorem dX10_cell_38 : decode cX10_cell 38 = .ok (.iload_n 2, 1) := by decide +kernel
theorem dX10_cell_39 : decode cX10_cell 39 = .ok (.imul, 1) := by decide +kernel
theorem dX10_cell_40 : decode cX10_cell 40 = .ok (.iload_n 1, 1) := by decide +kernel
theorem dX10_cell_41 : decode cX10_cell 41 = .ok (.iadd, 1) := by decide +kernel
theorem dX10_cell_42 : decode cX10_cell 42 = .ok (.invokevirtual 122, 3) := by decide +kernel
theorem dX10_cell_45 : decode cX10_cell 45 = .ok (.ifCond .eq 11, 3) := by decide +kernel
theorem dX10_cell_48 : decode cX10_cell 48 = .ok (.aload_n 0, 1) := by decide +kernel
theorem dX10_cell_49 : decode cX10_cell 49 = .ok (.iconst 2, 1) := by decide +kernel
theorem dX10_cell_50 : decode cX10_cell 50 = .ok (.putfield 103, 3) := by decide +kernel
theorem dX10_cell_53 : decode cX10_cell 53 = .ok (.ldc 19, 2) := by decide +kernel
theorem dX10_cell_55 : decode cX10_cell 55 = .ok (.ireturn, 1) := by decide +kernel
theorem dX10_cell_56 : decode cX10_cell 56 = .ok (.aload_n 0, 1) := by decide +kernel
theorem dX10_cell_57 : decode cX10_cell 57 = .ok (.invokevirtual 110, 3) := by decide +kernel
theorem dX10_cell_60 : decode cX10_cell 60 = .ok (.bipush 7, 2) := by decide +kernel
theorem dX10_cell_62 : decode cX10_cell 62 = .ok (.iload_n 2, 1) := by decide +kernel
theorem dX10_cell_63 : decode cX10_cell 63 = .ok (.imul, 1) := by decide +kernel
theorem dX10_cell_64 : decode cX10_cell 64 = .ok (.iload_n 1, 1) := by decide +kernel
theorem dX10_cell_65 : decode cX10_cell 65 = .ok (.iadd, 1) := by decide +kernel
theorem dX10_cell_66 : decode cX10_cell 66 = .ok (.ireturn, 1) := by decide +kernel
theorem lkX10_119 : LkV "BumperBallsModel" 119 yX10_number cX10_number 4 (some Jvm.ClassFile.FieldType.int) 2 := ⟨wk_959, wk_11, wk_958, wk_s69, ⟨by decide +kernel, by decide +kernel, by decide +kernel⟩, wk_956⟩
theorem lkX10_122 : LkV "BumperBallsModel" 122 yX10_isPinRead cX10_isPinRead 4 (some Jvm.ClassFile.FieldType.boolean) 1 := ⟨wk_996, wk_11, wk_995, wk_s77, ⟨by decide +kernel, by decide +kernel, by decide +kernel⟩, wk_993⟩
/-! BumperBallsModel.cell()I -/
def fnX10_cell_25 (I0 : Mem) (l1 : Int32) (t0 : Int32) : Option (Int32 × Mem) :=
  if t0 = (-1000000) then (some ((-1000000), I0)) else (ob (fnX10_isPinRead I0 (((7 : Int32) * t0) + l1)) fun ⟨r4, I3⟩ => if r4 = 0 then (ob (fnX10_token I3) fun I7 => some ((((7 : Int32) * t0) + l1), I7)) else (bnd (up2 I3 111 5 2) fun I8 => some ((-1000000), I8)))
set_option maxRecDepth 20000 in
set_option maxHeartbeats 2000000 in
theorem ebX10_cell_25 {g : Cfg} (C : Cx g RX10 cX10_cell 3 3 72 0 0) {h : Shp} (H0 : MAt h) {r1 : Int32} {o1 : Mem} (q : QI g (some Jvm.ClassFile.FieldType.int) 0 0 r1 (o1, h)) {I0 : Mem} {l1 : Int32} {t0 : Int32} (hf : fnX10_cell_25 I0 l1 t0 = some (r1, o1)) : XE g 0 0 (I0, h) 25 [(0, rf g 111), (1, .int l1)] [.int t0] := by
  unfold fnX10_cell_25 at hf
  refine xr_istore_n C dX10_cell_25 rfl (by decide) rfl ?_
  refine xr_iload_n C dX10_cell_26 0 rfl rfl ?_
  refine xr_ldc C wk_820 dX10_cell_27 ?_
  refine xr_icmp_ne (tgt := 35) C dX10_cell_29 (by decide) hf (fun c1 hf => ?_) (fun c1 hf => ?_)
  · refine xr_aload_n C dX10_cell_35 1 rfl rfl ?_
    refine xr_bipush (v := 7) C dX10_cell_36 (by decide) ?_
    refine xr_iload_n C dX10_cell_38 0 rfl rfl ?_
    refine xr_imul C dX10_cell_39 ?_
    refine xr_iload_n C dX10_cell_40 2 rfl rfl ?_
    refine xr_iadd C dX10_cell_41 ?_
    obtain ⟨⟨r4, I3⟩, h2, hf⟩ := ob_x hf
    refine xr_callVI C [.int (((7 : Int32) * t0) + l1)] lkX10_122 (kX10_isPinRead H0 h2) Kd10 rfl H0.1 rfl (Nat.le_of_ble_eq_true rfl) rfl dX10_cell_42 ⟨by decide, by decide, by decide⟩ rfl ?_
    refine xr_if_eq (tgt := 56) C dX10_cell_45 (by decide) hf (fun c5 hf => ?_) (fun c5 hf => ?_)
    · refine xr_aload_n C dX10_cell_56 1 rfl rfl ?_
      obtain ⟨I7, h6, hf⟩ := ob_x hf
      refine xr_callVV C [] lkX10_110 (kX10_token H0 h6) Kd10 rfl H0.1 rfl (Nat.le_of_ble_eq_true rfl) rfl dX10_cell_57 ⟨by decide, by decide, by decide⟩ rfl ?_
      refine xr_bipush (v := 7) C dX10_cell_60 (by decide) ?_
      refine xr_iload_n C dX10_cell_62 0 rfl rfl ?_
      refine xr_imul C dX10_cell_63 ?_
      refine xr_iload_n C dX10_cell_64 2 rfl rfl ?_
      refine xr_iadd C dX10_cell_65 ?_
      exact xr_ireturn C q rfl rfl dX10_cell_66 (so_1 hf) (so_w hf)
    · refine xr_aload_n C dX10_cell_48 1 rfl rfl ?_
      refine xr_iconst (v := 2) C dX10_cell_49 (by decide) ?_
      obtain ⟨I8, eI8, hf⟩ := bnd_x hf
      refine xr_putI C Kd10 (k := 5) (by decide) rfl rfl wk_826 rfl rfl rfl H0.1 dX10_cell_50 eI8 ?_
      refine xr_ldc C wk_820 dX10_cell_53 ?_
      exact xr_ireturn C q rfl rfl dX10_cell_55 (so_1 hf) (so_w hf)
  · refine xr_ldc C wk_820 dX10_cell_32 ?_
    exact xr_ireturn C q rfl rfl dX10_cell_34 (so_1 hf) (so_w hf)
def fnX10_cell (I0 : Mem) : Option (Int32 × Mem) :=
  ob (fnX10_number I0 0 6) fun ⟨r3, I2⟩ => if r3 = (-1000000) then (fnX10_cell_25 I2 r3 (-1000000)) else (ob (fnX10_numberHere I2 0 5) fun ⟨r7, I6⟩ => fnX10_cell_25 I6 r3 r7)
set_option maxRecDepth 20000 in
set_option maxHeartbeats 2000000 in
theorem ebX10_cell_0 {g : Cfg} (C : Cx g RX10 cX10_cell 3 3 72 0 0) {h : Shp} (H0 : MAt h) {r1 : Int32} {o1 : Mem} (q : QI g (some Jvm.ClassFile.FieldType.int) 0 0 r1 (o1, h)) {I0 : Mem} (hf : fnX10_cell I0 = some (r1, o1)) : XE g 0 0 (I0, h) 0 [(0, rf g 111)] [] := by
  unfold fnX10_cell at hf
  refine xr_aload_n C dX10_cell_0 0 rfl rfl ?_
  refine xr_iconst (v := 0) C dX10_cell_1 (by decide) ?_
  refine xr_bipush (v := 6) C dX10_cell_2 (by decide) ?_
  obtain ⟨⟨r3, I2⟩, h1, hf⟩ := ob_x hf
  refine xr_callVI C [.int 0, .int 6] lkX10_119 (kX10_number H0 h1) Kd10 rfl H0.1 rfl (Nat.le_of_ble_eq_true rfl) rfl dX10_cell_4 ⟨by decide, by decide, by decide⟩ rfl ?_
  refine xr_istore_n C dX10_cell_7 rfl (by decide) rfl ?_
  refine xr_iload_n C dX10_cell_8 0 rfl rfl ?_
  refine xr_ldc C wk_820 dX10_cell_9 ?_
  refine xr_icmp_ne (tgt := 19) C dX10_cell_11 (by decide) hf (fun c4 hf => ?_) (fun c4 hf => ?_)
  · refine xr_aload_n C dX10_cell_19 1 rfl rfl ?_
    refine xr_iconst (v := 0) C dX10_cell_20 (by decide) ?_
    refine xr_iconst (v := 5) C dX10_cell_21 (by decide) ?_
    obtain ⟨⟨r7, I6⟩, h5, hf⟩ := ob_x hf
    refine xr_callVI C [.int 0, .int 5] lkX10_106 (kX10_numberHere H0 h5) Kd10 rfl H0.1 rfl (Nat.le_of_ble_eq_true rfl) rfl dX10_cell_22 ⟨by decide, by decide, by decide⟩ rfl ?_
    refine xr_lv [1, 0] rfl ?_
    exact ebX10_cell_25 C H0 q hf
  · refine xr_ldc C wk_820 dX10_cell_14 ?_
    refine xr_goto (tgt := 25) C dX10_cell_16 (by decide) ?_
    refine xr_lv [1, 0] rfl ?_
    exact ebX10_cell_25 C H0 q hf
theorem kX10_cell {B : Bs} {h : Shp} (H0 : MAt h) {I0 : Mem} {r1 : Int32} {o1 : Mem} (hf : fnX10_cell I0 = some (r1, o1)) : CtrI B yX10_cell cX10_cell 3 (some Jvm.ClassFile.FieldType.int) 3 72 0 0 [rfB B 111] (I0, h) r1 (o1, h) := by
  refine xr_enterI (lv0 := [(0, rfB B 111)]) (by decide) (Nat.le_of_ble_eq_true rfl) rfl (fun g hg C q => ?_)
  subst hg
  exact ebX10_cell_0 C H0 q hf
