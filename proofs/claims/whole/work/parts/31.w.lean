theorem dX9_init_0 : decode cX9_init 0 = .ok (.aload_n 0, 1) := by decide +kernel
theorem dX9_init_1 : decode cX9_init 1 = .ok (.invokespecial 1, 3) := by decide +kernel
theorem dX9_init_4 : decode cX9_init 4 = .ok (.aload_n 0, 1) := by decide +kernel
theorem dX9_init_5 : decode cX9_init 5 = .ok (.new 7, 3) := by decide +kernel
theorem dX9_init_8 : decode cX9_init 8 = .ok (.dup, 1) := by decide +kernel
theorem dX9_init_9 : decode cX9_init 9 = .ok (.invokespecial 9, 3) := by decide +kernel
theorem dX9_init_12 : decode cX9_init 12 = .ok (.putfield 10, 3) := by decide +kernel
theorem dX9_init_15 : decode cX9_init 15 = .ok (.aload_n 0, 1) := by decide +kernel
theorem dX9_init_16 : decode cX9_init 16 = .ok (.new 16, 3) := by decide +kernel
theorem dX9_init_19 : decode cX9_init 19 = .ok (.dup, 1) := by decide +kernel
theorem dX9_init_20 : decode cX9_init 20 = .ok (.invokespecial 18, 3) := by decide +kernel
theorem dX9_init_23 : decode cX9_init 23 = .ok (.putfield 19, 3) := by decide +kernel
theorem dX9_init_26 : decode cX9_init 26 = .ok (.aload_n 0, 1) := by decide +kernel
theorem dX9_init_27 : decode cX9_init 27 = .ok (.new 23, 3) := by decide +kernel
theorem dX9_init_30 : decode cX9_init 30 = .ok (.dup, 1) := by decide +kernel
theorem dX9_init_31 : decode cX9_init 31 = .ok (.invokespecial 25, 3) := by decide +kernel
theorem dX9_init_34 : decode cX9_init 34 = .ok (.putfield 26, 3) := by decide +kernel
theorem dX9_init_37 : decode cX9_init 37 = .ok (.aload_n 0, 1) := by decide +kernel
theorem dX9_init_38 : decode cX9_init 38 = .ok (.new 30, 3) := by decide +kernel
theorem dX9_init_41 : decode cX9_init 41 = .ok (.dup, 1) := by decide +kernel
theorem dX9_init_42 : decode cX9_init 42 = .ok (.invokespecial 32, 3) := by decide +kernel
theorem dX9_init_45 : decode cX9_init 45 = .ok (.putfield 33, 3) := by decide +kernel
theorem dX9_init_48 : decode cX9_init 48 = .ok (.aload_n 0, 1) := by decide +kernel
theorem dX9_init_49 : decode cX9_init 49 = .ok (.new 37, 3) := by decide +kernel
theorem dX9_init_52 : decode cX9_init 52 = .ok (.dup, 1) := by decide +kernel
theorem dX9_init_53 : decode cX9_init 53 = .ok (.invokespecial 39, 3) := by decide +kernel
theorem dX9_init_56 : decode cX9_init 56 = .ok (.putfield 40, 3) := by decide +kernel
theorem dX9_init_59 : decode cX9_init 59 = .ok (.aload_n 0, 1) := by decide +kernel
theorem dX9_init_60 : decode cX9_init 60 = .ok (.iconst 2, 1) := by decide +kernel
theorem dX9_init_61 : decode cX9_init 61 = .ok (.anewarray 44, 3) := by decide +kernel
theorem dX9_init_64 : decode cX9_init 64 = .ok (.putfield 46, 3) := by decide +kernel
theorem dX9_init_67 : decode cX9_init 67 = .ok (.aload_n 0, 1) := by decide +kernel
theorem dX9_init_68 : decode cX9_init 68 = .ok (.new 30, 3) := by decide +kernel
theorem dX9_init_71 : decode cX9_init 71 = .ok (.dup, 1) := by decide +kernel
theorem dX9_init_72 : decode cX9_init 72 = .ok (.invokespecial 32, 3) := by decide +kernel
theorem dX9_init_75 : decode cX9_init 75 = .ok (.putfield 50, 3) := by decide +kernel
theorem dX9_init_78 : decode cX9_init 78 = .ok (.aload_n 0, 1) := by decide +kernel
theorem dX9_init_79 : decode cX9_init 79 = .ok (.new 53, 3) := by decide +kernel
theorem dX9_init_82 : decode cX9_init 82 = .ok (.dup, 1) := by decide +kernel
theorem dX9_init_83 : decode cX9_init 83 = .ok (.invokespecial 55, 3) := by decide +kernel
theorem dX9_init_86 : decode cX9_init 86 = .ok (.putfield 56, 3) := by decide +kernel
theorem dX9_init_89 : decode cX9_init 89 = .ok (.aload_n 0, 1) := by decide +kernel
theorem dX9_init_90 : decode cX9_init 90 = .ok (.new 60, 3) := by decide +kernel
theorem dX9_init_93 : decode cX9_init 93 = .ok (.dup, 1) := by decide +kernel
theorem dX9_init_94 : decode cX9_init 94 = .ok (.invokespecial 62, 3) := by decide +kernel
theorem dX9_init_97 : decode cX9_init 97 = .ok (.putfield 63, 3) := by decide +kernel
theorem dX9_init_100 : decode cX9_init 100 = .ok (.aload_n 0, 1) := by decide +kernel
theorem dX9_init_101 : decode cX9_init 101 = .ok (.iconst 0, 1) := by decide +kernel
theorem dX9_init_102 : decode cX9_init 102 = .ok (.putfield 67, 3) := by decide +kernel
theorem dX9_init_105 : decode cX9_init 105 = .ok (.aload_n 0, 1) := by decide +kernel
theorem dX9_init_106 : decode cX9_init 106 = .ok (.iconst 0, 1) := by decide +kernel
theorem dX9_init_107 : decode cX9_init 107 = .ok (.putfield 71, 3) := by decide +kernel
theorem dX9_init_110 : decode cX9_init 110 = .ok (.aload_n 0, 1) := by decide +kernel
theorem dX9_init_111 : decode cX9_init 111 = .ok (.iconst 0, 1) := by decide +kernel
theorem dX9_init_112 : decode cX9_init 112 = .ok (.putfield 75, 3) := by decide +kernel
theorem dX9_init_115 : decode cX9_init 115 = .ok (.iconst 0, 1) := by decide +kernel
theorem dX9_init_116 : decode cX9_init 116 = .ok (.istore_n 1, 1) := by decide +kernel
theorem dX9_init_117 : decode cX9_init 117 = .ok (.iload_n 1, 1) := by decide +kernel
theorem dX9_init_118 : decode cX9_init 118 = .ok (.iconst 2, 1) := by decide +kernel
theorem dX9_init_119 : decode cX9_init 119 = .ok (.if_icmp .ge 22, 3) := by decide +kernel
theorem dX9_init_122 : decode cX9_init 122 = .ok (.aload_n 0, 1) := by decide +kernel
theorem dX9_init_123 : decode cX9_init 123 = .ok (.getfield 46, 3) := by decide +kernel
theorem dX9_init_126 : decode cX9_init 126 = .ok (.iload_n 1, 1) := by decide +kernel
theorem dX9_init_127 : decode cX9_init 127 = .ok (.new 44, 3) := by decide +kernel
theorem dX9_init_130 : decode cX9_init 130 = .ok (.dup, 1) := by decide +kernel
theorem dX9_init_131 : decode cX9_init 131 = .ok (.invokespecial 78, 3) := by decide +kernel
theorem dX9_init_134 : decode cX9_init 134 = .ok (.aastore, 1) := by decide +kernel
theorem dX9_init_135 : decode cX9_init 135 = .ok (.iinc 1 1, 3) := by decide +kernel
theorem dX9_init_138 : decode cX9_init 138 = .ok (.goto (-21), 3) := by decide +kernel
theorem dX9_init_141 : decode cX9_init 141 = .ok (.return_, 1) := by decide +kernel
/-! BumperBalls.<init>()V -/
def fwX9_init_117b (mB sB : Nat) (rec117 : Wt → Nat → Nat → Nat → Int32 → Option Wt) (w0 : Wt) (ce sl : Nat) (x0 : Nat) (l1 : Int32) : Option Wt :=
  if (2 : Int32) ≤ l1 then (ck (cnB ce sl mB sB) <| some w0) else (ck (isK w0 x0 9) <| ob (w0.2.1 x0 5) fun x_4 => ck (rmB (ce + 1) (sl + 3) mB sB) <| bnd (al w0 2 3) fun w6 => ob (fwX2_init 8 89 w6 0 0 w0.2.2.2.2) fun w8 => ck (rmB ((ce + 1) + 8) ((sl + 3) + 89) mB sB) <| ck (decide (w8.2.2.2.2 = w6.2.2.2.2 + 8)) <| ck (isK w8 x_4 12) <| ck (inb l1 (w8.2.2.2.1 x_4)) <| ck (isK w8 w0.2.2.2.2 2) <| bnd ((w8.1, up2 w8.2.1 x_4 (ix l1) (some w0.2.2.2.2), w8.2.2) : Wt) fun w15 => bnd (l1 + 1) fun v16 => rec117 w15 ((ce + 1) + 8) ((sl + 3) + 89) x0 v16)
def fwX9_init_117 (mB sB : Nat) : Nat → Wt → Nat → Nat → Nat → Int32 → Option Wt
  | 0 => fun _ _ _ _ _ => none
  | fu + 1 => fwX9_init_117b mB sB (fwX9_init_117 mB sB fu)
set_option maxRecDepth 20000 in
set_option maxHeartbeats 2000000 in
theorem ewX9_init_117b {g : Cfg} {mB sB : Nat} (C : Cx g RX9 cX9_init 2 3 61 mB sB) (hin : g.2.2.2.2.2.2.2.2.1.name = "<init>") {o1 : Wt} {rec117 : Wt → Nat → Nat → Nat → Int32 → Option Wt} (q : QV g mB sB o1) (ih117 : ∀ (w0 : Wt) (ce sl : Nat) (x0 : Nat) (l1 : Int32), rec117 w0 ce sl x0 l1 = some o1 → XE g ce sl w0 117 [(0, rf g x0), (1, .int l1)] []) {w0 : Wt} {ce sl : Nat} {x0 : Nat} {l1 : Int32} (hf : fwX9_init_117b mB sB rec117 w0 ce sl x0 l1 = some o1) : XE g ce sl w0 117 [(0, rf g x0), (1, .int l1)] [] := by
  unfold fwX9_init_117b at hf
  refine xr_iload_n C dX9_init_117 1 rfl rfl ?_
  refine xr_iconst (v := 2) C dX9_init_118 (by decide) ?_
  refine xr_icmp_ge (tgt := 141) C dX9_init_119 (by decide) hf (fun c1 hf => ?_) (fun c1 hf => ?_)
  · obtain ⟨z2, hf⟩ := ck_x hf
    obtain ⟨q1, q2⟩ := cnB_ok z2
    exact xr_returnW C q q1 q2 dX9_init_141 (Option.some.inj hf)
  · refine xr_aload_n C dX9_init_122 0 rfl rfl ?_
    obtain ⟨z3, hf⟩ := ck_x hf
    obtain ⟨x_4, r5, hf⟩ := ob_x hf
    refine xr_getr C Kd9 (k := 5) (by decide) rfl wk_310 rfl (isK_ok z3) r5 dX9_init_123 ?_
    refine xr_iload_n C dX9_init_126 1 rfl rfl ?_
    obtain ⟨z7, hf⟩ := ck_x hf
    obtain ⟨w6, ew6, hf⟩ := bnd_x hf
    refine xr_new C Kd2 df2 wk_212 wk_283 wk_10 (rmB_ok z7) dX9_init_127 ew6 ?_
    refine xr_dup C dX9_init_130 rfl ?_
    obtain ⟨w8, h9, hf⟩ := ob_x hf
    obtain ⟨z10, hf⟩ := ck_x hf
    obtain ⟨z11, hf⟩ := ck_x hf
    refine xr_callC (np := 0) C [] wk_286 wk_10 wk_285 rfl ⟨by decide +kernel, by decide +kernel, by decide +kernel⟩ (List.mem_of_getElem? (i := 81) (by decide +kernel)) (kwX2_init h9) rfl (Nat.le_of_ble_eq_true rfl) rfl dX9_init_131 ⟨by decide, (rmB_ok z10).1, (rmB_ok z10).2⟩ (of_decide_eq_true z11) ?_
    obtain ⟨z12, hf⟩ := ck_x hf
    obtain ⟨i13, hf⟩ := ck_x hf
    obtain ⟨z14, hf⟩ := ck_x hf
    obtain ⟨w15, ew15, hf⟩ := bnd_x hf
    refine xr_aast C (by decide) Kd2 (isA_ok z12) i13 (isK_ok z14) dX9_init_134 ew15 ?_
    obtain ⟨v16, ev16, hf⟩ := bnd_x hf
    refine xr_iinc (k := 1) (v := v16) C dX9_init_135 rfl (by rw [ev16]; rfl) (by decide) rfl ?_
    refine xr_goto (tgt := 117) C dX9_init_138 (by decide) ?_
    refine xr_lv [1, 0] rfl ?_
    exact ih117 _ _ _ _ _ hf
theorem ewX9_init_117 {g : Cfg} {mB sB : Nat} (C : Cx g RX9 cX9_init 2 3 61 mB sB) (hin : g.2.2.2.2.2.2.2.2.1.name = "<init>") {o1 : Wt} (q : QV g mB sB o1) : ∀ (fu : Nat) {w0 : Wt} {ce sl : Nat} {x0 : Nat} {l1 : Int32} (hf : fwX9_init_117 mB sB fu w0 ce sl x0 l1 = some o1), XE g ce sl w0 117 [(0, rf g x0), (1, .int l1)] [] := by
  intro fu
  induction fu with
  | zero =>
    intro w0 ce sl x0 l1 hf
    cases hf
  | succ fu ihn =>
    intro w0 ce sl x0 l1 hf
    exact ewX9_init_117b C hin q (fun _ _ _ _ _ hf => ihn hf) hf
def fwX9_init (mB sB : Nat) (w0 : Wt) (ce sl : Nat) (x0 : Nat) : Option Wt :=
  ck (rmB (ce + 1) (sl + 3) mB sB) <| bnd (al w0 5 3) fun w1 => ob (fwX5_init 11 344 w1 0 0 w0.2.2.2.2) fun w3 => ck (rmB ((ce + 1) + 11) ((sl + 3) + 344) mB sB) <| ck (decide (w3.2.2.2.2 = w1.2.2.2.2 + 11)) <| ck (isK w3 x0 9) <| bnd ((w3.1, up2 w3.2.1 x0 0 (some w0.2.2.2.2), w3.2.2) : Wt) fun w8 => ck (rmB (((ce + 1) + 11) + 1) (((sl + 3) + 344) + 10) mB sB) <| bnd (al w8 8 10) fun w9 => ob (fwX8_init 7 473 w9 0 0 w8.2.2.2.2) fun w11 => ck (rmB ((((ce + 1) + 11) + 1) + 7) ((((sl + 3) + 344) + 10) + 473) mB sB) <| ck (decide (w11.2.2.2.2 = w9.2.2.2.2 + 7)) <| ck (isK w11 x0 9) <| bnd ((w11.1, up2 w11.2.1 x0 1 (some w8.2.2.2.2), w11.2.2) : Wt) fun w16 => ck (rmB (((((ce + 1) + 11) + 1) + 7) + 1) (((((sl + 3) + 344) + 10) + 473) + 7) mB sB) <| bnd (al w16 7 7) fun w17 => ob (fwX7_init 5 66 w17 0 0 w16.2.2.2.2) fun w19 => ck (rmB ((((((ce + 1) + 11) + 1) + 7) + 1) + 5) ((((((sl + 3) + 344) + 10) + 473) + 7) + 66) mB sB) <| ck (decide (w19.2.2.2.2 = w17.2.2.2.2 + 5)) <| ck (isK w19 x0 9) <| bnd ((w19.1, up2 w19.2.1 x0 2 (some w16.2.2.2.2), w19.2.2) : Wt) fun w24 => ck (rmB (((((((ce + 1) + 11) + 1) + 7) + 1) + 5) + 1) (((((((sl + 3) + 344) + 10) + 473) + 7) + 66) + 10) mB sB) <| bnd (al w24 4 10) fun w25 => ob (fwX4_init 1 6 w25 0 0 w24.2.2.2.2) fun w27 => ck (rmB ((((((((ce + 1) + 11) + 1) + 7) + 1) + 5) + 1) + 1) ((((((((sl + 3) + 344) + 10) + 473) + 7) + 66) + 10) + 6) mB sB) <| ck (decide (w27.2.2.2.2 = w25.2.2.2.2 + 1)) <| ck (isK w27 x0 9) <| bnd ((w27.1, up2 w27.2.1 x0 3 (some w24.2.2.2.2), w27.2.2) : Wt) fun w32 => ck (rmB (((((((((ce + 1) + 11) + 1) + 7) + 1) + 5) + 1) + 1) + 1) (((((((((sl + 3) + 344) + 10) + 473) + 7) + 66) + 10) + 6) + 3) mB sB) <| bnd (al w32 0 3) fun w33 => ob (fwX0_init 49 408 w33 0 0 w32.2.2.2.2) fun w35 => ck (rmB ((((((((((ce + 1) + 11) + 1) + 7) + 1) + 5) + 1) + 1) + 1) + 49) ((((((((((sl + 3) + 344) + 10) + 473) + 7) + 66) + 10) + 6) + 3) + 408) mB sB) <| ck (decide (w35.2.2.2.2 = w33.2.2.2.2 + 49)) <| ck (isK w35 x0 9) <| bnd ((w35.1, up2 w35.2.1 x0 4 (some w32.2.2.2.2), w35.2.2) : Wt) fun w40 => ck (rmB (((((((((((ce + 1) + 11) + 1) + 7) + 1) + 5) + 1) + 1) + 1) + 49) + 1) (((((((((((sl + 3) + 344) + 10) + 473) + 7) + 66) + 10) + 6) + 3) + 408) + 2) mB sB) <| bnd (al w40 12 2) fun w41 => ck (isK w41 x0 9) <| bnd ((w41.1, up2 w41.2.1 x0 5 (some w40.2.2.2.2), w41.2.2) : Wt) fun w44 => ck (rmB ((((((((((((ce + 1) + 11) + 1) + 7) + 1) + 5) + 1) + 1) + 1) + 49) + 1) + 1) ((((((((((((sl + 3) + 344) + 10) + 473) + 7) + 66) + 10) + 6) + 3) + 408) + 2) + 10) mB sB) <| bnd (al w44 4 10) fun w45 => ob (fwX4_init 1 6 w45 0 0 w44.2.2.2.2) fun w47 => ck (rmB (((((((((((((ce + 1) + 11) + 1) + 7) + 1) + 5) + 1) + 1) + 1) + 49) + 1) + 1) + 1) (((((((((((((sl + 3) + 344) + 10) + 473) + 7) + 66) + 10) + 6) + 3) + 408) + 2) + 10) + 6) mB sB) <| ck (decide (w47.2.2.2.2 = w45.2.2.2.2 + 1)) <| ck (isK w47 x0 9) <| bnd ((w47.1, up2 w47.2.1 x0 6 (some w44.2.2.2.2), w47.2.2) : Wt) fun w52 => ck (rmB ((((((((((((((ce + 1) + 11) + 1) + 7) + 1) + 5) + 1) + 1) + 1) + 49) + 1) + 1) + 1) + 1) ((((((((((((((sl + 3) + 344) + 10) + 473) + 7) + 66) + 10) + 6) + 3) + 408) + 2) + 10) + 6) + 4) mB sB) <| bnd (al w52 6 4) fun w53 => ob (fwX6_init 8 694 w53 0 0 w52.2.2.2.2) fun w55 => ck (rmB (((((((((((((((ce + 1) + 11) + 1) + 7) + 1) + 5) + 1) + 1) + 1) + 49) + 1) + 1) + 1) + 1) + 8) (((((((((((((((sl + 3) + 344) + 10) + 473) + 7) + 66) + 10) + 6) + 3) + 408) + 2) + 10) + 6) + 4) + 694) mB sB) <| ck (decide (w55.2.2.2.2 = w53.2.2.2.2 + 8)) <| ck (isK w55 x0 9) <| bnd ((w55.1, up2 w55.2.1 x0 7 (some w52.2.2.2.2), w55.2.2) : Wt) fun w60 => ck (rmB ((((((((((((((((ce + 1) + 11) + 1) + 7) + 1) + 5) + 1) + 1) + 1) + 49) + 1) + 1) + 1) + 1) + 8) + 1) ((((((((((((((((sl + 3) + 344) + 10) + 473) + 7) + 66) + 10) + 6) + 3) + 408) + 2) + 10) + 6) + 4) + 694) + 6) mB sB) <| bnd (al w60 1 6) fun w61 => ob (fwX1_init 1 16 w61 0 0 w60.2.2.2.2) fun w63 => ck (rmB (((((((((((((((((ce + 1) + 11) + 1) + 7) + 1) + 5) + 1) + 1) + 1) + 49) + 1) + 1) + 1) + 1) + 8) + 1) + 1) (((((((((((((((((sl + 3) + 344) + 10) + 473) + 7) + 66) + 10) + 6) + 3) + 408) + 2) + 10) + 6) + 4) + 694) + 6) + 16) mB sB) <| ck (decide (w63.2.2.2.2 = w61.2.2.2.2 + 1)) <| ck (isK w63 x0 9) <| bnd ((w63.1, up2 w63.2.1 x0 8 (some w60.2.2.2.2), w63.2.2) : Wt) fun w68 => ck (isK w68 x0 9) <| bnd ((up2 w68.1 x0 9 0, w68.2) : Wt) fun w70 => ck (isK w70 x0 9) <| bnd ((up2 w70.1 x0 10 0, w70.2) : Wt) fun w72 => ck (isK w72 x0 9) <| bnd ((up2 w72.1 x0 11 0, w72.2) : Wt) fun w74 => fwX9_init_117 mB sB FU w74 (((((((((((((((((ce + 1) + 11) + 1) + 7) + 1) + 5) + 1) + 1) + 1) + 49) + 1) + 1) + 1) + 1) + 8) + 1) + 1) (((((((((((((((((sl + 3) + 344) + 10) + 473) + 7) + 66) + 10) + 6) + 3) + 408) + 2) + 10) + 6) + 4) + 694) + 6) + 16) x0 0
set_option maxRecDepth 20000 in
set_option maxHeartbeats 2000000 in
theorem ewX9_init_0 {g : Cfg} {mB sB : Nat} (C : Cx g RX9 cX9_init 2 3 61 mB sB) (hin : g.2.2.2.2.2.2.2.2.1.name = "<init>") {o1 : Wt} (q : QV g mB sB o1) {w0 : Wt} {ce sl : Nat} {x0 : Nat} (hf : fwX9_init mB sB w0 ce sl x0 = some o1) : XE g ce sl w0 0 [(0, rf g x0)] [] := by
  unfold fwX9_init at hf
  refine xr_aload_n C dX9_init_0 0 rfl rfl ?_
  refine xr_objinit C wk_23 wk_oi1 wk_oi2 (by decide) (Nat.le_of_ble_eq_true rfl) dX9_init_1 ?_
  refine xr_aload_n C dX9_init_4 0 rfl rfl ?_
  obtain ⟨z2, hf⟩ := ck_x hf
  obtain ⟨w1, ew1, hf⟩ := bnd_x hf
  refine xr_new C Kd5 df5 wk_26 wk_27 wk_2 (rmB_ok z2) dX9_init_5 ew1 ?_
  refine xr_dup C dX9_init_8 rfl ?_
  obtain ⟨w3, h4, hf⟩ := ob_x hf
  obtain ⟨z5, hf⟩ := ck_x hf
  obtain ⟨z6, hf⟩ := ck_x hf
  refine xr_callC (np := 0) C [] wk_30 wk_2 wk_29 rfl ⟨by decide +kernel, by decide +kernel, by decide +kernel⟩ (List.mem_of_getElem? (i := 82) (by decide +kernel)) (kwX5_init h4) rfl (Nat.le_of_ble_eq_true rfl) rfl dX9_init_9 ⟨by decide, (rmB_ok z5).1, (rmB_ok z5).2⟩ (of_decide_eq_true z6) ?_
  obtain ⟨z7, hf⟩ := ck_x hf
  obtain ⟨w8, ew8, hf⟩ := bnd_x hf
  refine xr_putRF C hin Kd9 (k := 0) (by decide) rfl rfl rfl wk_305 rfl (fun _ => ⟨rfl, rfl⟩) (isK_ok z7) dX9_init_12 ew8 ?_
  refine xr_aload_n C dX9_init_15 0 rfl rfl ?_
  obtain ⟨z10, hf⟩ := ck_x hf
  obtain ⟨w9, ew9, hf⟩ := bnd_x hf
  refine xr_new C Kd8 df8 wk_47 wk_48 wk_3 (rmB_ok z10) dX9_init_16 ew9 ?_
  refine xr_dup C dX9_init_19 rfl ?_
  obtain ⟨w11, h12, hf⟩ := ob_x hf
  obtain ⟨z13, hf⟩ := ck_x hf
  obtain ⟨z14, hf⟩ := ck_x hf
  refine xr_callC (np := 0) C [] wk_51 wk_3 wk_50 rfl ⟨by decide +kernel, by decide +kernel, by decide +kernel⟩ (List.mem_of_getElem? (i := 59) (by decide +kernel)) (kwX8_init h12) rfl (Nat.le_of_ble_eq_true rfl) rfl dX9_init_20 ⟨by decide, (rmB_ok z13).1, (rmB_ok z13).2⟩ (of_decide_eq_true z14) ?_
  obtain ⟨z15, hf⟩ := ck_x hf
  obtain ⟨w16, ew16, hf⟩ := bnd_x hf
  refine xr_putRF C hin Kd9 (k := 1) (by decide) rfl rfl rfl wk_306 rfl (fun _ => ⟨rfl, rfl⟩) (isK_ok z15) dX9_init_23 ew16 ?_
  refine xr_aload_n C dX9_init_26 0 rfl rfl ?_
  obtain ⟨z18, hf⟩ := ck_x hf
  obtain ⟨w17, ew17, hf⟩ := bnd_x hf
  refine xr_new C Kd7 df7 wk_137 wk_54 wk_4 (rmB_ok z18) dX9_init_27 ew17 ?_
  refine xr_dup C dX9_init_30 rfl ?_
  obtain ⟨w19, h20, hf⟩ := ob_x hf
  obtain ⟨z21, hf⟩ := ck_x hf
  obtain ⟨z22, hf⟩ := ck_x hf
  refine xr_callC (np := 0) C [] wk_57 wk_4 wk_56 rfl ⟨by decide +kernel, by decide +kernel, by decide +kernel⟩ (List.mem_of_getElem? (i := 67) (by decide +kernel)) (kwX7_init h20) rfl (Nat.le_of_ble_eq_true rfl) rfl dX9_init_31 ⟨by decide, (rmB_ok z21).1, (rmB_ok z21).2⟩ (of_decide_eq_true z22) ?_
  obtain ⟨z23, hf⟩ := ck_x hf
  obtain ⟨w24, ew24, hf⟩ := bnd_x hf
  refine xr_putRF C hin Kd9 (k := 2) (by decide) rfl rfl rfl wk_307 rfl (fun _ => ⟨rfl, rfl⟩) (isK_ok z23) dX9_init_34 ew24 ?_
  refine xr_aload_n C dX9_init_37 0 rfl rfl ?_
  obtain ⟨z26, hf⟩ := ck_x hf
  obtain ⟨w25, ew25, hf⟩ := bnd_x hf
  refine xr_new C Kd4 df4 wk_139 wk_140 wk_5 (rmB_ok z26) dX9_init_38 ew25 ?_
  refine xr_dup C dX9_init_41 rfl ?_
  obtain ⟨w27, h28, hf⟩ := ob_x hf
  obtain ⟨z29, hf⟩ := ck_x hf
  obtain ⟨z30, hf⟩ := ck_x hf
  refine xr_callC (np := 0) C [] wk_143 wk_5 wk_142 rfl ⟨by decide +kernel, by decide +kernel, by decide +kernel⟩ (List.mem_of_getElem? (i := 77) (by decide +kernel)) (kwX4_init h28) rfl (Nat.le_of_ble_eq_true rfl) rfl dX9_init_42 ⟨by decide, (rmB_ok z29).1, (rmB_ok z29).2⟩ (of_decide_eq_true z30) ?_
  obtain ⟨z31, hf⟩ := ck_x hf
  obtain ⟨w32, ew32, hf⟩ := bnd_x hf
  refine xr_putRF C hin Kd9 (k := 3) (by decide) rfl rfl rfl wk_308 rfl (fun _ => ⟨rfl, rfl⟩) (isK_ok z31) dX9_init_45 ew32 ?_
  refine xr_aload_n C dX9_init_48 0 rfl rfl ?_
  obtain ⟨z34, hf⟩ := ck_x hf
  obtain ⟨w33, ew33, hf⟩ := bnd_x hf
  refine xr_new C Kd0 df0 wk_192 wk_193 wk_6 (rmB_ok z34) dX9_init_49 ew33 ?_
  refine xr_dup C dX9_init_52 rfl ?_
  obtain ⟨w35, h36, hf⟩ := ob_x hf
  obtain ⟨z37, hf⟩ := ck_x hf
  obtain ⟨z38, hf⟩ := ck_x hf
  refine xr_callC (np := 0) C [] wk_196 wk_6 wk_195 rfl ⟨by decide +kernel, by decide +kernel, by decide +kernel⟩ (List.mem_of_getElem? (i := 78) (by decide +kernel)) (kwX0_init h36) rfl (Nat.le_of_ble_eq_true rfl) rfl dX9_init_53 ⟨by decide, (rmB_ok z37).1, (rmB_ok z37).2⟩ (of_decide_eq_true z38) ?_
  obtain ⟨z39, hf⟩ := ck_x hf
  obtain ⟨w40, ew40, hf⟩ := bnd_x hf
  refine xr_putRF C hin Kd9 (k := 4) (by decide) rfl rfl rfl wk_309 rfl (fun _ => ⟨rfl, rfl⟩) (isK_ok z39) dX9_init_56 ew40 ?_
  refine xr_aload_n C dX9_init_59 0 rfl rfl ?_
  refine xr_iconst (v := 2) C dX9_init_60 (by decide) ?_
  obtain ⟨z42, hf⟩ := ck_x hf
  obtain ⟨w41, ew41, hf⟩ := bnd_x hf
  refine xr_newq (N0 := 2) (kd := 12) C (by decide) wk_212 (by decide) rfl (by decide) (rmB_ok z42) dX9_init_61 ew41 ?_
  obtain ⟨z43, hf⟩ := ck_x hf
  obtain ⟨w44, ew44, hf⟩ := bnd_x hf
  refine xr_putRF C hin Kd9 (k := 5) (by decide) rfl rfl rfl wk_310 rfl (fun _ => ⟨rfl, rfl⟩) (isK_ok z43) dX9_init_64 ew44 ?_
  refine xr_aload_n C dX9_init_67 0 rfl rfl ?_
  obtain ⟨z46, hf⟩ := ck_x hf
  obtain ⟨w45, ew45, hf⟩ := bnd_x hf
  refine xr_new C Kd4 df4 wk_139 wk_140 wk_5 (rmB_ok z46) dX9_init_68 ew45 ?_
  refine xr_dup C dX9_init_71 rfl ?_
  obtain ⟨w47, h48, hf⟩ := ob_x hf
  obtain ⟨z49, hf⟩ := ck_x hf
  obtain ⟨z50, hf⟩ := ck_x hf
  refine xr_callC (np := 0) C [] wk_143 wk_5 wk_142 rfl ⟨by decide +kernel, by decide +kernel, by decide +kernel⟩ (List.mem_of_getElem? (i := 77) (by decide +kernel)) (kwX4_init h48) rfl (Nat.le_of_ble_eq_true rfl) rfl dX9_init_72 ⟨by decide, (rmB_ok z49).1, (rmB_ok z49).2⟩ (of_decide_eq_true z50) ?_
  obtain ⟨z51, hf⟩ := ck_x hf
  obtain ⟨w52, ew52, hf⟩ := bnd_x hf
  refine xr_putRF C hin Kd9 (k := 6) (by decide) rfl rfl rfl wk_311 rfl (fun _ => ⟨rfl, rfl⟩) (isK_ok z51) dX9_init_75 ew52 ?_
  refine xr_aload_n C dX9_init_78 0 rfl rfl ?_
  obtain ⟨z54, hf⟩ := ck_x hf
  obtain ⟨w53, ew53, hf⟩ := bnd_x hf
  refine xr_new C Kd6 df6 wk_214 wk_215 wk_7 (rmB_ok z54) dX9_init_79 ew53 ?_
  refine xr_dup C dX9_init_82 rfl ?_
  obtain ⟨w55, h56, hf⟩ := ob_x hf
  obtain ⟨z57, hf⟩ := ck_x hf
  obtain ⟨z58, hf⟩ := ck_x hf
  refine xr_callC (np := 0) C [] wk_218 wk_7 wk_217 rfl ⟨by decide +kernel, by decide +kernel, by decide +kernel⟩ (List.mem_of_getElem? (i := 79) (by decide +kernel)) (kwX6_init h56) rfl (Nat.le_of_ble_eq_true rfl) rfl dX9_init_83 ⟨by decide, (rmB_ok z57).1, (rmB_ok z57).2⟩ (of_decide_eq_true z58) ?_
  obtain ⟨z59, hf⟩ := ck_x hf
  obtain ⟨w60, ew60, hf⟩ := bnd_x hf
  refine xr_putRF C hin Kd9 (k := 7) (by decide) rfl rfl rfl wk_312 rfl (fun _ => ⟨rfl, rfl⟩) (isK_ok z59) dX9_init_86 ew60 ?_
  refine xr_aload_n C dX9_init_89 0 rfl rfl ?_
  obtain ⟨z62, hf⟩ := ck_x hf
  obtain ⟨w61, ew61, hf⟩ := bnd_x hf
  refine xr_new C Kd1 df1 wk_256 wk_257 wk_9 (rmB_ok z62) dX9_init_90 ew61 ?_
  refine xr_dup C dX9_init_93 rfl ?_
  obtain ⟨w63, h64, hf⟩ := ob_x hf
  obtain ⟨z65, hf⟩ := ck_x hf
  obtain ⟨z66, hf⟩ := ck_x hf
  refine xr_callC (np := 0) C [] wk_260 wk_9 wk_259 rfl ⟨by decide +kernel, by decide +kernel, by decide +kernel⟩ (List.mem_of_getElem? (i := 80) (by decide +kernel)) (kwX1_init h64) rfl (Nat.le_of_ble_eq_true rfl) rfl dX9_init_94 ⟨by decide, (rmB_ok z65).1, (rmB_ok z65).2⟩ (of_decide_eq_true z66) ?_
  obtain ⟨z67, hf⟩ := ck_x hf
  obtain ⟨w68, ew68, hf⟩ := bnd_x hf
  refine xr_putRF C hin Kd9 (k := 8) (by decide) rfl rfl rfl wk_313 rfl (fun _ => ⟨rfl, rfl⟩) (isK_ok z67) dX9_init_97 ew68 ?_
  refine xr_aload_n C dX9_init_100 0 rfl rfl ?_
  refine xr_iconst (v := 0) C dX9_init_101 (by decide) ?_
  obtain ⟨z69, hf⟩ := ck_x hf
  obtain ⟨w70, ew70, hf⟩ := bnd_x hf
  refine xr_putIw C Kd9 (k := 9) (by decide) rfl rfl wk_314 rfl rfl rfl (isK_ok z69) dX9_init_102 ew70 ?_
  refine xr_aload_n C dX9_init_105 0 rfl rfl ?_
  refine xr_iconst (v := 0) C dX9_init_106 (by decide) ?_
  obtain ⟨z71, hf⟩ := ck_x hf
  obtain ⟨w72, ew72, hf⟩ := bnd_x hf
  refine xr_putIw C Kd9 (k := 10) (by decide) rfl rfl wk_315 rfl rfl rfl (isK_ok z71) dX9_init_107 ew72 ?_
  refine xr_aload_n C dX9_init_110 0 rfl rfl ?_
  refine xr_iconst (v := 0) C dX9_init_111 (by decide) ?_
  obtain ⟨z73, hf⟩ := ck_x hf
  obtain ⟨w74, ew74, hf⟩ := bnd_x hf
  refine xr_putIw C Kd9 (k := 11) (by decide) rfl rfl wk_316 rfl rfl rfl (isK_ok z73) dX9_init_112 ew74 ?_
  refine xr_iconst (v := 0) C dX9_init_115 (by decide) ?_
  refine xr_istore_n C dX9_init_116 rfl (by decide) rfl ?_
  refine xr_lv [1, 0] rfl ?_
  exact ewX9_init_117 C hin q _ hf
theorem kwX9_init {B : Bs} {mB sB : Nat} {w0 : Wt} {x0 : Nat} {o1 : Wt} (hf : fwX9_init mB sB w0 0 0 x0 = some o1) : CtrV B yX9_init cX9_init 2 3 61 mB sB [rfB B x0] w0 o1 := by
  refine xr_enterC (lv0 := [(0, rfB B x0)]) (by decide) rfl (Nat.le_of_ble_eq_true rfl) rfl (fun g hg C hin q => ?_)
  subst hg
  exact ewX9_init_0 C hin q hf
theorem dX10_init_0 : decode cX10_init 0 = .ok (.aload_n 0, 1) := by decide +kernel
theorem dX10_init_1 : decode cX10_init 1 = .ok (.invokespecial 1, 3) := by decide +kernel
theorem dX10_init_4 : decode cX10_init 4 = .ok (.aload_n 0, 1) := by decide +kernel
theorem dX10_init_5 : decode cX10_init 5 = .ok (.sipush 164, 3) := by decide +kernel
theorem dX10_init_8 : decode cX10_init 8 = .ok (.newarray .int, 2) := by decide +kernel
theorem dX10_init_10 : decode cX10_init 10 = .ok (.putfield 7, 3) := by decide +kernel
theorem dX10_init_13 : decode cX10_init 13 = .ok (.aload_n 0, 1) := by decide +kernel
theorem dX10_init_14 : decode cX10_init 14 = .ok (.sipush 336, 3) := by decide +kernel
theorem dX10_init_17 : decode cX10_init 17 = .ok (.newarray .int, 2) := by decide +kernel
theorem dX10_init_19 : decode cX10_init 19 = .ok (.putfield 13, 3) := by decide +kernel
theorem dX10_init_22 : decode cX10_init 22 = .ok (.aload_n 0, 1) := by decide +kernel
theorem dX10_init_23 : decode cX10_init 23 = .ok (.sipush 400, 3) := by decide +kernel
theorem dX10_init_26 : decode cX10_init 26 = .ok (.newarray .int, 2) := by decide +kernel
theorem dX10_init_28 : decode cX10_init 28 = .ok (.putfield 16, 3) := by decide +kernel
theorem dX10_init_31 : decode cX10_init 31 = .ok (.aload_n 0, 1) := by decide +kernel
theorem dX10_init_32 : decode cX10_init 32 = .ok (.bipush 8, 2) := by decide +kernel
theorem dX10_init_34 : decode cX10_init 34 = .ok (.newarray .int, 2) := by decide +kernel
theorem dX10_init_36 : decode cX10_init 36 = .ok (.dup, 1) := by decide +kernel
theorem dX10_init_37 : decode cX10_init 37 = .ok (.iconst 0, 1) := by decide +kernel
theorem dX10_init_38 : decode cX10_init 38 = .ok (.ldc 19, 2) := by decide +kernel
theorem dX10_init_40 : decode cX10_init 40 = .ok (.iastore, 1) := by decide +kernel
theorem dX10_init_41 : decode cX10_init 41 = .ok (.dup, 1) := by decide +kernel
theorem dX10_init_42 : decode cX10_init 42 = .ok (.iconst 1, 1) := by decide +kernel
theorem dX10_init_43 : decode cX10_init 43 = .ok (.ldc 19, 2) := by decide +kernel
theorem dX10_init_45 : decode cX10_init 45 = .ok (.iastore, 1) := by decide +kernel
theorem dX10_init_46 : decode cX10_init 46 = .ok (.dup, 1) := by decide +kernel
theorem dX10_init_47 : decode cX10_init 47 = .ok (.iconst 2, 1) := by decide +kernel
theorem dX10_init_48 : decode cX10_init 48 = .ok (.ldc 19, 2) := by decide +kernel
theorem dX10_init_50 : decode cX10_init 50 = .ok (.iastore, 1) := by decide +kernel
theorem dX10_init_51 : decode cX10_init 51 = .ok (.dup, 1) := by decide +kernel
theorem dX10_init_52 : decode cX10_init 52 = .ok (.iconst 3, 1) := by decide +kernel
theorem dX10_init_53 : decode cX10_init 53 = .ok (.ldc 19, 2) := by decide +kernel
theorem dX10_init_55 : decode cX10_init 55 = .ok (.iastore, 1) := by decide +kernel
theorem dX10_init_56 : decode cX10_init 56 = .ok (.dup, 1) := by decide +kernel
theorem dX10_init_57 : decode cX10_init 57 = .ok (.iconst 4, 1) := by decide +kernel
theorem dX10_init_58 : decode cX10_init 58 = .ok (.ldc 19, 2) := by decide +kernel
theorem dX10_init_60 : decode cX10_init 60 = .ok (.iastore, 1) := by decide +kernel
theorem dX10_init_61 : decode cX10_init 61 = .ok (.dup, 1) := by decide +kernel
theorem dX10_init_62 : decode cX10_init 62 = .ok (.iconst 5, 1) := by decide +kernel
theorem dX10_init_63 : decode cX10_init 63 = .ok (.ldc 19, 2) := by decide +kernel
theorem dX10_init_65 : decode cX10_init 65 = .ok (.iastore, 1) := by decide +kernel
theorem dX10_init_66 : decode cX10_init 66 = .ok (.dup, 1) := by decide +kernel
theorem dX10_init_67 : decode cX10_init 67 = .ok (.bipush 6, 2) := by decide +kernel
theorem dX10_init_69 : decode cX10_init 69 = .ok (.ldc 19, 2) := by decide +kernel
theorem dX10_init_71 : decode cX10_init 71 = .ok (.iastore, 1) := by decide +kernel
theorem dX10_init_72 : decode cX10_init 72 = .ok (.dup, 1) := by decide +kernel
theorem dX10_init_73 : decode cX10_init 73 = .ok (.bipush 7, 2) := by decide +kernel
theorem dX10_init_75 : decode cX10_init 75 = .ok (.ldc 19, 2) := by decide +kernel
theorem dX10_init_77 : decode cX10_init 77 = .ok (.iastore, 1) := by decide +kernel
theorem dX10_init_78 : decode cX10_init 78 = .ok (.putfield 20, 3) := by decide +kernel
theorem dX10_init_81 : decode cX10_init 81 = .ok (.aload_n 0, 1) := by decide +kernel
theorem dX10_init_82 : decode cX10_init 82 = .ok (.bipush 8, 2) := by decide +kernel
theorem dX10_init_84 : decode cX10_init 84 = .ok (.newarray .int, 2) := by decide +kernel
theorem dX10_init_86 : decode cX10_init 86 = .ok (.putfield 23, 3) := by decide +kernel
theorem dX10_init_89 : decode cX10_init 89 = .ok (.aload_n 0, 1) := by decide +kernel
theorem dX10_init_90 : decode cX10_init 90 = .ok (.sipush 320, 3) := by decide +kernel
theorem dX10_init_93 : decode cX10_init 93 = .ok (.newarray .int, 2) := by decide +kernel
theorem dX10_init_95 : decode cX10_init 95 = .ok (.putfield 26, 3) := by decide +kernel
theorem dX10_init_98 : decode cX10_init 98 = .ok (.aload_n 0, 1) := by decide +kernel
theorem dX10_init_99 : decode cX10_init 99 = .ok (.bipush 16, 2) := by decide +kernel
theorem dX10_init_101 : decode cX10_init 101 = .ok (.newarray .int, 2) := by decide +kernel
theorem dX10_init_103 : decode cX10_init 103 = .ok (.putfield 29, 3) := by decide +kernel
theorem dX10_init_106 : decode cX10_init 106 = .ok (.aload_n 0, 1) := by decide +kernel
theorem dX10_init_107 : decode cX10_init 107 = .ok (.bipush 24, 2) := by decide +kernel
theorem dX10_init_109 : decode cX10_init 109 = .ok (.newarray .int, 2) := by decide +kernel
theorem dX10_init_111 : decode cX10_init 111 = .ok (.putfield 32, 3) := by decide +kernel
theorem dX10_init_114 : decode cX10_init 114 = .ok (.aload_n 0, 1) := by decide +kernel
theorem dX10_init_115 : decode cX10_init 115 = .ok (.sipush 10752, 3) := by decide +kernel
theorem dX10_init_118 : decode cX10_init 118 = .ok (.newarray .int, 2) := by decide +kernel
theorem dX10_init_120 : decode cX10_init 120 = .ok (.putfield 35, 3) := by decide +kernel
theorem dX10_init_123 : decode cX10_init 123 = .ok (.aload_n 0, 1) := by decide +kernel
theorem dX10_init_124 : decode cX10_init 124 = .ok (.sipush 10752, 3) := by decide +kernel
theorem dX10_init_127 : decode cX10_init 127 = .ok (.newarray .int, 2) := by decide +kernel
theorem dX10_init_129 : decode cX10_init 129 = .ok (.putfield 38, 3) := by decide +kernel
theorem dX10_init_132 : decode cX10_init 132 = .ok (.return_, 1) := by decide +kernel
/-! BumperBallsModel.<init>()V -/
def fwX10_init (mB sB : Nat) (w0 : Wt) (ce sl : Nat) (x0 : Nat) : Option Wt :=
  ck (rmB (ce + 1) (sl + 164) mB sB) <| bnd (al w0 11 164) fun w1 => ck (isK w1 x0 10) <| bnd ((w1.1, up2 w1.2.1 x0 0 (some w0.2.2.2.2), w1.2.2) : Wt) fun w4 => ck (rmB ((ce + 1) + 1) ((sl + 164) + 336) mB sB) <| bnd (al w4 11 336) fun w5 => ck (isK w5 x0 10) <| bnd ((w5.1, up2 w5.2.1 x0 1 (some w4.2.2.2.2), w5.2.2) : Wt) fun w8 => ck (rmB (((ce + 1) + 1) + 1) (((sl + 164) + 336) + 400) mB sB) <| bnd (al w8 11 400) fun w9 => ck (isK w9 x0 10) <| bnd ((w9.1, up2 w9.2.1 x0 3 (some w8.2.2.2.2), w9.2.2) : Wt) fun w12 => ck (rmB ((((ce + 1) + 1) + 1) + 1) ((((sl + 164) + 336) + 400) + 8) mB sB) <| bnd (al w12 11 8) fun w13 => ck (isK w13 w12.2.2.2.2 11) <| ck (inb 0 (w13.2.2.2.1 w12.2.2.2.2)) <| bnd ((up2 w13.1 w12.2.2.2.2 (ix 0) (-1000000), w13.2) : Wt) fun w17 => ck (isK w17 w12.2.2.2.2 11) <| ck (inb 1 (w17.2.2.2.1 w12.2.2.2.2)) <| bnd ((up2 w17.1 w12.2.2.2.2 (ix 1) (-1000000), w17.2) : Wt) fun w20 => ck (isK w20 w12.2.2.2.2 11) <| ck (inb 2 (w20.2.2.2.1 w12.2.2.2.2)) <| bnd ((up2 w20.1 w12.2.2.2.2 (ix 2) (-1000000), w20.2) : Wt) fun w23 => ck (isK w23 w12.2.2.2.2 11) <| ck (inb 3 (w23.2.2.2.1 w12.2.2.2.2)) <| bnd ((up2 w23.1 w12.2.2.2.2 (ix 3) (-1000000), w23.2) : Wt) fun w26 => ck (isK w26 w12.2.2.2.2 11) <| ck (inb 4 (w26.2.2.2.1 w12.2.2.2.2)) <| bnd ((up2 w26.1 w12.2.2.2.2 (ix 4) (-1000000), w26.2) : Wt) fun w29 => ck (isK w29 w12.2.2.2.2 11) <| ck (inb 5 (w29.2.2.2.1 w12.2.2.2.2)) <| bnd ((up2 w29.1 w12.2.2.2.2 (ix 5) (-1000000), w29.2) : Wt) fun w32 => ck (isK w32 w12.2.2.2.2 11) <| ck (inb 6 (w32.2.2.2.1 w12.2.2.2.2)) <| bnd ((up2 w32.1 w12.2.2.2.2 (ix 6) (-1000000), w32.2) : Wt) fun w35 => ck (isK w35 w12.2.2.2.2 11) <| ck (inb 7 (w35.2.2.2.1 w12.2.2.2.2)) <| bnd ((up2 w35.1 w12.2.2.2.2 (ix 7) (-1000000), w35.2) : Wt) fun w38 => ck (isK w38 x0 10) <| bnd ((w38.1, up2 w38.2.1 x0 7 (some w12.2.2.2.2), w38.2.2) : Wt) fun w40 => ck (rmB (((((ce + 1) + 1) + 1) + 1) + 1) (((((sl + 164) + 336) + 400) + 8) + 8) mB sB) <| bnd (al w40 11 8) fun w41 => ck (isK w41 x0 10) <| bnd ((w41.1, up2 w41.2.1 x0 8 (some w40.2.2.2.2), w41.2.2) : Wt) fun w44 => ck (rmB ((((((ce + 1) + 1) + 1) + 1) + 1) + 1) ((((((sl + 164) + 336) + 400) + 8) + 8) + 320) mB sB) <| bnd (al w44 11 320) fun w45 => ck (isK w45 x0 10) <| bnd ((w45.1, up2 w45.2.1 x0 9 (some w44.2.2.2.2), w45.2.2) : Wt) fun w48 => ck (rmB (((((((ce + 1) + 1) + 1) + 1) + 1) + 1) + 1) (((((((sl + 164) + 336) + 400) + 8) + 8) + 320) + 16) mB sB) <| bnd (al w48 11 16) fun w49 => ck (isK w49 x0 10) <| bnd ((w49.1, up2 w49.2.1 x0 10 (some w48.2.2.2.2), w49.2.2) : Wt) fun w52 => ck (rmB ((((((((ce + 1) + 1) + 1) + 1) + 1) + 1) + 1) + 1) ((((((((sl + 164) + 336) + 400) + 8) + 8) + 320) + 16) + 24) mB sB) <| bnd (al w52 11 24) fun w53 => ck (isK w53 x0 10) <| bnd ((w53.1, up2 w53.2.1 x0 16 (some w52.2.2.2.2), w53.2.2) : Wt) fun w56 => ck (rmB (((((((((ce + 1) + 1) + 1) + 1) + 1) + 1) + 1) + 1) + 1) (((((((((sl + 164) + 336) + 400) + 8) + 8) + 320) + 16) + 24) + 10752) mB sB) <| bnd (al w56 11 10752) fun w57 => ck (isK w57 x0 10) <| bnd ((w57.1, up2 w57.2.1 x0 20 (some w56.2.2.2.2), w57.2.2) : Wt) fun w60 => ck (rmB ((((((((((ce + 1) + 1) + 1) + 1) + 1) + 1) + 1) + 1) + 1) + 1) ((((((((((sl + 164) + 336) + 400) + 8) + 8) + 320) + 16) + 24) + 10752) + 10752) mB sB) <| bnd (al w60 11 10752) fun w61 => ck (isK w61 x0 10) <| bnd ((w61.1, up2 w61.2.1 x0 21 (some w60.2.2.2.2), w61.2.2) : Wt) fun w64 => ck (cnB ((((((((((ce + 1) + 1) + 1) + 1) + 1) + 1) + 1) + 1) + 1) + 1) ((((((((((sl + 164) + 336) + 400) + 8) + 8) + 320) + 16) + 24) + 10752) + 10752) mB sB) <| some w64
set_option maxRecDepth 20000 in
set_option maxHeartbeats 2000000 in
theorem ewX10_init_0 {g : Cfg} {mB sB : Nat} (C : Cx g RX10 cX10_init 1 1 20 mB sB) (hin : g.2.2.2.2.2.2.2.2.1.name = "<init>") {o1 : Wt} (q : QV g mB sB o1) {w0 : Wt} {ce sl : Nat} {x0 : Nat} (hf : fwX10_init mB sB w0 ce sl x0 = some o1) : XE g ce sl w0 0 [(0, rf g x0)] [] := by
  unfold fwX10_init at hf
  refine xr_aload_n C dX10_init_0 0 rfl rfl ?_
  refine xr_objinit C wk_819 wk_oi1 wk_oi2 (by decide) (Nat.le_of_ble_eq_true rfl) dX10_init_1 ?_
  refine xr_aload_n C dX10_init_4 0 rfl rfl ?_
  refine xr_sipush (v := 164) C dX10_init_5 (by decide) ?_
  obtain ⟨z2, hf⟩ := ck_x hf
  obtain ⟨w1, ew1, hf⟩ := bnd_x hf
  refine xr_newi (N0 := 164) C wk_ai (by decide) rfl (by decide) (rmB_ok z2) dX10_init_8 ew1 ?_
  obtain ⟨z3, hf⟩ := ck_x hf
  obtain ⟨w4, ew4, hf⟩ := bnd_x hf
  refine xr_putRF C hin Kd10 (k := 0) (by decide) rfl rfl rfl wk_821 rfl (fun _ => ⟨rfl, rfl⟩) (isK_ok z3) dX10_init_10 ew4 ?_
  refine xr_aload_n C dX10_init_13 0 rfl rfl ?_
  refine xr_sipush (v := 336) C dX10_init_14 (by decide) ?_
  obtain ⟨z6, hf⟩ := ck_x hf
  obtain ⟨w5, ew5, hf⟩ := bnd_x hf
  refine xr_newi (N0 := 336) C wk_ai (by decide) rfl (by decide) (rmB_ok z6) dX10_init_17 ew5 ?_
  obtain ⟨z7, hf⟩ := ck_x hf
  obtain ⟨w8, ew8, hf⟩ := bnd_x hf
  refine xr_putRF C hin Kd10 (k := 1) (by decide) rfl rfl rfl wk_822 rfl (fun _ => ⟨rfl, rfl⟩) (isK_ok z7) dX10_init_19 ew8 ?_
  refine xr_aload_n C dX10_init_22 0 rfl rfl ?_
  refine xr_sipush (v := 400) C dX10_init_23 (by decide) ?_
  obtain ⟨z10, hf⟩ := ck_x hf
  obtain ⟨w9, ew9, hf⟩ := bnd_x hf
  refine xr_newi (N0 := 400) C wk_ai (by decide) rfl (by decide) (rmB_ok z10) dX10_init_26 ew9 ?_
  obtain ⟨z11, hf⟩ := ck_x hf
  obtain ⟨w12, ew12, hf⟩ := bnd_x hf
  refine xr_putRF C hin Kd10 (k := 3) (by decide) rfl rfl rfl wk_824 rfl (fun _ => ⟨rfl, rfl⟩) (isK_ok z11) dX10_init_28 ew12 ?_
  refine xr_aload_n C dX10_init_31 0 rfl rfl ?_
  refine xr_bipush (v := 8) C dX10_init_32 (by decide) ?_
  obtain ⟨z14, hf⟩ := ck_x hf
  obtain ⟨w13, ew13, hf⟩ := bnd_x hf
  refine xr_newi (N0 := 8) C wk_ai (by decide) rfl (by decide) (rmB_ok z14) dX10_init_34 ew13 ?_
  refine xr_dup C dX10_init_36 rfl ?_
  refine xr_iconst (v := 0) C dX10_init_37 (by decide) ?_
  refine xr_ldc C wk_820 dX10_init_38 ?_
  obtain ⟨z15, hf⟩ := ck_x hf
  obtain ⟨i16, hf⟩ := ck_x hf
  obtain ⟨w17, ew17, hf⟩ := bnd_x hf
  refine xr_iastw C (isA_ok z15) i16 dX10_init_40 ew17 ?_
  refine xr_dup C dX10_init_41 rfl ?_
  refine xr_iconst (v := 1) C dX10_init_42 (by decide) ?_
  refine xr_ldc C wk_820 dX10_init_43 ?_
  obtain ⟨z18, hf⟩ := ck_x hf
  obtain ⟨i19, hf⟩ := ck_x hf
  obtain ⟨w20, ew20, hf⟩ := bnd_x hf
  refine xr_iastw C (isA_ok z18) i19 dX10_init_45 ew20 ?_
  refine xr_dup C dX10_init_46 rfl ?_
  refine xr_iconst (v := 2) C dX10_init_47 (by decide) ?_
  refine xr_ldc C wk_820 dX10_init_48 ?_
  obtain ⟨z21, hf⟩ := ck_x hf
  obtain ⟨i22, hf⟩ := ck_x hf
  obtain ⟨w23, ew23, hf⟩ := bnd_x hf
  refine xr_iastw C (isA_ok z21) i22 dX10_init_50 ew23 ?_
  refine xr_dup C dX10_init_51 rfl ?_
  refine xr_iconst (v := 3) C dX10_init_52 (by decide) ?_
  refine xr_ldc C wk_820 dX10_init_53 ?_
  obtain ⟨z24, hf⟩ := ck_x hf
  obtain ⟨i25, hf⟩ := ck_x hf
  obtain ⟨w26, ew26, hf⟩ := bnd_x hf
  refine xr_iastw C (isA_ok z24) i25 dX10_init_55 ew26 ?_
  refine xr_dup C dX10_init_56 rfl ?_
  refine xr_iconst (v := 4) C dX10_init_57 (by decide) ?_
  refine xr_ldc C wk_820 dX10_init_58 ?_
  obtain ⟨z27, hf⟩ := ck_x hf
  obtain ⟨i28, hf⟩ := ck_x hf
  obtain ⟨w29, ew29, hf⟩ := bnd_x hf
  refine xr_iastw C (isA_ok z27) i28 dX10_init_60 ew29 ?_
  refine xr_dup C dX10_init_61 rfl ?_
  refine xr_iconst (v := 5) C dX10_init_62 (by decide) ?_
  refine xr_ldc C wk_820 dX10_init_63 ?_
  obtain ⟨z30, hf⟩ := ck_x hf
  obtain ⟨i31, hf⟩ := ck_x hf
  obtain ⟨w32, ew32, hf⟩ := bnd_x hf
  refine xr_iastw C (isA_ok z30) i31 dX10_init_65 ew32 ?_
  refine xr_dup C dX10_init_66 rfl ?_
  refine xr_bipush (v := 6) C dX10_init_67 (by decide) ?_
  refine xr_ldc C wk_820 dX10_init_69 ?_
  obtain ⟨z33, hf⟩ := ck_x hf
  obtain ⟨i34, hf⟩ := ck_x hf
  obtain ⟨w35, ew35, hf⟩ := bnd_x hf
  refine xr_iastw C (isA_ok z33) i34 dX10_init_71 ew35 ?_
  refine xr_dup C dX10_init_72 rfl ?_
  refine xr_bipush (v := 7) C dX10_init_73 (by decide) ?_
  refine xr_ldc C wk_820 dX10_init_75 ?_
  obtain ⟨z36, hf⟩ := ck_x hf
  obtain ⟨i37, hf⟩ := ck_x hf
  obtain ⟨w38, ew38, hf⟩ := bnd_x hf
  refine xr_iastw C (isA_ok z36) i37 dX10_init_77 ew38 ?_
  obtain ⟨z39, hf⟩ := ck_x hf
  obtain ⟨w40, ew40, hf⟩ := bnd_x hf
  refine xr_putRF C hin Kd10 (k := 7) (by decide) rfl rfl rfl wk_828 rfl (fun _ => ⟨rfl, rfl⟩) (isK_ok z39) dX10_init_78 ew40 ?_
  refine xr_aload_n C dX10_init_81 0 rfl rfl ?_
  refine xr_bipush (v := 8) C dX10_init_82 (by decide) ?_
  obtain ⟨z42, hf⟩ := ck_x hf
  obtain ⟨w41, ew41, hf⟩ := bnd_x hf
  refine xr_newi (N0 := 8) C wk_ai (by decide) rfl (by decide) (rmB_ok z42) dX10_init_84 ew41 ?_
  obtain ⟨z43, hf⟩ := ck_x hf
  obtain ⟨w44, ew44, hf⟩ := bnd_x hf
  refine xr_putRF C hin Kd10 (k := 8) (by decide) rfl rfl rfl wk_829 rfl (fun _ => ⟨rfl, rfl⟩) (isK_ok z43) dX10_init_86 ew44 ?_
  refine xr_aload_n C dX10_init_89 0 rfl rfl ?_
  refine xr_sipush (v := 320) C dX10_init_90 (by decide) ?_
  obtain ⟨z46, hf⟩ := ck_x hf
  obtain ⟨w45, ew45, hf⟩ := bnd_x hf
  refine xr_newi (N0 := 320) C wk_ai (by decide) rfl (by decide) (rmB_ok z46) dX10_init_93 ew45 ?_
  obtain ⟨z47, hf⟩ := ck_x hf
  obtain ⟨w48, ew48, hf⟩ := bnd_x hf
  refine xr_putRF C hin Kd10 (k := 9) (by decide) rfl rfl rfl wk_830 rfl (fun _ => ⟨rfl, rfl⟩) (isK_ok z47) dX10_init_95 ew48 ?_
  refine xr_aload_n C dX10_init_98 0 rfl rfl ?_
  refine xr_bipush (v := 16) C dX10_init_99 (by decide) ?_
  obtain ⟨z50, hf⟩ := ck_x hf
  obtain ⟨w49, ew49, hf⟩ := bnd_x hf
  refine xr_newi (N0 := 16) C wk_ai (by decide) rfl (by decide) (rmB_ok z50) dX10_init_101 ew49 ?_
  obtain ⟨z51, hf⟩ := ck_x hf
  obtain ⟨w52, ew52, hf⟩ := bnd_x hf
  refine xr_putRF C hin Kd10 (k := 10) (by decide) rfl rfl rfl wk_831 rfl (fun _ => ⟨rfl, rfl⟩) (isK_ok z51) dX10_init_103 ew52 ?_
  refine xr_aload_n C dX10_init_106 0 rfl rfl ?_
  refine xr_bipush (v := 24) C dX10_init_107 (by decide) ?_
  obtain ⟨z54, hf⟩ := ck_x hf
  obtain ⟨w53, ew53, hf⟩ := bnd_x hf
  refine xr_newi (N0 := 24) C wk_ai (by decide) rfl (by decide) (rmB_ok z54) dX10_init_109 ew53 ?_
  obtain ⟨z55, hf⟩ := ck_x hf
  obtain ⟨w56, ew56, hf⟩ := bnd_x hf
  refine xr_putRF C hin Kd10 (k := 16) (by decide) rfl rfl rfl wk_837 rfl (fun _ => ⟨rfl, rfl⟩) (isK_ok z55) dX10_init_111 ew56 ?_
  refine xr_aload_n C dX10_init_114 0 rfl rfl ?_
  refine xr_sipush (v := 10752) C dX10_init_115 (by decide) ?_
  obtain ⟨z58, hf⟩ := ck_x hf
  obtain ⟨w57, ew57, hf⟩ := bnd_x hf
  refine xr_newi (N0 := 10752) C wk_ai (by decide) rfl (by decide) (rmB_ok z58) dX10_init_118 ew57 ?_
  obtain ⟨z59, hf⟩ := ck_x hf
  obtain ⟨w60, ew60, hf⟩ := bnd_x hf
  refine xr_putRF C hin Kd10 (k := 20) (by decide) rfl rfl rfl wk_841 rfl (fun _ => ⟨rfl, rfl⟩) (isK_ok z59) dX10_init_120 ew60 ?_
  refine xr_aload_n C dX10_init_123 0 rfl rfl ?_
  refine xr_sipush (v := 10752) C dX10_init_124 (by decide) ?_
  obtain ⟨z62, hf⟩ := ck_x hf
  obtain ⟨w61, ew61, hf⟩ := bnd_x hf
  refine xr_newi (N0 := 10752) C wk_ai (by decide) rfl (by decide) (rmB_ok z62) dX10_init_127 ew61 ?_
  obtain ⟨z63, hf⟩ := ck_x hf
  obtain ⟨w64, ew64, hf⟩ := bnd_x hf
  refine xr_putRF C hin Kd10 (k := 21) (by decide) rfl rfl rfl wk_842 rfl (fun _ => ⟨rfl, rfl⟩) (isK_ok z63) dX10_init_129 ew64 ?_
  obtain ⟨z65, hf⟩ := ck_x hf
  obtain ⟨q1, q2⟩ := cnB_ok z65
  exact xr_returnW C q q1 q2 dX10_init_132 (Option.some.inj hf)
theorem kwX10_init {B : Bs} {mB sB : Nat} {w0 : Wt} {x0 : Nat} {o1 : Wt} (hf : fwX10_init mB sB w0 0 0 x0 = some o1) : CtrV B yX10_init cX10_init 1 1 20 mB sB [rfB B x0] w0 o1 := by
  refine xr_enterC (lv0 := [(0, rfB B x0)]) (by decide) rfl (Nat.le_of_ble_eq_true rfl) rfl (fun g hg C hin q => ?_)
  subst hg
  exact ewX10_init_0 C hin q hf
