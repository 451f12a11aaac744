/-! ===== texts: length, charAt ===== -/
theorem dJ0_length_8abf5_0 : decode cJ0_length_8abf5 0 = .ok (.aload_n 0, 1) := by decide +kernel
theorem dJ0_length_8abf5_1 : decode cJ0_length_8abf5 1 = .ok (.getfield 9, 3) := by decide +kernel
theorem dJ0_length_8abf5_4 : decode cJ0_length_8abf5 4 = .ok (.arraylength, 1) := by decide +kernel
theorem dJ0_length_8abf5_5 : decode cJ0_length_8abf5 5 = .ok (.aload_n 0, 1) := by decide +kernel
theorem dJ0_length_8abf5_6 : decode cJ0_length_8abf5 6 = .ok (.invokevirtual 335, 3) := by decide +kernel
theorem dJ0_length_8abf5_9 : decode cJ0_length_8abf5 9 = .ok (.ishr, 1) := by decide +kernel
theorem dJ0_length_8abf5_10 : decode cJ0_length_8abf5 10 = .ok (.ireturn, 1) := by decide +kernel
theorem dJ0_charAt_5068e_0 : decode cJ0_charAt_5068e 0 = .ok (.aload_n 0, 1) := by decide +kernel
theorem dJ0_charAt_5068e_1 : decode cJ0_charAt_5068e 1 = .ok (.invokevirtual 492, 3) := by decide +kernel
theorem dJ0_charAt_5068e_4 : decode cJ0_charAt_5068e 4 = .ok (.ifCond .eq 12, 3) := by decide +kernel
theorem dJ0_charAt_5068e_7 : decode cJ0_charAt_5068e 7 = .ok (.aload_n 0, 1) := by decide +kernel
theorem dJ0_charAt_5068e_8 : decode cJ0_charAt_5068e 8 = .ok (.getfield 9, 3) := by decide +kernel
theorem dJ0_charAt_5068e_11 : decode cJ0_charAt_5068e 11 = .ok (.iload_n 1, 1) := by decide +kernel
theorem dJ0_charAt_5068e_12 : decode cJ0_charAt_5068e 12 = .ok (.invokestatic 495, 3) := by decide +kernel
theorem dJ0_charAt_5068e_15 : decode cJ0_charAt_5068e 15 = .ok (.ireturn, 1) := by decide +kernel
theorem dJ0_charAt_5068e_16 : decode cJ0_charAt_5068e 16 = .ok (.aload_n 0, 1) := by decide +kernel
theorem dJ0_charAt_5068e_17 : decode cJ0_charAt_5068e 17 = .ok (.getfield 9, 3) := by decide +kernel
theorem dJ0_charAt_5068e_20 : decode cJ0_charAt_5068e 20 = .ok (.iload_n 1, 1) := by decide +kernel
theorem dJ0_charAt_5068e_21 : decode cJ0_charAt_5068e 21 = .ok (.invokestatic 498, 3) := by decide +kernel
theorem dJ0_charAt_5068e_24 : decode cJ0_charAt_5068e 24 = .ok (.ireturn, 1) := by decide +kernel
theorem dJ0_coder_7d493_0 : decode cJ0_coder_7d493 0 = .ok (.getstatic 38, 3) := by decide +kernel
theorem dJ0_coder_7d493_3 : decode cJ0_coder_7d493 3 = .ok (.ifCond .eq 10, 3) := by decide +kernel
theorem dJ0_coder_7d493_6 : decode cJ0_coder_7d493 6 = .ok (.aload_n 0, 1) := by decide +kernel
theorem dJ0_coder_7d493_7 : decode cJ0_coder_7d493 7 = .ok (.getfield 15, 3) := by decide +kernel
theorem dJ0_coder_7d493_10 : decode cJ0_coder_7d493 10 = .ok (.goto 4, 3) := by decide +kernel
theorem dJ0_coder_7d493_13 : decode cJ0_coder_7d493 13 = .ok (.iconst 1, 1) := by decide +kernel
theorem dJ0_coder_7d493_14 : decode cJ0_coder_7d493 14 = .ok (.ireturn, 1) := by decide +kernel
theorem dJ0_isLatin1_aae02_0 : decode cJ0_isLatin1_aae02 0 = .ok (.getstatic 38, 3) := by decide +kernel
theorem dJ0_isLatin1_aae02_3 : decode cJ0_isLatin1_aae02 3 = .ok (.ifCond .eq 14, 3) := by decide +kernel
theorem dJ0_isLatin1_aae02_6 : decode cJ0_isLatin1_aae02 6 = .ok (.aload_n 0, 1) := by decide +kernel
theorem dJ0_isLatin1_aae02_7 : decode cJ0_isLatin1_aae02 7 = .ok (.getfield 15, 3) := by decide +kernel
theorem dJ0_isLatin1_aae02_10 : decode cJ0_isLatin1_aae02 10 = .ok (.ifCond .ne 7, 3) := by decide +kernel
theorem dJ0_isLatin1_aae02_13 : decode cJ0_isLatin1_aae02 13 = .ok (.iconst 1, 1) := by decide +kernel
theorem dJ0_isLatin1_aae02_14 : decode cJ0_isLatin1_aae02 14 = .ok (.goto 4, 3) := by decide +kernel
theorem dJ0_isLatin1_aae02_17 : decode cJ0_isLatin1_aae02 17 = .ok (.iconst 0, 1) := by decide +kernel
theorem dJ0_isLatin1_aae02_18 : decode cJ0_isLatin1_aae02 18 = .ok (.ireturn, 1) := by decide +kernel
theorem dJ0_checkIndex_df160_0 : decode cJ0_checkIndex_df160 0 = .ok (.iload_n 0, 1) := by decide +kernel
theorem dJ0_checkIndex_df160_1 : decode cJ0_checkIndex_df160 1 = .ok (.iload_n 1, 1) := by decide +kernel
theorem dJ0_checkIndex_df160_2 : decode cJ0_checkIndex_df160 2 = .ok (.getstatic 1053, 3) := by decide +kernel
theorem dJ0_checkIndex_df160_5 : decode cJ0_checkIndex_df160 5 = .ok (.invokestatic 1059, 3) := by decide +kernel
theorem dJ0_checkIndex_df160_8 : decode cJ0_checkIndex_df160 8 = .ok (.pop, 1) := by decide +kernel
theorem dJ0_checkIndex_df160_9 : decode cJ0_checkIndex_df160 9 = .ok (.return_, 1) := by decide +kernel
theorem dJ1_charAt_3b067_0 : decode cJ1_charAt_3b067 0 = .ok (.iload_n 1, 1) := by decide +kernel
theorem dJ1_charAt_3b067_1 : decode cJ1_charAt_3b067 1 = .ok (.aload_n 0, 1) := by decide +kernel
theorem dJ1_charAt_3b067_2 : decode cJ1_charAt_3b067 2 = .ok (.arraylength, 1) := by decide +kernel
theorem dJ1_charAt_3b067_3 : decode cJ1_charAt_3b067 3 = .ok (.invokestatic 9, 3) := by decide +kernel
theorem dJ1_charAt_3b067_6 : decode cJ1_charAt_3b067 6 = .ok (.aload_n 0, 1) := by decide +kernel
theorem dJ1_charAt_3b067_7 : decode cJ1_charAt_3b067 7 = .ok (.iload_n 1, 1) := by decide +kernel
theorem dJ1_charAt_3b067_8 : decode cJ1_charAt_3b067 8 = .ok (.baload, 1) := by decide +kernel
theorem dJ1_charAt_3b067_9 : decode cJ1_charAt_3b067 9 = .ok (.sipush 255, 3) := by decide +kernel
theorem dJ1_charAt_3b067_12 : decode cJ1_charAt_3b067 12 = .ok (.iand, 1) := by decide +kernel
theorem dJ1_charAt_3b067_13 : decode cJ1_charAt_3b067 13 = .ok (.i2c, 1) := by decide +kernel
theorem dJ1_charAt_3b067_14 : decode cJ1_charAt_3b067 14 = .ok (.ireturn, 1) := by decide +kernel
theorem dJ3_checkIndex_8e157_0 : decode cJ3_checkIndex_8e157 0 = .ok (.iload_n 0, 1) := by decide +kernel
theorem dJ3_checkIndex_8e157_1 : decode cJ3_checkIndex_8e157 1 = .ok (.ifCond .lt 8, 3) := by decide +kernel
theorem dJ3_checkIndex_8e157_4 : decode cJ3_checkIndex_8e157 4 = .ok (.iload_n 0, 1) := by decide +kernel
theorem dJ3_checkIndex_8e157_5 : decode cJ3_checkIndex_8e157 5 = .ok (.iload_n 1, 1) := by decide +kernel
theorem dJ3_checkIndex_8e157_6 : decode cJ3_checkIndex_8e157 6 = .ok (.if_icmp .lt 10, 3) := by decide +kernel
theorem dJ3_checkIndex_8e157_16 : decode cJ3_checkIndex_8e157 16 = .ok (.iload_n 0, 1) := by decide +kernel
theorem dJ3_checkIndex_8e157_17 : decode cJ3_checkIndex_8e157 17 = .ok (.ireturn, 1) := by decide +kernel
theorem lkJ0_335 : LkV "java/lang/String" 335 yJ0_coder_7d493 cJ0_coder_7d493 1 (some Jvm.ClassFile.FieldType.byte) 0 := ⟨wk_452, wk_13, wk_450, wk_451, ⟨by decide +kernel, by decide +kernel, by decide +kernel⟩, wk_449⟩
theorem lkJ0_492 : LkV "java/lang/String" 492 yJ0_isLatin1_aae02 cJ0_isLatin1_aae02 1 (some Jvm.ClassFile.FieldType.boolean) 0 := ⟨wk_462, wk_13, wk_460, wk_461, ⟨by decide +kernel, by decide +kernel, by decide +kernel⟩, wk_459⟩
theorem lkJ0_495 : LkS "java/lang/String" 495 yJ1_charAt_3b067 cJ1_charAt_3b067 2 (some Jvm.ClassFile.FieldType.char) 2 := ⟨wk_465, wk_14, wk_464, ⟨by decide +kernel, by decide +kernel, by decide +kernel⟩, wk_463⟩
theorem lkJ1_9 : LkS "java/lang/StringLatin1" 9 yJ0_checkIndex_df160 cJ0_checkIndex_df160 2 none 2 := ⟨wk_468, wk_13, wk_467, ⟨by decide +kernel, by decide +kernel, by decide +kernel⟩, wk_466⟩
theorem lkJ0_1059 : LkS "java/lang/String" 1059 yJ3_checkIndex_8e157 cJ3_checkIndex_8e157 3 (some Jvm.ClassFile.FieldType.int) 3 := ⟨wk_473, wk_15, wk_472, ⟨by decide +kernel, by decide +kernel, by decide +kernel⟩, wk_471⟩
theorem lkX8_130 : LkV "BumperBalls$Tape" 130 yJ0_length_8abf5 cJ0_length_8abf5 1 (some Jvm.ClassFile.FieldType.int) 0 := ⟨wk_448, wk_13, wk_446, wk_447, ⟨by decide +kernel, by decide +kernel, by decide +kernel⟩, wk_445⟩
theorem lkX8_134 : LkV "BumperBalls$Tape" 134 yJ0_charAt_5068e cJ0_charAt_5068e 2 (some Jvm.ClassFile.FieldType.char) 1 := ⟨wk_458, wk_13, wk_456, wk_457, ⟨by decide +kernel, by decide +kernel, by decide +kernel⟩, wk_455⟩
abbrev vrf (g : Cfg) (i : Nat) : Value := .ref (g.1.2.2.2.2.2.2 i)
abbrev vrfB (B : Bs) (i : Nat) : Value := .ref (B.2.2.2.2.2.2 i)
theorem so_1 {a c : Int32} {b d : Mem} (h : some (a, b) = some (c, d)) : a = c := congrArg Prod.fst (Option.some.inj h)
theorem so_w {a c : Int32} {b d : Mem} {h0 : Shp} (h : some (a, b) = some (c, d)) : ((b, h0) : Wt) = (d, h0) := congrArg (fun x => (x, h0)) (congrArg Prod.snd (Option.some.inj h))
theorem so_v {b d : Mem} {h0 : Shp} (h : some b = some d) : ((b, h0) : Wt) = (d, h0) := congrArg (fun x => (x, h0)) (Option.some.inj h)
section XS
variable {g : Cfg} {own : String} {cc : ByteArray} {nL fr lo mc ms cells slots pc idx i : Nat} {w : Wt} {lv : List (Nat × Value)} {st : List Value}

theorem xr_ldcs (C : Cx g RX8 cc nL fr lo mc ms) (hi : i < 8) (h1 : stIx i = idx) (_ : stIx i = stIx i) (hd : decode cc pc = .ok (.ldc idx, 2)) (K : XE g cells slots w (pc + 2) lv (srf g i :: st)) : XE g cells slots w pc lv st := by
  subst h1
  obtain ⟨B, p, e, Rm, s, m, args, below, meth, c, Q⟩ := g
  intro H locs ls hz hP hS hl
  exact va_ldcS C.1 C.2.1 C.2.2.2.1 (C.2.2.2.2.1.2.2.2.2.2.2.2.2.1 i hi) hd (K H locs ls hz hP hS hl)
theorem xr_sval (C : Cx g own cc nL fr lo mc ms) (w1 : Wk (Cond.fieldLink own idx "java/lang/String" "value" "[B")) (hi : i < 8) (hd : decode cc pc = .ok (.getfield idx, 3)) (K : XE g cells slots w (pc + 3) lv (vrf g i :: st)) : XE g cells slots w pc lv (srf g i :: st) := by
  obtain ⟨B, p, e, Rm, s, m, args, below, meth, c, Q⟩ := g
  intro H locs ls hz hP hS hl
  exact vk_getf C.1 C.2.1 (C.2.2.2.2.1.2.2.2.2.2.2.2.1.1 i hi).2.2.1 hS C.2.2.2.1 (C.2.2.2.2.1.1 _ w1 _) (fun _ h => h) hd (K H locs ls hz hP hS hl)
theorem xr_scod (C : Cx g own cc nL fr lo mc ms) (w1 : Wk (Cond.fieldLink own idx "java/lang/String" "coder" "B")) (hi : i < 8) (hd : decode cc pc = .ok (.getfield idx, 3)) (K : XE g cells slots w (pc + 3) lv (.int 0 :: st)) : XE g cells slots w pc lv (srf g i :: st) := by
  obtain ⟨B, p, e, Rm, s, m, args, below, meth, c, Q⟩ := g
  intro H locs ls hz hP hS hl
  exact vk_getf C.1 C.2.1 (C.2.2.2.2.1.2.2.2.2.2.2.2.1.1 i hi).2.1 hS C.2.2.2.1 (C.2.2.2.2.1.1 _ w1 _) (fun _ h => h) hd (K H locs ls hz hP hS hl)
theorem xr_vlen (C : Cx g own cc nL fr lo mc ms) (hi : i < 8) (hd : decode cc pc = .ok (.arraylength, 1)) (K : XE g cells slots w (pc + 1) lv (.int (nI (stLen.getD i 0)) :: st)) : XE g cells slots w pc lv (vrf g i :: st) := by
  obtain ⟨B, p, e, Rm, s, m, args, below, meth, c, Q⟩ := g
  intro H locs ls hz hP hS hl
  exact va_tlen C.1 C.2.1 (C.2.2.2.2.1.2.2.2.2.2.2.2.1.1 i hi).2.2.2 hS rfl hd (K H locs ls hz hP hS hl)
theorem xr_vald (C : Cx g own cc nL fr lo mc ms) {k : Int32} (hi : i < 8) (hk : inb k (stLen.getD i 0) = true) (hd : decode cc pc = .ok (.baload, 1)) (K : XE g cells slots w (pc + 1) lv (.int ((stByt.getD i []).getD (ix k) 0) :: st)) : XE g cells slots w pc lv (.int k :: vrf g i :: st) := by
  obtain ⟨B, p, e, Rm, s, m, args, below, meth, c, Q⟩ := g
  intro H locs ls hz hP hS hl
  exact va_tb C.1 C.2.1 (C.2.2.2.2.1.2.2.2.2.2.2.2.1.1 i hi).2.2.2 hS (inb_in hk) rfl hd (K H locs ls hz hP hS hl)
theorem xr_gsC (C : Cx g own cc nL fr lo mc ms) (w1 : Wk (Cond.fieldLink own idx "java/lang/String" "COMPACT_STRINGS" "Z")) (hd : decode cc pc = .ok (.getstatic idx, 3)) (K : XE g cells slots w (pc + 3) lv (.int 1 :: st)) : XE g cells slots w pc lv st := by
  obtain ⟨B, p, e, Rm, s, m, args, below, meth, c, Q⟩ := g
  intro H locs ls hz hP hS hl
  exact va_gets C.1 C.2.1 C.2.2.2.2.1.2.2.2.2.2.2.2.2.2.1 hS C.2.2.2.1 (C.2.2.2.2.1.1 _ w1 _) (fun _ h => h) hd (K H locs ls hz hP hS hl)
theorem xr_gsF (C : Cx g own cc nL fr lo mc ms) (w1 : Wk (Cond.fieldLink own idx "jdk/internal/util/Preconditions" "SIOOBE_FORMATTER" "Ljava/util/function/BiFunction;")) (hd : decode cc pc = .ok (.getstatic idx, 3)) (K : ∀ v : Value, (v = .null ∨ ∃ t : Nat, v = .ref t) → XE g cells slots w (pc + 3) lv (v :: st)) : XE g cells slots w pc lv st := by
  obtain ⟨B, p, e, Rm, s, m, args, below, meth, c, Q⟩ := g
  intro H locs ls hz hP hS hl
  rcases C.2.2.2.2.1.2.2.2.2.2.2.2.2.2.2.1 with h | ⟨t, h⟩
  · exact va_gets C.1 C.2.1 h hS C.2.2.2.1 (C.2.2.2.2.1.1 _ w1 _) (fun _ h => h) hd (K _ (Or.inl rfl) H locs ls hz hP hS hl)
  · exact va_gets C.1 C.2.1 h hS C.2.2.2.1 (C.2.2.2.2.1.1 _ w1 _) (fun _ h => h) hd (K _ (Or.inr ⟨t, rfl⟩) H locs ls hz hP hS hl)
theorem xr_i2c (C : Cx g own cc nL fr lo mc ms) {x : Int32} (hd : decode cc pc = .ok (.i2c, 1)) (K : XE g cells slots w (pc + 1) lv (.int (x.toUInt32 % 65536).toInt32 :: st)) : XE g cells slots w pc lv (.int x :: st) := by
  obtain ⟨B, p, e, Rm, s, m, args, below, meth, c, Q⟩ := g
  intro H locs ls hz hP hS hl
  exact lv_i2c C.1 C.2.1 hd rfl (K H locs ls hz hP hS hl)
theorem xr_callT (C : Cx g own cc nL fr lo mc ms) {y : MethodName} {cy : ByteArray} {nLy fr1 lo1 np : Nat} {ret : Option FieldType} {r : Int32} {st0 : List Value} (As : List Value) (lk : LkV own idx y cy nLy ret np) (hy : y.cls = "java/lang/String") (hi : i < 8) (ctr : CtrI g.1 y cy nLy ret fr1 lo1 0 0 (srf g i :: As) w r w) (hnp : As.length = np) (hst : (st.map fun v => v.category).sum ≤ 8) (hs : st0 = As.reverse ++ srf g i :: st) (hd : decode cc pc = .ok (.invokevirtual idx, 3)) (hr : (fr1 + 1 ≤ fr ∧ 8 + (nLy + 11) + lo1 ≤ lo) ∧ cells + 0 ≤ mc ∧ slots + 0 ≤ ms) (K : XE g cells slots w (pc + 3) lv (.int r :: st)) : XE g cells slots w pc lv st0 := by
  obtain ⟨B, p, e, Rm, s, m, args, below, meth, c, Q⟩ := g
  subst hs
  intro H locs ls hz hP hS hl T hT X
  have hsz0 : H.size = B.2.1 + w.2.2.2.2 := by rw [← hT]; exact sz_of X hz C.2.2.2.2.2.1 (by rw [hT]; exact hP)
  obtain ⟨hx, hb, hml, hown, hSW, hbs, hlk, e1, e2, e3, e4⟩ := C
  subst e1 e2 e3 e4
  have hts : ∀ w : Cond, Wk w → w.before args s = true := fun w hw => hSW.1 w hw _
  obtain ⟨l1, l2, l3, l4, l5, l6⟩ := lk
  refine va_calli (va_runV (As := As) (rest := st) (Ts := []) ⟨hx, hb, hml, hown, fun w h => by cases h⟩ ctr ⟨callB_of np (fun w hw => hts w (one1 l1 w hw)) (good1 l1) rfl rfl rfl (hts _ l2) (hts _ l6) l5 hr.1, hts _ l3, hts _ l4⟩ ⟨WD.blind, by rw [hy]; exact vk_recv hSW.2.2.2.2.2.2.2.1 hi hS, fun U hU hW => ⟨rfl, by rw [hU]; exact hsz0, by rw [hU]; exact hP, hSW.step hW (fun a h1 h2 => by rw [hU]; exact hS.2.1 a h1 h2) (by rw [hU]; exact hS.1)⟩⟩ rfl hnp (by rw [← hml]; exact hl.1) rfl (lv_room hst) hd hr.2) hS (fun q _ h => h) (fun q h => h) (fun r9 u t H1 locs1 ht hvm hw hB hz1 hk1 hS1 => ?_) T hT X
  subst hw
  exact K H1 locs1 ls hz (by rw [← ht]; exact hB.2.1) hS1 hl
end XS
theorem kJ_coder {B : Bs} {w : Wt} {i : Nat} (hi : i < 8) : CtrI B yJ0_coder_7d493 cJ0_coder_7d493 1 (some .byte) 0 0 0 0 [srfB B i] w 0 w := by
  refine xr_enterI (lv0 := [(0, srfB B i)]) (by decide) (Nat.le_of_ble_eq_true rfl) rfl (fun g hg C q => ?_)
  subst hg
  refine xr_gsC C wk_453 dJ0_coder_7d493_0 ?_
  refine xr_if_eq (tgt := 13) C dJ0_coder_7d493_3 (by decide) (show (if (1 : Int32) = 0 then none else some ()) = some () from rfl) (fun c1 _ => absurd c1 (by decide)) (fun c1 _ => ?_)
  refine xr_aload_n C dJ0_coder_7d493_6 0 rfl rfl ?_
  refine xr_scod C wk_1204 hi dJ0_coder_7d493_7 ?_
  refine xr_goto (tgt := 14) C dJ0_coder_7d493_10 (by decide) ?_
  exact xr_ireturn C q rfl rfl dJ0_coder_7d493_14 rfl rfl
theorem kJ_isLatin1 {B : Bs} {w : Wt} {i : Nat} (hi : i < 8) : CtrI B yJ0_isLatin1_aae02 cJ0_isLatin1_aae02 1 (some .boolean) 0 0 0 0 [srfB B i] w 1 w := by
  refine xr_enterI (lv0 := [(0, srfB B i)]) (by decide) (Nat.le_of_ble_eq_true rfl) rfl (fun g hg C q => ?_)
  subst hg
  refine xr_gsC C wk_453 dJ0_isLatin1_aae02_0 ?_
  refine xr_if_eq (tgt := 17) C dJ0_isLatin1_aae02_3 (by decide) (show (if (1 : Int32) = 0 then none else some ()) = some () from rfl) (fun c1 _ => absurd c1 (by decide)) (fun c1 _ => ?_)
  refine xr_aload_n C dJ0_isLatin1_aae02_6 0 rfl rfl ?_
  refine xr_scod C wk_1204 hi dJ0_isLatin1_aae02_7 ?_
  refine xr_if_ne (tgt := 17) C dJ0_isLatin1_aae02_10 (by decide) (show (if (0 : Int32) = 0 then some () else none) = some () from rfl) (fun c1 _ => absurd rfl c1) (fun c1 _ => ?_)
  refine xr_iconst (v := 1) C dJ0_isLatin1_aae02_13 (by decide) ?_
  refine xr_goto (tgt := 18) C dJ0_isLatin1_aae02_14 (by decide) ?_
  exact xr_ireturn C q rfl rfl dJ0_isLatin1_aae02_18 rfl rfl
theorem st_len : ∀ i, i < 8 → stLen.getD i 0 < 8 := by decide
theorem kJ_length {B : Bs} {w : Wt} {i : Nat} (hi : i < 8) : CtrI B yJ0_length_8abf5 cJ0_length_8abf5 1 (some .int) 1 20 0 0 [srfB B i] w (nI (stLen.getD i 0)) w := by
  refine xr_enterI (lv0 := [(0, srfB B i)]) (by decide) (Nat.le_of_ble_eq_true rfl) rfl (fun g hg C q => ?_)
  subst hg
  refine xr_aload_n C dJ0_length_8abf5_0 0 rfl rfl ?_
  refine xr_sval C wk_1203 hi dJ0_length_8abf5_1 ?_
  refine xr_vlen C hi dJ0_length_8abf5_4 ?_
  refine xr_aload_n C dJ0_length_8abf5_5 0 rfl rfl ?_
  refine xr_callT C [] lkJ0_335 rfl hi (kJ_coder hi) rfl (Nat.le_of_ble_eq_true rfl) rfl dJ0_length_8abf5_6 ⟨by decide, by decide, by decide⟩ ?_
  refine xr_ishr C dJ0_length_8abf5_9 ?_
  refine xr_ireturn C q rfl rfl dJ0_length_8abf5_10 ?_ rfl
  have key : ∀ i, i < 8 → nI (stLen.getD i 0) >>> ((0 : Int32) &&& 31) = nI (stLen.getD i 0) := by decide
  exact key i hi
theorem kJ_pre {B : Bs} {w : Wt} {k n : Int32} {v : Value} (h0 : ¬ k < 0) (h1 : k < n) (hv : v = .null ∨ ∃ t : Nat, v = .ref t) : CtrI B yJ3_checkIndex_8e157 cJ3_checkIndex_8e157 3 (some .int) 0 0 0 0 [.int k, .int n, v] w k w := by
  rcases hv with rfl | ⟨t, rfl⟩

  · refine xr_enterI (lv0 := [(0, .int k), (1, .int n), (2, .null)]) (by decide) (Nat.le_of_ble_eq_true rfl) rfl (fun g hg C q => ?_)
    subst hg
    refine xr_iload_n C dJ3_checkIndex_8e157_0 0 rfl rfl ?_
    refine xr_if_lt (tgt := 9) C dJ3_checkIndex_8e157_1 (by decide) (show (if k < 0 then none else some ()) = some () from if_neg h0) (fun c1 _ => absurd c1 h0) (fun c1 _ => ?_)
    refine xr_iload_n C dJ3_checkIndex_8e157_4 0 rfl rfl ?_
    refine xr_iload_n C dJ3_checkIndex_8e157_5 1 rfl rfl ?_
    refine xr_icmp_lt (tgt := 16) C dJ3_checkIndex_8e157_6 (by decide) (show (if k < n then some () else none) = some () from if_pos h1) (fun c2 _ => ?_) (fun c2 _ => absurd h1 c2)
    refine xr_iload_n C dJ3_checkIndex_8e157_16 0 rfl rfl ?_
    exact xr_ireturn C q rfl rfl dJ3_checkIndex_8e157_17 rfl rfl
  · refine xr_enterI (lv0 := [(0, .int k), (1, .int n), (2, .ref t)]) (by decide) (Nat.le_of_ble_eq_true rfl) rfl (fun g hg C q => ?_)
    subst hg
    refine xr_iload_n C dJ3_checkIndex_8e157_0 0 rfl rfl ?_
    refine xr_if_lt (tgt := 9) C dJ3_checkIndex_8e157_1 (by decide) (show (if k < 0 then none else some ()) = some () from if_neg h0) (fun c1 _ => absurd c1 h0) (fun c1 _ => ?_)
    refine xr_iload_n C dJ3_checkIndex_8e157_4 0 rfl rfl ?_
    refine xr_iload_n C dJ3_checkIndex_8e157_5 1 rfl rfl ?_
    refine xr_icmp_lt (tgt := 16) C dJ3_checkIndex_8e157_6 (by decide) (show (if k < n then some () else none) = some () from if_pos h1) (fun c2 _ => ?_) (fun c2 _ => absurd h1 c2)
    refine xr_iload_n C dJ3_checkIndex_8e157_16 0 rfl rfl ?_
    exact xr_ireturn C q rfl rfl dJ3_checkIndex_8e157_17 rfl rfl
theorem kJ_check {B : Bs} {w : Wt} {k n : Int32} (h0 : ¬ k < 0) (h1 : k < n) : CtrV B yJ0_checkIndex_df160 cJ0_checkIndex_df160 2 1 22 0 0 [.int k, .int n] w w := by
  refine xr_enterV (lv0 := [(0, .int k), (1, .int n)]) (by decide) (Nat.le_of_ble_eq_true rfl) rfl (fun g hg C q => ?_)
  subst hg
  refine xr_iload_n C dJ0_checkIndex_df160_0 0 rfl rfl ?_
  refine xr_iload_n C dJ0_checkIndex_df160_1 1 rfl rfl ?_
  refine xr_gsF C wk_469 dJ0_checkIndex_df160_2 (fun v hv => ?_)
  have hst : ∀ u : List Value, u = [.int k, .int n, v].reverse ++ [] → XE g 0 0 w 5 [(0, .int k), (1, .int n)] u := fun u hu => xr_callSI C [.int k, .int n, v] lkJ0_1059 (kJ_pre h0 h1 hv) rfl (Nat.le_of_ble_eq_true rfl) hu dJ0_checkIndex_df160_5 ⟨by decide, by decide, by decide⟩ rfl (xr_pop C dJ0_checkIndex_df160_8 rfl (xr_return C q dJ0_checkIndex_df160_9 rfl))
  exact hst _ rfl
theorem inb_ck {k : Int32} {n : Nat} (h : inb k n = true) (hn : n < 2 ^ 31) : ¬ k < 0 ∧ k < nI n := by
  obtain ⟨h1, h2⟩ := of_decide_eq_true h
  refine ⟨i32_nn h1, Int32.lt_iff_toInt_lt.mpr ?_⟩
  rw [nI_toInt hn]
  exact h2
theorem st_byt : ∀ i, i < 8 → ∀ j, j < 8 → (((stByt.getD i []).getD j 0 &&& 255).toUInt32 % 65536).toInt32 = (stByt.getD i []).getD j 0 := by decide +kernel
theorem st_bytn : ∀ i, i < 8 → ∀ j, j < 8 → narrow .char (.int ((stByt.getD i []).getD j 0)) = .int ((stByt.getD i []).getD j 0) := fun i hi j hj => by
  have h := st_byt i hi j hj
  rw [← h]
  exact pk_nc _
theorem kJ_lat {B : Bs} {w : Wt} {i : Nat} {k : Int32} (hi : i < 8) (hk : inb k (stLen.getD i 0) = true) : CtrI B yJ1_charAt_3b067 cJ1_charAt_3b067 2 (some .char) 2 43 0 0 [vrfB B i, .int k] w ((stByt.getD i []).getD (ix k) 0) w := by
  have hl8 := st_len i hi
  have hb := st_byt i hi (ix k) (Nat.lt_trans (inb_lt hk) hl8)
  have hbn := st_bytn i hi (ix k) (Nat.lt_trans (inb_lt hk) hl8)
  refine xr_enterI (lv0 := [(0, vrfB B i), (1, .int k)]) (by decide) (Nat.le_of_ble_eq_true rfl) rfl (fun g hg C q => ?_)
  subst hg
  refine xr_iload_n C dJ1_charAt_3b067_0 1 rfl rfl ?_
  refine xr_aload_n C dJ1_charAt_3b067_1 0 rfl rfl ?_
  refine xr_vlen C hi dJ1_charAt_3b067_2 ?_
  refine xr_callSV C [.int k, .int (nI (stLen.getD i 0))] lkJ1_9 (kJ_check (inb_ck hk (by omega)).1 (inb_ck hk (by omega)).2) rfl (Nat.le_of_ble_eq_true rfl) rfl dJ1_charAt_3b067_3 ⟨by decide, by decide, by decide⟩ rfl ?_
  refine xr_aload_n C dJ1_charAt_3b067_6 0 rfl rfl ?_
  refine xr_iload_n C dJ1_charAt_3b067_7 1 rfl rfl ?_
  refine xr_vald C hi hk dJ1_charAt_3b067_8 ?_
  refine xr_sipush (v := 255) C dJ1_charAt_3b067_9 (by decide) ?_
  refine xr_iand C dJ1_charAt_3b067_12 ?_
  refine xr_i2c C dJ1_charAt_3b067_13 ?_
  exact xr_ireturn C q rfl (by rw [hb]; exact hbn) dJ1_charAt_3b067_14 hb rfl
theorem kJ_charAt {B : Bs} {w : Wt} {i : Nat} {k : Int32} (hi : i < 8) (hk : inb k (stLen.getD i 0) = true) : CtrI B yJ0_charAt_5068e cJ0_charAt_5068e 2 (some .char) 3 64 0 0 [srfB B i, .int k] w ((stByt.getD i []).getD (ix k) 0) w := by
  have hl8 := st_len i hi
  have hbn := st_bytn i hi (ix k) (Nat.lt_trans (inb_lt hk) hl8)
  refine xr_enterI (lv0 := [(0, srfB B i), (1, .int k)]) (by decide) (Nat.le_of_ble_eq_true rfl) rfl (fun g hg C q => ?_)
  subst hg
  refine xr_aload_n C dJ0_charAt_5068e_0 0 rfl rfl ?_
  refine xr_callT C [] lkJ0_492 rfl hi (kJ_isLatin1 hi) rfl (Nat.le_of_ble_eq_true rfl) rfl dJ0_charAt_5068e_1 ⟨by decide, by decide, by decide⟩ ?_
  refine xr_if_eq (tgt := 16) C dJ0_charAt_5068e_4 (by decide) (show (if (1 : Int32) = 0 then none else some ()) = some () from rfl) (fun c1 _ => absurd c1 (by decide)) (fun c1 _ => ?_)
  refine xr_aload_n C dJ0_charAt_5068e_7 0 rfl rfl ?_
  refine xr_sval C wk_1203 hi dJ0_charAt_5068e_8 ?_
  refine xr_iload_n C dJ0_charAt_5068e_11 1 rfl rfl ?_
  refine xr_callSI C [vrf g i, .int k] lkJ0_495 (kJ_lat hi hk) rfl (Nat.le_of_ble_eq_true rfl) rfl dJ0_charAt_5068e_12 ⟨by decide, by decide, by decide⟩ rfl ?_
  exact xr_ireturn C q rfl hbn dJ0_charAt_5068e_15 rfl rfl
section XS2
variable {g : Cfg} {cc : ByteArray} {nL pc i : Nat} {w : Wt} {lv : List (Nat × Value)} {st : List Value}
theorem xr_slen (C : Cx g RX8 cc nL 4 85 0 0) (hi : i < 8) (hd : decode cc pc = .ok (.invokevirtual 130, 3)) (K : XE g 0 0 w (pc + 3) lv (.int (nI (stLen.getD i 0)) :: st)) (hst : (st.map fun v => v.category).sum ≤ 8 := by exact Nat.le_of_ble_eq_true rfl) : XE g 0 0 w pc lv (srf g i :: st) :=
  xr_callT C [] lkX8_130 rfl hi (kJ_length hi) rfl hst rfl hd ⟨⟨by decide, by decide⟩, Nat.le_refl _, Nat.le_refl _⟩ K
theorem xr_schar (C : Cx g RX8 cc nL 4 85 0 0) {k : Int32} (hi : i < 8) (hk : inb k (stLen.getD i 0) = true) (hd : decode cc pc = .ok (.invokevirtual 134, 3)) (K : XE g 0 0 w (pc + 3) lv (.int ((stByt.getD i []).getD (ix k) 0) :: st)) (hst : (st.map fun v => v.category).sum ≤ 8 := by exact Nat.le_of_ble_eq_true rfl) : XE g 0 0 w pc lv (.int k :: srf g i :: st) :=
  xr_callT C [.int k] lkX8_134 rfl hi (kJ_charAt hi hk) rfl hst rfl hd ⟨⟨by decide, by decide⟩, Nat.le_refl _, Nat.le_refl _⟩ K
end XS2
