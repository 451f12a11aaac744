section
-- ===== PART A: goes FIRST, ahead of the names: the tables' words, and 'selects' of the private methods out of them =====
/-- a private method of a class that the tables say can be made, by its rows of tables_1 -/
def lw_okq (q : MethodName × Nat) : Prop := (q.1.cls ≠ "java/lang/invoke/MethodHandle" ∧ q.1.cls ≠ "java/lang/invoke/VarHandle") ∧ Cond.instantiable q.1.cls q.2 ∈ tables_1 ∧ Cond.privateMethod q.1 ∈ tables_1 ∧ Cond.instanceMethod q.1 ∈ tables_1
theorem lw_p0 : lw_okq (⟨"BumperBalls$Table", "clear", "()V"⟩, 7) := ⟨⟨by decide +kernel, by decide +kernel⟩, List.mem_of_getElem? (i := 54) (by decide +kernel), List.mem_of_getElem? (i := 60) (by decide +kernel), List.mem_of_getElem? (i := 61) (by decide +kernel)⟩
theorem lw_p1 : lw_okq (⟨"BumperBalls", "found", "(I)I"⟩, 12) := ⟨⟨by decide +kernel, by decide +kernel⟩, List.mem_of_getElem? (i := 19) (by decide +kernel), List.mem_of_getElem? (i := 354) (by decide +kernel), List.mem_of_getElem? (i := 355) (by decide +kernel)⟩
theorem lw_p2 : lw_okq (⟨"BumperBalls$Rows", "make", "(III)V"⟩, 3) := ⟨⟨by decide +kernel, by decide +kernel⟩, List.mem_of_getElem? (i := 27) (by decide +kernel), List.mem_of_getElem? (i := 359) (by decide +kernel), List.mem_of_getElem? (i := 360) (by decide +kernel)⟩
theorem lw_p3 : lw_okq (⟨"BumperBalls", "plain", "(I)I"⟩, 12) := ⟨⟨by decide +kernel, by decide +kernel⟩, List.mem_of_getElem? (i := 19) (by decide +kernel), List.mem_of_getElem? (i := 363) (by decide +kernel), List.mem_of_getElem? (i := 364) (by decide +kernel)⟩
theorem lw_p4 : lw_okq (⟨"BumperBalls$Rows", "isMissing", "(I)Z"⟩, 3) := ⟨⟨by decide +kernel, by decide +kernel⟩, List.mem_of_getElem? (i := 27) (by decide +kernel), List.mem_of_getElem? (i := 371) (by decide +kernel), List.mem_of_getElem? (i := 372) (by decide +kernel)⟩
theorem lw_p5 : lw_okq (⟨"BumperBalls$Rows", "hasPlaces", "(III)Z"⟩, 3) := ⟨⟨by decide +kernel, by decide +kernel⟩, List.mem_of_getElem? (i := 27) (by decide +kernel), List.mem_of_getElem? (i := 375) (by decide +kernel), List.mem_of_getElem? (i := 376) (by decide +kernel)⟩
theorem lw_p6 : lw_okq (⟨"BumperBalls$Rows", "write", "(III)I"⟩, 3) := ⟨⟨by decide +kernel, by decide +kernel⟩, List.mem_of_getElem? (i := 27) (by decide +kernel), List.mem_of_getElem? (i := 379) (by decide +kernel), List.mem_of_getElem? (i := 380) (by decide +kernel)⟩
theorem lw_p7 : lw_okq (⟨"BumperBalls$Rows", "remove", "(I)I"⟩, 3) := ⟨⟨by decide +kernel, by decide +kernel⟩, List.mem_of_getElem? (i := 27) (by decide +kernel), List.mem_of_getElem? (i := 394) (by decide +kernel), List.mem_of_getElem? (i := 395) (by decide +kernel)⟩
theorem lw_p8 : lw_okq (⟨"BumperBalls$Tape", "append", "(JI)V"⟩, 10) := ⟨⟨by decide +kernel, by decide +kernel⟩, List.mem_of_getElem? (i := 48) (by decide +kernel), List.mem_of_getElem? (i := 403) (by decide +kernel), List.mem_of_getElem? (i := 404) (by decide +kernel)⟩
theorem lw_p9 : lw_okq (⟨"BumperBalls$Tape", "readAll", "()V"⟩, 10) := ⟨⟨by decide +kernel, by decide +kernel⟩, List.mem_of_getElem? (i := 48) (by decide +kernel), List.mem_of_getElem? (i := 411) (by decide +kernel), List.mem_of_getElem? (i := 412) (by decide +kernel)⟩
theorem lw_p10 : lw_okq (⟨"BumperBalls$Tape", "readLaw", "()V"⟩, 10) := ⟨⟨by decide +kernel, by decide +kernel⟩, List.mem_of_getElem? (i := 48) (by decide +kernel), List.mem_of_getElem? (i := 416) (by decide +kernel), List.mem_of_getElem? (i := 417) (by decide +kernel)⟩
theorem lw_p11 : lw_okq (⟨"BumperBalls$Tape", "take", "()V"⟩, 10) := ⟨⟨by decide +kernel, by decide +kernel⟩, List.mem_of_getElem? (i := 48) (by decide +kernel), List.mem_of_getElem? (i := 420) (by decide +kernel), List.mem_of_getElem? (i := 421) (by decide +kernel)⟩
theorem lw_p12 : lw_okq (⟨"BumperBalls$Tape", "takeName", "()V"⟩, 10) := ⟨⟨by decide +kernel, by decide +kernel⟩, List.mem_of_getElem? (i := 48) (by decide +kernel), List.mem_of_getElem? (i := 430) (by decide +kernel), List.mem_of_getElem? (i := 431) (by decide +kernel)⟩
theorem lw_p13 : lw_okq (⟨"BumperBalls$Tape", "takeFigures", "()V"⟩, 10) := ⟨⟨by decide +kernel, by decide +kernel⟩, List.mem_of_getElem? (i := 48) (by decide +kernel), List.mem_of_getElem? (i := 437) (by decide +kernel), List.mem_of_getElem? (i := 438) (by decide +kernel)⟩
theorem lw_p14 : lw_okq (⟨"BumperBalls$Tape", "isName", "(Ljava/lang/String;)Z"⟩, 10) := ⟨⟨by decide +kernel, by decide +kernel⟩, List.mem_of_getElem? (i := 48) (by decide +kernel), List.mem_of_getElem? (i := 442) (by decide +kernel), List.mem_of_getElem? (i := 443) (by decide +kernel)⟩
theorem lw_p15 : lw_okq (⟨"BumperBalls$Tape", "demand", "(Z)V"⟩, 10) := ⟨⟨by decide +kernel, by decide +kernel⟩, List.mem_of_getElem? (i := 48) (by decide +kernel), List.mem_of_getElem? (i := 494) (by decide +kernel), List.mem_of_getElem? (i := 495) (by decide +kernel)⟩
def lw_privs_1 : List (MethodName × Nat) := [(⟨"BumperBalls$Table", "clear", "()V"⟩, 7), (⟨"BumperBalls", "found", "(I)I"⟩, 12), (⟨"BumperBalls$Rows", "make", "(III)V"⟩, 3), (⟨"BumperBalls", "plain", "(I)I"⟩, 12), (⟨"BumperBalls$Rows", "isMissing", "(I)Z"⟩, 3), (⟨"BumperBalls$Rows", "hasPlaces", "(III)Z"⟩, 3), (⟨"BumperBalls$Rows", "write", "(III)I"⟩, 3), (⟨"BumperBalls$Rows", "remove", "(I)I"⟩, 3), (⟨"BumperBalls$Tape", "append", "(JI)V"⟩, 10), (⟨"BumperBalls$Tape", "readAll", "()V"⟩, 10), (⟨"BumperBalls$Tape", "readLaw", "()V"⟩, 10), (⟨"BumperBalls$Tape", "take", "()V"⟩, 10), (⟨"BumperBalls$Tape", "takeName", "()V"⟩, 10), (⟨"BumperBalls$Tape", "takeFigures", "()V"⟩, 10), (⟨"BumperBalls$Tape", "isName", "(Ljava/lang/String;)Z"⟩, 10), (⟨"BumperBalls$Tape", "demand", "(Z)V"⟩, 10)]
theorem lw_r1 : ∀ q ∈ lw_privs_1, lw_okq q := List.forall_mem_cons.mpr ⟨lw_p0, List.forall_mem_cons.mpr ⟨lw_p1, List.forall_mem_cons.mpr ⟨lw_p2, List.forall_mem_cons.mpr ⟨lw_p3, List.forall_mem_cons.mpr ⟨lw_p4, List.forall_mem_cons.mpr ⟨lw_p5, List.forall_mem_cons.mpr ⟨lw_p6, List.forall_mem_cons.mpr ⟨lw_p7, List.forall_mem_cons.mpr ⟨lw_p8, List.forall_mem_cons.mpr ⟨lw_p9, List.forall_mem_cons.mpr ⟨lw_p10, List.forall_mem_cons.mpr ⟨lw_p11, List.forall_mem_cons.mpr ⟨lw_p12, List.forall_mem_cons.mpr ⟨lw_p13, List.forall_mem_cons.mpr ⟨lw_p14, List.forall_mem_cons.mpr ⟨lw_p15, fun _ h => absurd h List.not_mem_nil⟩⟩⟩⟩⟩⟩⟩⟩⟩⟩⟩⟩⟩⟩⟩⟩
theorem lw_p16 : lw_okq (⟨"BumperBalls$Tape", "takeNumber", "(II)I"⟩, 10) := ⟨⟨by decide +kernel, by decide +kernel⟩, List.mem_of_getElem? (i := 48) (by decide +kernel), List.mem_of_getElem? (i := 498) (by decide +kernel), List.mem_of_getElem? (i := 499) (by decide +kernel)⟩
theorem lw_p17 : lw_okq (⟨"BumperBalls$Tape", "takeSemicolon", "()V"⟩, 10) := ⟨⟨by decide +kernel, by decide +kernel⟩, List.mem_of_getElem? (i := 48) (by decide +kernel), List.mem_of_getElem? (i := 502) (by decide +kernel), List.mem_of_getElem? (i := 503) (by decide +kernel)⟩
theorem lw_p18 : lw_okq (⟨"BumperBalls$Tape", "readPin", "()V"⟩, 10) := ⟨⟨by decide +kernel, by decide +kernel⟩, List.mem_of_getElem? (i := 48) (by decide +kernel), List.mem_of_getElem? (i := 507) (by decide +kernel), List.mem_of_getElem? (i := 508) (by decide +kernel)⟩
theorem lw_p19 : lw_okq (⟨"BumperBalls$Tape", "takeKind", "()I"⟩, 10) := ⟨⟨by decide +kernel, by decide +kernel⟩, List.mem_of_getElem? (i := 48) (by decide +kernel), List.mem_of_getElem? (i := 511) (by decide +kernel), List.mem_of_getElem? (i := 512) (by decide +kernel)⟩
theorem lw_p20 : lw_okq (⟨"BumperBalls$Tape", "takeFreeCell", "()I"⟩, 10) := ⟨⟨by decide +kernel, by decide +kernel⟩, List.mem_of_getElem? (i := 48) (by decide +kernel), List.mem_of_getElem? (i := 520) (by decide +kernel), List.mem_of_getElem? (i := 521) (by decide +kernel)⟩
theorem lw_p21 : lw_okq (⟨"BumperBalls$Table", "pinIn", "(I)I"⟩, 7) := ⟨⟨by decide +kernel, by decide +kernel⟩, List.mem_of_getElem? (i := 54) (by decide +kernel), List.mem_of_getElem? (i := 524) (by decide +kernel), List.mem_of_getElem? (i := 525) (by decide +kernel)⟩
theorem lw_p22 : lw_okq (⟨"BumperBalls$Table", "addPin", "(IIII)V"⟩, 7) := ⟨⟨by decide +kernel, by decide +kernel⟩, List.mem_of_getElem? (i := 54) (by decide +kernel), List.mem_of_getElem? (i := 529) (by decide +kernel), List.mem_of_getElem? (i := 530) (by decide +kernel)⟩
theorem lw_p23 : lw_okq (⟨"BumperBalls$Tape", "readBall", "()V"⟩, 10) := ⟨⟨by decide +kernel, by decide +kernel⟩, List.mem_of_getElem? (i := 48) (by decide +kernel), List.mem_of_getElem? (i := 533) (by decide +kernel), List.mem_of_getElem? (i := 534) (by decide +kernel)⟩
theorem lw_p24 : lw_okq (⟨"BumperBalls$Table", "become", "(LBumperBalls$Table;)V"⟩, 7) := ⟨⟨by decide +kernel, by decide +kernel⟩, List.mem_of_getElem? (i := 54) (by decide +kernel), List.mem_of_getElem? (i := 539) (by decide +kernel), List.mem_of_getElem? (i := 540) (by decide +kernel)⟩
theorem lw_p25 : lw_okq (⟨"BumperBalls$Play", "begin", "(II)V"⟩, 10) := ⟨⟨by decide +kernel, by decide +kernel⟩, List.mem_of_getElem? (i := 140) (by decide +kernel), List.mem_of_getElem? (i := 544) (by decide +kernel), List.mem_of_getElem? (i := 545) (by decide +kernel)⟩
theorem lw_p26 : lw_okq (⟨"BumperBalls$Play", "place", "(II)V"⟩, 10) := ⟨⟨by decide +kernel, by decide +kernel⟩, List.mem_of_getElem? (i := 140) (by decide +kernel), List.mem_of_getElem? (i := 548) (by decide +kernel), List.mem_of_getElem? (i := 549) (by decide +kernel)⟩
theorem lw_p27 : lw_okq (⟨"BumperBalls$Acts", "forget", "()V"⟩, 3) := ⟨⟨by decide +kernel, by decide +kernel⟩, List.mem_of_getElem? (i := 193) (by decide +kernel), List.mem_of_getElem? (i := 552) (by decide +kernel), List.mem_of_getElem? (i := 553) (by decide +kernel)⟩
theorem lw_p28 : lw_okq (⟨"BumperBalls$Acts", "keep", "(LBumperBalls$Play;)V"⟩, 3) := ⟨⟨by decide +kernel, by decide +kernel⟩, List.mem_of_getElem? (i := 193) (by decide +kernel), List.mem_of_getElem? (i := 566) (by decide +kernel), List.mem_of_getElem? (i := 567) (by decide +kernel)⟩
theorem lw_p29 : lw_okq (⟨"BumperBalls$Play", "become", "(LBumperBalls$Play;)V"⟩, 10) := ⟨⟨by decide +kernel, by decide +kernel⟩, List.mem_of_getElem? (i := 140) (by decide +kernel), List.mem_of_getElem? (i := 570) (by decide +kernel), List.mem_of_getElem? (i := 571) (by decide +kernel)⟩
theorem lw_p30 : lw_okq (⟨"BumperBalls$Play", "step", "(LBumperBalls$Table;)V"⟩, 10) := ⟨⟨by decide +kernel, by decide +kernel⟩, List.mem_of_getElem? (i := 140) (by decide +kernel), List.mem_of_getElem? (i := 575) (by decide +kernel), List.mem_of_getElem? (i := 576) (by decide +kernel)⟩
theorem lw_p31 : lw_okq (⟨"BumperBalls$Play", "isAtSide", "()Z"⟩, 10) := ⟨⟨by decide +kernel, by decide +kernel⟩, List.mem_of_getElem? (i := 140) (by decide +kernel), List.mem_of_getElem? (i := 582) (by decide +kernel), List.mem_of_getElem? (i := 583) (by decide +kernel)⟩
def lw_privs_2 : List (MethodName × Nat) := [(⟨"BumperBalls$Tape", "takeNumber", "(II)I"⟩, 10), (⟨"BumperBalls$Tape", "takeSemicolon", "()V"⟩, 10), (⟨"BumperBalls$Tape", "readPin", "()V"⟩, 10), (⟨"BumperBalls$Tape", "takeKind", "()I"⟩, 10), (⟨"BumperBalls$Tape", "takeFreeCell", "()I"⟩, 10), (⟨"BumperBalls$Table", "pinIn", "(I)I"⟩, 7), (⟨"BumperBalls$Table", "addPin", "(IIII)V"⟩, 7), (⟨"BumperBalls$Tape", "readBall", "()V"⟩, 10), (⟨"BumperBalls$Table", "become", "(LBumperBalls$Table;)V"⟩, 7), (⟨"BumperBalls$Play", "begin", "(II)V"⟩, 10), (⟨"BumperBalls$Play", "place", "(II)V"⟩, 10), (⟨"BumperBalls$Acts", "forget", "()V"⟩, 3), (⟨"BumperBalls$Acts", "keep", "(LBumperBalls$Play;)V"⟩, 3), (⟨"BumperBalls$Play", "become", "(LBumperBalls$Play;)V"⟩, 10), (⟨"BumperBalls$Play", "step", "(LBumperBalls$Table;)V"⟩, 10), (⟨"BumperBalls$Play", "isAtSide", "()Z"⟩, 10)]
theorem lw_r2 : ∀ q ∈ lw_privs_2, lw_okq q := List.forall_mem_cons.mpr ⟨lw_p16, List.forall_mem_cons.mpr ⟨lw_p17, List.forall_mem_cons.mpr ⟨lw_p18, List.forall_mem_cons.mpr ⟨lw_p19, List.forall_mem_cons.mpr ⟨lw_p20, List.forall_mem_cons.mpr ⟨lw_p21, List.forall_mem_cons.mpr ⟨lw_p22, List.forall_mem_cons.mpr ⟨lw_p23, List.forall_mem_cons.mpr ⟨lw_p24, List.forall_mem_cons.mpr ⟨lw_p25, List.forall_mem_cons.mpr ⟨lw_p26, List.forall_mem_cons.mpr ⟨lw_p27, List.forall_mem_cons.mpr ⟨lw_p28, List.forall_mem_cons.mpr ⟨lw_p29, List.forall_mem_cons.mpr ⟨lw_p30, List.forall_mem_cons.mpr ⟨lw_p31, fun _ h => absurd h List.not_mem_nil⟩⟩⟩⟩⟩⟩⟩⟩⟩⟩⟩⟩⟩⟩⟩⟩
theorem lw_p32 : lw_okq (⟨"BumperBalls$Play", "turn", "(I)V"⟩, 10) := ⟨⟨by decide +kernel, by decide +kernel⟩, List.mem_of_getElem? (i := 140) (by decide +kernel), List.mem_of_getElem? (i := 586) (by decide +kernel), List.mem_of_getElem? (i := 587) (by decide +kernel)⟩
theorem lw_p33 : lw_okq (⟨"BumperBalls$Play", "knock", "(LBumperBalls$Table;I)V"⟩, 10) := ⟨⟨by decide +kernel, by decide +kernel⟩, List.mem_of_getElem? (i := 140) (by decide +kernel), List.mem_of_getElem? (i := 591) (by decide +kernel), List.mem_of_getElem? (i := 592) (by decide +kernel)⟩
theorem lw_p34 : lw_okq (⟨"BumperBalls$Play", "turnBy", "(II)V"⟩, 10) := ⟨⟨by decide +kernel, by decide +kernel⟩, List.mem_of_getElem? (i := 140) (by decide +kernel), List.mem_of_getElem? (i := 596) (by decide +kernel), List.mem_of_getElem? (i := 597) (by decide +kernel)⟩
theorem lw_p35 : lw_okq (⟨"BumperBalls$Play", "isOpen", "(I)Z"⟩, 10) := ⟨⟨by decide +kernel, by decide +kernel⟩, List.mem_of_getElem? (i := 140) (by decide +kernel), List.mem_of_getElem? (i := 600) (by decide +kernel), List.mem_of_getElem? (i := 601) (by decide +kernel)⟩
theorem lw_p36 : lw_okq (⟨"BumperBalls$Play", "shake", "(I)V"⟩, 10) := ⟨⟨by decide +kernel, by decide +kernel⟩, List.mem_of_getElem? (i := 140) (by decide +kernel), List.mem_of_getElem? (i := 608) (by decide +kernel), List.mem_of_getElem? (i := 609) (by decide +kernel)⟩
theorem lw_p37 : lw_okq (⟨"BumperBalls$Acts", "takeBack", "(LBumperBalls$Play;)V"⟩, 3) := ⟨⟨by decide +kernel, by decide +kernel⟩, List.mem_of_getElem? (i := 193) (by decide +kernel), List.mem_of_getElem? (i := 626) (by decide +kernel), List.mem_of_getElem? (i := 627) (by decide +kernel)⟩
theorem lw_p38 : lw_okq (⟨"BumperBalls", "isPin", "(I)Z"⟩, 12) := ⟨⟨by decide +kernel, by decide +kernel⟩, List.mem_of_getElem? (i := 19) (by decide +kernel), List.mem_of_getElem? (i := 638) (by decide +kernel), List.mem_of_getElem? (i := 639) (by decide +kernel)⟩
theorem lw_p39 : lw_okq (⟨"BumperBalls$Play", "run", "(LBumperBalls$Table;I)V"⟩, 10) := ⟨⟨by decide +kernel, by decide +kernel⟩, List.mem_of_getElem? (i := 140) (by decide +kernel), List.mem_of_getElem? (i := 648) (by decide +kernel), List.mem_of_getElem? (i := 649) (by decide +kernel)⟩
theorem lw_p40 : lw_okq (⟨"BumperBalls", "stepsTillLost", "()I"⟩, 12) := ⟨⟨by decide +kernel, by decide +kernel⟩, List.mem_of_getElem? (i := 19) (by decide +kernel), List.mem_of_getElem? (i := 658) (by decide +kernel), List.mem_of_getElem? (i := 659) (by decide +kernel)⟩
theorem lw_p41 : lw_okq (⟨"BumperBalls", "stepsTillAgain", "()I"⟩, 12) := ⟨⟨by decide +kernel, by decide +kernel⟩, List.mem_of_getElem? (i := 19) (by decide +kernel), List.mem_of_getElem? (i := 662) (by decide +kernel), List.mem_of_getElem? (i := 663) (by decide +kernel)⟩
theorem lw_p42 : lw_okq (⟨"BumperBalls$Play", "isAs", "(LBumperBalls$Play;)Z"⟩, 10) := ⟨⟨by decide +kernel, by decide +kernel⟩, List.mem_of_getElem? (i := 140) (by decide +kernel), List.mem_of_getElem? (i := 666) (by decide +kernel), List.mem_of_getElem? (i := 667) (by decide +kernel)⟩
theorem lw_p43 : lw_okq (⟨"BumperBalls", "broughtBy", "(II)I"⟩, 12) := ⟨⟨by decide +kernel, by decide +kernel⟩, List.mem_of_getElem? (i := 19) (by decide +kernel), List.mem_of_getElem? (i := 674) (by decide +kernel), List.mem_of_getElem? (i := 675) (by decide +kernel)⟩
theorem lw_p44 : lw_okq (⟨"BumperBalls$Search", "walk", "(LBumperBalls$Table;LBumperBalls$Play;II)V"⟩, 4) := ⟨⟨by decide +kernel, by decide +kernel⟩, List.mem_of_getElem? (i := 215) (by decide +kernel), List.mem_of_getElem? (i := 682) (by decide +kernel), List.mem_of_getElem? (i := 683) (by decide +kernel)⟩
theorem lw_p45 : lw_okq (⟨"BumperBalls$Search", "makeRoom", "(I)V"⟩, 4) := ⟨⟨by decide +kernel, by decide +kernel⟩, List.mem_of_getElem? (i := 215) (by decide +kernel), List.mem_of_getElem? (i := 686) (by decide +kernel), List.mem_of_getElem? (i := 687) (by decide +kernel)⟩
theorem lw_p46 : lw_okq (⟨"BumperBalls$Layer", "clear", "()V"⟩, 3) := ⟨⟨by decide +kernel, by decide +kernel⟩, List.mem_of_getElem? (i := 221) (by decide +kernel), List.mem_of_getElem? (i := 693) (by decide +kernel), List.mem_of_getElem? (i := 694) (by decide +kernel)⟩
theorem lw_p47 : lw_okq (⟨"BumperBalls$Layer", "reach", "(LBumperBalls$Play;I)V"⟩, 3) := ⟨⟨by decide +kernel, by decide +kernel⟩, List.mem_of_getElem? (i := 221) (by decide +kernel), List.mem_of_getElem? (i := 697) (by decide +kernel), List.mem_of_getElem? (i := 698) (by decide +kernel)⟩
def lw_privs_3 : List (MethodName × Nat) := [(⟨"BumperBalls$Play", "turn", "(I)V"⟩, 10), (⟨"BumperBalls$Play", "knock", "(LBumperBalls$Table;I)V"⟩, 10), (⟨"BumperBalls$Play", "turnBy", "(II)V"⟩, 10), (⟨"BumperBalls$Play", "isOpen", "(I)Z"⟩, 10), (⟨"BumperBalls$Play", "shake", "(I)V"⟩, 10), (⟨"BumperBalls$Acts", "takeBack", "(LBumperBalls$Play;)V"⟩, 3), (⟨"BumperBalls", "isPin", "(I)Z"⟩, 12), (⟨"BumperBalls$Play", "run", "(LBumperBalls$Table;I)V"⟩, 10), (⟨"BumperBalls", "stepsTillLost", "()I"⟩, 12), (⟨"BumperBalls", "stepsTillAgain", "()I"⟩, 12), (⟨"BumperBalls$Play", "isAs", "(LBumperBalls$Play;)Z"⟩, 10), (⟨"BumperBalls", "broughtBy", "(II)I"⟩, 12), (⟨"BumperBalls$Search", "walk", "(LBumperBalls$Table;LBumperBalls$Play;II)V"⟩, 4), (⟨"BumperBalls$Search", "makeRoom", "(I)V"⟩, 4), (⟨"BumperBalls$Layer", "clear", "()V"⟩, 3), (⟨"BumperBalls$Layer", "reach", "(LBumperBalls$Play;I)V"⟩, 3)]
theorem lw_r3 : ∀ q ∈ lw_privs_3, lw_okq q := List.forall_mem_cons.mpr ⟨lw_p32, List.forall_mem_cons.mpr ⟨lw_p33, List.forall_mem_cons.mpr ⟨lw_p34, List.forall_mem_cons.mpr ⟨lw_p35, List.forall_mem_cons.mpr ⟨lw_p36, List.forall_mem_cons.mpr ⟨lw_p37, List.forall_mem_cons.mpr ⟨lw_p38, List.forall_mem_cons.mpr ⟨lw_p39, List.forall_mem_cons.mpr ⟨lw_p40, List.forall_mem_cons.mpr ⟨lw_p41, List.forall_mem_cons.mpr ⟨lw_p42, List.forall_mem_cons.mpr ⟨lw_p43, List.forall_mem_cons.mpr ⟨lw_p44, List.forall_mem_cons.mpr ⟨lw_p45, List.forall_mem_cons.mpr ⟨lw_p46, List.forall_mem_cons.mpr ⟨lw_p47, fun _ h => absurd h List.not_mem_nil⟩⟩⟩⟩⟩⟩⟩⟩⟩⟩⟩⟩⟩⟩⟩⟩
theorem lw_p48 : lw_okq (⟨"BumperBalls$Search", "goOn", "(LBumperBalls$Table;IIII)V"⟩, 4) := ⟨⟨by decide +kernel, by decide +kernel⟩, List.mem_of_getElem? (i := 215) (by decide +kernel), List.mem_of_getElem? (i := 703) (by decide +kernel), List.mem_of_getElem? (i := 704) (by decide +kernel)⟩
theorem lw_p49 : lw_okq (⟨"BumperBalls$Search", "fewestStaying", "()I"⟩, 4) := ⟨⟨by decide +kernel, by decide +kernel⟩, List.mem_of_getElem? (i := 215) (by decide +kernel), List.mem_of_getElem? (i := 717) (by decide +kernel), List.mem_of_getElem? (i := 718) (by decide +kernel)⟩
theorem lw_p50 : lw_okq (⟨"BumperBalls$Rows", "tellsLetters", "(III)Z"⟩, 3) := ⟨⟨by decide +kernel, by decide +kernel⟩, List.mem_of_getElem? (i := 27) (by decide +kernel), List.mem_of_getElem? (i := 725) (by decide +kernel), List.mem_of_getElem? (i := 726) (by decide +kernel)⟩
theorem lw_p51 : lw_okq (⟨"BumperBalls", "isHeard", "(IIII)Z"⟩, 12) := ⟨⟨by decide +kernel, by decide +kernel⟩, List.mem_of_getElem? (i := 19) (by decide +kernel), List.mem_of_getElem? (i := 730) (by decide +kernel), List.mem_of_getElem? (i := 731) (by decide +kernel)⟩
theorem lw_p52 : lw_okq (⟨"BumperBalls$Image", "keep", "(LBumperBalls$Table;LBumperBalls$Play;)V"⟩, 3) := ⟨⟨by decide +kernel, by decide +kernel⟩, List.mem_of_getElem? (i := 283) (by decide +kernel), List.mem_of_getElem? (i := 738) (by decide +kernel), List.mem_of_getElem? (i := 739) (by decide +kernel)⟩
theorem lw_p53 : lw_okq (⟨"BumperBalls$Asks", "begin", "(ILBumperBalls$Table;LBumperBalls$Play;)V"⟩, 6) := ⟨⟨by decide +kernel, by decide +kernel⟩, List.mem_of_getElem? (i := 257) (by decide +kernel), List.mem_of_getElem? (i := 765) (by decide +kernel), List.mem_of_getElem? (i := 766) (by decide +kernel)⟩
theorem lw_p54 : lw_okq (⟨"BumperBalls$Asks", "sizeAsked", "()I"⟩, 6) := ⟨⟨by decide +kernel, by decide +kernel⟩, List.mem_of_getElem? (i := 257) (by decide +kernel), List.mem_of_getElem? (i := 769) (by decide +kernel), List.mem_of_getElem? (i := 770) (by decide +kernel)⟩
theorem lw_p55 : lw_okq (⟨"BumperBalls$Asks", "sizeOfBumper", "()I"⟩, 6) := ⟨⟨by decide +kernel, by decide +kernel⟩, List.mem_of_getElem? (i := 257) (by decide +kernel), List.mem_of_getElem? (i := 774) (by decide +kernel), List.mem_of_getElem? (i := 775) (by decide +kernel)⟩
theorem lw_p56 : lw_okq (⟨"BumperBalls$Asks", "leave", "(I)V"⟩, 6) := ⟨⟨by decide +kernel, by decide +kernel⟩, List.mem_of_getElem? (i := 257) (by decide +kernel), List.mem_of_getElem? (i := 778) (by decide +kernel), List.mem_of_getElem? (i := 779) (by decide +kernel)⟩
theorem lw_p57 : lw_okq (⟨"BumperBalls$Asks", "markOfBumper", "()I"⟩, 6) := ⟨⟨by decide +kernel, by decide +kernel⟩, List.mem_of_getElem? (i := 257) (by decide +kernel), List.mem_of_getElem? (i := 782) (by decide +kernel), List.mem_of_getElem? (i := 783) (by decide +kernel)⟩
theorem lw_p58 : lw_okq (⟨"BumperBalls$Asks", "sizeOfLamp", "()I"⟩, 6) := ⟨⟨by decide +kernel, by decide +kernel⟩, List.mem_of_getElem? (i := 257) (by decide +kernel), List.mem_of_getElem? (i := 786) (by decide +kernel), List.mem_of_getElem? (i := 787) (by decide +kernel)⟩
theorem lw_p59 : lw_okq (⟨"BumperBalls$Asks", "markAsked", "()I"⟩, 6) := ⟨⟨by decide +kernel, by decide +kernel⟩, List.mem_of_getElem? (i := 257) (by decide +kernel), List.mem_of_getElem? (i := 790) (by decide +kernel), List.mem_of_getElem? (i := 791) (by decide +kernel)⟩
theorem lw_p60 : lw_okq (⟨"BumperBalls$Asks", "markOfLamp", "()I"⟩, 6) := ⟨⟨by decide +kernel, by decide +kernel⟩, List.mem_of_getElem? (i := 257) (by decide +kernel), List.mem_of_getElem? (i := 794) (by decide +kernel), List.mem_of_getElem? (i := 795) (by decide +kernel)⟩
theorem lw_p61 : lw_okq (⟨"BumperBalls$Rows", "there", "()I"⟩, 3) := ⟨⟨by decide +kernel, by decide +kernel⟩, List.mem_of_getElem? (i := 27) (by decide +kernel), List.mem_of_getElem? (i := 806) (by decide +kernel), List.mem_of_getElem? (i := 807) (by decide +kernel)⟩
theorem lw_p62 : lw_okq (⟨"BumperBallsModel", "find", "(I)I"⟩, 22) := ⟨⟨by decide +kernel, by decide +kernel⟩, List.mem_of_getElem? (i := 815) (by decide +kernel), List.mem_of_getElem? (i := 902) (by decide +kernel), List.mem_of_getElem? (i := 903) (by decide +kernel)⟩
theorem lw_p63 : lw_okq (⟨"BumperBallsModel", "give", "(I)I"⟩, 22) := ⟨⟨by decide +kernel, by decide +kernel⟩, List.mem_of_getElem? (i := 815) (by decide +kernel), List.mem_of_getElem? (i := 907) (by decide +kernel), List.mem_of_getElem? (i := 908) (by decide +kernel)⟩
def lw_privs_4 : List (MethodName × Nat) := [(⟨"BumperBalls$Search", "goOn", "(LBumperBalls$Table;IIII)V"⟩, 4), (⟨"BumperBalls$Search", "fewestStaying", "()I"⟩, 4), (⟨"BumperBalls$Rows", "tellsLetters", "(III)Z"⟩, 3), (⟨"BumperBalls", "isHeard", "(IIII)Z"⟩, 12), (⟨"BumperBalls$Image", "keep", "(LBumperBalls$Table;LBumperBalls$Play;)V"⟩, 3), (⟨"BumperBalls$Asks", "begin", "(ILBumperBalls$Table;LBumperBalls$Play;)V"⟩, 6), (⟨"BumperBalls$Asks", "sizeAsked", "()I"⟩, 6), (⟨"BumperBalls$Asks", "sizeOfBumper", "()I"⟩, 6), (⟨"BumperBalls$Asks", "leave", "(I)V"⟩, 6), (⟨"BumperBalls$Asks", "markOfBumper", "()I"⟩, 6), (⟨"BumperBalls$Asks", "sizeOfLamp", "()I"⟩, 6), (⟨"BumperBalls$Asks", "markAsked", "()I"⟩, 6), (⟨"BumperBalls$Asks", "markOfLamp", "()I"⟩, 6), (⟨"BumperBalls$Rows", "there", "()I"⟩, 3), (⟨"BumperBallsModel", "find", "(I)I"⟩, 22), (⟨"BumperBallsModel", "give", "(I)I"⟩, 22)]
theorem lw_r4 : ∀ q ∈ lw_privs_4, lw_okq q := List.forall_mem_cons.mpr ⟨lw_p48, List.forall_mem_cons.mpr ⟨lw_p49, List.forall_mem_cons.mpr ⟨lw_p50, List.forall_mem_cons.mpr ⟨lw_p51, List.forall_mem_cons.mpr ⟨lw_p52, List.forall_mem_cons.mpr ⟨lw_p53, List.forall_mem_cons.mpr ⟨lw_p54, List.forall_mem_cons.mpr ⟨lw_p55, List.forall_mem_cons.mpr ⟨lw_p56, List.forall_mem_cons.mpr ⟨lw_p57, List.forall_mem_cons.mpr ⟨lw_p58, List.forall_mem_cons.mpr ⟨lw_p59, List.forall_mem_cons.mpr ⟨lw_p60, List.forall_mem_cons.mpr ⟨lw_p61, List.forall_mem_cons.mpr ⟨lw_p62, List.forall_mem_cons.mpr ⟨lw_p63, fun _ h => absurd h List.not_mem_nil⟩⟩⟩⟩⟩⟩⟩⟩⟩⟩⟩⟩⟩⟩⟩⟩
theorem lw_p64 : lw_okq (⟨"BumperBallsModel", "isSpan", "(III)Z"⟩, 22) := ⟨⟨by decide +kernel, by decide +kernel⟩, List.mem_of_getElem? (i := 815) (by decide +kernel), List.mem_of_getElem? (i := 919) (by decide +kernel), List.mem_of_getElem? (i := 920) (by decide +kernel)⟩
theorem lw_p65 : lw_okq (⟨"BumperBallsModel", "readsAll", "()Z"⟩, 22) := ⟨⟨by decide +kernel, by decide +kernel⟩, List.mem_of_getElem? (i := 815) (by decide +kernel), List.mem_of_getElem? (i := 938) (by decide +kernel), List.mem_of_getElem? (i := 939) (by decide +kernel)⟩
theorem lw_p66 : lw_okq (⟨"BumperBallsModel", "token", "()V"⟩, 22) := ⟨⟨by decide +kernel, by decide +kernel⟩, List.mem_of_getElem? (i := 815) (by decide +kernel), List.mem_of_getElem? (i := 942) (by decide +kernel), List.mem_of_getElem? (i := 943) (by decide +kernel)⟩
theorem lw_p67 : lw_okq (⟨"BumperBallsModel", "readsLaw", "()Z"⟩, 22) := ⟨⟨by decide +kernel, by decide +kernel⟩, List.mem_of_getElem? (i := 815) (by decide +kernel), List.mem_of_getElem? (i := 949) (by decide +kernel), List.mem_of_getElem? (i := 950) (by decide +kernel)⟩
theorem lw_p68 : lw_okq (⟨"BumperBallsModel", "isWord", "(II)Z"⟩, 22) := ⟨⟨by decide +kernel, by decide +kernel⟩, List.mem_of_getElem? (i := 815) (by decide +kernel), List.mem_of_getElem? (i := 953) (by decide +kernel), List.mem_of_getElem? (i := 954) (by decide +kernel)⟩
theorem lw_p69 : lw_okq (⟨"BumperBallsModel", "number", "(II)I"⟩, 22) := ⟨⟨by decide +kernel, by decide +kernel⟩, List.mem_of_getElem? (i := 815) (by decide +kernel), List.mem_of_getElem? (i := 957) (by decide +kernel), List.mem_of_getElem? (i := 958) (by decide +kernel)⟩
theorem lw_p70 : lw_okq (⟨"BumperBallsModel", "numberHere", "(II)I"⟩, 22) := ⟨⟨by decide +kernel, by decide +kernel⟩, List.mem_of_getElem? (i := 815) (by decide +kernel), List.mem_of_getElem? (i := 961) (by decide +kernel), List.mem_of_getElem? (i := 962) (by decide +kernel)⟩
theorem lw_p71 : lw_okq (⟨"BumperBallsModel", "readsSign", "()Z"⟩, 22) := ⟨⟨by decide +kernel, by decide +kernel⟩, List.mem_of_getElem? (i := 815) (by decide +kernel), List.mem_of_getElem? (i := 965) (by decide +kernel), List.mem_of_getElem? (i := 966) (by decide +kernel)⟩
theorem lw_p72 : lw_okq (⟨"BumperBallsModel", "isSign", "()Z"⟩, 22) := ⟨⟨by decide +kernel, by decide +kernel⟩, List.mem_of_getElem? (i := 815) (by decide +kernel), List.mem_of_getElem? (i := 969) (by decide +kernel), List.mem_of_getElem? (i := 970) (by decide +kernel)⟩
theorem lw_p73 : lw_okq (⟨"BumperBallsModel", "readsPin", "()Z"⟩, 22) := ⟨⟨by decide +kernel, by decide +kernel⟩, List.mem_of_getElem? (i := 815) (by decide +kernel), List.mem_of_getElem? (i := 973) (by decide +kernel), List.mem_of_getElem? (i := 974) (by decide +kernel)⟩
theorem lw_p74 : lw_okq (⟨"BumperBallsModel", "sortOfWord", "()I"⟩, 22) := ⟨⟨by decide +kernel, by decide +kernel⟩, List.mem_of_getElem? (i := 815) (by decide +kernel), List.mem_of_getElem? (i := 977) (by decide +kernel), List.mem_of_getElem? (i := 978) (by decide +kernel)⟩
theorem lw_p75 : lw_okq (⟨"BumperBallsModel", "isRighter", "()Z"⟩, 22) := ⟨⟨by decide +kernel, by decide +kernel⟩, List.mem_of_getElem? (i := 815) (by decide +kernel), List.mem_of_getElem? (i := 983) (by decide +kernel), List.mem_of_getElem? (i := 984) (by decide +kernel)⟩
theorem lw_p76 : lw_okq (⟨"BumperBallsModel", "cell", "()I"⟩, 22) := ⟨⟨by decide +kernel, by decide +kernel⟩, List.mem_of_getElem? (i := 815) (by decide +kernel), List.mem_of_getElem? (i := 990) (by decide +kernel), List.mem_of_getElem? (i := 991) (by decide +kernel)⟩
theorem lw_p77 : lw_okq (⟨"BumperBallsModel", "isPinRead", "(I)Z"⟩, 22) := ⟨⟨by decide +kernel, by decide +kernel⟩, List.mem_of_getElem? (i := 815) (by decide +kernel), List.mem_of_getElem? (i := 994) (by decide +kernel), List.mem_of_getElem? (i := 995) (by decide +kernel)⟩
theorem lw_p78 : lw_okq (⟨"BumperBallsModel", "readsBall", "()Z"⟩, 22) := ⟨⟨by decide +kernel, by decide +kernel⟩, List.mem_of_getElem? (i := 815) (by decide +kernel), List.mem_of_getElem? (i := 998) (by decide +kernel), List.mem_of_getElem? (i := 999) (by decide +kernel)⟩
theorem lw_p79 : lw_okq (⟨"BumperBallsModel", "keepPast", "()V"⟩, 22) := ⟨⟨by decide +kernel, by decide +kernel⟩, List.mem_of_getElem? (i := 815) (by decide +kernel), List.mem_of_getElem? (i := 1014) (by decide +kernel), List.mem_of_getElem? (i := 1015) (by decide +kernel)⟩
def lw_privs_5 : List (MethodName × Nat) := [(⟨"BumperBallsModel", "isSpan", "(III)Z"⟩, 22), (⟨"BumperBallsModel", "readsAll", "()Z"⟩, 22), (⟨"BumperBallsModel", "token", "()V"⟩, 22), (⟨"BumperBallsModel", "readsLaw", "()Z"⟩, 22), (⟨"BumperBallsModel", "isWord", "(II)Z"⟩, 22), (⟨"BumperBallsModel", "number", "(II)I"⟩, 22), (⟨"BumperBallsModel", "numberHere", "(II)I"⟩, 22), (⟨"BumperBallsModel", "readsSign", "()Z"⟩, 22), (⟨"BumperBallsModel", "isSign", "()Z"⟩, 22), (⟨"BumperBallsModel", "readsPin", "()Z"⟩, 22), (⟨"BumperBallsModel", "sortOfWord", "()I"⟩, 22), (⟨"BumperBallsModel", "isRighter", "()Z"⟩, 22), (⟨"BumperBallsModel", "cell", "()I"⟩, 22), (⟨"BumperBallsModel", "isPinRead", "(I)Z"⟩, 22), (⟨"BumperBallsModel", "readsBall", "()Z"⟩, 22), (⟨"BumperBallsModel", "keepPast", "()V"⟩, 22)]
theorem lw_r5 : ∀ q ∈ lw_privs_5, lw_okq q := List.forall_mem_cons.mpr ⟨lw_p64, List.forall_mem_cons.mpr ⟨lw_p65, List.forall_mem_cons.mpr ⟨lw_p66, List.forall_mem_cons.mpr ⟨lw_p67, List.forall_mem_cons.mpr ⟨lw_p68, List.forall_mem_cons.mpr ⟨lw_p69, List.forall_mem_cons.mpr ⟨lw_p70, List.forall_mem_cons.mpr ⟨lw_p71, List.forall_mem_cons.mpr ⟨lw_p72, List.forall_mem_cons.mpr ⟨lw_p73, List.forall_mem_cons.mpr ⟨lw_p74, List.forall_mem_cons.mpr ⟨lw_p75, List.forall_mem_cons.mpr ⟨lw_p76, List.forall_mem_cons.mpr ⟨lw_p77, List.forall_mem_cons.mpr ⟨lw_p78, List.forall_mem_cons.mpr ⟨lw_p79, fun _ h => absurd h List.not_mem_nil⟩⟩⟩⟩⟩⟩⟩⟩⟩⟩⟩⟩⟩⟩⟩⟩
theorem lw_p80 : lw_okq (⟨"BumperBallsModel", "step", "(I)I"⟩, 22) := ⟨⟨by decide +kernel, by decide +kernel⟩, List.mem_of_getElem? (i := 815) (by decide +kernel), List.mem_of_getElem? (i := 1018) (by decide +kernel), List.mem_of_getElem? (i := 1019) (by decide +kernel)⟩
theorem lw_p81 : lw_okq (⟨"BumperBallsModel", "pinAt", "(I)I"⟩, 22) := ⟨⟨by decide +kernel, by decide +kernel⟩, List.mem_of_getElem? (i := 815) (by decide +kernel), List.mem_of_getElem? (i := 1023) (by decide +kernel), List.mem_of_getElem? (i := 1024) (by decide +kernel)⟩
theorem lw_p82 : lw_okq (⟨"BumperBallsModel", "strike", "(II)V"⟩, 22) := ⟨⟨by decide +kernel, by decide +kernel⟩, List.mem_of_getElem? (i := 815) (by decide +kernel), List.mem_of_getElem? (i := 1027) (by decide +kernel), List.mem_of_getElem? (i := 1028) (by decide +kernel)⟩
theorem lw_p83 : lw_okq (⟨"BumperBallsModel", "turns", "(II)I"⟩, 22) := ⟨⟨by decide +kernel, by decide +kernel⟩, List.mem_of_getElem? (i := 815) (by decide +kernel), List.mem_of_getElem? (i := 1031) (by decide +kernel), List.mem_of_getElem? (i := 1032) (by decide +kernel)⟩
theorem lw_p84 : lw_okq (⟨"BumperBallsModel", "isGone", "()Z"⟩, 22) := ⟨⟨by decide +kernel, by decide +kernel⟩, List.mem_of_getElem? (i := 815) (by decide +kernel), List.mem_of_getElem? (i := 1042) (by decide +kernel), List.mem_of_getElem? (i := 1043) (by decide +kernel)⟩
theorem lw_p85 : lw_okq (⟨"BumperBallsModel", "isPin", "(I)Z"⟩, 22) := ⟨⟨by decide +kernel, by decide +kernel⟩, List.mem_of_getElem? (i := 815) (by decide +kernel), List.mem_of_getElem? (i := 1069) (by decide +kernel), List.mem_of_getElem? (i := 1070) (by decide +kernel)⟩
theorem lw_p86 : lw_okq (⟨"BumperBallsModel", "copyRow", "(II)V"⟩, 22) := ⟨⟨by decide +kernel, by decide +kernel⟩, List.mem_of_getElem? (i := 815) (by decide +kernel), List.mem_of_getElem? (i := 1078) (by decide +kernel), List.mem_of_getElem? (i := 1079) (by decide +kernel)⟩
theorem lw_p87 : lw_okq (⟨"BumperBallsModel", "isAsNow", "()Z"⟩, 22) := ⟨⟨by decide +kernel, by decide +kernel⟩, List.mem_of_getElem? (i := 815) (by decide +kernel), List.mem_of_getElem? (i := 1086) (by decide +kernel), List.mem_of_getElem? (i := 1087) (by decide +kernel)⟩
theorem lw_p88 : lw_okq (⟨"BumperBallsModel", "tryPut", "(I)V"⟩, 22) := ⟨⟨by decide +kernel, by decide +kernel⟩, List.mem_of_getElem? (i := 815) (by decide +kernel), List.mem_of_getElem? (i := 1095) (by decide +kernel), List.mem_of_getElem? (i := 1096) (by decide +kernel)⟩
theorem lw_p89 : lw_okq (⟨"BumperBallsModel", "nudgesFor", "(II)I"⟩, 22) := ⟨⟨by decide +kernel, by decide +kernel⟩, List.mem_of_getElem? (i := 815) (by decide +kernel), List.mem_of_getElem? (i := 1104) (by decide +kernel), List.mem_of_getElem? (i := 1105) (by decide +kernel)⟩
theorem lw_p90 : lw_okq (⟨"BumperBallsModel", "goOn", "(III)I"⟩, 22) := ⟨⟨by decide +kernel, by decide +kernel⟩, List.mem_of_getElem? (i := 815) (by decide +kernel), List.mem_of_getElem? (i := 1111) (by decide +kernel), List.mem_of_getElem? (i := 1112) (by decide +kernel)⟩
theorem lw_p91 : lw_okq (⟨"BumperBallsModel", "isHeard", "(III)Z"⟩, 22) := ⟨⟨by decide +kernel, by decide +kernel⟩, List.mem_of_getElem? (i := 815) (by decide +kernel), List.mem_of_getElem? (i := 1124) (by decide +kernel), List.mem_of_getElem? (i := 1125) (by decide +kernel)⟩
theorem lw_p92 : lw_okq (⟨"BumperBallsModel", "sizeOfBumper", "(I)I"⟩, 22) := ⟨⟨by decide +kernel, by decide +kernel⟩, List.mem_of_getElem? (i := 815) (by decide +kernel), List.mem_of_getElem? (i := 1151) (by decide +kernel), List.mem_of_getElem? (i := 1152) (by decide +kernel)⟩
theorem lw_p93 : lw_okq (⟨"BumperBallsModel", "bumperBody", "(I)I"⟩, 22) := ⟨⟨by decide +kernel, by decide +kernel⟩, List.mem_of_getElem? (i := 815) (by decide +kernel), List.mem_of_getElem? (i := 1155) (by decide +kernel), List.mem_of_getElem? (i := 1156) (by decide +kernel)⟩
theorem lw_p94 : lw_okq (⟨"BumperBallsModel", "leave", "(I)V"⟩, 22) := ⟨⟨by decide +kernel, by decide +kernel⟩, List.mem_of_getElem? (i := 815) (by decide +kernel), List.mem_of_getElem? (i := 1159) (by decide +kernel), List.mem_of_getElem? (i := 1160) (by decide +kernel)⟩
theorem lw_p95 : lw_okq (⟨"BumperBallsModel", "paysBody", "(I)I"⟩, 22) := ⟨⟨by decide +kernel, by decide +kernel⟩, List.mem_of_getElem? (i := 815) (by decide +kernel), List.mem_of_getElem? (i := 1163) (by decide +kernel), List.mem_of_getElem? (i := 1164) (by decide +kernel)⟩
def lw_privs_6 : List (MethodName × Nat) := [(⟨"BumperBallsModel", "step", "(I)I"⟩, 22), (⟨"BumperBallsModel", "pinAt", "(I)I"⟩, 22), (⟨"BumperBallsModel", "strike", "(II)V"⟩, 22), (⟨"BumperBallsModel", "turns", "(II)I"⟩, 22), (⟨"BumperBallsModel", "isGone", "()Z"⟩, 22), (⟨"BumperBallsModel", "isPin", "(I)Z"⟩, 22), (⟨"BumperBallsModel", "copyRow", "(II)V"⟩, 22), (⟨"BumperBallsModel", "isAsNow", "()Z"⟩, 22), (⟨"BumperBallsModel", "tryPut", "(I)V"⟩, 22), (⟨"BumperBallsModel", "nudgesFor", "(II)I"⟩, 22), (⟨"BumperBallsModel", "goOn", "(III)I"⟩, 22), (⟨"BumperBallsModel", "isHeard", "(III)Z"⟩, 22), (⟨"BumperBallsModel", "sizeOfBumper", "(I)I"⟩, 22), (⟨"BumperBallsModel", "bumperBody", "(I)I"⟩, 22), (⟨"BumperBallsModel", "leave", "(I)V"⟩, 22), (⟨"BumperBallsModel", "paysBody", "(I)I"⟩, 22)]
theorem lw_r6 : ∀ q ∈ lw_privs_6, lw_okq q := List.forall_mem_cons.mpr ⟨lw_p80, List.forall_mem_cons.mpr ⟨lw_p81, List.forall_mem_cons.mpr ⟨lw_p82, List.forall_mem_cons.mpr ⟨lw_p83, List.forall_mem_cons.mpr ⟨lw_p84, List.forall_mem_cons.mpr ⟨lw_p85, List.forall_mem_cons.mpr ⟨lw_p86, List.forall_mem_cons.mpr ⟨lw_p87, List.forall_mem_cons.mpr ⟨lw_p88, List.forall_mem_cons.mpr ⟨lw_p89, List.forall_mem_cons.mpr ⟨lw_p90, List.forall_mem_cons.mpr ⟨lw_p91, List.forall_mem_cons.mpr ⟨lw_p92, List.forall_mem_cons.mpr ⟨lw_p93, List.forall_mem_cons.mpr ⟨lw_p94, List.forall_mem_cons.mpr ⟨lw_p95, fun _ h => absurd h List.not_mem_nil⟩⟩⟩⟩⟩⟩⟩⟩⟩⟩⟩⟩⟩⟩⟩⟩
theorem lw_p96 : lw_okq (⟨"BumperBallsModel", "markOfBumper", "(I)I"⟩, 22) := ⟨⟨by decide +kernel, by decide +kernel⟩, List.mem_of_getElem? (i := 815) (by decide +kernel), List.mem_of_getElem? (i := 1167) (by decide +kernel), List.mem_of_getElem? (i := 1168) (by decide +kernel)⟩
theorem lw_p97 : lw_okq (⟨"BumperBallsModel", "struckBody", "(I)I"⟩, 22) := ⟨⟨by decide +kernel, by decide +kernel⟩, List.mem_of_getElem? (i := 815) (by decide +kernel), List.mem_of_getElem? (i := 1171) (by decide +kernel), List.mem_of_getElem? (i := 1172) (by decide +kernel)⟩
theorem lw_p98 : lw_okq (⟨"BumperBallsModel", "numberBody", "(I)I"⟩, 22) := ⟨⟨by decide +kernel, by decide +kernel⟩, List.mem_of_getElem? (i := 815) (by decide +kernel), List.mem_of_getElem? (i := 1175) (by decide +kernel), List.mem_of_getElem? (i := 1176) (by decide +kernel)⟩
theorem lw_p99 : lw_okq (⟨"BumperBallsModel", "sizeOfLamp", "(I)I"⟩, 22) := ⟨⟨by decide +kernel, by decide +kernel⟩, List.mem_of_getElem? (i := 815) (by decide +kernel), List.mem_of_getElem? (i := 1179) (by decide +kernel), List.mem_of_getElem? (i := 1180) (by decide +kernel)⟩
theorem lw_p100 : lw_okq (⟨"BumperBallsModel", "lampBody", "(I)I"⟩, 22) := ⟨⟨by decide +kernel, by decide +kernel⟩, List.mem_of_getElem? (i := 815) (by decide +kernel), List.mem_of_getElem? (i := 1183) (by decide +kernel), List.mem_of_getElem? (i := 1184) (by decide +kernel)⟩
theorem lw_p101 : lw_okq (⟨"BumperBallsModel", "markOfLamp", "(I)I"⟩, 22) := ⟨⟨by decide +kernel, by decide +kernel⟩, List.mem_of_getElem? (i := 815) (by decide +kernel), List.mem_of_getElem? (i := 1187) (by decide +kernel), List.mem_of_getElem? (i := 1188) (by decide +kernel)⟩
def lw_privs_7 : List (MethodName × Nat) := [(⟨"BumperBallsModel", "markOfBumper", "(I)I"⟩, 22), (⟨"BumperBallsModel", "struckBody", "(I)I"⟩, 22), (⟨"BumperBallsModel", "numberBody", "(I)I"⟩, 22), (⟨"BumperBallsModel", "sizeOfLamp", "(I)I"⟩, 22), (⟨"BumperBallsModel", "lampBody", "(I)I"⟩, 22), (⟨"BumperBallsModel", "markOfLamp", "(I)I"⟩, 22)]
theorem lw_r7 : ∀ q ∈ lw_privs_7, lw_okq q := List.forall_mem_cons.mpr ⟨lw_p96, List.forall_mem_cons.mpr ⟨lw_p97, List.forall_mem_cons.mpr ⟨lw_p98, List.forall_mem_cons.mpr ⟨lw_p99, List.forall_mem_cons.mpr ⟨lw_p100, List.forall_mem_cons.mpr ⟨lw_p101, fun _ h => absurd h List.not_mem_nil⟩⟩⟩⟩⟩⟩
def lw_privs : List (MethodName × Nat) := lw_privs_1 ++ (lw_privs_2 ++ (lw_privs_3 ++ (lw_privs_4 ++ (lw_privs_5 ++ (lw_privs_6 ++ (lw_privs_7))))))
def lw_tbl : List Cond := k2_sels lw_privs ++ tables_1
theorem lw_privs_ok : ∀ q ∈ lw_privs, lw_okq q := by
  show ∀ q ∈ lw_privs_1 ++ (lw_privs_2 ++ (lw_privs_3 ++ (lw_privs_4 ++ (lw_privs_5 ++ (lw_privs_6 ++ (lw_privs_7)))))), lw_okq q
  exact List.forall_mem_append.mpr ⟨lw_r1, List.forall_mem_append.mpr ⟨lw_r2, List.forall_mem_append.mpr ⟨lw_r3, List.forall_mem_append.mpr ⟨lw_r4, List.forall_mem_append.mpr ⟨lw_r5, List.forall_mem_append.mpr ⟨lw_r6, lw_r7⟩⟩⟩⟩⟩⟩
-- ===== end of PART A; then your names; then what follows =====
def RX0 : String := "BumperBalls$Acts"
def TX0 : u_T := fun k => match k with
  | 0 => ("BumperBalls$Acts", "plays", "[LBumperBalls$Play;", true)
  | 1 => ("BumperBalls$Acts", "oldest", "I", false)
  | _ => ("BumperBalls$Acts", "size", "I", false)
def tyX0 : Nat → FieldType := fun k => match k with
  | 0 => .array (.object "BumperBalls$Play")
  | 1 => .int
  | _ => .int
abbrev wsX00 : List Cond := u_ws RX0 TX0 3
theorem nmX0 : ∀ a, a < 3 → ∀ b, b < 3 → a ≠ b → (TX0 a).2.1 ≠ (TX0 b).2.1 := by decide +kernel
theorem tyX0_ok : ∀ k, k < 3 → parseFieldDescriptor (TX0 k).2.2.1 = some (tyX0 k) := by decide +kernel
abbrev cX0_init : ByteArray := prog_2_method_1_code
def yX0_init : MethodName := ⟨RX0, "<init>", "()V"⟩
abbrev cX0_forget : ByteArray := prog_2_method_2_code
def yX0_forget : MethodName := ⟨RX0, "forget", "()V"⟩
abbrev cX0_keep : ByteArray := prog_2_method_3_code
def yX0_keep : MethodName := ⟨RX0, "keep", "(LBumperBalls$Play;)V"⟩
abbrev cX0_takeBack : ByteArray := prog_2_method_4_code
def yX0_takeBack : MethodName := ⟨RX0, "takeBack", "(LBumperBalls$Play;)V"⟩
def RX1 : String := "BumperBalls$Asks"
def TX1 : u_T := fun k => match k with
  | 0 => ("BumperBalls$Asks", "bodies", "[I", true)
  | 1 => ("BumperBalls$Asks", "length", "I", false)
  | 2 => ("BumperBalls$Asks", "pin", "I", false)
  | 3 => ("BumperBalls$Asks", "kind", "I", false)
  | 4 => ("BumperBalls$Asks", "pays", "I", false)
  | _ => ("BumperBalls$Asks", "struck", "I", false)
def tyX1 : Nat → FieldType := fun k => match k with
  | 0 => .array .int
  | 1 => .int
  | 2 => .int
  | 3 => .int
  | 4 => .int
  | _ => .int
abbrev wsX10 : List Cond := u_ws RX1 TX1 6
theorem nmX1 : ∀ a, a < 6 → ∀ b, b < 6 → a ≠ b → (TX1 a).2.1 ≠ (TX1 b).2.1 := by decide +kernel
theorem tyX1_ok : ∀ k, k < 6 → parseFieldDescriptor (TX1 k).2.2.1 = some (tyX1 k) := by decide +kernel
abbrev cX1_init : ByteArray := prog_3_method_1_code
def yX1_init : MethodName := ⟨RX1, "<init>", "()V"⟩
abbrev cX1_begin : ByteArray := prog_3_method_2_code
def yX1_begin : MethodName := ⟨RX1, "begin", "(ILBumperBalls$Table;LBumperBalls$Play;)V"⟩
abbrev cX1_leave : ByteArray := prog_3_method_3_code
def yX1_leave : MethodName := ⟨RX1, "leave", "(I)V"⟩
abbrev cX1_sizeAsked : ByteArray := prog_3_method_4_code
def yX1_sizeAsked : MethodName := ⟨RX1, "sizeAsked", "()I"⟩
abbrev cX1_markAsked : ByteArray := prog_3_method_5_code
def yX1_markAsked : MethodName := ⟨RX1, "markAsked", "()I"⟩
abbrev cX1_sizeOfBumper : ByteArray := prog_3_method_6_code
def yX1_sizeOfBumper : MethodName := ⟨RX1, "sizeOfBumper", "()I"⟩
abbrev cX1_markOfBumper : ByteArray := prog_3_method_7_code
def yX1_markOfBumper : MethodName := ⟨RX1, "markOfBumper", "()I"⟩
abbrev cX1_sizeOfLamp : ByteArray := prog_3_method_8_code
def yX1_sizeOfLamp : MethodName := ⟨RX1, "sizeOfLamp", "()I"⟩
abbrev cX1_markOfLamp : ByteArray := prog_3_method_9_code
def yX1_markOfLamp : MethodName := ⟨RX1, "markOfLamp", "()I"⟩
def RX2 : String := "BumperBalls$Image"
def TX2 : u_T := fun k => match k with
  | 0 => ("BumperBalls$Image", "table", "LBumperBalls$Table;", true)
  | 1 => ("BumperBalls$Image", "play", "LBumperBalls$Play;", true)
  | _ => ("BumperBalls$Image", "isKept", "Z", false)
def tyX2 : Nat → FieldType := fun k => match k with
  | 0 => .object "BumperBalls$Table"
  | 1 => .object "BumperBalls$Play"
  | _ => .boolean
abbrev wsX20 : List Cond := u_ws RX2 TX2 3
theorem nmX2 : ∀ a, a < 3 → ∀ b, b < 3 → a ≠ b → (TX2 a).2.1 ≠ (TX2 b).2.1 := by decide +kernel
theorem tyX2_ok : ∀ k, k < 3 → parseFieldDescriptor (TX2 k).2.2.1 = some (tyX2 k) := by decide +kernel
abbrev cX2_init : ByteArray := prog_4_method_1_code
def yX2_init : MethodName := ⟨RX2, "<init>", "()V"⟩
abbrev cX2_keep : ByteArray := prog_4_method_2_code
def yX2_keep : MethodName := ⟨RX2, "keep", "(LBumperBalls$Table;LBumperBalls$Play;)V"⟩
def RX3 : String := "BumperBalls$Layer"
def TX3 : u_T := fun k => match k with
  | 0 => ("BumperBalls$Layer", "places", "[I", true)
  | 1 => ("BumperBalls$Layer", "costs", "[I", true)
  | _ => ("BumperBalls$Layer", "size", "I", false)
def tyX3 : Nat → FieldType := fun k => match k with
  | 0 => .array .int
  | 1 => .array .int
  | _ => .int
abbrev wsX30 : List Cond := u_ws RX3 TX3 3
theorem nmX3 : ∀ a, a < 3 → ∀ b, b < 3 → a ≠ b → (TX3 a).2.1 ≠ (TX3 b).2.1 := by decide +kernel
theorem tyX3_ok : ∀ k, k < 3 → parseFieldDescriptor (TX3 k).2.2.1 = some (tyX3 k) := by decide +kernel
abbrev cX3_init : ByteArray := prog_5_method_1_code
def yX3_init : MethodName := ⟨RX3, "<init>", "(I)V"⟩
abbrev cX3_clear : ByteArray := prog_5_method_2_code
def yX3_clear : MethodName := ⟨RX3, "clear", "()V"⟩
abbrev cX3_reach : ByteArray := prog_5_method_3_code
def yX3_reach : MethodName := ⟨RX3, "reach", "(LBumperBalls$Play;I)V"⟩
def RX4 : String := "BumperBalls$Play"
def TX4 : u_T := fun k => match k with
  | 0 => ("BumperBalls$Play", "cell", "I", false)
  | 1 => ("BumperBalls$Play", "way", "I", false)
  | 2 => ("BumperBalls$Play", "lost", "Z", false)
  | 3 => ("BumperBalls$Play", "shakes", "I", false)
  | 4 => ("BumperBalls$Play", "score", "I", false)
  | 5 => ("BumperBalls$Play", "lit", "I", false)
  | 6 => ("BumperBalls$Play", "gates", "I", false)
  | 7 => ("BumperBalls$Play", "steps", "I", false)
  | 8 => ("BumperBalls$Play", "struck", "[I", true)
  | _ => ("BumperBalls$Play", "knocked", "I", false)
def tyX4 : Nat → FieldType := fun k => match k with
  | 0 => .int
  | 1 => .int
  | 2 => .boolean
  | 3 => .int
  | 4 => .int
  | 5 => .int
  | 6 => .int
  | 7 => .int
  | 8 => .array .int
  | _ => .int
abbrev wsX40 : List Cond := u_ws RX4 TX4 10
theorem nmX4 : ∀ a, a < 10 → ∀ b, b < 10 → a ≠ b → (TX4 a).2.1 ≠ (TX4 b).2.1 := by decide +kernel
theorem tyX4_ok : ∀ k, k < 10 → parseFieldDescriptor (TX4 k).2.2.1 = some (tyX4 k) := by decide +kernel
abbrev cX4_init : ByteArray := prog_6_method_1_code
def yX4_init : MethodName := ⟨RX4, "<init>", "()V"⟩
abbrev cX4_begin : ByteArray := prog_6_method_2_code
def yX4_begin : MethodName := ⟨RX4, "begin", "(II)V"⟩
abbrev cX4_place : ByteArray := prog_6_method_3_code
def yX4_place : MethodName := ⟨RX4, "place", "(II)V"⟩
abbrev cX4_become : ByteArray := prog_6_method_4_code
def yX4_become : MethodName := ⟨RX4, "become", "(LBumperBalls$Play;)V"⟩
abbrev cX4_isAs : ByteArray := prog_6_method_5_code
def yX4_isAs : MethodName := ⟨RX4, "isAs", "(LBumperBalls$Play;)Z"⟩
abbrev cX4_isOpen : ByteArray := prog_6_method_6_code
def yX4_isOpen : MethodName := ⟨RX4, "isOpen", "(I)Z"⟩
abbrev cX4_run : ByteArray := prog_6_method_7_code
def yX4_run : MethodName := ⟨RX4, "run", "(LBumperBalls$Table;I)V"⟩
abbrev cX4_step : ByteArray := prog_6_method_8_code
def yX4_step : MethodName := ⟨RX4, "step", "(LBumperBalls$Table;)V"⟩
abbrev cX4_isAtSide : ByteArray := prog_6_method_9_code
def yX4_isAtSide : MethodName := ⟨RX4, "isAtSide", "()Z"⟩
abbrev cX4_knock : ByteArray := prog_6_method_10_code
def yX4_knock : MethodName := ⟨RX4, "knock", "(LBumperBalls$Table;I)V"⟩
abbrev cX4_turnBy : ByteArray := prog_6_method_11_code
def yX4_turnBy : MethodName := ⟨RX4, "turnBy", "(II)V"⟩
abbrev cX4_turn : ByteArray := prog_6_method_12_code
def yX4_turn : MethodName := ⟨RX4, "turn", "(I)V"⟩
abbrev cX4_shake : ByteArray := prog_6_method_13_code
def yX4_shake : MethodName := ⟨RX4, "shake", "(I)V"⟩
def RX5 : String := "BumperBalls$Rows"
def TX5 : u_T := fun k => match k with
  | 0 => ("BumperBalls$Rows", "lanes", "[I", true)
  | 1 => ("BumperBalls$Rows", "sizes", "[I", true)
  | _ => ("BumperBalls$Rows", "items", "[[I", true)
def tyX5 : Nat → FieldType := fun k => match k with
  | 0 => .array .int
  | 1 => .array .int
  | _ => .array (.array .int)
abbrev wsX50 : List Cond := u_ws RX5 TX5 3
theorem nmX5 : ∀ a, a < 3 → ∀ b, b < 3 → a ≠ b → (TX5 a).2.1 ≠ (TX5 b).2.1 := by decide +kernel
theorem tyX5_ok : ∀ k, k < 3 → parseFieldDescriptor (TX5 k).2.2.1 = some (tyX5 k) := by decide +kernel
abbrev cX5_init : ByteArray := prog_7_method_1_code
def yX5_init : MethodName := ⟨RX5, "<init>", "()V"⟩
abbrev cX5_isMissing : ByteArray := prog_7_method_2_code
def yX5_isMissing : MethodName := ⟨RX5, "isMissing", "(I)Z"⟩
abbrev cX5_hasPlaces : ByteArray := prog_7_method_3_code
def yX5_hasPlaces : MethodName := ⟨RX5, "hasPlaces", "(III)Z"⟩
abbrev cX5_make : ByteArray := prog_7_method_4_code
def yX5_make : MethodName := ⟨RX5, "make", "(III)V"⟩
abbrev cX5_remove : ByteArray := prog_7_method_5_code
def yX5_remove : MethodName := ⟨RX5, "remove", "(I)I"⟩
abbrev cX5_write : ByteArray := prog_7_method_6_code
def yX5_write : MethodName := ⟨RX5, "write", "(III)I"⟩
abbrev cX5_tellsLetters : ByteArray := prog_7_method_7_code
def yX5_tellsLetters : MethodName := ⟨RX5, "tellsLetters", "(III)Z"⟩
abbrev cX5_there : ByteArray := prog_7_method_8_code
def yX5_there : MethodName := ⟨RX5, "there", "()I"⟩
def RX6 : String := "BumperBalls$Search"
def TX6 : u_T := fun k => match k with
  | 0 => ("BumperBalls$Search", "now", "LBumperBalls$Layer;", false)
  | 1 => ("BumperBalls$Search", "next", "LBumperBalls$Layer;", false)
  | 2 => ("BumperBalls$Search", "ball", "LBumperBalls$Play;", true)
  | _ => ("BumperBalls$Search", "fewestStriking", "I", false)
def tyX6 : Nat → FieldType := fun k => match k with
  | 0 => .object "BumperBalls$Layer"
  | 1 => .object "BumperBalls$Layer"
  | 2 => .object "BumperBalls$Play"
  | _ => .int
abbrev wsX60 : List Cond := u_ws RX6 TX6 4
theorem nmX6 : ∀ a, a < 4 → ∀ b, b < 4 → a ≠ b → (TX6 a).2.1 ≠ (TX6 b).2.1 := by decide +kernel
theorem tyX6_ok : ∀ k, k < 4 → parseFieldDescriptor (TX6 k).2.2.1 = some (tyX6 k) := by decide +kernel
abbrev cX6_init : ByteArray := prog_8_method_1_code
def yX6_init : MethodName := ⟨RX6, "<init>", "()V"⟩
abbrev cX6_walk : ByteArray := prog_8_method_2_code
def yX6_walk : MethodName := ⟨RX6, "walk", "(LBumperBalls$Table;LBumperBalls$Play;II)V"⟩
abbrev cX6_makeRoom : ByteArray := prog_8_method_3_code
def yX6_makeRoom : MethodName := ⟨RX6, "makeRoom", "(I)V"⟩
abbrev cX6_goOn : ByteArray := prog_8_method_4_code
def yX6_goOn : MethodName := ⟨RX6, "goOn", "(LBumperBalls$Table;IIII)V"⟩
abbrev cX6_fewestStaying : ByteArray := prog_8_method_5_code
def yX6_fewestStaying : MethodName := ⟨RX6, "fewestStaying", "()I"⟩
abbrev cX6_fewer : ByteArray := prog_8_method_6_code
def yX6_fewer : MethodName := ⟨RX6, "fewer", "(II)I"⟩
def RX7 : String := "BumperBalls$Table"
def TX7 : u_T := fun k => match k with
  | 0 => ("BumperBalls$Table", "tilt", "I", false)
  | 1 => ("BumperBalls$Table", "pins", "I", false)
  | 2 => ("BumperBalls$Table", "kinds", "[I", true)
  | 3 => ("BumperBalls$Table", "cells", "[I", true)
  | 4 => ("BumperBalls$Table", "letters", "[I", true)
  | 5 => ("BumperBalls$Table", "pays", "[I", true)
  | _ => ("BumperBalls$Table", "pinsOfCells", "[I", true)
def tyX7 : Nat → FieldType := fun k => match k with
  | 0 => .int
  | 1 => .int
  | 2 => .array .int
  | 3 => .array .int
  | 4 => .array .int
  | 5 => .array .int
  | _ => .array .int
abbrev wsX70 : List Cond := u_ws RX7 TX7 7
theorem nmX7 : ∀ a, a < 7 → ∀ b, b < 7 → a ≠ b → (TX7 a).2.1 ≠ (TX7 b).2.1 := by decide +kernel
theorem tyX7_ok : ∀ k, k < 7 → parseFieldDescriptor (TX7 k).2.2.1 = some (tyX7 k) := by decide +kernel
abbrev cX7_init : ByteArray := prog_9_method_1_code
def yX7_init : MethodName := ⟨RX7, "<init>", "()V"⟩
abbrev cX7_clear : ByteArray := prog_9_method_2_code
def yX7_clear : MethodName := ⟨RX7, "clear", "()V"⟩
abbrev cX7_addPin : ByteArray := prog_9_method_3_code
def yX7_addPin : MethodName := ⟨RX7, "addPin", "(IIII)V"⟩
abbrev cX7_pinIn : ByteArray := prog_9_method_4_code
def yX7_pinIn : MethodName := ⟨RX7, "pinIn", "(I)I"⟩
abbrev cX7_become : ByteArray := prog_9_method_5_code
def yX7_become : MethodName := ⟨RX7, "become", "(LBumperBalls$Table;)V"⟩
def RX8 : String := "BumperBalls$Tape"
def TX8 : u_T := fun k => match k with
  | 0 => ("BumperBalls$Tape", "bytes", "[I", true)
  | 1 => ("BumperBalls$Tape", "length", "I", false)
  | 2 => ("BumperBalls$Tape", "draft", "LBumperBalls$Table;", true)
  | 3 => ("BumperBalls$Tape", "ballCell", "I", false)
  | 4 => ("BumperBalls$Tape", "ballWay", "I", false)
  | 5 => ("BumperBalls$Tape", "fault", "I", false)
  | 6 => ("BumperBalls$Tape", "at", "I", false)
  | 7 => ("BumperBalls$Tape", "start", "I", false)
  | 8 => ("BumperBalls$Tape", "sort", "I", false)
  | _ => ("BumperBalls$Tape", "value", "I", false)
def tyX8 : Nat → FieldType := fun k => match k with
  | 0 => .array .int
  | 1 => .int
  | 2 => .object "BumperBalls$Table"
  | 3 => .int
  | 4 => .int
  | 5 => .int
  | 6 => .int
  | 7 => .int
  | 8 => .int
  | _ => .int
abbrev wsX80 : List Cond := u_ws RX8 TX8 10
theorem nmX8 : ∀ a, a < 10 → ∀ b, b < 10 → a ≠ b → (TX8 a).2.1 ≠ (TX8 b).2.1 := by decide +kernel
theorem tyX8_ok : ∀ k, k < 10 → parseFieldDescriptor (TX8 k).2.2.1 = some (tyX8 k) := by decide +kernel
abbrev cX8_init : ByteArray := prog_10_method_1_code
def yX8_init : MethodName := ⟨RX8, "<init>", "()V"⟩
abbrev cX8_append : ByteArray := prog_10_method_2_code
def yX8_append : MethodName := ⟨RX8, "append", "(JI)V"⟩
abbrev cX8_readAll : ByteArray := prog_10_method_3_code
def yX8_readAll : MethodName := ⟨RX8, "readAll", "()V"⟩
abbrev cX8_readLaw : ByteArray := prog_10_method_4_code
def yX8_readLaw : MethodName := ⟨RX8, "readLaw", "()V"⟩
abbrev cX8_readPin : ByteArray := prog_10_method_5_code
def yX8_readPin : MethodName := ⟨RX8, "readPin", "()V"⟩
abbrev cX8_readBall : ByteArray := prog_10_method_6_code
def yX8_readBall : MethodName := ⟨RX8, "readBall", "()V"⟩
abbrev cX8_takeKind : ByteArray := prog_10_method_7_code
def yX8_takeKind : MethodName := ⟨RX8, "takeKind", "()I"⟩
abbrev cX8_takeFreeCell : ByteArray := prog_10_method_8_code
def yX8_takeFreeCell : MethodName := ⟨RX8, "takeFreeCell", "()I"⟩
abbrev cX8_takeNumber : ByteArray := prog_10_method_9_code
def yX8_takeNumber : MethodName := ⟨RX8, "takeNumber", "(II)I"⟩
abbrev cX8_takeSemicolon : ByteArray := prog_10_method_10_code
def yX8_takeSemicolon : MethodName := ⟨RX8, "takeSemicolon", "()V"⟩
abbrev cX8_demand : ByteArray := prog_10_method_11_code
def yX8_demand : MethodName := ⟨RX8, "demand", "(Z)V"⟩
abbrev cX8_take : ByteArray := prog_10_method_12_code
def yX8_take : MethodName := ⟨RX8, "take", "()V"⟩
abbrev cX8_takeName : ByteArray := prog_10_method_13_code
def yX8_takeName : MethodName := ⟨RX8, "takeName", "()V"⟩
abbrev cX8_takeFigures : ByteArray := prog_10_method_14_code
def yX8_takeFigures : MethodName := ⟨RX8, "takeFigures", "()V"⟩
abbrev cX8_isName : ByteArray := prog_10_method_15_code
def yX8_isName : MethodName := ⟨RX8, "isName", "(Ljava/lang/String;)Z"⟩
abbrev cX8_isBlank : ByteArray := prog_10_method_16_code
def yX8_isBlank : MethodName := ⟨RX8, "isBlank", "(I)Z"⟩
abbrev cX8_isLetter : ByteArray := prog_10_method_17_code
def yX8_isLetter : MethodName := ⟨RX8, "isLetter", "(I)Z"⟩
abbrev cX8_isFigure : ByteArray := prog_10_method_18_code
def yX8_isFigure : MethodName := ⟨RX8, "isFigure", "(I)Z"⟩
def RX9 : String := "BumperBalls"
def TX9 : u_T := fun k => match k with
  | 0 => ("BumperBalls", "rows", "LBumperBalls$Rows;", true)
  | 1 => ("BumperBalls", "tape", "LBumperBalls$Tape;", true)
  | 2 => ("BumperBalls", "table", "LBumperBalls$Table;", true)
  | 3 => ("BumperBalls", "play", "LBumperBalls$Play;", true)
  | 4 => ("BumperBalls", "acts", "LBumperBalls$Acts;", true)
  | 5 => ("BumperBalls", "images", "[LBumperBalls$Image;", true)
  | 6 => ("BumperBalls", "probe", "LBumperBalls$Play;", true)
  | 7 => ("BumperBalls", "search", "LBumperBalls$Search;", true)
  | 8 => ("BumperBalls", "asks", "LBumperBalls$Asks;", true)
  | 9 => ("BumperBalls", "ready", "Z", false)
  | 10 => ("BumperBalls", "latestFault", "I", false)
  | _ => ("BumperBalls", "latestFinding", "I", false)
def tyX9 : Nat → FieldType := fun k => match k with
  | 0 => .object "BumperBalls$Rows"
  | 1 => .object "BumperBalls$Tape"
  | 2 => .object "BumperBalls$Table"
  | 3 => .object "BumperBalls$Play"
  | 4 => .object "BumperBalls$Acts"
  | 5 => .array (.object "BumperBalls$Image")
  | 6 => .object "BumperBalls$Play"
  | 7 => .object "BumperBalls$Search"
  | 8 => .object "BumperBalls$Asks"
  | 9 => .boolean
  | 10 => .int
  | _ => .int
abbrev wsX90 : List Cond := u_ws RX9 TX9 12
theorem nmX9 : ∀ a, a < 12 → ∀ b, b < 12 → a ≠ b → (TX9 a).2.1 ≠ (TX9 b).2.1 := by decide +kernel
theorem tyX9_ok : ∀ k, k < 12 → parseFieldDescriptor (TX9 k).2.2.1 = some (tyX9 k) := by decide +kernel
abbrev cX9_init : ByteArray := prog_1_method_1_code
def yX9_init : MethodName := ⟨RX9, "<init>", "()V"⟩
abbrev cX9_row : ByteArray := prog_1_method_2_code
def yX9_row : MethodName := ⟨RX9, "row", "(III)I"⟩
abbrev cX9_set : ByteArray := prog_1_method_3_code
def yX9_set : MethodName := ⟨RX9, "set", "(III)I"⟩
abbrev cX9_copy : ByteArray := prog_1_method_4_code
def yX9_copy : MethodName := ⟨RX9, "copy", "(IIIII)I"⟩
abbrev cX9_drop : ByteArray := prog_1_method_5_code
def yX9_drop : MethodName := ⟨RX9, "drop", "(I)I"⟩
abbrev cX9_feed : ByteArray := prog_1_method_6_code
def yX9_feed : MethodName := ⟨RX9, "feed", "(JI)I"⟩
abbrev cX9_table : ByteArray := prog_1_method_7_code
def yX9_table : MethodName := ⟨RX9, "table", "()I"⟩
abbrev cX9_fault : ByteArray := prog_1_method_8_code
def yX9_fault : MethodName := ⟨RX9, "fault", "()I"⟩
abbrev cX9_steps : ByteArray := prog_1_method_9_code
def yX9_steps : MethodName := ⟨RX9, "steps", "(I)I"⟩
abbrev cX9_nudge : ByteArray := prog_1_method_10_code
def yX9_nudge : MethodName := ⟨RX9, "nudge", "()I"⟩
abbrev cX9_flip : ByteArray := prog_1_method_11_code
def yX9_flip : MethodName := ⟨RX9, "flip", "()I"⟩
abbrev cX9_put : ByteArray := prog_1_method_12_code
def yX9_put : MethodName := ⟨RX9, "put", "(II)I"⟩
abbrev cX9_undo : ByteArray := prog_1_method_13_code
def yX9_undo : MethodName := ⟨RX9, "undo", "()I"⟩
abbrev cX9_ball : ByteArray := prog_1_method_14_code
def yX9_ball : MethodName := ⟨RX9, "ball", "(I)I"⟩
abbrev cX9_pin : ByteArray := prog_1_method_15_code
def yX9_pin : MethodName := ⟨RX9, "pin", "(II)I"⟩
abbrev cX9_ahead : ByteArray := prog_1_method_16_code
def yX9_ahead : MethodName := ⟨RX9, "ahead", "(II)I"⟩
abbrev cX9_lasts : ByteArray := prog_1_method_17_code
def yX9_lasts : MethodName := ⟨RX9, "lasts", "(I)I"⟩
abbrev cX9_richest : ByteArray := prog_1_method_18_code
def yX9_richest : MethodName := ⟨RX9, "richest", "(II)I"⟩
abbrev cX9_nudged : ByteArray := prog_1_method_19_code
def yX9_nudged : MethodName := ⟨RX9, "nudged", "(II)I"⟩
abbrev cX9_kept : ByteArray := prog_1_method_20_code
def yX9_kept : MethodName := ⟨RX9, "kept", "(I)I"⟩
abbrev cX9_heard : ByteArray := prog_1_method_21_code
def yX9_heard : MethodName := ⟨RX9, "heard", "(IIII)I"⟩
abbrev cX9_image : ByteArray := prog_1_method_22_code
def yX9_image : MethodName := ⟨RX9, "image", "(I)I"⟩
abbrev cX9_restore : ByteArray := prog_1_method_23_code
def yX9_restore : MethodName := ⟨RX9, "restore", "(I)I"⟩
abbrev cX9_kind : ByteArray := prog_1_method_24_code
def yX9_kind : MethodName := ⟨RX9, "kind", "(I)I"⟩
abbrev cX9_as : ByteArray := prog_1_method_25_code
def yX9_as : MethodName := ⟨RX9, "as", "(II)I"⟩
abbrev cX9_ask : ByteArray := prog_1_method_26_code
def yX9_ask : MethodName := ⟨RX9, "ask", "(II)I"⟩
abbrev cX9_trace : ByteArray := prog_1_method_27_code
def yX9_trace : MethodName := ⟨RX9, "trace", "(I)I"⟩
abbrev cX9_count : ByteArray := prog_1_method_28_code
def yX9_count : MethodName := ⟨RX9, "count", "(I)I"⟩
abbrev cX9_status : ByteArray := prog_1_method_29_code
def yX9_status : MethodName := ⟨RX9, "status", "()I"⟩
abbrev cX9_found : ByteArray := prog_1_method_30_code
def yX9_found : MethodName := ⟨RX9, "found", "(I)I"⟩
abbrev cX9_plain : ByteArray := prog_1_method_31_code
def yX9_plain : MethodName := ⟨RX9, "plain", "(I)I"⟩
abbrev cX9_isUpTo : ByteArray := prog_1_method_32_code
def yX9_isUpTo : MethodName := ⟨RX9, "isUpTo", "(II)Z"⟩
abbrev cX9_isRow : ByteArray := prog_1_method_33_code
def yX9_isRow : MethodName := ⟨RX9, "isRow", "(I)Z"⟩
abbrev cX9_isPin : ByteArray := prog_1_method_34_code
def yX9_isPin : MethodName := ⟨RX9, "isPin", "(I)Z"⟩
abbrev cX9_isOfKind : ByteArray := prog_1_method_35_code
def yX9_isOfKind : MethodName := ⟨RX9, "isOfKind", "(II)Z"⟩
abbrev cX9_stepsTillLost : ByteArray := prog_1_method_36_code
def yX9_stepsTillLost : MethodName := ⟨RX9, "stepsTillLost", "()I"⟩
abbrev cX9_stepsTillAgain : ByteArray := prog_1_method_37_code
def yX9_stepsTillAgain : MethodName := ⟨RX9, "stepsTillAgain", "()I"⟩
abbrev cX9_broughtBy : ByteArray := prog_1_method_38_code
def yX9_broughtBy : MethodName := ⟨RX9, "broughtBy", "(II)I"⟩
abbrev cX9_isHeard : ByteArray := prog_1_method_39_code
def yX9_isHeard : MethodName := ⟨RX9, "isHeard", "(IIII)Z"⟩
def RX10 : String := "BumperBallsModel"
def TX10 : u_T := fun k => match k with
  | 0 => ("BumperBallsModel", "row", "[I", true)
  | 1 => ("BumperBallsModel", "pasts", "[I", true)
  | 2 => ("BumperBallsModel", "pastMany", "I", false)
  | 3 => ("BumperBallsModel", "tape", "[I", true)
  | 4 => ("BumperBallsModel", "taped", "I", false)
  | 5 => ("BumperBallsModel", "fault", "I", false)
  | 6 => ("BumperBallsModel", "status", "I", false)
  | 7 => ("BumperBallsModel", "lanes", "[I", true)
  | 8 => ("BumperBallsModel", "sizes", "[I", true)
  | 9 => ("BumperBallsModel", "items", "[I", true)
  | 10 => ("BumperBallsModel", "traces", "[I", true)
  | 11 => ("BumperBallsModel", "traceMany", "I", false)
  | 12 => ("BumperBallsModel", "at", "I", false)
  | 13 => ("BumperBallsModel", "place", "I", false)
  | 14 => ("BumperBallsModel", "end", "I", false)
  | 15 => ("BumperBallsModel", "readTilt", "I", false)
  | 16 => ("BumperBallsModel", "readPins", "[I", true)
  | 17 => ("BumperBallsModel", "readMany", "I", false)
  | 18 => ("BumperBallsModel", "readCell", "I", false)
  | 19 => ("BumperBallsModel", "readWay", "I", false)
  | 20 => ("BumperBallsModel", "fewest", "[I", true)
  | _ => ("BumperBallsModel", "nexts", "[I", true)
def tyX10 : Nat → FieldType := fun k => match k with
  | 0 => .array .int
  | 1 => .array .int
  | 2 => .int
  | 3 => .array .int
  | 4 => .int
  | 5 => .int
  | 6 => .int
  | 7 => .array .int
  | 8 => .array .int
  | 9 => .array .int
  | 10 => .array .int
  | 11 => .int
  | 12 => .int
  | 13 => .int
  | 14 => .int
  | 15 => .int
  | 16 => .array .int
  | 17 => .int
  | 18 => .int
  | 19 => .int
  | 20 => .array .int
  | _ => .array .int
abbrev wsX100 : List Cond := u_ws RX10 TX10 22
theorem nmX10 : ∀ a, a < 22 → ∀ b, b < 22 → a ≠ b → (TX10 a).2.1 ≠ (TX10 b).2.1 := by decide +kernel
theorem tyX10_ok : ∀ k, k < 22 → parseFieldDescriptor (TX10 k).2.2.1 = some (tyX10 k) := by decide +kernel
abbrev cX10_init : ByteArray := prog_12_method_1_code
def yX10_init : MethodName := ⟨RX10, "<init>", "()V"⟩
abbrev cX10_in : ByteArray := prog_12_method_2_code
def yX10_in : MethodName := ⟨RX10, "in", "(JJJ)Z"⟩
abbrev cX10_has : ByteArray := prog_12_method_3_code
def yX10_has : MethodName := ⟨RX10, "has", "(II)Z"⟩
abbrev cX10_find : ByteArray := prog_12_method_4_code
def yX10_find : MethodName := ⟨RX10, "find", "(I)I"⟩
abbrev cX10_give : ByteArray := prog_12_method_5_code
def yX10_give : MethodName := ⟨RX10, "give", "(I)I"⟩
abbrev cX10_isRow : ByteArray := prog_12_method_6_code
def yX10_isRow : MethodName := ⟨RX10, "isRow", "(I)Z"⟩
abbrev cX10_row : ByteArray := prog_12_method_7_code
def yX10_row : MethodName := ⟨RX10, "row", "(III)I"⟩
abbrev cX10_set : ByteArray := prog_12_method_8_code
def yX10_set : MethodName := ⟨RX10, "set", "(III)I"⟩
abbrev cX10_isSpan : ByteArray := prog_12_method_9_code
def yX10_isSpan : MethodName := ⟨RX10, "isSpan", "(III)Z"⟩
abbrev cX10_copy : ByteArray := prog_12_method_10_code
def yX10_copy : MethodName := ⟨RX10, "copy", "(IIIII)I"⟩
abbrev cX10_drop : ByteArray := prog_12_method_11_code
def yX10_drop : MethodName := ⟨RX10, "drop", "(I)I"⟩
abbrev cX10_feed : ByteArray := prog_12_method_12_code
def yX10_feed : MethodName := ⟨RX10, "feed", "(JI)I"⟩
abbrev cX10_sort : ByteArray := prog_12_method_13_code
def yX10_sort : MethodName := ⟨RX10, "sort", "(I)I"⟩
abbrev cX10_token : ByteArray := prog_12_method_14_code
def yX10_token : MethodName := ⟨RX10, "token", "()V"⟩
abbrev cX10_isWord : ByteArray := prog_12_method_15_code
def yX10_isWord : MethodName := ⟨RX10, "isWord", "(II)Z"⟩
abbrev cX10_isRighter : ByteArray := prog_12_method_16_code
def yX10_isRighter : MethodName := ⟨RX10, "isRighter", "()Z"⟩
abbrev cX10_sortOfWord : ByteArray := prog_12_method_17_code
def yX10_sortOfWord : MethodName := ⟨RX10, "sortOfWord", "()I"⟩
abbrev cX10_isSign : ByteArray := prog_12_method_18_code
def yX10_isSign : MethodName := ⟨RX10, "isSign", "()Z"⟩
abbrev cX10_numberHere : ByteArray := prog_12_method_19_code
def yX10_numberHere : MethodName := ⟨RX10, "numberHere", "(II)I"⟩
abbrev cX10_number : ByteArray := prog_12_method_20_code
def yX10_number : MethodName := ⟨RX10, "number", "(II)I"⟩
abbrev cX10_readsSign : ByteArray := prog_12_method_21_code
def yX10_readsSign : MethodName := ⟨RX10, "readsSign", "()Z"⟩
abbrev cX10_isPinRead : ByteArray := prog_12_method_22_code
def yX10_isPinRead : MethodName := ⟨RX10, "isPinRead", "(I)Z"⟩
abbrev cX10_cell : ByteArray := prog_12_method_23_code
def yX10_cell : MethodName := ⟨RX10, "cell", "()I"⟩
abbrev cX10_readsLaw : ByteArray := prog_12_method_24_code
def yX10_readsLaw : MethodName := ⟨RX10, "readsLaw", "()Z"⟩
abbrev cX10_readsPin : ByteArray := prog_12_method_25_code
def yX10_readsPin : MethodName := ⟨RX10, "readsPin", "()Z"⟩
abbrev cX10_readsBall : ByteArray := prog_12_method_26_code
def yX10_readsBall : MethodName := ⟨RX10, "readsBall", "()Z"⟩
abbrev cX10_readsAll : ByteArray := prog_12_method_27_code
def yX10_readsAll : MethodName := ⟨RX10, "readsAll", "()Z"⟩
abbrev cX10_table : ByteArray := prog_12_method_28_code
def yX10_table : MethodName := ⟨RX10, "table", "()I"⟩
abbrev cX10_fault : ByteArray := prog_12_method_29_code
def yX10_fault : MethodName := ⟨RX10, "fault", "()I"⟩
abbrev cX10_isPin : ByteArray := prog_12_method_30_code
def yX10_isPin : MethodName := ⟨RX10, "isPin", "(I)Z"⟩
abbrev cX10_pinAt : ByteArray := prog_12_method_31_code
def yX10_pinAt : MethodName := ⟨RX10, "pinAt", "(I)I"⟩
abbrev cX10_turns : ByteArray := prog_12_method_32_code
def yX10_turns : MethodName := ⟨RX10, "turns", "(II)I"⟩
abbrev cX10_strike : ByteArray := prog_12_method_33_code
def yX10_strike : MethodName := ⟨RX10, "strike", "(II)V"⟩
abbrev cX10_step : ByteArray := prog_12_method_34_code
def yX10_step : MethodName := ⟨RX10, "step", "(I)I"⟩
abbrev cX10_keepPast : ByteArray := prog_12_method_35_code
def yX10_keepPast : MethodName := ⟨RX10, "keepPast", "()V"⟩
abbrev cX10_isGone : ByteArray := prog_12_method_36_code
def yX10_isGone : MethodName := ⟨RX10, "isGone", "()Z"⟩
abbrev cX10_steps : ByteArray := prog_12_method_37_code
def yX10_steps : MethodName := ⟨RX10, "steps", "(I)I"⟩
abbrev cX10_nudge : ByteArray := prog_12_method_38_code
def yX10_nudge : MethodName := ⟨RX10, "nudge", "()I"⟩
abbrev cX10_flip : ByteArray := prog_12_method_39_code
def yX10_flip : MethodName := ⟨RX10, "flip", "()I"⟩
abbrev cX10_put : ByteArray := prog_12_method_40_code
def yX10_put : MethodName := ⟨RX10, "put", "(II)I"⟩
abbrev cX10_undo : ByteArray := prog_12_method_41_code
def yX10_undo : MethodName := ⟨RX10, "undo", "()I"⟩
abbrev cX10_ball : ByteArray := prog_12_method_42_code
def yX10_ball : MethodName := ⟨RX10, "ball", "(I)I"⟩
abbrev cX10_pin : ByteArray := prog_12_method_43_code
def yX10_pin : MethodName := ⟨RX10, "pin", "(II)I"⟩
abbrev cX10_copyRow : ByteArray := prog_12_method_44_code
def yX10_copyRow : MethodName := ⟨RX10, "copyRow", "(II)V"⟩
abbrev cX10_ahead : ByteArray := prog_12_method_45_code
def yX10_ahead : MethodName := ⟨RX10, "ahead", "(II)I"⟩
abbrev cX10_isAsNow : ByteArray := prog_12_method_46_code
def yX10_isAsNow : MethodName := ⟨RX10, "isAsNow", "()Z"⟩
abbrev cX10_lasts : ByteArray := prog_12_method_47_code
def yX10_lasts : MethodName := ⟨RX10, "lasts", "(I)I"⟩
abbrev cX10_tryPut : ByteArray := prog_12_method_48_code
def yX10_tryPut : MethodName := ⟨RX10, "tryPut", "(I)V"⟩
abbrev cX10_richest : ByteArray := prog_12_method_49_code
def yX10_richest : MethodName := ⟨RX10, "richest", "(II)I"⟩
abbrev cX10_stateOf : ByteArray := prog_12_method_50_code
def yX10_stateOf : MethodName := ⟨RX10, "stateOf", "(III)I"⟩
abbrev cX10_nudgesFor : ByteArray := prog_12_method_51_code
def yX10_nudgesFor : MethodName := ⟨RX10, "nudgesFor", "(II)I"⟩
abbrev cX10_goOn : ByteArray := prog_12_method_52_code
def yX10_goOn : MethodName := ⟨RX10, "goOn", "(III)I"⟩
abbrev cX10_nudged : ByteArray := prog_12_method_53_code
def yX10_nudged : MethodName := ⟨RX10, "nudged", "(II)I"⟩
abbrev cX10_kept : ByteArray := prog_12_method_54_code
def yX10_kept : MethodName := ⟨RX10, "kept", "(I)I"⟩
abbrev cX10_isHeard : ByteArray := prog_12_method_55_code
def yX10_isHeard : MethodName := ⟨RX10, "isHeard", "(III)Z"⟩
abbrev cX10_heard : ByteArray := prog_12_method_56_code
def yX10_heard : MethodName := ⟨RX10, "heard", "(IIII)I"⟩
abbrev cX10_image : ByteArray := prog_12_method_57_code
def yX10_image : MethodName := ⟨RX10, "image", "(I)I"⟩
abbrev cX10_restore : ByteArray := prog_12_method_58_code
def yX10_restore : MethodName := ⟨RX10, "restore", "(I)I"⟩
abbrev cX10_kind : ByteArray := prog_12_method_59_code
def yX10_kind : MethodName := ⟨RX10, "kind", "(I)I"⟩
abbrev cX10_isKind : ByteArray := prog_12_method_60_code
def yX10_isKind : MethodName := ⟨RX10, "isKind", "(II)Z"⟩
abbrev cX10_as : ByteArray := prog_12_method_61_code
def yX10_as : MethodName := ⟨RX10, "as", "(II)I"⟩
abbrev cX10_leave : ByteArray := prog_12_method_62_code
def yX10_leave : MethodName := ⟨RX10, "leave", "(I)V"⟩
abbrev cX10_paysBody : ByteArray := prog_12_method_63_code
def yX10_paysBody : MethodName := ⟨RX10, "paysBody", "(I)I"⟩
abbrev cX10_numberBody : ByteArray := prog_12_method_64_code
def yX10_numberBody : MethodName := ⟨RX10, "numberBody", "(I)I"⟩
abbrev cX10_struckBody : ByteArray := prog_12_method_65_code
def yX10_struckBody : MethodName := ⟨RX10, "struckBody", "(I)I"⟩
abbrev cX10_markOfBumper : ByteArray := prog_12_method_66_code
def yX10_markOfBumper : MethodName := ⟨RX10, "markOfBumper", "(I)I"⟩
abbrev cX10_bumperBody : ByteArray := prog_12_method_67_code
def yX10_bumperBody : MethodName := ⟨RX10, "bumperBody", "(I)I"⟩
abbrev cX10_lampBody : ByteArray := prog_12_method_68_code
def yX10_lampBody : MethodName := ⟨RX10, "lampBody", "(I)I"⟩
abbrev cX10_sizeOfLamp : ByteArray := prog_12_method_69_code
def yX10_sizeOfLamp : MethodName := ⟨RX10, "sizeOfLamp", "(I)I"⟩
abbrev cX10_sizeOfBumper : ByteArray := prog_12_method_70_code
def yX10_sizeOfBumper : MethodName := ⟨RX10, "sizeOfBumper", "(I)I"⟩
abbrev cX10_markOfLamp : ByteArray := prog_12_method_71_code
def yX10_markOfLamp : MethodName := ⟨RX10, "markOfLamp", "(I)I"⟩
abbrev cX10_ask : ByteArray := prog_12_method_72_code
def yX10_ask : MethodName := ⟨RX10, "ask", "(II)I"⟩
abbrev cX10_trace : ByteArray := prog_12_method_73_code
def yX10_trace : MethodName := ⟨RX10, "trace", "(I)I"⟩
abbrev cX10_count : ByteArray := prog_12_method_74_code
def yX10_count : MethodName := ⟨RX10, "count", "(I)I"⟩
abbrev cX10_status : ByteArray := prog_12_method_75_code
def yX10_status : MethodName := ⟨RX10, "status", "()I"⟩
def RJ9 : String := "java/lang/Math"
def TJ9 : u_T := fun k => match k with
  | _ => ("", "", "", false)
def tyJ9 : Nat → FieldType := fun k => match k with
  | _ => .int
abbrev wsJ90 : List Cond := u_ws RJ9 TJ9 0
theorem nmJ9 : ∀ a, a < 0 → ∀ b, b < 0 → a ≠ b → (TJ9 a).2.1 ≠ (TJ9 b).2.1 := by decide +kernel
theorem tyJ9_ok : ∀ k, k < 0 → parseFieldDescriptor (TJ9 k).2.2.1 = some (tyJ9 k) := by decide +kernel
abbrev cJ9_max_7cf53 : ByteArray := prog_13_method_65_code
def yJ9_max_7cf53 : MethodName := ⟨RJ9, "max", "(II)I"⟩
abbrev cJ9_min_7cf53 : ByteArray := prog_13_method_69_code
def yJ9_min_7cf53 : MethodName := ⟨RJ9, "min", "(II)I"⟩
def RJ0 : String := "java/lang/String"
def TJ0 : u_T := fun k => match k with
  | _ => ("", "", "", false)
def tyJ0 : Nat → FieldType := fun k => match k with
  | _ => .int
abbrev wsJ00 : List Cond := u_ws RJ0 TJ0 0
theorem nmJ0 : ∀ a, a < 0 → ∀ b, b < 0 → a ≠ b → (TJ0 a).2.1 ≠ (TJ0 b).2.1 := by decide +kernel
theorem tyJ0_ok : ∀ k, k < 0 → parseFieldDescriptor (TJ0 k).2.2.1 = some (tyJ0 k) := by decide +kernel
abbrev cJ0_length_8abf5 : ByteArray := prog_14_method_54_code
def yJ0_length_8abf5 : MethodName := ⟨RJ0, "length", "()I"⟩
abbrev cJ0_charAt_5068e : ByteArray := prog_14_method_56_code
def yJ0_charAt_5068e : MethodName := ⟨RJ0, "charAt", "(I)C"⟩
abbrev cJ0_coder_7d493 : ByteArray := prog_14_method_152_code
def yJ0_coder_7d493 : MethodName := ⟨RJ0, "coder", "()B"⟩
abbrev cJ0_isLatin1_aae02 : ByteArray := prog_14_method_154_code
def yJ0_isLatin1_aae02 : MethodName := ⟨RJ0, "isLatin1", "()Z"⟩
abbrev cJ0_checkIndex_df160 : ByteArray := prog_14_method_155_code
def yJ0_checkIndex_df160 : MethodName := ⟨RJ0, "checkIndex", "(II)V"⟩
def RJ1 : String := "java/lang/StringLatin1"
def TJ1 : u_T := fun k => match k with
  | _ => ("", "", "", false)
def tyJ1 : Nat → FieldType := fun k => match k with
  | _ => .int
abbrev wsJ10 : List Cond := u_ws RJ1 TJ1 0
theorem nmJ1 : ∀ a, a < 0 → ∀ b, b < 0 → a ≠ b → (TJ1 a).2.1 ≠ (TJ1 b).2.1 := by decide +kernel
theorem tyJ1_ok : ∀ k, k < 0 → parseFieldDescriptor (TJ1 k).2.2.1 = some (tyJ1 k) := by decide +kernel
abbrev cJ1_charAt_3b067 : ByteArray := prog_15_method_2_code
def yJ1_charAt_3b067 : MethodName := ⟨RJ1, "charAt", "([BI)C"⟩
def RJ2 : String := "java/lang/StringUTF16"
def TJ2 : u_T := fun k => match k with
  | _ => ("", "", "", false)
def tyJ2 : Nat → FieldType := fun k => match k with
  | _ => .int
abbrev wsJ20 : List Cond := u_ws RJ2 TJ2 0
theorem nmJ2 : ∀ a, a < 0 → ∀ b, b < 0 → a ≠ b → (TJ2 a).2.1 ≠ (TJ2 b).2.1 := by decide +kernel
theorem tyJ2_ok : ∀ k, k < 0 → parseFieldDescriptor (TJ2 k).2.2.1 = some (tyJ2 k) := by decide +kernel
abbrev cJ2_getChar_3b067 : ByteArray := prog_16_method_5_code
def yJ2_getChar_3b067 : MethodName := ⟨RJ2, "getChar", "([BI)C"⟩
abbrev cJ2_length_9d52b : ByteArray := prog_16_method_6_code
def yJ2_length_9d52b : MethodName := ⟨RJ2, "length", "([B)I"⟩
abbrev cJ2_charAt_3b067 : ByteArray := prog_16_method_83_code
def yJ2_charAt_3b067 : MethodName := ⟨RJ2, "charAt", "([BI)C"⟩
abbrev cJ2_checkIndex_2214a : ByteArray := prog_16_method_91_code
def yJ2_checkIndex_2214a : MethodName := ⟨RJ2, "checkIndex", "(I[B)V"⟩
def RJ10 : String := "java/lang/System"
def TJ10 : u_T := fun k => match k with
  | _ => ("", "", "", false)
def tyJ10 : Nat → FieldType := fun k => match k with
  | _ => .int
abbrev wsJ100 : List Cond := u_ws RJ10 TJ10 0
theorem nmJ10 : ∀ a, a < 0 → ∀ b, b < 0 → a ≠ b → (TJ10 a).2.1 ≠ (TJ10 b).2.1 := by decide +kernel
theorem tyJ10_ok : ∀ k, k < 0 → parseFieldDescriptor (TJ10 k).2.2.1 = some (tyJ10 k) := by decide +kernel
def RJ3 : String := "jdk/internal/util/Preconditions"
def TJ3 : u_T := fun k => match k with
  | _ => ("", "", "", false)
def tyJ3 : Nat → FieldType := fun k => match k with
  | _ => .int
abbrev wsJ30 : List Cond := u_ws RJ3 TJ3 0
theorem nmJ3 : ∀ a, a < 0 → ∀ b, b < 0 → a ≠ b → (TJ3 a).2.1 ≠ (TJ3 b).2.1 := by decide +kernel
theorem tyJ3_ok : ∀ k, k < 0 → parseFieldDescriptor (TJ3 k).2.2.1 = some (tyJ3 k) := by decide +kernel
abbrev cJ3_checkIndex_8e157 : ByteArray := prog_18_method_11_code
def yJ3_checkIndex_8e157 : MethodName := ⟨RJ3, "checkIndex", "(IILjava/util/function/BiFunction;)I"⟩
def RL : String := "BumperBallsLaw"
abbrev cL_law : ByteArray := code
def yL_law : MethodName := ⟨RL, "law", "([I)Z"⟩
abbrev vwCl : List vw_C := [(RX0, TX0, 3), (RX1, TX1, 6), (RX2, TX2, 3), (RX3, TX3, 3), (RX4, TX4, 10), (RX5, TX5, 3), (RX6, TX6, 4), (RX7, TX7, 7), (RX8, TX8, 10), (RX9, TX9, 12), (RX10, TX10, 22)]
end
section
def Wk (w : Cond) : Prop := w ∈ lw_tbl ∧ goodWord w = true
theorem wk_s0 : Wk (Cond.selects "BumperBalls$Table" yX7_clear yX7_clear) := ⟨List.mem_of_getElem? (i := 0) (by decide +kernel), rfl⟩
theorem wk_s1 : Wk (Cond.selects "BumperBalls" yX9_found yX9_found) := ⟨List.mem_of_getElem? (i := 1) (by decide +kernel), rfl⟩
theorem wk_s2 : Wk (Cond.selects "BumperBalls$Rows" yX5_make yX5_make) := ⟨List.mem_of_getElem? (i := 2) (by decide +kernel), rfl⟩
theorem wk_s3 : Wk (Cond.selects "BumperBalls" yX9_plain yX9_plain) := ⟨List.mem_of_getElem? (i := 3) (by decide +kernel), rfl⟩
theorem wk_s4 : Wk (Cond.selects "BumperBalls$Rows" yX5_isMissing yX5_isMissing) := ⟨List.mem_of_getElem? (i := 4) (by decide +kernel), rfl⟩
theorem wk_s5 : Wk (Cond.selects "BumperBalls$Rows" yX5_hasPlaces yX5_hasPlaces) := ⟨List.mem_of_getElem? (i := 5) (by decide +kernel), rfl⟩
theorem wk_s6 : Wk (Cond.selects "BumperBalls$Rows" yX5_write yX5_write) := ⟨List.mem_of_getElem? (i := 6) (by decide +kernel), rfl⟩
theorem wk_s7 : Wk (Cond.selects "BumperBalls$Rows" yX5_remove yX5_remove) := ⟨List.mem_of_getElem? (i := 7) (by decide +kernel), rfl⟩
theorem wk_s8 : Wk (Cond.selects "BumperBalls$Tape" yX8_append yX8_append) := ⟨List.mem_of_getElem? (i := 8) (by decide +kernel), rfl⟩
theorem wk_s9 : Wk (Cond.selects "BumperBalls$Tape" yX8_readAll yX8_readAll) := ⟨List.mem_of_getElem? (i := 9) (by decide +kernel), rfl⟩
theorem wk_s10 : Wk (Cond.selects "BumperBalls$Tape" yX8_readLaw yX8_readLaw) := ⟨List.mem_of_getElem? (i := 10) (by decide +kernel), rfl⟩
theorem wk_s11 : Wk (Cond.selects "BumperBalls$Tape" yX8_take yX8_take) := ⟨List.mem_of_getElem? (i := 11) (by decide +kernel), rfl⟩
theorem wk_s12 : Wk (Cond.selects "BumperBalls$Tape" yX8_takeName yX8_takeName) := ⟨List.mem_of_getElem? (i := 12) (by decide +kernel), rfl⟩
theorem wk_s13 : Wk (Cond.selects "BumperBalls$Tape" yX8_takeFigures yX8_takeFigures) := ⟨List.mem_of_getElem? (i := 13) (by decide +kernel), rfl⟩
theorem wk_s14 : Wk (Cond.selects "BumperBalls$Tape" yX8_isName yX8_isName) := ⟨List.mem_of_getElem? (i := 14) (by decide +kernel), rfl⟩
theorem wk_s15 : Wk (Cond.selects "BumperBalls$Tape" yX8_demand yX8_demand) := ⟨List.mem_of_getElem? (i := 15) (by decide +kernel), rfl⟩
theorem wk_s16 : Wk (Cond.selects "BumperBalls$Tape" yX8_takeNumber yX8_takeNumber) := ⟨List.mem_of_getElem? (i := 16) (by decide +kernel), rfl⟩
theorem wk_s17 : Wk (Cond.selects "BumperBalls$Tape" yX8_takeSemicolon yX8_takeSemicolon) := ⟨List.mem_of_getElem? (i := 17) (by decide +kernel), rfl⟩
theorem wk_s18 : Wk (Cond.selects "BumperBalls$Tape" yX8_readPin yX8_readPin) := ⟨List.mem_of_getElem? (i := 18) (by decide +kernel), rfl⟩
theorem wk_s19 : Wk (Cond.selects "BumperBalls$Tape" yX8_takeKind yX8_takeKind) := ⟨List.mem_of_getElem? (i := 19) (by decide +kernel), rfl⟩
theorem wk_s20 : Wk (Cond.selects "BumperBalls$Tape" yX8_takeFreeCell yX8_takeFreeCell) := ⟨List.mem_of_getElem? (i := 20) (by decide +kernel), rfl⟩
theorem wk_s21 : Wk (Cond.selects "BumperBalls$Table" yX7_pinIn yX7_pinIn) := ⟨List.mem_of_getElem? (i := 21) (by decide +kernel), rfl⟩
theorem wk_s22 : Wk (Cond.selects "BumperBalls$Table" yX7_addPin yX7_addPin) := ⟨List.mem_of_getElem? (i := 22) (by decide +kernel), rfl⟩
theorem wk_s23 : Wk (Cond.selects "BumperBalls$Tape" yX8_readBall yX8_readBall) := ⟨List.mem_of_getElem? (i := 23) (by decide +kernel), rfl⟩
theorem wk_s24 : Wk (Cond.selects "BumperBalls$Table" yX7_become yX7_become) := ⟨List.mem_of_getElem? (i := 24) (by decide +kernel), rfl⟩
theorem wk_s25 : Wk (Cond.selects "BumperBalls$Play" yX4_begin yX4_begin) := ⟨List.mem_of_getElem? (i := 25) (by decide +kernel), rfl⟩
theorem wk_s26 : Wk (Cond.selects "BumperBalls$Play" yX4_place yX4_place) := ⟨List.mem_of_getElem? (i := 26) (by decide +kernel), rfl⟩
theorem wk_s27 : Wk (Cond.selects "BumperBalls$Acts" yX0_forget yX0_forget) := ⟨List.mem_of_getElem? (i := 27) (by decide +kernel), rfl⟩
theorem wk_s28 : Wk (Cond.selects "BumperBalls$Acts" yX0_keep yX0_keep) := ⟨List.mem_of_getElem? (i := 28) (by decide +kernel), rfl⟩
theorem wk_s29 : Wk (Cond.selects "BumperBalls$Play" yX4_become yX4_become) := ⟨List.mem_of_getElem? (i := 29) (by decide +kernel), rfl⟩
theorem wk_s30 : Wk (Cond.selects "BumperBalls$Play" yX4_step yX4_step) := ⟨List.mem_of_getElem? (i := 30) (by decide +kernel), rfl⟩
theorem wk_s31 : Wk (Cond.selects "BumperBalls$Play" yX4_isAtSide yX4_isAtSide) := ⟨List.mem_of_getElem? (i := 31) (by decide +kernel), rfl⟩
theorem wk_s32 : Wk (Cond.selects "BumperBalls$Play" yX4_turn yX4_turn) := ⟨List.mem_of_getElem? (i := 32) (by decide +kernel), rfl⟩
theorem wk_s33 : Wk (Cond.selects "BumperBalls$Play" yX4_knock yX4_knock) := ⟨List.mem_of_getElem? (i := 33) (by decide +kernel), rfl⟩
theorem wk_s34 : Wk (Cond.selects "BumperBalls$Play" yX4_turnBy yX4_turnBy) := ⟨List.mem_of_getElem? (i := 34) (by decide +kernel), rfl⟩
theorem wk_s35 : Wk (Cond.selects "BumperBalls$Play" yX4_isOpen yX4_isOpen) := ⟨List.mem_of_getElem? (i := 35) (by decide +kernel), rfl⟩
theorem wk_s36 : Wk (Cond.selects "BumperBalls$Play" yX4_shake yX4_shake) := ⟨List.mem_of_getElem? (i := 36) (by decide +kernel), rfl⟩
theorem wk_s37 : Wk (Cond.selects "BumperBalls$Acts" yX0_takeBack yX0_takeBack) := ⟨List.mem_of_getElem? (i := 37) (by decide +kernel), rfl⟩
theorem wk_s38 : Wk (Cond.selects "BumperBalls" yX9_isPin yX9_isPin) := ⟨List.mem_of_getElem? (i := 38) (by decide +kernel), rfl⟩
theorem wk_s39 : Wk (Cond.selects "BumperBalls$Play" yX4_run yX4_run) := ⟨List.mem_of_getElem? (i := 39) (by decide +kernel), rfl⟩
theorem wk_s40 : Wk (Cond.selects "BumperBalls" yX9_stepsTillLost yX9_stepsTillLost) := ⟨List.mem_of_getElem? (i := 40) (by decide +kernel), rfl⟩
theorem wk_s41 : Wk (Cond.selects "BumperBalls" yX9_stepsTillAgain yX9_stepsTillAgain) := ⟨List.mem_of_getElem? (i := 41) (by decide +kernel), rfl⟩
theorem wk_s42 : Wk (Cond.selects "BumperBalls$Play" yX4_isAs yX4_isAs) := ⟨List.mem_of_getElem? (i := 42) (by decide +kernel), rfl⟩
theorem wk_s43 : Wk (Cond.selects "BumperBalls" yX9_broughtBy yX9_broughtBy) := ⟨List.mem_of_getElem? (i := 43) (by decide +kernel), rfl⟩
theorem wk_s44 : Wk (Cond.selects "BumperBalls$Search" yX6_walk yX6_walk) := ⟨List.mem_of_getElem? (i := 44) (by decide +kernel), rfl⟩
theorem wk_s45 : Wk (Cond.selects "BumperBalls$Search" yX6_makeRoom yX6_makeRoom) := ⟨List.mem_of_getElem? (i := 45) (by decide +kernel), rfl⟩
theorem wk_s46 : Wk (Cond.selects "BumperBalls$Layer" yX3_clear yX3_clear) := ⟨List.mem_of_getElem? (i := 46) (by decide +kernel), rfl⟩
theorem wk_s47 : Wk (Cond.selects "BumperBalls$Layer" yX3_reach yX3_reach) := ⟨List.mem_of_getElem? (i := 47) (by decide +kernel), rfl⟩
theorem wk_s48 : Wk (Cond.selects "BumperBalls$Search" yX6_goOn yX6_goOn) := ⟨List.mem_of_getElem? (i := 48) (by decide +kernel), rfl⟩
theorem wk_s49 : Wk (Cond.selects "BumperBalls$Search" yX6_fewestStaying yX6_fewestStaying) := ⟨List.mem_of_getElem? (i := 49) (by decide +kernel), rfl⟩
theorem wk_s50 : Wk (Cond.selects "BumperBalls$Rows" yX5_tellsLetters yX5_tellsLetters) := ⟨List.mem_of_getElem? (i := 50) (by decide +kernel), rfl⟩
theorem wk_s51 : Wk (Cond.selects "BumperBalls" yX9_isHeard yX9_isHeard) := ⟨List.mem_of_getElem? (i := 51) (by decide +kernel), rfl⟩
theorem wk_s52 : Wk (Cond.selects "BumperBalls$Image" yX2_keep yX2_keep) := ⟨List.mem_of_getElem? (i := 52) (by decide +kernel), rfl⟩
theorem wk_s53 : Wk (Cond.selects "BumperBalls$Asks" yX1_begin yX1_begin) := ⟨List.mem_of_getElem? (i := 53) (by decide +kernel), rfl⟩
theorem wk_s54 : Wk (Cond.selects "BumperBalls$Asks" yX1_sizeAsked yX1_sizeAsked) := ⟨List.mem_of_getElem? (i := 54) (by decide +kernel), rfl⟩
theorem wk_s55 : Wk (Cond.selects "BumperBalls$Asks" yX1_sizeOfBumper yX1_sizeOfBumper) := ⟨List.mem_of_getElem? (i := 55) (by decide +kernel), rfl⟩
theorem wk_s56 : Wk (Cond.selects "BumperBalls$Asks" yX1_leave yX1_leave) := ⟨List.mem_of_getElem? (i := 56) (by decide +kernel), rfl⟩
theorem wk_s57 : Wk (Cond.selects "BumperBalls$Asks" yX1_markOfBumper yX1_markOfBumper) := ⟨List.mem_of_getElem? (i := 57) (by decide +kernel), rfl⟩
theorem wk_s58 : Wk (Cond.selects "BumperBalls$Asks" yX1_sizeOfLamp yX1_sizeOfLamp) := ⟨List.mem_of_getElem? (i := 58) (by decide +kernel), rfl⟩
theorem wk_s59 : Wk (Cond.selects "BumperBalls$Asks" yX1_markAsked yX1_markAsked) := ⟨List.mem_of_getElem? (i := 59) (by decide +kernel), rfl⟩
theorem wk_s60 : Wk (Cond.selects "BumperBalls$Asks" yX1_markOfLamp yX1_markOfLamp) := ⟨List.mem_of_getElem? (i := 60) (by decide +kernel), rfl⟩
theorem wk_s61 : Wk (Cond.selects "BumperBalls$Rows" yX5_there yX5_there) := ⟨List.mem_of_getElem? (i := 61) (by decide +kernel), rfl⟩
theorem wk_s62 : Wk (Cond.selects "BumperBallsModel" yX10_find yX10_find) := ⟨List.mem_of_getElem? (i := 62) (by decide +kernel), rfl⟩
theorem wk_s63 : Wk (Cond.selects "BumperBallsModel" yX10_give yX10_give) := ⟨List.mem_of_getElem? (i := 63) (by decide +kernel), rfl⟩
theorem wk_s64 : Wk (Cond.selects "BumperBallsModel" yX10_isSpan yX10_isSpan) := ⟨List.mem_of_getElem? (i := 64) (by decide +kernel), rfl⟩
theorem wk_s65 : Wk (Cond.selects "BumperBallsModel" yX10_readsAll yX10_readsAll) := ⟨List.mem_of_getElem? (i := 65) (by decide +kernel), rfl⟩
theorem wk_s66 : Wk (Cond.selects "BumperBallsModel" yX10_token yX10_token) := ⟨List.mem_of_getElem? (i := 66) (by decide +kernel), rfl⟩
theorem wk_s67 : Wk (Cond.selects "BumperBallsModel" yX10_readsLaw yX10_readsLaw) := ⟨List.mem_of_getElem? (i := 67) (by decide +kernel), rfl⟩
theorem wk_s68 : Wk (Cond.selects "BumperBallsModel" yX10_isWord yX10_isWord) := ⟨List.mem_of_getElem? (i := 68) (by decide +kernel), rfl⟩
theorem wk_s69 : Wk (Cond.selects "BumperBallsModel" yX10_number yX10_number) := ⟨List.mem_of_getElem? (i := 69) (by decide +kernel), rfl⟩
theorem wk_s70 : Wk (Cond.selects "BumperBallsModel" yX10_numberHere yX10_numberHere) := ⟨List.mem_of_getElem? (i := 70) (by decide +kernel), rfl⟩
theorem wk_s71 : Wk (Cond.selects "BumperBallsModel" yX10_readsSign yX10_readsSign) := ⟨List.mem_of_getElem? (i := 71) (by decide +kernel), rfl⟩
theorem wk_s72 : Wk (Cond.selects "BumperBallsModel" yX10_isSign yX10_isSign) := ⟨List.mem_of_getElem? (i := 72) (by decide +kernel), rfl⟩
theorem wk_s73 : Wk (Cond.selects "BumperBallsModel" yX10_readsPin yX10_readsPin) := ⟨List.mem_of_getElem? (i := 73) (by decide +kernel), rfl⟩
theorem wk_s74 : Wk (Cond.selects "BumperBallsModel" yX10_sortOfWord yX10_sortOfWord) := ⟨List.mem_of_getElem? (i := 74) (by decide +kernel), rfl⟩
theorem wk_s75 : Wk (Cond.selects "BumperBallsModel" yX10_isRighter yX10_isRighter) := ⟨List.mem_of_getElem? (i := 75) (by decide +kernel), rfl⟩
theorem wk_s76 : Wk (Cond.selects "BumperBallsModel" yX10_cell yX10_cell) := ⟨List.mem_of_getElem? (i := 76) (by decide +kernel), rfl⟩
theorem wk_s77 : Wk (Cond.selects "BumperBallsModel" yX10_isPinRead yX10_isPinRead) := ⟨List.mem_of_getElem? (i := 77) (by decide +kernel), rfl⟩
theorem wk_s78 : Wk (Cond.selects "BumperBallsModel" yX10_readsBall yX10_readsBall) := ⟨List.mem_of_getElem? (i := 78) (by decide +kernel), rfl⟩
theorem wk_s79 : Wk (Cond.selects "BumperBallsModel" yX10_keepPast yX10_keepPast) := ⟨List.mem_of_getElem? (i := 79) (by decide +kernel), rfl⟩
theorem wk_s80 : Wk (Cond.selects "BumperBallsModel" yX10_step yX10_step) := ⟨List.mem_of_getElem? (i := 80) (by decide +kernel), rfl⟩
theorem wk_s81 : Wk (Cond.selects "BumperBallsModel" yX10_pinAt yX10_pinAt) := ⟨List.mem_of_getElem? (i := 81) (by decide +kernel), rfl⟩
theorem wk_s82 : Wk (Cond.selects "BumperBallsModel" yX10_strike yX10_strike) := ⟨List.mem_of_getElem? (i := 82) (by decide +kernel), rfl⟩
theorem wk_s83 : Wk (Cond.selects "BumperBallsModel" yX10_turns yX10_turns) := ⟨List.mem_of_getElem? (i := 83) (by decide +kernel), rfl⟩
theorem wk_s84 : Wk (Cond.selects "BumperBallsModel" yX10_isGone yX10_isGone) := ⟨List.mem_of_getElem? (i := 84) (by decide +kernel), rfl⟩
theorem wk_s85 : Wk (Cond.selects "BumperBallsModel" yX10_isPin yX10_isPin) := ⟨List.mem_of_getElem? (i := 85) (by decide +kernel), rfl⟩
theorem wk_s86 : Wk (Cond.selects "BumperBallsModel" yX10_copyRow yX10_copyRow) := ⟨List.mem_of_getElem? (i := 86) (by decide +kernel), rfl⟩
theorem wk_s87 : Wk (Cond.selects "BumperBallsModel" yX10_isAsNow yX10_isAsNow) := ⟨List.mem_of_getElem? (i := 87) (by decide +kernel), rfl⟩
theorem wk_s88 : Wk (Cond.selects "BumperBallsModel" yX10_tryPut yX10_tryPut) := ⟨List.mem_of_getElem? (i := 88) (by decide +kernel), rfl⟩
theorem wk_s89 : Wk (Cond.selects "BumperBallsModel" yX10_nudgesFor yX10_nudgesFor) := ⟨List.mem_of_getElem? (i := 89) (by decide +kernel), rfl⟩
theorem wk_s90 : Wk (Cond.selects "BumperBallsModel" yX10_goOn yX10_goOn) := ⟨List.mem_of_getElem? (i := 90) (by decide +kernel), rfl⟩
theorem wk_s91 : Wk (Cond.selects "BumperBallsModel" yX10_isHeard yX10_isHeard) := ⟨List.mem_of_getElem? (i := 91) (by decide +kernel), rfl⟩
theorem wk_s92 : Wk (Cond.selects "BumperBallsModel" yX10_sizeOfBumper yX10_sizeOfBumper) := ⟨List.mem_of_getElem? (i := 92) (by decide +kernel), rfl⟩
theorem wk_s93 : Wk (Cond.selects "BumperBallsModel" yX10_bumperBody yX10_bumperBody) := ⟨List.mem_of_getElem? (i := 93) (by decide +kernel), rfl⟩
theorem wk_s94 : Wk (Cond.selects "BumperBallsModel" yX10_leave yX10_leave) := ⟨List.mem_of_getElem? (i := 94) (by decide +kernel), rfl⟩
theorem wk_s95 : Wk (Cond.selects "BumperBallsModel" yX10_paysBody yX10_paysBody) := ⟨List.mem_of_getElem? (i := 95) (by decide +kernel), rfl⟩
theorem wk_s96 : Wk (Cond.selects "BumperBallsModel" yX10_markOfBumper yX10_markOfBumper) := ⟨List.mem_of_getElem? (i := 96) (by decide +kernel), rfl⟩
theorem wk_s97 : Wk (Cond.selects "BumperBallsModel" yX10_struckBody yX10_struckBody) := ⟨List.mem_of_getElem? (i := 97) (by decide +kernel), rfl⟩
theorem wk_s98 : Wk (Cond.selects "BumperBallsModel" yX10_numberBody yX10_numberBody) := ⟨List.mem_of_getElem? (i := 98) (by decide +kernel), rfl⟩
theorem wk_s99 : Wk (Cond.selects "BumperBallsModel" yX10_sizeOfLamp yX10_sizeOfLamp) := ⟨List.mem_of_getElem? (i := 99) (by decide +kernel), rfl⟩
theorem wk_s100 : Wk (Cond.selects "BumperBallsModel" yX10_lampBody yX10_lampBody) := ⟨List.mem_of_getElem? (i := 100) (by decide +kernel), rfl⟩
theorem wk_s101 : Wk (Cond.selects "BumperBallsModel" yX10_markOfLamp yX10_markOfLamp) := ⟨List.mem_of_getElem? (i := 101) (by decide +kernel), rfl⟩
theorem wk_0 : Wk (Cond.initialized "BumperBallsLaw") := ⟨List.mem_of_getElem? (i := 102) (by decide +kernel), rfl⟩
theorem wk_1 : Wk (Cond.initialized "BumperBalls") := ⟨List.mem_of_getElem? (i := 103) (by decide +kernel), rfl⟩
theorem wk_2 : Wk (Cond.initialized "BumperBalls$Rows") := ⟨List.mem_of_getElem? (i := 104) (by decide +kernel), rfl⟩
theorem wk_3 : Wk (Cond.initialized "BumperBalls$Tape") := ⟨List.mem_of_getElem? (i := 105) (by decide +kernel), rfl⟩
theorem wk_4 : Wk (Cond.initialized "BumperBalls$Table") := ⟨List.mem_of_getElem? (i := 106) (by decide +kernel), rfl⟩
theorem wk_5 : Wk (Cond.initialized "BumperBalls$Play") := ⟨List.mem_of_getElem? (i := 107) (by decide +kernel), rfl⟩
theorem wk_6 : Wk (Cond.initialized "BumperBalls$Acts") := ⟨List.mem_of_getElem? (i := 108) (by decide +kernel), rfl⟩
theorem wk_7 : Wk (Cond.initialized "BumperBalls$Search") := ⟨List.mem_of_getElem? (i := 109) (by decide +kernel), rfl⟩
theorem wk_8 : Wk (Cond.initialized "BumperBalls$Layer") := ⟨List.mem_of_getElem? (i := 110) (by decide +kernel), rfl⟩
theorem wk_9 : Wk (Cond.initialized "BumperBalls$Asks") := ⟨List.mem_of_getElem? (i := 111) (by decide +kernel), rfl⟩
theorem wk_10 : Wk (Cond.initialized "BumperBalls$Image") := ⟨List.mem_of_getElem? (i := 112) (by decide +kernel), rfl⟩
theorem wk_11 : Wk (Cond.initialized "BumperBallsModel") := ⟨List.mem_of_getElem? (i := 113) (by decide +kernel), rfl⟩
theorem wk_12 : Wk (Cond.initialized "java/lang/System") := ⟨List.mem_of_getElem? (i := 114) (by decide +kernel), rfl⟩
theorem wk_13 : Wk (Cond.initialized "java/lang/String") := ⟨List.mem_of_getElem? (i := 115) (by decide +kernel), rfl⟩
theorem wk_14 : Wk (Cond.initialized "java/lang/StringLatin1") := ⟨List.mem_of_getElem? (i := 116) (by decide +kernel), rfl⟩
theorem wk_15 : Wk (Cond.initialized "jdk/internal/util/Preconditions") := ⟨List.mem_of_getElem? (i := 117) (by decide +kernel), rfl⟩
theorem wk_16 : Wk (Cond.initialized "java/lang/StringUTF16") := ⟨List.mem_of_getElem? (i := 118) (by decide +kernel), rfl⟩
theorem wk_17 : Wk (Cond.initialized "java/lang/Math") := ⟨List.mem_of_getElem? (i := 119) (by decide +kernel), rfl⟩
theorem wk_18 : Wk (Cond.classLink "BumperBallsLaw" 7 "BumperBalls") := ⟨List.mem_of_getElem? (i := 120) (by decide +kernel), rfl⟩
theorem wk_19 : Wk (Cond.instantiable "BumperBalls" 12) := ⟨List.mem_of_getElem? (i := 121) (by decide +kernel), rfl⟩
theorem wk_20 : Wk (Cond.methodLink "BumperBallsLaw" 9 yX9_init) := ⟨List.mem_of_getElem? (i := 122) (by decide +kernel), rfl⟩
theorem wk_21 : Wk (Cond.instanceMethod yX9_init) := ⟨List.mem_of_getElem? (i := 123) (by decide +kernel), rfl⟩
theorem wk_22 : Wk (Cond.code yX9_init cX9_init 2 none) := ⟨List.mem_of_getElem? (i := 124) (by decide +kernel), rfl⟩
theorem wk_23 : Wk (Cond.methodLink "BumperBalls" 1 ⟨"java/lang/Object", "<init>", "()V"⟩) := ⟨List.mem_of_getElem? (i := 125) (by decide +kernel), rfl⟩
theorem wk_24 : Wk (Cond.instanceMethod ⟨"java/lang/Object", "<init>", "()V"⟩) := ⟨List.mem_of_getElem? (i := 126) (by decide +kernel), rfl⟩
theorem wk_25 : Wk (Cond.code ({ cls := "java/lang/Object", name := "<init>", desc := "()V" } : Jvm.MethodName) object_method_1_code (1 : Nat) (Option.none : Option Jvm.ClassFile.FieldType)) := ⟨List.mem_of_getElem? (i := 127) (by decide +kernel), rfl⟩
theorem wk_26 : Wk (Cond.classLink "BumperBalls" 7 "BumperBalls$Rows") := ⟨List.mem_of_getElem? (i := 128) (by decide +kernel), rfl⟩
theorem wk_27 : Wk (Cond.instantiable "BumperBalls$Rows" 3) := ⟨List.mem_of_getElem? (i := 129) (by decide +kernel), rfl⟩
theorem wk_29 : Wk (Cond.instanceMethod yX5_init) := ⟨List.mem_of_getElem? (i := 131) (by decide +kernel), rfl⟩
theorem wk_30 : Wk (Cond.code yX5_init cX5_init 2 none) := ⟨List.mem_of_getElem? (i := 132) (by decide +kernel), rfl⟩
theorem wk_31 : Wk (Cond.methodLink "BumperBalls$Rows" 3 ⟨"java/lang/Object", "<init>", "()V"⟩) := ⟨List.mem_of_getElem? (i := 133) (by decide +kernel), rfl⟩
theorem wk_32 : Wk (Cond.classLink "BumperBalls$Rows" 18 "[[I") := ⟨List.mem_of_getElem? (i := 134) (by decide +kernel), rfl⟩
theorem wk_33 : Cond.arrayOver (Jvm.ClassFile.FieldType.array Jvm.ClassFile.FieldType.int) ∈ lw_tbl := List.mem_of_getElem? (i := 135) (by decide +kernel)
theorem wk_34 : Wk (Cond.fieldLink "BumperBalls$Rows" 9 "BumperBalls$Rows" "lanes" "[I") := ⟨List.mem_of_getElem? (i := 136) (by decide +kernel), rfl⟩
theorem wk_36 : Wk (Cond.fieldLink "BumperBalls$Rows" 15 "BumperBalls$Rows" "sizes" "[I") := ⟨List.mem_of_getElem? (i := 138) (by decide +kernel), rfl⟩
theorem wk_37 : Wk (Cond.fieldLink "BumperBalls$Rows" 20 "BumperBalls$Rows" "items" "[[I") := ⟨List.mem_of_getElem? (i := 139) (by decide +kernel), rfl⟩
theorem wk_46 : Wk (Cond.arrayClass (Jvm.ClassFile.FieldType.int)) := ⟨List.mem_of_getElem? (i := 148) (by decide +kernel), rfl⟩
theorem wk_47 : Wk (Cond.classLink "BumperBalls" 16 "BumperBalls$Tape") := ⟨List.mem_of_getElem? (i := 149) (by decide +kernel), rfl⟩
theorem wk_48 : Wk (Cond.instantiable "BumperBalls$Tape" 10) := ⟨List.mem_of_getElem? (i := 150) (by decide +kernel), rfl⟩
theorem wk_50 : Wk (Cond.instanceMethod yX8_init) := ⟨List.mem_of_getElem? (i := 152) (by decide +kernel), rfl⟩
theorem wk_51 : Wk (Cond.code yX8_init cX8_init 1 none) := ⟨List.mem_of_getElem? (i := 153) (by decide +kernel), rfl⟩
theorem wk_52 : Wk (Cond.methodLink "BumperBalls$Tape" 3 ⟨"java/lang/Object", "<init>", "()V"⟩) := ⟨List.mem_of_getElem? (i := 154) (by decide +kernel), rfl⟩
theorem wk_53 : Wk (Cond.classLink "BumperBalls$Tape" 19 "BumperBalls$Table") := ⟨List.mem_of_getElem? (i := 155) (by decide +kernel), rfl⟩
theorem wk_54 : Wk (Cond.instantiable "BumperBalls$Table" 7) := ⟨List.mem_of_getElem? (i := 156) (by decide +kernel), rfl⟩
theorem wk_56 : Wk (Cond.instanceMethod yX7_init) := ⟨List.mem_of_getElem? (i := 158) (by decide +kernel), rfl⟩
theorem wk_57 : Wk (Cond.code yX7_init cX7_init 1 none) := ⟨List.mem_of_getElem? (i := 159) (by decide +kernel), rfl⟩
theorem wk_58 : Wk (Cond.methodLink "BumperBalls$Table" 3 ⟨"java/lang/Object", "<init>", "()V"⟩) := ⟨List.mem_of_getElem? (i := 160) (by decide +kernel), rfl⟩
theorem wk_59 : Wk (Cond.methodLink "BumperBalls$Table" 34 yX7_clear) := ⟨List.mem_of_getElem? (i := 161) (by decide +kernel), rfl⟩
theorem wk_61 : Wk (Cond.instanceMethod yX7_clear) := ⟨List.mem_of_getElem? (i := 163) (by decide +kernel), rfl⟩
theorem wk_62 : Wk (Cond.code yX7_clear cX7_clear 2 none) := ⟨List.mem_of_getElem? (i := 164) (by decide +kernel), rfl⟩
theorem wk_63 : Wk (Cond.fieldLink "BumperBalls$Table" 9 "BumperBalls$Table" "tilt" "I") := ⟨List.mem_of_getElem? (i := 165) (by decide +kernel), rfl⟩
theorem wk_66 : Wk (Cond.fieldLink "BumperBalls$Table" 15 "BumperBalls$Table" "pins" "I") := ⟨List.mem_of_getElem? (i := 168) (by decide +kernel), rfl⟩
theorem wk_70 : Wk (Cond.fieldLink "BumperBalls$Table" 18 "BumperBalls$Table" "kinds" "[I") := ⟨List.mem_of_getElem? (i := 172) (by decide +kernel), rfl⟩
theorem wk_74 : Wk (Cond.fieldLink "BumperBalls$Table" 22 "BumperBalls$Table" "cells" "[I") := ⟨List.mem_of_getElem? (i := 176) (by decide +kernel), rfl⟩
theorem wk_76 : Wk (Cond.fieldLink "BumperBalls$Table" 25 "BumperBalls$Table" "letters" "[I") := ⟨List.mem_of_getElem? (i := 178) (by decide +kernel), rfl⟩
theorem wk_80 : Wk (Cond.fieldLink "BumperBalls$Table" 28 "BumperBalls$Table" "pays" "[I") := ⟨List.mem_of_getElem? (i := 182) (by decide +kernel), rfl⟩
theorem wk_84 : Wk (Cond.fieldLink "BumperBalls$Table" 31 "BumperBalls$Table" "pinsOfCells" "[I") := ⟨List.mem_of_getElem? (i := 186) (by decide +kernel), rfl⟩
theorem wk_100 : Wk (Cond.fieldLink "BumperBalls$Tape" 9 "BumperBalls$Tape" "bytes" "[I") := ⟨List.mem_of_getElem? (i := 202) (by decide +kernel), rfl⟩
theorem wk_101 : Wk (Cond.fieldLink "BumperBalls$Tape" 15 "BumperBalls$Tape" "length" "I") := ⟨List.mem_of_getElem? (i := 203) (by decide +kernel), rfl⟩
theorem wk_103 : Wk (Cond.fieldLink "BumperBalls$Tape" 22 "BumperBalls$Tape" "draft" "LBumperBalls$Table;") := ⟨List.mem_of_getElem? (i := 205) (by decide +kernel), rfl⟩
theorem wk_105 : Wk (Cond.fieldLink "BumperBalls$Tape" 26 "BumperBalls$Tape" "ballCell" "I") := ⟨List.mem_of_getElem? (i := 207) (by decide +kernel), rfl⟩
theorem wk_107 : Wk (Cond.fieldLink "BumperBalls$Tape" 29 "BumperBalls$Tape" "ballWay" "I") := ⟨List.mem_of_getElem? (i := 209) (by decide +kernel), rfl⟩
theorem wk_109 : Wk (Cond.fieldLink "BumperBalls$Tape" 32 "BumperBalls$Tape" "fault" "I") := ⟨List.mem_of_getElem? (i := 211) (by decide +kernel), rfl⟩
theorem wk_111 : Wk (Cond.fieldLink "BumperBalls$Tape" 35 "BumperBalls$Tape" "at" "I") := ⟨List.mem_of_getElem? (i := 213) (by decide +kernel), rfl⟩
theorem wk_112 : Wk (Cond.fieldLink "BumperBalls$Tape" 38 "BumperBalls$Tape" "start" "I") := ⟨List.mem_of_getElem? (i := 214) (by decide +kernel), rfl⟩
theorem wk_114 : Wk (Cond.fieldLink "BumperBalls$Tape" 41 "BumperBalls$Tape" "sort" "I") := ⟨List.mem_of_getElem? (i := 216) (by decide +kernel), rfl⟩
theorem wk_115 : Wk (Cond.fieldLink "BumperBalls$Tape" 44 "BumperBalls$Tape" "value" "I") := ⟨List.mem_of_getElem? (i := 217) (by decide +kernel), rfl⟩
theorem wk_137 : Wk (Cond.classLink "BumperBalls" 23 "BumperBalls$Table") := ⟨List.mem_of_getElem? (i := 239) (by decide +kernel), rfl⟩
theorem wk_139 : Wk (Cond.classLink "BumperBalls" 30 "BumperBalls$Play") := ⟨List.mem_of_getElem? (i := 241) (by decide +kernel), rfl⟩
theorem wk_140 : Wk (Cond.instantiable "BumperBalls$Play" 10) := ⟨List.mem_of_getElem? (i := 242) (by decide +kernel), rfl⟩
theorem wk_142 : Wk (Cond.instanceMethod yX4_init) := ⟨List.mem_of_getElem? (i := 244) (by decide +kernel), rfl⟩
theorem wk_143 : Wk (Cond.code yX4_init cX4_init 1 none) := ⟨List.mem_of_getElem? (i := 245) (by decide +kernel), rfl⟩
theorem wk_144 : Wk (Cond.methodLink "BumperBalls$Play" 3 ⟨"java/lang/Object", "<init>", "()V"⟩) := ⟨List.mem_of_getElem? (i := 246) (by decide +kernel), rfl⟩
theorem wk_145 : Wk (Cond.fieldLink "BumperBalls$Play" 9 "BumperBalls$Play" "cell" "I") := ⟨List.mem_of_getElem? (i := 247) (by decide +kernel), rfl⟩
theorem wk_148 : Wk (Cond.fieldLink "BumperBalls$Play" 15 "BumperBalls$Play" "way" "I") := ⟨List.mem_of_getElem? (i := 250) (by decide +kernel), rfl⟩
theorem wk_151 : Wk (Cond.fieldLink "BumperBalls$Play" 18 "BumperBalls$Play" "lost" "Z") := ⟨List.mem_of_getElem? (i := 253) (by decide +kernel), rfl⟩
theorem wk_154 : Wk (Cond.fieldLink "BumperBalls$Play" 22 "BumperBalls$Play" "shakes" "I") := ⟨List.mem_of_getElem? (i := 256) (by decide +kernel), rfl⟩
theorem wk_156 : Wk (Cond.fieldLink "BumperBalls$Play" 25 "BumperBalls$Play" "score" "I") := ⟨List.mem_of_getElem? (i := 258) (by decide +kernel), rfl⟩
theorem wk_158 : Wk (Cond.fieldLink "BumperBalls$Play" 28 "BumperBalls$Play" "lit" "I") := ⟨List.mem_of_getElem? (i := 260) (by decide +kernel), rfl⟩
theorem wk_160 : Wk (Cond.fieldLink "BumperBalls$Play" 31 "BumperBalls$Play" "gates" "I") := ⟨List.mem_of_getElem? (i := 262) (by decide +kernel), rfl⟩
theorem wk_163 : Wk (Cond.fieldLink "BumperBalls$Play" 34 "BumperBalls$Play" "steps" "I") := ⟨List.mem_of_getElem? (i := 265) (by decide +kernel), rfl⟩
theorem wk_165 : Wk (Cond.fieldLink "BumperBalls$Play" 37 "BumperBalls$Play" "struck" "[I") := ⟨List.mem_of_getElem? (i := 267) (by decide +kernel), rfl⟩
theorem wk_168 : Wk (Cond.fieldLink "BumperBalls$Play" 41 "BumperBalls$Play" "knocked" "I") := ⟨List.mem_of_getElem? (i := 270) (by decide +kernel), rfl⟩
theorem wk_192 : Wk (Cond.classLink "BumperBalls" 37 "BumperBalls$Acts") := ⟨List.mem_of_getElem? (i := 294) (by decide +kernel), rfl⟩
theorem wk_193 : Wk (Cond.instantiable "BumperBalls$Acts" 3) := ⟨List.mem_of_getElem? (i := 295) (by decide +kernel), rfl⟩
theorem wk_195 : Wk (Cond.instanceMethod yX0_init) := ⟨List.mem_of_getElem? (i := 297) (by decide +kernel), rfl⟩
theorem wk_196 : Wk (Cond.code yX0_init cX0_init 2 none) := ⟨List.mem_of_getElem? (i := 298) (by decide +kernel), rfl⟩
theorem wk_197 : Wk (Cond.methodLink "BumperBalls$Acts" 3 ⟨"java/lang/Object", "<init>", "()V"⟩) := ⟨List.mem_of_getElem? (i := 299) (by decide +kernel), rfl⟩
theorem wk_198 : Wk (Cond.classLink "BumperBalls$Acts" 9 "BumperBalls$Play") := ⟨List.mem_of_getElem? (i := 300) (by decide +kernel), rfl⟩
theorem wk_199 : Cond.arrayOver (Jvm.ClassFile.FieldType.object "BumperBalls$Play") ∈ lw_tbl := List.mem_of_getElem? (i := 301) (by decide +kernel)
theorem wk_201 : Wk (Cond.fieldLink "BumperBalls$Acts" 11 "BumperBalls$Acts" "plays" "[LBumperBalls$Play;") := ⟨List.mem_of_getElem? (i := 303) (by decide +kernel), rfl⟩
theorem wk_202 : Wk (Cond.fieldLink "BumperBalls$Acts" 17 "BumperBalls$Acts" "oldest" "I") := ⟨List.mem_of_getElem? (i := 304) (by decide +kernel), rfl⟩
theorem wk_203 : Wk (Cond.fieldLink "BumperBalls$Acts" 21 "BumperBalls$Acts" "size" "I") := ⟨List.mem_of_getElem? (i := 305) (by decide +kernel), rfl⟩
theorem wk_212 : Wk (Cond.classLink "BumperBalls" 44 "BumperBalls$Image") := ⟨List.mem_of_getElem? (i := 314) (by decide +kernel), rfl⟩
theorem wk_213 : Cond.arrayOver (Jvm.ClassFile.FieldType.object "BumperBalls$Image") ∈ lw_tbl := List.mem_of_getElem? (i := 315) (by decide +kernel)
theorem wk_214 : Wk (Cond.classLink "BumperBalls" 53 "BumperBalls$Search") := ⟨List.mem_of_getElem? (i := 316) (by decide +kernel), rfl⟩
theorem wk_215 : Wk (Cond.instantiable "BumperBalls$Search" 4) := ⟨List.mem_of_getElem? (i := 317) (by decide +kernel), rfl⟩
theorem wk_217 : Wk (Cond.instanceMethod yX6_init) := ⟨List.mem_of_getElem? (i := 319) (by decide +kernel), rfl⟩
theorem wk_218 : Wk (Cond.code yX6_init cX6_init 1 none) := ⟨List.mem_of_getElem? (i := 320) (by decide +kernel), rfl⟩
theorem wk_219 : Wk (Cond.methodLink "BumperBalls$Search" 3 ⟨"java/lang/Object", "<init>", "()V"⟩) := ⟨List.mem_of_getElem? (i := 321) (by decide +kernel), rfl⟩
theorem wk_220 : Wk (Cond.classLink "BumperBalls$Search" 9 "BumperBalls$Layer") := ⟨List.mem_of_getElem? (i := 322) (by decide +kernel), rfl⟩
theorem wk_221 : Wk (Cond.instantiable "BumperBalls$Layer" 3) := ⟨List.mem_of_getElem? (i := 323) (by decide +kernel), rfl⟩
theorem wk_223 : Wk (Cond.instanceMethod yX3_init) := ⟨List.mem_of_getElem? (i := 325) (by decide +kernel), rfl⟩
theorem wk_224 : Wk (Cond.code yX3_init cX3_init 2 none) := ⟨List.mem_of_getElem? (i := 326) (by decide +kernel), rfl⟩
theorem wk_225 : Wk (Cond.methodLink "BumperBalls$Layer" 3 ⟨"java/lang/Object", "<init>", "()V"⟩) := ⟨List.mem_of_getElem? (i := 327) (by decide +kernel), rfl⟩
theorem wk_226 : Wk (Cond.fieldLink "BumperBalls$Layer" 15 "BumperBalls$Layer" "places" "[I") := ⟨List.mem_of_getElem? (i := 328) (by decide +kernel), rfl⟩
theorem wk_228 : Wk (Cond.fieldLink "BumperBalls$Layer" 19 "BumperBalls$Layer" "costs" "[I") := ⟨List.mem_of_getElem? (i := 330) (by decide +kernel), rfl⟩
theorem wk_230 : Wk (Cond.fieldLink "BumperBalls$Layer" 9 "BumperBalls$Layer" "size" "I") := ⟨List.mem_of_getElem? (i := 332) (by decide +kernel), rfl⟩
theorem wk_239 : Wk (Cond.classLink "BumperBalls$Search" 23 "BumperBalls$Play") := ⟨List.mem_of_getElem? (i := 341) (by decide +kernel), rfl⟩
theorem wk_241 : Wk (Cond.constant "BumperBalls$Search" 30 (-1000000)) := ⟨List.mem_of_getElem? (i := 343) (by decide +kernel), rfl⟩
theorem wk_242 : Wk (Cond.fieldLink "BumperBalls$Search" 14 "BumperBalls$Search" "now" "LBumperBalls$Layer;") := ⟨List.mem_of_getElem? (i := 344) (by decide +kernel), rfl⟩
theorem wk_243 : Wk (Cond.fieldLink "BumperBalls$Search" 20 "BumperBalls$Search" "next" "LBumperBalls$Layer;") := ⟨List.mem_of_getElem? (i := 345) (by decide +kernel), rfl⟩
theorem wk_244 : Wk (Cond.fieldLink "BumperBalls$Search" 26 "BumperBalls$Search" "ball" "LBumperBalls$Play;") := ⟨List.mem_of_getElem? (i := 346) (by decide +kernel), rfl⟩
theorem wk_245 : Wk (Cond.fieldLink "BumperBalls$Search" 31 "BumperBalls$Search" "fewestStriking" "I") := ⟨List.mem_of_getElem? (i := 347) (by decide +kernel), rfl⟩
theorem wk_256 : Wk (Cond.classLink "BumperBalls" 60 "BumperBalls$Asks") := ⟨List.mem_of_getElem? (i := 358) (by decide +kernel), rfl⟩
theorem wk_257 : Wk (Cond.instantiable "BumperBalls$Asks" 6) := ⟨List.mem_of_getElem? (i := 359) (by decide +kernel), rfl⟩
theorem wk_259 : Wk (Cond.instanceMethod yX1_init) := ⟨List.mem_of_getElem? (i := 361) (by decide +kernel), rfl⟩
theorem wk_260 : Wk (Cond.code yX1_init cX1_init 1 none) := ⟨List.mem_of_getElem? (i := 362) (by decide +kernel), rfl⟩
theorem wk_261 : Wk (Cond.methodLink "BumperBalls$Asks" 3 ⟨"java/lang/Object", "<init>", "()V"⟩) := ⟨List.mem_of_getElem? (i := 363) (by decide +kernel), rfl⟩
theorem wk_262 : Wk (Cond.fieldLink "BumperBalls$Asks" 9 "BumperBalls$Asks" "bodies" "[I") := ⟨List.mem_of_getElem? (i := 364) (by decide +kernel), rfl⟩
theorem wk_264 : Wk (Cond.fieldLink "BumperBalls$Asks" 15 "BumperBalls$Asks" "length" "I") := ⟨List.mem_of_getElem? (i := 366) (by decide +kernel), rfl⟩
theorem wk_266 : Wk (Cond.fieldLink "BumperBalls$Asks" 19 "BumperBalls$Asks" "pin" "I") := ⟨List.mem_of_getElem? (i := 368) (by decide +kernel), rfl⟩
theorem wk_267 : Wk (Cond.fieldLink "BumperBalls$Asks" 22 "BumperBalls$Asks" "kind" "I") := ⟨List.mem_of_getElem? (i := 369) (by decide +kernel), rfl⟩
theorem wk_268 : Wk (Cond.fieldLink "BumperBalls$Asks" 25 "BumperBalls$Asks" "pays" "I") := ⟨List.mem_of_getElem? (i := 370) (by decide +kernel), rfl⟩
theorem wk_269 : Wk (Cond.fieldLink "BumperBalls$Asks" 28 "BumperBalls$Asks" "struck" "I") := ⟨List.mem_of_getElem? (i := 371) (by decide +kernel), rfl⟩
theorem wk_283 : Wk (Cond.instantiable "BumperBalls$Image" 3) := ⟨List.mem_of_getElem? (i := 385) (by decide +kernel), rfl⟩
theorem wk_285 : Wk (Cond.instanceMethod yX2_init) := ⟨List.mem_of_getElem? (i := 387) (by decide +kernel), rfl⟩
theorem wk_286 : Wk (Cond.code yX2_init cX2_init 1 none) := ⟨List.mem_of_getElem? (i := 388) (by decide +kernel), rfl⟩
theorem wk_287 : Wk (Cond.methodLink "BumperBalls$Image" 1 ⟨"java/lang/Object", "<init>", "()V"⟩) := ⟨List.mem_of_getElem? (i := 389) (by decide +kernel), rfl⟩
theorem wk_288 : Wk (Cond.classLink "BumperBalls$Image" 7 "BumperBalls$Table") := ⟨List.mem_of_getElem? (i := 390) (by decide +kernel), rfl⟩
theorem wk_290 : Wk (Cond.classLink "BumperBalls$Image" 16 "BumperBalls$Play") := ⟨List.mem_of_getElem? (i := 392) (by decide +kernel), rfl⟩
theorem wk_292 : Wk (Cond.fieldLink "BumperBalls$Image" 10 "BumperBalls$Image" "table" "LBumperBalls$Table;") := ⟨List.mem_of_getElem? (i := 394) (by decide +kernel), rfl⟩
theorem wk_294 : Wk (Cond.fieldLink "BumperBalls$Image" 19 "BumperBalls$Image" "play" "LBumperBalls$Play;") := ⟨List.mem_of_getElem? (i := 396) (by decide +kernel), rfl⟩
theorem wk_296 : Wk (Cond.fieldLink "BumperBalls$Image" 23 "BumperBalls$Image" "isKept" "Z") := ⟨List.mem_of_getElem? (i := 398) (by decide +kernel), rfl⟩
theorem wk_305 : Wk (Cond.fieldLink "BumperBalls" 10 "BumperBalls" "rows" "LBumperBalls$Rows;") := ⟨List.mem_of_getElem? (i := 407) (by decide +kernel), rfl⟩
theorem wk_306 : Wk (Cond.fieldLink "BumperBalls" 19 "BumperBalls" "tape" "LBumperBalls$Tape;") := ⟨List.mem_of_getElem? (i := 408) (by decide +kernel), rfl⟩
theorem wk_307 : Wk (Cond.fieldLink "BumperBalls" 26 "BumperBalls" "table" "LBumperBalls$Table;") := ⟨List.mem_of_getElem? (i := 409) (by decide +kernel), rfl⟩
theorem wk_308 : Wk (Cond.fieldLink "BumperBalls" 33 "BumperBalls" "play" "LBumperBalls$Play;") := ⟨List.mem_of_getElem? (i := 410) (by decide +kernel), rfl⟩
theorem wk_309 : Wk (Cond.fieldLink "BumperBalls" 40 "BumperBalls" "acts" "LBumperBalls$Acts;") := ⟨List.mem_of_getElem? (i := 411) (by decide +kernel), rfl⟩
theorem wk_310 : Wk (Cond.fieldLink "BumperBalls" 46 "BumperBalls" "images" "[LBumperBalls$Image;") := ⟨List.mem_of_getElem? (i := 412) (by decide +kernel), rfl⟩
theorem wk_311 : Wk (Cond.fieldLink "BumperBalls" 50 "BumperBalls" "probe" "LBumperBalls$Play;") := ⟨List.mem_of_getElem? (i := 413) (by decide +kernel), rfl⟩
theorem wk_312 : Wk (Cond.fieldLink "BumperBalls" 56 "BumperBalls" "search" "LBumperBalls$Search;") := ⟨List.mem_of_getElem? (i := 414) (by decide +kernel), rfl⟩
theorem wk_313 : Wk (Cond.fieldLink "BumperBalls" 63 "BumperBalls" "asks" "LBumperBalls$Asks;") := ⟨List.mem_of_getElem? (i := 415) (by decide +kernel), rfl⟩
theorem wk_314 : Wk (Cond.fieldLink "BumperBalls" 67 "BumperBalls" "ready" "Z") := ⟨List.mem_of_getElem? (i := 416) (by decide +kernel), rfl⟩
theorem wk_315 : Wk (Cond.fieldLink "BumperBalls" 71 "BumperBalls" "latestFault" "I") := ⟨List.mem_of_getElem? (i := 417) (by decide +kernel), rfl⟩
theorem wk_316 : Wk (Cond.fieldLink "BumperBalls" 75 "BumperBalls" "latestFinding" "I") := ⟨List.mem_of_getElem? (i := 418) (by decide +kernel), rfl⟩
theorem wk_342 : Wk (Cond.methodLink "BumperBallsLaw" 13 yX9_row) := ⟨List.mem_of_getElem? (i := 444) (by decide +kernel), rfl⟩
theorem wk_343 : Wk (Cond.instanceMethod yX9_row) := ⟨List.mem_of_getElem? (i := 445) (by decide +kernel), rfl⟩
theorem wk_344 : Wk (Cond.selects "BumperBalls" yX9_row yX9_row) := ⟨List.mem_of_getElem? (i := 446) (by decide +kernel), rfl⟩
theorem wk_345 : Wk (Cond.code yX9_row cX9_row 4 (some Jvm.ClassFile.FieldType.int)) := ⟨List.mem_of_getElem? (i := 447) (by decide +kernel), rfl⟩
theorem wk_346 : Wk (Cond.methodLink "BumperBalls" 79 yX9_isRow) := ⟨List.mem_of_getElem? (i := 448) (by decide +kernel), rfl⟩
theorem wk_347 : Wk (Cond.static yX9_isRow) := ⟨List.mem_of_getElem? (i := 449) (by decide +kernel), rfl⟩
theorem wk_348 : Wk (Cond.code yX9_isRow cX9_isRow 1 (some Jvm.ClassFile.FieldType.boolean)) := ⟨List.mem_of_getElem? (i := 450) (by decide +kernel), rfl⟩
theorem wk_349 : Wk (Cond.methodLink "BumperBalls" 83 yX9_isUpTo) := ⟨List.mem_of_getElem? (i := 451) (by decide +kernel), rfl⟩
theorem wk_350 : Wk (Cond.static yX9_isUpTo) := ⟨List.mem_of_getElem? (i := 452) (by decide +kernel), rfl⟩
theorem wk_351 : Wk (Cond.code yX9_isUpTo cX9_isUpTo 2 (some Jvm.ClassFile.FieldType.boolean)) := ⟨List.mem_of_getElem? (i := 453) (by decide +kernel), rfl⟩
theorem wk_352 : Wk (Cond.constant "BumperBalls" 87 (-1000001)) := ⟨List.mem_of_getElem? (i := 454) (by decide +kernel), rfl⟩
theorem wk_353 : Wk (Cond.methodLink "BumperBalls" 88 yX9_found) := ⟨List.mem_of_getElem? (i := 455) (by decide +kernel), rfl⟩
theorem wk_355 : Wk (Cond.instanceMethod yX9_found) := ⟨List.mem_of_getElem? (i := 457) (by decide +kernel), rfl⟩
theorem wk_356 : Wk (Cond.code yX9_found cX9_found 2 (some Jvm.ClassFile.FieldType.int)) := ⟨List.mem_of_getElem? (i := 458) (by decide +kernel), rfl⟩
theorem wk_357 : Wk (Cond.constant "BumperBalls" 299 (-1000010)) := ⟨List.mem_of_getElem? (i := 459) (by decide +kernel), rfl⟩
theorem wk_360 : Wk (Cond.instanceMethod yX5_make) := ⟨List.mem_of_getElem? (i := 462) (by decide +kernel), rfl⟩
theorem wk_361 : Wk (Cond.code yX5_make cX5_make 5 none) := ⟨List.mem_of_getElem? (i := 463) (by decide +kernel), rfl⟩
theorem wk_362 : Wk (Cond.methodLink "BumperBalls" 96 yX9_plain) := ⟨List.mem_of_getElem? (i := 464) (by decide +kernel), rfl⟩
theorem wk_364 : Wk (Cond.instanceMethod yX9_plain) := ⟨List.mem_of_getElem? (i := 466) (by decide +kernel), rfl⟩
theorem wk_365 : Wk (Cond.code yX9_plain cX9_plain 2 (some Jvm.ClassFile.FieldType.int)) := ⟨List.mem_of_getElem? (i := 467) (by decide +kernel), rfl⟩
theorem wk_366 : Wk (Cond.methodLink "BumperBallsLaw" 18 yX9_set) := ⟨List.mem_of_getElem? (i := 468) (by decide +kernel), rfl⟩
theorem wk_367 : Wk (Cond.instanceMethod yX9_set) := ⟨List.mem_of_getElem? (i := 469) (by decide +kernel), rfl⟩
theorem wk_368 : Wk (Cond.selects "BumperBalls" yX9_set yX9_set) := ⟨List.mem_of_getElem? (i := 470) (by decide +kernel), rfl⟩
theorem wk_369 : Wk (Cond.code yX9_set cX9_set 4 (some Jvm.ClassFile.FieldType.int)) := ⟨List.mem_of_getElem? (i := 471) (by decide +kernel), rfl⟩
theorem wk_372 : Wk (Cond.instanceMethod yX5_isMissing) := ⟨List.mem_of_getElem? (i := 474) (by decide +kernel), rfl⟩
theorem wk_373 : Wk (Cond.code yX5_isMissing cX5_isMissing 2 (some Jvm.ClassFile.FieldType.boolean)) := ⟨List.mem_of_getElem? (i := 475) (by decide +kernel), rfl⟩
theorem wk_376 : Wk (Cond.instanceMethod yX5_hasPlaces) := ⟨List.mem_of_getElem? (i := 478) (by decide +kernel), rfl⟩
theorem wk_377 : Wk (Cond.code yX5_hasPlaces cX5_hasPlaces 4 (some Jvm.ClassFile.FieldType.boolean)) := ⟨List.mem_of_getElem? (i := 479) (by decide +kernel), rfl⟩
theorem wk_380 : Wk (Cond.instanceMethod yX5_write) := ⟨List.mem_of_getElem? (i := 482) (by decide +kernel), rfl⟩
theorem wk_381 : Wk (Cond.code yX5_write cX5_write 4 (some Jvm.ClassFile.FieldType.int)) := ⟨List.mem_of_getElem? (i := 483) (by decide +kernel), rfl⟩
theorem wk_382 : Wk (Cond.methodLink "BumperBallsLaw" 22 yX9_copy) := ⟨List.mem_of_getElem? (i := 484) (by decide +kernel), rfl⟩
theorem wk_383 : Wk (Cond.instanceMethod yX9_copy) := ⟨List.mem_of_getElem? (i := 485) (by decide +kernel), rfl⟩
theorem wk_384 : Wk (Cond.selects "BumperBalls" yX9_copy yX9_copy) := ⟨List.mem_of_getElem? (i := 486) (by decide +kernel), rfl⟩
theorem wk_385 : Wk (Cond.code yX9_copy cX9_copy 6 (some Jvm.ClassFile.FieldType.int)) := ⟨List.mem_of_getElem? (i := 487) (by decide +kernel), rfl⟩
theorem wk_386 : Wk (Cond.methodLink "BumperBalls" 118 ⟨"java/lang/System", "arraycopy", "(Ljava/lang/Object;ILjava/lang/Object;II)V"⟩) := ⟨List.mem_of_getElem? (i := 488) (by decide +kernel), rfl⟩
theorem wk_387 : Wk (Cond.static ⟨"java/lang/System", "arraycopy", "(Ljava/lang/Object;ILjava/lang/Object;II)V"⟩) := ⟨List.mem_of_getElem? (i := 489) (by decide +kernel), rfl⟩
theorem wk_388 : Wk (Cond.native ⟨"java/lang/System", "arraycopy", "(Ljava/lang/Object;ILjava/lang/Object;II)V"⟩) := ⟨List.mem_of_getElem? (i := 490) (by decide +kernel), rfl⟩
theorem wk_389 : Wk (Cond.methodLink "BumperBallsLaw" 27 yX9_drop) := ⟨List.mem_of_getElem? (i := 491) (by decide +kernel), rfl⟩
theorem wk_390 : Wk (Cond.instanceMethod yX9_drop) := ⟨List.mem_of_getElem? (i := 492) (by decide +kernel), rfl⟩
theorem wk_391 : Wk (Cond.selects "BumperBalls" yX9_drop yX9_drop) := ⟨List.mem_of_getElem? (i := 493) (by decide +kernel), rfl⟩
theorem wk_392 : Wk (Cond.code yX9_drop cX9_drop 2 (some Jvm.ClassFile.FieldType.int)) := ⟨List.mem_of_getElem? (i := 494) (by decide +kernel), rfl⟩
theorem wk_395 : Wk (Cond.instanceMethod yX5_remove) := ⟨List.mem_of_getElem? (i := 497) (by decide +kernel), rfl⟩
theorem wk_396 : Wk (Cond.code yX5_remove cX5_remove 3 (some Jvm.ClassFile.FieldType.int)) := ⟨List.mem_of_getElem? (i := 498) (by decide +kernel), rfl⟩
theorem wk_397 : Wk (Cond.methodLink "BumperBallsLaw" 34 yX9_feed) := ⟨List.mem_of_getElem? (i := 499) (by decide +kernel), rfl⟩
theorem wk_398 : Wk (Cond.instanceMethod yX9_feed) := ⟨List.mem_of_getElem? (i := 500) (by decide +kernel), rfl⟩
theorem wk_399 : Wk (Cond.selects "BumperBalls" yX9_feed yX9_feed) := ⟨List.mem_of_getElem? (i := 501) (by decide +kernel), rfl⟩
theorem wk_400 : Wk (Cond.code yX9_feed cX9_feed 4 (some Jvm.ClassFile.FieldType.int)) := ⟨List.mem_of_getElem? (i := 502) (by decide +kernel), rfl⟩
theorem wk_401 : Wk (Cond.constant "BumperBalls" 130 (-1000003)) := ⟨List.mem_of_getElem? (i := 503) (by decide +kernel), rfl⟩
theorem wk_404 : Wk (Cond.instanceMethod yX8_append) := ⟨List.mem_of_getElem? (i := 506) (by decide +kernel), rfl⟩
theorem wk_405 : Wk (Cond.code yX8_append cX8_append 5 none) := ⟨List.mem_of_getElem? (i := 507) (by decide +kernel), rfl⟩
theorem wk_406 : Wk (Cond.methodLink "BumperBallsLaw" 39 yX9_table) := ⟨List.mem_of_getElem? (i := 508) (by decide +kernel), rfl⟩
theorem wk_407 : Wk (Cond.instanceMethod yX9_table) := ⟨List.mem_of_getElem? (i := 509) (by decide +kernel), rfl⟩
theorem wk_408 : Wk (Cond.selects "BumperBalls" yX9_table yX9_table) := ⟨List.mem_of_getElem? (i := 510) (by decide +kernel), rfl⟩
theorem wk_409 : Wk (Cond.code yX9_table cX9_table 1 (some Jvm.ClassFile.FieldType.int)) := ⟨List.mem_of_getElem? (i := 511) (by decide +kernel), rfl⟩
theorem wk_412 : Wk (Cond.instanceMethod yX8_readAll) := ⟨List.mem_of_getElem? (i := 514) (by decide +kernel), rfl⟩
theorem wk_413 : Wk (Cond.code yX8_readAll cX8_readAll 2 none) := ⟨List.mem_of_getElem? (i := 515) (by decide +kernel), rfl⟩
theorem wk_415 : Wk (Cond.methodLink "BumperBalls$Tape" 50 yX8_readLaw) := ⟨List.mem_of_getElem? (i := 517) (by decide +kernel), rfl⟩
theorem wk_417 : Wk (Cond.instanceMethod yX8_readLaw) := ⟨List.mem_of_getElem? (i := 519) (by decide +kernel), rfl⟩
theorem wk_418 : Wk (Cond.code yX8_readLaw cX8_readLaw 1 none) := ⟨List.mem_of_getElem? (i := 520) (by decide +kernel), rfl⟩
theorem wk_419 : Wk (Cond.methodLink "BumperBalls$Tape" 53 yX8_take) := ⟨List.mem_of_getElem? (i := 521) (by decide +kernel), rfl⟩
theorem wk_421 : Wk (Cond.instanceMethod yX8_take) := ⟨List.mem_of_getElem? (i := 523) (by decide +kernel), rfl⟩
theorem wk_422 : Wk (Cond.code yX8_take cX8_take 1 none) := ⟨List.mem_of_getElem? (i := 524) (by decide +kernel), rfl⟩
theorem wk_423 : Wk (Cond.methodLink "BumperBalls$Tape" 114 yX8_isBlank) := ⟨List.mem_of_getElem? (i := 525) (by decide +kernel), rfl⟩
theorem wk_424 : Wk (Cond.static yX8_isBlank) := ⟨List.mem_of_getElem? (i := 526) (by decide +kernel), rfl⟩
theorem wk_425 : Wk (Cond.code yX8_isBlank cX8_isBlank 1 (some Jvm.ClassFile.FieldType.boolean)) := ⟨List.mem_of_getElem? (i := 527) (by decide +kernel), rfl⟩
theorem wk_426 : Wk (Cond.methodLink "BumperBalls$Tape" 118 yX8_isLetter) := ⟨List.mem_of_getElem? (i := 528) (by decide +kernel), rfl⟩
theorem wk_427 : Wk (Cond.static yX8_isLetter) := ⟨List.mem_of_getElem? (i := 529) (by decide +kernel), rfl⟩
theorem wk_428 : Wk (Cond.code yX8_isLetter cX8_isLetter 1 (some Jvm.ClassFile.FieldType.boolean)) := ⟨List.mem_of_getElem? (i := 530) (by decide +kernel), rfl⟩
theorem wk_429 : Wk (Cond.methodLink "BumperBalls$Tape" 121 yX8_takeName) := ⟨List.mem_of_getElem? (i := 531) (by decide +kernel), rfl⟩
theorem wk_431 : Wk (Cond.instanceMethod yX8_takeName) := ⟨List.mem_of_getElem? (i := 533) (by decide +kernel), rfl⟩
theorem wk_432 : Wk (Cond.code yX8_takeName cX8_takeName 1 none) := ⟨List.mem_of_getElem? (i := 534) (by decide +kernel), rfl⟩
theorem wk_433 : Wk (Cond.methodLink "BumperBalls$Tape" 124 yX8_isFigure) := ⟨List.mem_of_getElem? (i := 535) (by decide +kernel), rfl⟩
theorem wk_434 : Wk (Cond.static yX8_isFigure) := ⟨List.mem_of_getElem? (i := 536) (by decide +kernel), rfl⟩
theorem wk_435 : Wk (Cond.code yX8_isFigure cX8_isFigure 1 (some Jvm.ClassFile.FieldType.boolean)) := ⟨List.mem_of_getElem? (i := 537) (by decide +kernel), rfl⟩
theorem wk_436 : Wk (Cond.methodLink "BumperBalls$Tape" 127 yX8_takeFigures) := ⟨List.mem_of_getElem? (i := 538) (by decide +kernel), rfl⟩
theorem wk_438 : Wk (Cond.instanceMethod yX8_takeFigures) := ⟨List.mem_of_getElem? (i := 540) (by decide +kernel), rfl⟩
theorem wk_439 : Wk (Cond.code yX8_takeFigures cX8_takeFigures 1 none) := ⟨List.mem_of_getElem? (i := 541) (by decide +kernel), rfl⟩
theorem wk_441 : Wk (Cond.methodLink "BumperBalls$Tape" 58 yX8_isName) := ⟨List.mem_of_getElem? (i := 543) (by decide +kernel), rfl⟩
theorem wk_443 : Wk (Cond.instanceMethod yX8_isName) := ⟨List.mem_of_getElem? (i := 545) (by decide +kernel), rfl⟩
theorem wk_444 : Wk (Cond.code yX8_isName cX8_isName 3 (some Jvm.ClassFile.FieldType.boolean)) := ⟨List.mem_of_getElem? (i := 546) (by decide +kernel), rfl⟩
theorem wk_445 : Wk (Cond.methodLink "BumperBalls$Tape" 130 yJ0_length_8abf5) := ⟨List.mem_of_getElem? (i := 547) (by decide +kernel), rfl⟩
theorem wk_446 : Wk (Cond.instanceMethod yJ0_length_8abf5) := ⟨List.mem_of_getElem? (i := 548) (by decide +kernel), rfl⟩
theorem wk_447 : Wk (Cond.selects "java/lang/String" yJ0_length_8abf5 yJ0_length_8abf5) := ⟨List.mem_of_getElem? (i := 549) (by decide +kernel), rfl⟩
theorem wk_448 : Wk (Cond.code yJ0_length_8abf5 cJ0_length_8abf5 1 (some Jvm.ClassFile.FieldType.int)) := ⟨List.mem_of_getElem? (i := 550) (by decide +kernel), rfl⟩
theorem wk_449 : Wk (Cond.methodLink "java/lang/String" 335 yJ0_coder_7d493) := ⟨List.mem_of_getElem? (i := 551) (by decide +kernel), rfl⟩
theorem wk_450 : Wk (Cond.instanceMethod yJ0_coder_7d493) := ⟨List.mem_of_getElem? (i := 552) (by decide +kernel), rfl⟩
theorem wk_451 : Wk (Cond.selects "java/lang/String" yJ0_coder_7d493 yJ0_coder_7d493) := ⟨List.mem_of_getElem? (i := 553) (by decide +kernel), rfl⟩
theorem wk_452 : Wk (Cond.code yJ0_coder_7d493 cJ0_coder_7d493 1 (some Jvm.ClassFile.FieldType.byte)) := ⟨List.mem_of_getElem? (i := 554) (by decide +kernel), rfl⟩
theorem wk_453 : Wk (Cond.fieldLink "java/lang/String" 38 "java/lang/String" "COMPACT_STRINGS" "Z") := ⟨List.mem_of_getElem? (i := 555) (by decide +kernel), rfl⟩
theorem wk_455 : Wk (Cond.methodLink "BumperBalls$Tape" 134 yJ0_charAt_5068e) := ⟨List.mem_of_getElem? (i := 557) (by decide +kernel), rfl⟩
theorem wk_456 : Wk (Cond.instanceMethod yJ0_charAt_5068e) := ⟨List.mem_of_getElem? (i := 558) (by decide +kernel), rfl⟩
theorem wk_457 : Wk (Cond.selects "java/lang/String" yJ0_charAt_5068e yJ0_charAt_5068e) := ⟨List.mem_of_getElem? (i := 559) (by decide +kernel), rfl⟩
theorem wk_458 : Wk (Cond.code yJ0_charAt_5068e cJ0_charAt_5068e 2 (some Jvm.ClassFile.FieldType.char)) := ⟨List.mem_of_getElem? (i := 560) (by decide +kernel), rfl⟩
theorem wk_459 : Wk (Cond.methodLink "java/lang/String" 492 yJ0_isLatin1_aae02) := ⟨List.mem_of_getElem? (i := 561) (by decide +kernel), rfl⟩
theorem wk_460 : Wk (Cond.instanceMethod yJ0_isLatin1_aae02) := ⟨List.mem_of_getElem? (i := 562) (by decide +kernel), rfl⟩
theorem wk_461 : Wk (Cond.selects "java/lang/String" yJ0_isLatin1_aae02 yJ0_isLatin1_aae02) := ⟨List.mem_of_getElem? (i := 563) (by decide +kernel), rfl⟩
theorem wk_462 : Wk (Cond.code yJ0_isLatin1_aae02 cJ0_isLatin1_aae02 1 (some Jvm.ClassFile.FieldType.boolean)) := ⟨List.mem_of_getElem? (i := 564) (by decide +kernel), rfl⟩
theorem wk_463 : Wk (Cond.methodLink "java/lang/String" 495 yJ1_charAt_3b067) := ⟨List.mem_of_getElem? (i := 565) (by decide +kernel), rfl⟩
theorem wk_464 : Wk (Cond.static yJ1_charAt_3b067) := ⟨List.mem_of_getElem? (i := 566) (by decide +kernel), rfl⟩
theorem wk_465 : Wk (Cond.code yJ1_charAt_3b067 cJ1_charAt_3b067 2 (some Jvm.ClassFile.FieldType.char)) := ⟨List.mem_of_getElem? (i := 567) (by decide +kernel), rfl⟩
theorem wk_466 : Wk (Cond.methodLink "java/lang/StringLatin1" 9 yJ0_checkIndex_df160) := ⟨List.mem_of_getElem? (i := 568) (by decide +kernel), rfl⟩
theorem wk_467 : Wk (Cond.static yJ0_checkIndex_df160) := ⟨List.mem_of_getElem? (i := 569) (by decide +kernel), rfl⟩
theorem wk_468 : Wk (Cond.code yJ0_checkIndex_df160 cJ0_checkIndex_df160 2 none) := ⟨List.mem_of_getElem? (i := 570) (by decide +kernel), rfl⟩
theorem wk_469 : Wk (Cond.fieldLink "java/lang/String" 1053 "jdk/internal/util/Preconditions" "SIOOBE_FORMATTER" "Ljava/util/function/BiFunction;") := ⟨List.mem_of_getElem? (i := 571) (by decide +kernel), rfl⟩
theorem wk_471 : Wk (Cond.methodLink "java/lang/String" 1059 yJ3_checkIndex_8e157) := ⟨List.mem_of_getElem? (i := 573) (by decide +kernel), rfl⟩
theorem wk_472 : Wk (Cond.static yJ3_checkIndex_8e157) := ⟨List.mem_of_getElem? (i := 574) (by decide +kernel), rfl⟩
theorem wk_473 : Wk (Cond.code yJ3_checkIndex_8e157 cJ3_checkIndex_8e157 3 (some Jvm.ClassFile.FieldType.int)) := ⟨List.mem_of_getElem? (i := 575) (by decide +kernel), rfl⟩
theorem wk_474 : Wk (Cond.methodLink "java/lang/String" 498 yJ2_charAt_3b067) := ⟨List.mem_of_getElem? (i := 576) (by decide +kernel), rfl⟩
theorem wk_475 : Wk (Cond.static yJ2_charAt_3b067) := ⟨List.mem_of_getElem? (i := 577) (by decide +kernel), rfl⟩
theorem wk_476 : Wk (Cond.code yJ2_charAt_3b067 cJ2_charAt_3b067 2 (some Jvm.ClassFile.FieldType.char)) := ⟨List.mem_of_getElem? (i := 578) (by decide +kernel), rfl⟩
theorem wk_477 : Wk (Cond.methodLink "java/lang/StringUTF16" 67 yJ2_checkIndex_2214a) := ⟨List.mem_of_getElem? (i := 579) (by decide +kernel), rfl⟩
theorem wk_478 : Wk (Cond.static yJ2_checkIndex_2214a) := ⟨List.mem_of_getElem? (i := 580) (by decide +kernel), rfl⟩
theorem wk_479 : Wk (Cond.code yJ2_checkIndex_2214a cJ2_checkIndex_2214a 2 none) := ⟨List.mem_of_getElem? (i := 581) (by decide +kernel), rfl⟩
theorem wk_480 : Wk (Cond.methodLink "java/lang/StringUTF16" 48 yJ2_length_9d52b) := ⟨List.mem_of_getElem? (i := 582) (by decide +kernel), rfl⟩
theorem wk_481 : Wk (Cond.static yJ2_length_9d52b) := ⟨List.mem_of_getElem? (i := 583) (by decide +kernel), rfl⟩
theorem wk_482 : Wk (Cond.code yJ2_length_9d52b cJ2_length_9d52b 1 (some Jvm.ClassFile.FieldType.int)) := ⟨List.mem_of_getElem? (i := 584) (by decide +kernel), rfl⟩
theorem wk_483 : Wk (Cond.methodLink "java/lang/StringUTF16" 414 yJ0_checkIndex_df160) := ⟨List.mem_of_getElem? (i := 585) (by decide +kernel), rfl⟩
theorem wk_484 : Wk (Cond.methodLink "java/lang/StringUTF16" 71 yJ2_getChar_3b067) := ⟨List.mem_of_getElem? (i := 586) (by decide +kernel), rfl⟩
theorem wk_485 : Wk (Cond.static yJ2_getChar_3b067) := ⟨List.mem_of_getElem? (i := 587) (by decide +kernel), rfl⟩
theorem wk_486 : Wk (Cond.code yJ2_getChar_3b067 cJ2_getChar_3b067 2 (some Jvm.ClassFile.FieldType.char)) := ⟨List.mem_of_getElem? (i := 588) (by decide +kernel), rfl⟩
theorem wk_487 : Wk (Cond.fieldLink "java/lang/StringUTF16" 44 "java/lang/StringUTF16" "$assertionsDisabled" "Z") := ⟨List.mem_of_getElem? (i := 589) (by decide +kernel), rfl⟩
theorem wk_489 : Wk (Cond.fieldLink "java/lang/StringUTF16" 59 "java/lang/StringUTF16" "HI_BYTE_SHIFT" "I") := ⟨List.mem_of_getElem? (i := 591) (by decide +kernel), rfl⟩
theorem wk_491 : Wk (Cond.fieldLink "java/lang/StringUTF16" 63 "java/lang/StringUTF16" "LO_BYTE_SHIFT" "I") := ⟨List.mem_of_getElem? (i := 593) (by decide +kernel), rfl⟩
theorem wk_493 : Wk (Cond.methodLink "BumperBalls$Tape" 68 yX8_demand) := ⟨List.mem_of_getElem? (i := 595) (by decide +kernel), rfl⟩
theorem wk_495 : Wk (Cond.instanceMethod yX8_demand) := ⟨List.mem_of_getElem? (i := 597) (by decide +kernel), rfl⟩
theorem wk_496 : Wk (Cond.code yX8_demand cX8_demand 2 none) := ⟨List.mem_of_getElem? (i := 598) (by decide +kernel), rfl⟩
theorem wk_497 : Wk (Cond.methodLink "BumperBalls$Tape" 74 yX8_takeNumber) := ⟨List.mem_of_getElem? (i := 599) (by decide +kernel), rfl⟩
theorem wk_499 : Wk (Cond.instanceMethod yX8_takeNumber) := ⟨List.mem_of_getElem? (i := 601) (by decide +kernel), rfl⟩
theorem wk_500 : Wk (Cond.code yX8_takeNumber cX8_takeNumber 3 (some Jvm.ClassFile.FieldType.int)) := ⟨List.mem_of_getElem? (i := 602) (by decide +kernel), rfl⟩
theorem wk_501 : Wk (Cond.methodLink "BumperBalls$Tape" 81 yX8_takeSemicolon) := ⟨List.mem_of_getElem? (i := 603) (by decide +kernel), rfl⟩
theorem wk_503 : Wk (Cond.instanceMethod yX8_takeSemicolon) := ⟨List.mem_of_getElem? (i := 605) (by decide +kernel), rfl⟩
theorem wk_504 : Wk (Cond.code yX8_takeSemicolon cX8_takeSemicolon 1 none) := ⟨List.mem_of_getElem? (i := 606) (by decide +kernel), rfl⟩
theorem wk_506 : Wk (Cond.methodLink "BumperBalls$Tape" 62 yX8_readPin) := ⟨List.mem_of_getElem? (i := 608) (by decide +kernel), rfl⟩
theorem wk_508 : Wk (Cond.instanceMethod yX8_readPin) := ⟨List.mem_of_getElem? (i := 610) (by decide +kernel), rfl⟩
theorem wk_509 : Wk (Cond.code yX8_readPin cX8_readPin 5 none) := ⟨List.mem_of_getElem? (i := 611) (by decide +kernel), rfl⟩
theorem wk_510 : Wk (Cond.methodLink "BumperBalls$Tape" 87 yX8_takeKind) := ⟨List.mem_of_getElem? (i := 612) (by decide +kernel), rfl⟩
theorem wk_512 : Wk (Cond.instanceMethod yX8_takeKind) := ⟨List.mem_of_getElem? (i := 614) (by decide +kernel), rfl⟩
theorem wk_513 : Wk (Cond.code yX8_takeKind cX8_takeKind 2 (some Jvm.ClassFile.FieldType.int)) := ⟨List.mem_of_getElem? (i := 615) (by decide +kernel), rfl⟩
theorem wk_519 : Wk (Cond.methodLink "BumperBalls$Tape" 91 yX8_takeFreeCell) := ⟨List.mem_of_getElem? (i := 621) (by decide +kernel), rfl⟩
theorem wk_521 : Wk (Cond.instanceMethod yX8_takeFreeCell) := ⟨List.mem_of_getElem? (i := 623) (by decide +kernel), rfl⟩
theorem wk_522 : Wk (Cond.code yX8_takeFreeCell cX8_takeFreeCell 4 (some Jvm.ClassFile.FieldType.int)) := ⟨List.mem_of_getElem? (i := 624) (by decide +kernel), rfl⟩
theorem wk_525 : Wk (Cond.instanceMethod yX7_pinIn) := ⟨List.mem_of_getElem? (i := 627) (by decide +kernel), rfl⟩
theorem wk_526 : Wk (Cond.code yX7_pinIn cX7_pinIn 2 (some Jvm.ClassFile.FieldType.int)) := ⟨List.mem_of_getElem? (i := 628) (by decide +kernel), rfl⟩
theorem wk_530 : Wk (Cond.instanceMethod yX7_addPin) := ⟨List.mem_of_getElem? (i := 632) (by decide +kernel), rfl⟩
theorem wk_531 : Wk (Cond.code yX7_addPin cX7_addPin 5 none) := ⟨List.mem_of_getElem? (i := 633) (by decide +kernel), rfl⟩
theorem wk_532 : Wk (Cond.methodLink "BumperBalls$Tape" 65 yX8_readBall) := ⟨List.mem_of_getElem? (i := 634) (by decide +kernel), rfl⟩
theorem wk_534 : Wk (Cond.instanceMethod yX8_readBall) := ⟨List.mem_of_getElem? (i := 636) (by decide +kernel), rfl⟩
theorem wk_535 : Wk (Cond.code yX8_readBall cX8_readBall 1 none) := ⟨List.mem_of_getElem? (i := 637) (by decide +kernel), rfl⟩
theorem wk_537 : Wk (Cond.constant "BumperBalls" 141 (-1000100)) := ⟨List.mem_of_getElem? (i := 639) (by decide +kernel), rfl⟩
theorem wk_540 : Wk (Cond.instanceMethod yX7_become) := ⟨List.mem_of_getElem? (i := 642) (by decide +kernel), rfl⟩
theorem wk_541 : Wk (Cond.code yX7_become cX7_become 2 none) := ⟨List.mem_of_getElem? (i := 643) (by decide +kernel), rfl⟩
theorem wk_542 : Wk (Cond.methodLink "BumperBalls$Table" 41 ⟨"java/lang/System", "arraycopy", "(Ljava/lang/Object;ILjava/lang/Object;II)V"⟩) := ⟨List.mem_of_getElem? (i := 644) (by decide +kernel), rfl⟩
theorem wk_545 : Wk (Cond.instanceMethod yX4_begin) := ⟨List.mem_of_getElem? (i := 647) (by decide +kernel), rfl⟩
theorem wk_546 : Wk (Cond.code yX4_begin cX4_begin 4 none) := ⟨List.mem_of_getElem? (i := 648) (by decide +kernel), rfl⟩
theorem wk_547 : Wk (Cond.methodLink "BumperBalls$Play" 44 yX4_place) := ⟨List.mem_of_getElem? (i := 649) (by decide +kernel), rfl⟩
theorem wk_549 : Wk (Cond.instanceMethod yX4_place) := ⟨List.mem_of_getElem? (i := 651) (by decide +kernel), rfl⟩
theorem wk_550 : Wk (Cond.code yX4_place cX4_place 3 none) := ⟨List.mem_of_getElem? (i := 652) (by decide +kernel), rfl⟩
theorem wk_553 : Wk (Cond.instanceMethod yX0_forget) := ⟨List.mem_of_getElem? (i := 655) (by decide +kernel), rfl⟩
theorem wk_554 : Wk (Cond.code yX0_forget cX0_forget 1 none) := ⟨List.mem_of_getElem? (i := 656) (by decide +kernel), rfl⟩
theorem wk_555 : Wk (Cond.arrayClass (Jvm.ClassFile.FieldType.byte)) := ⟨List.mem_of_getElem? (i := 657) (by decide +kernel), rfl⟩
theorem wk_556 : Wk (Cond.methodLink "BumperBallsLaw" 44 yX9_fault) := ⟨List.mem_of_getElem? (i := 658) (by decide +kernel), rfl⟩
theorem wk_557 : Wk (Cond.instanceMethod yX9_fault) := ⟨List.mem_of_getElem? (i := 659) (by decide +kernel), rfl⟩
theorem wk_558 : Wk (Cond.selects "BumperBalls" yX9_fault yX9_fault) := ⟨List.mem_of_getElem? (i := 660) (by decide +kernel), rfl⟩
theorem wk_559 : Wk (Cond.code yX9_fault cX9_fault 1 (some Jvm.ClassFile.FieldType.int)) := ⟨List.mem_of_getElem? (i := 661) (by decide +kernel), rfl⟩
theorem wk_560 : Wk (Cond.methodLink "BumperBallsLaw" 48 yX9_steps) := ⟨List.mem_of_getElem? (i := 662) (by decide +kernel), rfl⟩
theorem wk_561 : Wk (Cond.instanceMethod yX9_steps) := ⟨List.mem_of_getElem? (i := 663) (by decide +kernel), rfl⟩
theorem wk_562 : Wk (Cond.selects "BumperBalls" yX9_steps yX9_steps) := ⟨List.mem_of_getElem? (i := 664) (by decide +kernel), rfl⟩
theorem wk_563 : Wk (Cond.code yX9_steps cX9_steps 3 (some Jvm.ClassFile.FieldType.int)) := ⟨List.mem_of_getElem? (i := 665) (by decide +kernel), rfl⟩
theorem wk_564 : Wk (Cond.constant "BumperBalls" 168 (-1000002)) := ⟨List.mem_of_getElem? (i := 666) (by decide +kernel), rfl⟩
theorem wk_567 : Wk (Cond.instanceMethod yX0_keep) := ⟨List.mem_of_getElem? (i := 669) (by decide +kernel), rfl⟩
theorem wk_568 : Wk (Cond.code yX0_keep cX0_keep 2 none) := ⟨List.mem_of_getElem? (i := 670) (by decide +kernel), rfl⟩
theorem wk_571 : Wk (Cond.instanceMethod yX4_become) := ⟨List.mem_of_getElem? (i := 673) (by decide +kernel), rfl⟩
theorem wk_572 : Wk (Cond.code yX4_become cX4_become 2 none) := ⟨List.mem_of_getElem? (i := 674) (by decide +kernel), rfl⟩
theorem wk_573 : Wk (Cond.methodLink "BumperBalls$Play" 48 ⟨"java/lang/System", "arraycopy", "(Ljava/lang/Object;ILjava/lang/Object;II)V"⟩) := ⟨List.mem_of_getElem? (i := 675) (by decide +kernel), rfl⟩
theorem wk_576 : Wk (Cond.instanceMethod yX4_step) := ⟨List.mem_of_getElem? (i := 678) (by decide +kernel), rfl⟩
theorem wk_577 : Wk (Cond.code yX4_step cX4_step 2 none) := ⟨List.mem_of_getElem? (i := 679) (by decide +kernel), rfl⟩
theorem wk_578 : Wk (Cond.methodLink "BumperBalls$Play" 58 yJ9_max_7cf53) := ⟨List.mem_of_getElem? (i := 680) (by decide +kernel), rfl⟩
theorem wk_579 : Wk (Cond.static yJ9_max_7cf53) := ⟨List.mem_of_getElem? (i := 681) (by decide +kernel), rfl⟩
theorem wk_580 : Wk (Cond.code yJ9_max_7cf53 cJ9_max_7cf53 2 (some Jvm.ClassFile.FieldType.int)) := ⟨List.mem_of_getElem? (i := 682) (by decide +kernel), rfl⟩
theorem wk_581 : Wk (Cond.methodLink "BumperBalls$Play" 64 yX4_isAtSide) := ⟨List.mem_of_getElem? (i := 683) (by decide +kernel), rfl⟩
theorem wk_583 : Wk (Cond.instanceMethod yX4_isAtSide) := ⟨List.mem_of_getElem? (i := 685) (by decide +kernel), rfl⟩
theorem wk_584 : Wk (Cond.code yX4_isAtSide cX4_isAtSide 1 (some Jvm.ClassFile.FieldType.boolean)) := ⟨List.mem_of_getElem? (i := 686) (by decide +kernel), rfl⟩
theorem wk_585 : Wk (Cond.methodLink "BumperBalls$Play" 68 yX4_turn) := ⟨List.mem_of_getElem? (i := 687) (by decide +kernel), rfl⟩
theorem wk_587 : Wk (Cond.instanceMethod yX4_turn) := ⟨List.mem_of_getElem? (i := 689) (by decide +kernel), rfl⟩
theorem wk_588 : Wk (Cond.code yX4_turn cX4_turn 2 none) := ⟨List.mem_of_getElem? (i := 690) (by decide +kernel), rfl⟩
theorem wk_590 : Wk (Cond.methodLink "BumperBalls$Play" 78 yX4_knock) := ⟨List.mem_of_getElem? (i := 692) (by decide +kernel), rfl⟩
theorem wk_592 : Wk (Cond.instanceMethod yX4_knock) := ⟨List.mem_of_getElem? (i := 694) (by decide +kernel), rfl⟩
theorem wk_593 : Wk (Cond.code yX4_knock cX4_knock 3 none) := ⟨List.mem_of_getElem? (i := 695) (by decide +kernel), rfl⟩
theorem wk_595 : Wk (Cond.methodLink "BumperBalls$Play" 95 yX4_turnBy) := ⟨List.mem_of_getElem? (i := 697) (by decide +kernel), rfl⟩
theorem wk_597 : Wk (Cond.instanceMethod yX4_turnBy) := ⟨List.mem_of_getElem? (i := 699) (by decide +kernel), rfl⟩
theorem wk_598 : Wk (Cond.code yX4_turnBy cX4_turnBy 3 none) := ⟨List.mem_of_getElem? (i := 700) (by decide +kernel), rfl⟩
theorem wk_599 : Wk (Cond.methodLink "BumperBalls$Play" 98 yX4_isOpen) := ⟨List.mem_of_getElem? (i := 701) (by decide +kernel), rfl⟩
theorem wk_601 : Wk (Cond.instanceMethod yX4_isOpen) := ⟨List.mem_of_getElem? (i := 703) (by decide +kernel), rfl⟩
theorem wk_602 : Wk (Cond.code yX4_isOpen cX4_isOpen 2 (some Jvm.ClassFile.FieldType.boolean)) := ⟨List.mem_of_getElem? (i := 704) (by decide +kernel), rfl⟩
theorem wk_603 : Wk (Cond.methodLink "BumperBallsLaw" 52 yX9_nudge) := ⟨List.mem_of_getElem? (i := 705) (by decide +kernel), rfl⟩
theorem wk_604 : Wk (Cond.instanceMethod yX9_nudge) := ⟨List.mem_of_getElem? (i := 706) (by decide +kernel), rfl⟩
theorem wk_605 : Wk (Cond.selects "BumperBalls" yX9_nudge yX9_nudge) := ⟨List.mem_of_getElem? (i := 707) (by decide +kernel), rfl⟩
theorem wk_606 : Wk (Cond.code yX9_nudge cX9_nudge 1 (some Jvm.ClassFile.FieldType.int)) := ⟨List.mem_of_getElem? (i := 708) (by decide +kernel), rfl⟩
theorem wk_609 : Wk (Cond.instanceMethod yX4_shake) := ⟨List.mem_of_getElem? (i := 711) (by decide +kernel), rfl⟩
theorem wk_610 : Wk (Cond.code yX4_shake cX4_shake 2 none) := ⟨List.mem_of_getElem? (i := 712) (by decide +kernel), rfl⟩
theorem wk_611 : Wk (Cond.methodLink "BumperBallsLaw" 56 yX9_flip) := ⟨List.mem_of_getElem? (i := 713) (by decide +kernel), rfl⟩
theorem wk_612 : Wk (Cond.instanceMethod yX9_flip) := ⟨List.mem_of_getElem? (i := 714) (by decide +kernel), rfl⟩
theorem wk_613 : Wk (Cond.selects "BumperBalls" yX9_flip yX9_flip) := ⟨List.mem_of_getElem? (i := 715) (by decide +kernel), rfl⟩
theorem wk_614 : Wk (Cond.code yX9_flip cX9_flip 1 (some Jvm.ClassFile.FieldType.int)) := ⟨List.mem_of_getElem? (i := 716) (by decide +kernel), rfl⟩
theorem wk_615 : Wk (Cond.methodLink "BumperBallsLaw" 60 yX9_put) := ⟨List.mem_of_getElem? (i := 717) (by decide +kernel), rfl⟩
theorem wk_616 : Wk (Cond.instanceMethod yX9_put) := ⟨List.mem_of_getElem? (i := 718) (by decide +kernel), rfl⟩
theorem wk_617 : Wk (Cond.selects "BumperBalls" yX9_put yX9_put) := ⟨List.mem_of_getElem? (i := 719) (by decide +kernel), rfl⟩
theorem wk_618 : Wk (Cond.code yX9_put cX9_put 3 (some Jvm.ClassFile.FieldType.int)) := ⟨List.mem_of_getElem? (i := 720) (by decide +kernel), rfl⟩
theorem wk_621 : Wk (Cond.methodLink "BumperBallsLaw" 65 yX9_undo) := ⟨List.mem_of_getElem? (i := 723) (by decide +kernel), rfl⟩
theorem wk_622 : Wk (Cond.instanceMethod yX9_undo) := ⟨List.mem_of_getElem? (i := 724) (by decide +kernel), rfl⟩
theorem wk_623 : Wk (Cond.selects "BumperBalls" yX9_undo yX9_undo) := ⟨List.mem_of_getElem? (i := 725) (by decide +kernel), rfl⟩
theorem wk_624 : Wk (Cond.code yX9_undo cX9_undo 1 (some Jvm.ClassFile.FieldType.int)) := ⟨List.mem_of_getElem? (i := 726) (by decide +kernel), rfl⟩
theorem wk_627 : Wk (Cond.instanceMethod yX0_takeBack) := ⟨List.mem_of_getElem? (i := 729) (by decide +kernel), rfl⟩
theorem wk_628 : Wk (Cond.code yX0_takeBack cX0_takeBack 2 none) := ⟨List.mem_of_getElem? (i := 730) (by decide +kernel), rfl⟩
theorem wk_629 : Wk (Cond.methodLink "BumperBallsLaw" 69 yX9_ball) := ⟨List.mem_of_getElem? (i := 731) (by decide +kernel), rfl⟩
theorem wk_630 : Wk (Cond.instanceMethod yX9_ball) := ⟨List.mem_of_getElem? (i := 732) (by decide +kernel), rfl⟩
theorem wk_631 : Wk (Cond.selects "BumperBalls" yX9_ball yX9_ball) := ⟨List.mem_of_getElem? (i := 733) (by decide +kernel), rfl⟩
theorem wk_632 : Wk (Cond.code yX9_ball cX9_ball 2 (some Jvm.ClassFile.FieldType.int)) := ⟨List.mem_of_getElem? (i := 734) (by decide +kernel), rfl⟩
theorem wk_633 : Wk (Cond.methodLink "BumperBallsLaw" 73 yX9_pin) := ⟨List.mem_of_getElem? (i := 735) (by decide +kernel), rfl⟩
theorem wk_634 : Wk (Cond.instanceMethod yX9_pin) := ⟨List.mem_of_getElem? (i := 736) (by decide +kernel), rfl⟩
theorem wk_635 : Wk (Cond.selects "BumperBalls" yX9_pin yX9_pin) := ⟨List.mem_of_getElem? (i := 737) (by decide +kernel), rfl⟩
theorem wk_636 : Wk (Cond.code yX9_pin cX9_pin 3 (some Jvm.ClassFile.FieldType.int)) := ⟨List.mem_of_getElem? (i := 738) (by decide +kernel), rfl⟩
theorem wk_637 : Wk (Cond.methodLink "BumperBalls" 216 yX9_isPin) := ⟨List.mem_of_getElem? (i := 739) (by decide +kernel), rfl⟩
theorem wk_639 : Wk (Cond.instanceMethod yX9_isPin) := ⟨List.mem_of_getElem? (i := 741) (by decide +kernel), rfl⟩
theorem wk_640 : Wk (Cond.code yX9_isPin cX9_isPin 2 (some Jvm.ClassFile.FieldType.boolean)) := ⟨List.mem_of_getElem? (i := 742) (by decide +kernel), rfl⟩
theorem wk_642 : Wk (Cond.methodLink "BumperBallsLaw" 77 yX9_ahead) := ⟨List.mem_of_getElem? (i := 744) (by decide +kernel), rfl⟩
theorem wk_643 : Wk (Cond.instanceMethod yX9_ahead) := ⟨List.mem_of_getElem? (i := 745) (by decide +kernel), rfl⟩
theorem wk_644 : Wk (Cond.selects "BumperBalls" yX9_ahead yX9_ahead) := ⟨List.mem_of_getElem? (i := 746) (by decide +kernel), rfl⟩
theorem wk_645 : Wk (Cond.code yX9_ahead cX9_ahead 3 (some Jvm.ClassFile.FieldType.int)) := ⟨List.mem_of_getElem? (i := 747) (by decide +kernel), rfl⟩
theorem wk_649 : Wk (Cond.instanceMethod yX4_run) := ⟨List.mem_of_getElem? (i := 751) (by decide +kernel), rfl⟩
theorem wk_650 : Wk (Cond.code yX4_run cX4_run 4 none) := ⟨List.mem_of_getElem? (i := 752) (by decide +kernel), rfl⟩
theorem wk_651 : Wk (Cond.methodLink "BumperBalls$Play" 54 yX4_step) := ⟨List.mem_of_getElem? (i := 753) (by decide +kernel), rfl⟩
theorem wk_652 : Wk (Cond.constant "BumperBalls" 240 (-1000000)) := ⟨List.mem_of_getElem? (i := 754) (by decide +kernel), rfl⟩
theorem wk_653 : Wk (Cond.methodLink "BumperBallsLaw" 81 yX9_lasts) := ⟨List.mem_of_getElem? (i := 755) (by decide +kernel), rfl⟩
theorem wk_654 : Wk (Cond.instanceMethod yX9_lasts) := ⟨List.mem_of_getElem? (i := 756) (by decide +kernel), rfl⟩
theorem wk_655 : Wk (Cond.selects "BumperBalls" yX9_lasts yX9_lasts) := ⟨List.mem_of_getElem? (i := 757) (by decide +kernel), rfl⟩
theorem wk_656 : Wk (Cond.code yX9_lasts cX9_lasts 2 (some Jvm.ClassFile.FieldType.int)) := ⟨List.mem_of_getElem? (i := 758) (by decide +kernel), rfl⟩
theorem wk_657 : Wk (Cond.methodLink "BumperBalls" 241 yX9_stepsTillLost) := ⟨List.mem_of_getElem? (i := 759) (by decide +kernel), rfl⟩
theorem wk_659 : Wk (Cond.instanceMethod yX9_stepsTillLost) := ⟨List.mem_of_getElem? (i := 761) (by decide +kernel), rfl⟩
theorem wk_660 : Wk (Cond.code yX9_stepsTillLost cX9_stepsTillLost 2 (some Jvm.ClassFile.FieldType.int)) := ⟨List.mem_of_getElem? (i := 762) (by decide +kernel), rfl⟩
theorem wk_661 : Wk (Cond.methodLink "BumperBalls" 245 yX9_stepsTillAgain) := ⟨List.mem_of_getElem? (i := 763) (by decide +kernel), rfl⟩
theorem wk_663 : Wk (Cond.instanceMethod yX9_stepsTillAgain) := ⟨List.mem_of_getElem? (i := 765) (by decide +kernel), rfl⟩
theorem wk_664 : Wk (Cond.code yX9_stepsTillAgain cX9_stepsTillAgain 2 (some Jvm.ClassFile.FieldType.int)) := ⟨List.mem_of_getElem? (i := 766) (by decide +kernel), rfl⟩
theorem wk_667 : Wk (Cond.instanceMethod yX4_isAs) := ⟨List.mem_of_getElem? (i := 769) (by decide +kernel), rfl⟩
theorem wk_668 : Wk (Cond.code yX4_isAs cX4_isAs 2 (some Jvm.ClassFile.FieldType.boolean)) := ⟨List.mem_of_getElem? (i := 770) (by decide +kernel), rfl⟩
theorem wk_669 : Wk (Cond.methodLink "BumperBallsLaw" 85 yX9_richest) := ⟨List.mem_of_getElem? (i := 771) (by decide +kernel), rfl⟩
theorem wk_670 : Wk (Cond.instanceMethod yX9_richest) := ⟨List.mem_of_getElem? (i := 772) (by decide +kernel), rfl⟩
theorem wk_671 : Wk (Cond.selects "BumperBalls" yX9_richest yX9_richest) := ⟨List.mem_of_getElem? (i := 773) (by decide +kernel), rfl⟩
theorem wk_672 : Wk (Cond.code yX9_richest cX9_richest 7 (some Jvm.ClassFile.FieldType.int)) := ⟨List.mem_of_getElem? (i := 774) (by decide +kernel), rfl⟩
theorem wk_673 : Wk (Cond.methodLink "BumperBalls" 248 yX9_broughtBy) := ⟨List.mem_of_getElem? (i := 775) (by decide +kernel), rfl⟩
theorem wk_675 : Wk (Cond.instanceMethod yX9_broughtBy) := ⟨List.mem_of_getElem? (i := 777) (by decide +kernel), rfl⟩
theorem wk_676 : Wk (Cond.code yX9_broughtBy cX9_broughtBy 3 (some Jvm.ClassFile.FieldType.int)) := ⟨List.mem_of_getElem? (i := 778) (by decide +kernel), rfl⟩
theorem wk_677 : Wk (Cond.methodLink "BumperBallsLaw" 89 yX9_nudged) := ⟨List.mem_of_getElem? (i := 779) (by decide +kernel), rfl⟩
theorem wk_678 : Wk (Cond.instanceMethod yX9_nudged) := ⟨List.mem_of_getElem? (i := 780) (by decide +kernel), rfl⟩
theorem wk_679 : Wk (Cond.selects "BumperBalls" yX9_nudged yX9_nudged) := ⟨List.mem_of_getElem? (i := 781) (by decide +kernel), rfl⟩
theorem wk_680 : Wk (Cond.code yX9_nudged cX9_nudged 3 (some Jvm.ClassFile.FieldType.int)) := ⟨List.mem_of_getElem? (i := 782) (by decide +kernel), rfl⟩
theorem wk_683 : Wk (Cond.instanceMethod yX6_walk) := ⟨List.mem_of_getElem? (i := 785) (by decide +kernel), rfl⟩
theorem wk_684 : Wk (Cond.code yX6_walk cX6_walk 9 none) := ⟨List.mem_of_getElem? (i := 786) (by decide +kernel), rfl⟩
theorem wk_685 : Wk (Cond.methodLink "BumperBalls$Search" 40 yX6_makeRoom) := ⟨List.mem_of_getElem? (i := 787) (by decide +kernel), rfl⟩
theorem wk_687 : Wk (Cond.instanceMethod yX6_makeRoom) := ⟨List.mem_of_getElem? (i := 789) (by decide +kernel), rfl⟩
theorem wk_688 : Wk (Cond.code yX6_makeRoom cX6_makeRoom 3 none) := ⟨List.mem_of_getElem? (i := 790) (by decide +kernel), rfl⟩
theorem wk_689 : Wk (Cond.methodLink "BumperBalls$Search" 64 yJ9_min_7cf53) := ⟨List.mem_of_getElem? (i := 791) (by decide +kernel), rfl⟩
theorem wk_690 : Wk (Cond.static yJ9_min_7cf53) := ⟨List.mem_of_getElem? (i := 792) (by decide +kernel), rfl⟩
theorem wk_691 : Wk (Cond.code yJ9_min_7cf53 cJ9_min_7cf53 2 (some Jvm.ClassFile.FieldType.int)) := ⟨List.mem_of_getElem? (i := 793) (by decide +kernel), rfl⟩
theorem wk_694 : Wk (Cond.instanceMethod yX3_clear) := ⟨List.mem_of_getElem? (i := 796) (by decide +kernel), rfl⟩
theorem wk_695 : Wk (Cond.code yX3_clear cX3_clear 2 none) := ⟨List.mem_of_getElem? (i := 797) (by decide +kernel), rfl⟩
theorem wk_698 : Wk (Cond.instanceMethod yX3_reach) := ⟨List.mem_of_getElem? (i := 800) (by decide +kernel), rfl⟩
theorem wk_699 : Wk (Cond.code yX3_reach cX3_reach 4 none) := ⟨List.mem_of_getElem? (i := 801) (by decide +kernel), rfl⟩
theorem wk_701 : Wk (Cond.methodLink "BumperBalls$Layer" 37 yJ9_min_7cf53) := ⟨List.mem_of_getElem? (i := 803) (by decide +kernel), rfl⟩
theorem wk_702 : Wk (Cond.methodLink "BumperBalls$Search" 60 yX6_goOn) := ⟨List.mem_of_getElem? (i := 804) (by decide +kernel), rfl⟩
theorem wk_704 : Wk (Cond.instanceMethod yX6_goOn) := ⟨List.mem_of_getElem? (i := 806) (by decide +kernel), rfl⟩
theorem wk_705 : Wk (Cond.code yX6_goOn cX6_goOn 6 none) := ⟨List.mem_of_getElem? (i := 807) (by decide +kernel), rfl⟩
theorem wk_709 : Wk (Cond.methodLink "BumperBalls$Search" 90 yX6_fewer) := ⟨List.mem_of_getElem? (i := 811) (by decide +kernel), rfl⟩
theorem wk_710 : Wk (Cond.static yX6_fewer) := ⟨List.mem_of_getElem? (i := 812) (by decide +kernel), rfl⟩
theorem wk_711 : Wk (Cond.code yX6_fewer cX6_fewer 2 (some Jvm.ClassFile.FieldType.int)) := ⟨List.mem_of_getElem? (i := 813) (by decide +kernel), rfl⟩
theorem wk_712 : Wk (Cond.methodLink "BumperBallsLaw" 93 yX9_kept) := ⟨List.mem_of_getElem? (i := 814) (by decide +kernel), rfl⟩
theorem wk_713 : Wk (Cond.instanceMethod yX9_kept) := ⟨List.mem_of_getElem? (i := 815) (by decide +kernel), rfl⟩
theorem wk_714 : Wk (Cond.selects "BumperBalls" yX9_kept yX9_kept) := ⟨List.mem_of_getElem? (i := 816) (by decide +kernel), rfl⟩
theorem wk_715 : Wk (Cond.code yX9_kept cX9_kept 2 (some Jvm.ClassFile.FieldType.int)) := ⟨List.mem_of_getElem? (i := 817) (by decide +kernel), rfl⟩
theorem wk_718 : Wk (Cond.instanceMethod yX6_fewestStaying) := ⟨List.mem_of_getElem? (i := 820) (by decide +kernel), rfl⟩
theorem wk_719 : Wk (Cond.code yX6_fewestStaying cX6_fewestStaying 3 (some Jvm.ClassFile.FieldType.int)) := ⟨List.mem_of_getElem? (i := 821) (by decide +kernel), rfl⟩
theorem wk_720 : Wk (Cond.methodLink "BumperBallsLaw" 97 yX9_heard) := ⟨List.mem_of_getElem? (i := 822) (by decide +kernel), rfl⟩
theorem wk_721 : Wk (Cond.instanceMethod yX9_heard) := ⟨List.mem_of_getElem? (i := 823) (by decide +kernel), rfl⟩
theorem wk_722 : Wk (Cond.selects "BumperBalls" yX9_heard yX9_heard) := ⟨List.mem_of_getElem? (i := 824) (by decide +kernel), rfl⟩
theorem wk_723 : Wk (Cond.code yX9_heard cX9_heard 8 (some Jvm.ClassFile.FieldType.int)) := ⟨List.mem_of_getElem? (i := 825) (by decide +kernel), rfl⟩
theorem wk_726 : Wk (Cond.instanceMethod yX5_tellsLetters) := ⟨List.mem_of_getElem? (i := 828) (by decide +kernel), rfl⟩
theorem wk_727 : Wk (Cond.code yX5_tellsLetters cX5_tellsLetters 5 (some Jvm.ClassFile.FieldType.boolean)) := ⟨List.mem_of_getElem? (i := 829) (by decide +kernel), rfl⟩
theorem wk_729 : Wk (Cond.methodLink "BumperBalls" 265 yX9_isHeard) := ⟨List.mem_of_getElem? (i := 831) (by decide +kernel), rfl⟩
theorem wk_731 : Wk (Cond.instanceMethod yX9_isHeard) := ⟨List.mem_of_getElem? (i := 833) (by decide +kernel), rfl⟩
theorem wk_732 : Wk (Cond.code yX9_isHeard cX9_isHeard 7 (some Jvm.ClassFile.FieldType.boolean)) := ⟨List.mem_of_getElem? (i := 834) (by decide +kernel), rfl⟩
theorem wk_733 : Wk (Cond.methodLink "BumperBallsLaw" 102 yX9_image) := ⟨List.mem_of_getElem? (i := 835) (by decide +kernel), rfl⟩
theorem wk_734 : Wk (Cond.instanceMethod yX9_image) := ⟨List.mem_of_getElem? (i := 836) (by decide +kernel), rfl⟩
theorem wk_735 : Wk (Cond.selects "BumperBalls" yX9_image yX9_image) := ⟨List.mem_of_getElem? (i := 837) (by decide +kernel), rfl⟩
theorem wk_736 : Wk (Cond.code yX9_image cX9_image 2 (some Jvm.ClassFile.FieldType.int)) := ⟨List.mem_of_getElem? (i := 838) (by decide +kernel), rfl⟩
theorem wk_739 : Wk (Cond.instanceMethod yX2_keep) := ⟨List.mem_of_getElem? (i := 841) (by decide +kernel), rfl⟩
theorem wk_740 : Wk (Cond.code yX2_keep cX2_keep 3 none) := ⟨List.mem_of_getElem? (i := 842) (by decide +kernel), rfl⟩
theorem wk_743 : Wk (Cond.methodLink "BumperBallsLaw" 106 yX9_restore) := ⟨List.mem_of_getElem? (i := 845) (by decide +kernel), rfl⟩
theorem wk_744 : Wk (Cond.instanceMethod yX9_restore) := ⟨List.mem_of_getElem? (i := 846) (by decide +kernel), rfl⟩
theorem wk_745 : Wk (Cond.selects "BumperBalls" yX9_restore yX9_restore) := ⟨List.mem_of_getElem? (i := 847) (by decide +kernel), rfl⟩
theorem wk_746 : Wk (Cond.code yX9_restore cX9_restore 2 (some Jvm.ClassFile.FieldType.int)) := ⟨List.mem_of_getElem? (i := 848) (by decide +kernel), rfl⟩
theorem wk_747 : Wk (Cond.methodLink "BumperBallsLaw" 110 yX9_kind) := ⟨List.mem_of_getElem? (i := 849) (by decide +kernel), rfl⟩
theorem wk_748 : Wk (Cond.instanceMethod yX9_kind) := ⟨List.mem_of_getElem? (i := 850) (by decide +kernel), rfl⟩
theorem wk_749 : Wk (Cond.selects "BumperBalls" yX9_kind yX9_kind) := ⟨List.mem_of_getElem? (i := 851) (by decide +kernel), rfl⟩
theorem wk_750 : Wk (Cond.code yX9_kind cX9_kind 2 (some Jvm.ClassFile.FieldType.int)) := ⟨List.mem_of_getElem? (i := 852) (by decide +kernel), rfl⟩
theorem wk_751 : Wk (Cond.methodLink "BumperBallsLaw" 114 yX9_as) := ⟨List.mem_of_getElem? (i := 853) (by decide +kernel), rfl⟩
theorem wk_752 : Wk (Cond.instanceMethod yX9_as) := ⟨List.mem_of_getElem? (i := 854) (by decide +kernel), rfl⟩
theorem wk_753 : Wk (Cond.selects "BumperBalls" yX9_as yX9_as) := ⟨List.mem_of_getElem? (i := 855) (by decide +kernel), rfl⟩
theorem wk_754 : Wk (Cond.code yX9_as cX9_as 3 (some Jvm.ClassFile.FieldType.int)) := ⟨List.mem_of_getElem? (i := 856) (by decide +kernel), rfl⟩
theorem wk_755 : Wk (Cond.methodLink "BumperBalls" 280 yX9_isOfKind) := ⟨List.mem_of_getElem? (i := 857) (by decide +kernel), rfl⟩
theorem wk_756 : Wk (Cond.static yX9_isOfKind) := ⟨List.mem_of_getElem? (i := 858) (by decide +kernel), rfl⟩
theorem wk_757 : Wk (Cond.code yX9_isOfKind cX9_isOfKind 4 (some Jvm.ClassFile.FieldType.boolean)) := ⟨List.mem_of_getElem? (i := 859) (by decide +kernel), rfl⟩
theorem wk_758 : Wk (Cond.fieldLink "BumperBalls" 300 "BumperBalls" "NEAREST" "[I") := ⟨List.mem_of_getElem? (i := 860) (by decide +kernel), rfl⟩
theorem wk_760 : Wk (Cond.methodLink "BumperBallsLaw" 118 yX9_ask) := ⟨List.mem_of_getElem? (i := 862) (by decide +kernel), rfl⟩
theorem wk_761 : Wk (Cond.instanceMethod yX9_ask) := ⟨List.mem_of_getElem? (i := 863) (by decide +kernel), rfl⟩
theorem wk_762 : Wk (Cond.selects "BumperBalls" yX9_ask yX9_ask) := ⟨List.mem_of_getElem? (i := 864) (by decide +kernel), rfl⟩
theorem wk_763 : Wk (Cond.code yX9_ask cX9_ask 3 (some Jvm.ClassFile.FieldType.int)) := ⟨List.mem_of_getElem? (i := 865) (by decide +kernel), rfl⟩
theorem wk_766 : Wk (Cond.instanceMethod yX1_begin) := ⟨List.mem_of_getElem? (i := 868) (by decide +kernel), rfl⟩
theorem wk_767 : Wk (Cond.code yX1_begin cX1_begin 4 none) := ⟨List.mem_of_getElem? (i := 869) (by decide +kernel), rfl⟩
theorem wk_770 : Wk (Cond.instanceMethod yX1_sizeAsked) := ⟨List.mem_of_getElem? (i := 872) (by decide +kernel), rfl⟩
theorem wk_771 : Wk (Cond.code yX1_sizeAsked cX1_sizeAsked 1 (some Jvm.ClassFile.FieldType.int)) := ⟨List.mem_of_getElem? (i := 873) (by decide +kernel), rfl⟩
theorem wk_773 : Wk (Cond.methodLink "BumperBalls$Asks" 46 yX1_sizeOfBumper) := ⟨List.mem_of_getElem? (i := 875) (by decide +kernel), rfl⟩
theorem wk_775 : Wk (Cond.instanceMethod yX1_sizeOfBumper) := ⟨List.mem_of_getElem? (i := 877) (by decide +kernel), rfl⟩
theorem wk_776 : Wk (Cond.code yX1_sizeOfBumper cX1_sizeOfBumper 2 (some Jvm.ClassFile.FieldType.int)) := ⟨List.mem_of_getElem? (i := 878) (by decide +kernel), rfl⟩
theorem wk_777 : Wk (Cond.methodLink "BumperBalls$Asks" 59 yX1_leave) := ⟨List.mem_of_getElem? (i := 879) (by decide +kernel), rfl⟩
theorem wk_779 : Wk (Cond.instanceMethod yX1_leave) := ⟨List.mem_of_getElem? (i := 881) (by decide +kernel), rfl⟩
theorem wk_780 : Wk (Cond.code yX1_leave cX1_leave 2 none) := ⟨List.mem_of_getElem? (i := 882) (by decide +kernel), rfl⟩
theorem wk_781 : Wk (Cond.methodLink "BumperBalls$Asks" 53 yX1_markOfBumper) := ⟨List.mem_of_getElem? (i := 883) (by decide +kernel), rfl⟩
theorem wk_783 : Wk (Cond.instanceMethod yX1_markOfBumper) := ⟨List.mem_of_getElem? (i := 885) (by decide +kernel), rfl⟩
theorem wk_784 : Wk (Cond.code yX1_markOfBumper cX1_markOfBumper 2 (some Jvm.ClassFile.FieldType.int)) := ⟨List.mem_of_getElem? (i := 886) (by decide +kernel), rfl⟩
theorem wk_785 : Wk (Cond.methodLink "BumperBalls$Asks" 50 yX1_sizeOfLamp) := ⟨List.mem_of_getElem? (i := 887) (by decide +kernel), rfl⟩
theorem wk_787 : Wk (Cond.instanceMethod yX1_sizeOfLamp) := ⟨List.mem_of_getElem? (i := 889) (by decide +kernel), rfl⟩
theorem wk_788 : Wk (Cond.code yX1_sizeOfLamp cX1_sizeOfLamp 2 (some Jvm.ClassFile.FieldType.int)) := ⟨List.mem_of_getElem? (i := 890) (by decide +kernel), rfl⟩
theorem wk_791 : Wk (Cond.instanceMethod yX1_markAsked) := ⟨List.mem_of_getElem? (i := 893) (by decide +kernel), rfl⟩
theorem wk_792 : Wk (Cond.code yX1_markAsked cX1_markAsked 1 (some Jvm.ClassFile.FieldType.int)) := ⟨List.mem_of_getElem? (i := 894) (by decide +kernel), rfl⟩
theorem wk_793 : Wk (Cond.methodLink "BumperBalls$Asks" 56 yX1_markOfLamp) := ⟨List.mem_of_getElem? (i := 895) (by decide +kernel), rfl⟩
theorem wk_795 : Wk (Cond.instanceMethod yX1_markOfLamp) := ⟨List.mem_of_getElem? (i := 897) (by decide +kernel), rfl⟩
theorem wk_796 : Wk (Cond.code yX1_markOfLamp cX1_markOfLamp 1 (some Jvm.ClassFile.FieldType.int)) := ⟨List.mem_of_getElem? (i := 898) (by decide +kernel), rfl⟩
theorem wk_797 : Wk (Cond.methodLink "BumperBallsLaw" 122 yX9_trace) := ⟨List.mem_of_getElem? (i := 899) (by decide +kernel), rfl⟩
theorem wk_798 : Wk (Cond.instanceMethod yX9_trace) := ⟨List.mem_of_getElem? (i := 900) (by decide +kernel), rfl⟩
theorem wk_799 : Wk (Cond.selects "BumperBalls" yX9_trace yX9_trace) := ⟨List.mem_of_getElem? (i := 901) (by decide +kernel), rfl⟩
theorem wk_800 : Wk (Cond.code yX9_trace cX9_trace 2 (some Jvm.ClassFile.FieldType.int)) := ⟨List.mem_of_getElem? (i := 902) (by decide +kernel), rfl⟩
theorem wk_801 : Wk (Cond.methodLink "BumperBallsLaw" 126 yX9_count) := ⟨List.mem_of_getElem? (i := 903) (by decide +kernel), rfl⟩
theorem wk_802 : Wk (Cond.instanceMethod yX9_count) := ⟨List.mem_of_getElem? (i := 904) (by decide +kernel), rfl⟩
theorem wk_803 : Wk (Cond.selects "BumperBalls" yX9_count yX9_count) := ⟨List.mem_of_getElem? (i := 905) (by decide +kernel), rfl⟩
theorem wk_804 : Wk (Cond.code yX9_count cX9_count 2 (some Jvm.ClassFile.FieldType.int)) := ⟨List.mem_of_getElem? (i := 906) (by decide +kernel), rfl⟩
theorem wk_807 : Wk (Cond.instanceMethod yX5_there) := ⟨List.mem_of_getElem? (i := 909) (by decide +kernel), rfl⟩
theorem wk_808 : Wk (Cond.code yX5_there cX5_there 3 (some Jvm.ClassFile.FieldType.int)) := ⟨List.mem_of_getElem? (i := 910) (by decide +kernel), rfl⟩
theorem wk_809 : Wk (Cond.methodLink "BumperBalls$Rows" 27 yX5_isMissing) := ⟨List.mem_of_getElem? (i := 911) (by decide +kernel), rfl⟩
theorem wk_810 : Wk (Cond.methodLink "BumperBallsLaw" 130 yX9_status) := ⟨List.mem_of_getElem? (i := 912) (by decide +kernel), rfl⟩
theorem wk_811 : Wk (Cond.instanceMethod yX9_status) := ⟨List.mem_of_getElem? (i := 913) (by decide +kernel), rfl⟩
theorem wk_812 : Wk (Cond.selects "BumperBalls" yX9_status yX9_status) := ⟨List.mem_of_getElem? (i := 914) (by decide +kernel), rfl⟩
theorem wk_813 : Wk (Cond.code yX9_status cX9_status 1 (some Jvm.ClassFile.FieldType.int)) := ⟨List.mem_of_getElem? (i := 915) (by decide +kernel), rfl⟩
theorem wk_814 : Wk (Cond.classLink "BumperBallsLaw" 10 "BumperBallsModel") := ⟨List.mem_of_getElem? (i := 916) (by decide +kernel), rfl⟩
theorem wk_815 : Wk (Cond.instantiable "BumperBallsModel" 22) := ⟨List.mem_of_getElem? (i := 917) (by decide +kernel), rfl⟩
theorem wk_816 : Wk (Cond.methodLink "BumperBallsLaw" 12 yX10_init) := ⟨List.mem_of_getElem? (i := 918) (by decide +kernel), rfl⟩
theorem wk_817 : Wk (Cond.instanceMethod yX10_init) := ⟨List.mem_of_getElem? (i := 919) (by decide +kernel), rfl⟩
theorem wk_818 : Wk (Cond.code yX10_init cX10_init 1 none) := ⟨List.mem_of_getElem? (i := 920) (by decide +kernel), rfl⟩
theorem wk_819 : Wk (Cond.methodLink "BumperBallsModel" 1 ⟨"java/lang/Object", "<init>", "()V"⟩) := ⟨List.mem_of_getElem? (i := 921) (by decide +kernel), rfl⟩
theorem wk_820 : Wk (Cond.constant "BumperBallsModel" 19 (-1000000)) := ⟨List.mem_of_getElem? (i := 922) (by decide +kernel), rfl⟩
theorem wk_821 : Wk (Cond.fieldLink "BumperBallsModel" 7 "BumperBallsModel" "row" "[I") := ⟨List.mem_of_getElem? (i := 923) (by decide +kernel), rfl⟩
theorem wk_822 : Wk (Cond.fieldLink "BumperBallsModel" 13 "BumperBallsModel" "pasts" "[I") := ⟨List.mem_of_getElem? (i := 924) (by decide +kernel), rfl⟩
theorem wk_823 : Wk (Cond.fieldLink "BumperBallsModel" 158 "BumperBallsModel" "pastMany" "I") := ⟨List.mem_of_getElem? (i := 925) (by decide +kernel), rfl⟩
theorem wk_824 : Wk (Cond.fieldLink "BumperBallsModel" 16 "BumperBallsModel" "tape" "[I") := ⟨List.mem_of_getElem? (i := 926) (by decide +kernel), rfl⟩
theorem wk_825 : Wk (Cond.fieldLink "BumperBallsModel" 72 "BumperBallsModel" "taped" "I") := ⟨List.mem_of_getElem? (i := 927) (by decide +kernel), rfl⟩
theorem wk_826 : Wk (Cond.fieldLink "BumperBallsModel" 103 "BumperBallsModel" "fault" "I") := ⟨List.mem_of_getElem? (i := 928) (by decide +kernel), rfl⟩
theorem wk_827 : Wk (Cond.fieldLink "BumperBallsModel" 41 "BumperBallsModel" "status" "I") := ⟨List.mem_of_getElem? (i := 929) (by decide +kernel), rfl⟩
theorem wk_828 : Wk (Cond.fieldLink "BumperBallsModel" 20 "BumperBallsModel" "lanes" "[I") := ⟨List.mem_of_getElem? (i := 930) (by decide +kernel), rfl⟩
theorem wk_829 : Wk (Cond.fieldLink "BumperBallsModel" 23 "BumperBallsModel" "sizes" "[I") := ⟨List.mem_of_getElem? (i := 931) (by decide +kernel), rfl⟩
theorem wk_830 : Wk (Cond.fieldLink "BumperBallsModel" 26 "BumperBallsModel" "items" "[I") := ⟨List.mem_of_getElem? (i := 932) (by decide +kernel), rfl⟩
theorem wk_831 : Wk (Cond.fieldLink "BumperBallsModel" 29 "BumperBallsModel" "traces" "[I") := ⟨List.mem_of_getElem? (i := 933) (by decide +kernel), rfl⟩
theorem wk_832 : Wk (Cond.fieldLink "BumperBallsModel" 231 "BumperBallsModel" "traceMany" "I") := ⟨List.mem_of_getElem? (i := 934) (by decide +kernel), rfl⟩
theorem wk_833 : Wk (Cond.fieldLink "BumperBallsModel" 78 "BumperBallsModel" "at" "I") := ⟨List.mem_of_getElem? (i := 935) (by decide +kernel), rfl⟩
theorem wk_834 : Wk (Cond.fieldLink "BumperBallsModel" 81 "BumperBallsModel" "place" "I") := ⟨List.mem_of_getElem? (i := 936) (by decide +kernel), rfl⟩
theorem wk_835 : Wk (Cond.fieldLink "BumperBallsModel" 87 "BumperBallsModel" "end" "I") := ⟨List.mem_of_getElem? (i := 937) (by decide +kernel), rfl⟩
theorem wk_836 : Wk (Cond.fieldLink "BumperBallsModel" 125 "BumperBallsModel" "readTilt" "I") := ⟨List.mem_of_getElem? (i := 938) (by decide +kernel), rfl⟩
theorem wk_837 : Wk (Cond.fieldLink "BumperBallsModel" 32 "BumperBallsModel" "readPins" "[I") := ⟨List.mem_of_getElem? (i := 939) (by decide +kernel), rfl⟩
theorem wk_838 : Wk (Cond.fieldLink "BumperBallsModel" 116 "BumperBallsModel" "readMany" "I") := ⟨List.mem_of_getElem? (i := 940) (by decide +kernel), rfl⟩
theorem wk_839 : Wk (Cond.fieldLink "BumperBallsModel" 139 "BumperBallsModel" "readCell" "I") := ⟨List.mem_of_getElem? (i := 941) (by decide +kernel), rfl⟩
theorem wk_840 : Wk (Cond.fieldLink "BumperBallsModel" 142 "BumperBallsModel" "readWay" "I") := ⟨List.mem_of_getElem? (i := 942) (by decide +kernel), rfl⟩
theorem wk_841 : Wk (Cond.fieldLink "BumperBallsModel" 35 "BumperBallsModel" "fewest" "[I") := ⟨List.mem_of_getElem? (i := 943) (by decide +kernel), rfl⟩
theorem wk_842 : Wk (Cond.fieldLink "BumperBallsModel" 38 "BumperBallsModel" "nexts" "[I") := ⟨List.mem_of_getElem? (i := 944) (by decide +kernel), rfl⟩
theorem wk_888 : Wk (Cond.methodLink "BumperBallsLaw" 17 yX10_row) := ⟨List.mem_of_getElem? (i := 990) (by decide +kernel), rfl⟩
theorem wk_889 : Wk (Cond.instanceMethod yX10_row) := ⟨List.mem_of_getElem? (i := 991) (by decide +kernel), rfl⟩
theorem wk_890 : Wk (Cond.selects "BumperBallsModel" yX10_row yX10_row) := ⟨List.mem_of_getElem? (i := 992) (by decide +kernel), rfl⟩
theorem wk_891 : Wk (Cond.code yX10_row cX10_row 5 (some Jvm.ClassFile.FieldType.int)) := ⟨List.mem_of_getElem? (i := 993) (by decide +kernel), rfl⟩
theorem wk_892 : Wk (Cond.methodLink "BumperBallsModel" 52 yX10_isRow) := ⟨List.mem_of_getElem? (i := 994) (by decide +kernel), rfl⟩
theorem wk_893 : Wk (Cond.static yX10_isRow) := ⟨List.mem_of_getElem? (i := 995) (by decide +kernel), rfl⟩
theorem wk_894 : Wk (Cond.code yX10_isRow cX10_isRow 1 (some Jvm.ClassFile.FieldType.boolean)) := ⟨List.mem_of_getElem? (i := 996) (by decide +kernel), rfl⟩
theorem wk_895 : Wk (Cond.constantLong "BumperBallsModel" 46 (7)) := ⟨List.mem_of_getElem? (i := 997) (by decide +kernel), rfl⟩
theorem wk_896 : Wk (Cond.methodLink "BumperBallsModel" 48 yX10_in) := ⟨List.mem_of_getElem? (i := 998) (by decide +kernel), rfl⟩
theorem wk_897 : Wk (Cond.static yX10_in) := ⟨List.mem_of_getElem? (i := 999) (by decide +kernel), rfl⟩
theorem wk_898 : Wk (Cond.code yX10_in cX10_in 6 (some Jvm.ClassFile.FieldType.boolean)) := ⟨List.mem_of_getElem? (i := 1000) (by decide +kernel), rfl⟩
theorem wk_899 : Wk (Cond.constantLong "BumperBallsModel" 56 (2)) := ⟨List.mem_of_getElem? (i := 1001) (by decide +kernel), rfl⟩
theorem wk_900 : Wk (Cond.constant "BumperBallsModel" 58 (-1000001)) := ⟨List.mem_of_getElem? (i := 1002) (by decide +kernel), rfl⟩
theorem wk_901 : Wk (Cond.methodLink "BumperBallsModel" 59 yX10_find) := ⟨List.mem_of_getElem? (i := 1003) (by decide +kernel), rfl⟩
theorem wk_903 : Wk (Cond.instanceMethod yX10_find) := ⟨List.mem_of_getElem? (i := 1005) (by decide +kernel), rfl⟩
theorem wk_904 : Wk (Cond.code yX10_find cX10_find 2 (some Jvm.ClassFile.FieldType.int)) := ⟨List.mem_of_getElem? (i := 1006) (by decide +kernel), rfl⟩
theorem wk_905 : Wk (Cond.constant "BumperBallsModel" 45 (-1000010)) := ⟨List.mem_of_getElem? (i := 1007) (by decide +kernel), rfl⟩
theorem wk_906 : Wk (Cond.methodLink "BumperBallsModel" 63 yX10_give) := ⟨List.mem_of_getElem? (i := 1008) (by decide +kernel), rfl⟩
theorem wk_908 : Wk (Cond.instanceMethod yX10_give) := ⟨List.mem_of_getElem? (i := 1010) (by decide +kernel), rfl⟩
theorem wk_909 : Wk (Cond.code yX10_give cX10_give 2 (some Jvm.ClassFile.FieldType.int)) := ⟨List.mem_of_getElem? (i := 1011) (by decide +kernel), rfl⟩
theorem wk_910 : Wk (Cond.methodLink "BumperBallsLaw" 21 yX10_set) := ⟨List.mem_of_getElem? (i := 1012) (by decide +kernel), rfl⟩
theorem wk_911 : Wk (Cond.instanceMethod yX10_set) := ⟨List.mem_of_getElem? (i := 1013) (by decide +kernel), rfl⟩
theorem wk_912 : Wk (Cond.selects "BumperBallsModel" yX10_set yX10_set) := ⟨List.mem_of_getElem? (i := 1014) (by decide +kernel), rfl⟩
theorem wk_913 : Wk (Cond.code yX10_set cX10_set 4 (some Jvm.ClassFile.FieldType.int)) := ⟨List.mem_of_getElem? (i := 1015) (by decide +kernel), rfl⟩
theorem wk_914 : Wk (Cond.methodLink "BumperBallsLaw" 26 yX10_copy) := ⟨List.mem_of_getElem? (i := 1016) (by decide +kernel), rfl⟩
theorem wk_915 : Wk (Cond.instanceMethod yX10_copy) := ⟨List.mem_of_getElem? (i := 1017) (by decide +kernel), rfl⟩
theorem wk_916 : Wk (Cond.selects "BumperBallsModel" yX10_copy yX10_copy) := ⟨List.mem_of_getElem? (i := 1018) (by decide +kernel), rfl⟩
theorem wk_917 : Wk (Cond.code yX10_copy cX10_copy 8 (some Jvm.ClassFile.FieldType.int)) := ⟨List.mem_of_getElem? (i := 1019) (by decide +kernel), rfl⟩
theorem wk_918 : Wk (Cond.methodLink "BumperBallsModel" 66 yX10_isSpan) := ⟨List.mem_of_getElem? (i := 1020) (by decide +kernel), rfl⟩
theorem wk_920 : Wk (Cond.instanceMethod yX10_isSpan) := ⟨List.mem_of_getElem? (i := 1022) (by decide +kernel), rfl⟩
theorem wk_921 : Wk (Cond.code yX10_isSpan cX10_isSpan 4 (some Jvm.ClassFile.FieldType.boolean)) := ⟨List.mem_of_getElem? (i := 1023) (by decide +kernel), rfl⟩
theorem wk_922 : Wk (Cond.methodLink "BumperBallsLaw" 31 yX10_drop) := ⟨List.mem_of_getElem? (i := 1024) (by decide +kernel), rfl⟩
theorem wk_923 : Wk (Cond.instanceMethod yX10_drop) := ⟨List.mem_of_getElem? (i := 1025) (by decide +kernel), rfl⟩
theorem wk_924 : Wk (Cond.selects "BumperBallsModel" yX10_drop yX10_drop) := ⟨List.mem_of_getElem? (i := 1026) (by decide +kernel), rfl⟩
theorem wk_925 : Wk (Cond.code yX10_drop cX10_drop 2 (some Jvm.ClassFile.FieldType.int)) := ⟨List.mem_of_getElem? (i := 1027) (by decide +kernel), rfl⟩
theorem wk_926 : Wk (Cond.methodLink "BumperBallsLaw" 38 yX10_feed) := ⟨List.mem_of_getElem? (i := 1028) (by decide +kernel), rfl⟩
theorem wk_927 : Wk (Cond.instanceMethod yX10_feed) := ⟨List.mem_of_getElem? (i := 1029) (by decide +kernel), rfl⟩
theorem wk_928 : Wk (Cond.selects "BumperBallsModel" yX10_feed yX10_feed) := ⟨List.mem_of_getElem? (i := 1030) (by decide +kernel), rfl⟩
theorem wk_929 : Wk (Cond.code yX10_feed cX10_feed 5 (some Jvm.ClassFile.FieldType.int)) := ⟨List.mem_of_getElem? (i := 1031) (by decide +kernel), rfl⟩
theorem wk_930 : Wk (Cond.constantLong "BumperBallsModel" 70 (8)) := ⟨List.mem_of_getElem? (i := 1032) (by decide +kernel), rfl⟩
theorem wk_931 : Wk (Cond.constant "BumperBallsModel" 75 (-1000003)) := ⟨List.mem_of_getElem? (i := 1033) (by decide +kernel), rfl⟩
theorem wk_932 : Wk (Cond.constantLong "BumperBallsModel" 76 (255)) := ⟨List.mem_of_getElem? (i := 1034) (by decide +kernel), rfl⟩
theorem wk_933 : Wk (Cond.methodLink "BumperBallsLaw" 43 yX10_table) := ⟨List.mem_of_getElem? (i := 1035) (by decide +kernel), rfl⟩
theorem wk_934 : Wk (Cond.instanceMethod yX10_table) := ⟨List.mem_of_getElem? (i := 1036) (by decide +kernel), rfl⟩
theorem wk_935 : Wk (Cond.selects "BumperBallsModel" yX10_table yX10_table) := ⟨List.mem_of_getElem? (i := 1037) (by decide +kernel), rfl⟩
theorem wk_936 : Wk (Cond.code yX10_table cX10_table 4 (some Jvm.ClassFile.FieldType.int)) := ⟨List.mem_of_getElem? (i := 1038) (by decide +kernel), rfl⟩
theorem wk_937 : Wk (Cond.methodLink "BumperBallsModel" 154 yX10_readsAll) := ⟨List.mem_of_getElem? (i := 1039) (by decide +kernel), rfl⟩
theorem wk_939 : Wk (Cond.instanceMethod yX10_readsAll) := ⟨List.mem_of_getElem? (i := 1041) (by decide +kernel), rfl⟩
theorem wk_940 : Wk (Cond.code yX10_readsAll cX10_readsAll 1 (some Jvm.ClassFile.FieldType.boolean)) := ⟨List.mem_of_getElem? (i := 1042) (by decide +kernel), rfl⟩
theorem wk_941 : Wk (Cond.methodLink "BumperBallsModel" 110 yX10_token) := ⟨List.mem_of_getElem? (i := 1043) (by decide +kernel), rfl⟩
theorem wk_943 : Wk (Cond.instanceMethod yX10_token) := ⟨List.mem_of_getElem? (i := 1045) (by decide +kernel), rfl⟩
theorem wk_944 : Wk (Cond.code yX10_token cX10_token 1 none) := ⟨List.mem_of_getElem? (i := 1046) (by decide +kernel), rfl⟩
theorem wk_945 : Wk (Cond.methodLink "BumperBallsModel" 84 yX10_sort) := ⟨List.mem_of_getElem? (i := 1047) (by decide +kernel), rfl⟩
theorem wk_946 : Wk (Cond.static yX10_sort) := ⟨List.mem_of_getElem? (i := 1048) (by decide +kernel), rfl⟩
theorem wk_947 : Wk (Cond.code yX10_sort cX10_sort 1 (some Jvm.ClassFile.FieldType.int)) := ⟨List.mem_of_getElem? (i := 1049) (by decide +kernel), rfl⟩
theorem wk_948 : Wk (Cond.methodLink "BumperBallsModel" 145 yX10_readsLaw) := ⟨List.mem_of_getElem? (i := 1050) (by decide +kernel), rfl⟩
theorem wk_950 : Wk (Cond.instanceMethod yX10_readsLaw) := ⟨List.mem_of_getElem? (i := 1052) (by decide +kernel), rfl⟩
theorem wk_951 : Wk (Cond.code yX10_readsLaw cX10_readsLaw 1 (some Jvm.ClassFile.FieldType.boolean)) := ⟨List.mem_of_getElem? (i := 1053) (by decide +kernel), rfl⟩
theorem wk_952 : Wk (Cond.methodLink "BumperBallsModel" 92 yX10_isWord) := ⟨List.mem_of_getElem? (i := 1054) (by decide +kernel), rfl⟩
theorem wk_954 : Wk (Cond.instanceMethod yX10_isWord) := ⟨List.mem_of_getElem? (i := 1056) (by decide +kernel), rfl⟩
theorem wk_955 : Wk (Cond.code yX10_isWord cX10_isWord 5 (some Jvm.ClassFile.FieldType.boolean)) := ⟨List.mem_of_getElem? (i := 1057) (by decide +kernel), rfl⟩
theorem wk_956 : Wk (Cond.methodLink "BumperBallsModel" 119 yX10_number) := ⟨List.mem_of_getElem? (i := 1058) (by decide +kernel), rfl⟩
theorem wk_958 : Wk (Cond.instanceMethod yX10_number) := ⟨List.mem_of_getElem? (i := 1060) (by decide +kernel), rfl⟩
theorem wk_959 : Wk (Cond.code yX10_number cX10_number 4 (some Jvm.ClassFile.FieldType.int)) := ⟨List.mem_of_getElem? (i := 1061) (by decide +kernel), rfl⟩
theorem wk_960 : Wk (Cond.methodLink "BumperBallsModel" 106 yX10_numberHere) := ⟨List.mem_of_getElem? (i := 1062) (by decide +kernel), rfl⟩
theorem wk_962 : Wk (Cond.instanceMethod yX10_numberHere) := ⟨List.mem_of_getElem? (i := 1064) (by decide +kernel), rfl⟩
theorem wk_963 : Wk (Cond.code yX10_numberHere cX10_numberHere 5 (some Jvm.ClassFile.FieldType.int)) := ⟨List.mem_of_getElem? (i := 1065) (by decide +kernel), rfl⟩
theorem wk_964 : Wk (Cond.methodLink "BumperBallsModel" 128 yX10_readsSign) := ⟨List.mem_of_getElem? (i := 1066) (by decide +kernel), rfl⟩
theorem wk_966 : Wk (Cond.instanceMethod yX10_readsSign) := ⟨List.mem_of_getElem? (i := 1068) (by decide +kernel), rfl⟩
theorem wk_967 : Wk (Cond.code yX10_readsSign cX10_readsSign 1 (some Jvm.ClassFile.FieldType.boolean)) := ⟨List.mem_of_getElem? (i := 1069) (by decide +kernel), rfl⟩
theorem wk_968 : Wk (Cond.methodLink "BumperBallsModel" 113 yX10_isSign) := ⟨List.mem_of_getElem? (i := 1070) (by decide +kernel), rfl⟩
theorem wk_970 : Wk (Cond.instanceMethod yX10_isSign) := ⟨List.mem_of_getElem? (i := 1072) (by decide +kernel), rfl⟩
theorem wk_971 : Wk (Cond.code yX10_isSign cX10_isSign 1 (some Jvm.ClassFile.FieldType.boolean)) := ⟨List.mem_of_getElem? (i := 1073) (by decide +kernel), rfl⟩
theorem wk_972 : Wk (Cond.methodLink "BumperBallsModel" 148 yX10_readsPin) := ⟨List.mem_of_getElem? (i := 1074) (by decide +kernel), rfl⟩
theorem wk_974 : Wk (Cond.instanceMethod yX10_readsPin) := ⟨List.mem_of_getElem? (i := 1076) (by decide +kernel), rfl⟩
theorem wk_975 : Wk (Cond.code yX10_readsPin cX10_readsPin 5 (some Jvm.ClassFile.FieldType.boolean)) := ⟨List.mem_of_getElem? (i := 1077) (by decide +kernel), rfl⟩
theorem wk_976 : Wk (Cond.methodLink "BumperBallsModel" 131 yX10_sortOfWord) := ⟨List.mem_of_getElem? (i := 1078) (by decide +kernel), rfl⟩
theorem wk_978 : Wk (Cond.instanceMethod yX10_sortOfWord) := ⟨List.mem_of_getElem? (i := 1080) (by decide +kernel), rfl⟩
theorem wk_979 : Wk (Cond.code yX10_sortOfWord cX10_sortOfWord 1 (some Jvm.ClassFile.FieldType.int)) := ⟨List.mem_of_getElem? (i := 1081) (by decide +kernel), rfl⟩
theorem wk_980 : Wk (Cond.constant "BumperBallsModel" 91 (609760930)) := ⟨List.mem_of_getElem? (i := 1082) (by decide +kernel), rfl⟩
theorem wk_981 : Wk (Cond.constant "BumperBallsModel" 96 (609884332)) := ⟨List.mem_of_getElem? (i := 1083) (by decide +kernel), rfl⟩
theorem wk_982 : Wk (Cond.methodLink "BumperBallsModel" 97 yX10_isRighter) := ⟨List.mem_of_getElem? (i := 1084) (by decide +kernel), rfl⟩
theorem wk_984 : Wk (Cond.instanceMethod yX10_isRighter) := ⟨List.mem_of_getElem? (i := 1086) (by decide +kernel), rfl⟩
theorem wk_985 : Wk (Cond.code yX10_isRighter cX10_isRighter 3 (some Jvm.ClassFile.FieldType.boolean)) := ⟨List.mem_of_getElem? (i := 1087) (by decide +kernel), rfl⟩
theorem wk_986 : Wk (Cond.constant "BumperBallsModel" 90 (189013298)) := ⟨List.mem_of_getElem? (i := 1088) (by decide +kernel), rfl⟩
theorem wk_987 : Wk (Cond.constant "BumperBallsModel" 101 (537644)) := ⟨List.mem_of_getElem? (i := 1089) (by decide +kernel), rfl⟩
theorem wk_988 : Wk (Cond.constant "BumperBallsModel" 102 (184359)) := ⟨List.mem_of_getElem? (i := 1090) (by decide +kernel), rfl⟩
theorem wk_989 : Wk (Cond.methodLink "BumperBallsModel" 135 yX10_cell) := ⟨List.mem_of_getElem? (i := 1091) (by decide +kernel), rfl⟩
theorem wk_991 : Wk (Cond.instanceMethod yX10_cell) := ⟨List.mem_of_getElem? (i := 1093) (by decide +kernel), rfl⟩
theorem wk_992 : Wk (Cond.code yX10_cell cX10_cell 3 (some Jvm.ClassFile.FieldType.int)) := ⟨List.mem_of_getElem? (i := 1094) (by decide +kernel), rfl⟩
theorem wk_993 : Wk (Cond.methodLink "BumperBallsModel" 122 yX10_isPinRead) := ⟨List.mem_of_getElem? (i := 1095) (by decide +kernel), rfl⟩
theorem wk_995 : Wk (Cond.instanceMethod yX10_isPinRead) := ⟨List.mem_of_getElem? (i := 1097) (by decide +kernel), rfl⟩
theorem wk_996 : Wk (Cond.code yX10_isPinRead cX10_isPinRead 4 (some Jvm.ClassFile.FieldType.boolean)) := ⟨List.mem_of_getElem? (i := 1098) (by decide +kernel), rfl⟩
theorem wk_997 : Wk (Cond.methodLink "BumperBallsModel" 151 yX10_readsBall) := ⟨List.mem_of_getElem? (i := 1099) (by decide +kernel), rfl⟩
theorem wk_999 : Wk (Cond.instanceMethod yX10_readsBall) := ⟨List.mem_of_getElem? (i := 1101) (by decide +kernel), rfl⟩
theorem wk_1000 : Wk (Cond.code yX10_readsBall cX10_readsBall 1 (some Jvm.ClassFile.FieldType.boolean)) := ⟨List.mem_of_getElem? (i := 1102) (by decide +kernel), rfl⟩
theorem wk_1001 : Wk (Cond.constant "BumperBallsModel" 138 (405538)) := ⟨List.mem_of_getElem? (i := 1103) (by decide +kernel), rfl⟩
theorem wk_1002 : Wk (Cond.constant "BumperBallsModel" 157 (-1000100)) := ⟨List.mem_of_getElem? (i := 1104) (by decide +kernel), rfl⟩
theorem wk_1003 : Wk (Cond.methodLink "BumperBallsLaw" 47 yX10_fault) := ⟨List.mem_of_getElem? (i := 1105) (by decide +kernel), rfl⟩
theorem wk_1004 : Wk (Cond.instanceMethod yX10_fault) := ⟨List.mem_of_getElem? (i := 1106) (by decide +kernel), rfl⟩
theorem wk_1005 : Wk (Cond.selects "BumperBallsModel" yX10_fault yX10_fault) := ⟨List.mem_of_getElem? (i := 1107) (by decide +kernel), rfl⟩
theorem wk_1006 : Wk (Cond.code yX10_fault cX10_fault 1 (some Jvm.ClassFile.FieldType.int)) := ⟨List.mem_of_getElem? (i := 1108) (by decide +kernel), rfl⟩
theorem wk_1007 : Wk (Cond.methodLink "BumperBallsLaw" 51 yX10_steps) := ⟨List.mem_of_getElem? (i := 1109) (by decide +kernel), rfl⟩
theorem wk_1008 : Wk (Cond.instanceMethod yX10_steps) := ⟨List.mem_of_getElem? (i := 1110) (by decide +kernel), rfl⟩
theorem wk_1009 : Wk (Cond.selects "BumperBallsModel" yX10_steps yX10_steps) := ⟨List.mem_of_getElem? (i := 1111) (by decide +kernel), rfl⟩
theorem wk_1010 : Wk (Cond.code yX10_steps cX10_steps 3 (some Jvm.ClassFile.FieldType.int)) := ⟨List.mem_of_getElem? (i := 1112) (by decide +kernel), rfl⟩
theorem wk_1011 : Wk (Cond.constant "BumperBallsModel" 176 (-1000002)) := ⟨List.mem_of_getElem? (i := 1113) (by decide +kernel), rfl⟩
theorem wk_1012 : Wk (Cond.constantLong "BumperBallsModel" 177 (24)) := ⟨List.mem_of_getElem? (i := 1114) (by decide +kernel), rfl⟩
theorem wk_1013 : Wk (Cond.methodLink "BumperBallsModel" 179 yX10_keepPast) := ⟨List.mem_of_getElem? (i := 1115) (by decide +kernel), rfl⟩
theorem wk_1015 : Wk (Cond.instanceMethod yX10_keepPast) := ⟨List.mem_of_getElem? (i := 1117) (by decide +kernel), rfl⟩
theorem wk_1016 : Wk (Cond.code yX10_keepPast cX10_keepPast 2 none) := ⟨List.mem_of_getElem? (i := 1118) (by decide +kernel), rfl⟩
theorem wk_1017 : Wk (Cond.methodLink "BumperBallsModel" 182 yX10_step) := ⟨List.mem_of_getElem? (i := 1119) (by decide +kernel), rfl⟩
theorem wk_1019 : Wk (Cond.instanceMethod yX10_step) := ⟨List.mem_of_getElem? (i := 1121) (by decide +kernel), rfl⟩
theorem wk_1020 : Wk (Cond.code yX10_step cX10_step 6 (some Jvm.ClassFile.FieldType.int)) := ⟨List.mem_of_getElem? (i := 1122) (by decide +kernel), rfl⟩
theorem wk_1021 : Wk (Cond.constantLong "BumperBallsModel" 167 (6)) := ⟨List.mem_of_getElem? (i := 1123) (by decide +kernel), rfl⟩
theorem wk_1022 : Wk (Cond.methodLink "BumperBallsModel" 169 yX10_pinAt) := ⟨List.mem_of_getElem? (i := 1124) (by decide +kernel), rfl⟩
theorem wk_1024 : Wk (Cond.instanceMethod yX10_pinAt) := ⟨List.mem_of_getElem? (i := 1126) (by decide +kernel), rfl⟩
theorem wk_1025 : Wk (Cond.code yX10_pinAt cX10_pinAt 4 (some Jvm.ClassFile.FieldType.int)) := ⟨List.mem_of_getElem? (i := 1127) (by decide +kernel), rfl⟩
theorem wk_1026 : Wk (Cond.methodLink "BumperBallsModel" 172 yX10_strike) := ⟨List.mem_of_getElem? (i := 1128) (by decide +kernel), rfl⟩
theorem wk_1028 : Wk (Cond.instanceMethod yX10_strike) := ⟨List.mem_of_getElem? (i := 1130) (by decide +kernel), rfl⟩
theorem wk_1029 : Wk (Cond.code yX10_strike cX10_strike 4 none) := ⟨List.mem_of_getElem? (i := 1131) (by decide +kernel), rfl⟩
theorem wk_1030 : Wk (Cond.methodLink "BumperBallsModel" 164 yX10_turns) := ⟨List.mem_of_getElem? (i := 1132) (by decide +kernel), rfl⟩
theorem wk_1032 : Wk (Cond.instanceMethod yX10_turns) := ⟨List.mem_of_getElem? (i := 1134) (by decide +kernel), rfl⟩
theorem wk_1033 : Wk (Cond.code yX10_turns cX10_turns 3 (some Jvm.ClassFile.FieldType.int)) := ⟨List.mem_of_getElem? (i := 1135) (by decide +kernel), rfl⟩
theorem wk_1034 : Wk (Cond.methodLink "BumperBallsModel" 161 yX10_has) := ⟨List.mem_of_getElem? (i := 1136) (by decide +kernel), rfl⟩
theorem wk_1035 : Wk (Cond.static yX10_has) := ⟨List.mem_of_getElem? (i := 1137) (by decide +kernel), rfl⟩
theorem wk_1036 : Wk (Cond.code yX10_has cX10_has 2 (some Jvm.ClassFile.FieldType.boolean)) := ⟨List.mem_of_getElem? (i := 1138) (by decide +kernel), rfl⟩
theorem wk_1037 : Wk (Cond.methodLink "BumperBallsLaw" 55 yX10_nudge) := ⟨List.mem_of_getElem? (i := 1139) (by decide +kernel), rfl⟩
theorem wk_1038 : Wk (Cond.instanceMethod yX10_nudge) := ⟨List.mem_of_getElem? (i := 1140) (by decide +kernel), rfl⟩
theorem wk_1039 : Wk (Cond.selects "BumperBallsModel" yX10_nudge yX10_nudge) := ⟨List.mem_of_getElem? (i := 1141) (by decide +kernel), rfl⟩
theorem wk_1040 : Wk (Cond.code yX10_nudge cX10_nudge 1 (some Jvm.ClassFile.FieldType.int)) := ⟨List.mem_of_getElem? (i := 1142) (by decide +kernel), rfl⟩
theorem wk_1041 : Wk (Cond.methodLink "BumperBallsModel" 185 yX10_isGone) := ⟨List.mem_of_getElem? (i := 1143) (by decide +kernel), rfl⟩
theorem wk_1043 : Wk (Cond.instanceMethod yX10_isGone) := ⟨List.mem_of_getElem? (i := 1145) (by decide +kernel), rfl⟩
theorem wk_1044 : Wk (Cond.code yX10_isGone cX10_isGone 1 (some Jvm.ClassFile.FieldType.boolean)) := ⟨List.mem_of_getElem? (i := 1146) (by decide +kernel), rfl⟩
theorem wk_1045 : Wk (Cond.methodLink "BumperBallsLaw" 59 yX10_flip) := ⟨List.mem_of_getElem? (i := 1147) (by decide +kernel), rfl⟩
theorem wk_1046 : Wk (Cond.instanceMethod yX10_flip) := ⟨List.mem_of_getElem? (i := 1148) (by decide +kernel), rfl⟩
theorem wk_1047 : Wk (Cond.selects "BumperBallsModel" yX10_flip yX10_flip) := ⟨List.mem_of_getElem? (i := 1149) (by decide +kernel), rfl⟩
theorem wk_1048 : Wk (Cond.code yX10_flip cX10_flip 1 (some Jvm.ClassFile.FieldType.int)) := ⟨List.mem_of_getElem? (i := 1150) (by decide +kernel), rfl⟩
theorem wk_1049 : Wk (Cond.methodLink "BumperBallsLaw" 64 yX10_put) := ⟨List.mem_of_getElem? (i := 1151) (by decide +kernel), rfl⟩
theorem wk_1050 : Wk (Cond.instanceMethod yX10_put) := ⟨List.mem_of_getElem? (i := 1152) (by decide +kernel), rfl⟩
theorem wk_1051 : Wk (Cond.selects "BumperBallsModel" yX10_put yX10_put) := ⟨List.mem_of_getElem? (i := 1153) (by decide +kernel), rfl⟩
theorem wk_1052 : Wk (Cond.code yX10_put cX10_put 3 (some Jvm.ClassFile.FieldType.int)) := ⟨List.mem_of_getElem? (i := 1154) (by decide +kernel), rfl⟩
theorem wk_1053 : Wk (Cond.constantLong "BumperBallsModel" 188 (41)) := ⟨List.mem_of_getElem? (i := 1155) (by decide +kernel), rfl⟩
theorem wk_1054 : Wk (Cond.constantLong "BumperBallsModel" 190 (3)) := ⟨List.mem_of_getElem? (i := 1156) (by decide +kernel), rfl⟩
theorem wk_1055 : Wk (Cond.methodLink "BumperBallsLaw" 68 yX10_undo) := ⟨List.mem_of_getElem? (i := 1157) (by decide +kernel), rfl⟩
theorem wk_1056 : Wk (Cond.instanceMethod yX10_undo) := ⟨List.mem_of_getElem? (i := 1158) (by decide +kernel), rfl⟩
theorem wk_1057 : Wk (Cond.selects "BumperBallsModel" yX10_undo yX10_undo) := ⟨List.mem_of_getElem? (i := 1159) (by decide +kernel), rfl⟩
theorem wk_1058 : Wk (Cond.code yX10_undo cX10_undo 2 (some Jvm.ClassFile.FieldType.int)) := ⟨List.mem_of_getElem? (i := 1160) (by decide +kernel), rfl⟩
theorem wk_1059 : Wk (Cond.methodLink "BumperBallsLaw" 72 yX10_ball) := ⟨List.mem_of_getElem? (i := 1161) (by decide +kernel), rfl⟩
theorem wk_1060 : Wk (Cond.instanceMethod yX10_ball) := ⟨List.mem_of_getElem? (i := 1162) (by decide +kernel), rfl⟩
theorem wk_1061 : Wk (Cond.selects "BumperBallsModel" yX10_ball yX10_ball) := ⟨List.mem_of_getElem? (i := 1163) (by decide +kernel), rfl⟩
theorem wk_1062 : Wk (Cond.code yX10_ball cX10_ball 2 (some Jvm.ClassFile.FieldType.int)) := ⟨List.mem_of_getElem? (i := 1164) (by decide +kernel), rfl⟩
theorem wk_1063 : Wk (Cond.constantLong "BumperBallsModel" 192 (5)) := ⟨List.mem_of_getElem? (i := 1165) (by decide +kernel), rfl⟩
theorem wk_1064 : Wk (Cond.methodLink "BumperBallsLaw" 76 yX10_pin) := ⟨List.mem_of_getElem? (i := 1166) (by decide +kernel), rfl⟩
theorem wk_1065 : Wk (Cond.instanceMethod yX10_pin) := ⟨List.mem_of_getElem? (i := 1167) (by decide +kernel), rfl⟩
theorem wk_1066 : Wk (Cond.selects "BumperBallsModel" yX10_pin yX10_pin) := ⟨List.mem_of_getElem? (i := 1168) (by decide +kernel), rfl⟩
theorem wk_1067 : Wk (Cond.code yX10_pin cX10_pin 3 (some Jvm.ClassFile.FieldType.int)) := ⟨List.mem_of_getElem? (i := 1169) (by decide +kernel), rfl⟩
theorem wk_1068 : Wk (Cond.methodLink "BumperBallsModel" 194 yX10_isPin) := ⟨List.mem_of_getElem? (i := 1170) (by decide +kernel), rfl⟩
theorem wk_1070 : Wk (Cond.instanceMethod yX10_isPin) := ⟨List.mem_of_getElem? (i := 1172) (by decide +kernel), rfl⟩
theorem wk_1071 : Wk (Cond.code yX10_isPin cX10_isPin 2 (some Jvm.ClassFile.FieldType.boolean)) := ⟨List.mem_of_getElem? (i := 1173) (by decide +kernel), rfl⟩
theorem wk_1072 : Wk (Cond.methodLink "BumperBallsLaw" 80 yX10_ahead) := ⟨List.mem_of_getElem? (i := 1174) (by decide +kernel), rfl⟩
theorem wk_1073 : Wk (Cond.instanceMethod yX10_ahead) := ⟨List.mem_of_getElem? (i := 1175) (by decide +kernel), rfl⟩
theorem wk_1074 : Wk (Cond.selects "BumperBallsModel" yX10_ahead yX10_ahead) := ⟨List.mem_of_getElem? (i := 1176) (by decide +kernel), rfl⟩
theorem wk_1075 : Wk (Cond.code yX10_ahead cX10_ahead 4 (some Jvm.ClassFile.FieldType.int)) := ⟨List.mem_of_getElem? (i := 1177) (by decide +kernel), rfl⟩
theorem wk_1076 : Wk (Cond.constantLong "BumperBallsModel" 197 (200)) := ⟨List.mem_of_getElem? (i := 1178) (by decide +kernel), rfl⟩
theorem wk_1077 : Wk (Cond.methodLink "BumperBallsModel" 199 yX10_copyRow) := ⟨List.mem_of_getElem? (i := 1179) (by decide +kernel), rfl⟩
theorem wk_1079 : Wk (Cond.instanceMethod yX10_copyRow) := ⟨List.mem_of_getElem? (i := 1181) (by decide +kernel), rfl⟩
theorem wk_1080 : Wk (Cond.code yX10_copyRow cX10_copyRow 4 none) := ⟨List.mem_of_getElem? (i := 1182) (by decide +kernel), rfl⟩
theorem wk_1081 : Wk (Cond.methodLink "BumperBallsLaw" 84 yX10_lasts) := ⟨List.mem_of_getElem? (i := 1183) (by decide +kernel), rfl⟩
theorem wk_1082 : Wk (Cond.instanceMethod yX10_lasts) := ⟨List.mem_of_getElem? (i := 1184) (by decide +kernel), rfl⟩
theorem wk_1083 : Wk (Cond.selects "BumperBallsModel" yX10_lasts yX10_lasts) := ⟨List.mem_of_getElem? (i := 1185) (by decide +kernel), rfl⟩
theorem wk_1084 : Wk (Cond.code yX10_lasts cX10_lasts 3 (some Jvm.ClassFile.FieldType.int)) := ⟨List.mem_of_getElem? (i := 1186) (by decide +kernel), rfl⟩
theorem wk_1085 : Wk (Cond.methodLink "BumperBallsModel" 202 yX10_isAsNow) := ⟨List.mem_of_getElem? (i := 1187) (by decide +kernel), rfl⟩
theorem wk_1087 : Wk (Cond.instanceMethod yX10_isAsNow) := ⟨List.mem_of_getElem? (i := 1189) (by decide +kernel), rfl⟩
theorem wk_1088 : Wk (Cond.code yX10_isAsNow cX10_isAsNow 1 (some Jvm.ClassFile.FieldType.boolean)) := ⟨List.mem_of_getElem? (i := 1190) (by decide +kernel), rfl⟩
theorem wk_1089 : Wk (Cond.methodLink "BumperBallsLaw" 88 yX10_richest) := ⟨List.mem_of_getElem? (i := 1191) (by decide +kernel), rfl⟩
theorem wk_1090 : Wk (Cond.instanceMethod yX10_richest) := ⟨List.mem_of_getElem? (i := 1192) (by decide +kernel), rfl⟩
theorem wk_1091 : Wk (Cond.selects "BumperBallsModel" yX10_richest yX10_richest) := ⟨List.mem_of_getElem? (i := 1193) (by decide +kernel), rfl⟩
theorem wk_1092 : Wk (Cond.code yX10_richest cX10_richest 7 (some Jvm.ClassFile.FieldType.int)) := ⟨List.mem_of_getElem? (i := 1194) (by decide +kernel), rfl⟩
theorem wk_1093 : Wk (Cond.constantLong "BumperBallsModel" 205 (40)) := ⟨List.mem_of_getElem? (i := 1195) (by decide +kernel), rfl⟩
theorem wk_1094 : Wk (Cond.methodLink "BumperBallsModel" 207 yX10_tryPut) := ⟨List.mem_of_getElem? (i := 1196) (by decide +kernel), rfl⟩
theorem wk_1096 : Wk (Cond.instanceMethod yX10_tryPut) := ⟨List.mem_of_getElem? (i := 1198) (by decide +kernel), rfl⟩
theorem wk_1097 : Wk (Cond.code yX10_tryPut cX10_tryPut 2 none) := ⟨List.mem_of_getElem? (i := 1199) (by decide +kernel), rfl⟩
theorem wk_1098 : Wk (Cond.methodLink "BumperBallsLaw" 92 yX10_nudged) := ⟨List.mem_of_getElem? (i := 1200) (by decide +kernel), rfl⟩
theorem wk_1099 : Wk (Cond.instanceMethod yX10_nudged) := ⟨List.mem_of_getElem? (i := 1201) (by decide +kernel), rfl⟩
theorem wk_1100 : Wk (Cond.selects "BumperBallsModel" yX10_nudged yX10_nudged) := ⟨List.mem_of_getElem? (i := 1202) (by decide +kernel), rfl⟩
theorem wk_1101 : Wk (Cond.code yX10_nudged cX10_nudged 3 (some Jvm.ClassFile.FieldType.int)) := ⟨List.mem_of_getElem? (i := 1203) (by decide +kernel), rfl⟩
theorem wk_1102 : Wk (Cond.constantLong "BumperBallsModel" 218 (20)) := ⟨List.mem_of_getElem? (i := 1204) (by decide +kernel), rfl⟩
theorem wk_1103 : Wk (Cond.methodLink "BumperBallsModel" 220 yX10_nudgesFor) := ⟨List.mem_of_getElem? (i := 1205) (by decide +kernel), rfl⟩
theorem wk_1105 : Wk (Cond.instanceMethod yX10_nudgesFor) := ⟨List.mem_of_getElem? (i := 1207) (by decide +kernel), rfl⟩
theorem wk_1106 : Wk (Cond.code yX10_nudgesFor cX10_nudgesFor 7 (some Jvm.ClassFile.FieldType.int)) := ⟨List.mem_of_getElem? (i := 1208) (by decide +kernel), rfl⟩
theorem wk_1107 : Wk (Cond.methodLink "BumperBallsModel" 211 yX10_stateOf) := ⟨List.mem_of_getElem? (i := 1209) (by decide +kernel), rfl⟩
theorem wk_1108 : Wk (Cond.static yX10_stateOf) := ⟨List.mem_of_getElem? (i := 1210) (by decide +kernel), rfl⟩
theorem wk_1109 : Wk (Cond.code yX10_stateOf cX10_stateOf 3 (some Jvm.ClassFile.FieldType.int)) := ⟨List.mem_of_getElem? (i := 1211) (by decide +kernel), rfl⟩
theorem wk_1110 : Wk (Cond.methodLink "BumperBallsModel" 215 yX10_goOn) := ⟨List.mem_of_getElem? (i := 1212) (by decide +kernel), rfl⟩
theorem wk_1112 : Wk (Cond.instanceMethod yX10_goOn) := ⟨List.mem_of_getElem? (i := 1214) (by decide +kernel), rfl⟩
theorem wk_1113 : Wk (Cond.code yX10_goOn cX10_goOn 7 (some Jvm.ClassFile.FieldType.int)) := ⟨List.mem_of_getElem? (i := 1215) (by decide +kernel), rfl⟩
theorem wk_1114 : Wk (Cond.methodLink "BumperBallsLaw" 96 yX10_kept) := ⟨List.mem_of_getElem? (i := 1216) (by decide +kernel), rfl⟩
theorem wk_1115 : Wk (Cond.instanceMethod yX10_kept) := ⟨List.mem_of_getElem? (i := 1217) (by decide +kernel), rfl⟩
theorem wk_1116 : Wk (Cond.selects "BumperBallsModel" yX10_kept yX10_kept) := ⟨List.mem_of_getElem? (i := 1218) (by decide +kernel), rfl⟩
theorem wk_1117 : Wk (Cond.code yX10_kept cX10_kept 2 (some Jvm.ClassFile.FieldType.int)) := ⟨List.mem_of_getElem? (i := 1219) (by decide +kernel), rfl⟩
theorem wk_1118 : Wk (Cond.methodLink "BumperBallsLaw" 101 yX10_heard) := ⟨List.mem_of_getElem? (i := 1220) (by decide +kernel), rfl⟩
theorem wk_1119 : Wk (Cond.instanceMethod yX10_heard) := ⟨List.mem_of_getElem? (i := 1221) (by decide +kernel), rfl⟩
theorem wk_1120 : Wk (Cond.selects "BumperBallsModel" yX10_heard yX10_heard) := ⟨List.mem_of_getElem? (i := 1222) (by decide +kernel), rfl⟩
theorem wk_1121 : Wk (Cond.code yX10_heard cX10_heard 8 (some Jvm.ClassFile.FieldType.int)) := ⟨List.mem_of_getElem? (i := 1223) (by decide +kernel), rfl⟩
theorem wk_1122 : Wk (Cond.constantLong "BumperBallsModel" 223 (10)) := ⟨List.mem_of_getElem? (i := 1224) (by decide +kernel), rfl⟩
theorem wk_1123 : Wk (Cond.methodLink "BumperBallsModel" 225 yX10_isHeard) := ⟨List.mem_of_getElem? (i := 1225) (by decide +kernel), rfl⟩
theorem wk_1125 : Wk (Cond.instanceMethod yX10_isHeard) := ⟨List.mem_of_getElem? (i := 1227) (by decide +kernel), rfl⟩
theorem wk_1126 : Wk (Cond.code yX10_isHeard cX10_isHeard 7 (some Jvm.ClassFile.FieldType.boolean)) := ⟨List.mem_of_getElem? (i := 1228) (by decide +kernel), rfl⟩
theorem wk_1127 : Wk (Cond.methodLink "BumperBallsLaw" 105 yX10_image) := ⟨List.mem_of_getElem? (i := 1229) (by decide +kernel), rfl⟩
theorem wk_1128 : Wk (Cond.instanceMethod yX10_image) := ⟨List.mem_of_getElem? (i := 1230) (by decide +kernel), rfl⟩
theorem wk_1129 : Wk (Cond.selects "BumperBallsModel" yX10_image yX10_image) := ⟨List.mem_of_getElem? (i := 1231) (by decide +kernel), rfl⟩
theorem wk_1130 : Wk (Cond.code yX10_image cX10_image 2 (some Jvm.ClassFile.FieldType.int)) := ⟨List.mem_of_getElem? (i := 1232) (by decide +kernel), rfl⟩
theorem wk_1131 : Wk (Cond.methodLink "BumperBallsLaw" 109 yX10_restore) := ⟨List.mem_of_getElem? (i := 1233) (by decide +kernel), rfl⟩
theorem wk_1132 : Wk (Cond.instanceMethod yX10_restore) := ⟨List.mem_of_getElem? (i := 1234) (by decide +kernel), rfl⟩
theorem wk_1133 : Wk (Cond.selects "BumperBallsModel" yX10_restore yX10_restore) := ⟨List.mem_of_getElem? (i := 1235) (by decide +kernel), rfl⟩
theorem wk_1134 : Wk (Cond.code yX10_restore cX10_restore 2 (some Jvm.ClassFile.FieldType.int)) := ⟨List.mem_of_getElem? (i := 1236) (by decide +kernel), rfl⟩
theorem wk_1135 : Wk (Cond.methodLink "BumperBallsLaw" 113 yX10_kind) := ⟨List.mem_of_getElem? (i := 1237) (by decide +kernel), rfl⟩
theorem wk_1136 : Wk (Cond.instanceMethod yX10_kind) := ⟨List.mem_of_getElem? (i := 1238) (by decide +kernel), rfl⟩
theorem wk_1137 : Wk (Cond.selects "BumperBallsModel" yX10_kind yX10_kind) := ⟨List.mem_of_getElem? (i := 1239) (by decide +kernel), rfl⟩
theorem wk_1138 : Wk (Cond.code yX10_kind cX10_kind 2 (some Jvm.ClassFile.FieldType.int)) := ⟨List.mem_of_getElem? (i := 1240) (by decide +kernel), rfl⟩
theorem wk_1139 : Wk (Cond.methodLink "BumperBallsLaw" 117 yX10_as) := ⟨List.mem_of_getElem? (i := 1241) (by decide +kernel), rfl⟩
theorem wk_1140 : Wk (Cond.instanceMethod yX10_as) := ⟨List.mem_of_getElem? (i := 1242) (by decide +kernel), rfl⟩
theorem wk_1141 : Wk (Cond.selects "BumperBallsModel" yX10_as yX10_as) := ⟨List.mem_of_getElem? (i := 1243) (by decide +kernel), rfl⟩
theorem wk_1142 : Wk (Cond.code yX10_as cX10_as 3 (some Jvm.ClassFile.FieldType.int)) := ⟨List.mem_of_getElem? (i := 1244) (by decide +kernel), rfl⟩
theorem wk_1143 : Wk (Cond.methodLink "BumperBallsModel" 228 yX10_isKind) := ⟨List.mem_of_getElem? (i := 1245) (by decide +kernel), rfl⟩
theorem wk_1144 : Wk (Cond.static yX10_isKind) := ⟨List.mem_of_getElem? (i := 1246) (by decide +kernel), rfl⟩
theorem wk_1145 : Wk (Cond.code yX10_isKind cX10_isKind 3 (some Jvm.ClassFile.FieldType.boolean)) := ⟨List.mem_of_getElem? (i := 1247) (by decide +kernel), rfl⟩
theorem wk_1146 : Wk (Cond.methodLink "BumperBallsLaw" 121 yX10_ask) := ⟨List.mem_of_getElem? (i := 1248) (by decide +kernel), rfl⟩
theorem wk_1147 : Wk (Cond.instanceMethod yX10_ask) := ⟨List.mem_of_getElem? (i := 1249) (by decide +kernel), rfl⟩
theorem wk_1148 : Wk (Cond.selects "BumperBallsModel" yX10_ask yX10_ask) := ⟨List.mem_of_getElem? (i := 1250) (by decide +kernel), rfl⟩
theorem wk_1149 : Wk (Cond.code yX10_ask cX10_ask 4 (some Jvm.ClassFile.FieldType.int)) := ⟨List.mem_of_getElem? (i := 1251) (by decide +kernel), rfl⟩
theorem wk_1150 : Wk (Cond.methodLink "BumperBallsModel" 258 yX10_sizeOfBumper) := ⟨List.mem_of_getElem? (i := 1252) (by decide +kernel), rfl⟩
theorem wk_1152 : Wk (Cond.instanceMethod yX10_sizeOfBumper) := ⟨List.mem_of_getElem? (i := 1254) (by decide +kernel), rfl⟩
theorem wk_1153 : Wk (Cond.code yX10_sizeOfBumper cX10_sizeOfBumper 2 (some Jvm.ClassFile.FieldType.int)) := ⟨List.mem_of_getElem? (i := 1255) (by decide +kernel), rfl⟩
theorem wk_1154 : Wk (Cond.methodLink "BumperBallsModel" 252 yX10_bumperBody) := ⟨List.mem_of_getElem? (i := 1256) (by decide +kernel), rfl⟩
theorem wk_1156 : Wk (Cond.instanceMethod yX10_bumperBody) := ⟨List.mem_of_getElem? (i := 1258) (by decide +kernel), rfl⟩
theorem wk_1157 : Wk (Cond.code yX10_bumperBody cX10_bumperBody 3 (some Jvm.ClassFile.FieldType.int)) := ⟨List.mem_of_getElem? (i := 1259) (by decide +kernel), rfl⟩
theorem wk_1158 : Wk (Cond.methodLink "BumperBallsModel" 234 yX10_leave) := ⟨List.mem_of_getElem? (i := 1260) (by decide +kernel), rfl⟩
theorem wk_1160 : Wk (Cond.instanceMethod yX10_leave) := ⟨List.mem_of_getElem? (i := 1262) (by decide +kernel), rfl⟩
theorem wk_1161 : Wk (Cond.code yX10_leave cX10_leave 2 none) := ⟨List.mem_of_getElem? (i := 1263) (by decide +kernel), rfl⟩
theorem wk_1162 : Wk (Cond.methodLink "BumperBallsModel" 243 yX10_paysBody) := ⟨List.mem_of_getElem? (i := 1264) (by decide +kernel), rfl⟩
theorem wk_1164 : Wk (Cond.instanceMethod yX10_paysBody) := ⟨List.mem_of_getElem? (i := 1266) (by decide +kernel), rfl⟩
theorem wk_1165 : Wk (Cond.code yX10_paysBody cX10_paysBody 2 (some Jvm.ClassFile.FieldType.int)) := ⟨List.mem_of_getElem? (i := 1267) (by decide +kernel), rfl⟩
theorem wk_1166 : Wk (Cond.methodLink "BumperBallsModel" 246 yX10_markOfBumper) := ⟨List.mem_of_getElem? (i := 1268) (by decide +kernel), rfl⟩
theorem wk_1168 : Wk (Cond.instanceMethod yX10_markOfBumper) := ⟨List.mem_of_getElem? (i := 1270) (by decide +kernel), rfl⟩
theorem wk_1169 : Wk (Cond.code yX10_markOfBumper cX10_markOfBumper 4 (some Jvm.ClassFile.FieldType.int)) := ⟨List.mem_of_getElem? (i := 1271) (by decide +kernel), rfl⟩
theorem wk_1170 : Wk (Cond.methodLink "BumperBallsModel" 240 yX10_struckBody) := ⟨List.mem_of_getElem? (i := 1272) (by decide +kernel), rfl⟩
theorem wk_1172 : Wk (Cond.instanceMethod yX10_struckBody) := ⟨List.mem_of_getElem? (i := 1274) (by decide +kernel), rfl⟩
theorem wk_1173 : Wk (Cond.code yX10_struckBody cX10_struckBody 2 (some Jvm.ClassFile.FieldType.int)) := ⟨List.mem_of_getElem? (i := 1275) (by decide +kernel), rfl⟩
theorem wk_1174 : Wk (Cond.methodLink "BumperBallsModel" 237 yX10_numberBody) := ⟨List.mem_of_getElem? (i := 1276) (by decide +kernel), rfl⟩
theorem wk_1176 : Wk (Cond.instanceMethod yX10_numberBody) := ⟨List.mem_of_getElem? (i := 1278) (by decide +kernel), rfl⟩
theorem wk_1177 : Wk (Cond.code yX10_numberBody cX10_numberBody 2 (some Jvm.ClassFile.FieldType.int)) := ⟨List.mem_of_getElem? (i := 1279) (by decide +kernel), rfl⟩
theorem wk_1178 : Wk (Cond.methodLink "BumperBallsModel" 255 yX10_sizeOfLamp) := ⟨List.mem_of_getElem? (i := 1280) (by decide +kernel), rfl⟩
theorem wk_1180 : Wk (Cond.instanceMethod yX10_sizeOfLamp) := ⟨List.mem_of_getElem? (i := 1282) (by decide +kernel), rfl⟩
theorem wk_1181 : Wk (Cond.code yX10_sizeOfLamp cX10_sizeOfLamp 2 (some Jvm.ClassFile.FieldType.int)) := ⟨List.mem_of_getElem? (i := 1283) (by decide +kernel), rfl⟩
theorem wk_1182 : Wk (Cond.methodLink "BumperBallsModel" 249 yX10_lampBody) := ⟨List.mem_of_getElem? (i := 1284) (by decide +kernel), rfl⟩
theorem wk_1184 : Wk (Cond.instanceMethod yX10_lampBody) := ⟨List.mem_of_getElem? (i := 1286) (by decide +kernel), rfl⟩
theorem wk_1185 : Wk (Cond.code yX10_lampBody cX10_lampBody 2 (some Jvm.ClassFile.FieldType.int)) := ⟨List.mem_of_getElem? (i := 1287) (by decide +kernel), rfl⟩
theorem wk_1186 : Wk (Cond.methodLink "BumperBallsModel" 261 yX10_markOfLamp) := ⟨List.mem_of_getElem? (i := 1288) (by decide +kernel), rfl⟩
theorem wk_1188 : Wk (Cond.instanceMethod yX10_markOfLamp) := ⟨List.mem_of_getElem? (i := 1290) (by decide +kernel), rfl⟩
theorem wk_1189 : Wk (Cond.code yX10_markOfLamp cX10_markOfLamp 3 (some Jvm.ClassFile.FieldType.int)) := ⟨List.mem_of_getElem? (i := 1291) (by decide +kernel), rfl⟩
theorem wk_1190 : Wk (Cond.methodLink "BumperBallsLaw" 125 yX10_trace) := ⟨List.mem_of_getElem? (i := 1292) (by decide +kernel), rfl⟩
theorem wk_1191 : Wk (Cond.instanceMethod yX10_trace) := ⟨List.mem_of_getElem? (i := 1293) (by decide +kernel), rfl⟩
theorem wk_1192 : Wk (Cond.selects "BumperBallsModel" yX10_trace yX10_trace) := ⟨List.mem_of_getElem? (i := 1294) (by decide +kernel), rfl⟩
theorem wk_1193 : Wk (Cond.code yX10_trace cX10_trace 2 (some Jvm.ClassFile.FieldType.int)) := ⟨List.mem_of_getElem? (i := 1295) (by decide +kernel), rfl⟩
theorem wk_1194 : Wk (Cond.methodLink "BumperBallsLaw" 129 yX10_count) := ⟨List.mem_of_getElem? (i := 1296) (by decide +kernel), rfl⟩
theorem wk_1195 : Wk (Cond.instanceMethod yX10_count) := ⟨List.mem_of_getElem? (i := 1297) (by decide +kernel), rfl⟩
theorem wk_1196 : Wk (Cond.selects "BumperBallsModel" yX10_count yX10_count) := ⟨List.mem_of_getElem? (i := 1298) (by decide +kernel), rfl⟩
theorem wk_1197 : Wk (Cond.code yX10_count cX10_count 4 (some Jvm.ClassFile.FieldType.int)) := ⟨List.mem_of_getElem? (i := 1299) (by decide +kernel), rfl⟩
theorem wk_1198 : Wk (Cond.methodLink "BumperBallsLaw" 133 yX10_status) := ⟨List.mem_of_getElem? (i := 1300) (by decide +kernel), rfl⟩
theorem wk_1199 : Wk (Cond.instanceMethod yX10_status) := ⟨List.mem_of_getElem? (i := 1301) (by decide +kernel), rfl⟩
theorem wk_1200 : Wk (Cond.selects "BumperBallsModel" yX10_status yX10_status) := ⟨List.mem_of_getElem? (i := 1302) (by decide +kernel), rfl⟩
theorem wk_1201 : Wk (Cond.code yX10_status cX10_status 1 (some Jvm.ClassFile.FieldType.int)) := ⟨List.mem_of_getElem? (i := 1303) (by decide +kernel), rfl⟩
theorem wk_1202 : Wk (Cond.constantLong "BumperBallsLaw" 32 (4294967295)) := ⟨List.mem_of_getElem? (i := 1304) (by decide +kernel), rfl⟩
theorem wk_1203 : Wk (Cond.fieldLink "java/lang/String" 9 "java/lang/String" "value" "[B") := ⟨List.mem_of_getElem? (i := 1305) (by decide +kernel), rfl⟩
theorem wk_1204 : Wk (Cond.fieldLink "java/lang/String" 15 "java/lang/String" "coder" "B") := ⟨List.mem_of_getElem? (i := 1306) (by decide +kernel), rfl⟩
theorem wk_u0 : ∀ w ∈ u_ws RX0 TX0 3, Wk w := fun w hw => by
  have h := List.all_eq_true.mp (show (u_ws RX0 TX0 3).all (fun w => decide (w ∈ lw_tbl) && goodWord w) = true by decide +kernel) w hw
  simp only [Bool.and_eq_true, decide_eq_true_eq] at h
  exact h
theorem wk_u1 : ∀ w ∈ u_ws RX1 TX1 6, Wk w := fun w hw => by
  have h := List.all_eq_true.mp (show (u_ws RX1 TX1 6).all (fun w => decide (w ∈ lw_tbl) && goodWord w) = true by decide +kernel) w hw
  simp only [Bool.and_eq_true, decide_eq_true_eq] at h
  exact h
theorem wk_u2 : ∀ w ∈ u_ws RX2 TX2 3, Wk w := fun w hw => by
  have h := List.all_eq_true.mp (show (u_ws RX2 TX2 3).all (fun w => decide (w ∈ lw_tbl) && goodWord w) = true by decide +kernel) w hw
  simp only [Bool.and_eq_true, decide_eq_true_eq] at h
  exact h
theorem wk_u3 : ∀ w ∈ u_ws RX3 TX3 3, Wk w := fun w hw => by
  have h := List.all_eq_true.mp (show (u_ws RX3 TX3 3).all (fun w => decide (w ∈ lw_tbl) && goodWord w) = true by decide +kernel) w hw
  simp only [Bool.and_eq_true, decide_eq_true_eq] at h
  exact h
theorem wk_u4 : ∀ w ∈ u_ws RX4 TX4 10, Wk w := fun w hw => by
  have h := List.all_eq_true.mp (show (u_ws RX4 TX4 10).all (fun w => decide (w ∈ lw_tbl) && goodWord w) = true by decide +kernel) w hw
  simp only [Bool.and_eq_true, decide_eq_true_eq] at h
  exact h
theorem wk_u5 : ∀ w ∈ u_ws RX5 TX5 3, Wk w := fun w hw => by
  have h := List.all_eq_true.mp (show (u_ws RX5 TX5 3).all (fun w => decide (w ∈ lw_tbl) && goodWord w) = true by decide +kernel) w hw
  simp only [Bool.and_eq_true, decide_eq_true_eq] at h
  exact h
theorem wk_u6 : ∀ w ∈ u_ws RX6 TX6 4, Wk w := fun w hw => by
  have h := List.all_eq_true.mp (show (u_ws RX6 TX6 4).all (fun w => decide (w ∈ lw_tbl) && goodWord w) = true by decide +kernel) w hw
  simp only [Bool.and_eq_true, decide_eq_true_eq] at h
  exact h
theorem wk_u7 : ∀ w ∈ u_ws RX7 TX7 7, Wk w := fun w hw => by
  have h := List.all_eq_true.mp (show (u_ws RX7 TX7 7).all (fun w => decide (w ∈ lw_tbl) && goodWord w) = true by decide +kernel) w hw
  simp only [Bool.and_eq_true, decide_eq_true_eq] at h
  exact h
theorem wk_u8 : ∀ w ∈ u_ws RX8 TX8 10, Wk w := fun w hw => by
  have h := List.all_eq_true.mp (show (u_ws RX8 TX8 10).all (fun w => decide (w ∈ lw_tbl) && goodWord w) = true by decide +kernel) w hw
  simp only [Bool.and_eq_true, decide_eq_true_eq] at h
  exact h
theorem wk_u9 : ∀ w ∈ u_ws RX9 TX9 12, Wk w := fun w hw => by
  have h := List.all_eq_true.mp (show (u_ws RX9 TX9 12).all (fun w => decide (w ∈ lw_tbl) && goodWord w) = true by decide +kernel) w hw
  simp only [Bool.and_eq_true, decide_eq_true_eq] at h
  exact h
theorem wk_u10 : ∀ w ∈ u_ws RX10 TX10 22, Wk w := fun w hw => by
  have h := List.all_eq_true.mp (show (u_ws RX10 TX10 22).all (fun w => decide (w ∈ lw_tbl) && goodWord w) = true by decide +kernel) w hw
  simp only [Bool.and_eq_true, decide_eq_true_eq] at h
  exact h
end
section
/-! ===== THE WORLD: memory by relative addresses, cells of kinds 0..14, one judgement XE ===== -/
abbrev Mem : Type := Nat → Nat → Int32
abbrev Rfs : Type := Nat → Nat → Option Nat
abbrev Shp : Type := Rfs × (Nat → Nat) × (Nat → Nat) × Nat
abbrev Wt : Type := Mem × Shp
def up2 {α : Type} (f : Nat → Nat → α) (a k : Nat) (v : α) : Nat → Nat → α := fun x => if x = a then (fun y => if y = k then v else f a y) else f x
theorem up2_ne {α : Type} {f : Nat → Nat → α} {a k x : Nat} {v : α} (h : x ≠ a) : up2 f a k v x = f x := if_neg h
theorem up2_eq {α : Type} {f : Nat → Nat → α} {a k : Nat} {v : α} : up2 f a k v a = fun y => if y = k then v else f a y := if_pos rfl
def nsl (k : Nat) : Nat := [3, 6, 3, 3, 10, 3, 4, 7, 10, 12, 22].getD k 0
def slR (k j : Nat) : Bool := ([[0], [0], [0, 1], [0, 1], [8], [0, 1, 2], [0, 1, 2], [2, 3, 4, 5, 6], [0, 2], [0, 1, 2, 3, 4, 5, 6, 7, 8], [0, 1, 3, 7, 8, 9, 10, 16, 20, 21]].getD k []).contains j
def rfv (b : Nat) (r : Option Nat) : Value := va_rf (r.map (fun x => b + x))
def slV (b : Nat) (I : Mem) (R : Rfs) (k a j : Nat) : Value := if slR k j then rfv b (R a j) else .int (I a j)
def cellE (b : Nat) (cs : Nat → ClassId) (I : Mem) (R : Rfs) (K N : Nat → Nat) (a : Nat) : va_E :=
  if K a < 11 then .inr (K a, (List.range (nsl (K a))).map (slV b I R (K a) a))
  else if K a = 11 then .inl (cs 11, N a, .inl (I a))
  else .inl (cs (K a), N a, .inr (.inr (.inr (.inr (fun j => (R a j).map (fun x => b + x))))))
def pool (b : Nat) (cs : Nat → ClassId) (w : Wt) : va_W := (List.range w.2.2.2.2).map (fun a => (b + a, cellE b cs w.1 w.2.1 w.2.2.1 w.2.2.2.1 a))
theorem pool_get {b : Nat} {cs : Nat → ClassId} {w : Wt} {a : Nat} (h : a < w.2.2.2.2) : (pool b cs w)[a]? = some (b + a, cellE b cs w.1 w.2.1 w.2.2.1 w.2.2.2.1 a) := by
  unfold pool
  rw [List.getElem?_map, List.getElem?_range h]
  rfl
theorem pool_len {b : Nat} {cs : Nat → ClassId} {w : Wt} : (pool b cs w).length = w.2.2.2.2 := by simp [pool]
theorem pool_inv {b : Nat} {cs : Nat → ClassId} {w : Wt} {k : Nat} {q : Nat × va_E} (h : (pool b cs w)[k]? = some q) : k < w.2.2.2.2 ∧ q.1 = b + k := by
  have hk : k < (pool b cs w).length := (List.getElem?_eq_some_iff.mp h).1
  rw [pool_len] at hk
  rw [pool_get hk] at h
  cases h
  exact ⟨hk, rfl⟩
theorem pool_D {b : Nat} {cs : Nat → ClassId} {w : Wt} : va_D (fun q => b ≤ q) (pool b cs w) := by
  refine ⟨fun i j p q hi hj e => ?_, fun k q hk => ?_⟩
  · have h1 := (pool_inv hi).2
    have h2 := (pool_inv hj).2
    omega
  · have h1 := (pool_inv hk).2
    show b ≤ q.1
    omega
theorem pool_set {b : Nat} {cs : Nat → ClassId} {I I1 : Mem} {R R1 : Rfs} {K N : Nat → Nat} {sz a : Nat} {e : va_E} (ha : a < sz) (he : cellE b cs I1 R1 K N a = e) (hI : ∀ x, x ≠ a → I1 x = I x) (hR : ∀ x, x ≠ a → R1 x = R x) : (pool b cs (I, R, K, N, sz)).set a (b + a, e) = pool b cs (I1, R1, K, N, sz) := by
  apply List.ext_getElem?
  intro k
  by_cases hk : k = a
  · subst hk
    rw [List.getElem?_set_self (by rw [pool_len]; exact ha), pool_get (w := (I1, R1, K, N, sz)) ha, ← he]
  · rw [List.getElem?_set_ne (fun h => hk h.symm)]
    by_cases hs : k < sz
    · rw [pool_get (w := (I, R, K, N, sz)) hs, pool_get (w := (I1, R1, K, N, sz)) hs]
      have h1 := hI k hk
      have h2 := hR k hk
      simp only [cellE, slV, h1, h2]
      rw [show slV b I1 R1 (K k) k = slV b I R (K k) k from funext fun j => by simp only [slV, h1, h2]]
    · rw [List.getElem?_eq_none (by rw [pool_len]; exact Nat.le_of_not_lt hs), List.getElem?_eq_none (by rw [pool_len]; exact Nat.le_of_not_lt hs)]
theorem cellE_obj {b : Nat} {cs : Nat → ClassId} {I : Mem} {R : Rfs} {K N : Nat → Nat} {a k : Nat} (h : K a = k) (hk : k < 11) : cellE b cs I R K N a = .inr (k, (List.range (nsl k)).map (slV b I R k a)) := by
  subst h
  exact if_pos hk
theorem cellE_int {b : Nat} {cs : Nat → ClassId} {I : Mem} {R : Rfs} {K N : Nat → Nat} {a n : Nat} (h : K a = 11) (hn : N a = n) : cellE b cs I R K N a = .inl (cs 11, n, .inl (I a)) := by
  subst hn
  unfold cellE
  rw [h]
  rfl
theorem cellE_ref {b : Nat} {cs : Nat → ClassId} {I : Mem} {R : Rfs} {K N : Nat → Nat} {a k n : Nat} (h : K a = k) (hk : 11 < k) (hn : N a = n) : cellE b cs I R K N a = .inl (cs k, n, .inr (.inr (.inr (.inr (fun j => (R a j).map (fun x => b + x)))))) := by
  subst hn
  subst h
  unfold cellE
  rw [if_neg (by omega), if_neg (by omega)]

def nestWs : List Cond := [
  .fieldLinkNest "BumperBalls" 110 "BumperBalls$Rows" "lanes" "[I" "BumperBalls",
  .fieldLinkNest "BumperBalls" 114 "BumperBalls$Rows" "items" "[[I" "BumperBalls",
  .fieldLinkNest "BumperBalls" 127 "BumperBalls$Tape" "length" "I" "BumperBalls",
  .fieldLinkNest "BumperBalls" 138 "BumperBalls$Tape" "fault" "I" "BumperBalls",
  .fieldLinkNest "BumperBalls" 142 "BumperBalls$Tape" "start" "I" "BumperBalls",
  .fieldLinkNest "BumperBalls" 145 "BumperBalls$Tape" "draft" "LBumperBalls$Table;" "BumperBalls",
  .fieldLinkNest "BumperBalls" 152 "BumperBalls$Tape" "ballCell" "I" "BumperBalls",
  .fieldLinkNest "BumperBalls" 155 "BumperBalls$Tape" "ballWay" "I" "BumperBalls",
  .fieldLinkNest "BumperBalls" 165 "BumperBalls$Table" "pins" "I" "BumperBalls",
  .fieldLinkNest "BumperBalls" 169 "BumperBalls$Play" "lost" "Z" "BumperBalls",
  .fieldLinkNest "BumperBalls" 172 "BumperBalls$Play" "steps" "I" "BumperBalls",
  .fieldLinkNest "BumperBalls" 182 "BumperBalls$Table" "tilt" "I" "BumperBalls",
  .fieldLinkNest "BumperBalls" 189 "BumperBalls$Play" "shakes" "I" "BumperBalls",
  .fieldLinkNest "BumperBalls" 192 "BumperBalls$Play" "cell" "I" "BumperBalls",
  .fieldLinkNest "BumperBalls" 195 "BumperBalls$Play" "way" "I" "BumperBalls",
  .fieldLinkNest "BumperBalls" 204 "BumperBalls$Acts" "size" "I" "BumperBalls",
  .fieldLinkNest "BumperBalls" 210 "BumperBalls$Play" "score" "I" "BumperBalls",
  .fieldLinkNest "BumperBalls" 213 "BumperBalls$Play" "lit" "I" "BumperBalls",
  .fieldLinkNest "BumperBalls" 219 "BumperBalls$Table" "cells" "[I" "BumperBalls",
  .fieldLinkNest "BumperBalls" 222 "BumperBalls$Table" "letters" "[I" "BumperBalls",
  .fieldLinkNest "BumperBalls" 225 "BumperBalls$Table" "pays" "[I" "BumperBalls",
  .fieldLinkNest "BumperBalls" 228 "BumperBalls$Play" "struck" "[I" "BumperBalls",
  .fieldLinkNest "BumperBalls" 256 "BumperBalls$Search" "fewestStriking" "I" "BumperBalls",
  .fieldLinkNest "BumperBalls" 272 "BumperBalls$Image" "isKept" "Z" "BumperBalls",
  .fieldLinkNest "BumperBalls" 275 "BumperBalls$Image" "table" "LBumperBalls$Table;" "BumperBalls",
  .fieldLinkNest "BumperBalls" 276 "BumperBalls$Image" "play" "LBumperBalls$Play;" "BumperBalls",
  .fieldLinkNest "BumperBalls" 277 "BumperBalls$Table" "kinds" "[I" "BumperBalls",
  .fieldLinkNest "BumperBalls" 292 "BumperBalls$Asks" "length" "I" "BumperBalls",
  .fieldLinkNest "BumperBalls" 293 "BumperBalls$Asks" "bodies" "[I" "BumperBalls",
  .fieldLinkNest "BumperBalls" 307 "BumperBalls$Play" "knocked" "I" "BumperBalls",
  .fieldLinkNest "BumperBalls$Asks" 31 "BumperBalls$Table" "kinds" "[I" "BumperBalls",
  .fieldLinkNest "BumperBalls$Asks" 36 "BumperBalls$Table" "pays" "[I" "BumperBalls",
  .fieldLinkNest "BumperBalls$Asks" 38 "BumperBalls$Play" "struck" "[I" "BumperBalls",
  .fieldLinkNest "BumperBalls$Layer" 22 "BumperBalls$Play" "gates" "I" "BumperBalls",
  .fieldLinkNest "BumperBalls$Layer" 27 "BumperBalls$Play" "cell" "I" "BumperBalls",
  .fieldLinkNest "BumperBalls$Layer" 30 "BumperBalls$Play" "way" "I" "BumperBalls",
  .fieldLinkNest "BumperBalls$Play" 86 "BumperBalls$Table" "letters" "[I" "BumperBalls",
  .fieldLinkNest "BumperBalls$Play" 89 "BumperBalls$Table" "pays" "[I" "BumperBalls",
  .fieldLinkNest "BumperBalls$Play" 92 "BumperBalls$Table" "kinds" "[I" "BumperBalls",
  .fieldLinkNest "BumperBalls$Search" 35 "BumperBalls$Table" "pins" "I" "BumperBalls",
  .fieldLinkNest "BumperBalls$Search" 50 "BumperBalls$Layer" "size" "I" "BumperBalls",
  .fieldLinkNest "BumperBalls$Search" 53 "BumperBalls$Layer" "places" "[I" "BumperBalls",
  .fieldLinkNest "BumperBalls$Search" 57 "BumperBalls$Layer" "costs" "[I" "BumperBalls",
  .fieldLinkNest "BumperBalls$Search" 74 "BumperBalls$Play" "gates" "I" "BumperBalls",
  .fieldLinkNest "BumperBalls$Search" 84 "BumperBalls$Play" "knocked" "I" "BumperBalls",
  .fieldLinkNest "BumperBalls$Search" 87 "BumperBalls$Table" "letters" "[I" "BumperBalls",
  .fieldLinkNest "BumperBalls$Search" 93 "BumperBalls$Play" "lost" "Z" "BumperBalls",
  .fieldLinkNest "BumperBalls$Tape" 78 "BumperBalls$Table" "tilt" "I" "BumperBalls",
  .fieldLinkNest "BumperBalls$Tape" 84 "BumperBalls$Table" "pins" "I" "BumperBalls",
  .methodLinkNest "BumperBalls" 102 ⟨"BumperBalls$Rows", "hasPlaces", "(III)Z"⟩ "BumperBalls",
  .methodLinkNest "BumperBalls" 106 ⟨"BumperBalls$Rows", "write", "(III)I"⟩ "BumperBalls",
  .methodLinkNest "BumperBalls" 124 ⟨"BumperBalls$Rows", "remove", "(I)I"⟩ "BumperBalls",
  .methodLinkNest "BumperBalls" 131 ⟨"BumperBalls$Tape", "append", "(JI)V"⟩ "BumperBalls",
  .methodLinkNest "BumperBalls" 135 ⟨"BumperBalls$Tape", "readAll", "()V"⟩ "BumperBalls",
  .methodLinkNest "BumperBalls" 148 ⟨"BumperBalls$Table", "become", "(LBumperBalls$Table;)V"⟩ "BumperBalls",
  .methodLinkNest "BumperBalls" 158 ⟨"BumperBalls$Play", "begin", "(II)V"⟩ "BumperBalls",
  .methodLinkNest "BumperBalls" 162 ⟨"BumperBalls$Acts", "forget", "()V"⟩ "BumperBalls",
  .methodLinkNest "BumperBalls" 175 ⟨"BumperBalls$Acts", "keep", "(LBumperBalls$Play;)V"⟩ "BumperBalls",
  .methodLinkNest "BumperBalls" 179 ⟨"BumperBalls$Play", "step", "(LBumperBalls$Table;)V"⟩ "BumperBalls",
  .methodLinkNest "BumperBalls" 18 ⟨"BumperBalls$Tape", "<init>", "()V"⟩ "BumperBalls",
  .methodLinkNest "BumperBalls" 185 ⟨"BumperBalls$Play", "shake", "(I)V"⟩ "BumperBalls",
  .methodLinkNest "BumperBalls" 198 ⟨"BumperBalls$Table", "pinIn", "(I)I"⟩ "BumperBalls",
  .methodLinkNest "BumperBalls" 201 ⟨"BumperBalls$Play", "place", "(II)V"⟩ "BumperBalls",
  .methodLinkNest "BumperBalls" 207 ⟨"BumperBalls$Acts", "takeBack", "(LBumperBalls$Play;)V"⟩ "BumperBalls",
  .methodLinkNest "BumperBalls" 231 ⟨"BumperBalls$Play", "isOpen", "(I)Z"⟩ "BumperBalls",
  .methodLinkNest "BumperBalls" 234 ⟨"BumperBalls$Play", "become", "(LBumperBalls$Play;)V"⟩ "BumperBalls",
  .methodLinkNest "BumperBalls" 236 ⟨"BumperBalls$Play", "run", "(LBumperBalls$Table;I)V"⟩ "BumperBalls",
  .methodLinkNest "BumperBalls" 25 ⟨"BumperBalls$Table", "<init>", "()V"⟩ "BumperBalls",
  .methodLinkNest "BumperBalls" 252 ⟨"BumperBalls$Search", "walk", "(LBumperBalls$Table;LBumperBalls$Play;II)V"⟩ "BumperBalls",
  .methodLinkNest "BumperBalls" 259 ⟨"BumperBalls$Search", "fewestStaying", "()I"⟩ "BumperBalls",
  .methodLinkNest "BumperBalls" 262 ⟨"BumperBalls$Rows", "tellsLetters", "(III)Z"⟩ "BumperBalls",
  .methodLinkNest "BumperBalls" 269 ⟨"BumperBalls$Image", "keep", "(LBumperBalls$Table;LBumperBalls$Play;)V"⟩ "BumperBalls",
  .methodLinkNest "BumperBalls" 283 ⟨"BumperBalls$Asks", "begin", "(ILBumperBalls$Table;LBumperBalls$Play;)V"⟩ "BumperBalls",
  .methodLinkNest "BumperBalls" 286 ⟨"BumperBalls$Asks", "sizeAsked", "()I"⟩ "BumperBalls",
  .methodLinkNest "BumperBalls" 289 ⟨"BumperBalls$Asks", "markAsked", "()I"⟩ "BumperBalls",
  .methodLinkNest "BumperBalls" 296 ⟨"BumperBalls$Rows", "there", "()I"⟩ "BumperBalls",
  .methodLinkNest "BumperBalls" 303 ⟨"BumperBalls$Play", "isAs", "(LBumperBalls$Play;)Z"⟩ "BumperBalls",
  .methodLinkNest "BumperBalls" 32 ⟨"BumperBalls$Play", "<init>", "()V"⟩ "BumperBalls",
  .methodLinkNest "BumperBalls" 39 ⟨"BumperBalls$Acts", "<init>", "()V"⟩ "BumperBalls",
  .methodLinkNest "BumperBalls" 55 ⟨"BumperBalls$Search", "<init>", "()V"⟩ "BumperBalls",
  .methodLinkNest "BumperBalls" 62 ⟨"BumperBalls$Asks", "<init>", "()V"⟩ "BumperBalls",
  .methodLinkNest "BumperBalls" 78 ⟨"BumperBalls$Image", "<init>", "()V"⟩ "BumperBalls",
  .methodLinkNest "BumperBalls" 9 ⟨"BumperBalls$Rows", "<init>", "()V"⟩ "BumperBalls",
  .methodLinkNest "BumperBalls" 92 ⟨"BumperBalls$Rows", "make", "(III)V"⟩ "BumperBalls",
  .methodLinkNest "BumperBalls" 99 ⟨"BumperBalls$Rows", "isMissing", "(I)Z"⟩ "BumperBalls",
  .methodLinkNest "BumperBalls$Acts" 24 ⟨"BumperBalls$Play", "<init>", "()V"⟩ "BumperBalls",
  .methodLinkNest "BumperBalls$Acts" 25 ⟨"BumperBalls$Play", "become", "(LBumperBalls$Play;)V"⟩ "BumperBalls",
  .methodLinkNest "BumperBalls$Asks" 42 ⟨"BumperBalls", "isOfKind", "(II)Z"⟩ "BumperBalls",
  .methodLinkNest "BumperBalls$Image" 18 ⟨"BumperBalls$Play", "<init>", "()V"⟩ "BumperBalls",
  .methodLinkNest "BumperBalls$Image" 27 ⟨"BumperBalls$Table", "become", "(LBumperBalls$Table;)V"⟩ "BumperBalls",
  .methodLinkNest "BumperBalls$Image" 31 ⟨"BumperBalls$Play", "become", "(LBumperBalls$Play;)V"⟩ "BumperBalls",
  .methodLinkNest "BumperBalls$Image" 9 ⟨"BumperBalls$Table", "<init>", "()V"⟩ "BumperBalls",
  .methodLinkNest "BumperBalls$Layer" 33 ⟨"BumperBalls", "isUpTo", "(II)Z"⟩ "BumperBalls",
  .methodLinkNest "BumperBalls$Play" 72 ⟨"BumperBalls$Table", "pinIn", "(I)I"⟩ "BumperBalls",
  .methodLinkNest "BumperBalls$Play" 82 ⟨"BumperBalls", "isUpTo", "(II)Z"⟩ "BumperBalls",
  .methodLinkNest "BumperBalls$Rows" 23 ⟨"BumperBalls", "isUpTo", "(II)Z"⟩ "BumperBalls",
  .methodLinkNest "BumperBalls$Search" 11 ⟨"BumperBalls$Layer", "<init>", "(I)V"⟩ "BumperBalls",
  .methodLinkNest "BumperBalls$Search" 25 ⟨"BumperBalls$Play", "<init>", "()V"⟩ "BumperBalls",
  .methodLinkNest "BumperBalls$Search" 43 ⟨"BumperBalls$Layer", "clear", "()V"⟩ "BumperBalls",
  .methodLinkNest "BumperBalls$Search" 46 ⟨"BumperBalls$Layer", "reach", "(LBumperBalls$Play;I)V"⟩ "BumperBalls",
  .methodLinkNest "BumperBalls$Search" 70 ⟨"BumperBalls$Play", "place", "(II)V"⟩ "BumperBalls",
  .methodLinkNest "BumperBalls$Search" 77 ⟨"BumperBalls$Play", "turn", "(I)V"⟩ "BumperBalls",
  .methodLinkNest "BumperBalls$Search" 80 ⟨"BumperBalls$Play", "step", "(LBumperBalls$Table;)V"⟩ "BumperBalls",
  .methodLinkNest "BumperBalls$Table" 37 ⟨"BumperBalls", "isUpTo", "(II)Z"⟩ "BumperBalls",
  .methodLinkNest "BumperBalls$Tape" 110 ⟨"BumperBalls$Table", "pinIn", "(I)I"⟩ "BumperBalls",
  .methodLinkNest "BumperBalls$Tape" 21 ⟨"BumperBalls$Table", "<init>", "()V"⟩ "BumperBalls",
  .methodLinkNest "BumperBalls$Tape" 47 ⟨"BumperBalls$Table", "clear", "()V"⟩ "BumperBalls",
  .methodLinkNest "BumperBalls$Tape" 94 ⟨"BumperBalls$Table", "addPin", "(IIII)V"⟩ "BumperBalls"]
def isNest : Cond → Bool
  | .methodLinkNest .. => true
  | .fieldLinkNest .. => true
  | _ => false
theorem nest_all : nestWs.all isNest = true := by decide +kernel
theorem nest_ok : nestWs.all (fun w => decide (w ∈ lw_tbl)) = true := by decide +kernel
/-- the texts of the class Tape: place in the pool, text -/
def stIx (i : Nat) : Nat := [56, 72, 98, 100, 102, 104, 106, 108].getD i 0
def stTx (i : Nat) : String := ["pin", "law", "ball", "bumper", "lefter", "righter", "lamp", "gate"].getD i ""
def stLen : List Nat := [3, 3, 4, 6, 6, 7, 4, 4]
def stByt : List (List Int32) := [[112, 105, 110], [108, 97, 119], [98, 97, 108, 108], [98, 117, 109, 112, 101, 114], [108, 101, 102, 116, 101, 114], [114, 105, 103, 104, 116, 101, 114], [108, 97, 109, 112], [103, 97, 116, 101]]
def nearV (j : Nat) : Int32 := [-1, 0, 1, 1, 0, 4].getD j 0
abbrev XP : Type := Nat × (Nat → Nat) × (Nat → Nat)
def tysC (cs : Nat → ClassId) : List (ClassId × FieldType) := [(cs 11, .int), (cs 12, .object "BumperBalls$Image"), (cs 13, .object "BumperBalls$Play"), (cs 14, .array .int)]
/-- what lies outside: the table NEAREST, the texts, two statics of the JDK's -/
def AOa (U : State) : Prop := ∀ U1 : State, U.vm.Alike U1.vm → (Cond.arrayOver (.array .int)).before #[] U1 = true
theorem AOa.moved {u U : State} (hvm : u.vm.Alike U.vm) (h : AOa u) : AOa U := fun U1 h1 => h U1 (hvm.trans h1)
def Ext (b : Nat) (xp : XP) (U : State) (H : Heap) : Prop :=
  va_Z "BumperBalls" "NEAREST" "[I" (.ref xp.1) (fun q => b ≤ q) U H ∧ va_X xp.1 6 nearV U H ∧ xp.1 < b ∧ xp.1 < H.size ∧
  vk_S 8 stLen stByt xp.2.1 xp.2.2 (fun q => b ≤ q) U H ∧ (∀ i : Nat, i < 8 → vk_R RX8 (stIx i) (stTx i) (xp.2.1 i) U) ∧
  va_Z "java/lang/String" "COMPACT_STRINGS" "Z" (.int 1) (fun q => b ≤ q) U H ∧ va_Zq "jdk/internal/util/Preconditions" "SIOOBE_FORMATTER" "Ljava/util/function/BiFunction;" (fun q => b ≤ q) U H ∧
  va_AO "BumperBalls$Play" U ∧ va_AO "BumperBalls$Image" U ∧ AOa U
abbrev Bs : Type := Launch × Nat × va_G × (Nat → ClassId) × XP
/-- the tables' words, the classes, what lies outside -/
def SW (B : Bs) (U : State) : Prop := (∀ w : Cond, Wk w → ∀ a' : Array Value, w.before a' U = true) ∧ (∀ w ∈ nestWs, va_Nw w U) ∧ va_K B.2.2.1 vwCl (tysC B.2.2.2.1) U ∧ Ext B.2.1 B.2.2.2.2 U U.heap
theorem SW.step {B : Bs} {s U : State} (h : SW B s) (hW : s.WarmedH U.vm) (hk : ∀ a : Nat, a < s.heap.size → ¬ B.2.1 ≤ a → U.heap[a]? = s.heap[a]?) (hz : s.heap.size ≤ U.heap.size) : SW B U := by
  obtain ⟨h1, h2, h3, e1, e2, e3, e4, e5, e6, e7, e8, e9, e10, e11⟩ := h
  have hvm := hW.alike
  refine ⟨fun w hw a' => ?_, fun w hw => ?_, va_K.moved hvm h3, (e1.moved hvm).kept hk, ?_, e3, by omega, (e5.moved hvm).kept hk, fun i hi => (e6 i hi).warm hW, (e7.moved hvm).kept hk, (e8.moved hvm).kept hk, e9.moved hvm, e10.moved hvm, e11.moved hvm⟩
  · exact word_at hW (good_of_word hw.2) (h1 w hw #[])
  · have hn := List.all_eq_true.mp nest_all w hw
    have hw2 := h2 w hw
    cases w <;> first | (simp [isNest] at hn; done) | exact va_Nw.warmM hW hw2 | exact va_Nw.warmF hW hw2
  · exact (e2.moved hvm).kept (hk _ e4 (Nat.not_le.mpr e3))
def WD (B : Bs) (w : Wt) (U : State) : Prop := U.heap.size = B.2.1 + w.2.2.2.2 ∧ va_P B.2.2.1 vwCl (pool B.2.1 B.2.2.2.1 w) U.heap ∧ SW B U
abbrev Cfg : Type := Bs × Program × Env × Room × State × MethodId × Array Value × List Frame × Method × Code × (State → Prop)
abbrev rf (g : Cfg) (a : Nat) : Value := .ref (g.1.2.1 + a)
def Cx (g : Cfg) (own : String) (cc : ByteArray) (nL fr lo mc ms : Nat) : Prop := match g with
  | (B, p, _, Rm, s, m, _, _, meth, c, _) => p.tables.exec = Jvm.exec ∧ c.code = cc ∧ c.maxLocals = nL ∧ s.vm.findClass own = some m.cls ∧ SW B s ∧ B.2.1 ≤ s.heap.size ∧ meth.locks = false ∧ Rm.frames = fr ∧ Rm.locals = lo ∧ Rm.cells = mc ∧ Rm.slots = ms
def XE (g : Cfg) (cells slots : Nat) (w : Wt) (pc : Nat) (lv : List (Nat × Value)) (st : List Value) : Prop := match g with
  | (B, p, e, Rm, s, m, args, below, meth, c, Q) => ∀ (H : Heap) (locs : List Loc) (ls : Array Slot), s.heap.size + cells = B.2.1 + w.2.2.2.2 → va_P B.2.2.1 vwCl (pool B.2.1 B.2.2.2.1 w) H → va_S (fun q => B.2.1 ≤ q) s.heap H locs → lv_has ls c.maxLocals lv → W p B.1 e Rm s m args below meth c H locs cells slots Q (F0 m pc ls st)
/-! the pieces of a method's function -/
def bnd {α β : Type} (e : α) (k : α → Option β) : Option β := k e
theorem bnd_x {α β : Type} {e : α} {k : α → Option β} {o : β} (h : bnd e k = some o) : ∃ x, x = e ∧ k x = some o := ⟨e, rfl, h⟩
def ob {α β : Type} (o : Option α) (k : α → Option β) : Option β := match o with
  | some x => k x
  | none => none
theorem ob_x {α β : Type} {o : Option α} {k : α → Option β} {y : β} (h : ob o k = some y) : ∃ x, o = some x ∧ k x = some y := by
  cases o with
  | none => cases h
  | some x => exact ⟨x, rfl, h⟩
def ck {β : Type} (c : Bool) (k : Option β) : Option β := match c with
  | true => k
  | false => none
theorem ck_x {β : Type} {c : Bool} {k : Option β} {y : β} (h : ck c k = some y) : c = true ∧ k = some y := by
  cases c with
  | false => cases h
  | true => exact ⟨rfl, h⟩
def inb (i : Int32) (n : Nat) : Bool := decide (0 ≤ i.toInt ∧ i.toInt < n)
theorem inb_in {i : Int32} {n : Nat} (h : inb i n = true) : vp_in i n := vp_in_iff.mpr (of_decide_eq_true h)
def ix (i : Int32) : Nat := i.toNatClampNeg
def irm (x y : Int32) : Int32 := x - x / y * y
def ta (h : Shp) (a k : Nat) : Prop := h.2.1 a = k ∧ a < h.2.2.2
def tA (h : Shp) (a k n : Nat) : Prop := h.2.1 a = k ∧ a < h.2.2.2 ∧ h.2.2.1 a = n

theorem xr_iadd {g : Cfg} {own : String} {cc : ByteArray} {nL fr lo mc ms cells slots pc : Nat} {w : Wt} {lv : List (Nat × Value)} {st : List Value} (C : Cx g own cc nL fr lo mc ms) {x y : Int32} (hd : decode cc pc = .ok (.iadd, 1))  (K : XE g cells slots w (pc + 1) lv (.int (x + y) :: st)) : XE g cells slots w pc lv (.int y :: .int x :: st) := by
  obtain ⟨B, p, e, Rm, s, m, args, below, meth, c, Q⟩ := g
  intro H locs ls hz hP hS hl
  exact lv_iadd C.1 C.2.1 hd (K H locs ls hz hP hS hl)
theorem xr_isub {g : Cfg} {own : String} {cc : ByteArray} {nL fr lo mc ms cells slots pc : Nat} {w : Wt} {lv : List (Nat × Value)} {st : List Value} (C : Cx g own cc nL fr lo mc ms) {x y : Int32} (hd : decode cc pc = .ok (.isub, 1))  (K : XE g cells slots w (pc + 1) lv (.int (x - y) :: st)) : XE g cells slots w pc lv (.int y :: .int x :: st) := by
  obtain ⟨B, p, e, Rm, s, m, args, below, meth, c, Q⟩ := g
  intro H locs ls hz hP hS hl
  exact lv_isub C.1 C.2.1 hd (K H locs ls hz hP hS hl)
theorem xr_imul {g : Cfg} {own : String} {cc : ByteArray} {nL fr lo mc ms cells slots pc : Nat} {w : Wt} {lv : List (Nat × Value)} {st : List Value} (C : Cx g own cc nL fr lo mc ms) {x y : Int32} (hd : decode cc pc = .ok (.imul, 1))  (K : XE g cells slots w (pc + 1) lv (.int (x * y) :: st)) : XE g cells slots w pc lv (.int y :: .int x :: st) := by
  obtain ⟨B, p, e, Rm, s, m, args, below, meth, c, Q⟩ := g
  intro H locs ls hz hP hS hl
  exact lv_imul C.1 C.2.1 hd (K H locs ls hz hP hS hl)
theorem xr_iand {g : Cfg} {own : String} {cc : ByteArray} {nL fr lo mc ms cells slots pc : Nat} {w : Wt} {lv : List (Nat × Value)} {st : List Value} (C : Cx g own cc nL fr lo mc ms) {x y : Int32} (hd : decode cc pc = .ok (.iand, 1))  (K : XE g cells slots w (pc + 1) lv (.int (x &&& y) :: st)) : XE g cells slots w pc lv (.int y :: .int x :: st) := by
  obtain ⟨B, p, e, Rm, s, m, args, below, meth, c, Q⟩ := g
  intro H locs ls hz hP hS hl
  exact lv_iand C.1 C.2.1 hd (K H locs ls hz hP hS hl)
theorem xr_ixor {g : Cfg} {own : String} {cc : ByteArray} {nL fr lo mc ms cells slots pc : Nat} {w : Wt} {lv : List (Nat × Value)} {st : List Value} (C : Cx g own cc nL fr lo mc ms) {x y : Int32} (hd : decode cc pc = .ok (.ixor, 1))  (K : XE g cells slots w (pc + 1) lv (.int (x ^^^ y) :: st)) : XE g cells slots w pc lv (.int y :: .int x :: st) := by
  obtain ⟨B, p, e, Rm, s, m, args, below, meth, c, Q⟩ := g
  intro H locs ls hz hP hS hl
  exact lv_ixor C.1 C.2.1 hd (K H locs ls hz hP hS hl)
theorem xr_ishr {g : Cfg} {own : String} {cc : ByteArray} {nL fr lo mc ms cells slots pc : Nat} {w : Wt} {lv : List (Nat × Value)} {st : List Value} (C : Cx g own cc nL fr lo mc ms) {x y : Int32} (hd : decode cc pc = .ok (.ishr, 1))  (K : XE g cells slots w (pc + 1) lv (.int (x >>> (y &&& 31)) :: st)) : XE g cells slots w pc lv (.int y :: .int x :: st) := by
  obtain ⟨B, p, e, Rm, s, m, args, below, meth, c, Q⟩ := g
  intro H locs ls hz hP hS hl
  exact lv_ishr C.1 C.2.1 hd (K H locs ls hz hP hS hl)
theorem xr_ishl {g : Cfg} {own : String} {cc : ByteArray} {nL fr lo mc ms cells slots pc : Nat} {w : Wt} {lv : List (Nat × Value)} {st : List Value} (C : Cx g own cc nL fr lo mc ms) {x y : Int32} (hd : decode cc pc = .ok (.ishl, 1))  (K : XE g cells slots w (pc + 1) lv (.int (x <<< (y &&& 31)) :: st)) : XE g cells slots w pc lv (.int y :: .int x :: st) := by
  obtain ⟨B, p, e, Rm, s, m, args, below, meth, c, Q⟩ := g
  intro H locs ls hz hP hS hl
  exact lv_ishl C.1 C.2.1 hd (K H locs ls hz hP hS hl)
theorem xr_idiv {g : Cfg} {own : String} {cc : ByteArray} {nL fr lo mc ms cells slots pc : Nat} {w : Wt} {lv : List (Nat × Value)} {st : List Value} (C : Cx g own cc nL fr lo mc ms) {x y : Int32} (hd : decode cc pc = .ok (.idiv, 1)) (hy : ¬ y = 0) (K : XE g cells slots w (pc + 1) lv (.int (x / y) :: st)) : XE g cells slots w pc lv (.int y :: .int x :: st) := by
  obtain ⟨B, p, e, Rm, s, m, args, below, meth, c, Q⟩ := g
  intro H locs ls hz hP hS hl
  exact lv_idiv C.1 C.2.1 hd hy (K H locs ls hz hP hS hl)
theorem xr_irem {g : Cfg} {own : String} {cc : ByteArray} {nL fr lo mc ms cells slots pc : Nat} {w : Wt} {lv : List (Nat × Value)} {st : List Value} (C : Cx g own cc nL fr lo mc ms) {x y : Int32} (hd : decode cc pc = .ok (.irem, 1)) (hy : ¬ y = 0) (K : XE g cells slots w (pc + 1) lv (.int (irm x y) :: st)) : XE g cells slots w pc lv (.int y :: .int x :: st) := by
  obtain ⟨B, p, e, Rm, s, m, args, below, meth, c, Q⟩ := g
  intro H locs ls hz hP hS hl
  exact lv_irem C.1 C.2.1 hd hy (K H locs ls hz hP hS hl)
theorem xr_ineg {g : Cfg} {own : String} {cc : ByteArray} {nL fr lo mc ms cells slots pc : Nat} {w : Wt} {lv : List (Nat × Value)} {st : List Value} (C : Cx g own cc nL fr lo mc ms) {x : Int32} (hd : decode cc pc = .ok (.ineg, 1))  (K : XE g cells slots w (pc + 1) lv (.int (-x) :: st)) : XE g cells slots w pc lv (.int x :: st) := by
  obtain ⟨B, p, e, Rm, s, m, args, below, meth, c, Q⟩ := g
  intro H locs ls hz hP hS hl
  exact lv_ineg C.1 C.2.1 hd (K H locs ls hz hP hS hl)
theorem xr_i2b {g : Cfg} {own : String} {cc : ByteArray} {nL fr lo mc ms cells slots pc : Nat} {w : Wt} {lv : List (Nat × Value)} {st : List Value} (C : Cx g own cc nL fr lo mc ms) {x : Int32} (hd : decode cc pc = .ok (.i2b, 1))  (K : XE g cells slots w (pc + 1) lv (.int x.toInt8.toInt32 :: st)) : XE g cells slots w pc lv (.int x :: st) := by
  obtain ⟨B, p, e, Rm, s, m, args, below, meth, c, Q⟩ := g
  intro H locs ls hz hP hS hl
  exact lv_i2b C.1 C.2.1 hd rfl (K H locs ls hz hP hS hl)
theorem xr_i2s {g : Cfg} {own : String} {cc : ByteArray} {nL fr lo mc ms cells slots pc : Nat} {w : Wt} {lv : List (Nat × Value)} {st : List Value} (C : Cx g own cc nL fr lo mc ms) {x : Int32} (hd : decode cc pc = .ok (.i2s, 1))  (K : XE g cells slots w (pc + 1) lv (.int x.toInt16.toInt32 :: st)) : XE g cells slots w pc lv (.int x :: st) := by
  obtain ⟨B, p, e, Rm, s, m, args, below, meth, c, Q⟩ := g
  intro H locs ls hz hP hS hl
  exact lv_i2s C.1 C.2.1 hd rfl (K H locs ls hz hP hS hl)
theorem xr_i2l {g : Cfg} {own : String} {cc : ByteArray} {nL fr lo mc ms cells slots pc : Nat} {w : Wt} {lv : List (Nat × Value)} {st : List Value} (C : Cx g own cc nL fr lo mc ms) {x : Int32} (hd : decode cc pc = .ok (.i2l, 1))  (K : XE g cells slots w (pc + 1) lv (.long x.toInt64 :: st)) : XE g cells slots w pc lv (.int x :: st) := by
  obtain ⟨B, p, e, Rm, s, m, args, below, meth, c, Q⟩ := g
  intro H locs ls hz hP hS hl
  exact lv_i2l C.1 C.2.1 hd rfl (K H locs ls hz hP hS hl)
theorem xr_l2i {g : Cfg} {own : String} {cc : ByteArray} {nL fr lo mc ms cells slots pc : Nat} {w : Wt} {lv : List (Nat × Value)} {st : List Value} (C : Cx g own cc nL fr lo mc ms) {x : Int64} (hd : decode cc pc = .ok (.l2i, 1))  (K : XE g cells slots w (pc + 1) lv (.int x.toInt32 :: st)) : XE g cells slots w pc lv (.long x :: st) := by
  obtain ⟨B, p, e, Rm, s, m, args, below, meth, c, Q⟩ := g
  intro H locs ls hz hP hS hl
  exact lv_l2i C.1 C.2.1 hd rfl (K H locs ls hz hP hS hl)
theorem xr_ladd {g : Cfg} {own : String} {cc : ByteArray} {nL fr lo mc ms cells slots pc : Nat} {w : Wt} {lv : List (Nat × Value)} {st : List Value} (C : Cx g own cc nL fr lo mc ms) {x y : Int64} (hd : decode cc pc = .ok (.ladd, 1))  (K : XE g cells slots w (pc + 1) lv (.long (x + y) :: st)) : XE g cells slots w pc lv (.long y :: .long x :: st) := by
  obtain ⟨B, p, e, Rm, s, m, args, below, meth, c, Q⟩ := g
  intro H locs ls hz hP hS hl
  exact lv_ladd C.1 C.2.1 hd (K H locs ls hz hP hS hl)
theorem xr_land {g : Cfg} {own : String} {cc : ByteArray} {nL fr lo mc ms cells slots pc : Nat} {w : Wt} {lv : List (Nat × Value)} {st : List Value} (C : Cx g own cc nL fr lo mc ms) {x y : Int64} (hd : decode cc pc = .ok (.land, 1))  (K : XE g cells slots w (pc + 1) lv (.long (x &&& y) :: st)) : XE g cells slots w pc lv (.long y :: .long x :: st) := by
  obtain ⟨B, p, e, Rm, s, m, args, below, meth, c, Q⟩ := g
  intro H locs ls hz hP hS hl
  exact lv_land C.1 C.2.1 hd (K H locs ls hz hP hS hl)
theorem xr_lor {g : Cfg} {own : String} {cc : ByteArray} {nL fr lo mc ms cells slots pc : Nat} {w : Wt} {lv : List (Nat × Value)} {st : List Value} (C : Cx g own cc nL fr lo mc ms) {x y : Int64} (hd : decode cc pc = .ok (.lor, 1))  (K : XE g cells slots w (pc + 1) lv (.long (x ||| y) :: st)) : XE g cells slots w pc lv (.long y :: .long x :: st) := by
  obtain ⟨B, p, e, Rm, s, m, args, below, meth, c, Q⟩ := g
  intro H locs ls hz hP hS hl
  exact lv_lor C.1 C.2.1 hd (K H locs ls hz hP hS hl)
theorem xr_lshl {g : Cfg} {own : String} {cc : ByteArray} {nL fr lo mc ms cells slots pc : Nat} {w : Wt} {lv : List (Nat × Value)} {st : List Value} (C : Cx g own cc nL fr lo mc ms) {x : Int64} {y : Int32} (hd : decode cc pc = .ok (.lshl, 1))  (K : XE g cells slots w (pc + 1) lv (.long (x <<< (y.toInt64 &&& 63)) :: st)) : XE g cells slots w pc lv (.int y :: .long x :: st) := by
  obtain ⟨B, p, e, Rm, s, m, args, below, meth, c, Q⟩ := g
  intro H locs ls hz hP hS hl
  exact lv_lshl C.1 C.2.1 hd rfl (K H locs ls hz hP hS hl)
theorem xr_lshr {g : Cfg} {own : String} {cc : ByteArray} {nL fr lo mc ms cells slots pc : Nat} {w : Wt} {lv : List (Nat × Value)} {st : List Value} (C : Cx g own cc nL fr lo mc ms) {x : Int64} {y : Int32} (hd : decode cc pc = .ok (.lshr, 1))  (K : XE g cells slots w (pc + 1) lv (.long (x >>> (y.toInt64 &&& 63)) :: st)) : XE g cells slots w pc lv (.int y :: .long x :: st) := by
  obtain ⟨B, p, e, Rm, s, m, args, below, meth, c, Q⟩ := g
  intro H locs ls hz hP hS hl
  exact lv_lshr C.1 C.2.1 hd rfl (K H locs ls hz hP hS hl)
theorem xr_lconst {g : Cfg} {own : String} {cc : ByteArray} {nL fr lo mc ms cells slots pc : Nat} {w : Wt} {lv : List (Nat × Value)} {st : List Value} (C : Cx g own cc nL fr lo mc ms) {n : Fin 2} {v : Int64} (hd : decode cc pc = .ok (.lconst n, 1)) (hv : Int64.ofNat (n : Nat) = v) (K : XE g cells slots w (pc + 1) lv (.long v :: st)) : XE g cells slots w pc lv (st) := by
  obtain ⟨B, p, e, Rm, s, m, args, below, meth, c, Q⟩ := g
  intro H locs ls hz hP hS hl
  exact lv_lconst C.1 C.2.1 hd hv (K H locs ls hz hP hS hl)
theorem xr_iconst {g : Cfg} {own : String} {cc : ByteArray} {nL fr lo mc ms cells slots pc : Nat} {w : Wt} {lv : List (Nat × Value)} {st : List Value} (C : Cx g own cc nL fr lo mc ms) {n : Int} {v : Int32} (hd : decode cc pc = .ok (.iconst n, 1)) (hv : Int32.ofInt n = v) (K : XE g cells slots w (pc + 1) lv (.int v :: st)) : XE g cells slots w pc lv (st) := by
  obtain ⟨B, p, e, Rm, s, m, args, below, meth, c, Q⟩ := g
  intro H locs ls hz hP hS hl
  exact lv_iconst C.1 C.2.1 hd hv (K H locs ls hz hP hS hl)
theorem xr_bipush {g : Cfg} {own : String} {cc : ByteArray} {nL fr lo mc ms cells slots pc : Nat} {w : Wt} {lv : List (Nat × Value)} {st : List Value} (C : Cx g own cc nL fr lo mc ms) {n : Int} {v : Int32} (hd : decode cc pc = .ok (.bipush n, 2)) (hv : (Int8.ofInt n).toInt32 = v) (K : XE g cells slots w (pc + 2) lv (.int v :: st)) : XE g cells slots w pc lv (st) := by
  obtain ⟨B, p, e, Rm, s, m, args, below, meth, c, Q⟩ := g
  intro H locs ls hz hP hS hl
  exact lv_bipush C.1 C.2.1 hd hv (K H locs ls hz hP hS hl)
theorem xr_sipush {g : Cfg} {own : String} {cc : ByteArray} {nL fr lo mc ms cells slots pc : Nat} {w : Wt} {lv : List (Nat × Value)} {st : List Value} (C : Cx g own cc nL fr lo mc ms) {n : Int} {v : Int32} (hd : decode cc pc = .ok (.sipush n, 3)) (hv : (Int16.ofInt n).toInt32 = v) (K : XE g cells slots w (pc + 3) lv (.int v :: st)) : XE g cells slots w pc lv (st) := by
  obtain ⟨B, p, e, Rm, s, m, args, below, meth, c, Q⟩ := g
  intro H locs ls hz hP hS hl
  exact lv_sipush C.1 C.2.1 hd hv (K H locs ls hz hP hS hl)
theorem xr_dup {g : Cfg} {own : String} {cc : ByteArray} {nL fr lo mc ms cells slots pc : Nat} {w : Wt} {lv : List (Nat × Value)} {st : List Value} (C : Cx g own cc nL fr lo mc ms) {va : Value} (hd : decode cc pc = .ok (.dup, 1)) (hv : va.category = 1) (K : XE g cells slots w (pc + 1) lv (va :: va :: st)) : XE g cells slots w pc lv (va :: st) := by
  obtain ⟨B, p, e, Rm, s, m, args, below, meth, c, Q⟩ := g
  intro H locs ls hz hP hS hl
  exact lv_dup C.1 C.2.1 hd hv (K H locs ls hz hP hS hl)
theorem xr_dup2 {g : Cfg} {own : String} {cc : ByteArray} {nL fr lo mc ms cells slots pc : Nat} {w : Wt} {lv : List (Nat × Value)} {st : List Value} (C : Cx g own cc nL fr lo mc ms) {va vb : Value} (hd : decode cc pc = .ok (.dup2, 1)) (hv : va.category = 1) (hu : vb.category = 1) (K : XE g cells slots w (pc + 1) lv (va :: vb :: va :: vb :: st)) : XE g cells slots w pc lv (va :: vb :: st) := by
  obtain ⟨B, p, e, Rm, s, m, args, below, meth, c, Q⟩ := g
  intro H locs ls hz hP hS hl
  exact lv_dup2_11 C.1 C.2.1 hd hv hu (K H locs ls hz hP hS hl)
theorem xr_pop {g : Cfg} {own : String} {cc : ByteArray} {nL fr lo mc ms cells slots pc : Nat} {w : Wt} {lv : List (Nat × Value)} {st : List Value} (C : Cx g own cc nL fr lo mc ms) {va : Value} (hd : decode cc pc = .ok (.pop, 1)) (hv : va.category = 1) (K : XE g cells slots w (pc + 1) lv (st)) : XE g cells slots w pc lv (va :: st) := by
  obtain ⟨B, p, e, Rm, s, m, args, below, meth, c, Q⟩ := g
  intro H locs ls hz hP hS hl
  exact lv_pop C.1 C.2.1 hd hv (K H locs ls hz hP hS hl)
theorem xr_lcmp {g : Cfg} {own : String} {cc : ByteArray} {nL fr lo mc ms cells slots pc : Nat} {w : Wt} {lv : List (Nat × Value)} {st : List Value} (C : Cx g own cc nL fr lo mc ms) {x y : Int64} (hd : decode cc pc = .ok (.lcmp, 1))  (K : XE g cells slots w (pc + 1) lv (.int (lg_cmp x y) :: st)) : XE g cells slots w pc lv (.long y :: .long x :: st) := by
  obtain ⟨B, p, e, Rm, s, m, args, below, meth, c, Q⟩ := g
  intro H locs ls hz hP hS hl
  exact W.lcmp C.1 C.2.1 hd (K H locs ls hz hP hS hl)
theorem xr_iload_n {g : Cfg} {own : String} {cc : ByteArray} {nL fr lo mc ms cells slots pc : Nat} {w : Wt} {lv : List (Nat × Value)} {st : List Value} (C : Cx g own cc nL fr lo mc ms) {k : Fin 4} {i : Nat} {x : Int32} (hd : decode cc pc = .ok (.iload_n k, 1)) (j : Nat) (hj : lv[j]? = some (i, .int x)) (hi : (k : Nat) = i) (K : XE g cells slots w (pc + 1) lv (.int x :: st)) : XE g cells slots w pc lv (st) := by
  obtain ⟨B, p, e, Rm, s, m, args, below, meth, c, Q⟩ := g
  intro H locs ls hz hP hS hl
  exact lv_iload_n C.1 C.2.1 hd hi (lv_at hl j hj) (K H locs ls hz hP hS hl)
theorem xr_iload {g : Cfg} {own : String} {cc : ByteArray} {nL fr lo mc ms cells slots pc : Nat} {w : Wt} {lv : List (Nat × Value)} {st : List Value} (C : Cx g own cc nL fr lo mc ms) {i : Nat} {x : Int32} (hd : decode cc pc = .ok (.iload i, 2)) (j : Nat) (hj : lv[j]? = some (i, .int x)) (K : XE g cells slots w (pc + 2) lv (.int x :: st)) : XE g cells slots w pc lv (st) := by
  obtain ⟨B, p, e, Rm, s, m, args, below, meth, c, Q⟩ := g
  intro H locs ls hz hP hS hl
  exact lv_iload C.1 C.2.1 hd (lv_at hl j hj) (K H locs ls hz hP hS hl)
theorem xr_aload_n {g : Cfg} {own : String} {cc : ByteArray} {nL fr lo mc ms cells slots pc : Nat} {w : Wt} {lv : List (Nat × Value)} {st : List Value} (C : Cx g own cc nL fr lo mc ms) {k : Fin 4} {i : Nat} {x : Nat} (hd : decode cc pc = .ok (.aload_n k, 1)) (j : Nat) (hj : lv[j]? = some (i, .ref x)) (hi : (k : Nat) = i) (K : XE g cells slots w (pc + 1) lv (.ref x :: st)) : XE g cells slots w pc lv (st) := by
  obtain ⟨B, p, e, Rm, s, m, args, below, meth, c, Q⟩ := g
  intro H locs ls hz hP hS hl
  exact lv_aload_n C.1 C.2.1 hd hi (lv_at hl j hj) (K H locs ls hz hP hS hl)
theorem xr_aload {g : Cfg} {own : String} {cc : ByteArray} {nL fr lo mc ms cells slots pc : Nat} {w : Wt} {lv : List (Nat × Value)} {st : List Value} (C : Cx g own cc nL fr lo mc ms) {i : Nat} {x : Nat} (hd : decode cc pc = .ok (.aload i, 2)) (j : Nat) (hj : lv[j]? = some (i, .ref x)) (K : XE g cells slots w (pc + 2) lv (.ref x :: st)) : XE g cells slots w pc lv (st) := by
  obtain ⟨B, p, e, Rm, s, m, args, below, meth, c, Q⟩ := g
  intro H locs ls hz hP hS hl
  exact lv_aload C.1 C.2.1 hd (lv_at hl j hj) (K H locs ls hz hP hS hl)
theorem xr_lload_n {g : Cfg} {own : String} {cc : ByteArray} {nL fr lo mc ms cells slots pc : Nat} {w : Wt} {lv : List (Nat × Value)} {st : List Value} (C : Cx g own cc nL fr lo mc ms) {k : Fin 4} {i : Nat} {x : Int64} (hd : decode cc pc = .ok (.lload_n k, 1)) (j : Nat) (hj : lv[j]? = some (i, .long x)) (hi : (k : Nat) = i) (K : XE g cells slots w (pc + 1) lv (.long x :: st)) : XE g cells slots w pc lv (st) := by
  obtain ⟨B, p, e, Rm, s, m, args, below, meth, c, Q⟩ := g
  intro H locs ls hz hP hS hl
  exact lv_lload_n C.1 C.2.1 hd hi (lv_at hl j hj) (K H locs ls hz hP hS hl)
theorem xr_lload {g : Cfg} {own : String} {cc : ByteArray} {nL fr lo mc ms cells slots pc : Nat} {w : Wt} {lv : List (Nat × Value)} {st : List Value} (C : Cx g own cc nL fr lo mc ms) {i : Nat} {x : Int64} (hd : decode cc pc = .ok (.lload i, 2)) (j : Nat) (hj : lv[j]? = some (i, .long x)) (K : XE g cells slots w (pc + 2) lv (.long x :: st)) : XE g cells slots w pc lv (st) := by
  obtain ⟨B, p, e, Rm, s, m, args, below, meth, c, Q⟩ := g
  intro H locs ls hz hP hS hl
  exact lv_lload C.1 C.2.1 hd (lv_at hl j hj) (K H locs ls hz hP hS hl)
theorem xr_istore_n {g : Cfg} {own : String} {cc : ByteArray} {nL fr lo mc ms cells slots pc : Nat} {w : Wt} {lv : List (Nat × Value)} {st : List Value} (C : Cx g own cc nL fr lo mc ms) {k : Fin 4} {i : Nat} {x : Int32} {lv1 : List (Nat × Value)} (hd : decode cc pc = .ok (.istore_n k, 1)) (hi : (k : Nat) = i) (hn : i < nL) (h1 : (i, Value.int x) :: lv.filter (fun q => !(q.1 == i) && !(q.1 + 1 == i && q.2.category == 2)) = lv1) (K : XE g cells slots w (pc + 1) lv1 st) : XE g cells slots w pc lv (.int x :: st) := by
  obtain ⟨B, p, e, Rm, s, m, args, below, meth, c, Q⟩ := g
  intro H locs ls hz hP hS hl
  exact lv_istore_n C.1 C.2.1 hd hi hl (by rw [show c.maxLocals = nL from C.2.2.1]; exact hn) h1 (fun ls1 hl1 => K H locs ls1 hz hP hS hl1)
theorem xr_istore {g : Cfg} {own : String} {cc : ByteArray} {nL fr lo mc ms cells slots pc : Nat} {w : Wt} {lv : List (Nat × Value)} {st : List Value} (C : Cx g own cc nL fr lo mc ms) {i : Nat} {x : Int32} {lv1 : List (Nat × Value)} (hd : decode cc pc = .ok (.istore i, 2)) (hn : i < nL) (h1 : (i, Value.int x) :: lv.filter (fun q => !(q.1 == i) && !(q.1 + 1 == i && q.2.category == 2)) = lv1) (K : XE g cells slots w (pc + 2) lv1 st) : XE g cells slots w pc lv (.int x :: st) := by
  obtain ⟨B, p, e, Rm, s, m, args, below, meth, c, Q⟩ := g
  intro H locs ls hz hP hS hl
  exact lv_istore C.1 C.2.1 hd hl (by rw [show c.maxLocals = nL from C.2.2.1]; exact hn) h1 (fun ls1 hl1 => K H locs ls1 hz hP hS hl1)
theorem xr_astore_n {g : Cfg} {own : String} {cc : ByteArray} {nL fr lo mc ms cells slots pc : Nat} {w : Wt} {lv : List (Nat × Value)} {st : List Value} (C : Cx g own cc nL fr lo mc ms) {k : Fin 4} {i : Nat} {x : Nat} {lv1 : List (Nat × Value)} (hd : decode cc pc = .ok (.astore_n k, 1)) (hi : (k : Nat) = i) (hn : i < nL) (h1 : (i, Value.ref x) :: lv.filter (fun q => !(q.1 == i) && !(q.1 + 1 == i && q.2.category == 2)) = lv1) (K : XE g cells slots w (pc + 1) lv1 st) : XE g cells slots w pc lv (.ref x :: st) := by
  obtain ⟨B, p, e, Rm, s, m, args, below, meth, c, Q⟩ := g
  intro H locs ls hz hP hS hl
  exact lv_astore_n C.1 C.2.1 hd hi hl (by rw [show c.maxLocals = nL from C.2.2.1]; exact hn) h1 (fun ls1 hl1 => K H locs ls1 hz hP hS hl1)
theorem xr_astore {g : Cfg} {own : String} {cc : ByteArray} {nL fr lo mc ms cells slots pc : Nat} {w : Wt} {lv : List (Nat × Value)} {st : List Value} (C : Cx g own cc nL fr lo mc ms) {i : Nat} {x : Nat} {lv1 : List (Nat × Value)} (hd : decode cc pc = .ok (.astore i, 2)) (hn : i < nL) (h1 : (i, Value.ref x) :: lv.filter (fun q => !(q.1 == i) && !(q.1 + 1 == i && q.2.category == 2)) = lv1) (K : XE g cells slots w (pc + 2) lv1 st) : XE g cells slots w pc lv (.ref x :: st) := by
  obtain ⟨B, p, e, Rm, s, m, args, below, meth, c, Q⟩ := g
  intro H locs ls hz hP hS hl
  exact lv_astore C.1 C.2.1 hd hl (by rw [show c.maxLocals = nL from C.2.2.1]; exact hn) h1 (fun ls1 hl1 => K H locs ls1 hz hP hS hl1)
theorem xr_iinc {g : Cfg} {own : String} {cc : ByteArray} {nL fr lo mc ms cells slots pc : Nat} {w : Wt} {lv : List (Nat × Value)} {st : List Value} (C : Cx g own cc nL fr lo mc ms) {i k : Nat} {n : Int} {x v : Int32} {lv1 : List (Nat × Value)} (hd : decode cc pc = .ok (.iinc i n, 3)) (hk : lv[k]? = some (i, .int x)) (hv : x + Int32.ofInt n = v) (hn : i < nL) (h1 : (i, Value.int v) :: lv.filter (fun q => !(q.1 == i) && !(q.1 + 1 == i && q.2.category == 2)) = lv1) (K : XE g cells slots w (pc + 3) lv1 st) : XE g cells slots w pc lv st := by
  obtain ⟨B, p, e, Rm, s, m, args, below, meth, c, Q⟩ := g
  intro H locs ls hz hP hS hl
  exact lv_iinc C.1 C.2.1 hd hl hk hv (by rw [show c.maxLocals = nL from C.2.2.1]; exact hn) h1 (fun ls1 hl1 => K H locs ls1 hz hP hS hl1)
theorem xr_lv {g : Cfg} {cells slots pc : Nat} {w : Wt} {lv : List (Nat × Value)} {st : List Value} {lv1 : List (Nat × Value)} (is : List Nat) (h1 : lv_pick lv is = lv1) (K : XE g cells slots w pc lv1 st) : XE g cells slots w pc lv st := by
  obtain ⟨B, p, e, Rm, s, m, args, below, meth, c, Q⟩ := g
  intro H locs ls hz hP hS hl
  exact K H locs ls hz hP hS (lv_sub hl is h1)
theorem xr_goto {g : Cfg} {own : String} {cc : ByteArray} {nL fr lo mc ms cells slots pc : Nat} {w : Wt} {lv : List (Nat × Value)} {st : List Value} (C : Cx g own cc nL fr lo mc ms) {off : Int} {tgt : Nat} (hd : decode cc pc = .ok (.goto off, 3)) (ht : (pc : Int) + off = (tgt : Int)) (K : XE g cells slots w tgt lv st) : XE g cells slots w pc lv st := by
  obtain ⟨B, p, e, Rm, s, m, args, below, meth, c, Q⟩ := g
  intro H locs ls hz hP hS hl
  exact lv_goto C.1 C.2.1 hd ht (K H locs ls hz hP hS hl)
theorem xr_icmp_eq {g : Cfg} {own : String} {cc : ByteArray} {nL fr lo mc ms cells slots pc : Nat} {w : Wt} {lv : List (Nat × Value)} {st : List Value} (C : Cx g own cc nL fr lo mc ms) {x y : Int32} {off : Int} {tgt : Nat} (hd : decode cc pc = .ok (.if_icmp .eq off, 3)) (ht : (pc : Int) + off = (tgt : Int)) {α : Type} {A Bx : Option α} {o : α} (h : (if x = y then A else Bx) = some o) (kt : x = y → A = some o → XE g cells slots w tgt lv st) (kf : ¬ x = y → Bx = some o → XE g cells slots w (pc + 3) lv st) : XE g cells slots w pc lv (.int y :: .int x :: st) := by
  obtain ⟨B, p, e, Rm, s, m, args, below, meth, c, Q⟩ := g
  intro H locs ls hz hP hS hl
  exact lv_icmp_eq C.1 C.2.1 hd ht (fun q => kt q ((if_pos q).symm.trans h) H locs ls hz hP hS hl) (fun q => kf q ((if_neg q).symm.trans h) H locs ls hz hP hS hl)
theorem xr_icmp_ne {g : Cfg} {own : String} {cc : ByteArray} {nL fr lo mc ms cells slots pc : Nat} {w : Wt} {lv : List (Nat × Value)} {st : List Value} (C : Cx g own cc nL fr lo mc ms) {x y : Int32} {off : Int} {tgt : Nat} (hd : decode cc pc = .ok (.if_icmp .ne off, 3)) (ht : (pc : Int) + off = (tgt : Int)) {α : Type} {A Bx : Option α} {o : α} (h : (if x = y then A else Bx) = some o) (kt : ¬ x = y → Bx = some o → XE g cells slots w tgt lv st) (kf : x = y → A = some o → XE g cells slots w (pc + 3) lv st) : XE g cells slots w pc lv (.int y :: .int x :: st) := by
  obtain ⟨B, p, e, Rm, s, m, args, below, meth, c, Q⟩ := g
  intro H locs ls hz hP hS hl
  exact lv_icmp_ne C.1 C.2.1 hd ht (fun q => kt q ((if_neg q).symm.trans h) H locs ls hz hP hS hl) (fun q => kf q ((if_pos q).symm.trans h) H locs ls hz hP hS hl)
theorem xr_icmp_lt {g : Cfg} {own : String} {cc : ByteArray} {nL fr lo mc ms cells slots pc : Nat} {w : Wt} {lv : List (Nat × Value)} {st : List Value} (C : Cx g own cc nL fr lo mc ms) {x y : Int32} {off : Int} {tgt : Nat} (hd : decode cc pc = .ok (.if_icmp .lt off, 3)) (ht : (pc : Int) + off = (tgt : Int)) {α : Type} {A Bx : Option α} {o : α} (h : (if x < y then A else Bx) = some o) (kt : x < y → A = some o → XE g cells slots w tgt lv st) (kf : ¬ x < y → Bx = some o → XE g cells slots w (pc + 3) lv st) : XE g cells slots w pc lv (.int y :: .int x :: st) := by
  obtain ⟨B, p, e, Rm, s, m, args, below, meth, c, Q⟩ := g
  intro H locs ls hz hP hS hl
  exact lv_icmp_lt C.1 C.2.1 hd ht (fun q => kt q ((if_pos q).symm.trans h) H locs ls hz hP hS hl) (fun q => kf q ((if_neg q).symm.trans h) H locs ls hz hP hS hl)
theorem xr_icmp_ge {g : Cfg} {own : String} {cc : ByteArray} {nL fr lo mc ms cells slots pc : Nat} {w : Wt} {lv : List (Nat × Value)} {st : List Value} (C : Cx g own cc nL fr lo mc ms) {x y : Int32} {off : Int} {tgt : Nat} (hd : decode cc pc = .ok (.if_icmp .ge off, 3)) (ht : (pc : Int) + off = (tgt : Int)) {α : Type} {A Bx : Option α} {o : α} (h : (if y ≤ x then A else Bx) = some o) (kt : y ≤ x → A = some o → XE g cells slots w tgt lv st) (kf : ¬ y ≤ x → Bx = some o → XE g cells slots w (pc + 3) lv st) : XE g cells slots w pc lv (.int y :: .int x :: st) := by
  obtain ⟨B, p, e, Rm, s, m, args, below, meth, c, Q⟩ := g
  intro H locs ls hz hP hS hl
  exact lv_icmp_ge C.1 C.2.1 hd ht (fun q => kt q ((if_pos q).symm.trans h) H locs ls hz hP hS hl) (fun q => kf q ((if_neg q).symm.trans h) H locs ls hz hP hS hl)
theorem xr_icmp_gt {g : Cfg} {own : String} {cc : ByteArray} {nL fr lo mc ms cells slots pc : Nat} {w : Wt} {lv : List (Nat × Value)} {st : List Value} (C : Cx g own cc nL fr lo mc ms) {x y : Int32} {off : Int} {tgt : Nat} (hd : decode cc pc = .ok (.if_icmp .gt off, 3)) (ht : (pc : Int) + off = (tgt : Int)) {α : Type} {A Bx : Option α} {o : α} (h : (if y < x then A else Bx) = some o) (kt : y < x → A = some o → XE g cells slots w tgt lv st) (kf : ¬ y < x → Bx = some o → XE g cells slots w (pc + 3) lv st) : XE g cells slots w pc lv (.int y :: .int x :: st) := by
  obtain ⟨B, p, e, Rm, s, m, args, below, meth, c, Q⟩ := g
  intro H locs ls hz hP hS hl
  exact lv_icmp_gt C.1 C.2.1 hd ht (fun q => kt q ((if_pos q).symm.trans h) H locs ls hz hP hS hl) (fun q => kf q ((if_neg q).symm.trans h) H locs ls hz hP hS hl)
theorem xr_icmp_le {g : Cfg} {own : String} {cc : ByteArray} {nL fr lo mc ms cells slots pc : Nat} {w : Wt} {lv : List (Nat × Value)} {st : List Value} (C : Cx g own cc nL fr lo mc ms) {x y : Int32} {off : Int} {tgt : Nat} (hd : decode cc pc = .ok (.if_icmp .le off, 3)) (ht : (pc : Int) + off = (tgt : Int)) {α : Type} {A Bx : Option α} {o : α} (h : (if x ≤ y then A else Bx) = some o) (kt : x ≤ y → A = some o → XE g cells slots w tgt lv st) (kf : ¬ x ≤ y → Bx = some o → XE g cells slots w (pc + 3) lv st) : XE g cells slots w pc lv (.int y :: .int x :: st) := by
  obtain ⟨B, p, e, Rm, s, m, args, below, meth, c, Q⟩ := g
  intro H locs ls hz hP hS hl
  exact lv_icmp_le C.1 C.2.1 hd ht (fun q => kt q ((if_pos q).symm.trans h) H locs ls hz hP hS hl) (fun q => kf q ((if_neg q).symm.trans h) H locs ls hz hP hS hl)
theorem xr_if_eq {g : Cfg} {own : String} {cc : ByteArray} {nL fr lo mc ms cells slots pc : Nat} {w : Wt} {lv : List (Nat × Value)} {st : List Value} (C : Cx g own cc nL fr lo mc ms) {x : Int32} {off : Int} {tgt : Nat} (hd : decode cc pc = .ok (.ifCond .eq off, 3)) (ht : (pc : Int) + off = (tgt : Int)) {α : Type} {A Bx : Option α} {o : α} (h : (if x = 0 then A else Bx) = some o) (kt : x = 0 → A = some o → XE g cells slots w tgt lv st) (kf : ¬ x = 0 → Bx = some o → XE g cells slots w (pc + 3) lv st) : XE g cells slots w pc lv (.int x :: st) := by
  obtain ⟨B, p, e, Rm, s, m, args, below, meth, c, Q⟩ := g
  intro H locs ls hz hP hS hl
  exact lv_if_eq C.1 C.2.1 hd ht (fun q => kt q ((if_pos q).symm.trans h) H locs ls hz hP hS hl) (fun q => kf q ((if_neg q).symm.trans h) H locs ls hz hP hS hl)
theorem xr_if_ne {g : Cfg} {own : String} {cc : ByteArray} {nL fr lo mc ms cells slots pc : Nat} {w : Wt} {lv : List (Nat × Value)} {st : List Value} (C : Cx g own cc nL fr lo mc ms) {x : Int32} {off : Int} {tgt : Nat} (hd : decode cc pc = .ok (.ifCond .ne off, 3)) (ht : (pc : Int) + off = (tgt : Int)) {α : Type} {A Bx : Option α} {o : α} (h : (if x = 0 then A else Bx) = some o) (kt : ¬ x = 0 → Bx = some o → XE g cells slots w tgt lv st) (kf : x = 0 → A = some o → XE g cells slots w (pc + 3) lv st) : XE g cells slots w pc lv (.int x :: st) := by
  obtain ⟨B, p, e, Rm, s, m, args, below, meth, c, Q⟩ := g
  intro H locs ls hz hP hS hl
  exact lv_if_ne C.1 C.2.1 hd ht (fun q => kt q ((if_neg q).symm.trans h) H locs ls hz hP hS hl) (fun q => kf q ((if_pos q).symm.trans h) H locs ls hz hP hS hl)
theorem xr_if_lt {g : Cfg} {own : String} {cc : ByteArray} {nL fr lo mc ms cells slots pc : Nat} {w : Wt} {lv : List (Nat × Value)} {st : List Value} (C : Cx g own cc nL fr lo mc ms) {x : Int32} {off : Int} {tgt : Nat} (hd : decode cc pc = .ok (.ifCond .lt off, 3)) (ht : (pc : Int) + off = (tgt : Int)) {α : Type} {A Bx : Option α} {o : α} (h : (if x < 0 then A else Bx) = some o) (kt : x < 0 → A = some o → XE g cells slots w tgt lv st) (kf : ¬ x < 0 → Bx = some o → XE g cells slots w (pc + 3) lv st) : XE g cells slots w pc lv (.int x :: st) := by
  obtain ⟨B, p, e, Rm, s, m, args, below, meth, c, Q⟩ := g
  intro H locs ls hz hP hS hl
  exact lv_if_lt C.1 C.2.1 hd ht (fun q => kt q ((if_pos q).symm.trans h) H locs ls hz hP hS hl) (fun q => kf q ((if_neg q).symm.trans h) H locs ls hz hP hS hl)
theorem xr_if_ge {g : Cfg} {own : String} {cc : ByteArray} {nL fr lo mc ms cells slots pc : Nat} {w : Wt} {lv : List (Nat × Value)} {st : List Value} (C : Cx g own cc nL fr lo mc ms) {x : Int32} {off : Int} {tgt : Nat} (hd : decode cc pc = .ok (.ifCond .ge off, 3)) (ht : (pc : Int) + off = (tgt : Int)) {α : Type} {A Bx : Option α} {o : α} (h : (if 0 ≤ x then A else Bx) = some o) (kt : 0 ≤ x → A = some o → XE g cells slots w tgt lv st) (kf : ¬ 0 ≤ x → Bx = some o → XE g cells slots w (pc + 3) lv st) : XE g cells slots w pc lv (.int x :: st) := by
  obtain ⟨B, p, e, Rm, s, m, args, below, meth, c, Q⟩ := g
  intro H locs ls hz hP hS hl
  exact lv_if_ge C.1 C.2.1 hd ht (fun q => kt q ((if_pos q).symm.trans h) H locs ls hz hP hS hl) (fun q => kf q ((if_neg q).symm.trans h) H locs ls hz hP hS hl)
theorem xr_if_gt {g : Cfg} {own : String} {cc : ByteArray} {nL fr lo mc ms cells slots pc : Nat} {w : Wt} {lv : List (Nat × Value)} {st : List Value} (C : Cx g own cc nL fr lo mc ms) {x : Int32} {off : Int} {tgt : Nat} (hd : decode cc pc = .ok (.ifCond .gt off, 3)) (ht : (pc : Int) + off = (tgt : Int)) {α : Type} {A Bx : Option α} {o : α} (h : (if 0 < x then A else Bx) = some o) (kt : 0 < x → A = some o → XE g cells slots w tgt lv st) (kf : ¬ 0 < x → Bx = some o → XE g cells slots w (pc + 3) lv st) : XE g cells slots w pc lv (.int x :: st) := by
  obtain ⟨B, p, e, Rm, s, m, args, below, meth, c, Q⟩ := g
  intro H locs ls hz hP hS hl
  exact lv_if_gt C.1 C.2.1 hd ht (fun q => kt q ((if_pos q).symm.trans h) H locs ls hz hP hS hl) (fun q => kf q ((if_neg q).symm.trans h) H locs ls hz hP hS hl)
theorem xr_if_le {g : Cfg} {own : String} {cc : ByteArray} {nL fr lo mc ms cells slots pc : Nat} {w : Wt} {lv : List (Nat × Value)} {st : List Value} (C : Cx g own cc nL fr lo mc ms) {x : Int32} {off : Int} {tgt : Nat} (hd : decode cc pc = .ok (.ifCond .le off, 3)) (ht : (pc : Int) + off = (tgt : Int)) {α : Type} {A Bx : Option α} {o : α} (h : (if x ≤ 0 then A else Bx) = some o) (kt : x ≤ 0 → A = some o → XE g cells slots w tgt lv st) (kf : ¬ x ≤ 0 → Bx = some o → XE g cells slots w (pc + 3) lv st) : XE g cells slots w pc lv (.int x :: st) := by
  obtain ⟨B, p, e, Rm, s, m, args, below, meth, c, Q⟩ := g
  intro H locs ls hz hP hS hl
  exact lv_if_le C.1 C.2.1 hd ht (fun q => kt q ((if_pos q).symm.trans h) H locs ls hz hP hS hl) (fun q => kf q ((if_neg q).symm.trans h) H locs ls hz hP hS hl)
end
section
/-! ===== fields, arrays ===== -/
theorem warm_self (s : State) : s.WarmedH s.vm := ⟨rfl, rfl, fun _ k h => ⟨k, h, rfl, rfl, fun _ => Or.inl rfl, Or.inl ⟨rfl, rfl⟩⟩⟩
theorem rng_set {n k : Nat} {f f1 : Nat → Value} {v : Value} (h1 : f1 k = v) (h2 : ∀ j, j ≠ k → f1 j = f j) : ((List.range n).map f).set k v = (List.range n).map f1 := by
  apply List.ext_getElem?
  intro j
  by_cases hj : j = k
  · subst hj
    by_cases hl : j < n
    · rw [List.getElem?_set_self (by simpa using hl), List.getElem?_map, List.getElem?_range hl]
      exact (congrArg some h1).symm
    · rw [List.getElem?_eq_none (by simpa using Nat.le_of_not_lt hl), List.getElem?_eq_none (by simpa using Nat.le_of_not_lt hl)]
  · rw [List.getElem?_set_ne (fun h => hj h.symm), List.getElem?_map, List.getElem?_map]
    by_cases hl : j < n
    · rw [List.getElem?_range hl]
      exact (congrArg some (h2 j hj)).symm
    · rw [List.getElem?_eq_none (by simpa using Nat.le_of_not_lt hl)]
      rfl
/-- a class's row: its name, its fields, how many, its words -/
def Kd (kd : Nat) (Cn : String) (T : u_T) (n : Nat) (ty0 : Nat → FieldType) : Prop := vwCl[kd]? = some (Cn, T, n) ∧ (∀ w ∈ u_ws Cn T n, Wk w) ∧ kd < 11 ∧ nsl kd = n ∧ (∀ k, k < n → parseFieldDescriptor (T k).2.2.1 = some (ty0 k)) ∧ (∀ a, a < n → ∀ b, b < n → a ≠ b → (T a).2.1 ≠ (T b).2.1)
section XF
variable {g : Cfg} {own : String} {cc : ByteArray} {nL fr lo mc ms cells slots pc : Nat} {w : Wt} {lv : List (Nat × Value)} {st : List Value}
variable {kd k n idx a : Nat} {Cn : String} {T : u_T} {ty0 : Nat → FieldType}
theorem cell_get {B : Bs} {H : Heap} (hKd : Kd kd Cn T n ty0) (ha : ta w.2 a kd) (hP : va_P B.2.2.1 vwCl (pool B.2.1 B.2.2.2.1 w) H) : (pool B.2.1 B.2.2.2.1 w)[a]? = some (B.2.1 + a, .inr (kd, (List.range n).map (slV B.2.1 w.1 w.2.1 kd a))) := by
  rw [pool_get ha.2, cellE_obj ha.1 hKd.2.2.1, hKd.2.2.2.1]
theorem xr_get (C : Cx g own cc nL fr lo mc ms) (hKd : Kd kd Cn T n ty0) (hk : k < n) (hT : (T k).1 = Cn) (hw : Wk (Cond.fieldLink own idx Cn (T k).2.1 (T k).2.2.1)) (ha : ta w.2 a kd) (hd : decode cc pc = .ok (.getfield idx, 3)) (K : XE g cells slots w (pc + 3) lv (slV g.1.2.1 w.1 w.2.1 kd a k :: st)) : XE g cells slots w pc lv (rf g a :: st) := by
  obtain ⟨B, p, e, Rm, s, m, args, below, meth, c, Q⟩ := g
  intro H locs ls hz hP hS hl
  have hcell := cell_get hKd ha hP
  exact va_get (D := B.2.2.1) (ref := Cn) (Ts := u_ws Cn T n) C.1 C.2.1 (fun w hw => C.2.2.2.2.1.1 w (hKd.2.1 w hw) _) (fun _ h => h) C.2.2.2.1 C.2.2.2.2.1.2.2.1 hP a hcell hKd.1 k hk (C.2.2.2.2.1.1 _ hw _) (fun x hx => by rw [hT] at hx; exact hx) (by rw [List.getElem?_map, List.getElem?_range hk]; rfl) hd (K H locs ls hz hP hS hl)
theorem xr_getN (C : Cx g own cc nL fr lo mc ms) (hKd : Kd kd Cn T n ty0) (hk : k < n) (hT : (T k).1 = Cn) (hw : Cond.fieldLinkNest own idx Cn (T k).2.1 (T k).2.2.1 "BumperBalls" ∈ nestWs) (ha : ta w.2 a kd) (hd : decode cc pc = .ok (.getfield idx, 3)) (K : XE g cells slots w (pc + 3) lv (slV g.1.2.1 w.1 w.2.1 kd a k :: st)) : XE g cells slots w pc lv (rf g a :: st) := by
  obtain ⟨B, p, e, Rm, s, m, args, below, meth, c, Q⟩ := g
  intro H locs ls hz hP hS hl
  have hcell := cell_get hKd ha hP
  exact va_getN (D := B.2.2.1) (ref := Cn) (Ts := u_ws Cn T n) C.1 C.2.1 (fun w hw => C.2.2.2.2.1.1 w (hKd.2.1 w hw) _) (fun _ h => h) C.2.2.2.1 C.2.2.2.2.1.2.2.1 hP a hcell hKd.1 k hk (va_Nw.use rfl (C.2.2.2.2.1.2.1 _ hw)) (fun x hx => by rw [hT] at hx; exact hx) (by rw [List.getElem?_map, List.getElem?_range hk]; rfl) hd (K H locs ls hz hP hS hl)
theorem slV_i {b : Nat} {I : Mem} {R : Rfs} {kd a k : Nat} (h : slR kd k = false) : slV b I R kd a k = .int (I a k) := by
  unfold slV
  rw [h]
  rfl
theorem slV_r {b : Nat} {I : Mem} {R : Rfs} {kd a k r : Nat} (h : slR kd k = true) (hr : R a k = some r) : slV b I R kd a k = .ref (b + r) := by
  unfold slV
  rw [h, hr]
  rfl
theorem xr_geti (C : Cx g own cc nL fr lo mc ms) (hKd : Kd kd Cn T n ty0) (hk : k < n) (hT : (T k).1 = Cn) (hw : Wk (Cond.fieldLink own idx Cn (T k).2.1 (T k).2.2.1)) (hs : slR kd k = false) (ha : ta w.2 a kd) (hd : decode cc pc = .ok (.getfield idx, 3)) (K : XE g cells slots w (pc + 3) lv (.int (w.1 a k) :: st)) : XE g cells slots w pc lv (rf g a :: st) := xr_get C hKd hk hT hw ha hd (by rw [slV_i hs]; exact K)
theorem xr_getiN (C : Cx g own cc nL fr lo mc ms) (hKd : Kd kd Cn T n ty0) (hk : k < n) (hT : (T k).1 = Cn) (hw : Cond.fieldLinkNest own idx Cn (T k).2.1 (T k).2.2.1 "BumperBalls" ∈ nestWs) (hs : slR kd k = false) (ha : ta w.2 a kd) (hd : decode cc pc = .ok (.getfield idx, 3)) (K : XE g cells slots w (pc + 3) lv (.int (w.1 a k) :: st)) : XE g cells slots w pc lv (rf g a :: st) := xr_getN C hKd hk hT hw ha hd (by rw [slV_i hs]; exact K)
theorem xr_getr (C : Cx g own cc nL fr lo mc ms) (hKd : Kd kd Cn T n ty0) (hk : k < n) (hT : (T k).1 = Cn) (hw : Wk (Cond.fieldLink own idx Cn (T k).2.1 (T k).2.2.1)) (hs : slR kd k = true) (ha : ta w.2 a kd) {r : Nat} (hr : w.2.1 a k = some r) (hd : decode cc pc = .ok (.getfield idx, 3)) (K : XE g cells slots w (pc + 3) lv (rf g r :: st)) : XE g cells slots w pc lv (rf g a :: st) := xr_get C hKd hk hT hw ha hd (by rw [slV_r hs hr]; exact K)
theorem xr_getrN (C : Cx g own cc nL fr lo mc ms) (hKd : Kd kd Cn T n ty0) (hk : k < n) (hT : (T k).1 = Cn) (hw : Cond.fieldLinkNest own idx Cn (T k).2.1 (T k).2.2.1 "BumperBalls" ∈ nestWs) (hs : slR kd k = true) (ha : ta w.2 a kd) {r : Nat} (hr : w.2.1 a k = some r) (hd : decode cc pc = .ok (.getfield idx, 3)) (K : XE g cells slots w (pc + 3) lv (rf g r :: st)) : XE g cells slots w pc lv (rf g a :: st) := xr_getN C hKd hk hT hw ha hd (by rw [slV_r hs hr]; exact K)
theorem cellE_putI {b : Nat} {cs : Nat → ClassId} {I : Mem} {R : Rfs} {K N : Nat → Nat} {v : Int32} (h : K a = kd) (hk : kd < 11) (hn : nsl kd = n) (hs : slR kd k = false) : cellE b cs (up2 I a k v) R K N a = .inr (kd, ((List.range n).map (slV b I R kd a)).set k (.int v)) := by
  rw [cellE_obj h hk, hn, rng_set (f1 := slV b (up2 I a k v) R kd a)]
  · rw [slV_i hs, up2_eq]
    simp
  · intro j hj
    simp only [slV, up2_eq]
    rw [if_neg hj]
theorem cellE_putR {b : Nat} {cs : Nat → ClassId} {I : Mem} {R : Rfs} {K N : Nat → Nat} {r : Option Nat} (h : K a = kd) (hk : kd < 11) (hn : nsl kd = n) (hs : slR kd k = true) : cellE b cs I (up2 R a k r) K N a = .inr (kd, ((List.range n).map (slV b I R kd a)).set k (rfv b r)) := by
  rw [cellE_obj h hk, hn, rng_set (f1 := slV b I (up2 R a k r) kd a)]
  · unfold slV
    rw [hs, up2_eq]
    simp
  · intro j hj
    simp only [slV, up2_eq]
    rw [if_neg hj]
theorem xr_putI (C : Cx g own cc nL fr lo mc ms) (hKd : Kd kd Cn T n ty0) (hk : k < n) (hT : (T k).1 = Cn) (hF : (T k).2.2.2 = false) (hw : Wk (Cond.fieldLink own idx Cn (T k).2.1 (T k).2.2.1)) (hs : slR kd k = false) {v : Int32} (hv : narrow (ty0 k) (.int v) = .int v) (hf : fits (ty0 k) (.int v) = true) (ha : ta w.2 a kd) (hd : decode cc pc = .ok (.putfield idx, 3)) {I1 : Mem} (h1 : I1 = up2 w.1 a k v) (K : XE g cells slots (I1, w.2) (pc + 3) lv st) : XE g cells slots w pc lv (.int v :: rf g a :: st) := by
  obtain ⟨B, p, e, Rm, s, m, args, below, meth, c, Q⟩ := g
  obtain ⟨I, R, K0, N, sz⟩ := w
  intro H locs ls hz hP hS hl
  have hcell := cell_get hKd ha hP
  refine va_put (D := B.2.2.1) (ref := Cn) (Ts := u_ws Cn T n) (ty := ty0 k) C.1 C.2.1 (fun w hw => C.2.2.2.2.1.1 w (hKd.2.1 w hw) _) (fun _ h => h) ty0 hKd.2.2.2.2.1 hKd.2.2.2.2.2 C.2.2.2.1 C.2.2.2.2.1.2.2.1 hP pool_D hS a hcell hKd.1 k hk (C.2.2.2.2.1.1 _ hw _) (fun x hx => by rw [hT] at hx; exact hx) hF (hKd.2.2.2.2.1 k hk) hv hf (by simpa using hk) hd (fun H1 locs1 hP1 hD1 hS1 => ?_)
  refine K H1 locs1 ls hz ?_ hS1 hl
  rw [h1]
  rw [pool_set (I1 := up2 I a k v) (R1 := R) ha.2 (cellE_putI ha.1 hKd.2.2.1 hKd.2.2.2.1 hs) (fun x hx => up2_ne hx) (fun _ _ => rfl)] at hP1
  exact hP1
theorem xr_putIN (C : Cx g own cc nL fr lo mc ms) (hKd : Kd kd Cn T n ty0) (hk : k < n) (hT : (T k).1 = Cn) (hF : (T k).2.2.2 = false) (hw : Cond.fieldLinkNest own idx Cn (T k).2.1 (T k).2.2.1 "BumperBalls" ∈ nestWs) (hs : slR kd k = false) {v : Int32} (hv : narrow (ty0 k) (.int v) = .int v) (hf : fits (ty0 k) (.int v) = true) (ha : ta w.2 a kd) (hd : decode cc pc = .ok (.putfield idx, 3)) {I1 : Mem} (h1 : I1 = up2 w.1 a k v) (K : XE g cells slots (I1, w.2) (pc + 3) lv st) : XE g cells slots w pc lv (.int v :: rf g a :: st) := by
  obtain ⟨B, p, e, Rm, s, m, args, below, meth, c, Q⟩ := g
  obtain ⟨I, R, K0, N, sz⟩ := w
  intro H locs ls hz hP hS hl
  have hcell := cell_get hKd ha hP
  refine va_putN (D := B.2.2.1) (ref := Cn) (Ts := u_ws Cn T n) (ty := ty0 k) C.1 C.2.1 (fun w hw => C.2.2.2.2.1.1 w (hKd.2.1 w hw) _) (fun _ h => h) ty0 hKd.2.2.2.2.1 hKd.2.2.2.2.2 C.2.2.2.1 C.2.2.2.2.1.2.2.1 hP pool_D hS a hcell hKd.1 k hk (va_Nw.use rfl (C.2.2.2.2.1.2.1 _ hw)) (fun x hx => by rw [hT] at hx; exact hx) hF (hKd.2.2.2.2.1 k hk) hv hf (by simpa using hk) hd (fun H1 locs1 hP1 hD1 hS1 => ?_)
  refine K H1 locs1 ls hz ?_ hS1 hl
  rw [h1]
  rw [pool_set (I1 := up2 I a k v) (R1 := R) ha.2 (cellE_putI ha.1 hKd.2.2.1 hKd.2.2.2.1 hs) (fun x hx => up2_ne hx) (fun _ _ => rfl)] at hP1
  exact hP1
theorem xr_putR (C : Cx g own cc nL fr lo mc ms) (hKd : Kd kd Cn T n ty0) (hk : k < n) (hT : (T k).1 = Cn) (hF : (T k).2.2.2 = false) (hw : Wk (Cond.fieldLink own idx Cn (T k).2.1 (T k).2.2.1)) (hs : slR kd k = true) {r : Nat} (hv : narrow (ty0 k) (.ref 0) = .ref 0 → ∀ q : Nat, narrow (ty0 k) (.ref q) = .ref q ∧ fits (ty0 k) (.ref q) = true) (hv0 : narrow (ty0 k) (.ref 0) = .ref 0) (ha : ta w.2 a kd) (hd : decode cc pc = .ok (.putfield idx, 3)) {R1 : Rfs} (h1 : R1 = up2 w.2.1 a k (some r)) (K : XE g cells slots (w.1, R1, w.2.2) (pc + 3) lv st) : XE g cells slots w pc lv (rf g r :: rf g a :: st) := by
  obtain ⟨B, p, e, Rm, s, m, args, below, meth, c, Q⟩ := g
  obtain ⟨I, R, K0, N, sz⟩ := w
  intro H locs ls hz hP hS hl
  have hcell := cell_get hKd ha hP
  refine va_put (D := B.2.2.1) (ref := Cn) (Ts := u_ws Cn T n) (ty := ty0 k) (v := .ref (B.2.1 + r)) C.1 C.2.1 (fun w hw => C.2.2.2.2.1.1 w (hKd.2.1 w hw) _) (fun _ h => h) ty0 hKd.2.2.2.2.1 hKd.2.2.2.2.2 C.2.2.2.1 C.2.2.2.2.1.2.2.1 hP pool_D hS a hcell hKd.1 k hk (C.2.2.2.2.1.1 _ hw _) (fun x hx => by rw [hT] at hx; exact hx) hF (hKd.2.2.2.2.1 k hk) (hv hv0 _).1 (hv hv0 _).2 (by simpa using hk) hd (fun H1 locs1 hP1 hD1 hS1 => ?_)
  refine K H1 locs1 ls hz ?_ hS1 hl
  rw [h1]
  rw [show Value.ref (B.2.1 + r) = rfv B.2.1 (some r) from rfl] at hP1
  rw [pool_set (I1 := I) (R1 := up2 R a k (some r)) ha.2 (cellE_putR (r := some r) ha.1 hKd.2.2.1 hKd.2.2.2.1 hs) (fun _ _ => rfl) (fun x hx => up2_ne hx)] at hP1
  exact hP1
end XF
section XA
variable {g : Cfg} {own : String} {cc : ByteArray} {nL fr lo mc ms cells slots pc : Nat} {w : Wt} {lv : List (Nat × Value)} {st : List Value} {a n : Nat} {i : Int32}
theorem cell_int {B : Bs} (ha : tA w.2 a 11 n) : (pool B.2.1 B.2.2.2.1 w)[a]? = some (B.2.1 + a, .inl (B.2.2.2.1 11, n, .inl (w.1 a))) := by
  rw [pool_get ha.2.1, cellE_int ha.1 ha.2.2]
theorem xr_iald (C : Cx g own cc nL fr lo mc ms) (ha : tA w.2 a 11 n) (hi : inb i n = true) (hd : decode cc pc = .ok (.iaload, 1)) (K : XE g cells slots w (pc + 1) lv (.int (w.1 a (ix i)) :: st)) : XE g cells slots w pc lv (.int i :: rf g a :: st) := by
  obtain ⟨B, p, e, Rm, s, m, args, below, meth, c, Q⟩ := g
  intro H locs ls hz hP hS hl
  exact va_iald C.1 C.2.1 C.2.2.2.2.1.2.2.1 hP a 0 (cell_int ha) rfl (inb_in hi) hd (K H locs ls hz hP hS hl)
theorem xr_iast (C : Cx g own cc nL fr lo mc ms) {x : Int32} (ha : tA w.2 a 11 n) (hi : inb i n = true) (hd : decode cc pc = .ok (.iastore, 1)) {I1 : Mem} (h1 : I1 = up2 w.1 a (ix i) x) (K : XE g cells slots (I1, w.2) (pc + 1) lv st) : XE g cells slots w pc lv (.int x :: .int i :: rf g a :: st) := by
  obtain ⟨B, p, e, Rm, s, m, args, below, meth, c, Q⟩ := g
  obtain ⟨I, R, K0, N, sz⟩ := w
  intro H locs ls hz hP hS hl
  refine va_iast C.1 C.2.1 C.2.2.2.2.1.2.2.1 hP pool_D hS a 0 (cell_int ha) rfl (inb_in hi) hd (fun H1 locs1 hP1 hD1 hS1 => ?_)
  refine K H1 locs1 ls hz ?_ hS1 hl
  rw [h1]
  rw [pool_set (I1 := up2 I a (ix i) x) (R1 := R) ha.2.1 (by rw [cellE_int ha.1 ha.2.2, up2_eq]; rfl) (fun x hx => up2_ne hx) (fun _ _ => rfl)] at hP1
  exact hP1
theorem xr_aald (C : Cx g own cc nL fr lo mc ms) {kd r : Nat} (hk : kd = 12 ∨ kd = 13 ∨ kd = 14) (ha : tA w.2 a kd n) (hi : inb i n = true) (hr : w.2.1 a (ix i) = some r) (hd : decode cc pc = .ok (.aaload, 1)) (K : XE g cells slots w (pc + 1) lv (rf g r :: st)) : XE g cells slots w pc lv (.int i :: rf g a :: st) := by
  obtain ⟨B, p, e, Rm, s, m, args, below, meth, c, Q⟩ := g
  intro H locs ls hz hP hS hl
  have hK := C.2.2.2.2.1.2.2.1
  have hin := inb_in hi
  have hlt : i.toNatClampNeg < n := Nat.not_le.mp fun q => hin (Or.inr q)
  have hcell : (pool B.2.1 B.2.2.2.1 w)[a]? = some (B.2.1 + a, .inl (B.2.2.2.1 kd, n, .inr (.inr (.inr (.inr (fun j => (w.2.1 a j).map (fun x => B.2.1 + x))))))) := by
    rw [pool_get ha.2.1, cellE_ref ha.1 (by omega) ha.2.2]
  have hv : va_rf ((w.2.1 a (ix i)).map (fun x => B.2.1 + x)) = .ref (B.2.1 + r) := by rw [hr]; rfl
  rcases hk with rfl | rfl | rfl
  · refine va_aldq C.1 C.2.1 hK hP a 1 hcell rfl hin hd ?_
    have k2 := K H locs ls hz hP hS hl
    rw [show ix i = i.toNatClampNeg from rfl] at hv
    rw [hv]
    exact k2
  · refine va_aldq C.1 C.2.1 hK hP a 2 hcell rfl hin hd ?_
    have k2 := K H locs ls hz hP hS hl
    rw [show ix i = i.toNatClampNeg from rfl] at hv
    rw [hv]
    exact k2
  · refine W.aald (v := va_rf ((w.2.1 a (ix i)).map (fun x => B.2.1 + x))) (ty := .array .int) C.1 C.2.1 (hP a _ hcell) ((hK.2 3 _ rfl).1 n (fun j => va_rf ((w.2.1 a j).map (fun x => B.2.1 + x)))) rfl (fun q => by cases q) (by show ¬ (i < 0 ∨ (arrV _ _ _).slots.size ≤ _); rw [arrV_size]; exact hin) (by show (arrV _ _ _).slots[_]? = _; rw [arrV_read _ _ hlt]; rfl) rfl rfl hd ?_
    rw [hv]
    exact K H locs ls hz hP hS hl
end XA
/-! ===== calls: contracts, entry, return ===== -/
def CtrI (B : Bs) (y : MethodName) (cc : ByteArray) (nL : Nat) (ret : Option FieldType) (fr lo mc ms : Nat) (as : List Value) (w : Wt) (r : Int32) (w1 : Wt) : Prop :=
  Met B.1 y [.code y cc nL ret] { frames := fr, cells := mc, slots := ms, locals := lo } (va_Pc as (fun U => WD B w U)) (va_Qi (fun (x : Int32) (_ : Unit) => x = r) (fun _ t => WD B w1 t) (fun q => B.2.1 ≤ q)) mc ms (fun q => B.2.1 ≤ q)
def CtrV (B : Bs) (y : MethodName) (cc : ByteArray) (nL : Nat) (fr lo mc ms : Nat) (as : List Value) (w : Wt) (w1 : Wt) : Prop :=
  Met B.1 y [.code y cc nL none] { frames := fr, cells := mc, slots := ms, locals := lo } (va_Pc as (fun U => WD B w U)) (va_Qv (fun (_ : Unit) => True) (fun _ t => WD B w1 t) (fun q => B.2.1 ≤ q)) mc ms (fun q => B.2.1 ≤ q)
def QI (g : Cfg) (ret : Option FieldType) (mc ms : Nat) (r : Int32) (w1 : Wt) : Prop := match g with
  | (B, _, _, _, s, _, args, below, meth, _, Q) => meth.sig.returnType = ret ∧ Q = MQ below (va_Qi (fun (x : Int32) (_ : Unit) => x = r) (fun _ t => WD B w1 t) (fun q => B.2.1 ≤ q)) args s mc ms (fun q => B.2.1 ≤ q)
def QV (g : Cfg) (mc ms : Nat) (w1 : Wt) : Prop := match g with
  | (B, _, _, _, s, _, args, below, meth, _, Q) => meth.sig.returnType = none ∧ Q = MQ below (va_Qv (fun (_ : Unit) => True) (fun _ t => WD B w1 t) (fun q => B.2.1 ≤ q)) args s mc ms (fun q => B.2.1 ≤ q)
theorem WD.blind {B : Bs} {w : Wt} {as : List Value} : FrameBlind (va_Pc as (fun U => WD B w U)) := fun a U g mk q => by
  obtain ⟨q0, q1, q2, q3⟩ := q
  refine ⟨q0, q1, q2, ?_⟩
  exact SW.step (U := U.calling g mk a) q3 (warm_self U) (fun _ _ _ => rfl) (Nat.le_refl _)
/-- how many cells there are, out of the count of those that were made -/
theorem sz_of {B : Bs} {p : Program} {e : Env} {Rm : Room} {s : State} {m : MethodId} {args : Array Value} {below : List Frame} {meth : Method} {c : Code} {T : State} {locs : List Loc} {cells slots : Nat} {w : Wt} (X : Stand p B.1 e Rm s m args below meth c T locs cells slots) (hz : s.heap.size + cells = B.2.1 + w.2.2.2.2) (hb : B.2.1 ≤ s.heap.size) (hP : va_P B.2.2.1 vwCl (pool B.2.1 B.2.2.2.1 w) T.heap) : T.heap.size = B.2.1 + w.2.2.2.2 := by
  have h1 : s.heap.size ≤ T.heap.size := X.same.2.1
  have h2 : T.heap.size ≤ s.heap.size + cells := X.same.2.2.1
  rcases Nat.eq_zero_or_pos w.2.2.2.2 with h0 | h0
  · omega
  · have h3 := (hP (w.2.2.2.2 - 1) _ (pool_get (by omega))).lt
    have h4 : B.2.1 + (w.2.2.2.2 - 1) < T.heap.size := h3
    omega
section XC
variable {g : Cfg} {own : String} {cc : ByteArray} {nL fr lo mc ms cells slots pc : Nat} {w : Wt} {lv : List (Nat × Value)} {st : List Value}
theorem xr_enterI {B : Bs} {y : MethodName} {ret : Option FieldType} {as : List Value} {r : Int32} {w1 : Wt} {lv0 : List (Nat × Value)} (hy : plainName y.cls = true) (hn : (lg_sl as).length ≤ nL) (hlv : lv_args 0 as = lv0) (body : ∀ g : Cfg, g.1 = B → Cx g y.cls cc nL fr lo mc ms → QI g ret mc ms r w1 → XE g 0 0 w 0 lv0 []) : CtrI B y cc nL ret fr lo mc ms as w r w1 := by
  refine Met.ofW (cc := cc) (maxL := nL) (ret := ret) hy rfl ?_
  intro p e s m args below meth c s₁ Bd hml hv
  obtain ⟨rfl, hsz, hP, hSW⟩ := hv
  have hb : B.2.1 ≤ s.heap.size := by rw [hsz]; exact Nat.le_add_right _ _
  have hl := lv_entry as (n := nL) hn
  rw [lg_entry_eq, hlv] at *
  have := body (B, p, e, ({ frames := fr, cells := mc, slots := ms, locals := lo } : Room), s, m, as.toArray, below, meth, c, _) rfl ⟨Bd.exec, Bd.bytes, hml, findClass_of_methodNamed Bd.named, hSW, hb, Bd.notSynchronized, rfl, rfl, rfl, rfl⟩ ⟨Bd.returns, rfl⟩ s.heap [] _ (by rw [hsz]; rfl) hP va_S.rf (by rw [hml]; exact hl)
  exact this
theorem xr_enterV {B : Bs} {y : MethodName} {as : List Value} {w1 : Wt} {lv0 : List (Nat × Value)} (hy : plainName y.cls = true) (hn : (lg_sl as).length ≤ nL) (hlv : lv_args 0 as = lv0) (body : ∀ g : Cfg, g.1 = B → Cx g y.cls cc nL fr lo mc ms → QV g mc ms w1 → XE g 0 0 w 0 lv0 []) : CtrV B y cc nL fr lo mc ms as w w1 := by
  refine Met.ofW (cc := cc) (maxL := nL) (ret := none) hy rfl ?_
  intro p e s m args below meth c s₁ Bd hml hv
  obtain ⟨rfl, hsz, hP, hSW⟩ := hv
  have hb : B.2.1 ≤ s.heap.size := by rw [hsz]; exact Nat.le_add_right _ _
  have hl := lv_entry as (n := nL) hn
  rw [lg_entry_eq, hlv] at *
  have := body (B, p, e, ({ frames := fr, cells := mc, slots := ms, locals := lo } : Room), s, m, as.toArray, below, meth, c, _) rfl ⟨Bd.exec, Bd.bytes, hml, findClass_of_methodNamed Bd.named, hSW, hb, Bd.notSynchronized, rfl, rfl, rfl, rfl⟩ ⟨Bd.returns, rfl⟩ s.heap [] _ (by rw [hsz]; rfl) hP va_S.rf (by rw [hml]; exact hl)
  exact this
theorem xr_ireturn (C : Cx g own cc nL fr lo mc ms) {ret : Option FieldType} {ty : FieldType} {r v : Int32} {w1 : Wt} (q : QI g ret mc ms r w1) (hret : ret = some ty) (hn : narrow ty (.int v) = .int v) (hd : decode cc pc = .ok (.ireturn, 1)) (h : v = r) (hw : w = w1) : XE g mc ms w pc lv [.int v] := by
  obtain ⟨B, p, e, Rm, s, m, args, below, meth, c, Q⟩ := g
  obtain ⟨q1, q2⟩ := q
  subst q2 h hw hret
  intro H locs ls hz hP hS hl T hT X
  have hsz : H.size = B.2.1 + w.2.2.2.2 := by rw [← hT]; exact sz_of X hz C.2.2.2.2.2.1 (by rw [hT]; exact hP)
  exact W.zret (v := v) C.1 C.2.1 q1 hn (fun t ht hW => ⟨⟨v, (), rfl, rfl, by rw [ht]; exact hsz, by rw [ht]; exact hP, C.2.2.2.2.1.step hW (fun a h1 h2 => by rw [ht]; exact hS.2.1 a h1 h2) (by rw [ht]; exact hS.1)⟩, hS.F ht⟩) hS.2.2 hd C.2.2.2.2.2.2.1 T hT X
theorem xr_return (C : Cx g own cc nL fr lo mc ms) {w1 : Wt} (q : QV g mc ms w1) (hd : decode cc pc = .ok (.return_, 1)) (hw : w = w1) : XE g mc ms w pc lv [] := by
  obtain ⟨B, p, e, Rm, s, m, args, below, meth, c, Q⟩ := g
  obtain ⟨q1, q2⟩ := q
  subst q2 hw
  intro H locs ls hz hP hS hl T hT X
  have hsz : H.size = B.2.1 + w.2.2.2.2 := by rw [← hT]; exact sz_of X hz C.2.2.2.2.2.1 (by rw [hT]; exact hP)
  exact W.vret C.1 C.2.1 q1 (fun t ht hW => ⟨⟨(), rfl, trivial, by rw [ht]; exact hsz, by rw [ht]; exact hP, C.2.2.2.2.1.step hW (fun a h1 h2 => by rw [ht]; exact hS.2.1 a h1 h2) (by rw [ht]; exact hS.1)⟩, hS.F ht⟩) hS.2.2 hd C.2.2.2.2.2.2.1 T hT X
theorem good1 {y : MethodName} {cy : ByteArray} {n : Nat} {ret : Option FieldType} (h : Wk (Cond.code y cy n ret)) : GoodIn [Cond.code y cy n ret] [Cond.code y cy n ret] := fun w hw => ⟨hw, by
  rw [List.mem_singleton] at hw
  subst hw
  exact Or.inl rfl⟩
theorem one1 {w0 : Cond} (h : Wk w0) : ∀ w ∈ [w0], Wk w := fun w hw => by
  rw [List.mem_singleton] at hw
  subst hw
  exact h
/-- the words of a call: the method's code, its class's, its place -/
def LkV (own : String) (idx : Nat) (y : MethodName) (cy : ByteArray) (nLy : Nat) (ret : Option FieldType) (np : Nat) : Prop := Wk (Cond.code y cy nLy ret) ∧ Wk (Cond.initialized y.cls) ∧ Wk (Cond.instanceMethod y) ∧ Wk (Cond.selects y.cls y y) ∧ (y.cls ≠ "java/lang/invoke/MethodHandle" ∧ y.cls ≠ "java/lang/invoke/VarHandle" ∧ (parseMethodDescriptor y.desc).map (fun d => d.parameters.length) = some np) ∧ Wk (Cond.methodLink own idx y)
def LkN (own : String) (idx : Nat) (y : MethodName) (cy : ByteArray) (nLy : Nat) (ret : Option FieldType) (np : Nat) : Prop := Wk (Cond.code y cy nLy ret) ∧ Wk (Cond.initialized y.cls) ∧ Wk (Cond.instanceMethod y) ∧ Wk (Cond.selects y.cls y y) ∧ (y.cls ≠ "java/lang/invoke/MethodHandle" ∧ y.cls ≠ "java/lang/invoke/VarHandle" ∧ (parseMethodDescriptor y.desc).map (fun d => d.parameters.length) = some np) ∧ Cond.methodLinkNest own idx y "BumperBalls" ∈ nestWs
def LkS (own : String) (idx : Nat) (y : MethodName) (cy : ByteArray) (nLy : Nat) (ret : Option FieldType) (np : Nat) : Prop := Wk (Cond.code y cy nLy ret) ∧ Wk (Cond.initialized y.cls) ∧ Wk (Cond.static y) ∧ (y.cls ≠ "java/lang/invoke/MethodHandle" ∧ y.cls ≠ "java/lang/invoke/VarHandle" ∧ (parseMethodDescriptor y.desc).map (fun d => d.parameters.length) = some np) ∧ Wk (Cond.methodLink own idx y)
def LkSN (own : String) (idx : Nat) (y : MethodName) (cy : ByteArray) (nLy : Nat) (ret : Option FieldType) (np : Nat) : Prop := Wk (Cond.code y cy nLy ret) ∧ Wk (Cond.initialized y.cls) ∧ Wk (Cond.static y) ∧ (y.cls ≠ "java/lang/invoke/MethodHandle" ∧ y.cls ≠ "java/lang/invoke/VarHandle" ∧ (parseMethodDescriptor y.desc).map (fun d => d.parameters.length) = some np) ∧ Cond.methodLinkNest own idx y "BumperBalls" ∈ nestWs
theorem xr_callVI (C : Cx g own cc nL fr lo mc ms) {y : MethodName} {cy : ByteArray} {nLy fr1 lo1 mc1 ms1 idx np a kd n : Nat} {ret : Option FieldType} {r : Int32} {w1 : Wt} {st0 : List Value} (As : List Value) {Cn : String} {T : u_T} {ty0 : Nat → FieldType} (lk : LkV own idx y cy nLy ret np) (ctr : CtrI g.1 y cy nLy ret fr1 lo1 mc1 ms1 (rf g a :: As) w r w1) (hKd : Kd kd Cn T n ty0) (hCn : Cn = y.cls) (ha : ta w.2 a kd) (hnp : As.length = np) (hst : (st.map fun v => v.category).sum ≤ 8) (hs : st0 = As.reverse ++ rf g a :: st) (hd : decode cc pc = .ok (.invokevirtual idx, 3)) (hr : (fr1 + 1 ≤ fr ∧ 8 + (nLy + 11) + lo1 ≤ lo) ∧ cells + mc1 ≤ mc ∧ slots + ms1 ≤ ms) (hsz : w1.2.2.2.2 = w.2.2.2.2 + mc1) (K : XE g (cells + mc1) (slots + ms1) w1 (pc + 3) lv (.int r :: st)) : XE g cells slots w pc lv st0 := by
  obtain ⟨B, p, e, Rm, s, m, args, below, meth, c, Q⟩ := g
  subst hs
  intro H locs ls hz hP hS hl T hT X
  have hsz0 : H.size = B.2.1 + w.2.2.2.2 := by rw [← hT]; exact sz_of X hz C.2.2.2.2.2.1 (by rw [hT]; exact hP)
  obtain ⟨hx, hb, hml, hown, hSW, hbs, hlk, e1, e2, e3, e4⟩ := C
  subst e1 e2 e3 e4
  have hts : ∀ w : Cond, Wk w → w.before args s = true := fun w hw => hSW.1 w hw _
  obtain ⟨l1, l2, l3, l4, l5, l6⟩ := lk
  subst hCn
  refine va_calli (va_runV (As := As) (rest := st) (Ts := []) ⟨hx, hb, hml, hown, fun w h => by cases h⟩ ctr ⟨callB_of np (fun w hw => hts w (one1 l1 w hw)) (good1 l1) rfl rfl rfl (hts _ l2) (hts _ l6) l5 hr.1, hts _ l3, hts _ l4⟩ ⟨WD.blind, va_recv hSW.2.2.1 hP (ci := kd) (q0 := a) hKd.1 (cell_get hKd ha hP), fun U hU hW => ⟨rfl, by rw [hU]; exact hsz0, by rw [hU]; exact hP, hSW.step hW (fun a h1 h2 => by rw [hU]; exact hS.2.1 a h1 h2) (by rw [hU]; exact hS.1)⟩⟩ rfl hnp (by rw [← hml]; exact hl.1) rfl (lv_room hst) hd hr.2) hS (fun q _ h => h) (fun q h => h) (fun r9 u t H1 locs1 ht hvm hw hB hz1 hk1 hS1 => ?_) T hT X
  subst hw
  exact K H1 locs1 ls (by rw [hsz]; have := hz; omega) (by rw [← ht]; exact hB.2.1) hS1 hl
theorem xr_callNI (C : Cx g own cc nL fr lo mc ms) {y : MethodName} {cy : ByteArray} {nLy fr1 lo1 mc1 ms1 idx np a kd n : Nat} {ret : Option FieldType} {r : Int32} {w1 : Wt} {st0 : List Value} (As : List Value) {Cn : String} {T : u_T} {ty0 : Nat → FieldType} (lk : LkN own idx y cy nLy ret np) (ctr : CtrI g.1 y cy nLy ret fr1 lo1 mc1 ms1 (rf g a :: As) w r w1) (hKd : Kd kd Cn T n ty0) (hCn : Cn = y.cls) (ha : ta w.2 a kd) (hnp : As.length = np) (hst : (st.map fun v => v.category).sum ≤ 8) (hs : st0 = As.reverse ++ rf g a :: st) (hd : decode cc pc = .ok (.invokevirtual idx, 3)) (hr : (fr1 + 1 ≤ fr ∧ 8 + (nLy + 11) + lo1 ≤ lo) ∧ cells + mc1 ≤ mc ∧ slots + ms1 ≤ ms) (hsz : w1.2.2.2.2 = w.2.2.2.2 + mc1) (K : XE g (cells + mc1) (slots + ms1) w1 (pc + 3) lv (.int r :: st)) : XE g cells slots w pc lv st0 := by
  obtain ⟨B, p, e, Rm, s, m, args, below, meth, c, Q⟩ := g
  subst hs
  intro H locs ls hz hP hS hl T hT X
  have hsz0 : H.size = B.2.1 + w.2.2.2.2 := by rw [← hT]; exact sz_of X hz C.2.2.2.2.2.1 (by rw [hT]; exact hP)
  obtain ⟨hx, hb, hml, hown, hSW, hbs, hlk, e1, e2, e3, e4⟩ := C
  subst e1 e2 e3 e4
  have hts : ∀ w : Cond, Wk w → w.before args s = true := fun w hw => hSW.1 w hw _
  obtain ⟨l1, l2, l3, l4, l5, l6⟩ := lk
  subst hCn
  refine va_calli (va_runVN (As := As) (rest := st) (Ts := []) ⟨hx, hb, hml, hown, fun w h => by cases h⟩ ctr ⟨va_cnB np (fun w hw => hts w (one1 l1 w hw)) (good1 l1) rfl rfl rfl (hSW.2.1 _ l6) (hts _ l2) l5 hr.1, hts _ l3, hts _ l4⟩ ⟨WD.blind, va_recv hSW.2.2.1 hP (ci := kd) (q0 := a) hKd.1 (cell_get hKd ha hP), fun U hU hW => ⟨rfl, by rw [hU]; exact hsz0, by rw [hU]; exact hP, hSW.step hW (fun a h1 h2 => by rw [hU]; exact hS.2.1 a h1 h2) (by rw [hU]; exact hS.1)⟩⟩ rfl hnp (by rw [← hml]; exact hl.1) rfl (lv_room hst) hd hr.2) hS (fun q _ h => h) (fun q h => h) (fun r9 u t H1 locs1 ht hvm hw hB hz1 hk1 hS1 => ?_) T hT X
  subst hw
  exact K H1 locs1 ls (by rw [hsz]; have := hz; omega) (by rw [← ht]; exact hB.2.1) hS1 hl
theorem xr_callSI (C : Cx g own cc nL fr lo mc ms) {y : MethodName} {cy : ByteArray} {nLy fr1 lo1 mc1 ms1 idx np : Nat} {ret : Option FieldType} {r : Int32} {w1 : Wt} {st0 : List Value} (As : List Value) (lk : LkS own idx y cy nLy ret np) (ctr : CtrI g.1 y cy nLy ret fr1 lo1 mc1 ms1 (As) w r w1) (hnp : As.length = np) (hst : (st.map fun v => v.category).sum ≤ 8) (hs : st0 = As.reverse ++ st) (hd : decode cc pc = .ok (.invokestatic idx, 3)) (hr : (fr1 + 1 ≤ fr ∧ 8 + (nLy + 11) + lo1 ≤ lo) ∧ cells + mc1 ≤ mc ∧ slots + ms1 ≤ ms) (hsz : w1.2.2.2.2 = w.2.2.2.2 + mc1) (K : XE g (cells + mc1) (slots + ms1) w1 (pc + 3) lv (.int r :: st)) : XE g cells slots w pc lv st0 := by
  obtain ⟨B, p, e, Rm, s, m, args, below, meth, c, Q⟩ := g
  subst hs
  intro H locs ls hz hP hS hl T hT X
  have hsz0 : H.size = B.2.1 + w.2.2.2.2 := by rw [← hT]; exact sz_of X hz C.2.2.2.2.2.1 (by rw [hT]; exact hP)
  obtain ⟨hx, hb, hml, hown, hSW, hbs, hlk, e1, e2, e3, e4⟩ := C
  subst e1 e2 e3 e4
  have hts : ∀ w : Cond, Wk w → w.before args s = true := fun w hw => hSW.1 w hw _
  obtain ⟨l1, l2, l3, l4, l5⟩ := lk
  refine va_calli (va_runS (As := As) (rest := st) (Ts := []) ⟨hx, hb, hml, hown, fun w h => by cases h⟩ ctr ⟨callB_of np (fun w hw => hts w (one1 l1 w hw)) (good1 l1) rfl rfl rfl (hts _ l2) (hts _ l5) l4 hr.1, hts _ l3⟩ ⟨WD.blind, fun U hU hW => ⟨rfl, by rw [hU]; exact hsz0, by rw [hU]; exact hP, hSW.step hW (fun a h1 h2 => by rw [hU]; exact hS.2.1 a h1 h2) (by rw [hU]; exact hS.1)⟩⟩ rfl hnp (by rw [← hml]; exact hl.1) rfl (lv_room hst) hd hr.2) hS (fun q _ h => h) (fun q h => h) (fun r9 u t H1 locs1 ht hvm hw hB hz1 hk1 hS1 => ?_) T hT X
  subst hw
  exact K H1 locs1 ls (by rw [hsz]; have := hz; omega) (by rw [← ht]; exact hB.2.1) hS1 hl
theorem xr_callSNI (C : Cx g own cc nL fr lo mc ms) {y : MethodName} {cy : ByteArray} {nLy fr1 lo1 mc1 ms1 idx np : Nat} {ret : Option FieldType} {r : Int32} {w1 : Wt} {st0 : List Value} (As : List Value) (lk : LkSN own idx y cy nLy ret np) (ctr : CtrI g.1 y cy nLy ret fr1 lo1 mc1 ms1 (As) w r w1) (hnp : As.length = np) (hst : (st.map fun v => v.category).sum ≤ 8) (hs : st0 = As.reverse ++ st) (hd : decode cc pc = .ok (.invokestatic idx, 3)) (hr : (fr1 + 1 ≤ fr ∧ 8 + (nLy + 11) + lo1 ≤ lo) ∧ cells + mc1 ≤ mc ∧ slots + ms1 ≤ ms) (hsz : w1.2.2.2.2 = w.2.2.2.2 + mc1) (K : XE g (cells + mc1) (slots + ms1) w1 (pc + 3) lv (.int r :: st)) : XE g cells slots w pc lv st0 := by
  obtain ⟨B, p, e, Rm, s, m, args, below, meth, c, Q⟩ := g
  subst hs
  intro H locs ls hz hP hS hl T hT X
  have hsz0 : H.size = B.2.1 + w.2.2.2.2 := by rw [← hT]; exact sz_of X hz C.2.2.2.2.2.1 (by rw [hT]; exact hP)
  obtain ⟨hx, hb, hml, hown, hSW, hbs, hlk, e1, e2, e3, e4⟩ := C
  subst e1 e2 e3 e4
  have hts : ∀ w : Cond, Wk w → w.before args s = true := fun w hw => hSW.1 w hw _
  obtain ⟨l1, l2, l3, l4, l5⟩ := lk
  refine va_calli (va_runSN (As := As) (rest := st) (Ts := []) ⟨hx, hb, hml, hown, fun w h => by cases h⟩ ctr ⟨va_cnB np (fun w hw => hts w (one1 l1 w hw)) (good1 l1) rfl rfl rfl (hSW.2.1 _ l5) (hts _ l2) l4 hr.1, hts _ l3, trivial⟩ ⟨WD.blind, fun U hU hW => ⟨rfl, by rw [hU]; exact hsz0, by rw [hU]; exact hP, hSW.step hW (fun a h1 h2 => by rw [hU]; exact hS.2.1 a h1 h2) (by rw [hU]; exact hS.1)⟩⟩ rfl hnp (by rw [← hml]; exact hl.1) rfl (lv_room hst) hd hr.2) hS (fun q _ h => h) (fun q h => h) (fun r9 u t H1 locs1 ht hvm hw hB hz1 hk1 hS1 => ?_) T hT X
  subst hw
  exact K H1 locs1 ls (by rw [hsz]; have := hz; omega) (by rw [← ht]; exact hB.2.1) hS1 hl
theorem xr_callVV (C : Cx g own cc nL fr lo mc ms) {y : MethodName} {cy : ByteArray} {nLy fr1 lo1 mc1 ms1 idx np a kd n : Nat} {w1 : Wt} {st0 : List Value} (As : List Value) {Cn : String} {T : u_T} {ty0 : Nat → FieldType} (lk : LkV own idx y cy nLy none np) (ctr : CtrV g.1 y cy nLy fr1 lo1 mc1 ms1 (rf g a :: As) w w1) (hKd : Kd kd Cn T n ty0) (hCn : Cn = y.cls) (ha : ta w.2 a kd) (hnp : As.length = np) (hst : (st.map fun v => v.category).sum ≤ 8) (hs : st0 = As.reverse ++ rf g a :: st) (hd : decode cc pc = .ok (.invokevirtual idx, 3)) (hr : (fr1 + 1 ≤ fr ∧ 8 + (nLy + 11) + lo1 ≤ lo) ∧ cells + mc1 ≤ mc ∧ slots + ms1 ≤ ms) (hsz : w1.2.2.2.2 = w.2.2.2.2 + mc1) (K : XE g (cells + mc1) (slots + ms1) w1 (pc + 3) lv (st)) : XE g cells slots w pc lv st0 := by
  obtain ⟨B, p, e, Rm, s, m, args, below, meth, c, Q⟩ := g
  subst hs
  intro H locs ls hz hP hS hl T hT X
  have hsz0 : H.size = B.2.1 + w.2.2.2.2 := by rw [← hT]; exact sz_of X hz C.2.2.2.2.2.1 (by rw [hT]; exact hP)
  obtain ⟨hx, hb, hml, hown, hSW, hbs, hlk, e1, e2, e3, e4⟩ := C
  subst e1 e2 e3 e4
  have hts : ∀ w : Cond, Wk w → w.before args s = true := fun w hw => hSW.1 w hw _
  obtain ⟨l1, l2, l3, l4, l5, l6⟩ := lk
  subst hCn
  refine va_callv (va_runV (As := As) (rest := st) (Ts := []) ⟨hx, hb, hml, hown, fun w h => by cases h⟩ ctr ⟨callB_of np (fun w hw => hts w (one1 l1 w hw)) (good1 l1) rfl rfl rfl (hts _ l2) (hts _ l6) l5 hr.1, hts _ l3, hts _ l4⟩ ⟨WD.blind, va_recv hSW.2.2.1 hP (ci := kd) (q0 := a) hKd.1 (cell_get hKd ha hP), fun U hU hW => ⟨rfl, by rw [hU]; exact hsz0, by rw [hU]; exact hP, hSW.step hW (fun a h1 h2 => by rw [hU]; exact hS.2.1 a h1 h2) (by rw [hU]; exact hS.1)⟩⟩ rfl hnp (by rw [← hml]; exact hl.1) rfl (lv_room hst) hd hr.2) hS (fun q _ h => h) (fun q h => h) (fun u t H1 locs1 ht hvm hw hB hz1 hk1 hS1 => ?_) T hT X
  exact K H1 locs1 ls (by rw [hsz]; have := hz; omega) (by rw [← ht]; exact hB.2.1) hS1 hl
theorem xr_callNV (C : Cx g own cc nL fr lo mc ms) {y : MethodName} {cy : ByteArray} {nLy fr1 lo1 mc1 ms1 idx np a kd n : Nat} {w1 : Wt} {st0 : List Value} (As : List Value) {Cn : String} {T : u_T} {ty0 : Nat → FieldType} (lk : LkN own idx y cy nLy none np) (ctr : CtrV g.1 y cy nLy fr1 lo1 mc1 ms1 (rf g a :: As) w w1) (hKd : Kd kd Cn T n ty0) (hCn : Cn = y.cls) (ha : ta w.2 a kd) (hnp : As.length = np) (hst : (st.map fun v => v.category).sum ≤ 8) (hs : st0 = As.reverse ++ rf g a :: st) (hd : decode cc pc = .ok (.invokevirtual idx, 3)) (hr : (fr1 + 1 ≤ fr ∧ 8 + (nLy + 11) + lo1 ≤ lo) ∧ cells + mc1 ≤ mc ∧ slots + ms1 ≤ ms) (hsz : w1.2.2.2.2 = w.2.2.2.2 + mc1) (K : XE g (cells + mc1) (slots + ms1) w1 (pc + 3) lv (st)) : XE g cells slots w pc lv st0 := by
  obtain ⟨B, p, e, Rm, s, m, args, below, meth, c, Q⟩ := g
  subst hs
  intro H locs ls hz hP hS hl T hT X
  have hsz0 : H.size = B.2.1 + w.2.2.2.2 := by rw [← hT]; exact sz_of X hz C.2.2.2.2.2.1 (by rw [hT]; exact hP)
  obtain ⟨hx, hb, hml, hown, hSW, hbs, hlk, e1, e2, e3, e4⟩ := C
  subst e1 e2 e3 e4
  have hts : ∀ w : Cond, Wk w → w.before args s = true := fun w hw => hSW.1 w hw _
  obtain ⟨l1, l2, l3, l4, l5, l6⟩ := lk
  subst hCn
  refine va_callv (va_runVN (As := As) (rest := st) (Ts := []) ⟨hx, hb, hml, hown, fun w h => by cases h⟩ ctr ⟨va_cnB np (fun w hw => hts w (one1 l1 w hw)) (good1 l1) rfl rfl rfl (hSW.2.1 _ l6) (hts _ l2) l5 hr.1, hts _ l3, hts _ l4⟩ ⟨WD.blind, va_recv hSW.2.2.1 hP (ci := kd) (q0 := a) hKd.1 (cell_get hKd ha hP), fun U hU hW => ⟨rfl, by rw [hU]; exact hsz0, by rw [hU]; exact hP, hSW.step hW (fun a h1 h2 => by rw [hU]; exact hS.2.1 a h1 h2) (by rw [hU]; exact hS.1)⟩⟩ rfl hnp (by rw [← hml]; exact hl.1) rfl (lv_room hst) hd hr.2) hS (fun q _ h => h) (fun q h => h) (fun u t H1 locs1 ht hvm hw hB hz1 hk1 hS1 => ?_) T hT X
  exact K H1 locs1 ls (by rw [hsz]; have := hz; omega) (by rw [← ht]; exact hB.2.1) hS1 hl
theorem xr_callSV (C : Cx g own cc nL fr lo mc ms) {y : MethodName} {cy : ByteArray} {nLy fr1 lo1 mc1 ms1 idx np : Nat} {w1 : Wt} {st0 : List Value} (As : List Value) (lk : LkS own idx y cy nLy none np) (ctr : CtrV g.1 y cy nLy fr1 lo1 mc1 ms1 (As) w w1) (hnp : As.length = np) (hst : (st.map fun v => v.category).sum ≤ 8) (hs : st0 = As.reverse ++ st) (hd : decode cc pc = .ok (.invokestatic idx, 3)) (hr : (fr1 + 1 ≤ fr ∧ 8 + (nLy + 11) + lo1 ≤ lo) ∧ cells + mc1 ≤ mc ∧ slots + ms1 ≤ ms) (hsz : w1.2.2.2.2 = w.2.2.2.2 + mc1) (K : XE g (cells + mc1) (slots + ms1) w1 (pc + 3) lv (st)) : XE g cells slots w pc lv st0 := by
  obtain ⟨B, p, e, Rm, s, m, args, below, meth, c, Q⟩ := g
  subst hs
  intro H locs ls hz hP hS hl T hT X
  have hsz0 : H.size = B.2.1 + w.2.2.2.2 := by rw [← hT]; exact sz_of X hz C.2.2.2.2.2.1 (by rw [hT]; exact hP)
  obtain ⟨hx, hb, hml, hown, hSW, hbs, hlk, e1, e2, e3, e4⟩ := C
  subst e1 e2 e3 e4
  have hts : ∀ w : Cond, Wk w → w.before args s = true := fun w hw => hSW.1 w hw _
  obtain ⟨l1, l2, l3, l4, l5⟩ := lk
  refine va_callv (va_runS (As := As) (rest := st) (Ts := []) ⟨hx, hb, hml, hown, fun w h => by cases h⟩ ctr ⟨callB_of np (fun w hw => hts w (one1 l1 w hw)) (good1 l1) rfl rfl rfl (hts _ l2) (hts _ l5) l4 hr.1, hts _ l3⟩ ⟨WD.blind, fun U hU hW => ⟨rfl, by rw [hU]; exact hsz0, by rw [hU]; exact hP, hSW.step hW (fun a h1 h2 => by rw [hU]; exact hS.2.1 a h1 h2) (by rw [hU]; exact hS.1)⟩⟩ rfl hnp (by rw [← hml]; exact hl.1) rfl (lv_room hst) hd hr.2) hS (fun q _ h => h) (fun q h => h) (fun u t H1 locs1 ht hvm hw hB hz1 hk1 hS1 => ?_) T hT X
  exact K H1 locs1 ls (by rw [hsz]; have := hz; omega) (by rw [← ht]; exact hB.2.1) hS1 hl
theorem xr_callSNV (C : Cx g own cc nL fr lo mc ms) {y : MethodName} {cy : ByteArray} {nLy fr1 lo1 mc1 ms1 idx np : Nat} {w1 : Wt} {st0 : List Value} (As : List Value) (lk : LkSN own idx y cy nLy none np) (ctr : CtrV g.1 y cy nLy fr1 lo1 mc1 ms1 (As) w w1) (hnp : As.length = np) (hst : (st.map fun v => v.category).sum ≤ 8) (hs : st0 = As.reverse ++ st) (hd : decode cc pc = .ok (.invokestatic idx, 3)) (hr : (fr1 + 1 ≤ fr ∧ 8 + (nLy + 11) + lo1 ≤ lo) ∧ cells + mc1 ≤ mc ∧ slots + ms1 ≤ ms) (hsz : w1.2.2.2.2 = w.2.2.2.2 + mc1) (K : XE g (cells + mc1) (slots + ms1) w1 (pc + 3) lv (st)) : XE g cells slots w pc lv st0 := by
  obtain ⟨B, p, e, Rm, s, m, args, below, meth, c, Q⟩ := g
  subst hs
  intro H locs ls hz hP hS hl T hT X
  have hsz0 : H.size = B.2.1 + w.2.2.2.2 := by rw [← hT]; exact sz_of X hz C.2.2.2.2.2.1 (by rw [hT]; exact hP)
  obtain ⟨hx, hb, hml, hown, hSW, hbs, hlk, e1, e2, e3, e4⟩ := C
  subst e1 e2 e3 e4
  have hts : ∀ w : Cond, Wk w → w.before args s = true := fun w hw => hSW.1 w hw _
  obtain ⟨l1, l2, l3, l4, l5⟩ := lk
  refine va_callv (va_runSN (As := As) (rest := st) (Ts := []) ⟨hx, hb, hml, hown, fun w h => by cases h⟩ ctr ⟨va_cnB np (fun w hw => hts w (one1 l1 w hw)) (good1 l1) rfl rfl rfl (hSW.2.1 _ l5) (hts _ l2) l4 hr.1, hts _ l3, trivial⟩ ⟨WD.blind, fun U hU hW => ⟨rfl, by rw [hU]; exact hsz0, by rw [hU]; exact hP, hSW.step hW (fun a h1 h2 => by rw [hU]; exact hS.2.1 a h1 h2) (by rw [hU]; exact hS.1)⟩⟩ rfl hnp (by rw [← hml]; exact hl.1) rfl (lv_room hst) hd hr.2) hS (fun q _ h => h) (fun q h => h) (fun u t H1 locs1 ht hvm hw hB hz1 hk1 hS1 => ?_) T hT X
  exact K H1 locs1 ls (by rw [hsz]; have := hz; omega) (by rw [← ht]; exact hB.2.1) hS1 hl
end XC
/-! ===== constants, switches, Math, copies, the table NEAREST ===== -/
def mxI (x y : Int32) : Int32 := if x < y then y else x
def mnI (x y : Int32) : Int32 := if y < x then y else x
def cpy (I : Mem) (src dst : Nat) (sp dp n : Int32) : Mem := fun x => if x = dst then va_cpy (I src) (I dst) (ix sp) (ix dp) (ix n) else I x
def spn (sp n : Int32) (L : Nat) : Bool := decide (0 ≤ sp.toInt ∧ 0 ≤ n.toInt ∧ ix sp + ix n ≤ L)
abbrev nrf (g : Cfg) : Value := .ref g.1.2.2.2.2.1
section XM
variable {g : Cfg} {own : String} {cc : ByteArray} {nL fr lo mc ms cells slots pc idx : Nat} {w : Wt} {lv : List (Nat × Value)} {st : List Value}
theorem xr_ldc (C : Cx g own cc nL fr lo mc ms) {v : Int32} (hw : Wk (Cond.constant own idx v)) (hd : decode cc pc = .ok (.ldc idx, 2)) (K : XE g cells slots w (pc + 2) lv (.int v :: st)) : XE g cells slots w pc lv st := by
  obtain ⟨B, p, e, Rm, s, m, args, below, meth, c, Q⟩ := g
  intro H locs ls hz hP hS hl
  exact lv_ldc C.1 C.2.1 C.2.2.2.1 (C.2.2.2.2.1.1 _ hw _) hd (K H locs ls hz hP hS hl)
theorem xr_ldcw (C : Cx g own cc nL fr lo mc ms) {v : Int32} (hw : Wk (Cond.constant own idx v)) (hd : decode cc pc = .ok (.ldc_w idx, 3)) (K : XE g cells slots w (pc + 3) lv (.int v :: st)) : XE g cells slots w pc lv st := by
  obtain ⟨B, p, e, Rm, s, m, args, below, meth, c, Q⟩ := g
  intro H locs ls hz hP hS hl
  exact lv_ldcw C.1 C.2.1 C.2.2.2.1 (C.2.2.2.2.1.1 _ hw _) hd (K H locs ls hz hP hS hl)
theorem xr_ldc2 (C : Cx g own cc nL fr lo mc ms) {v : Int64} (hw : Wk (Cond.constantLong own idx v)) (hd : decode cc pc = .ok (.ldc2_w idx, 3)) (K : XE g cells slots w (pc + 3) lv (.long v :: st)) : XE g cells slots w pc lv st := by
  obtain ⟨B, p, e, Rm, s, m, args, below, meth, c, Q⟩ := g
  intro H locs ls hz hP hS hl
  exact lv_ldc2 C.1 C.2.1 C.2.2.2.1 (C.2.2.2.2.1.1 _ hw _) hd (K H locs ls hz hP hS hl)
/-- one row of a switch: at lo + k it goes to tgt; else on -/
theorem xr_swOut (C : Cx g own cc nL fr lo mc ms) {x : Int32} {dflt l1 h1 : Int} {offs : Array Int} {len tgt : Nat} (hd : decode cc pc = .ok (.tableswitch dflt l1 h1 offs, len)) (h : x.toInt < l1 ∨ h1 < x.toInt) (ht : (pc : Int) + dflt = (tgt : Int)) (K : XE g cells slots w tgt lv st) : XE g cells slots w pc lv (.int x :: st) := by
  obtain ⟨B, p, e, Rm, s, m, args, below, meth, c, Q⟩ := g
  intro H locs ls hz hP hS hl
  exact lv_tableOut C.1 C.2.1 hd h ht (K H locs ls hz hP hS hl)
theorem xr_swIn (C : Cx g own cc nL fr lo mc ms) {x v : Int32} {dflt l1 hh off : Int} {offs : Array Int} {len tgt : Nat} (hd : decode cc pc = .ok (.tableswitch dflt l1 hh offs, len)) (hx : x = v) (h1 : ¬ v.toInt < l1) (h2 : ¬ hh < v.toInt) (ho : offs[(v.toInt - l1).toNat]? = some off) (ht : (pc : Int) + off = (tgt : Int)) (K : XE g cells slots w tgt lv st) : XE g cells slots w pc lv (.int x :: st) := by
  subst hx
  obtain ⟨B, p, e, Rm, s, m, args, below, meth, c, Q⟩ := g
  intro H locs ls hz hP hS hl
  exact lv_tableIn C.1 C.2.1 hd h1 h2 ho ht (K H locs ls hz hP hS hl)
theorem xr_max (C : Cx g own cc nL fr lo mc ms) {x y : Int32} (w1 : Wk (Cond.methodLink own idx Lib.Math.max.name)) (w2 : Wk (Cond.static Lib.Math.max.name)) (w3 : Wk (Cond.initialized "java/lang/Math")) (w4 : Wk (Cond.code Lib.Math.max.name Lib.Math.max.code 2 (some .int))) (hf : 1 ≤ fr) (hlo : (st.map fun v => v.category).sum + 13 ≤ lo) (hc : cells ≤ mc ∧ slots ≤ ms) (hd : decode cc pc = .ok (.invokestatic idx, 3)) (K : XE g cells slots w (pc + 3) lv (.int (mxI x y) :: st)) : XE g cells slots w pc lv (.int y :: .int x :: st) := by
  obtain ⟨B, p, e, Rm, s, m, args, below, meth, c, Q⟩ := g
  intro H locs ls hz hP hS hl
  obtain ⟨hx, hb, hml, hown, hSW, hbs, hlk, e1, e2, e3, e4⟩ := C
  subst e1 e2 e3 e4
  exact va_mmax hx hb hl.1.symm hown (hSW.1 _ w1 _) (hSW.1 _ w2 _) (hSW.1 _ w3 _) (hSW.1 _ w4 _) hf hlo hc.1 hc.2 hd (K H locs ls hz hP hS hl)
theorem xr_min (C : Cx g own cc nL fr lo mc ms) {x y : Int32} (w1 : Wk (Cond.methodLink own idx Lib.Math.min.name)) (w2 : Wk (Cond.static Lib.Math.min.name)) (w3 : Wk (Cond.initialized "java/lang/Math")) (w4 : Wk (Cond.code Lib.Math.min.name Lib.Math.min.code 2 (some .int))) (hf : 1 ≤ fr) (hlo : (st.map fun v => v.category).sum + 13 ≤ lo) (hc : cells ≤ mc ∧ slots ≤ ms) (hd : decode cc pc = .ok (.invokestatic idx, 3)) (K : XE g cells slots w (pc + 3) lv (.int (mnI x y) :: st)) : XE g cells slots w pc lv (.int y :: .int x :: st) := by
  obtain ⟨B, p, e, Rm, s, m, args, below, meth, c, Q⟩ := g
  intro H locs ls hz hP hS hl
  obtain ⟨hx, hb, hml, hown, hSW, hbs, hlk, e1, e2, e3, e4⟩ := C
  subst e1 e2 e3 e4
  exact va_mmin hx hb hl.1.symm hown (hSW.1 _ w1 _) (hSW.1 _ w2 _) (hSW.1 _ w3 _) (hSW.1 _ w4 _) hf hlo hc.1 hc.2 hd (K H locs ls hz hP hS hl)
theorem i32_nn {x : Int32} (h : 0 ≤ x.toInt) : ¬ x < 0 := fun q => by
  have := Int32.lt_iff_toInt_lt.mp q
  simp at this
  omega
theorem xr_copy (C : Cx g own cc nL fr lo mc ms) {sp dp n : Int32} {a b na nb : Nat} (w1 : Wk (Cond.methodLink own idx arraycopyName)) (w2 : Wk (Cond.native arraycopyName)) (w3 : Wk (Cond.static arraycopyName)) (w4 : Wk (Cond.initialized "java/lang/System")) (ha : tA w.2 a 11 na) (hb : tA w.2 b 11 nb) (h1 : spn sp n na = true) (h2 : spn dp n nb = true) (hf : 1 ≤ fr) (hlo : (st.map fun v => v.category).sum + (nativeFrameWords "java/lang/System" "arraycopy" 5 + 11) ≤ lo) (hd : decode cc pc = .ok (.invokestatic idx, 3)) {I1 : Mem} (hI : I1 = cpy w.1 a b sp dp n) (K : XE g cells slots (I1, w.2) (pc + 3) lv st) : XE g cells slots w pc lv (.int n :: .int dp :: rf g b :: .int sp :: rf g a :: st) := by
  obtain ⟨B, p, e, Rm, s, m, args, below, meth, c, Q⟩ := g
  obtain ⟨I, R, K0, N, sz⟩ := w
  intro H locs ls hz hP hS hl
  obtain ⟨hx, hbb, hml, hown, hSW, hbs, hlk, e1, e2, e3, e4⟩ := C
  subst e1 e2 e3 e4
  obtain ⟨p1, p2, p3⟩ := of_decide_eq_true h1
  obtain ⟨q1, q2, q3⟩ := of_decide_eq_true h2
  refine va_copyi hx hbb hl.1.symm hown (hSW.1 _ w1 _) (hSW.1 _ w2 _) (hSW.1 _ w3 _) (hSW.1 _ w4 _) hSW.2.2.1 hP pool_D hS a b 0 0 (cell_int ha) (cell_int hb) rfl rfl rfl (i32_nn p1) (i32_nn q1) (i32_nn p2) p3 q3 (fun _ _ => rfl) hf hlo hd (fun H1 locs1 hP1 hD1 hS1 => ?_)
  refine K H1 locs1 ls hz ?_ hS1 hl
  rw [hI]
  rw [pool_set (I1 := cpy I a b sp dp n) (R1 := R) hb.2.1 (by rw [cellE_int hb.1 hb.2.2]; unfold cpy; rw [if_pos rfl]; rfl) (fun x hx => if_neg hx) (fun _ _ => rfl)] at hP1
  exact hP1
theorem xr_near (C : Cx g "BumperBalls" cc nL fr lo mc ms) (w1 : Wk (Cond.fieldLink "BumperBalls" idx "BumperBalls" "NEAREST" "[I")) (hd : decode cc pc = .ok (.getstatic idx, 3)) (K : XE g cells slots w (pc + 3) lv (nrf g :: st)) : XE g cells slots w pc lv st := by
  obtain ⟨B, p, e, Rm, s, m, args, below, meth, c, Q⟩ := g
  intro H locs ls hz hP hS hl
  exact va_gets C.1 C.2.1 C.2.2.2.2.1.2.2.2.1 hS C.2.2.2.1 (C.2.2.2.2.1.1 _ w1 _) (fun _ h => h) hd (K H locs ls hz hP hS hl)
theorem xr_nearAt (C : Cx g own cc nL fr lo mc ms) {i : Int32} (hi : inb i 6 = true) (hd : decode cc pc = .ok (.iaload, 1)) (K : XE g cells slots w (pc + 1) lv (.int (nearV (ix i)) :: st)) : XE g cells slots w pc lv (.int i :: nrf g :: st) := by
  obtain ⟨B, p, e, Rm, s, m, args, below, meth, c, Q⟩ := g
  intro H locs ls hz hP hS hl
  obtain ⟨f1, f2, f3, f4, f5⟩ := C.2.2.2.2.1.2.2.2
  exact va_sld C.1 C.2.1 f2 f4 (Nat.not_le.mpr f3) hS (inb_in hi) hd (K H locs ls hz hP hS hl)
theorem xr_nearLen (C : Cx g own cc nL fr lo mc ms) (hd : decode cc pc = .ok (.arraylength, 1)) (K : XE g cells slots w (pc + 1) lv (.int 6 :: st)) : XE g cells slots w pc lv (nrf g :: st) := by
  obtain ⟨B, p, e, Rm, s, m, args, below, meth, c, Q⟩ := g
  intro H locs ls hz hP hS hl
  obtain ⟨f1, f2, f3, f4, f5⟩ := C.2.2.2.2.1.2.2.2
  exact va_slen C.1 C.2.1 f2 f4 (Nat.not_le.mpr f3) hS hd (K H locs ls hz hP hS hl)
theorem xr_alen (C : Cx g own cc nL fr lo mc ms) {a n : Nat} (ha : tA w.2 a 11 n) (hd : decode cc pc = .ok (.arraylength, 1)) (K : XE g cells slots w (pc + 1) lv (.int (nI n) :: st)) : XE g cells slots w pc lv (rf g a :: st) := by
  obtain ⟨B, p, e, Rm, s, m, args, below, meth, c, Q⟩ := g
  intro H locs ls hz hP hS hl
  exact va_alen (v := nI n) C.1 C.2.1 C.2.2.2.2.1.2.2.1 hP a 0 (cell_int ha) rfl rfl hd (K H locs ls hz hP hS hl)
end XM
end
section
/-! ===== layouts: where each object and array lies ===== -/
abbrev srf (g : Cfg) (i : Nat) : Value := .ref (g.1.2.2.2.2.2.1 i)
abbrev rfB (B : Bs) (a : Nat) : Value := .ref (B.2.1 + a)
abbrev srfB (B : Bs) (i : Nat) : Value := .ref (B.2.2.2.2.2.1 i)
def FU : Nat := 100000
def zb (v : Int32) : Bool := decide (v = 0 ∨ v = 1)
theorem zb_ok {v : Int32} (h : zb v = true) : narrow .boolean (.int v) = .int v ∧ fits .boolean (.int v) = true := by
  rcases of_decide_eq_true h with rfl | rfl <;> exact ⟨rfl, rfl⟩
theorem inb_lt {i : Int32} {n : Nat} (h : inb i n = true) : ix i < n := Nat.not_le.mp fun q => inb_in h (Or.inr q)
theorem if_or {c : Prop} [Decidable c] {α : Type} {A Bx : Option α} {o : α} (h : (if c then A else Bx) = some o) : (c ∧ A = some o) ∨ (¬ c ∧ Bx = some o) := by
  by_cases hc : c
  · exact Or.inl ⟨hc, (if_pos hc).symm.trans h⟩
  · exact Or.inr ⟨hc, (if_neg hc).symm.trans h⟩
theorem xr_nm {g : Cfg} {cells slots pc : Nat} {w : Wt} {lv : List (Nat × Value)} {st : List Value} {v e : Int32} (h : v = e) (K : XE g cells slots w pc lv (.int v :: st)) : XE g cells slots w pc lv (.int e :: st) := h ▸ K
theorem sw_out2 {x : Int32} (h0 : ¬ x = 0) (h1 : ¬ x = 1) : x.toInt < 0 ∨ 1 < x.toInt := by
  have key : ∀ k : Int32, ¬ x = k → ¬ x.toInt = k.toInt := fun k hk q => hk (Int32.toInt_inj.mp q)
  have q0 := key 0 h0
  have q1 := key 1 h1
  rw [show (0 : Int32).toInt = 0 from rfl] at q0
  rw [show (1 : Int32).toInt = 1 from rfl] at q1
  omega
theorem sw_out3 {x : Int32} (h0 : ¬ x = 0) (h1 : ¬ x = 1) (h2 : ¬ x = 2) : x.toInt < 0 ∨ 2 < x.toInt := by
  have key : ∀ k : Int32, ¬ x = k → ¬ x.toInt = k.toInt := fun k hk q => hk (Int32.toInt_inj.mp q)
  have q0 := key 0 h0
  have q1 := key 1 h1
  have q2 := key 2 h2
  rw [show (0 : Int32).toInt = 0 from rfl] at q0
  rw [show (1 : Int32).toInt = 1 from rfl] at q1
  rw [show (2 : Int32).toInt = 2 from rfl] at q2
  omega
theorem sw_out4 {x : Int32} (h0 : ¬ x = 0) (h1 : ¬ x = 1) (h2 : ¬ x = 2) (h3 : ¬ x = 3) : x.toInt < 0 ∨ 3 < x.toInt := by
  have key : ∀ k : Int32, ¬ x = k → ¬ x.toInt = k.toInt := fun k hk q => hk (Int32.toInt_inj.mp q)
  have q0 := key 0 h0
  have q1 := key 1 h1
  have q2 := key 2 h2
  have q3 := key 3 h3
  rw [show (0 : Int32).toInt = 0 from rfl] at q0
  rw [show (1 : Int32).toInt = 1 from rfl] at q1
  rw [show (2 : Int32).toInt = 2 from rfl] at q2
  rw [show (3 : Int32).toInt = 3 from rfl] at q3
  omega
theorem sw_out5 {x : Int32} (h0 : ¬ x = 0) (h1 : ¬ x = 1) (h2 : ¬ x = 2) (h3 : ¬ x = 3) (h4 : ¬ x = 4) : x.toInt < 0 ∨ 4 < x.toInt := by
  have key : ∀ k : Int32, ¬ x = k → ¬ x.toInt = k.toInt := fun k hk q => hk (Int32.toInt_inj.mp q)
  have q0 := key 0 h0
  have q1 := key 1 h1
  have q2 := key 2 h2
  have q3 := key 3 h3
  have q4 := key 4 h4
  rw [show (0 : Int32).toInt = 0 from rfl] at q0
  rw [show (1 : Int32).toInt = 1 from rfl] at q1
  rw [show (2 : Int32).toInt = 2 from rfl] at q2
  rw [show (3 : Int32).toInt = 3 from rfl] at q3
  rw [show (4 : Int32).toInt = 4 from rfl] at q4
  omega
theorem sw_out6 {x : Int32} (h0 : ¬ x = 0) (h1 : ¬ x = 1) (h2 : ¬ x = 2) (h3 : ¬ x = 3) (h4 : ¬ x = 4) (h5 : ¬ x = 5) : x.toInt < 0 ∨ 5 < x.toInt := by
  have key : ∀ k : Int32, ¬ x = k → ¬ x.toInt = k.toInt := fun k hk q => hk (Int32.toInt_inj.mp q)
  have q0 := key 0 h0
  have q1 := key 1 h1
  have q2 := key 2 h2
  have q3 := key 3 h3
  have q4 := key 4 h4
  have q5 := key 5 h5
  rw [show (0 : Int32).toInt = 0 from rfl] at q0
  rw [show (1 : Int32).toInt = 1 from rfl] at q1
  rw [show (2 : Int32).toInt = 2 from rfl] at q2
  rw [show (3 : Int32).toInt = 3 from rfl] at q3
  rw [show (4 : Int32).toInt = 4 from rfl] at q4
  rw [show (5 : Int32).toInt = 5 from rfl] at q5
  omega
theorem sw_out7 {x : Int32} (h0 : ¬ x = 0) (h1 : ¬ x = 1) (h2 : ¬ x = 2) (h3 : ¬ x = 3) (h4 : ¬ x = 4) (h5 : ¬ x = 5) (h6 : ¬ x = 6) : x.toInt < 0 ∨ 6 < x.toInt := by
  have key : ∀ k : Int32, ¬ x = k → ¬ x.toInt = k.toInt := fun k hk q => hk (Int32.toInt_inj.mp q)
  have q0 := key 0 h0
  have q1 := key 1 h1
  have q2 := key 2 h2
  have q3 := key 3 h3
  have q4 := key 4 h4
  have q5 := key 5 h5
  have q6 := key 6 h6
  rw [show (0 : Int32).toInt = 0 from rfl] at q0
  rw [show (1 : Int32).toInt = 1 from rfl] at q1
  rw [show (2 : Int32).toInt = 2 from rfl] at q2
  rw [show (3 : Int32).toInt = 3 from rfl] at q3
  rw [show (4 : Int32).toInt = 4 from rfl] at q4
  rw [show (5 : Int32).toInt = 5 from rfl] at q5
  rw [show (6 : Int32).toInt = 6 from rfl] at q6
  omega
theorem sw_out12 {x : Int32} (h1 : ¬ x = 1) (h2 : ¬ x = 2) : x.toInt < 1 ∨ 2 < x.toInt := by
  have key : ∀ k : Int32, ¬ x = k → ¬ x.toInt = k.toInt := fun k hk q => hk (Int32.toInt_inj.mp q)
  have q1 := key 1 h1
  have q2 := key 2 h2
  rw [show (1 : Int32).toInt = 1 from rfl] at q1
  rw [show (2 : Int32).toInt = 2 from rfl] at q2
  omega
theorem sw_out13 {x : Int32} (h1 : ¬ x = 1) (h2 : ¬ x = 2) (h3 : ¬ x = 3) : x.toInt < 1 ∨ 3 < x.toInt := by
  have key : ∀ k : Int32, ¬ x = k → ¬ x.toInt = k.toInt := fun k hk q => hk (Int32.toInt_inj.mp q)
  have q1 := key 1 h1
  have q2 := key 2 h2
  have q3 := key 3 h3
  rw [show (1 : Int32).toInt = 1 from rfl] at q1
  rw [show (2 : Int32).toInt = 2 from rfl] at q2
  rw [show (3 : Int32).toInt = 3 from rfl] at q3
  omega
theorem sw_out14 {x : Int32} (h1 : ¬ x = 1) (h2 : ¬ x = 2) (h3 : ¬ x = 3) (h4 : ¬ x = 4) : x.toInt < 1 ∨ 4 < x.toInt := by
  have key : ∀ k : Int32, ¬ x = k → ¬ x.toInt = k.toInt := fun k hk q => hk (Int32.toInt_inj.mp q)
  have q1 := key 1 h1
  have q2 := key 2 h2
  have q3 := key 3 h3
  have q4 := key 4 h4
  rw [show (1 : Int32).toInt = 1 from rfl] at q1
  rw [show (2 : Int32).toInt = 2 from rfl] at q2
  rw [show (3 : Int32).toInt = 3 from rfl] at q3
  rw [show (4 : Int32).toInt = 4 from rfl] at q4
  omega
theorem sw_out15 {x : Int32} (h1 : ¬ x = 1) (h2 : ¬ x = 2) (h3 : ¬ x = 3) (h4 : ¬ x = 4) (h5 : ¬ x = 5) : x.toInt < 1 ∨ 5 < x.toInt := by
  have key : ∀ k : Int32, ¬ x = k → ¬ x.toInt = k.toInt := fun k hk q => hk (Int32.toInt_inj.mp q)
  have q1 := key 1 h1
  have q2 := key 2 h2
  have q3 := key 3 h3
  have q4 := key 4 h4
  have q5 := key 5 h5
  rw [show (1 : Int32).toInt = 1 from rfl] at q1
  rw [show (2 : Int32).toInt = 2 from rfl] at q2
  rw [show (3 : Int32).toInt = 3 from rfl] at q3
  rw [show (4 : Int32).toInt = 4 from rfl] at q4
  rw [show (5 : Int32).toInt = 5 from rfl] at q5
  omega
theorem sw_out16 {x : Int32} (h1 : ¬ x = 1) (h2 : ¬ x = 2) (h3 : ¬ x = 3) (h4 : ¬ x = 4) (h5 : ¬ x = 5) (h6 : ¬ x = 6) : x.toInt < 1 ∨ 6 < x.toInt := by
  have key : ∀ k : Int32, ¬ x = k → ¬ x.toInt = k.toInt := fun k hk q => hk (Int32.toInt_inj.mp q)
  have q1 := key 1 h1
  have q2 := key 2 h2
  have q3 := key 3 h3
  have q4 := key 4 h4
  have q5 := key 5 h5
  have q6 := key 6 h6
  rw [show (1 : Int32).toInt = 1 from rfl] at q1
  rw [show (2 : Int32).toInt = 2 from rfl] at q2
  rw [show (3 : Int32).toInt = 3 from rfl] at q3
  rw [show (4 : Int32).toInt = 4 from rfl] at q4
  rw [show (5 : Int32).toInt = 5 from rfl] at q5
  rw [show (6 : Int32).toInt = 6 from rfl] at q6
  omega
theorem sw_out17 {x : Int32} (h1 : ¬ x = 1) (h2 : ¬ x = 2) (h3 : ¬ x = 3) (h4 : ¬ x = 4) (h5 : ¬ x = 5) (h6 : ¬ x = 6) (h7 : ¬ x = 7) : x.toInt < 1 ∨ 7 < x.toInt := by
  have key : ∀ k : Int32, ¬ x = k → ¬ x.toInt = k.toInt := fun k hk q => hk (Int32.toInt_inj.mp q)
  have q1 := key 1 h1
  have q2 := key 2 h2
  have q3 := key 3 h3
  have q4 := key 4 h4
  have q5 := key 5 h5
  have q6 := key 6 h6
  have q7 := key 7 h7
  rw [show (1 : Int32).toInt = 1 from rfl] at q1
  rw [show (2 : Int32).toInt = 2 from rfl] at q2
  rw [show (3 : Int32).toInt = 3 from rfl] at q3
  rw [show (4 : Int32).toInt = 4 from rfl] at q4
  rw [show (5 : Int32).toInt = 5 from rfl] at q5
  rw [show (6 : Int32).toInt = 6 from rfl] at q6
  rw [show (7 : Int32).toInt = 7 from rfl] at q7
  omega
def PlayAt (h : Shp) (a : Nat) : Prop := ta h a 4 ∧ (h.1 a 8 = some (a + 1) ∧ tA h (a + 1) 11 6)
def TableAt (h : Shp) (a : Nat) : Prop := ta h a 7 ∧ (h.1 a 2 = some (a + 1) ∧ tA h (a + 1) 11 6) ∧ (h.1 a 3 = some (a + 2) ∧ tA h (a + 2) 11 6) ∧ (h.1 a 4 = some (a + 3) ∧ tA h (a + 3) 11 6) ∧ (h.1 a 5 = some (a + 4) ∧ tA h (a + 4) 11 6) ∧ (h.1 a 6 = some (a + 5) ∧ tA h (a + 5) 11 42)
def LayerAt (h : Shp) (a : Nat) (n : Nat) : Prop := ta h a 3 ∧ (h.1 a 0 = some (a + 1) ∧ tA h (a + 1) 11 n) ∧ (h.1 a 1 = some (a + 2) ∧ tA h (a + 2) 11 n)
def ImageAt (h : Shp) (a : Nat) : Prop := ta h a 2 ∧ (h.1 a 0 = some (a + 1) ∧ TableAt h (a + 1)) ∧ (h.1 a 1 = some (a + 7) ∧ PlayAt h (a + 7))
def RowsAt (h : Shp) : Prop := ta h 1 5 ∧ (h.1 1 0 = some 2 ∧ tA h 2 11 8) ∧ (h.1 1 1 = some 3 ∧ tA h 3 11 8) ∧ (h.1 1 2 = some 4 ∧ (tA h 4 14 8 ∧ ∀ j : Nat, j < 8 → (h.1 4 j = some (5 + 1 * j) ∧ tA h (5 + 1 * j) 11 40)))
def TapeAt (h : Shp) : Prop := ta h 13 8 ∧ (h.1 13 0 = some 14 ∧ tA h 14 11 400) ∧ (h.1 13 2 = some 15 ∧ TableAt h 15)
def ActsAt (h : Shp) : Prop := ta h 29 0 ∧ (h.1 29 0 = some 30 ∧ (tA h 30 13 24 ∧ ∀ j : Nat, j < 24 → (h.1 30 j = some (31 + 2 * j) ∧ PlayAt h (31 + 2 * j))))
def AsksAt (h : Shp) : Prop := ta h 91 1 ∧ (h.1 91 0 = some 92 ∧ tA h 92 11 16)
def SearchAt (h : Shp) (nw : Nat) (nx : Nat) (n : Nat) : Prop := ta h 82 6 ∧ (h.1 82 0 = some nw ∧ LayerAt h nw n) ∧ (h.1 82 1 = some nx ∧ LayerAt h nx n) ∧ (h.1 82 2 = some 89 ∧ PlayAt h 89)
def XAt (h : Shp) : Prop := ta h 0 9 ∧ (h.1 0 0 = some 1 ∧ RowsAt h) ∧ (h.1 0 1 = some 13 ∧ TapeAt h) ∧ (h.1 0 2 = some 21 ∧ TableAt h 21) ∧ (h.1 0 3 = some 27 ∧ PlayAt h 27) ∧ (h.1 0 4 = some 29 ∧ ActsAt h) ∧ (h.1 0 5 = some 79 ∧ (tA h 79 12 2 ∧ ∀ j : Nat, j < 2 → (h.1 79 j = some (93 + 9 * j) ∧ ImageAt h (93 + 9 * j)))) ∧ (h.1 0 6 = some 80 ∧ PlayAt h 80) ∧ (h.1 0 7 = some 82 ∧ ta h 82 6) ∧ (h.1 0 8 = some 91 ∧ AsksAt h)
def MAt (h : Shp) : Prop := ta h 111 10 ∧ (h.1 111 0 = some 112 ∧ tA h 112 11 164) ∧ (h.1 111 1 = some 113 ∧ tA h 113 11 336) ∧ (h.1 111 3 = some 114 ∧ tA h 114 11 400) ∧ (h.1 111 7 = some 115 ∧ tA h 115 11 8) ∧ (h.1 111 8 = some 116 ∧ tA h 116 11 8) ∧ (h.1 111 9 = some 117 ∧ tA h 117 11 320) ∧ (h.1 111 10 = some 118 ∧ tA h 118 11 16) ∧ (h.1 111 16 = some 119 ∧ tA h 119 11 24) ∧ (h.1 111 20 = some 120 ∧ tA h 120 11 10752) ∧ (h.1 111 21 = some 121 ∧ tA h 121 11 10752)
theorem Kd0 : Kd 0 RX0 TX0 3 tyX0 := ⟨rfl, wk_u0, by decide, rfl, tyX0_ok, nmX0⟩
theorem Kd1 : Kd 1 RX1 TX1 6 tyX1 := ⟨rfl, wk_u1, by decide, rfl, tyX1_ok, nmX1⟩
theorem Kd2 : Kd 2 RX2 TX2 3 tyX2 := ⟨rfl, wk_u2, by decide, rfl, tyX2_ok, nmX2⟩
theorem Kd3 : Kd 3 RX3 TX3 3 tyX3 := ⟨rfl, wk_u3, by decide, rfl, tyX3_ok, nmX3⟩
theorem Kd4 : Kd 4 RX4 TX4 10 tyX4 := ⟨rfl, wk_u4, by decide, rfl, tyX4_ok, nmX4⟩
theorem Kd5 : Kd 5 RX5 TX5 3 tyX5 := ⟨rfl, wk_u5, by decide, rfl, tyX5_ok, nmX5⟩
theorem Kd6 : Kd 6 RX6 TX6 4 tyX6 := ⟨rfl, wk_u6, by decide, rfl, tyX6_ok, nmX6⟩
theorem Kd7 : Kd 7 RX7 TX7 7 tyX7 := ⟨rfl, wk_u7, by decide, rfl, tyX7_ok, nmX7⟩
theorem Kd8 : Kd 8 RX8 TX8 10 tyX8 := ⟨rfl, wk_u8, by decide, rfl, tyX8_ok, nmX8⟩
theorem Kd9 : Kd 9 RX9 TX9 12 tyX9 := ⟨rfl, wk_u9, by decide, rfl, tyX9_ok, nmX9⟩
theorem Kd10 : Kd 10 RX10 TX10 22 tyX10 := ⟨rfl, wk_u10, by decide, rfl, tyX10_ok, nmX10⟩
theorem nk0 : Cond.fieldLinkNest "BumperBalls" 110 "BumperBalls$Rows" "lanes" "[I" "BumperBalls" ∈ nestWs := List.mem_of_getElem? (i := 0) (by decide +kernel)
theorem nk1 : Cond.fieldLinkNest "BumperBalls" 114 "BumperBalls$Rows" "items" "[[I" "BumperBalls" ∈ nestWs := List.mem_of_getElem? (i := 1) (by decide +kernel)
theorem nk2 : Cond.fieldLinkNest "BumperBalls" 127 "BumperBalls$Tape" "length" "I" "BumperBalls" ∈ nestWs := List.mem_of_getElem? (i := 2) (by decide +kernel)
theorem nk3 : Cond.fieldLinkNest "BumperBalls" 138 "BumperBalls$Tape" "fault" "I" "BumperBalls" ∈ nestWs := List.mem_of_getElem? (i := 3) (by decide +kernel)
theorem nk4 : Cond.fieldLinkNest "BumperBalls" 142 "BumperBalls$Tape" "start" "I" "BumperBalls" ∈ nestWs := List.mem_of_getElem? (i := 4) (by decide +kernel)
theorem nk5 : Cond.fieldLinkNest "BumperBalls" 145 "BumperBalls$Tape" "draft" "LBumperBalls$Table;" "BumperBalls" ∈ nestWs := List.mem_of_getElem? (i := 5) (by decide +kernel)
theorem nk6 : Cond.fieldLinkNest "BumperBalls" 152 "BumperBalls$Tape" "ballCell" "I" "BumperBalls" ∈ nestWs := List.mem_of_getElem? (i := 6) (by decide +kernel)
theorem nk7 : Cond.fieldLinkNest "BumperBalls" 155 "BumperBalls$Tape" "ballWay" "I" "BumperBalls" ∈ nestWs := List.mem_of_getElem? (i := 7) (by decide +kernel)
theorem nk8 : Cond.fieldLinkNest "BumperBalls" 165 "BumperBalls$Table" "pins" "I" "BumperBalls" ∈ nestWs := List.mem_of_getElem? (i := 8) (by decide +kernel)
theorem nk9 : Cond.fieldLinkNest "BumperBalls" 169 "BumperBalls$Play" "lost" "Z" "BumperBalls" ∈ nestWs := List.mem_of_getElem? (i := 9) (by decide +kernel)
theorem nk10 : Cond.fieldLinkNest "BumperBalls" 172 "BumperBalls$Play" "steps" "I" "BumperBalls" ∈ nestWs := List.mem_of_getElem? (i := 10) (by decide +kernel)
theorem nk11 : Cond.fieldLinkNest "BumperBalls" 182 "BumperBalls$Table" "tilt" "I" "BumperBalls" ∈ nestWs := List.mem_of_getElem? (i := 11) (by decide +kernel)
theorem nk12 : Cond.fieldLinkNest "BumperBalls" 189 "BumperBalls$Play" "shakes" "I" "BumperBalls" ∈ nestWs := List.mem_of_getElem? (i := 12) (by decide +kernel)
theorem nk13 : Cond.fieldLinkNest "BumperBalls" 192 "BumperBalls$Play" "cell" "I" "BumperBalls" ∈ nestWs := List.mem_of_getElem? (i := 13) (by decide +kernel)
theorem nk14 : Cond.fieldLinkNest "BumperBalls" 195 "BumperBalls$Play" "way" "I" "BumperBalls" ∈ nestWs := List.mem_of_getElem? (i := 14) (by decide +kernel)
theorem nk15 : Cond.fieldLinkNest "BumperBalls" 204 "BumperBalls$Acts" "size" "I" "BumperBalls" ∈ nestWs := List.mem_of_getElem? (i := 15) (by decide +kernel)
theorem nk16 : Cond.fieldLinkNest "BumperBalls" 210 "BumperBalls$Play" "score" "I" "BumperBalls" ∈ nestWs := List.mem_of_getElem? (i := 16) (by decide +kernel)
theorem nk17 : Cond.fieldLinkNest "BumperBalls" 213 "BumperBalls$Play" "lit" "I" "BumperBalls" ∈ nestWs := List.mem_of_getElem? (i := 17) (by decide +kernel)
theorem nk18 : Cond.fieldLinkNest "BumperBalls" 219 "BumperBalls$Table" "cells" "[I" "BumperBalls" ∈ nestWs := List.mem_of_getElem? (i := 18) (by decide +kernel)
theorem nk19 : Cond.fieldLinkNest "BumperBalls" 222 "BumperBalls$Table" "letters" "[I" "BumperBalls" ∈ nestWs := List.mem_of_getElem? (i := 19) (by decide +kernel)
theorem nk20 : Cond.fieldLinkNest "BumperBalls" 225 "BumperBalls$Table" "pays" "[I" "BumperBalls" ∈ nestWs := List.mem_of_getElem? (i := 20) (by decide +kernel)
theorem nk21 : Cond.fieldLinkNest "BumperBalls" 228 "BumperBalls$Play" "struck" "[I" "BumperBalls" ∈ nestWs := List.mem_of_getElem? (i := 21) (by decide +kernel)
theorem nk22 : Cond.fieldLinkNest "BumperBalls" 256 "BumperBalls$Search" "fewestStriking" "I" "BumperBalls" ∈ nestWs := List.mem_of_getElem? (i := 22) (by decide +kernel)
theorem nk23 : Cond.fieldLinkNest "BumperBalls" 272 "BumperBalls$Image" "isKept" "Z" "BumperBalls" ∈ nestWs := List.mem_of_getElem? (i := 23) (by decide +kernel)
theorem nk24 : Cond.fieldLinkNest "BumperBalls" 275 "BumperBalls$Image" "table" "LBumperBalls$Table;" "BumperBalls" ∈ nestWs := List.mem_of_getElem? (i := 24) (by decide +kernel)
theorem nk25 : Cond.fieldLinkNest "BumperBalls" 276 "BumperBalls$Image" "play" "LBumperBalls$Play;" "BumperBalls" ∈ nestWs := List.mem_of_getElem? (i := 25) (by decide +kernel)
theorem nk26 : Cond.fieldLinkNest "BumperBalls" 277 "BumperBalls$Table" "kinds" "[I" "BumperBalls" ∈ nestWs := List.mem_of_getElem? (i := 26) (by decide +kernel)
theorem nk27 : Cond.fieldLinkNest "BumperBalls" 292 "BumperBalls$Asks" "length" "I" "BumperBalls" ∈ nestWs := List.mem_of_getElem? (i := 27) (by decide +kernel)
theorem nk28 : Cond.fieldLinkNest "BumperBalls" 293 "BumperBalls$Asks" "bodies" "[I" "BumperBalls" ∈ nestWs := List.mem_of_getElem? (i := 28) (by decide +kernel)
theorem nk29 : Cond.fieldLinkNest "BumperBalls" 307 "BumperBalls$Play" "knocked" "I" "BumperBalls" ∈ nestWs := List.mem_of_getElem? (i := 29) (by decide +kernel)
theorem nk30 : Cond.fieldLinkNest "BumperBalls$Asks" 31 "BumperBalls$Table" "kinds" "[I" "BumperBalls" ∈ nestWs := List.mem_of_getElem? (i := 30) (by decide +kernel)
theorem nk31 : Cond.fieldLinkNest "BumperBalls$Asks" 36 "BumperBalls$Table" "pays" "[I" "BumperBalls" ∈ nestWs := List.mem_of_getElem? (i := 31) (by decide +kernel)
theorem nk32 : Cond.fieldLinkNest "BumperBalls$Asks" 38 "BumperBalls$Play" "struck" "[I" "BumperBalls" ∈ nestWs := List.mem_of_getElem? (i := 32) (by decide +kernel)
theorem nk33 : Cond.fieldLinkNest "BumperBalls$Layer" 22 "BumperBalls$Play" "gates" "I" "BumperBalls" ∈ nestWs := List.mem_of_getElem? (i := 33) (by decide +kernel)
theorem nk34 : Cond.fieldLinkNest "BumperBalls$Layer" 27 "BumperBalls$Play" "cell" "I" "BumperBalls" ∈ nestWs := List.mem_of_getElem? (i := 34) (by decide +kernel)
theorem nk35 : Cond.fieldLinkNest "BumperBalls$Layer" 30 "BumperBalls$Play" "way" "I" "BumperBalls" ∈ nestWs := List.mem_of_getElem? (i := 35) (by decide +kernel)
theorem nk36 : Cond.fieldLinkNest "BumperBalls$Play" 86 "BumperBalls$Table" "letters" "[I" "BumperBalls" ∈ nestWs := List.mem_of_getElem? (i := 36) (by decide +kernel)
theorem nk37 : Cond.fieldLinkNest "BumperBalls$Play" 89 "BumperBalls$Table" "pays" "[I" "BumperBalls" ∈ nestWs := List.mem_of_getElem? (i := 37) (by decide +kernel)
theorem nk38 : Cond.fieldLinkNest "BumperBalls$Play" 92 "BumperBalls$Table" "kinds" "[I" "BumperBalls" ∈ nestWs := List.mem_of_getElem? (i := 38) (by decide +kernel)
theorem nk39 : Cond.fieldLinkNest "BumperBalls$Search" 35 "BumperBalls$Table" "pins" "I" "BumperBalls" ∈ nestWs := List.mem_of_getElem? (i := 39) (by decide +kernel)
theorem nk40 : Cond.fieldLinkNest "BumperBalls$Search" 50 "BumperBalls$Layer" "size" "I" "BumperBalls" ∈ nestWs := List.mem_of_getElem? (i := 40) (by decide +kernel)
theorem nk41 : Cond.fieldLinkNest "BumperBalls$Search" 53 "BumperBalls$Layer" "places" "[I" "BumperBalls" ∈ nestWs := List.mem_of_getElem? (i := 41) (by decide +kernel)
theorem nk42 : Cond.fieldLinkNest "BumperBalls$Search" 57 "BumperBalls$Layer" "costs" "[I" "BumperBalls" ∈ nestWs := List.mem_of_getElem? (i := 42) (by decide +kernel)
theorem nk43 : Cond.fieldLinkNest "BumperBalls$Search" 74 "BumperBalls$Play" "gates" "I" "BumperBalls" ∈ nestWs := List.mem_of_getElem? (i := 43) (by decide +kernel)
theorem nk44 : Cond.fieldLinkNest "BumperBalls$Search" 84 "BumperBalls$Play" "knocked" "I" "BumperBalls" ∈ nestWs := List.mem_of_getElem? (i := 44) (by decide +kernel)
theorem nk45 : Cond.fieldLinkNest "BumperBalls$Search" 87 "BumperBalls$Table" "letters" "[I" "BumperBalls" ∈ nestWs := List.mem_of_getElem? (i := 45) (by decide +kernel)
theorem nk46 : Cond.fieldLinkNest "BumperBalls$Search" 93 "BumperBalls$Play" "lost" "Z" "BumperBalls" ∈ nestWs := List.mem_of_getElem? (i := 46) (by decide +kernel)
theorem nk47 : Cond.fieldLinkNest "BumperBalls$Tape" 78 "BumperBalls$Table" "tilt" "I" "BumperBalls" ∈ nestWs := List.mem_of_getElem? (i := 47) (by decide +kernel)
theorem nk48 : Cond.fieldLinkNest "BumperBalls$Tape" 84 "BumperBalls$Table" "pins" "I" "BumperBalls" ∈ nestWs := List.mem_of_getElem? (i := 48) (by decide +kernel)
end
section
/-! ===== texts: length, charAt ===== -/
theorem dJ0_length_8abf5_0 : decode cJ0_length_8abf5 0 = .ok (.aload_n 0, 1) := by decide +kernel
theorem dJ0_length_8abf5_1 : decode cJ0_length_8abf5 1 = .ok (.getfield 9, 3) := by decide +kernel
theorem dJ0_length_8abf5_4 : decode cJ0_length_8abf5 4 = .ok (.arraylength, 1) := by decide +kernel
theorem dJ0_length_8abf5_5 : decode cJ0_length_8abf5 5 = .ok (.aload_n 0, 1) := by decide +kernel
theorem dJ0_length_8abf5_6 : decode cJ0_length_8abf5 6 = .ok (.invokevirtual 335, 3) := by decide +kernel
theorem dJ0_length_8abf5_9 : decode cJ0_length_8abf5 9 = .ok (.ishr, 1) := by decide +kernel
theorem dJ0_length_8abf5_10 : decode cJ0_length_8abf5 10 = .ok (.ireturn, 1) := by decide +kernel
theorem dJ0_charAt_5068e_0 : decode cJ0_charAt_5068e 0 = .ok (.aload_n 0, 1) := by decide +kernel
theorem dJ0_charAt_5068e_1 : decode cJ0_charAt_5068e 1 = .ok (.invokevirtual 492, 3) := by decide +kernel
theorem dJ0_charAt_5068e_4 : decode cJ0_charAt_5068e 4 = .ok (.ifCond .eq 12, 3) := by decide +kernel
theorem dJ0_charAt_5068e_7 : decode cJ0_charAt_5068e 7 = .ok (.aload_n 0, 1) := by decide +kernel
theorem dJ0_charAt_5068e_8 : decode cJ0_charAt_5068e 8 = .ok (.getfield 9, 3) := by decide +kernel
theorem dJ0_charAt_5068e_11 : decode cJ0_charAt_5068e 11 = .ok (.iload_n 1, 1) := by decide +kernel
theorem dJ0_charAt_5068e_12 : decode cJ0_charAt_5068e 12 = .ok (.invokestatic 495, 3) := by decide +kernel
theorem dJ0_charAt_5068e_15 : decode cJ0_charAt_5068e 15 = .ok (.ireturn, 1) := by decide +kernel
theorem dJ0_charAt_5068e_16 : decode cJ0_charAt_5068e 16 = .ok (.aload_n 0, 1) := by decide +kernel
theorem dJ0_charAt_5068e_17 : decode cJ0_charAt_5068e 17 = .ok (.getfield 9, 3) := by decide +kernel
theorem dJ0_charAt_5068e_20 : decode cJ0_charAt_5068e 20 = .ok (.iload_n 1, 1) := by decide +kernel
theorem dJ0_charAt_5068e_21 : decode cJ0_charAt_5068e 21 = .ok (.invokestatic 498, 3) := by decide +kernel
theorem dJ0_charAt_5068e_24 : decode cJ0_charAt_5068e 24 = .ok (.ireturn, 1) := by decide +kernel
theorem dJ0_coder_7d493_0 : decode cJ0_coder_7d493 0 = .ok (.getstatic 38, 3) := by decide +kernel
theorem dJ0_coder_7d493_3 : decode cJ0_coder_7d493 3 = .ok (.ifCond .eq 10, 3) := by decide +kernel
theorem dJ0_coder_7d493_6 : decode cJ0_coder_7d493 6 = .ok (.aload_n 0, 1) := by decide +kernel
theorem dJ0_coder_7d493_7 : decode cJ0_coder_7d493 7 = .ok (.getfield 15, 3) := by decide +kernel
theorem dJ0_coder_7d493_10 : decode cJ0_coder_7d493 10 = .ok (.goto 4, 3) := by decide +kernel
theorem dJ0_coder_7d493_13 : decode cJ0_coder_7d493 13 = .ok (.iconst 1, 1) := by decide +kernel
theorem dJ0_coder_7d493_14 : decode cJ0_coder_7d493 14 = .ok (.ireturn, 1) := by decide +kernel
theorem dJ0_isLatin1_aae02_0 : decode cJ0_isLatin1_aae02 0 = .ok (.getstatic 38, 3) := by decide +kernel
theorem dJ0_isLatin1_aae02_3 : decode cJ0_isLatin1_aae02 3 = .ok (.ifCond .eq 14, 3) := by decide +kernel
theorem dJ0_isLatin1_aae02_6 : decode cJ0_isLatin1_aae02 6 = .ok (.aload_n 0, 1) := by decide +kernel
theorem dJ0_isLatin1_aae02_7 : decode cJ0_isLatin1_aae02 7 = .ok (.getfield 15, 3) := by decide +kernel
theorem dJ0_isLatin1_aae02_10 : decode cJ0_isLatin1_aae02 10 = .ok (.ifCond .ne 7, 3) := by decide +kernel
theorem dJ0_isLatin1_aae02_13 : decode cJ0_isLatin1_aae02 13 = .ok (.iconst 1, 1) := by decide +kernel
theorem dJ0_isLatin1_aae02_14 : decode cJ0_isLatin1_aae02 14 = .ok (.goto 4, 3) := by decide +kernel
theorem dJ0_isLatin1_aae02_17 : decode cJ0_isLatin1_aae02 17 = .ok (.iconst 0, 1) := by decide +kernel
theorem dJ0_isLatin1_aae02_18 : decode cJ0_isLatin1_aae02 18 = .ok (.ireturn, 1) := by decide +kernel
theorem dJ0_checkIndex_df160_0 : decode cJ0_checkIndex_df160 0 = .ok (.iload_n 0, 1) := by decide +kernel
theorem dJ0_checkIndex_df160_1 : decode cJ0_checkIndex_df160 1 = .ok (.iload_n 1, 1) := by decide +kernel
theorem dJ0_checkIndex_df160_2 : decode cJ0_checkIndex_df160 2 = .ok (.getstatic 1053, 3) := by decide +kernel
theorem dJ0_checkIndex_df160_5 : decode cJ0_checkIndex_df160 5 = .ok (.invokestatic 1059, 3) := by decide +kernel
theorem dJ0_checkIndex_df160_8 : decode cJ0_checkIndex_df160 8 = .ok (.pop, 1) := by decide +kernel
theorem dJ0_checkIndex_df160_9 : decode cJ0_checkIndex_df160 9 = .ok (.return_, 1) := by decide +kernel
theorem dJ1_charAt_3b067_0 : decode cJ1_charAt_3b067 0 = .ok (.iload_n 1, 1) := by decide +kernel
theorem dJ1_charAt_3b067_1 : decode cJ1_charAt_3b067 1 = .ok (.aload_n 0, 1) := by decide +kernel
theorem dJ1_charAt_3b067_2 : decode cJ1_charAt_3b067 2 = .ok (.arraylength, 1) := by decide +kernel
theorem dJ1_charAt_3b067_3 : decode cJ1_charAt_3b067 3 = .ok (.invokestatic 9, 3) := by decide +kernel
theorem dJ1_charAt_3b067_6 : decode cJ1_charAt_3b067 6 = .ok (.aload_n 0, 1) := by decide +kernel
theorem dJ1_charAt_3b067_7 : decode cJ1_charAt_3b067 7 = .ok (.iload_n 1, 1) := by decide +kernel
theorem dJ1_charAt_3b067_8 : decode cJ1_charAt_3b067 8 = .ok (.baload, 1) := by decide +kernel
theorem dJ1_charAt_3b067_9 : decode cJ1_charAt_3b067 9 = .ok (.sipush 255, 3) := by decide +kernel
theorem dJ1_charAt_3b067_12 : decode cJ1_charAt_3b067 12 = .ok (.iand, 1) := by decide +kernel
theorem dJ1_charAt_3b067_13 : decode cJ1_charAt_3b067 13 = .ok (.i2c, 1) := by decide +kernel
theorem dJ1_charAt_3b067_14 : decode cJ1_charAt_3b067 14 = .ok (.ireturn, 1) := by decide +kernel
theorem dJ3_checkIndex_8e157_0 : decode cJ3_checkIndex_8e157 0 = .ok (.iload_n 0, 1) := by decide +kernel
theorem dJ3_checkIndex_8e157_1 : decode cJ3_checkIndex_8e157 1 = .ok (.ifCond .lt 8, 3) := by decide +kernel
theorem dJ3_checkIndex_8e157_4 : decode cJ3_checkIndex_8e157 4 = .ok (.iload_n 0, 1) := by decide +kernel
theorem dJ3_checkIndex_8e157_5 : decode cJ3_checkIndex_8e157 5 = .ok (.iload_n 1, 1) := by decide +kernel
theorem dJ3_checkIndex_8e157_6 : decode cJ3_checkIndex_8e157 6 = .ok (.if_icmp .lt 10, 3) := by decide +kernel
theorem dJ3_checkIndex_8e157_16 : decode cJ3_checkIndex_8e157 16 = .ok (.iload_n 0, 1) := by decide +kernel
theorem dJ3_checkIndex_8e157_17 : decode cJ3_checkIndex_8e157 17 = .ok (.ireturn, 1) := by decide +kernel
theorem lkJ0_335 : LkV "java/lang/String" 335 yJ0_coder_7d493 cJ0_coder_7d493 1 (some Jvm.ClassFile.FieldType.byte) 0 := ⟨wk_452, wk_13, wk_450, wk_451, ⟨by decide +kernel, by decide +kernel, by decide +kernel⟩, wk_449⟩
theorem lkJ0_492 : LkV "java/lang/String" 492 yJ0_isLatin1_aae02 cJ0_isLatin1_aae02 1 (some Jvm.ClassFile.FieldType.boolean) 0 := ⟨wk_462, wk_13, wk_460, wk_461, ⟨by decide +kernel, by decide +kernel, by decide +kernel⟩, wk_459⟩
theorem lkJ0_495 : LkS "java/lang/String" 495 yJ1_charAt_3b067 cJ1_charAt_3b067 2 (some Jvm.ClassFile.FieldType.char) 2 := ⟨wk_465, wk_14, wk_464, ⟨by decide +kernel, by decide +kernel, by decide +kernel⟩, wk_463⟩
theorem lkJ1_9 : LkS "java/lang/StringLatin1" 9 yJ0_checkIndex_df160 cJ0_checkIndex_df160 2 none 2 := ⟨wk_468, wk_13, wk_467, ⟨by decide +kernel, by decide +kernel, by decide +kernel⟩, wk_466⟩
theorem lkJ0_1059 : LkS "java/lang/String" 1059 yJ3_checkIndex_8e157 cJ3_checkIndex_8e157 3 (some Jvm.ClassFile.FieldType.int) 3 := ⟨wk_473, wk_15, wk_472, ⟨by decide +kernel, by decide +kernel, by decide +kernel⟩, wk_471⟩
theorem lkX8_130 : LkV "BumperBalls$Tape" 130 yJ0_length_8abf5 cJ0_length_8abf5 1 (some Jvm.ClassFile.FieldType.int) 0 := ⟨wk_448, wk_13, wk_446, wk_447, ⟨by decide +kernel, by decide +kernel, by decide +kernel⟩, wk_445⟩
theorem lkX8_134 : LkV "BumperBalls$Tape" 134 yJ0_charAt_5068e cJ0_charAt_5068e 2 (some Jvm.ClassFile.FieldType.char) 1 := ⟨wk_458, wk_13, wk_456, wk_457, ⟨by decide +kernel, by decide +kernel, by decide +kernel⟩, wk_455⟩
abbrev vrf (g : Cfg) (i : Nat) : Value := .ref (g.1.2.2.2.2.2.2 i)
abbrev vrfB (B : Bs) (i : Nat) : Value := .ref (B.2.2.2.2.2.2 i)
theorem so_1 {a c : Int32} {b d : Mem} (h : some (a, b) = some (c, d)) : a = c := congrArg Prod.fst (Option.some.inj h)
theorem so_w {a c : Int32} {b d : Mem} {h0 : Shp} (h : some (a, b) = some (c, d)) : ((b, h0) : Wt) = (d, h0) := congrArg (fun x => (x, h0)) (congrArg Prod.snd (Option.some.inj h))
theorem so_v {b d : Mem} {h0 : Shp} (h : some b = some d) : ((b, h0) : Wt) = (d, h0) := congrArg (fun x => (x, h0)) (Option.some.inj h)
section XS
variable {g : Cfg} {own : String} {cc : ByteArray} {nL fr lo mc ms cells slots pc idx i : Nat} {w : Wt} {lv : List (Nat × Value)} {st : List Value}

theorem xr_ldcs (C : Cx g RX8 cc nL fr lo mc ms) (hi : i < 8) (h1 : stIx i = idx) (_ : stIx i = stIx i) (hd : decode cc pc = .ok (.ldc idx, 2)) (K : XE g cells slots w (pc + 2) lv (srf g i :: st)) : XE g cells slots w pc lv st := by
  subst h1
  obtain ⟨B, p, e, Rm, s, m, args, below, meth, c, Q⟩ := g
  intro H locs ls hz hP hS hl
  exact va_ldcS C.1 C.2.1 C.2.2.2.1 (C.2.2.2.2.1.2.2.2.2.2.2.2.2.1 i hi) hd (K H locs ls hz hP hS hl)
theorem xr_sval (C : Cx g own cc nL fr lo mc ms) (w1 : Wk (Cond.fieldLink own idx "java/lang/String" "value" "[B")) (hi : i < 8) (hd : decode cc pc = .ok (.getfield idx, 3)) (K : XE g cells slots w (pc + 3) lv (vrf g i :: st)) : XE g cells slots w pc lv (srf g i :: st) := by
  obtain ⟨B, p, e, Rm, s, m, args, below, meth, c, Q⟩ := g
  intro H locs ls hz hP hS hl
  exact vk_getf C.1 C.2.1 (C.2.2.2.2.1.2.2.2.2.2.2.2.1.1 i hi).2.2.1 hS C.2.2.2.1 (C.2.2.2.2.1.1 _ w1 _) (fun _ h => h) hd (K H locs ls hz hP hS hl)
theorem xr_scod (C : Cx g own cc nL fr lo mc ms) (w1 : Wk (Cond.fieldLink own idx "java/lang/String" "coder" "B")) (hi : i < 8) (hd : decode cc pc = .ok (.getfield idx, 3)) (K : XE g cells slots w (pc + 3) lv (.int 0 :: st)) : XE g cells slots w pc lv (srf g i :: st) := by
  obtain ⟨B, p, e, Rm, s, m, args, below, meth, c, Q⟩ := g
  intro H locs ls hz hP hS hl
  exact vk_getf C.1 C.2.1 (C.2.2.2.2.1.2.2.2.2.2.2.2.1.1 i hi).2.1 hS C.2.2.2.1 (C.2.2.2.2.1.1 _ w1 _) (fun _ h => h) hd (K H locs ls hz hP hS hl)
theorem xr_vlen (C : Cx g own cc nL fr lo mc ms) (hi : i < 8) (hd : decode cc pc = .ok (.arraylength, 1)) (K : XE g cells slots w (pc + 1) lv (.int (nI (stLen.getD i 0)) :: st)) : XE g cells slots w pc lv (vrf g i :: st) := by
  obtain ⟨B, p, e, Rm, s, m, args, below, meth, c, Q⟩ := g
  intro H locs ls hz hP hS hl
  exact va_tlen C.1 C.2.1 (C.2.2.2.2.1.2.2.2.2.2.2.2.1.1 i hi).2.2.2 hS rfl hd (K H locs ls hz hP hS hl)
theorem xr_vald (C : Cx g own cc nL fr lo mc ms) {k : Int32} (hi : i < 8) (hk : inb k (stLen.getD i 0) = true) (hd : decode cc pc = .ok (.baload, 1)) (K : XE g cells slots w (pc + 1) lv (.int ((stByt.getD i []).getD (ix k) 0) :: st)) : XE g cells slots w pc lv (.int k :: vrf g i :: st) := by
  obtain ⟨B, p, e, Rm, s, m, args, below, meth, c, Q⟩ := g
  intro H locs ls hz hP hS hl
  exact va_tb C.1 C.2.1 (C.2.2.2.2.1.2.2.2.2.2.2.2.1.1 i hi).2.2.2 hS (inb_in hk) rfl hd (K H locs ls hz hP hS hl)
theorem xr_gsC (C : Cx g own cc nL fr lo mc ms) (w1 : Wk (Cond.fieldLink own idx "java/lang/String" "COMPACT_STRINGS" "Z")) (hd : decode cc pc = .ok (.getstatic idx, 3)) (K : XE g cells slots w (pc + 3) lv (.int 1 :: st)) : XE g cells slots w pc lv st := by
  obtain ⟨B, p, e, Rm, s, m, args, below, meth, c, Q⟩ := g
  intro H locs ls hz hP hS hl
  exact va_gets C.1 C.2.1 C.2.2.2.2.1.2.2.2.2.2.2.2.2.2.1 hS C.2.2.2.1 (C.2.2.2.2.1.1 _ w1 _) (fun _ h => h) hd (K H locs ls hz hP hS hl)
theorem xr_gsF (C : Cx g own cc nL fr lo mc ms) (w1 : Wk (Cond.fieldLink own idx "jdk/internal/util/Preconditions" "SIOOBE_FORMATTER" "Ljava/util/function/BiFunction;")) (hd : decode cc pc = .ok (.getstatic idx, 3)) (K : ∀ v : Value, (v = .null ∨ ∃ t : Nat, v = .ref t) → XE g cells slots w (pc + 3) lv (v :: st)) : XE g cells slots w pc lv st := by
  obtain ⟨B, p, e, Rm, s, m, args, below, meth, c, Q⟩ := g
  intro H locs ls hz hP hS hl
  rcases C.2.2.2.2.1.2.2.2.2.2.2.2.2.2.2.1 with h | ⟨t, h⟩
  · exact va_gets C.1 C.2.1 h hS C.2.2.2.1 (C.2.2.2.2.1.1 _ w1 _) (fun _ h => h) hd (K _ (Or.inl rfl) H locs ls hz hP hS hl)
  · exact va_gets C.1 C.2.1 h hS C.2.2.2.1 (C.2.2.2.2.1.1 _ w1 _) (fun _ h => h) hd (K _ (Or.inr ⟨t, rfl⟩) H locs ls hz hP hS hl)
theorem xr_i2c (C : Cx g own cc nL fr lo mc ms) {x : Int32} (hd : decode cc pc = .ok (.i2c, 1)) (K : XE g cells slots w (pc + 1) lv (.int (x.toUInt32 % 65536).toInt32 :: st)) : XE g cells slots w pc lv (.int x :: st) := by
  obtain ⟨B, p, e, Rm, s, m, args, below, meth, c, Q⟩ := g
  intro H locs ls hz hP hS hl
  exact lv_i2c C.1 C.2.1 hd rfl (K H locs ls hz hP hS hl)
theorem xr_callT (C : Cx g own cc nL fr lo mc ms) {y : MethodName} {cy : ByteArray} {nLy fr1 lo1 np : Nat} {ret : Option FieldType} {r : Int32} {st0 : List Value} (As : List Value) (lk : LkV own idx y cy nLy ret np) (hy : y.cls = "java/lang/String") (hi : i < 8) (ctr : CtrI g.1 y cy nLy ret fr1 lo1 0 0 (srf g i :: As) w r w) (hnp : As.length = np) (hst : (st.map fun v => v.category).sum ≤ 8) (hs : st0 = As.reverse ++ srf g i :: st) (hd : decode cc pc = .ok (.invokevirtual idx, 3)) (hr : (fr1 + 1 ≤ fr ∧ 8 + (nLy + 11) + lo1 ≤ lo) ∧ cells + 0 ≤ mc ∧ slots + 0 ≤ ms) (K : XE g cells slots w (pc + 3) lv (.int r :: st)) : XE g cells slots w pc lv st0 := by
  obtain ⟨B, p, e, Rm, s, m, args, below, meth, c, Q⟩ := g
  subst hs
  intro H locs ls hz hP hS hl T hT X
  have hsz0 : H.size = B.2.1 + w.2.2.2.2 := by rw [← hT]; exact sz_of X hz C.2.2.2.2.2.1 (by rw [hT]; exact hP)
  obtain ⟨hx, hb, hml, hown, hSW, hbs, hlk, e1, e2, e3, e4⟩ := C
  subst e1 e2 e3 e4
  have hts : ∀ w : Cond, Wk w → w.before args s = true := fun w hw => hSW.1 w hw _
  obtain ⟨l1, l2, l3, l4, l5, l6⟩ := lk
  refine va_calli (va_runV (As := As) (rest := st) (Ts := []) ⟨hx, hb, hml, hown, fun w h => by cases h⟩ ctr ⟨callB_of np (fun w hw => hts w (one1 l1 w hw)) (good1 l1) rfl rfl rfl (hts _ l2) (hts _ l6) l5 hr.1, hts _ l3, hts _ l4⟩ ⟨WD.blind, by rw [hy]; exact vk_recv hSW.2.2.2.2.2.2.2.1 hi hS, fun U hU hW => ⟨rfl, by rw [hU]; exact hsz0, by rw [hU]; exact hP, hSW.step hW (fun a h1 h2 => by rw [hU]; exact hS.2.1 a h1 h2) (by rw [hU]; exact hS.1)⟩⟩ rfl hnp (by rw [← hml]; exact hl.1) rfl (lv_room hst) hd hr.2) hS (fun q _ h => h) (fun q h => h) (fun r9 u t H1 locs1 ht hvm hw hB hz1 hk1 hS1 => ?_) T hT X
  subst hw
  exact K H1 locs1 ls hz (by rw [← ht]; exact hB.2.1) hS1 hl
end XS
theorem kJ_coder {B : Bs} {w : Wt} {i : Nat} (hi : i < 8) : CtrI B yJ0_coder_7d493 cJ0_coder_7d493 1 (some .byte) 0 0 0 0 [srfB B i] w 0 w := by
  refine xr_enterI (lv0 := [(0, srfB B i)]) (by decide) (Nat.le_of_ble_eq_true rfl) rfl (fun g hg C q => ?_)
  subst hg
  refine xr_gsC C wk_453 dJ0_coder_7d493_0 ?_
  refine xr_if_eq (tgt := 13) C dJ0_coder_7d493_3 (by decide) (show (if (1 : Int32) = 0 then none else some ()) = some () from rfl) (fun c1 _ => absurd c1 (by decide)) (fun c1 _ => ?_)
  refine xr_aload_n C dJ0_coder_7d493_6 0 rfl rfl ?_
  refine xr_scod C wk_1204 hi dJ0_coder_7d493_7 ?_
  refine xr_goto (tgt := 14) C dJ0_coder_7d493_10 (by decide) ?_
  exact xr_ireturn C q rfl rfl dJ0_coder_7d493_14 rfl rfl
theorem kJ_isLatin1 {B : Bs} {w : Wt} {i : Nat} (hi : i < 8) : CtrI B yJ0_isLatin1_aae02 cJ0_isLatin1_aae02 1 (some .boolean) 0 0 0 0 [srfB B i] w 1 w := by
  refine xr_enterI (lv0 := [(0, srfB B i)]) (by decide) (Nat.le_of_ble_eq_true rfl) rfl (fun g hg C q => ?_)
  subst hg
  refine xr_gsC C wk_453 dJ0_isLatin1_aae02_0 ?_
  refine xr_if_eq (tgt := 17) C dJ0_isLatin1_aae02_3 (by decide) (show (if (1 : Int32) = 0 then none else some ()) = some () from rfl) (fun c1 _ => absurd c1 (by decide)) (fun c1 _ => ?_)
  refine xr_aload_n C dJ0_isLatin1_aae02_6 0 rfl rfl ?_
  refine xr_scod C wk_1204 hi dJ0_isLatin1_aae02_7 ?_
  refine xr_if_ne (tgt := 17) C dJ0_isLatin1_aae02_10 (by decide) (show (if (0 : Int32) = 0 then some () else none) = some () from rfl) (fun c1 _ => absurd rfl c1) (fun c1 _ => ?_)
  refine xr_iconst (v := 1) C dJ0_isLatin1_aae02_13 (by decide) ?_
  refine xr_goto (tgt := 18) C dJ0_isLatin1_aae02_14 (by decide) ?_
  exact xr_ireturn C q rfl rfl dJ0_isLatin1_aae02_18 rfl rfl
theorem st_len : ∀ i, i < 8 → stLen.getD i 0 < 8 := by decide
theorem kJ_length {B : Bs} {w : Wt} {i : Nat} (hi : i < 8) : CtrI B yJ0_length_8abf5 cJ0_length_8abf5 1 (some .int) 1 20 0 0 [srfB B i] w (nI (stLen.getD i 0)) w := by
  refine xr_enterI (lv0 := [(0, srfB B i)]) (by decide) (Nat.le_of_ble_eq_true rfl) rfl (fun g hg C q => ?_)
  subst hg
  refine xr_aload_n C dJ0_length_8abf5_0 0 rfl rfl ?_
  refine xr_sval C wk_1203 hi dJ0_length_8abf5_1 ?_
  refine xr_vlen C hi dJ0_length_8abf5_4 ?_
  refine xr_aload_n C dJ0_length_8abf5_5 0 rfl rfl ?_
  refine xr_callT C [] lkJ0_335 rfl hi (kJ_coder hi) rfl (Nat.le_of_ble_eq_true rfl) rfl dJ0_length_8abf5_6 ⟨by decide, by decide, by decide⟩ ?_
  refine xr_ishr C dJ0_length_8abf5_9 ?_
  refine xr_ireturn C q rfl rfl dJ0_length_8abf5_10 ?_ rfl
  have key : ∀ i, i < 8 → nI (stLen.getD i 0) >>> ((0 : Int32) &&& 31) = nI (stLen.getD i 0) := by decide
  exact key i hi
theorem kJ_pre {B : Bs} {w : Wt} {k n : Int32} {v : Value} (h0 : ¬ k < 0) (h1 : k < n) (hv : v = .null ∨ ∃ t : Nat, v = .ref t) : CtrI B yJ3_checkIndex_8e157 cJ3_checkIndex_8e157 3 (some .int) 0 0 0 0 [.int k, .int n, v] w k w := by
  rcases hv with rfl | ⟨t, rfl⟩

  · refine xr_enterI (lv0 := [(0, .int k), (1, .int n), (2, .null)]) (by decide) (Nat.le_of_ble_eq_true rfl) rfl (fun g hg C q => ?_)
    subst hg
    refine xr_iload_n C dJ3_checkIndex_8e157_0 0 rfl rfl ?_
    refine xr_if_lt (tgt := 9) C dJ3_checkIndex_8e157_1 (by decide) (show (if k < 0 then none else some ()) = some () from if_neg h0) (fun c1 _ => absurd c1 h0) (fun c1 _ => ?_)
    refine xr_iload_n C dJ3_checkIndex_8e157_4 0 rfl rfl ?_
    refine xr_iload_n C dJ3_checkIndex_8e157_5 1 rfl rfl ?_
    refine xr_icmp_lt (tgt := 16) C dJ3_checkIndex_8e157_6 (by decide) (show (if k < n then some () else none) = some () from if_pos h1) (fun c2 _ => ?_) (fun c2 _ => absurd h1 c2)
    refine xr_iload_n C dJ3_checkIndex_8e157_16 0 rfl rfl ?_
    exact xr_ireturn C q rfl rfl dJ3_checkIndex_8e157_17 rfl rfl
  · refine xr_enterI (lv0 := [(0, .int k), (1, .int n), (2, .ref t)]) (by decide) (Nat.le_of_ble_eq_true rfl) rfl (fun g hg C q => ?_)
    subst hg
    refine xr_iload_n C dJ3_checkIndex_8e157_0 0 rfl rfl ?_
    refine xr_if_lt (tgt := 9) C dJ3_checkIndex_8e157_1 (by decide) (show (if k < 0 then none else some ()) = some () from if_neg h0) (fun c1 _ => absurd c1 h0) (fun c1 _ => ?_)
    refine xr_iload_n C dJ3_checkIndex_8e157_4 0 rfl rfl ?_
    refine xr_iload_n C dJ3_checkIndex_8e157_5 1 rfl rfl ?_
    refine xr_icmp_lt (tgt := 16) C dJ3_checkIndex_8e157_6 (by decide) (show (if k < n then some () else none) = some () from if_pos h1) (fun c2 _ => ?_) (fun c2 _ => absurd h1 c2)
    refine xr_iload_n C dJ3_checkIndex_8e157_16 0 rfl rfl ?_
    exact xr_ireturn C q rfl rfl dJ3_checkIndex_8e157_17 rfl rfl
theorem kJ_check {B : Bs} {w : Wt} {k n : Int32} (h0 : ¬ k < 0) (h1 : k < n) : CtrV B yJ0_checkIndex_df160 cJ0_checkIndex_df160 2 1 22 0 0 [.int k, .int n] w w := by
  refine xr_enterV (lv0 := [(0, .int k), (1, .int n)]) (by decide) (Nat.le_of_ble_eq_true rfl) rfl (fun g hg C q => ?_)
  subst hg
  refine xr_iload_n C dJ0_checkIndex_df160_0 0 rfl rfl ?_
  refine xr_iload_n C dJ0_checkIndex_df160_1 1 rfl rfl ?_
  refine xr_gsF C wk_469 dJ0_checkIndex_df160_2 (fun v hv => ?_)
  have hst : ∀ u : List Value, u = [.int k, .int n, v].reverse ++ [] → XE g 0 0 w 5 [(0, .int k), (1, .int n)] u := fun u hu => xr_callSI C [.int k, .int n, v] lkJ0_1059 (kJ_pre h0 h1 hv) rfl (Nat.le_of_ble_eq_true rfl) hu dJ0_checkIndex_df160_5 ⟨by decide, by decide, by decide⟩ rfl (xr_pop C dJ0_checkIndex_df160_8 rfl (xr_return C q dJ0_checkIndex_df160_9 rfl))
  exact hst _ rfl
theorem inb_ck {k : Int32} {n : Nat} (h : inb k n = true) (hn : n < 2 ^ 31) : ¬ k < 0 ∧ k < nI n := by
  obtain ⟨h1, h2⟩ := of_decide_eq_true h
  refine ⟨i32_nn h1, Int32.lt_iff_toInt_lt.mpr ?_⟩
  rw [nI_toInt hn]
  exact h2
theorem st_byt : ∀ i, i < 8 → ∀ j, j < 8 → (((stByt.getD i []).getD j 0 &&& 255).toUInt32 % 65536).toInt32 = (stByt.getD i []).getD j 0 := by decide +kernel
theorem st_bytn : ∀ i, i < 8 → ∀ j, j < 8 → narrow .char (.int ((stByt.getD i []).getD j 0)) = .int ((stByt.getD i []).getD j 0) := fun i hi j hj => by
  have h := st_byt i hi j hj
  rw [← h]
  exact pk_nc _
theorem kJ_lat {B : Bs} {w : Wt} {i : Nat} {k : Int32} (hi : i < 8) (hk : inb k (stLen.getD i 0) = true) : CtrI B yJ1_charAt_3b067 cJ1_charAt_3b067 2 (some .char) 2 43 0 0 [vrfB B i, .int k] w ((stByt.getD i []).getD (ix k) 0) w := by
  have hl8 := st_len i hi
  have hb := st_byt i hi (ix k) (Nat.lt_trans (inb_lt hk) hl8)
  have hbn := st_bytn i hi (ix k) (Nat.lt_trans (inb_lt hk) hl8)
  refine xr_enterI (lv0 := [(0, vrfB B i), (1, .int k)]) (by decide) (Nat.le_of_ble_eq_true rfl) rfl (fun g hg C q => ?_)
  subst hg
  refine xr_iload_n C dJ1_charAt_3b067_0 1 rfl rfl ?_
  refine xr_aload_n C dJ1_charAt_3b067_1 0 rfl rfl ?_
  refine xr_vlen C hi dJ1_charAt_3b067_2 ?_
  refine xr_callSV C [.int k, .int (nI (stLen.getD i 0))] lkJ1_9 (kJ_check (inb_ck hk (by omega)).1 (inb_ck hk (by omega)).2) rfl (Nat.le_of_ble_eq_true rfl) rfl dJ1_charAt_3b067_3 ⟨by decide, by decide, by decide⟩ rfl ?_
  refine xr_aload_n C dJ1_charAt_3b067_6 0 rfl rfl ?_
  refine xr_iload_n C dJ1_charAt_3b067_7 1 rfl rfl ?_
  refine xr_vald C hi hk dJ1_charAt_3b067_8 ?_
  refine xr_sipush (v := 255) C dJ1_charAt_3b067_9 (by decide) ?_
  refine xr_iand C dJ1_charAt_3b067_12 ?_
  refine xr_i2c C dJ1_charAt_3b067_13 ?_
  exact xr_ireturn C q rfl (by rw [hb]; exact hbn) dJ1_charAt_3b067_14 hb rfl
theorem kJ_charAt {B : Bs} {w : Wt} {i : Nat} {k : Int32} (hi : i < 8) (hk : inb k (stLen.getD i 0) = true) : CtrI B yJ0_charAt_5068e cJ0_charAt_5068e 2 (some .char) 3 64 0 0 [srfB B i, .int k] w ((stByt.getD i []).getD (ix k) 0) w := by
  have hl8 := st_len i hi
  have hbn := st_bytn i hi (ix k) (Nat.lt_trans (inb_lt hk) hl8)
  refine xr_enterI (lv0 := [(0, srfB B i), (1, .int k)]) (by decide) (Nat.le_of_ble_eq_true rfl) rfl (fun g hg C q => ?_)
  subst hg
  refine xr_aload_n C dJ0_charAt_5068e_0 0 rfl rfl ?_
  refine xr_callT C [] lkJ0_492 rfl hi (kJ_isLatin1 hi) rfl (Nat.le_of_ble_eq_true rfl) rfl dJ0_charAt_5068e_1 ⟨by decide, by decide, by decide⟩ ?_
  refine xr_if_eq (tgt := 16) C dJ0_charAt_5068e_4 (by decide) (show (if (1 : Int32) = 0 then none else some ()) = some () from rfl) (fun c1 _ => absurd c1 (by decide)) (fun c1 _ => ?_)
  refine xr_aload_n C dJ0_charAt_5068e_7 0 rfl rfl ?_
  refine xr_sval C wk_1203 hi dJ0_charAt_5068e_8 ?_
  refine xr_iload_n C dJ0_charAt_5068e_11 1 rfl rfl ?_
  refine xr_callSI C [vrf g i, .int k] lkJ0_495 (kJ_lat hi hk) rfl (Nat.le_of_ble_eq_true rfl) rfl dJ0_charAt_5068e_12 ⟨by decide, by decide, by decide⟩ rfl ?_
  exact xr_ireturn C q rfl hbn dJ0_charAt_5068e_15 rfl rfl
section XS2
variable {g : Cfg} {cc : ByteArray} {nL pc i : Nat} {w : Wt} {lv : List (Nat × Value)} {st : List Value}
theorem xr_slen (C : Cx g RX8 cc nL 4 85 0 0) (hi : i < 8) (hd : decode cc pc = .ok (.invokevirtual 130, 3)) (K : XE g 0 0 w (pc + 3) lv (.int (nI (stLen.getD i 0)) :: st)) (hst : (st.map fun v => v.category).sum ≤ 8 := by exact Nat.le_of_ble_eq_true rfl) : XE g 0 0 w pc lv (srf g i :: st) :=
  xr_callT C [] lkX8_130 rfl hi (kJ_length hi) rfl hst rfl hd ⟨⟨by decide, by decide⟩, Nat.le_refl _, Nat.le_refl _⟩ K
theorem xr_schar (C : Cx g RX8 cc nL 4 85 0 0) {k : Int32} (hi : i < 8) (hk : inb k (stLen.getD i 0) = true) (hd : decode cc pc = .ok (.invokevirtual 134, 3)) (K : XE g 0 0 w (pc + 3) lv (.int ((stByt.getD i []).getD (ix k) 0) :: st)) (hst : (st.map fun v => v.category).sum ≤ 8 := by exact Nat.le_of_ble_eq_true rfl) : XE g 0 0 w pc lv (.int k :: srf g i :: st) :=
  xr_callT C [.int k] lkX8_134 rfl hi (kJ_charAt hi hk) rfl hst rfl hd ⟨⟨by decide, by decide⟩, Nat.le_refl _, Nat.le_refl _⟩ K
end XS2
end
