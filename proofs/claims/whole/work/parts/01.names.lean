-- ===== PART A: goes FIRST, ahead of the names: the tables' words, and 'selects' of the private methods out of them =====
/-- a private method of a class that the tables say can be made, by its rows of tables_1 -/
def lw_okq (q : MethodName × Nat) : Prop := (q.1.cls ≠ "java/lang/invoke/MethodHandle" ∧ q.1.cls ≠ "java/lang/invoke/VarHandle") ∧ Cond.instantiable q.1.cls q.2 ∈ tables_1 ∧ Cond.privateMethod q.1 ∈ tables_1 ∧ Cond.instanceMethod q.1 ∈ tables_1
theorem lw_p0 : lw_okq (⟨"BumperBalls$Table", "clear", "()V"⟩, 7) := ⟨⟨by decide +kernel, by decide +kernel⟩, List.mem_of_getElem? (i := 54) (by decide +kernel), List.mem_of_getElem? (i := 60) (by decide +kernel), List.mem_of_getElem? (i := 61) (by decide +kernel)⟩
theorem lw_p1 : lw_okq (⟨"BumperBalls", "found", "(I)I"⟩, 12) := ⟨⟨by decide +kernel, by decide +kernel⟩, List.mem_of_getElem? (i := 19) (by decide +kernel), List.mem_of_getElem? (i := 354) (by decide +kernel), List.mem_of_getElem? (i := 355) (by decide +kernel)⟩
theorem lw_p2 : lw_okq (⟨"BumperBalls$Rows", "make", "(III)V"⟩, 3) := ⟨⟨by decide +kernel, by decide +kernel⟩, List.mem_of_getElem? (i := 27) (by decide +kernel), List.mem_of_getElem? (i := 359) (by decide +kernel), List.mem_of_getElem? (i := 360) (by decide +kernel)⟩
theorem lw_p3 : lw_okq (⟨"BumperBalls", "plain", "(I)I"⟩, 12) := ⟨⟨by decide +kernel, by decide +kernel⟩, List.mem_of_getElem? (i := 19) (by decide +kernel), List.mem_of_getElem? (i := 363) (by decide +kernel), List.mem_of_getElem? (i := 364) (by decide +kernel)⟩
theorem lw_p4 : lw_okq (⟨"BumperBalls$Rows", "isMissing", "(I)Z"⟩, 3) := ⟨⟨by decide +kernel, by decide +kernel⟩, List.mem_of_getElem? (i := 27) (by decide +kernel), List.mem_of_getElem? (i := 371) (by decide +kernel), List.mem_of_getElem? (i := 372) (by decide +kernel)⟩
theorem lw_p5 : lw_okq (⟨"BumperBalls$Rows", "hasPlaces", "(III)Z"⟩, 3) := ⟨⟨by decide +kernel, by decide +kernel⟩, List.mem_of_getElem? (i := 27) (by decide +kernel), List.mem_of_getElem? (i := 375) (by decide +kernel), List.mem_of_getElem? (i := 376) (by decide +kernel)⟩
theorem lw_p6 : lw_okq (⟨"BumperBalls$Rows", "write", "(III)I"⟩, 3) := ⟨⟨by decide +kernel, by decide +kernel⟩, List.mem_of_getElem? (i := 27) (by decide +kernel), List.mem_of_getElem? (i := 379) (by decide +kernel), List.mem_of_getElem? (i := 380) (by decide +kernel)⟩
theorem lw_p7 : lw_okq (⟨"BumperBalls$Rows", "remove", "(I)I"⟩, 3) := ⟨⟨by decide +kernel, by decide +kernel⟩, List.mem_of_getElem? (i := 27) (by decide +kernel), List.mem_of_getElem? (i := 394) (by decide +kernel), List.mem_of_getElem? (i := 395) (by decide +kernel)⟩
theorem lw_p8 : lw_okq (⟨"BumperBalls$Tape", "append", "(JI)V"⟩, 10) := ⟨⟨by decide +kernel, by decide +kernel⟩, List.mem_of_getElem? (i := 48) (by decide +kernel), List.mem_of_getElem? (i := 403) (by decide +kernel), List.mem_of_getElem? (i := 404) (by decide +kernel)⟩
theorem lw_p9 : lw_okq (⟨"BumperBalls$Tape", "readAll", "()V"⟩, 10) := ⟨⟨by decide +kernel, by decide +kernel⟩, List.mem_of_getElem? (i := 48) (by decide +kernel), List.mem_of_getElem? (i := 411) (by decide +kernel), List.mem_of_getElem? (i := 412) (by decide +kernel)⟩
theorem lw_p10 : lw_okq (⟨"BumperBalls$Tape", "readLaw", "()V"⟩, 10) := ⟨⟨by decide +kernel, by decide +kernel⟩, List.mem_of_getElem? (i := 48) (by decide +kernel), List.mem_of_getElem? (i := 416) (by decide +kernel), List.mem_of_getElem? (i := 417) (by decide +kernel)⟩
theorem lw_p11 : lw_okq (⟨"BumperBalls$Tape", "take", "()V"⟩, 10) := ⟨⟨by decide +kernel, by decide +kernel⟩, List.mem_of_getElem? (i := 48) (by decide +kernel), List.mem_of_getElem? (i := 420) (by decide +kernel), List.mem_of_getElem? (i := 421) (by decide +kernel)⟩
theorem lw_p12 : lw_okq (⟨"BumperBalls$Tape", "takeName", "()V"⟩, 10) := ⟨⟨by decide +kernel, by decide +kernel⟩, List.mem_of_getElem? (i := 48) (by decide +kernel), List.mem_of_getElem? (i := 430) (by decide +kernel), List.mem_of_getElem? (i := 431) (by decide +kernel)⟩
theorem lw_p13 : lw_okq (⟨"BumperBalls$Tape", "takeFigures", "()V"⟩, 10) := ⟨⟨by decide +kernel, by decide +kernel⟩, List.mem_of_getElem? (i := 48) (by decide +kernel), List.mem_of_getElem? (i := 437) (by decide +kernel), List.mem_of_getElem? (i := 438) (by decide +kernel)⟩
theorem lw_p14 : lw_okq (⟨"BumperBalls$Tape", "isName", "(Ljava/lang/String;)Z"⟩, 10) := ⟨⟨by decide +kernel, by decide +kernel⟩, List.mem_of_getElem? (i := 48) (by decide +kernel), List.mem_of_getElem? (i := 442) (by decide +kernel), List.mem_of_getElem? (i := 443) (by decide +kernel)⟩
theorem lw_p15 : lw_okq (⟨"BumperBalls$Tape", "demand", "(Z)V"⟩, 10) := ⟨⟨by decide +kernel, by decide +kernel⟩, List.mem_of_getElem? (i := 48) (by decide +kernel), List.mem_of_getElem? (i := 494) (by decide +kernel), List.mem_of_getElem? (i := 495) (by decide +kernel)⟩
def lw_privs_1 : List (MethodName × Nat) := [(⟨"BumperBalls$Table", "clear", "()V"⟩, 7), (⟨"BumperBalls", "found", "(I)I"⟩, 12), (⟨"BumperBalls$Rows", "make", "(III)V"⟩, 3), (⟨"BumperBalls", "plain", "(I)I"⟩, 12), (⟨"BumperBalls$Rows", "isMissing", "(I)Z"⟩, 3), (⟨"BumperBalls$Rows", "hasPlaces", "(III)Z"⟩, 3), (⟨"BumperBalls$Rows", "write", "(III)I"⟩, 3), (⟨"BumperBalls$Rows", "remove", "(I)I"⟩, 3), (⟨"BumperBalls$Tape", "append", "(JI)V"⟩, 10), (⟨"BumperBalls$Tape", "readAll", "()V"⟩, 10), (⟨"BumperBalls$Tape", "readLaw", "()V"⟩, 10), (⟨"BumperBalls$Tape", "take", "()V"⟩, 10), (⟨"BumperBalls$Tape", "takeName", "()V"⟩, 10), (⟨"BumperBalls$Tape", "takeFigures", "()V"⟩, 10), (⟨"BumperBalls$Tape", "isName", "(Ljava/lang/String;)Z"⟩, 10), (⟨"BumperBalls$Tape", "demand", "(Z)V"⟩, 10)]
theorem lw_r1 : ∀ q ∈ lw_privs_1, lw_okq q := List.forall_mem_cons.mpr ⟨lw_p0, List.forall_mem_cons.mpr ⟨lw_p1, List.forall_mem_cons.mpr ⟨lw_p2, List.forall_mem_cons.mpr ⟨lw_p3, List.forall_mem_cons.mpr ⟨lw_p4, List.forall_mem_cons.mpr ⟨lw_p5, List.forall_mem_cons.mpr ⟨lw_p6, List.forall_mem_cons.mpr ⟨lw_p7, List.forall_mem_cons.mpr ⟨lw_p8, List.forall_mem_cons.mpr ⟨lw_p9, List.forall_mem_cons.mpr ⟨lw_p10, List.forall_mem_cons.mpr ⟨lw_p11, List.forall_mem_cons.mpr ⟨lw_p12, List.forall_mem_cons.mpr ⟨lw_p13, List.forall_mem_cons.mpr ⟨lw_p14, List.forall_mem_cons.mpr ⟨lw_p15, fun _ h => absurd h List.not_mem_nil⟩⟩⟩⟩⟩⟩⟩⟩⟩⟩⟩⟩⟩⟩⟩⟩
theorem lw_p16 : lw_okq (⟨"BumperBalls$Tape", "takeNumber", "(II)I"⟩, 10) := ⟨⟨by decide +kernel, by decide +kernel⟩, List.mem_of_getElem? (i := 48) (by decide +kernel), List.mem_of_getElem? (i := 498) (by decide +kernel), List.mem_of_getElem? (i := 499) (by decide +kernel)⟩
theorem lw_p17 : lw_okq (⟨"BumperBalls$Tape", "takeSemicolon", "()V"⟩, 10) := ⟨⟨by decide +kernel, by decide +kernel⟩, List.mem_of_getElem? (i := 48) (by decide +kernel), List.mem_of_getElem? (i := 502) (by decide +kernel), List.mem_of_getElem? (i := 503) (by decide +kernel)⟩
theorem lw_p18 : lw_okq (⟨"BumperBalls$Tape", "readPin", "()V"⟩, 10) := ⟨⟨by decide +kernel, by decide +kernel⟩, List.mem_of_getElem? (i := 48) (by decide +kernel), List.mem_of_getElem? (i := 507) (by decide +kernel), List.mem_of_getElem? (i := 508) (by decide +kernel)⟩
theorem lw_p19 : lw_okq (⟨"BumperBalls$Tape", "takeKind", "()I"⟩, 10) := ⟨⟨by decide +kernel, by decide +kernel⟩, List.mem_of_getElem? (i := 48) (by decide +kernel), List.mem_of_getElem? (i := 511) (by decide +kernel), List.mem_of_getElem? (i := 512) (by decide +kernel)⟩
theorem lw_p20 : lw_okq (⟨"BumperBalls$Tape", "takeFreeCell", "()I"⟩, 10) := ⟨⟨by decide +kernel, by decide +kernel⟩, List.mem_of_getElem? (i := 48) (by decide +kernel), List.mem_of_getElem? (i := 520) (by decide +kernel), List.mem_of_getElem? (i := 521) (by decide +kernel)⟩
theorem lw_p21 : lw_okq (⟨"BumperBalls$Table", "pinIn", "(I)I"⟩, 7) := ⟨⟨by decide +kernel, by decide +kernel⟩, List.mem_of_getElem? (i := 54) (by decide +kernel), List.mem_of_getElem? (i := 524) (by decide +kernel), List.mem_of_getElem? (i := 525) (by decide +kernel)⟩
theorem lw_p22 : lw_okq (⟨"BumperBalls$Table", "addPin", "(IIII)V"⟩, 7) := ⟨⟨by decide +kernel, by decide +kernel⟩, List.mem_of_getElem? (i := 54) (by decide +kernel), List.mem_of_getElem? (i := 529) (by decide +kernel), List.mem_of_getElem? (i := 530) (by decide +kernel)⟩
theorem lw_p23 : lw_okq (⟨"BumperBalls$Tape", "readBall", "()V"⟩, 10) := ⟨⟨by decide +kernel, by decide +kernel⟩, List.mem_of_getElem? (i := 48) (by decide +kernel), List.mem_of_getElem? (i := 533) (by decide +kernel), List.mem_of_getElem? (i := 534) (by decide +kernel)⟩
theorem lw_p24 : lw_okq (⟨"BumperBalls$Table", "become", "(LBumperBalls$Table;)V"⟩, 7) := ⟨⟨by decide +kernel, by decide +kernel⟩, List.mem_of_getElem? (i := 54) (by decide +kernel), List.mem_of_getElem? (i := 539) (by decide +kernel), List.mem_of_getElem? (i := 540) (by decide +kernel)⟩
theorem lw_p25 : lw_okq (⟨"BumperBalls$Play", "begin", "(II)V"⟩, 10) := ⟨⟨by decide +kernel, by decide +kernel⟩, List.mem_of_getElem? (i := 140) (by decide +kernel), List.mem_of_getElem? (i := 544) (by decide +kernel), List.mem_of_getElem? (i := 545) (by decide +kernel)⟩
theorem lw_p26 : lw_okq (⟨"BumperBalls$Play", "place", "(II)V"⟩, 10) := ⟨⟨by decide +kernel, by decide +kernel⟩, List.mem_of_getElem? (i := 140) (by decide +kernel), List.mem_of_getElem? (i := 548) (by decide +kernel), List.mem_of_getElem? (i := 549) (by decide +kernel)⟩
theorem lw_p27 : lw_okq (⟨"BumperBalls$Acts", "forget", "()V"⟩, 3) := ⟨⟨by decide +kernel, by decide +kernel⟩, List.mem_of_getElem? (i := 193) (by decide +kernel), List.mem_of_getElem? (i := 552) (by decide +kernel), List.mem_of_getElem? (i := 553) (by decide +kernel)⟩
theorem lw_p28 : lw_okq (⟨"BumperBalls$Acts", "keep", "(LBumperBalls$Play;)V"⟩, 3) := ⟨⟨by decide +kernel, by decide +kernel⟩, List.mem_of_getElem? (i := 193) (by decide +kernel), List.mem_of_getElem? (i := 566) (by decide +kernel), List.mem_of_getElem? (i := 567) (by decide +kernel)⟩
theorem lw_p29 : lw_okq (⟨"BumperBalls$Play", "become", "(LBumperBalls$Play;)V"⟩, 10) := ⟨⟨by decide +kernel, by decide +kernel⟩, List.mem_of_getElem? (i := 140) (by decide +kernel), List.mem_of_getElem? (i := 570) (by decide +kernel), List.mem_of_getElem? (i := 571) (by decide +kernel)⟩
theorem lw_p30 : lw_okq (⟨"BumperBalls$Play", "step", "(LBumperBalls$Table;)V"⟩, 10) := ⟨⟨by decide +kernel, by decide +kernel⟩, List.mem_of_getElem? (i := 140) (by decide +kernel), List.mem_of_getElem? (i := 575) (by decide +kernel), List.mem_of_getElem? (i := 576) (by decide +kernel)⟩
theorem lw_p31 : lw_okq (⟨"BumperBalls$Play", "isAtSide", "()Z"⟩, 10) := ⟨⟨by decide +kernel, by decide +kernel⟩, List.mem_of_getElem? (i := 140) (by decide +kernel), List.mem_of_getElem? (i := 582) (by decide +kernel), List.mem_of_getElem? (i := 583) (by decide +kernel)⟩
def lw_privs_2 : List (MethodName × Nat) := [(⟨"BumperBalls$Tape", "takeNumber", "(II)I"⟩, 10), (⟨"BumperBalls$Tape", "takeSemicolon", "()V"⟩, 10), (⟨"BumperBalls$Tape", "readPin", "()V"⟩, 10), (⟨"BumperBalls$Tape", "takeKind", "()I"⟩, 10), (⟨"BumperBalls$Tape", "takeFreeCell", "()I"⟩, 10), (⟨"BumperBalls$Table", "pinIn", "(I)I"⟩, 7), (⟨"BumperBalls$Table", "addPin", "(IIII)V"⟩, 7), (⟨"BumperBalls$Tape", "readBall", "()V"⟩, 10), (⟨"BumperBalls$Table", "become", "(LBumperBalls$Table;)V"⟩, 7), (⟨"BumperBalls$Play", "begin", "(II)V"⟩, 10), (⟨"BumperBalls$Play", "place", "(II)V"⟩, 10), (⟨"BumperBalls$Acts", "forget", "()V"⟩, 3), (⟨"BumperBalls$Acts", "keep", "(LBumperBalls$Play;)V"⟩, 3), (⟨"BumperBalls$Play", "become", "(LBumperBalls$Play;)V"⟩, 10), (⟨"BumperBalls$Play", "step", "(LBumperBalls$Table;)V"⟩, 10), (⟨"BumperBalls$Play", "isAtSide", "()Z"⟩, 10)]
theorem lw_r2 : ∀ q ∈ lw_privs_2, lw_okq q := List.forall_mem_cons.mpr ⟨lw_p16, List.forall_mem_cons.mpr ⟨lw_p17, List.forall_mem_cons.mpr ⟨lw_p18, List.forall_mem_cons.mpr ⟨lw_p19, List.forall_mem_cons.mpr ⟨lw_p20, List.forall_mem_cons.mpr ⟨lw_p21, List.forall_mem_cons.mpr ⟨lw_p22, List.forall_mem_cons.mpr ⟨lw_p23, List.forall_mem_cons.mpr ⟨lw_p24, List.forall_mem_cons.mpr ⟨lw_p25, List.forall_mem_cons.mpr ⟨lw_p26, List.forall_mem_cons.mpr ⟨lw_p27, List.forall_mem_cons.mpr ⟨lw_p28, List.forall_mem_cons.mpr ⟨lw_p29, List.forall_mem_cons.mpr ⟨lw_p30, List.forall_mem_cons.mpr ⟨lw_p31, fun _ h => absurd h List.not_mem_nil⟩⟩⟩⟩⟩⟩⟩⟩⟩⟩⟩⟩⟩⟩⟩⟩
theorem lw_p32 : lw_okq (⟨"BumperBalls$Play", "turn", "(I)V"⟩, 10) := ⟨⟨by decide +kernel, by decide +kernel⟩, List.mem_of_getElem? (i := 140) (by decide +kernel), List.mem_of_getElem? (i := 586) (by decide +kernel), List.mem_of_getElem? (i := 587) (by decide +kernel)⟩
theorem lw_p33 : lw_okq (⟨"BumperBalls$Play", "knock", "(LBumperBalls$Table;I)V"⟩, 10) := ⟨⟨by decide +kernel, by decide +kernel⟩, List.mem_of_getElem? (i := 140) (by decide +kernel), List.mem_of_getElem? (i := 591) (by decide +kernel), List.mem_of_getElem? (i := 592) (by decide +kernel)⟩
theorem lw_p34 : lw_okq (⟨"BumperBalls$Play", "turnBy", "(II)V"⟩, 10) := ⟨⟨by decide +kernel, by decide +kernel⟩, List.mem_of_getElem? (i := 140) (by decide +kernel), List.mem_of_getElem? (i := 596) (by decide +kernel), List.mem_of_getElem? (i := 597) (by decide +kernel)⟩
theorem lw_p35 : lw_okq (⟨"BumperBalls$Play", "isOpen", "(I)Z"⟩, 10) := ⟨⟨by decide +kernel, by decide +kernel⟩, List.mem_of_getElem? (i := 140) (by decide +kernel), List.mem_of_getElem? (i := 600) (by decide +kernel), List.mem_of_getElem? (i := 601) (by decide +kernel)⟩
theorem lw_p36 : lw_okq (⟨"BumperBalls$Play", "shake", "(I)V"⟩, 10) := ⟨⟨by decide +kernel, by decide +kernel⟩, List.mem_of_getElem? (i := 140) (by decide +kernel), List.mem_of_getElem? (i := 608) (by decide +kernel), List.mem_of_getElem? (i := 609) (by decide +kernel)⟩
theorem lw_p37 : lw_okq (⟨"BumperBalls$Acts", "takeBack", "(LBumperBalls$Play;)V"⟩, 3) := ⟨⟨by decide +kernel, by decide +kernel⟩, List.mem_of_getElem? (i := 193) (by decide +kernel), List.mem_of_getElem? (i := 626) (by decide +kernel), List.mem_of_getElem? (i := 627) (by decide +kernel)⟩
theorem lw_p38 : lw_okq (⟨"BumperBalls", "isPin", "(I)Z"⟩, 12) := ⟨⟨by decide +kernel, by decide +kernel⟩, List.mem_of_getElem? (i := 19) (by decide +kernel), List.mem_of_getElem? (i := 638) (by decide +kernel), List.mem_of_getElem? (i := 639) (by decide +kernel)⟩
theorem lw_p39 : lw_okq (⟨"BumperBalls$Play", "run", "(LBumperBalls$Table;I)V"⟩, 10) := ⟨⟨by decide +kernel, by decide +kernel⟩, List.mem_of_getElem? (i := 140) (by decide +kernel), List.mem_of_getElem? (i := 648) (by decide +kernel), List.mem_of_getElem? (i := 649) (by decide +kernel)⟩
theorem lw_p40 : lw_okq (⟨"BumperBalls", "stepsTillLost", "()I"⟩, 12) := ⟨⟨by decide +kernel, by decide +kernel⟩, List.mem_of_getElem? (i := 19) (by decide +kernel), List.mem_of_getElem? (i := 658) (by decide +kernel), List.mem_of_getElem? (i := 659) (by decide +kernel)⟩
theorem lw_p41 : lw_okq (⟨"BumperBalls", "stepsTillAgain", "()I"⟩, 12) := ⟨⟨by decide +kernel, by decide +kernel⟩, List.mem_of_getElem? (i := 19) (by decide +kernel), List.mem_of_getElem? (i := 662) (by decide +kernel), List.mem_of_getElem? (i := 663) (by decide +kernel)⟩
theorem lw_p42 : lw_okq (⟨"BumperBalls$Play", "isAs", "(LBumperBalls$Play;)Z"⟩, 10) := ⟨⟨by decide +kernel, by decide +kernel⟩, List.mem_of_getElem? (i := 140) (by decide +kernel), List.mem_of_getElem? (i := 666) (by decide +kernel), List.mem_of_getElem? (i := 667) (by decide +kernel)⟩
theorem lw_p43 : lw_okq (⟨"BumperBalls", "broughtBy", "(II)I"⟩, 12) := ⟨⟨by decide +kernel, by decide +kernel⟩, List.mem_of_getElem? (i := 19) (by decide +kernel), List.mem_of_getElem? (i := 674) (by decide +kernel), List.mem_of_getElem? (i := 675) (by decide +kernel)⟩
theorem lw_p44 : lw_okq (⟨"BumperBalls$Search", "walk", "(LBumperBalls$Table;LBumperBalls$Play;II)V"⟩, 4) := ⟨⟨by decide +kernel, by decide +kernel⟩, List.mem_of_getElem? (i := 215) (by decide +kernel), List.mem_of_getElem? (i := 682) (by decide +kernel), List.mem_of_getElem? (i := 683) (by decide +kernel)⟩
theorem lw_p45 : lw_okq (⟨"BumperBalls$Search", "makeRoom", "(I)V"⟩, 4) := ⟨⟨by decide +kernel, by decide +kernel⟩, List.mem_of_getElem? (i := 215) (by decide +kernel), List.mem_of_getElem? (i := 686) (by decide +kernel), List.mem_of_getElem? (i := 687) (by decide +kernel)⟩
theorem lw_p46 : lw_okq (⟨"BumperBalls$Layer", "clear", "()V"⟩, 3) := ⟨⟨by decide +kernel, by decide +kernel⟩, List.mem_of_getElem? (i := 221) (by decide +kernel), List.mem_of_getElem? (i := 693) (by decide +kernel), List.mem_of_getElem? (i := 694) (by decide +kernel)⟩
theorem lw_p47 : lw_okq (⟨"BumperBalls$Layer", "reach", "(LBumperBalls$Play;I)V"⟩, 3) := ⟨⟨by decide +kernel, by decide +kernel⟩, List.mem_of_getElem? (i := 221) (by decide +kernel), List.mem_of_getElem? (i := 697) (by decide +kernel), List.mem_of_getElem? (i := 698) (by decide +kernel)⟩
def lw_privs_3 : List (MethodName × Nat) := [(⟨"BumperBalls$Play", "turn", "(I)V"⟩, 10), (⟨"BumperBalls$Play", "knock", "(LBumperBalls$Table;I)V"⟩, 10), (⟨"BumperBalls$Play", "turnBy", "(II)V"⟩, 10), (⟨"BumperBalls$Play", "isOpen", "(I)Z"⟩, 10), (⟨"BumperBalls$Play", "shake", "(I)V"⟩, 10), (⟨"BumperBalls$Acts", "takeBack", "(LBumperBalls$Play;)V"⟩, 3), (⟨"BumperBalls", "isPin", "(I)Z"⟩, 12), (⟨"BumperBalls$Play", "run", "(LBumperBalls$Table;I)V"⟩, 10), (⟨"BumperBalls", "stepsTillLost", "()I"⟩, 12), (⟨"BumperBalls", "stepsTillAgain", "()I"⟩, 12), (⟨"BumperBalls$Play", "isAs", "(LBumperBalls$Play;)Z"⟩, 10), (⟨"BumperBalls", "broughtBy", "(II)I"⟩, 12), (⟨"BumperBalls$Search", "walk", "(LBumperBalls$Table;LBumperBalls$Play;II)V"⟩, 4), (⟨"BumperBalls$Search", "makeRoom", "(I)V"⟩, 4), (⟨"BumperBalls$Layer", "clear", "()V"⟩, 3), (⟨"BumperBalls$Layer", "reach", "(LBumperBalls$Play;I)V"⟩, 3)]
theorem lw_r3 : ∀ q ∈ lw_privs_3, lw_okq q := List.forall_mem_cons.mpr ⟨lw_p32, List.forall_mem_cons.mpr ⟨lw_p33, List.forall_mem_cons.mpr ⟨lw_p34, List.forall_mem_cons.mpr ⟨lw_p35, List.forall_mem_cons.mpr ⟨lw_p36, List.forall_mem_cons.mpr ⟨lw_p37, List.forall_mem_cons.mpr ⟨lw_p38, List.forall_mem_cons.mpr ⟨lw_p39, List.forall_mem_cons.mpr ⟨lw_p40, List.forall_mem_cons.mpr ⟨lw_p41, List.forall_mem_cons.mpr ⟨lw_p42, List.forall_mem_cons.mpr ⟨lw_p43, List.forall_mem_cons.mpr ⟨lw_p44, List.forall_mem_cons.mpr ⟨lw_p45, List.forall_mem_cons.mpr ⟨lw_p46, List.forall_mem_cons.mpr ⟨lw_p47, fun _ h => absurd h List.not_mem_nil⟩⟩⟩⟩⟩⟩⟩⟩⟩⟩⟩⟩⟩⟩⟩⟩
theorem lw_p48 : lw_okq (⟨"BumperBalls$Search", "goOn", "(LBumperBalls$Table;IIII)V"⟩, 4) := ⟨⟨by decide +kernel, by decide +kernel⟩, List.mem_of_getElem? (i := 215) (by decide +kernel), List.mem_of_getElem? (i := 703) (by decide +kernel), List.mem_of_getElem? (i := 704) (by decide +kernel)⟩
theorem lw_p49 : lw_okq (⟨"BumperBalls$Search", "fewestStaying", "()I"⟩, 4) := ⟨⟨by decide +kernel, by decide +kernel⟩, List.mem_of_getElem? (i := 215) (by decide +kernel), List.mem_of_getElem? (i := 717) (by decide +kernel), List.mem_of_getElem? (i := 718) (by decide +kernel)⟩
theorem lw_p50 : lw_okq (⟨"BumperBalls$Rows", "tellsLetters", "(III)Z"⟩, 3) := ⟨⟨by decide +kernel, by decide +kernel⟩, List.mem_of_getElem? (i := 27) (by decide +kernel), List.mem_of_getElem? (i := 725) (by decide +kernel), List.mem_of_getElem? (i := 726) (by decide +kernel)⟩
theorem lw_p51 : lw_okq (⟨"BumperBalls", "isHeard", "(IIII)Z"⟩, 12) := ⟨⟨by decide +kernel, by decide +kernel⟩, List.mem_of_getElem? (i := 19) (by decide +kernel), List.mem_of_getElem? (i := 730) (by decide +kernel), List.mem_of_getElem? (i := 731) (by decide +kernel)⟩
theorem lw_p52 : lw_okq (⟨"BumperBalls$Image", "keep", "(LBumperBalls$Table;LBumperBalls$Play;)V"⟩, 3) := ⟨⟨by decide +kernel, by decide +kernel⟩, List.mem_of_getElem? (i := 283) (by decide +kernel), List.mem_of_getElem? (i := 738) (by decide +kernel), List.mem_of_getElem? (i := 739) (by decide +kernel)⟩
theorem lw_p53 : lw_okq (⟨"BumperBalls$Asks", "begin", "(ILBumperBalls$Table;LBumperBalls$Play;)V"⟩, 6) := ⟨⟨by decide +kernel, by decide +kernel⟩, List.mem_of_getElem? (i := 257) (by decide +kernel), List.mem_of_getElem? (i := 765) (by decide +kernel), List.mem_of_getElem? (i := 766) (by decide +kernel)⟩
theorem lw_p54 : lw_okq (⟨"BumperBalls$Asks", "sizeAsked", "()I"⟩, 6) := ⟨⟨by decide +kernel, by decide +kernel⟩, List.mem_of_getElem? (i := 257) (by decide +kernel), List.mem_of_getElem? (i := 769) (by decide +kernel), List.mem_of_getElem? (i := 770) (by decide +kernel)⟩
theorem lw_p55 : lw_okq (⟨"BumperBalls$Asks", "sizeOfBumper", "()I"⟩, 6) := ⟨⟨by decide +kernel, by decide +kernel⟩, List.mem_of_getElem? (i := 257) (by decide +kernel), List.mem_of_getElem? (i := 774) (by decide +kernel), List.mem_of_getElem? (i := 775) (by decide +kernel)⟩
theorem lw_p56 : lw_okq (⟨"BumperBalls$Asks", "leave", "(I)V"⟩, 6) := ⟨⟨by decide +kernel, by decide +kernel⟩, List.mem_of_getElem? (i := 257) (by decide +kernel), List.mem_of_getElem? (i := 778) (by decide +kernel), List.mem_of_getElem? (i := 779) (by decide +kernel)⟩
theorem lw_p57 : lw_okq (⟨"BumperBalls$Asks", "markOfBumper", "()I"⟩, 6) := ⟨⟨by decide +kernel, by decide +kernel⟩, List.mem_of_getElem? (i := 257) (by decide +kernel), List.mem_of_getElem? (i := 782) (by decide +kernel), List.mem_of_getElem? (i := 783) (by decide +kernel)⟩
theorem lw_p58 : lw_okq (⟨"BumperBalls$Asks", "sizeOfLamp", "()I"⟩, 6) := ⟨⟨by decide +kernel, by decide +kernel⟩, List.mem_of_getElem? (i := 257) (by decide +kernel), List.mem_of_getElem? (i := 786) (by decide +kernel), List.mem_of_getElem? (i := 787) (by decide +kernel)⟩
theorem lw_p59 : lw_okq (⟨"BumperBalls$Asks", "markAsked", "()I"⟩, 6) := ⟨⟨by decide +kernel, by decide +kernel⟩, List.mem_of_getElem? (i := 257) (by decide +kernel), List.mem_of_getElem? (i := 790) (by decide +kernel), List.mem_of_getElem? (i := 791) (by decide +kernel)⟩
theorem lw_p60 : lw_okq (⟨"BumperBalls$Asks", "markOfLamp", "()I"⟩, 6) := ⟨⟨by decide +kernel, by decide +kernel⟩, List.mem_of_getElem? (i := 257) (by decide +kernel), List.mem_of_getElem? (i := 794) (by decide +kernel), List.mem_of_getElem? (i := 795) (by decide +kernel)⟩
theorem lw_p61 : lw_okq (⟨"BumperBalls$Rows", "there", "()I"⟩, 3) := ⟨⟨by decide +kernel, by decide +kernel⟩, List.mem_of_getElem? (i := 27) (by decide +kernel), List.mem_of_getElem? (i := 806) (by decide +kernel), List.mem_of_getElem? (i := 807) (by decide +kernel)⟩
theorem lw_p62 : lw_okq (⟨"BumperBallsModel", "find", "(I)I"⟩, 22) := ⟨⟨by decide +kernel, by decide +kernel⟩, List.mem_of_getElem? (i := 815) (by decide +kernel), List.mem_of_getElem? (i := 902) (by decide +kernel), List.mem_of_getElem? (i := 903) (by decide +kernel)⟩
theorem lw_p63 : lw_okq (⟨"BumperBallsModel", "give", "(I)I"⟩, 22) := ⟨⟨by decide +kernel, by decide +kernel⟩, List.mem_of_getElem? (i := 815) (by decide +kernel), List.mem_of_getElem? (i := 907) (by decide +kernel), List.mem_of_getElem? (i := 908) (by decide +kernel)⟩
def lw_privs_4 : List (MethodName × Nat) := [(⟨"BumperBalls$Search", "goOn", "(LBumperBalls$Table;IIII)V"⟩, 4), (⟨"BumperBalls$Search", "fewestStaying", "()I"⟩, 4), (⟨"BumperBalls$Rows", "tellsLetters", "(III)Z"⟩, 3), (⟨"BumperBalls", "isHeard", "(IIII)Z"⟩, 12), (⟨"BumperBalls$Image", "keep", "(LBumperBalls$Table;LBumperBalls$Play;)V"⟩, 3), (⟨"BumperBalls$Asks", "begin", "(ILBumperBalls$Table;LBumperBalls$Play;)V"⟩, 6), (⟨"BumperBalls$Asks", "sizeAsked", "()I"⟩, 6), (⟨"BumperBalls$Asks", "sizeOfBumper", "()I"⟩, 6), (⟨"BumperBalls$Asks", "leave", "(I)V"⟩, 6), (⟨"BumperBalls$Asks", "markOfBumper", "()I"⟩, 6), (⟨"BumperBalls$Asks", "sizeOfLamp", "()I"⟩, 6), (⟨"BumperBalls$Asks", "markAsked", "()I"⟩, 6), (⟨"BumperBalls$Asks", "markOfLamp", "()I"⟩, 6), (⟨"BumperBalls$Rows", "there", "()I"⟩, 3), (⟨"BumperBallsModel", "find", "(I)I"⟩, 22), (⟨"BumperBallsModel", "give", "(I)I"⟩, 22)]
theorem lw_r4 : ∀ q ∈ lw_privs_4, lw_okq q := List.forall_mem_cons.mpr ⟨lw_p48, List.forall_mem_cons.mpr ⟨lw_p49, List.forall_mem_cons.mpr ⟨lw_p50, List.forall_mem_cons.mpr ⟨lw_p51, List.forall_mem_cons.mpr ⟨lw_p52, List.forall_mem_cons.mpr ⟨lw_p53, List.forall_mem_cons.mpr ⟨lw_p54, List.forall_mem_cons.mpr ⟨lw_p55, List.forall_mem_cons.mpr ⟨lw_p56, List.forall_mem_cons.mpr ⟨lw_p57, List.forall_mem_cons.mpr ⟨lw_p58, List.forall_mem_cons.mpr ⟨lw_p59, List.forall_mem_cons.mpr ⟨lw_p60, List.forall_mem_cons.mpr ⟨lw_p61, List.forall_mem_cons.mpr ⟨lw_p62, List.forall_mem_cons.mpr ⟨lw_p63, fun _ h => absurd h List.not_mem_nil⟩⟩⟩⟩⟩⟩⟩⟩⟩⟩⟩⟩⟩⟩⟩⟩
theorem lw_p64 : lw_okq (⟨"BumperBallsModel", "isSpan", "(III)Z"⟩, 22) := ⟨⟨by decide +kernel, by decide +kernel⟩, List.mem_of_getElem? (i := 815) (by decide +kernel), List.mem_of_getElem? (i := 919) (by decide +kernel), List.mem_of_getElem? (i := 920) (by decide +kernel)⟩
theorem lw_p65 : lw_okq (⟨"BumperBallsModel", "readsAll", "()Z"⟩, 22) := ⟨⟨by decide +kernel, by decide +kernel⟩, List.mem_of_getElem? (i := 815) (by decide +kernel), List.mem_of_getElem? (i := 938) (by decide +kernel), List.mem_of_getElem? (i := 939) (by decide +kernel)⟩
theorem lw_p66 : lw_okq (⟨"BumperBallsModel", "token", "()V"⟩, 22) := ⟨⟨by decide +kernel, by decide +kernel⟩, List.mem_of_getElem? (i := 815) (by decide +kernel), List.mem_of_getElem? (i := 942) (by decide +kernel), List.mem_of_getElem? (i := 943) (by decide +kernel)⟩
theorem lw_p67 : lw_okq (⟨"BumperBallsModel", "readsLaw", "()Z"⟩, 22) := ⟨⟨by decide +kernel, by decide +kernel⟩, List.mem_of_getElem? (i := 815) (by decide +kernel), List.mem_of_getElem? (i := 949) (by decide +kernel), List.mem_of_getElem? (i := 950) (by decide +kernel)⟩
theorem lw_p68 : lw_okq (⟨"BumperBallsModel", "isWord", "(II)Z"⟩, 22) := ⟨⟨by decide +kernel, by decide +kernel⟩, List.mem_of_getElem? (i := 815) (by decide +kernel), List.mem_of_getElem? (i := 953) (by decide +kernel), List.mem_of_getElem? (i := 954) (by decide +kernel)⟩
theorem lw_p69 : lw_okq (⟨"BumperBallsModel", "number", "(II)I"⟩, 22) := ⟨⟨by decide +kernel, by decide +kernel⟩, List.mem_of_getElem? (i := 815) (by decide +kernel), List.mem_of_getElem? (i := 957) (by decide +kernel), List.mem_of_getElem? (i := 958) (by decide +kernel)⟩
theorem lw_p70 : lw_okq (⟨"BumperBallsModel", "numberHere", "(II)I"⟩, 22) := ⟨⟨by decide +kernel, by decide +kernel⟩, List.mem_of_getElem? (i := 815) (by decide +kernel), List.mem_of_getElem? (i := 961) (by decide +kernel), List.mem_of_getElem? (i := 962) (by decide +kernel)⟩
theorem lw_p71 : lw_okq (⟨"BumperBallsModel", "readsSign", "()Z"⟩, 22) := ⟨⟨by decide +kernel, by decide +kernel⟩, List.mem_of_getElem? (i := 815) (by decide +kernel), List.mem_of_getElem? (i := 965) (by decide +kernel), List.mem_of_getElem? (i := 966) (by decide +kernel)⟩
theorem lw_p72 : lw_okq (⟨"BumperBallsModel", "isSign", "()Z"⟩, 22) := ⟨⟨by decide +kernel, by decide +kernel⟩, List.mem_of_getElem? (i := 815) (by decide +kernel), List.mem_of_getElem? (i := 969) (by decide +kernel), List.mem_of_getElem? (i := 970) (by decide +kernel)⟩
theorem lw_p73 : lw_okq (⟨"BumperBallsModel", "readsPin", "()Z"⟩, 22) := ⟨⟨by decide +kernel, by decide +kernel⟩, List.mem_of_getElem? (i := 815) (by decide +kernel), List.mem_of_getElem? (i := 973) (by decide +kernel), List.mem_of_getElem? (i := 974) (by decide +kernel)⟩
theorem lw_p74 : lw_okq (⟨"BumperBallsModel", "sortOfWord", "()I"⟩, 22) := ⟨⟨by decide +kernel, by decide +kernel⟩, List.mem_of_getElem? (i := 815) (by decide +kernel), List.mem_of_getElem? (i := 977) (by decide +kernel), List.mem_of_getElem? (i := 978) (by decide +kernel)⟩
theorem lw_p75 : lw_okq (⟨"BumperBallsModel", "isRighter", "()Z"⟩, 22) := ⟨⟨by decide +kernel, by decide +kernel⟩, List.mem_of_getElem? (i := 815) (by decide +kernel), List.mem_of_getElem? (i := 983) (by decide +kernel), List.mem_of_getElem? (i := 984) (by decide +kernel)⟩
theorem lw_p76 : lw_okq (⟨"BumperBallsModel", "cell", "()I"⟩, 22) := ⟨⟨by decide +kernel, by decide +kernel⟩, List.mem_of_getElem? (i := 815) (by decide +kernel), List.mem_of_getElem? (i := 990) (by decide +kernel), List.mem_of_getElem? (i := 991) (by decide +kernel)⟩
theorem lw_p77 : lw_okq (⟨"BumperBallsModel", "isPinRead", "(I)Z"⟩, 22) := ⟨⟨by decide +kernel, by decide +kernel⟩, List.mem_of_getElem? (i := 815) (by decide +kernel), List.mem_of_getElem? (i := 994) (by decide +kernel), List.mem_of_getElem? (i := 995) (by decide +kernel)⟩
theorem lw_p78 : lw_okq (⟨"BumperBallsModel", "readsBall", "()Z"⟩, 22) := ⟨⟨by decide +kernel, by decide +kernel⟩, List.mem_of_getElem? (i := 815) (by decide +kernel), List.mem_of_getElem? (i := 998) (by decide +kernel), List.mem_of_getElem? (i := 999) (by decide +kernel)⟩
theorem lw_p79 : lw_okq (⟨"BumperBallsModel", "keepPast", "()V"⟩, 22) := ⟨⟨by decide +kernel, by decide +kernel⟩, List.mem_of_getElem? (i := 815) (by decide +kernel), List.mem_of_getElem? (i := 1014) (by decide +kernel), List.mem_of_getElem? (i := 1015) (by decide +kernel)⟩
def lw_privs_5 : List (MethodName × Nat) := [(⟨"BumperBallsModel", "isSpan", "(III)Z"⟩, 22), (⟨"BumperBallsModel", "readsAll", "()Z"⟩, 22), (⟨"BumperBallsModel", "token", "()V"⟩, 22), (⟨"BumperBallsModel", "readsLaw", "()Z"⟩, 22), (⟨"BumperBallsModel", "isWord", "(II)Z"⟩, 22), (⟨"BumperBallsModel", "number", "(II)I"⟩, 22), (⟨"BumperBallsModel", "numberHere", "(II)I"⟩, 22), (⟨"BumperBallsModel", "readsSign", "()Z"⟩, 22), (⟨"BumperBallsModel", "isSign", "()Z"⟩, 22), (⟨"BumperBallsModel", "readsPin", "()Z"⟩, 22), (⟨"BumperBallsModel", "sortOfWord", "()I"⟩, 22), (⟨"BumperBallsModel", "isRighter", "()Z"⟩, 22), (⟨"BumperBallsModel", "cell", "()I"⟩, 22), (⟨"BumperBallsModel", "isPinRead", "(I)Z"⟩, 22), (⟨"BumperBallsModel", "readsBall", "()Z"⟩, 22), (⟨"BumperBallsModel", "keepPast", "()V"⟩, 22)]
theorem lw_r5 : ∀ q ∈ lw_privs_5, lw_okq q := List.forall_mem_cons.mpr ⟨lw_p64, List.forall_mem_cons.mpr ⟨lw_p65, List.forall_mem_cons.mpr ⟨lw_p66, List.forall_mem_cons.mpr ⟨lw_p67, List.forall_mem_cons.mpr ⟨lw_p68, List.forall_mem_cons.mpr ⟨lw_p69, List.forall_mem_cons.mpr ⟨lw_p70, List.forall_mem_cons.mpr ⟨lw_p71, List.forall_mem_cons.mpr ⟨lw_p72, List.forall_mem_cons.mpr ⟨lw_p73, List.forall_mem_cons.mpr ⟨lw_p74, List.forall_mem_cons.mpr ⟨lw_p75, List.forall_mem_cons.mpr ⟨lw_p76, List.forall_mem_cons.mpr ⟨lw_p77, List.forall_mem_cons.mpr ⟨lw_p78, List.forall_mem_cons.mpr ⟨lw_p79, fun _ h => absurd h List.not_mem_nil⟩⟩⟩⟩⟩⟩⟩⟩⟩⟩⟩⟩⟩⟩⟩⟩
theorem lw_p80 : lw_okq (⟨"BumperBallsModel", "step", "(I)I"⟩, 22) := ⟨⟨by decide +kernel, by decide +kernel⟩, List.mem_of_getElem? (i := 815) (by decide +kernel), List.mem_of_getElem? (i := 1018) (by decide +kernel), List.mem_of_getElem? (i := 1019) (by decide +kernel)⟩
theorem lw_p81 : lw_okq (⟨"BumperBallsModel", "pinAt", "(I)I"⟩, 22) := ⟨⟨by decide +kernel, by decide +kernel⟩, List.mem_of_getElem? (i := 815) (by decide +kernel), List.mem_of_getElem? (i := 1023) (by decide +kernel), List.mem_of_getElem? (i := 1024) (by decide +kernel)⟩
theorem lw_p82 : lw_okq (⟨"BumperBallsModel", "strike", "(II)V"⟩, 22) := ⟨⟨by decide +kernel, by decide +kernel⟩, List.mem_of_getElem? (i := 815) (by decide +kernel), List.mem_of_getElem? (i := 1027) (by decide +kernel), List.mem_of_getElem? (i := 1028) (by decide +kernel)⟩
theorem lw_p83 : lw_okq (⟨"BumperBallsModel", "turns", "(II)I"⟩, 22) := ⟨⟨by decide +kernel, by decide +kernel⟩, List.mem_of_getElem? (i := 815) (by decide +kernel), List.mem_of_getElem? (i := 1031) (by decide +kernel), List.mem_of_getElem? (i := 1032) (by decide +kernel)⟩
theorem lw_p84 : lw_okq (⟨"BumperBallsModel", "isGone", "()Z"⟩, 22) := ⟨⟨by decide +kernel, by decide +kernel⟩, List.mem_of_getElem? (i := 815) (by decide +kernel), List.mem_of_getElem? (i := 1042) (by decide +kernel), List.mem_of_getElem? (i := 1043) (by decide +kernel)⟩
theorem lw_p85 : lw_okq (⟨"BumperBallsModel", "isPin", "(I)Z"⟩, 22) := ⟨⟨by decide +kernel, by decide +kernel⟩, List.mem_of_getElem? (i := 815) (by decide +kernel), List.mem_of_getElem? (i := 1069) (by decide +kernel), List.mem_of_getElem? (i := 1070) (by decide +kernel)⟩
theorem lw_p86 : lw_okq (⟨"BumperBallsModel", "copyRow", "(II)V"⟩, 22) := ⟨⟨by decide +kernel, by decide +kernel⟩, List.mem_of_getElem? (i := 815) (by decide +kernel), List.mem_of_getElem? (i := 1078) (by decide +kernel), List.mem_of_getElem? (i := 1079) (by decide +kernel)⟩
theorem lw_p87 : lw_okq (⟨"BumperBallsModel", "isAsNow", "()Z"⟩, 22) := ⟨⟨by decide +kernel, by decide +kernel⟩, List.mem_of_getElem? (i := 815) (by decide +kernel), List.mem_of_getElem? (i := 1086) (by decide +kernel), List.mem_of_getElem? (i := 1087) (by decide +kernel)⟩
theorem lw_p88 : lw_okq (⟨"BumperBallsModel", "tryPut", "(I)V"⟩, 22) := ⟨⟨by decide +kernel, by decide +kernel⟩, List.mem_of_getElem? (i := 815) (by decide +kernel), List.mem_of_getElem? (i := 1095) (by decide +kernel), List.mem_of_getElem? (i := 1096) (by decide +kernel)⟩
theorem lw_p89 : lw_okq (⟨"BumperBallsModel", "nudgesFor", "(II)I"⟩, 22) := ⟨⟨by decide +kernel, by decide +kernel⟩, List.mem_of_getElem? (i := 815) (by decide +kernel), List.mem_of_getElem? (i := 1104) (by decide +kernel), List.mem_of_getElem? (i := 1105) (by decide +kernel)⟩
theorem lw_p90 : lw_okq (⟨"BumperBallsModel", "goOn", "(III)I"⟩, 22) := ⟨⟨by decide +kernel, by decide +kernel⟩, List.mem_of_getElem? (i := 815) (by decide +kernel), List.mem_of_getElem? (i := 1111) (by decide +kernel), List.mem_of_getElem? (i := 1112) (by decide +kernel)⟩
theorem lw_p91 : lw_okq (⟨"BumperBallsModel", "isHeard", "(III)Z"⟩, 22) := ⟨⟨by decide +kernel, by decide +kernel⟩, List.mem_of_getElem? (i := 815) (by decide +kernel), List.mem_of_getElem? (i := 1124) (by decide +kernel), List.mem_of_getElem? (i := 1125) (by decide +kernel)⟩
theorem lw_p92 : lw_okq (⟨"BumperBallsModel", "sizeOfBumper", "(I)I"⟩, 22) := ⟨⟨by decide +kernel, by decide +kernel⟩, List.mem_of_getElem? (i := 815) (by decide +kernel), List.mem_of_getElem? (i := 1151) (by decide +kernel), List.mem_of_getElem? (i := 1152) (by decide +kernel)⟩
theorem lw_p93 : lw_okq (⟨"BumperBallsModel", "bumperBody", "(I)I"⟩, 22) := ⟨⟨by decide +kernel, by decide +kernel⟩, List.mem_of_getElem? (i := 815) (by decide +kernel), List.mem_of_getElem? (i := 1155) (by decide +kernel), List.mem_of_getElem? (i := 1156) (by decide +kernel)⟩
theorem lw_p94 : lw_okq (⟨"BumperBallsModel", "leave", "(I)V"⟩, 22) := ⟨⟨by decide +kernel, by decide +kernel⟩, List.mem_of_getElem? (i := 815) (by decide +kernel), List.mem_of_getElem? (i := 1159) (by decide +kernel), List.mem_of_getElem? (i := 1160) (by decide +kernel)⟩
theorem lw_p95 : lw_okq (⟨"BumperBallsModel", "paysBody", "(I)I"⟩, 22) := ⟨⟨by decide +kernel, by decide +kernel⟩, List.mem_of_getElem? (i := 815) (by decide +kernel), List.mem_of_getElem? (i := 1163) (by decide +kernel), List.mem_of_getElem? (i := 1164) (by decide +kernel)⟩
def lw_privs_6 : List (MethodName × Nat) := [(⟨"BumperBallsModel", "step", "(I)I"⟩, 22), (⟨"BumperBallsModel", "pinAt", "(I)I"⟩, 22), (⟨"BumperBallsModel", "strike", "(II)V"⟩, 22), (⟨"BumperBallsModel", "turns", "(II)I"⟩, 22), (⟨"BumperBallsModel", "isGone", "()Z"⟩, 22), (⟨"BumperBallsModel", "isPin", "(I)Z"⟩, 22), (⟨"BumperBallsModel", "copyRow", "(II)V"⟩, 22), (⟨"BumperBallsModel", "isAsNow", "()Z"⟩, 22), (⟨"BumperBallsModel", "tryPut", "(I)V"⟩, 22), (⟨"BumperBallsModel", "nudgesFor", "(II)I"⟩, 22), (⟨"BumperBallsModel", "goOn", "(III)I"⟩, 22), (⟨"BumperBallsModel", "isHeard", "(III)Z"⟩, 22), (⟨"BumperBallsModel", "sizeOfBumper", "(I)I"⟩, 22), (⟨"BumperBallsModel", "bumperBody", "(I)I"⟩, 22), (⟨"BumperBallsModel", "leave", "(I)V"⟩, 22), (⟨"BumperBallsModel", "paysBody", "(I)I"⟩, 22)]
theorem lw_r6 : ∀ q ∈ lw_privs_6, lw_okq q := List.forall_mem_cons.mpr ⟨lw_p80, List.forall_mem_cons.mpr ⟨lw_p81, List.forall_mem_cons.mpr ⟨lw_p82, List.forall_mem_cons.mpr ⟨lw_p83, List.forall_mem_cons.mpr ⟨lw_p84, List.forall_mem_cons.mpr ⟨lw_p85, List.forall_mem_cons.mpr ⟨lw_p86, List.forall_mem_cons.mpr ⟨lw_p87, List.forall_mem_cons.mpr ⟨lw_p88, List.forall_mem_cons.mpr ⟨lw_p89, List.forall_mem_cons.mpr ⟨lw_p90, List.forall_mem_cons.mpr ⟨lw_p91, List.forall_mem_cons.mpr ⟨lw_p92, List.forall_mem_cons.mpr ⟨lw_p93, List.forall_mem_cons.mpr ⟨lw_p94, List.forall_mem_cons.mpr ⟨lw_p95, fun _ h => absurd h List.not_mem_nil⟩⟩⟩⟩⟩⟩⟩⟩⟩⟩⟩⟩⟩⟩⟩⟩
theorem lw_p96 : lw_okq (⟨"BumperBallsModel", "markOfBumper", "(I)I"⟩, 22) := ⟨⟨by decide +kernel, by decide +kernel⟩, List.mem_of_getElem? (i := 815) (by decide +kernel), List.mem_of_getElem? (i := 1167) (by decide +kernel), List.mem_of_getElem? (i := 1168) (by decide +kernel)⟩
theorem lw_p97 : lw_okq (⟨"BumperBallsModel", "struckBody", "(I)I"⟩, 22) := ⟨⟨by decide +kernel, by decide +kernel⟩, List.mem_of_getElem? (i := 815) (by decide +kernel), List.mem_of_getElem? (i := 1171) (by decide +kernel), List.mem_of_getElem? (i := 1172) (by decide +kernel)⟩
theorem lw_p98 : lw_okq (⟨"BumperBallsModel", "numberBody", "(I)I"⟩, 22) := ⟨⟨by decide +kernel, by decide +kernel⟩, List.mem_of_getElem? (i := 815) (by decide +kernel), List.mem_of_getElem? (i := 1175) (by decide +kernel), List.mem_of_getElem? (i := 1176) (by decide +kernel)⟩
theorem lw_p99 : lw_okq (⟨"BumperBallsModel", "sizeOfLamp", "(I)I"⟩, 22) := ⟨⟨by decide +kernel, by decide +kernel⟩, List.mem_of_getElem? (i := 815) (by decide +kernel), List.mem_of_getElem? (i := 1179) (by decide +kernel), List.mem_of_getElem? (i := 1180) (by decide +kernel)⟩
theorem lw_p100 : lw_okq (⟨"BumperBallsModel", "lampBody", "(I)I"⟩, 22) := ⟨⟨by decide +kernel, by decide +kernel⟩, List.mem_of_getElem? (i := 815) (by decide +kernel), List.mem_of_getElem? (i := 1183) (by decide +kernel), List.mem_of_getElem? (i := 1184) (by decide +kernel)⟩
theorem lw_p101 : lw_okq (⟨"BumperBallsModel", "markOfLamp", "(I)I"⟩, 22) := ⟨⟨by decide +kernel, by decide +kernel⟩, List.mem_of_getElem? (i := 815) (by decide +kernel), List.mem_of_getElem? (i := 1187) (by decide +kernel), List.mem_of_getElem? (i := 1188) (by decide +kernel)⟩
def lw_privs_7 : List (MethodName × Nat) := [(⟨"BumperBallsModel", "markOfBumper", "(I)I"⟩, 22), (⟨"BumperBallsModel", "struckBody", "(I)I"⟩, 22), (⟨"BumperBallsModel", "numberBody", "(I)I"⟩, 22), (⟨"BumperBallsModel", "sizeOfLamp", "(I)I"⟩, 22), (⟨"BumperBallsModel", "lampBody", "(I)I"⟩, 22), (⟨"BumperBallsModel", "markOfLamp", "(I)I"⟩, 22)]
theorem lw_r7 : ∀ q ∈ lw_privs_7, lw_okq q := List.forall_mem_cons.mpr ⟨lw_p96, List.forall_mem_cons.mpr ⟨lw_p97, List.forall_mem_cons.mpr ⟨lw_p98, List.forall_mem_cons.mpr ⟨lw_p99, List.forall_mem_cons.mpr ⟨lw_p100, List.forall_mem_cons.mpr ⟨lw_p101, fun _ h => absurd h List.not_mem_nil⟩⟩⟩⟩⟩⟩
def lw_privs : List (MethodName × Nat) := lw_privs_1 ++ (lw_privs_2 ++ (lw_privs_3 ++ (lw_privs_4 ++ (lw_privs_5 ++ (lw_privs_6 ++ (lw_privs_7))))))
def lw_tbl : List Cond := k2_sels lw_privs ++ tables_1
theorem lw_privs_ok : ∀ q ∈ lw_privs, lw_okq q := by
  show ∀ q ∈ lw_privs_1 ++ (lw_privs_2 ++ (lw_privs_3 ++ (lw_privs_4 ++ (lw_privs_5 ++ (lw_privs_6 ++ (lw_privs_7)))))), lw_okq q
  exact List.forall_mem_append.mpr ⟨lw_r1, List.forall_mem_append.mpr ⟨lw_r2, List.forall_mem_append.mpr ⟨lw_r3, List.forall_mem_append.mpr ⟨lw_r4, List.forall_mem_append.mpr ⟨lw_r5, List.forall_mem_append.mpr ⟨lw_r6, lw_r7⟩⟩⟩⟩⟩⟩
-- ===== end of PART A; then your names; then what follows =====
def RX0 : String := "BumperBalls$Acts"
def TX0 : u_T := fun k => match k with
  | 0 => ("BumperBalls$Acts", "plays", "[LBumperBalls$Play;", true)
  | 1 => ("BumperBalls$Acts", "oldest", "I", false)
  | _ => ("BumperBalls$Acts", "size", "I", false)
def tyX0 : Nat → FieldType := fun k => match k with
  | 0 => .array (.object "BumperBalls$Play")
  | 1 => .int
  | _ => .int
abbrev wsX00 : List Cond := u_ws RX0 TX0 3
theorem nmX0 : ∀ a, a < 3 → ∀ b, b < 3 → a ≠ b → (TX0 a).2.1 ≠ (TX0 b).2.1 := by decide +kernel
theorem tyX0_ok : ∀ k, k < 3 → parseFieldDescriptor (TX0 k).2.2.1 = some (tyX0 k) := by decide +kernel
abbrev cX0_init : ByteArray := prog_2_method_1_code
def yX0_init : MethodName := ⟨RX0, "<init>", "()V"⟩
abbrev cX0_forget : ByteArray := prog_2_method_2_code
def yX0_forget : MethodName := ⟨RX0, "forget", "()V"⟩
abbrev cX0_keep : ByteArray := prog_2_method_3_code
def yX0_keep : MethodName := ⟨RX0, "keep", "(LBumperBalls$Play;)V"⟩
abbrev cX0_takeBack : ByteArray := prog_2_method_4_code
def yX0_takeBack : MethodName := ⟨RX0, "takeBack", "(LBumperBalls$Play;)V"⟩
def RX1 : String := "BumperBalls$Asks"
def TX1 : u_T := fun k => match k with
  | 0 => ("BumperBalls$Asks", "bodies", "[I", true)
  | 1 => ("BumperBalls$Asks", "length", "I", false)
  | 2 => ("BumperBalls$Asks", "pin", "I", false)
  | 3 => ("BumperBalls$Asks", "kind", "I", false)
  | 4 => ("BumperBalls$Asks", "pays", "I", false)
  | _ => ("BumperBalls$Asks", "struck", "I", false)
def tyX1 : Nat → FieldType := fun k => match k with
  | 0 => .array .int
  | 1 => .int
  | 2 => .int
  | 3 => .int
  | 4 => .int
  | _ => .int
abbrev wsX10 : List Cond := u_ws RX1 TX1 6
theorem nmX1 : ∀ a, a < 6 → ∀ b, b < 6 → a ≠ b → (TX1 a).2.1 ≠ (TX1 b).2.1 := by decide +kernel
theorem tyX1_ok : ∀ k, k < 6 → parseFieldDescriptor (TX1 k).2.2.1 = some (tyX1 k) := by decide +kernel
abbrev cX1_init : ByteArray := prog_3_method_1_code
def yX1_init : MethodName := ⟨RX1, "<init>", "()V"⟩
abbrev cX1_begin : ByteArray := prog_3_method_2_code
def yX1_begin : MethodName := ⟨RX1, "begin", "(ILBumperBalls$Table;LBumperBalls$Play;)V"⟩
abbrev cX1_leave : ByteArray := prog_3_method_3_code
def yX1_leave : MethodName := ⟨RX1, "leave", "(I)V"⟩
abbrev cX1_sizeAsked : ByteArray := prog_3_method_4_code
def yX1_sizeAsked : MethodName := ⟨RX1, "sizeAsked", "()I"⟩
abbrev cX1_markAsked : ByteArray := prog_3_method_5_code
def yX1_markAsked : MethodName := ⟨RX1, "markAsked", "()I"⟩
abbrev cX1_sizeOfBumper : ByteArray := prog_3_method_6_code
def yX1_sizeOfBumper : MethodName := ⟨RX1, "sizeOfBumper", "()I"⟩
abbrev cX1_markOfBumper : ByteArray := prog_3_method_7_code
def yX1_markOfBumper : MethodName := ⟨RX1, "markOfBumper", "()I"⟩
abbrev cX1_sizeOfLamp : ByteArray := prog_3_method_8_code
def yX1_sizeOfLamp : MethodName := ⟨RX1, "sizeOfLamp", "()I"⟩
abbrev cX1_markOfLamp : ByteArray := prog_3_method_9_code
def yX1_markOfLamp : MethodName := ⟨RX1, "markOfLamp", "()I"⟩
def RX2 : String := "BumperBalls$Image"
def TX2 : u_T := fun k => match k with
  | 0 => ("BumperBalls$Image", "table", "LBumperBalls$Table;", true)
  | 1 => ("BumperBalls$Image", "play", "LBumperBalls$Play;", true)
  | _ => ("BumperBalls$Image", "isKept", "Z", false)
def tyX2 : Nat → FieldType := fun k => match k with
  | 0 => .object "BumperBalls$Table"
  | 1 => .object "BumperBalls$Play"
  | _ => .boolean
abbrev wsX20 : List Cond := u_ws RX2 TX2 3
theorem nmX2 : ∀ a, a < 3 → ∀ b, b < 3 → a ≠ b → (TX2 a).2.1 ≠ (TX2 b).2.1 := by decide +kernel
theorem tyX2_ok : ∀ k, k < 3 → parseFieldDescriptor (TX2 k).2.2.1 = some (tyX2 k) := by decide +kernel
abbrev cX2_init : ByteArray := prog_4_method_1_code
def yX2_init : MethodName := ⟨RX2, "<init>", "()V"⟩
abbrev cX2_keep : ByteArray := prog_4_method_2_code
def yX2_keep : MethodName := ⟨RX2, "keep", "(LBumperBalls$Table;LBumperBalls$Play;)V"⟩
def RX3 : String := "BumperBalls$Layer"
def TX3 : u_T := fun k => match k with
  | 0 => ("BumperBalls$Layer", "places", "[I", true)
  | 1 => ("BumperBalls$Layer", "costs", "[I", true)
  | _ => ("BumperBalls$Layer", "size", "I", false)
def tyX3 : Nat → FieldType := fun k => match k with
  | 0 => .array .int
  | 1 => .array .int
  | _ => .int
abbrev wsX30 : List Cond := u_ws RX3 TX3 3
theorem nmX3 : ∀ a, a < 3 → ∀ b, b < 3 → a ≠ b → (TX3 a).2.1 ≠ (TX3 b).2.1 := by decide +kernel
theorem tyX3_ok : ∀ k, k < 3 → parseFieldDescriptor (TX3 k).2.2.1 = some (tyX3 k) := by decide +kernel
abbrev cX3_init : ByteArray := prog_5_method_1_code
def yX3_init : MethodName := ⟨RX3, "<init>", "(I)V"⟩
abbrev cX3_clear : ByteArray := prog_5_method_2_code
def yX3_clear : MethodName := ⟨RX3, "clear", "()V"⟩
abbrev cX3_reach : ByteArray := prog_5_method_3_code
def yX3_reach : MethodName := ⟨RX3, "reach", "(LBumperBalls$Play;I)V"⟩
def RX4 : String := "BumperBalls$Play"
def TX4 : u_T := fun k => match k with
  | 0 => ("BumperBalls$Play", "cell", "I", false)
  | 1 => ("BumperBalls$Play", "way", "I", false)
  | 2 => ("BumperBalls$Play", "lost", "Z", false)
  | 3 => ("BumperBalls$Play", "shakes", "I", false)
  | 4 => ("BumperBalls$Play", "score", "I", false)
  | 5 => ("BumperBalls$Play", "lit", "I", false)
  | 6 => ("BumperBalls$Play", "gates", "I", false)
  | 7 => ("BumperBalls$Play", "steps", "I", false)
  | 8 => ("BumperBalls$Play", "struck", "[I", true)
  | _ => ("BumperBalls$Play", "knocked", "I", false)
def tyX4 : Nat → FieldType := fun k => match k with
  | 0 => .int
  | 1 => .int
  | 2 => .boolean
  | 3 => .int
  | 4 => .int
  | 5 => .int
  | 6 => .int
  | 7 => .int
  | 8 => .array .int
  | _ => .int
abbrev wsX40 : List Cond := u_ws RX4 TX4 10
theorem nmX4 : ∀ a, a < 10 → ∀ b, b < 10 → a ≠ b → (TX4 a).2.1 ≠ (TX4 b).2.1 := by decide +kernel
theorem tyX4_ok : ∀ k, k < 10 → parseFieldDescriptor (TX4 k).2.2.1 = some (tyX4 k) := by decide +kernel
abbrev cX4_init : ByteArray := prog_6_method_1_code
def yX4_init : MethodName := ⟨RX4, "<init>", "()V"⟩
abbrev cX4_begin : ByteArray := prog_6_method_2_code
def yX4_begin : MethodName := ⟨RX4, "begin", "(II)V"⟩
abbrev cX4_place : ByteArray := prog_6_method_3_code
def yX4_place : MethodName := ⟨RX4, "place", "(II)V"⟩
abbrev cX4_become : ByteArray := prog_6_method_4_code
def yX4_become : MethodName := ⟨RX4, "become", "(LBumperBalls$Play;)V"⟩
abbrev cX4_isAs : ByteArray := prog_6_method_5_code
def yX4_isAs : MethodName := ⟨RX4, "isAs", "(LBumperBalls$Play;)Z"⟩
abbrev cX4_isOpen : ByteArray := prog_6_method_6_code
def yX4_isOpen : MethodName := ⟨RX4, "isOpen", "(I)Z"⟩
abbrev cX4_run : ByteArray := prog_6_method_7_code
def yX4_run : MethodName := ⟨RX4, "run", "(LBumperBalls$Table;I)V"⟩
abbrev cX4_step : ByteArray := prog_6_method_8_code
def yX4_step : MethodName := ⟨RX4, "step", "(LBumperBalls$Table;)V"⟩
abbrev cX4_isAtSide : ByteArray := prog_6_method_9_code
def yX4_isAtSide : MethodName := ⟨RX4, "isAtSide", "()Z"⟩
abbrev cX4_knock : ByteArray := prog_6_method_10_code
def yX4_knock : MethodName := ⟨RX4, "knock", "(LBumperBalls$Table;I)V"⟩
abbrev cX4_turnBy : ByteArray := prog_6_method_11_code
def yX4_turnBy : MethodName := ⟨RX4, "turnBy", "(II)V"⟩
abbrev cX4_turn : ByteArray := prog_6_method_12_code
def yX4_turn : MethodName := ⟨RX4, "turn", "(I)V"⟩
abbrev cX4_shake : ByteArray := prog_6_method_13_code
def yX4_shake : MethodName := ⟨RX4, "shake", "(I)V"⟩
def RX5 : String := "BumperBalls$Rows"
def TX5 : u_T := fun k => match k with
  | 0 => ("BumperBalls$Rows", "lanes", "[I", true)
  | 1 => ("BumperBalls$Rows", "sizes", "[I", true)
  | _ => ("BumperBalls$Rows", "items", "[[I", true)
def tyX5 : Nat → FieldType := fun k => match k with
  | 0 => .array .int
  | 1 => .array .int
  | _ => .array (.array .int)
abbrev wsX50 : List Cond := u_ws RX5 TX5 3
theorem nmX5 : ∀ a, a < 3 → ∀ b, b < 3 → a ≠ b → (TX5 a).2.1 ≠ (TX5 b).2.1 := by decide +kernel
theorem tyX5_ok : ∀ k, k < 3 → parseFieldDescriptor (TX5 k).2.2.1 = some (tyX5 k) := by decide +kernel
abbrev cX5_init : ByteArray := prog_7_method_1_code
def yX5_init : MethodName := ⟨RX5, "<init>", "()V"⟩
abbrev cX5_isMissing : ByteArray := prog_7_method_2_code
def yX5_isMissing : MethodName := ⟨RX5, "isMissing", "(I)Z"⟩
abbrev cX5_hasPlaces : ByteArray := prog_7_method_3_code
def yX5_hasPlaces : MethodName := ⟨RX5, "hasPlaces", "(III)Z"⟩
abbrev cX5_make : ByteArray := prog_7_method_4_code
def yX5_make : MethodName := ⟨RX5, "make", "(III)V"⟩
abbrev cX5_remove : ByteArray := prog_7_method_5_code
def yX5_remove : MethodName := ⟨RX5, "remove", "(I)I"⟩
abbrev cX5_write : ByteArray := prog_7_method_6_code
def yX5_write : MethodName := ⟨RX5, "write", "(III)I"⟩
abbrev cX5_tellsLetters : ByteArray := prog_7_method_7_code
def yX5_tellsLetters : MethodName := ⟨RX5, "tellsLetters", "(III)Z"⟩
abbrev cX5_there : ByteArray := prog_7_method_8_code
def yX5_there : MethodName := ⟨RX5, "there", "()I"⟩
def RX6 : String := "BumperBalls$Search"
def TX6 : u_T := fun k => match k with
  | 0 => ("BumperBalls$Search", "now", "LBumperBalls$Layer;", false)
  | 1 => ("BumperBalls$Search", "next", "LBumperBalls$Layer;", false)
  | 2 => ("BumperBalls$Search", "ball", "LBumperBalls$Play;", true)
  | _ => ("BumperBalls$Search", "fewestStriking", "I", false)
def tyX6 : Nat → FieldType := fun k => match k with
  | 0 => .object "BumperBalls$Layer"
  | 1 => .object "BumperBalls$Layer"
  | 2 => .object "BumperBalls$Play"
  | _ => .int
abbrev wsX60 : List Cond := u_ws RX6 TX6 4
theorem nmX6 : ∀ a, a < 4 → ∀ b, b < 4 → a ≠ b → (TX6 a).2.1 ≠ (TX6 b).2.1 := by decide +kernel
theorem tyX6_ok : ∀ k, k < 4 → parseFieldDescriptor (TX6 k).2.2.1 = some (tyX6 k) := by decide +kernel
abbrev cX6_init : ByteArray := prog_8_method_1_code
def yX6_init : MethodName := ⟨RX6, "<init>", "()V"⟩
abbrev cX6_walk : ByteArray := prog_8_method_2_code
def yX6_walk : MethodName := ⟨RX6, "walk", "(LBumperBalls$Table;LBumperBalls$Play;II)V"⟩
abbrev cX6_makeRoom : ByteArray := prog_8_method_3_code
def yX6_makeRoom : MethodName := ⟨RX6, "makeRoom", "(I)V"⟩
abbrev cX6_goOn : ByteArray := prog_8_method_4_code
def yX6_goOn : MethodName := ⟨RX6, "goOn", "(LBumperBalls$Table;IIII)V"⟩
abbrev cX6_fewestStaying : ByteArray := prog_8_method_5_code
def yX6_fewestStaying : MethodName := ⟨RX6, "fewestStaying", "()I"⟩
abbrev cX6_fewer : ByteArray := prog_8_method_6_code
def yX6_fewer : MethodName := ⟨RX6, "fewer", "(II)I"⟩
def RX7 : String := "BumperBalls$Table"
def TX7 : u_T := fun k => match k with
  | 0 => ("BumperBalls$Table", "tilt", "I", false)
  | 1 => ("BumperBalls$Table", "pins", "I", false)
  | 2 => ("BumperBalls$Table", "kinds", "[I", true)
  | 3 => ("BumperBalls$Table", "cells", "[I", true)
  | 4 => ("BumperBalls$Table", "letters", "[I", true)
  | 5 => ("BumperBalls$Table", "pays", "[I", true)
  | _ => ("BumperBalls$Table", "pinsOfCells", "[I", true)
def tyX7 : Nat → FieldType := fun k => match k with
  | 0 => .int
  | 1 => .int
  | 2 => .array .int
  | 3 => .array .int
  | 4 => .array .int
  | 5 => .array .int
  | _ => .array .int
abbrev wsX70 : List Cond := u_ws RX7 TX7 7
theorem nmX7 : ∀ a, a < 7 → ∀ b, b < 7 → a ≠ b → (TX7 a).2.1 ≠ (TX7 b).2.1 := by decide +kernel
theorem tyX7_ok : ∀ k, k < 7 → parseFieldDescriptor (TX7 k).2.2.1 = some (tyX7 k) := by decide +kernel
abbrev cX7_init : ByteArray := prog_9_method_1_code
def yX7_init : MethodName := ⟨RX7, "<init>", "()V"⟩
abbrev cX7_clear : ByteArray := prog_9_method_2_code
def yX7_clear : MethodName := ⟨RX7, "clear", "()V"⟩
abbrev cX7_addPin : ByteArray := prog_9_method_3_code
def yX7_addPin : MethodName := ⟨RX7, "addPin", "(IIII)V"⟩
abbrev cX7_pinIn : ByteArray := prog_9_method_4_code
def yX7_pinIn : MethodName := ⟨RX7, "pinIn", "(I)I"⟩
abbrev cX7_become : ByteArray := prog_9_method_5_code
def yX7_become : MethodName := ⟨RX7, "become", "(LBumperBalls$Table;)V"⟩
def RX8 : String := "BumperBalls$Tape"
def TX8 : u_T := fun k => match k with
  | 0 => ("BumperBalls$Tape", "bytes", "[I", true)
  | 1 => ("BumperBalls$Tape", "length", "I", false)
  | 2 => ("BumperBalls$Tape", "draft", "LBumperBalls$Table;", true)
  | 3 => ("BumperBalls$Tape", "ballCell", "I", false)
  | 4 => ("BumperBalls$Tape", "ballWay", "I", false)
  | 5 => ("BumperBalls$Tape", "fault", "I", false)
  | 6 => ("BumperBalls$Tape", "at", "I", false)
  | 7 => ("BumperBalls$Tape", "start", "I", false)
  | 8 => ("BumperBalls$Tape", "sort", "I", false)
  | _ => ("BumperBalls$Tape", "value", "I", false)
def tyX8 : Nat → FieldType := fun k => match k with
  | 0 => .array .int
  | 1 => .int
  | 2 => .object "BumperBalls$Table"
  | 3 => .int
  | 4 => .int
  | 5 => .int
  | 6 => .int
  | 7 => .int
  | 8 => .int
  | _ => .int
abbrev wsX80 : List Cond := u_ws RX8 TX8 10
theorem nmX8 : ∀ a, a < 10 → ∀ b, b < 10 → a ≠ b → (TX8 a).2.1 ≠ (TX8 b).2.1 := by decide +kernel
theorem tyX8_ok : ∀ k, k < 10 → parseFieldDescriptor (TX8 k).2.2.1 = some (tyX8 k) := by decide +kernel
abbrev cX8_init : ByteArray := prog_10_method_1_code
def yX8_init : MethodName := ⟨RX8, "<init>", "()V"⟩
abbrev cX8_append : ByteArray := prog_10_method_2_code
def yX8_append : MethodName := ⟨RX8, "append", "(JI)V"⟩
abbrev cX8_readAll : ByteArray := prog_10_method_3_code
def yX8_readAll : MethodName := ⟨RX8, "readAll", "()V"⟩
abbrev cX8_readLaw : ByteArray := prog_10_method_4_code
def yX8_readLaw : MethodName := ⟨RX8, "readLaw", "()V"⟩
abbrev cX8_readPin : ByteArray := prog_10_method_5_code
def yX8_readPin : MethodName := ⟨RX8, "readPin", "()V"⟩
abbrev cX8_readBall : ByteArray := prog_10_method_6_code
def yX8_readBall : MethodName := ⟨RX8, "readBall", "()V"⟩
abbrev cX8_takeKind : ByteArray := prog_10_method_7_code
def yX8_takeKind : MethodName := ⟨RX8, "takeKind", "()I"⟩
abbrev cX8_takeFreeCell : ByteArray := prog_10_method_8_code
def yX8_takeFreeCell : MethodName := ⟨RX8, "takeFreeCell", "()I"⟩
abbrev cX8_takeNumber : ByteArray := prog_10_method_9_code
def yX8_takeNumber : MethodName := ⟨RX8, "takeNumber", "(II)I"⟩
abbrev cX8_takeSemicolon : ByteArray := prog_10_method_10_code
def yX8_takeSemicolon : MethodName := ⟨RX8, "takeSemicolon", "()V"⟩
abbrev cX8_demand : ByteArray := prog_10_method_11_code
def yX8_demand : MethodName := ⟨RX8, "demand", "(Z)V"⟩
abbrev cX8_take : ByteArray := prog_10_method_12_code
def yX8_take : MethodName := ⟨RX8, "take", "()V"⟩
abbrev cX8_takeName : ByteArray := prog_10_method_13_code
def yX8_takeName : MethodName := ⟨RX8, "takeName", "()V"⟩
abbrev cX8_takeFigures : ByteArray := prog_10_method_14_code
def yX8_takeFigures : MethodName := ⟨RX8, "takeFigures", "()V"⟩
abbrev cX8_isName : ByteArray := prog_10_method_15_code
def yX8_isName : MethodName := ⟨RX8, "isName", "(Ljava/lang/String;)Z"⟩
abbrev cX8_isBlank : ByteArray := prog_10_method_16_code
def yX8_isBlank : MethodName := ⟨RX8, "isBlank", "(I)Z"⟩
abbrev cX8_isLetter : ByteArray := prog_10_method_17_code
def yX8_isLetter : MethodName := ⟨RX8, "isLetter", "(I)Z"⟩
abbrev cX8_isFigure : ByteArray := prog_10_method_18_code
def yX8_isFigure : MethodName := ⟨RX8, "isFigure", "(I)Z"⟩
def RX9 : String := "BumperBalls"
def TX9 : u_T := fun k => match k with
  | 0 => ("BumperBalls", "rows", "LBumperBalls$Rows;", true)
  | 1 => ("BumperBalls", "tape", "LBumperBalls$Tape;", true)
  | 2 => ("BumperBalls", "table", "LBumperBalls$Table;", true)
  | 3 => ("BumperBalls", "play", "LBumperBalls$Play;", true)
  | 4 => ("BumperBalls", "acts", "LBumperBalls$Acts;", true)
  | 5 => ("BumperBalls", "images", "[LBumperBalls$Image;", true)
  | 6 => ("BumperBalls", "probe", "LBumperBalls$Play;", true)
  | 7 => ("BumperBalls", "search", "LBumperBalls$Search;", true)
  | 8 => ("BumperBalls", "asks", "LBumperBalls$Asks;", true)
  | 9 => ("BumperBalls", "ready", "Z", false)
  | 10 => ("BumperBalls", "latestFault", "I", false)
  | _ => ("BumperBalls", "latestFinding", "I", false)
def tyX9 : Nat → FieldType := fun k => match k with
  | 0 => .object "BumperBalls$Rows"
  | 1 => .object "BumperBalls$Tape"
  | 2 => .object "BumperBalls$Table"
  | 3 => .object "BumperBalls$Play"
  | 4 => .object "BumperBalls$Acts"
  | 5 => .array (.object "BumperBalls$Image")
  | 6 => .object "BumperBalls$Play"
  | 7 => .object "BumperBalls$Search"
  | 8 => .object "BumperBalls$Asks"
  | 9 => .boolean
  | 10 => .int
  | _ => .int
abbrev wsX90 : List Cond := u_ws RX9 TX9 12
theorem nmX9 : ∀ a, a < 12 → ∀ b, b < 12 → a ≠ b → (TX9 a).2.1 ≠ (TX9 b).2.1 := by decide +kernel
theorem tyX9_ok : ∀ k, k < 12 → parseFieldDescriptor (TX9 k).2.2.1 = some (tyX9 k) := by decide +kernel
abbrev cX9_init : ByteArray := prog_1_method_1_code
def yX9_init : MethodName := ⟨RX9, "<init>", "()V"⟩
abbrev cX9_row : ByteArray := prog_1_method_2_code
def yX9_row : MethodName := ⟨RX9, "row", "(III)I"⟩
abbrev cX9_set : ByteArray := prog_1_method_3_code
def yX9_set : MethodName := ⟨RX9, "set", "(III)I"⟩
abbrev cX9_copy : ByteArray := prog_1_method_4_code
def yX9_copy : MethodName := ⟨RX9, "copy", "(IIIII)I"⟩
abbrev cX9_drop : ByteArray := prog_1_method_5_code
def yX9_drop : MethodName := ⟨RX9, "drop", "(I)I"⟩
abbrev cX9_feed : ByteArray := prog_1_method_6_code
def yX9_feed : MethodName := ⟨RX9, "feed", "(JI)I"⟩
abbrev cX9_table : ByteArray := prog_1_method_7_code
def yX9_table : MethodName := ⟨RX9, "table", "()I"⟩
abbrev cX9_fault : ByteArray := prog_1_method_8_code
def yX9_fault : MethodName := ⟨RX9, "fault", "()I"⟩
abbrev cX9_steps : ByteArray := prog_1_method_9_code
def yX9_steps : MethodName := ⟨RX9, "steps", "(I)I"⟩
abbrev cX9_nudge : ByteArray := prog_1_method_10_code
def yX9_nudge : MethodName := ⟨RX9, "nudge", "()I"⟩
abbrev cX9_flip : ByteArray := prog_1_method_11_code
def yX9_flip : MethodName := ⟨RX9, "flip", "()I"⟩
abbrev cX9_put : ByteArray := prog_1_method_12_code
def yX9_put : MethodName := ⟨RX9, "put", "(II)I"⟩
abbrev cX9_undo : ByteArray := prog_1_method_13_code
def yX9_undo : MethodName := ⟨RX9, "undo", "()I"⟩
abbrev cX9_ball : ByteArray := prog_1_method_14_code
def yX9_ball : MethodName := ⟨RX9, "ball", "(I)I"⟩
abbrev cX9_pin : ByteArray := prog_1_method_15_code
def yX9_pin : MethodName := ⟨RX9, "pin", "(II)I"⟩
abbrev cX9_ahead : ByteArray := prog_1_method_16_code
def yX9_ahead : MethodName := ⟨RX9, "ahead", "(II)I"⟩
abbrev cX9_lasts : ByteArray := prog_1_method_17_code
def yX9_lasts : MethodName := ⟨RX9, "lasts", "(I)I"⟩
abbrev cX9_richest : ByteArray := prog_1_method_18_code
def yX9_richest : MethodName := ⟨RX9, "richest", "(II)I"⟩
abbrev cX9_nudged : ByteArray := prog_1_method_19_code
def yX9_nudged : MethodName := ⟨RX9, "nudged", "(II)I"⟩
abbrev cX9_kept : ByteArray := prog_1_method_20_code
def yX9_kept : MethodName := ⟨RX9, "kept", "(I)I"⟩
abbrev cX9_heard : ByteArray := prog_1_method_21_code
def yX9_heard : MethodName := ⟨RX9, "heard", "(IIII)I"⟩
abbrev cX9_image : ByteArray := prog_1_method_22_code
def yX9_image : MethodName := ⟨RX9, "image", "(I)I"⟩
abbrev cX9_restore : ByteArray := prog_1_method_23_code
def yX9_restore : MethodName := ⟨RX9, "restore", "(I)I"⟩
abbrev cX9_kind : ByteArray := prog_1_method_24_code
def yX9_kind : MethodName := ⟨RX9, "kind", "(I)I"⟩
abbrev cX9_as : ByteArray := prog_1_method_25_code
def yX9_as : MethodName := ⟨RX9, "as", "(II)I"⟩
abbrev cX9_ask : ByteArray := prog_1_method_26_code
def yX9_ask : MethodName := ⟨RX9, "ask", "(II)I"⟩
abbrev cX9_trace : ByteArray := prog_1_method_27_code
def yX9_trace : MethodName := ⟨RX9, "trace", "(I)I"⟩
abbrev cX9_count : ByteArray := prog_1_method_28_code
def yX9_count : MethodName := ⟨RX9, "count", "(I)I"⟩
abbrev cX9_status : ByteArray := prog_1_method_29_code
def yX9_status : MethodName := ⟨RX9, "status", "()I"⟩
abbrev cX9_found : ByteArray := prog_1_method_30_code
def yX9_found : MethodName := ⟨RX9, "found", "(I)I"⟩
abbrev cX9_plain : ByteArray := prog_1_method_31_code
def yX9_plain : MethodName := ⟨RX9, "plain", "(I)I"⟩
abbrev cX9_isUpTo : ByteArray := prog_1_method_32_code
def yX9_isUpTo : MethodName := ⟨RX9, "isUpTo", "(II)Z"⟩
abbrev cX9_isRow : ByteArray := prog_1_method_33_code
def yX9_isRow : MethodName := ⟨RX9, "isRow", "(I)Z"⟩
abbrev cX9_isPin : ByteArray := prog_1_method_34_code
def yX9_isPin : MethodName := ⟨RX9, "isPin", "(I)Z"⟩
abbrev cX9_isOfKind : ByteArray := prog_1_method_35_code
def yX9_isOfKind : MethodName := ⟨RX9, "isOfKind", "(II)Z"⟩
abbrev cX9_stepsTillLost : ByteArray := prog_1_method_36_code
def yX9_stepsTillLost : MethodName := ⟨RX9, "stepsTillLost", "()I"⟩
abbrev cX9_stepsTillAgain : ByteArray := prog_1_method_37_code
def yX9_stepsTillAgain : MethodName := ⟨RX9, "stepsTillAgain", "()I"⟩
abbrev cX9_broughtBy : ByteArray := prog_1_method_38_code
def yX9_broughtBy : MethodName := ⟨RX9, "broughtBy", "(II)I"⟩
abbrev cX9_isHeard : ByteArray := prog_1_method_39_code
def yX9_isHeard : MethodName := ⟨RX9, "isHeard", "(IIII)Z"⟩
def RX10 : String := "BumperBallsModel"
def TX10 : u_T := fun k => match k with
  | 0 => ("BumperBallsModel", "row", "[I", true)
  | 1 => ("BumperBallsModel", "pasts", "[I", true)
  | 2 => ("BumperBallsModel", "pastMany", "I", false)
  | 3 => ("BumperBallsModel", "tape", "[I", true)
  | 4 => ("BumperBallsModel", "taped", "I", false)
  | 5 => ("BumperBallsModel", "fault", "I", false)
  | 6 => ("BumperBallsModel", "status", "I", false)
  | 7 => ("BumperBallsModel", "lanes", "[I", true)
  | 8 => ("BumperBallsModel", "sizes", "[I", true)
  | 9 => ("BumperBallsModel", "items", "[I", true)
  | 10 => ("BumperBallsModel", "traces", "[I", true)
  | 11 => ("BumperBallsModel", "traceMany", "I", false)
  | 12 => ("BumperBallsModel", "at", "I", false)
  | 13 => ("BumperBallsModel", "place", "I", false)
  | 14 => ("BumperBallsModel", "end", "I", false)
  | 15 => ("BumperBallsModel", "readTilt", "I", false)
  | 16 => ("BumperBallsModel", "readPins", "[I", true)
  | 17 => ("BumperBallsModel", "readMany", "I", false)
  | 18 => ("BumperBallsModel", "readCell", "I", false)
  | 19 => ("BumperBallsModel", "readWay", "I", false)
  | 20 => ("BumperBallsModel", "fewest", "[I", true)
  | _ => ("BumperBallsModel", "nexts", "[I", true)
def tyX10 : Nat → FieldType := fun k => match k with
  | 0 => .array .int
  | 1 => .array .int
  | 2 => .int
  | 3 => .array .int
  | 4 => .int
  | 5 => .int
  | 6 => .int
  | 7 => .array .int
  | 8 => .array .int
  | 9 => .array .int
  | 10 => .array .int
  | 11 => .int
  | 12 => .int
  | 13 => .int
  | 14 => .int
  | 15 => .int
  | 16 => .array .int
  | 17 => .int
  | 18 => .int
  | 19 => .int
  | 20 => .array .int
  | _ => .array .int
abbrev wsX100 : List Cond := u_ws RX10 TX10 22
theorem nmX10 : ∀ a, a < 22 → ∀ b, b < 22 → a ≠ b → (TX10 a).2.1 ≠ (TX10 b).2.1 := by decide +kernel
theorem tyX10_ok : ∀ k, k < 22 → parseFieldDescriptor (TX10 k).2.2.1 = some (tyX10 k) := by decide +kernel
abbrev cX10_init : ByteArray := prog_12_method_1_code
def yX10_init : MethodName := ⟨RX10, "<init>", "()V"⟩
abbrev cX10_in : ByteArray := prog_12_method_2_code
def yX10_in : MethodName := ⟨RX10, "in", "(JJJ)Z"⟩
abbrev cX10_has : ByteArray := prog_12_method_3_code
def yX10_has : MethodName := ⟨RX10, "has", "(II)Z"⟩
abbrev cX10_find : ByteArray := prog_12_method_4_code
def yX10_find : MethodName := ⟨RX10, "find", "(I)I"⟩
abbrev cX10_give : ByteArray := prog_12_method_5_code
def yX10_give : MethodName := ⟨RX10, "give", "(I)I"⟩
abbrev cX10_isRow : ByteArray := prog_12_method_6_code
def yX10_isRow : MethodName := ⟨RX10, "isRow", "(I)Z"⟩
abbrev cX10_row : ByteArray := prog_12_method_7_code
def yX10_row : MethodName := ⟨RX10, "row", "(III)I"⟩
abbrev cX10_set : ByteArray := prog_12_method_8_code
def yX10_set : MethodName := ⟨RX10, "set", "(III)I"⟩
abbrev cX10_isSpan : ByteArray := prog_12_method_9_code
def yX10_isSpan : MethodName := ⟨RX10, "isSpan", "(III)Z"⟩
abbrev cX10_copy : ByteArray := prog_12_method_10_code
def yX10_copy : MethodName := ⟨RX10, "copy", "(IIIII)I"⟩
abbrev cX10_drop : ByteArray := prog_12_method_11_code
def yX10_drop : MethodName := ⟨RX10, "drop", "(I)I"⟩
abbrev cX10_feed : ByteArray := prog_12_method_12_code
def yX10_feed : MethodName := ⟨RX10, "feed", "(JI)I"⟩
abbrev cX10_sort : ByteArray := prog_12_method_13_code
def yX10_sort : MethodName := ⟨RX10, "sort", "(I)I"⟩
abbrev cX10_token : ByteArray := prog_12_method_14_code
def yX10_token : MethodName := ⟨RX10, "token", "()V"⟩
abbrev cX10_isWord : ByteArray := prog_12_method_15_code
def yX10_isWord : MethodName := ⟨RX10, "isWord", "(II)Z"⟩
abbrev cX10_isRighter : ByteArray := prog_12_method_16_code
def yX10_isRighter : MethodName := ⟨RX10, "isRighter", "()Z"⟩
abbrev cX10_sortOfWord : ByteArray := prog_12_method_17_code
def yX10_sortOfWord : MethodName := ⟨RX10, "sortOfWord", "()I"⟩
abbrev cX10_isSign : ByteArray := prog_12_method_18_code
def yX10_isSign : MethodName := ⟨RX10, "isSign", "()Z"⟩
abbrev cX10_numberHere : ByteArray := prog_12_method_19_code
def yX10_numberHere : MethodName := ⟨RX10, "numberHere", "(II)I"⟩
abbrev cX10_number : ByteArray := prog_12_method_20_code
def yX10_number : MethodName := ⟨RX10, "number", "(II)I"⟩
abbrev cX10_readsSign : ByteArray := prog_12_method_21_code
def yX10_readsSign : MethodName := ⟨RX10, "readsSign", "()Z"⟩
abbrev cX10_isPinRead : ByteArray := prog_12_method_22_code
def yX10_isPinRead : MethodName := ⟨RX10, "isPinRead", "(I)Z"⟩
abbrev cX10_cell : ByteArray := prog_12_method_23_code
def yX10_cell : MethodName := ⟨RX10, "cell", "()I"⟩
abbrev cX10_readsLaw : ByteArray := prog_12_method_24_code
def yX10_readsLaw : MethodName := ⟨RX10, "readsLaw", "()Z"⟩
abbrev cX10_readsPin : ByteArray := prog_12_method_25_code
def yX10_readsPin : MethodName := ⟨RX10, "readsPin", "()Z"⟩
abbrev cX10_readsBall : ByteArray := prog_12_method_26_code
def yX10_readsBall : MethodName := ⟨RX10, "readsBall", "()Z"⟩
abbrev cX10_readsAll : ByteArray := prog_12_method_27_code
def yX10_readsAll : MethodName := ⟨RX10, "readsAll", "()Z"⟩
abbrev cX10_table : ByteArray := prog_12_method_28_code
def yX10_table : MethodName := ⟨RX10, "table", "()I"⟩
abbrev cX10_fault : ByteArray := prog_12_method_29_code
def yX10_fault : MethodName := ⟨RX10, "fault", "()I"⟩
abbrev cX10_isPin : ByteArray := prog_12_method_30_code
def yX10_isPin : MethodName := ⟨RX10, "isPin", "(I)Z"⟩
abbrev cX10_pinAt : ByteArray := prog_12_method_31_code
def yX10_pinAt : MethodName := ⟨RX10, "pinAt", "(I)I"⟩
abbrev cX10_turns : ByteArray := prog_12_method_32_code
def yX10_turns : MethodName := ⟨RX10, "turns", "(II)I"⟩
abbrev cX10_strike : ByteArray := prog_12_method_33_code
def yX10_strike : MethodName := ⟨RX10, "strike", "(II)V"⟩
abbrev cX10_step : ByteArray := prog_12_method_34_code
def yX10_step : MethodName := ⟨RX10, "step", "(I)I"⟩
abbrev cX10_keepPast : ByteArray := prog_12_method_35_code
def yX10_keepPast : MethodName := ⟨RX10, "keepPast", "()V"⟩
abbrev cX10_isGone : ByteArray := prog_12_method_36_code
def yX10_isGone : MethodName := ⟨RX10, "isGone", "()Z"⟩
abbrev cX10_steps : ByteArray := prog_12_method_37_code
def yX10_steps : MethodName := ⟨RX10, "steps", "(I)I"⟩
abbrev cX10_nudge : ByteArray := prog_12_method_38_code
def yX10_nudge : MethodName := ⟨RX10, "nudge", "()I"⟩
abbrev cX10_flip : ByteArray := prog_12_method_39_code
def yX10_flip : MethodName := ⟨RX10, "flip", "()I"⟩
abbrev cX10_put : ByteArray := prog_12_method_40_code
def yX10_put : MethodName := ⟨RX10, "put", "(II)I"⟩
abbrev cX10_undo : ByteArray := prog_12_method_41_code
def yX10_undo : MethodName := ⟨RX10, "undo", "()I"⟩
abbrev cX10_ball : ByteArray := prog_12_method_42_code
def yX10_ball : MethodName := ⟨RX10, "ball", "(I)I"⟩
abbrev cX10_pin : ByteArray := prog_12_method_43_code
def yX10_pin : MethodName := ⟨RX10, "pin", "(II)I"⟩
abbrev cX10_copyRow : ByteArray := prog_12_method_44_code
def yX10_copyRow : MethodName := ⟨RX10, "copyRow", "(II)V"⟩
abbrev cX10_ahead : ByteArray := prog_12_method_45_code
def yX10_ahead : MethodName := ⟨RX10, "ahead", "(II)I"⟩
abbrev cX10_isAsNow : ByteArray := prog_12_method_46_code
def yX10_isAsNow : MethodName := ⟨RX10, "isAsNow", "()Z"⟩
abbrev cX10_lasts : ByteArray := prog_12_method_47_code
def yX10_lasts : MethodName := ⟨RX10, "lasts", "(I)I"⟩
abbrev cX10_tryPut : ByteArray := prog_12_method_48_code
def yX10_tryPut : MethodName := ⟨RX10, "tryPut", "(I)V"⟩
abbrev cX10_richest : ByteArray := prog_12_method_49_code
def yX10_richest : MethodName := ⟨RX10, "richest", "(II)I"⟩
abbrev cX10_stateOf : ByteArray := prog_12_method_50_code
def yX10_stateOf : MethodName := ⟨RX10, "stateOf", "(III)I"⟩
abbrev cX10_nudgesFor : ByteArray := prog_12_method_51_code
def yX10_nudgesFor : MethodName := ⟨RX10, "nudgesFor", "(II)I"⟩
abbrev cX10_goOn : ByteArray := prog_12_method_52_code
def yX10_goOn : MethodName := ⟨RX10, "goOn", "(III)I"⟩
abbrev cX10_nudged : ByteArray := prog_12_method_53_code
def yX10_nudged : MethodName := ⟨RX10, "nudged", "(II)I"⟩
abbrev cX10_kept : ByteArray := prog_12_method_54_code
def yX10_kept : MethodName := ⟨RX10, "kept", "(I)I"⟩
abbrev cX10_isHeard : ByteArray := prog_12_method_55_code
def yX10_isHeard : MethodName := ⟨RX10, "isHeard", "(III)Z"⟩
abbrev cX10_heard : ByteArray := prog_12_method_56_code
def yX10_heard : MethodName := ⟨RX10, "heard", "(IIII)I"⟩
abbrev cX10_image : ByteArray := prog_12_method_57_code
def yX10_image : MethodName := ⟨RX10, "image", "(I)I"⟩
abbrev cX10_restore : ByteArray := prog_12_method_58_code
def yX10_restore : MethodName := ⟨RX10, "restore", "(I)I"⟩
abbrev cX10_kind : ByteArray := prog_12_method_59_code
def yX10_kind : MethodName := ⟨RX10, "kind", "(I)I"⟩
abbrev cX10_isKind : ByteArray := prog_12_method_60_code
def yX10_isKind : MethodName := ⟨RX10, "isKind", "(II)Z"⟩
abbrev cX10_as : ByteArray := prog_12_method_61_code
def yX10_as : MethodName := ⟨RX10, "as", "(II)I"⟩
abbrev cX10_leave : ByteArray := prog_12_method_62_code
def yX10_leave : MethodName := ⟨RX10, "leave", "(I)V"⟩
abbrev cX10_paysBody : ByteArray := prog_12_method_63_code
def yX10_paysBody : MethodName := ⟨RX10, "paysBody", "(I)I"⟩
abbrev cX10_numberBody : ByteArray := prog_12_method_64_code
def yX10_numberBody : MethodName := ⟨RX10, "numberBody", "(I)I"⟩
abbrev cX10_struckBody : ByteArray := prog_12_method_65_code
def yX10_struckBody : MethodName := ⟨RX10, "struckBody", "(I)I"⟩
abbrev cX10_markOfBumper : ByteArray := prog_12_method_66_code
def yX10_markOfBumper : MethodName := ⟨RX10, "markOfBumper", "(I)I"⟩
abbrev cX10_bumperBody : ByteArray := prog_12_method_67_code
def yX10_bumperBody : MethodName := ⟨RX10, "bumperBody", "(I)I"⟩
abbrev cX10_lampBody : ByteArray := prog_12_method_68_code
def yX10_lampBody : MethodName := ⟨RX10, "lampBody", "(I)I"⟩
abbrev cX10_sizeOfLamp : ByteArray := prog_12_method_69_code
def yX10_sizeOfLamp : MethodName := ⟨RX10, "sizeOfLamp", "(I)I"⟩
abbrev cX10_sizeOfBumper : ByteArray := prog_12_method_70_code
def yX10_sizeOfBumper : MethodName := ⟨RX10, "sizeOfBumper", "(I)I"⟩
abbrev cX10_markOfLamp : ByteArray := prog_12_method_71_code
def yX10_markOfLamp : MethodName := ⟨RX10, "markOfLamp", "(I)I"⟩
abbrev cX10_ask : ByteArray := prog_12_method_72_code
def yX10_ask : MethodName := ⟨RX10, "ask", "(II)I"⟩
abbrev cX10_trace : ByteArray := prog_12_method_73_code
def yX10_trace : MethodName := ⟨RX10, "trace", "(I)I"⟩
abbrev cX10_count : ByteArray := prog_12_method_74_code
def yX10_count : MethodName := ⟨RX10, "count", "(I)I"⟩
abbrev cX10_status : ByteArray := prog_12_method_75_code
def yX10_status : MethodName := ⟨RX10, "status", "()I"⟩
def RJ9 : String := "java/lang/Math"
def TJ9 : u_T := fun k => match k with
  | _ => ("", "", "", false)
def tyJ9 : Nat → FieldType := fun k => match k with
  | _ => .int
abbrev wsJ90 : List Cond := u_ws RJ9 TJ9 0
theorem nmJ9 : ∀ a, a < 0 → ∀ b, b < 0 → a ≠ b → (TJ9 a).2.1 ≠ (TJ9 b).2.1 := by decide +kernel
theorem tyJ9_ok : ∀ k, k < 0 → parseFieldDescriptor (TJ9 k).2.2.1 = some (tyJ9 k) := by decide +kernel
abbrev cJ9_max_7cf53 : ByteArray := prog_13_method_65_code
def yJ9_max_7cf53 : MethodName := ⟨RJ9, "max", "(II)I"⟩
abbrev cJ9_min_7cf53 : ByteArray := prog_13_method_69_code
def yJ9_min_7cf53 : MethodName := ⟨RJ9, "min", "(II)I"⟩
def RJ0 : String := "java/lang/String"
def TJ0 : u_T := fun k => match k with
  | _ => ("", "", "", false)
def tyJ0 : Nat → FieldType := fun k => match k with
  | _ => .int
abbrev wsJ00 : List Cond := u_ws RJ0 TJ0 0
theorem nmJ0 : ∀ a, a < 0 → ∀ b, b < 0 → a ≠ b → (TJ0 a).2.1 ≠ (TJ0 b).2.1 := by decide +kernel
theorem tyJ0_ok : ∀ k, k < 0 → parseFieldDescriptor (TJ0 k).2.2.1 = some (tyJ0 k) := by decide +kernel
abbrev cJ0_length_8abf5 : ByteArray := prog_14_method_54_code
def yJ0_length_8abf5 : MethodName := ⟨RJ0, "length", "()I"⟩
abbrev cJ0_charAt_5068e : ByteArray := prog_14_method_56_code
def yJ0_charAt_5068e : MethodName := ⟨RJ0, "charAt", "(I)C"⟩
abbrev cJ0_coder_7d493 : ByteArray := prog_14_method_152_code
def yJ0_coder_7d493 : MethodName := ⟨RJ0, "coder", "()B"⟩
abbrev cJ0_isLatin1_aae02 : ByteArray := prog_14_method_154_code
def yJ0_isLatin1_aae02 : MethodName := ⟨RJ0, "isLatin1", "()Z"⟩
abbrev cJ0_checkIndex_df160 : ByteArray := prog_14_method_155_code
def yJ0_checkIndex_df160 : MethodName := ⟨RJ0, "checkIndex", "(II)V"⟩
def RJ1 : String := "java/lang/StringLatin1"
def TJ1 : u_T := fun k => match k with
  | _ => ("", "", "", false)
def tyJ1 : Nat → FieldType := fun k => match k with
  | _ => .int
abbrev wsJ10 : List Cond := u_ws RJ1 TJ1 0
theorem nmJ1 : ∀ a, a < 0 → ∀ b, b < 0 → a ≠ b → (TJ1 a).2.1 ≠ (TJ1 b).2.1 := by decide +kernel
theorem tyJ1_ok : ∀ k, k < 0 → parseFieldDescriptor (TJ1 k).2.2.1 = some (tyJ1 k) := by decide +kernel
abbrev cJ1_charAt_3b067 : ByteArray := prog_15_method_2_code
def yJ1_charAt_3b067 : MethodName := ⟨RJ1, "charAt", "([BI)C"⟩
def RJ2 : String := "java/lang/StringUTF16"
def TJ2 : u_T := fun k => match k with
  | _ => ("", "", "", false)
def tyJ2 : Nat → FieldType := fun k => match k with
  | _ => .int
abbrev wsJ20 : List Cond := u_ws RJ2 TJ2 0
theorem nmJ2 : ∀ a, a < 0 → ∀ b, b < 0 → a ≠ b → (TJ2 a).2.1 ≠ (TJ2 b).2.1 := by decide +kernel
theorem tyJ2_ok : ∀ k, k < 0 → parseFieldDescriptor (TJ2 k).2.2.1 = some (tyJ2 k) := by decide +kernel
abbrev cJ2_getChar_3b067 : ByteArray := prog_16_method_5_code
def yJ2_getChar_3b067 : MethodName := ⟨RJ2, "getChar", "([BI)C"⟩
abbrev cJ2_length_9d52b : ByteArray := prog_16_method_6_code
def yJ2_length_9d52b : MethodName := ⟨RJ2, "length", "([B)I"⟩
abbrev cJ2_charAt_3b067 : ByteArray := prog_16_method_83_code
def yJ2_charAt_3b067 : MethodName := ⟨RJ2, "charAt", "([BI)C"⟩
abbrev cJ2_checkIndex_2214a : ByteArray := prog_16_method_91_code
def yJ2_checkIndex_2214a : MethodName := ⟨RJ2, "checkIndex", "(I[B)V"⟩
def RJ10 : String := "java/lang/System"
def TJ10 : u_T := fun k => match k with
  | _ => ("", "", "", false)
def tyJ10 : Nat → FieldType := fun k => match k with
  | _ => .int
abbrev wsJ100 : List Cond := u_ws RJ10 TJ10 0
theorem nmJ10 : ∀ a, a < 0 → ∀ b, b < 0 → a ≠ b → (TJ10 a).2.1 ≠ (TJ10 b).2.1 := by decide +kernel
theorem tyJ10_ok : ∀ k, k < 0 → parseFieldDescriptor (TJ10 k).2.2.1 = some (tyJ10 k) := by decide +kernel
def RJ3 : String := "jdk/internal/util/Preconditions"
def TJ3 : u_T := fun k => match k with
  | _ => ("", "", "", false)
def tyJ3 : Nat → FieldType := fun k => match k with
  | _ => .int
abbrev wsJ30 : List Cond := u_ws RJ3 TJ3 0
theorem nmJ3 : ∀ a, a < 0 → ∀ b, b < 0 → a ≠ b → (TJ3 a).2.1 ≠ (TJ3 b).2.1 := by decide +kernel
theorem tyJ3_ok : ∀ k, k < 0 → parseFieldDescriptor (TJ3 k).2.2.1 = some (tyJ3 k) := by decide +kernel
abbrev cJ3_checkIndex_8e157 : ByteArray := prog_18_method_11_code
def yJ3_checkIndex_8e157 : MethodName := ⟨RJ3, "checkIndex", "(IILjava/util/function/BiFunction;)I"⟩
def RL : String := "BumperBallsLaw"
abbrev cL_law : ByteArray := code
def yL_law : MethodName := ⟨RL, "law", "([I)Z"⟩
abbrev vwCl : List vw_C := [(RX0, TX0, 3), (RX1, TX1, 6), (RX2, TX2, 3), (RX3, TX3, 3), (RX4, TX4, 10), (RX5, TX5, 3), (RX6, TX6, 4), (RX7, TX7, 7), (RX8, TX8, 10), (RX9, TX9, 12), (RX10, TX10, 22)]
