def Wk (w : Cond) : Prop := w ∈ lw_tbl ∧ goodWord w = true
theorem wk_s0 : Wk (Cond.selects "BumperBalls$Table" yX7_clear yX7_clear) := ⟨List.mem_of_getElem? (i := 0) (by decide +kernel), rfl⟩
theorem wk_s1 : Wk (Cond.selects "BumperBalls" yX9_found yX9_found) := ⟨List.mem_of_getElem? (i := 1) (by decide +kernel), rfl⟩
theorem wk_s2 : Wk (Cond.selects "BumperBalls$Rows" yX5_make yX5_make) := ⟨List.mem_of_getElem? (i := 2) (by decide +kernel), rfl⟩
theorem wk_s3 : Wk (Cond.selects "BumperBalls" yX9_plain yX9_plain) := ⟨List.mem_of_getElem? (i := 3) (by decide +kernel), rfl⟩
theorem wk_s4 : Wk (Cond.selects "BumperBalls$Rows" yX5_isMissing yX5_isMissing) := ⟨List.mem_of_getElem? (i := 4) (by decide +kernel), rfl⟩
theorem wk_s5 : Wk (Cond.selects "BumperBalls$Rows" yX5_hasPlaces yX5_hasPlaces) := ⟨List.mem_of_getElem? (i := 5) (by decide +kernel), rfl⟩
theorem wk_s6 : Wk (Cond.selects "BumperBalls$Rows" yX5_write yX5_write) := ⟨List.mem_of_getElem? (i := 6) (by decide +kernel), rfl⟩
theorem wk_s7 : Wk (Cond.selects "BumperBalls$Rows" yX5_remove yX5_remove) := ⟨List.mem_of_getElem? (i := 7) (by decide +kernel), rfl⟩
theorem wk_s8 : Wk (Cond.selects "BumperBalls$Tape" yX8_append yX8_append) := ⟨List.mem_of_getElem? (i := 8) (by decide +kernel), rfl⟩
theorem wk_s9 : Wk (Cond.selects "BumperBalls$Tape" yX8_readAll yX8_readAll) := ⟨List.mem_of_getElem? (i := 9) (by decide +kernel), rfl⟩
theorem wk_s10 : Wk (Cond.selects "BumperBalls$Tape" yX8_readLaw yX8_readLaw) := ⟨List.mem_of_getElem? (i := 10) (by decide +kernel), rfl⟩
theorem wk_s11 : Wk (Cond.selects "BumperBalls$Tape" yX8_take yX8_take) := ⟨List.mem_of_getElem? (i := 11) (by decide +kernel), rfl⟩
theorem wk_s12 : Wk (Cond.selects "BumperBalls$Tape" yX8_takeName yX8_takeName) := ⟨List.mem_of_getElem? (i := 12) (by decide +kernel), rfl⟩
theorem wk_s13 : Wk (Cond.selects "BumperBalls$Tape" yX8_takeFigures yX8_takeFigures) := ⟨List.mem_of_getElem? (i := 13) (by decide +kernel), rfl⟩
theorem wk_s14 : Wk (Cond.selects "BumperBalls$Tape" yX8_isName yX8_isName) := ⟨List.mem_of_getElem? (i := 14) (by decide +kernel), rfl⟩
theorem wk_s15 : Wk (Cond.selects "BumperBalls$Tape" yX8_demand yX8_demand) := ⟨List.mem_of_getElem? (i := 15) (by decide +kernel), rfl⟩
theorem wk_s16 : Wk (Cond.selects "BumperBalls$Tape" yX8_takeNumber yX8_takeNumber) := ⟨List.mem_of_getElem? (i := 16) (by decide +kernel), rfl⟩
theorem wk_s17 : Wk (Cond.selects "BumperBalls$Tape" yX8_takeSemicolon yX8_takeSemicolon) := ⟨List.mem_of_getElem? (i := 17) (by decide +kernel), rfl⟩
theorem wk_s18 : Wk (Cond.selects "BumperBalls$Tape" yX8_readPin yX8_readPin) := ⟨List.mem_of_getElem? (i := 18) (by decide +kernel), rfl⟩
theorem wk_s19 : Wk (Cond.selects "BumperBalls$Tape" yX8_takeKind yX8_takeKind) := ⟨List.mem_of_getElem? (i := 19) (by decide +kernel), rfl⟩
theorem wk_s20 : Wk (Cond.selects "BumperBalls$Tape" yX8_takeFreeCell yX8_takeFreeCell) := ⟨List.mem_of_getElem? (i := 20) (by decide +kernel), rfl⟩
theorem wk_s21 : Wk (Cond.selects "BumperBalls$Table" yX7_pinIn yX7_pinIn) := ⟨List.mem_of_getElem? (i := 21) (by decide +kernel), rfl⟩
theorem wk_s22 : Wk (Cond.selects "BumperBalls$Table" yX7_addPin yX7_addPin) := ⟨List.mem_of_getElem? (i := 22) (by decide +kernel), rfl⟩
theorem wk_s23 : Wk (Cond.selects "BumperBalls$Tape" yX8_readBall yX8_readBall) := ⟨List.mem_of_getElem? (i := 23) (by decide +kernel), rfl⟩
theorem wk_s24 : Wk (Cond.selects "BumperBalls$Table" yX7_become yX7_become) := ⟨List.mem_of_getElem? (i := 24) (by decide +kernel), rfl⟩
theorem wk_s25 : Wk (Cond.selects "BumperBalls$Play" yX4_begin yX4_begin) := ⟨List.mem_of_getElem? (i := 25) (by decide +kernel), rfl⟩
theorem wk_s26 : Wk (Cond.selects "BumperBalls$Play" yX4_place yX4_place) := ⟨List.mem_of_getElem? (i := 26) (by decide +kernel), rfl⟩
theorem wk_s27 : Wk (Cond.selects "BumperBalls$Acts" yX0_forget yX0_forget) := ⟨List.mem_of_getElem? (i := 27) (by decide +kernel), rfl⟩
theorem wk_s28 : Wk (Cond.selects "BumperBalls$Acts" yX0_keep yX0_keep) := ⟨List.mem_of_getElem? (i := 28) (by decide +kernel), rfl⟩
theorem wk_s29 : Wk (Cond.selects "BumperBalls$Play" yX4_become yX4_become) := ⟨List.mem_of_getElem? (i := 29) (by decide +kernel), rfl⟩
theorem wk_s30 : Wk (Cond.selects "BumperBalls$Play" yX4_step yX4_step) := ⟨List.mem_of_getElem? (i := 30) (by decide +kernel), rfl⟩
theorem wk_s31 : Wk (Cond.selects "BumperBalls$Play" yX4_isAtSide yX4_isAtSide) := ⟨List.mem_of_getElem? (i := 31) (by decide +kernel), rfl⟩
theorem wk_s32 : Wk (Cond.selects "BumperBalls$Play" yX4_turn yX4_turn) := ⟨List.mem_of_getElem? (i := 32) (by decide +kernel), rfl⟩
theorem wk_s33 : Wk (Cond.selects "BumperBalls$Play" yX4_knock yX4_knock) := ⟨List.mem_of_getElem? (i := 33) (by decide +kernel), rfl⟩
theorem wk_s34 : Wk (Cond.selects "BumperBalls$Play" yX4_turnBy yX4_turnBy) := ⟨List.mem_of_getElem? (i := 34) (by decide +kernel), rfl⟩
theorem wk_s35 : Wk (Cond.selects "BumperBalls$Play" yX4_isOpen yX4_isOpen) := ⟨List.mem_of_getElem? (i := 35) (by decide +kernel), rfl⟩
theorem wk_s36 : Wk (Cond.selects "BumperBalls$Play" yX4_shake yX4_shake) := ⟨List.mem_of_getElem? (i := 36) (by decide +kernel), rfl⟩
theorem wk_s37 : Wk (Cond.selects "BumperBalls$Acts" yX0_takeBack yX0_takeBack) := ⟨List.mem_of_getElem? (i := 37) (by decide +kernel), rfl⟩
theorem wk_s38 : Wk (Cond.selects "BumperBalls" yX9_isPin yX9_isPin) := ⟨List.mem_of_getElem? (i := 38) (by decide +kernel), rfl⟩
theorem wk_s39 : Wk (Cond.selects "BumperBalls$Play" yX4_run yX4_run) := ⟨List.mem_of_getElem? (i := 39) (by decide +kernel), rfl⟩
theorem wk_s40 : Wk (Cond.selects "BumperBalls" yX9_stepsTillLost yX9_stepsTillLost) := ⟨List.mem_of_getElem? (i := 40) (by decide +kernel), rfl⟩
theorem wk_s41 : Wk (Cond.selects "BumperBalls" yX9_stepsTillAgain yX9_stepsTillAgain) := ⟨List.mem_of_getElem? (i := 41) (by decide +kernel), rfl⟩
theorem wk_s42 : Wk (Cond.selects "BumperBalls$Play" yX4_isAs yX4_isAs) := ⟨List.mem_of_getElem? (i := 42) (by decide +kernel), rfl⟩
theorem wk_s43 : Wk (Cond.selects "BumperBalls" yX9_broughtBy yX9_broughtBy) := ⟨List.mem_of_getElem? (i := 43) (by decide +kernel), rfl⟩
theorem wk_s44 : Wk (Cond.selects "BumperBalls$Search" yX6_walk yX6_walk) := ⟨List.mem_of_getElem? (i := 44) (by decide +kernel), rfl⟩
theorem wk_s45 : Wk (Cond.selects "BumperBalls$Search" yX6_makeRoom yX6_makeRoom) := ⟨List.mem_of_getElem? (i := 45) (by decide +kernel), rfl⟩
theorem wk_s46 : Wk (Cond.selects "BumperBalls$Layer" yX3_clear yX3_clear) := ⟨List.mem_of_getElem? (i := 46) (by decide +kernel), rfl⟩
theorem wk_s47 : Wk (Cond.selects "BumperBalls$Layer" yX3_reach yX3_reach) := ⟨List.mem_of_getElem? (i := 47) (by decide +kernel), rfl⟩
theorem wk_s48 : Wk (Cond.selects "BumperBalls$Search" yX6_goOn yX6_goOn) := ⟨List.mem_of_getElem? (i := 48) (by decide +kernel), rfl⟩
theorem wk_s49 : Wk (Cond.selects "BumperBalls$Search" yX6_fewestStaying yX6_fewestStaying) := ⟨List.mem_of_getElem? (i := 49) (by decide +kernel), rfl⟩
theorem wk_s50 : Wk (Cond.selects "BumperBalls$Rows" yX5_tellsLetters yX5_tellsLetters) := ⟨List.mem_of_getElem? (i := 50) (by decide +kernel), rfl⟩
theorem wk_s51 : Wk (Cond.selects "BumperBalls" yX9_isHeard yX9_isHeard) := ⟨List.mem_of_getElem? (i := 51) (by decide +kernel), rfl⟩
theorem wk_s52 : Wk (Cond.selects "BumperBalls$Image" yX2_keep yX2_keep) := ⟨List.mem_of_getElem? (i := 52) (by decide +kernel), rfl⟩
theorem wk_s53 : Wk (Cond.selects "BumperBalls$Asks" yX1_begin yX1_begin) := ⟨List.mem_of_getElem? (i := 53) (by decide +kernel), rfl⟩
theorem wk_s54 : Wk (Cond.selects "BumperBalls$Asks" yX1_sizeAsked yX1_sizeAsked) := ⟨List.mem_of_getElem? (i := 54) (by decide +kernel), rfl⟩
theorem wk_s55 : Wk (Cond.selects "BumperBalls$Asks" yX1_sizeOfBumper yX1_sizeOfBumper) := ⟨List.mem_of_getElem? (i := 55) (by decide +kernel), rfl⟩
theorem wk_s56 : Wk (Cond.selects "BumperBalls$Asks" yX1_leave yX1_leave) := ⟨List.mem_of_getElem? (i := 56) (by decide +kernel), rfl⟩
theorem wk_s57 : Wk (Cond.selects "BumperBalls$Asks" yX1_markOfBumper yX1_markOfBumper) := ⟨List.mem_of_getElem? (i := 57) (by decide +kernel), rfl⟩
theorem wk_s58 : Wk (Cond.selects "BumperBalls$Asks" yX1_sizeOfLamp yX1_sizeOfLamp) := ⟨List.mem_of_getElem? (i := 58) (by decide +kernel), rfl⟩
theorem wk_s59 : Wk (Cond.selects "BumperBalls$Asks" yX1_markAsked yX1_markAsked) := ⟨List.mem_of_getElem? (i := 59) (by decide +kernel), rfl⟩
theorem wk_s60 : Wk (Cond.selects "BumperBalls$Asks" yX1_markOfLamp yX1_markOfLamp) := ⟨List.mem_of_getElem? (i := 60) (by decide +kernel), rfl⟩
theorem wk_s61 : Wk (Cond.selects "BumperBalls$Rows" yX5_there yX5_there) := ⟨List.mem_of_getElem? (i := 61) (by decide +kernel), rfl⟩
theorem wk_s62 : Wk (Cond.selects "BumperBallsModel" yX10_find yX10_find) := ⟨List.mem_of_getElem? (i := 62) (by decide +kernel), rfl⟩
theorem wk_s63 : Wk (Cond.selects "BumperBallsModel" yX10_give yX10_give) := ⟨List.mem_of_getElem? (i := 63) (by decide +kernel), rfl⟩
theorem wk_s64 : Wk (Cond.selects "BumperBallsModel" yX10_isSpan yX10_isSpan) := ⟨List.mem_of_getElem? (i := 64) (by decide +kernel), rfl⟩
theorem wk_s65 : Wk (Cond.selects "BumperBallsModel" yX10_readsAll yX10_readsAll) := ⟨List.mem_of_getElem? (i := 65) (by decide +kernel), rfl⟩
theorem wk_s66 : Wk (Cond.selects "BumperBallsModel" yX10_token yX10_token) := ⟨List.mem_of_getElem? (i := 66) (by decide +kernel), rfl⟩
theorem wk_s67 : Wk (Cond.selects "BumperBallsModel" yX10_readsLaw yX10_readsLaw) := ⟨List.mem_of_getElem? (i := 67) (by decide +kernel), rfl⟩
theorem wk_s68 : Wk (Cond.selects "BumperBallsModel" yX10_isWord yX10_isWord) := ⟨List.mem_of_getElem? (i := 68) (by decide +kernel), rfl⟩
theorem wk_s69 : Wk (Cond.selects "BumperBallsModel" yX10_number yX10_number) := ⟨List.mem_of_getElem? (i := 69) (by decide +kernel), rfl⟩
theorem wk_s70 : Wk (Cond.selects "BumperBallsModel" yX10_numberHere yX10_numberHere) := ⟨List.mem_of_getElem? (i := 70) (by decide +kernel), rfl⟩
theorem wk_s71 : Wk (Cond.selects "BumperBallsModel" yX10_readsSign yX10_readsSign) := ⟨List.mem_of_getElem? (i := 71) (by decide +kernel), rfl⟩
theorem wk_s72 : Wk (Cond.selects "BumperBallsModel" yX10_isSign yX10_isSign) := ⟨List.mem_of_getElem? (i := 72) (by decide +kernel), rfl⟩
theorem wk_s73 : Wk (Cond.selects "BumperBallsModel" yX10_readsPin yX10_readsPin) := ⟨List.mem_of_getElem? (i := 73) (by decide +kernel), rfl⟩
theorem wk_s74 : Wk (Cond.selects "BumperBallsModel" yX10_sortOfWord yX10_sortOfWord) := ⟨List.mem_of_getElem? (i := 74) (by decide +kernel), rfl⟩
theorem wk_s75 : Wk (Cond.selects "BumperBallsModel" yX10_isRighter yX10_isRighter) := ⟨List.mem_of_getElem? (i := 75) (by decide +kernel), rfl⟩
theorem wk_s76 : Wk (Cond.selects "BumperBallsModel" yX10_cell yX10_cell) := ⟨List.mem_of_getElem? (i := 76) (by decide +kernel), rfl⟩
theorem wk_s77 : Wk (Cond.selects "BumperBallsModel" yX10_isPinRead yX10_isPinRead) := ⟨List.mem_of_getElem? (i := 77) (by decide +kernel), rfl⟩
theorem wk_s78 : Wk (Cond.selects "BumperBallsModel" yX10_readsBall yX10_readsBall) := ⟨List.mem_of_getElem? (i := 78) (by decide +kernel), rfl⟩
theorem wk_s79 : Wk (Cond.selects "BumperBallsModel" yX10_keepPast yX10_keepPast) := ⟨List.mem_of_getElem? (i := 79) (by decide +kernel), rfl⟩
theorem wk_s80 : Wk (Cond.selects "BumperBallsModel" yX10_step yX10_step) := ⟨List.mem_of_getElem? (i := 80) (by decide +kernel), rfl⟩
theorem wk_s81 : Wk (Cond.selects "BumperBallsModel" yX10_pinAt yX10_pinAt) := ⟨List.mem_of_getElem? (i := 81) (by decide +kernel), rfl⟩
theorem wk_s82 : Wk (Cond.selects "BumperBallsModel" yX10_strike yX10_strike) := ⟨List.mem_of_getElem? (i := 82) (by decide +kernel), rfl⟩
theorem wk_s83 : Wk (Cond.selects "BumperBallsModel" yX10_turns yX10_turns) := ⟨List.mem_of_getElem? (i := 83) (by decide +kernel), rfl⟩
theorem wk_s84 : Wk (Cond.selects "BumperBallsModel" yX10_isGone yX10_isGone) := ⟨List.mem_of_getElem? (i := 84) (by decide +kernel), rfl⟩
theorem wk_s85 : Wk (Cond.selects "BumperBallsModel" yX10_isPin yX10_isPin) := ⟨List.mem_of_getElem? (i := 85) (by decide +kernel), rfl⟩
theorem wk_s86 : Wk (Cond.selects "BumperBallsModel" yX10_copyRow yX10_copyRow) := ⟨List.mem_of_getElem? (i := 86) (by decide +kernel), rfl⟩
theorem wk_s87 : Wk (Cond.selects "BumperBallsModel" yX10_isAsNow yX10_isAsNow) := ⟨List.mem_of_getElem? (i := 87) (by decide +kernel), rfl⟩
theorem wk_s88 : Wk (Cond.selects "BumperBallsModel" yX10_tryPut yX10_tryPut) := ⟨List.mem_of_getElem? (i := 88) (by decide +kernel), rfl⟩
theorem wk_s89 : Wk (Cond.selects "BumperBallsModel" yX10_nudgesFor yX10_nudgesFor) := ⟨List.mem_of_getElem? (i := 89) (by decide +kernel), rfl⟩
theorem wk_s90 : Wk (Cond.selects "BumperBallsModel" yX10_goOn yX10_goOn) := ⟨List.mem_of_getElem? (i := 90) (by decide +kernel), rfl⟩
theorem wk_s91 : Wk (Cond.selects "BumperBallsModel" yX10_isHeard yX10_isHeard) := ⟨List.mem_of_getElem? (i := 91) (by decide +kernel), rfl⟩
theorem wk_s92 : Wk (Cond.selects "BumperBallsModel" yX10_sizeOfBumper yX10_sizeOfBumper) := ⟨List.mem_of_getElem? (i := 92) (by decide +kernel), rfl⟩
theorem wk_s93 : Wk (Cond.selects "BumperBallsModel" yX10_bumperBody yX10_bumperBody) := ⟨List.mem_of_getElem? (i := 93) (by decide +kernel), rfl⟩
theorem wk_s94 : Wk (Cond.selects "BumperBallsModel" yX10_leave yX10_leave) := ⟨List.mem_of_getElem? (i := 94) (by decide +kernel), rfl⟩
theorem wk_s95 : Wk (Cond.selects "BumperBallsModel" yX10_paysBody yX10_paysBody) := ⟨List.mem_of_getElem? (i := 95) (by decide +kernel), rfl⟩
theorem wk_s96 : Wk (Cond.selects "BumperBallsModel" yX10_markOfBumper yX10_markOfBumper) := ⟨List.mem_of_getElem? (i := 96) (by decide +kernel), rfl⟩
theorem wk_s97 : Wk (Cond.selects "BumperBallsModel" yX10_struckBody yX10_struckBody) := ⟨List.mem_of_getElem? (i := 97) (by decide +kernel), rfl⟩
theorem wk_s98 : Wk (Cond.selects "BumperBallsModel" yX10_numberBody yX10_numberBody) := ⟨List.mem_of_getElem? (i := 98) (by decide +kernel), rfl⟩
theorem wk_s99 : Wk (Cond.selects "BumperBallsModel" yX10_sizeOfLamp yX10_sizeOfLamp) := ⟨List.mem_of_getElem? (i := 99) (by decide +kernel), rfl⟩
theorem wk_s100 : Wk (Cond.selects "BumperBallsModel" yX10_lampBody yX10_lampBody) := ⟨List.mem_of_getElem? (i := 100) (by decide +kernel), rfl⟩
theorem wk_s101 : Wk (Cond.selects "BumperBallsModel" yX10_markOfLamp yX10_markOfLamp) := ⟨List.mem_of_getElem? (i := 101) (by decide +kernel), rfl⟩
theorem wk_0 : Wk (Cond.initialized "BumperBallsLaw") := ⟨List.mem_of_getElem? (i := 102) (by decide +kernel), rfl⟩
theorem wk_1 : Wk (Cond.initialized "BumperBalls") := ⟨List.mem_of_getElem? (i := 103) (by decide +kernel), rfl⟩
theorem wk_2 : Wk (Cond.initialized "BumperBalls$Rows") := ⟨List.mem_of_getElem? (i := 104) (by decide +kernel), rfl⟩
theorem wk_3 : Wk (Cond.initialized "BumperBalls$Tape") := ⟨List.mem_of_getElem? (i := 105) (by decide +kernel), rfl⟩
theorem wk_4 : Wk (Cond.initialized "BumperBalls$Table") := ⟨List.mem_of_getElem? (i := 106) (by decide +kernel), rfl⟩
theorem wk_5 : Wk (Cond.initialized "BumperBalls$Play") := ⟨List.mem_of_getElem? (i := 107) (by decide +kernel), rfl⟩
theorem wk_6 : Wk (Cond.initialized "BumperBalls$Acts") := ⟨List.mem_of_getElem? (i := 108) (by decide +kernel), rfl⟩
theorem wk_7 : Wk (Cond.initialized "BumperBalls$Search") := ⟨List.mem_of_getElem? (i := 109) (by decide +kernel), rfl⟩
theorem wk_8 : Wk (Cond.initialized "BumperBalls$Layer") := ⟨List.mem_of_getElem? (i := 110) (by decide +kernel), rfl⟩
theorem wk_9 : Wk (Cond.initialized "BumperBalls$Asks") := ⟨List.mem_of_getElem? (i := 111) (by decide +kernel), rfl⟩
theorem wk_10 : Wk (Cond.initialized "BumperBalls$Image") := ⟨List.mem_of_getElem? (i := 112) (by decide +kernel), rfl⟩
theorem wk_11 : Wk (Cond.initialized "BumperBallsModel") := ⟨List.mem_of_getElem? (i := 113) (by decide +kernel), rfl⟩
theorem wk_12 : Wk (Cond.initialized "java/lang/System") := ⟨List.mem_of_getElem? (i := 114) (by decide +kernel), rfl⟩
theorem wk_13 : Wk (Cond.initialized "java/lang/String") := ⟨List.mem_of_getElem? (i := 115) (by decide +kernel), rfl⟩
theorem wk_14 : Wk (Cond.initialized "java/lang/StringLatin1") := ⟨List.mem_of_getElem? (i := 116) (by decide +kernel), rfl⟩
theorem wk_15 : Wk (Cond.initialized "jdk/internal/util/Preconditions") := ⟨List.mem_of_getElem? (i := 117) (by decide +kernel), rfl⟩
theorem wk_16 : Wk (Cond.initialized "java/lang/StringUTF16") := ⟨List.mem_of_getElem? (i := 118) (by decide +kernel), rfl⟩
theorem wk_17 : Wk (Cond.initialized "java/lang/Math") := ⟨List.mem_of_getElem? (i := 119) (by decide +kernel), rfl⟩
theorem wk_18 : Wk (Cond.classLink "BumperBallsLaw" 7 "BumperBalls") := ⟨List.mem_of_getElem? (i := 120) (by decide +kernel), rfl⟩
theorem wk_19 : Wk (Cond.instantiable "BumperBalls" 12) := ⟨List.mem_of_getElem? (i := 121) (by decide +kernel), rfl⟩
theorem wk_20 : Wk (Cond.methodLink "BumperBallsLaw" 9 yX9_init) := ⟨List.mem_of_getElem? (i := 122) (by decide +kernel), rfl⟩
theorem wk_21 : Wk (Cond.instanceMethod yX9_init) := ⟨List.mem_of_getElem? (i := 123) (by decide +kernel), rfl⟩
theorem wk_22 : Wk (Cond.code yX9_init cX9_init 2 none) := ⟨List.mem_of_getElem? (i := 124) (by decide +kernel), rfl⟩
theorem wk_23 : Wk (Cond.methodLink "BumperBalls" 1 ⟨"java/lang/Object", "<init>", "()V"⟩) := ⟨List.mem_of_getElem? (i := 125) (by decide +kernel), rfl⟩
theorem wk_24 : Wk (Cond.instanceMethod ⟨"java/lang/Object", "<init>", "()V"⟩) := ⟨List.mem_of_getElem? (i := 126) (by decide +kernel), rfl⟩
theorem wk_25 : Wk (Cond.code ({ cls := "java/lang/Object", name := "<init>", desc := "()V" } : Jvm.MethodName) object_method_1_code (1 : Nat) (Option.none : Option Jvm.ClassFile.FieldType)) := ⟨List.mem_of_getElem? (i := 127) (by decide +kernel), rfl⟩
theorem wk_26 : Wk (Cond.classLink "BumperBalls" 7 "BumperBalls$Rows") := ⟨List.mem_of_getElem? (i := 128) (by decide +kernel), rfl⟩
theorem wk_27 : Wk (Cond.instantiable "BumperBalls$Rows" 3) := ⟨List.mem_of_getElem? (i := 129) (by decide +kernel), rfl⟩
theorem wk_29 : Wk (Cond.instanceMethod yX5_init) := ⟨List.mem_of_getElem? (i := 131) (by decide +kernel), rfl⟩
theorem wk_30 : Wk (Cond.code yX5_init cX5_init 2 none) := ⟨List.mem_of_getElem? (i := 132) (by decide +kernel), rfl⟩
theorem wk_31 : Wk (Cond.methodLink "BumperBalls$Rows" 3 ⟨"java/lang/Object", "<init>", "()V"⟩) := ⟨List.mem_of_getElem? (i := 133) (by decide +kernel), rfl⟩
theorem wk_32 : Wk (Cond.classLink "BumperBalls$Rows" 18 "[[I") := ⟨List.mem_of_getElem? (i := 134) (by decide +kernel), rfl⟩
theorem wk_33 : Cond.arrayOver (Jvm.ClassFile.FieldType.array Jvm.ClassFile.FieldType.int) ∈ lw_tbl := List.mem_of_getElem? (i := 135) (by decide +kernel)
theorem wk_34 : Wk (Cond.fieldLink "BumperBalls$Rows" 9 "BumperBalls$Rows" "lanes" "[I") := ⟨List.mem_of_getElem? (i := 136) (by decide +kernel), rfl⟩
theorem wk_36 : Wk (Cond.fieldLink "BumperBalls$Rows" 15 "BumperBalls$Rows" "sizes" "[I") := ⟨List.mem_of_getElem? (i := 138) (by decide +kernel), rfl⟩
theorem wk_37 : Wk (Cond.fieldLink "BumperBalls$Rows" 20 "BumperBalls$Rows" "items" "[[I") := ⟨List.mem_of_getElem? (i := 139) (by decide +kernel), rfl⟩
theorem wk_46 : Wk (Cond.arrayClass (Jvm.ClassFile.FieldType.int)) := ⟨List.mem_of_getElem? (i := 148) (by decide +kernel), rfl⟩
theorem wk_47 : Wk (Cond.classLink "BumperBalls" 16 "BumperBalls$Tape") := ⟨List.mem_of_getElem? (i := 149) (by decide +kernel), rfl⟩
theorem wk_48 : Wk (Cond.instantiable "BumperBalls$Tape" 10) := ⟨List.mem_of_getElem? (i := 150) (by decide +kernel), rfl⟩
theorem wk_50 : Wk (Cond.instanceMethod yX8_init) := ⟨List.mem_of_getElem? (i := 152) (by decide +kernel), rfl⟩
theorem wk_51 : Wk (Cond.code yX8_init cX8_init 1 none) := ⟨List.mem_of_getElem? (i := 153) (by decide +kernel), rfl⟩
theorem wk_52 : Wk (Cond.methodLink "BumperBalls$Tape" 3 ⟨"java/lang/Object", "<init>", "()V"⟩) := ⟨List.mem_of_getElem? (i := 154) (by decide +kernel), rfl⟩
theorem wk_53 : Wk (Cond.classLink "BumperBalls$Tape" 19 "BumperBalls$Table") := ⟨List.mem_of_getElem? (i := 155) (by decide +kernel), rfl⟩
theorem wk_54 : Wk (Cond.instantiable "BumperBalls$Table" 7) := ⟨List.mem_of_getElem? (i := 156) (by decide +kernel), rfl⟩
theorem wk_56 : Wk (Cond.instanceMethod yX7_init) := ⟨List.mem_of_getElem? (i := 158) (by decide +kernel), rfl⟩
theorem wk_57 : Wk (Cond.code yX7_init cX7_init 1 none) := ⟨List.mem_of_getElem? (i := 159) (by decide +kernel), rfl⟩
theorem wk_58 : Wk (Cond.methodLink "BumperBalls$Table" 3 ⟨"java/lang/Object", "<init>", "()V"⟩) := ⟨List.mem_of_getElem? (i := 160) (by decide +kernel), rfl⟩
theorem wk_59 : Wk (Cond.methodLink "BumperBalls$Table" 34 yX7_clear) := ⟨List.mem_of_getElem? (i := 161) (by decide +kernel), rfl⟩
theorem wk_61 : Wk (Cond.instanceMethod yX7_clear) := ⟨List.mem_of_getElem? (i := 163) (by decide +kernel), rfl⟩
theorem wk_62 : Wk (Cond.code yX7_clear cX7_clear 2 none) := ⟨List.mem_of_getElem? (i := 164) (by decide +kernel), rfl⟩
theorem wk_63 : Wk (Cond.fieldLink "BumperBalls$Table" 9 "BumperBalls$Table" "tilt" "I") := ⟨List.mem_of_getElem? (i := 165) (by decide +kernel), rfl⟩
theorem wk_66 : Wk (Cond.fieldLink "BumperBalls$Table" 15 "BumperBalls$Table" "pins" "I") := ⟨List.mem_of_getElem? (i := 168) (by decide +kernel), rfl⟩
theorem wk_70 : Wk (Cond.fieldLink "BumperBalls$Table" 18 "BumperBalls$Table" "kinds" "[I") := ⟨List.mem_of_getElem? (i := 172) (by decide +kernel), rfl⟩
theorem wk_74 : Wk (Cond.fieldLink "BumperBalls$Table" 22 "BumperBalls$Table" "cells" "[I") := ⟨List.mem_of_getElem? (i := 176) (by decide +kernel), rfl⟩
theorem wk_76 : Wk (Cond.fieldLink "BumperBalls$Table" 25 "BumperBalls$Table" "letters" "[I") := ⟨List.mem_of_getElem? (i := 178) (by decide +kernel), rfl⟩
theorem wk_80 : Wk (Cond.fieldLink "BumperBalls$Table" 28 "BumperBalls$Table" "pays" "[I") := ⟨List.mem_of_getElem? (i := 182) (by decide +kernel), rfl⟩
theorem wk_84 : Wk (Cond.fieldLink "BumperBalls$Table" 31 "BumperBalls$Table" "pinsOfCells" "[I") := ⟨List.mem_of_getElem? (i := 186) (by decide +kernel), rfl⟩
theorem wk_100 : Wk (Cond.fieldLink "BumperBalls$Tape" 9 "BumperBalls$Tape" "bytes" "[I") := ⟨List.mem_of_getElem? (i := 202) (by decide +kernel), rfl⟩
theorem wk_101 : Wk (Cond.fieldLink "BumperBalls$Tape" 15 "BumperBalls$Tape" "length" "I") := ⟨List.mem_of_getElem? (i := 203) (by decide +kernel), rfl⟩
theorem wk_103 : Wk (Cond.fieldLink "BumperBalls$Tape" 22 "BumperBalls$Tape" "draft" "LBumperBalls$Table;") := ⟨List.mem_of_getElem? (i := 205) (by decide +kernel), rfl⟩
theorem wk_105 : Wk (Cond.fieldLink "BumperBalls$Tape" 26 "BumperBalls$Tape" "ballCell" "I") := ⟨List.mem_of_getElem? (i := 207) (by decide +kernel), rfl⟩
theorem wk_107 : Wk (Cond.fieldLink "BumperBalls$Tape" 29 "BumperBalls$Tape" "ballWay" "I") := ⟨List.mem_of_getElem? (i := 209) (by decide +kernel), rfl⟩
theorem wk_109 : Wk (Cond.fieldLink "BumperBalls$Tape" 32 "BumperBalls$Tape" "fault" "I") := ⟨List.mem_of_getElem? (i := 211) (by decide +kernel), rfl⟩
theorem wk_111 : Wk (Cond.fieldLink "BumperBalls$Tape" 35 "BumperBalls$Tape" "at" "I") := ⟨List.mem_of_getElem? (i := 213) (by decide +kernel), rfl⟩
theorem wk_112 : Wk (Cond.fieldLink "BumperBalls$Tape" 38 "BumperBalls$Tape" "start" "I") := ⟨List.mem_of_getElem? (i := 214) (by decide +kernel), rfl⟩
theorem wk_114 : Wk (Cond.fieldLink "BumperBalls$Tape" 41 "BumperBalls$Tape" "sort" "I") := ⟨List.mem_of_getElem? (i := 216) (by decide +kernel), rfl⟩
theorem wk_115 : Wk (Cond.fieldLink "BumperBalls$Tape" 44 "BumperBalls$Tape" "value" "I") := ⟨List.mem_of_getElem? (i := 217) (by decide +kernel), rfl⟩
theorem wk_137 : Wk (Cond.classLink "BumperBalls" 23 "BumperBalls$Table") := ⟨List.mem_of_getElem? (i := 239) (by decide +kernel), rfl⟩
theorem wk_139 : Wk (Cond.classLink "BumperBalls" 30 "BumperBalls$Play") := ⟨List.mem_of_getElem? (i := 241) (by decide +kernel), rfl⟩
theorem wk_140 : Wk (Cond.instantiable "BumperBalls$Play" 10) := ⟨List.mem_of_getElem? (i := 242) (by decide +kernel), rfl⟩
theorem wk_142 : Wk (Cond.instanceMethod yX4_init) := ⟨List.mem_of_getElem? (i := 244) (by decide +kernel), rfl⟩
theorem wk_143 : Wk (Cond.code yX4_init cX4_init 1 none) := ⟨List.mem_of_getElem? (i := 245) (by decide +kernel), rfl⟩
theorem wk_144 : Wk (Cond.methodLink "BumperBalls$Play" 3 ⟨"java/lang/Object", "<init>", "()V"⟩) := ⟨List.mem_of_getElem? (i := 246) (by decide +kernel), rfl⟩
theorem wk_145 : Wk (Cond.fieldLink "BumperBalls$Play" 9 "BumperBalls$Play" "cell" "I") := ⟨List.mem_of_getElem? (i := 247) (by decide +kernel), rfl⟩
theorem wk_148 : Wk (Cond.fieldLink "BumperBalls$Play" 15 "BumperBalls$Play" "way" "I") := ⟨List.mem_of_getElem? (i := 250) (by decide +kernel), rfl⟩
theorem wk_151 : Wk (Cond.fieldLink "BumperBalls$Play" 18 "BumperBalls$Play" "lost" "Z") := ⟨List.mem_of_getElem? (i := 253) (by decide +kernel), rfl⟩
theorem wk_154 : Wk (Cond.fieldLink "BumperBalls$Play" 22 "BumperBalls$Play" "shakes" "I") := ⟨List.mem_of_getElem? (i := 256) (by decide +kernel), rfl⟩
theorem wk_156 : Wk (Cond.fieldLink "BumperBalls$Play" 25 "BumperBalls$Play" "score" "I") := ⟨List.mem_of_getElem? (i := 258) (by decide +kernel), rfl⟩
theorem wk_158 : Wk (Cond.fieldLink "BumperBalls$Play" 28 "BumperBalls$Play" "lit" "I") := ⟨List.mem_of_getElem? (i := 260) (by decide +kernel), rfl⟩
theorem wk_160 : Wk (Cond.fieldLink "BumperBalls$Play" 31 "BumperBalls$Play" "gates" "I") := ⟨List.mem_of_getElem? (i := 262) (by decide +kernel), rfl⟩
theorem wk_163 : Wk (Cond.fieldLink "BumperBalls$Play" 34 "BumperBalls$Play" "steps" "I") := ⟨List.mem_of_getElem? (i := 265) (by decide +kernel), rfl⟩
theorem wk_165 : Wk (Cond.fieldLink "BumperBalls$Play" 37 "BumperBalls$Play" "struck" "[I") := ⟨List.mem_of_getElem? (i := 267) (by decide +kernel), rfl⟩
theorem wk_168 : Wk (Cond.fieldLink "BumperBalls$Play" 41 "BumperBalls$Play" "knocked" "I") := ⟨List.mem_of_getElem? (i := 270) (by decide +kernel), rfl⟩
theorem wk_192 : Wk (Cond.classLink "BumperBalls" 37 "BumperBalls$Acts") := ⟨List.mem_of_getElem? (i := 294) (by decide +kernel), rfl⟩
theorem wk_193 : Wk (Cond.instantiable "BumperBalls$Acts" 3) := ⟨List.mem_of_getElem? (i := 295) (by decide +kernel), rfl⟩
theorem wk_195 : Wk (Cond.instanceMethod yX0_init) := ⟨List.mem_of_getElem? (i := 297) (by decide +kernel), rfl⟩
theorem wk_196 : Wk (Cond.code yX0_init cX0_init 2 none) := ⟨List.mem_of_getElem? (i := 298) (by decide +kernel), rfl⟩
theorem wk_197 : Wk (Cond.methodLink "BumperBalls$Acts" 3 ⟨"java/lang/Object", "<init>", "()V"⟩) := ⟨List.mem_of_getElem? (i := 299) (by decide +kernel), rfl⟩
theorem wk_198 : Wk (Cond.classLink "BumperBalls$Acts" 9 "BumperBalls$Play") := ⟨List.mem_of_getElem? (i := 300) (by decide +kernel), rfl⟩
theorem wk_199 : Cond.arrayOver (Jvm.ClassFile.FieldType.object "BumperBalls$Play") ∈ lw_tbl := List.mem_of_getElem? (i := 301) (by decide +kernel)
theorem wk_201 : Wk (Cond.fieldLink "BumperBalls$Acts" 11 "BumperBalls$Acts" "plays" "[LBumperBalls$Play;") := ⟨List.mem_of_getElem? (i := 303) (by decide +kernel), rfl⟩
theorem wk_202 : Wk (Cond.fieldLink "BumperBalls$Acts" 17 "BumperBalls$Acts" "oldest" "I") := ⟨List.mem_of_getElem? (i := 304) (by decide +kernel), rfl⟩
theorem wk_203 : Wk (Cond.fieldLink "BumperBalls$Acts" 21 "BumperBalls$Acts" "size" "I") := ⟨List.mem_of_getElem? (i := 305) (by decide +kernel), rfl⟩
theorem wk_212 : Wk (Cond.classLink "BumperBalls" 44 "BumperBalls$Image") := ⟨List.mem_of_getElem? (i := 314) (by decide +kernel), rfl⟩
theorem wk_213 : Cond.arrayOver (Jvm.ClassFile.FieldType.object "BumperBalls$Image") ∈ lw_tbl := List.mem_of_getElem? (i := 315) (by decide +kernel)
theorem wk_214 : Wk (Cond.classLink "BumperBalls" 53 "BumperBalls$Search") := ⟨List.mem_of_getElem? (i := 316) (by decide +kernel), rfl⟩
theorem wk_215 : Wk (Cond.instantiable "BumperBalls$Search" 4) := ⟨List.mem_of_getElem? (i := 317) (by decide +kernel), rfl⟩
theorem wk_217 : Wk (Cond.instanceMethod yX6_init) := ⟨List.mem_of_getElem? (i := 319) (by decide +kernel), rfl⟩
theorem wk_218 : Wk (Cond.code yX6_init cX6_init 1 none) := ⟨List.mem_of_getElem? (i := 320) (by decide +kernel), rfl⟩
theorem wk_219 : Wk (Cond.methodLink "BumperBalls$Search" 3 ⟨"java/lang/Object", "<init>", "()V"⟩) := ⟨List.mem_of_getElem? (i := 321) (by decide +kernel), rfl⟩
theorem wk_220 : Wk (Cond.classLink "BumperBalls$Search" 9 "BumperBalls$Layer") := ⟨List.mem_of_getElem? (i := 322) (by decide +kernel), rfl⟩
theorem wk_221 : Wk (Cond.instantiable "BumperBalls$Layer" 3) := ⟨List.mem_of_getElem? (i := 323) (by decide +kernel), rfl⟩
theorem wk_223 : Wk (Cond.instanceMethod yX3_init) := ⟨List.mem_of_getElem? (i := 325) (by decide +kernel), rfl⟩
theorem wk_224 : Wk (Cond.code yX3_init cX3_init 2 none) := ⟨List.mem_of_getElem? (i := 326) (by decide +kernel), rfl⟩
theorem wk_225 : Wk (Cond.methodLink "BumperBalls$Layer" 3 ⟨"java/lang/Object", "<init>", "()V"⟩) := ⟨List.mem_of_getElem? (i := 327) (by decide +kernel), rfl⟩
theorem wk_226 : Wk (Cond.fieldLink "BumperBalls$Layer" 15 "BumperBalls$Layer" "places" "[I") := ⟨List.mem_of_getElem? (i := 328) (by decide +kernel), rfl⟩
theorem wk_228 : Wk (Cond.fieldLink "BumperBalls$Layer" 19 "BumperBalls$Layer" "costs" "[I") := ⟨List.mem_of_getElem? (i := 330) (by decide +kernel), rfl⟩
theorem wk_230 : Wk (Cond.fieldLink "BumperBalls$Layer" 9 "BumperBalls$Layer" "size" "I") := ⟨List.mem_of_getElem? (i := 332) (by decide +kernel), rfl⟩
theorem wk_239 : Wk (Cond.classLink "BumperBalls$Search" 23 "BumperBalls$Play") := ⟨List.mem_of_getElem? (i := 341) (by decide +kernel), rfl⟩
theorem wk_241 : Wk (Cond.constant "BumperBalls$Search" 30 (-1000000)) := ⟨List.mem_of_getElem? (i := 343) (by decide +kernel), rfl⟩
theorem wk_242 : Wk (Cond.fieldLink "BumperBalls$Search" 14 "BumperBalls$Search" "now" "LBumperBalls$Layer;") := ⟨List.mem_of_getElem? (i := 344) (by decide +kernel), rfl⟩
theorem wk_243 : Wk (Cond.fieldLink "BumperBalls$Search" 20 "BumperBalls$Search" "next" "LBumperBalls$Layer;") := ⟨List.mem_of_getElem? (i := 345) (by decide +kernel), rfl⟩
theorem wk_244 : Wk (Cond.fieldLink "BumperBalls$Search" 26 "BumperBalls$Search" "ball" "LBumperBalls$Play;") := ⟨List.mem_of_getElem? (i := 346) (by decide +kernel), rfl⟩
theorem wk_245 : Wk (Cond.fieldLink "BumperBalls$Search" 31 "BumperBalls$Search" "fewestStriking" "I") := ⟨List.mem_of_getElem? (i := 347) (by decide +kernel), rfl⟩
theorem wk_256 : Wk (Cond.classLink "BumperBalls" 60 "BumperBalls$Asks") := ⟨List.mem_of_getElem? (i := 358) (by decide +kernel), rfl⟩
theorem wk_257 : Wk (Cond.instantiable "BumperBalls$Asks" 6) := ⟨List.mem_of_getElem? (i := 359) (by decide +kernel), rfl⟩
theorem wk_259 : Wk (Cond.instanceMethod yX1_init) := ⟨List.mem_of_getElem? (i := 361) (by decide +kernel), rfl⟩
theorem wk_260 : Wk (Cond.code yX1_init cX1_init 1 none) := ⟨List.mem_of_getElem? (i := 362) (by decide +kernel), rfl⟩
theorem wk_261 : Wk (Cond.methodLink "BumperBalls$Asks" 3 ⟨"java/lang/Object", "<init>", "()V"⟩) := ⟨List.mem_of_getElem? (i := 363) (by decide +kernel), rfl⟩
theorem wk_262 : Wk (Cond.fieldLink "BumperBalls$Asks" 9 "BumperBalls$Asks" "bodies" "[I") := ⟨List.mem_of_getElem? (i := 364) (by decide +kernel), rfl⟩
theorem wk_264 : Wk (Cond.fieldLink "BumperBalls$Asks" 15 "BumperBalls$Asks" "length" "I") := ⟨List.mem_of_getElem? (i := 366) (by decide +kernel), rfl⟩
theorem wk_266 : Wk (Cond.fieldLink "BumperBalls$Asks" 19 "BumperBalls$Asks" "pin" "I") := ⟨List.mem_of_getElem? (i := 368) (by decide +kernel), rfl⟩
theorem wk_267 : Wk (Cond.fieldLink "BumperBalls$Asks" 22 "BumperBalls$Asks" "kind" "I") := ⟨List.mem_of_getElem? (i := 369) (by decide +kernel), rfl⟩
theorem wk_268 : Wk (Cond.fieldLink "BumperBalls$Asks" 25 "BumperBalls$Asks" "pays" "I") := ⟨List.mem_of_getElem? (i := 370) (by decide +kernel), rfl⟩
theorem wk_269 : Wk (Cond.fieldLink "BumperBalls$Asks" 28 "BumperBalls$Asks" "struck" "I") := ⟨List.mem_of_getElem? (i := 371) (by decide +kernel), rfl⟩
theorem wk_283 : Wk (Cond.instantiable "BumperBalls$Image" 3) := ⟨List.mem_of_getElem? (i := 385) (by decide +kernel), rfl⟩
theorem wk_285 : Wk (Cond.instanceMethod yX2_init) := ⟨List.mem_of_getElem? (i := 387) (by decide +kernel), rfl⟩
theorem wk_286 : Wk (Cond.code yX2_init cX2_init 1 none) := ⟨List.mem_of_getElem? (i := 388) (by decide +kernel), rfl⟩
theorem wk_287 : Wk (Cond.methodLink "BumperBalls$Image" 1 ⟨"java/lang/Object", "<init>", "()V"⟩) := ⟨List.mem_of_getElem? (i := 389) (by decide +kernel), rfl⟩
theorem wk_288 : Wk (Cond.classLink "BumperBalls$Image" 7 "BumperBalls$Table") := ⟨List.mem_of_getElem? (i := 390) (by decide +kernel), rfl⟩
theorem wk_290 : Wk (Cond.classLink "BumperBalls$Image" 16 "BumperBalls$Play") := ⟨List.mem_of_getElem? (i := 392) (by decide +kernel), rfl⟩
theorem wk_292 : Wk (Cond.fieldLink "BumperBalls$Image" 10 "BumperBalls$Image" "table" "LBumperBalls$Table;") := ⟨List.mem_of_getElem? (i := 394) (by decide +kernel), rfl⟩
theorem wk_294 : Wk (Cond.fieldLink "BumperBalls$Image" 19 "BumperBalls$Image" "play" "LBumperBalls$Play;") := ⟨List.mem_of_getElem? (i := 396) (by decide +kernel), rfl⟩
theorem wk_296 : Wk (Cond.fieldLink "BumperBalls$Image" 23 "BumperBalls$Image" "isKept" "Z") := ⟨List.mem_of_getElem? (i := 398) (by decide +kernel), rfl⟩
theorem wk_305 : Wk (Cond.fieldLink "BumperBalls" 10 "BumperBalls" "rows" "LBumperBalls$Rows;") := ⟨List.mem_of_getElem? (i := 407) (by decide +kernel), rfl⟩
theorem wk_306 : Wk (Cond.fieldLink "BumperBalls" 19 "BumperBalls" "tape" "LBumperBalls$Tape;") := ⟨List.mem_of_getElem? (i := 408) (by decide +kernel), rfl⟩
theorem wk_307 : Wk (Cond.fieldLink "BumperBalls" 26 "BumperBalls" "table" "LBumperBalls$Table;") := ⟨List.mem_of_getElem? (i := 409) (by decide +kernel), rfl⟩
theorem wk_308 : Wk (Cond.fieldLink "BumperBalls" 33 "BumperBalls" "play" "LBumperBalls$Play;") := ⟨List.mem_of_getElem? (i := 410) (by decide +kernel), rfl⟩
theorem wk_309 : Wk (Cond.fieldLink "BumperBalls" 40 "BumperBalls" "acts" "LBumperBalls$Acts;") := ⟨List.mem_of_getElem? (i := 411) (by decide +kernel), rfl⟩
theorem wk_310 : Wk (Cond.fieldLink "BumperBalls" 46 "BumperBalls" "images" "[LBumperBalls$Image;") := ⟨List.mem_of_getElem? (i := 412) (by decide +kernel), rfl⟩
theorem wk_311 : Wk (Cond.fieldLink "BumperBalls" 50 "BumperBalls" "probe" "LBumperBalls$Play;") := ⟨List.mem_of_getElem? (i := 413) (by decide +kernel), rfl⟩
theorem wk_312 : Wk (Cond.fieldLink "BumperBalls" 56 "BumperBalls" "search" "LBumperBalls$Search;") := ⟨List.mem_of_getElem? (i := 414) (by decide +kernel), rfl⟩
theorem wk_313 : Wk (Cond.fieldLink "BumperBalls" 63 "BumperBalls" "asks" "LBumperBalls$Asks;") := ⟨List.mem_of_getElem? (i := 415) (by decide +kernel), rfl⟩
theorem wk_314 : Wk (Cond.fieldLink "BumperBalls" 67 "BumperBalls" "ready" "Z") := ⟨List.mem_of_getElem? (i := 416) (by decide +kernel), rfl⟩
theorem wk_315 : Wk (Cond.fieldLink "BumperBalls" 71 "BumperBalls" "latestFault" "I") := ⟨List.mem_of_getElem? (i := 417) (by decide +kernel), rfl⟩
theorem wk_316 : Wk (Cond.fieldLink "BumperBalls" 75 "BumperBalls" "latestFinding" "I") := ⟨List.mem_of_getElem? (i := 418) (by decide +kernel), rfl⟩
theorem wk_342 : Wk (Cond.methodLink "BumperBallsLaw" 13 yX9_row) := ⟨List.mem_of_getElem? (i := 444) (by decide +kernel), rfl⟩
theorem wk_343 : Wk (Cond.instanceMethod yX9_row) := ⟨List.mem_of_getElem? (i := 445) (by decide +kernel), rfl⟩
theorem wk_344 : Wk (Cond.selects "BumperBalls" yX9_row yX9_row) := ⟨List.mem_of_getElem? (i := 446) (by decide +kernel), rfl⟩
theorem wk_345 : Wk (Cond.code yX9_row cX9_row 4 (some Jvm.ClassFile.FieldType.int)) := ⟨List.mem_of_getElem? (i := 447) (by decide +kernel), rfl⟩
theorem wk_346 : Wk (Cond.methodLink "BumperBalls" 79 yX9_isRow) := ⟨List.mem_of_getElem? (i := 448) (by decide +kernel), rfl⟩
theorem wk_347 : Wk (Cond.static yX9_isRow) := ⟨List.mem_of_getElem? (i := 449) (by decide +kernel), rfl⟩
theorem wk_348 : Wk (Cond.code yX9_isRow cX9_isRow 1 (some Jvm.ClassFile.FieldType.boolean)) := ⟨List.mem_of_getElem? (i := 450) (by decide +kernel), rfl⟩
theorem wk_349 : Wk (Cond.methodLink "BumperBalls" 83 yX9_isUpTo) := ⟨List.mem_of_getElem? (i := 451) (by decide +kernel), rfl⟩
theorem wk_350 : Wk (Cond.static yX9_isUpTo) := ⟨List.mem_of_getElem? (i := 452) (by decide +kernel), rfl⟩
theorem wk_351 : Wk (Cond.code yX9_isUpTo cX9_isUpTo 2 (some Jvm.ClassFile.FieldType.boolean)) := ⟨List.mem_of_getElem? (i := 453) (by decide +kernel), rfl⟩
theorem wk_352 : Wk (Cond.constant "BumperBalls" 87 (-1000001)) := ⟨List.mem_of_getElem? (i := 454) (by decide +kernel), rfl⟩
theorem wk_353 : Wk (Cond.methodLink "BumperBalls" 88 yX9_found) := ⟨List.mem_of_getElem? (i := 455) (by decide +kernel), rfl⟩
theorem wk_355 : Wk (Cond.instanceMethod yX9_found) := ⟨List.mem_of_getElem? (i := 457) (by decide +kernel), rfl⟩
theorem wk_356 : Wk (Cond.code yX9_found cX9_found 2 (some Jvm.ClassFile.FieldType.int)) := ⟨List.mem_of_getElem? (i := 458) (by decide +kernel), rfl⟩
theorem wk_357 : Wk (Cond.constant "BumperBalls" 299 (-1000010)) := ⟨List.mem_of_getElem? (i := 459) (by decide +kernel), rfl⟩
theorem wk_360 : Wk (Cond.instanceMethod yX5_make) := ⟨List.mem_of_getElem? (i := 462) (by decide +kernel), rfl⟩
theorem wk_361 : Wk (Cond.code yX5_make cX5_make 5 none) := ⟨List.mem_of_getElem? (i := 463) (by decide +kernel), rfl⟩
theorem wk_362 : Wk (Cond.methodLink "BumperBalls" 96 yX9_plain) := ⟨List.mem_of_getElem? (i := 464) (by decide +kernel), rfl⟩
theorem wk_364 : Wk (Cond.instanceMethod yX9_plain) := ⟨List.mem_of_getElem? (i := 466) (by decide +kernel), rfl⟩
theorem wk_365 : Wk (Cond.code yX9_plain cX9_plain 2 (some Jvm.ClassFile.FieldType.int)) := ⟨List.mem_of_getElem? (i := 467) (by decide +kernel), rfl⟩
theorem wk_366 : Wk (Cond.methodLink "BumperBallsLaw" 18 yX9_set) := ⟨List.mem_of_getElem? (i := 468) (by decide +kernel), rfl⟩
theorem wk_367 : Wk (Cond.instanceMethod yX9_set) := ⟨List.mem_of_getElem? (i := 469) (by decide +kernel), rfl⟩
theorem wk_368 : Wk (Cond.selects "BumperBalls" yX9_set yX9_set) := ⟨List.mem_of_getElem? (i := 470) (by decide +kernel), rfl⟩
theorem wk_369 : Wk (Cond.code yX9_set cX9_set 4 (some Jvm.ClassFile.FieldType.int)) := ⟨List.mem_of_getElem? (i := 471) (by decide +kernel), rfl⟩
theorem wk_372 : Wk (Cond.instanceMethod yX5_isMissing) := ⟨List.mem_of_getElem? (i := 474) (by decide +kernel), rfl⟩
theorem wk_373 : Wk (Cond.code yX5_isMissing cX5_isMissing 2 (some Jvm.ClassFile.FieldType.boolean)) := ⟨List.mem_of_getElem? (i := 475) (by decide +kernel), rfl⟩
theorem wk_376 : Wk (Cond.instanceMethod yX5_hasPlaces) := ⟨List.mem_of_getElem? (i := 478) (by decide +kernel), rfl⟩
theorem wk_377 : Wk (Cond.code yX5_hasPlaces cX5_hasPlaces 4 (some Jvm.ClassFile.FieldType.boolean)) := ⟨List.mem_of_getElem? (i := 479) (by decide +kernel), rfl⟩
theorem wk_380 : Wk (Cond.instanceMethod yX5_write) := ⟨List.mem_of_getElem? (i := 482) (by decide +kernel), rfl⟩
theorem wk_381 : Wk (Cond.code yX5_write cX5_write 4 (some Jvm.ClassFile.FieldType.int)) := ⟨List.mem_of_getElem? (i := 483) (by decide +kernel), rfl⟩
theorem wk_382 : Wk (Cond.methodLink "BumperBallsLaw" 22 yX9_copy) := ⟨List.mem_of_getElem? (i := 484) (by decide +kernel), rfl⟩
theorem wk_383 : Wk (Cond.instanceMethod yX9_copy) := ⟨List.mem_of_getElem? (i := 485) (by decide +kernel), rfl⟩
theorem wk_384 : Wk (Cond.selects "BumperBalls" yX9_copy yX9_copy) := ⟨List.mem_of_getElem? (i := 486) (by decide +kernel), rfl⟩
theorem wk_385 : Wk (Cond.code yX9_copy cX9_copy 6 (some Jvm.ClassFile.FieldType.int)) := ⟨List.mem_of_getElem? (i := 487) (by decide +kernel), rfl⟩
theorem wk_386 : Wk (Cond.methodLink "BumperBalls" 118 ⟨"java/lang/System", "arraycopy", "(Ljava/lang/Object;ILjava/lang/Object;II)V"⟩) := ⟨List.mem_of_getElem? (i := 488) (by decide +kernel), rfl⟩
theorem wk_387 : Wk (Cond.static ⟨"java/lang/System", "arraycopy", "(Ljava/lang/Object;ILjava/lang/Object;II)V"⟩) := ⟨List.mem_of_getElem? (i := 489) (by decide +kernel), rfl⟩
theorem wk_388 : Wk (Cond.native ⟨"java/lang/System", "arraycopy", "(Ljava/lang/Object;ILjava/lang/Object;II)V"⟩) := ⟨List.mem_of_getElem? (i := 490) (by decide +kernel), rfl⟩
theorem wk_389 : Wk (Cond.methodLink "BumperBallsLaw" 27 yX9_drop) := ⟨List.mem_of_getElem? (i := 491) (by decide +kernel), rfl⟩
theorem wk_390 : Wk (Cond.instanceMethod yX9_drop) := ⟨List.mem_of_getElem? (i := 492) (by decide +kernel), rfl⟩
theorem wk_391 : Wk (Cond.selects "BumperBalls" yX9_drop yX9_drop) := ⟨List.mem_of_getElem? (i := 493) (by decide +kernel), rfl⟩
theorem wk_392 : Wk (Cond.code yX9_drop cX9_drop 2 (some Jvm.ClassFile.FieldType.int)) := ⟨List.mem_of_getElem? (i := 494) (by decide +kernel), rfl⟩
theorem wk_395 : Wk (Cond.instanceMethod yX5_remove) := ⟨List.mem_of_getElem? (i := 497) (by decide +kernel), rfl⟩
theorem wk_396 : Wk (Cond.code yX5_remove cX5_remove 3 (some Jvm.ClassFile.FieldType.int)) := ⟨List.mem_of_getElem? (i := 498) (by decide +kernel), rfl⟩
theorem wk_397 : Wk (Cond.methodLink "BumperBallsLaw" 34 yX9_feed) := ⟨List.mem_of_getElem? (i := 499) (by decide +kernel), rfl⟩
theorem wk_398 : Wk (Cond.instanceMethod yX9_feed) := ⟨List.mem_of_getElem? (i := 500) (by decide +kernel), rfl⟩
theorem wk_399 : Wk (Cond.selects "BumperBalls" yX9_feed yX9_feed) := ⟨List.mem_of_getElem? (i := 501) (by decide +kernel), rfl⟩
theorem wk_400 : Wk (Cond.code yX9_feed cX9_feed 4 (some Jvm.ClassFile.FieldType.int)) := ⟨List.mem_of_getElem? (i := 502) (by decide +kernel), rfl⟩
theorem wk_401 : Wk (Cond.constant "BumperBalls" 130 (-1000003)) := ⟨List.mem_of_getElem? (i := 503) (by decide +kernel), rfl⟩
theorem wk_404 : Wk (Cond.instanceMethod yX8_append) := ⟨List.mem_of_getElem? (i := 506) (by decide +kernel), rfl⟩
theorem wk_405 : Wk (Cond.code yX8_append cX8_append 5 none) := ⟨List.mem_of_getElem? (i := 507) (by decide +kernel), rfl⟩
theorem wk_406 : Wk (Cond.methodLink "BumperBallsLaw" 39 yX9_table) := ⟨List.mem_of_getElem? (i := 508) (by decide +kernel), rfl⟩
theorem wk_407 : Wk (Cond.instanceMethod yX9_table) := ⟨List.mem_of_getElem? (i := 509) (by decide +kernel), rfl⟩
theorem wk_408 : Wk (Cond.selects "BumperBalls" yX9_table yX9_table) := ⟨List.mem_of_getElem? (i := 510) (by decide +kernel), rfl⟩
theorem wk_409 : Wk (Cond.code yX9_table cX9_table 1 (some Jvm.ClassFile.FieldType.int)) := ⟨List.mem_of_getElem? (i := 511) (by decide +kernel), rfl⟩
theorem wk_412 : Wk (Cond.instanceMethod yX8_readAll) := ⟨List.mem_of_getElem? (i := 514) (by decide +kernel), rfl⟩
theorem wk_413 : Wk (Cond.code yX8_readAll cX8_readAll 2 none) := ⟨List.mem_of_getElem? (i := 515) (by decide +kernel), rfl⟩
theorem wk_415 : Wk (Cond.methodLink "BumperBalls$Tape" 50 yX8_readLaw) := ⟨List.mem_of_getElem? (i := 517) (by decide +kernel), rfl⟩
theorem wk_417 : Wk (Cond.instanceMethod yX8_readLaw) := ⟨List.mem_of_getElem? (i := 519) (by decide +kernel), rfl⟩
theorem wk_418 : Wk (Cond.code yX8_readLaw cX8_readLaw 1 none) := ⟨List.mem_of_getElem? (i := 520) (by decide +kernel), rfl⟩
theorem wk_419 : Wk (Cond.methodLink "BumperBalls$Tape" 53 yX8_take) := ⟨List.mem_of_getElem? (i := 521) (by decide +kernel), rfl⟩
theorem wk_421 : Wk (Cond.instanceMethod yX8_take) := ⟨List.mem_of_getElem? (i := 523) (by decide +kernel), rfl⟩
theorem wk_422 : Wk (Cond.code yX8_take cX8_take 1 none) := ⟨List.mem_of_getElem? (i := 524) (by decide +kernel), rfl⟩
theorem wk_423 : Wk (Cond.methodLink "BumperBalls$Tape" 114 yX8_isBlank) := ⟨List.mem_of_getElem? (i := 525) (by decide +kernel), rfl⟩
theorem wk_424 : Wk (Cond.static yX8_isBlank) := ⟨List.mem_of_getElem? (i := 526) (by decide +kernel), rfl⟩
theorem wk_425 : Wk (Cond.code yX8_isBlank cX8_isBlank 1 (some Jvm.ClassFile.FieldType.boolean)) := ⟨List.mem_of_getElem? (i := 527) (by decide +kernel), rfl⟩
theorem wk_426 : Wk (Cond.methodLink "BumperBalls$Tape" 118 yX8_isLetter) := ⟨List.mem_of_getElem? (i := 528) (by decide +kernel), rfl⟩
theorem wk_427 : Wk (Cond.static yX8_isLetter) := ⟨List.mem_of_getElem? (i := 529) (by decide +kernel), rfl⟩
theorem wk_428 : Wk (Cond.code yX8_isLetter cX8_isLetter 1 (some Jvm.ClassFile.FieldType.boolean)) := ⟨List.mem_of_getElem? (i := 530) (by decide +kernel), rfl⟩
theorem wk_429 : Wk (Cond.methodLink "BumperBalls$Tape" 121 yX8_takeName) := ⟨List.mem_of_getElem? (i := 531) (by decide +kernel), rfl⟩
theorem wk_431 : Wk (Cond.instanceMethod yX8_takeName) := ⟨List.mem_of_getElem? (i := 533) (by decide +kernel), rfl⟩
theorem wk_432 : Wk (Cond.code yX8_takeName cX8_takeName 1 none) := ⟨List.mem_of_getElem? (i := 534) (by decide +kernel), rfl⟩
theorem wk_433 : Wk (Cond.methodLink "BumperBalls$Tape" 124 yX8_isFigure) := ⟨List.mem_of_getElem? (i := 535) (by decide +kernel), rfl⟩
theorem wk_434 : Wk (Cond.static yX8_isFigure) := ⟨List.mem_of_getElem? (i := 536) (by decide +kernel), rfl⟩
theorem wk_435 : Wk (Cond.code yX8_isFigure cX8_isFigure 1 (some Jvm.ClassFile.FieldType.boolean)) := ⟨List.mem_of_getElem? (i := 537) (by decide +kernel), rfl⟩
theorem wk_436 : Wk (Cond.methodLink "BumperBalls$Tape" 127 yX8_takeFigures) := ⟨List.mem_of_getElem? (i := 538) (by decide +kernel), rfl⟩
theorem wk_438 : Wk (Cond.instanceMethod yX8_takeFigures) := ⟨List.mem_of_getElem? (i := 540) (by decide +kernel), rfl⟩
theorem wk_439 : Wk (Cond.code yX8_takeFigures cX8_takeFigures 1 none) := ⟨List.mem_of_getElem? (i := 541) (by decide +kernel), rfl⟩
theorem wk_441 : Wk (Cond.methodLink "BumperBalls$Tape" 58 yX8_isName) := ⟨List.mem_of_getElem? (i := 543) (by decide +kernel), rfl⟩
theorem wk_443 : Wk (Cond.instanceMethod yX8_isName) := ⟨List.mem_of_getElem? (i := 545) (by decide +kernel), rfl⟩
theorem wk_444 : Wk (Cond.code yX8_isName cX8_isName 3 (some Jvm.ClassFile.FieldType.boolean)) := ⟨List.mem_of_getElem? (i := 546) (by decide +kernel), rfl⟩
theorem wk_445 : Wk (Cond.methodLink "BumperBalls$Tape" 130 yJ0_length_8abf5) := ⟨List.mem_of_getElem? (i := 547) (by decide +kernel), rfl⟩
theorem wk_446 : Wk (Cond.instanceMethod yJ0_length_8abf5) := ⟨List.mem_of_getElem? (i := 548) (by decide +kernel), rfl⟩
theorem wk_447 : Wk (Cond.selects "java/lang/String" yJ0_length_8abf5 yJ0_length_8abf5) := ⟨List.mem_of_getElem? (i := 549) (by decide +kernel), rfl⟩
theorem wk_448 : Wk (Cond.code yJ0_length_8abf5 cJ0_length_8abf5 1 (some Jvm.ClassFile.FieldType.int)) := ⟨List.mem_of_getElem? (i := 550) (by decide +kernel), rfl⟩
theorem wk_449 : Wk (Cond.methodLink "java/lang/String" 335 yJ0_coder_7d493) := ⟨List.mem_of_getElem? (i := 551) (by decide +kernel), rfl⟩
theorem wk_450 : Wk (Cond.instanceMethod yJ0_coder_7d493) := ⟨List.mem_of_getElem? (i := 552) (by decide +kernel), rfl⟩
theorem wk_451 : Wk (Cond.selects "java/lang/String" yJ0_coder_7d493 yJ0_coder_7d493) := ⟨List.mem_of_getElem? (i := 553) (by decide +kernel), rfl⟩
theorem wk_452 : Wk (Cond.code yJ0_coder_7d493 cJ0_coder_7d493 1 (some Jvm.ClassFile.FieldType.byte)) := ⟨List.mem_of_getElem? (i := 554) (by decide +kernel), rfl⟩
theorem wk_453 : Wk (Cond.fieldLink "java/lang/String" 38 "java/lang/String" "COMPACT_STRINGS" "Z") := ⟨List.mem_of_getElem? (i := 555) (by decide +kernel), rfl⟩
theorem wk_455 : Wk (Cond.methodLink "BumperBalls$Tape" 134 yJ0_charAt_5068e) := ⟨List.mem_of_getElem? (i := 557) (by decide +kernel), rfl⟩
theorem wk_456 : Wk (Cond.instanceMethod yJ0_charAt_5068e) := ⟨List.mem_of_getElem? (i := 558) (by decide +kernel), rfl⟩
theorem wk_457 : Wk (Cond.selects "java/lang/String" yJ0_charAt_5068e yJ0_charAt_5068e) := ⟨List.mem_of_getElem? (i := 559) (by decide +kernel), rfl⟩
theorem wk_458 : Wk (Cond.code yJ0_charAt_5068e cJ0_charAt_5068e 2 (some Jvm.ClassFile.FieldType.char)) := ⟨List.mem_of_getElem? (i := 560) (by decide +kernel), rfl⟩
theorem wk_459 : Wk (Cond.methodLink "java/lang/String" 492 yJ0_isLatin1_aae02) := ⟨List.mem_of_getElem? (i := 561) (by decide +kernel), rfl⟩
theorem wk_460 : Wk (Cond.instanceMethod yJ0_isLatin1_aae02) := ⟨List.mem_of_getElem? (i := 562) (by decide +kernel), rfl⟩
theorem wk_461 : Wk (Cond.selects "java/lang/String" yJ0_isLatin1_aae02 yJ0_isLatin1_aae02) := ⟨List.mem_of_getElem? (i := 563) (by decide +kernel), rfl⟩
theorem wk_462 : Wk (Cond.code yJ0_isLatin1_aae02 cJ0_isLatin1_aae02 1 (some Jvm.ClassFile.FieldType.boolean)) := ⟨List.mem_of_getElem? (i := 564) (by decide +kernel), rfl⟩
theorem wk_463 : Wk (Cond.methodLink "java/lang/String" 495 yJ1_charAt_3b067) := ⟨List.mem_of_getElem? (i := 565) (by decide +kernel), rfl⟩
theorem wk_464 : Wk (Cond.static yJ1_charAt_3b067) := ⟨List.mem_of_getElem? (i := 566) (by decide +kernel), rfl⟩
theorem wk_465 : Wk (Cond.code yJ1_charAt_3b067 cJ1_charAt_3b067 2 (some Jvm.ClassFile.FieldType.char)) := ⟨List.mem_of_getElem? (i := 567) (by decide +kernel), rfl⟩
theorem wk_466 : Wk (Cond.methodLink "java/lang/StringLatin1" 9 yJ0_checkIndex_df160) := ⟨List.mem_of_getElem? (i := 568) (by decide +kernel), rfl⟩
theorem wk_467 : Wk (Cond.static yJ0_checkIndex_df160) := ⟨List.mem_of_getElem? (i := 569) (by decide +kernel), rfl⟩
theorem wk_468 : Wk (Cond.code yJ0_checkIndex_df160 cJ0_checkIndex_df160 2 none) := ⟨List.mem_of_getElem? (i := 570) (by decide +kernel), rfl⟩
theorem wk_469 : Wk (Cond.fieldLink "java/lang/String" 1053 "jdk/internal/util/Preconditions" "SIOOBE_FORMATTER" "Ljava/util/function/BiFunction;") := ⟨List.mem_of_getElem? (i := 571) (by decide +kernel), rfl⟩
theorem wk_471 : Wk (Cond.methodLink "java/lang/String" 1059 yJ3_checkIndex_8e157) := ⟨List.mem_of_getElem? (i := 573) (by decide +kernel), rfl⟩
theorem wk_472 : Wk (Cond.static yJ3_checkIndex_8e157) := ⟨List.mem_of_getElem? (i := 574) (by decide +kernel), rfl⟩
theorem wk_473 : Wk (Cond.code yJ3_checkIndex_8e157 cJ3_checkIndex_8e157 3 (some Jvm.ClassFile.FieldType.int)) := ⟨List.mem_of_getElem? (i := 575) (by decide +kernel), rfl⟩
theorem wk_474 : Wk (Cond.methodLink "java/lang/String" 498 yJ2_charAt_3b067) := ⟨List.mem_of_getElem? (i := 576) (by decide +kernel), rfl⟩
theorem wk_475 : Wk (Cond.static yJ2_charAt_3b067) := ⟨List.mem_of_getElem? (i := 577) (by decide +kernel), rfl⟩
theorem wk_476 : Wk (Cond.code yJ2_charAt_3b067 cJ2_charAt_3b067 2 (some Jvm.ClassFile.FieldType.char)) := ⟨List.mem_of_getElem? (i := 578) (by decide +kernel), rfl⟩
theorem wk_477 : Wk (Cond.methodLink "java/lang/StringUTF16" 67 yJ2_checkIndex_2214a) := ⟨List.mem_of_getElem? (i := 579) (by decide +kernel), rfl⟩
theorem wk_478 : Wk (Cond.static yJ2_checkIndex_2214a) := ⟨List.mem_of_getElem? (i := 580) (by decide +kernel), rfl⟩
theorem wk_479 : Wk (Cond.code yJ2_checkIndex_2214a cJ2_checkIndex_2214a 2 none) := ⟨List.mem_of_getElem? (i := 581) (by decide +kernel), rfl⟩
theorem wk_480 : Wk (Cond.methodLink "java/lang/StringUTF16" 48 yJ2_length_9d52b) := ⟨List.mem_of_getElem? (i := 582) (by decide +kernel), rfl⟩
theorem wk_481 : Wk (Cond.static yJ2_length_9d52b) := ⟨List.mem_of_getElem? (i := 583) (by decide +kernel), rfl⟩
theorem wk_482 : Wk (Cond.code yJ2_length_9d52b cJ2_length_9d52b 1 (some Jvm.ClassFile.FieldType.int)) := ⟨List.mem_of_getElem? (i := 584) (by decide +kernel), rfl⟩
theorem wk_483 : Wk (Cond.methodLink "java/lang/StringUTF16" 414 yJ0_checkIndex_df160) := ⟨List.mem_of_getElem? (i := 585) (by decide +kernel), rfl⟩
theorem wk_484 : Wk (Cond.methodLink "java/lang/StringUTF16" 71 yJ2_getChar_3b067) := ⟨List.mem_of_getElem? (i := 586) (by decide +kernel), rfl⟩
theorem wk_485 : Wk (Cond.static yJ2_getChar_3b067) := ⟨List.mem_of_getElem? (i := 587) (by decide +kernel), rfl⟩
theorem wk_486 : Wk (Cond.code yJ2_getChar_3b067 cJ2_getChar_3b067 2 (some Jvm.ClassFile.FieldType.char)) := ⟨List.mem_of_getElem? (i := 588) (by decide +kernel), rfl⟩
theorem wk_487 : Wk (Cond.fieldLink "java/lang/StringUTF16" 44 "java/lang/StringUTF16" "$assertionsDisabled" "Z") := ⟨List.mem_of_getElem? (i := 589) (by decide +kernel), rfl⟩
theorem wk_489 : Wk (Cond.fieldLink "java/lang/StringUTF16" 59 "java/lang/StringUTF16" "HI_BYTE_SHIFT" "I") := ⟨List.mem_of_getElem? (i := 591) (by decide +kernel), rfl⟩
theorem wk_491 : Wk (Cond.fieldLink "java/lang/StringUTF16" 63 "java/lang/StringUTF16" "LO_BYTE_SHIFT" "I") := ⟨List.mem_of_getElem? (i := 593) (by decide +kernel), rfl⟩
theorem wk_493 : Wk (Cond.methodLink "BumperBalls$Tape" 68 yX8_demand) := ⟨List.mem_of_getElem? (i := 595) (by decide +kernel), rfl⟩
theorem wk_495 : Wk (Cond.instanceMethod yX8_demand) := ⟨List.mem_of_getElem? (i := 597) (by decide +kernel), rfl⟩
theorem wk_496 : Wk (Cond.code yX8_demand cX8_demand 2 none) := ⟨List.mem_of_getElem? (i := 598) (by decide +kernel), rfl⟩
theorem wk_497 : Wk (Cond.methodLink "BumperBalls$Tape" 74 yX8_takeNumber) := ⟨List.mem_of_getElem? (i := 599) (by decide +kernel), rfl⟩
theorem wk_499 : Wk (Cond.instanceMethod yX8_takeNumber) := ⟨List.mem_of_getElem? (i := 601) (by decide +kernel), rfl⟩
theorem wk_500 : Wk (Cond.code yX8_takeNumber cX8_takeNumber 3 (some Jvm.ClassFile.FieldType.int)) := ⟨List.mem_of_getElem? (i := 602) (by decide +kernel), rfl⟩
theorem wk_501 : Wk (Cond.methodLink "BumperBalls$Tape" 81 yX8_takeSemicolon) := ⟨List.mem_of_getElem? (i := 603) (by decide +kernel), rfl⟩
theorem wk_503 : Wk (Cond.instanceMethod yX8_takeSemicolon) := ⟨List.mem_of_getElem? (i := 605) (by decide +kernel), rfl⟩
theorem wk_504 : Wk (Cond.code yX8_takeSemicolon cX8_takeSemicolon 1 none) := ⟨List.mem_of_getElem? (i := 606) (by decide +kernel), rfl⟩
theorem wk_506 : Wk (Cond.methodLink "BumperBalls$Tape" 62 yX8_readPin) := ⟨List.mem_of_getElem? (i := 608) (by decide +kernel), rfl⟩
theorem wk_508 : Wk (Cond.instanceMethod yX8_readPin) := ⟨List.mem_of_getElem? (i := 610) (by decide +kernel), rfl⟩
theorem wk_509 : Wk (Cond.code yX8_readPin cX8_readPin 5 none) := ⟨List.mem_of_getElem? (i := 611) (by decide +kernel), rfl⟩
theorem wk_510 : Wk (Cond.methodLink "BumperBalls$Tape" 87 yX8_takeKind) := ⟨List.mem_of_getElem? (i := 612) (by decide +kernel), rfl⟩
theorem wk_512 : Wk (Cond.instanceMethod yX8_takeKind) := ⟨List.mem_of_getElem? (i := 614) (by decide +kernel), rfl⟩
theorem wk_513 : Wk (Cond.code yX8_takeKind cX8_takeKind 2 (some Jvm.ClassFile.FieldType.int)) := ⟨List.mem_of_getElem? (i := 615) (by decide +kernel), rfl⟩
theorem wk_519 : Wk (Cond.methodLink "BumperBalls$Tape" 91 yX8_takeFreeCell) := ⟨List.mem_of_getElem? (i := 621) (by decide +kernel), rfl⟩
theorem wk_521 : Wk (Cond.instanceMethod yX8_takeFreeCell) := ⟨List.mem_of_getElem? (i := 623) (by decide +kernel), rfl⟩
theorem wk_522 : Wk (Cond.code yX8_takeFreeCell cX8_takeFreeCell 4 (some Jvm.ClassFile.FieldType.int)) := ⟨List.mem_of_getElem? (i := 624) (by decide +kernel), rfl⟩
theorem wk_525 : Wk (Cond.instanceMethod yX7_pinIn) := ⟨List.mem_of_getElem? (i := 627) (by decide +kernel), rfl⟩
theorem wk_526 : Wk (Cond.code yX7_pinIn cX7_pinIn 2 (some Jvm.ClassFile.FieldType.int)) := ⟨List.mem_of_getElem? (i := 628) (by decide +kernel), rfl⟩
theorem wk_530 : Wk (Cond.instanceMethod yX7_addPin) := ⟨List.mem_of_getElem? (i := 632) (by decide +kernel), rfl⟩
theorem wk_531 : Wk (Cond.code yX7_addPin cX7_addPin 5 none) := ⟨List.mem_of_getElem? (i := 633) (by decide +kernel), rfl⟩
theorem wk_532 : Wk (Cond.methodLink "BumperBalls$Tape" 65 yX8_readBall) := ⟨List.mem_of_getElem? (i := 634) (by decide +kernel), rfl⟩
theorem wk_534 : Wk (Cond.instanceMethod yX8_readBall) := ⟨List.mem_of_getElem? (i := 636) (by decide +kernel), rfl⟩
theorem wk_535 : Wk (Cond.code yX8_readBall cX8_readBall 1 none) := ⟨List.mem_of_getElem? (i := 637) (by decide +kernel), rfl⟩
theorem wk_537 : Wk (Cond.constant "BumperBalls" 141 (-1000100)) := ⟨List.mem_of_getElem? (i := 639) (by decide +kernel), rfl⟩
theorem wk_540 : Wk (Cond.instanceMethod yX7_become) := ⟨List.mem_of_getElem? (i := 642) (by decide +kernel), rfl⟩
theorem wk_541 : Wk (Cond.code yX7_become cX7_become 2 none) := ⟨List.mem_of_getElem? (i := 643) (by decide +kernel), rfl⟩
theorem wk_542 : Wk (Cond.methodLink "BumperBalls$Table" 41 ⟨"java/lang/System", "arraycopy", "(Ljava/lang/Object;ILjava/lang/Object;II)V"⟩) := ⟨List.mem_of_getElem? (i := 644) (by decide +kernel), rfl⟩
theorem wk_545 : Wk (Cond.instanceMethod yX4_begin) := ⟨List.mem_of_getElem? (i := 647) (by decide +kernel), rfl⟩
theorem wk_546 : Wk (Cond.code yX4_begin cX4_begin 4 none) := ⟨List.mem_of_getElem? (i := 648) (by decide +kernel), rfl⟩
theorem wk_547 : Wk (Cond.methodLink "BumperBalls$Play" 44 yX4_place) := ⟨List.mem_of_getElem? (i := 649) (by decide +kernel), rfl⟩
theorem wk_549 : Wk (Cond.instanceMethod yX4_place) := ⟨List.mem_of_getElem? (i := 651) (by decide +kernel), rfl⟩
theorem wk_550 : Wk (Cond.code yX4_place cX4_place 3 none) := ⟨List.mem_of_getElem? (i := 652) (by decide +kernel), rfl⟩
theorem wk_553 : Wk (Cond.instanceMethod yX0_forget) := ⟨List.mem_of_getElem? (i := 655) (by decide +kernel), rfl⟩
theorem wk_554 : Wk (Cond.code yX0_forget cX0_forget 1 none) := ⟨List.mem_of_getElem? (i := 656) (by decide +kernel), rfl⟩
theorem wk_555 : Wk (Cond.arrayClass (Jvm.ClassFile.FieldType.byte)) := ⟨List.mem_of_getElem? (i := 657) (by decide +kernel), rfl⟩
theorem wk_556 : Wk (Cond.methodLink "BumperBallsLaw" 44 yX9_fault) := ⟨List.mem_of_getElem? (i := 658) (by decide +kernel), rfl⟩
theorem wk_557 : Wk (Cond.instanceMethod yX9_fault) := ⟨List.mem_of_getElem? (i := 659) (by decide +kernel), rfl⟩
theorem wk_558 : Wk (Cond.selects "BumperBalls" yX9_fault yX9_fault) := ⟨List.mem_of_getElem? (i := 660) (by decide +kernel), rfl⟩
theorem wk_559 : Wk (Cond.code yX9_fault cX9_fault 1 (some Jvm.ClassFile.FieldType.int)) := ⟨List.mem_of_getElem? (i := 661) (by decide +kernel), rfl⟩
theorem wk_560 : Wk (Cond.methodLink "BumperBallsLaw" 48 yX9_steps) := ⟨List.mem_of_getElem? (i := 662) (by decide +kernel), rfl⟩
theorem wk_561 : Wk (Cond.instanceMethod yX9_steps) := ⟨List.mem_of_getElem? (i := 663) (by decide +kernel), rfl⟩
theorem wk_562 : Wk (Cond.selects "BumperBalls" yX9_steps yX9_steps) := ⟨List.mem_of_getElem? (i := 664) (by decide +kernel), rfl⟩
theorem wk_563 : Wk (Cond.code yX9_steps cX9_steps 3 (some Jvm.ClassFile.FieldType.int)) := ⟨List.mem_of_getElem? (i := 665) (by decide +kernel), rfl⟩
theorem wk_564 : Wk (Cond.constant "BumperBalls" 168 (-1000002)) := ⟨List.mem_of_getElem? (i := 666) (by decide +kernel), rfl⟩
theorem wk_567 : Wk (Cond.instanceMethod yX0_keep) := ⟨List.mem_of_getElem? (i := 669) (by decide +kernel), rfl⟩
theorem wk_568 : Wk (Cond.code yX0_keep cX0_keep 2 none) := ⟨List.mem_of_getElem? (i := 670) (by decide +kernel), rfl⟩
theorem wk_571 : Wk (Cond.instanceMethod yX4_become) := ⟨List.mem_of_getElem? (i := 673) (by decide +kernel), rfl⟩
theorem wk_572 : Wk (Cond.code yX4_become cX4_become 2 none) := ⟨List.mem_of_getElem? (i := 674) (by decide +kernel), rfl⟩
theorem wk_573 : Wk (Cond.methodLink "BumperBalls$Play" 48 ⟨"java/lang/System", "arraycopy", "(Ljava/lang/Object;ILjava/lang/Object;II)V"⟩) := ⟨List.mem_of_getElem? (i := 675) (by decide +kernel), rfl⟩
theorem wk_576 : Wk (Cond.instanceMethod yX4_step) := ⟨List.mem_of_getElem? (i := 678) (by decide +kernel), rfl⟩
theorem wk_577 : Wk (Cond.code yX4_step cX4_step 2 none) := ⟨List.mem_of_getElem? (i := 679) (by decide +kernel), rfl⟩
theorem wk_578 : Wk (Cond.methodLink "BumperBalls$Play" 58 yJ9_max_7cf53) := ⟨List.mem_of_getElem? (i := 680) (by decide +kernel), rfl⟩
theorem wk_579 : Wk (Cond.static yJ9_max_7cf53) := ⟨List.mem_of_getElem? (i := 681) (by decide +kernel), rfl⟩
theorem wk_580 : Wk (Cond.code yJ9_max_7cf53 cJ9_max_7cf53 2 (some Jvm.ClassFile.FieldType.int)) := ⟨List.mem_of_getElem? (i := 682) (by decide +kernel), rfl⟩
theorem wk_581 : Wk (Cond.methodLink "BumperBalls$Play" 64 yX4_isAtSide) := ⟨List.mem_of_getElem? (i := 683) (by decide +kernel), rfl⟩
theorem wk_583 : Wk (Cond.instanceMethod yX4_isAtSide) := ⟨List.mem_of_getElem? (i := 685) (by decide +kernel), rfl⟩
theorem wk_584 : Wk (Cond.code yX4_isAtSide cX4_isAtSide 1 (some Jvm.ClassFile.FieldType.boolean)) := ⟨List.mem_of_getElem? (i := 686) (by decide +kernel), rfl⟩
theorem wk_585 : Wk (Cond.methodLink "BumperBalls$Play" 68 yX4_turn) := ⟨List.mem_of_getElem? (i := 687) (by decide +kernel), rfl⟩
theorem wk_587 : Wk (Cond.instanceMethod yX4_turn) := ⟨List.mem_of_getElem? (i := 689) (by decide +kernel), rfl⟩
theorem wk_588 : Wk (Cond.code yX4_turn cX4_turn 2 none) := ⟨List.mem_of_getElem? (i := 690) (by decide +kernel), rfl⟩
theorem wk_590 : Wk (Cond.methodLink "BumperBalls$Play" 78 yX4_knock) := ⟨List.mem_of_getElem? (i := 692) (by decide +kernel), rfl⟩
theorem wk_592 : Wk (Cond.instanceMethod yX4_knock) := ⟨List.mem_of_getElem? (i := 694) (by decide +kernel), rfl⟩
theorem wk_593 : Wk (Cond.code yX4_knock cX4_knock 3 none) := ⟨List.mem_of_getElem? (i := 695) (by decide +kernel), rfl⟩
theorem wk_595 : Wk (Cond.methodLink "BumperBalls$Play" 95 yX4_turnBy) := ⟨List.mem_of_getElem? (i := 697) (by decide +kernel), rfl⟩
theorem wk_597 : Wk (Cond.instanceMethod yX4_turnBy) := ⟨List.mem_of_getElem? (i := 699) (by decide +kernel), rfl⟩
theorem wk_598 : Wk (Cond.code yX4_turnBy cX4_turnBy 3 none) := ⟨List.mem_of_getElem? (i := 700) (by decide +kernel), rfl⟩
theorem wk_599 : Wk (Cond.methodLink "BumperBalls$Play" 98 yX4_isOpen) := ⟨List.mem_of_getElem? (i := 701) (by decide +kernel), rfl⟩
theorem wk_601 : Wk (Cond.instanceMethod yX4_isOpen) := ⟨List.mem_of_getElem? (i := 703) (by decide +kernel), rfl⟩
theorem wk_602 : Wk (Cond.code yX4_isOpen cX4_isOpen 2 (some Jvm.ClassFile.FieldType.boolean)) := ⟨List.mem_of_getElem? (i := 704) (by decide +kernel), rfl⟩
theorem wk_603 : Wk (Cond.methodLink "BumperBallsLaw" 52 yX9_nudge) := ⟨List.mem_of_getElem? (i := 705) (by decide +kernel), rfl⟩
theorem wk_604 : Wk (Cond.instanceMethod yX9_nudge) := ⟨List.mem_of_getElem? (i := 706) (by decide +kernel), rfl⟩
theorem wk_605 : Wk (Cond.selects "BumperBalls" yX9_nudge yX9_nudge) := ⟨List.mem_of_getElem? (i := 707) (by decide +kernel), rfl⟩
theorem wk_606 : Wk (Cond.code yX9_nudge cX9_nudge 1 (some Jvm.ClassFile.FieldType.int)) := ⟨List.mem_of_getElem? (i := 708) (by decide +kernel), rfl⟩
theorem wk_609 : Wk (Cond.instanceMethod yX4_shake) := ⟨List.mem_of_getElem? (i := 711) (by decide +kernel), rfl⟩
theorem wk_610 : Wk (Cond.code yX4_shake cX4_shake 2 none) := ⟨List.mem_of_getElem? (i := 712) (by decide +kernel), rfl⟩
theorem wk_611 : Wk (Cond.methodLink "BumperBallsLaw" 56 yX9_flip) := ⟨List.mem_of_getElem? (i := 713) (by decide +kernel), rfl⟩
theorem wk_612 : Wk (Cond.instanceMethod yX9_flip) := ⟨List.mem_of_getElem? (i := 714) (by decide +kernel), rfl⟩
theorem wk_613 : Wk (Cond.selects "BumperBalls" yX9_flip yX9_flip) := ⟨List.mem_of_getElem? (i := 715) (by decide +kernel), rfl⟩
theorem wk_614 : Wk (Cond.code yX9_flip cX9_flip 1 (some Jvm.ClassFile.FieldType.int)) := ⟨List.mem_of_getElem? (i := 716) (by decide +kernel), rfl⟩
theorem wk_615 : Wk (Cond.methodLink "BumperBallsLaw" 60 yX9_put) := ⟨List.mem_of_getElem? (i := 717) (by decide +kernel), rfl⟩
theorem wk_616 : Wk (Cond.instanceMethod yX9_put) := ⟨List.mem_of_getElem? (i := 718) (by decide +kernel), rfl⟩
theorem wk_617 : Wk (Cond.selects "BumperBalls" yX9_put yX9_put) := ⟨List.mem_of_getElem? (i := 719) (by decide +kernel), rfl⟩
theorem wk_618 : Wk (Cond.code yX9_put cX9_put 3 (some Jvm.ClassFile.FieldType.int)) := ⟨List.mem_of_getElem? (i := 720) (by decide +kernel), rfl⟩
theorem wk_621 : Wk (Cond.methodLink "BumperBallsLaw" 65 yX9_undo) := ⟨List.mem_of_getElem? (i := 723) (by decide +kernel), rfl⟩
theorem wk_622 : Wk (Cond.instanceMethod yX9_undo) := ⟨List.mem_of_getElem? (i := 724) (by decide +kernel), rfl⟩
theorem wk_623 : Wk (Cond.selects "BumperBalls" yX9_undo yX9_undo) := ⟨List.mem_of_getElem? (i := 725) (by decide +kernel), rfl⟩
theorem wk_624 : Wk (Cond.code yX9_undo cX9_undo 1 (some Jvm.ClassFile.FieldType.int)) := ⟨List.mem_of_getElem? (i := 726) (by decide +kernel), rfl⟩
theorem wk_627 : Wk (Cond.instanceMethod yX0_takeBack) := ⟨List.mem_of_getElem? (i := 729) (by decide +kernel), rfl⟩
theorem wk_628 : Wk (Cond.code yX0_takeBack cX0_takeBack 2 none) := ⟨List.mem_of_getElem? (i := 730) (by decide +kernel), rfl⟩
theorem wk_629 : Wk (Cond.methodLink "BumperBallsLaw" 69 yX9_ball) := ⟨List.mem_of_getElem? (i := 731) (by decide +kernel), rfl⟩
theorem wk_630 : Wk (Cond.instanceMethod yX9_ball) := ⟨List.mem_of_getElem? (i := 732) (by decide +kernel), rfl⟩
theorem wk_631 : Wk (Cond.selects "BumperBalls" yX9_ball yX9_ball) := ⟨List.mem_of_getElem? (i := 733) (by decide +kernel), rfl⟩
theorem wk_632 : Wk (Cond.code yX9_ball cX9_ball 2 (some Jvm.ClassFile.FieldType.int)) := ⟨List.mem_of_getElem? (i := 734) (by decide +kernel), rfl⟩
theorem wk_633 : Wk (Cond.methodLink "BumperBallsLaw" 73 yX9_pin) := ⟨List.mem_of_getElem? (i := 735) (by decide +kernel), rfl⟩
theorem wk_634 : Wk (Cond.instanceMethod yX9_pin) := ⟨List.mem_of_getElem? (i := 736) (by decide +kernel), rfl⟩
theorem wk_635 : Wk (Cond.selects "BumperBalls" yX9_pin yX9_pin) := ⟨List.mem_of_getElem? (i := 737) (by decide +kernel), rfl⟩
theorem wk_636 : Wk (Cond.code yX9_pin cX9_pin 3 (some Jvm.ClassFile.FieldType.int)) := ⟨List.mem_of_getElem? (i := 738) (by decide +kernel), rfl⟩
theorem wk_637 : Wk (Cond.methodLink "BumperBalls" 216 yX9_isPin) := ⟨List.mem_of_getElem? (i := 739) (by decide +kernel), rfl⟩
theorem wk_639 : Wk (Cond.instanceMethod yX9_isPin) := ⟨List.mem_of_getElem? (i := 741) (by decide +kernel), rfl⟩
theorem wk_640 : Wk (Cond.code yX9_isPin cX9_isPin 2 (some Jvm.ClassFile.FieldType.boolean)) := ⟨List.mem_of_getElem? (i := 742) (by decide +kernel), rfl⟩
theorem wk_642 : Wk (Cond.methodLink "BumperBallsLaw" 77 yX9_ahead) := ⟨List.mem_of_getElem? (i := 744) (by decide +kernel), rfl⟩
theorem wk_643 : Wk (Cond.instanceMethod yX9_ahead) := ⟨List.mem_of_getElem? (i := 745) (by decide +kernel), rfl⟩
theorem wk_644 : Wk (Cond.selects "BumperBalls" yX9_ahead yX9_ahead) := ⟨List.mem_of_getElem? (i := 746) (by decide +kernel), rfl⟩
theorem wk_645 : Wk (Cond.code yX9_ahead cX9_ahead 3 (some Jvm.ClassFile.FieldType.int)) := ⟨List.mem_of_getElem? (i := 747) (by decide +kernel), rfl⟩
theorem wk_649 : Wk (Cond.instanceMethod yX4_run) := ⟨List.mem_of_getElem? (i := 751) (by decide +kernel), rfl⟩
theorem wk_650 : Wk (Cond.code yX4_run cX4_run 4 none) := ⟨List.mem_of_getElem? (i := 752) (by decide +kernel), rfl⟩
theorem wk_651 : Wk (Cond.methodLink "BumperBalls$Play" 54 yX4_step) := ⟨List.mem_of_getElem? (i := 753) (by decide +kernel), rfl⟩
theorem wk_652 : Wk (Cond.constant "BumperBalls" 240 (-1000000)) := ⟨List.mem_of_getElem? (i := 754) (by decide +kernel), rfl⟩
theorem wk_653 : Wk (Cond.methodLink "BumperBallsLaw" 81 yX9_lasts) := ⟨List.mem_of_getElem? (i := 755) (by decide +kernel), rfl⟩
theorem wk_654 : Wk (Cond.instanceMethod yX9_lasts) := ⟨List.mem_of_getElem? (i := 756) (by decide +kernel), rfl⟩
theorem wk_655 : Wk (Cond.selects "BumperBalls" yX9_lasts yX9_lasts) := ⟨List.mem_of_getElem? (i := 757) (by decide +kernel), rfl⟩
theorem wk_656 : Wk (Cond.code yX9_lasts cX9_lasts 2 (some Jvm.ClassFile.FieldType.int)) := ⟨List.mem_of_getElem? (i := 758) (by decide +kernel), rfl⟩
theorem wk_657 : Wk (Cond.methodLink "BumperBalls" 241 yX9_stepsTillLost) := ⟨List.mem_of_getElem? (i := 759) (by decide +kernel), rfl⟩
theorem wk_659 : Wk (Cond.instanceMethod yX9_stepsTillLost) := ⟨List.mem_of_getElem? (i := 761) (by decide +kernel), rfl⟩
theorem wk_660 : Wk (Cond.code yX9_stepsTillLost cX9_stepsTillLost 2 (some Jvm.ClassFile.FieldType.int)) := ⟨List.mem_of_getElem? (i := 762) (by decide +kernel), rfl⟩
theorem wk_661 : Wk (Cond.methodLink "BumperBalls" 245 yX9_stepsTillAgain) := ⟨List.mem_of_getElem? (i := 763) (by decide +kernel), rfl⟩
theorem wk_663 : Wk (Cond.instanceMethod yX9_stepsTillAgain) := ⟨List.mem_of_getElem? (i := 765) (by decide +kernel), rfl⟩
theorem wk_664 : Wk (Cond.code yX9_stepsTillAgain cX9_stepsTillAgain 2 (some Jvm.ClassFile.FieldType.int)) := ⟨List.mem_of_getElem? (i := 766) (by decide +kernel), rfl⟩
theorem wk_667 : Wk (Cond.instanceMethod yX4_isAs) := ⟨List.mem_of_getElem? (i := 769) (by decide +kernel), rfl⟩
theorem wk_668 : Wk (Cond.code yX4_isAs cX4_isAs 2 (some Jvm.ClassFile.FieldType.boolean)) := ⟨List.mem_of_getElem? (i := 770) (by decide +kernel), rfl⟩
theorem wk_669 : Wk (Cond.methodLink "BumperBallsLaw" 85 yX9_richest) := ⟨List.mem_of_getElem? (i := 771) (by decide +kernel), rfl⟩
theorem wk_670 : Wk (Cond.instanceMethod yX9_richest) := ⟨List.mem_of_getElem? (i := 772) (by decide +kernel), rfl⟩
theorem wk_671 : Wk (Cond.selects "BumperBalls" yX9_richest yX9_richest) := ⟨List.mem_of_getElem? (i := 773) (by decide +kernel), rfl⟩
theorem wk_672 : Wk (Cond.code yX9_richest cX9_richest 7 (some Jvm.ClassFile.FieldType.int)) := ⟨List.mem_of_getElem? (i := 774) (by decide +kernel), rfl⟩
theorem wk_673 : Wk (Cond.methodLink "BumperBalls" 248 yX9_broughtBy) := ⟨List.mem_of_getElem? (i := 775) (by decide +kernel), rfl⟩
theorem wk_675 : Wk (Cond.instanceMethod yX9_broughtBy) := ⟨List.mem_of_getElem? (i := 777) (by decide +kernel), rfl⟩
theorem wk_676 : Wk (Cond.code yX9_broughtBy cX9_broughtBy 3 (some Jvm.ClassFile.FieldType.int)) := ⟨List.mem_of_getElem? (i := 778) (by decide +kernel), rfl⟩
theorem wk_677 : Wk (Cond.methodLink "BumperBallsLaw" 89 yX9_nudged) := ⟨List.mem_of_getElem? (i := 779) (by decide +kernel), rfl⟩
theorem wk_678 : Wk (Cond.instanceMethod yX9_nudged) := ⟨List.mem_of_getElem? (i := 780) (by decide +kernel), rfl⟩
theorem wk_679 : Wk (Cond.selects "BumperBalls" yX9_nudged yX9_nudged) := ⟨List.mem_of_getElem? (i := 781) (by decide +kernel), rfl⟩
theorem wk_680 : Wk (Cond.code yX9_nudged cX9_nudged 3 (some Jvm.ClassFile.FieldType.int)) := ⟨List.mem_of_getElem? (i := 782) (by decide +kernel), rfl⟩
theorem wk_683 : Wk (Cond.instanceMethod yX6_walk) := ⟨List.mem_of_getElem? (i := 785) (by decide +kernel), rfl⟩
theorem wk_684 : Wk (Cond.code yX6_walk cX6_walk 9 none) := ⟨List.mem_of_getElem? (i := 786) (by decide +kernel), rfl⟩
theorem wk_685 : Wk (Cond.methodLink "BumperBalls$Search" 40 yX6_makeRoom) := ⟨List.mem_of_getElem? (i := 787) (by decide +kernel), rfl⟩
theorem wk_687 : Wk (Cond.instanceMethod yX6_makeRoom) := ⟨List.mem_of_getElem? (i := 789) (by decide +kernel), rfl⟩
theorem wk_688 : Wk (Cond.code yX6_makeRoom cX6_makeRoom 3 none) := ⟨List.mem_of_getElem? (i := 790) (by decide +kernel), rfl⟩
theorem wk_689 : Wk (Cond.methodLink "BumperBalls$Search" 64 yJ9_min_7cf53) := ⟨List.mem_of_getElem? (i := 791) (by decide +kernel), rfl⟩
theorem wk_690 : Wk (Cond.static yJ9_min_7cf53) := ⟨List.mem_of_getElem? (i := 792) (by decide +kernel), rfl⟩
theorem wk_691 : Wk (Cond.code yJ9_min_7cf53 cJ9_min_7cf53 2 (some Jvm.ClassFile.FieldType.int)) := ⟨List.mem_of_getElem? (i := 793) (by decide +kernel), rfl⟩
theorem wk_694 : Wk (Cond.instanceMethod yX3_clear) := ⟨List.mem_of_getElem? (i := 796) (by decide +kernel), rfl⟩
theorem wk_695 : Wk (Cond.code yX3_clear cX3_clear 2 none) := ⟨List.mem_of_getElem? (i := 797) (by decide +kernel), rfl⟩
theorem wk_698 : Wk (Cond.instanceMethod yX3_reach) := ⟨List.mem_of_getElem? (i := 800) (by decide +kernel), rfl⟩
theorem wk_699 : Wk (Cond.code yX3_reach cX3_reach 4 none) := ⟨List.mem_of_getElem? (i := 801) (by decide +kernel), rfl⟩
theorem wk_701 : Wk (Cond.methodLink "BumperBalls$Layer" 37 yJ9_min_7cf53) := ⟨List.mem_of_getElem? (i := 803) (by decide +kernel), rfl⟩
theorem wk_702 : Wk (Cond.methodLink "BumperBalls$Search" 60 yX6_goOn) := ⟨List.mem_of_getElem? (i := 804) (by decide +kernel), rfl⟩
theorem wk_704 : Wk (Cond.instanceMethod yX6_goOn) := ⟨List.mem_of_getElem? (i := 806) (by decide +kernel), rfl⟩
theorem wk_705 : Wk (Cond.code yX6_goOn cX6_goOn 6 none) := ⟨List.mem_of_getElem? (i := 807) (by decide +kernel), rfl⟩
theorem wk_709 : Wk (Cond.methodLink "BumperBalls$Search" 90 yX6_fewer) := ⟨List.mem_of_getElem? (i := 811) (by decide +kernel), rfl⟩
theorem wk_710 : Wk (Cond.static yX6_fewer) := ⟨List.mem_of_getElem? (i := 812) (by decide +kernel), rfl⟩
theorem wk_711 : Wk (Cond.code yX6_fewer cX6_fewer 2 (some Jvm.ClassFile.FieldType.int)) := ⟨List.mem_of_getElem? (i := 813) (by decide +kernel), rfl⟩
theorem wk_712 : Wk (Cond.methodLink "BumperBallsLaw" 93 yX9_kept) := ⟨List.mem_of_getElem? (i := 814) (by decide +kernel), rfl⟩
theorem wk_713 : Wk (Cond.instanceMethod yX9_kept) := ⟨List.mem_of_getElem? (i := 815) (by decide +kernel), rfl⟩
theorem wk_714 : Wk (Cond.selects "BumperBalls" yX9_kept yX9_kept) := ⟨List.mem_of_getElem? (i := 816) (by decide +kernel), rfl⟩
theorem wk_715 : Wk (Cond.code yX9_kept cX9_kept 2 (some Jvm.ClassFile.FieldType.int)) := ⟨List.mem_of_getElem? (i := 817) (by decide +kernel), rfl⟩
theorem wk_718 : Wk (Cond.instanceMethod yX6_fewestStaying) := ⟨List.mem_of_getElem? (i := 820) (by decide +kernel), rfl⟩
theorem wk_719 : Wk (Cond.code yX6_fewestStaying cX6_fewestStaying 3 (some Jvm.ClassFile.FieldType.int)) := ⟨List.mem_of_getElem? (i := 821) (by decide +kernel), rfl⟩
theorem wk_720 : Wk (Cond.methodLink "BumperBallsLaw" 97 yX9_heard) := ⟨List.mem_of_getElem? (i := 822) (by decide +kernel), rfl⟩
theorem wk_721 : Wk (Cond.instanceMethod yX9_heard) := ⟨List.mem_of_getElem? (i := 823) (by decide +kernel), rfl⟩
theorem wk_722 : Wk (Cond.selects "BumperBalls" yX9_heard yX9_heard) := ⟨List.mem_of_getElem? (i := 824) (by decide +kernel), rfl⟩
theorem wk_723 : Wk (Cond.code yX9_heard cX9_heard 8 (some Jvm.ClassFile.FieldType.int)) := ⟨List.mem_of_getElem? (i := 825) (by decide +kernel), rfl⟩
theorem wk_726 : Wk (Cond.instanceMethod yX5_tellsLetters) := ⟨List.mem_of_getElem? (i := 828) (by decide +kernel), rfl⟩
theorem wk_727 : Wk (Cond.code yX5_tellsLetters cX5_tellsLetters 5 (some Jvm.ClassFile.FieldType.boolean)) := ⟨List.mem_of_getElem? (i := 829) (by decide +kernel), rfl⟩
theorem wk_729 : Wk (Cond.methodLink "BumperBalls" 265 yX9_isHeard) := ⟨List.mem_of_getElem? (i := 831) (by decide +kernel), rfl⟩
theorem wk_731 : Wk (Cond.instanceMethod yX9_isHeard) := ⟨List.mem_of_getElem? (i := 833) (by decide +kernel), rfl⟩
theorem wk_732 : Wk (Cond.code yX9_isHeard cX9_isHeard 7 (some Jvm.ClassFile.FieldType.boolean)) := ⟨List.mem_of_getElem? (i := 834) (by decide +kernel), rfl⟩
theorem wk_733 : Wk (Cond.methodLink "BumperBallsLaw" 102 yX9_image) := ⟨List.mem_of_getElem? (i := 835) (by decide +kernel), rfl⟩
theorem wk_734 : Wk (Cond.instanceMethod yX9_image) := ⟨List.mem_of_getElem? (i := 836) (by decide +kernel), rfl⟩
theorem wk_735 : Wk (Cond.selects "BumperBalls" yX9_image yX9_image) := ⟨List.mem_of_getElem? (i := 837) (by decide +kernel), rfl⟩
theorem wk_736 : Wk (Cond.code yX9_image cX9_image 2 (some Jvm.ClassFile.FieldType.int)) := ⟨List.mem_of_getElem? (i := 838) (by decide +kernel), rfl⟩
theorem wk_739 : Wk (Cond.instanceMethod yX2_keep) := ⟨List.mem_of_getElem? (i := 841) (by decide +kernel), rfl⟩
theorem wk_740 : Wk (Cond.code yX2_keep cX2_keep 3 none) := ⟨List.mem_of_getElem? (i := 842) (by decide +kernel), rfl⟩
theorem wk_743 : Wk (Cond.methodLink "BumperBallsLaw" 106 yX9_restore) := ⟨List.mem_of_getElem? (i := 845) (by decide +kernel), rfl⟩
theorem wk_744 : Wk (Cond.instanceMethod yX9_restore) := ⟨List.mem_of_getElem? (i := 846) (by decide +kernel), rfl⟩
theorem wk_745 : Wk (Cond.selects "BumperBalls" yX9_restore yX9_restore) := ⟨List.mem_of_getElem? (i := 847) (by decide +kernel), rfl⟩
theorem wk_746 : Wk (Cond.code yX9_restore cX9_restore 2 (some Jvm.ClassFile.FieldType.int)) := ⟨List.mem_of_getElem? (i := 848) (by decide +kernel), rfl⟩
theorem wk_747 : Wk (Cond.methodLink "BumperBallsLaw" 110 yX9_kind) := ⟨List.mem_of_getElem? (i := 849) (by decide +kernel), rfl⟩
theorem wk_748 : Wk (Cond.instanceMethod yX9_kind) := ⟨List.mem_of_getElem? (i := 850) (by decide +kernel), rfl⟩
theorem wk_749 : Wk (Cond.selects "BumperBalls" yX9_kind yX9_kind) := ⟨List.mem_of_getElem? (i := 851) (by decide +kernel), rfl⟩
theorem wk_750 : Wk (Cond.code yX9_kind cX9_kind 2 (some Jvm.ClassFile.FieldType.int)) := ⟨List.mem_of_getElem? (i := 852) (by decide +kernel), rfl⟩
theorem wk_751 : Wk (Cond.methodLink "BumperBallsLaw" 114 yX9_as) := ⟨List.mem_of_getElem? (i := 853) (by decide +kernel), rfl⟩
theorem wk_752 : Wk (Cond.instanceMethod yX9_as) := ⟨List.mem_of_getElem? (i := 854) (by decide +kernel), rfl⟩
theorem wk_753 : Wk (Cond.selects "BumperBalls" yX9_as yX9_as) := ⟨List.mem_of_getElem? (i := 855) (by decide +kernel), rfl⟩
theorem wk_754 : Wk (Cond.code yX9_as cX9_as 3 (some Jvm.ClassFile.FieldType.int)) := ⟨List.mem_of_getElem? (i := 856) (by decide +kernel), rfl⟩
theorem wk_755 : Wk (Cond.methodLink "BumperBalls" 280 yX9_isOfKind) := ⟨List.mem_of_getElem? (i := 857) (by decide +kernel), rfl⟩
theorem wk_756 : Wk (Cond.static yX9_isOfKind) := ⟨List.mem_of_getElem? (i := 858) (by decide +kernel), rfl⟩
theorem wk_757 : Wk (Cond.code yX9_isOfKind cX9_isOfKind 4 (some Jvm.ClassFile.FieldType.boolean)) := ⟨List.mem_of_getElem? (i := 859) (by decide +kernel), rfl⟩
theorem wk_758 : Wk (Cond.fieldLink "BumperBalls" 300 "BumperBalls" "NEAREST" "[I") := ⟨List.mem_of_getElem? (i := 860) (by decide +kernel), rfl⟩
theorem wk_760 : Wk (Cond.methodLink "BumperBallsLaw" 118 yX9_ask) := ⟨List.mem_of_getElem? (i := 862) (by decide +kernel), rfl⟩
theorem wk_761 : Wk (Cond.instanceMethod yX9_ask) := ⟨List.mem_of_getElem? (i := 863) (by decide +kernel), rfl⟩
theorem wk_762 : Wk (Cond.selects "BumperBalls" yX9_ask yX9_ask) := ⟨List.mem_of_getElem? (i := 864) (by decide +kernel), rfl⟩
theorem wk_763 : Wk (Cond.code yX9_ask cX9_ask 3 (some Jvm.ClassFile.FieldType.int)) := ⟨List.mem_of_getElem? (i := 865) (by decide +kernel), rfl⟩
theorem wk_766 : Wk (Cond.instanceMethod yX1_begin) := ⟨List.mem_of_getElem? (i := 868) (by decide +kernel), rfl⟩
theorem wk_767 : Wk (Cond.code yX1_begin cX1_begin 4 none) := ⟨List.mem_of_getElem? (i := 869) (by decide +kernel), rfl⟩
theorem wk_770 : Wk (Cond.instanceMethod yX1_sizeAsked) := ⟨List.mem_of_getElem? (i := 872) (by decide +kernel), rfl⟩
theorem wk_771 : Wk (Cond.code yX1_sizeAsked cX1_sizeAsked 1 (some Jvm.ClassFile.FieldType.int)) := ⟨List.mem_of_getElem? (i := 873) (by decide +kernel), rfl⟩
theorem wk_773 : Wk (Cond.methodLink "BumperBalls$Asks" 46 yX1_sizeOfBumper) := ⟨List.mem_of_getElem? (i := 875) (by decide +kernel), rfl⟩
theorem wk_775 : Wk (Cond.instanceMethod yX1_sizeOfBumper) := ⟨List.mem_of_getElem? (i := 877) (by decide +kernel), rfl⟩
theorem wk_776 : Wk (Cond.code yX1_sizeOfBumper cX1_sizeOfBumper 2 (some Jvm.ClassFile.FieldType.int)) := ⟨List.mem_of_getElem? (i := 878) (by decide +kernel), rfl⟩
theorem wk_777 : Wk (Cond.methodLink "BumperBalls$Asks" 59 yX1_leave) := ⟨List.mem_of_getElem? (i := 879) (by decide +kernel), rfl⟩
theorem wk_779 : Wk (Cond.instanceMethod yX1_leave) := ⟨List.mem_of_getElem? (i := 881) (by decide +kernel), rfl⟩
theorem wk_780 : Wk (Cond.code yX1_leave cX1_leave 2 none) := ⟨List.mem_of_getElem? (i := 882) (by decide +kernel), rfl⟩
theorem wk_781 : Wk (Cond.methodLink "BumperBalls$Asks" 53 yX1_markOfBumper) := ⟨List.mem_of_getElem? (i := 883) (by decide +kernel), rfl⟩
theorem wk_783 : Wk (Cond.instanceMethod yX1_markOfBumper) := ⟨List.mem_of_getElem? (i := 885) (by decide +kernel), rfl⟩
theorem wk_784 : Wk (Cond.code yX1_markOfBumper cX1_markOfBumper 2 (some Jvm.ClassFile.FieldType.int)) := ⟨List.mem_of_getElem? (i := 886) (by decide +kernel), rfl⟩
theorem wk_785 : Wk (Cond.methodLink "BumperBalls$Asks" 50 yX1_sizeOfLamp) := ⟨List.mem_of_getElem? (i := 887) (by decide +kernel), rfl⟩
theorem wk_787 : Wk (Cond.instanceMethod yX1_sizeOfLamp) := ⟨List.mem_of_getElem? (i := 889) (by decide +kernel), rfl⟩
theorem wk_788 : Wk (Cond.code yX1_sizeOfLamp cX1_sizeOfLamp 2 (some Jvm.ClassFile.FieldType.int)) := ⟨List.mem_of_getElem? (i := 890) (by decide +kernel), rfl⟩
theorem wk_791 : Wk (Cond.instanceMethod yX1_markAsked) := ⟨List.mem_of_getElem? (i := 893) (by decide +kernel), rfl⟩
theorem wk_792 : Wk (Cond.code yX1_markAsked cX1_markAsked 1 (some Jvm.ClassFile.FieldType.int)) := ⟨List.mem_of_getElem? (i := 894) (by decide +kernel), rfl⟩
theorem wk_793 : Wk (Cond.methodLink "BumperBalls$Asks" 56 yX1_markOfLamp) := ⟨List.mem_of_getElem? (i := 895) (by decide +kernel), rfl⟩
theorem wk_795 : Wk (Cond.instanceMethod yX1_markOfLamp) := ⟨List.mem_of_getElem? (i := 897) (by decide +kernel), rfl⟩
theorem wk_796 : Wk (Cond.code yX1_markOfLamp cX1_markOfLamp 1 (some Jvm.ClassFile.FieldType.int)) := ⟨List.mem_of_getElem? (i := 898) (by decide +kernel), rfl⟩
theorem wk_797 : Wk (Cond.methodLink "BumperBallsLaw" 122 yX9_trace) := ⟨List.mem_of_getElem? (i := 899) (by decide +kernel), rfl⟩
theorem wk_798 : Wk (Cond.instanceMethod yX9_trace) := ⟨List.mem_of_getElem? (i := 900) (by decide +kernel), rfl⟩
theorem wk_799 : Wk (Cond.selects "BumperBalls" yX9_trace yX9_trace) := ⟨List.mem_of_getElem? (i := 901) (by decide +kernel), rfl⟩
theorem wk_800 : Wk (Cond.code yX9_trace cX9_trace 2 (some Jvm.ClassFile.FieldType.int)) := ⟨List.mem_of_getElem? (i := 902) (by decide +kernel), rfl⟩
theorem wk_801 : Wk (Cond.methodLink "BumperBallsLaw" 126 yX9_count) := ⟨List.mem_of_getElem? (i := 903) (by decide +kernel), rfl⟩
theorem wk_802 : Wk (Cond.instanceMethod yX9_count) := ⟨List.mem_of_getElem? (i := 904) (by decide +kernel), rfl⟩
theorem wk_803 : Wk (Cond.selects "BumperBalls" yX9_count yX9_count) := ⟨List.mem_of_getElem? (i := 905) (by decide +kernel), rfl⟩
theorem wk_804 : Wk (Cond.code yX9_count cX9_count 2 (some Jvm.ClassFile.FieldType.int)) := ⟨List.mem_of_getElem? (i := 906) (by decide +kernel), rfl⟩
theorem wk_807 : Wk (Cond.instanceMethod yX5_there) := ⟨List.mem_of_getElem? (i := 909) (by decide +kernel), rfl⟩
theorem wk_808 : Wk (Cond.code yX5_there cX5_there 3 (some Jvm.ClassFile.FieldType.int)) := ⟨List.mem_of_getElem? (i := 910) (by decide +kernel), rfl⟩
theorem wk_809 : Wk (Cond.methodLink "BumperBalls$Rows" 27 yX5_isMissing) := ⟨List.mem_of_getElem? (i := 911) (by decide +kernel), rfl⟩
theorem wk_810 : Wk (Cond.methodLink "BumperBallsLaw" 130 yX9_status) := ⟨List.mem_of_getElem? (i := 912) (by decide +kernel), rfl⟩
theorem wk_811 : Wk (Cond.instanceMethod yX9_status) := ⟨List.mem_of_getElem? (i := 913) (by decide +kernel), rfl⟩
theorem wk_812 : Wk (Cond.selects "BumperBalls" yX9_status yX9_status) := ⟨List.mem_of_getElem? (i := 914) (by decide +kernel), rfl⟩
theorem wk_813 : Wk (Cond.code yX9_status cX9_status 1 (some Jvm.ClassFile.FieldType.int)) := ⟨List.mem_of_getElem? (i := 915) (by decide +kernel), rfl⟩
theorem wk_814 : Wk (Cond.classLink "BumperBallsLaw" 10 "BumperBallsModel") := ⟨List.mem_of_getElem? (i := 916) (by decide +kernel), rfl⟩
theorem wk_815 : Wk (Cond.instantiable "BumperBallsModel" 22) := ⟨List.mem_of_getElem? (i := 917) (by decide +kernel), rfl⟩
theorem wk_816 : Wk (Cond.methodLink "BumperBallsLaw" 12 yX10_init) := ⟨List.mem_of_getElem? (i := 918) (by decide +kernel), rfl⟩
theorem wk_817 : Wk (Cond.instanceMethod yX10_init) := ⟨List.mem_of_getElem? (i := 919) (by decide +kernel), rfl⟩
theorem wk_818 : Wk (Cond.code yX10_init cX10_init 1 none) := ⟨List.mem_of_getElem? (i := 920) (by decide +kernel), rfl⟩
theorem wk_819 : Wk (Cond.methodLink "BumperBallsModel" 1 ⟨"java/lang/Object", "<init>", "()V"⟩) := ⟨List.mem_of_getElem? (i := 921) (by decide +kernel), rfl⟩
theorem wk_820 : Wk (Cond.constant "BumperBallsModel" 19 (-1000000)) := ⟨List.mem_of_getElem? (i := 922) (by decide +kernel), rfl⟩
theorem wk_821 : Wk (Cond.fieldLink "BumperBallsModel" 7 "BumperBallsModel" "row" "[I") := ⟨List.mem_of_getElem? (i := 923) (by decide +kernel), rfl⟩
theorem wk_822 : Wk (Cond.fieldLink "BumperBallsModel" 13 "BumperBallsModel" "pasts" "[I") := ⟨List.mem_of_getElem? (i := 924) (by decide +kernel), rfl⟩
theorem wk_823 : Wk (Cond.fieldLink "BumperBallsModel" 158 "BumperBallsModel" "pastMany" "I") := ⟨List.mem_of_getElem? (i := 925) (by decide +kernel), rfl⟩
theorem wk_824 : Wk (Cond.fieldLink "BumperBallsModel" 16 "BumperBallsModel" "tape" "[I") := ⟨List.mem_of_getElem? (i := 926) (by decide +kernel), rfl⟩
theorem wk_825 : Wk (Cond.fieldLink "BumperBallsModel" 72 "BumperBallsModel" "taped" "I") := ⟨List.mem_of_getElem? (i := 927) (by decide +kernel), rfl⟩
theorem wk_826 : Wk (Cond.fieldLink "BumperBallsModel" 103 "BumperBallsModel" "fault" "I") := ⟨List.mem_of_getElem? (i := 928) (by decide +kernel), rfl⟩
theorem wk_827 : Wk (Cond.fieldLink "BumperBallsModel" 41 "BumperBallsModel" "status" "I") := ⟨List.mem_of_getElem? (i := 929) (by decide +kernel), rfl⟩
theorem wk_828 : Wk (Cond.fieldLink "BumperBallsModel" 20 "BumperBallsModel" "lanes" "[I") := ⟨List.mem_of_getElem? (i := 930) (by decide +kernel), rfl⟩
theorem wk_829 : Wk (Cond.fieldLink "BumperBallsModel" 23 "BumperBallsModel" "sizes" "[I") := ⟨List.mem_of_getElem? (i := 931) (by decide +kernel), rfl⟩
theorem wk_830 : Wk (Cond.fieldLink "BumperBallsModel" 26 "BumperBallsModel" "items" "[I") := ⟨List.mem_of_getElem? (i := 932) (by decide +kernel), rfl⟩
theorem wk_831 : Wk (Cond.fieldLink "BumperBallsModel" 29 "BumperBallsModel" "traces" "[I") := ⟨List.mem_of_getElem? (i := 933) (by decide +kernel), rfl⟩
theorem wk_832 : Wk (Cond.fieldLink "BumperBallsModel" 231 "BumperBallsModel" "traceMany" "I") := ⟨List.mem_of_getElem? (i := 934) (by decide +kernel), rfl⟩
theorem wk_833 : Wk (Cond.fieldLink "BumperBallsModel" 78 "BumperBallsModel" "at" "I") := ⟨List.mem_of_getElem? (i := 935) (by decide +kernel), rfl⟩
theorem wk_834 : Wk (Cond.fieldLink "BumperBallsModel" 81 "BumperBallsModel" "place" "I") := ⟨List.mem_of_getElem? (i := 936) (by decide +kernel), rfl⟩
theorem wk_835 : Wk (Cond.fieldLink "BumperBallsModel" 87 "BumperBallsModel" "end" "I") := ⟨List.mem_of_getElem? (i := 937) (by decide +kernel), rfl⟩
theorem wk_836 : Wk (Cond.fieldLink "BumperBallsModel" 125 "BumperBallsModel" "readTilt" "I") := ⟨List.mem_of_getElem? (i := 938) (by decide +kernel), rfl⟩
theorem wk_837 : Wk (Cond.fieldLink "BumperBallsModel" 32 "BumperBallsModel" "readPins" "[I") := ⟨List.mem_of_getElem? (i := 939) (by decide +kernel), rfl⟩
theorem wk_838 : Wk (Cond.fieldLink "BumperBallsModel" 116 "BumperBallsModel" "readMany" "I") := ⟨List.mem_of_getElem? (i := 940) (by decide +kernel), rfl⟩
theorem wk_839 : Wk (Cond.fieldLink "BumperBallsModel" 139 "BumperBallsModel" "readCell" "I") := ⟨List.mem_of_getElem? (i := 941) (by decide +kernel), rfl⟩
theorem wk_840 : Wk (Cond.fieldLink "BumperBallsModel" 142 "BumperBallsModel" "readWay" "I") := ⟨List.mem_of_getElem? (i := 942) (by decide +kernel), rfl⟩
theorem wk_841 : Wk (Cond.fieldLink "BumperBallsModel" 35 "BumperBallsModel" "fewest" "[I") := ⟨List.mem_of_getElem? (i := 943) (by decide +kernel), rfl⟩
theorem wk_842 : Wk (Cond.fieldLink "BumperBallsModel" 38 "BumperBallsModel" "nexts" "[I") := ⟨List.mem_of_getElem? (i := 944) (by decide +kernel), rfl⟩
theorem wk_888 : Wk (Cond.methodLink "BumperBallsLaw" 17 yX10_row) := ⟨List.mem_of_getElem? (i := 990) (by decide +kernel), rfl⟩
theorem wk_889 : Wk (Cond.instanceMethod yX10_row) := ⟨List.mem_of_getElem? (i := 991) (by decide +kernel), rfl⟩
theorem wk_890 : Wk (Cond.selects "BumperBallsModel" yX10_row yX10_row) := ⟨List.mem_of_getElem? (i := 992) (by decide +kernel), rfl⟩
theorem wk_891 : Wk (Cond.code yX10_row cX10_row 5 (some Jvm.ClassFile.FieldType.int)) := ⟨List.mem_of_getElem? (i := 993) (by decide +kernel), rfl⟩
theorem wk_892 : Wk (Cond.methodLink "BumperBallsModel" 52 yX10_isRow) := ⟨List.mem_of_getElem? (i := 994) (by decide +kernel), rfl⟩
theorem wk_893 : Wk (Cond.static yX10_isRow) := ⟨List.mem_of_getElem? (i := 995) (by decide +kernel), rfl⟩
theorem wk_894 : Wk (Cond.code yX10_isRow cX10_isRow 1 (some Jvm.ClassFile.FieldType.boolean)) := ⟨List.mem_of_getElem? (i := 996) (by decide +kernel), rfl⟩
theorem wk_895 : Wk (Cond.constantLong "BumperBallsModel" 46 (7)) := ⟨List.mem_of_getElem? (i := 997) (by decide +kernel), rfl⟩
theorem wk_896 : Wk (Cond.methodLink "BumperBallsModel" 48 yX10_in) := ⟨List.mem_of_getElem? (i := 998) (by decide +kernel), rfl⟩
theorem wk_897 : Wk (Cond.static yX10_in) := ⟨List.mem_of_getElem? (i := 999) (by decide +kernel), rfl⟩
theorem wk_898 : Wk (Cond.code yX10_in cX10_in 6 (some Jvm.ClassFile.FieldType.boolean)) := ⟨List.mem_of_getElem? (i := 1000) (by decide +kernel), rfl⟩
theorem wk_899 : Wk (Cond.constantLong "BumperBallsModel" 56 (2)) := ⟨List.mem_of_getElem? (i := 1001) (by decide +kernel), rfl⟩
theorem wk_900 : Wk (Cond.constant "BumperBallsModel" 58 (-1000001)) := ⟨List.mem_of_getElem? (i := 1002) (by decide +kernel), rfl⟩
theorem wk_901 : Wk (Cond.methodLink "BumperBallsModel" 59 yX10_find) := ⟨List.mem_of_getElem? (i := 1003) (by decide +kernel), rfl⟩
theorem wk_903 : Wk (Cond.instanceMethod yX10_find) := ⟨List.mem_of_getElem? (i := 1005) (by decide +kernel), rfl⟩
theorem wk_904 : Wk (Cond.code yX10_find cX10_find 2 (some Jvm.ClassFile.FieldType.int)) := ⟨List.mem_of_getElem? (i := 1006) (by decide +kernel), rfl⟩
theorem wk_905 : Wk (Cond.constant "BumperBallsModel" 45 (-1000010)) := ⟨List.mem_of_getElem? (i := 1007) (by decide +kernel), rfl⟩
theorem wk_906 : Wk (Cond.methodLink "BumperBallsModel" 63 yX10_give) := ⟨List.mem_of_getElem? (i := 1008) (by decide +kernel), rfl⟩
theorem wk_908 : Wk (Cond.instanceMethod yX10_give) := ⟨List.mem_of_getElem? (i := 1010) (by decide +kernel), rfl⟩
theorem wk_909 : Wk (Cond.code yX10_give cX10_give 2 (some Jvm.ClassFile.FieldType.int)) := ⟨List.mem_of_getElem? (i := 1011) (by decide +kernel), rfl⟩
theorem wk_910 : Wk (Cond.methodLink "BumperBallsLaw" 21 yX10_set) := ⟨List.mem_of_getElem? (i := 1012) (by decide +kernel), rfl⟩
theorem wk_911 : Wk (Cond.instanceMethod yX10_set) := ⟨List.mem_of_getElem? (i := 1013) (by decide +kernel), rfl⟩
theorem wk_912 : Wk (Cond.selects "BumperBallsModel" yX10_set yX10_set) := ⟨List.mem_of_getElem? (i := 1014) (by decide +kernel), rfl⟩
theorem wk_913 : Wk (Cond.code yX10_set cX10_set 4 (some Jvm.ClassFile.FieldType.int)) := ⟨List.mem_of_getElem? (i := 1015) (by decide +kernel), rfl⟩
theorem wk_914 : Wk (Cond.methodLink "BumperBallsLaw" 26 yX10_copy) := ⟨List.mem_of_getElem? (i := 1016) (by decide +kernel), rfl⟩
theorem wk_915 : Wk (Cond.instanceMethod yX10_copy) := ⟨List.mem_of_getElem? (i := 1017) (by decide +kernel), rfl⟩
theorem wk_916 : Wk (Cond.selects "BumperBallsModel" yX10_copy yX10_copy) := ⟨List.mem_of_getElem? (i := 1018) (by decide +kernel), rfl⟩
theorem wk_917 : Wk (Cond.code yX10_copy cX10_copy 8 (some Jvm.ClassFile.FieldType.int)) := ⟨List.mem_of_getElem? (i := 1019) (by decide +kernel), rfl⟩
theorem wk_918 : Wk (Cond.methodLink "BumperBallsModel" 66 yX10_isSpan) := ⟨List.mem_of_getElem? (i := 1020) (by decide +kernel), rfl⟩
theorem wk_920 : Wk (Cond.instanceMethod yX10_isSpan) := ⟨List.mem_of_getElem? (i := 1022) (by decide +kernel), rfl⟩
theorem wk_921 : Wk (Cond.code yX10_isSpan cX10_isSpan 4 (some Jvm.ClassFile.FieldType.boolean)) := ⟨List.mem_of_getElem? (i := 1023) (by decide +kernel), rfl⟩
theorem wk_922 : Wk (Cond.methodLink "BumperBallsLaw" 31 yX10_drop) := ⟨List.mem_of_getElem? (i := 1024) (by decide +kernel), rfl⟩
theorem wk_923 : Wk (Cond.instanceMethod yX10_drop) := ⟨List.mem_of_getElem? (i := 1025) (by decide +kernel), rfl⟩
theorem wk_924 : Wk (Cond.selects "BumperBallsModel" yX10_drop yX10_drop) := ⟨List.mem_of_getElem? (i := 1026) (by decide +kernel), rfl⟩
theorem wk_925 : Wk (Cond.code yX10_drop cX10_drop 2 (some Jvm.ClassFile.FieldType.int)) := ⟨List.mem_of_getElem? (i := 1027) (by decide +kernel), rfl⟩
theorem wk_926 : Wk (Cond.methodLink "BumperBallsLaw" 38 yX10_feed) := ⟨List.mem_of_getElem? (i := 1028) (by decide +kernel), rfl⟩
theorem wk_927 : Wk (Cond.instanceMethod yX10_feed) := ⟨List.mem_of_getElem? (i := 1029) (by decide +kernel), rfl⟩
theorem wk_928 : Wk (Cond.selects "BumperBallsModel" yX10_feed yX10_feed) := ⟨List.mem_of_getElem? (i := 1030) (by decide +kernel), rfl⟩
theorem wk_929 : Wk (Cond.code yX10_feed cX10_feed 5 (some Jvm.ClassFile.FieldType.int)) := ⟨List.mem_of_getElem? (i := 1031) (by decide +kernel), rfl⟩
theorem wk_930 : Wk (Cond.constantLong "BumperBallsModel" 70 (8)) := ⟨List.mem_of_getElem? (i := 1032) (by decide +kernel), rfl⟩
theorem wk_931 : Wk (Cond.constant "BumperBallsModel" 75 (-1000003)) := ⟨List.mem_of_getElem? (i := 1033) (by decide +kernel), rfl⟩
theorem wk_932 : Wk (Cond.constantLong "BumperBallsModel" 76 (255)) := ⟨List.mem_of_getElem? (i := 1034) (by decide +kernel), rfl⟩
theorem wk_933 : Wk (Cond.methodLink "BumperBallsLaw" 43 yX10_table) := ⟨List.mem_of_getElem? (i := 1035) (by decide +kernel), rfl⟩
theorem wk_934 : Wk (Cond.instanceMethod yX10_table) := ⟨List.mem_of_getElem? (i := 1036) (by decide +kernel), rfl⟩
theorem wk_935 : Wk (Cond.selects "BumperBallsModel" yX10_table yX10_table) := ⟨List.mem_of_getElem? (i := 1037) (by decide +kernel), rfl⟩
theorem wk_936 : Wk (Cond.code yX10_table cX10_table 4 (some Jvm.ClassFile.FieldType.int)) := ⟨List.mem_of_getElem? (i := 1038) (by decide +kernel), rfl⟩
theorem wk_937 : Wk (Cond.methodLink "BumperBallsModel" 154 yX10_readsAll) := ⟨List.mem_of_getElem? (i := 1039) (by decide +kernel), rfl⟩
theorem wk_939 : Wk (Cond.instanceMethod yX10_readsAll) := ⟨List.mem_of_getElem? (i := 1041) (by decide +kernel), rfl⟩
theorem wk_940 : Wk (Cond.code yX10_readsAll cX10_readsAll 1 (some Jvm.ClassFile.FieldType.boolean)) := ⟨List.mem_of_getElem? (i := 1042) (by decide +kernel), rfl⟩
theorem wk_941 : Wk (Cond.methodLink "BumperBallsModel" 110 yX10_token) := ⟨List.mem_of_getElem? (i := 1043) (by decide +kernel), rfl⟩
theorem wk_943 : Wk (Cond.instanceMethod yX10_token) := ⟨List.mem_of_getElem? (i := 1045) (by decide +kernel), rfl⟩
theorem wk_944 : Wk (Cond.code yX10_token cX10_token 1 none) := ⟨List.mem_of_getElem? (i := 1046) (by decide +kernel), rfl⟩
theorem wk_945 : Wk (Cond.methodLink "BumperBallsModel" 84 yX10_sort) := ⟨List.mem_of_getElem? (i := 1047) (by decide +kernel), rfl⟩
theorem wk_946 : Wk (Cond.static yX10_sort) := ⟨List.mem_of_getElem? (i := 1048) (by decide +kernel), rfl⟩
theorem wk_947 : Wk (Cond.code yX10_sort cX10_sort 1 (some Jvm.ClassFile.FieldType.int)) := ⟨List.mem_of_getElem? (i := 1049) (by decide +kernel), rfl⟩
theorem wk_948 : Wk (Cond.methodLink "BumperBallsModel" 145 yX10_readsLaw) := ⟨List.mem_of_getElem? (i := 1050) (by decide +kernel), rfl⟩
theorem wk_950 : Wk (Cond.instanceMethod yX10_readsLaw) := ⟨List.mem_of_getElem? (i := 1052) (by decide +kernel), rfl⟩
theorem wk_951 : Wk (Cond.code yX10_readsLaw cX10_readsLaw 1 (some Jvm.ClassFile.FieldType.boolean)) := ⟨List.mem_of_getElem? (i := 1053) (by decide +kernel), rfl⟩
theorem wk_952 : Wk (Cond.methodLink "BumperBallsModel" 92 yX10_isWord) := ⟨List.mem_of_getElem? (i := 1054) (by decide +kernel), rfl⟩
theorem wk_954 : Wk (Cond.instanceMethod yX10_isWord) := ⟨List.mem_of_getElem? (i := 1056) (by decide +kernel), rfl⟩
theorem wk_955 : Wk (Cond.code yX10_isWord cX10_isWord 5 (some Jvm.ClassFile.FieldType.boolean)) := ⟨List.mem_of_getElem? (i := 1057) (by decide +kernel), rfl⟩
theorem wk_956 : Wk (Cond.methodLink "BumperBallsModel" 119 yX10_number) := ⟨List.mem_of_getElem? (i := 1058) (by decide +kernel), rfl⟩
theorem wk_958 : Wk (Cond.instanceMethod yX10_number) := ⟨List.mem_of_getElem? (i := 1060) (by decide +kernel), rfl⟩
theorem wk_959 : Wk (Cond.code yX10_number cX10_number 4 (some Jvm.ClassFile.FieldType.int)) := ⟨List.mem_of_getElem? (i := 1061) (by decide +kernel), rfl⟩
theorem wk_960 : Wk (Cond.methodLink "BumperBallsModel" 106 yX10_numberHere) := ⟨List.mem_of_getElem? (i := 1062) (by decide +kernel), rfl⟩
theorem wk_962 : Wk (Cond.instanceMethod yX10_numberHere) := ⟨List.mem_of_getElem? (i := 1064) (by decide +kernel), rfl⟩
theorem wk_963 : Wk (Cond.code yX10_numberHere cX10_numberHere 5 (some Jvm.ClassFile.FieldType.int)) := ⟨List.mem_of_getElem? (i := 1065) (by decide +kernel), rfl⟩
theorem wk_964 : Wk (Cond.methodLink "BumperBallsModel" 128 yX10_readsSign) := ⟨List.mem_of_getElem? (i := 1066) (by decide +kernel), rfl⟩
theorem wk_966 : Wk (Cond.instanceMethod yX10_readsSign) := ⟨List.mem_of_getElem? (i := 1068) (by decide +kernel), rfl⟩
theorem wk_967 : Wk (Cond.code yX10_readsSign cX10_readsSign 1 (some Jvm.ClassFile.FieldType.boolean)) := ⟨List.mem_of_getElem? (i := 1069) (by decide +kernel), rfl⟩
theorem wk_968 : Wk (Cond.methodLink "BumperBallsModel" 113 yX10_isSign) := ⟨List.mem_of_getElem? (i := 1070) (by decide +kernel), rfl⟩
theorem wk_970 : Wk (Cond.instanceMethod yX10_isSign) := ⟨List.mem_of_getElem? (i := 1072) (by decide +kernel), rfl⟩
theorem wk_971 : Wk (Cond.code yX10_isSign cX10_isSign 1 (some Jvm.ClassFile.FieldType.boolean)) := ⟨List.mem_of_getElem? (i := 1073) (by decide +kernel), rfl⟩
theorem wk_972 : Wk (Cond.methodLink "BumperBallsModel" 148 yX10_readsPin) := ⟨List.mem_of_getElem? (i := 1074) (by decide +kernel), rfl⟩
theorem wk_974 : Wk (Cond.instanceMethod yX10_readsPin) := ⟨List.mem_of_getElem? (i := 1076) (by decide +kernel), rfl⟩
theorem wk_975 : Wk (Cond.code yX10_readsPin cX10_readsPin 5 (some Jvm.ClassFile.FieldType.boolean)) := ⟨List.mem_of_getElem? (i := 1077) (by decide +kernel), rfl⟩
theorem wk_976 : Wk (Cond.methodLink "BumperBallsModel" 131 yX10_sortOfWord) := ⟨List.mem_of_getElem? (i := 1078) (by decide +kernel), rfl⟩
theorem wk_978 : Wk (Cond.instanceMethod yX10_sortOfWord) := ⟨List.mem_of_getElem? (i := 1080) (by decide +kernel), rfl⟩
theorem wk_979 : Wk (Cond.code yX10_sortOfWord cX10_sortOfWord 1 (some Jvm.ClassFile.FieldType.int)) := ⟨List.mem_of_getElem? (i := 1081) (by decide +kernel), rfl⟩
theorem wk_980 : Wk (Cond.constant "BumperBallsModel" 91 (609760930)) := ⟨List.mem_of_getElem? (i := 1082) (by decide +kernel), rfl⟩
theorem wk_981 : Wk (Cond.constant "BumperBallsModel" 96 (609884332)) := ⟨List.mem_of_getElem? (i := 1083) (by decide +kernel), rfl⟩
theorem wk_982 : Wk (Cond.methodLink "BumperBallsModel" 97 yX10_isRighter) := ⟨List.mem_of_getElem? (i := 1084) (by decide +kernel), rfl⟩
theorem wk_984 : Wk (Cond.instanceMethod yX10_isRighter) := ⟨List.mem_of_getElem? (i := 1086) (by decide +kernel), rfl⟩
theorem wk_985 : Wk (Cond.code yX10_isRighter cX10_isRighter 3 (some Jvm.ClassFile.FieldType.boolean)) := ⟨List.mem_of_getElem? (i := 1087) (by decide +kernel), rfl⟩
theorem wk_986 : Wk (Cond.constant "BumperBallsModel" 90 (189013298)) := ⟨List.mem_of_getElem? (i := 1088) (by decide +kernel), rfl⟩
theorem wk_987 : Wk (Cond.constant "BumperBallsModel" 101 (537644)) := ⟨List.mem_of_getElem? (i := 1089) (by decide +kernel), rfl⟩
theorem wk_988 : Wk (Cond.constant "BumperBallsModel" 102 (184359)) := ⟨List.mem_of_getElem? (i := 1090) (by decide +kernel), rfl⟩
theorem wk_989 : Wk (Cond.methodLink "BumperBallsModel" 135 yX10_cell) := ⟨List.mem_of_getElem? (i := 1091) (by decide +kernel), rfl⟩
theorem wk_991 : Wk (Cond.instanceMethod yX10_cell) := ⟨List.mem_of_getElem? (i := 1093) (by decide +kernel), rfl⟩
theorem wk_992 : Wk (Cond.code yX10_cell cX10_cell 3 (some Jvm.ClassFile.FieldType.int)) := ⟨List.mem_of_getElem? (i := 1094) (by decide +kernel), rfl⟩
theorem wk_993 : Wk (Cond.methodLink "BumperBallsModel" 122 yX10_isPinRead) := ⟨List.mem_of_getElem? (i := 1095) (by decide +kernel), rfl⟩
theorem wk_995 : Wk (Cond.instanceMethod yX10_isPinRead) := ⟨List.mem_of_getElem? (i := 1097) (by decide +kernel), rfl⟩
theorem wk_996 : Wk (Cond.code yX10_isPinRead cX10_isPinRead 4 (some Jvm.ClassFile.FieldType.boolean)) := ⟨List.mem_of_getElem? (i := 1098) (by decide +kernel), rfl⟩
theorem wk_997 : Wk (Cond.methodLink "BumperBallsModel" 151 yX10_readsBall) := ⟨List.mem_of_getElem? (i := 1099) (by decide +kernel), rfl⟩
theorem wk_999 : Wk (Cond.instanceMethod yX10_readsBall) := ⟨List.mem_of_getElem? (i := 1101) (by decide +kernel), rfl⟩
theorem wk_1000 : Wk (Cond.code yX10_readsBall cX10_readsBall 1 (some Jvm.ClassFile.FieldType.boolean)) := ⟨List.mem_of_getElem? (i := 1102) (by decide +kernel), rfl⟩
theorem wk_1001 : Wk (Cond.constant "BumperBallsModel" 138 (405538)) := ⟨List.mem_of_getElem? (i := 1103) (by decide +kernel), rfl⟩
theorem wk_1002 : Wk (Cond.constant "BumperBallsModel" 157 (-1000100)) := ⟨List.mem_of_getElem? (i := 1104) (by decide +kernel), rfl⟩
theorem wk_1003 : Wk (Cond.methodLink "BumperBallsLaw" 47 yX10_fault) := ⟨List.mem_of_getElem? (i := 1105) (by decide +kernel), rfl⟩
theorem wk_1004 : Wk (Cond.instanceMethod yX10_fault) := ⟨List.mem_of_getElem? (i := 1106) (by decide +kernel), rfl⟩
theorem wk_1005 : Wk (Cond.selects "BumperBallsModel" yX10_fault yX10_fault) := ⟨List.mem_of_getElem? (i := 1107) (by decide +kernel), rfl⟩
theorem wk_1006 : Wk (Cond.code yX10_fault cX10_fault 1 (some Jvm.ClassFile.FieldType.int)) := ⟨List.mem_of_getElem? (i := 1108) (by decide +kernel), rfl⟩
theorem wk_1007 : Wk (Cond.methodLink "BumperBallsLaw" 51 yX10_steps) := ⟨List.mem_of_getElem? (i := 1109) (by decide +kernel), rfl⟩
theorem wk_1008 : Wk (Cond.instanceMethod yX10_steps) := ⟨List.mem_of_getElem? (i := 1110) (by decide +kernel), rfl⟩
theorem wk_1009 : Wk (Cond.selects "BumperBallsModel" yX10_steps yX10_steps) := ⟨List.mem_of_getElem? (i := 1111) (by decide +kernel), rfl⟩
theorem wk_1010 : Wk (Cond.code yX10_steps cX10_steps 3 (some Jvm.ClassFile.FieldType.int)) := ⟨List.mem_of_getElem? (i := 1112) (by decide +kernel), rfl⟩
theorem wk_1011 : Wk (Cond.constant "BumperBallsModel" 176 (-1000002)) := ⟨List.mem_of_getElem? (i := 1113) (by decide +kernel), rfl⟩
theorem wk_1012 : Wk (Cond.constantLong "BumperBallsModel" 177 (24)) := ⟨List.mem_of_getElem? (i := 1114) (by decide +kernel), rfl⟩
theorem wk_1013 : Wk (Cond.methodLink "BumperBallsModel" 179 yX10_keepPast) := ⟨List.mem_of_getElem? (i := 1115) (by decide +kernel), rfl⟩
theorem wk_1015 : Wk (Cond.instanceMethod yX10_keepPast) := ⟨List.mem_of_getElem? (i := 1117) (by decide +kernel), rfl⟩
theorem wk_1016 : Wk (Cond.code yX10_keepPast cX10_keepPast 2 none) := ⟨List.mem_of_getElem? (i := 1118) (by decide +kernel), rfl⟩
theorem wk_1017 : Wk (Cond.methodLink "BumperBallsModel" 182 yX10_step) := ⟨List.mem_of_getElem? (i := 1119) (by decide +kernel), rfl⟩
theorem wk_1019 : Wk (Cond.instanceMethod yX10_step) := ⟨List.mem_of_getElem? (i := 1121) (by decide +kernel), rfl⟩
theorem wk_1020 : Wk (Cond.code yX10_step cX10_step 6 (some Jvm.ClassFile.FieldType.int)) := ⟨List.mem_of_getElem? (i := 1122) (by decide +kernel), rfl⟩
theorem wk_1021 : Wk (Cond.constantLong "BumperBallsModel" 167 (6)) := ⟨List.mem_of_getElem? (i := 1123) (by decide +kernel), rfl⟩
theorem wk_1022 : Wk (Cond.methodLink "BumperBallsModel" 169 yX10_pinAt) := ⟨List.mem_of_getElem? (i := 1124) (by decide +kernel), rfl⟩
theorem wk_1024 : Wk (Cond.instanceMethod yX10_pinAt) := ⟨List.mem_of_getElem? (i := 1126) (by decide +kernel), rfl⟩
theorem wk_1025 : Wk (Cond.code yX10_pinAt cX10_pinAt 4 (some Jvm.ClassFile.FieldType.int)) := ⟨List.mem_of_getElem? (i := 1127) (by decide +kernel), rfl⟩
theorem wk_1026 : Wk (Cond.methodLink "BumperBallsModel" 172 yX10_strike) := ⟨List.mem_of_getElem? (i := 1128) (by decide +kernel), rfl⟩
theorem wk_1028 : Wk (Cond.instanceMethod yX10_strike) := ⟨List.mem_of_getElem? (i := 1130) (by decide +kernel), rfl⟩
theorem wk_1029 : Wk (Cond.code yX10_strike cX10_strike 4 none) := ⟨List.mem_of_getElem? (i := 1131) (by decide +kernel), rfl⟩
theorem wk_1030 : Wk (Cond.methodLink "BumperBallsModel" 164 yX10_turns) := ⟨List.mem_of_getElem? (i := 1132) (by decide +kernel), rfl⟩
theorem wk_1032 : Wk (Cond.instanceMethod yX10_turns) := ⟨List.mem_of_getElem? (i := 1134) (by decide +kernel), rfl⟩
theorem wk_1033 : Wk (Cond.code yX10_turns cX10_turns 3 (some Jvm.ClassFile.FieldType.int)) := ⟨List.mem_of_getElem? (i := 1135) (by decide +kernel), rfl⟩
theorem wk_1034 : Wk (Cond.methodLink "BumperBallsModel" 161 yX10_has) := ⟨List.mem_of_getElem? (i := 1136) (by decide +kernel), rfl⟩
theorem wk_1035 : Wk (Cond.static yX10_has) := ⟨List.mem_of_getElem? (i := 1137) (by decide +kernel), rfl⟩
theorem wk_1036 : Wk (Cond.code yX10_has cX10_has 2 (some Jvm.ClassFile.FieldType.boolean)) := ⟨List.mem_of_getElem? (i := 1138) (by decide +kernel), rfl⟩
theorem wk_1037 : Wk (Cond.methodLink "BumperBallsLaw" 55 yX10_nudge) := ⟨List.mem_of_getElem? (i := 1139) (by decide +kernel), rfl⟩
theorem wk_1038 : Wk (Cond.instanceMethod yX10_nudge) := ⟨List.mem_of_getElem? (i := 1140) (by decide +kernel), rfl⟩
theorem wk_1039 : Wk (Cond.selects "BumperBallsModel" yX10_nudge yX10_nudge) := ⟨List.mem_of_getElem? (i := 1141) (by decide +kernel), rfl⟩
theorem wk_1040 : Wk (Cond.code yX10_nudge cX10_nudge 1 (some Jvm.ClassFile.FieldType.int)) := ⟨List.mem_of_getElem? (i := 1142) (by decide +kernel), rfl⟩
theorem wk_1041 : Wk (Cond.methodLink "BumperBallsModel" 185 yX10_isGone) := ⟨List.mem_of_getElem? (i := 1143) (by decide +kernel), rfl⟩
theorem wk_1043 : Wk (Cond.instanceMethod yX10_isGone) := ⟨List.mem_of_getElem? (i := 1145) (by decide +kernel), rfl⟩
theorem wk_1044 : Wk (Cond.code yX10_isGone cX10_isGone 1 (some Jvm.ClassFile.FieldType.boolean)) := ⟨List.mem_of_getElem? (i := 1146) (by decide +kernel), rfl⟩
theorem wk_1045 : Wk (Cond.methodLink "BumperBallsLaw" 59 yX10_flip) := ⟨List.mem_of_getElem? (i := 1147) (by decide +kernel), rfl⟩
theorem wk_1046 : Wk (Cond.instanceMethod yX10_flip) := ⟨List.mem_of_getElem? (i := 1148) (by decide +kernel), rfl⟩
theorem wk_1047 : Wk (Cond.selects "BumperBallsModel" yX10_flip yX10_flip) := ⟨List.mem_of_getElem? (i := 1149) (by decide +kernel), rfl⟩
theorem wk_1048 : Wk (Cond.code yX10_flip cX10_flip 1 (some Jvm.ClassFile.FieldType.int)) := ⟨List.mem_of_getElem? (i := 1150) (by decide +kernel), rfl⟩
theorem wk_1049 : Wk (Cond.methodLink "BumperBallsLaw" 64 yX10_put) := ⟨List.mem_of_getElem? (i := 1151) (by decide +kernel), rfl⟩
theorem wk_1050 : Wk (Cond.instanceMethod yX10_put) := ⟨List.mem_of_getElem? (i := 1152) (by decide +kernel), rfl⟩
theorem wk_1051 : Wk (Cond.selects "BumperBallsModel" yX10_put yX10_put) := ⟨List.mem_of_getElem? (i := 1153) (by decide +kernel), rfl⟩
theorem wk_1052 : Wk (Cond.code yX10_put cX10_put 3 (some Jvm.ClassFile.FieldType.int)) := ⟨List.mem_of_getElem? (i := 1154) (by decide +kernel), rfl⟩
theorem wk_1053 : Wk (Cond.constantLong "BumperBallsModel" 188 (41)) := ⟨List.mem_of_getElem? (i := 1155) (by decide +kernel), rfl⟩
theorem wk_1054 : Wk (Cond.constantLong "BumperBallsModel" 190 (3)) := ⟨List.mem_of_getElem? (i := 1156) (by decide +kernel), rfl⟩
theorem wk_1055 : Wk (Cond.methodLink "BumperBallsLaw" 68 yX10_undo) := ⟨List.mem_of_getElem? (i := 1157) (by decide +kernel), rfl⟩
theorem wk_1056 : Wk (Cond.instanceMethod yX10_undo) := ⟨List.mem_of_getElem? (i := 1158) (by decide +kernel), rfl⟩
theorem wk_1057 : Wk (Cond.selects "BumperBallsModel" yX10_undo yX10_undo) := ⟨List.mem_of_getElem? (i := 1159) (by decide +kernel), rfl⟩
theorem wk_1058 : Wk (Cond.code yX10_undo cX10_undo 2 (some Jvm.ClassFile.FieldType.int)) := ⟨List.mem_of_getElem? (i := 1160) (by decide +kernel), rfl⟩
theorem wk_1059 : Wk (Cond.methodLink "BumperBallsLaw" 72 yX10_ball) := ⟨List.mem_of_getElem? (i := 1161) (by decide +kernel), rfl⟩
theorem wk_1060 : Wk (Cond.instanceMethod yX10_ball) := ⟨List.mem_of_getElem? (i := 1162) (by decide +kernel), rfl⟩
theorem wk_1061 : Wk (Cond.selects "BumperBallsModel" yX10_ball yX10_ball) := ⟨List.mem_of_getElem? (i := 1163) (by decide +kernel), rfl⟩
theorem wk_1062 : Wk (Cond.code yX10_ball cX10_ball 2 (some Jvm.ClassFile.FieldType.int)) := ⟨List.mem_of_getElem? (i := 1164) (by decide +kernel), rfl⟩
theorem wk_1063 : Wk (Cond.constantLong "BumperBallsModel" 192 (5)) := ⟨List.mem_of_getElem? (i := 1165) (by decide +kernel), rfl⟩
theorem wk_1064 : Wk (Cond.methodLink "BumperBallsLaw" 76 yX10_pin) := ⟨List.mem_of_getElem? (i := 1166) (by decide +kernel), rfl⟩
theorem wk_1065 : Wk (Cond.instanceMethod yX10_pin) := ⟨List.mem_of_getElem? (i := 1167) (by decide +kernel), rfl⟩
theorem wk_1066 : Wk (Cond.selects "BumperBallsModel" yX10_pin yX10_pin) := ⟨List.mem_of_getElem? (i := 1168) (by decide +kernel), rfl⟩
theorem wk_1067 : Wk (Cond.code yX10_pin cX10_pin 3 (some Jvm.ClassFile.FieldType.int)) := ⟨List.mem_of_getElem? (i := 1169) (by decide +kernel), rfl⟩
theorem wk_1068 : Wk (Cond.methodLink "BumperBallsModel" 194 yX10_isPin) := ⟨List.mem_of_getElem? (i := 1170) (by decide +kernel), rfl⟩
theorem wk_1070 : Wk (Cond.instanceMethod yX10_isPin) := ⟨List.mem_of_getElem? (i := 1172) (by decide +kernel), rfl⟩
theorem wk_1071 : Wk (Cond.code yX10_isPin cX10_isPin 2 (some Jvm.ClassFile.FieldType.boolean)) := ⟨List.mem_of_getElem? (i := 1173) (by decide +kernel), rfl⟩
theorem wk_1072 : Wk (Cond.methodLink "BumperBallsLaw" 80 yX10_ahead) := ⟨List.mem_of_getElem? (i := 1174) (by decide +kernel), rfl⟩
theorem wk_1073 : Wk (Cond.instanceMethod yX10_ahead) := ⟨List.mem_of_getElem? (i := 1175) (by decide +kernel), rfl⟩
theorem wk_1074 : Wk (Cond.selects "BumperBallsModel" yX10_ahead yX10_ahead) := ⟨List.mem_of_getElem? (i := 1176) (by decide +kernel), rfl⟩
theorem wk_1075 : Wk (Cond.code yX10_ahead cX10_ahead 4 (some Jvm.ClassFile.FieldType.int)) := ⟨List.mem_of_getElem? (i := 1177) (by decide +kernel), rfl⟩
theorem wk_1076 : Wk (Cond.constantLong "BumperBallsModel" 197 (200)) := ⟨List.mem_of_getElem? (i := 1178) (by decide +kernel), rfl⟩
theorem wk_1077 : Wk (Cond.methodLink "BumperBallsModel" 199 yX10_copyRow) := ⟨List.mem_of_getElem? (i := 1179) (by decide +kernel), rfl⟩
theorem wk_1079 : Wk (Cond.instanceMethod yX10_copyRow) := ⟨List.mem_of_getElem? (i := 1181) (by decide +kernel), rfl⟩
theorem wk_1080 : Wk (Cond.code yX10_copyRow cX10_copyRow 4 none) := ⟨List.mem_of_getElem? (i := 1182) (by decide +kernel), rfl⟩
theorem wk_1081 : Wk (Cond.methodLink "BumperBallsLaw" 84 yX10_lasts) := ⟨List.mem_of_getElem? (i := 1183) (by decide +kernel), rfl⟩
theorem wk_1082 : Wk (Cond.instanceMethod yX10_lasts) := ⟨List.mem_of_getElem? (i := 1184) (by decide +kernel), rfl⟩
theorem wk_1083 : Wk (Cond.selects "BumperBallsModel" yX10_lasts yX10_lasts) := ⟨List.mem_of_getElem? (i := 1185) (by decide +kernel), rfl⟩
theorem wk_1084 : Wk (Cond.code yX10_lasts cX10_lasts 3 (some Jvm.ClassFile.FieldType.int)) := ⟨List.mem_of_getElem? (i := 1186) (by decide +kernel), rfl⟩
theorem wk_1085 : Wk (Cond.methodLink "BumperBallsModel" 202 yX10_isAsNow) := ⟨List.mem_of_getElem? (i := 1187) (by decide +kernel), rfl⟩
theorem wk_1087 : Wk (Cond.instanceMethod yX10_isAsNow) := ⟨List.mem_of_getElem? (i := 1189) (by decide +kernel), rfl⟩
theorem wk_1088 : Wk (Cond.code yX10_isAsNow cX10_isAsNow 1 (some Jvm.ClassFile.FieldType.boolean)) := ⟨List.mem_of_getElem? (i := 1190) (by decide +kernel), rfl⟩
theorem wk_1089 : Wk (Cond.methodLink "BumperBallsLaw" 88 yX10_richest) := ⟨List.mem_of_getElem? (i := 1191) (by decide +kernel), rfl⟩
theorem wk_1090 : Wk (Cond.instanceMethod yX10_richest) := ⟨List.mem_of_getElem? (i := 1192) (by decide +kernel), rfl⟩
theorem wk_1091 : Wk (Cond.selects "BumperBallsModel" yX10_richest yX10_richest) := ⟨List.mem_of_getElem? (i := 1193) (by decide +kernel), rfl⟩
theorem wk_1092 : Wk (Cond.code yX10_richest cX10_richest 7 (some Jvm.ClassFile.FieldType.int)) := ⟨List.mem_of_getElem? (i := 1194) (by decide +kernel), rfl⟩
theorem wk_1093 : Wk (Cond.constantLong "BumperBallsModel" 205 (40)) := ⟨List.mem_of_getElem? (i := 1195) (by decide +kernel), rfl⟩
theorem wk_1094 : Wk (Cond.methodLink "BumperBallsModel" 207 yX10_tryPut) := ⟨List.mem_of_getElem? (i := 1196) (by decide +kernel), rfl⟩
theorem wk_1096 : Wk (Cond.instanceMethod yX10_tryPut) := ⟨List.mem_of_getElem? (i := 1198) (by decide +kernel), rfl⟩
theorem wk_1097 : Wk (Cond.code yX10_tryPut cX10_tryPut 2 none) := ⟨List.mem_of_getElem? (i := 1199) (by decide +kernel), rfl⟩
theorem wk_1098 : Wk (Cond.methodLink "BumperBallsLaw" 92 yX10_nudged) := ⟨List.mem_of_getElem? (i := 1200) (by decide +kernel), rfl⟩
theorem wk_1099 : Wk (Cond.instanceMethod yX10_nudged) := ⟨List.mem_of_getElem? (i := 1201) (by decide +kernel), rfl⟩
theorem wk_1100 : Wk (Cond.selects "BumperBallsModel" yX10_nudged yX10_nudged) := ⟨List.mem_of_getElem? (i := 1202) (by decide +kernel), rfl⟩
theorem wk_1101 : Wk (Cond.code yX10_nudged cX10_nudged 3 (some Jvm.ClassFile.FieldType.int)) := ⟨List.mem_of_getElem? (i := 1203) (by decide +kernel), rfl⟩
theorem wk_1102 : Wk (Cond.constantLong "BumperBallsModel" 218 (20)) := ⟨List.mem_of_getElem? (i := 1204) (by decide +kernel), rfl⟩
theorem wk_1103 : Wk (Cond.methodLink "BumperBallsModel" 220 yX10_nudgesFor) := ⟨List.mem_of_getElem? (i := 1205) (by decide +kernel), rfl⟩
theorem wk_1105 : Wk (Cond.instanceMethod yX10_nudgesFor) := ⟨List.mem_of_getElem? (i := 1207) (by decide +kernel), rfl⟩
theorem wk_1106 : Wk (Cond.code yX10_nudgesFor cX10_nudgesFor 7 (some Jvm.ClassFile.FieldType.int)) := ⟨List.mem_of_getElem? (i := 1208) (by decide +kernel), rfl⟩
theorem wk_1107 : Wk (Cond.methodLink "BumperBallsModel" 211 yX10_stateOf) := ⟨List.mem_of_getElem? (i := 1209) (by decide +kernel), rfl⟩
theorem wk_1108 : Wk (Cond.static yX10_stateOf) := ⟨List.mem_of_getElem? (i := 1210) (by decide +kernel), rfl⟩
theorem wk_1109 : Wk (Cond.code yX10_stateOf cX10_stateOf 3 (some Jvm.ClassFile.FieldType.int)) := ⟨List.mem_of_getElem? (i := 1211) (by decide +kernel), rfl⟩
theorem wk_1110 : Wk (Cond.methodLink "BumperBallsModel" 215 yX10_goOn) := ⟨List.mem_of_getElem? (i := 1212) (by decide +kernel), rfl⟩
theorem wk_1112 : Wk (Cond.instanceMethod yX10_goOn) := ⟨List.mem_of_getElem? (i := 1214) (by decide +kernel), rfl⟩
theorem wk_1113 : Wk (Cond.code yX10_goOn cX10_goOn 7 (some Jvm.ClassFile.FieldType.int)) := ⟨List.mem_of_getElem? (i := 1215) (by decide +kernel), rfl⟩
theorem wk_1114 : Wk (Cond.methodLink "BumperBallsLaw" 96 yX10_kept) := ⟨List.mem_of_getElem? (i := 1216) (by decide +kernel), rfl⟩
theorem wk_1115 : Wk (Cond.instanceMethod yX10_kept) := ⟨List.mem_of_getElem? (i := 1217) (by decide +kernel), rfl⟩
theorem wk_1116 : Wk (Cond.selects "BumperBallsModel" yX10_kept yX10_kept) := ⟨List.mem_of_getElem? (i := 1218) (by decide +kernel), rfl⟩
theorem wk_1117 : Wk (Cond.code yX10_kept cX10_kept 2 (some Jvm.ClassFile.FieldType.int)) := ⟨List.mem_of_getElem? (i := 1219) (by decide +kernel), rfl⟩
theorem wk_1118 : Wk (Cond.methodLink "BumperBallsLaw" 101 yX10_heard) := ⟨List.mem_of_getElem? (i := 1220) (by decide +kernel), rfl⟩
theorem wk_1119 : Wk (Cond.instanceMethod yX10_heard) := ⟨List.mem_of_getElem? (i := 1221) (by decide +kernel), rfl⟩
theorem wk_1120 : Wk (Cond.selects "BumperBallsModel" yX10_heard yX10_heard) := ⟨List.mem_of_getElem? (i := 1222) (by decide +kernel), rfl⟩
theorem wk_1121 : Wk (Cond.code yX10_heard cX10_heard 8 (some Jvm.ClassFile.FieldType.int)) := ⟨List.mem_of_getElem? (i := 1223) (by decide +kernel), rfl⟩
theorem wk_1122 : Wk (Cond.constantLong "BumperBallsModel" 223 (10)) := ⟨List.mem_of_getElem? (i := 1224) (by decide +kernel), rfl⟩
theorem wk_1123 : Wk (Cond.methodLink "BumperBallsModel" 225 yX10_isHeard) := ⟨List.mem_of_getElem? (i := 1225) (by decide +kernel), rfl⟩
theorem wk_1125 : Wk (Cond.instanceMethod yX10_isHeard) := ⟨List.mem_of_getElem? (i := 1227) (by decide +kernel), rfl⟩
theorem wk_1126 : Wk (Cond.code yX10_isHeard cX10_isHeard 7 (some Jvm.ClassFile.FieldType.boolean)) := ⟨List.mem_of_getElem? (i := 1228) (by decide +kernel), rfl⟩
theorem wk_1127 : Wk (Cond.methodLink "BumperBallsLaw" 105 yX10_image) := ⟨List.mem_of_getElem? (i := 1229) (by decide +kernel), rfl⟩
theorem wk_1128 : Wk (Cond.instanceMethod yX10_image) := ⟨List.mem_of_getElem? (i := 1230) (by decide +kernel), rfl⟩
theorem wk_1129 : Wk (Cond.selects "BumperBallsModel" yX10_image yX10_image) := ⟨List.mem_of_getElem? (i := 1231) (by decide +kernel), rfl⟩
theorem wk_1130 : Wk (Cond.code yX10_image cX10_image 2 (some Jvm.ClassFile.FieldType.int)) := ⟨List.mem_of_getElem? (i := 1232) (by decide +kernel), rfl⟩
theorem wk_1131 : Wk (Cond.methodLink "BumperBallsLaw" 109 yX10_restore) := ⟨List.mem_of_getElem? (i := 1233) (by decide +kernel), rfl⟩
theorem wk_1132 : Wk (Cond.instanceMethod yX10_restore) := ⟨List.mem_of_getElem? (i := 1234) (by decide +kernel), rfl⟩
theorem wk_1133 : Wk (Cond.selects "BumperBallsModel" yX10_restore yX10_restore) := ⟨List.mem_of_getElem? (i := 1235) (by decide +kernel), rfl⟩
theorem wk_1134 : Wk (Cond.code yX10_restore cX10_restore 2 (some Jvm.ClassFile.FieldType.int)) := ⟨List.mem_of_getElem? (i := 1236) (by decide +kernel), rfl⟩
theorem wk_1135 : Wk (Cond.methodLink "BumperBallsLaw" 113 yX10_kind) := ⟨List.mem_of_getElem? (i := 1237) (by decide +kernel), rfl⟩
theorem wk_1136 : Wk (Cond.instanceMethod yX10_kind) := ⟨List.mem_of_getElem? (i := 1238) (by decide +kernel), rfl⟩
theorem wk_1137 : Wk (Cond.selects "BumperBallsModel" yX10_kind yX10_kind) := ⟨List.mem_of_getElem? (i := 1239) (by decide +kernel), rfl⟩
theorem wk_1138 : Wk (Cond.code yX10_kind cX10_kind 2 (some Jvm.ClassFile.FieldType.int)) := ⟨List.mem_of_getElem? (i := 1240) (by decide +kernel), rfl⟩
theorem wk_1139 : Wk (Cond.methodLink "BumperBallsLaw" 117 yX10_as) := ⟨List.mem_of_getElem? (i := 1241) (by decide +kernel), rfl⟩
theorem wk_1140 : Wk (Cond.instanceMethod yX10_as) := ⟨List.mem_of_getElem? (i := 1242) (by decide +kernel), rfl⟩
theorem wk_1141 : Wk (Cond.selects "BumperBallsModel" yX10_as yX10_as) := ⟨List.mem_of_getElem? (i := 1243) (by decide +kernel), rfl⟩
theorem wk_1142 : Wk (Cond.code yX10_as cX10_as 3 (some Jvm.ClassFile.FieldType.int)) := ⟨List.mem_of_getElem? (i := 1244) (by decide +kernel), rfl⟩
theorem wk_1143 : Wk (Cond.methodLink "BumperBallsModel" 228 yX10_isKind) := ⟨List.mem_of_getElem? (i := 1245) (by decide +kernel), rfl⟩
theorem wk_1144 : Wk (Cond.static yX10_isKind) := ⟨List.mem_of_getElem? (i := 1246) (by decide +kernel), rfl⟩
theorem wk_1145 : Wk (Cond.code yX10_isKind cX10_isKind 3 (some Jvm.ClassFile.FieldType.boolean)) := ⟨List.mem_of_getElem? (i := 1247) (by decide +kernel), rfl⟩
theorem wk_1146 : Wk (Cond.methodLink "BumperBallsLaw" 121 yX10_ask) := ⟨List.mem_of_getElem? (i := 1248) (by decide +kernel), rfl⟩
theorem wk_1147 : Wk (Cond.instanceMethod yX10_ask) := ⟨List.mem_of_getElem? (i := 1249) (by decide +kernel), rfl⟩
theorem wk_1148 : Wk (Cond.selects "BumperBallsModel" yX10_ask yX10_ask) := ⟨List.mem_of_getElem? (i := 1250) (by decide +kernel), rfl⟩
theorem wk_1149 : Wk (Cond.code yX10_ask cX10_ask 4 (some Jvm.ClassFile.FieldType.int)) := ⟨List.mem_of_getElem? (i := 1251) (by decide +kernel), rfl⟩
theorem wk_1150 : Wk (Cond.methodLink "BumperBallsModel" 258 yX10_sizeOfBumper) := ⟨List.mem_of_getElem? (i := 1252) (by decide +kernel), rfl⟩
theorem wk_1152 : Wk (Cond.instanceMethod yX10_sizeOfBumper) := ⟨List.mem_of_getElem? (i := 1254) (by decide +kernel), rfl⟩
theorem wk_1153 : Wk (Cond.code yX10_sizeOfBumper cX10_sizeOfBumper 2 (some Jvm.ClassFile.FieldType.int)) := ⟨List.mem_of_getElem? (i := 1255) (by decide +kernel), rfl⟩
theorem wk_1154 : Wk (Cond.methodLink "BumperBallsModel" 252 yX10_bumperBody) := ⟨List.mem_of_getElem? (i := 1256) (by decide +kernel), rfl⟩
theorem wk_1156 : Wk (Cond.instanceMethod yX10_bumperBody) := ⟨List.mem_of_getElem? (i := 1258) (by decide +kernel), rfl⟩
theorem wk_1157 : Wk (Cond.code yX10_bumperBody cX10_bumperBody 3 (some Jvm.ClassFile.FieldType.int)) := ⟨List.mem_of_getElem? (i := 1259) (by decide +kernel), rfl⟩
theorem wk_1158 : Wk (Cond.methodLink "BumperBallsModel" 234 yX10_leave) := ⟨List.mem_of_getElem? (i := 1260) (by decide +kernel), rfl⟩
theorem wk_1160 : Wk (Cond.instanceMethod yX10_leave) := ⟨List.mem_of_getElem? (i := 1262) (by decide +kernel), rfl⟩
theorem wk_1161 : Wk (Cond.code yX10_leave cX10_leave 2 none) := ⟨List.mem_of_getElem? (i := 1263) (by decide +kernel), rfl⟩
theorem wk_1162 : Wk (Cond.methodLink "BumperBallsModel" 243 yX10_paysBody) := ⟨List.mem_of_getElem? (i := 1264) (by decide +kernel), rfl⟩
theorem wk_1164 : Wk (Cond.instanceMethod yX10_paysBody) := ⟨List.mem_of_getElem? (i := 1266) (by decide +kernel), rfl⟩
theorem wk_1165 : Wk (Cond.code yX10_paysBody cX10_paysBody 2 (some Jvm.ClassFile.FieldType.int)) := ⟨List.mem_of_getElem? (i := 1267) (by decide +kernel), rfl⟩
theorem wk_1166 : Wk (Cond.methodLink "BumperBallsModel" 246 yX10_markOfBumper) := ⟨List.mem_of_getElem? (i := 1268) (by decide +kernel), rfl⟩
theorem wk_1168 : Wk (Cond.instanceMethod yX10_markOfBumper) := ⟨List.mem_of_getElem? (i := 1270) (by decide +kernel), rfl⟩
theorem wk_1169 : Wk (Cond.code yX10_markOfBumper cX10_markOfBumper 4 (some Jvm.ClassFile.FieldType.int)) := ⟨List.mem_of_getElem? (i := 1271) (by decide +kernel), rfl⟩
theorem wk_1170 : Wk (Cond.methodLink "BumperBallsModel" 240 yX10_struckBody) := ⟨List.mem_of_getElem? (i := 1272) (by decide +kernel), rfl⟩
theorem wk_1172 : Wk (Cond.instanceMethod yX10_struckBody) := ⟨List.mem_of_getElem? (i := 1274) (by decide +kernel), rfl⟩
theorem wk_1173 : Wk (Cond.code yX10_struckBody cX10_struckBody 2 (some Jvm.ClassFile.FieldType.int)) := ⟨List.mem_of_getElem? (i := 1275) (by decide +kernel), rfl⟩
theorem wk_1174 : Wk (Cond.methodLink "BumperBallsModel" 237 yX10_numberBody) := ⟨List.mem_of_getElem? (i := 1276) (by decide +kernel), rfl⟩
theorem wk_1176 : Wk (Cond.instanceMethod yX10_numberBody) := ⟨List.mem_of_getElem? (i := 1278) (by decide +kernel), rfl⟩
theorem wk_1177 : Wk (Cond.code yX10_numberBody cX10_numberBody 2 (some Jvm.ClassFile.FieldType.int)) := ⟨List.mem_of_getElem? (i := 1279) (by decide +kernel), rfl⟩
theorem wk_1178 : Wk (Cond.methodLink "BumperBallsModel" 255 yX10_sizeOfLamp) := ⟨List.mem_of_getElem? (i := 1280) (by decide +kernel), rfl⟩
theorem wk_1180 : Wk (Cond.instanceMethod yX10_sizeOfLamp) := ⟨List.mem_of_getElem? (i := 1282) (by decide +kernel), rfl⟩
theorem wk_1181 : Wk (Cond.code yX10_sizeOfLamp cX10_sizeOfLamp 2 (some Jvm.ClassFile.FieldType.int)) := ⟨List.mem_of_getElem? (i := 1283) (by decide +kernel), rfl⟩
theorem wk_1182 : Wk (Cond.methodLink "BumperBallsModel" 249 yX10_lampBody) := ⟨List.mem_of_getElem? (i := 1284) (by decide +kernel), rfl⟩
theorem wk_1184 : Wk (Cond.instanceMethod yX10_lampBody) := ⟨List.mem_of_getElem? (i := 1286) (by decide +kernel), rfl⟩
theorem wk_1185 : Wk (Cond.code yX10_lampBody cX10_lampBody 2 (some Jvm.ClassFile.FieldType.int)) := ⟨List.mem_of_getElem? (i := 1287) (by decide +kernel), rfl⟩
theorem wk_1186 : Wk (Cond.methodLink "BumperBallsModel" 261 yX10_markOfLamp) := ⟨List.mem_of_getElem? (i := 1288) (by decide +kernel), rfl⟩
theorem wk_1188 : Wk (Cond.instanceMethod yX10_markOfLamp) := ⟨List.mem_of_getElem? (i := 1290) (by decide +kernel), rfl⟩
theorem wk_1189 : Wk (Cond.code yX10_markOfLamp cX10_markOfLamp 3 (some Jvm.ClassFile.FieldType.int)) := ⟨List.mem_of_getElem? (i := 1291) (by decide +kernel), rfl⟩
theorem wk_1190 : Wk (Cond.methodLink "BumperBallsLaw" 125 yX10_trace) := ⟨List.mem_of_getElem? (i := 1292) (by decide +kernel), rfl⟩
theorem wk_1191 : Wk (Cond.instanceMethod yX10_trace) := ⟨List.mem_of_getElem? (i := 1293) (by decide +kernel), rfl⟩
theorem wk_1192 : Wk (Cond.selects "BumperBallsModel" yX10_trace yX10_trace) := ⟨List.mem_of_getElem? (i := 1294) (by decide +kernel), rfl⟩
theorem wk_1193 : Wk (Cond.code yX10_trace cX10_trace 2 (some Jvm.ClassFile.FieldType.int)) := ⟨List.mem_of_getElem? (i := 1295) (by decide +kernel), rfl⟩
theorem wk_1194 : Wk (Cond.methodLink "BumperBallsLaw" 129 yX10_count) := ⟨List.mem_of_getElem? (i := 1296) (by decide +kernel), rfl⟩
theorem wk_1195 : Wk (Cond.instanceMethod yX10_count) := ⟨List.mem_of_getElem? (i := 1297) (by decide +kernel), rfl⟩
theorem wk_1196 : Wk (Cond.selects "BumperBallsModel" yX10_count yX10_count) := ⟨List.mem_of_getElem? (i := 1298) (by decide +kernel), rfl⟩
theorem wk_1197 : Wk (Cond.code yX10_count cX10_count 4 (some Jvm.ClassFile.FieldType.int)) := ⟨List.mem_of_getElem? (i := 1299) (by decide +kernel), rfl⟩
theorem wk_1198 : Wk (Cond.methodLink "BumperBallsLaw" 133 yX10_status) := ⟨List.mem_of_getElem? (i := 1300) (by decide +kernel), rfl⟩
theorem wk_1199 : Wk (Cond.instanceMethod yX10_status) := ⟨List.mem_of_getElem? (i := 1301) (by decide +kernel), rfl⟩
theorem wk_1200 : Wk (Cond.selects "BumperBallsModel" yX10_status yX10_status) := ⟨List.mem_of_getElem? (i := 1302) (by decide +kernel), rfl⟩
theorem wk_1201 : Wk (Cond.code yX10_status cX10_status 1 (some Jvm.ClassFile.FieldType.int)) := ⟨List.mem_of_getElem? (i := 1303) (by decide +kernel), rfl⟩
theorem wk_1202 : Wk (Cond.constantLong "BumperBallsLaw" 32 (4294967295)) := ⟨List.mem_of_getElem? (i := 1304) (by decide +kernel), rfl⟩
theorem wk_1203 : Wk (Cond.fieldLink "java/lang/String" 9 "java/lang/String" "value" "[B") := ⟨List.mem_of_getElem? (i := 1305) (by decide +kernel), rfl⟩
theorem wk_1204 : Wk (Cond.fieldLink "java/lang/String" 15 "java/lang/String" "coder" "B") := ⟨List.mem_of_getElem? (i := 1306) (by decide +kernel), rfl⟩
theorem wk_u0 : ∀ w ∈ u_ws RX0 TX0 3, Wk w := fun w hw => by
  have h := List.all_eq_true.mp (show (u_ws RX0 TX0 3).all (fun w => decide (w ∈ lw_tbl) && goodWord w) = true by decide +kernel) w hw
  simp only [Bool.and_eq_true, decide_eq_true_eq] at h
  exact h
theorem wk_u1 : ∀ w ∈ u_ws RX1 TX1 6, Wk w := fun w hw => by
  have h := List.all_eq_true.mp (show (u_ws RX1 TX1 6).all (fun w => decide (w ∈ lw_tbl) && goodWord w) = true by decide +kernel) w hw
  simp only [Bool.and_eq_true, decide_eq_true_eq] at h
  exact h
theorem wk_u2 : ∀ w ∈ u_ws RX2 TX2 3, Wk w := fun w hw => by
  have h := List.all_eq_true.mp (show (u_ws RX2 TX2 3).all (fun w => decide (w ∈ lw_tbl) && goodWord w) = true by decide +kernel) w hw
  simp only [Bool.and_eq_true, decide_eq_true_eq] at h
  exact h
theorem wk_u3 : ∀ w ∈ u_ws RX3 TX3 3, Wk w := fun w hw => by
  have h := List.all_eq_true.mp (show (u_ws RX3 TX3 3).all (fun w => decide (w ∈ lw_tbl) && goodWord w) = true by decide +kernel) w hw
  simp only [Bool.and_eq_true, decide_eq_true_eq] at h
  exact h
theorem wk_u4 : ∀ w ∈ u_ws RX4 TX4 10, Wk w := fun w hw => by
  have h := List.all_eq_true.mp (show (u_ws RX4 TX4 10).all (fun w => decide (w ∈ lw_tbl) && goodWord w) = true by decide +kernel) w hw
  simp only [Bool.and_eq_true, decide_eq_true_eq] at h
  exact h
theorem wk_u5 : ∀ w ∈ u_ws RX5 TX5 3, Wk w := fun w hw => by
  have h := List.all_eq_true.mp (show (u_ws RX5 TX5 3).all (fun w => decide (w ∈ lw_tbl) && goodWord w) = true by decide +kernel) w hw
  simp only [Bool.and_eq_true, decide_eq_true_eq] at h
  exact h
theorem wk_u6 : ∀ w ∈ u_ws RX6 TX6 4, Wk w := fun w hw => by
  have h := List.all_eq_true.mp (show (u_ws RX6 TX6 4).all (fun w => decide (w ∈ lw_tbl) && goodWord w) = true by decide +kernel) w hw
  simp only [Bool.and_eq_true, decide_eq_true_eq] at h
  exact h
theorem wk_u7 : ∀ w ∈ u_ws RX7 TX7 7, Wk w := fun w hw => by
  have h := List.all_eq_true.mp (show (u_ws RX7 TX7 7).all (fun w => decide (w ∈ lw_tbl) && goodWord w) = true by decide +kernel) w hw
  simp only [Bool.and_eq_true, decide_eq_true_eq] at h
  exact h
theorem wk_u8 : ∀ w ∈ u_ws RX8 TX8 10, Wk w := fun w hw => by
  have h := List.all_eq_true.mp (show (u_ws RX8 TX8 10).all (fun w => decide (w ∈ lw_tbl) && goodWord w) = true by decide +kernel) w hw
  simp only [Bool.and_eq_true, decide_eq_true_eq] at h
  exact h
theorem wk_u9 : ∀ w ∈ u_ws RX9 TX9 12, Wk w := fun w hw => by
  have h := List.all_eq_true.mp (show (u_ws RX9 TX9 12).all (fun w => decide (w ∈ lw_tbl) && goodWord w) = true by decide +kernel) w hw
  simp only [Bool.and_eq_true, decide_eq_true_eq] at h
  exact h
theorem wk_u10 : ∀ w ∈ u_ws RX10 TX10 22, Wk w := fun w hw => by
  have h := List.all_eq_true.mp (show (u_ws RX10 TX10 22).all (fun w => decide (w ∈ lw_tbl) && goodWord w) = true by decide +kernel) w hw
  simp only [Bool.and_eq_true, decide_eq_true_eq] at h
  exact h
