set_option maxRecDepth 20000 in
theorem mm_0 : Cond.code yy_B_isSquare bb_B_isSquare 1 (some .boolean) ∈ ww_all := ww_m (List.mem_of_getElem? (i := 238) (rfl)) rfl
theorem mm_1 : Cond.initialized RR_B ∈ ww_all := ww_m (List.mem_of_getElem? (i := 1) (by decide +kernel)) rfl
theorem mm_2 : Cond.methodLink RR_B 61 yy_B_isSquare ∈ ww_all := ww_m (List.mem_of_getElem? (i := 236) (by decide +kernel)) rfl
theorem mm_3 : Cond.static yy_B_isSquare ∈ ww_all := ww_m (List.mem_of_getElem? (i := 237) (by decide +kernel)) rfl
theorem mm_4 : Cond.fieldLink RR_B 10 "RuledBoard" "position" "LRuledBoard$Position;" ∈ ww_all := ww_m (List.mem_of_getElem? (i := 205) (by decide +kernel)) rfl
theorem mm_5 : Cond.fieldLink RR_B 48 "RuledBoard$Position" "squares" "[I" ∈ ww_all := ww_m (List.mem_of_getElem? (i := 31) (by decide +kernel)) rfl
theorem mm_6 : Cond.fieldLink RR_B 44 "RuledBoard" "playing" "Z" ∈ ww_all := ww_m (List.mem_of_getElem? (i := 209) (by decide +kernel)) rfl
set_option maxRecDepth 20000 in
theorem mm_7 : Cond.code yy_JA_fill bb_JA_fill 4 none ∈ ww_all := ww_m (List.mem_of_getElem? (i := 227) (rfl)) rfl
theorem mm_8 : Cond.initialized RR_JA ∈ ww_all := ww_m (List.mem_of_getElem? (i := 8) (by decide +kernel)) rfl
theorem mm_9 : Cond.methodLink RR_B 52 yy_JA_fill ∈ ww_all := ww_m (List.mem_of_getElem? (i := 225) (by decide +kernel)) rfl
theorem mm_10 : Cond.static yy_JA_fill ∈ ww_all := ww_m (List.mem_of_getElem? (i := 226) (by decide +kernel)) rfl
theorem mm_11 : Cond.fieldLink RR_P 9 "RuledBoard$Position" "squares" "[I" ∈ ww_all := ww_m (List.mem_of_getElem? (i := 30) (by decide +kernel)) rfl
theorem mm_12 : Cond.fieldLink RR_P 68 "RuledBoard$Position" "side" "I" ∈ ww_all := ww_m (List.mem_of_getElem? (i := 39) (by decide +kernel)) rfl
theorem mm_13 : Cond.fieldLink RR_P 134 "RuledBoard$Position" "passed" "I" ∈ ww_all := ww_m (List.mem_of_getElem? (i := 44) (by decide +kernel)) rfl
set_option maxRecDepth 20000 in
theorem mm_14 : Cond.code yy_P_isOther bb_P_isOther 3 (some .boolean) ∈ ww_all := ww_m (List.mem_of_getElem? (i := 395) (rfl)) rfl
theorem mm_15 : Cond.initialized RR_P ∈ ww_all := ww_m (List.mem_of_getElem? (i := 2) (by decide +kernel)) rfl
theorem mm_16 : Cond.methodLink RR_P 128 yy_P_isOther ∈ ww_all := ww_m (List.mem_of_getElem? (i := 392) (by decide +kernel)) rfl
theorem mm_17 : Cond.instanceMethod yy_P_isOther ∈ ww_all := ww_m (List.mem_of_getElem? (i := 394) (by decide +kernel)) rfl
theorem mm_18 : Cond.selects RR_P yy_P_isOther yy_P_isOther ∈ ww_all := ww_s (List.mem_of_getElem? (i := 8) (by decide +kernel)) rfl
set_option maxRecDepth 20000 in
theorem mm_19 : Cond.code yy_P_passingTarget bb_P_passingTarget 1 (some .int) ∈ ww_all := ww_m (List.mem_of_getElem? (i := 140) (rfl)) rfl
theorem mm_20 : Cond.methodLink RR_P 137 yy_P_passingTarget ∈ ww_all := ww_m (List.mem_of_getElem? (i := 137) (by decide +kernel)) rfl
theorem mm_21 : Cond.instanceMethod yy_P_passingTarget ∈ ww_all := ww_m (List.mem_of_getElem? (i := 139) (by decide +kernel)) rfl
theorem mm_22 : Cond.selects RR_P yy_P_passingTarget yy_P_passingTarget ∈ ww_all := ww_s (List.mem_of_getElem? (i := 1) (by decide +kernel)) rfl
set_option maxRecDepth 20000 in
theorem mm_23 : Cond.code yy_P_canPawnTake bb_P_canPawnTake 2 (some .boolean) ∈ ww_all := ww_m (List.mem_of_getElem? (i := 391) (rfl)) rfl
theorem mm_24 : Cond.methodLink RR_P 131 yy_P_canPawnTake ∈ ww_all := ww_m (List.mem_of_getElem? (i := 388) (by decide +kernel)) rfl
theorem mm_25 : Cond.instanceMethod yy_P_canPawnTake ∈ ww_all := ww_m (List.mem_of_getElem? (i := 390) (by decide +kernel)) rfl
theorem mm_26 : Cond.selects RR_P yy_P_canPawnTake yy_P_canPawnTake ∈ ww_all := ww_s (List.mem_of_getElem? (i := 7) (by decide +kernel)) rfl
theorem mm_27 : Cond.constantLong RR_JL 314 6148914691236517205 ∈ ww_all := ww_m (List.mem_of_getElem? (i := 403) (by decide +kernel)) rfl
theorem mm_28 : Cond.constantLong RR_JL 316 3689348814741910323 ∈ ww_all := ww_m (List.mem_of_getElem? (i := 404) (by decide +kernel)) rfl
theorem mm_29 : Cond.constantLong RR_JL 318 1085102592571150095 ∈ ww_all := ww_m (List.mem_of_getElem? (i := 405) (by decide +kernel)) rfl
set_option maxRecDepth 20000 in
theorem mm_30 : Cond.code yy_JL_bitCount bb_JL_bitCount 2 (some .int) ∈ ww_all := ww_m (List.mem_of_getElem? (i := 402) (rfl)) rfl
theorem mm_31 : Cond.initialized RR_JL ∈ ww_all := ww_m (List.mem_of_getElem? (i := 15) (by decide +kernel)) rfl
theorem mm_32 : Cond.methodLink RR_P 95 yy_JL_bitCount ∈ ww_all := ww_m (List.mem_of_getElem? (i := 400) (by decide +kernel)) rfl
theorem mm_33 : Cond.static yy_JL_bitCount ∈ ww_all := ww_m (List.mem_of_getElem? (i := 401) (by decide +kernel)) rfl
theorem mm_34 : Cond.fieldLink RR_W 15 "RuledBoard$MoveRow" "count" "I" ∈ ww_all := ww_m (List.mem_of_getElem? (i := 94) (by decide +kernel)) rfl
theorem mm_35 : Cond.fieldLink RR_W 9 "RuledBoard$MoveRow" "codes" "[I" ∈ ww_all := ww_m (List.mem_of_getElem? (i := 90) (by decide +kernel)) rfl
set_option maxRecDepth 20000 in
theorem mm_36 : Cond.code yy_P_lowestOf bb_P_lowestOf 2 (some .int) ∈ ww_all := ww_m (List.mem_of_getElem? (i := 408) (rfl)) rfl
theorem mm_37 : Cond.methodLink RR_P 101 yy_P_lowestOf ∈ ww_all := ww_m (List.mem_of_getElem? (i := 406) (by decide +kernel)) rfl
theorem mm_38 : Cond.static yy_P_lowestOf ∈ ww_all := ww_m (List.mem_of_getElem? (i := 407) (by decide +kernel)) rfl
set_option maxRecDepth 20000 in
theorem mm_39 : Cond.code yy_B_codeOf bb_B_codeOf 3 (some .int) ∈ ww_all := ww_m (List.mem_of_getElem? (i := 143) (rfl)) rfl
theorem mm_40 : Cond.static yy_B_codeOf ∈ ww_all := ww_m (List.mem_of_getElem? (i := 142) (by decide +kernel)) rfl
set_option maxRecDepth 20000 in
theorem mm_41 : Cond.code yy_W_add bb_W_add 2 none ∈ ww_all := ww_m (List.mem_of_getElem? (i := 412) (rfl)) rfl
theorem mm_42 : Cond.initialized RR_W ∈ ww_all := ww_m (List.mem_of_getElem? (i := 4) (by decide +kernel)) rfl
theorem mm_43 : Cond.methodLink RR_P 108 yy_W_add ∈ ww_all := ww_m (List.mem_of_getElem? (i := 409) (by decide +kernel)) rfl
theorem mm_44 : Cond.instanceMethod yy_W_add ∈ ww_all := ww_m (List.mem_of_getElem? (i := 410) (by decide +kernel)) rfl
theorem mm_45 : Cond.selects RR_W yy_W_add yy_W_add ∈ ww_all := ww_m (List.mem_of_getElem? (i := 411) (by decide +kernel)) rfl
set_option maxRecDepth 20000 in
theorem mm_46 : Cond.code yy_P_addMoves bb_P_addMoves 8 none ∈ ww_all := ww_m (List.mem_of_getElem? (i := 399) (rfl)) rfl
theorem mm_47 : Cond.methodLink RR_P 83 yy_P_addMoves ∈ ww_all := ww_m (List.mem_of_getElem? (i := 396) (by decide +kernel)) rfl
theorem mm_48 : Cond.instanceMethod yy_P_addMoves ∈ ww_all := ww_m (List.mem_of_getElem? (i := 398) (by decide +kernel)) rfl
theorem mm_49 : Cond.selects RR_P yy_P_addMoves yy_P_addMoves ∈ ww_all := ww_s (List.mem_of_getElem? (i := 9) (by decide +kernel)) rfl
set_option maxRecDepth 20000 in
theorem mm_50 : Cond.code yy_P_targetsOfPawn bb_P_targetsOfPawn 7 (some .long) ∈ ww_all := ww_m (List.mem_of_getElem? (i := 387) (rfl)) rfl
theorem mm_51 : Cond.methodLink RR_P 112 yy_P_targetsOfPawn ∈ ww_all := ww_m (List.mem_of_getElem? (i := 384) (by decide +kernel)) rfl
theorem mm_52 : Cond.instanceMethod yy_P_targetsOfPawn ∈ ww_all := ww_m (List.mem_of_getElem? (i := 386) (by decide +kernel)) rfl
theorem mm_53 : Cond.selects RR_P yy_P_targetsOfPawn yy_P_targetsOfPawn ∈ ww_all := ww_s (List.mem_of_getElem? (i := 6) (by decide +kernel)) rfl
theorem mm_54 : Cond.fieldLink RR_P 39 "RuledBoard$Position" "WAY_RANKS" "[I" ∈ ww_all := ww_m (List.mem_of_getElem? (i := 180) (by decide +kernel)) rfl
theorem mm_55 : Cond.fieldLink RR_P 42 "RuledBoard$Position" "WAY_FILES" "[I" ∈ ww_all := ww_m (List.mem_of_getElem? (i := 178) (by decide +kernel)) rfl
theorem mm_56 : Cond.fieldLink RR_P 29 "RuledBoard$Position" "WAY_STEPS" "[I" ∈ ww_all := ww_m (List.mem_of_getElem? (i := 182) (by decide +kernel)) rfl
set_option maxRecDepth 20000 in
theorem mm_57 : Cond.code yy_P_stepsToBorder bb_P_stepsToBorder 6 (some .int) ∈ ww_all := ww_m (List.mem_of_getElem? (i := 177) (rfl)) rfl
theorem mm_58 : Cond.methodLink RR_P 25 yy_P_stepsToBorder ∈ ww_all := ww_m (List.mem_of_getElem? (i := 175) (by decide +kernel)) rfl
theorem mm_59 : Cond.static yy_P_stepsToBorder ∈ ww_all := ww_m (List.mem_of_getElem? (i := 176) (by decide +kernel)) rfl
theorem mm_60 : Cond.methodLink RR_P 123 Lib.Math.min.name ∈ ww_all := ww_m (List.mem_of_getElem? (i := 425) (by decide +kernel)) rfl
theorem mm_61 : Cond.static Lib.Math.min.name ∈ ww_all := ww_m (List.mem_of_getElem? (i := 426) (by decide +kernel)) rfl
theorem mm_62 : Cond.initialized "java/lang/Math" ∈ ww_all := ww_m (List.mem_of_getElem? (i := 6) (by decide +kernel)) rfl
set_option maxRecDepth 20000 in
theorem mm_63 : Cond.code Lib.Math.min.name Lib.Math.min.code 2 (some .int) ∈ ww_all := ww_m (List.mem_of_getElem? (i := 427) (rfl)) rfl
theorem mm_64 : Cond.fieldLink RR_P 45 "RuledBoard$Position" "JUMP_FILES" "[I" ∈ ww_all := ww_m (List.mem_of_getElem? (i := 190) (by decide +kernel)) rfl
theorem mm_65 : Cond.fieldLink RR_P 48 "RuledBoard$Position" "JUMP_RANKS" "[I" ∈ ww_all := ww_m (List.mem_of_getElem? (i := 192) (by decide +kernel)) rfl
set_option maxRecDepth 20000 in
theorem mm_66 : Cond.code yy_P_squareByJump bb_P_squareByJump 5 (some .int) ∈ ww_all := ww_m (List.mem_of_getElem? (i := 189) (rfl)) rfl
theorem mm_67 : Cond.methodLink RR_P 36 yy_P_squareByJump ∈ ww_all := ww_m (List.mem_of_getElem? (i := 187) (by decide +kernel)) rfl
theorem mm_68 : Cond.static yy_P_squareByJump ∈ ww_all := ww_m (List.mem_of_getElem? (i := 188) (by decide +kernel)) rfl
set_option maxRecDepth 20000 in
theorem mm_69 : Cond.code yy_P_targetsOfKnight bb_P_targetsOfKnight 6 (some .long) ∈ ww_all := ww_m (List.mem_of_getElem? (i := 420) (rfl)) rfl
theorem mm_70 : Cond.methodLink RR_P 116 yy_P_targetsOfKnight ∈ ww_all := ww_m (List.mem_of_getElem? (i := 417) (by decide +kernel)) rfl
theorem mm_71 : Cond.instanceMethod yy_P_targetsOfKnight ∈ ww_all := ww_m (List.mem_of_getElem? (i := 419) (by decide +kernel)) rfl
theorem mm_72 : Cond.selects RR_P yy_P_targetsOfKnight yy_P_targetsOfKnight ∈ ww_all := ww_s (List.mem_of_getElem? (i := 11) (by decide +kernel)) rfl
set_option maxRecDepth 20000 in
theorem mm_73 : Cond.code yy_P_targetsOnWays bb_P_targetsOnWays 12 (some .long) ∈ ww_all := ww_m (List.mem_of_getElem? (i := 424) (rfl)) rfl
theorem mm_74 : Cond.methodLink RR_P 119 yy_P_targetsOnWays ∈ ww_all := ww_m (List.mem_of_getElem? (i := 421) (by decide +kernel)) rfl
theorem mm_75 : Cond.instanceMethod yy_P_targetsOnWays ∈ ww_all := ww_m (List.mem_of_getElem? (i := 423) (by decide +kernel)) rfl
theorem mm_76 : Cond.selects RR_P yy_P_targetsOnWays yy_P_targetsOnWays ∈ ww_all := ww_s (List.mem_of_getElem? (i := 12) (by decide +kernel)) rfl
theorem mm_77 : Cond.fieldLink RR_P 147 "RuledBoard$Position" "rights" "I" ∈ ww_all := ww_m (List.mem_of_getElem? (i := 42) (by decide +kernel)) rfl
set_option maxRecDepth 20000 in
theorem mm_78 : Cond.code yy_P_comesAlong bb_P_comesAlong 4 (some .boolean) ∈ ww_all := ww_m (List.mem_of_getElem? (i := 186) (rfl)) rfl
theorem mm_79 : Cond.methodLink RR_P 32 yy_P_comesAlong ∈ ww_all := ww_m (List.mem_of_getElem? (i := 184) (by decide +kernel)) rfl
theorem mm_80 : Cond.static yy_P_comesAlong ∈ ww_all := ww_m (List.mem_of_getElem? (i := 185) (by decide +kernel)) rfl
set_option maxRecDepth 20000 in
theorem mm_81 : Cond.code yy_P_isHitBy bb_P_isHitBy 8 (some .boolean) ∈ ww_all := ww_m (List.mem_of_getElem? (i := 174) (rfl)) rfl
theorem mm_82 : Cond.methodLink RR_P 21 yy_P_isHitBy ∈ ww_all := ww_m (List.mem_of_getElem? (i := 171) (by decide +kernel)) rfl
theorem mm_83 : Cond.instanceMethod yy_P_isHitBy ∈ ww_all := ww_m (List.mem_of_getElem? (i := 172) (by decide +kernel)) rfl
theorem mm_84 : Cond.selects RR_P yy_P_isHitBy yy_P_isHitBy ∈ ww_all := ww_m (List.mem_of_getElem? (i := 173) (by decide +kernel)) rfl
set_option maxRecDepth 20000 in
theorem mm_85 : Cond.code yy_P_hasRight bb_P_hasRight 2 (some .boolean) ∈ ww_all := ww_m (List.mem_of_getElem? (i := 435) (rfl)) rfl
theorem mm_86 : Cond.methodLink RR_P 141 yy_P_hasRight ∈ ww_all := ww_m (List.mem_of_getElem? (i := 432) (by decide +kernel)) rfl
theorem mm_87 : Cond.instanceMethod yy_P_hasRight ∈ ww_all := ww_m (List.mem_of_getElem? (i := 434) (by decide +kernel)) rfl
theorem mm_88 : Cond.selects RR_P yy_P_hasRight yy_P_hasRight ∈ ww_all := ww_s (List.mem_of_getElem? (i := 14) (by decide +kernel)) rfl
set_option maxRecDepth 20000 in
theorem mm_89 : Cond.code yy_P_isEmpty bb_P_isEmpty 4 (some .boolean) ∈ ww_all := ww_m (List.mem_of_getElem? (i := 439) (rfl)) rfl
theorem mm_90 : Cond.methodLink RR_P 144 yy_P_isEmpty ∈ ww_all := ww_m (List.mem_of_getElem? (i := 436) (by decide +kernel)) rfl
theorem mm_91 : Cond.instanceMethod yy_P_isEmpty ∈ ww_all := ww_m (List.mem_of_getElem? (i := 438) (by decide +kernel)) rfl
theorem mm_92 : Cond.selects RR_P yy_P_isEmpty yy_P_isEmpty ∈ ww_all := ww_s (List.mem_of_getElem? (i := 15) (by decide +kernel)) rfl
theorem mm_93 : Cond.fieldLink RR_P 15 "RuledBoard$Position" "kings" "[I" ∈ ww_all := ww_m (List.mem_of_getElem? (i := 34) (by decide +kernel)) rfl
set_option maxRecDepth 20000 in
theorem mm_94 : Cond.code yy_P_targetsOfPiece bb_P_targetsOfPiece 3 (some .long) ∈ ww_all := ww_m (List.mem_of_getElem? (i := 416) (rfl)) rfl
theorem mm_95 : Cond.methodLink RR_P 75 yy_P_targetsOfPiece ∈ ww_all := ww_m (List.mem_of_getElem? (i := 413) (by decide +kernel)) rfl
theorem mm_96 : Cond.instanceMethod yy_P_targetsOfPiece ∈ ww_all := ww_m (List.mem_of_getElem? (i := 415) (by decide +kernel)) rfl
theorem mm_97 : Cond.selects RR_P yy_P_targetsOfPiece yy_P_targetsOfPiece ∈ ww_all := ww_s (List.mem_of_getElem? (i := 10) (by decide +kernel)) rfl
set_option maxRecDepth 20000 in
theorem mm_98 : Cond.code yy_P_castlingTargets bb_P_castlingTargets 6 (some .long) ∈ ww_all := ww_m (List.mem_of_getElem? (i := 431) (rfl)) rfl
theorem mm_99 : Cond.methodLink RR_P 79 yy_P_castlingTargets ∈ ww_all := ww_m (List.mem_of_getElem? (i := 428) (by decide +kernel)) rfl
theorem mm_100 : Cond.instanceMethod yy_P_castlingTargets ∈ ww_all := ww_m (List.mem_of_getElem? (i := 430) (by decide +kernel)) rfl
theorem mm_101 : Cond.selects RR_P yy_P_castlingTargets yy_P_castlingTargets ∈ ww_all := ww_s (List.mem_of_getElem? (i := 13) (by decide +kernel)) rfl
set_option maxRecDepth 20000 in
theorem mm_102 : Cond.code yy_P_addPawnMoves bb_P_addPawnMoves 10 none ∈ ww_all := ww_m (List.mem_of_getElem? (i := 383) (rfl)) rfl
theorem mm_103 : Cond.methodLink RR_P 71 yy_P_addPawnMoves ∈ ww_all := ww_m (List.mem_of_getElem? (i := 380) (by decide +kernel)) rfl
theorem mm_104 : Cond.instanceMethod yy_P_addPawnMoves ∈ ww_all := ww_m (List.mem_of_getElem? (i := 382) (by decide +kernel)) rfl
theorem mm_105 : Cond.selects RR_P yy_P_addPawnMoves yy_P_addPawnMoves ∈ ww_all := ww_s (List.mem_of_getElem? (i := 5) (by decide +kernel)) rfl
theorem mm_106 : Cond.fieldLink RR_P 55 "RuledBoard$MoveRow" "count" "I" ∈ ww_all := ww_m (List.mem_of_getElem? (i := 96) (by decide +kernel)) rfl
theorem mm_107 : Cond.methodLink RR_P 165 Lib.Math.abs.name ∈ ww_all := ww_m (List.mem_of_getElem? (i := 158) (by decide +kernel)) rfl
theorem mm_108 : Cond.static Lib.Math.abs.name ∈ ww_all := ww_m (List.mem_of_getElem? (i := 159) (by decide +kernel)) rfl
set_option maxRecDepth 20000 in
theorem mm_109 : Cond.code Lib.Math.abs.name Lib.Math.abs.code 1 (some .int) ∈ ww_all := ww_m (List.mem_of_getElem? (i := 160) (rfl)) rfl
set_option maxRecDepth 20000 in
theorem mm_110 : Cond.code yy_P_rightsTiedTo bb_P_rightsTiedTo 1 (some .int) ∈ ww_all := ww_m (List.mem_of_getElem? (i := 170) (rfl)) rfl
theorem mm_111 : Cond.methodLink RR_P 162 yy_P_rightsTiedTo ∈ ww_all := ww_m (List.mem_of_getElem? (i := 168) (by decide +kernel)) rfl
theorem mm_112 : Cond.static yy_P_rightsTiedTo ∈ ww_all := ww_m (List.mem_of_getElem? (i := 169) (by decide +kernel)) rfl
set_option maxRecDepth 20000 in
theorem mm_113 : Cond.code yy_P_isCastling bb_P_isCastling 2 (some .boolean) ∈ ww_all := ww_m (List.mem_of_getElem? (i := 157) (rfl)) rfl
theorem mm_114 : Cond.methodLink RR_P 153 yy_P_isCastling ∈ ww_all := ww_m (List.mem_of_getElem? (i := 155) (by decide +kernel)) rfl
theorem mm_115 : Cond.static yy_P_isCastling ∈ ww_all := ww_m (List.mem_of_getElem? (i := 156) (by decide +kernel)) rfl
set_option maxRecDepth 20000 in
theorem mm_116 : Cond.code yy_P_castlingCorner bb_P_castlingCorner 2 (some .int) ∈ ww_all := ww_m (List.mem_of_getElem? (i := 163) (rfl)) rfl
theorem mm_117 : Cond.methodLink RR_P 156 yy_P_castlingCorner ∈ ww_all := ww_m (List.mem_of_getElem? (i := 161) (by decide +kernel)) rfl
theorem mm_118 : Cond.static yy_P_castlingCorner ∈ ww_all := ww_m (List.mem_of_getElem? (i := 162) (by decide +kernel)) rfl
set_option maxRecDepth 20000 in
theorem mm_119 : Cond.code yy_P_shift bb_P_shift 3 none ∈ ww_all := ww_m (List.mem_of_getElem? (i := 167) (rfl)) rfl
theorem mm_120 : Cond.methodLink RR_P 159 yy_P_shift ∈ ww_all := ww_m (List.mem_of_getElem? (i := 164) (by decide +kernel)) rfl
theorem mm_121 : Cond.instanceMethod yy_P_shift ∈ ww_all := ww_m (List.mem_of_getElem? (i := 166) (by decide +kernel)) rfl
theorem mm_122 : Cond.selects RR_P yy_P_shift yy_P_shift ∈ ww_all := ww_s (List.mem_of_getElem? (i := 2) (by decide +kernel)) rfl
set_option maxRecDepth 20000 in
theorem mm_123 : Cond.code yy_P_besideOf bb_P_besideOf 2 (some .int) ∈ ww_all := ww_m (List.mem_of_getElem? (i := 154) (rfl)) rfl
theorem mm_124 : Cond.methodLink RR_P 150 yy_P_besideOf ∈ ww_all := ww_m (List.mem_of_getElem? (i := 152) (by decide +kernel)) rfl
theorem mm_125 : Cond.static yy_P_besideOf ∈ ww_all := ww_m (List.mem_of_getElem? (i := 153) (by decide +kernel)) rfl
set_option maxRecDepth 20000 in
theorem mm_126 : Cond.code yy_P_takeBack bb_P_takeBack 8 none ∈ ww_all := ww_m (List.mem_of_getElem? (i := 197) (rfl)) rfl
theorem mm_127 : Cond.methodLink RR_P 91 yy_P_takeBack ∈ ww_all := ww_m (List.mem_of_getElem? (i := 194) (by decide +kernel)) rfl
theorem mm_128 : Cond.instanceMethod yy_P_takeBack ∈ ww_all := ww_m (List.mem_of_getElem? (i := 195) (by decide +kernel)) rfl
theorem mm_129 : Cond.selects RR_P yy_P_takeBack yy_P_takeBack ∈ ww_all := ww_m (List.mem_of_getElem? (i := 196) (by decide +kernel)) rfl
set_option maxRecDepth 20000 in
theorem mm_130 : Cond.code yy_P_play bb_P_play 7 (some .int) ∈ ww_all := ww_m (List.mem_of_getElem? (i := 151) (rfl)) rfl
theorem mm_131 : Cond.methodLink RR_P 87 yy_P_play ∈ ww_all := ww_m (List.mem_of_getElem? (i := 148) (by decide +kernel)) rfl
theorem mm_132 : Cond.instanceMethod yy_P_play ∈ ww_all := ww_m (List.mem_of_getElem? (i := 149) (by decide +kernel)) rfl
theorem mm_133 : Cond.selects RR_P yy_P_play yy_P_play ∈ ww_all := ww_m (List.mem_of_getElem? (i := 150) (by decide +kernel)) rfl
theorem mm_134 : Cond.fieldLink RR_P 61 "RuledBoard$MoveRow" "codes" "[I" ∈ ww_all := ww_m (List.mem_of_getElem? (i := 92) (by decide +kernel)) rfl
set_option maxRecDepth 20000 in
theorem mm_135 : Cond.code yy_P_keepsKingSafe bb_P_keepsKingSafe 5 (some .boolean) ∈ ww_all := ww_m (List.mem_of_getElem? (i := 147) (rfl)) rfl
theorem mm_136 : Cond.methodLink RR_P 64 yy_P_keepsKingSafe ∈ ww_all := ww_m (List.mem_of_getElem? (i := 144) (by decide +kernel)) rfl
theorem mm_137 : Cond.instanceMethod yy_P_keepsKingSafe ∈ ww_all := ww_m (List.mem_of_getElem? (i := 145) (by decide +kernel)) rfl
theorem mm_138 : Cond.selects RR_P yy_P_keepsKingSafe yy_P_keepsKingSafe ∈ ww_all := ww_m (List.mem_of_getElem? (i := 146) (by decide +kernel)) rfl
set_option maxRecDepth 20000 in
theorem mm_139 : Cond.code yy_P_listCandidates bb_P_listCandidates 4 none ∈ ww_all := ww_m (List.mem_of_getElem? (i := 379) (rfl)) rfl
theorem mm_140 : Cond.methodLink RR_P 51 yy_P_listCandidates ∈ ww_all := ww_m (List.mem_of_getElem? (i := 376) (by decide +kernel)) rfl
theorem mm_141 : Cond.instanceMethod yy_P_listCandidates ∈ ww_all := ww_m (List.mem_of_getElem? (i := 377) (by decide +kernel)) rfl
theorem mm_142 : Cond.selects RR_P yy_P_listCandidates yy_P_listCandidates ∈ ww_all := ww_m (List.mem_of_getElem? (i := 378) (by decide +kernel)) rfl
theorem mm_143 : Cond.fieldLink RR_B 26 "RuledBoard" "row" "LRuledBoard$MoveRow;" ∈ ww_all := ww_m (List.mem_of_getElem? (i := 207) (by decide +kernel)) rfl
set_option maxRecDepth 20000 in
theorem mm_144 : Cond.code yy_P_listMoves bb_P_listMoves 4 (some .int) ∈ ww_all := ww_m (List.mem_of_getElem? (i := 375) (rfl)) rfl
theorem mm_145 : Cond.methodLink RR_B 80 yy_P_listMoves ∈ ww_all := ww_m (List.mem_of_getElem? (i := 372) (by decide +kernel)) rfl
theorem mm_146 : Cond.instanceMethod yy_P_listMoves ∈ ww_all := ww_m (List.mem_of_getElem? (i := 373) (by decide +kernel)) rfl
theorem mm_147 : Cond.selects RR_P yy_P_listMoves yy_P_listMoves ∈ ww_all := ww_m (List.mem_of_getElem? (i := 374) (by decide +kernel)) rfl
theorem mm_148 : Cond.methodLink RR_B 102 yy_B_codeOf ∈ ww_all := ww_m (List.mem_of_getElem? (i := 457) (by decide +kernel)) rfl
set_option maxRecDepth 20000 in
theorem mm_149 : Cond.code yy_W_holds bb_W_holds 3 (some .boolean) ∈ ww_all := ww_m (List.mem_of_getElem? (i := 461) (rfl)) rfl
theorem mm_150 : Cond.methodLink RR_B 173 yy_W_holds ∈ ww_all := ww_m (List.mem_of_getElem? (i := 458) (by decide +kernel)) rfl
theorem mm_151 : Cond.instanceMethod yy_W_holds ∈ ww_all := ww_m (List.mem_of_getElem? (i := 459) (by decide +kernel)) rfl
theorem mm_152 : Cond.selects RR_W yy_W_holds yy_W_holds ∈ ww_all := ww_m (List.mem_of_getElem? (i := 460) (by decide +kernel)) rfl
theorem mm_153 : Cond.fieldLink RR_B 19 "RuledBoard" "history" "LRuledBoard$History;" ∈ ww_all := ww_m (List.mem_of_getElem? (i := 206) (by decide +kernel)) rfl
theorem mm_154 : Cond.fieldLink RR_B 87 "RuledBoard$History" "made" "I" ∈ ww_all := ww_m (List.mem_of_getElem? (i := 69) (by decide +kernel)) rfl
theorem mm_155 : Cond.fieldLink RR_B 129 "RuledBoard$Position" "passed" "I" ∈ ww_all := ww_m (List.mem_of_getElem? (i := 43) (by decide +kernel)) rfl
theorem mm_156 : Cond.fieldLink RR_B 126 "RuledBoard$Position" "rights" "I" ∈ ww_all := ww_m (List.mem_of_getElem? (i := 41) (by decide +kernel)) rfl
theorem mm_157 : Cond.fieldLink RR_B 123 "RuledBoard$Position" "side" "I" ∈ ww_all := ww_m (List.mem_of_getElem? (i := 38) (by decide +kernel)) rfl
theorem mm_158 : Cond.fieldLink RR_H 28 "RuledBoard$History" "made" "I" ∈ ww_all := ww_m (List.mem_of_getElem? (i := 68) (by decide +kernel)) rfl
theorem mm_159 : Cond.fieldLink RR_H 19 "RuledBoard$History" "quiets" "[I" ∈ ww_all := ww_m (List.mem_of_getElem? (i := 65) (by decide +kernel)) rfl
theorem mm_160 : Cond.fieldLink RR_H 11 "RuledBoard$History" "boards" "[J" ∈ ww_all := ww_m (List.mem_of_getElem? (i := 63) (by decide +kernel)) rfl
theorem mm_161 : Cond.fieldLink RR_H 32 "RuledBoard$Position" "squares" "[I" ∈ ww_all := ww_m (List.mem_of_getElem? (i := 33) (by decide +kernel)) rfl
set_option maxRecDepth 20000 in
theorem mm_162 : Cond.code yy_H_wordOf bb_H_wordOf 5 (some .long) ∈ ww_all := ww_m (List.mem_of_getElem? (i := 204) (rfl)) rfl
theorem mm_163 : Cond.initialized RR_H ∈ ww_all := ww_m (List.mem_of_getElem? (i := 3) (by decide +kernel)) rfl
theorem mm_164 : Cond.methodLink RR_H 55 yy_H_wordOf ∈ ww_all := ww_m (List.mem_of_getElem? (i := 202) (by decide +kernel)) rfl
theorem mm_165 : Cond.static yy_H_wordOf ∈ ww_all := ww_m (List.mem_of_getElem? (i := 203) (by decide +kernel)) rfl
theorem mm_166 : Cond.fieldLink RR_H 15 "RuledBoard$History" "marks" "[I" ∈ ww_all := ww_m (List.mem_of_getElem? (i := 64) (by decide +kernel)) rfl
theorem mm_167 : Cond.fieldLink RR_H 37 "RuledBoard$Position" "side" "I" ∈ ww_all := ww_m (List.mem_of_getElem? (i := 37) (by decide +kernel)) rfl
theorem mm_168 : Cond.fieldLink RR_H 52 "RuledBoard$Position" "rights" "I" ∈ ww_all := ww_m (List.mem_of_getElem? (i := 40) (by decide +kernel)) rfl
theorem mm_169 : Cond.fieldLink RR_B 159 "RuledBoard$Position" "kings" "[I" ∈ ww_all := ww_m (List.mem_of_getElem? (i := 35) (by decide +kernel)) rfl
set_option maxRecDepth 20000 in
theorem mm_170 : Cond.code yy_P_squareOf bb_P_squareOf 3 (some .int) ∈ ww_all := ww_m (List.mem_of_getElem? (i := 128) (rfl)) rfl
theorem mm_171 : Cond.methodLink RR_B 162 yy_P_squareOf ∈ ww_all := ww_m (List.mem_of_getElem? (i := 125) (by decide +kernel)) rfl
theorem mm_172 : Cond.instanceMethod yy_P_squareOf ∈ ww_all := ww_m (List.mem_of_getElem? (i := 126) (by decide +kernel)) rfl
theorem mm_173 : Cond.selects RR_P yy_P_squareOf yy_P_squareOf ∈ ww_all := ww_m (List.mem_of_getElem? (i := 127) (by decide +kernel)) rfl
set_option maxRecDepth 20000 in
theorem mm_174 : Cond.code yy_H_start bb_H_start 1 none ∈ ww_all := ww_m (List.mem_of_getElem? (i := 132) (rfl)) rfl
theorem mm_175 : Cond.methodLink RR_B 166 yy_H_start ∈ ww_all := ww_m (List.mem_of_getElem? (i := 129) (by decide +kernel)) rfl
theorem mm_176 : Cond.instanceMethod yy_H_start ∈ ww_all := ww_m (List.mem_of_getElem? (i := 130) (by decide +kernel)) rfl
theorem mm_177 : Cond.selects RR_H yy_H_start yy_H_start ∈ ww_all := ww_m (List.mem_of_getElem? (i := 131) (by decide +kernel)) rfl
set_option maxRecDepth 20000 in
theorem mm_178 : Cond.code yy_P_passingMoves bb_P_passingMoves 5 (some .int) ∈ ww_all := ww_m (List.mem_of_getElem? (i := 136) (rfl)) rfl
theorem mm_179 : Cond.methodLink RR_B 110 yy_P_passingMoves ∈ ww_all := ww_m (List.mem_of_getElem? (i := 133) (by decide +kernel)) rfl
theorem mm_180 : Cond.instanceMethod yy_P_passingMoves ∈ ww_all := ww_m (List.mem_of_getElem? (i := 134) (by decide +kernel)) rfl
theorem mm_181 : Cond.selects RR_P yy_P_passingMoves yy_P_passingMoves ∈ ww_all := ww_m (List.mem_of_getElem? (i := 135) (by decide +kernel)) rfl
set_option maxRecDepth 20000 in
theorem mm_182 : Cond.code yy_H_notePosition bb_H_notePosition 4 none ∈ ww_all := ww_m (List.mem_of_getElem? (i := 201) (rfl)) rfl
theorem mm_183 : Cond.methodLink RR_B 114 yy_H_notePosition ∈ ww_all := ww_m (List.mem_of_getElem? (i := 198) (by decide +kernel)) rfl
theorem mm_184 : Cond.instanceMethod yy_H_notePosition ∈ ww_all := ww_m (List.mem_of_getElem? (i := 199) (by decide +kernel)) rfl
theorem mm_185 : Cond.selects RR_H yy_H_notePosition yy_H_notePosition ∈ ww_all := ww_m (List.mem_of_getElem? (i := 200) (by decide +kernel)) rfl
set_option maxRecDepth 20000 in
theorem mm_186 : Cond.code yy_B_isSide bb_B_isSide 1 (some .boolean) ∈ ww_all := ww_m (List.mem_of_getElem? (i := 359) (rfl)) rfl
theorem mm_187 : Cond.static yy_B_isSide ∈ ww_all := ww_m (List.mem_of_getElem? (i := 358) (by decide +kernel)) rfl
theorem mm_188 : Cond.fieldLink RR_G 13 "RuledBoard$Position" "squares" "[I" ∈ ww_all := ww_m (List.mem_of_getElem? (i := 32) (by decide +kernel)) rfl
set_option maxRecDepth 20000 in
theorem mm_189 : Cond.code yy_G_hasFairPieces bb_G_hasFairPieces 6 (some .boolean) ∈ ww_all := ww_m (List.mem_of_getElem? (i := 362) (rfl)) rfl
theorem mm_190 : Cond.initialized RR_G ∈ ww_all := ww_m (List.mem_of_getElem? (i := 14) (by decide +kernel)) rfl
theorem mm_191 : Cond.methodLink RR_G 19 yy_G_hasFairPieces ∈ ww_all := ww_m (List.mem_of_getElem? (i := 360) (by decide +kernel)) rfl
theorem mm_192 : Cond.static yy_G_hasFairPieces ∈ ww_all := ww_m (List.mem_of_getElem? (i := 361) (by decide +kernel)) rfl
theorem mm_193 : Cond.methodLink RR_G 25 yy_P_squareOf ∈ ww_all := ww_m (List.mem_of_getElem? (i := 363) (by decide +kernel)) rfl
theorem mm_194 : Cond.methodLink RR_G 29 yy_P_isHitBy ∈ ww_all := ww_m (List.mem_of_getElem? (i := 364) (by decide +kernel)) rfl
set_option maxRecDepth 20000 in
theorem mm_195 : Cond.code yy_G_areRightsFair bb_G_areRightsFair 2 (some .boolean) ∈ ww_all := ww_m (List.mem_of_getElem? (i := 367) (rfl)) rfl
theorem mm_196 : Cond.methodLink RR_G 33 yy_G_areRightsFair ∈ ww_all := ww_m (List.mem_of_getElem? (i := 365) (by decide +kernel)) rfl
theorem mm_197 : Cond.static yy_G_areRightsFair ∈ ww_all := ww_m (List.mem_of_getElem? (i := 366) (by decide +kernel)) rfl
set_option maxRecDepth 20000 in
theorem mm_198 : Cond.code yy_G_isPassedFair bb_G_isPassedFair 5 (some .boolean) ∈ ww_all := ww_m (List.mem_of_getElem? (i := 370) (rfl)) rfl
theorem mm_199 : Cond.methodLink RR_G 36 yy_G_isPassedFair ∈ ww_all := ww_m (List.mem_of_getElem? (i := 368) (by decide +kernel)) rfl
theorem mm_200 : Cond.static yy_G_isPassedFair ∈ ww_all := ww_m (List.mem_of_getElem? (i := 369) (by decide +kernel)) rfl
set_option maxRecDepth 20000 in
theorem mm_201 : Cond.code yy_H_isSameAsNow bb_H_isSameAsNow 4 (some .boolean) ∈ ww_all := ww_m (List.mem_of_getElem? (i := 538) (rfl)) rfl
theorem mm_202 : Cond.methodLink RR_H 48 yy_H_isSameAsNow ∈ ww_all := ww_m (List.mem_of_getElem? (i := 535) (by decide +kernel)) rfl
theorem mm_203 : Cond.instanceMethod yy_H_isSameAsNow ∈ ww_all := ww_m (List.mem_of_getElem? (i := 537) (by decide +kernel)) rfl
theorem mm_204 : Cond.selects RR_H yy_H_isSameAsNow yy_H_isSameAsNow ∈ ww_all := ww_s (List.mem_of_getElem? (i := 18) (by decide +kernel)) rfl
theorem mm_205 : Cond.fieldLink RR_H 22 "RuledBoard$History" "codes" "[I" ∈ ww_all := ww_m (List.mem_of_getElem? (i := 66) (by decide +kernel)) rfl
theorem mm_206 : Cond.fieldLink RR_H 25 "RuledBoard$History" "befores" "[I" ∈ ww_all := ww_m (List.mem_of_getElem? (i := 67) (by decide +kernel)) rfl
theorem mm_207 : Cond.methodLink RR_H 40 yy_P_play ∈ ww_all := ww_m (List.mem_of_getElem? (i := 467) (by decide +kernel)) rfl
theorem mm_208 : Cond.methodLink RR_H 44 yy_P_takeBack ∈ ww_all := ww_m (List.mem_of_getElem? (i := 480) (by decide +kernel)) rfl
theorem mm_209 : Cond.fieldLink RR_M 7 "RuledBoardModel" "board" "[I" ∈ ww_all := ww_m (List.mem_of_getElem? (i := 659) (by decide +kernel)) rfl
set_option maxRecDepth 20000 in
theorem mm_210 : Cond.code yy_M_sign bb_M_sign 1 (some .int) ∈ ww_all := ww_m (List.mem_of_getElem? (i := 621) (rfl)) rfl
theorem mm_211 : Cond.initialized RR_M ∈ ww_all := ww_m (List.mem_of_getElem? (i := 7) (by decide +kernel)) rfl
theorem mm_212 : Cond.methodLink RR_M 66 yy_M_sign ∈ ww_all := ww_m (List.mem_of_getElem? (i := 619) (by decide +kernel)) rfl
theorem mm_213 : Cond.static yy_M_sign ∈ ww_all := ww_m (List.mem_of_getElem? (i := 620) (by decide +kernel)) rfl
set_option maxRecDepth 20000 in
theorem mm_214 : Cond.code yy_M_free bb_M_free 5 (some .boolean) ∈ ww_all := ww_m (List.mem_of_getElem? (i := 618) (rfl)) rfl
theorem mm_215 : Cond.methodLink RR_M 79 yy_M_free ∈ ww_all := ww_m (List.mem_of_getElem? (i := 615) (by decide +kernel)) rfl
theorem mm_216 : Cond.instanceMethod yy_M_free ∈ ww_all := ww_m (List.mem_of_getElem? (i := 617) (by decide +kernel)) rfl
theorem mm_217 : Cond.selects RR_M yy_M_free yy_M_free ∈ ww_all := ww_s (List.mem_of_getElem? (i := 27) (by decide +kernel)) rfl
set_option maxRecDepth 20000 in
theorem mm_218 : Cond.code yy_M_ahead bb_M_ahead 1 (some .int) ∈ ww_all := ww_m (List.mem_of_getElem? (i := 586) (rfl)) rfl
theorem mm_219 : Cond.methodLink RR_M 76 yy_M_ahead ∈ ww_all := ww_m (List.mem_of_getElem? (i := 584) (by decide +kernel)) rfl
theorem mm_220 : Cond.static yy_M_ahead ∈ ww_all := ww_m (List.mem_of_getElem? (i := 585) (by decide +kernel)) rfl
set_option maxRecDepth 20000 in
theorem mm_221 : Cond.code yy_M_kindOf bb_M_kindOf 1 (some .int) ∈ ww_all := ww_m (List.mem_of_getElem? (i := 603) (rfl)) rfl
theorem mm_222 : Cond.methodLink RR_M 73 yy_M_kindOf ∈ ww_all := ww_m (List.mem_of_getElem? (i := 601) (by decide +kernel)) rfl
theorem mm_223 : Cond.static yy_M_kindOf ∈ ww_all := ww_m (List.mem_of_getElem? (i := 602) (by decide +kernel)) rfl
set_option maxRecDepth 20000 in
theorem mm_224 : Cond.code yy_M_size bb_M_size 1 (some .int) ∈ ww_all := ww_m (List.mem_of_getElem? (i := 614) (rfl)) rfl
theorem mm_225 : Cond.methodLink RR_M 70 yy_M_size ∈ ww_all := ww_m (List.mem_of_getElem? (i := 612) (by decide +kernel)) rfl
theorem mm_226 : Cond.static yy_M_size ∈ ww_all := ww_m (List.mem_of_getElem? (i := 613) (by decide +kernel)) rfl
theorem mm_227 : Cond.fieldLink RR_M 13 "RuledBoardModel" "passed" "I" ∈ ww_all := ww_m (List.mem_of_getElem? (i := 662) (by decide +kernel)) rfl
theorem mm_228 : Cond.fieldLink RR_M 95 "RuledBoardModel" "side" "I" ∈ ww_all := ww_m (List.mem_of_getElem? (i := 660) (by decide +kernel)) rfl
set_option maxRecDepth 20000 in
theorem mm_229 : Cond.code yy_M_reaches bb_M_reaches 7 (some .boolean) ∈ ww_all := ww_m (List.mem_of_getElem? (i := 611) (rfl)) rfl
theorem mm_230 : Cond.methodLink RR_M 86 yy_M_reaches ∈ ww_all := ww_m (List.mem_of_getElem? (i := 608) (by decide +kernel)) rfl
theorem mm_231 : Cond.instanceMethod yy_M_reaches ∈ ww_all := ww_m (List.mem_of_getElem? (i := 610) (by decide +kernel)) rfl
theorem mm_232 : Cond.selects RR_M yy_M_reaches yy_M_reaches ∈ ww_all := ww_s (List.mem_of_getElem? (i := 26) (by decide +kernel)) rfl
set_option maxRecDepth 20000 in
theorem mm_233 : Cond.code yy_M_passes bb_M_passes 3 (some .boolean) ∈ ww_all := ww_m (List.mem_of_getElem? (i := 625) (rfl)) rfl
theorem mm_234 : Cond.methodLink RR_M 102 yy_M_passes ∈ ww_all := ww_m (List.mem_of_getElem? (i := 622) (by decide +kernel)) rfl
theorem mm_235 : Cond.instanceMethod yy_M_passes ∈ ww_all := ww_m (List.mem_of_getElem? (i := 624) (by decide +kernel)) rfl
theorem mm_236 : Cond.selects RR_M yy_M_passes yy_M_passes ∈ ww_all := ww_s (List.mem_of_getElem? (i := 28) (by decide +kernel)) rfl
set_option maxRecDepth 20000 in
theorem mm_237 : Cond.code yy_M_outside bb_M_outside 3 (some .boolean) ∈ ww_all := ww_m (List.mem_of_getElem? (i := 589) (rfl)) rfl
theorem mm_238 : Cond.methodLink RR_M 98 yy_M_outside ∈ ww_all := ww_m (List.mem_of_getElem? (i := 587) (by decide +kernel)) rfl
theorem mm_239 : Cond.static yy_M_outside ∈ ww_all := ww_m (List.mem_of_getElem? (i := 588) (by decide +kernel)) rfl
set_option maxRecDepth 20000 in
theorem mm_240 : Cond.code yy_M_isOf bb_M_isOf 2 (some .boolean) ∈ ww_all := ww_m (List.mem_of_getElem? (i := 600) (rfl)) rfl
theorem mm_241 : Cond.methodLink RR_M 83 yy_M_isOf ∈ ww_all := ww_m (List.mem_of_getElem? (i := 598) (by decide +kernel)) rfl
theorem mm_242 : Cond.static yy_M_isOf ∈ ww_all := ww_m (List.mem_of_getElem? (i := 599) (by decide +kernel)) rfl
set_option maxRecDepth 20000 in
theorem mm_243 : Cond.code yy_M_kingOf bb_M_kingOf 4 (some .int) ∈ ww_all := ww_m (List.mem_of_getElem? (i := 637) (rfl)) rfl
theorem mm_244 : Cond.methodLink RR_M 89 yy_M_kingOf ∈ ww_all := ww_m (List.mem_of_getElem? (i := 634) (by decide +kernel)) rfl
theorem mm_245 : Cond.instanceMethod yy_M_kingOf ∈ ww_all := ww_m (List.mem_of_getElem? (i := 636) (by decide +kernel)) rfl
theorem mm_246 : Cond.selects RR_M yy_M_kingOf yy_M_kingOf ∈ ww_all := ww_s (List.mem_of_getElem? (i := 31) (by decide +kernel)) rfl
set_option maxRecDepth 20000 in
theorem mm_247 : Cond.code yy_M_isHit bb_M_isHit 5 (some .boolean) ∈ ww_all := ww_m (List.mem_of_getElem? (i := 641) (rfl)) rfl
theorem mm_248 : Cond.methodLink RR_M 92 yy_M_isHit ∈ ww_all := ww_m (List.mem_of_getElem? (i := 638) (by decide +kernel)) rfl
theorem mm_249 : Cond.instanceMethod yy_M_isHit ∈ ww_all := ww_m (List.mem_of_getElem? (i := 640) (by decide +kernel)) rfl
theorem mm_250 : Cond.selects RR_M yy_M_isHit yy_M_isHit ∈ ww_all := ww_s (List.mem_of_getElem? (i := 32) (by decide +kernel)) rfl
set_option maxRecDepth 20000 in
theorem mm_251 : Cond.code yy_M_isChecked bb_M_isChecked 2 (some .boolean) ∈ ww_all := ww_m (List.mem_of_getElem? (i := 633) (rfl)) rfl
theorem mm_252 : Cond.methodLink RR_M 105 yy_M_isChecked ∈ ww_all := ww_m (List.mem_of_getElem? (i := 630) (by decide +kernel)) rfl
theorem mm_253 : Cond.instanceMethod yy_M_isChecked ∈ ww_all := ww_m (List.mem_of_getElem? (i := 632) (by decide +kernel)) rfl
theorem mm_254 : Cond.selects RR_M yy_M_isChecked yy_M_isChecked ∈ ww_all := ww_s (List.mem_of_getElem? (i := 30) (by decide +kernel)) rfl
theorem mm_255 : Cond.fieldLink RR_M 53 "RuledBoardModel" "rights" "I" ∈ ww_all := ww_m (List.mem_of_getElem? (i := 661) (by decide +kernel)) rfl
set_option maxRecDepth 20000 in
theorem mm_256 : Cond.code yy_M_castles bb_M_castles 6 (some .boolean) ∈ ww_all := ww_m (List.mem_of_getElem? (i := 629) (rfl)) rfl
theorem mm_257 : Cond.methodLink RR_M 112 yy_M_castles ∈ ww_all := ww_m (List.mem_of_getElem? (i := 626) (by decide +kernel)) rfl
theorem mm_258 : Cond.instanceMethod yy_M_castles ∈ ww_all := ww_m (List.mem_of_getElem? (i := 628) (by decide +kernel)) rfl
theorem mm_259 : Cond.selects RR_M yy_M_castles yy_M_castles ∈ ww_all := ww_s (List.mem_of_getElem? (i := 29) (by decide +kernel)) rfl
set_option maxRecDepth 20000 in
theorem mm_260 : Cond.code yy_M_pawnGoes bb_M_pawnGoes 9 (some .boolean) ∈ ww_all := ww_m (List.mem_of_getElem? (i := 607) (rfl)) rfl
theorem mm_261 : Cond.methodLink RR_M 109 yy_M_pawnGoes ∈ ww_all := ww_m (List.mem_of_getElem? (i := 604) (by decide +kernel)) rfl
theorem mm_262 : Cond.instanceMethod yy_M_pawnGoes ∈ ww_all := ww_m (List.mem_of_getElem? (i := 606) (by decide +kernel)) rfl
theorem mm_263 : Cond.selects RR_M yy_M_pawnGoes yy_M_pawnGoes ∈ ww_all := ww_s (List.mem_of_getElem? (i := 25) (by decide +kernel)) rfl
theorem mm_264 : Cond.fieldLink RR_M 38 "RuledBoardModel" "keptSide" "[I" ∈ ww_all := ww_m (List.mem_of_getElem? (i := 672) (by decide +kernel)) rfl
theorem mm_265 : Cond.fieldLink RR_M 41 "RuledBoardModel" "keptRights" "[I" ∈ ww_all := ww_m (List.mem_of_getElem? (i := 673) (by decide +kernel)) rfl
theorem mm_266 : Cond.fieldLink RR_M 44 "RuledBoardModel" "keptPassed" "[I" ∈ ww_all := ww_m (List.mem_of_getElem? (i := 674) (by decide +kernel)) rfl
theorem mm_267 : Cond.fieldLink RR_M 47 "RuledBoardModel" "keptQuiet" "[I" ∈ ww_all := ww_m (List.mem_of_getElem? (i := 675) (by decide +kernel)) rfl
theorem mm_268 : Cond.fieldLink RR_M 115 "RuledBoardModel" "quiet" "I" ∈ ww_all := ww_m (List.mem_of_getElem? (i := 663) (by decide +kernel)) rfl
theorem mm_269 : Cond.fieldLink RR_M 35 "RuledBoardModel" "kept" "[I" ∈ ww_all := ww_m (List.mem_of_getElem? (i := 671) (by decide +kernel)) rfl
set_option maxRecDepth 20000 in
theorem mm_270 : Cond.code yy_M_rightsOf bb_M_rightsOf 1 (some .int) ∈ ww_all := ww_m (List.mem_of_getElem? (i := 652) (rfl)) rfl
theorem mm_271 : Cond.methodLink RR_M 118 yy_M_rightsOf ∈ ww_all := ww_m (List.mem_of_getElem? (i := 650) (by decide +kernel)) rfl
theorem mm_272 : Cond.static yy_M_rightsOf ∈ ww_all := ww_m (List.mem_of_getElem? (i := 651) (by decide +kernel)) rfl
set_option maxRecDepth 20000 in
theorem mm_273 : Cond.code yy_M_back bb_M_back 3 none ∈ ww_all := ww_m (List.mem_of_getElem? (i := 656) (rfl)) rfl
theorem mm_274 : Cond.methodLink RR_M 132 yy_M_back ∈ ww_all := ww_m (List.mem_of_getElem? (i := 653) (by decide +kernel)) rfl
theorem mm_275 : Cond.instanceMethod yy_M_back ∈ ww_all := ww_m (List.mem_of_getElem? (i := 655) (by decide +kernel)) rfl
theorem mm_276 : Cond.selects RR_M yy_M_back yy_M_back ∈ ww_all := ww_s (List.mem_of_getElem? (i := 35) (by decide +kernel)) rfl
set_option maxRecDepth 20000 in
theorem mm_277 : Cond.code yy_M_goes bb_M_goes 5 (some .boolean) ∈ ww_all := ww_m (List.mem_of_getElem? (i := 597) (rfl)) rfl
theorem mm_278 : Cond.methodLink RR_M 121 yy_M_goes ∈ ww_all := ww_m (List.mem_of_getElem? (i := 594) (by decide +kernel)) rfl
theorem mm_279 : Cond.instanceMethod yy_M_goes ∈ ww_all := ww_m (List.mem_of_getElem? (i := 596) (by decide +kernel)) rfl
theorem mm_280 : Cond.selects RR_M yy_M_goes yy_M_goes ∈ ww_all := ww_s (List.mem_of_getElem? (i := 24) (by decide +kernel)) rfl
set_option maxRecDepth 20000 in
theorem mm_281 : Cond.code yy_M_keep bb_M_keep 3 none ∈ ww_all := ww_m (List.mem_of_getElem? (i := 645) (rfl)) rfl
theorem mm_282 : Cond.methodLink RR_M 124 yy_M_keep ∈ ww_all := ww_m (List.mem_of_getElem? (i := 642) (by decide +kernel)) rfl
theorem mm_283 : Cond.instanceMethod yy_M_keep ∈ ww_all := ww_m (List.mem_of_getElem? (i := 644) (by decide +kernel)) rfl
theorem mm_284 : Cond.selects RR_M yy_M_keep yy_M_keep ∈ ww_all := ww_s (List.mem_of_getElem? (i := 33) (by decide +kernel)) rfl
set_option maxRecDepth 20000 in
theorem mm_285 : Cond.code yy_M_go bb_M_go 8 none ∈ ww_all := ww_m (List.mem_of_getElem? (i := 649) (rfl)) rfl
theorem mm_286 : Cond.methodLink RR_M 128 yy_M_go ∈ ww_all := ww_m (List.mem_of_getElem? (i := 646) (by decide +kernel)) rfl
theorem mm_287 : Cond.instanceMethod yy_M_go ∈ ww_all := ww_m (List.mem_of_getElem? (i := 648) (by decide +kernel)) rfl
theorem mm_288 : Cond.selects RR_M yy_M_go yy_M_go ∈ ww_all := ww_s (List.mem_of_getElem? (i := 34) (by decide +kernel)) rfl
set_option maxRecDepth 20000 in
theorem mm_289 : Cond.code yy_M_isMove bb_M_isMove 5 (some .boolean) ∈ ww_all := ww_m (List.mem_of_getElem? (i := 593) (rfl)) rfl
theorem mm_290 : Cond.methodLink RR_M 135 yy_M_isMove ∈ ww_all := ww_m (List.mem_of_getElem? (i := 590) (by decide +kernel)) rfl
theorem mm_291 : Cond.instanceMethod yy_M_isMove ∈ ww_all := ww_m (List.mem_of_getElem? (i := 592) (by decide +kernel)) rfl
theorem mm_292 : Cond.selects RR_M yy_M_isMove yy_M_isMove ∈ ww_all := ww_s (List.mem_of_getElem? (i := 23) (by decide +kernel)) rfl
theorem mm_293 : Cond.fieldLink RR_M 50 "RuledBoardModel" "list" "[I" ∈ ww_all := ww_m (List.mem_of_getElem? (i := 676) (by decide +kernel)) rfl
set_option maxRecDepth 20000 in
theorem mm_294 : Cond.code yy_M_make bb_M_make 3 none ∈ ww_all := ww_m (List.mem_of_getElem? (i := 741) (rfl)) rfl
theorem mm_295 : Cond.methodLink RR_M 141 yy_M_make ∈ ww_all := ww_m (List.mem_of_getElem? (i := 738) (by decide +kernel)) rfl
theorem mm_296 : Cond.instanceMethod yy_M_make ∈ ww_all := ww_m (List.mem_of_getElem? (i := 740) (by decide +kernel)) rfl
theorem mm_297 : Cond.selects RR_M yy_M_make yy_M_make ∈ ww_all := ww_s (List.mem_of_getElem? (i := 39) (by decide +kernel)) rfl
set_option maxRecDepth 20000 in
theorem mm_298 : Cond.code yy_M_anyMove bb_M_anyMove 4 (some .boolean) ∈ ww_all := ww_m (List.mem_of_getElem? (i := 745) (rfl)) rfl
theorem mm_299 : Cond.methodLink RR_M 145 yy_M_anyMove ∈ ww_all := ww_m (List.mem_of_getElem? (i := 742) (by decide +kernel)) rfl
theorem mm_300 : Cond.instanceMethod yy_M_anyMove ∈ ww_all := ww_m (List.mem_of_getElem? (i := 744) (by decide +kernel)) rfl
theorem mm_301 : Cond.selects RR_M yy_M_anyMove yy_M_anyMove ∈ ww_all := ww_s (List.mem_of_getElem? (i := 40) (by decide +kernel)) rfl
set_option maxRecDepth 20000 in
theorem mm_302 : Cond.code yy_M_collect bb_M_collect 7 (some .int) ∈ ww_all := ww_m (List.mem_of_getElem? (i := 737) (rfl)) rfl
theorem mm_303 : Cond.methodLink RR_M 138 yy_M_collect ∈ ww_all := ww_m (List.mem_of_getElem? (i := 734) (by decide +kernel)) rfl
theorem mm_304 : Cond.instanceMethod yy_M_collect ∈ ww_all := ww_m (List.mem_of_getElem? (i := 736) (by decide +kernel)) rfl
theorem mm_305 : Cond.selects RR_M yy_M_collect yy_M_collect ∈ ww_all := ww_s (List.mem_of_getElem? (i := 38) (by decide +kernel)) rfl
set_option maxRecDepth 20000 in
theorem mm_306 : Cond.code yy_M_matesAtOnce bb_M_matesAtOnce 5 (some .boolean) ∈ ww_all := ww_m (List.mem_of_getElem? (i := 733) (rfl)) rfl
theorem mm_307 : Cond.methodLink RR_M 149 yy_M_matesAtOnce ∈ ww_all := ww_m (List.mem_of_getElem? (i := 730) (by decide +kernel)) rfl
theorem mm_308 : Cond.instanceMethod yy_M_matesAtOnce ∈ ww_all := ww_m (List.mem_of_getElem? (i := 732) (by decide +kernel)) rfl
theorem mm_309 : Cond.selects RR_M yy_M_matesAtOnce yy_M_matesAtOnce ∈ ww_all := ww_s (List.mem_of_getElem? (i := 37) (by decide +kernel)) rfl
theorem mm_310 : Cond.fieldLink RR_M 63 "RuledBoardModel" "thrown" "I" ∈ ww_all := ww_m (List.mem_of_getElem? (i := 657) (by decide +kernel)) rfl
set_option maxRecDepth 20000 in
theorem mm_311 : Cond.code yy_M_many bb_M_many 5 (some .int) ∈ ww_all := ww_m (List.mem_of_getElem? (i := 773) (rfl)) rfl
theorem mm_312 : Cond.methodLink RR_M 168 yy_M_many ∈ ww_all := ww_m (List.mem_of_getElem? (i := 770) (by decide +kernel)) rfl
theorem mm_313 : Cond.instanceMethod yy_M_many ∈ ww_all := ww_m (List.mem_of_getElem? (i := 772) (by decide +kernel)) rfl
theorem mm_314 : Cond.selects RR_M yy_M_many yy_M_many ∈ ww_all := ww_s (List.mem_of_getElem? (i := 44) (by decide +kernel)) rfl
theorem mm_315 : Cond.fieldLink RR_M 20 "RuledBoardModel" "pastSide" "[I" ∈ ww_all := ww_m (List.mem_of_getElem? (i := 666) (by decide +kernel)) rfl
theorem mm_316 : Cond.fieldLink RR_M 161 "RuledBoardModel" "made" "I" ∈ ww_all := ww_m (List.mem_of_getElem? (i := 664) (by decide +kernel)) rfl
theorem mm_317 : Cond.fieldLink RR_M 23 "RuledBoardModel" "pastRights" "[I" ∈ ww_all := ww_m (List.mem_of_getElem? (i := 667) (by decide +kernel)) rfl
theorem mm_318 : Cond.fieldLink RR_M 26 "RuledBoardModel" "pastPassing" "[I" ∈ ww_all := ww_m (List.mem_of_getElem? (i := 668) (by decide +kernel)) rfl
set_option maxRecDepth 20000 in
theorem mm_319 : Cond.code yy_M_passing bb_M_passing 7 (some .int) ∈ ww_all := ww_m (List.mem_of_getElem? (i := 583) (rfl)) rfl
theorem mm_320 : Cond.methodLink RR_M 164 yy_M_passing ∈ ww_all := ww_m (List.mem_of_getElem? (i := 580) (by decide +kernel)) rfl
theorem mm_321 : Cond.instanceMethod yy_M_passing ∈ ww_all := ww_m (List.mem_of_getElem? (i := 582) (by decide +kernel)) rfl
theorem mm_322 : Cond.selects RR_M yy_M_passing yy_M_passing ∈ ww_all := ww_s (List.mem_of_getElem? (i := 22) (by decide +kernel)) rfl
theorem mm_323 : Cond.fieldLink RR_M 29 "RuledBoardModel" "pastPassed" "[I" ∈ ww_all := ww_m (List.mem_of_getElem? (i := 669) (by decide +kernel)) rfl
theorem mm_324 : Cond.fieldLink RR_M 32 "RuledBoardModel" "pastQuiet" "[I" ∈ ww_all := ww_m (List.mem_of_getElem? (i := 670) (by decide +kernel)) rfl
theorem mm_325 : Cond.fieldLink RR_M 17 "RuledBoardModel" "past" "[I" ∈ ww_all := ww_m (List.mem_of_getElem? (i := 665) (by decide +kernel)) rfl
set_option maxRecDepth 20000 in
theorem mm_326 : Cond.code yy_M_refused bb_M_refused 2 (some .boolean) ∈ ww_all := ww_m (List.mem_of_getElem? (i := 729) (rfl)) rfl
theorem mm_327 : Cond.methodLink RR_M 155 yy_M_refused ∈ ww_all := ww_m (List.mem_of_getElem? (i := 726) (by decide +kernel)) rfl
theorem mm_328 : Cond.instanceMethod yy_M_refused ∈ ww_all := ww_m (List.mem_of_getElem? (i := 728) (by decide +kernel)) rfl
theorem mm_329 : Cond.selects RR_M yy_M_refused yy_M_refused ∈ ww_all := ww_s (List.mem_of_getElem? (i := 36) (by decide +kernel)) rfl
theorem mm_330 : Cond.fieldLink RR_M 56 "RuledBoardModel" "plays" "Z" ∈ ww_all := ww_m (List.mem_of_getElem? (i := 658) (by decide +kernel)) rfl
set_option maxRecDepth 20000 in
theorem mm_331 : Cond.code yy_M_note bb_M_note 2 none ∈ ww_all := ww_m (List.mem_of_getElem? (i := 579) (rfl)) rfl
theorem mm_332 : Cond.methodLink RR_M 60 yy_M_note ∈ ww_all := ww_m (List.mem_of_getElem? (i := 576) (by decide +kernel)) rfl
theorem mm_333 : Cond.instanceMethod yy_M_note ∈ ww_all := ww_m (List.mem_of_getElem? (i := 578) (by decide +kernel)) rfl
theorem mm_334 : Cond.selects RR_M yy_M_note yy_M_note ∈ ww_all := ww_s (List.mem_of_getElem? (i := 21) (by decide +kernel)) rfl
set_option maxRecDepth 20000 in
theorem mm_335 : Cond.code yy_M_isCrowd bb_M_isCrowd 3 (some .boolean) ∈ ww_all := ww_m (List.mem_of_getElem? (i := 769) (rfl)) rfl
theorem mm_336 : Cond.methodLink RR_M 172 yy_M_isCrowd ∈ ww_all := ww_m (List.mem_of_getElem? (i := 766) (by decide +kernel)) rfl
theorem mm_337 : Cond.instanceMethod yy_M_isCrowd ∈ ww_all := ww_m (List.mem_of_getElem? (i := 768) (by decide +kernel)) rfl
theorem mm_338 : Cond.selects RR_M yy_M_isCrowd yy_M_isCrowd ∈ ww_all := ww_s (List.mem_of_getElem? (i := 43) (by decide +kernel)) rfl
set_option maxRecDepth 20000 in
theorem mm_339 : Cond.code yy_M_areRights bb_M_areRights 6 (some .boolean) ∈ ww_all := ww_m (List.mem_of_getElem? (i := 777) (rfl)) rfl
theorem mm_340 : Cond.methodLink RR_M 175 yy_M_areRights ∈ ww_all := ww_m (List.mem_of_getElem? (i := 774) (by decide +kernel)) rfl
theorem mm_341 : Cond.instanceMethod yy_M_areRights ∈ ww_all := ww_m (List.mem_of_getElem? (i := 776) (by decide +kernel)) rfl
theorem mm_342 : Cond.selects RR_M yy_M_areRights yy_M_areRights ∈ ww_all := ww_s (List.mem_of_getElem? (i := 45) (by decide +kernel)) rfl
set_option maxRecDepth 20000 in
theorem mm_343 : Cond.code yy_M_isPassed bb_M_isPassed 5 (some .boolean) ∈ ww_all := ww_m (List.mem_of_getElem? (i := 781) (rfl)) rfl
theorem mm_344 : Cond.methodLink RR_M 178 yy_M_isPassed ∈ ww_all := ww_m (List.mem_of_getElem? (i := 778) (by decide +kernel)) rfl
theorem mm_345 : Cond.instanceMethod yy_M_isPassed ∈ ww_all := ww_m (List.mem_of_getElem? (i := 780) (by decide +kernel)) rfl
theorem mm_346 : Cond.selects RR_M yy_M_isPassed yy_M_isPassed ∈ ww_all := ww_s (List.mem_of_getElem? (i := 46) (by decide +kernel)) rfl
set_option maxRecDepth 20000 in
theorem mm_347 : Cond.code yy_M_allMated bb_M_allMated 4 (some .boolean) ∈ ww_all := ww_m (List.mem_of_getElem? (i := 753) (rfl)) rfl
theorem mm_348 : Cond.methodLink RR_M 152 yy_M_allMated ∈ ww_all := ww_m (List.mem_of_getElem? (i := 750) (by decide +kernel)) rfl
theorem mm_349 : Cond.instanceMethod yy_M_allMated ∈ ww_all := ww_m (List.mem_of_getElem? (i := 752) (by decide +kernel)) rfl
theorem mm_350 : Cond.selects RR_M yy_M_allMated yy_M_allMated ∈ ww_all := ww_s (List.mem_of_getElem? (i := 42) (by decide +kernel)) rfl
set_option maxRecDepth 20000 in
theorem mm_351 : Cond.code yy_M_matesInTwo bb_M_matesInTwo 4 (some .boolean) ∈ ww_all := ww_m (List.mem_of_getElem? (i := 749) (rfl)) rfl
theorem mm_352 : Cond.methodLink RR_M 158 yy_M_matesInTwo ∈ ww_all := ww_m (List.mem_of_getElem? (i := 746) (by decide +kernel)) rfl
theorem mm_353 : Cond.instanceMethod yy_M_matesInTwo ∈ ww_all := ww_m (List.mem_of_getElem? (i := 748) (by decide +kernel)) rfl
theorem mm_354 : Cond.selects RR_M yy_M_matesInTwo yy_M_matesInTwo ∈ ww_all := ww_s (List.mem_of_getElem? (i := 41) (by decide +kernel)) rfl
set_option maxRecDepth 20000 in
theorem mm_355 : Cond.code yy_M_same bb_M_same 5 (some .boolean) ∈ ww_all := ww_m (List.mem_of_getElem? (i := 837) (rfl)) rfl
theorem mm_356 : Cond.methodLink RR_M 181 yy_M_same ∈ ww_all := ww_m (List.mem_of_getElem? (i := 834) (by decide +kernel)) rfl
theorem mm_357 : Cond.instanceMethod yy_M_same ∈ ww_all := ww_m (List.mem_of_getElem? (i := 836) (by decide +kernel)) rfl
theorem mm_358 : Cond.selects RR_M yy_M_same yy_M_same ∈ ww_all := ww_s (List.mem_of_getElem? (i := 47) (by decide +kernel)) rfl
theorem mm_359 : Cond.fieldLink RR_P 18 "RuledBoard$Position" "HOME_ROW" "[I" ∈ ww_all := ww_m (List.mem_of_getElem? (i := 119) (by decide +kernel)) rfl
theorem mm_360 : Cond.fieldLink RR_S 10 "RuledBoard$MateSearch" "rows" "[LRuledBoard$MoveRow;" ∈ ww_all := ww_m (List.mem_of_getElem? (i := 111) (by decide +kernel)) rfl
theorem mm_361 : Cond.fieldLink RR_S 29 "RuledBoard$MoveRow" "codes" "[I" ∈ ww_all := ww_m (List.mem_of_getElem? (i := 91) (by decide +kernel)) rfl
theorem mm_362 : Cond.methodLink RR_S 45 yy_P_takeBack ∈ ww_all := ww_m (List.mem_of_getElem? (i := 569) (by decide +kernel)) rfl
set_option maxRecDepth 20000 in
theorem mm_363 : Cond.code yy_S_forcesMate bb_S_forcesMate 9 (some .boolean) ∈ ww_all := ww_m (List.mem_of_getElem? (i := 560) (rfl)) rfl
theorem mm_364 : Cond.initialized RR_S ∈ ww_all := ww_m (List.mem_of_getElem? (i := 5) (by decide +kernel)) rfl
theorem mm_365 : Cond.methodLink RR_S 49 yy_S_forcesMate ∈ ww_all := ww_m (List.mem_of_getElem? (i := 568) (by decide +kernel)) rfl
theorem mm_366 : Cond.instanceMethod yy_S_forcesMate ∈ ww_all := ww_m (List.mem_of_getElem? (i := 559) (by decide +kernel)) rfl
theorem mm_367 : Cond.selects RR_S yy_S_forcesMate yy_S_forcesMate ∈ ww_all := ww_s (List.mem_of_getElem? (i := 19) (by decide +kernel)) rfl
theorem mm_368 : Cond.fieldLink RR_S 26 "RuledBoard$MoveRow" "count" "I" ∈ ww_all := ww_m (List.mem_of_getElem? (i := 95) (by decide +kernel)) rfl
set_option maxRecDepth 20000 in
theorem mm_369 : Cond.code yy_P_isInCheck bb_P_isInCheck 2 (some .boolean) ∈ ww_all := ww_m (List.mem_of_getElem? (i := 505) (rfl)) rfl
theorem mm_370 : Cond.methodLink RR_S 37 yy_P_isInCheck ∈ ww_all := ww_m (List.mem_of_getElem? (i := 563) (by decide +kernel)) rfl
theorem mm_371 : Cond.instanceMethod yy_P_isInCheck ∈ ww_all := ww_m (List.mem_of_getElem? (i := 503) (by decide +kernel)) rfl
theorem mm_372 : Cond.selects RR_P yy_P_isInCheck yy_P_isInCheck ∈ ww_all := ww_m (List.mem_of_getElem? (i := 504) (by decide +kernel)) rfl
theorem mm_373 : Cond.methodLink RR_S 33 yy_P_play ∈ ww_all := ww_m (List.mem_of_getElem? (i := 562) (by decide +kernel)) rfl
theorem mm_374 : Cond.methodLink RR_S 16 yy_P_listCandidates ∈ ww_all := ww_m (List.mem_of_getElem? (i := 561) (by decide +kernel)) rfl
theorem mm_375 : Cond.fieldLink RR_S 22 "RuledBoard$Position" "side" "I" ∈ ww_all := ww_m (List.mem_of_getElem? (i := 36) (by decide +kernel)) rfl
set_option maxRecDepth 20000 in
theorem mm_376 : Cond.code yy_S_isLost bb_S_isLost 11 (some .boolean) ∈ ww_all := ww_m (List.mem_of_getElem? (i := 567) (rfl)) rfl
theorem mm_377 : Cond.methodLink RR_S 41 yy_S_isLost ∈ ww_all := ww_m (List.mem_of_getElem? (i := 564) (by decide +kernel)) rfl
theorem mm_378 : Cond.instanceMethod yy_S_isLost ∈ ww_all := ww_m (List.mem_of_getElem? (i := 566) (by decide +kernel)) rfl
theorem mm_379 : Cond.selects RR_S yy_S_isLost yy_S_isLost ∈ ww_all := ww_s (List.mem_of_getElem? (i := 20) (by decide +kernel)) rfl
theorem mm_380 : Cond.methodLink RR_P 3 objectInit ∈ ww_all := ww_m (List.mem_of_getElem? (i := 29) (by decide +kernel)) rfl
theorem mm_381 : Cond.instanceMethod objectInit ∈ ww_all := ww_m (List.mem_of_getElem? (i := 22) (by decide +kernel)) rfl
set_option maxRecDepth 20000 in
theorem mm_382 : Cond.code objectInit ⟨#[0xb1]⟩ 1 none ∈ ww_all := ww_m (List.mem_of_getElem? (i := 23) (rfl)) rfl
theorem mm_383 : Cond.arrayClass .int ∈ ww_all := ww_m (List.mem_of_getElem? (i := 56) (by decide +kernel)) rfl
theorem mm_384 : Cond.methodLink RR_W 3 objectInit ∈ ww_all := ww_m (List.mem_of_getElem? (i := 89) (by decide +kernel)) rfl
theorem mm_385 : Cond.methodLink RR_H 3 objectInit ∈ ww_all := ww_m (List.mem_of_getElem? (i := 62) (by decide +kernel)) rfl
theorem mm_386 : Cond.arrayClass .long ∈ ww_all := ww_m (List.mem_of_getElem? (i := 83) (by decide +kernel)) rfl
theorem mm_387 : Cond.methodLink RR_S 1 objectInit ∈ ww_all := ww_m (List.mem_of_getElem? (i := 107) (by decide +kernel)) rfl
theorem mm_388 : Cond.classLink RR_S 7 RR_W ∈ ww_all := ww_m (List.mem_of_getElem? (i := 108) (by decide +kernel)) rfl
theorem mm_389 : Cond.instantiable RR_W 2 ∈ ww_all := ww_m (List.mem_of_getElem? (i := 85) (by decide +kernel)) rfl
theorem mm_390 : Cond.instanceMethod yy_W_init ∈ ww_all := ww_m (List.mem_of_getElem? (i := 87) (by decide +kernel)) rfl
set_option maxRecDepth 20000 in
theorem mm_391 : Cond.code yy_W_init bb_W_init 1 none ∈ ww_all := ww_m (List.mem_of_getElem? (i := 88) (rfl)) rfl
theorem mm_392 : Cond.methodLink RR_B 1 objectInit ∈ ww_all := ww_m (List.mem_of_getElem? (i := 21) (by decide +kernel)) rfl
theorem mm_393 : Cond.classLink RR_B 7 RR_P ∈ ww_all := ww_m (List.mem_of_getElem? (i := 24) (by decide +kernel)) rfl
theorem mm_394 : Cond.instantiable RR_P 5 ∈ ww_all := ww_m (List.mem_of_getElem? (i := 25) (by decide +kernel)) rfl
theorem mm_395 : Cond.instanceMethod yy_P_init ∈ ww_all := ww_m (List.mem_of_getElem? (i := 27) (by decide +kernel)) rfl
set_option maxRecDepth 20000 in
theorem mm_396 : Cond.code yy_P_init bb_P_init 1 none ∈ ww_all := ww_m (List.mem_of_getElem? (i := 28) (rfl)) rfl
theorem mm_397 : Cond.classLink RR_B 16 RR_H ∈ ww_all := ww_m (List.mem_of_getElem? (i := 57) (by decide +kernel)) rfl
theorem mm_398 : Cond.instantiable RR_H 6 ∈ ww_all := ww_m (List.mem_of_getElem? (i := 58) (by decide +kernel)) rfl
theorem mm_399 : Cond.instanceMethod yy_H_init ∈ ww_all := ww_m (List.mem_of_getElem? (i := 60) (by decide +kernel)) rfl
set_option maxRecDepth 20000 in
theorem mm_400 : Cond.code yy_H_init bb_H_init 1 none ∈ ww_all := ww_m (List.mem_of_getElem? (i := 61) (rfl)) rfl
theorem mm_401 : Cond.classLink RR_B 23 RR_W ∈ ww_all := ww_m (List.mem_of_getElem? (i := 84) (by decide +kernel)) rfl
theorem mm_402 : Cond.classLink RR_B 30 RR_S ∈ ww_all := ww_m (List.mem_of_getElem? (i := 102) (by decide +kernel)) rfl
theorem mm_403 : Cond.instantiable RR_S 1 ∈ ww_all := ww_m (List.mem_of_getElem? (i := 103) (by decide +kernel)) rfl
theorem mm_404 : Cond.instanceMethod yy_S_init ∈ ww_all := ww_m (List.mem_of_getElem? (i := 105) (by decide +kernel)) rfl
set_option maxRecDepth 20000 in
theorem mm_405 : Cond.code yy_S_init bb_S_init 1 none ∈ ww_all := ww_m (List.mem_of_getElem? (i := 106) (rfl)) rfl
theorem mm_406 : Cond.fieldLink RR_B 33 "RuledBoard" "search" "LRuledBoard$MateSearch;" ∈ ww_all := ww_m (List.mem_of_getElem? (i := 208) (by decide +kernel)) rfl
set_option maxRecDepth 20000 in
theorem mm_407 : Cond.code yy_P_putHomePieces bb_P_putHomePieces 2 none ∈ ww_all := ww_m (List.mem_of_getElem? (i := 118) (rfl)) rfl
theorem mm_408 : Cond.methodLink RR_B 37 yy_P_putHomePieces ∈ ww_all := ww_m (List.mem_of_getElem? (i := 115) (by decide +kernel)) rfl
theorem mm_409 : Cond.instanceMethod yy_P_putHomePieces ∈ ww_all := ww_m (List.mem_of_getElem? (i := 116) (by decide +kernel)) rfl
theorem mm_410 : Cond.selects RR_P yy_P_putHomePieces yy_P_putHomePieces ∈ ww_all := ww_m (List.mem_of_getElem? (i := 117) (by decide +kernel)) rfl
set_option maxRecDepth 20000 in
theorem mm_411 : Cond.code yy_B_startPlay bb_B_startPlay 4 none ∈ ww_all := ww_m (List.mem_of_getElem? (i := 124) (rfl)) rfl
theorem mm_412 : Cond.methodLink RR_B 40 yy_B_startPlay ∈ ww_all := ww_m (List.mem_of_getElem? (i := 121) (by decide +kernel)) rfl
theorem mm_413 : Cond.instanceMethod yy_B_startPlay ∈ ww_all := ww_m (List.mem_of_getElem? (i := 123) (by decide +kernel)) rfl
theorem mm_414 : Cond.selects RR_B yy_B_startPlay yy_B_startPlay ∈ ww_all := ww_s (List.mem_of_getElem? (i := 0) (by decide +kernel)) rfl
theorem mm_415 : Cond.methodLink RR_M 1 objectInit ∈ ww_all := ww_m (List.mem_of_getElem? (i := 575) (by decide +kernel)) rfl
theorem nm_0 : Cond.methodLinkNest RR_P 104 yy_B_codeOf "RuledBoard" ∈ qq_nest := ww_n (List.mem_of_getElem? (i := 141) (by decide +kernel)) rfl
theorem nm_1 : Cond.methodLinkNest RR_G 9 yy_B_isSide "RuledBoard" ∈ qq_nest := ww_n (List.mem_of_getElem? (i := 357) (by decide +kernel)) rfl
theorem nm_2 : Cond.methodLinkNest RR_S 9 yy_W_init "RuledBoard" ∈ qq_nest := ww_n (List.mem_of_getElem? (i := 110) (by decide +kernel)) rfl
theorem nm_3 : Cond.methodLinkNest RR_B 9 yy_P_init "RuledBoard" ∈ qq_nest := ww_n (List.mem_of_getElem? (i := 26) (by decide +kernel)) rfl
theorem nm_4 : Cond.methodLinkNest RR_B 18 yy_H_init "RuledBoard" ∈ qq_nest := ww_n (List.mem_of_getElem? (i := 59) (by decide +kernel)) rfl
theorem nm_5 : Cond.methodLinkNest RR_B 25 yy_W_init "RuledBoard" ∈ qq_nest := ww_n (List.mem_of_getElem? (i := 86) (by decide +kernel)) rfl
theorem nm_6 : Cond.methodLinkNest RR_B 32 yy_S_init "RuledBoard" ∈ qq_nest := ww_n (List.mem_of_getElem? (i := 104) (by decide +kernel)) rfl
theorem uu_B : ∀ w ∈ u_ws RR_B FF_B 5, w ∈ ww_all := by
  intro w hw
  have h : w ∈ [Cond.laysFinal "RuledBoard" "RuledBoard" "position" "LRuledBoard$Position;", Cond.laysFinal "RuledBoard" "RuledBoard" "history" "LRuledBoard$History;", Cond.laysFinal "RuledBoard" "RuledBoard" "row" "LRuledBoard$MoveRow;", Cond.laysFinal "RuledBoard" "RuledBoard" "search" "LRuledBoard$MateSearch;", Cond.lays "RuledBoard" "RuledBoard" "playing" "Z"] := hw
  simp only [List.mem_cons, List.not_mem_nil, or_false] at h
  rcases h with rfl | rfl | rfl | rfl | rfl
  · exact ww_m (List.mem_of_getElem? (i := 210) (by decide +kernel)) rfl
  · exact ww_m (List.mem_of_getElem? (i := 212) (by decide +kernel)) rfl
  · exact ww_m (List.mem_of_getElem? (i := 214) (by decide +kernel)) rfl
  · exact ww_m (List.mem_of_getElem? (i := 216) (by decide +kernel)) rfl
  · exact ww_m (List.mem_of_getElem? (i := 218) (by decide +kernel)) rfl
theorem uu_P : ∀ w ∈ u_ws RR_P FF_P 5, w ∈ ww_all := by
  intro w hw
  have h : w ∈ [Cond.laysFinal "RuledBoard$Position" "RuledBoard$Position" "squares" "[I", Cond.laysFinal "RuledBoard$Position" "RuledBoard$Position" "kings" "[I", Cond.lays "RuledBoard$Position" "RuledBoard$Position" "side" "I", Cond.lays "RuledBoard$Position" "RuledBoard$Position" "rights" "I", Cond.lays "RuledBoard$Position" "RuledBoard$Position" "passed" "I"] := hw
  simp only [List.mem_cons, List.not_mem_nil, or_false] at h
  rcases h with rfl | rfl | rfl | rfl | rfl
  · exact ww_m (List.mem_of_getElem? (i := 45) (by decide +kernel)) rfl
  · exact ww_m (List.mem_of_getElem? (i := 47) (by decide +kernel)) rfl
  · exact ww_m (List.mem_of_getElem? (i := 49) (by decide +kernel)) rfl
  · exact ww_m (List.mem_of_getElem? (i := 51) (by decide +kernel)) rfl
  · exact ww_m (List.mem_of_getElem? (i := 53) (by decide +kernel)) rfl
theorem uu_W : ∀ w ∈ u_ws RR_W FF_W 2, w ∈ ww_all := by
  intro w hw
  have h : w ∈ [Cond.laysFinal "RuledBoard$MoveRow" "RuledBoard$MoveRow" "codes" "[I", Cond.lays "RuledBoard$MoveRow" "RuledBoard$MoveRow" "count" "I"] := hw
  simp only [List.mem_cons, List.not_mem_nil, or_false] at h
  rcases h with rfl | rfl
  · exact ww_m (List.mem_of_getElem? (i := 97) (by decide +kernel)) rfl
  · exact ww_m (List.mem_of_getElem? (i := 99) (by decide +kernel)) rfl
theorem uu_H : ∀ w ∈ u_ws RR_H FF_H 6, w ∈ ww_all := by
  intro w hw
  have h : w ∈ [Cond.laysFinal "RuledBoard$History" "RuledBoard$History" "boards" "[J", Cond.laysFinal "RuledBoard$History" "RuledBoard$History" "marks" "[I", Cond.laysFinal "RuledBoard$History" "RuledBoard$History" "quiets" "[I", Cond.laysFinal "RuledBoard$History" "RuledBoard$History" "codes" "[I", Cond.laysFinal "RuledBoard$History" "RuledBoard$History" "befores" "[I", Cond.lays "RuledBoard$History" "RuledBoard$History" "made" "I"] := hw
  simp only [List.mem_cons, List.not_mem_nil, or_false] at h
  rcases h with rfl | rfl | rfl | rfl | rfl | rfl
  · exact ww_m (List.mem_of_getElem? (i := 70) (by decide +kernel)) rfl
  · exact ww_m (List.mem_of_getElem? (i := 72) (by decide +kernel)) rfl
  · exact ww_m (List.mem_of_getElem? (i := 74) (by decide +kernel)) rfl
  · exact ww_m (List.mem_of_getElem? (i := 76) (by decide +kernel)) rfl
  · exact ww_m (List.mem_of_getElem? (i := 78) (by decide +kernel)) rfl
  · exact ww_m (List.mem_of_getElem? (i := 80) (by decide +kernel)) rfl
theorem uu_S : ∀ w ∈ u_ws RR_S FF_S 1, w ∈ ww_all := by
  intro w hw
  have h : w ∈ [Cond.laysFinal "RuledBoard$MateSearch" "RuledBoard$MateSearch" "rows" "[LRuledBoard$MoveRow;"] := hw
  simp only [List.mem_cons, List.not_mem_nil, or_false] at h
  rcases h with rfl
  · exact ww_m (List.mem_of_getElem? (i := 112) (by decide +kernel)) rfl
theorem uu_M : ∀ w ∈ u_ws RR_M FF_M 20, w ∈ ww_all := by
  intro w hw
  have h : w ∈ [Cond.lays "RuledBoardModel" "RuledBoardModel" "thrown" "I", Cond.lays "RuledBoardModel" "RuledBoardModel" "plays" "Z", Cond.laysFinal "RuledBoardModel" "RuledBoardModel" "board" "[I", Cond.lays "RuledBoardModel" "RuledBoardModel" "side" "I", Cond.lays "RuledBoardModel" "RuledBoardModel" "rights" "I", Cond.lays "RuledBoardModel" "RuledBoardModel" "passed" "I", Cond.lays "RuledBoardModel" "RuledBoardModel" "quiet" "I", Cond.lays "RuledBoardModel" "RuledBoardModel" "made" "I", Cond.laysFinal "RuledBoardModel" "RuledBoardModel" "past" "[I", Cond.laysFinal "RuledBoardModel" "RuledBoardModel" "pastSide" "[I", Cond.laysFinal "RuledBoardModel" "RuledBoardModel" "pastRights" "[I", Cond.laysFinal "RuledBoardModel" "RuledBoardModel" "pastPassing" "[I", Cond.laysFinal "RuledBoardModel" "RuledBoardModel" "pastPassed" "[I", Cond.laysFinal "RuledBoardModel" "RuledBoardModel" "pastQuiet" "[I", Cond.laysFinal "RuledBoardModel" "RuledBoardModel" "kept" "[I", Cond.laysFinal "RuledBoardModel" "RuledBoardModel" "keptSide" "[I", Cond.laysFinal "RuledBoardModel" "RuledBoardModel" "keptRights" "[I", Cond.laysFinal "RuledBoardModel" "RuledBoardModel" "keptPassed" "[I", Cond.laysFinal "RuledBoardModel" "RuledBoardModel" "keptQuiet" "[I", Cond.laysFinal "RuledBoardModel" "RuledBoardModel" "list" "[I"] := hw
  simp only [List.mem_cons, List.not_mem_nil, or_false] at h
  rcases h with rfl | rfl | rfl | rfl | rfl | rfl | rfl | rfl | rfl | rfl | rfl | rfl | rfl | rfl | rfl | rfl | rfl | rfl | rfl | rfl
  · exact ww_m (List.mem_of_getElem? (i := 677) (by decide +kernel)) rfl
  · exact ww_m (List.mem_of_getElem? (i := 679) (by decide +kernel)) rfl
  · exact ww_m (List.mem_of_getElem? (i := 681) (by decide +kernel)) rfl
  · exact ww_m (List.mem_of_getElem? (i := 683) (by decide +kernel)) rfl
  · exact ww_m (List.mem_of_getElem? (i := 685) (by decide +kernel)) rfl
  · exact ww_m (List.mem_of_getElem? (i := 687) (by decide +kernel)) rfl
  · exact ww_m (List.mem_of_getElem? (i := 689) (by decide +kernel)) rfl
  · exact ww_m (List.mem_of_getElem? (i := 691) (by decide +kernel)) rfl
  · exact ww_m (List.mem_of_getElem? (i := 693) (by decide +kernel)) rfl
  · exact ww_m (List.mem_of_getElem? (i := 695) (by decide +kernel)) rfl
  · exact ww_m (List.mem_of_getElem? (i := 697) (by decide +kernel)) rfl
  · exact ww_m (List.mem_of_getElem? (i := 699) (by decide +kernel)) rfl
  · exact ww_m (List.mem_of_getElem? (i := 701) (by decide +kernel)) rfl
  · exact ww_m (List.mem_of_getElem? (i := 703) (by decide +kernel)) rfl
  · exact ww_m (List.mem_of_getElem? (i := 705) (by decide +kernel)) rfl
  · exact ww_m (List.mem_of_getElem? (i := 707) (by decide +kernel)) rfl
  · exact ww_m (List.mem_of_getElem? (i := 709) (by decide +kernel)) rfl
  · exact ww_m (List.mem_of_getElem? (i := 711) (by decide +kernel)) rfl
  · exact ww_m (List.mem_of_getElem? (i := 713) (by decide +kernel)) rfl
  · exact ww_m (List.mem_of_getElem? (i := 715) (by decide +kernel)) rfl
