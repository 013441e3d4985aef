set_option maxRecDepth 100000 in
theorem zck_0 : zchks zc_X0_init prog_2_method_1_code 0 1 (none) true 0 zc_X0_init = true := by decide +kernel
set_option maxRecDepth 100000 in
theorem zck_1 : zchks zc_X0_places prog_2_method_2_code 1 1 (some (.object "RaysOfShapes$Places")) false 0 zc_X0_places = true := by decide +kernel
set_option maxRecDepth 100000 in
theorem zck_2 : zchks zc_X0_left prog_2_method_3_code 2 1 (some .int) false 0 zc_X0_left = true := by decide +kernel
set_option maxRecDepth 100000 in
theorem zck_3 : zchks zc_X0_inAll prog_2_method_4_code 3 1 (some .int) false 0 zc_X0_inAll = true := by decide +kernel
set_option maxRecDepth 100000 in
theorem zck_4 : zchks zc_X0_drawnFrom prog_2_method_5_code 4 1 (some .int) false 0 zc_X0_drawnFrom = true := by decide +kernel
set_option maxRecDepth 100000 in
theorem zck_5 : zchks zc_X0_drawFrom prog_2_method_6_code 5 1 (none) false 0 zc_X0_drawFrom = true := by decide +kernel
set_option maxRecDepth 100000 in
theorem zck_6 : zchks zc_X0_draw prog_2_method_7_code 6 1 (some .int) false 0 zc_X0_draw = true := by decide +kernel
set_option maxRecDepth 100000 in
theorem zck_7 : zchks zc_X0_carveBy prog_2_method_8_code 7 1 (some .int) false 0 zc_X0_carveBy = true := by decide +kernel
set_option maxRecDepth 100000 in
theorem zck_8 : zchks zc_X0_tellBack prog_2_method_9_code 8 1 (none) false 0 zc_X0_tellBack = true := by decide +kernel
set_option maxRecDepth 100000 in
theorem zck_9 : zchks zc_X0_takeFrom prog_2_method_10_code 9 1 (none) false 0 zc_X0_takeFrom = true := by decide +kernel
set_option maxRecDepth 100000 in
theorem zck_10 : zchks zc_X1_init prog_3_method_1_code 10 2 (none) true 0 zc_X1_init = true := by decide +kernel
set_option maxRecDepth 100000 in
theorem zck_11 : zchks zc_X1_numerator prog_3_method_2_code 11 2 (some .long) false 0 zc_X1_numerator = true := by decide +kernel
set_option maxRecDepth 100000 in
theorem zck_12 : zchks zc_X1_denominator prog_3_method_3_code 12 2 (some .long) false 0 zc_X1_denominator = true := by decide +kernel
set_option maxRecDepth 100000 in
theorem zck_13 : zchks zc_X1_isAboveZero prog_3_method_4_code 13 2 (some .boolean) false 0 zc_X1_isAboveZero = true := by decide +kernel
set_option maxRecDepth 100000 in
theorem zck_14 : zchks zc_X1_isBelowZero prog_3_method_5_code 14 2 (some .boolean) false 0 zc_X1_isBelowZero = true := by decide +kernel
set_option maxRecDepth 100000 in
theorem zck_15 : zchks zc_X1_isAbove prog_3_method_6_code 15 2 (some .boolean) false 0 zc_X1_isAbove = true := by decide +kernel
set_option maxRecDepth 100000 in
theorem zck_16 : zchks zc_X1_putWhole prog_3_method_7_code 16 2 (none) false 0 zc_X1_putWhole = true := by decide +kernel
set_option maxRecDepth 100000 in
theorem zck_17 : zchks zc_X1_put prog_3_method_8_code 17 2 (none) false 0 zc_X1_put = true := by decide +kernel
set_option maxRecDepth 100000 in
theorem zck_18 : zchks zc_X1_take prog_3_method_9_code 18 2 (none) false 0 zc_X1_take = true := by decide +kernel
set_option maxRecDepth 100000 in
theorem zck_19 : zchks zc_X1_takeLesser prog_3_method_10_code 19 2 (none) false 0 zc_X1_takeLesser = true := by decide +kernel
set_option maxRecDepth 100000 in
theorem zck_20 : zchks zc_X1_takeGreater prog_3_method_11_code 20 2 (none) false 0 zc_X1_takeGreater = true := by decide +kernel
set_option maxRecDepth 100000 in
theorem zck_21 : zchks zc_X1_changeWith prog_3_method_12_code 21 2 (none) false 0 zc_X1_changeWith = true := by decide +kernel
set_option maxRecDepth 100000 in
theorem zck_22 : zchks zc_X1_turnSign prog_3_method_13_code 22 2 (none) false 0 zc_X1_turnSign = true := by decide +kernel
set_option maxRecDepth 100000 in
theorem zck_23 : zchks zc_X1_becomeAmount prog_3_method_14_code 23 2 (none) false 0 zc_X1_becomeAmount = true := by decide +kernel
set_option maxRecDepth 100000 in
theorem zck_24 : zchks zc_X1_lessen prog_3_method_15_code 24 2 (none) false 0 zc_X1_lessen = true := by decide +kernel
set_option maxRecDepth 100000 in
theorem zck_25 : zchks zc_X1_mix prog_3_method_16_code 25 2 (none) false 0 zc_X1_mix = true := by decide +kernel
set_option maxRecDepth 100000 in
theorem zck_26 : zchks zc_X2_isUnder prog_4_method_2_code 26 3 (some .boolean) false 0 zc_X2_isUnder = true := by decide +kernel
set_option maxRecDepth 100000 in
theorem zck_27 : zchks zc_X2_isSolid prog_4_method_3_code 27 3 (some .boolean) false 0 zc_X2_isSolid = true := by decide +kernel
set_option maxRecDepth 100000 in
theorem zck_28 : zchks zc_X2_isPair prog_4_method_4_code 28 3 (some .boolean) false 0 zc_X2_isPair = true := by decide +kernel
set_option maxRecDepth 100000 in
theorem zck_29 : zchks zc_X2_numbersOf prog_4_method_5_code 29 3 (some .int) false 0 zc_X2_numbersOf = true := by decide +kernel
set_option maxRecDepth 100000 in
theorem zck_30 : zchks zc_X2_allMayBe prog_4_method_6_code 30 3 (some .boolean) false 0 zc_X2_allMayBe = true := by decide +kernel
set_option maxRecDepth 100000 in
theorem zck_31 : zchks zc_X2_mayBe prog_4_method_7_code 31 3 (some .boolean) false 0 zc_X2_mayBe = true := by decide +kernel
set_option maxRecDepth 100000 in
theorem zck_32 : zchks zc_X2_isSpot prog_4_method_8_code 32 3 (some .boolean) false 0 zc_X2_isSpot = true := by decide +kernel
set_option maxRecDepth 100000 in
theorem zck_33 : zchks zc_X2_mayHaveMinus prog_4_method_9_code 33 3 (some .boolean) false 0 zc_X2_mayHaveMinus = true := by decide +kernel
set_option maxRecDepth 100000 in
theorem zck_34 : zchks zc_X2_wordOf prog_4_method_10_code 34 3 (some (.object "java/lang/String")) false 0 zc_X2_wordOf = true := by decide +kernel
set_option maxRecDepth 100000 in
theorem zck_35 : zchks zc_X3_init prog_5_method_1_code 35 4 (none) true 0 zc_X3_init = true := by decide +kernel
set_option maxRecDepth 100000 in
theorem zck_36 : zchks zc_X3_forgetFrom prog_5_method_2_code 36 4 (none) false 0 zc_X3_forgetFrom = true := by decide +kernel
set_option maxRecDepth 100000 in
theorem zck_37 : zchks zc_X3_placesOf prog_5_method_3_code 37 4 (some (.object "RaysOfShapes$Places")) false 0 zc_X3_placesOf = true := by decide +kernel
set_option maxRecDepth 100000 in
theorem zck_38 : zchks zc_X3_lookedAt prog_5_method_4_code 38 4 (some .int) false 0 zc_X3_lookedAt = true := by decide +kernel
set_option maxRecDepth 100000 in
theorem zck_39 : zchks zc_X3_look prog_5_method_5_code 39 4 (none) false 0 zc_X3_look = true := by decide +kernel
set_option maxRecDepth 100000 in
theorem zck_40 : zchks zc_X3_lookAtEighths prog_5_method_6_code 40 4 (none) false 0 zc_X3_lookAtEighths = true := by decide +kernel
set_option maxRecDepth 100000 in
theorem zck_41 : zchks zc_X4_init prog_6_method_1_code 41 5 (none) true 0 zc_X4_init = true := by decide +kernel
set_option maxRecDepth 100000 in
theorem zck_42 : zchks zc_X4_worthAt prog_6_method_2_code 42 5 (some (.object "RaysOfShapes$Fraction")) false 0 zc_X4_worthAt = true := by decide +kernel
set_option maxRecDepth 100000 in
theorem zck_43 : zchks zc_X4_find prog_6_method_3_code 43 5 (none) false 0 zc_X4_find = true := by decide +kernel
set_option maxRecDepth 100000 in
theorem zck_44 : zchks zc_X4_ofSolid prog_6_method_4_code 44 5 (some .int) false 0 zc_X4_ofSolid = true := by decide +kernel
set_option maxRecDepth 100000 in
theorem zck_45 : zchks zc_X4_ofPair prog_6_method_5_code 45 5 (none) false 0 zc_X4_ofPair = true := by decide +kernel
set_option maxRecDepth 100000 in
theorem zck_46 : zchks zc_X4_ofChange prog_6_method_6_code 46 5 (none) false 0 zc_X4_ofChange = true := by decide +kernel
set_option maxRecDepth 100000 in
theorem zck_47 : zchks zc_X4_move prog_6_method_7_code 47 5 (none) false 0 zc_X4_move = true := by decide +kernel
set_option maxRecDepth 100000 in
theorem zck_48 : zchks zc_X5_init prog_7_method_1_code 48 6 (none) true 0 zc_X5_init = true := by decide +kernel
set_option maxRecDepth 100000 in
theorem zck_49 : zchks zc_X5_contains prog_7_method_2_code 49 6 (some .boolean) false 0 zc_X5_contains = true := by decide +kernel
set_option maxRecDepth 100000 in
theorem zck_50 : zchks zc_X5_add prog_7_method_3_code 50 6 (none) false 0 zc_X5_add = true := by decide +kernel
set_option maxRecDepth 100000 in
theorem zck_51 : zchks zc_X5_addCube prog_7_method_4_code 51 6 (none) false 0 zc_X5_addCube = true := by decide +kernel
set_option maxRecDepth 100000 in
theorem zck_52 : zchks zc_X5_clear prog_7_method_5_code 52 6 (none) false 0 zc_X5_clear = true := by decide +kernel
set_option maxRecDepth 100000 in
theorem zck_53 : zchks zc_X5_takeFrom prog_7_method_6_code 53 6 (none) false 0 zc_X5_takeFrom = true := by decide +kernel
set_option maxRecDepth 100000 in
theorem zck_54 : zchks zc_X5_becomeBall prog_7_method_7_code 54 6 (none) false 0 zc_X5_becomeBall = true := by decide +kernel
set_option maxRecDepth 100000 in
theorem zck_55 : zchks zc_X5_becomeCarving prog_7_method_8_code 55 6 (none) false 0 zc_X5_becomeCarving = true := by decide +kernel
set_option maxRecDepth 100000 in
theorem zck_56 : zchks zc_X5_flip prog_7_method_9_code 56 6 (none) false 0 zc_X5_flip = true := by decide +kernel
set_option maxRecDepth 100000 in
theorem zck_57 : zchks zc_X5_size prog_7_method_10_code 57 6 (some .int) false 0 zc_X5_size = true := by decide +kernel
set_option maxRecDepth 100000 in
theorem zck_58 : zchks zc_X5_sizeOfBoth prog_7_method_11_code 58 6 (some .int) false 0 zc_X5_sizeOfBoth = true := by decide +kernel
set_option maxRecDepth 100000 in
theorem zck_59 : zchks zc_X5_sizeOfOne prog_7_method_12_code 59 6 (some .int) false 0 zc_X5_sizeOfOne = true := by decide +kernel
set_option maxRecDepth 100000 in
theorem zck_60 : zchks zc_X5_sizeAt prog_7_method_13_code 60 6 (some .int) false 0 zc_X5_sizeAt = true := by decide +kernel
set_option maxRecDepth 100000 in
theorem zck_61 : zchks zc_X5_ofThem prog_7_method_14_code 61 6 (some .int) false 0 zc_X5_ofThem = true := by decide +kernel
set_option maxRecDepth 100000 in
theorem zck_62 : zchks zc_X6_init prog_8_method_1_code 62 7 (none) true 0 zc_X6_init = true := by decide +kernel
set_option maxRecDepth 100000 in
theorem zck_63 : zchks zc_X6_size prog_8_method_2_code 63 7 (some .int) false 0 zc_X6_size = true := by decide +kernel
set_option maxRecDepth 100000 in
theorem zck_64 : zchks zc_X6_made prog_8_method_3_code 64 7 (some .int) false 0 zc_X6_made = true := by decide +kernel
set_option maxRecDepth 100000 in
theorem zck_65 : zchks zc_X6_isFull prog_8_method_4_code 65 7 (some .boolean) false 0 zc_X6_isFull = true := by decide +kernel
set_option maxRecDepth 100000 in
theorem zck_66 : zchks zc_X6_put prog_8_method_5_code 66 7 (none) false 0 zc_X6_put = true := by decide +kernel
set_option maxRecDepth 100000 in
theorem zck_67 : zchks zc_X6_empty prog_8_method_6_code 67 7 (none) false 0 zc_X6_empty = true := by decide +kernel
set_option maxRecDepth 100000 in
theorem zck_68 : zchks zc_X6_read prog_8_method_7_code 68 7 (some .int) false 0 zc_X6_read = true := by decide +kernel
set_option maxRecDepth 100000 in
theorem zck_69 : zchks zc_X6_begin prog_8_method_8_code 69 7 (some .boolean) false 0 zc_X6_begin = true := by decide +kernel
set_option maxRecDepth 100000 in
theorem zck_70 : zchks zc_X6_begun prog_8_method_9_code 70 7 (some .boolean) false 0 zc_X6_begun = true := by decide +kernel
set_option maxRecDepth 100000 in
theorem zck_71 : zchks zc_X6_end prog_8_method_10_code 71 7 (some .boolean) false 0 zc_X6_end = true := by decide +kernel
set_option maxRecDepth 100000 in
theorem zck_72 : zchks zc_X6_write prog_8_method_11_code 72 7 (some .int) false 0 zc_X6_write = true := by decide +kernel
set_option maxRecDepth 100000 in
theorem zck_73 : zchks zc_X6_isFault prog_8_method_12_code 73 7 (some .boolean) false 0 zc_X6_isFault = true := by decide +kernel
set_option maxRecDepth 100000 in
theorem zck_74 : zchks zc_X6_byteAt prog_8_method_13_code 74 7 (some .int) false 0 zc_X6_byteAt = true := by decide +kernel
set_option maxRecDepth 100000 in
theorem zck_75 : zchks zc_X6_skipBlanks prog_8_method_14_code 75 7 (none) false 0 zc_X6_skipBlanks = true := by decide +kernel
set_option maxRecDepth 100000 in
theorem zck_76 : zchks zc_X6_readSign prog_8_method_15_code 76 7 (some .boolean) false 0 zc_X6_readSign = true := by decide +kernel
set_option maxRecDepth 100000 in
theorem zck_77 : zchks zc_X6_readWord prog_8_method_16_code 77 7 (some .int) false 0 zc_X6_readWord = true := by decide +kernel
set_option maxRecDepth 100000 in
theorem zck_78 : zchks zc_X6_isWord prog_8_method_17_code 78 7 (some .boolean) false 0 zc_X6_isWord = true := by decide +kernel
set_option maxRecDepth 100000 in
theorem zck_79 : zchks zc_X6_readNumber prog_8_method_18_code 79 7 (some .boolean) false 0 zc_X6_readNumber = true := by decide +kernel
set_option maxRecDepth 100000 in
theorem zck_80 : zchks zc_X7_init prog_9_method_1_code 80 8 (none) true 0 zc_X7_init = true := by decide +kernel
set_option maxRecDepth 100000 in
theorem zck_81 : zchks zc_X7_heldBy prog_9_method_2_code 81 8 (some .int) false 0 zc_X7_heldBy = true := by decide +kernel
set_option maxRecDepth 100000 in
theorem zck_82 : zchks zc_X7_sizeOf prog_9_method_3_code 82 8 (some .int) false 0 zc_X7_sizeOf = true := by decide +kernel
set_option maxRecDepth 100000 in
theorem zck_83 : zchks zc_X7_full prog_9_method_4_code 83 8 (some .int) false 0 zc_X7_full = true := by decide +kernel
set_option maxRecDepth 100000 in
theorem zck_84 : zchks zc_X7_putRow prog_9_method_5_code 84 8 (none) false 0 zc_X7_putRow = true := by decide +kernel
set_option maxRecDepth 100000 in
theorem zck_85 : zchks zc_X7_putShape prog_9_method_6_code 85 8 (none) false 0 zc_X7_putShape = true := by decide +kernel
set_option maxRecDepth 100000 in
theorem zck_86 : zchks zc_X7_keepShapesBelow prog_9_method_7_code 86 8 (none) false 0 zc_X7_keepShapesBelow = true := by decide +kernel
set_option maxRecDepth 100000 in
theorem zck_87 : zchks zc_X7_isElement prog_9_method_8_code 87 8 (some .boolean) false 0 zc_X7_isElement = true := by decide +kernel
set_option maxRecDepth 100000 in
theorem zck_88 : zchks zc_X7_elementOf prog_9_method_9_code 88 8 (some .long) false 0 zc_X7_elementOf = true := by decide +kernel
set_option maxRecDepth 100000 in
theorem zck_89 : zchks zc_X7_putElement prog_9_method_10_code 89 8 (none) false 0 zc_X7_putElement = true := by decide +kernel
set_option maxRecDepth 100000 in
theorem zck_90 : zchks zc_X7_narrowed prog_9_method_11_code 90 8 (some .long) false 0 zc_X7_narrowed = true := by decide +kernel
set_option maxRecDepth 100000 in
theorem zck_91 : zchks zc_X7_moveElements prog_9_method_12_code 91 8 (none) false 0 zc_X7_moveElements = true := by decide +kernel
set_option maxRecDepth 100000 in
theorem zck_92 : zchks zc_X8_init prog_10_method_1_code 92 9 (none) true 0 zc_X8_init = true := by decide +kernel
set_option maxRecDepth 100000 in
theorem zck_93 : zchks zc_X8_putFrom prog_10_method_2_code 93 9 (none) false 0 zc_X8_putFrom = true := by decide +kernel
set_option maxRecDepth 100000 in
theorem zck_94 : zchks zc_X8_putTo prog_10_method_3_code 94 9 (none) false 0 zc_X8_putTo = true := by decide +kernel
set_option maxRecDepth 100000 in
theorem zck_95 : zchks zc_X8_lowest prog_10_method_4_code 95 9 (some (.object "RaysOfShapes$Fraction")) false 0 zc_X8_lowest = true := by decide +kernel
set_option maxRecDepth 100000 in
theorem zck_96 : zchks zc_X8_highest prog_10_method_5_code 96 9 (some (.object "RaysOfShapes$Fraction")) false 0 zc_X8_highest = true := by decide +kernel
set_option maxRecDepth 100000 in
theorem zck_97 : zchks zc_X8_findFor prog_10_method_6_code 97 9 (none) false 0 zc_X8_findFor = true := by decide +kernel
set_option maxRecDepth 100000 in
theorem zck_98 : zchks zc_X8_find prog_10_method_7_code 98 9 (none) false 0 zc_X8_find = true := by decide +kernel
set_option maxRecDepth 100000 in
theorem zck_99 : zchks zc_X8_ofBall prog_10_method_8_code 99 9 (none) false 0 zc_X8_ofBall = true := by decide +kernel
set_option maxRecDepth 100000 in
theorem zck_100 : zchks zc_X8_ofBox prog_10_method_9_code 100 9 (none) false 0 zc_X8_ofBox = true := by decide +kernel
set_option maxRecDepth 100000 in
theorem zck_101 : zchks zc_X8_ofHalf prog_10_method_10_code 101 9 (none) false 0 zc_X8_ofHalf = true := by decide +kernel
set_option maxRecDepth 100000 in
theorem zck_102 : zchks zc_X8_ofPair prog_10_method_11_code 102 9 (none) false 0 zc_X8_ofPair = true := by decide +kernel
set_option maxRecDepth 100000 in
theorem zck_103 : zchks zc_X8_ofChange prog_10_method_12_code 103 9 (none) false 0 zc_X8_ofChange = true := by decide +kernel
set_option maxRecDepth 100000 in
theorem zck_104 : zchks zc_X8_becomeAmounts prog_10_method_13_code 104 9 (none) false 0 zc_X8_becomeAmounts = true := by decide +kernel
set_option maxRecDepth 100000 in
theorem zck_105 : zchks zc_X8_move prog_10_method_14_code 105 9 (none) false 0 zc_X8_move = true := by decide +kernel
set_option maxRecDepth 100000 in
theorem zck_106 : zchks zc_X8_repeat prog_10_method_15_code 106 9 (none) false 0 zc_X8_repeat = true := by decide +kernel
set_option maxRecDepth 100000 in
theorem zck_107 : zchks zc_X8_mirror prog_10_method_16_code 107 9 (none) false 0 zc_X8_mirror = true := by decide +kernel
set_option maxRecDepth 100000 in
theorem zck_108 : zchks zc_X8_turn prog_10_method_17_code 108 9 (none) false 0 zc_X8_turn = true := by decide +kernel
set_option maxRecDepth 100000 in
theorem zck_109 : zchks zc_X9_init prog_11_method_1_code 109 10 (none) true 0 zc_X9_init = true := by decide +kernel
set_option maxRecDepth 100000 in
theorem zck_110 : zchks zc_X9_size prog_11_method_2_code 110 10 (some .int) false 0 zc_X9_size = true := by decide +kernel
set_option maxRecDepth 100000 in
theorem zck_111 : zchks zc_X9_resize prog_11_method_3_code 111 10 (none) false 0 zc_X9_resize = true := by decide +kernel
set_option maxRecDepth 100000 in
theorem zck_112 : zchks zc_X9_kindOf prog_11_method_4_code 112 10 (some .int) false 0 zc_X9_kindOf = true := by decide +kernel
set_option maxRecDepth 100000 in
theorem zck_113 : zchks zc_X9_firstOf prog_11_method_5_code 113 10 (some .int) false 0 zc_X9_firstOf = true := by decide +kernel
set_option maxRecDepth 100000 in
theorem zck_114 : zchks zc_X9_secondOf prog_11_method_6_code 114 10 (some .int) false 0 zc_X9_secondOf = true := by decide +kernel
set_option maxRecDepth 100000 in
theorem zck_115 : zchks zc_X9_deepOf prog_11_method_7_code 115 10 (some .int) false 0 zc_X9_deepOf = true := by decide +kernel
set_option maxRecDepth 100000 in
theorem zck_116 : zchks zc_X9_solidsOf prog_11_method_8_code 116 10 (some .int) false 0 zc_X9_solidsOf = true := by decide +kernel
set_option maxRecDepth 100000 in
theorem zck_117 : zchks zc_X9_blendsOf prog_11_method_9_code 117 10 (some .int) false 0 zc_X9_blendsOf = true := by decide +kernel
set_option maxRecDepth 100000 in
theorem zck_118 : zchks zc_X9_numberOf prog_11_method_10_code 118 10 (some .int) false 0 zc_X9_numberOf = true := by decide +kernel
set_option maxRecDepth 100000 in
theorem zck_119 : zchks zc_X9_isTooDeep prog_11_method_11_code 119 10 (some .boolean) false 0 zc_X9_isTooDeep = true := by decide +kernel
set_option maxRecDepth 100000 in
theorem zck_120 : zchks zc_X9_deepOver prog_11_method_12_code 120 10 (some .int) false 0 zc_X9_deepOver = true := by decide +kernel
set_option maxRecDepth 100000 in
theorem zck_121 : zchks zc_X9_blendsOver prog_11_method_13_code 121 10 (some .int) false 0 zc_X9_blendsOver = true := by decide +kernel
set_option maxRecDepth 100000 in
theorem zck_122 : zchks zc_X9_write prog_11_method_14_code 122 10 (none) false 0 zc_X9_write = true := by decide +kernel
set_option maxRecDepth 100000 in
theorem zck_123 : zchks zc_X9_takeFrom prog_11_method_15_code 123 10 (none) false 0 zc_X9_takeFrom = true := by decide +kernel
set_option maxRecDepth 100000 in
theorem zck_124 : zchks zc_X10_init prog_12_method_1_code 124 11 (none) true 0 zc_X10_init = true := by decide +kernel
set_option maxRecDepth 100000 in
theorem zck_125 : zchks zc_X10_stepsTillIn prog_12_method_2_code 125 11 (some .int) false 0 zc_X10_stepsTillIn = true := by decide +kernel
set_option maxRecDepth 100000 in
theorem zck_126 : zchks zc_X10_placesIn prog_12_method_3_code 126 11 (some .int) false 0 zc_X10_placesIn = true := by decide +kernel
set_option maxRecDepth 100000 in
theorem zck_127 : zchks zc_X10_timesOver prog_12_method_4_code 127 11 (some .int) false 0 zc_X10_timesOver = true := by decide +kernel
set_option maxRecDepth 100000 in
theorem zck_128 : zchks zc_X10_parts prog_12_method_5_code 128 11 (some .int) false 0 zc_X10_parts = true := by decide +kernel
set_option maxRecDepth 100000 in
theorem zck_129 : zchks zc_X10_greatest prog_12_method_6_code 129 11 (some .int) false 0 zc_X10_greatest = true := by decide +kernel
set_option maxRecDepth 100000 in
theorem zck_130 : zchks zc_X10_leastOfGreatest prog_12_method_7_code 130 11 (some .int) false 0 zc_X10_leastOfGreatest = true := by decide +kernel
set_option maxRecDepth 100000 in
theorem zck_131 : zchks zc_X10_walk prog_12_method_8_code 131 11 (none) false 0 zc_X10_walk = true := by decide +kernel
set_option maxRecDepth 100000 in
theorem zck_132 : zchks zc_X10_skinOf prog_12_method_9_code 132 11 (some .int) false 0 zc_X10_skinOf = true := by decide +kernel
set_option maxRecDepth 100000 in
theorem zck_133 : zchks zc_X10_isBare prog_12_method_10_code 133 11 (some .boolean) false 0 zc_X10_isBare = true := by decide +kernel
set_option maxRecDepth 100000 in
theorem zck_134 : zchks zc_X10_neighbour prog_12_method_11_code 134 11 (some .int) false 0 zc_X10_neighbour = true := by decide +kernel
set_option maxRecDepth 100000 in
theorem zck_135 : zchks zc_X10_part prog_12_method_12_code 135 11 (none) false 0 zc_X10_part = true := by decide +kernel
set_option maxRecDepth 100000 in
theorem zck_136 : zchks zc_X10_sizeOfPiece prog_12_method_13_code 136 11 (some .int) false 0 zc_X10_sizeOfPiece = true := by decide +kernel
set_option maxRecDepth 100000 in
theorem zck_137 : zchks zc_X11_init prog_1_method_1_code 137 12 (none) true 0 zc_X11_init = true := by decide +kernel
set_option maxRecDepth 100000 in
theorem zck_138 : zchks zc_X11_row prog_1_method_2_code 138 12 (some .int) false 0 zc_X11_row = true := by decide +kernel
set_option maxRecDepth 100000 in
theorem zck_139 : zchks zc_X11_set prog_1_method_3_code 139 12 (some .int) false 0 zc_X11_set = true := by decide +kernel
