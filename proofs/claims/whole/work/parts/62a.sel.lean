/-! Which instance methods are selected by their own names; more checks of the code -/
def zselOK (y : Nat) : Prop := ∀ md : zMd, znth zmd y = some md → Jvm.Cond.selects md.1.cls md.1 md.1 ∈ lw_tbl
set_option maxRecDepth 100000 in
theorem zse_1 : zselOK 1 := fun _ h => by cases h; exact zsub_5 (List.mem_of_getElem? (i := 221) rfl)
set_option maxRecDepth 100000 in
theorem zse_2 : zselOK 2 := fun _ h => by cases h; exact zsub_5 (List.mem_of_getElem? (i := 209) rfl)
set_option maxRecDepth 100000 in
theorem zse_3 : zselOK 3 := fun _ h => by cases h; exact zsub_6 (List.mem_of_getElem? (i := 46) rfl)
set_option maxRecDepth 100000 in
theorem zse_4 : zselOK 4 := fun _ h => by cases h; exact zsub_6 (List.mem_of_getElem? (i := 13) rfl)
set_option maxRecDepth 100000 in
theorem zse_5 : zselOK 5 := fun _ h => by cases h; exact zsub_6 (List.mem_of_getElem? (i := 17) rfl)
set_option maxRecDepth 100000 in
theorem zse_6 : zselOK 6 := fun _ h => by cases h; exact zsub_5 (List.mem_of_getElem? (i := 237) rfl)
set_option maxRecDepth 100000 in
theorem zse_7 : zselOK 7 := fun _ h => by cases h; exact zsub_5 (List.mem_of_getElem? (i := 189) rfl)
set_option maxRecDepth 100000 in
theorem zse_8 : zselOK 8 := fun _ h => by cases h; exact zsub_5 (List.mem_of_getElem? (i := 213) rfl)
set_option maxRecDepth 100000 in
theorem zse_9 : zselOK 9 := fun _ h => by cases h; exact zsub_6 (List.mem_of_getElem? (i := 30) rfl)
set_option maxRecDepth 100000 in
theorem zse_11 : zselOK 11 := fun _ h => by cases h; exact zsub_5 (List.mem_of_getElem? (i := 2) rfl)
set_option maxRecDepth 100000 in
theorem zse_12 : zselOK 12 := fun _ h => by cases h; exact zsub_5 (List.mem_of_getElem? (i := 6) rfl)
set_option maxRecDepth 100000 in
theorem zse_13 : zselOK 13 := fun _ h => by cases h; exact zsub_3 (List.mem_of_getElem? (i := 64) rfl)
set_option maxRecDepth 100000 in
theorem zse_14 : zselOK 14 := fun _ h => by cases h; exact zsub_3 (List.mem_of_getElem? (i := 148) rfl)
set_option maxRecDepth 100000 in
theorem zse_15 : zselOK 15 := fun _ h => by cases h; exact zsub_3 (List.mem_of_getElem? (i := 18) rfl)
set_option maxRecDepth 100000 in
theorem zse_16 : zselOK 16 := fun _ h => by cases h; exact zsub_2 (List.mem_of_getElem? (i := 237) rfl)
set_option maxRecDepth 100000 in
theorem zse_17 : zselOK 17 := fun _ h => by cases h; exact zsub_3 (List.mem_of_getElem? (i := 35) rfl)
set_option maxRecDepth 100000 in
theorem zse_18 : zselOK 18 := fun _ h => by cases h; exact zsub_3 (List.mem_of_getElem? (i := 10) rfl)
set_option maxRecDepth 100000 in
theorem zse_19 : zselOK 19 := fun _ h => by cases h; exact zsub_3 (List.mem_of_getElem? (i := 14) rfl)
set_option maxRecDepth 100000 in
theorem zse_20 : zselOK 20 := fun _ h => by cases h; exact zsub_3 (List.mem_of_getElem? (i := 23) rfl)
set_option maxRecDepth 100000 in
theorem zse_21 : zselOK 21 := fun _ h => by cases h; exact zsub_3 (List.mem_of_getElem? (i := 154) rfl)
set_option maxRecDepth 100000 in
theorem zse_22 : zselOK 22 := fun _ h => by cases h; exact zsub_3 (List.mem_of_getElem? (i := 27) rfl)
set_option maxRecDepth 100000 in
theorem zse_23 : zselOK 23 := fun _ h => by cases h; exact zsub_3 (List.mem_of_getElem? (i := 56) rfl)
set_option maxRecDepth 100000 in
theorem zse_24 : zselOK 24 := fun _ h => by cases h; exact zsub_3 (List.mem_of_getElem? (i := 60) rfl)
set_option maxRecDepth 100000 in
theorem zse_25 : zselOK 25 := fun _ h => by cases h; exact zsub_3 (List.mem_of_getElem? (i := 31) rfl)
set_option maxRecDepth 100000 in
theorem zse_36 : zselOK 36 := fun _ h => by cases h; exact zsub_4 (List.mem_of_getElem? (i := 161) rfl)
set_option maxRecDepth 100000 in
theorem zse_37 : zselOK 37 := fun _ h => by cases h; exact zsub_2 (List.mem_of_getElem? (i := 195) rfl)
set_option maxRecDepth 100000 in
theorem zse_38 : zselOK 38 := fun _ h => by cases h; exact zsub_5 (List.mem_of_getElem? (i := 36) rfl)
set_option maxRecDepth 100000 in
theorem zse_39 : zselOK 39 := fun _ h => by cases h; exact zsub_0 (List.mem_of_getElem? (i := 6) rfl)
set_option maxRecDepth 100000 in
theorem zse_40 : zselOK 40 := fun _ h => by cases h; exact zsub_0 (List.mem_of_getElem? (i := 22) rfl)
set_option maxRecDepth 100000 in
theorem zse_42 : zselOK 42 := fun _ h => by cases h; exact zsub_2 (List.mem_of_getElem? (i := 213) rfl)
set_option maxRecDepth 100000 in
theorem zse_43 : zselOK 43 := fun _ h => by cases h; exact zsub_0 (List.mem_of_getElem? (i := 7) rfl)
set_option maxRecDepth 100000 in
theorem zse_44 : zselOK 44 := fun _ h => by cases h; exact zsub_0 (List.mem_of_getElem? (i := 8) rfl)
set_option maxRecDepth 100000 in
theorem zse_45 : zselOK 45 := fun _ h => by cases h; exact zsub_0 (List.mem_of_getElem? (i := 9) rfl)
set_option maxRecDepth 100000 in
theorem zse_46 : zselOK 46 := fun _ h => by cases h; exact zsub_0 (List.mem_of_getElem? (i := 10) rfl)
set_option maxRecDepth 100000 in
theorem zse_47 : zselOK 47 := fun _ h => by cases h; exact zsub_0 (List.mem_of_getElem? (i := 11) rfl)
set_option maxRecDepth 100000 in
theorem zse_49 : zselOK 49 := fun _ h => by cases h; exact zsub_5 (List.mem_of_getElem? (i := 28) rfl)
set_option maxRecDepth 100000 in
theorem zse_50 : zselOK 50 := fun _ h => by cases h; exact zsub_3 (List.mem_of_getElem? (i := 68) rfl)
set_option maxRecDepth 100000 in
theorem zse_51 : zselOK 51 := fun _ h => by cases h; exact zsub_3 (List.mem_of_getElem? (i := 163) rfl)
set_option maxRecDepth 100000 in
theorem zse_52 : zselOK 52 := fun _ h => by cases h; exact zsub_2 (List.mem_of_getElem? (i := 199) rfl)
set_option maxRecDepth 100000 in
theorem zse_53 : zselOK 53 := fun _ h => by cases h; exact zsub_6 (List.mem_of_getElem? (i := 34) rfl)
set_option maxRecDepth 100000 in
theorem zse_54 : zselOK 54 := fun _ h => by cases h; exact zsub_6 (List.mem_of_getElem? (i := 2) rfl)
set_option maxRecDepth 100000 in
theorem zse_55 : zselOK 55 := fun _ h => by cases h; exact zsub_5 (List.mem_of_getElem? (i := 194) rfl)
set_option maxRecDepth 100000 in
theorem zse_56 : zselOK 56 := fun _ h => by cases h; exact zsub_5 (List.mem_of_getElem? (i := 199) rfl)
set_option maxRecDepth 100000 in
theorem zse_57 : zselOK 57 := fun _ h => by cases h; exact zsub_3 (List.mem_of_getElem? (i := 180) rfl)
set_option maxRecDepth 100000 in
theorem zse_58 : zselOK 58 := fun _ h => by cases h; exact zsub_3 (List.mem_of_getElem? (i := 194) rfl)
set_option maxRecDepth 100000 in
theorem zse_59 : zselOK 59 := fun _ h => by cases h; exact zsub_3 (List.mem_of_getElem? (i := 190) rfl)
set_option maxRecDepth 100000 in
theorem zse_60 : zselOK 60 := fun _ h => by cases h; exact zsub_5 (List.mem_of_getElem? (i := 55) rfl)
set_option maxRecDepth 100000 in
theorem zse_61 : zselOK 61 := fun _ h => by cases h; exact zsub_5 (List.mem_of_getElem? (i := 45) rfl)
set_option maxRecDepth 100000 in
theorem zse_63 : zselOK 63 := fun _ h => by cases h; exact zsub_3 (List.mem_of_getElem? (i := 215) rfl)
set_option maxRecDepth 100000 in
theorem zse_64 : zselOK 64 := fun _ h => by cases h; exact zsub_4 (List.mem_of_getElem? (i := 153) rfl)
set_option maxRecDepth 100000 in
theorem zse_65 : zselOK 65 := fun _ h => by cases h; exact zsub_3 (List.mem_of_getElem? (i := 207) rfl)
set_option maxRecDepth 100000 in
theorem zse_66 : zselOK 66 := fun _ h => by cases h; exact zsub_3 (List.mem_of_getElem? (i := 211) rfl)
set_option maxRecDepth 100000 in
theorem zse_67 : zselOK 67 := fun _ h => by cases h; exact zsub_3 (List.mem_of_getElem? (i := 223) rfl)
set_option maxRecDepth 100000 in
theorem zse_68 : zselOK 68 := fun _ h => by cases h; exact zsub_3 (List.mem_of_getElem? (i := 231) rfl)
set_option maxRecDepth 100000 in
theorem zse_69 : zselOK 69 := fun _ h => by cases h; exact zsub_0 (List.mem_of_getElem? (i := 24) rfl)
set_option maxRecDepth 100000 in
theorem zse_70 : zselOK 70 := fun _ h => by cases h; exact zsub_0 (List.mem_of_getElem? (i := 37) rfl)
set_option maxRecDepth 100000 in
theorem zse_71 : zselOK 71 := fun _ h => by cases h; exact zsub_0 (List.mem_of_getElem? (i := 35) rfl)
set_option maxRecDepth 100000 in
theorem zse_72 : zselOK 72 := fun _ h => by cases h; exact zsub_0 (List.mem_of_getElem? (i := 31) rfl)
set_option maxRecDepth 100000 in
theorem zse_73 : zselOK 73 := fun _ h => by cases h; exact zsub_0 (List.mem_of_getElem? (i := 29) rfl)
set_option maxRecDepth 100000 in
theorem zse_74 : zselOK 74 := fun _ h => by cases h; exact zsub_0 (List.mem_of_getElem? (i := 26) rfl)
set_option maxRecDepth 100000 in
theorem zse_75 : zselOK 75 := fun _ h => by cases h; exact zsub_0 (List.mem_of_getElem? (i := 25) rfl)
set_option maxRecDepth 100000 in
theorem zse_76 : zselOK 76 := fun _ h => by cases h; exact zsub_0 (List.mem_of_getElem? (i := 36) rfl)
set_option maxRecDepth 100000 in
theorem zse_77 : zselOK 77 := fun _ h => by cases h; exact zsub_0 (List.mem_of_getElem? (i := 27) rfl)
set_option maxRecDepth 100000 in
theorem zse_78 : zselOK 78 := fun _ h => by cases h; exact zsub_0 (List.mem_of_getElem? (i := 28) rfl)
set_option maxRecDepth 100000 in
theorem zse_79 : zselOK 79 := fun _ h => by cases h; exact zsub_0 (List.mem_of_getElem? (i := 30) rfl)
set_option maxRecDepth 100000 in
theorem zse_81 : zselOK 81 := fun _ h => by cases h; exact zsub_2 (List.mem_of_getElem? (i := 100) rfl)
set_option maxRecDepth 100000 in
theorem zse_82 : zselOK 82 := fun _ h => by cases h; exact zsub_2 (List.mem_of_getElem? (i := 104) rfl)
set_option maxRecDepth 100000 in
theorem zse_83 : zselOK 83 := fun _ h => by cases h; exact zsub_6 (List.mem_of_getElem? (i := 50) rfl)
set_option maxRecDepth 100000 in
theorem zse_84 : zselOK 84 := fun _ h => by cases h; exact zsub_2 (List.mem_of_getElem? (i := 87) rfl)
set_option maxRecDepth 100000 in
theorem zse_85 : zselOK 85 := fun _ h => by cases h; exact zsub_2 (List.mem_of_getElem? (i := 158) rfl)
set_option maxRecDepth 100000 in
theorem zse_86 : zselOK 86 := fun _ h => by cases h; exact zsub_4 (List.mem_of_getElem? (i := 224) rfl)
set_option maxRecDepth 100000 in
theorem zse_87 : zselOK 87 := fun _ h => by cases h; exact zsub_0 (List.mem_of_getElem? (i := 2) rfl)
set_option maxRecDepth 100000 in
theorem zse_88 : zselOK 88 := fun _ h => by cases h; exact zsub_2 (List.mem_of_getElem? (i := 138) rfl)
set_option maxRecDepth 100000 in
theorem zse_89 : zselOK 89 := fun _ h => by cases h; exact zsub_2 (List.mem_of_getElem? (i := 108) rfl)
set_option maxRecDepth 100000 in
theorem zse_91 : zselOK 91 := fun _ h => by cases h; exact zsub_2 (List.mem_of_getElem? (i := 127) rfl)
set_option maxRecDepth 100000 in
theorem zse_93 : zselOK 93 := fun _ h => by cases h; exact zsub_3 (List.mem_of_getElem? (i := 75) rfl)
set_option maxRecDepth 100000 in
theorem zse_94 : zselOK 94 := fun _ h => by cases h; exact zsub_3 (List.mem_of_getElem? (i := 79) rfl)
set_option maxRecDepth 100000 in
theorem zse_95 : zselOK 95 := fun _ h => by cases h; exact zsub_3 (List.mem_of_getElem? (i := 171) rfl)
set_option maxRecDepth 100000 in
theorem zse_96 : zselOK 96 := fun _ h => by cases h; exact zsub_3 (List.mem_of_getElem? (i := 159) rfl)
set_option maxRecDepth 100000 in
theorem zse_97 : zselOK 97 := fun _ h => by cases h; exact zsub_3 (List.mem_of_getElem? (i := 83) rfl)
set_option maxRecDepth 100000 in
theorem zse_98 : zselOK 98 := fun _ h => by cases h; exact zsub_0 (List.mem_of_getElem? (i := 12) rfl)
set_option maxRecDepth 100000 in
theorem zse_99 : zselOK 99 := fun _ h => by cases h; exact zsub_0 (List.mem_of_getElem? (i := 13) rfl)
set_option maxRecDepth 100000 in
theorem zse_100 : zselOK 100 := fun _ h => by cases h; exact zsub_0 (List.mem_of_getElem? (i := 14) rfl)
set_option maxRecDepth 100000 in
theorem zse_101 : zselOK 101 := fun _ h => by cases h; exact zsub_0 (List.mem_of_getElem? (i := 15) rfl)
set_option maxRecDepth 100000 in
theorem zse_102 : zselOK 102 := fun _ h => by cases h; exact zsub_0 (List.mem_of_getElem? (i := 16) rfl)
set_option maxRecDepth 100000 in
theorem zse_103 : zselOK 103 := fun _ h => by cases h; exact zsub_0 (List.mem_of_getElem? (i := 17) rfl)
set_option maxRecDepth 100000 in
theorem zse_105 : zselOK 105 := fun _ h => by cases h; exact zsub_0 (List.mem_of_getElem? (i := 18) rfl)
set_option maxRecDepth 100000 in
theorem zse_106 : zselOK 106 := fun _ h => by cases h; exact zsub_0 (List.mem_of_getElem? (i := 19) rfl)
set_option maxRecDepth 100000 in
theorem zse_107 : zselOK 107 := fun _ h => by cases h; exact zsub_0 (List.mem_of_getElem? (i := 20) rfl)
set_option maxRecDepth 100000 in
theorem zse_108 : zselOK 108 := fun _ h => by cases h; exact zsub_0 (List.mem_of_getElem? (i := 21) rfl)
set_option maxRecDepth 100000 in
theorem zse_110 : zselOK 110 := fun _ h => by cases h; exact zsub_2 (List.mem_of_getElem? (i := 154) rfl)
set_option maxRecDepth 100000 in
theorem zse_111 : zselOK 111 := fun _ h => by cases h; exact zsub_4 (List.mem_of_getElem? (i := 166) rfl)
set_option maxRecDepth 100000 in
theorem zse_112 : zselOK 112 := fun _ h => by cases h; exact zsub_2 (List.mem_of_getElem? (i := 170) rfl)
set_option maxRecDepth 100000 in
theorem zse_113 : zselOK 113 := fun _ h => by cases h; exact zsub_2 (List.mem_of_getElem? (i := 179) rfl)
set_option maxRecDepth 100000 in
theorem zse_114 : zselOK 114 := fun _ h => by cases h; exact zsub_2 (List.mem_of_getElem? (i := 183) rfl)
set_option maxRecDepth 100000 in
theorem zse_115 : zselOK 115 := fun _ h => by cases h; exact zsub_2 (List.mem_of_getElem? (i := 187) rfl)
set_option maxRecDepth 100000 in
theorem zse_116 : zselOK 116 := fun _ h => by cases h; exact zsub_4 (List.mem_of_getElem? (i := 130) rfl)
set_option maxRecDepth 100000 in
theorem zse_117 : zselOK 117 := fun _ h => by cases h; exact zsub_0 (List.mem_of_getElem? (i := 34) rfl)
set_option maxRecDepth 100000 in
theorem zse_118 : zselOK 118 := fun _ h => by cases h; exact zsub_2 (List.mem_of_getElem? (i := 230) rfl)
set_option maxRecDepth 100000 in
theorem zse_119 : zselOK 119 := fun _ h => by cases h; exact zsub_4 (List.mem_of_getElem? (i := 144) rfl)
set_option maxRecDepth 100000 in
theorem zse_120 : zselOK 120 := fun _ h => by cases h; exact zsub_0 (List.mem_of_getElem? (i := 32) rfl)
set_option maxRecDepth 100000 in
theorem zse_121 : zselOK 121 := fun _ h => by cases h; exact zsub_0 (List.mem_of_getElem? (i := 33) rfl)
set_option maxRecDepth 100000 in
theorem zse_122 : zselOK 122 := fun _ h => by cases h; exact zsub_4 (List.mem_of_getElem? (i := 111) rfl)
set_option maxRecDepth 100000 in
theorem zse_123 : zselOK 123 := fun _ h => by cases h; exact zsub_6 (List.mem_of_getElem? (i := 25) rfl)
set_option maxRecDepth 100000 in
theorem zse_125 : zselOK 125 := fun _ h => by cases h; exact zsub_5 (List.mem_of_getElem? (i := 78) rfl)
set_option maxRecDepth 100000 in
theorem zse_126 : zselOK 126 := fun _ h => by cases h; exact zsub_5 (List.mem_of_getElem? (i := 82) rfl)
set_option maxRecDepth 100000 in
theorem zse_127 : zselOK 127 := fun _ h => by cases h; exact zsub_5 (List.mem_of_getElem? (i := 86) rfl)
set_option maxRecDepth 100000 in
theorem zse_128 : zselOK 128 := fun _ h => by cases h; exact zsub_5 (List.mem_of_getElem? (i := 118) rfl)
set_option maxRecDepth 100000 in
theorem zse_129 : zselOK 129 := fun _ h => by cases h; exact zsub_5 (List.mem_of_getElem? (i := 122) rfl)
set_option maxRecDepth 100000 in
theorem zse_130 : zselOK 130 := fun _ h => by cases h; exact zsub_5 (List.mem_of_getElem? (i := 126) rfl)
set_option maxRecDepth 100000 in
theorem zse_131 : zselOK 131 := fun _ h => by cases h; exact zsub_5 (List.mem_of_getElem? (i := 70) rfl)
set_option maxRecDepth 100000 in
theorem zse_132 : zselOK 132 := fun _ h => by cases h; exact zsub_5 (List.mem_of_getElem? (i := 94) rfl)
set_option maxRecDepth 100000 in
theorem zse_135 : zselOK 135 := fun _ h => by cases h; exact zsub_5 (List.mem_of_getElem? (i := 108) rfl)
set_option maxRecDepth 100000 in
theorem zse_136 : zselOK 136 := fun _ h => by cases h; exact zsub_0 (List.mem_of_getElem? (i := 41) rfl)
set_option maxRecDepth 100000 in
theorem zse_138 : zselOK 138 := fun _ h => by cases h; exact zsub_2 (List.mem_of_getElem? (i := 73) rfl)
set_option maxRecDepth 100000 in
theorem zse_139 : zselOK 139 := fun _ h => by cases h; exact zsub_2 (List.mem_of_getElem? (i := 92) rfl)
set_option maxRecDepth 100000 in
theorem zse_140 : zselOK 140 := fun _ h => by cases h; exact zsub_2 (List.mem_of_getElem? (i := 120) rfl)
set_option maxRecDepth 100000 in
theorem zse_141 : zselOK 141 := fun _ h => by cases h; exact zsub_2 (List.mem_of_getElem? (i := 134) rfl)
set_option maxRecDepth 100000 in
theorem zse_142 : zselOK 142 := fun _ h => by cases h; exact zsub_2 (List.mem_of_getElem? (i := 142) rfl)
set_option maxRecDepth 100000 in
theorem zse_143 : zselOK 143 := fun _ h => by cases h; exact zsub_2 (List.mem_of_getElem? (i := 146) rfl)
set_option maxRecDepth 100000 in
theorem zse_144 : zselOK 144 := fun _ h => by cases h; exact zsub_2 (List.mem_of_getElem? (i := 162) rfl)
set_option maxRecDepth 100000 in
theorem zse_145 : zselOK 145 := fun _ h => by cases h; exact zsub_0 (List.mem_of_getElem? (i := 4) rfl)
set_option maxRecDepth 100000 in
theorem zse_146 : zselOK 146 := fun _ h => by cases h; exact zsub_0 (List.mem_of_getElem? (i := 23) rfl)
set_option maxRecDepth 100000 in
theorem zse_147 : zselOK 147 := fun _ h => by cases h; exact zsub_3 (List.mem_of_getElem? (i := 203) rfl)
set_option maxRecDepth 100000 in
theorem zse_148 : zselOK 148 := fun _ h => by cases h; exact zsub_3 (List.mem_of_getElem? (i := 219) rfl)
set_option maxRecDepth 100000 in
theorem zse_149 : zselOK 149 := fun _ h => by cases h; exact zsub_3 (List.mem_of_getElem? (i := 227) rfl)
set_option maxRecDepth 100000 in
theorem zse_150 : zselOK 150 := fun _ h => by cases h; exact zsub_4 (List.mem_of_getElem? (i := 171) rfl)
set_option maxRecDepth 100000 in
theorem zse_151 : zselOK 151 := fun _ h => by cases h; exact zsub_4 (List.mem_of_getElem? (i := 191) rfl)
set_option maxRecDepth 100000 in
theorem zse_152 : zselOK 152 := fun _ h => by cases h; exact zsub_4 (List.mem_of_getElem? (i := 195) rfl)
set_option maxRecDepth 100000 in
theorem zse_153 : zselOK 153 := fun _ h => by cases h; exact zsub_4 (List.mem_of_getElem? (i := 199) rfl)
set_option maxRecDepth 100000 in
theorem zse_154 : zselOK 154 := fun _ h => by cases h; exact zsub_4 (List.mem_of_getElem? (i := 203) rfl)
set_option maxRecDepth 100000 in
theorem zse_155 : zselOK 155 := fun _ h => by cases h; exact zsub_4 (List.mem_of_getElem? (i := 207) rfl)
set_option maxRecDepth 100000 in
theorem zse_156 : zselOK 156 := fun _ h => by cases h; exact zsub_4 (List.mem_of_getElem? (i := 211) rfl)
set_option maxRecDepth 100000 in
theorem zse_157 : zselOK 157 := fun _ h => by cases h; exact zsub_4 (List.mem_of_getElem? (i := 215) rfl)
set_option maxRecDepth 100000 in
theorem zse_158 : zselOK 158 := fun _ h => by cases h; exact zsub_0 (List.mem_of_getElem? (i := 39) rfl)
set_option maxRecDepth 100000 in
theorem zse_159 : zselOK 159 := fun _ h => by cases h; exact zsub_0 (List.mem_of_getElem? (i := 40) rfl)
set_option maxRecDepth 100000 in
theorem zse_160 : zselOK 160 := fun _ h => by cases h; exact zsub_0 (List.mem_of_getElem? (i := 38) rfl)
set_option maxRecDepth 100000 in
theorem zse_161 : zselOK 161 := fun _ h => by cases h; exact zsub_4 (List.mem_of_getElem? (i := 219) rfl)
set_option maxRecDepth 100000 in
theorem zse_162 : zselOK 162 := fun _ h => by cases h; exact zsub_4 (List.mem_of_getElem? (i := 228) rfl)
set_option maxRecDepth 100000 in
theorem zse_163 : zselOK 163 := fun _ h => by cases h; exact zsub_4 (List.mem_of_getElem? (i := 233) rfl)
set_option maxRecDepth 100000 in
theorem zse_164 : zselOK 164 := fun _ h => by cases h; exact zsub_5 (List.mem_of_getElem? (i := 10) rfl)
set_option maxRecDepth 100000 in
theorem zse_165 : zselOK 165 := fun _ h => by cases h; exact zsub_5 (List.mem_of_getElem? (i := 24) rfl)
set_option maxRecDepth 100000 in
theorem zse_166 : zselOK 166 := fun _ h => by cases h; exact zsub_5 (List.mem_of_getElem? (i := 32) rfl)
set_option maxRecDepth 100000 in
theorem zse_167 : zselOK 167 := fun _ h => by cases h; exact zsub_5 (List.mem_of_getElem? (i := 41) rfl)
set_option maxRecDepth 100000 in
theorem zse_168 : zselOK 168 := fun _ h => by cases h; exact zsub_5 (List.mem_of_getElem? (i := 50) rfl)
set_option maxRecDepth 100000 in
theorem zse_169 : zselOK 169 := fun _ h => by cases h; exact zsub_5 (List.mem_of_getElem? (i := 59) rfl)
set_option maxRecDepth 100000 in
theorem zse_170 : zselOK 170 := fun _ h => by cases h; exact zsub_5 (List.mem_of_getElem? (i := 63) rfl)
set_option maxRecDepth 100000 in
theorem zse_171 : zselOK 171 := fun _ h => by cases h; exact zsub_5 (List.mem_of_getElem? (i := 90) rfl)
set_option maxRecDepth 100000 in
theorem zse_172 : zselOK 172 := fun _ h => by cases h; exact zsub_5 (List.mem_of_getElem? (i := 104) rfl)
set_option maxRecDepth 100000 in
theorem zse_173 : zselOK 173 := fun _ h => by cases h; exact zsub_5 (List.mem_of_getElem? (i := 130) rfl)
set_option maxRecDepth 100000 in
theorem zse_174 : zselOK 174 := fun _ h => by cases h; exact zsub_5 (List.mem_of_getElem? (i := 135) rfl)
set_option maxRecDepth 100000 in
theorem zse_175 : zselOK 175 := fun _ h => by cases h; exact zsub_5 (List.mem_of_getElem? (i := 139) rfl)
set_option maxRecDepth 100000 in
theorem zse_176 : zselOK 176 := fun _ h => by cases h; exact zsub_5 (List.mem_of_getElem? (i := 143) rfl)
set_option maxRecDepth 100000 in
theorem zse_178 : zselOK 178 := fun _ h => by cases h; exact zsub_5 (List.mem_of_getElem? (i := 150) rfl)
set_option maxRecDepth 100000 in
theorem zse_179 : zselOK 179 := fun _ h => by cases h; exact zsub_0 (List.mem_of_getElem? (i := 42) rfl)
set_option maxRecDepth 100000 in
theorem zse_180 : zselOK 180 := fun _ h => by cases h; exact zsub_5 (List.mem_of_getElem? (i := 162) rfl)
set_option maxRecDepth 100000 in
theorem zse_181 : zselOK 181 := fun _ h => by cases h; exact zsub_0 (List.mem_of_getElem? (i := 45) rfl)
set_option maxRecDepth 100000 in
theorem zse_182 : zselOK 182 := fun _ h => by cases h; exact zsub_0 (List.mem_of_getElem? (i := 46) rfl)
set_option maxRecDepth 100000 in
theorem zse_183 : zselOK 183 := fun _ h => by cases h; exact zsub_5 (List.mem_of_getElem? (i := 181) rfl)
set_option maxRecDepth 100000 in
theorem zse_184 : zselOK 184 := fun _ h => by cases h; exact zsub_5 (List.mem_of_getElem? (i := 185) rfl)
set_option maxRecDepth 100000 in
theorem zse_185 : zselOK 185 := fun _ h => by cases h; exact zsub_5 (List.mem_of_getElem? (i := 205) rfl)
set_option maxRecDepth 100000 in
theorem zse_186 : zselOK 186 := fun _ h => by cases h; exact zsub_5 (List.mem_of_getElem? (i := 217) rfl)
set_option maxRecDepth 100000 in
theorem zse_187 : zselOK 187 := fun _ h => by cases h; exact zsub_5 (List.mem_of_getElem? (i := 225) rfl)
set_option maxRecDepth 100000 in
theorem zse_188 : zselOK 188 := fun _ h => by cases h; exact zsub_5 (List.mem_of_getElem? (i := 229) rfl)
set_option maxRecDepth 100000 in
theorem zse_189 : zselOK 189 := fun _ h => by cases h; exact zsub_5 (List.mem_of_getElem? (i := 233) rfl)
set_option maxRecDepth 100000 in
theorem zse_190 : zselOK 190 := fun _ h => by cases h; exact zsub_6 (List.mem_of_getElem? (i := 9) rfl)
set_option maxRecDepth 100000 in
theorem zse_191 : zselOK 191 := fun _ h => by cases h; exact zsub_6 (List.mem_of_getElem? (i := 21) rfl)
set_option maxRecDepth 100000 in
theorem zse_192 : zselOK 192 := fun _ h => by cases h; exact zsub_6 (List.mem_of_getElem? (i := 38) rfl)
set_option maxRecDepth 100000 in
theorem zse_193 : zselOK 193 := fun _ h => by cases h; exact zsub_6 (List.mem_of_getElem? (i := 42) rfl)
set_option maxRecDepth 100000 in
theorem zse_194 : zselOK 194 := fun _ h => by cases h; exact zsub_0 (List.mem_of_getElem? (i := 0) rfl)
set_option maxRecDepth 100000 in
theorem zse_195 : zselOK 195 := fun _ h => by cases h; exact zsub_0 (List.mem_of_getElem? (i := 1) rfl)
set_option maxRecDepth 100000 in
theorem zse_196 : zselOK 196 := fun _ h => by cases h; exact zsub_0 (List.mem_of_getElem? (i := 44) rfl)
set_option maxRecDepth 100000 in
theorem zse_197 : zselOK 197 := fun _ h => by cases h; exact zsub_0 (List.mem_of_getElem? (i := 3) rfl)
set_option maxRecDepth 100000 in
theorem zse_198 : zselOK 198 := fun _ h => by cases h; exact zsub_0 (List.mem_of_getElem? (i := 5) rfl)
set_option maxRecDepth 100000 in
theorem zse_199 : zselOK 199 := fun _ h => by cases h; exact zsub_0 (List.mem_of_getElem? (i := 43) rfl)
set_option maxRecDepth 100000 in
theorem zse_214 : zselOK 214 := fun _ h => by cases h; exact zsub_0 (List.mem_of_getElem? (i := 49) rfl)
set_option maxRecDepth 100000 in
theorem zse_215 : zselOK 215 := fun _ h => by cases h; exact zsub_0 (List.mem_of_getElem? (i := 48) rfl)
set_option maxRecDepth 100000 in
theorem zse_216 : zselOK 216 := fun _ h => by cases h; exact zsub_0 (List.mem_of_getElem? (i := 51) rfl)
set_option maxRecDepth 100000 in
theorem zse_217 : zselOK 217 := fun _ h => by cases h; exact zsub_0 (List.mem_of_getElem? (i := 52) rfl)
set_option maxRecDepth 100000 in
theorem zse_218 : zselOK 218 := fun _ h => by cases h; exact zsub_0 (List.mem_of_getElem? (i := 47) rfl)
set_option maxRecDepth 100000 in
theorem zse_219 : zselOK 219 := fun _ h => by cases h; exact zsub_0 (List.mem_of_getElem? (i := 50) rfl)
set_option maxRecDepth 100000 in
theorem zse_220 : zselOK 220 := fun _ h => by cases h; exact zsub_0 (List.mem_of_getElem? (i := 53) rfl)
set_option maxRecDepth 100000 in
theorem zse_221 : zselOK 221 := fun _ h => by cases h; exact zsub_0 (List.mem_of_getElem? (i := 54) rfl)
set_option maxRecDepth 100000 in
theorem zse_222 : zselOK 222 := fun _ h => by cases h; exact zsub_0 (List.mem_of_getElem? (i := 56) rfl)
set_option maxRecDepth 100000 in
theorem zse_224 : zselOK 224 := fun _ h => by cases h; exact zsub_0 (List.mem_of_getElem? (i := 55) rfl)
set_option maxRecDepth 100000 in
theorem zse_227 : zselOK 227 := fun _ h => by cases h; exact zsub_6 (List.mem_of_getElem? (i := 175) rfl)
set_option maxRecDepth 100000 in
theorem zse_230 : zselOK 230 := fun _ h => by cases h; exact zsub_0 (List.mem_of_getElem? (i := 57) rfl)
set_option maxRecDepth 100000 in
theorem zse_231 : zselOK 231 := fun _ h => by cases h; exact zsub_0 (List.mem_of_getElem? (i := 58) rfl)
set_option maxRecDepth 100000 in
theorem zse_232 : zselOK 232 := fun _ h => by cases h; exact zsub_0 (List.mem_of_getElem? (i := 59) rfl)
set_option maxRecDepth 100000 in
theorem zse_234 : zselOK 234 := fun _ h => by cases h; exact zsub_0 (List.mem_of_getElem? (i := 60) rfl)
set_option maxRecDepth 100000 in
theorem zse_240 : zselOK 240 := fun _ h => by cases h; exact zsub_0 (List.mem_of_getElem? (i := 61) rfl)
set_option maxRecDepth 100000 in
theorem zse_241 : zselOK 241 := fun _ h => by cases h; exact zsub_0 (List.mem_of_getElem? (i := 62) rfl)
set_option maxRecDepth 100000 in
theorem zse_242 : zselOK 242 := fun _ h => by cases h; exact zsub_0 (List.mem_of_getElem? (i := 63) rfl)
set_option maxRecDepth 100000 in
theorem zse_247 : zselOK 247 := fun _ h => by cases h; exact zsub_7 (List.mem_of_getElem? (i := 4) rfl)
set_option maxRecDepth 100000 in
theorem zse_248 : zselOK 248 := fun _ h => by cases h; exact zsub_0 (List.mem_of_getElem? (i := 64) rfl)
set_option maxRecDepth 100000 in
theorem zse_249 : zselOK 249 := fun _ h => by cases h; exact zsub_0 (List.mem_of_getElem? (i := 65) rfl)
set_option maxRecDepth 100000 in
theorem zse_250 : zselOK 250 := fun _ h => by cases h; exact zsub_7 (List.mem_of_getElem? (i := 75) rfl)
set_option maxRecDepth 100000 in
theorem zse_251 : zselOK 251 := fun _ h => by cases h; exact zsub_0 (List.mem_of_getElem? (i := 66) rfl)
set_option maxRecDepth 100000 in
theorem zse_252 : zselOK 252 := fun _ h => by cases h; exact zsub_7 (List.mem_of_getElem? (i := 83) rfl)
set_option maxRecDepth 100000 in
theorem zse_253 : zselOK 253 := fun _ h => by cases h; exact zsub_7 (List.mem_of_getElem? (i := 95) rfl)
set_option maxRecDepth 100000 in
theorem zse_255 : zselOK 255 := fun _ h => by cases h; exact zsub_7 (List.mem_of_getElem? (i := 99) rfl)
set_option maxRecDepth 100000 in
theorem zse_256 : zselOK 256 := fun _ h => by cases h; exact zsub_7 (List.mem_of_getElem? (i := 108) rfl)
set_option maxRecDepth 100000 in
theorem zse_257 : zselOK 257 := fun _ h => by cases h; exact zsub_7 (List.mem_of_getElem? (i := 112) rfl)
set_option maxRecDepth 100000 in
theorem zse_259 : zselOK 259 := fun _ h => by cases h; exact zsub_0 (List.mem_of_getElem? (i := 67) rfl)
set_option maxRecDepth 100000 in
theorem zse_260 : zselOK 260 := fun _ h => by cases h; exact zsub_0 (List.mem_of_getElem? (i := 69) rfl)
set_option maxRecDepth 100000 in
theorem zse_261 : zselOK 261 := fun _ h => by cases h; exact zsub_0 (List.mem_of_getElem? (i := 68) rfl)
set_option maxRecDepth 100000 in
theorem zse_262 : zselOK 262 := fun _ h => by cases h; exact zsub_7 (List.mem_of_getElem? (i := 118) rfl)
set_option maxRecDepth 100000 in
theorem zse_263 : zselOK 263 := fun _ h => by cases h; exact zsub_7 (List.mem_of_getElem? (i := 129) rfl)
set_option maxRecDepth 100000 in
theorem zse_264 : zselOK 264 := fun _ h => by cases h; exact zsub_0 (List.mem_of_getElem? (i := 70) rfl)
set_option maxRecDepth 100000 in
theorem zse_265 : zselOK 265 := fun _ h => by cases h; exact zsub_7 (List.mem_of_getElem? (i := 141) rfl)
set_option maxRecDepth 100000 in
theorem zse_266 : zselOK 266 := fun _ h => by cases h; exact zsub_7 (List.mem_of_getElem? (i := 149) rfl)
set_option maxRecDepth 100000 in
theorem zse_268 : zselOK 268 := fun _ h => by cases h; exact zsub_7 (List.mem_of_getElem? (i := 153) rfl)
set_option maxRecDepth 100000 in
theorem zse_269 : zselOK 269 := fun _ h => by cases h; exact zsub_0 (List.mem_of_getElem? (i := 71) rfl)
set_option maxRecDepth 100000 in
theorem zse_270 : zselOK 270 := fun _ h => by cases h; exact zsub_7 (List.mem_of_getElem? (i := 160) rfl)
set_option maxRecDepth 100000 in
theorem zse_271 : zselOK 271 := fun _ h => by cases h; exact zsub_0 (List.mem_of_getElem? (i := 73) rfl)
set_option maxRecDepth 100000 in
theorem zse_272 : zselOK 272 := fun _ h => by cases h; exact zsub_0 (List.mem_of_getElem? (i := 72) rfl)
set_option maxRecDepth 100000 in
theorem zse_273 : zselOK 273 := fun _ h => by cases h; exact zsub_7 (List.mem_of_getElem? (i := 168) rfl)
set_option maxRecDepth 100000 in
theorem zse_277 : zselOK 277 := fun _ h => by cases h; exact zsub_0 (List.mem_of_getElem? (i := 76) rfl)
set_option maxRecDepth 100000 in
theorem zse_278 : zselOK 278 := fun _ h => by cases h; exact zsub_0 (List.mem_of_getElem? (i := 78) rfl)
set_option maxRecDepth 100000 in
theorem zse_279 : zselOK 279 := fun _ h => by cases h; exact zsub_0 (List.mem_of_getElem? (i := 79) rfl)
set_option maxRecDepth 100000 in
theorem zse_280 : zselOK 280 := fun _ h => by cases h; exact zsub_0 (List.mem_of_getElem? (i := 77) rfl)
set_option maxRecDepth 100000 in
theorem zse_281 : zselOK 281 := fun _ h => by cases h; exact zsub_0 (List.mem_of_getElem? (i := 80) rfl)
set_option maxRecDepth 100000 in
theorem zse_282 : zselOK 282 := fun _ h => by cases h; exact zsub_0 (List.mem_of_getElem? (i := 75) rfl)
set_option maxRecDepth 100000 in
theorem zse_283 : zselOK 283 := fun _ h => by cases h; exact zsub_0 (List.mem_of_getElem? (i := 74) rfl)
set_option maxRecDepth 100000 in
theorem zse_284 : zselOK 284 := fun _ h => by cases h; exact zsub_7 (List.mem_of_getElem? (i := 182) rfl)
set_option maxRecDepth 100000 in
theorem zse_285 : zselOK 285 := fun _ h => by cases h; exact zsub_7 (List.mem_of_getElem? (i := 230) rfl)
set_option maxRecDepth 100000 in
theorem zse_286 : zselOK 286 := fun _ h => by cases h; exact zsub_7 (List.mem_of_getElem? (i := 234) rfl)
set_option maxRecDepth 100000 in
theorem zse_287 : zselOK 287 := fun _ h => by cases h; exact zsub_7 (List.mem_of_getElem? (i := 238) rfl)
set_option maxRecDepth 100000 in
theorem zse_288 : zselOK 288 := fun _ h => by cases h; exact zsub_8 (List.mem_of_getElem? (i := 4) rfl)
set_option maxRecDepth 100000 in
theorem zse_289 : zselOK 289 := fun _ h => by cases h; exact zsub_8 (List.mem_of_getElem? (i := 8) rfl)
set_option maxRecDepth 100000 in
theorem zse_290 : zselOK 290 := fun _ h => by cases h; exact zsub_8 (List.mem_of_getElem? (i := 12) rfl)
set_option maxRecDepth 100000 in
theorem zse_291 : zselOK 291 := fun _ h => by cases h; exact zsub_8 (List.mem_of_getElem? (i := 17) rfl)
set_option maxRecDepth 100000 in
theorem zse_292 : zselOK 292 := fun _ h => by cases h; exact zsub_0 (List.mem_of_getElem? (i := 81) rfl)
set_option maxRecDepth 100000 in
theorem zse_293 : zselOK 293 := fun _ h => by cases h; exact zsub_8 (List.mem_of_getElem? (i := 22) rfl)
set_option maxRecDepth 100000 in
theorem zse_294 : zselOK 294 := fun _ h => by cases h; exact zsub_0 (List.mem_of_getElem? (i := 82) rfl)
set_option maxRecDepth 100000 in
theorem zse_295 : zselOK 295 := fun _ h => by cases h; exact zsub_8 (List.mem_of_getElem? (i := 30) rfl)
set_option maxRecDepth 100000 in
theorem zse_296 : zselOK 296 := fun _ h => by cases h; exact zsub_8 (List.mem_of_getElem? (i := 38) rfl)
set_option maxRecDepth 100000 in
theorem zse_297 : zselOK 297 := fun _ h => by cases h; exact zsub_8 (List.mem_of_getElem? (i := 43) rfl)
set_option maxRecDepth 100000 in
theorem zse_298 : zselOK 298 := fun _ h => by cases h; exact zsub_0 (List.mem_of_getElem? (i := 84) rfl)
set_option maxRecDepth 100000 in
theorem zse_299 : zselOK 299 := fun _ h => by cases h; exact zsub_0 (List.mem_of_getElem? (i := 85) rfl)
set_option maxRecDepth 100000 in
theorem zse_300 : zselOK 300 := fun _ h => by cases h; exact zsub_0 (List.mem_of_getElem? (i := 83) rfl)
set_option maxRecDepth 100000 in
theorem zse_301 : zselOK 301 := fun _ h => by cases h; exact zsub_0 (List.mem_of_getElem? (i := 88) rfl)
set_option maxRecDepth 100000 in
theorem zse_303 : zselOK 303 := fun _ h => by cases h; exact zsub_0 (List.mem_of_getElem? (i := 87) rfl)
set_option maxRecDepth 100000 in
theorem zse_304 : zselOK 304 := fun _ h => by cases h; exact zsub_0 (List.mem_of_getElem? (i := 86) rfl)
set_option maxRecDepth 100000 in
theorem zse_305 : zselOK 305 := fun _ h => by cases h; exact zsub_0 (List.mem_of_getElem? (i := 89) rfl)
set_option maxRecDepth 100000 in
theorem zse_306 : zselOK 306 := fun _ h => by cases h; exact zsub_8 (List.mem_of_getElem? (i := 47) rfl)
set_option maxRecDepth 100000 in
theorem zse_308 : zselOK 308 := fun _ h => by cases h; exact zsub_8 (List.mem_of_getElem? (i := 89) rfl)
set_option maxRecDepth 100000 in
theorem zse_310 : zselOK 310 := fun _ h => by cases h; exact zsub_8 (List.mem_of_getElem? (i := 97) rfl)
set_option maxRecDepth 100000 in
theorem zse_311 : zselOK 311 := fun _ h => by cases h; exact zsub_8 (List.mem_of_getElem? (i := 104) rfl)
set_option maxRecDepth 100000 in
theorem zse_312 : zselOK 312 := fun _ h => by cases h; exact zsub_8 (List.mem_of_getElem? (i := 108) rfl)
set_option maxRecDepth 100000 in
theorem zse_313 : zselOK 313 := fun _ h => by cases h; exact zsub_8 (List.mem_of_getElem? (i := 112) rfl)
set_option maxRecDepth 100000 in
theorem zse_314 : zselOK 314 := fun _ h => by cases h; exact zsub_8 (List.mem_of_getElem? (i := 116) rfl)
set_option maxRecDepth 100000 in
theorem zse_316 : zselOK 316 := fun _ h => by cases h; exact zsub_0 (List.mem_of_getElem? (i := 91) rfl)
set_option maxRecDepth 100000 in
theorem zse_317 : zselOK 317 := fun _ h => by cases h; exact zsub_8 (List.mem_of_getElem? (i := 120) rfl)
set_option maxRecDepth 100000 in
theorem zse_318 : zselOK 318 := fun _ h => by cases h; exact zsub_0 (List.mem_of_getElem? (i := 90) rfl)
set_option maxRecDepth 100000 in
theorem zse_319 : zselOK 319 := fun _ h => by cases h; exact zsub_0 (List.mem_of_getElem? (i := 92) rfl)
set_option maxRecDepth 100000 in
theorem zse_320 : zselOK 320 := fun _ h => by cases h; exact zsub_0 (List.mem_of_getElem? (i := 93) rfl)
set_option maxRecDepth 100000 in
theorem zse_321 : zselOK 321 := fun _ h => by cases h; exact zsub_8 (List.mem_of_getElem? (i := 136) rfl)
set_option maxRecDepth 100000 in
theorem zse_322 : zselOK 322 := fun _ h => by cases h; exact zsub_8 (List.mem_of_getElem? (i := 149) rfl)
set_option maxRecDepth 100000 in
theorem zse_323 : zselOK 323 := fun _ h => by cases h; exact zsub_0 (List.mem_of_getElem? (i := 94) rfl)
set_option maxRecDepth 100000 in
theorem zse_324 : zselOK 324 := fun _ h => by cases h; exact zsub_8 (List.mem_of_getElem? (i := 153) rfl)
set_option maxRecDepth 100000 in
theorem zse_325 : zselOK 325 := fun _ h => by cases h; exact zsub_8 (List.mem_of_getElem? (i := 161) rfl)
set_option maxRecDepth 100000 in
theorem zse_326 : zselOK 326 := fun _ h => by cases h; exact zsub_0 (List.mem_of_getElem? (i := 95) rfl)
set_option maxRecDepth 100000 in
theorem zse_327 : zselOK 327 := fun _ h => by cases h; exact zsub_8 (List.mem_of_getElem? (i := 165) rfl)
set_option maxRecDepth 100000 in
theorem zse_328 : zselOK 328 := fun _ h => by cases h; exact zsub_8 (List.mem_of_getElem? (i := 173) rfl)
set_option maxRecDepth 100000 in
theorem zse_329 : zselOK 329 := fun _ h => by cases h; exact zsub_8 (List.mem_of_getElem? (i := 177) rfl)
set_option maxRecDepth 100000 in
theorem zse_330 : zselOK 330 := fun _ h => by cases h; exact zsub_0 (List.mem_of_getElem? (i := 96) rfl)
set_option maxRecDepth 100000 in
theorem zse_331 : zselOK 331 := fun _ h => by cases h; exact zsub_8 (List.mem_of_getElem? (i := 181) rfl)
set_option maxRecDepth 100000 in
theorem zse_332 : zselOK 332 := fun _ h => by cases h; exact zsub_8 (List.mem_of_getElem? (i := 191) rfl)
set_option maxRecDepth 100000 in
theorem zse_334 : zselOK 334 := fun _ h => by cases h; exact zsub_8 (List.mem_of_getElem? (i := 195) rfl)
set_option maxRecDepth 100000 in
theorem zse_335 : zselOK 335 := fun _ h => by cases h; exact zsub_8 (List.mem_of_getElem? (i := 202) rfl)
set_option maxRecDepth 100000 in
theorem zse_336 : zselOK 336 := fun _ h => by cases h; exact zsub_0 (List.mem_of_getElem? (i := 97) rfl)
set_option maxRecDepth 100000 in
theorem zse_337 : zselOK 337 := fun _ h => by cases h; exact zsub_8 (List.mem_of_getElem? (i := 206) rfl)
set_option maxRecDepth 100000 in
theorem zse_345 : zselOK 345 := fun _ h => by cases h; exact zsub_4 (List.mem_of_getElem? (i := 33) rfl)
set_option maxRecDepth 100000 in
theorem zse_346 : zselOK 346 := fun _ h => by cases h; exact zsub_4 (List.mem_of_getElem? (i := 43) rfl)
set_option maxRecDepth 100000 in
theorem zse_347 : zselOK 347 := fun _ h => by cases h; exact zsub_4 (List.mem_of_getElem? (i := 37) rfl)
set_option maxRecDepth 100000 in
theorem zse_348 : zselOK 348 := fun _ h => by cases h; exact zsub_4 (List.mem_of_getElem? (i := 47) rfl)
def zvl_c0 : List Nat := [1, 2, 3, 4, 5, 6, 7, 8, 9, 11, 12, 13, 14, 15, 16, 17]
theorem zvl_r0 : ∀ y ∈ zvl_c0, zselOK y := List.forall_mem_cons.mpr ⟨zse_1, List.forall_mem_cons.mpr ⟨zse_2, List.forall_mem_cons.mpr ⟨zse_3, List.forall_mem_cons.mpr ⟨zse_4, List.forall_mem_cons.mpr ⟨zse_5, List.forall_mem_cons.mpr ⟨zse_6, List.forall_mem_cons.mpr ⟨zse_7, List.forall_mem_cons.mpr ⟨zse_8, List.forall_mem_cons.mpr ⟨zse_9, List.forall_mem_cons.mpr ⟨zse_11, List.forall_mem_cons.mpr ⟨zse_12, List.forall_mem_cons.mpr ⟨zse_13, List.forall_mem_cons.mpr ⟨zse_14, List.forall_mem_cons.mpr ⟨zse_15, List.forall_mem_cons.mpr ⟨zse_16, List.forall_mem_cons.mpr ⟨zse_17, fun _ h => absurd h List.not_mem_nil⟩⟩⟩⟩⟩⟩⟩⟩⟩⟩⟩⟩⟩⟩⟩⟩
def zvl_c1 : List Nat := [18, 19, 20, 21, 22, 23, 24, 25, 36, 37, 38, 39, 40, 42, 43, 44]
theorem zvl_r1 : ∀ y ∈ zvl_c1, zselOK y := List.forall_mem_cons.mpr ⟨zse_18, List.forall_mem_cons.mpr ⟨zse_19, List.forall_mem_cons.mpr ⟨zse_20, List.forall_mem_cons.mpr ⟨zse_21, List.forall_mem_cons.mpr ⟨zse_22, List.forall_mem_cons.mpr ⟨zse_23, List.forall_mem_cons.mpr ⟨zse_24, List.forall_mem_cons.mpr ⟨zse_25, List.forall_mem_cons.mpr ⟨zse_36, List.forall_mem_cons.mpr ⟨zse_37, List.forall_mem_cons.mpr ⟨zse_38, List.forall_mem_cons.mpr ⟨zse_39, List.forall_mem_cons.mpr ⟨zse_40, List.forall_mem_cons.mpr ⟨zse_42, List.forall_mem_cons.mpr ⟨zse_43, List.forall_mem_cons.mpr ⟨zse_44, fun _ h => absurd h List.not_mem_nil⟩⟩⟩⟩⟩⟩⟩⟩⟩⟩⟩⟩⟩⟩⟩⟩
def zvl_c2 : List Nat := [45, 46, 47, 49, 50, 51, 52, 53, 54, 55, 56, 57, 58, 59, 60, 61]
theorem zvl_r2 : ∀ y ∈ zvl_c2, zselOK y := List.forall_mem_cons.mpr ⟨zse_45, List.forall_mem_cons.mpr ⟨zse_46, List.forall_mem_cons.mpr ⟨zse_47, List.forall_mem_cons.mpr ⟨zse_49, List.forall_mem_cons.mpr ⟨zse_50, List.forall_mem_cons.mpr ⟨zse_51, List.forall_mem_cons.mpr ⟨zse_52, List.forall_mem_cons.mpr ⟨zse_53, List.forall_mem_cons.mpr ⟨zse_54, List.forall_mem_cons.mpr ⟨zse_55, List.forall_mem_cons.mpr ⟨zse_56, List.forall_mem_cons.mpr ⟨zse_57, List.forall_mem_cons.mpr ⟨zse_58, List.forall_mem_cons.mpr ⟨zse_59, List.forall_mem_cons.mpr ⟨zse_60, List.forall_mem_cons.mpr ⟨zse_61, fun _ h => absurd h List.not_mem_nil⟩⟩⟩⟩⟩⟩⟩⟩⟩⟩⟩⟩⟩⟩⟩⟩
def zvl_c3 : List Nat := [63, 64, 65, 66, 67, 68, 69, 70, 71, 72, 73, 74, 75, 76, 77, 78]
theorem zvl_r3 : ∀ y ∈ zvl_c3, zselOK y := List.forall_mem_cons.mpr ⟨zse_63, List.forall_mem_cons.mpr ⟨zse_64, List.forall_mem_cons.mpr ⟨zse_65, List.forall_mem_cons.mpr ⟨zse_66, List.forall_mem_cons.mpr ⟨zse_67, List.forall_mem_cons.mpr ⟨zse_68, List.forall_mem_cons.mpr ⟨zse_69, List.forall_mem_cons.mpr ⟨zse_70, List.forall_mem_cons.mpr ⟨zse_71, List.forall_mem_cons.mpr ⟨zse_72, List.forall_mem_cons.mpr ⟨zse_73, List.forall_mem_cons.mpr ⟨zse_74, List.forall_mem_cons.mpr ⟨zse_75, List.forall_mem_cons.mpr ⟨zse_76, List.forall_mem_cons.mpr ⟨zse_77, List.forall_mem_cons.mpr ⟨zse_78, fun _ h => absurd h List.not_mem_nil⟩⟩⟩⟩⟩⟩⟩⟩⟩⟩⟩⟩⟩⟩⟩⟩
def zvl_c4 : List Nat := [79, 81, 82, 83, 84, 85, 86, 87, 88, 89, 91, 93, 94, 95, 96, 97]
theorem zvl_r4 : ∀ y ∈ zvl_c4, zselOK y := List.forall_mem_cons.mpr ⟨zse_79, List.forall_mem_cons.mpr ⟨zse_81, List.forall_mem_cons.mpr ⟨zse_82, List.forall_mem_cons.mpr ⟨zse_83, List.forall_mem_cons.mpr ⟨zse_84, List.forall_mem_cons.mpr ⟨zse_85, List.forall_mem_cons.mpr ⟨zse_86, List.forall_mem_cons.mpr ⟨zse_87, List.forall_mem_cons.mpr ⟨zse_88, List.forall_mem_cons.mpr ⟨zse_89, List.forall_mem_cons.mpr ⟨zse_91, List.forall_mem_cons.mpr ⟨zse_93, List.forall_mem_cons.mpr ⟨zse_94, List.forall_mem_cons.mpr ⟨zse_95, List.forall_mem_cons.mpr ⟨zse_96, List.forall_mem_cons.mpr ⟨zse_97, fun _ h => absurd h List.not_mem_nil⟩⟩⟩⟩⟩⟩⟩⟩⟩⟩⟩⟩⟩⟩⟩⟩
def zvl_c5 : List Nat := [98, 99, 100, 101, 102, 103, 105, 106, 107, 108, 110, 111, 112, 113, 114, 115]
theorem zvl_r5 : ∀ y ∈ zvl_c5, zselOK y := List.forall_mem_cons.mpr ⟨zse_98, List.forall_mem_cons.mpr ⟨zse_99, List.forall_mem_cons.mpr ⟨zse_100, List.forall_mem_cons.mpr ⟨zse_101, List.forall_mem_cons.mpr ⟨zse_102, List.forall_mem_cons.mpr ⟨zse_103, List.forall_mem_cons.mpr ⟨zse_105, List.forall_mem_cons.mpr ⟨zse_106, List.forall_mem_cons.mpr ⟨zse_107, List.forall_mem_cons.mpr ⟨zse_108, List.forall_mem_cons.mpr ⟨zse_110, List.forall_mem_cons.mpr ⟨zse_111, List.forall_mem_cons.mpr ⟨zse_112, List.forall_mem_cons.mpr ⟨zse_113, List.forall_mem_cons.mpr ⟨zse_114, List.forall_mem_cons.mpr ⟨zse_115, fun _ h => absurd h List.not_mem_nil⟩⟩⟩⟩⟩⟩⟩⟩⟩⟩⟩⟩⟩⟩⟩⟩
def zvl_c6 : List Nat := [116, 117, 118, 119, 120, 121, 122, 123, 125, 126, 127, 128, 129, 130, 131, 132]
theorem zvl_r6 : ∀ y ∈ zvl_c6, zselOK y := List.forall_mem_cons.mpr ⟨zse_116, List.forall_mem_cons.mpr ⟨zse_117, List.forall_mem_cons.mpr ⟨zse_118, List.forall_mem_cons.mpr ⟨zse_119, List.forall_mem_cons.mpr ⟨zse_120, List.forall_mem_cons.mpr ⟨zse_121, List.forall_mem_cons.mpr ⟨zse_122, List.forall_mem_cons.mpr ⟨zse_123, List.forall_mem_cons.mpr ⟨zse_125, List.forall_mem_cons.mpr ⟨zse_126, List.forall_mem_cons.mpr ⟨zse_127, List.forall_mem_cons.mpr ⟨zse_128, List.forall_mem_cons.mpr ⟨zse_129, List.forall_mem_cons.mpr ⟨zse_130, List.forall_mem_cons.mpr ⟨zse_131, List.forall_mem_cons.mpr ⟨zse_132, fun _ h => absurd h List.not_mem_nil⟩⟩⟩⟩⟩⟩⟩⟩⟩⟩⟩⟩⟩⟩⟩⟩
def zvl_c7 : List Nat := [135, 136, 138, 139, 140, 141, 142, 143, 144, 145, 146, 147, 148, 149, 150, 151]
theorem zvl_r7 : ∀ y ∈ zvl_c7, zselOK y := List.forall_mem_cons.mpr ⟨zse_135, List.forall_mem_cons.mpr ⟨zse_136, List.forall_mem_cons.mpr ⟨zse_138, List.forall_mem_cons.mpr ⟨zse_139, List.forall_mem_cons.mpr ⟨zse_140, List.forall_mem_cons.mpr ⟨zse_141, List.forall_mem_cons.mpr ⟨zse_142, List.forall_mem_cons.mpr ⟨zse_143, List.forall_mem_cons.mpr ⟨zse_144, List.forall_mem_cons.mpr ⟨zse_145, List.forall_mem_cons.mpr ⟨zse_146, List.forall_mem_cons.mpr ⟨zse_147, List.forall_mem_cons.mpr ⟨zse_148, List.forall_mem_cons.mpr ⟨zse_149, List.forall_mem_cons.mpr ⟨zse_150, List.forall_mem_cons.mpr ⟨zse_151, fun _ h => absurd h List.not_mem_nil⟩⟩⟩⟩⟩⟩⟩⟩⟩⟩⟩⟩⟩⟩⟩⟩
def zvl_c8 : List Nat := [152, 153, 154, 155, 156, 157, 158, 159, 160, 161, 162, 163, 164, 165, 166, 167]
theorem zvl_r8 : ∀ y ∈ zvl_c8, zselOK y := List.forall_mem_cons.mpr ⟨zse_152, List.forall_mem_cons.mpr ⟨zse_153, List.forall_mem_cons.mpr ⟨zse_154, List.forall_mem_cons.mpr ⟨zse_155, List.forall_mem_cons.mpr ⟨zse_156, List.forall_mem_cons.mpr ⟨zse_157, List.forall_mem_cons.mpr ⟨zse_158, List.forall_mem_cons.mpr ⟨zse_159, List.forall_mem_cons.mpr ⟨zse_160, List.forall_mem_cons.mpr ⟨zse_161, List.forall_mem_cons.mpr ⟨zse_162, List.forall_mem_cons.mpr ⟨zse_163, List.forall_mem_cons.mpr ⟨zse_164, List.forall_mem_cons.mpr ⟨zse_165, List.forall_mem_cons.mpr ⟨zse_166, List.forall_mem_cons.mpr ⟨zse_167, fun _ h => absurd h List.not_mem_nil⟩⟩⟩⟩⟩⟩⟩⟩⟩⟩⟩⟩⟩⟩⟩⟩
def zvl_c9 : List Nat := [168, 169, 170, 171, 172, 173, 174, 175, 176, 178, 179, 180, 181, 182, 183, 184]
theorem zvl_r9 : ∀ y ∈ zvl_c9, zselOK y := List.forall_mem_cons.mpr ⟨zse_168, List.forall_mem_cons.mpr ⟨zse_169, List.forall_mem_cons.mpr ⟨zse_170, List.forall_mem_cons.mpr ⟨zse_171, List.forall_mem_cons.mpr ⟨zse_172, List.forall_mem_cons.mpr ⟨zse_173, List.forall_mem_cons.mpr ⟨zse_174, List.forall_mem_cons.mpr ⟨zse_175, List.forall_mem_cons.mpr ⟨zse_176, List.forall_mem_cons.mpr ⟨zse_178, List.forall_mem_cons.mpr ⟨zse_179, List.forall_mem_cons.mpr ⟨zse_180, List.forall_mem_cons.mpr ⟨zse_181, List.forall_mem_cons.mpr ⟨zse_182, List.forall_mem_cons.mpr ⟨zse_183, List.forall_mem_cons.mpr ⟨zse_184, fun _ h => absurd h List.not_mem_nil⟩⟩⟩⟩⟩⟩⟩⟩⟩⟩⟩⟩⟩⟩⟩⟩
def zvl_c10 : List Nat := [185, 186, 187, 188, 189, 190, 191, 192, 193, 194, 195, 196, 197, 198, 199, 214]
theorem zvl_r10 : ∀ y ∈ zvl_c10, zselOK y := List.forall_mem_cons.mpr ⟨zse_185, List.forall_mem_cons.mpr ⟨zse_186, List.forall_mem_cons.mpr ⟨zse_187, List.forall_mem_cons.mpr ⟨zse_188, List.forall_mem_cons.mpr ⟨zse_189, List.forall_mem_cons.mpr ⟨zse_190, List.forall_mem_cons.mpr ⟨zse_191, List.forall_mem_cons.mpr ⟨zse_192, List.forall_mem_cons.mpr ⟨zse_193, List.forall_mem_cons.mpr ⟨zse_194, List.forall_mem_cons.mpr ⟨zse_195, List.forall_mem_cons.mpr ⟨zse_196, List.forall_mem_cons.mpr ⟨zse_197, List.forall_mem_cons.mpr ⟨zse_198, List.forall_mem_cons.mpr ⟨zse_199, List.forall_mem_cons.mpr ⟨zse_214, fun _ h => absurd h List.not_mem_nil⟩⟩⟩⟩⟩⟩⟩⟩⟩⟩⟩⟩⟩⟩⟩⟩
def zvl_c11 : List Nat := [215, 216, 217, 218, 219, 220, 221, 222, 224, 227, 230, 231, 232, 234, 240, 241]
theorem zvl_r11 : ∀ y ∈ zvl_c11, zselOK y := List.forall_mem_cons.mpr ⟨zse_215, List.forall_mem_cons.mpr ⟨zse_216, List.forall_mem_cons.mpr ⟨zse_217, List.forall_mem_cons.mpr ⟨zse_218, List.forall_mem_cons.mpr ⟨zse_219, List.forall_mem_cons.mpr ⟨zse_220, List.forall_mem_cons.mpr ⟨zse_221, List.forall_mem_cons.mpr ⟨zse_222, List.forall_mem_cons.mpr ⟨zse_224, List.forall_mem_cons.mpr ⟨zse_227, List.forall_mem_cons.mpr ⟨zse_230, List.forall_mem_cons.mpr ⟨zse_231, List.forall_mem_cons.mpr ⟨zse_232, List.forall_mem_cons.mpr ⟨zse_234, List.forall_mem_cons.mpr ⟨zse_240, List.forall_mem_cons.mpr ⟨zse_241, fun _ h => absurd h List.not_mem_nil⟩⟩⟩⟩⟩⟩⟩⟩⟩⟩⟩⟩⟩⟩⟩⟩
def zvl_c12 : List Nat := [242, 247, 248, 249, 250, 251, 252, 253, 255, 256, 257, 259, 260, 261, 262, 263]
theorem zvl_r12 : ∀ y ∈ zvl_c12, zselOK y := List.forall_mem_cons.mpr ⟨zse_242, List.forall_mem_cons.mpr ⟨zse_247, List.forall_mem_cons.mpr ⟨zse_248, List.forall_mem_cons.mpr ⟨zse_249, List.forall_mem_cons.mpr ⟨zse_250, List.forall_mem_cons.mpr ⟨zse_251, List.forall_mem_cons.mpr ⟨zse_252, List.forall_mem_cons.mpr ⟨zse_253, List.forall_mem_cons.mpr ⟨zse_255, List.forall_mem_cons.mpr ⟨zse_256, List.forall_mem_cons.mpr ⟨zse_257, List.forall_mem_cons.mpr ⟨zse_259, List.forall_mem_cons.mpr ⟨zse_260, List.forall_mem_cons.mpr ⟨zse_261, List.forall_mem_cons.mpr ⟨zse_262, List.forall_mem_cons.mpr ⟨zse_263, fun _ h => absurd h List.not_mem_nil⟩⟩⟩⟩⟩⟩⟩⟩⟩⟩⟩⟩⟩⟩⟩⟩
def zvl_c13 : List Nat := [264, 265, 266, 268, 269, 270, 271, 272, 273, 277, 278, 279, 280, 281, 282, 283]
theorem zvl_r13 : ∀ y ∈ zvl_c13, zselOK y := List.forall_mem_cons.mpr ⟨zse_264, List.forall_mem_cons.mpr ⟨zse_265, List.forall_mem_cons.mpr ⟨zse_266, List.forall_mem_cons.mpr ⟨zse_268, List.forall_mem_cons.mpr ⟨zse_269, List.forall_mem_cons.mpr ⟨zse_270, List.forall_mem_cons.mpr ⟨zse_271, List.forall_mem_cons.mpr ⟨zse_272, List.forall_mem_cons.mpr ⟨zse_273, List.forall_mem_cons.mpr ⟨zse_277, List.forall_mem_cons.mpr ⟨zse_278, List.forall_mem_cons.mpr ⟨zse_279, List.forall_mem_cons.mpr ⟨zse_280, List.forall_mem_cons.mpr ⟨zse_281, List.forall_mem_cons.mpr ⟨zse_282, List.forall_mem_cons.mpr ⟨zse_283, fun _ h => absurd h List.not_mem_nil⟩⟩⟩⟩⟩⟩⟩⟩⟩⟩⟩⟩⟩⟩⟩⟩
def zvl_c14 : List Nat := [284, 285, 286, 287, 288, 289, 290, 291, 292, 293, 294, 295, 296, 297, 298, 299]
theorem zvl_r14 : ∀ y ∈ zvl_c14, zselOK y := List.forall_mem_cons.mpr ⟨zse_284, List.forall_mem_cons.mpr ⟨zse_285, List.forall_mem_cons.mpr ⟨zse_286, List.forall_mem_cons.mpr ⟨zse_287, List.forall_mem_cons.mpr ⟨zse_288, List.forall_mem_cons.mpr ⟨zse_289, List.forall_mem_cons.mpr ⟨zse_290, List.forall_mem_cons.mpr ⟨zse_291, List.forall_mem_cons.mpr ⟨zse_292, List.forall_mem_cons.mpr ⟨zse_293, List.forall_mem_cons.mpr ⟨zse_294, List.forall_mem_cons.mpr ⟨zse_295, List.forall_mem_cons.mpr ⟨zse_296, List.forall_mem_cons.mpr ⟨zse_297, List.forall_mem_cons.mpr ⟨zse_298, List.forall_mem_cons.mpr ⟨zse_299, fun _ h => absurd h List.not_mem_nil⟩⟩⟩⟩⟩⟩⟩⟩⟩⟩⟩⟩⟩⟩⟩⟩
def zvl_c15 : List Nat := [300, 301, 303, 304, 305, 306, 308, 310, 311, 312, 313, 314, 316, 317, 318, 319]
theorem zvl_r15 : ∀ y ∈ zvl_c15, zselOK y := List.forall_mem_cons.mpr ⟨zse_300, List.forall_mem_cons.mpr ⟨zse_301, List.forall_mem_cons.mpr ⟨zse_303, List.forall_mem_cons.mpr ⟨zse_304, List.forall_mem_cons.mpr ⟨zse_305, List.forall_mem_cons.mpr ⟨zse_306, List.forall_mem_cons.mpr ⟨zse_308, List.forall_mem_cons.mpr ⟨zse_310, List.forall_mem_cons.mpr ⟨zse_311, List.forall_mem_cons.mpr ⟨zse_312, List.forall_mem_cons.mpr ⟨zse_313, List.forall_mem_cons.mpr ⟨zse_314, List.forall_mem_cons.mpr ⟨zse_316, List.forall_mem_cons.mpr ⟨zse_317, List.forall_mem_cons.mpr ⟨zse_318, List.forall_mem_cons.mpr ⟨zse_319, fun _ h => absurd h List.not_mem_nil⟩⟩⟩⟩⟩⟩⟩⟩⟩⟩⟩⟩⟩⟩⟩⟩
def zvl_c16 : List Nat := [320, 321, 322, 323, 324, 325, 326, 327, 328, 329, 330, 331, 332, 334, 335, 336]
theorem zvl_r16 : ∀ y ∈ zvl_c16, zselOK y := List.forall_mem_cons.mpr ⟨zse_320, List.forall_mem_cons.mpr ⟨zse_321, List.forall_mem_cons.mpr ⟨zse_322, List.forall_mem_cons.mpr ⟨zse_323, List.forall_mem_cons.mpr ⟨zse_324, List.forall_mem_cons.mpr ⟨zse_325, List.forall_mem_cons.mpr ⟨zse_326, List.forall_mem_cons.mpr ⟨zse_327, List.forall_mem_cons.mpr ⟨zse_328, List.forall_mem_cons.mpr ⟨zse_329, List.forall_mem_cons.mpr ⟨zse_330, List.forall_mem_cons.mpr ⟨zse_331, List.forall_mem_cons.mpr ⟨zse_332, List.forall_mem_cons.mpr ⟨zse_334, List.forall_mem_cons.mpr ⟨zse_335, List.forall_mem_cons.mpr ⟨zse_336, fun _ h => absurd h List.not_mem_nil⟩⟩⟩⟩⟩⟩⟩⟩⟩⟩⟩⟩⟩⟩⟩⟩
def zvl_c17 : List Nat := [337, 345, 346, 347, 348]
theorem zvl_r17 : ∀ y ∈ zvl_c17, zselOK y := List.forall_mem_cons.mpr ⟨zse_337, List.forall_mem_cons.mpr ⟨zse_345, List.forall_mem_cons.mpr ⟨zse_346, List.forall_mem_cons.mpr ⟨zse_347, List.forall_mem_cons.mpr ⟨zse_348, fun _ h => absurd h List.not_mem_nil⟩⟩⟩⟩⟩
def zvl : List Nat := zvl_c0 ++ (zvl_c1 ++ (zvl_c2 ++ (zvl_c3 ++ (zvl_c4 ++ (zvl_c5 ++ (zvl_c6 ++ (zvl_c7 ++ (zvl_c8 ++ (zvl_c9 ++ (zvl_c10 ++ (zvl_c11 ++ (zvl_c12 ++ (zvl_c13 ++ (zvl_c14 ++ (zvl_c15 ++ (zvl_c16 ++ (zvl_c17)))))))))))))))))
theorem zvl_ok : ∀ y ∈ zvl, zselOK y := List.forall_mem_append.mpr ⟨zvl_r0, List.forall_mem_append.mpr ⟨zvl_r1, List.forall_mem_append.mpr ⟨zvl_r2, List.forall_mem_append.mpr ⟨zvl_r3, List.forall_mem_append.mpr ⟨zvl_r4, List.forall_mem_append.mpr ⟨zvl_r5, List.forall_mem_append.mpr ⟨zvl_r6, List.forall_mem_append.mpr ⟨zvl_r7, List.forall_mem_append.mpr ⟨zvl_r8, List.forall_mem_append.mpr ⟨zvl_r9, List.forall_mem_append.mpr ⟨zvl_r10, List.forall_mem_append.mpr ⟨zvl_r11, List.forall_mem_append.mpr ⟨zvl_r12, List.forall_mem_append.mpr ⟨zvl_r13, List.forall_mem_append.mpr ⟨zvl_r14, List.forall_mem_append.mpr ⟨zvl_r15, List.forall_mem_append.mpr ⟨zvl_r16, zvl_r17⟩⟩⟩⟩⟩⟩⟩⟩⟩⟩⟩⟩⟩⟩⟩⟩⟩
