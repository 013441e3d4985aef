/-! All code is checked: by the method's number -/
def zCk (y : Nat) : Prop := ∀ md : zMd, znth zmd y = some md → ∃ (cd : List zQ) (ini : Bool), znth zcode y = some cd ∧ zchks cd md.2.1 y md.2.2.2.2.2.2 md.2.2.2.1 ini 0 cd = true ∧ (ini = true → md.1.name = "<init>")
set_option maxRecDepth 100000 in
theorem zcy_0 : zCk 0 := fun _ h => by cases h; exact ⟨_, _, rfl, zck_0, fun _ => rfl⟩
set_option maxRecDepth 100000 in
theorem zcy_1 : zCk 1 := fun _ h => by cases h; exact ⟨_, _, rfl, zck_1, fun h => nomatch h⟩
set_option maxRecDepth 100000 in
theorem zcy_2 : zCk 2 := fun _ h => by cases h; exact ⟨_, _, rfl, zck_2, fun h => nomatch h⟩
set_option maxRecDepth 100000 in
theorem zcy_3 : zCk 3 := fun _ h => by cases h; exact ⟨_, _, rfl, zck_3, fun h => nomatch h⟩
set_option maxRecDepth 100000 in
theorem zcy_4 : zCk 4 := fun _ h => by cases h; exact ⟨_, _, rfl, zck_4, fun h => nomatch h⟩
set_option maxRecDepth 100000 in
theorem zcy_5 : zCk 5 := fun _ h => by cases h; exact ⟨_, _, rfl, zck_5, fun h => nomatch h⟩
set_option maxRecDepth 100000 in
theorem zcy_6 : zCk 6 := fun _ h => by cases h; exact ⟨_, _, rfl, zck_6, fun h => nomatch h⟩
set_option maxRecDepth 100000 in
theorem zcy_7 : zCk 7 := fun _ h => by cases h; exact ⟨_, _, rfl, zck_7, fun h => nomatch h⟩
set_option maxRecDepth 100000 in
theorem zcy_8 : zCk 8 := fun _ h => by cases h; exact ⟨_, _, rfl, zck_8, fun h => nomatch h⟩
set_option maxRecDepth 100000 in
theorem zcy_9 : zCk 9 := fun _ h => by cases h; exact ⟨_, _, rfl, zck_9, fun h => nomatch h⟩
set_option maxRecDepth 100000 in
theorem zcy_10 : zCk 10 := fun _ h => by cases h; exact ⟨_, _, rfl, zck_10, fun _ => rfl⟩
set_option maxRecDepth 100000 in
theorem zcy_11 : zCk 11 := fun _ h => by cases h; exact ⟨_, _, rfl, zck_11, fun h => nomatch h⟩
set_option maxRecDepth 100000 in
theorem zcy_12 : zCk 12 := fun _ h => by cases h; exact ⟨_, _, rfl, zck_12, fun h => nomatch h⟩
set_option maxRecDepth 100000 in
theorem zcy_13 : zCk 13 := fun _ h => by cases h; exact ⟨_, _, rfl, zck_13, fun h => nomatch h⟩
set_option maxRecDepth 100000 in
theorem zcy_14 : zCk 14 := fun _ h => by cases h; exact ⟨_, _, rfl, zck_14, fun h => nomatch h⟩
set_option maxRecDepth 100000 in
theorem zcy_15 : zCk 15 := fun _ h => by cases h; exact ⟨_, _, rfl, zck_15, fun h => nomatch h⟩
set_option maxRecDepth 100000 in
theorem zcy_16 : zCk 16 := fun _ h => by cases h; exact ⟨_, _, rfl, zck_16, fun h => nomatch h⟩
set_option maxRecDepth 100000 in
theorem zcy_17 : zCk 17 := fun _ h => by cases h; exact ⟨_, _, rfl, zck_17, fun h => nomatch h⟩
set_option maxRecDepth 100000 in
theorem zcy_18 : zCk 18 := fun _ h => by cases h; exact ⟨_, _, rfl, zck_18, fun h => nomatch h⟩
set_option maxRecDepth 100000 in
theorem zcy_19 : zCk 19 := fun _ h => by cases h; exact ⟨_, _, rfl, zck_19, fun h => nomatch h⟩
set_option maxRecDepth 100000 in
theorem zcy_20 : zCk 20 := fun _ h => by cases h; exact ⟨_, _, rfl, zck_20, fun h => nomatch h⟩
set_option maxRecDepth 100000 in
theorem zcy_21 : zCk 21 := fun _ h => by cases h; exact ⟨_, _, rfl, zck_21, fun h => nomatch h⟩
set_option maxRecDepth 100000 in
theorem zcy_22 : zCk 22 := fun _ h => by cases h; exact ⟨_, _, rfl, zck_22, fun h => nomatch h⟩
set_option maxRecDepth 100000 in
theorem zcy_23 : zCk 23 := fun _ h => by cases h; exact ⟨_, _, rfl, zck_23, fun h => nomatch h⟩
set_option maxRecDepth 100000 in
theorem zcy_24 : zCk 24 := fun _ h => by cases h; exact ⟨_, _, rfl, zck_24, fun h => nomatch h⟩
set_option maxRecDepth 100000 in
theorem zcy_25 : zCk 25 := fun _ h => by cases h; exact ⟨_, _, rfl, zck_25, fun h => nomatch h⟩
set_option maxRecDepth 100000 in
theorem zcy_26 : zCk 26 := fun _ h => by cases h; exact ⟨_, _, rfl, zck_26, fun h => nomatch h⟩
set_option maxRecDepth 100000 in
theorem zcy_27 : zCk 27 := fun _ h => by cases h; exact ⟨_, _, rfl, zck_27, fun h => nomatch h⟩
set_option maxRecDepth 100000 in
theorem zcy_28 : zCk 28 := fun _ h => by cases h; exact ⟨_, _, rfl, zck_28, fun h => nomatch h⟩
set_option maxRecDepth 100000 in
theorem zcy_29 : zCk 29 := fun _ h => by cases h; exact ⟨_, _, rfl, zck_29, fun h => nomatch h⟩
set_option maxRecDepth 100000 in
theorem zcy_30 : zCk 30 := fun _ h => by cases h; exact ⟨_, _, rfl, zck_30, fun h => nomatch h⟩
set_option maxRecDepth 100000 in
theorem zcy_31 : zCk 31 := fun _ h => by cases h; exact ⟨_, _, rfl, zck_31, fun h => nomatch h⟩
set_option maxRecDepth 100000 in
theorem zcy_32 : zCk 32 := fun _ h => by cases h; exact ⟨_, _, rfl, zck_32, fun h => nomatch h⟩
set_option maxRecDepth 100000 in
theorem zcy_33 : zCk 33 := fun _ h => by cases h; exact ⟨_, _, rfl, zck_33, fun h => nomatch h⟩
set_option maxRecDepth 100000 in
theorem zcy_34 : zCk 34 := fun _ h => by cases h; exact ⟨_, _, rfl, zck_34, fun h => nomatch h⟩
set_option maxRecDepth 100000 in
theorem zcy_35 : zCk 35 := fun _ h => by cases h; exact ⟨_, _, rfl, zck_35, fun _ => rfl⟩
set_option maxRecDepth 100000 in
theorem zcy_36 : zCk 36 := fun _ h => by cases h; exact ⟨_, _, rfl, zck_36, fun h => nomatch h⟩
set_option maxRecDepth 100000 in
theorem zcy_37 : zCk 37 := fun _ h => by cases h; exact ⟨_, _, rfl, zck_37, fun h => nomatch h⟩
set_option maxRecDepth 100000 in
theorem zcy_38 : zCk 38 := fun _ h => by cases h; exact ⟨_, _, rfl, zck_38, fun h => nomatch h⟩
set_option maxRecDepth 100000 in
theorem zcy_39 : zCk 39 := fun _ h => by cases h; exact ⟨_, _, rfl, zck_39, fun h => nomatch h⟩
set_option maxRecDepth 100000 in
theorem zcy_40 : zCk 40 := fun _ h => by cases h; exact ⟨_, _, rfl, zck_40, fun h => nomatch h⟩
set_option maxRecDepth 100000 in
theorem zcy_41 : zCk 41 := fun _ h => by cases h; exact ⟨_, _, rfl, zck_41, fun _ => rfl⟩
set_option maxRecDepth 100000 in
theorem zcy_42 : zCk 42 := fun _ h => by cases h; exact ⟨_, _, rfl, zck_42, fun h => nomatch h⟩
set_option maxRecDepth 100000 in
theorem zcy_43 : zCk 43 := fun _ h => by cases h; exact ⟨_, _, rfl, zck_43, fun h => nomatch h⟩
set_option maxRecDepth 100000 in
theorem zcy_44 : zCk 44 := fun _ h => by cases h; exact ⟨_, _, rfl, zck_44, fun h => nomatch h⟩
set_option maxRecDepth 100000 in
theorem zcy_45 : zCk 45 := fun _ h => by cases h; exact ⟨_, _, rfl, zck_45, fun h => nomatch h⟩
set_option maxRecDepth 100000 in
theorem zcy_46 : zCk 46 := fun _ h => by cases h; exact ⟨_, _, rfl, zck_46, fun h => nomatch h⟩
set_option maxRecDepth 100000 in
theorem zcy_47 : zCk 47 := fun _ h => by cases h; exact ⟨_, _, rfl, zck_47, fun h => nomatch h⟩
set_option maxRecDepth 100000 in
theorem zcy_48 : zCk 48 := fun _ h => by cases h; exact ⟨_, _, rfl, zck_48, fun _ => rfl⟩
set_option maxRecDepth 100000 in
theorem zcy_49 : zCk 49 := fun _ h => by cases h; exact ⟨_, _, rfl, zck_49, fun h => nomatch h⟩
set_option maxRecDepth 100000 in
theorem zcy_50 : zCk 50 := fun _ h => by cases h; exact ⟨_, _, rfl, zck_50, fun h => nomatch h⟩
set_option maxRecDepth 100000 in
theorem zcy_51 : zCk 51 := fun _ h => by cases h; exact ⟨_, _, rfl, zck_51, fun h => nomatch h⟩
set_option maxRecDepth 100000 in
theorem zcy_52 : zCk 52 := fun _ h => by cases h; exact ⟨_, _, rfl, zck_52, fun h => nomatch h⟩
set_option maxRecDepth 100000 in
theorem zcy_53 : zCk 53 := fun _ h => by cases h; exact ⟨_, _, rfl, zck_53, fun h => nomatch h⟩
set_option maxRecDepth 100000 in
theorem zcy_54 : zCk 54 := fun _ h => by cases h; exact ⟨_, _, rfl, zck_54, fun h => nomatch h⟩
set_option maxRecDepth 100000 in
theorem zcy_55 : zCk 55 := fun _ h => by cases h; exact ⟨_, _, rfl, zck_55, fun h => nomatch h⟩
set_option maxRecDepth 100000 in
theorem zcy_56 : zCk 56 := fun _ h => by cases h; exact ⟨_, _, rfl, zck_56, fun h => nomatch h⟩
set_option maxRecDepth 100000 in
theorem zcy_57 : zCk 57 := fun _ h => by cases h; exact ⟨_, _, rfl, zck_57, fun h => nomatch h⟩
set_option maxRecDepth 100000 in
theorem zcy_58 : zCk 58 := fun _ h => by cases h; exact ⟨_, _, rfl, zck_58, fun h => nomatch h⟩
set_option maxRecDepth 100000 in
theorem zcy_59 : zCk 59 := fun _ h => by cases h; exact ⟨_, _, rfl, zck_59, fun h => nomatch h⟩
set_option maxRecDepth 100000 in
theorem zcy_60 : zCk 60 := fun _ h => by cases h; exact ⟨_, _, rfl, zck_60, fun h => nomatch h⟩
set_option maxRecDepth 100000 in
theorem zcy_61 : zCk 61 := fun _ h => by cases h; exact ⟨_, _, rfl, zck_61, fun h => nomatch h⟩
set_option maxRecDepth 100000 in
theorem zcy_62 : zCk 62 := fun _ h => by cases h; exact ⟨_, _, rfl, zck_62, fun _ => rfl⟩
set_option maxRecDepth 100000 in
theorem zcy_63 : zCk 63 := fun _ h => by cases h; exact ⟨_, _, rfl, zck_63, fun h => nomatch h⟩
set_option maxRecDepth 100000 in
theorem zcy_64 : zCk 64 := fun _ h => by cases h; exact ⟨_, _, rfl, zck_64, fun h => nomatch h⟩
set_option maxRecDepth 100000 in
theorem zcy_65 : zCk 65 := fun _ h => by cases h; exact ⟨_, _, rfl, zck_65, fun h => nomatch h⟩
set_option maxRecDepth 100000 in
theorem zcy_66 : zCk 66 := fun _ h => by cases h; exact ⟨_, _, rfl, zck_66, fun h => nomatch h⟩
set_option maxRecDepth 100000 in
theorem zcy_67 : zCk 67 := fun _ h => by cases h; exact ⟨_, _, rfl, zck_67, fun h => nomatch h⟩
set_option maxRecDepth 100000 in
theorem zcy_68 : zCk 68 := fun _ h => by cases h; exact ⟨_, _, rfl, zck_68, fun h => nomatch h⟩
set_option maxRecDepth 100000 in
theorem zcy_69 : zCk 69 := fun _ h => by cases h; exact ⟨_, _, rfl, zck_69, fun h => nomatch h⟩
set_option maxRecDepth 100000 in
theorem zcy_70 : zCk 70 := fun _ h => by cases h; exact ⟨_, _, rfl, zck_70, fun h => nomatch h⟩
set_option maxRecDepth 100000 in
theorem zcy_71 : zCk 71 := fun _ h => by cases h; exact ⟨_, _, rfl, zck_71, fun h => nomatch h⟩
set_option maxRecDepth 100000 in
theorem zcy_72 : zCk 72 := fun _ h => by cases h; exact ⟨_, _, rfl, zck_72, fun h => nomatch h⟩
set_option maxRecDepth 100000 in
theorem zcy_73 : zCk 73 := fun _ h => by cases h; exact ⟨_, _, rfl, zck_73, fun h => nomatch h⟩
set_option maxRecDepth 100000 in
theorem zcy_74 : zCk 74 := fun _ h => by cases h; exact ⟨_, _, rfl, zck_74, fun h => nomatch h⟩
set_option maxRecDepth 100000 in
theorem zcy_75 : zCk 75 := fun _ h => by cases h; exact ⟨_, _, rfl, zck_75, fun h => nomatch h⟩
set_option maxRecDepth 100000 in
theorem zcy_76 : zCk 76 := fun _ h => by cases h; exact ⟨_, _, rfl, zck_76, fun h => nomatch h⟩
set_option maxRecDepth 100000 in
theorem zcy_77 : zCk 77 := fun _ h => by cases h; exact ⟨_, _, rfl, zck_77, fun h => nomatch h⟩
set_option maxRecDepth 100000 in
theorem zcy_78 : zCk 78 := fun _ h => by cases h; exact ⟨_, _, rfl, zck_78, fun h => nomatch h⟩
set_option maxRecDepth 100000 in
theorem zcy_79 : zCk 79 := fun _ h => by cases h; exact ⟨_, _, rfl, zck_79, fun h => nomatch h⟩
set_option maxRecDepth 100000 in
theorem zcy_80 : zCk 80 := fun _ h => by cases h; exact ⟨_, _, rfl, zck_80, fun _ => rfl⟩
set_option maxRecDepth 100000 in
theorem zcy_81 : zCk 81 := fun _ h => by cases h; exact ⟨_, _, rfl, zck_81, fun h => nomatch h⟩
set_option maxRecDepth 100000 in
theorem zcy_82 : zCk 82 := fun _ h => by cases h; exact ⟨_, _, rfl, zck_82, fun h => nomatch h⟩
set_option maxRecDepth 100000 in
theorem zcy_83 : zCk 83 := fun _ h => by cases h; exact ⟨_, _, rfl, zck_83, fun h => nomatch h⟩
set_option maxRecDepth 100000 in
theorem zcy_84 : zCk 84 := fun _ h => by cases h; exact ⟨_, _, rfl, zck_84, fun h => nomatch h⟩
set_option maxRecDepth 100000 in
theorem zcy_85 : zCk 85 := fun _ h => by cases h; exact ⟨_, _, rfl, zck_85, fun h => nomatch h⟩
set_option maxRecDepth 100000 in
theorem zcy_86 : zCk 86 := fun _ h => by cases h; exact ⟨_, _, rfl, zck_86, fun h => nomatch h⟩
set_option maxRecDepth 100000 in
theorem zcy_87 : zCk 87 := fun _ h => by cases h; exact ⟨_, _, rfl, zck_87, fun h => nomatch h⟩
set_option maxRecDepth 100000 in
theorem zcy_88 : zCk 88 := fun _ h => by cases h; exact ⟨_, _, rfl, zck_88, fun h => nomatch h⟩
set_option maxRecDepth 100000 in
theorem zcy_89 : zCk 89 := fun _ h => by cases h; exact ⟨_, _, rfl, zck_89, fun h => nomatch h⟩
set_option maxRecDepth 100000 in
theorem zcy_90 : zCk 90 := fun _ h => by cases h; exact ⟨_, _, rfl, zck_90, fun h => nomatch h⟩
set_option maxRecDepth 100000 in
theorem zcy_91 : zCk 91 := fun _ h => by cases h; exact ⟨_, _, rfl, zck_91, fun h => nomatch h⟩
set_option maxRecDepth 100000 in
theorem zcy_92 : zCk 92 := fun _ h => by cases h; exact ⟨_, _, rfl, zck_92, fun _ => rfl⟩
set_option maxRecDepth 100000 in
theorem zcy_93 : zCk 93 := fun _ h => by cases h; exact ⟨_, _, rfl, zck_93, fun h => nomatch h⟩
set_option maxRecDepth 100000 in
theorem zcy_94 : zCk 94 := fun _ h => by cases h; exact ⟨_, _, rfl, zck_94, fun h => nomatch h⟩
set_option maxRecDepth 100000 in
theorem zcy_95 : zCk 95 := fun _ h => by cases h; exact ⟨_, _, rfl, zck_95, fun h => nomatch h⟩
set_option maxRecDepth 100000 in
theorem zcy_96 : zCk 96 := fun _ h => by cases h; exact ⟨_, _, rfl, zck_96, fun h => nomatch h⟩
set_option maxRecDepth 100000 in
theorem zcy_97 : zCk 97 := fun _ h => by cases h; exact ⟨_, _, rfl, zck_97, fun h => nomatch h⟩
set_option maxRecDepth 100000 in
theorem zcy_98 : zCk 98 := fun _ h => by cases h; exact ⟨_, _, rfl, zck_98, fun h => nomatch h⟩
set_option maxRecDepth 100000 in
theorem zcy_99 : zCk 99 := fun _ h => by cases h; exact ⟨_, _, rfl, zck_99, fun h => nomatch h⟩
set_option maxRecDepth 100000 in
theorem zcy_100 : zCk 100 := fun _ h => by cases h; exact ⟨_, _, rfl, zck_100, fun h => nomatch h⟩
set_option maxRecDepth 100000 in
theorem zcy_101 : zCk 101 := fun _ h => by cases h; exact ⟨_, _, rfl, zck_101, fun h => nomatch h⟩
set_option maxRecDepth 100000 in
theorem zcy_102 : zCk 102 := fun _ h => by cases h; exact ⟨_, _, rfl, zck_102, fun h => nomatch h⟩
set_option maxRecDepth 100000 in
theorem zcy_103 : zCk 103 := fun _ h => by cases h; exact ⟨_, _, rfl, zck_103, fun h => nomatch h⟩
set_option maxRecDepth 100000 in
theorem zcy_104 : zCk 104 := fun _ h => by cases h; exact ⟨_, _, rfl, zck_104, fun h => nomatch h⟩
set_option maxRecDepth 100000 in
theorem zcy_105 : zCk 105 := fun _ h => by cases h; exact ⟨_, _, rfl, zck_105, fun h => nomatch h⟩
set_option maxRecDepth 100000 in
theorem zcy_106 : zCk 106 := fun _ h => by cases h; exact ⟨_, _, rfl, zck_106, fun h => nomatch h⟩
set_option maxRecDepth 100000 in
theorem zcy_107 : zCk 107 := fun _ h => by cases h; exact ⟨_, _, rfl, zck_107, fun h => nomatch h⟩
set_option maxRecDepth 100000 in
theorem zcy_108 : zCk 108 := fun _ h => by cases h; exact ⟨_, _, rfl, zck_108, fun h => nomatch h⟩
set_option maxRecDepth 100000 in
theorem zcy_109 : zCk 109 := fun _ h => by cases h; exact ⟨_, _, rfl, zck_109, fun _ => rfl⟩
set_option maxRecDepth 100000 in
theorem zcy_110 : zCk 110 := fun _ h => by cases h; exact ⟨_, _, rfl, zck_110, fun h => nomatch h⟩
set_option maxRecDepth 100000 in
theorem zcy_111 : zCk 111 := fun _ h => by cases h; exact ⟨_, _, rfl, zck_111, fun h => nomatch h⟩
set_option maxRecDepth 100000 in
theorem zcy_112 : zCk 112 := fun _ h => by cases h; exact ⟨_, _, rfl, zck_112, fun h => nomatch h⟩
set_option maxRecDepth 100000 in
theorem zcy_113 : zCk 113 := fun _ h => by cases h; exact ⟨_, _, rfl, zck_113, fun h => nomatch h⟩
set_option maxRecDepth 100000 in
theorem zcy_114 : zCk 114 := fun _ h => by cases h; exact ⟨_, _, rfl, zck_114, fun h => nomatch h⟩
set_option maxRecDepth 100000 in
theorem zcy_115 : zCk 115 := fun _ h => by cases h; exact ⟨_, _, rfl, zck_115, fun h => nomatch h⟩
set_option maxRecDepth 100000 in
theorem zcy_116 : zCk 116 := fun _ h => by cases h; exact ⟨_, _, rfl, zck_116, fun h => nomatch h⟩
set_option maxRecDepth 100000 in
theorem zcy_117 : zCk 117 := fun _ h => by cases h; exact ⟨_, _, rfl, zck_117, fun h => nomatch h⟩
set_option maxRecDepth 100000 in
theorem zcy_118 : zCk 118 := fun _ h => by cases h; exact ⟨_, _, rfl, zck_118, fun h => nomatch h⟩
set_option maxRecDepth 100000 in
theorem zcy_119 : zCk 119 := fun _ h => by cases h; exact ⟨_, _, rfl, zck_119, fun h => nomatch h⟩
set_option maxRecDepth 100000 in
theorem zcy_120 : zCk 120 := fun _ h => by cases h; exact ⟨_, _, rfl, zck_120, fun h => nomatch h⟩
set_option maxRecDepth 100000 in
theorem zcy_121 : zCk 121 := fun _ h => by cases h; exact ⟨_, _, rfl, zck_121, fun h => nomatch h⟩
set_option maxRecDepth 100000 in
theorem zcy_122 : zCk 122 := fun _ h => by cases h; exact ⟨_, _, rfl, zck_122, fun h => nomatch h⟩
set_option maxRecDepth 100000 in
theorem zcy_123 : zCk 123 := fun _ h => by cases h; exact ⟨_, _, rfl, zck_123, fun h => nomatch h⟩
set_option maxRecDepth 100000 in
theorem zcy_124 : zCk 124 := fun _ h => by cases h; exact ⟨_, _, rfl, zck_124, fun _ => rfl⟩
set_option maxRecDepth 100000 in
theorem zcy_125 : zCk 125 := fun _ h => by cases h; exact ⟨_, _, rfl, zck_125, fun h => nomatch h⟩
set_option maxRecDepth 100000 in
theorem zcy_126 : zCk 126 := fun _ h => by cases h; exact ⟨_, _, rfl, zck_126, fun h => nomatch h⟩
set_option maxRecDepth 100000 in
theorem zcy_127 : zCk 127 := fun _ h => by cases h; exact ⟨_, _, rfl, zck_127, fun h => nomatch h⟩
set_option maxRecDepth 100000 in
theorem zcy_128 : zCk 128 := fun _ h => by cases h; exact ⟨_, _, rfl, zck_128, fun h => nomatch h⟩
set_option maxRecDepth 100000 in
theorem zcy_129 : zCk 129 := fun _ h => by cases h; exact ⟨_, _, rfl, zck_129, fun h => nomatch h⟩
set_option maxRecDepth 100000 in
theorem zcy_130 : zCk 130 := fun _ h => by cases h; exact ⟨_, _, rfl, zck_130, fun h => nomatch h⟩
set_option maxRecDepth 100000 in
theorem zcy_131 : zCk 131 := fun _ h => by cases h; exact ⟨_, _, rfl, zck_131, fun h => nomatch h⟩
set_option maxRecDepth 100000 in
theorem zcy_132 : zCk 132 := fun _ h => by cases h; exact ⟨_, _, rfl, zck_132, fun h => nomatch h⟩
set_option maxRecDepth 100000 in
theorem zcy_133 : zCk 133 := fun _ h => by cases h; exact ⟨_, _, rfl, zck_133, fun h => nomatch h⟩
set_option maxRecDepth 100000 in
theorem zcy_134 : zCk 134 := fun _ h => by cases h; exact ⟨_, _, rfl, zck_134, fun h => nomatch h⟩
set_option maxRecDepth 100000 in
theorem zcy_135 : zCk 135 := fun _ h => by cases h; exact ⟨_, _, rfl, zck_135, fun h => nomatch h⟩
set_option maxRecDepth 100000 in
theorem zcy_136 : zCk 136 := fun _ h => by cases h; exact ⟨_, _, rfl, zck_136, fun h => nomatch h⟩
set_option maxRecDepth 100000 in
theorem zcy_137 : zCk 137 := fun _ h => by cases h; exact ⟨_, _, rfl, zck_137, fun _ => rfl⟩
set_option maxRecDepth 100000 in
theorem zcy_138 : zCk 138 := fun _ h => by cases h; exact ⟨_, _, rfl, zck_138, fun h => nomatch h⟩
set_option maxRecDepth 100000 in
theorem zcy_139 : zCk 139 := fun _ h => by cases h; exact ⟨_, _, rfl, zck_139, fun h => nomatch h⟩
set_option maxRecDepth 100000 in
theorem zcy_140 : zCk 140 := fun _ h => by cases h; exact ⟨_, _, rfl, zck_140, fun h => nomatch h⟩
set_option maxRecDepth 100000 in
theorem zcy_141 : zCk 141 := fun _ h => by cases h; exact ⟨_, _, rfl, zck_141, fun h => nomatch h⟩
set_option maxRecDepth 100000 in
theorem zcy_142 : zCk 142 := fun _ h => by cases h; exact ⟨_, _, rfl, zck_142, fun h => nomatch h⟩
set_option maxRecDepth 100000 in
theorem zcy_143 : zCk 143 := fun _ h => by cases h; exact ⟨_, _, rfl, zck_143, fun h => nomatch h⟩
set_option maxRecDepth 100000 in
theorem zcy_144 : zCk 144 := fun _ h => by cases h; exact ⟨_, _, rfl, zck_144, fun h => nomatch h⟩
set_option maxRecDepth 100000 in
theorem zcy_145 : zCk 145 := fun _ h => by cases h; exact ⟨_, _, rfl, zck_145, fun h => nomatch h⟩
set_option maxRecDepth 100000 in
theorem zcy_146 : zCk 146 := fun _ h => by cases h; exact ⟨_, _, rfl, zck_146, fun h => nomatch h⟩
set_option maxRecDepth 100000 in
theorem zcy_147 : zCk 147 := fun _ h => by cases h; exact ⟨_, _, rfl, zck_147, fun h => nomatch h⟩
set_option maxRecDepth 100000 in
theorem zcy_148 : zCk 148 := fun _ h => by cases h; exact ⟨_, _, rfl, zck_148, fun h => nomatch h⟩
set_option maxRecDepth 100000 in
theorem zcy_149 : zCk 149 := fun _ h => by cases h; exact ⟨_, _, rfl, zck_149, fun h => nomatch h⟩
set_option maxRecDepth 100000 in
theorem zcy_150 : zCk 150 := fun _ h => by cases h; exact ⟨_, _, rfl, zck_150, fun h => nomatch h⟩
set_option maxRecDepth 100000 in
theorem zcy_151 : zCk 151 := fun _ h => by cases h; exact ⟨_, _, rfl, zck_151, fun h => nomatch h⟩
set_option maxRecDepth 100000 in
theorem zcy_152 : zCk 152 := fun _ h => by cases h; exact ⟨_, _, rfl, zck_152, fun h => nomatch h⟩
set_option maxRecDepth 100000 in
theorem zcy_153 : zCk 153 := fun _ h => by cases h; exact ⟨_, _, rfl, zck_153, fun h => nomatch h⟩
set_option maxRecDepth 100000 in
theorem zcy_154 : zCk 154 := fun _ h => by cases h; exact ⟨_, _, rfl, zck_154, fun h => nomatch h⟩
set_option maxRecDepth 100000 in
theorem zcy_155 : zCk 155 := fun _ h => by cases h; exact ⟨_, _, rfl, zck_155, fun h => nomatch h⟩
set_option maxRecDepth 100000 in
theorem zcy_156 : zCk 156 := fun _ h => by cases h; exact ⟨_, _, rfl, zck_156, fun h => nomatch h⟩
set_option maxRecDepth 100000 in
theorem zcy_157 : zCk 157 := fun _ h => by cases h; exact ⟨_, _, rfl, zck_157, fun h => nomatch h⟩
set_option maxRecDepth 100000 in
theorem zcy_158 : zCk 158 := fun _ h => by cases h; exact ⟨_, _, rfl, zck_158, fun h => nomatch h⟩
set_option maxRecDepth 100000 in
theorem zcy_159 : zCk 159 := fun _ h => by cases h; exact ⟨_, _, rfl, zck_159, fun h => nomatch h⟩
set_option maxRecDepth 100000 in
theorem zcy_160 : zCk 160 := fun _ h => by cases h; exact ⟨_, _, rfl, zck_160, fun h => nomatch h⟩
set_option maxRecDepth 100000 in
theorem zcy_161 : zCk 161 := fun _ h => by cases h; exact ⟨_, _, rfl, zck_161, fun h => nomatch h⟩
set_option maxRecDepth 100000 in
theorem zcy_162 : zCk 162 := fun _ h => by cases h; exact ⟨_, _, rfl, zck_162, fun h => nomatch h⟩
set_option maxRecDepth 100000 in
theorem zcy_163 : zCk 163 := fun _ h => by cases h; exact ⟨_, _, rfl, zck_163, fun h => nomatch h⟩
set_option maxRecDepth 100000 in
theorem zcy_164 : zCk 164 := fun _ h => by cases h; exact ⟨_, _, rfl, zck_164, fun h => nomatch h⟩
set_option maxRecDepth 100000 in
theorem zcy_165 : zCk 165 := fun _ h => by cases h; exact ⟨_, _, rfl, zck_165, fun h => nomatch h⟩
set_option maxRecDepth 100000 in
theorem zcy_166 : zCk 166 := fun _ h => by cases h; exact ⟨_, _, rfl, zck_166, fun h => nomatch h⟩
set_option maxRecDepth 100000 in
theorem zcy_167 : zCk 167 := fun _ h => by cases h; exact ⟨_, _, rfl, zck_167, fun h => nomatch h⟩
set_option maxRecDepth 100000 in
theorem zcy_168 : zCk 168 := fun _ h => by cases h; exact ⟨_, _, rfl, zck_168, fun h => nomatch h⟩
set_option maxRecDepth 100000 in
theorem zcy_169 : zCk 169 := fun _ h => by cases h; exact ⟨_, _, rfl, zck_169, fun h => nomatch h⟩
set_option maxRecDepth 100000 in
theorem zcy_170 : zCk 170 := fun _ h => by cases h; exact ⟨_, _, rfl, zck_170, fun h => nomatch h⟩
set_option maxRecDepth 100000 in
theorem zcy_171 : zCk 171 := fun _ h => by cases h; exact ⟨_, _, rfl, zck_171, fun h => nomatch h⟩
set_option maxRecDepth 100000 in
theorem zcy_172 : zCk 172 := fun _ h => by cases h; exact ⟨_, _, rfl, zck_172, fun h => nomatch h⟩
set_option maxRecDepth 100000 in
theorem zcy_173 : zCk 173 := fun _ h => by cases h; exact ⟨_, _, rfl, zck_173, fun h => nomatch h⟩
set_option maxRecDepth 100000 in
theorem zcy_174 : zCk 174 := fun _ h => by cases h; exact ⟨_, _, rfl, zck_174, fun h => nomatch h⟩
set_option maxRecDepth 100000 in
theorem zcy_175 : zCk 175 := fun _ h => by cases h; exact ⟨_, _, rfl, zck_175, fun h => nomatch h⟩
set_option maxRecDepth 100000 in
theorem zcy_176 : zCk 176 := fun _ h => by cases h; exact ⟨_, _, rfl, zck_176, fun h => nomatch h⟩
set_option maxRecDepth 100000 in
theorem zcy_177 : zCk 177 := fun _ h => by cases h; exact ⟨_, _, rfl, zck_177, fun h => nomatch h⟩
set_option maxRecDepth 100000 in
theorem zcy_178 : zCk 178 := fun _ h => by cases h; exact ⟨_, _, rfl, zck_178, fun h => nomatch h⟩
set_option maxRecDepth 100000 in
theorem zcy_179 : zCk 179 := fun _ h => by cases h; exact ⟨_, _, rfl, zck_179, fun h => nomatch h⟩
set_option maxRecDepth 100000 in
theorem zcy_180 : zCk 180 := fun _ h => by cases h; exact ⟨_, _, rfl, zck_180, fun h => nomatch h⟩
set_option maxRecDepth 100000 in
theorem zcy_181 : zCk 181 := fun _ h => by cases h; exact ⟨_, _, rfl, zck_181, fun h => nomatch h⟩
set_option maxRecDepth 100000 in
theorem zcy_182 : zCk 182 := fun _ h => by cases h; exact ⟨_, _, rfl, zck_182, fun h => nomatch h⟩
set_option maxRecDepth 100000 in
theorem zcy_183 : zCk 183 := fun _ h => by cases h; exact ⟨_, _, rfl, zck_183, fun h => nomatch h⟩
set_option maxRecDepth 100000 in
theorem zcy_184 : zCk 184 := fun _ h => by cases h; exact ⟨_, _, rfl, zck_184, fun h => nomatch h⟩
set_option maxRecDepth 100000 in
theorem zcy_185 : zCk 185 := fun _ h => by cases h; exact ⟨_, _, rfl, zck_185, fun h => nomatch h⟩
set_option maxRecDepth 100000 in
theorem zcy_186 : zCk 186 := fun _ h => by cases h; exact ⟨_, _, rfl, zck_186, fun h => nomatch h⟩
set_option maxRecDepth 100000 in
theorem zcy_187 : zCk 187 := fun _ h => by cases h; exact ⟨_, _, rfl, zck_187, fun h => nomatch h⟩
set_option maxRecDepth 100000 in
theorem zcy_188 : zCk 188 := fun _ h => by cases h; exact ⟨_, _, rfl, zck_188, fun h => nomatch h⟩
set_option maxRecDepth 100000 in
theorem zcy_189 : zCk 189 := fun _ h => by cases h; exact ⟨_, _, rfl, zck_189, fun h => nomatch h⟩
set_option maxRecDepth 100000 in
theorem zcy_190 : zCk 190 := fun _ h => by cases h; exact ⟨_, _, rfl, zck_190, fun h => nomatch h⟩
set_option maxRecDepth 100000 in
theorem zcy_191 : zCk 191 := fun _ h => by cases h; exact ⟨_, _, rfl, zck_191, fun h => nomatch h⟩
set_option maxRecDepth 100000 in
theorem zcy_192 : zCk 192 := fun _ h => by cases h; exact ⟨_, _, rfl, zck_192, fun h => nomatch h⟩
set_option maxRecDepth 100000 in
theorem zcy_193 : zCk 193 := fun _ h => by cases h; exact ⟨_, _, rfl, zck_193, fun h => nomatch h⟩
set_option maxRecDepth 100000 in
theorem zcy_194 : zCk 194 := fun _ h => by cases h; exact ⟨_, _, rfl, zck_194, fun h => nomatch h⟩
set_option maxRecDepth 100000 in
theorem zcy_195 : zCk 195 := fun _ h => by cases h; exact ⟨_, _, rfl, zck_195, fun h => nomatch h⟩
set_option maxRecDepth 100000 in
theorem zcy_196 : zCk 196 := fun _ h => by cases h; exact ⟨_, _, rfl, zck_196, fun h => nomatch h⟩
set_option maxRecDepth 100000 in
theorem zcy_197 : zCk 197 := fun _ h => by cases h; exact ⟨_, _, rfl, zck_197, fun h => nomatch h⟩
set_option maxRecDepth 100000 in
theorem zcy_198 : zCk 198 := fun _ h => by cases h; exact ⟨_, _, rfl, zck_198, fun h => nomatch h⟩
set_option maxRecDepth 100000 in
theorem zcy_199 : zCk 199 := fun _ h => by cases h; exact ⟨_, _, rfl, zck_199, fun h => nomatch h⟩
set_option maxRecDepth 100000 in
theorem zcy_200 : zCk 200 := fun _ h => by cases h; exact ⟨_, _, rfl, zck_200, fun h => nomatch h⟩
set_option maxRecDepth 100000 in
theorem zcy_201 : zCk 201 := fun _ h => by cases h; exact ⟨_, _, rfl, zck_201, fun h => nomatch h⟩
set_option maxRecDepth 100000 in
theorem zcy_202 : zCk 202 := fun _ h => by cases h; exact ⟨_, _, rfl, zck_202, fun h => nomatch h⟩
set_option maxRecDepth 100000 in
theorem zcy_203 : zCk 203 := fun _ h => by cases h; exact ⟨_, _, rfl, zck_203, fun h => nomatch h⟩
set_option maxRecDepth 100000 in
theorem zcy_204 : zCk 204 := fun _ h => by cases h; exact ⟨_, _, rfl, zck_204, fun h => nomatch h⟩
set_option maxRecDepth 100000 in
theorem zcy_205 : zCk 205 := fun _ h => by cases h; exact ⟨_, _, rfl, zck_205, fun h => nomatch h⟩
set_option maxRecDepth 100000 in
theorem zcy_206 : zCk 206 := fun _ h => by cases h; exact ⟨_, _, rfl, zck_206, fun h => nomatch h⟩
set_option maxRecDepth 100000 in
theorem zcy_207 : zCk 207 := fun _ h => by cases h; exact ⟨_, _, rfl, zck_207, fun h => nomatch h⟩
set_option maxRecDepth 100000 in
theorem zcy_208 : zCk 208 := fun _ h => by cases h; exact ⟨_, _, rfl, zck_208, fun h => nomatch h⟩
set_option maxRecDepth 100000 in
theorem zcy_209 : zCk 209 := fun _ h => by cases h; exact ⟨_, _, rfl, zck_209, fun h => nomatch h⟩
set_option maxRecDepth 100000 in
theorem zcy_210 : zCk 210 := fun _ h => by cases h; exact ⟨_, _, rfl, zck_210, fun h => nomatch h⟩
set_option maxRecDepth 100000 in
theorem zcy_211 : zCk 211 := fun _ h => by cases h; exact ⟨_, _, rfl, zck_211, fun h => nomatch h⟩
set_option maxRecDepth 100000 in
theorem zcy_212 : zCk 212 := fun _ h => by cases h; exact ⟨_, _, rfl, zck_212, fun _ => rfl⟩
set_option maxRecDepth 100000 in
theorem zcy_213 : zCk 213 := fun _ h => by cases h; exact ⟨_, _, rfl, zck_213, fun h => nomatch h⟩
set_option maxRecDepth 100000 in
theorem zcy_214 : zCk 214 := fun _ h => by cases h; exact ⟨_, _, rfl, zck_214, fun h => nomatch h⟩
set_option maxRecDepth 100000 in
theorem zcy_215 : zCk 215 := fun _ h => by cases h; exact ⟨_, _, rfl, zck_215, fun h => nomatch h⟩
set_option maxRecDepth 100000 in
theorem zcy_216 : zCk 216 := fun _ h => by cases h; exact ⟨_, _, rfl, zck_216, fun h => nomatch h⟩
set_option maxRecDepth 100000 in
theorem zcy_217 : zCk 217 := fun _ h => by cases h; exact ⟨_, _, rfl, zck_217, fun h => nomatch h⟩
set_option maxRecDepth 100000 in
theorem zcy_218 : zCk 218 := fun _ h => by cases h; exact ⟨_, _, rfl, zck_218, fun h => nomatch h⟩
set_option maxRecDepth 100000 in
theorem zcy_219 : zCk 219 := fun _ h => by cases h; exact ⟨_, _, rfl, zck_219, fun h => nomatch h⟩
set_option maxRecDepth 100000 in
theorem zcy_220 : zCk 220 := fun _ h => by cases h; exact ⟨_, _, rfl, zck_220, fun h => nomatch h⟩
set_option maxRecDepth 100000 in
theorem zcy_221 : zCk 221 := fun _ h => by cases h; exact ⟨_, _, rfl, zck_221, fun h => nomatch h⟩
set_option maxRecDepth 100000 in
theorem zcy_222 : zCk 222 := fun _ h => by cases h; exact ⟨_, _, rfl, zck_222, fun h => nomatch h⟩
set_option maxRecDepth 100000 in
theorem zcy_223 : zCk 223 := fun _ h => by cases h; exact ⟨_, _, rfl, zck_223, fun h => nomatch h⟩
set_option maxRecDepth 100000 in
theorem zcy_224 : zCk 224 := fun _ h => by cases h; exact ⟨_, _, rfl, zck_224, fun h => nomatch h⟩
set_option maxRecDepth 100000 in
theorem zcy_225 : zCk 225 := fun _ h => by cases h; exact ⟨_, _, rfl, zck_225, fun h => nomatch h⟩
set_option maxRecDepth 100000 in
theorem zcy_226 : zCk 226 := fun _ h => by cases h; exact ⟨_, _, rfl, zck_226, fun h => nomatch h⟩
set_option maxRecDepth 100000 in
theorem zcy_227 : zCk 227 := fun _ h => by cases h; exact ⟨_, _, rfl, zck_227, fun h => nomatch h⟩
set_option maxRecDepth 100000 in
theorem zcy_228 : zCk 228 := fun _ h => by cases h; exact ⟨_, _, rfl, zck_228, fun h => nomatch h⟩
set_option maxRecDepth 100000 in
theorem zcy_229 : zCk 229 := fun _ h => by cases h; exact ⟨_, _, rfl, zck_229, fun h => nomatch h⟩
set_option maxRecDepth 100000 in
theorem zcy_230 : zCk 230 := fun _ h => by cases h; exact ⟨_, _, rfl, zck_230, fun h => nomatch h⟩
set_option maxRecDepth 100000 in
theorem zcy_231 : zCk 231 := fun _ h => by cases h; exact ⟨_, _, rfl, zck_231, fun h => nomatch h⟩
set_option maxRecDepth 100000 in
theorem zcy_232 : zCk 232 := fun _ h => by cases h; exact ⟨_, _, rfl, zck_232, fun h => nomatch h⟩
set_option maxRecDepth 100000 in
theorem zcy_233 : zCk 233 := fun _ h => by cases h; exact ⟨_, _, rfl, zck_233, fun h => nomatch h⟩
set_option maxRecDepth 100000 in
theorem zcy_234 : zCk 234 := fun _ h => by cases h; exact ⟨_, _, rfl, zck_234, fun h => nomatch h⟩
set_option maxRecDepth 100000 in
theorem zcy_235 : zCk 235 := fun _ h => by cases h; exact ⟨_, _, rfl, zck_235, fun h => nomatch h⟩
set_option maxRecDepth 100000 in
theorem zcy_236 : zCk 236 := fun _ h => by cases h; exact ⟨_, _, rfl, zck_236, fun h => nomatch h⟩
set_option maxRecDepth 100000 in
theorem zcy_237 : zCk 237 := fun _ h => by cases h; exact ⟨_, _, rfl, zck_237, fun h => nomatch h⟩
set_option maxRecDepth 100000 in
theorem zcy_238 : zCk 238 := fun _ h => by cases h; exact ⟨_, _, rfl, zck_238, fun h => nomatch h⟩
set_option maxRecDepth 100000 in
theorem zcy_239 : zCk 239 := fun _ h => by cases h; exact ⟨_, _, rfl, zck_239, fun h => nomatch h⟩
set_option maxRecDepth 100000 in
theorem zcy_240 : zCk 240 := fun _ h => by cases h; exact ⟨_, _, rfl, zck_240, fun h => nomatch h⟩
set_option maxRecDepth 100000 in
theorem zcy_241 : zCk 241 := fun _ h => by cases h; exact ⟨_, _, rfl, zck_241, fun h => nomatch h⟩
set_option maxRecDepth 100000 in
theorem zcy_242 : zCk 242 := fun _ h => by cases h; exact ⟨_, _, rfl, zck_242, fun h => nomatch h⟩
set_option maxRecDepth 100000 in
theorem zcy_243 : zCk 243 := fun _ h => by cases h; exact ⟨_, _, rfl, zck_243, fun h => nomatch h⟩
set_option maxRecDepth 100000 in
theorem zcy_244 : zCk 244 := fun _ h => by cases h; exact ⟨_, _, rfl, zck_244, fun h => nomatch h⟩
set_option maxRecDepth 100000 in
theorem zcy_245 : zCk 245 := fun _ h => by cases h; exact ⟨_, _, rfl, zck_245, fun h => nomatch h⟩
set_option maxRecDepth 100000 in
theorem zcy_246 : zCk 246 := fun _ h => by cases h; exact ⟨_, _, rfl, zck_246, fun h => nomatch h⟩
set_option maxRecDepth 100000 in
theorem zcy_247 : zCk 247 := fun _ h => by cases h; exact ⟨_, _, rfl, zck_247, fun h => nomatch h⟩
set_option maxRecDepth 100000 in
theorem zcy_248 : zCk 248 := fun _ h => by cases h; exact ⟨_, _, rfl, zck_248, fun h => nomatch h⟩
set_option maxRecDepth 100000 in
theorem zcy_249 : zCk 249 := fun _ h => by cases h; exact ⟨_, _, rfl, zck_249, fun h => nomatch h⟩
set_option maxRecDepth 100000 in
theorem zcy_250 : zCk 250 := fun _ h => by cases h; exact ⟨_, _, rfl, zck_250, fun h => nomatch h⟩
set_option maxRecDepth 100000 in
theorem zcy_251 : zCk 251 := fun _ h => by cases h; exact ⟨_, _, rfl, zck_251, fun h => nomatch h⟩
set_option maxRecDepth 100000 in
theorem zcy_252 : zCk 252 := fun _ h => by cases h; exact ⟨_, _, rfl, zck_252, fun h => nomatch h⟩
set_option maxRecDepth 100000 in
theorem zcy_253 : zCk 253 := fun _ h => by cases h; exact ⟨_, _, rfl, zck_253, fun h => nomatch h⟩
set_option maxRecDepth 100000 in
theorem zcy_254 : zCk 254 := fun _ h => by cases h; exact ⟨_, _, rfl, zck_254, fun h => nomatch h⟩
set_option maxRecDepth 100000 in
theorem zcy_255 : zCk 255 := fun _ h => by cases h; exact ⟨_, _, rfl, zck_255, fun h => nomatch h⟩
set_option maxRecDepth 100000 in
theorem zcy_256 : zCk 256 := fun _ h => by cases h; exact ⟨_, _, rfl, zck_256, fun h => nomatch h⟩
set_option maxRecDepth 100000 in
theorem zcy_257 : zCk 257 := fun _ h => by cases h; exact ⟨_, _, rfl, zck_257, fun h => nomatch h⟩
set_option maxRecDepth 100000 in
theorem zcy_258 : zCk 258 := fun _ h => by cases h; exact ⟨_, _, rfl, zck_258, fun h => nomatch h⟩
set_option maxRecDepth 100000 in
theorem zcy_259 : zCk 259 := fun _ h => by cases h; exact ⟨_, _, rfl, zck_259, fun h => nomatch h⟩
set_option maxRecDepth 100000 in
theorem zcy_260 : zCk 260 := fun _ h => by cases h; exact ⟨_, _, rfl, zck_260, fun h => nomatch h⟩
set_option maxRecDepth 100000 in
theorem zcy_261 : zCk 261 := fun _ h => by cases h; exact ⟨_, _, rfl, zck_261, fun h => nomatch h⟩
set_option maxRecDepth 100000 in
theorem zcy_262 : zCk 262 := fun _ h => by cases h; exact ⟨_, _, rfl, zck_262, fun h => nomatch h⟩
set_option maxRecDepth 100000 in
theorem zcy_263 : zCk 263 := fun _ h => by cases h; exact ⟨_, _, rfl, zck_263, fun h => nomatch h⟩
set_option maxRecDepth 100000 in
theorem zcy_264 : zCk 264 := fun _ h => by cases h; exact ⟨_, _, rfl, zck_264, fun h => nomatch h⟩
set_option maxRecDepth 100000 in
theorem zcy_265 : zCk 265 := fun _ h => by cases h; exact ⟨_, _, rfl, zck_265, fun h => nomatch h⟩
set_option maxRecDepth 100000 in
theorem zcy_266 : zCk 266 := fun _ h => by cases h; exact ⟨_, _, rfl, zck_266, fun h => nomatch h⟩
set_option maxRecDepth 100000 in
theorem zcy_267 : zCk 267 := fun _ h => by cases h; exact ⟨_, _, rfl, zck_267, fun h => nomatch h⟩
set_option maxRecDepth 100000 in
theorem zcy_268 : zCk 268 := fun _ h => by cases h; exact ⟨_, _, rfl, zck_268, fun h => nomatch h⟩
set_option maxRecDepth 100000 in
theorem zcy_269 : zCk 269 := fun _ h => by cases h; exact ⟨_, _, rfl, zck_269, fun h => nomatch h⟩
set_option maxRecDepth 100000 in
theorem zcy_270 : zCk 270 := fun _ h => by cases h; exact ⟨_, _, rfl, zck_270, fun h => nomatch h⟩
set_option maxRecDepth 100000 in
theorem zcy_271 : zCk 271 := fun _ h => by cases h; exact ⟨_, _, rfl, zck_271, fun h => nomatch h⟩
set_option maxRecDepth 100000 in
theorem zcy_272 : zCk 272 := fun _ h => by cases h; exact ⟨_, _, rfl, zck_272, fun h => nomatch h⟩
set_option maxRecDepth 100000 in
theorem zcy_273 : zCk 273 := fun _ h => by cases h; exact ⟨_, _, rfl, zck_273, fun h => nomatch h⟩
set_option maxRecDepth 100000 in
theorem zcy_274 : zCk 274 := fun _ h => by cases h; exact ⟨_, _, rfl, zck_274, fun h => nomatch h⟩
set_option maxRecDepth 100000 in
theorem zcy_275 : zCk 275 := fun _ h => by cases h; exact ⟨_, _, rfl, zck_275, fun h => nomatch h⟩
set_option maxRecDepth 100000 in
theorem zcy_276 : zCk 276 := fun _ h => by cases h; exact ⟨_, _, rfl, zck_276, fun h => nomatch h⟩
set_option maxRecDepth 100000 in
theorem zcy_277 : zCk 277 := fun _ h => by cases h; exact ⟨_, _, rfl, zck_277, fun h => nomatch h⟩
set_option maxRecDepth 100000 in
theorem zcy_278 : zCk 278 := fun _ h => by cases h; exact ⟨_, _, rfl, zck_278, fun h => nomatch h⟩
set_option maxRecDepth 100000 in
theorem zcy_279 : zCk 279 := fun _ h => by cases h; exact ⟨_, _, rfl, zck_279, fun h => nomatch h⟩
set_option maxRecDepth 100000 in
theorem zcy_280 : zCk 280 := fun _ h => by cases h; exact ⟨_, _, rfl, zck_280, fun h => nomatch h⟩
set_option maxRecDepth 100000 in
theorem zcy_281 : zCk 281 := fun _ h => by cases h; exact ⟨_, _, rfl, zck_281, fun h => nomatch h⟩
set_option maxRecDepth 100000 in
theorem zcy_282 : zCk 282 := fun _ h => by cases h; exact ⟨_, _, rfl, zck_282, fun h => nomatch h⟩
set_option maxRecDepth 100000 in
theorem zcy_283 : zCk 283 := fun _ h => by cases h; exact ⟨_, _, rfl, zck_283, fun h => nomatch h⟩
set_option maxRecDepth 100000 in
theorem zcy_284 : zCk 284 := fun _ h => by cases h; exact ⟨_, _, rfl, zck_284, fun h => nomatch h⟩
set_option maxRecDepth 100000 in
theorem zcy_285 : zCk 285 := fun _ h => by cases h; exact ⟨_, _, rfl, zck_285, fun h => nomatch h⟩
set_option maxRecDepth 100000 in
theorem zcy_286 : zCk 286 := fun _ h => by cases h; exact ⟨_, _, rfl, zck_286, fun h => nomatch h⟩
set_option maxRecDepth 100000 in
theorem zcy_287 : zCk 287 := fun _ h => by cases h; exact ⟨_, _, rfl, zck_287, fun h => nomatch h⟩
set_option maxRecDepth 100000 in
theorem zcy_288 : zCk 288 := fun _ h => by cases h; exact ⟨_, _, rfl, zck_288, fun h => nomatch h⟩
set_option maxRecDepth 100000 in
theorem zcy_289 : zCk 289 := fun _ h => by cases h; exact ⟨_, _, rfl, zck_289, fun h => nomatch h⟩
set_option maxRecDepth 100000 in
theorem zcy_290 : zCk 290 := fun _ h => by cases h; exact ⟨_, _, rfl, zck_290, fun h => nomatch h⟩
set_option maxRecDepth 100000 in
theorem zcy_291 : zCk 291 := fun _ h => by cases h; exact ⟨_, _, rfl, zck_291, fun h => nomatch h⟩
set_option maxRecDepth 100000 in
theorem zcy_292 : zCk 292 := fun _ h => by cases h; exact ⟨_, _, rfl, zck_292, fun h => nomatch h⟩
set_option maxRecDepth 100000 in
theorem zcy_293 : zCk 293 := fun _ h => by cases h; exact ⟨_, _, rfl, zck_293, fun h => nomatch h⟩
set_option maxRecDepth 100000 in
theorem zcy_294 : zCk 294 := fun _ h => by cases h; exact ⟨_, _, rfl, zck_294, fun h => nomatch h⟩
set_option maxRecDepth 100000 in
theorem zcy_295 : zCk 295 := fun _ h => by cases h; exact ⟨_, _, rfl, zck_295, fun h => nomatch h⟩
set_option maxRecDepth 100000 in
theorem zcy_296 : zCk 296 := fun _ h => by cases h; exact ⟨_, _, rfl, zck_296, fun h => nomatch h⟩
set_option maxRecDepth 100000 in
theorem zcy_297 : zCk 297 := fun _ h => by cases h; exact ⟨_, _, rfl, zck_297, fun h => nomatch h⟩
set_option maxRecDepth 100000 in
theorem zcy_298 : zCk 298 := fun _ h => by cases h; exact ⟨_, _, rfl, zck_298, fun h => nomatch h⟩
set_option maxRecDepth 100000 in
theorem zcy_299 : zCk 299 := fun _ h => by cases h; exact ⟨_, _, rfl, zck_299, fun h => nomatch h⟩
set_option maxRecDepth 100000 in
theorem zcy_300 : zCk 300 := fun _ h => by cases h; exact ⟨_, _, rfl, zck_300, fun h => nomatch h⟩
set_option maxRecDepth 100000 in
theorem zcy_301 : zCk 301 := fun _ h => by cases h; exact ⟨_, _, rfl, zck_301, fun h => nomatch h⟩
set_option maxRecDepth 100000 in
theorem zcy_302 : zCk 302 := fun _ h => by cases h; exact ⟨_, _, rfl, zck_302, fun h => nomatch h⟩
set_option maxRecDepth 100000 in
theorem zcy_303 : zCk 303 := fun _ h => by cases h; exact ⟨_, _, rfl, zck_303, fun h => nomatch h⟩
set_option maxRecDepth 100000 in
theorem zcy_304 : zCk 304 := fun _ h => by cases h; exact ⟨_, _, rfl, zck_304, fun h => nomatch h⟩
set_option maxRecDepth 100000 in
theorem zcy_305 : zCk 305 := fun _ h => by cases h; exact ⟨_, _, rfl, zck_305, fun h => nomatch h⟩
set_option maxRecDepth 100000 in
theorem zcy_306 : zCk 306 := fun _ h => by cases h; exact ⟨_, _, rfl, zck_306, fun h => nomatch h⟩
set_option maxRecDepth 100000 in
theorem zcy_307 : zCk 307 := fun _ h => by cases h; exact ⟨_, _, rfl, zck_307, fun h => nomatch h⟩
set_option maxRecDepth 100000 in
theorem zcy_308 : zCk 308 := fun _ h => by cases h; exact ⟨_, _, rfl, zck_308, fun h => nomatch h⟩
set_option maxRecDepth 100000 in
theorem zcy_309 : zCk 309 := fun _ h => by cases h; exact ⟨_, _, rfl, zck_309, fun h => nomatch h⟩
set_option maxRecDepth 100000 in
theorem zcy_310 : zCk 310 := fun _ h => by cases h; exact ⟨_, _, rfl, zck_310, fun h => nomatch h⟩
set_option maxRecDepth 100000 in
theorem zcy_311 : zCk 311 := fun _ h => by cases h; exact ⟨_, _, rfl, zck_311, fun h => nomatch h⟩
set_option maxRecDepth 100000 in
theorem zcy_312 : zCk 312 := fun _ h => by cases h; exact ⟨_, _, rfl, zck_312, fun h => nomatch h⟩
set_option maxRecDepth 100000 in
theorem zcy_313 : zCk 313 := fun _ h => by cases h; exact ⟨_, _, rfl, zck_313, fun h => nomatch h⟩
set_option maxRecDepth 100000 in
theorem zcy_314 : zCk 314 := fun _ h => by cases h; exact ⟨_, _, rfl, zck_314, fun h => nomatch h⟩
set_option maxRecDepth 100000 in
theorem zcy_315 : zCk 315 := fun _ h => by cases h; exact ⟨_, _, rfl, zck_315, fun h => nomatch h⟩
set_option maxRecDepth 100000 in
theorem zcy_316 : zCk 316 := fun _ h => by cases h; exact ⟨_, _, rfl, zck_316, fun h => nomatch h⟩
set_option maxRecDepth 100000 in
theorem zcy_317 : zCk 317 := fun _ h => by cases h; exact ⟨_, _, rfl, zck_317, fun h => nomatch h⟩
set_option maxRecDepth 100000 in
theorem zcy_318 : zCk 318 := fun _ h => by cases h; exact ⟨_, _, rfl, zck_318, fun h => nomatch h⟩
set_option maxRecDepth 100000 in
theorem zcy_319 : zCk 319 := fun _ h => by cases h; exact ⟨_, _, rfl, zck_319, fun h => nomatch h⟩
set_option maxRecDepth 100000 in
theorem zcy_320 : zCk 320 := fun _ h => by cases h; exact ⟨_, _, rfl, zck_320, fun h => nomatch h⟩
set_option maxRecDepth 100000 in
theorem zcy_321 : zCk 321 := fun _ h => by cases h; exact ⟨_, _, rfl, zck_321, fun h => nomatch h⟩
set_option maxRecDepth 100000 in
theorem zcy_322 : zCk 322 := fun _ h => by cases h; exact ⟨_, _, rfl, zck_322, fun h => nomatch h⟩
set_option maxRecDepth 100000 in
theorem zcy_323 : zCk 323 := fun _ h => by cases h; exact ⟨_, _, rfl, zck_323, fun h => nomatch h⟩
set_option maxRecDepth 100000 in
theorem zcy_324 : zCk 324 := fun _ h => by cases h; exact ⟨_, _, rfl, zck_324, fun h => nomatch h⟩
set_option maxRecDepth 100000 in
theorem zcy_325 : zCk 325 := fun _ h => by cases h; exact ⟨_, _, rfl, zck_325, fun h => nomatch h⟩
set_option maxRecDepth 100000 in
theorem zcy_326 : zCk 326 := fun _ h => by cases h; exact ⟨_, _, rfl, zck_326, fun h => nomatch h⟩
set_option maxRecDepth 100000 in
theorem zcy_327 : zCk 327 := fun _ h => by cases h; exact ⟨_, _, rfl, zck_327, fun h => nomatch h⟩
set_option maxRecDepth 100000 in
theorem zcy_328 : zCk 328 := fun _ h => by cases h; exact ⟨_, _, rfl, zck_328, fun h => nomatch h⟩
set_option maxRecDepth 100000 in
theorem zcy_329 : zCk 329 := fun _ h => by cases h; exact ⟨_, _, rfl, zck_329, fun h => nomatch h⟩
set_option maxRecDepth 100000 in
theorem zcy_330 : zCk 330 := fun _ h => by cases h; exact ⟨_, _, rfl, zck_330, fun h => nomatch h⟩
set_option maxRecDepth 100000 in
theorem zcy_331 : zCk 331 := fun _ h => by cases h; exact ⟨_, _, rfl, zck_331, fun h => nomatch h⟩
set_option maxRecDepth 100000 in
theorem zcy_332 : zCk 332 := fun _ h => by cases h; exact ⟨_, _, rfl, zck_332, fun h => nomatch h⟩
set_option maxRecDepth 100000 in
theorem zcy_333 : zCk 333 := fun _ h => by cases h; exact ⟨_, _, rfl, zck_333, fun h => nomatch h⟩
set_option maxRecDepth 100000 in
theorem zcy_334 : zCk 334 := fun _ h => by cases h; exact ⟨_, _, rfl, zck_334, fun h => nomatch h⟩
set_option maxRecDepth 100000 in
theorem zcy_335 : zCk 335 := fun _ h => by cases h; exact ⟨_, _, rfl, zck_335, fun h => nomatch h⟩
set_option maxRecDepth 100000 in
theorem zcy_336 : zCk 336 := fun _ h => by cases h; exact ⟨_, _, rfl, zck_336, fun h => nomatch h⟩
set_option maxRecDepth 100000 in
theorem zcy_337 : zCk 337 := fun _ h => by cases h; exact ⟨_, _, rfl, zck_337, fun h => nomatch h⟩
set_option maxRecDepth 100000 in
theorem zcy_338 : zCk 338 := fun _ h => by cases h; exact ⟨_, _, rfl, zck_338, fun h => nomatch h⟩
set_option maxRecDepth 100000 in
theorem zcy_339 : zCk 339 := fun _ h => by cases h; exact ⟨_, _, rfl, zck_339, fun h => nomatch h⟩
set_option maxRecDepth 100000 in
theorem zcy_340 : zCk 340 := fun _ h => by cases h; exact ⟨_, _, rfl, zck_340, fun h => nomatch h⟩
set_option maxRecDepth 100000 in
theorem zcy_341 : zCk 341 := fun _ h => by cases h; exact ⟨_, _, rfl, zck_341, fun h => nomatch h⟩
set_option maxRecDepth 100000 in
theorem zcy_342 : zCk 342 := fun _ h => by cases h; exact ⟨_, _, rfl, zck_342, fun h => nomatch h⟩
set_option maxRecDepth 100000 in
theorem zcy_343 : zCk 343 := fun _ h => by cases h; exact ⟨_, _, rfl, zck_343, fun h => nomatch h⟩
set_option maxRecDepth 100000 in
theorem zcy_344 : zCk 344 := fun _ h => by cases h; exact ⟨_, _, rfl, zck_344, fun h => nomatch h⟩
set_option maxRecDepth 100000 in
theorem zcy_345 : zCk 345 := fun _ h => by cases h; exact ⟨_, _, rfl, zck_345, fun h => nomatch h⟩
set_option maxRecDepth 100000 in
theorem zcy_346 : zCk 346 := fun _ h => by cases h; exact ⟨_, _, rfl, zck_346, fun h => nomatch h⟩
set_option maxRecDepth 100000 in
theorem zcy_347 : zCk 347 := fun _ h => by cases h; exact ⟨_, _, rfl, zck_347, fun h => nomatch h⟩
set_option maxRecDepth 100000 in
theorem zcy_348 : zCk 348 := fun _ h => by cases h; exact ⟨_, _, rfl, zck_348, fun h => nomatch h⟩
set_option maxRecDepth 100000 in
theorem zcy_349 : zCk 349 := fun _ h => by cases h; exact ⟨_, _, rfl, zck_349, fun h => nomatch h⟩
set_option maxRecDepth 100000 in
theorem zcy_350 : zCk 350 := fun _ h => by cases h; exact ⟨_, _, rfl, zck_350, fun h => nomatch h⟩
set_option maxRecDepth 100000 in
theorem zcy_351 : zCk 351 := fun _ h => by cases h; exact ⟨_, _, rfl, zck_351, fun h => nomatch h⟩
def zcl_c0 : List Nat := [0, 1, 2, 3, 4, 5, 6, 7, 8, 9, 10, 11, 12, 13, 14, 15]
theorem zcl_r0 : ∀ y ∈ zcl_c0, zCk y := List.forall_mem_cons.mpr ⟨zcy_0, List.forall_mem_cons.mpr ⟨zcy_1, List.forall_mem_cons.mpr ⟨zcy_2, List.forall_mem_cons.mpr ⟨zcy_3, List.forall_mem_cons.mpr ⟨zcy_4, List.forall_mem_cons.mpr ⟨zcy_5, List.forall_mem_cons.mpr ⟨zcy_6, List.forall_mem_cons.mpr ⟨zcy_7, List.forall_mem_cons.mpr ⟨zcy_8, List.forall_mem_cons.mpr ⟨zcy_9, List.forall_mem_cons.mpr ⟨zcy_10, List.forall_mem_cons.mpr ⟨zcy_11, List.forall_mem_cons.mpr ⟨zcy_12, List.forall_mem_cons.mpr ⟨zcy_13, List.forall_mem_cons.mpr ⟨zcy_14, List.forall_mem_cons.mpr ⟨zcy_15, fun _ h => absurd h List.not_mem_nil⟩⟩⟩⟩⟩⟩⟩⟩⟩⟩⟩⟩⟩⟩⟩⟩
def zcl_c1 : List Nat := [16, 17, 18, 19, 20, 21, 22, 23, 24, 25, 26, 27, 28, 29, 30, 31]
theorem zcl_r1 : ∀ y ∈ zcl_c1, zCk y := List.forall_mem_cons.mpr ⟨zcy_16, List.forall_mem_cons.mpr ⟨zcy_17, List.forall_mem_cons.mpr ⟨zcy_18, List.forall_mem_cons.mpr ⟨zcy_19, List.forall_mem_cons.mpr ⟨zcy_20, List.forall_mem_cons.mpr ⟨zcy_21, List.forall_mem_cons.mpr ⟨zcy_22, List.forall_mem_cons.mpr ⟨zcy_23, List.forall_mem_cons.mpr ⟨zcy_24, List.forall_mem_cons.mpr ⟨zcy_25, List.forall_mem_cons.mpr ⟨zcy_26, List.forall_mem_cons.mpr ⟨zcy_27, List.forall_mem_cons.mpr ⟨zcy_28, List.forall_mem_cons.mpr ⟨zcy_29, List.forall_mem_cons.mpr ⟨zcy_30, List.forall_mem_cons.mpr ⟨zcy_31, fun _ h => absurd h List.not_mem_nil⟩⟩⟩⟩⟩⟩⟩⟩⟩⟩⟩⟩⟩⟩⟩⟩
def zcl_c2 : List Nat := [32, 33, 34, 35, 36, 37, 38, 39, 40, 41, 42, 43, 44, 45, 46, 47]
theorem zcl_r2 : ∀ y ∈ zcl_c2, zCk y := List.forall_mem_cons.mpr ⟨zcy_32, List.forall_mem_cons.mpr ⟨zcy_33, List.forall_mem_cons.mpr ⟨zcy_34, List.forall_mem_cons.mpr ⟨zcy_35, List.forall_mem_cons.mpr ⟨zcy_36, List.forall_mem_cons.mpr ⟨zcy_37, List.forall_mem_cons.mpr ⟨zcy_38, List.forall_mem_cons.mpr ⟨zcy_39, List.forall_mem_cons.mpr ⟨zcy_40, List.forall_mem_cons.mpr ⟨zcy_41, List.forall_mem_cons.mpr ⟨zcy_42, List.forall_mem_cons.mpr ⟨zcy_43, List.forall_mem_cons.mpr ⟨zcy_44, List.forall_mem_cons.mpr ⟨zcy_45, List.forall_mem_cons.mpr ⟨zcy_46, List.forall_mem_cons.mpr ⟨zcy_47, fun _ h => absurd h List.not_mem_nil⟩⟩⟩⟩⟩⟩⟩⟩⟩⟩⟩⟩⟩⟩⟩⟩
def zcl_c3 : List Nat := [48, 49, 50, 51, 52, 53, 54, 55, 56, 57, 58, 59, 60, 61, 62, 63]
theorem zcl_r3 : ∀ y ∈ zcl_c3, zCk y := List.forall_mem_cons.mpr ⟨zcy_48, List.forall_mem_cons.mpr ⟨zcy_49, List.forall_mem_cons.mpr ⟨zcy_50, List.forall_mem_cons.mpr ⟨zcy_51, List.forall_mem_cons.mpr ⟨zcy_52, List.forall_mem_cons.mpr ⟨zcy_53, List.forall_mem_cons.mpr ⟨zcy_54, List.forall_mem_cons.mpr ⟨zcy_55, List.forall_mem_cons.mpr ⟨zcy_56, List.forall_mem_cons.mpr ⟨zcy_57, List.forall_mem_cons.mpr ⟨zcy_58, List.forall_mem_cons.mpr ⟨zcy_59, List.forall_mem_cons.mpr ⟨zcy_60, List.forall_mem_cons.mpr ⟨zcy_61, List.forall_mem_cons.mpr ⟨zcy_62, List.forall_mem_cons.mpr ⟨zcy_63, fun _ h => absurd h List.not_mem_nil⟩⟩⟩⟩⟩⟩⟩⟩⟩⟩⟩⟩⟩⟩⟩⟩
def zcl_c4 : List Nat := [64, 65, 66, 67, 68, 69, 70, 71, 72, 73, 74, 75, 76, 77, 78, 79]
theorem zcl_r4 : ∀ y ∈ zcl_c4, zCk y := List.forall_mem_cons.mpr ⟨zcy_64, List.forall_mem_cons.mpr ⟨zcy_65, List.forall_mem_cons.mpr ⟨zcy_66, List.forall_mem_cons.mpr ⟨zcy_67, List.forall_mem_cons.mpr ⟨zcy_68, List.forall_mem_cons.mpr ⟨zcy_69, List.forall_mem_cons.mpr ⟨zcy_70, List.forall_mem_cons.mpr ⟨zcy_71, List.forall_mem_cons.mpr ⟨zcy_72, List.forall_mem_cons.mpr ⟨zcy_73, List.forall_mem_cons.mpr ⟨zcy_74, List.forall_mem_cons.mpr ⟨zcy_75, List.forall_mem_cons.mpr ⟨zcy_76, List.forall_mem_cons.mpr ⟨zcy_77, List.forall_mem_cons.mpr ⟨zcy_78, List.forall_mem_cons.mpr ⟨zcy_79, fun _ h => absurd h List.not_mem_nil⟩⟩⟩⟩⟩⟩⟩⟩⟩⟩⟩⟩⟩⟩⟩⟩
def zcl_c5 : List Nat := [80, 81, 82, 83, 84, 85, 86, 87, 88, 89, 90, 91, 92, 93, 94, 95]
theorem zcl_r5 : ∀ y ∈ zcl_c5, zCk y := List.forall_mem_cons.mpr ⟨zcy_80, List.forall_mem_cons.mpr ⟨zcy_81, List.forall_mem_cons.mpr ⟨zcy_82, List.forall_mem_cons.mpr ⟨zcy_83, List.forall_mem_cons.mpr ⟨zcy_84, List.forall_mem_cons.mpr ⟨zcy_85, List.forall_mem_cons.mpr ⟨zcy_86, List.forall_mem_cons.mpr ⟨zcy_87, List.forall_mem_cons.mpr ⟨zcy_88, List.forall_mem_cons.mpr ⟨zcy_89, List.forall_mem_cons.mpr ⟨zcy_90, List.forall_mem_cons.mpr ⟨zcy_91, List.forall_mem_cons.mpr ⟨zcy_92, List.forall_mem_cons.mpr ⟨zcy_93, List.forall_mem_cons.mpr ⟨zcy_94, List.forall_mem_cons.mpr ⟨zcy_95, fun _ h => absurd h List.not_mem_nil⟩⟩⟩⟩⟩⟩⟩⟩⟩⟩⟩⟩⟩⟩⟩⟩
def zcl_c6 : List Nat := [96, 97, 98, 99, 100, 101, 102, 103, 104, 105, 106, 107, 108, 109, 110, 111]
theorem zcl_r6 : ∀ y ∈ zcl_c6, zCk y := List.forall_mem_cons.mpr ⟨zcy_96, List.forall_mem_cons.mpr ⟨zcy_97, List.forall_mem_cons.mpr ⟨zcy_98, List.forall_mem_cons.mpr ⟨zcy_99, List.forall_mem_cons.mpr ⟨zcy_100, List.forall_mem_cons.mpr ⟨zcy_101, List.forall_mem_cons.mpr ⟨zcy_102, List.forall_mem_cons.mpr ⟨zcy_103, List.forall_mem_cons.mpr ⟨zcy_104, List.forall_mem_cons.mpr ⟨zcy_105, List.forall_mem_cons.mpr ⟨zcy_106, List.forall_mem_cons.mpr ⟨zcy_107, List.forall_mem_cons.mpr ⟨zcy_108, List.forall_mem_cons.mpr ⟨zcy_109, List.forall_mem_cons.mpr ⟨zcy_110, List.forall_mem_cons.mpr ⟨zcy_111, fun _ h => absurd h List.not_mem_nil⟩⟩⟩⟩⟩⟩⟩⟩⟩⟩⟩⟩⟩⟩⟩⟩
def zcl_c7 : List Nat := [112, 113, 114, 115, 116, 117, 118, 119, 120, 121, 122, 123, 124, 125, 126, 127]
theorem zcl_r7 : ∀ y ∈ zcl_c7, zCk y := List.forall_mem_cons.mpr ⟨zcy_112, List.forall_mem_cons.mpr ⟨zcy_113, List.forall_mem_cons.mpr ⟨zcy_114, List.forall_mem_cons.mpr ⟨zcy_115, List.forall_mem_cons.mpr ⟨zcy_116, List.forall_mem_cons.mpr ⟨zcy_117, List.forall_mem_cons.mpr ⟨zcy_118, List.forall_mem_cons.mpr ⟨zcy_119, List.forall_mem_cons.mpr ⟨zcy_120, List.forall_mem_cons.mpr ⟨zcy_121, List.forall_mem_cons.mpr ⟨zcy_122, List.forall_mem_cons.mpr ⟨zcy_123, List.forall_mem_cons.mpr ⟨zcy_124, List.forall_mem_cons.mpr ⟨zcy_125, List.forall_mem_cons.mpr ⟨zcy_126, List.forall_mem_cons.mpr ⟨zcy_127, fun _ h => absurd h List.not_mem_nil⟩⟩⟩⟩⟩⟩⟩⟩⟩⟩⟩⟩⟩⟩⟩⟩
def zcl_c8 : List Nat := [128, 129, 130, 131, 132, 133, 134, 135, 136, 137, 138, 139, 140, 141, 142, 143]
theorem zcl_r8 : ∀ y ∈ zcl_c8, zCk y := List.forall_mem_cons.mpr ⟨zcy_128, List.forall_mem_cons.mpr ⟨zcy_129, List.forall_mem_cons.mpr ⟨zcy_130, List.forall_mem_cons.mpr ⟨zcy_131, List.forall_mem_cons.mpr ⟨zcy_132, List.forall_mem_cons.mpr ⟨zcy_133, List.forall_mem_cons.mpr ⟨zcy_134, List.forall_mem_cons.mpr ⟨zcy_135, List.forall_mem_cons.mpr ⟨zcy_136, List.forall_mem_cons.mpr ⟨zcy_137, List.forall_mem_cons.mpr ⟨zcy_138, List.forall_mem_cons.mpr ⟨zcy_139, List.forall_mem_cons.mpr ⟨zcy_140, List.forall_mem_cons.mpr ⟨zcy_141, List.forall_mem_cons.mpr ⟨zcy_142, List.forall_mem_cons.mpr ⟨zcy_143, fun _ h => absurd h List.not_mem_nil⟩⟩⟩⟩⟩⟩⟩⟩⟩⟩⟩⟩⟩⟩⟩⟩
def zcl_c9 : List Nat := [144, 145, 146, 147, 148, 149, 150, 151, 152, 153, 154, 155, 156, 157, 158, 159]
theorem zcl_r9 : ∀ y ∈ zcl_c9, zCk y := List.forall_mem_cons.mpr ⟨zcy_144, List.forall_mem_cons.mpr ⟨zcy_145, List.forall_mem_cons.mpr ⟨zcy_146, List.forall_mem_cons.mpr ⟨zcy_147, List.forall_mem_cons.mpr ⟨zcy_148, List.forall_mem_cons.mpr ⟨zcy_149, List.forall_mem_cons.mpr ⟨zcy_150, List.forall_mem_cons.mpr ⟨zcy_151, List.forall_mem_cons.mpr ⟨zcy_152, List.forall_mem_cons.mpr ⟨zcy_153, List.forall_mem_cons.mpr ⟨zcy_154, List.forall_mem_cons.mpr ⟨zcy_155, List.forall_mem_cons.mpr ⟨zcy_156, List.forall_mem_cons.mpr ⟨zcy_157, List.forall_mem_cons.mpr ⟨zcy_158, List.forall_mem_cons.mpr ⟨zcy_159, fun _ h => absurd h List.not_mem_nil⟩⟩⟩⟩⟩⟩⟩⟩⟩⟩⟩⟩⟩⟩⟩⟩
def zcl_c10 : List Nat := [160, 161, 162, 163, 164, 165, 166, 167, 168, 169, 170, 171, 172, 173, 174, 175]
theorem zcl_r10 : ∀ y ∈ zcl_c10, zCk y := List.forall_mem_cons.mpr ⟨zcy_160, List.forall_mem_cons.mpr ⟨zcy_161, List.forall_mem_cons.mpr ⟨zcy_162, List.forall_mem_cons.mpr ⟨zcy_163, List.forall_mem_cons.mpr ⟨zcy_164, List.forall_mem_cons.mpr ⟨zcy_165, List.forall_mem_cons.mpr ⟨zcy_166, List.forall_mem_cons.mpr ⟨zcy_167, List.forall_mem_cons.mpr ⟨zcy_168, List.forall_mem_cons.mpr ⟨zcy_169, List.forall_mem_cons.mpr ⟨zcy_170, List.forall_mem_cons.mpr ⟨zcy_171, List.forall_mem_cons.mpr ⟨zcy_172, List.forall_mem_cons.mpr ⟨zcy_173, List.forall_mem_cons.mpr ⟨zcy_174, List.forall_mem_cons.mpr ⟨zcy_175, fun _ h => absurd h List.not_mem_nil⟩⟩⟩⟩⟩⟩⟩⟩⟩⟩⟩⟩⟩⟩⟩⟩
def zcl_c11 : List Nat := [176, 177, 178, 179, 180, 181, 182, 183, 184, 185, 186, 187, 188, 189, 190, 191]
theorem zcl_r11 : ∀ y ∈ zcl_c11, zCk y := List.forall_mem_cons.mpr ⟨zcy_176, List.forall_mem_cons.mpr ⟨zcy_177, List.forall_mem_cons.mpr ⟨zcy_178, List.forall_mem_cons.mpr ⟨zcy_179, List.forall_mem_cons.mpr ⟨zcy_180, List.forall_mem_cons.mpr ⟨zcy_181, List.forall_mem_cons.mpr ⟨zcy_182, List.forall_mem_cons.mpr ⟨zcy_183, List.forall_mem_cons.mpr ⟨zcy_184, List.forall_mem_cons.mpr ⟨zcy_185, List.forall_mem_cons.mpr ⟨zcy_186, List.forall_mem_cons.mpr ⟨zcy_187, List.forall_mem_cons.mpr ⟨zcy_188, List.forall_mem_cons.mpr ⟨zcy_189, List.forall_mem_cons.mpr ⟨zcy_190, List.forall_mem_cons.mpr ⟨zcy_191, fun _ h => absurd h List.not_mem_nil⟩⟩⟩⟩⟩⟩⟩⟩⟩⟩⟩⟩⟩⟩⟩⟩
def zcl_c12 : List Nat := [192, 193, 194, 195, 196, 197, 198, 199, 200, 201, 202, 203, 204, 205, 206, 207]
theorem zcl_r12 : ∀ y ∈ zcl_c12, zCk y := List.forall_mem_cons.mpr ⟨zcy_192, List.forall_mem_cons.mpr ⟨zcy_193, List.forall_mem_cons.mpr ⟨zcy_194, List.forall_mem_cons.mpr ⟨zcy_195, List.forall_mem_cons.mpr ⟨zcy_196, List.forall_mem_cons.mpr ⟨zcy_197, List.forall_mem_cons.mpr ⟨zcy_198, List.forall_mem_cons.mpr ⟨zcy_199, List.forall_mem_cons.mpr ⟨zcy_200, List.forall_mem_cons.mpr ⟨zcy_201, List.forall_mem_cons.mpr ⟨zcy_202, List.forall_mem_cons.mpr ⟨zcy_203, List.forall_mem_cons.mpr ⟨zcy_204, List.forall_mem_cons.mpr ⟨zcy_205, List.forall_mem_cons.mpr ⟨zcy_206, List.forall_mem_cons.mpr ⟨zcy_207, fun _ h => absurd h List.not_mem_nil⟩⟩⟩⟩⟩⟩⟩⟩⟩⟩⟩⟩⟩⟩⟩⟩
def zcl_c13 : List Nat := [208, 209, 210, 211, 212, 213, 214, 215, 216, 217, 218, 219, 220, 221, 222, 223]
theorem zcl_r13 : ∀ y ∈ zcl_c13, zCk y := List.forall_mem_cons.mpr ⟨zcy_208, List.forall_mem_cons.mpr ⟨zcy_209, List.forall_mem_cons.mpr ⟨zcy_210, List.forall_mem_cons.mpr ⟨zcy_211, List.forall_mem_cons.mpr ⟨zcy_212, List.forall_mem_cons.mpr ⟨zcy_213, List.forall_mem_cons.mpr ⟨zcy_214, List.forall_mem_cons.mpr ⟨zcy_215, List.forall_mem_cons.mpr ⟨zcy_216, List.forall_mem_cons.mpr ⟨zcy_217, List.forall_mem_cons.mpr ⟨zcy_218, List.forall_mem_cons.mpr ⟨zcy_219, List.forall_mem_cons.mpr ⟨zcy_220, List.forall_mem_cons.mpr ⟨zcy_221, List.forall_mem_cons.mpr ⟨zcy_222, List.forall_mem_cons.mpr ⟨zcy_223, fun _ h => absurd h List.not_mem_nil⟩⟩⟩⟩⟩⟩⟩⟩⟩⟩⟩⟩⟩⟩⟩⟩
def zcl_c14 : List Nat := [224, 225, 226, 227, 228, 229, 230, 231, 232, 233, 234, 235, 236, 237, 238, 239]
theorem zcl_r14 : ∀ y ∈ zcl_c14, zCk y := List.forall_mem_cons.mpr ⟨zcy_224, List.forall_mem_cons.mpr ⟨zcy_225, List.forall_mem_cons.mpr ⟨zcy_226, List.forall_mem_cons.mpr ⟨zcy_227, List.forall_mem_cons.mpr ⟨zcy_228, List.forall_mem_cons.mpr ⟨zcy_229, List.forall_mem_cons.mpr ⟨zcy_230, List.forall_mem_cons.mpr ⟨zcy_231, List.forall_mem_cons.mpr ⟨zcy_232, List.forall_mem_cons.mpr ⟨zcy_233, List.forall_mem_cons.mpr ⟨zcy_234, List.forall_mem_cons.mpr ⟨zcy_235, List.forall_mem_cons.mpr ⟨zcy_236, List.forall_mem_cons.mpr ⟨zcy_237, List.forall_mem_cons.mpr ⟨zcy_238, List.forall_mem_cons.mpr ⟨zcy_239, fun _ h => absurd h List.not_mem_nil⟩⟩⟩⟩⟩⟩⟩⟩⟩⟩⟩⟩⟩⟩⟩⟩
def zcl_c15 : List Nat := [240, 241, 242, 243, 244, 245, 246, 247, 248, 249, 250, 251, 252, 253, 254, 255]
theorem zcl_r15 : ∀ y ∈ zcl_c15, zCk y := List.forall_mem_cons.mpr ⟨zcy_240, List.forall_mem_cons.mpr ⟨zcy_241, List.forall_mem_cons.mpr ⟨zcy_242, List.forall_mem_cons.mpr ⟨zcy_243, List.forall_mem_cons.mpr ⟨zcy_244, List.forall_mem_cons.mpr ⟨zcy_245, List.forall_mem_cons.mpr ⟨zcy_246, List.forall_mem_cons.mpr ⟨zcy_247, List.forall_mem_cons.mpr ⟨zcy_248, List.forall_mem_cons.mpr ⟨zcy_249, List.forall_mem_cons.mpr ⟨zcy_250, List.forall_mem_cons.mpr ⟨zcy_251, List.forall_mem_cons.mpr ⟨zcy_252, List.forall_mem_cons.mpr ⟨zcy_253, List.forall_mem_cons.mpr ⟨zcy_254, List.forall_mem_cons.mpr ⟨zcy_255, fun _ h => absurd h List.not_mem_nil⟩⟩⟩⟩⟩⟩⟩⟩⟩⟩⟩⟩⟩⟩⟩⟩
def zcl_c16 : List Nat := [256, 257, 258, 259, 260, 261, 262, 263, 264, 265, 266, 267, 268, 269, 270, 271]
theorem zcl_r16 : ∀ y ∈ zcl_c16, zCk y := List.forall_mem_cons.mpr ⟨zcy_256, List.forall_mem_cons.mpr ⟨zcy_257, List.forall_mem_cons.mpr ⟨zcy_258, List.forall_mem_cons.mpr ⟨zcy_259, List.forall_mem_cons.mpr ⟨zcy_260, List.forall_mem_cons.mpr ⟨zcy_261, List.forall_mem_cons.mpr ⟨zcy_262, List.forall_mem_cons.mpr ⟨zcy_263, List.forall_mem_cons.mpr ⟨zcy_264, List.forall_mem_cons.mpr ⟨zcy_265, List.forall_mem_cons.mpr ⟨zcy_266, List.forall_mem_cons.mpr ⟨zcy_267, List.forall_mem_cons.mpr ⟨zcy_268, List.forall_mem_cons.mpr ⟨zcy_269, List.forall_mem_cons.mpr ⟨zcy_270, List.forall_mem_cons.mpr ⟨zcy_271, fun _ h => absurd h List.not_mem_nil⟩⟩⟩⟩⟩⟩⟩⟩⟩⟩⟩⟩⟩⟩⟩⟩
def zcl_c17 : List Nat := [272, 273, 274, 275, 276, 277, 278, 279, 280, 281, 282, 283, 284, 285, 286, 287]
theorem zcl_r17 : ∀ y ∈ zcl_c17, zCk y := List.forall_mem_cons.mpr ⟨zcy_272, List.forall_mem_cons.mpr ⟨zcy_273, List.forall_mem_cons.mpr ⟨zcy_274, List.forall_mem_cons.mpr ⟨zcy_275, List.forall_mem_cons.mpr ⟨zcy_276, List.forall_mem_cons.mpr ⟨zcy_277, List.forall_mem_cons.mpr ⟨zcy_278, List.forall_mem_cons.mpr ⟨zcy_279, List.forall_mem_cons.mpr ⟨zcy_280, List.forall_mem_cons.mpr ⟨zcy_281, List.forall_mem_cons.mpr ⟨zcy_282, List.forall_mem_cons.mpr ⟨zcy_283, List.forall_mem_cons.mpr ⟨zcy_284, List.forall_mem_cons.mpr ⟨zcy_285, List.forall_mem_cons.mpr ⟨zcy_286, List.forall_mem_cons.mpr ⟨zcy_287, fun _ h => absurd h List.not_mem_nil⟩⟩⟩⟩⟩⟩⟩⟩⟩⟩⟩⟩⟩⟩⟩⟩
def zcl_c18 : List Nat := [288, 289, 290, 291, 292, 293, 294, 295, 296, 297, 298, 299, 300, 301, 302, 303]
theorem zcl_r18 : ∀ y ∈ zcl_c18, zCk y := List.forall_mem_cons.mpr ⟨zcy_288, List.forall_mem_cons.mpr ⟨zcy_289, List.forall_mem_cons.mpr ⟨zcy_290, List.forall_mem_cons.mpr ⟨zcy_291, List.forall_mem_cons.mpr ⟨zcy_292, List.forall_mem_cons.mpr ⟨zcy_293, List.forall_mem_cons.mpr ⟨zcy_294, List.forall_mem_cons.mpr ⟨zcy_295, List.forall_mem_cons.mpr ⟨zcy_296, List.forall_mem_cons.mpr ⟨zcy_297, List.forall_mem_cons.mpr ⟨zcy_298, List.forall_mem_cons.mpr ⟨zcy_299, List.forall_mem_cons.mpr ⟨zcy_300, List.forall_mem_cons.mpr ⟨zcy_301, List.forall_mem_cons.mpr ⟨zcy_302, List.forall_mem_cons.mpr ⟨zcy_303, fun _ h => absurd h List.not_mem_nil⟩⟩⟩⟩⟩⟩⟩⟩⟩⟩⟩⟩⟩⟩⟩⟩
def zcl_c19 : List Nat := [304, 305, 306, 307, 308, 309, 310, 311, 312, 313, 314, 315, 316, 317, 318, 319]
theorem zcl_r19 : ∀ y ∈ zcl_c19, zCk y := List.forall_mem_cons.mpr ⟨zcy_304, List.forall_mem_cons.mpr ⟨zcy_305, List.forall_mem_cons.mpr ⟨zcy_306, List.forall_mem_cons.mpr ⟨zcy_307, List.forall_mem_cons.mpr ⟨zcy_308, List.forall_mem_cons.mpr ⟨zcy_309, List.forall_mem_cons.mpr ⟨zcy_310, List.forall_mem_cons.mpr ⟨zcy_311, List.forall_mem_cons.mpr ⟨zcy_312, List.forall_mem_cons.mpr ⟨zcy_313, List.forall_mem_cons.mpr ⟨zcy_314, List.forall_mem_cons.mpr ⟨zcy_315, List.forall_mem_cons.mpr ⟨zcy_316, List.forall_mem_cons.mpr ⟨zcy_317, List.forall_mem_cons.mpr ⟨zcy_318, List.forall_mem_cons.mpr ⟨zcy_319, fun _ h => absurd h List.not_mem_nil⟩⟩⟩⟩⟩⟩⟩⟩⟩⟩⟩⟩⟩⟩⟩⟩
def zcl_c20 : List Nat := [320, 321, 322, 323, 324, 325, 326, 327, 328, 329, 330, 331, 332, 333, 334, 335]
theorem zcl_r20 : ∀ y ∈ zcl_c20, zCk y := List.forall_mem_cons.mpr ⟨zcy_320, List.forall_mem_cons.mpr ⟨zcy_321, List.forall_mem_cons.mpr ⟨zcy_322, List.forall_mem_cons.mpr ⟨zcy_323, List.forall_mem_cons.mpr ⟨zcy_324, List.forall_mem_cons.mpr ⟨zcy_325, List.forall_mem_cons.mpr ⟨zcy_326, List.forall_mem_cons.mpr ⟨zcy_327, List.forall_mem_cons.mpr ⟨zcy_328, List.forall_mem_cons.mpr ⟨zcy_329, List.forall_mem_cons.mpr ⟨zcy_330, List.forall_mem_cons.mpr ⟨zcy_331, List.forall_mem_cons.mpr ⟨zcy_332, List.forall_mem_cons.mpr ⟨zcy_333, List.forall_mem_cons.mpr ⟨zcy_334, List.forall_mem_cons.mpr ⟨zcy_335, fun _ h => absurd h List.not_mem_nil⟩⟩⟩⟩⟩⟩⟩⟩⟩⟩⟩⟩⟩⟩⟩⟩
def zcl_c21 : List Nat := [336, 337, 338, 339, 340, 341, 342, 343, 344, 345, 346, 347, 348, 349, 350, 351]
theorem zcl_r21 : ∀ y ∈ zcl_c21, zCk y := List.forall_mem_cons.mpr ⟨zcy_336, List.forall_mem_cons.mpr ⟨zcy_337, List.forall_mem_cons.mpr ⟨zcy_338, List.forall_mem_cons.mpr ⟨zcy_339, List.forall_mem_cons.mpr ⟨zcy_340, List.forall_mem_cons.mpr ⟨zcy_341, List.forall_mem_cons.mpr ⟨zcy_342, List.forall_mem_cons.mpr ⟨zcy_343, List.forall_mem_cons.mpr ⟨zcy_344, List.forall_mem_cons.mpr ⟨zcy_345, List.forall_mem_cons.mpr ⟨zcy_346, List.forall_mem_cons.mpr ⟨zcy_347, List.forall_mem_cons.mpr ⟨zcy_348, List.forall_mem_cons.mpr ⟨zcy_349, List.forall_mem_cons.mpr ⟨zcy_350, List.forall_mem_cons.mpr ⟨zcy_351, fun _ h => absurd h List.not_mem_nil⟩⟩⟩⟩⟩⟩⟩⟩⟩⟩⟩⟩⟩⟩⟩⟩
theorem zcl_all : List.range 352 = zcl_c0 ++ (zcl_c1 ++ (zcl_c2 ++ (zcl_c3 ++ (zcl_c4 ++ (zcl_c5 ++ (zcl_c6 ++ (zcl_c7 ++ (zcl_c8 ++ (zcl_c9 ++ (zcl_c10 ++ (zcl_c11 ++ (zcl_c12 ++ (zcl_c13 ++ (zcl_c14 ++ (zcl_c15 ++ (zcl_c16 ++ (zcl_c17 ++ (zcl_c18 ++ (zcl_c19 ++ (zcl_c20 ++ (zcl_c21))))))))))))))))))))) := by decide +kernel
theorem zcks : ∀ y ∈ List.range 352, zCk y := by
  rw [zcl_all]
  exact List.forall_mem_append.mpr ⟨zcl_r0, List.forall_mem_append.mpr ⟨zcl_r1, List.forall_mem_append.mpr ⟨zcl_r2, List.forall_mem_append.mpr ⟨zcl_r3, List.forall_mem_append.mpr ⟨zcl_r4, List.forall_mem_append.mpr ⟨zcl_r5, List.forall_mem_append.mpr ⟨zcl_r6, List.forall_mem_append.mpr ⟨zcl_r7, List.forall_mem_append.mpr ⟨zcl_r8, List.forall_mem_append.mpr ⟨zcl_r9, List.forall_mem_append.mpr ⟨zcl_r10, List.forall_mem_append.mpr ⟨zcl_r11, List.forall_mem_append.mpr ⟨zcl_r12, List.forall_mem_append.mpr ⟨zcl_r13, List.forall_mem_append.mpr ⟨zcl_r14, List.forall_mem_append.mpr ⟨zcl_r15, List.forall_mem_append.mpr ⟨zcl_r16, List.forall_mem_append.mpr ⟨zcl_r17, List.forall_mem_append.mpr ⟨zcl_r18, List.forall_mem_append.mpr ⟨zcl_r19, List.forall_mem_append.mpr ⟨zcl_r20, zcl_r21⟩⟩⟩⟩⟩⟩⟩⟩⟩⟩⟩⟩⟩⟩⟩⟩⟩⟩⟩⟩⟩
