set_option maxRecDepth 100000 in
theorem zck_140 : zchks zc_X11_copy prog_1_method_4_code 140 12 (some .int) false 0 zc_X11_copy = true := by decide +kernel
set_option maxRecDepth 100000 in
theorem zck_141 : zchks zc_X11_element prog_1_method_5_code 141 12 (some .long) false 0 zc_X11_element = true := by decide +kernel
set_option maxRecDepth 100000 in
theorem zck_142 : zchks zc_X11_holds prog_1_method_6_code 142 12 (some .int) false 0 zc_X11_holds = true := by decide +kernel
set_option maxRecDepth 100000 in
theorem zck_143 : zchks zc_X11_show prog_1_method_7_code 143 12 (some .int) false 0 zc_X11_show = true := by decide +kernel
set_option maxRecDepth 100000 in
theorem zck_144 : zchks zc_X11_says prog_1_method_8_code 144 12 (some .int) false 0 zc_X11_says = true := by decide +kernel
set_option maxRecDepth 100000 in
theorem zck_145 : zchks zc_X11_saysRefusal prog_1_method_9_code 145 12 (some .int) false 0 zc_X11_saysRefusal = true := by decide +kernel
set_option maxRecDepth 100000 in
theorem zck_146 : zchks zc_X11_saidOfNumbers prog_1_method_10_code 146 12 (some .int) false 0 zc_X11_saidOfNumbers = true := by decide +kernel
set_option maxRecDepth 100000 in
theorem zck_147 : zchks zc_X11_feed prog_1_method_11_code 147 12 (some .int) false 0 zc_X11_feed = true := by decide +kernel
set_option maxRecDepth 100000 in
theorem zck_148 : zchks zc_X11_wipe prog_1_method_12_code 148 12 (some .int) false 0 zc_X11_wipe = true := by decide +kernel
set_option maxRecDepth 100000 in
theorem zck_149 : zchks zc_X11_shape prog_1_method_13_code 149 12 (some .int) false 0 zc_X11_shape = true := by decide +kernel
set_option maxRecDepth 100000 in
theorem zck_150 : zchks zc_X11_ball prog_1_method_14_code 150 12 (some .int) false 0 zc_X11_ball = true := by decide +kernel
set_option maxRecDepth 100000 in
theorem zck_151 : zchks zc_X11_box prog_1_method_15_code 151 12 (some .int) false 0 zc_X11_box = true := by decide +kernel
set_option maxRecDepth 100000 in
theorem zck_152 : zchks zc_X11_half prog_1_method_16_code 152 12 (some .int) false 0 zc_X11_half = true := by decide +kernel
set_option maxRecDepth 100000 in
theorem zck_153 : zchks zc_X11_pair prog_1_method_17_code 153 12 (some .int) false 0 zc_X11_pair = true := by decide +kernel
set_option maxRecDepth 100000 in
theorem zck_154 : zchks zc_X11_blend prog_1_method_18_code 154 12 (some .int) false 0 zc_X11_blend = true := by decide +kernel
set_option maxRecDepth 100000 in
theorem zck_155 : zchks zc_X11_shift prog_1_method_19_code 155 12 (some .int) false 0 zc_X11_shift = true := by decide +kernel
set_option maxRecDepth 100000 in
theorem zck_156 : zchks zc_X11_change prog_1_method_20_code 156 12 (some .int) false 0 zc_X11_change = true := by decide +kernel
set_option maxRecDepth 100000 in
theorem zck_157 : zchks zc_X11_grown prog_1_method_21_code 157 12 (some .int) false 0 zc_X11_grown = true := by decide +kernel
set_option maxRecDepth 100000 in
theorem zck_158 : zchks zc_X11_putNumbers prog_1_method_22_code 158 12 (none) false 0 zc_X11_putNumbers = true := by decide +kernel
set_option maxRecDepth 100000 in
theorem zck_159 : zchks zc_X11_built prog_1_method_23_code 159 12 (some .int) false 0 zc_X11_built = true := by decide +kernel
set_option maxRecDepth 100000 in
theorem zck_160 : zchks zc_X11_added prog_1_method_24_code 160 12 (some .int) false 0 zc_X11_added = true := by decide +kernel
set_option maxRecDepth 100000 in
theorem zck_161 : zchks zc_X11_drop prog_1_method_25_code 161 12 (some .int) false 0 zc_X11_drop = true := by decide +kernel
set_option maxRecDepth 100000 in
theorem zck_162 : zchks zc_X11_shapeOf prog_1_method_26_code 162 12 (some .int) false 0 zc_X11_shapeOf = true := by decide +kernel
set_option maxRecDepth 100000 in
theorem zck_163 : zchks zc_X11_worth prog_1_method_27_code 163 12 (some .long) false 0 zc_X11_worth = true := by decide +kernel
set_option maxRecDepth 100000 in
theorem zck_164 : zchks zc_X11_bounds prog_1_method_28_code 164 12 (some .long) false 0 zc_X11_bounds = true := by decide +kernel
set_option maxRecDepth 100000 in
theorem zck_165 : zchks zc_X11_in prog_1_method_29_code 165 12 (some .int) false 0 zc_X11_in = true := by decide +kernel
set_option maxRecDepth 100000 in
theorem zck_166 : zchks zc_X11_count prog_1_method_30_code 166 12 (some .int) false 0 zc_X11_count = true := by decide +kernel
set_option maxRecDepth 100000 in
theorem zck_167 : zchks zc_X11_placeOf prog_1_method_31_code 167 12 (some .int) false 0 zc_X11_placeOf = true := by decide +kernel
set_option maxRecDepth 100000 in
theorem zck_168 : zchks zc_X11_slice prog_1_method_32_code 168 12 (some .int) false 0 zc_X11_slice = true := by decide +kernel
set_option maxRecDepth 100000 in
theorem zck_169 : zchks zc_X11_reach prog_1_method_33_code 169 12 (some .int) false 0 zc_X11_reach = true := by decide +kernel
set_option maxRecDepth 100000 in
theorem zck_170 : zchks zc_X11_ray prog_1_method_34_code 170 12 (some .int) false 0 zc_X11_ray = true := by decide +kernel
set_option maxRecDepth 100000 in
theorem zck_171 : zchks zc_X11_skin prog_1_method_35_code 171 12 (some .int) false 0 zc_X11_skin = true := by decide +kernel
set_option maxRecDepth 100000 in
theorem zck_172 : zchks zc_X11_pieces prog_1_method_36_code 172 12 (some .int) false 0 zc_X11_pieces = true := by decide +kernel
set_option maxRecDepth 100000 in
theorem zck_173 : zchks zc_X11_even prog_1_method_37_code 173 12 (some .int) false 0 zc_X11_even = true := by decide +kernel
set_option maxRecDepth 100000 in
theorem zck_174 : zchks zc_X11_both prog_1_method_38_code 174 12 (some .int) false 0 zc_X11_both = true := by decide +kernel
set_option maxRecDepth 100000 in
theorem zck_175 : zchks zc_X11_differ prog_1_method_39_code 175 12 (some .int) false 0 zc_X11_differ = true := by decide +kernel
set_option maxRecDepth 100000 in
theorem zck_176 : zchks zc_X11_apart prog_1_method_40_code 176 12 (some .int) false 0 zc_X11_apart = true := by decide +kernel
set_option maxRecDepth 100000 in
theorem zck_177 : zchks zc_X11_meets prog_1_method_41_code 177 12 (some .boolean) false 0 zc_X11_meets = true := by decide +kernel
set_option maxRecDepth 100000 in
theorem zck_178 : zchks zc_X11_enough prog_1_method_42_code 178 12 (some .int) false 0 zc_X11_enough = true := by decide +kernel
set_option maxRecDepth 100000 in
theorem zck_179 : zchks zc_X11_countBlends prog_1_method_43_code 179 12 (none) false 0 zc_X11_countBlends = true := by decide +kernel
set_option maxRecDepth 100000 in
theorem zck_180 : zchks zc_X11_kinds prog_1_method_44_code 180 12 (some .int) false 0 zc_X11_kinds = true := by decide +kernel
set_option maxRecDepth 100000 in
theorem zck_181 : zchks zc_X11_isSoOfPair prog_1_method_45_code 181 12 (some .boolean) false 0 zc_X11_isSoOfPair = true := by decide +kernel
set_option maxRecDepth 100000 in
theorem zck_182 : zchks zc_X11_isInPair prog_1_method_46_code 182 12 (some .boolean) false 0 zc_X11_isInPair = true := by decide +kernel
set_option maxRecDepth 100000 in
theorem zck_183 : zchks zc_X11_judge prog_1_method_47_code 183 12 (some .int) false 0 zc_X11_judge = true := by decide +kernel
set_option maxRecDepth 100000 in
theorem zck_184 : zchks zc_X11_carve prog_1_method_48_code 184 12 (some .int) false 0 zc_X11_carve = true := by decide +kernel
set_option maxRecDepth 100000 in
theorem zck_185 : zchks zc_X11_undo prog_1_method_49_code 185 12 (some .int) false 0 zc_X11_undo = true := by decide +kernel
set_option maxRecDepth 100000 in
theorem zck_186 : zchks zc_X11_block prog_1_method_50_code 186 12 (some .int) false 0 zc_X11_block = true := by decide +kernel
set_option maxRecDepth 100000 in
theorem zck_187 : zchks zc_X11_has prog_1_method_51_code 187 12 (some .int) false 0 zc_X11_has = true := by decide +kernel
set_option maxRecDepth 100000 in
theorem zck_188 : zchks zc_X11_off prog_1_method_52_code 188 12 (some .int) false 0 zc_X11_off = true := by decide +kernel
set_option maxRecDepth 100000 in
theorem zck_189 : zchks zc_X11_days prog_1_method_53_code 189 12 (some .int) false 0 zc_X11_days = true := by decide +kernel
set_option maxRecDepth 100000 in
theorem zck_190 : zchks zc_X11_seed prog_1_method_54_code 190 12 (some .int) false 0 zc_X11_seed = true := by decide +kernel
set_option maxRecDepth 100000 in
theorem zck_191 : zchks zc_X11_image prog_1_method_55_code 191 12 (some .int) false 0 zc_X11_image = true := by decide +kernel
set_option maxRecDepth 100000 in
theorem zck_192 : zchks zc_X11_back prog_1_method_56_code 192 12 (some .int) false 0 zc_X11_back = true := by decide +kernel
set_option maxRecDepth 100000 in
theorem zck_193 : zchks zc_X11_status prog_1_method_57_code 193 12 (some .int) false 0 zc_X11_status = true := by decide +kernel
set_option maxRecDepth 100000 in
theorem zck_194 : zchks zc_X11_refused prog_1_method_58_code 194 12 (some .int) false 0 zc_X11_refused = true := by decide +kernel
set_option maxRecDepth 100000 in
theorem zck_195 : zchks zc_X11_rowRefusal prog_1_method_59_code 195 12 (some .int) false 0 zc_X11_rowRefusal = true := by decide +kernel
set_option maxRecDepth 100000 in
theorem zck_196 : zchks zc_X11_toldRefusal prog_1_method_60_code 196 12 (some .int) false 0 zc_X11_toldRefusal = true := by decide +kernel
set_option maxRecDepth 100000 in
theorem zck_197 : zchks zc_X11_isShape prog_1_method_61_code 197 12 (some .boolean) false 0 zc_X11_isShape = true := by decide +kernel
set_option maxRecDepth 100000 in
theorem zck_198 : zchks zc_X11_placesOf prog_1_method_62_code 198 12 (some (.object "RaysOfShapes$Places")) false 0 zc_X11_placesOf = true := by decide +kernel
set_option maxRecDepth 100000 in
theorem zck_199 : zchks zc_X11_worthIn prog_1_method_63_code 199 12 (some (.object "RaysOfShapes$Fraction")) false 0 zc_X11_worthIn = true := by decide +kernel
set_option maxRecDepth 100000 in
theorem zck_200 : zchks zc_X11_isBetween prog_1_method_64_code 200 12 (some .boolean) false 0 zc_X11_isBetween = true := by decide +kernel
set_option maxRecDepth 100000 in
theorem zck_201 : zchks zc_X11_isShelf prog_1_method_65_code 201 12 (some .boolean) false 0 zc_X11_isShelf = true := by decide +kernel
set_option maxRecDepth 100000 in
theorem zck_202 : zchks zc_X11_isPlace prog_1_method_66_code 202 12 (some .boolean) false 0 zc_X11_isPlace = true := by decide +kernel
set_option maxRecDepth 100000 in
theorem zck_203 : zchks zc_X11_isAxis prog_1_method_67_code 203 12 (some .boolean) false 0 zc_X11_isAxis = true := by decide +kernel
set_option maxRecDepth 100000 in
theorem zck_204 : zchks zc_X11_isNear prog_1_method_68_code 204 12 (some .boolean) false 0 zc_X11_isNear = true := by decide +kernel
set_option maxRecDepth 100000 in
theorem zck_205 : zchks zc_X11_isStep prog_1_method_69_code 205 12 (some .boolean) false 0 zc_X11_isStep = true := by decide +kernel
set_option maxRecDepth 100000 in
theorem zck_206 : zchks zc_X11_isRun prog_1_method_70_code 206 12 (some .boolean) false 0 zc_X11_isRun = true := by decide +kernel
set_option maxRecDepth 100000 in
theorem zck_207 : zchks zc_X11_isRegion prog_1_method_71_code 207 12 (some .boolean) false 0 zc_X11_isRegion = true := by decide +kernel
set_option maxRecDepth 100000 in
theorem zck_208 : zchks zc_X11_placeAt prog_1_method_72_code 208 12 (some .int) false 0 zc_X11_placeAt = true := by decide +kernel
set_option maxRecDepth 100000 in
theorem zck_209 : zchks zc_X11_numberOn prog_1_method_73_code 209 12 (some .int) false 0 zc_X11_numberOn = true := by decide +kernel
set_option maxRecDepth 100000 in
theorem zck_210 : zchks zc_X11_shiftOf prog_1_method_74_code 210 12 (some .int) false 0 zc_X11_shiftOf = true := by decide +kernel
set_option maxRecDepth 100000 in
theorem zck_211 : zchks zc_X11_moved prog_1_method_75_code 211 12 (some .int) false 0 zc_X11_moved = true := by decide +kernel
set_option maxRecDepth 100000 in
theorem zck_212 : zchks zc_X12_init prog_14_method_1_code 212 13 (none) true 0 zc_X12_init = true := by decide +kernel
set_option maxRecDepth 100000 in
theorem zck_213 : zchks zc_X12_is prog_14_method_2_code 213 13 (some .boolean) false 0 zc_X12_is = true := by decide +kernel
set_option maxRecDepth 100000 in
theorem zck_214 : zchks zc_X12_refused prog_14_method_3_code 214 13 (some .int) false 0 zc_X12_refused = true := by decide +kernel
set_option maxRecDepth 100000 in
theorem zck_215 : zchks zc_X12_refusedLong prog_14_method_4_code 215 13 (some .long) false 0 zc_X12_refusedLong = true := by decide +kernel
set_option maxRecDepth 100000 in
theorem zck_216 : zchks zc_X12_of prog_14_method_5_code 216 13 (some .int) false 0 zc_X12_of = true := by decide +kernel
set_option maxRecDepth 100000 in
theorem zck_217 : zchks zc_X12_number prog_14_method_6_code 217 13 (some .int) false 0 zc_X12_number = true := by decide +kernel
set_option maxRecDepth 100000 in
theorem zck_218 : zchks zc_X12_isShape prog_14_method_7_code 218 13 (some .boolean) false 0 zc_X12_isShape = true := by decide +kernel
set_option maxRecDepth 100000 in
theorem zck_219 : zchks zc_X12_worthAt prog_14_method_8_code 219 13 (some .long) false 0 zc_X12_worthAt = true := by decide +kernel
set_option maxRecDepth 100000 in
theorem zck_220 : zchks zc_X12_beyond prog_14_method_9_code 220 13 (some .long) false 0 zc_X12_beyond = true := by decide +kernel
set_option maxRecDepth 100000 in
theorem zck_221 : zchks zc_X12_blended prog_14_method_10_code 221 13 (some .long) false 0 zc_X12_blended = true := by decide +kernel
set_option maxRecDepth 100000 in
theorem zck_222 : zchks zc_X12_grownBy prog_14_method_11_code 222 13 (some .long) false 0 zc_X12_grownBy = true := by decide +kernel
set_option maxRecDepth 100000 in
theorem zck_223 : zchks zc_X12_pick prog_14_method_12_code 223 13 (some .int) false 0 zc_X12_pick = true := by decide +kernel
set_option maxRecDepth 100000 in
theorem zck_224 : zchks zc_X12_changed prog_14_method_13_code 224 13 (some .long) false 0 zc_X12_changed = true := by decide +kernel
set_option maxRecDepth 100000 in
theorem zck_225 : zchks zc_X12_common prog_14_method_14_code 225 13 (some .long) false 0 zc_X12_common = true := by decide +kernel
set_option maxRecDepth 100000 in
theorem zck_226 : zchks zc_X12_lowest prog_14_method_15_code 226 13 (some .long) false 0 zc_X12_lowest = true := by decide +kernel
set_option maxRecDepth 100000 in
theorem zck_227 : zchks zc_X12_worth prog_14_method_16_code 227 13 (some .long) false 0 zc_X12_worth = true := by decide +kernel
set_option maxRecDepth 100000 in
theorem zck_228 : zchks zc_X12_leastSquare prog_14_method_17_code 228 13 (some .long) false 0 zc_X12_leastSquare = true := by decide +kernel
set_option maxRecDepth 100000 in
theorem zck_229 : zchks zc_X12_greatestSquare prog_14_method_18_code 229 13 (some .long) false 0 zc_X12_greatestSquare = true := by decide +kernel
set_option maxRecDepth 100000 in
theorem zck_230 : zchks zc_X12_bound prog_14_method_19_code 230 13 (none) false 0 zc_X12_bound = true := by decide +kernel
set_option maxRecDepth 100000 in
theorem zck_231 : zchks zc_X12_lowBeyond prog_14_method_20_code 231 13 (some .long) false 0 zc_X12_lowBeyond = true := by decide +kernel
set_option maxRecDepth 100000 in
theorem zck_232 : zchks zc_X12_highBeyond prog_14_method_21_code 232 13 (some .long) false 0 zc_X12_highBeyond = true := by decide +kernel
set_option maxRecDepth 100000 in
theorem zck_233 : zchks zc_X12_lesser prog_14_method_22_code 233 13 (some .long) false 0 zc_X12_lesser = true := by decide +kernel
set_option maxRecDepth 100000 in
theorem zck_234 : zchks zc_X12_boundPair prog_14_method_23_code 234 13 (none) false 0 zc_X12_boundPair = true := by decide +kernel
set_option maxRecDepth 100000 in
theorem zck_235 : zchks zc_X12_isWithin prog_14_method_24_code 235 13 (some .boolean) false 0 zc_X12_isWithin = true := by decide +kernel
set_option maxRecDepth 100000 in
theorem zck_236 : zchks zc_X12_repeatFrom prog_14_method_25_code 236 13 (some .int) false 0 zc_X12_repeatFrom = true := by decide +kernel
set_option maxRecDepth 100000 in
theorem zck_237 : zchks zc_X12_repeatTo prog_14_method_26_code 237 13 (some .int) false 0 zc_X12_repeatTo = true := by decide +kernel
set_option maxRecDepth 100000 in
theorem zck_238 : zchks zc_X12_mirrorFrom prog_14_method_27_code 238 13 (some .int) false 0 zc_X12_mirrorFrom = true := by decide +kernel
set_option maxRecDepth 100000 in
theorem zck_239 : zchks zc_X12_mirrorTo prog_14_method_28_code 239 13 (some .int) false 0 zc_X12_mirrorTo = true := by decide +kernel
set_option maxRecDepth 100000 in
theorem zck_240 : zchks zc_X12_boundChange prog_14_method_29_code 240 13 (none) false 0 zc_X12_boundChange = true := by decide +kernel
set_option maxRecDepth 100000 in
theorem zck_241 : zchks zc_X12_boundTurn prog_14_method_30_code 241 13 (none) false 0 zc_X12_boundTurn = true := by decide +kernel
set_option maxRecDepth 100000 in
theorem zck_242 : zchks zc_X12_boundGrown prog_14_method_31_code 242 13 (none) false 0 zc_X12_boundGrown = true := by decide +kernel
set_option maxRecDepth 100000 in
theorem zck_243 : zchks zc_X12_xOf prog_14_method_32_code 243 13 (some .int) false 0 zc_X12_xOf = true := by decide +kernel
set_option maxRecDepth 100000 in
theorem zck_244 : zchks zc_X12_yOf prog_14_method_33_code 244 13 (some .int) false 0 zc_X12_yOf = true := by decide +kernel
set_option maxRecDepth 100000 in
theorem zck_245 : zchks zc_X12_zOf prog_14_method_34_code 245 13 (some .int) false 0 zc_X12_zOf = true := by decide +kernel
set_option maxRecDepth 100000 in
theorem zck_246 : zchks zc_X12_isPlace prog_14_method_35_code 246 13 (some .boolean) false 0 zc_X12_isPlace = true := by decide +kernel
set_option maxRecDepth 100000 in
theorem zck_247 : zchks zc_X12_bounds prog_14_method_36_code 247 13 (some .long) false 0 zc_X12_bounds = true := by decide +kernel
set_option maxRecDepth 100000 in
theorem zck_248 : zchks zc_X12_isInside prog_14_method_37_code 248 13 (some .boolean) false 0 zc_X12_isInside = true := by decide +kernel
set_option maxRecDepth 100000 in
theorem zck_249 : zchks zc_X12_fills prog_14_method_38_code 249 13 (some .int) false 0 zc_X12_fills = true := by decide +kernel
set_option maxRecDepth 100000 in
theorem zck_250 : zchks zc_X12_in prog_14_method_39_code 250 13 (some .int) false 0 zc_X12_in = true := by decide +kernel
set_option maxRecDepth 100000 in
theorem zck_251 : zchks zc_X12_looked prog_14_method_40_code 251 13 (some .int) false 0 zc_X12_looked = true := by decide +kernel
set_option maxRecDepth 100000 in
theorem zck_252 : zchks zc_X12_count prog_14_method_41_code 252 13 (some .int) false 0 zc_X12_count = true := by decide +kernel
set_option maxRecDepth 100000 in
theorem zck_253 : zchks zc_X12_placeOf prog_14_method_42_code 253 13 (some .int) false 0 zc_X12_placeOf = true := by decide +kernel
set_option maxRecDepth 100000 in
theorem zck_254 : zchks zc_X12_axisOf prog_14_method_43_code 254 13 (some .int) false 0 zc_X12_axisOf = true := by decide +kernel
set_option maxRecDepth 100000 in
theorem zck_255 : zchks zc_X12_slice prog_14_method_44_code 255 13 (some .int) false 0 zc_X12_slice = true := by decide +kernel
set_option maxRecDepth 100000 in
theorem zck_256 : zchks zc_X12_reach prog_14_method_45_code 256 13 (some .int) false 0 zc_X12_reach = true := by decide +kernel
set_option maxRecDepth 100000 in
theorem zck_257 : zchks zc_X12_ray prog_14_method_46_code 257 13 (some .int) false 0 zc_X12_ray = true := by decide +kernel
