set_option maxRecDepth 100000 in
theorem zck_258 : zchks zc_X12_neighbour prog_14_method_47_code 258 13 (some .int) false 0 zc_X12_neighbour = true := by decide +kernel
set_option maxRecDepth 100000 in
theorem zck_259 : zchks zc_X12_skinOf prog_14_method_48_code 259 13 (some .int) false 0 zc_X12_skinOf = true := by decide +kernel
set_option maxRecDepth 100000 in
theorem zck_260 : zchks zc_X12_piece prog_14_method_49_code 260 13 (some .int) false 0 zc_X12_piece = true := by decide +kernel
set_option maxRecDepth 100000 in
theorem zck_261 : zchks zc_X12_piecesOf prog_14_method_50_code 261 13 (some .int) false 0 zc_X12_piecesOf = true := by decide +kernel
set_option maxRecDepth 100000 in
theorem zck_262 : zchks zc_X12_skin prog_14_method_51_code 262 13 (some .int) false 0 zc_X12_skin = true := by decide +kernel
set_option maxRecDepth 100000 in
theorem zck_263 : zchks zc_X12_pieces prog_14_method_52_code 263 13 (some .int) false 0 zc_X12_pieces = true := by decide +kernel
set_option maxRecDepth 100000 in
theorem zck_264 : zchks zc_X12_fillsBoth prog_14_method_53_code 264 13 (some .int) false 0 zc_X12_fillsBoth = true := by decide +kernel
set_option maxRecDepth 100000 in
theorem zck_265 : zchks zc_X12_both prog_14_method_54_code 265 13 (some .int) false 0 zc_X12_both = true := by decide +kernel
set_option maxRecDepth 100000 in
theorem zck_266 : zchks zc_X12_differ prog_14_method_55_code 266 13 (some .int) false 0 zc_X12_differ = true := by decide +kernel
set_option maxRecDepth 100000 in
theorem zck_267 : zchks zc_X12_turned prog_14_method_56_code 267 13 (some .int) false 0 zc_X12_turned = true := by decide +kernel
set_option maxRecDepth 100000 in
theorem zck_268 : zchks zc_X12_even prog_14_method_57_code 268 13 (some .int) false 0 zc_X12_even = true := by decide +kernel
set_option maxRecDepth 100000 in
theorem zck_269 : zchks zc_X12_meets prog_14_method_58_code 269 13 (some .boolean) false 0 zc_X12_meets = true := by decide +kernel
set_option maxRecDepth 100000 in
theorem zck_270 : zchks zc_X12_apart prog_14_method_59_code 270 13 (some .int) false 0 zc_X12_apart = true := by decide +kernel
set_option maxRecDepth 100000 in
theorem zck_271 : zchks zc_X12_blendsOver prog_14_method_60_code 271 13 (some .int) false 0 zc_X12_blendsOver = true := by decide +kernel
set_option maxRecDepth 100000 in
theorem zck_272 : zchks zc_X12_deepOver prog_14_method_61_code 272 13 (some .int) false 0 zc_X12_deepOver = true := by decide +kernel
set_option maxRecDepth 100000 in
theorem zck_273 : zchks zc_X12_enough prog_14_method_62_code 273 13 (some .int) false 0 zc_X12_enough = true := by decide +kernel
set_option maxRecDepth 100000 in
theorem zck_274 : zchks zc_X12_isNumber prog_14_method_63_code 274 13 (some .boolean) false 0 zc_X12_isNumber = true := by decide +kernel
set_option maxRecDepth 100000 in
theorem zck_275 : zchks zc_X12_aheadOf prog_14_method_64_code 275 13 (some .int) false 0 zc_X12_aheadOf = true := by decide +kernel
set_option maxRecDepth 100000 in
theorem zck_276 : zchks zc_X12_numbersOf prog_14_method_65_code 276 13 (some .int) false 0 zc_X12_numbersOf = true := by decide +kernel
set_option maxRecDepth 100000 in
theorem zck_277 : zchks zc_X12_areNumbers prog_14_method_66_code 277 13 (some .boolean) false 0 zc_X12_areNumbers = true := by decide +kernel
set_option maxRecDepth 100000 in
theorem zck_278 : zchks zc_X12_deepBy prog_14_method_67_code 278 13 (some .int) false 0 zc_X12_deepBy = true := by decide +kernel
set_option maxRecDepth 100000 in
theorem zck_279 : zchks zc_X12_blendsBy prog_14_method_68_code 279 13 (some .int) false 0 zc_X12_blendsBy = true := by decide +kernel
set_option maxRecDepth 100000 in
theorem zck_280 : zchks zc_X12_isTooDeep prog_14_method_69_code 280 13 (some .boolean) false 0 zc_X12_isTooDeep = true := by decide +kernel
set_option maxRecDepth 100000 in
theorem zck_281 : zchks zc_X12_comes prog_14_method_70_code 281 13 (some .int) false 0 zc_X12_comes = true := by decide +kernel
set_option maxRecDepth 100000 in
theorem zck_282 : zchks zc_X12_made prog_14_method_71_code 282 13 (some .int) false 0 zc_X12_made = true := by decide +kernel
set_option maxRecDepth 100000 in
theorem zck_283 : zchks zc_X12_tells prog_14_method_72_code 283 13 (none) false 0 zc_X12_tells = true := by decide +kernel
set_option maxRecDepth 100000 in
theorem zck_284 : zchks zc_X12_ball prog_14_method_73_code 284 13 (some .int) false 0 zc_X12_ball = true := by decide +kernel
set_option maxRecDepth 100000 in
theorem zck_285 : zchks zc_X12_box prog_14_method_74_code 285 13 (some .int) false 0 zc_X12_box = true := by decide +kernel
set_option maxRecDepth 100000 in
theorem zck_286 : zchks zc_X12_half prog_14_method_75_code 286 13 (some .int) false 0 zc_X12_half = true := by decide +kernel
set_option maxRecDepth 100000 in
theorem zck_287 : zchks zc_X12_pair prog_14_method_76_code 287 13 (some .int) false 0 zc_X12_pair = true := by decide +kernel
set_option maxRecDepth 100000 in
theorem zck_288 : zchks zc_X12_blend prog_14_method_77_code 288 13 (some .int) false 0 zc_X12_blend = true := by decide +kernel
set_option maxRecDepth 100000 in
theorem zck_289 : zchks zc_X12_shift prog_14_method_78_code 289 13 (some .int) false 0 zc_X12_shift = true := by decide +kernel
set_option maxRecDepth 100000 in
theorem zck_290 : zchks zc_X12_change prog_14_method_79_code 290 13 (some .int) false 0 zc_X12_change = true := by decide +kernel
set_option maxRecDepth 100000 in
theorem zck_291 : zchks zc_X12_grown prog_14_method_80_code 291 13 (some .int) false 0 zc_X12_grown = true := by decide +kernel
set_option maxRecDepth 100000 in
theorem zck_292 : zchks zc_X12_looseShelves prog_14_method_81_code 292 13 (none) false 0 zc_X12_looseShelves = true := by decide +kernel
set_option maxRecDepth 100000 in
theorem zck_293 : zchks zc_X12_drop prog_14_method_82_code 293 13 (some .int) false 0 zc_X12_drop = true := by decide +kernel
set_option maxRecDepth 100000 in
theorem zck_294 : zchks zc_X12_solids prog_14_method_83_code 294 13 (some .int) false 0 zc_X12_solids = true := by decide +kernel
set_option maxRecDepth 100000 in
theorem zck_295 : zchks zc_X12_shapeOf prog_14_method_84_code 295 13 (some .int) false 0 zc_X12_shapeOf = true := by decide +kernel
set_option maxRecDepth 100000 in
theorem zck_296 : zchks zc_X12_feed prog_14_method_85_code 296 13 (some .int) false 0 zc_X12_feed = true := by decide +kernel
set_option maxRecDepth 100000 in
theorem zck_297 : zchks zc_X12_wipe prog_14_method_86_code 297 13 (some .int) false 0 zc_X12_wipe = true := by decide +kernel
set_option maxRecDepth 100000 in
theorem zck_298 : zchks zc_X12_byteAt prog_14_method_87_code 298 13 (some .int) false 0 zc_X12_byteAt = true := by decide +kernel
set_option maxRecDepth 100000 in
theorem zck_299 : zchks zc_X12_wordOf prog_14_method_88_code 299 13 (some .int) false 0 zc_X12_wordOf = true := by decide +kernel
set_option maxRecDepth 100000 in
theorem zck_300 : zchks zc_X12_next prog_14_method_89_code 300 13 (none) false 0 zc_X12_next = true := by decide +kernel
set_option maxRecDepth 100000 in
theorem zck_301 : zchks zc_X12_isSign prog_14_method_90_code 301 13 (some .boolean) false 0 zc_X12_isSign = true := by decide +kernel
set_option maxRecDepth 100000 in
theorem zck_302 : zchks zc_X12_isBelow prog_14_method_91_code 302 13 (some .boolean) false 0 zc_X12_isBelow = true := by decide +kernel
set_option maxRecDepth 100000 in
theorem zck_303 : zchks zc_X12_areRead prog_14_method_92_code 303 13 (some .boolean) false 0 zc_X12_areRead = true := by decide +kernel
set_option maxRecDepth 100000 in
theorem zck_304 : zchks zc_X12_shapeRead prog_14_method_93_code 304 13 (some .int) false 0 zc_X12_shapeRead = true := by decide +kernel
set_option maxRecDepth 100000 in
theorem zck_305 : zchks zc_X12_isClosed prog_14_method_94_code 305 13 (some .boolean) false 0 zc_X12_isClosed = true := by decide +kernel
set_option maxRecDepth 100000 in
theorem zck_306 : zchks zc_X12_shape prog_14_method_95_code 306 13 (some .int) false 0 zc_X12_shape = true := by decide +kernel
set_option maxRecDepth 100000 in
theorem zck_307 : zchks zc_X12_isShelf prog_14_method_96_code 307 13 (some .boolean) false 0 zc_X12_isShelf = true := by decide +kernel
set_option maxRecDepth 100000 in
theorem zck_308 : zchks zc_X12_row prog_14_method_97_code 308 13 (some .int) false 0 zc_X12_row = true := by decide +kernel
set_option maxRecDepth 100000 in
theorem zck_309 : zchks zc_X12_lowest_ prog_14_method_98_code 309 13 (some .long) false 0 zc_X12_lowest_ = true := by decide +kernel
set_option maxRecDepth 100000 in
theorem zck_310 : zchks zc_X12_set prog_14_method_99_code 310 13 (some .int) false 0 zc_X12_set = true := by decide +kernel
set_option maxRecDepth 100000 in
theorem zck_311 : zchks zc_X12_copy prog_14_method_100_code 311 13 (some .int) false 0 zc_X12_copy = true := by decide +kernel
set_option maxRecDepth 100000 in
theorem zck_312 : zchks zc_X12_element prog_14_method_101_code 312 13 (some .long) false 0 zc_X12_element = true := by decide +kernel
set_option maxRecDepth 100000 in
theorem zck_313 : zchks zc_X12_holds prog_14_method_102_code 313 13 (some .int) false 0 zc_X12_holds = true := by decide +kernel
set_option maxRecDepth 100000 in
theorem zck_314 : zchks zc_X12_show prog_14_method_103_code 314 13 (some .int) false 0 zc_X12_show = true := by decide +kernel
set_option maxRecDepth 100000 in
theorem zck_315 : zchks zc_X12_isUnder prog_14_method_104_code 315 13 (some .boolean) false 0 zc_X12_isUnder = true := by decide +kernel
set_option maxRecDepth 100000 in
theorem zck_316 : zchks zc_X12_wholePlaces prog_14_method_105_code 316 13 (some .int) false 0 zc_X12_wholePlaces = true := by decide +kernel
set_option maxRecDepth 100000 in
theorem zck_317 : zchks zc_X12_says prog_14_method_106_code 317 13 (some .int) false 0 zc_X12_says = true := by decide +kernel
set_option maxRecDepth 100000 in
theorem zck_318 : zchks zc_X12_saysOf prog_14_method_107_code 318 13 (some .int) false 0 zc_X12_saysOf = true := by decide +kernel
set_option maxRecDepth 100000 in
theorem zck_319 : zchks zc_X12_isTold prog_14_method_108_code 319 13 (some .int) false 0 zc_X12_isTold = true := by decide +kernel
set_option maxRecDepth 100000 in
theorem zck_320 : zchks zc_X12_isPaired prog_14_method_109_code 320 13 (some .boolean) false 0 zc_X12_isPaired = true := by decide +kernel
set_option maxRecDepth 100000 in
theorem zck_321 : zchks zc_X12_kinds prog_14_method_110_code 321 13 (some .int) false 0 zc_X12_kinds = true := by decide +kernel
set_option maxRecDepth 100000 in
theorem zck_322 : zchks zc_X12_judge prog_14_method_111_code 322 13 (some .int) false 0 zc_X12_judge = true := by decide +kernel
set_option maxRecDepth 100000 in
theorem zck_323 : zchks zc_X12_carves prog_14_method_112_code 323 13 (some .int) false 0 zc_X12_carves = true := by decide +kernel
set_option maxRecDepth 100000 in
theorem zck_324 : zchks zc_X12_carve prog_14_method_113_code 324 13 (some .int) false 0 zc_X12_carve = true := by decide +kernel
set_option maxRecDepth 100000 in
theorem zck_325 : zchks zc_X12_undo prog_14_method_114_code 325 13 (some .int) false 0 zc_X12_undo = true := by decide +kernel
set_option maxRecDepth 100000 in
theorem zck_326 : zchks zc_X12_blockMany prog_14_method_115_code 326 13 (some .int) false 0 zc_X12_blockMany = true := by decide +kernel
set_option maxRecDepth 100000 in
theorem zck_327 : zchks zc_X12_block prog_14_method_116_code 327 13 (some .int) false 0 zc_X12_block = true := by decide +kernel
set_option maxRecDepth 100000 in
theorem zck_328 : zchks zc_X12_has prog_14_method_117_code 328 13 (some .int) false 0 zc_X12_has = true := by decide +kernel
set_option maxRecDepth 100000 in
theorem zck_329 : zchks zc_X12_off prog_14_method_118_code 329 13 (some .int) false 0 zc_X12_off = true := by decide +kernel
set_option maxRecDepth 100000 in
theorem zck_330 : zchks zc_X12_draw prog_14_method_119_code 330 13 (some .int) false 0 zc_X12_draw = true := by decide +kernel
set_option maxRecDepth 100000 in
theorem zck_331 : zchks zc_X12_days prog_14_method_120_code 331 13 (some .int) false 0 zc_X12_days = true := by decide +kernel
set_option maxRecDepth 100000 in
theorem zck_332 : zchks zc_X12_seed prog_14_method_121_code 332 13 (some .int) false 0 zc_X12_seed = true := by decide +kernel
set_option maxRecDepth 100000 in
theorem zck_333 : zchks zc_X12_copies prog_14_method_122_code 333 13 (none) false 0 zc_X12_copies = true := by decide +kernel
set_option maxRecDepth 100000 in
theorem zck_334 : zchks zc_X12_image prog_14_method_123_code 334 13 (some .int) false 0 zc_X12_image = true := by decide +kernel
set_option maxRecDepth 100000 in
theorem zck_335 : zchks zc_X12_back prog_14_method_124_code 335 13 (some .int) false 0 zc_X12_back = true := by decide +kernel
set_option maxRecDepth 100000 in
theorem zck_336 : zchks zc_X12_held prog_14_method_125_code 336 13 (some .int) false 0 zc_X12_held = true := by decide +kernel
set_option maxRecDepth 100000 in
theorem zck_337 : zchks zc_X12_status prog_14_method_126_code 337 13 (some .int) false 0 zc_X12_status = true := by decide +kernel
set_option maxRecDepth 100000 in
theorem zck_338 : zchks zc_J13_bitCount_95d88 prog_15_method_50_code 338 15 (some .int) false 0 zc_J13_bitCount_95d88 = true := by decide +kernel
set_option maxRecDepth 100000 in
theorem zck_339 : zchks zc_J9_floorMod_7cf53 prog_16_method_50_code 339 16 (some .int) false 0 zc_J9_floorMod_7cf53 = true := by decide +kernel
set_option maxRecDepth 100000 in
theorem zck_340 : zchks zc_J9_abs_067f4 prog_16_method_61_code 340 16 (some .long) false 0 zc_J9_abs_067f4 = true := by decide +kernel
set_option maxRecDepth 100000 in
theorem zck_341 : zchks zc_J9_max_7cf53 prog_16_method_65_code 341 16 (some .int) false 0 zc_J9_max_7cf53 = true := by decide +kernel
set_option maxRecDepth 100000 in
theorem zck_342 : zchks zc_J9_max_f86c9 prog_16_method_66_code 342 16 (some .long) false 0 zc_J9_max_f86c9 = true := by decide +kernel
set_option maxRecDepth 100000 in
theorem zck_343 : zchks zc_J9_min_7cf53 prog_16_method_69_code 343 16 (some .int) false 0 zc_J9_min_7cf53 = true := by decide +kernel
set_option maxRecDepth 100000 in
theorem zck_344 : zchks zc_J9_min_f86c9 prog_16_method_70_code 344 16 (some .long) false 0 zc_J9_min_f86c9 = true := by decide +kernel
set_option maxRecDepth 100000 in
theorem zck_345 : zchks zc_J0_length_8abf5 prog_17_method_54_code 345 17 (some .int) false 0 zc_J0_length_8abf5 = true := by decide +kernel
set_option maxRecDepth 100000 in
theorem zck_346 : zchks zc_J0_charAt_5068e prog_17_method_56_code 346 17 (some .char) false 0 zc_J0_charAt_5068e = true := by decide +kernel
set_option maxRecDepth 100000 in
theorem zck_347 : zchks zc_J0_coder_7d493 prog_17_method_152_code 347 17 (some .byte) false 0 zc_J0_coder_7d493 = true := by decide +kernel
set_option maxRecDepth 100000 in
theorem zck_348 : zchks zc_J0_isLatin1_aae02 prog_17_method_154_code 348 17 (some .boolean) false 0 zc_J0_isLatin1_aae02 = true := by decide +kernel
set_option maxRecDepth 100000 in
theorem zck_349 : zchks zc_J0_checkIndex_df160 prog_17_method_155_code 349 17 (none) false 0 zc_J0_checkIndex_df160 = true := by decide +kernel
set_option maxRecDepth 100000 in
theorem zck_350 : zchks zc_J1_charAt_3b067 prog_18_method_2_code 350 18 (some .char) false 0 zc_J1_charAt_3b067 = true := by decide +kernel
set_option maxRecDepth 100000 in
theorem zck_351 : zchks zc_J3_checkIndex_8e157 prog_21_method_11_code 351 19 (some .int) false 0 zc_J3_checkIndex_8e157 = true := by decide +kernel
