theorem cb_X10_78 : CBS RX10 78 yX10_isSheetSide cX10_isSheetSide 1 (some .boolean) 1 := ⟨⟨mw 5 14 rfl rfl, mw 0 2 rfl rfl, mw 5 16 rfl rfl, by decide, by decide, by decide +kernel⟩, mw 5 15 rfl rfl⟩
theorem cb_X10_112 : CBV RX10 112 yX8_createSheet cX8_createSheet 7 (some .int) 4 9 := ⟨⟨mw 6 17 rfl rfl, mw 0 16 rfl rfl, mw 6 20 rfl rfl, by decide, by decide, by decide +kernel⟩, mw 6 18 rfl rfl, mw 6 19 rfl rfl, TX8, 3, tyX8, cl_X8⟩
theorem cb_X10_116 : CBS RX10 116 yX3_isShape cX3_isShape 3 (some .boolean) 3 := ⟨⟨mw 8 13 rfl rfl, mw 8 15 rfl rfl, mw 8 16 rfl rfl, by decide, by decide, by decide +kernel⟩, mw 8 14 rfl rfl⟩
theorem cb_X10_128 : CBV RX10 128 yX8_createShape cX8_createShape 10 (some .int) 5 9 := ⟨⟨mw 8 29 rfl rfl, mw 0 16 rfl rfl, mw 9 0 rfl rfl, by decide, by decide, by decide +kernel⟩, mw 8 30 rfl rfl, mw 8 31 rfl rfl, TX8, 3, tyX8, cl_X8⟩
theorem cb_X10_132 : CBV RX10 132 yX10_checkCell cX10_checkCell 3 none 2 11 := ⟨⟨mw 10 12 rfl rfl, mw 0 2 rfl rfl, mw 10 15 rfl rfl, by decide, by decide, by decide +kernel⟩, mw 10 13 rfl rfl, mw 10 14 rfl rfl, TX10, 12, tyX10, cl_X10⟩
theorem cb_X10_136 : CBV RX10 136 yX8_onCell cX8_onCell 3 (some .int) 2 9 := ⟨⟨mw 11 10 rfl rfl, mw 0 16 rfl rfl, mw 11 13 rfl rfl, by decide, by decide, by decide +kernel⟩, mw 11 11 rfl rfl, mw 11 12 rfl rfl, TX8, 3, tyX8, cl_X8⟩
theorem cb_X10_145 : CBV RX10 145 yX8_setCell cX8_setCell 4 none 3 9 := ⟨⟨mw 11 14 rfl rfl, mw 0 16 rfl rfl, mw 7 1 rfl rfl, by decide, by decide, by decide +kernel⟩, mw 6 31 rfl rfl, mw 7 0 rfl rfl, TX8, 3, tyX8, cl_X8⟩
theorem cb_X10_149 : CBV RX10 149 yX8_cellsWith cX8_cellsWith 5 (some .int) 2 9 := ⟨⟨mw 11 15 rfl rfl, mw 0 16 rfl rfl, mw 11 18 rfl rfl, by decide, by decide, by decide +kernel⟩, mw 11 16 rfl rfl, mw 11 17 rfl rfl, TX8, 3, tyX8, cl_X8⟩
theorem cb_X10_152 : CBV RX10 152 yX10_checkSheet cX10_checkSheet 2 none 1 11 := ⟨⟨mw 10 18 rfl rfl, mw 0 2 rfl rfl, mw 10 21 rfl rfl, by decide, by decide, by decide +kernel⟩, mw 10 19 rfl rfl, mw 10 20 rfl rfl, TX10, 12, tyX10, cl_X10⟩
theorem cb_X10_159 : CBV RX10 159 yX8_coveredCells cX8_coveredCells 2 (some .int) 1 9 := ⟨⟨mw 13 12 rfl rfl, mw 0 16 rfl rfl, mw 13 15 rfl rfl, by decide, by decide, by decide +kernel⟩, mw 13 13 rfl rfl, mw 13 14 rfl rfl, TX8, 3, tyX8, cl_X8⟩
theorem cb_X10_173 : CBV RX10 173 yX4_findRemnants cX4_findRemnants 5 (some .int) 2 5 := ⟨⟨mw 14 1 rfl rfl, mw 1 7 rfl rfl, mw 14 4 rfl rfl, by decide, by decide, by decide +kernel⟩, mw 14 2 rfl rfl, mw 14 3 rfl rfl, TX4, 11, tyX4, cl_X4⟩
theorem cb_X10_179 : CBV RX10 179 yX10_checkShape cX10_checkShape 2 none 1 11 := ⟨⟨mw 16 10 rfl rfl, mw 0 2 rfl rfl, mw 16 13 rfl rfl, by decide, by decide, by decide +kernel⟩, mw 16 11 rfl rfl, mw 16 12 rfl rfl, TX10, 12, tyX10, cl_X10⟩
theorem cb_X10_185 : CBV RX10 185 yX8_differentTurns cX8_differentTurns 4 (some .int) 1 9 := ⟨⟨mw 16 25 rfl rfl, mw 0 16 rfl rfl, mw 16 28 rfl rfl, by decide, by decide, by decide +kernel⟩, mw 16 26 rfl rfl, mw 16 27 rfl rfl, TX8, 3, tyX8, cl_X8⟩
theorem cb_X10_188 : CBS RX10 188 yX10_checkTurn cX10_checkTurn 1 none 1 := ⟨⟨mw 18 7 rfl rfl, mw 0 2 rfl rfl, mw 18 9 rfl rfl, by decide, by decide, by decide +kernel⟩, mw 18 8 rfl rfl⟩
theorem cb_X10_191 : CBV RX10 191 yX8_coveredAfter cX8_coveredAfter 3 (some .int) 2 9 := ⟨⟨mw 18 10 rfl rfl, mw 0 16 rfl rfl, mw 17 8 rfl rfl, by decide, by decide, by decide +kernel⟩, mw 17 6 rfl rfl, mw 17 7 rfl rfl, TX8, 3, tyX8, cl_X8⟩
theorem cb_X10_194 : CBV RX10 194 yX10_isAdmitted cX10_isAdmitted 6 (some .boolean) 5 11 := ⟨⟨mw 18 22 rfl rfl, mw 0 2 rfl rfl, mw 18 25 rfl rfl, by decide, by decide, by decide +kernel⟩, mw 18 23 rfl rfl, mw 18 24 rfl rfl, TX10, 12, tyX10, cl_X10⟩
theorem cb_X10_200 : CBV RX10 200 yX8_createPart cX8_createPart 11 (some .int) 5 9 := ⟨⟨mw 20 15 rfl rfl, mw 0 16 rfl rfl, mw 20 18 rfl rfl, by decide, by decide, by decide +kernel⟩, mw 20 16 rfl rfl, mw 20 17 rfl rfl, TX8, 3, tyX8, cl_X8⟩
theorem cb_X10_203 : CBV RX10 203 yX10_checkPart cX10_checkPart 2 none 1 11 := ⟨⟨mw 21 22 rfl rfl, mw 0 2 rfl rfl, mw 21 25 rfl rfl, by decide, by decide, by decide +kernel⟩, mw 21 23 rfl rfl, mw 21 24 rfl rfl, TX10, 12, tyX10, cl_X10⟩
theorem cb_X10_206 : CBV RX10 206 yX8_removePart cX8_removePart 6 none 1 9 := ⟨⟨mw 21 26 rfl rfl, mw 0 16 rfl rfl, mw 21 29 rfl rfl, by decide, by decide, by decide +kernel⟩, mw 21 27 rfl rfl, mw 21 28 rfl rfl, TX8, 3, tyX8, cl_X8⟩
theorem cb_X10_213 : CBV RX10 213 yX8_lowestCell cX8_lowestCell 4 (some .int) 1 9 := ⟨⟨mw 22 24 rfl rfl, mw 0 16 rfl rfl, mw 22 27 rfl rfl, by decide, by decide, by decide +kernel⟩, mw 22 25 rfl rfl, mw 22 26 rfl rfl, TX8, 3, tyX8, cl_X8⟩
theorem cb_X10_216 : CBV RX10 216 yX4_smallestAround cX4_smallestAround 7 (some .int) 2 5 := ⟨⟨mw 22 28 rfl rfl, mw 1 7 rfl rfl, mw 22 31 rfl rfl, by decide, by decide, by decide +kernel⟩, mw 22 29 rfl rfl, mw 22 30 rfl rfl, TX4, 11, tyX4, cl_X4⟩
theorem cb_X10_219 : CBV RX10 219 yX8_commonCutsOf cX8_commonCutsOf 6 (some .int) 1 9 := ⟨⟨mw 23 16 rfl rfl, mw 0 16 rfl rfl, mw 23 19 rfl rfl, by decide, by decide, by decide +kernel⟩, mw 23 17 rfl rfl, mw 23 18 rfl rfl, TX8, 3, tyX8, cl_X8⟩
theorem cb_X10_222 : CBS RX10 222 yX10_causeNumber cX10_causeNumber 3 (some .int) 3 := ⟨⟨mw 24 27 rfl rfl, mw 0 2 rfl rfl, mw 24 29 rfl rfl, by decide, by decide, by decide +kernel⟩, mw 24 28 rfl rfl⟩
theorem cb_X10_236 : CBV RX10 236 yX10_checkRemnant cX10_checkRemnant 3 none 2 11 := ⟨⟨mw 27 22 rfl rfl, mw 0 2 rfl rfl, mw 27 25 rfl rfl, by decide, by decide, by decide +kernel⟩, mw 27 23 rfl rfl, mw 27 24 rfl rfl, TX10, 12, tyX10, cl_X10⟩
theorem cb_X10_239 : CBV RX10 239 yX4_measure cX4_measure 4 none 1 5 := ⟨⟨mw 27 26 rfl rfl, mw 1 7 rfl rfl, mw 27 29 rfl rfl, by decide, by decide, by decide +kernel⟩, mw 27 27 rfl rfl, mw 27 28 rfl rfl, TX4, 11, tyX4, cl_X4⟩
theorem cb_X10_242 : CBV RX10 242 yX4_cellsMeasured cX4_cellsMeasured 1 (some .int) 0 5 := ⟨⟨mw 28 11 rfl rfl, mw 1 7 rfl rfl, mw 28 14 rfl rfl, by decide, by decide, by decide +kernel⟩, mw 28 12 rfl rfl, mw 28 13 rfl rfl, TX4, 11, tyX4, cl_X4⟩
theorem cb_X10_245 : CBV RX10 245 yX4_lowestMeasured cX4_lowestMeasured 1 (some .int) 0 5 := ⟨⟨mw 28 15 rfl rfl, mw 1 7 rfl rfl, mw 28 18 rfl rfl, by decide, by decide, by decide +kernel⟩, mw 28 16 rfl rfl, mw 28 17 rfl rfl, TX4, 11, tyX4, cl_X4⟩
theorem cb_X10_248 : CBV RX10 248 yX4_columnsMeasured cX4_columnsMeasured 1 (some .int) 0 5 := ⟨⟨mw 28 19 rfl rfl, mw 1 7 rfl rfl, mw 28 22 rfl rfl, by decide, by decide, by decide +kernel⟩, mw 28 20 rfl rfl, mw 28 21 rfl rfl, TX4, 11, tyX4, cl_X4⟩
theorem cb_X10_251 : CBV RX10 251 yX4_rowsMeasured cX4_rowsMeasured 1 (some .int) 0 5 := ⟨⟨mw 28 23 rfl rfl, mw 1 7 rfl rfl, mw 28 26 rfl rfl, by decide, by decide, by decide +kernel⟩, mw 28 24 rfl rfl, mw 28 25 rfl rfl, TX4, 11, tyX4, cl_X4⟩
theorem cb_X10_254 : CBV RX10 254 yX4_greatestRectangle cX4_greatestRectangle 5 (some .int) 1 5 := ⟨⟨mw 28 27 rfl rfl, mw 1 7 rfl rfl, mw 28 30 rfl rfl, by decide, by decide, by decide +kernel⟩, mw 28 28 rfl rfl, mw 28 29 rfl rfl, TX4, 11, tyX4, cl_X4⟩
theorem cb_X10_257 : CBV RX10 257 yX4_splitOff cX4_splitOff 10 (some .int) 3 5 := ⟨⟨mw 30 7 rfl rfl, mw 1 7 rfl rfl, mw 30 10 rfl rfl, by decide, by decide, by decide +kernel⟩, mw 30 8 rfl rfl, mw 30 9 rfl rfl, TX4, 11, tyX4, cl_X4⟩
theorem cb_X10_267 : CBV RX10 267 yX5_plan cX5_plan 9 none 4 6 := ⟨⟨mw 30 27 rfl rfl, mw 1 11 rfl rfl, mw 30 30 rfl rfl, by decide, by decide, by decide +kernel⟩, mw 30 28 rfl rfl, mw 30 29 rfl rfl, TX5, 9, tyX5, cl_X5⟩
theorem cb_X10_271 : CBV RX10 271 yX5_length cX5_length 1 (some .int) 0 6 := ⟨⟨mw 32 1 rfl rfl, mw 1 11 rfl rfl, mw 32 4 rfl rfl, by decide, by decide, by decide +kernel⟩, mw 32 2 rfl rfl, mw 32 3 rfl rfl, TX5, 9, tyX5, cl_X5⟩
theorem cb_X10_274 : CBV RX10 274 yX5_partAt cX5_partAt 2 (some .int) 1 6 := ⟨⟨mw 32 5 rfl rfl, mw 1 11 rfl rfl, mw 32 8 rfl rfl, by decide, by decide, by decide +kernel⟩, mw 32 6 rfl rfl, mw 32 7 rfl rfl, TX5, 9, tyX5, cl_X5⟩
theorem cb_X10_285 : CBV RX10 285 yX10_cellsOfAllSheets cX10_cellsOfAllSheets 3 (some .int) 0 11 := ⟨⟨mw 33 25 rfl rfl, mw 0 2 rfl rfl, mw 33 28 rfl rfl, by decide, by decide, by decide +kernel⟩, mw 33 26 rfl rfl, mw 33 27 rfl rfl, TX10, 12, tyX10, cl_X10⟩
theorem cb_X10_288 : CBV RX10 288 yX10_cutsOfAllSheets cX10_cutsOfAllSheets 3 (some .int) 0 11 := ⟨⟨mw 33 29 rfl rfl, mw 0 2 rfl rfl, mw 34 0 rfl rfl, by decide, by decide, by decide +kernel⟩, mw 33 30 rfl rfl, mw 33 31 rfl rfl, TX10, 12, tyX10, cl_X10⟩
theorem cb_X10_291 : CBV RX10 291 yX2_size cX2_size 1 (some .int) 0 4 := ⟨⟨mw 34 1 rfl rfl, mw 0 22 rfl rfl, mw 34 4 rfl rfl, by decide, by decide, by decide +kernel⟩, mw 34 2 rfl rfl, mw 34 3 rfl rfl, TX2, 3, tyX2, cl_X2⟩
theorem cb_X10_292 : CBV RX10 292 yX6_length cX6_length 1 (some .int) 0 7 := ⟨⟨mw 34 5 rfl rfl, mw 1 15 rfl rfl, mw 34 8 rfl rfl, by decide, by decide, by decide +kernel⟩, mw 34 6 rfl rfl, mw 34 7 rfl rfl, TX6, 15, tyX6, cl_X6⟩
theorem cb_X10_293 : CBV RX10 293 yX6_isFull cX6_isFull 1 (some .boolean) 0 7 := ⟨⟨mw 34 21 rfl rfl, mw 1 15 rfl rfl, mw 34 24 rfl rfl, by decide, by decide, by decide +kernel⟩, mw 34 22 rfl rfl, mw 34 23 rfl rfl, TX6, 15, tyX6, cl_X6⟩
theorem cb_X10_296 : CBV RX10 296 yX6_append cX6_append 2 (some .int) 1 7 := ⟨⟨mw 34 25 rfl rfl, mw 1 15 rfl rfl, mw 34 28 rfl rfl, by decide, by decide, by decide +kernel⟩, mw 34 26 rfl rfl, mw 34 27 rfl rfl, TX6, 15, tyX6, cl_X6⟩
theorem cb_X10_315 : CBV RX10 315 yX2_pop cX2_pop 4 none 1 4 := ⟨⟨mw 41 16 rfl rfl, mw 0 22 rfl rfl, mw 41 19 rfl rfl, by decide, by decide, by decide +kernel⟩, mw 41 17 rfl rfl, mw 41 18 rfl rfl, TX2, 3, tyX2, cl_X2⟩
theorem cb_X10_323 : CBV RX10 323 yX2_clear cX2_clear 1 none 0 4 := ⟨⟨mw 42 8 rfl rfl, mw 0 22 rfl rfl, mw 42 11 rfl rfl, by decide, by decide, by decide +kernel⟩, mw 42 9 rfl rfl, mw 42 10 rfl rfl, TX2, 3, tyX2, cl_X2⟩
theorem cb_X10_324 : CBV RX10 324 yX0_has cX0_has 2 (some .boolean) 1 2 := ⟨⟨mw 25 0 rfl rfl, mw 0 26 rfl rfl, mw 25 3 rfl rfl, by decide, by decide, by decide +kernel⟩, mw 25 1 rfl rfl, mw 25 2 rfl rfl, TX0, 3, tyX0, cl_X0⟩
theorem cb_X10_329 : CBV RX10 329 yX0_placeAt cX0_placeAt 2 (some .int) 1 2 := ⟨⟨mw 25 4 rfl rfl, mw 0 26 rfl rfl, mw 25 7 rfl rfl, by decide, by decide, by decide +kernel⟩, mw 25 5 rfl rfl, mw 25 6 rfl rfl, TX0, 3, tyX0, cl_X0⟩
theorem cb_X10_332 : CBV RX10 332 yX0_kindAt cX0_kindAt 2 (some .int) 1 2 := ⟨⟨mw 25 8 rfl rfl, mw 0 26 rfl rfl, mw 25 11 rfl rfl, by decide, by decide, by decide +kernel⟩, mw 25 9 rfl rfl, mw 25 10 rfl rfl, TX0, 3, tyX0, cl_X0⟩
theorem cb_X10_335 : CBV RX10 335 yX9_has cX9_has 2 (some .boolean) 1 10 := ⟨⟨mw 10 22 rfl rfl, mw 1 24 rfl rfl, mw 10 25 rfl rfl, by decide, by decide, by decide +kernel⟩, mw 10 23 rfl rfl, mw 10 24 rfl rfl, TX9, 3, tyX9, cl_X9⟩
theorem th_86_88_90 : THx RX10 "java/lang/IllegalArgumentException" "an argument is out of range" 86 88 90 := ⟨mw 5 10 rfl rfl, mw 5 11 rfl rfl, by decide +kernel, by decide +kernel, by decide +kernel, mwl 54 rfl, by decide +kernel, by decide +kernel⟩
theorem th_86_121_90 : THx RX10 "java/lang/IllegalArgumentException" "an argument is out of range, or this is no shape" 86 121 90 := ⟨mw 5 10 rfl rfl, mw 5 11 rfl rfl, by decide +kernel, by decide +kernel, by decide +kernel, mwl 54 rfl, by decide +kernel, by decide +kernel⟩
theorem th_86_177_90 : THx RX10 "java/lang/IllegalArgumentException" "what is not valid" 86 177 90 := ⟨mw 5 10 rfl rfl, mw 5 11 rfl rfl, by decide +kernel, by decide +kernel, by decide +kernel, mwl 54 rfl, by decide +kernel, by decide +kernel⟩
theorem th_86_261_90 : THx RX10 "java/lang/IllegalArgumentException" "there is no such way" 86 261 90 := ⟨mw 5 10 rfl rfl, mw 5 11 rfl rfl, by decide +kernel, by decide +kernel, by decide +kernel, mwl 54 rfl, by decide +kernel, by decide +kernel⟩
theorem th_86_349_90 : THx RX10 "java/lang/IllegalArgumentException" "there is no such turn" 86 349 90 := ⟨mw 5 10 rfl rfl, mw 5 11 rfl rfl, by decide +kernel, by decide +kernel, by decide +kernel, mwl 54 rfl, by decide +kernel, by decide +kernel⟩
theorem th_103_105_107 : THx RX10 "java/lang/IllegalStateException" "there are 6 sheets" 103 105 107 := ⟨mw 5 12 rfl rfl, mw 5 13 rfl rfl, by decide +kernel, by decide +kernel, by decide +kernel, mwl 55 rfl, by decide +kernel, by decide +kernel⟩
theorem th_103_126_107 : THx RX10 "java/lang/IllegalStateException" "there are 8 shapes" 103 126 107 := ⟨mw 5 12 rfl rfl, mw 5 13 rfl rfl, by decide +kernel, by decide +kernel, by decide +kernel, mwl 55 rfl, by decide +kernel, by decide +kernel⟩
theorem th_103_294_107 : THx RX10 "java/lang/IllegalStateException" "the input has 70 characters" 103 294 107 := ⟨mw 5 12 rfl rfl, mw 5 13 rfl rfl, by decide +kernel, by decide +kernel, by decide +kernel, mwl 55 rfl, by decide +kernel, by decide +kernel⟩
theorem th_103_313_107 : THx RX10 "java/lang/IllegalStateException" "there is no change that can be undone" 103 313 107 := ⟨mw 5 12 rfl rfl, mw 5 13 rfl rfl, by decide +kernel, by decide +kernel, by decide +kernel, mwl 55 rfl, by decide +kernel, by decide +kernel⟩
theorem th_103_321_107 : THx RX10 "java/lang/IllegalStateException" "there is no snapshot" 103 321 107 := ⟨mw 5 12 rfl rfl, mw 5 13 rfl rfl, by decide +kernel, by decide +kernel, by decide +kernel, mwl 55 rfl, by decide +kernel, by decide +kernel⟩
theorem th_140_142_144 : THx RX10 "java/lang/UnsupportedOperationException" "the cell is not free" 140 142 144 := ⟨mw 10 10 rfl rfl, mw 10 11 rfl rfl, by decide +kernel, by decide +kernel, by decide +kernel, mwl 56 rfl, by decide +kernel, by decide +kernel⟩
theorem th_140_198_144 : THx RX10 "java/lang/UnsupportedOperationException" "the shape cannot be placed" 140 198 144 := ⟨mw 10 10 rfl rfl, mw 10 11 rfl rfl, by decide +kernel, by decide +kernel, by decide +kernel, mwl 56 rfl, by decide +kernel, by decide +kernel⟩
theorem th_140_263_144 : THx RX10 "java/lang/UnsupportedOperationException" "the sheet has more than 9 parts" 140 263 144 := ⟨mw 10 10 rfl rfl, mw 10 11 rfl rfl, by decide +kernel, by decide +kernel, by decide +kernel, mwl 56 rfl, by decide +kernel, by decide +kernel⟩
theorem th_230_198_232 : THx RX10 "java/util/NoSuchElementException" "the shape cannot be placed" 230 198 232 := ⟨mw 24 30 rfl rfl, mw 24 31 rfl rfl, by decide +kernel, by decide +kernel, by decide +kernel, mwl 58 rfl, by decide +kernel, by decide +kernel⟩
theorem th_230_265_232 : THx RX10 "java/util/NoSuchElementException" "there is no such place in the order" 230 265 232 := ⟨mw 24 30 rfl rfl, mw 24 31 rfl rfl, by decide +kernel, by decide +kernel, by decide +kernel, mwl 58 rfl, by decide +kernel, by decide +kernel⟩
theorem th_230_327_232 : THx RX10 "java/util/NoSuchElementException" "nothing is kept of this level" 230 327 232 := ⟨mw 24 30 rfl rfl, mw 24 31 rfl rfl, by decide +kernel, by decide +kernel, by decide +kernel, mwl 58 rfl, by decide +kernel, by decide +kernel⟩
theorem th_336_338_340 : THx RX10 "java/lang/IndexOutOfBoundsException" "there is no such sheet" 336 338 340 := ⟨mw 10 16 rfl rfl, mw 10 17 rfl rfl, by decide +kernel, by decide +kernel, by decide +kernel, mwl 57 rfl, by decide +kernel, by decide +kernel⟩
theorem th_336_341_340 : THx RX10 "java/lang/IndexOutOfBoundsException" "there is no such cell" 336 341 340 := ⟨mw 10 16 rfl rfl, mw 10 17 rfl rfl, by decide +kernel, by decide +kernel, by decide +kernel, mwl 57 rfl, by decide +kernel, by decide +kernel⟩
theorem th_336_343_340 : THx RX10 "java/lang/IndexOutOfBoundsException" "there is no such shape" 336 343 340 := ⟨mw 10 16 rfl rfl, mw 10 17 rfl rfl, by decide +kernel, by decide +kernel, by decide +kernel, mwl 57 rfl, by decide +kernel, by decide +kernel⟩
theorem th_336_345_340 : THx RX10 "java/lang/IndexOutOfBoundsException" "there is no such part" 336 345 340 := ⟨mw 10 16 rfl rfl, mw 10 17 rfl rfl, by decide +kernel, by decide +kernel, by decide +kernel, mwl 57 rfl, by decide +kernel, by decide +kernel⟩
theorem th_336_347_340 : THx RX10 "java/lang/IndexOutOfBoundsException" "there is no such remnant" 336 347 340 := ⟨mw 10 16 rfl rfl, mw 10 17 rfl rfl, by decide +kernel, by decide +kernel, by decide +kernel, mwl 57 rfl, by decide +kernel, by decide +kernel⟩
section
variable {p : Program} {l : Launch} {e : Env} {s : State} {m : MethodId} {args : Array Value} {below : List Frame} {meth : Method} {c : Code} {Q : State → Prop} {g : Geo}
def I_X10_addSheet : List (Nat × Instr × Nat) := [(0, .iload_n 1, 1), (1, .invokestatic 78, 3), (4, .ifCond .eq 19, 3), (7, .iload_n 2, 1), (8, .invokestatic 78, 3), (11, .ifCond .eq 12, 3), (14, .iload_n 3, 1), (15, .iconst 0, 1), (16, .iconst 2, 1), (17, .invokestatic 82, 3), (20, .ifCond .ne 13, 3), (23, .new 86, 3), (26, .dup, 1), (27, .ldc 88, 2), (29, .invokespecial 90, 3), (32, .athrow, 1), (33, .aload_n 0, 1), (34, .getfield 12, 3), (37, .getfield 93, 3), (40, .invokevirtual 97, 3), (43, .ifCond .eq 13, 3), (46, .new 103, 3), (49, .dup, 1), (50, .ldc 105, 2), (52, .invokespecial 107, 3), (55, .athrow, 1), (56, .aload_n 0, 1), (57, .getfield 25, 3), (60, .aload_n 0, 1), (61, .getfield 12, 3), (64, .invokevirtual 108, 3), (67, .aload_n 0, 1), (68, .getfield 12, 3), (71, .iload_n 1, 1), (72, .iload_n 2, 1), (73, .iload_n 3, 1), (74, .iconst (-1), 1), (75, .invokevirtual 112, 3), (78, .ireturn, 1)]
set_option maxRecDepth 100000 in
theorem T_X10_addSheet : ∀ q ∈ I_X10_addSheet, decode cX10_addSheet q.1 = .ok (q.2.1, q.2.2) := by decide +kernel
def f_X10_addSheet_j23 (σ : St) : Option ((String × St) ⊕ (Int32 × St)) :=
  some (.inl ("java/lang/IllegalArgumentException", σ))
set_option maxHeartbeats 4000000 in
set_option maxRecDepth 100000 in
theorem w_X10_addSheet_j23 (X : Cx g RX10 cX10_addSheet 4 (some .int) p s m args meth c) (TX : TXs g (GA g s.heap.size) s s.heap) (hst : l.stackTraces = false) (σ : St) {w : (String × St) ⊕ (Int32 × St)} (KR : ∀ (v : Int32) (τ : St) (H : Heap) (locs : List Loc) (ls : Array Slot) (pc k n : Nat), w = .inr (v, τ) → k ≤ 1 → n ≤ 6 → Wd g s τ H locs → decode cX10_addSheet pc = .ok (.ireturn, 1) → W p l e (rmT 6 104 1 6) s m args below meth c H locs k n Q (F0 m pc ls [.int v])) (KT : ∀ (E text : String) (ik is ic : Nat) (τ : St) (H : Heap) (locs : List Loc) (ls : Array Slot) (pc : Nat) (rest : List Value) (k n : Nat), THx RX10 E text ik is ic → w = .inl (E, τ) → Wd g s τ H locs → ls.size = 4 → (rest.map fun v => v.category).sum ≤ 8 → (decode cX10_addSheet pc = .ok (.new ik, 3) ∧ decode cX10_addSheet (pc + 3) = .ok (.dup, 1) ∧ ((decode cX10_addSheet (pc + 4) = .ok (.ldc is, 2) ∧ decode cX10_addSheet (pc + 6) = .ok (.invokespecial ic, 3) ∧ decode cX10_addSheet (pc + 9) = .ok (.athrow, 1)) ∨ (decode cX10_addSheet (pc + 4) = .ok (.ldc_w is, 3) ∧ decode cX10_addSheet (pc + 7) = .ok (.invokespecial ic, 3) ∧ decode cX10_addSheet (pc + 10) = .ok (.athrow, 1)))) → k + 1 ≤ 1 → n + 6 ≤ 6 → W p l e (rmT 6 104 1 6) s m args below meth c H locs k n Q (F0 m pc ls rest)) (KO : ∀ (E : String) (τ : St) (ce : Cell) (q9 : Addr) (H : Heap) (locs : List Loc) (ls : Array Slot) (pc : Nat) (rest : List Value) (k n : Nat), w = .inl (E, τ) → Wd g s τ H locs → H[q9]? = some ce → ce.vm = .none → s.vm.findClass E = some ce.cls → k ≤ 1 → n ≤ 6 → vx_W p l e (rmT 6 104 1 6) s m args below meth c H locs k n Q (F0 m pc ls rest) q9) {H : Heap} {locs : List Loc} {ls : Array Slot} (Y : Wd g s σ H locs) (hl : lv_has ls 4 []) (h : f_X10_addSheet_j23 σ = some w) : W p l e (rmT 6 104 1 6) s m args below meth c H locs 0 0 Q (F0 m 23 ls []) := by
  unfold f_X10_addSheet_j23 at h
  exact KT "java/lang/IllegalArgumentException" "an argument is out of range" 86 88 90 _ _ _ _ _ _ _ _ th_86_88_90 (Option.some.inj h).symm Y hl.1 (Nat.le_of_ble_eq_true rfl) ⟨(dk T_X10_addSheet 11 rfl), (dk T_X10_addSheet 12 rfl), Or.inl ⟨(dk T_X10_addSheet 13 rfl), (dk T_X10_addSheet 14 rfl), (dk T_X10_addSheet 15 rfl)⟩⟩ (Nat.le_of_ble_eq_true rfl) (Nat.le_of_ble_eq_true rfl)
def f_X10_addSheet_0 (x1 : Int32) (x2 : Int32) (x3 : Int32) (σ : St) : Option ((String × St) ⊕ (Int32 × St)) :=
  (f_X10_isSheetSide x1).bind fun q1 => if q1 = 0 then f_X10_addSheet_j23 σ else (f_X10_isSheetSide x2).bind fun q3 => if q3 = 0 then f_X10_addSheet_j23 σ else (f_X10_isWithin x3 0 2).bind fun q5 => if q5 = 0 then f_X10_addSheet_j23 σ else (f_X9_isFull 2 σ).bind fun q7 => if q7 = 0 then (f_X2_push 1 σ).bind fun q9 => (f_X8_createSheet 1 x1 x2 x3 (-1) q9).bind fun q10 => some (.inr (q10.1, q10.2)) else some (.inl ("java/lang/IllegalStateException", σ))
set_option maxHeartbeats 4000000 in
set_option maxRecDepth 100000 in
theorem w_X10_addSheet_0 (X : Cx g RX10 cX10_addSheet 4 (some .int) p s m args meth c) (TX : TXs g (GA g s.heap.size) s s.heap) (hst : l.stackTraces = false) (x1 : Int32) (x2 : Int32) (x3 : Int32) (σ : St) {w : (String × St) ⊕ (Int32 × St)} (KR : ∀ (v : Int32) (τ : St) (H : Heap) (locs : List Loc) (ls : Array Slot) (pc k n : Nat), w = .inr (v, τ) → k ≤ 1 → n ≤ 6 → Wd g s τ H locs → decode cX10_addSheet pc = .ok (.ireturn, 1) → W p l e (rmT 6 104 1 6) s m args below meth c H locs k n Q (F0 m pc ls [.int v])) (KT : ∀ (E text : String) (ik is ic : Nat) (τ : St) (H : Heap) (locs : List Loc) (ls : Array Slot) (pc : Nat) (rest : List Value) (k n : Nat), THx RX10 E text ik is ic → w = .inl (E, τ) → Wd g s τ H locs → ls.size = 4 → (rest.map fun v => v.category).sum ≤ 8 → (decode cX10_addSheet pc = .ok (.new ik, 3) ∧ decode cX10_addSheet (pc + 3) = .ok (.dup, 1) ∧ ((decode cX10_addSheet (pc + 4) = .ok (.ldc is, 2) ∧ decode cX10_addSheet (pc + 6) = .ok (.invokespecial ic, 3) ∧ decode cX10_addSheet (pc + 9) = .ok (.athrow, 1)) ∨ (decode cX10_addSheet (pc + 4) = .ok (.ldc_w is, 3) ∧ decode cX10_addSheet (pc + 7) = .ok (.invokespecial ic, 3) ∧ decode cX10_addSheet (pc + 10) = .ok (.athrow, 1)))) → k + 1 ≤ 1 → n + 6 ≤ 6 → W p l e (rmT 6 104 1 6) s m args below meth c H locs k n Q (F0 m pc ls rest)) (KO : ∀ (E : String) (τ : St) (ce : Cell) (q9 : Addr) (H : Heap) (locs : List Loc) (ls : Array Slot) (pc : Nat) (rest : List Value) (k n : Nat), w = .inl (E, τ) → Wd g s τ H locs → H[q9]? = some ce → ce.vm = .none → s.vm.findClass E = some ce.cls → k ≤ 1 → n ≤ 6 → vx_W p l e (rmT 6 104 1 6) s m args below meth c H locs k n Q (F0 m pc ls rest) q9) {H : Heap} {locs : List Loc} {ls : Array Slot} (Y : Wd g s σ H locs) (hl : lv_has ls 4 [(0, .ref (g.2.2 (0))), (1, .int (x1)), (2, .int (x2)), (3, .int (x3))]) (h : f_X10_addSheet_0 x1 x2 x3 σ = some w) : W p l e (rmT 6 104 1 6) s m args below meth c H locs 0 0 Q (F0 m 0 ls []) := by
  unfold f_X10_addSheet_0 at h
  refine lv_iload_n X.1 X.2.1 (dk T_X10_addSheet 0 rfl) rfl (lv_at hl 1 rfl) ?_
  obtain ⟨q1, hq1, h⟩ := bs h
  refine gsIx (rest := []) X Y (c_X10_isSheetSide x1 σ hq1) cb_X10_78 hl.1 rfl rfl (Nat.le_of_ble_eq_true rfl) ⟨Nat.le_of_ble_eq_true rfl, Nat.le_of_ble_eq_true rfl⟩ ⟨Nat.le_of_ble_eq_true rfl, Nat.le_of_ble_eq_true rfl⟩ (dk T_X10_addSheet 1 rfl) (fun H locs Y => ?_)
  refine lv_if_eq (tgt := 23) X.1 X.2.1 (dk T_X10_addSheet 2 rfl) rfl (fun c2 => ?_) (fun c2 => ?_)
  · replace h := ipos c2 h
    exact w_X10_addSheet_j23 X TX hst σ KR KT KO Y (lv_sub hl [] rfl) h
  · replace h := ineg c2 h
    refine lv_iload_n X.1 X.2.1 (dk T_X10_addSheet 3 rfl) rfl (lv_at hl 2 rfl) ?_
    obtain ⟨q3, hq3, h⟩ := bs h
    refine gsIx (rest := []) X Y (c_X10_isSheetSide x2 σ hq3) cb_X10_78 hl.1 rfl rfl (Nat.le_of_ble_eq_true rfl) ⟨Nat.le_of_ble_eq_true rfl, Nat.le_of_ble_eq_true rfl⟩ ⟨Nat.le_of_ble_eq_true rfl, Nat.le_of_ble_eq_true rfl⟩ (dk T_X10_addSheet 4 rfl) (fun H locs Y => ?_)
    refine lv_if_eq (tgt := 23) X.1 X.2.1 (dk T_X10_addSheet 5 rfl) rfl (fun c4 => ?_) (fun c4 => ?_)
    · replace h := ipos c4 h
      exact w_X10_addSheet_j23 X TX hst σ KR KT KO Y (lv_sub hl [] rfl) h
    · replace h := ineg c4 h
      refine lv_iload_n X.1 X.2.1 (dk T_X10_addSheet 6 rfl) rfl (lv_at hl 3 rfl) ?_
      refine lv_iconst (v := 0) X.1 X.2.1 (dk T_X10_addSheet 7 rfl) ic_0 ?_
      refine lv_iconst (v := 2) X.1 X.2.1 (dk T_X10_addSheet 8 rfl) ic_2 ?_
      obtain ⟨q5, hq5, h⟩ := bs h
      refine gsIx (rest := []) X Y (c_X10_isWithin x3 0 2 σ hq5) cb_X10_82 hl.1 rfl rfl (Nat.le_of_ble_eq_true rfl) ⟨Nat.le_of_ble_eq_true rfl, Nat.le_of_ble_eq_true rfl⟩ ⟨Nat.le_of_ble_eq_true rfl, Nat.le_of_ble_eq_true rfl⟩ (dk T_X10_addSheet 9 rfl) (fun H locs Y => ?_)
      refine lv_if_ne (tgt := 33) X.1 X.2.1 (dk T_X10_addSheet 10 rfl) rfl (fun c6 => ?_) (fun c6 => ?_)
      · replace h := ineg c6 h
        refine lv_aload_n X.1 X.2.1 (dk T_X10_addSheet 16 rfl) rfl (lv_at hl 0 rfl) ?_
        refine gg X Y fl_X10_12 rfl rfl (dk T_X10_addSheet 17 rfl) ?_
        refine ggN X Y fl_X10_93 rfl rfl (dk T_X10_addSheet 18 rfl) ?_
        obtain ⟨q7, hq7, h⟩ := bs h
        refine gvIx (rest := []) X Y (c_X9_isFull 2 rfl σ hq7) cb_X10_97 rfl hl.1 rfl rfl (Nat.le_of_ble_eq_true rfl) ⟨Nat.le_of_ble_eq_true rfl, Nat.le_of_ble_eq_true rfl⟩ ⟨Nat.le_of_ble_eq_true rfl, Nat.le_of_ble_eq_true rfl⟩ (dk T_X10_addSheet 19 rfl) (fun H locs Y => ?_)
        refine lv_if_eq (tgt := 56) X.1 X.2.1 (dk T_X10_addSheet 20 rfl) rfl (fun c8 => ?_) (fun c8 => ?_)
        · replace h := ipos c8 h
          refine lv_aload_n X.1 X.2.1 (dk T_X10_addSheet 26 rfl) rfl (lv_at hl 0 rfl) ?_
          refine gg X Y fl_X10_25 rfl rfl (dk T_X10_addSheet 27 rfl) ?_
          refine lv_aload_n X.1 X.2.1 (dk T_X10_addSheet 28 rfl) rfl (lv_at hl 0 rfl) ?_
          refine gg X Y fl_X10_12 rfl rfl (dk T_X10_addSheet 29 rfl) ?_
          obtain ⟨q9, hq9, h⟩ := bs h
          refine gvVx (rest := []) X Y (c_X2_push 1 rfl σ hq9) cb_X10_108 rfl hl.1 rfl rfl (Nat.le_of_ble_eq_true rfl) ⟨Nat.le_of_ble_eq_true rfl, Nat.le_of_ble_eq_true rfl⟩ ⟨Nat.le_of_ble_eq_true rfl, Nat.le_of_ble_eq_true rfl⟩ (dk T_X10_addSheet 30 rfl) (fun H locs Y => ?_)
          refine lv_aload_n X.1 X.2.1 (dk T_X10_addSheet 31 rfl) rfl (lv_at hl 0 rfl) ?_
          refine gg X Y fl_X10_12 rfl rfl (dk T_X10_addSheet 32 rfl) ?_
          refine lv_iload_n X.1 X.2.1 (dk T_X10_addSheet 33 rfl) rfl (lv_at hl 1 rfl) ?_
          refine lv_iload_n X.1 X.2.1 (dk T_X10_addSheet 34 rfl) rfl (lv_at hl 2 rfl) ?_
          refine lv_iload_n X.1 X.2.1 (dk T_X10_addSheet 35 rfl) rfl (lv_at hl 3 rfl) ?_
          refine lv_iconst (v := (-1)) X.1 X.2.1 (dk T_X10_addSheet 36 rfl) ic_m1 ?_
          obtain ⟨q10, hq10, h⟩ := bs h
          refine gvIx (rest := []) X Y (c_X8_createSheet 1 rfl x1 x2 x3 (-1) q9 hq10) cb_X10_112 rfl hl.1 rfl rfl (Nat.le_of_ble_eq_true rfl) ⟨Nat.le_of_ble_eq_true rfl, Nat.le_of_ble_eq_true rfl⟩ ⟨Nat.le_of_ble_eq_true rfl, Nat.le_of_ble_eq_true rfl⟩ (dk T_X10_addSheet 37 rfl) (fun H locs Y => ?_)
          exact KR q10.1 q10.2 _ _ _ _ _ _ (Option.some.inj h).symm (Nat.le_of_ble_eq_true rfl) (Nat.le_of_ble_eq_true rfl) Y (dk T_X10_addSheet 38 rfl)
        · replace h := ineg c8 h
          exact KT "java/lang/IllegalStateException" "there are 6 sheets" 103 105 107 _ _ _ _ _ _ _ _ th_103_105_107 (Option.some.inj h).symm Y hl.1 (Nat.le_of_ble_eq_true rfl) ⟨(dk T_X10_addSheet 21 rfl), (dk T_X10_addSheet 22 rfl), Or.inl ⟨(dk T_X10_addSheet 23 rfl), (dk T_X10_addSheet 24 rfl), (dk T_X10_addSheet 25 rfl)⟩⟩ (Nat.le_of_ble_eq_true rfl) (Nat.le_of_ble_eq_true rfl)
      · replace h := ipos c6 h
        exact w_X10_addSheet_j23 X TX hst σ KR KT KO Y (lv_sub hl [] rfl) h
def f_X10_addSheet (x1 : Int32) (x2 : Int32) (x3 : Int32) (σ : St) : Option ((String × St) ⊕ (Int32 × St)) := f_X10_addSheet_0 x1 x2 x3 σ
set_option maxHeartbeats 4000000 in
set_option maxRecDepth 100000 in
theorem c_X10_addSheet {l : Launch} {g : Geo} (x1 : Int32) (x2 : Int32) (x3 : Int32) (σ : St) {w : (String × St) ⊕ (Int32 × St)} (h : f_X10_addSheet x1 x2 x3 σ = some w) : CtT l yX10_addSheet cX10_addSheet 4 (some .int) 6 104 1 6 g [.ref (g.2.2 (0)), .int (x1), .int (x2), .int (x3)] σ w := enT .int (by decide) rfl (fun _ _ _ => rfl) (Nat.le_of_ble_eq_true rfl) ⟨Nat.le_of_ble_eq_true rfl, Nat.le_of_ble_eq_true rfl⟩ (fun p e s m args below meth c Q X TX hst Y ls hl KR KT KO => w_X10_addSheet_0 X TX hst x1 x2 x3 σ KR KT KO Y hl h)
def I_X10_addShape : List (Nat × Instr × Nat) := [(0, .iload 4, 2), (2, .iconst 0, 1), (3, .iconst 2, 1), (4, .invokestatic 82, 3), (7, .ifCond .eq 23, 3), (10, .iload 5, 2), (12, .iconst 0, 1), (13, .bipush 99, 2), (15, .invokestatic 82, 3), (18, .ifCond .eq 12, 3), (21, .iload_n 1, 1), (22, .iload_n 2, 1), (23, .iload_n 3, 1), (24, .invokestatic 116, 3), (27, .ifCond .ne 13, 3), (30, .new 86, 3), (33, .dup, 1), (34, .ldc 121, 2), (36, .invokespecial 90, 3), (39, .athrow, 1), (40, .aload_n 0, 1), (41, .getfield 12, 3), (44, .getfield 123, 3), (47, .invokevirtual 97, 3), (50, .ifCond .eq 13, 3), (53, .new 103, 3), (56, .dup, 1), (57, .ldc 126, 2), (59, .invokespecial 107, 3), (62, .athrow, 1), (63, .aload_n 0, 1), (64, .getfield 25, 3), (67, .aload_n 0, 1), (68, .getfield 12, 3), (71, .invokevirtual 108, 3), (74, .aload_n 0, 1), (75, .getfield 12, 3), (78, .iload_n 1, 1), (79, .iload_n 2, 1), (80, .iload_n 3, 1), (81, .iload 4, 2), (83, .iload 5, 2), (85, .invokevirtual 128, 3), (88, .ireturn, 1)]
set_option maxRecDepth 100000 in
theorem T_X10_addShape : ∀ q ∈ I_X10_addShape, decode cX10_addShape q.1 = .ok (q.2.1, q.2.2) := by decide +kernel
def f_X10_addShape_j30 (σ : St) : Option ((String × St) ⊕ (Int32 × St)) :=
  some (.inl ("java/lang/IllegalArgumentException", σ))
set_option maxHeartbeats 4000000 in
set_option maxRecDepth 100000 in
theorem w_X10_addShape_j30 (X : Cx g RX10 cX10_addShape 6 (some .int) p s m args meth c) (TX : TXs g (GA g s.heap.size) s s.heap) (hst : l.stackTraces = false) (σ : St) {w : (String × St) ⊕ (Int32 × St)} (KR : ∀ (v : Int32) (τ : St) (H : Heap) (locs : List Loc) (ls : Array Slot) (pc k n : Nat), w = .inr (v, τ) → k ≤ 1 → n ≤ 6 → Wd g s τ H locs → decode cX10_addShape pc = .ok (.ireturn, 1) → W p l e (rmT 6 104 1 6) s m args below meth c H locs k n Q (F0 m pc ls [.int v])) (KT : ∀ (E text : String) (ik is ic : Nat) (τ : St) (H : Heap) (locs : List Loc) (ls : Array Slot) (pc : Nat) (rest : List Value) (k n : Nat), THx RX10 E text ik is ic → w = .inl (E, τ) → Wd g s τ H locs → ls.size = 6 → (rest.map fun v => v.category).sum ≤ 8 → (decode cX10_addShape pc = .ok (.new ik, 3) ∧ decode cX10_addShape (pc + 3) = .ok (.dup, 1) ∧ ((decode cX10_addShape (pc + 4) = .ok (.ldc is, 2) ∧ decode cX10_addShape (pc + 6) = .ok (.invokespecial ic, 3) ∧ decode cX10_addShape (pc + 9) = .ok (.athrow, 1)) ∨ (decode cX10_addShape (pc + 4) = .ok (.ldc_w is, 3) ∧ decode cX10_addShape (pc + 7) = .ok (.invokespecial ic, 3) ∧ decode cX10_addShape (pc + 10) = .ok (.athrow, 1)))) → k + 1 ≤ 1 → n + 6 ≤ 6 → W p l e (rmT 6 104 1 6) s m args below meth c H locs k n Q (F0 m pc ls rest)) (KO : ∀ (E : String) (τ : St) (ce : Cell) (q9 : Addr) (H : Heap) (locs : List Loc) (ls : Array Slot) (pc : Nat) (rest : List Value) (k n : Nat), w = .inl (E, τ) → Wd g s τ H locs → H[q9]? = some ce → ce.vm = .none → s.vm.findClass E = some ce.cls → k ≤ 1 → n ≤ 6 → vx_W p l e (rmT 6 104 1 6) s m args below meth c H locs k n Q (F0 m pc ls rest) q9) {H : Heap} {locs : List Loc} {ls : Array Slot} (Y : Wd g s σ H locs) (hl : lv_has ls 6 []) (h : f_X10_addShape_j30 σ = some w) : W p l e (rmT 6 104 1 6) s m args below meth c H locs 0 0 Q (F0 m 30 ls []) := by
  unfold f_X10_addShape_j30 at h
  exact KT "java/lang/IllegalArgumentException" "an argument is out of range, or this is no shape" 86 121 90 _ _ _ _ _ _ _ _ th_86_121_90 (Option.some.inj h).symm Y hl.1 (Nat.le_of_ble_eq_true rfl) ⟨(dk T_X10_addShape 15 rfl), (dk T_X10_addShape 16 rfl), Or.inl ⟨(dk T_X10_addShape 17 rfl), (dk T_X10_addShape 18 rfl), (dk T_X10_addShape 19 rfl)⟩⟩ (Nat.le_of_ble_eq_true rfl) (Nat.le_of_ble_eq_true rfl)
def f_X10_addShape_0 (x1 : Int32) (x2 : Int32) (x3 : Int32) (x4 : Int32) (x5 : Int32) (σ : St) : Option ((String × St) ⊕ (Int32 × St)) :=
  (f_X10_isWithin x4 0 2).bind fun q1 => if q1 = 0 then f_X10_addShape_j30 σ else (f_X10_isWithin x5 0 99).bind fun q3 => if q3 = 0 then f_X10_addShape_j30 σ else (f_X3_isShape x1 x2 x3).bind fun q5 => if q5 = 0 then f_X10_addShape_j30 σ else (f_X9_isFull 4 σ).bind fun q7 => if q7 = 0 then (f_X2_push 1 σ).bind fun q9 => (f_X8_createShape 1 x1 x2 x3 x4 x5 q9).bind fun q10 => some (.inr (q10.1, q10.2)) else some (.inl ("java/lang/IllegalStateException", σ))
set_option maxHeartbeats 4000000 in
set_option maxRecDepth 100000 in
theorem w_X10_addShape_0 (X : Cx g RX10 cX10_addShape 6 (some .int) p s m args meth c) (TX : TXs g (GA g s.heap.size) s s.heap) (hst : l.stackTraces = false) (x1 : Int32) (x2 : Int32) (x3 : Int32) (x4 : Int32) (x5 : Int32) (σ : St) {w : (String × St) ⊕ (Int32 × St)} (KR : ∀ (v : Int32) (τ : St) (H : Heap) (locs : List Loc) (ls : Array Slot) (pc k n : Nat), w = .inr (v, τ) → k ≤ 1 → n ≤ 6 → Wd g s τ H locs → decode cX10_addShape pc = .ok (.ireturn, 1) → W p l e (rmT 6 104 1 6) s m args below meth c H locs k n Q (F0 m pc ls [.int v])) (KT : ∀ (E text : String) (ik is ic : Nat) (τ : St) (H : Heap) (locs : List Loc) (ls : Array Slot) (pc : Nat) (rest : List Value) (k n : Nat), THx RX10 E text ik is ic → w = .inl (E, τ) → Wd g s τ H locs → ls.size = 6 → (rest.map fun v => v.category).sum ≤ 8 → (decode cX10_addShape pc = .ok (.new ik, 3) ∧ decode cX10_addShape (pc + 3) = .ok (.dup, 1) ∧ ((decode cX10_addShape (pc + 4) = .ok (.ldc is, 2) ∧ decode cX10_addShape (pc + 6) = .ok (.invokespecial ic, 3) ∧ decode cX10_addShape (pc + 9) = .ok (.athrow, 1)) ∨ (decode cX10_addShape (pc + 4) = .ok (.ldc_w is, 3) ∧ decode cX10_addShape (pc + 7) = .ok (.invokespecial ic, 3) ∧ decode cX10_addShape (pc + 10) = .ok (.athrow, 1)))) → k + 1 ≤ 1 → n + 6 ≤ 6 → W p l e (rmT 6 104 1 6) s m args below meth c H locs k n Q (F0 m pc ls rest)) (KO : ∀ (E : String) (τ : St) (ce : Cell) (q9 : Addr) (H : Heap) (locs : List Loc) (ls : Array Slot) (pc : Nat) (rest : List Value) (k n : Nat), w = .inl (E, τ) → Wd g s τ H locs → H[q9]? = some ce → ce.vm = .none → s.vm.findClass E = some ce.cls → k ≤ 1 → n ≤ 6 → vx_W p l e (rmT 6 104 1 6) s m args below meth c H locs k n Q (F0 m pc ls rest) q9) {H : Heap} {locs : List Loc} {ls : Array Slot} (Y : Wd g s σ H locs) (hl : lv_has ls 6 [(0, .ref (g.2.2 (0))), (1, .int (x1)), (2, .int (x2)), (3, .int (x3)), (4, .int (x4)), (5, .int (x5))]) (h : f_X10_addShape_0 x1 x2 x3 x4 x5 σ = some w) : W p l e (rmT 6 104 1 6) s m args below meth c H locs 0 0 Q (F0 m 0 ls []) := by
  unfold f_X10_addShape_0 at h
  refine lv_iload X.1 X.2.1 (dk T_X10_addShape 0 rfl) (lv_at hl 4 rfl) ?_
  refine lv_iconst (v := 0) X.1 X.2.1 (dk T_X10_addShape 1 rfl) ic_0 ?_
  refine lv_iconst (v := 2) X.1 X.2.1 (dk T_X10_addShape 2 rfl) ic_2 ?_
  obtain ⟨q1, hq1, h⟩ := bs h
  refine gsIx (rest := []) X Y (c_X10_isWithin x4 0 2 σ hq1) cb_X10_82 hl.1 rfl rfl (Nat.le_of_ble_eq_true rfl) ⟨Nat.le_of_ble_eq_true rfl, Nat.le_of_ble_eq_true rfl⟩ ⟨Nat.le_of_ble_eq_true rfl, Nat.le_of_ble_eq_true rfl⟩ (dk T_X10_addShape 3 rfl) (fun H locs Y => ?_)
  refine lv_if_eq (tgt := 30) X.1 X.2.1 (dk T_X10_addShape 4 rfl) rfl (fun c2 => ?_) (fun c2 => ?_)
  · replace h := ipos c2 h
    exact w_X10_addShape_j30 X TX hst σ KR KT KO Y (lv_sub hl [] rfl) h
  · replace h := ineg c2 h
    refine lv_iload X.1 X.2.1 (dk T_X10_addShape 5 rfl) (lv_at hl 5 rfl) ?_
    refine lv_iconst (v := 0) X.1 X.2.1 (dk T_X10_addShape 6 rfl) ic_0 ?_
    refine lv_bipush (v := 99) X.1 X.2.1 (dk T_X10_addShape 7 rfl) bp_99 ?_
    obtain ⟨q3, hq3, h⟩ := bs h
    refine gsIx (rest := []) X Y (c_X10_isWithin x5 0 99 σ hq3) cb_X10_82 hl.1 rfl rfl (Nat.le_of_ble_eq_true rfl) ⟨Nat.le_of_ble_eq_true rfl, Nat.le_of_ble_eq_true rfl⟩ ⟨Nat.le_of_ble_eq_true rfl, Nat.le_of_ble_eq_true rfl⟩ (dk T_X10_addShape 8 rfl) (fun H locs Y => ?_)
    refine lv_if_eq (tgt := 30) X.1 X.2.1 (dk T_X10_addShape 9 rfl) rfl (fun c4 => ?_) (fun c4 => ?_)
    · replace h := ipos c4 h
      exact w_X10_addShape_j30 X TX hst σ KR KT KO Y (lv_sub hl [] rfl) h
    · replace h := ineg c4 h
      refine lv_iload_n X.1 X.2.1 (dk T_X10_addShape 10 rfl) rfl (lv_at hl 1 rfl) ?_
      refine lv_iload_n X.1 X.2.1 (dk T_X10_addShape 11 rfl) rfl (lv_at hl 2 rfl) ?_
      refine lv_iload_n X.1 X.2.1 (dk T_X10_addShape 12 rfl) rfl (lv_at hl 3 rfl) ?_
      obtain ⟨q5, hq5, h⟩ := bs h
      refine gsIx (rest := []) X Y (c_X3_isShape x1 x2 x3 σ hq5) cb_X10_116 hl.1 rfl rfl (Nat.le_of_ble_eq_true rfl) ⟨Nat.le_of_ble_eq_true rfl, Nat.le_of_ble_eq_true rfl⟩ ⟨Nat.le_of_ble_eq_true rfl, Nat.le_of_ble_eq_true rfl⟩ (dk T_X10_addShape 13 rfl) (fun H locs Y => ?_)
      refine lv_if_ne (tgt := 40) X.1 X.2.1 (dk T_X10_addShape 14 rfl) rfl (fun c6 => ?_) (fun c6 => ?_)
      · replace h := ineg c6 h
        refine lv_aload_n X.1 X.2.1 (dk T_X10_addShape 20 rfl) rfl (lv_at hl 0 rfl) ?_
        refine gg X Y fl_X10_12 rfl rfl (dk T_X10_addShape 21 rfl) ?_
        refine ggN X Y fl_X10_123 rfl rfl (dk T_X10_addShape 22 rfl) ?_
        obtain ⟨q7, hq7, h⟩ := bs h
        refine gvIx (rest := []) X Y (c_X9_isFull 4 rfl σ hq7) cb_X10_97 rfl hl.1 rfl rfl (Nat.le_of_ble_eq_true rfl) ⟨Nat.le_of_ble_eq_true rfl, Nat.le_of_ble_eq_true rfl⟩ ⟨Nat.le_of_ble_eq_true rfl, Nat.le_of_ble_eq_true rfl⟩ (dk T_X10_addShape 23 rfl) (fun H locs Y => ?_)
        refine lv_if_eq (tgt := 63) X.1 X.2.1 (dk T_X10_addShape 24 rfl) rfl (fun c8 => ?_) (fun c8 => ?_)
        · replace h := ipos c8 h
          refine lv_aload_n X.1 X.2.1 (dk T_X10_addShape 30 rfl) rfl (lv_at hl 0 rfl) ?_
          refine gg X Y fl_X10_25 rfl rfl (dk T_X10_addShape 31 rfl) ?_
          refine lv_aload_n X.1 X.2.1 (dk T_X10_addShape 32 rfl) rfl (lv_at hl 0 rfl) ?_
          refine gg X Y fl_X10_12 rfl rfl (dk T_X10_addShape 33 rfl) ?_
          obtain ⟨q9, hq9, h⟩ := bs h
          refine gvVx (rest := []) X Y (c_X2_push 1 rfl σ hq9) cb_X10_108 rfl hl.1 rfl rfl (Nat.le_of_ble_eq_true rfl) ⟨Nat.le_of_ble_eq_true rfl, Nat.le_of_ble_eq_true rfl⟩ ⟨Nat.le_of_ble_eq_true rfl, Nat.le_of_ble_eq_true rfl⟩ (dk T_X10_addShape 34 rfl) (fun H locs Y => ?_)
          refine lv_aload_n X.1 X.2.1 (dk T_X10_addShape 35 rfl) rfl (lv_at hl 0 rfl) ?_
          refine gg X Y fl_X10_12 rfl rfl (dk T_X10_addShape 36 rfl) ?_
          refine lv_iload_n X.1 X.2.1 (dk T_X10_addShape 37 rfl) rfl (lv_at hl 1 rfl) ?_
          refine lv_iload_n X.1 X.2.1 (dk T_X10_addShape 38 rfl) rfl (lv_at hl 2 rfl) ?_
          refine lv_iload_n X.1 X.2.1 (dk T_X10_addShape 39 rfl) rfl (lv_at hl 3 rfl) ?_
          refine lv_iload X.1 X.2.1 (dk T_X10_addShape 40 rfl) (lv_at hl 4 rfl) ?_
          refine lv_iload X.1 X.2.1 (dk T_X10_addShape 41 rfl) (lv_at hl 5 rfl) ?_
          obtain ⟨q10, hq10, h⟩ := bs h
          refine gvIx (rest := []) X Y (c_X8_createShape 1 rfl x1 x2 x3 x4 x5 q9 hq10) cb_X10_128 rfl hl.1 rfl rfl (Nat.le_of_ble_eq_true rfl) ⟨Nat.le_of_ble_eq_true rfl, Nat.le_of_ble_eq_true rfl⟩ ⟨Nat.le_of_ble_eq_true rfl, Nat.le_of_ble_eq_true rfl⟩ (dk T_X10_addShape 42 rfl) (fun H locs Y => ?_)
          exact KR q10.1 q10.2 _ _ _ _ _ _ (Option.some.inj h).symm (Nat.le_of_ble_eq_true rfl) (Nat.le_of_ble_eq_true rfl) Y (dk T_X10_addShape 43 rfl)
        · replace h := ineg c8 h
          exact KT "java/lang/IllegalStateException" "there are 8 shapes" 103 126 107 _ _ _ _ _ _ _ _ th_103_126_107 (Option.some.inj h).symm Y hl.1 (Nat.le_of_ble_eq_true rfl) ⟨(dk T_X10_addShape 25 rfl), (dk T_X10_addShape 26 rfl), Or.inl ⟨(dk T_X10_addShape 27 rfl), (dk T_X10_addShape 28 rfl), (dk T_X10_addShape 29 rfl)⟩⟩ (Nat.le_of_ble_eq_true rfl) (Nat.le_of_ble_eq_true rfl)
      · replace h := ipos c6 h
        exact w_X10_addShape_j30 X TX hst σ KR KT KO Y (lv_sub hl [] rfl) h
def f_X10_addShape (x1 : Int32) (x2 : Int32) (x3 : Int32) (x4 : Int32) (x5 : Int32) (σ : St) : Option ((String × St) ⊕ (Int32 × St)) := f_X10_addShape_0 x1 x2 x3 x4 x5 σ
set_option maxHeartbeats 4000000 in
set_option maxRecDepth 100000 in
theorem c_X10_addShape {l : Launch} {g : Geo} (x1 : Int32) (x2 : Int32) (x3 : Int32) (x4 : Int32) (x5 : Int32) (σ : St) {w : (String × St) ⊕ (Int32 × St)} (h : f_X10_addShape x1 x2 x3 x4 x5 σ = some w) : CtT l yX10_addShape cX10_addShape 6 (some .int) 6 104 1 6 g [.ref (g.2.2 (0)), .int (x1), .int (x2), .int (x3), .int (x4), .int (x5)] σ w := enT .int (by decide) rfl (fun _ _ _ => rfl) (Nat.le_of_ble_eq_true rfl) ⟨Nat.le_of_ble_eq_true rfl, Nat.le_of_ble_eq_true rfl⟩ (fun p e s m args below meth c Q X TX hst Y ls hl KR KT KO => w_X10_addShape_0 X TX hst x1 x2 x3 x4 x5 σ KR KT KO Y hl h)
def I_X10_checkSheet : List (Nat × Instr × Nat) := [(0, .aload_n 0, 1), (1, .getfield 12, 3), (4, .getfield 93, 3), (7, .iload_n 1, 1), (8, .invokevirtual 335, 3), (11, .ifCond .ne 14, 3), (14, .new 336, 3), (17, .dup, 1), (18, .ldc_w 338, 3), (21, .invokespecial 340, 3), (24, .athrow, 1), (25, .return_, 1)]
set_option maxRecDepth 100000 in
theorem T_X10_checkSheet : ∀ q ∈ I_X10_checkSheet, decode cX10_checkSheet q.1 = .ok (q.2.1, q.2.2) := by decide +kernel
def f_X10_checkSheet_0 (x1 : Int32) (σ : St) : Option ((String × St) ⊕ St) :=
  (f_X9_has 2 x1 σ).bind fun q1 => if q1 = 0 then some (.inl ("java/lang/IndexOutOfBoundsException", σ)) else some (.inr σ)
set_option maxHeartbeats 4000000 in
set_option maxRecDepth 100000 in
theorem w_X10_checkSheet_0 (X : Cx g RX10 cX10_checkSheet 2 none p s m args meth c) (TX : TXs g (GA g s.heap.size) s s.heap) (hst : l.stackTraces = false) (x1 : Int32) (σ : St) {w : (String × St) ⊕ St} (KR : ∀ (τ : St) (H : Heap) (locs : List Loc) (ls : Array Slot) (pc k n : Nat), w = .inr τ → k ≤ 1 → n ≤ 6 → Wd g s τ H locs → decode cX10_checkSheet pc = .ok (.return_, 1) → W p l e (rmT 6 90 1 6) s m args below meth c H locs k n Q (F0 m pc ls [])) (KT : ∀ (E text : String) (ik is ic : Nat) (τ : St) (H : Heap) (locs : List Loc) (ls : Array Slot) (pc : Nat) (rest : List Value) (k n : Nat), THx RX10 E text ik is ic → w = .inl (E, τ) → Wd g s τ H locs → ls.size = 2 → (rest.map fun v => v.category).sum ≤ 8 → (decode cX10_checkSheet pc = .ok (.new ik, 3) ∧ decode cX10_checkSheet (pc + 3) = .ok (.dup, 1) ∧ ((decode cX10_checkSheet (pc + 4) = .ok (.ldc is, 2) ∧ decode cX10_checkSheet (pc + 6) = .ok (.invokespecial ic, 3) ∧ decode cX10_checkSheet (pc + 9) = .ok (.athrow, 1)) ∨ (decode cX10_checkSheet (pc + 4) = .ok (.ldc_w is, 3) ∧ decode cX10_checkSheet (pc + 7) = .ok (.invokespecial ic, 3) ∧ decode cX10_checkSheet (pc + 10) = .ok (.athrow, 1)))) → k + 1 ≤ 1 → n + 6 ≤ 6 → W p l e (rmT 6 90 1 6) s m args below meth c H locs k n Q (F0 m pc ls rest)) (KO : ∀ (E : String) (τ : St) (ce : Cell) (q9 : Addr) (H : Heap) (locs : List Loc) (ls : Array Slot) (pc : Nat) (rest : List Value) (k n : Nat), w = .inl (E, τ) → Wd g s τ H locs → H[q9]? = some ce → ce.vm = .none → s.vm.findClass E = some ce.cls → k ≤ 1 → n ≤ 6 → vx_W p l e (rmT 6 90 1 6) s m args below meth c H locs k n Q (F0 m pc ls rest) q9) {H : Heap} {locs : List Loc} {ls : Array Slot} (Y : Wd g s σ H locs) (hl : lv_has ls 2 [(0, .ref (g.2.2 (0))), (1, .int (x1))]) (h : f_X10_checkSheet_0 x1 σ = some w) : W p l e (rmT 6 90 1 6) s m args below meth c H locs 0 0 Q (F0 m 0 ls []) := by
  unfold f_X10_checkSheet_0 at h
  refine lv_aload_n X.1 X.2.1 (dk T_X10_checkSheet 0 rfl) rfl (lv_at hl 0 rfl) ?_
  refine gg X Y fl_X10_12 rfl rfl (dk T_X10_checkSheet 1 rfl) ?_
  refine ggN X Y fl_X10_93 rfl rfl (dk T_X10_checkSheet 2 rfl) ?_
  refine lv_iload_n X.1 X.2.1 (dk T_X10_checkSheet 3 rfl) rfl (lv_at hl 1 rfl) ?_
  obtain ⟨q1, hq1, h⟩ := bs h
  refine gvIx (rest := []) X Y (c_X9_has 2 rfl x1 σ hq1) cb_X10_335 rfl hl.1 rfl rfl (Nat.le_of_ble_eq_true rfl) ⟨Nat.le_of_ble_eq_true rfl, Nat.le_of_ble_eq_true rfl⟩ ⟨Nat.le_of_ble_eq_true rfl, Nat.le_of_ble_eq_true rfl⟩ (dk T_X10_checkSheet 4 rfl) (fun H locs Y => ?_)
  refine lv_if_ne (tgt := 25) X.1 X.2.1 (dk T_X10_checkSheet 5 rfl) rfl (fun c2 => ?_) (fun c2 => ?_)
  · replace h := ineg c2 h
    exact KR σ _ _ _ _ _ _ (Option.some.inj h).symm (Nat.le_of_ble_eq_true rfl) (Nat.le_of_ble_eq_true rfl) Y (dk T_X10_checkSheet 11 rfl)
  · replace h := ipos c2 h
    exact KT "java/lang/IndexOutOfBoundsException" "there is no such sheet" 336 338 340 _ _ _ _ _ _ _ _ th_336_338_340 (Option.some.inj h).symm Y hl.1 (Nat.le_of_ble_eq_true rfl) ⟨(dk T_X10_checkSheet 6 rfl), (dk T_X10_checkSheet 7 rfl), Or.inr ⟨(dk T_X10_checkSheet 8 rfl), (dk T_X10_checkSheet 9 rfl), (dk T_X10_checkSheet 10 rfl)⟩⟩ (Nat.le_of_ble_eq_true rfl) (Nat.le_of_ble_eq_true rfl)
def f_X10_checkSheet (x1 : Int32) (σ : St) : Option ((String × St) ⊕ St) := f_X10_checkSheet_0 x1 σ
set_option maxHeartbeats 4000000 in
set_option maxRecDepth 100000 in
theorem c_X10_checkSheet {l : Launch} {g : Geo} (x1 : Int32) (σ : St) {w : (String × St) ⊕ St} (h : f_X10_checkSheet x1 σ = some w) : CtTV l yX10_checkSheet cX10_checkSheet 2 none 6 90 1 6 g [.ref (g.2.2 (0)), .int (x1)] σ w := enTV (by decide) rfl (Nat.le_of_ble_eq_true rfl) ⟨Nat.le_of_ble_eq_true rfl, Nat.le_of_ble_eq_true rfl⟩ (fun p e s m args below meth c Q X TX hst Y ls hl KR KT KO => w_X10_checkSheet_0 X TX hst x1 σ KR KT KO Y hl h)
def I_X10_checkCell : List (Nat × Instr × Nat) := [(0, .aload_n 0, 1), (1, .iload_n 1, 1), (2, .invokevirtual 152, 3), (5, .iload_n 2, 1), (6, .iconst 0, 1), (7, .aload_n 0, 1), (8, .getfield 12, 3), (11, .iload_n 1, 1), (12, .invokevirtual 277, 3), (15, .iconst 1, 1), (16, .isub, 1), (17, .invokestatic 82, 3), (20, .ifCond .ne 14, 3), (23, .new 336, 3), (26, .dup, 1), (27, .ldc_w 341, 3), (30, .invokespecial 340, 3), (33, .athrow, 1), (34, .return_, 1)]
set_option maxRecDepth 100000 in
theorem T_X10_checkCell : ∀ q ∈ I_X10_checkCell, decode cX10_checkCell q.1 = .ok (q.2.1, q.2.2) := by decide +kernel
def f_X10_checkCell_0 (x1 : Int32) (x2 : Int32) (σ : St) : Option ((String × St) ⊕ St) :=
  (f_X10_checkSheet x1 σ).bind fun q1 => Sum.elim (fun x => some (.inl x)) (fun q1 => (f_X8_cellsOf 1 x1 q1).bind fun q5 => (f_X10_isWithin x2 0 (q5 - 1)).bind fun q6 => if q6 = 0 then some (.inl ("java/lang/IndexOutOfBoundsException", q1)) else some (.inr q1)) q1
set_option maxHeartbeats 4000000 in
set_option maxRecDepth 100000 in
theorem w_X10_checkCell_0 (X : Cx g RX10 cX10_checkCell 3 none p s m args meth c) (TX : TXs g (GA g s.heap.size) s s.heap) (hst : l.stackTraces = false) (x1 : Int32) (x2 : Int32) (σ : St) {w : (String × St) ⊕ St} (KR : ∀ (τ : St) (H : Heap) (locs : List Loc) (ls : Array Slot) (pc k n : Nat), w = .inr τ → k ≤ 2 → n ≤ 12 → Wd g s τ H locs → decode cX10_checkCell pc = .ok (.return_, 1) → W p l e (rmT 7 111 2 12) s m args below meth c H locs k n Q (F0 m pc ls [])) (KT : ∀ (E text : String) (ik is ic : Nat) (τ : St) (H : Heap) (locs : List Loc) (ls : Array Slot) (pc : Nat) (rest : List Value) (k n : Nat), THx RX10 E text ik is ic → w = .inl (E, τ) → Wd g s τ H locs → ls.size = 3 → (rest.map fun v => v.category).sum ≤ 8 → (decode cX10_checkCell pc = .ok (.new ik, 3) ∧ decode cX10_checkCell (pc + 3) = .ok (.dup, 1) ∧ ((decode cX10_checkCell (pc + 4) = .ok (.ldc is, 2) ∧ decode cX10_checkCell (pc + 6) = .ok (.invokespecial ic, 3) ∧ decode cX10_checkCell (pc + 9) = .ok (.athrow, 1)) ∨ (decode cX10_checkCell (pc + 4) = .ok (.ldc_w is, 3) ∧ decode cX10_checkCell (pc + 7) = .ok (.invokespecial ic, 3) ∧ decode cX10_checkCell (pc + 10) = .ok (.athrow, 1)))) → k + 1 ≤ 2 → n + 6 ≤ 12 → W p l e (rmT 7 111 2 12) s m args below meth c H locs k n Q (F0 m pc ls rest)) (KO : ∀ (E : String) (τ : St) (ce : Cell) (q9 : Addr) (H : Heap) (locs : List Loc) (ls : Array Slot) (pc : Nat) (rest : List Value) (k n : Nat), w = .inl (E, τ) → Wd g s τ H locs → H[q9]? = some ce → ce.vm = .none → s.vm.findClass E = some ce.cls → k ≤ 2 → n ≤ 12 → vx_W p l e (rmT 7 111 2 12) s m args below meth c H locs k n Q (F0 m pc ls rest) q9) {H : Heap} {locs : List Loc} {ls : Array Slot} (Y : Wd g s σ H locs) (hl : lv_has ls 3 [(0, .ref (g.2.2 (0))), (1, .int (x1)), (2, .int (x2))]) (h : f_X10_checkCell_0 x1 x2 σ = some w) : W p l e (rmT 7 111 2 12) s m args below meth c H locs 0 0 Q (F0 m 0 ls []) := by
  unfold f_X10_checkCell_0 at h
  refine lv_aload_n X.1 X.2.1 (dk T_X10_checkCell 0 rfl) rfl (lv_at hl 0 rfl) ?_
  refine lv_iload_n X.1 X.2.1 (dk T_X10_checkCell 1 rfl) rfl (lv_at hl 1 rfl) ?_
  obtain ⟨q1, hq1, h⟩ := bs h
  refine gvTV (rest := []) X TX hst Y (c_X10_checkSheet x1 σ hq1) cb_X10_152 rfl hl.1 rfl rfl (Nat.le_of_ble_eq_true rfl) ⟨(Nat.le_of_ble_eq_true rfl), (Nat.le_of_ble_eq_true rfl)⟩ ⟨(Nat.le_of_ble_eq_true rfl), (Nat.le_of_ble_eq_true rfl)⟩ (dk T_X10_checkCell 2 rfl) (fun E τ ce q9 H locs e2 Y h1 h2 h3 => ?_) (fun t4 H locs e2 Y => ?_)
  · subst e2; replace h := sel h
    exact KO E τ ce q9 _ _ _ _ _ _ _ (Option.some.inj h).symm Y h1 h2 h3 (Nat.le_of_ble_eq_true rfl) (Nat.le_of_ble_eq_true rfl)
  · subst e2; replace h := ser h; try dsimp only at h
    refine lv_iload_n X.1 X.2.1 (dk T_X10_checkCell 3 rfl) rfl (lv_at hl 2 rfl) ?_
    refine lv_iconst (v := 0) X.1 X.2.1 (dk T_X10_checkCell 4 rfl) ic_0 ?_
    refine lv_aload_n X.1 X.2.1 (dk T_X10_checkCell 5 rfl) rfl (lv_at hl 0 rfl) ?_
    refine gg X Y fl_X10_12 rfl rfl (dk T_X10_checkCell 6 rfl) ?_
    refine lv_iload_n X.1 X.2.1 (dk T_X10_checkCell 7 rfl) rfl (lv_at hl 1 rfl) ?_
    obtain ⟨q5, hq5, h⟩ := bs h
    refine gvIx (rest := [.int (0), .int (x2)]) X Y (c_X8_cellsOf 1 rfl x1 t4 hq5) cb_X10_277 rfl hl.1 rfl rfl (Nat.le_of_ble_eq_true rfl) ⟨Nat.le_of_ble_eq_true rfl, Nat.le_of_ble_eq_true rfl⟩ ⟨Nat.le_of_ble_eq_true rfl, Nat.le_of_ble_eq_true rfl⟩ (dk T_X10_checkCell 8 rfl) (fun H locs Y => ?_)
    refine lv_iconst (v := 1) X.1 X.2.1 (dk T_X10_checkCell 9 rfl) ic_1 ?_
    refine lv_isub X.1 X.2.1 (dk T_X10_checkCell 10 rfl) ?_
    obtain ⟨q6, hq6, h⟩ := bs h
    refine gsIx (rest := []) X Y (c_X10_isWithin x2 0 (q5 - 1) t4 hq6) cb_X10_82 hl.1 rfl rfl (Nat.le_of_ble_eq_true rfl) ⟨Nat.le_of_ble_eq_true rfl, Nat.le_of_ble_eq_true rfl⟩ ⟨Nat.le_of_ble_eq_true rfl, Nat.le_of_ble_eq_true rfl⟩ (dk T_X10_checkCell 11 rfl) (fun H locs Y => ?_)
    refine lv_if_ne (tgt := 34) X.1 X.2.1 (dk T_X10_checkCell 12 rfl) rfl (fun c7 => ?_) (fun c7 => ?_)
    · replace h := ineg c7 h
      exact KR t4 _ _ _ _ _ _ (Option.some.inj h).symm (Nat.le_of_ble_eq_true rfl) (Nat.le_of_ble_eq_true rfl) Y (dk T_X10_checkCell 18 rfl)
    · replace h := ipos c7 h
      exact KT "java/lang/IndexOutOfBoundsException" "there is no such cell" 336 341 340 _ _ _ _ _ _ _ _ th_336_341_340 (Option.some.inj h).symm Y hl.1 (Nat.le_of_ble_eq_true rfl) ⟨(dk T_X10_checkCell 13 rfl), (dk T_X10_checkCell 14 rfl), Or.inr ⟨(dk T_X10_checkCell 15 rfl), (dk T_X10_checkCell 16 rfl), (dk T_X10_checkCell 17 rfl)⟩⟩ (Nat.le_of_ble_eq_true rfl) (Nat.le_of_ble_eq_true rfl)
def f_X10_checkCell (x1 : Int32) (x2 : Int32) (σ : St) : Option ((String × St) ⊕ St) := f_X10_checkCell_0 x1 x2 σ
set_option maxHeartbeats 4000000 in
set_option maxRecDepth 100000 in
theorem c_X10_checkCell {l : Launch} {g : Geo} (x1 : Int32) (x2 : Int32) (σ : St) {w : (String × St) ⊕ St} (h : f_X10_checkCell x1 x2 σ = some w) : CtTV l yX10_checkCell cX10_checkCell 3 none 7 111 2 12 g [.ref (g.2.2 (0)), .int (x1), .int (x2)] σ w := enTV (by decide) rfl (Nat.le_of_ble_eq_true rfl) ⟨Nat.le_of_ble_eq_true rfl, Nat.le_of_ble_eq_true rfl⟩ (fun p e s m args below meth c Q X TX hst Y ls hl KR KT KO => w_X10_checkCell_0 X TX hst x1 x2 σ KR KT KO Y hl h)
def I_X10_spoil : List (Nat × Instr × Nat) := [(0, .aload_n 0, 1), (1, .iload_n 1, 1), (2, .iload_n 2, 1), (3, .invokevirtual 132, 3), (6, .aload_n 0, 1), (7, .getfield 12, 3), (10, .iload_n 1, 1), (11, .iload_n 2, 1), (12, .invokevirtual 136, 3), (15, .iconst (-1), 1), (16, .if_icmp .eq 13, 3), (19, .new 140, 3), (22, .dup, 1), (23, .ldc 142, 2), (25, .invokespecial 144, 3), (28, .athrow, 1), (29, .aload_n 0, 1), (30, .getfield 25, 3), (33, .aload_n 0, 1), (34, .getfield 12, 3), (37, .invokevirtual 108, 3), (40, .aload_n 0, 1), (41, .getfield 12, 3), (44, .iload_n 1, 1), (45, .iload_n 2, 1), (46, .bipush (-2), 2), (48, .invokevirtual 145, 3), (51, .aload_n 0, 1), (52, .getfield 12, 3), (55, .iload_n 1, 1), (56, .iconst (-1), 1), (57, .invokevirtual 149, 3), (60, .ireturn, 1)]
set_option maxRecDepth 100000 in
theorem T_X10_spoil : ∀ q ∈ I_X10_spoil, decode cX10_spoil q.1 = .ok (q.2.1, q.2.2) := by decide +kernel
def f_X10_spoil_0 (x1 : Int32) (x2 : Int32) (σ : St) : Option ((String × St) ⊕ (Int32 × St)) :=
  (f_X10_checkCell x1 x2 σ).bind fun q1 => Sum.elim (fun x => some (.inl x)) (fun q1 => (f_X8_onCell 1 x1 x2 q1).bind fun q5 => if q5 = (-1) then (f_X2_push 1 q1).bind fun q7 => (f_X8_setCell 1 x1 x2 (-2) q7).bind fun q8 => (f_X8_cellsWith 1 x1 (-1) q8).bind fun q9 => some (.inr (q9, q8)) else some (.inl ("java/lang/UnsupportedOperationException", q1))) q1
set_option maxHeartbeats 4000000 in
set_option maxRecDepth 100000 in
theorem w_X10_spoil_0 (X : Cx g RX10 cX10_spoil 3 (some .int) p s m args meth c) (TX : TXs g (GA g s.heap.size) s s.heap) (hst : l.stackTraces = false) (x1 : Int32) (x2 : Int32) (σ : St) {w : (String × St) ⊕ (Int32 × St)} (KR : ∀ (v : Int32) (τ : St) (H : Heap) (locs : List Loc) (ls : Array Slot) (pc k n : Nat), w = .inr (v, τ) → k ≤ 3 → n ≤ 18 → Wd g s τ H locs → decode cX10_spoil pc = .ok (.ireturn, 1) → W p l e (rmT 8 133 3 18) s m args below meth c H locs k n Q (F0 m pc ls [.int v])) (KT : ∀ (E text : String) (ik is ic : Nat) (τ : St) (H : Heap) (locs : List Loc) (ls : Array Slot) (pc : Nat) (rest : List Value) (k n : Nat), THx RX10 E text ik is ic → w = .inl (E, τ) → Wd g s τ H locs → ls.size = 3 → (rest.map fun v => v.category).sum ≤ 8 → (decode cX10_spoil pc = .ok (.new ik, 3) ∧ decode cX10_spoil (pc + 3) = .ok (.dup, 1) ∧ ((decode cX10_spoil (pc + 4) = .ok (.ldc is, 2) ∧ decode cX10_spoil (pc + 6) = .ok (.invokespecial ic, 3) ∧ decode cX10_spoil (pc + 9) = .ok (.athrow, 1)) ∨ (decode cX10_spoil (pc + 4) = .ok (.ldc_w is, 3) ∧ decode cX10_spoil (pc + 7) = .ok (.invokespecial ic, 3) ∧ decode cX10_spoil (pc + 10) = .ok (.athrow, 1)))) → k + 1 ≤ 3 → n + 6 ≤ 18 → W p l e (rmT 8 133 3 18) s m args below meth c H locs k n Q (F0 m pc ls rest)) (KO : ∀ (E : String) (τ : St) (ce : Cell) (q9 : Addr) (H : Heap) (locs : List Loc) (ls : Array Slot) (pc : Nat) (rest : List Value) (k n : Nat), w = .inl (E, τ) → Wd g s τ H locs → H[q9]? = some ce → ce.vm = .none → s.vm.findClass E = some ce.cls → k ≤ 3 → n ≤ 18 → vx_W p l e (rmT 8 133 3 18) s m args below meth c H locs k n Q (F0 m pc ls rest) q9) {H : Heap} {locs : List Loc} {ls : Array Slot} (Y : Wd g s σ H locs) (hl : lv_has ls 3 [(0, .ref (g.2.2 (0))), (1, .int (x1)), (2, .int (x2))]) (h : f_X10_spoil_0 x1 x2 σ = some w) : W p l e (rmT 8 133 3 18) s m args below meth c H locs 0 0 Q (F0 m 0 ls []) := by
  unfold f_X10_spoil_0 at h
  refine lv_aload_n X.1 X.2.1 (dk T_X10_spoil 0 rfl) rfl (lv_at hl 0 rfl) ?_
  refine lv_iload_n X.1 X.2.1 (dk T_X10_spoil 1 rfl) rfl (lv_at hl 1 rfl) ?_
  refine lv_iload_n X.1 X.2.1 (dk T_X10_spoil 2 rfl) rfl (lv_at hl 2 rfl) ?_
  obtain ⟨q1, hq1, h⟩ := bs h
  refine gvTV (rest := []) X TX hst Y (c_X10_checkCell x1 x2 σ hq1) cb_X10_132 rfl hl.1 rfl rfl (Nat.le_of_ble_eq_true rfl) ⟨(Nat.le_of_ble_eq_true rfl), (Nat.le_of_ble_eq_true rfl)⟩ ⟨(Nat.le_of_ble_eq_true rfl), (Nat.le_of_ble_eq_true rfl)⟩ (dk T_X10_spoil 3 rfl) (fun E τ ce q9 H locs e2 Y h1 h2 h3 => ?_) (fun t4 H locs e2 Y => ?_)
  · subst e2; replace h := sel h
    exact KO E τ ce q9 _ _ _ _ _ _ _ (Option.some.inj h).symm Y h1 h2 h3 (Nat.le_of_ble_eq_true rfl) (Nat.le_of_ble_eq_true rfl)
  · subst e2; replace h := ser h; try dsimp only at h
    refine lv_aload_n X.1 X.2.1 (dk T_X10_spoil 4 rfl) rfl (lv_at hl 0 rfl) ?_
    refine gg X Y fl_X10_12 rfl rfl (dk T_X10_spoil 5 rfl) ?_
    refine lv_iload_n X.1 X.2.1 (dk T_X10_spoil 6 rfl) rfl (lv_at hl 1 rfl) ?_
    refine lv_iload_n X.1 X.2.1 (dk T_X10_spoil 7 rfl) rfl (lv_at hl 2 rfl) ?_
    obtain ⟨q5, hq5, h⟩ := bs h
    refine gvIx (rest := []) X Y (c_X8_onCell 1 rfl x1 x2 t4 hq5) cb_X10_136 rfl hl.1 rfl rfl (Nat.le_of_ble_eq_true rfl) ⟨Nat.le_of_ble_eq_true rfl, Nat.le_of_ble_eq_true rfl⟩ ⟨Nat.le_of_ble_eq_true rfl, Nat.le_of_ble_eq_true rfl⟩ (dk T_X10_spoil 8 rfl) (fun H locs Y => ?_)
    refine lv_iconst (v := (-1)) X.1 X.2.1 (dk T_X10_spoil 9 rfl) ic_m1 ?_
    refine lv_icmp_eq (tgt := 29) X.1 X.2.1 (dk T_X10_spoil 10 rfl) rfl (fun c6 => ?_) (fun c6 => ?_)
    · replace h := ipos c6 h
      refine lv_aload_n X.1 X.2.1 (dk T_X10_spoil 16 rfl) rfl (lv_at hl 0 rfl) ?_
      refine gg X Y fl_X10_25 rfl rfl (dk T_X10_spoil 17 rfl) ?_
      refine lv_aload_n X.1 X.2.1 (dk T_X10_spoil 18 rfl) rfl (lv_at hl 0 rfl) ?_
      refine gg X Y fl_X10_12 rfl rfl (dk T_X10_spoil 19 rfl) ?_
      obtain ⟨q7, hq7, h⟩ := bs h
      refine gvVx (rest := []) X Y (c_X2_push 1 rfl t4 hq7) cb_X10_108 rfl hl.1 rfl rfl (Nat.le_of_ble_eq_true rfl) ⟨Nat.le_of_ble_eq_true rfl, Nat.le_of_ble_eq_true rfl⟩ ⟨Nat.le_of_ble_eq_true rfl, Nat.le_of_ble_eq_true rfl⟩ (dk T_X10_spoil 20 rfl) (fun H locs Y => ?_)
      refine lv_aload_n X.1 X.2.1 (dk T_X10_spoil 21 rfl) rfl (lv_at hl 0 rfl) ?_
      refine gg X Y fl_X10_12 rfl rfl (dk T_X10_spoil 22 rfl) ?_
      refine lv_iload_n X.1 X.2.1 (dk T_X10_spoil 23 rfl) rfl (lv_at hl 1 rfl) ?_
      refine lv_iload_n X.1 X.2.1 (dk T_X10_spoil 24 rfl) rfl (lv_at hl 2 rfl) ?_
      refine lv_bipush (v := (-2)) X.1 X.2.1 (dk T_X10_spoil 25 rfl) bp_m2 ?_
      obtain ⟨q8, hq8, h⟩ := bs h
      refine gvVx (rest := []) X Y (c_X8_setCell 1 rfl x1 x2 (-2) q7 hq8) cb_X10_145 rfl hl.1 rfl rfl (Nat.le_of_ble_eq_true rfl) ⟨Nat.le_of_ble_eq_true rfl, Nat.le_of_ble_eq_true rfl⟩ ⟨Nat.le_of_ble_eq_true rfl, Nat.le_of_ble_eq_true rfl⟩ (dk T_X10_spoil 26 rfl) (fun H locs Y => ?_)
      refine lv_aload_n X.1 X.2.1 (dk T_X10_spoil 27 rfl) rfl (lv_at hl 0 rfl) ?_
      refine gg X Y fl_X10_12 rfl rfl (dk T_X10_spoil 28 rfl) ?_
      refine lv_iload_n X.1 X.2.1 (dk T_X10_spoil 29 rfl) rfl (lv_at hl 1 rfl) ?_
      refine lv_iconst (v := (-1)) X.1 X.2.1 (dk T_X10_spoil 30 rfl) ic_m1 ?_
      obtain ⟨q9, hq9, h⟩ := bs h
      refine gvIx (rest := []) X Y (c_X8_cellsWith 1 rfl x1 (-1) q8 hq9) cb_X10_149 rfl hl.1 rfl rfl (Nat.le_of_ble_eq_true rfl) ⟨Nat.le_of_ble_eq_true rfl, Nat.le_of_ble_eq_true rfl⟩ ⟨Nat.le_of_ble_eq_true rfl, Nat.le_of_ble_eq_true rfl⟩ (dk T_X10_spoil 31 rfl) (fun H locs Y => ?_)
      exact KR q9 q8 _ _ _ _ _ _ (Option.some.inj h).symm (Nat.le_of_ble_eq_true rfl) (Nat.le_of_ble_eq_true rfl) Y (dk T_X10_spoil 32 rfl)
    · replace h := ineg c6 h
      exact KT "java/lang/UnsupportedOperationException" "the cell is not free" 140 142 144 _ _ _ _ _ _ _ _ th_140_142_144 (Option.some.inj h).symm Y hl.1 (Nat.le_of_ble_eq_true rfl) ⟨(dk T_X10_spoil 11 rfl), (dk T_X10_spoil 12 rfl), Or.inl ⟨(dk T_X10_spoil 13 rfl), (dk T_X10_spoil 14 rfl), (dk T_X10_spoil 15 rfl)⟩⟩ (Nat.le_of_ble_eq_true rfl) (Nat.le_of_ble_eq_true rfl)
def f_X10_spoil (x1 : Int32) (x2 : Int32) (σ : St) : Option ((String × St) ⊕ (Int32 × St)) := f_X10_spoil_0 x1 x2 σ
set_option maxHeartbeats 4000000 in
set_option maxRecDepth 100000 in
theorem c_X10_spoil {l : Launch} {g : Geo} (x1 : Int32) (x2 : Int32) (σ : St) {w : (String × St) ⊕ (Int32 × St)} (h : f_X10_spoil x1 x2 σ = some w) : CtT l yX10_spoil cX10_spoil 3 (some .int) 8 133 3 18 g [.ref (g.2.2 (0)), .int (x1), .int (x2)] σ w := enT .int (by decide) rfl (fun _ _ _ => rfl) (Nat.le_of_ble_eq_true rfl) ⟨Nat.le_of_ble_eq_true rfl, Nat.le_of_ble_eq_true rfl⟩ (fun p e s m args below meth c Q X TX hst Y ls hl KR KT KO => w_X10_spoil_0 X TX hst x1 x2 σ KR KT KO Y hl h)
def I_X10_sheet : List (Nat × Instr × Nat) := [(0, .aload_n 0, 1), (1, .iload_n 1, 1), (2, .invokevirtual 152, 3), (5, .iload_n 2, 1), (6, .tableswitch 143 0 9 #[54, 54, 54, 67, 77, 88, 97, 110, 120, 130], 54), (60, .aload_n 0, 1), (61, .getfield 12, 3), (64, .getfield 93, 3), (67, .iload_n 1, 1), (68, .iload_n 2, 1), (69, .invokevirtual 156, 3), (72, .ireturn, 1), (73, .aload_n 0, 1), (74, .getfield 12, 3), (77, .iload_n 1, 1), (78, .iconst (-1), 1), (79, .invokevirtual 149, 3), (82, .ireturn, 1), (83, .aload_n 0, 1), (84, .getfield 12, 3), (87, .iload_n 1, 1), (88, .bipush (-2), 2), (90, .invokevirtual 149, 3), (93, .ireturn, 1), (94, .aload_n 0, 1), (95, .getfield 12, 3), (98, .iload_n 1, 1), (99, .invokevirtual 159, 3), (102, .ireturn, 1), (103, .aload_n 0, 1), (104, .getfield 12, 3), (107, .getfield 163, 3), (110, .iconst 1, 1), (111, .iload_n 1, 1), (112, .invokevirtual 166, 3), (115, .ireturn, 1), (116, .aload_n 0, 1), (117, .getfield 12, 3), (120, .iload_n 1, 1), (121, .iconst 0, 1), (122, .invokevirtual 169, 3), (125, .ireturn, 1), (126, .aload_n 0, 1), (127, .getfield 12, 3), (130, .iload_n 1, 1), (131, .iconst 1, 1), (132, .invokevirtual 169, 3), (135, .ireturn, 1), (136, .aload_n 0, 1), (137, .getfield 56, 3), (140, .aload_n 0, 1), (141, .getfield 12, 3), (144, .iload_n 1, 1), (145, .invokevirtual 173, 3), (148, .ireturn, 1), (149, .new 86, 3), (152, .dup, 1), (153, .ldc 177, 2), (155, .invokespecial 90, 3), (158, .athrow, 1)]
set_option maxRecDepth 100000 in
theorem T_X10_sheet : ∀ q ∈ I_X10_sheet, decode cX10_sheet q.1 = .ok (q.2.1, q.2.2) := by decide +kernel
def f_X10_sheet_j60 (x1 : Int32) (x2 : Int32) (σ : St) : Option ((String × St) ⊕ (Int32 × St)) :=
  (f_X9_get 2 x1 x2 σ).bind fun q6 => some (.inr (q6, σ))
set_option maxHeartbeats 4000000 in
set_option maxRecDepth 100000 in
theorem w_X10_sheet_j60 (X : Cx g RX10 cX10_sheet 3 (some .int) p s m args meth c) (TX : TXs g (GA g s.heap.size) s s.heap) (hst : l.stackTraces = false) (x1 : Int32) (x2 : Int32) (σ : St) {w : (String × St) ⊕ (Int32 × St)} (KR : ∀ (v : Int32) (τ : St) (H : Heap) (locs : List Loc) (ls : Array Slot) (pc k n : Nat), w = .inr (v, τ) → k ≤ 2 → n ≤ 12 → Wd g s τ H locs → decode cX10_sheet pc = .ok (.ireturn, 1) → W p l e (rmT 7 111 2 12) s m args below meth c H locs k n Q (F0 m pc ls [.int v])) (KT : ∀ (E text : String) (ik is ic : Nat) (τ : St) (H : Heap) (locs : List Loc) (ls : Array Slot) (pc : Nat) (rest : List Value) (k n : Nat), THx RX10 E text ik is ic → w = .inl (E, τ) → Wd g s τ H locs → ls.size = 3 → (rest.map fun v => v.category).sum ≤ 8 → (decode cX10_sheet pc = .ok (.new ik, 3) ∧ decode cX10_sheet (pc + 3) = .ok (.dup, 1) ∧ ((decode cX10_sheet (pc + 4) = .ok (.ldc is, 2) ∧ decode cX10_sheet (pc + 6) = .ok (.invokespecial ic, 3) ∧ decode cX10_sheet (pc + 9) = .ok (.athrow, 1)) ∨ (decode cX10_sheet (pc + 4) = .ok (.ldc_w is, 3) ∧ decode cX10_sheet (pc + 7) = .ok (.invokespecial ic, 3) ∧ decode cX10_sheet (pc + 10) = .ok (.athrow, 1)))) → k + 1 ≤ 2 → n + 6 ≤ 12 → W p l e (rmT 7 111 2 12) s m args below meth c H locs k n Q (F0 m pc ls rest)) (KO : ∀ (E : String) (τ : St) (ce : Cell) (q9 : Addr) (H : Heap) (locs : List Loc) (ls : Array Slot) (pc : Nat) (rest : List Value) (k n : Nat), w = .inl (E, τ) → Wd g s τ H locs → H[q9]? = some ce → ce.vm = .none → s.vm.findClass E = some ce.cls → k ≤ 2 → n ≤ 12 → vx_W p l e (rmT 7 111 2 12) s m args below meth c H locs k n Q (F0 m pc ls rest) q9) {H : Heap} {locs : List Loc} {ls : Array Slot} (Y : Wd g s σ H locs) (hl : lv_has ls 3 [(0, .ref (g.2.2 (0))), (1, .int (x1)), (2, .int (x2))]) (h : f_X10_sheet_j60 x1 x2 σ = some w) : W p l e (rmT 7 111 2 12) s m args below meth c H locs 1 6 Q (F0 m 60 ls []) := by
  unfold f_X10_sheet_j60 at h
  refine lv_aload_n X.1 X.2.1 (dk T_X10_sheet 5 rfl) rfl (lv_at hl 0 rfl) ?_
  refine gg X Y fl_X10_12 rfl rfl (dk T_X10_sheet 6 rfl) ?_
  refine ggN X Y fl_X10_93 rfl rfl (dk T_X10_sheet 7 rfl) ?_
  refine lv_iload_n X.1 X.2.1 (dk T_X10_sheet 8 rfl) rfl (lv_at hl 1 rfl) ?_
  refine lv_iload_n X.1 X.2.1 (dk T_X10_sheet 9 rfl) rfl (lv_at hl 2 rfl) ?_
  obtain ⟨q6, hq6, h⟩ := bs h
  refine gvIx (rest := []) X Y (c_X9_get 2 rfl x1 x2 σ hq6) cb_X10_156 rfl hl.1 rfl rfl (Nat.le_of_ble_eq_true rfl) ⟨Nat.le_of_ble_eq_true rfl, Nat.le_of_ble_eq_true rfl⟩ ⟨Nat.le_of_ble_eq_true rfl, Nat.le_of_ble_eq_true rfl⟩ (dk T_X10_sheet 10 rfl) (fun H locs Y => ?_)
  exact KR q6 σ _ _ _ _ _ _ (Option.some.inj h).symm (Nat.le_of_ble_eq_true rfl) (Nat.le_of_ble_eq_true rfl) Y (dk T_X10_sheet 11 rfl)
def f_X10_sheet_0 (x1 : Int32) (x2 : Int32) (σ : St) : Option ((String × St) ⊕ (Int32 × St)) :=
  (f_X10_checkSheet x1 σ).bind fun q1 => Sum.elim (fun x => some (.inl x)) (fun q1 => if x2 = 0 then f_X10_sheet_j60 x1 x2 q1 else if x2 = 1 then f_X10_sheet_j60 x1 x2 q1 else if x2 = 2 then f_X10_sheet_j60 x1 x2 q1 else if x2 = 3 then (f_X8_cellsWith 1 x1 (-1) q1).bind fun q10 => some (.inr (q10, q1)) else if x2 = 4 then (f_X8_cellsWith 1 x1 (-2) q1).bind fun q12 => some (.inr (q12, q1)) else if x2 = 5 then (f_X8_coveredCells 1 x1 q1).bind fun q14 => some (.inr (q14, q1)) else if x2 = 6 then (f_X9_rowsWith 6 1 x1 q1).bind fun q16 => some (.inr (q16, q1)) else if x2 = 7 then (f_X8_cutsOn 1 x1 0 q1).bind fun q18 => some (.inr (q18, q1)) else if x2 = 8 then (f_X8_cutsOn 1 x1 1 q1).bind fun q20 => some (.inr (q20, q1)) else if x2 = 9 then (f_X4_findRemnants 1 x1 q1).bind fun q22 => some (.inr (q22.1, q22.2)) else some (.inl ("java/lang/IllegalArgumentException", q1))) q1
set_option maxHeartbeats 4000000 in
set_option maxRecDepth 100000 in
theorem w_X10_sheet_0 (X : Cx g RX10 cX10_sheet 3 (some .int) p s m args meth c) (TX : TXs g (GA g s.heap.size) s s.heap) (hst : l.stackTraces = false) (x1 : Int32) (x2 : Int32) (σ : St) {w : (String × St) ⊕ (Int32 × St)} (KR : ∀ (v : Int32) (τ : St) (H : Heap) (locs : List Loc) (ls : Array Slot) (pc k n : Nat), w = .inr (v, τ) → k ≤ 2 → n ≤ 12 → Wd g s τ H locs → decode cX10_sheet pc = .ok (.ireturn, 1) → W p l e (rmT 7 111 2 12) s m args below meth c H locs k n Q (F0 m pc ls [.int v])) (KT : ∀ (E text : String) (ik is ic : Nat) (τ : St) (H : Heap) (locs : List Loc) (ls : Array Slot) (pc : Nat) (rest : List Value) (k n : Nat), THx RX10 E text ik is ic → w = .inl (E, τ) → Wd g s τ H locs → ls.size = 3 → (rest.map fun v => v.category).sum ≤ 8 → (decode cX10_sheet pc = .ok (.new ik, 3) ∧ decode cX10_sheet (pc + 3) = .ok (.dup, 1) ∧ ((decode cX10_sheet (pc + 4) = .ok (.ldc is, 2) ∧ decode cX10_sheet (pc + 6) = .ok (.invokespecial ic, 3) ∧ decode cX10_sheet (pc + 9) = .ok (.athrow, 1)) ∨ (decode cX10_sheet (pc + 4) = .ok (.ldc_w is, 3) ∧ decode cX10_sheet (pc + 7) = .ok (.invokespecial ic, 3) ∧ decode cX10_sheet (pc + 10) = .ok (.athrow, 1)))) → k + 1 ≤ 2 → n + 6 ≤ 12 → W p l e (rmT 7 111 2 12) s m args below meth c H locs k n Q (F0 m pc ls rest)) (KO : ∀ (E : String) (τ : St) (ce : Cell) (q9 : Addr) (H : Heap) (locs : List Loc) (ls : Array Slot) (pc : Nat) (rest : List Value) (k n : Nat), w = .inl (E, τ) → Wd g s τ H locs → H[q9]? = some ce → ce.vm = .none → s.vm.findClass E = some ce.cls → k ≤ 2 → n ≤ 12 → vx_W p l e (rmT 7 111 2 12) s m args below meth c H locs k n Q (F0 m pc ls rest) q9) {H : Heap} {locs : List Loc} {ls : Array Slot} (Y : Wd g s σ H locs) (hl : lv_has ls 3 [(0, .ref (g.2.2 (0))), (1, .int (x1)), (2, .int (x2))]) (h : f_X10_sheet_0 x1 x2 σ = some w) : W p l e (rmT 7 111 2 12) s m args below meth c H locs 0 0 Q (F0 m 0 ls []) := by
  unfold f_X10_sheet_0 at h
  refine lv_aload_n X.1 X.2.1 (dk T_X10_sheet 0 rfl) rfl (lv_at hl 0 rfl) ?_
  refine lv_iload_n X.1 X.2.1 (dk T_X10_sheet 1 rfl) rfl (lv_at hl 1 rfl) ?_
  obtain ⟨q1, hq1, h⟩ := bs h
  refine gvTV (rest := []) X TX hst Y (c_X10_checkSheet x1 σ hq1) cb_X10_152 rfl hl.1 rfl rfl (Nat.le_of_ble_eq_true rfl) ⟨(Nat.le_of_ble_eq_true rfl), (Nat.le_of_ble_eq_true rfl)⟩ ⟨(Nat.le_of_ble_eq_true rfl), (Nat.le_of_ble_eq_true rfl)⟩ (dk T_X10_sheet 2 rfl) (fun E τ ce q9 H locs e2 Y h1 h2 h3 => ?_) (fun t4 H locs e2 Y => ?_)
  · subst e2; replace h := sel h
    exact KO E τ ce q9 _ _ _ _ _ _ _ (Option.some.inj h).symm Y h1 h2 h3 (Nat.le_of_ble_eq_true rfl) (Nat.le_of_ble_eq_true rfl)
  · subst e2; replace h := ser h; try dsimp only at h
    refine lv_iload_n X.1 X.2.1 (dk T_X10_sheet 3 rfl) rfl (lv_at hl 2 rfl) ?_
    rcases Decidable.em (x2 = 0) with c5 | c5
    · replace h := ipos c5 h
      refine lv_tableIn (tgt := 60) (off := 54) X.1 X.2.1 (dk T_X10_sheet 4 rfl) (ts1 c5 (by decide)) (ts2 c5 (by decide)) (ts3 c5 (by decide)) rfl ?_
      exact w_X10_sheet_j60 X TX hst x1 x2 t4 KR KT KO Y (lv_sub hl [0, 1, 2] rfl) h
    replace h := ineg c5 h
    rcases Decidable.em (x2 = 1) with c7 | c7
    · replace h := ipos c7 h
      refine lv_tableIn (tgt := 60) (off := 54) X.1 X.2.1 (dk T_X10_sheet 4 rfl) (ts1 c7 (by decide)) (ts2 c7 (by decide)) (ts3 c7 (by decide)) rfl ?_
      exact w_X10_sheet_j60 X TX hst x1 x2 t4 KR KT KO Y (lv_sub hl [0, 1, 2] rfl) h
    replace h := ineg c7 h
    rcases Decidable.em (x2 = 2) with c8 | c8
    · replace h := ipos c8 h
      refine lv_tableIn (tgt := 60) (off := 54) X.1 X.2.1 (dk T_X10_sheet 4 rfl) (ts1 c8 (by decide)) (ts2 c8 (by decide)) (ts3 c8 (by decide)) rfl ?_
      exact w_X10_sheet_j60 X TX hst x1 x2 t4 KR KT KO Y (lv_sub hl [0, 1, 2] rfl) h
    replace h := ineg c8 h
    rcases Decidable.em (x2 = 3) with c9 | c9
    · replace h := ipos c9 h
      refine lv_tableIn (tgt := 73) (off := 67) X.1 X.2.1 (dk T_X10_sheet 4 rfl) (ts1 c9 (by decide)) (ts2 c9 (by decide)) (ts3 c9 (by decide)) rfl ?_
      refine lv_aload_n X.1 X.2.1 (dk T_X10_sheet 12 rfl) rfl (lv_at hl 0 rfl) ?_
      refine gg X Y fl_X10_12 rfl rfl (dk T_X10_sheet 13 rfl) ?_
      refine lv_iload_n X.1 X.2.1 (dk T_X10_sheet 14 rfl) rfl (lv_at hl 1 rfl) ?_
      refine lv_iconst (v := (-1)) X.1 X.2.1 (dk T_X10_sheet 15 rfl) ic_m1 ?_
      obtain ⟨q10, hq10, h⟩ := bs h
      refine gvIx (rest := []) X Y (c_X8_cellsWith 1 rfl x1 (-1) t4 hq10) cb_X10_149 rfl hl.1 rfl rfl (Nat.le_of_ble_eq_true rfl) ⟨Nat.le_of_ble_eq_true rfl, Nat.le_of_ble_eq_true rfl⟩ ⟨Nat.le_of_ble_eq_true rfl, Nat.le_of_ble_eq_true rfl⟩ (dk T_X10_sheet 16 rfl) (fun H locs Y => ?_)
      exact KR q10 t4 _ _ _ _ _ _ (Option.some.inj h).symm (Nat.le_of_ble_eq_true rfl) (Nat.le_of_ble_eq_true rfl) Y (dk T_X10_sheet 17 rfl)
    replace h := ineg c9 h
    rcases Decidable.em (x2 = 4) with c11 | c11
    · replace h := ipos c11 h
      refine lv_tableIn (tgt := 83) (off := 77) X.1 X.2.1 (dk T_X10_sheet 4 rfl) (ts1 c11 (by decide)) (ts2 c11 (by decide)) (ts3 c11 (by decide)) rfl ?_
      refine lv_aload_n X.1 X.2.1 (dk T_X10_sheet 18 rfl) rfl (lv_at hl 0 rfl) ?_
      refine gg X Y fl_X10_12 rfl rfl (dk T_X10_sheet 19 rfl) ?_
      refine lv_iload_n X.1 X.2.1 (dk T_X10_sheet 20 rfl) rfl (lv_at hl 1 rfl) ?_
      refine lv_bipush (v := (-2)) X.1 X.2.1 (dk T_X10_sheet 21 rfl) bp_m2 ?_
      obtain ⟨q12, hq12, h⟩ := bs h
      refine gvIx (rest := []) X Y (c_X8_cellsWith 1 rfl x1 (-2) t4 hq12) cb_X10_149 rfl hl.1 rfl rfl (Nat.le_of_ble_eq_true rfl) ⟨Nat.le_of_ble_eq_true rfl, Nat.le_of_ble_eq_true rfl⟩ ⟨Nat.le_of_ble_eq_true rfl, Nat.le_of_ble_eq_true rfl⟩ (dk T_X10_sheet 22 rfl) (fun H locs Y => ?_)
      exact KR q12 t4 _ _ _ _ _ _ (Option.some.inj h).symm (Nat.le_of_ble_eq_true rfl) (Nat.le_of_ble_eq_true rfl) Y (dk T_X10_sheet 23 rfl)
    replace h := ineg c11 h
    rcases Decidable.em (x2 = 5) with c13 | c13
    · replace h := ipos c13 h
      refine lv_tableIn (tgt := 94) (off := 88) X.1 X.2.1 (dk T_X10_sheet 4 rfl) (ts1 c13 (by decide)) (ts2 c13 (by decide)) (ts3 c13 (by decide)) rfl ?_
      refine lv_aload_n X.1 X.2.1 (dk T_X10_sheet 24 rfl) rfl (lv_at hl 0 rfl) ?_
      refine gg X Y fl_X10_12 rfl rfl (dk T_X10_sheet 25 rfl) ?_
      refine lv_iload_n X.1 X.2.1 (dk T_X10_sheet 26 rfl) rfl (lv_at hl 1 rfl) ?_
      obtain ⟨q14, hq14, h⟩ := bs h
      refine gvIx (rest := []) X Y (c_X8_coveredCells 1 rfl x1 t4 hq14) cb_X10_159 rfl hl.1 rfl rfl (Nat.le_of_ble_eq_true rfl) ⟨Nat.le_of_ble_eq_true rfl, Nat.le_of_ble_eq_true rfl⟩ ⟨Nat.le_of_ble_eq_true rfl, Nat.le_of_ble_eq_true rfl⟩ (dk T_X10_sheet 27 rfl) (fun H locs Y => ?_)
      exact KR q14 t4 _ _ _ _ _ _ (Option.some.inj h).symm (Nat.le_of_ble_eq_true rfl) (Nat.le_of_ble_eq_true rfl) Y (dk T_X10_sheet 28 rfl)
    replace h := ineg c13 h
    rcases Decidable.em (x2 = 6) with c15 | c15
    · replace h := ipos c15 h
      refine lv_tableIn (tgt := 103) (off := 97) X.1 X.2.1 (dk T_X10_sheet 4 rfl) (ts1 c15 (by decide)) (ts2 c15 (by decide)) (ts3 c15 (by decide)) rfl ?_
      refine lv_aload_n X.1 X.2.1 (dk T_X10_sheet 29 rfl) rfl (lv_at hl 0 rfl) ?_
      refine gg X Y fl_X10_12 rfl rfl (dk T_X10_sheet 30 rfl) ?_
      refine ggN X Y fl_X10_163 rfl rfl (dk T_X10_sheet 31 rfl) ?_
      refine lv_iconst (v := 1) X.1 X.2.1 (dk T_X10_sheet 32 rfl) ic_1 ?_
      refine lv_iload_n X.1 X.2.1 (dk T_X10_sheet 33 rfl) rfl (lv_at hl 1 rfl) ?_
      obtain ⟨q16, hq16, h⟩ := bs h
      refine gvIx (rest := []) X Y (c_X9_rowsWith 6 rfl 1 x1 t4 hq16) cb_X10_166 rfl hl.1 rfl rfl (Nat.le_of_ble_eq_true rfl) ⟨Nat.le_of_ble_eq_true rfl, Nat.le_of_ble_eq_true rfl⟩ ⟨Nat.le_of_ble_eq_true rfl, Nat.le_of_ble_eq_true rfl⟩ (dk T_X10_sheet 34 rfl) (fun H locs Y => ?_)
      exact KR q16 t4 _ _ _ _ _ _ (Option.some.inj h).symm (Nat.le_of_ble_eq_true rfl) (Nat.le_of_ble_eq_true rfl) Y (dk T_X10_sheet 35 rfl)
    replace h := ineg c15 h
    rcases Decidable.em (x2 = 7) with c17 | c17
    · replace h := ipos c17 h
      refine lv_tableIn (tgt := 116) (off := 110) X.1 X.2.1 (dk T_X10_sheet 4 rfl) (ts1 c17 (by decide)) (ts2 c17 (by decide)) (ts3 c17 (by decide)) rfl ?_
      refine lv_aload_n X.1 X.2.1 (dk T_X10_sheet 36 rfl) rfl (lv_at hl 0 rfl) ?_
      refine gg X Y fl_X10_12 rfl rfl (dk T_X10_sheet 37 rfl) ?_
      refine lv_iload_n X.1 X.2.1 (dk T_X10_sheet 38 rfl) rfl (lv_at hl 1 rfl) ?_
      refine lv_iconst (v := 0) X.1 X.2.1 (dk T_X10_sheet 39 rfl) ic_0 ?_
      obtain ⟨q18, hq18, h⟩ := bs h
      refine gvIx (rest := []) X Y (c_X8_cutsOn 1 rfl x1 0 t4 hq18) cb_X10_169 rfl hl.1 rfl rfl (Nat.le_of_ble_eq_true rfl) ⟨Nat.le_of_ble_eq_true rfl, Nat.le_of_ble_eq_true rfl⟩ ⟨Nat.le_of_ble_eq_true rfl, Nat.le_of_ble_eq_true rfl⟩ (dk T_X10_sheet 40 rfl) (fun H locs Y => ?_)
      exact KR q18 t4 _ _ _ _ _ _ (Option.some.inj h).symm (Nat.le_of_ble_eq_true rfl) (Nat.le_of_ble_eq_true rfl) Y (dk T_X10_sheet 41 rfl)
    replace h := ineg c17 h
    rcases Decidable.em (x2 = 8) with c19 | c19
    · replace h := ipos c19 h
      refine lv_tableIn (tgt := 126) (off := 120) X.1 X.2.1 (dk T_X10_sheet 4 rfl) (ts1 c19 (by decide)) (ts2 c19 (by decide)) (ts3 c19 (by decide)) rfl ?_
      refine lv_aload_n X.1 X.2.1 (dk T_X10_sheet 42 rfl) rfl (lv_at hl 0 rfl) ?_
      refine gg X Y fl_X10_12 rfl rfl (dk T_X10_sheet 43 rfl) ?_
      refine lv_iload_n X.1 X.2.1 (dk T_X10_sheet 44 rfl) rfl (lv_at hl 1 rfl) ?_
      refine lv_iconst (v := 1) X.1 X.2.1 (dk T_X10_sheet 45 rfl) ic_1 ?_
      obtain ⟨q20, hq20, h⟩ := bs h
      refine gvIx (rest := []) X Y (c_X8_cutsOn 1 rfl x1 1 t4 hq20) cb_X10_169 rfl hl.1 rfl rfl (Nat.le_of_ble_eq_true rfl) ⟨Nat.le_of_ble_eq_true rfl, Nat.le_of_ble_eq_true rfl⟩ ⟨Nat.le_of_ble_eq_true rfl, Nat.le_of_ble_eq_true rfl⟩ (dk T_X10_sheet 46 rfl) (fun H locs Y => ?_)
      exact KR q20 t4 _ _ _ _ _ _ (Option.some.inj h).symm (Nat.le_of_ble_eq_true rfl) (Nat.le_of_ble_eq_true rfl) Y (dk T_X10_sheet 47 rfl)
    replace h := ineg c19 h
    rcases Decidable.em (x2 = 9) with c21 | c21
    · replace h := ipos c21 h
      refine lv_tableIn (tgt := 136) (off := 130) X.1 X.2.1 (dk T_X10_sheet 4 rfl) (ts1 c21 (by decide)) (ts2 c21 (by decide)) (ts3 c21 (by decide)) rfl ?_
      refine lv_aload_n X.1 X.2.1 (dk T_X10_sheet 48 rfl) rfl (lv_at hl 0 rfl) ?_
      refine gg X Y fl_X10_56 rfl rfl (dk T_X10_sheet 49 rfl) ?_
      refine lv_aload_n X.1 X.2.1 (dk T_X10_sheet 50 rfl) rfl (lv_at hl 0 rfl) ?_
      refine gg X Y fl_X10_12 rfl rfl (dk T_X10_sheet 51 rfl) ?_
      refine lv_iload_n X.1 X.2.1 (dk T_X10_sheet 52 rfl) rfl (lv_at hl 1 rfl) ?_
      obtain ⟨q22, hq22, h⟩ := bs h
      refine gvIx (rest := []) X Y (c_X4_findRemnants 1 rfl x1 t4 hq22) cb_X10_173 rfl hl.1 rfl rfl (Nat.le_of_ble_eq_true rfl) ⟨Nat.le_of_ble_eq_true rfl, Nat.le_of_ble_eq_true rfl⟩ ⟨Nat.le_of_ble_eq_true rfl, Nat.le_of_ble_eq_true rfl⟩ (dk T_X10_sheet 53 rfl) (fun H locs Y => ?_)
      exact KR q22.1 q22.2 _ _ _ _ _ _ (Option.some.inj h).symm (Nat.le_of_ble_eq_true rfl) (Nat.le_of_ble_eq_true rfl) Y (dk T_X10_sheet 54 rfl)
    replace h := ineg c21 h
    refine lv_tableOut (tgt := 149) X.1 X.2.1 (dk T_X10_sheet 4 rfl) (ts10n c5 c7 c8 c9 c11 c13 c15 c17 c19 c21) rfl ?_
    exact KT "java/lang/IllegalArgumentException" "what is not valid" 86 177 90 _ _ _ _ _ _ _ _ th_86_177_90 (Option.some.inj h).symm Y hl.1 (Nat.le_of_ble_eq_true rfl) ⟨(dk T_X10_sheet 55 rfl), (dk T_X10_sheet 56 rfl), Or.inl ⟨(dk T_X10_sheet 57 rfl), (dk T_X10_sheet 58 rfl), (dk T_X10_sheet 59 rfl)⟩⟩ (Nat.le_of_ble_eq_true rfl) (Nat.le_of_ble_eq_true rfl)
def f_X10_sheet (x1 : Int32) (x2 : Int32) (σ : St) : Option ((String × St) ⊕ (Int32 × St)) := f_X10_sheet_0 x1 x2 σ
set_option maxHeartbeats 4000000 in
set_option maxRecDepth 100000 in
theorem c_X10_sheet {l : Launch} {g : Geo} (x1 : Int32) (x2 : Int32) (σ : St) {w : (String × St) ⊕ (Int32 × St)} (h : f_X10_sheet x1 x2 σ = some w) : CtT l yX10_sheet cX10_sheet 3 (some .int) 7 111 2 12 g [.ref (g.2.2 (0)), .int (x1), .int (x2)] σ w := enT .int (by decide) rfl (fun _ _ _ => rfl) (Nat.le_of_ble_eq_true rfl) ⟨Nat.le_of_ble_eq_true rfl, Nat.le_of_ble_eq_true rfl⟩ (fun p e s m args below meth c Q X TX hst Y ls hl KR KT KO => w_X10_sheet_0 X TX hst x1 x2 σ KR KT KO Y hl h)
def I_X10_cell : List (Nat × Instr × Nat) := [(0, .aload_n 0, 1), (1, .iload_n 1, 1), (2, .iload_n 2, 1), (3, .invokevirtual 132, 3), (6, .aload_n 0, 1), (7, .getfield 12, 3), (10, .iload_n 1, 1), (11, .iload_n 2, 1), (12, .invokevirtual 136, 3), (15, .ireturn, 1)]
set_option maxRecDepth 100000 in
theorem T_X10_cell : ∀ q ∈ I_X10_cell, decode cX10_cell q.1 = .ok (q.2.1, q.2.2) := by decide +kernel
def f_X10_cell_0 (x1 : Int32) (x2 : Int32) (σ : St) : Option ((String × St) ⊕ (Int32 × St)) :=
  (f_X10_checkCell x1 x2 σ).bind fun q1 => Sum.elim (fun x => some (.inl x)) (fun q1 => (f_X8_onCell 1 x1 x2 q1).bind fun q5 => some (.inr (q5, q1))) q1
set_option maxHeartbeats 4000000 in
set_option maxRecDepth 100000 in
theorem w_X10_cell_0 (X : Cx g RX10 cX10_cell 3 (some .int) p s m args meth c) (TX : TXs g (GA g s.heap.size) s s.heap) (hst : l.stackTraces = false) (x1 : Int32) (x2 : Int32) (σ : St) {w : (String × St) ⊕ (Int32 × St)} (KR : ∀ (v : Int32) (τ : St) (H : Heap) (locs : List Loc) (ls : Array Slot) (pc k n : Nat), w = .inr (v, τ) → k ≤ 2 → n ≤ 12 → Wd g s τ H locs → decode cX10_cell pc = .ok (.ireturn, 1) → W p l e (rmT 8 133 2 12) s m args below meth c H locs k n Q (F0 m pc ls [.int v])) (KT : ∀ (E text : String) (ik is ic : Nat) (τ : St) (H : Heap) (locs : List Loc) (ls : Array Slot) (pc : Nat) (rest : List Value) (k n : Nat), THx RX10 E text ik is ic → w = .inl (E, τ) → Wd g s τ H locs → ls.size = 3 → (rest.map fun v => v.category).sum ≤ 8 → (decode cX10_cell pc = .ok (.new ik, 3) ∧ decode cX10_cell (pc + 3) = .ok (.dup, 1) ∧ ((decode cX10_cell (pc + 4) = .ok (.ldc is, 2) ∧ decode cX10_cell (pc + 6) = .ok (.invokespecial ic, 3) ∧ decode cX10_cell (pc + 9) = .ok (.athrow, 1)) ∨ (decode cX10_cell (pc + 4) = .ok (.ldc_w is, 3) ∧ decode cX10_cell (pc + 7) = .ok (.invokespecial ic, 3) ∧ decode cX10_cell (pc + 10) = .ok (.athrow, 1)))) → k + 1 ≤ 2 → n + 6 ≤ 12 → W p l e (rmT 8 133 2 12) s m args below meth c H locs k n Q (F0 m pc ls rest)) (KO : ∀ (E : String) (τ : St) (ce : Cell) (q9 : Addr) (H : Heap) (locs : List Loc) (ls : Array Slot) (pc : Nat) (rest : List Value) (k n : Nat), w = .inl (E, τ) → Wd g s τ H locs → H[q9]? = some ce → ce.vm = .none → s.vm.findClass E = some ce.cls → k ≤ 2 → n ≤ 12 → vx_W p l e (rmT 8 133 2 12) s m args below meth c H locs k n Q (F0 m pc ls rest) q9) {H : Heap} {locs : List Loc} {ls : Array Slot} (Y : Wd g s σ H locs) (hl : lv_has ls 3 [(0, .ref (g.2.2 (0))), (1, .int (x1)), (2, .int (x2))]) (h : f_X10_cell_0 x1 x2 σ = some w) : W p l e (rmT 8 133 2 12) s m args below meth c H locs 0 0 Q (F0 m 0 ls []) := by
  unfold f_X10_cell_0 at h
  refine lv_aload_n X.1 X.2.1 (dk T_X10_cell 0 rfl) rfl (lv_at hl 0 rfl) ?_
  refine lv_iload_n X.1 X.2.1 (dk T_X10_cell 1 rfl) rfl (lv_at hl 1 rfl) ?_
  refine lv_iload_n X.1 X.2.1 (dk T_X10_cell 2 rfl) rfl (lv_at hl 2 rfl) ?_
  obtain ⟨q1, hq1, h⟩ := bs h
  refine gvTV (rest := []) X TX hst Y (c_X10_checkCell x1 x2 σ hq1) cb_X10_132 rfl hl.1 rfl rfl (Nat.le_of_ble_eq_true rfl) ⟨(Nat.le_of_ble_eq_true rfl), (Nat.le_of_ble_eq_true rfl)⟩ ⟨(Nat.le_of_ble_eq_true rfl), (Nat.le_of_ble_eq_true rfl)⟩ (dk T_X10_cell 3 rfl) (fun E τ ce q9 H locs e2 Y h1 h2 h3 => ?_) (fun t4 H locs e2 Y => ?_)
  · subst e2; replace h := sel h
    exact KO E τ ce q9 _ _ _ _ _ _ _ (Option.some.inj h).symm Y h1 h2 h3 (Nat.le_of_ble_eq_true rfl) (Nat.le_of_ble_eq_true rfl)
  · subst e2; replace h := ser h; try dsimp only at h
    refine lv_aload_n X.1 X.2.1 (dk T_X10_cell 4 rfl) rfl (lv_at hl 0 rfl) ?_
    refine gg X Y fl_X10_12 rfl rfl (dk T_X10_cell 5 rfl) ?_
    refine lv_iload_n X.1 X.2.1 (dk T_X10_cell 6 rfl) rfl (lv_at hl 1 rfl) ?_
    refine lv_iload_n X.1 X.2.1 (dk T_X10_cell 7 rfl) rfl (lv_at hl 2 rfl) ?_
    obtain ⟨q5, hq5, h⟩ := bs h
    refine gvIx (rest := []) X Y (c_X8_onCell 1 rfl x1 x2 t4 hq5) cb_X10_136 rfl hl.1 rfl rfl (Nat.le_of_ble_eq_true rfl) ⟨Nat.le_of_ble_eq_true rfl, Nat.le_of_ble_eq_true rfl⟩ ⟨Nat.le_of_ble_eq_true rfl, Nat.le_of_ble_eq_true rfl⟩ (dk T_X10_cell 8 rfl) (fun H locs Y => ?_)
    exact KR q5 t4 _ _ _ _ _ _ (Option.some.inj h).symm (Nat.le_of_ble_eq_true rfl) (Nat.le_of_ble_eq_true rfl) Y (dk T_X10_cell 9 rfl)
def f_X10_cell (x1 : Int32) (x2 : Int32) (σ : St) : Option ((String × St) ⊕ (Int32 × St)) := f_X10_cell_0 x1 x2 σ
set_option maxHeartbeats 4000000 in
set_option maxRecDepth 100000 in
theorem c_X10_cell {l : Launch} {g : Geo} (x1 : Int32) (x2 : Int32) (σ : St) {w : (String × St) ⊕ (Int32 × St)} (h : f_X10_cell x1 x2 σ = some w) : CtT l yX10_cell cX10_cell 3 (some .int) 8 133 2 12 g [.ref (g.2.2 (0)), .int (x1), .int (x2)] σ w := enT .int (by decide) rfl (fun _ _ _ => rfl) (Nat.le_of_ble_eq_true rfl) ⟨Nat.le_of_ble_eq_true rfl, Nat.le_of_ble_eq_true rfl⟩ (fun p e s m args below meth c Q X TX hst Y ls hl KR KT KO => w_X10_cell_0 X TX hst x1 x2 σ KR KT KO Y hl h)
def I_X10_checkShape : List (Nat × Instr × Nat) := [(0, .aload_n 0, 1), (1, .getfield 12, 3), (4, .getfield 123, 3), (7, .iload_n 1, 1), (8, .invokevirtual 335, 3), (11, .ifCond .ne 14, 3), (14, .new 336, 3), (17, .dup, 1), (18, .ldc_w 343, 3), (21, .invokespecial 340, 3), (24, .athrow, 1), (25, .return_, 1)]
set_option maxRecDepth 100000 in
theorem T_X10_checkShape : ∀ q ∈ I_X10_checkShape, decode cX10_checkShape q.1 = .ok (q.2.1, q.2.2) := by decide +kernel
def f_X10_checkShape_0 (x1 : Int32) (σ : St) : Option ((String × St) ⊕ St) :=
  (f_X9_has 4 x1 σ).bind fun q1 => if q1 = 0 then some (.inl ("java/lang/IndexOutOfBoundsException", σ)) else some (.inr σ)
set_option maxHeartbeats 4000000 in
set_option maxRecDepth 100000 in
theorem w_X10_checkShape_0 (X : Cx g RX10 cX10_checkShape 2 none p s m args meth c) (TX : TXs g (GA g s.heap.size) s s.heap) (hst : l.stackTraces = false) (x1 : Int32) (σ : St) {w : (String × St) ⊕ St} (KR : ∀ (τ : St) (H : Heap) (locs : List Loc) (ls : Array Slot) (pc k n : Nat), w = .inr τ → k ≤ 1 → n ≤ 6 → Wd g s τ H locs → decode cX10_checkShape pc = .ok (.return_, 1) → W p l e (rmT 6 90 1 6) s m args below meth c H locs k n Q (F0 m pc ls [])) (KT : ∀ (E text : String) (ik is ic : Nat) (τ : St) (H : Heap) (locs : List Loc) (ls : Array Slot) (pc : Nat) (rest : List Value) (k n : Nat), THx RX10 E text ik is ic → w = .inl (E, τ) → Wd g s τ H locs → ls.size = 2 → (rest.map fun v => v.category).sum ≤ 8 → (decode cX10_checkShape pc = .ok (.new ik, 3) ∧ decode cX10_checkShape (pc + 3) = .ok (.dup, 1) ∧ ((decode cX10_checkShape (pc + 4) = .ok (.ldc is, 2) ∧ decode cX10_checkShape (pc + 6) = .ok (.invokespecial ic, 3) ∧ decode cX10_checkShape (pc + 9) = .ok (.athrow, 1)) ∨ (decode cX10_checkShape (pc + 4) = .ok (.ldc_w is, 3) ∧ decode cX10_checkShape (pc + 7) = .ok (.invokespecial ic, 3) ∧ decode cX10_checkShape (pc + 10) = .ok (.athrow, 1)))) → k + 1 ≤ 1 → n + 6 ≤ 6 → W p l e (rmT 6 90 1 6) s m args below meth c H locs k n Q (F0 m pc ls rest)) (KO : ∀ (E : String) (τ : St) (ce : Cell) (q9 : Addr) (H : Heap) (locs : List Loc) (ls : Array Slot) (pc : Nat) (rest : List Value) (k n : Nat), w = .inl (E, τ) → Wd g s τ H locs → H[q9]? = some ce → ce.vm = .none → s.vm.findClass E = some ce.cls → k ≤ 1 → n ≤ 6 → vx_W p l e (rmT 6 90 1 6) s m args below meth c H locs k n Q (F0 m pc ls rest) q9) {H : Heap} {locs : List Loc} {ls : Array Slot} (Y : Wd g s σ H locs) (hl : lv_has ls 2 [(0, .ref (g.2.2 (0))), (1, .int (x1))]) (h : f_X10_checkShape_0 x1 σ = some w) : W p l e (rmT 6 90 1 6) s m args below meth c H locs 0 0 Q (F0 m 0 ls []) := by
  unfold f_X10_checkShape_0 at h
  refine lv_aload_n X.1 X.2.1 (dk T_X10_checkShape 0 rfl) rfl (lv_at hl 0 rfl) ?_
  refine gg X Y fl_X10_12 rfl rfl (dk T_X10_checkShape 1 rfl) ?_
  refine ggN X Y fl_X10_123 rfl rfl (dk T_X10_checkShape 2 rfl) ?_
  refine lv_iload_n X.1 X.2.1 (dk T_X10_checkShape 3 rfl) rfl (lv_at hl 1 rfl) ?_
  obtain ⟨q1, hq1, h⟩ := bs h
  refine gvIx (rest := []) X Y (c_X9_has 4 rfl x1 σ hq1) cb_X10_335 rfl hl.1 rfl rfl (Nat.le_of_ble_eq_true rfl) ⟨Nat.le_of_ble_eq_true rfl, Nat.le_of_ble_eq_true rfl⟩ ⟨Nat.le_of_ble_eq_true rfl, Nat.le_of_ble_eq_true rfl⟩ (dk T_X10_checkShape 4 rfl) (fun H locs Y => ?_)
  refine lv_if_ne (tgt := 25) X.1 X.2.1 (dk T_X10_checkShape 5 rfl) rfl (fun c2 => ?_) (fun c2 => ?_)
  · replace h := ineg c2 h
    exact KR σ _ _ _ _ _ _ (Option.some.inj h).symm (Nat.le_of_ble_eq_true rfl) (Nat.le_of_ble_eq_true rfl) Y (dk T_X10_checkShape 11 rfl)
  · replace h := ipos c2 h
    exact KT "java/lang/IndexOutOfBoundsException" "there is no such shape" 336 343 340 _ _ _ _ _ _ _ _ th_336_343_340 (Option.some.inj h).symm Y hl.1 (Nat.le_of_ble_eq_true rfl) ⟨(dk T_X10_checkShape 6 rfl), (dk T_X10_checkShape 7 rfl), Or.inr ⟨(dk T_X10_checkShape 8 rfl), (dk T_X10_checkShape 9 rfl), (dk T_X10_checkShape 10 rfl)⟩⟩ (Nat.le_of_ble_eq_true rfl) (Nat.le_of_ble_eq_true rfl)
def f_X10_checkShape (x1 : Int32) (σ : St) : Option ((String × St) ⊕ St) := f_X10_checkShape_0 x1 σ
set_option maxHeartbeats 4000000 in
set_option maxRecDepth 100000 in
theorem c_X10_checkShape {l : Launch} {g : Geo} (x1 : Int32) (σ : St) {w : (String × St) ⊕ St} (h : f_X10_checkShape x1 σ = some w) : CtTV l yX10_checkShape cX10_checkShape 2 none 6 90 1 6 g [.ref (g.2.2 (0)), .int (x1)] σ w := enTV (by decide) rfl (Nat.le_of_ble_eq_true rfl) ⟨Nat.le_of_ble_eq_true rfl, Nat.le_of_ble_eq_true rfl⟩ (fun p e s m args below meth c Q X TX hst Y ls hl KR KT KO => w_X10_checkShape_0 X TX hst x1 σ KR KT KO Y hl h)
def I_X10_shape : List (Nat × Instr × Nat) := [(0, .aload_n 0, 1), (1, .iload_n 1, 1), (2, .invokevirtual 179, 3), (5, .iload_n 2, 1), (6, .tableswitch 90 0 7 #[46, 46, 46, 46, 46, 59, 68, 81], 46), (52, .aload_n 0, 1), (53, .getfield 12, 3), (56, .getfield 123, 3), (59, .iload_n 1, 1), (60, .iload_n 2, 1), (61, .invokevirtual 156, 3), (64, .ireturn, 1), (65, .aload_n 0, 1), (66, .getfield 12, 3), (69, .iload_n 1, 1), (70, .invokevirtual 182, 3), (73, .ireturn, 1), (74, .aload_n 0, 1), (75, .getfield 12, 3), (78, .getfield 163, 3), (81, .iconst 0, 1), (82, .iload_n 1, 1), (83, .invokevirtual 166, 3), (86, .ireturn, 1), (87, .aload_n 0, 1), (88, .getfield 12, 3), (91, .iload_n 1, 1), (92, .invokevirtual 185, 3), (95, .ireturn, 1), (96, .new 86, 3), (99, .dup, 1), (100, .ldc 177, 2), (102, .invokespecial 90, 3), (105, .athrow, 1)]
set_option maxRecDepth 100000 in
theorem T_X10_shape : ∀ q ∈ I_X10_shape, decode cX10_shape q.1 = .ok (q.2.1, q.2.2) := by decide +kernel
def f_X10_shape_j52 (x1 : Int32) (x2 : Int32) (σ : St) : Option ((String × St) ⊕ (Int32 × St)) :=
  (f_X9_get 4 x1 x2 σ).bind fun q6 => some (.inr (q6, σ))
set_option maxHeartbeats 4000000 in
set_option maxRecDepth 100000 in
theorem w_X10_shape_j52 (X : Cx g RX10 cX10_shape 3 (some .int) p s m args meth c) (TX : TXs g (GA g s.heap.size) s s.heap) (hst : l.stackTraces = false) (x1 : Int32) (x2 : Int32) (σ : St) {w : (String × St) ⊕ (Int32 × St)} (KR : ∀ (v : Int32) (τ : St) (H : Heap) (locs : List Loc) (ls : Array Slot) (pc k n : Nat), w = .inr (v, τ) → k ≤ 2 → n ≤ 12 → Wd g s τ H locs → decode cX10_shape pc = .ok (.ireturn, 1) → W p l e (rmT 7 111 2 12) s m args below meth c H locs k n Q (F0 m pc ls [.int v])) (KT : ∀ (E text : String) (ik is ic : Nat) (τ : St) (H : Heap) (locs : List Loc) (ls : Array Slot) (pc : Nat) (rest : List Value) (k n : Nat), THx RX10 E text ik is ic → w = .inl (E, τ) → Wd g s τ H locs → ls.size = 3 → (rest.map fun v => v.category).sum ≤ 8 → (decode cX10_shape pc = .ok (.new ik, 3) ∧ decode cX10_shape (pc + 3) = .ok (.dup, 1) ∧ ((decode cX10_shape (pc + 4) = .ok (.ldc is, 2) ∧ decode cX10_shape (pc + 6) = .ok (.invokespecial ic, 3) ∧ decode cX10_shape (pc + 9) = .ok (.athrow, 1)) ∨ (decode cX10_shape (pc + 4) = .ok (.ldc_w is, 3) ∧ decode cX10_shape (pc + 7) = .ok (.invokespecial ic, 3) ∧ decode cX10_shape (pc + 10) = .ok (.athrow, 1)))) → k + 1 ≤ 2 → n + 6 ≤ 12 → W p l e (rmT 7 111 2 12) s m args below meth c H locs k n Q (F0 m pc ls rest)) (KO : ∀ (E : String) (τ : St) (ce : Cell) (q9 : Addr) (H : Heap) (locs : List Loc) (ls : Array Slot) (pc : Nat) (rest : List Value) (k n : Nat), w = .inl (E, τ) → Wd g s τ H locs → H[q9]? = some ce → ce.vm = .none → s.vm.findClass E = some ce.cls → k ≤ 2 → n ≤ 12 → vx_W p l e (rmT 7 111 2 12) s m args below meth c H locs k n Q (F0 m pc ls rest) q9) {H : Heap} {locs : List Loc} {ls : Array Slot} (Y : Wd g s σ H locs) (hl : lv_has ls 3 [(0, .ref (g.2.2 (0))), (1, .int (x1)), (2, .int (x2))]) (h : f_X10_shape_j52 x1 x2 σ = some w) : W p l e (rmT 7 111 2 12) s m args below meth c H locs 1 6 Q (F0 m 52 ls []) := by
  unfold f_X10_shape_j52 at h
  refine lv_aload_n X.1 X.2.1 (dk T_X10_shape 5 rfl) rfl (lv_at hl 0 rfl) ?_
  refine gg X Y fl_X10_12 rfl rfl (dk T_X10_shape 6 rfl) ?_
  refine ggN X Y fl_X10_123 rfl rfl (dk T_X10_shape 7 rfl) ?_
  refine lv_iload_n X.1 X.2.1 (dk T_X10_shape 8 rfl) rfl (lv_at hl 1 rfl) ?_
  refine lv_iload_n X.1 X.2.1 (dk T_X10_shape 9 rfl) rfl (lv_at hl 2 rfl) ?_
  obtain ⟨q6, hq6, h⟩ := bs h
  refine gvIx (rest := []) X Y (c_X9_get 4 rfl x1 x2 σ hq6) cb_X10_156 rfl hl.1 rfl rfl (Nat.le_of_ble_eq_true rfl) ⟨Nat.le_of_ble_eq_true rfl, Nat.le_of_ble_eq_true rfl⟩ ⟨Nat.le_of_ble_eq_true rfl, Nat.le_of_ble_eq_true rfl⟩ (dk T_X10_shape 10 rfl) (fun H locs Y => ?_)
  exact KR q6 σ _ _ _ _ _ _ (Option.some.inj h).symm (Nat.le_of_ble_eq_true rfl) (Nat.le_of_ble_eq_true rfl) Y (dk T_X10_shape 11 rfl)
def f_X10_shape_0 (x1 : Int32) (x2 : Int32) (σ : St) : Option ((String × St) ⊕ (Int32 × St)) :=
  (f_X10_checkShape x1 σ).bind fun q1 => Sum.elim (fun x => some (.inl x)) (fun q1 => if x2 = 0 then f_X10_shape_j52 x1 x2 q1 else if x2 = 1 then f_X10_shape_j52 x1 x2 q1 else if x2 = 2 then f_X10_shape_j52 x1 x2 q1 else if x2 = 3 then f_X10_shape_j52 x1 x2 q1 else if x2 = 4 then f_X10_shape_j52 x1 x2 q1 else if x2 = 5 then (f_X8_sizeOf 1 x1 q1).bind fun q12 => some (.inr (q12, q1)) else if x2 = 6 then (f_X9_rowsWith 6 0 x1 q1).bind fun q14 => some (.inr (q14, q1)) else if x2 = 7 then (f_X8_differentTurns 1 x1 q1).bind fun q16 => some (.inr (q16, q1)) else some (.inl ("java/lang/IllegalArgumentException", q1))) q1
set_option maxHeartbeats 4000000 in
set_option maxRecDepth 100000 in
theorem w_X10_shape_0 (X : Cx g RX10 cX10_shape 3 (some .int) p s m args meth c) (TX : TXs g (GA g s.heap.size) s s.heap) (hst : l.stackTraces = false) (x1 : Int32) (x2 : Int32) (σ : St) {w : (String × St) ⊕ (Int32 × St)} (KR : ∀ (v : Int32) (τ : St) (H : Heap) (locs : List Loc) (ls : Array Slot) (pc k n : Nat), w = .inr (v, τ) → k ≤ 2 → n ≤ 12 → Wd g s τ H locs → decode cX10_shape pc = .ok (.ireturn, 1) → W p l e (rmT 7 111 2 12) s m args below meth c H locs k n Q (F0 m pc ls [.int v])) (KT : ∀ (E text : String) (ik is ic : Nat) (τ : St) (H : Heap) (locs : List Loc) (ls : Array Slot) (pc : Nat) (rest : List Value) (k n : Nat), THx RX10 E text ik is ic → w = .inl (E, τ) → Wd g s τ H locs → ls.size = 3 → (rest.map fun v => v.category).sum ≤ 8 → (decode cX10_shape pc = .ok (.new ik, 3) ∧ decode cX10_shape (pc + 3) = .ok (.dup, 1) ∧ ((decode cX10_shape (pc + 4) = .ok (.ldc is, 2) ∧ decode cX10_shape (pc + 6) = .ok (.invokespecial ic, 3) ∧ decode cX10_shape (pc + 9) = .ok (.athrow, 1)) ∨ (decode cX10_shape (pc + 4) = .ok (.ldc_w is, 3) ∧ decode cX10_shape (pc + 7) = .ok (.invokespecial ic, 3) ∧ decode cX10_shape (pc + 10) = .ok (.athrow, 1)))) → k + 1 ≤ 2 → n + 6 ≤ 12 → W p l e (rmT 7 111 2 12) s m args below meth c H locs k n Q (F0 m pc ls rest)) (KO : ∀ (E : String) (τ : St) (ce : Cell) (q9 : Addr) (H : Heap) (locs : List Loc) (ls : Array Slot) (pc : Nat) (rest : List Value) (k n : Nat), w = .inl (E, τ) → Wd g s τ H locs → H[q9]? = some ce → ce.vm = .none → s.vm.findClass E = some ce.cls → k ≤ 2 → n ≤ 12 → vx_W p l e (rmT 7 111 2 12) s m args below meth c H locs k n Q (F0 m pc ls rest) q9) {H : Heap} {locs : List Loc} {ls : Array Slot} (Y : Wd g s σ H locs) (hl : lv_has ls 3 [(0, .ref (g.2.2 (0))), (1, .int (x1)), (2, .int (x2))]) (h : f_X10_shape_0 x1 x2 σ = some w) : W p l e (rmT 7 111 2 12) s m args below meth c H locs 0 0 Q (F0 m 0 ls []) := by
  unfold f_X10_shape_0 at h
  refine lv_aload_n X.1 X.2.1 (dk T_X10_shape 0 rfl) rfl (lv_at hl 0 rfl) ?_
  refine lv_iload_n X.1 X.2.1 (dk T_X10_shape 1 rfl) rfl (lv_at hl 1 rfl) ?_
  obtain ⟨q1, hq1, h⟩ := bs h
  refine gvTV (rest := []) X TX hst Y (c_X10_checkShape x1 σ hq1) cb_X10_179 rfl hl.1 rfl rfl (Nat.le_of_ble_eq_true rfl) ⟨(Nat.le_of_ble_eq_true rfl), (Nat.le_of_ble_eq_true rfl)⟩ ⟨(Nat.le_of_ble_eq_true rfl), (Nat.le_of_ble_eq_true rfl)⟩ (dk T_X10_shape 2 rfl) (fun E τ ce q9 H locs e2 Y h1 h2 h3 => ?_) (fun t4 H locs e2 Y => ?_)
  · subst e2; replace h := sel h
    exact KO E τ ce q9 _ _ _ _ _ _ _ (Option.some.inj h).symm Y h1 h2 h3 (Nat.le_of_ble_eq_true rfl) (Nat.le_of_ble_eq_true rfl)
  · subst e2; replace h := ser h; try dsimp only at h
    refine lv_iload_n X.1 X.2.1 (dk T_X10_shape 3 rfl) rfl (lv_at hl 2 rfl) ?_
    rcases Decidable.em (x2 = 0) with c5 | c5
    · replace h := ipos c5 h
      refine lv_tableIn (tgt := 52) (off := 46) X.1 X.2.1 (dk T_X10_shape 4 rfl) (ts1 c5 (by decide)) (ts2 c5 (by decide)) (ts3 c5 (by decide)) rfl ?_
      exact w_X10_shape_j52 X TX hst x1 x2 t4 KR KT KO Y (lv_sub hl [0, 1, 2] rfl) h
    replace h := ineg c5 h
    rcases Decidable.em (x2 = 1) with c7 | c7
    · replace h := ipos c7 h
      refine lv_tableIn (tgt := 52) (off := 46) X.1 X.2.1 (dk T_X10_shape 4 rfl) (ts1 c7 (by decide)) (ts2 c7 (by decide)) (ts3 c7 (by decide)) rfl ?_
      exact w_X10_shape_j52 X TX hst x1 x2 t4 KR KT KO Y (lv_sub hl [0, 1, 2] rfl) h
    replace h := ineg c7 h
    rcases Decidable.em (x2 = 2) with c8 | c8
    · replace h := ipos c8 h
      refine lv_tableIn (tgt := 52) (off := 46) X.1 X.2.1 (dk T_X10_shape 4 rfl) (ts1 c8 (by decide)) (ts2 c8 (by decide)) (ts3 c8 (by decide)) rfl ?_
      exact w_X10_shape_j52 X TX hst x1 x2 t4 KR KT KO Y (lv_sub hl [0, 1, 2] rfl) h
    replace h := ineg c8 h
    rcases Decidable.em (x2 = 3) with c9 | c9
    · replace h := ipos c9 h
      refine lv_tableIn (tgt := 52) (off := 46) X.1 X.2.1 (dk T_X10_shape 4 rfl) (ts1 c9 (by decide)) (ts2 c9 (by decide)) (ts3 c9 (by decide)) rfl ?_
      exact w_X10_shape_j52 X TX hst x1 x2 t4 KR KT KO Y (lv_sub hl [0, 1, 2] rfl) h
    replace h := ineg c9 h
    rcases Decidable.em (x2 = 4) with c10 | c10
    · replace h := ipos c10 h
      refine lv_tableIn (tgt := 52) (off := 46) X.1 X.2.1 (dk T_X10_shape 4 rfl) (ts1 c10 (by decide)) (ts2 c10 (by decide)) (ts3 c10 (by decide)) rfl ?_
      exact w_X10_shape_j52 X TX hst x1 x2 t4 KR KT KO Y (lv_sub hl [0, 1, 2] rfl) h
    replace h := ineg c10 h
    rcases Decidable.em (x2 = 5) with c11 | c11
    · replace h := ipos c11 h
      refine lv_tableIn (tgt := 65) (off := 59) X.1 X.2.1 (dk T_X10_shape 4 rfl) (ts1 c11 (by decide)) (ts2 c11 (by decide)) (ts3 c11 (by decide)) rfl ?_
      refine lv_aload_n X.1 X.2.1 (dk T_X10_shape 12 rfl) rfl (lv_at hl 0 rfl) ?_
      refine gg X Y fl_X10_12 rfl rfl (dk T_X10_shape 13 rfl) ?_
      refine lv_iload_n X.1 X.2.1 (dk T_X10_shape 14 rfl) rfl (lv_at hl 1 rfl) ?_
      obtain ⟨q12, hq12, h⟩ := bs h
      refine gvIx (rest := []) X Y (c_X8_sizeOf 1 rfl x1 t4 hq12) cb_X10_182 rfl hl.1 rfl rfl (Nat.le_of_ble_eq_true rfl) ⟨Nat.le_of_ble_eq_true rfl, Nat.le_of_ble_eq_true rfl⟩ ⟨Nat.le_of_ble_eq_true rfl, Nat.le_of_ble_eq_true rfl⟩ (dk T_X10_shape 15 rfl) (fun H locs Y => ?_)
      exact KR q12 t4 _ _ _ _ _ _ (Option.some.inj h).symm (Nat.le_of_ble_eq_true rfl) (Nat.le_of_ble_eq_true rfl) Y (dk T_X10_shape 16 rfl)
    replace h := ineg c11 h
    rcases Decidable.em (x2 = 6) with c13 | c13
    · replace h := ipos c13 h
      refine lv_tableIn (tgt := 74) (off := 68) X.1 X.2.1 (dk T_X10_shape 4 rfl) (ts1 c13 (by decide)) (ts2 c13 (by decide)) (ts3 c13 (by decide)) rfl ?_
      refine lv_aload_n X.1 X.2.1 (dk T_X10_shape 17 rfl) rfl (lv_at hl 0 rfl) ?_
      refine gg X Y fl_X10_12 rfl rfl (dk T_X10_shape 18 rfl) ?_
      refine ggN X Y fl_X10_163 rfl rfl (dk T_X10_shape 19 rfl) ?_
      refine lv_iconst (v := 0) X.1 X.2.1 (dk T_X10_shape 20 rfl) ic_0 ?_
      refine lv_iload_n X.1 X.2.1 (dk T_X10_shape 21 rfl) rfl (lv_at hl 1 rfl) ?_
      obtain ⟨q14, hq14, h⟩ := bs h
      refine gvIx (rest := []) X Y (c_X9_rowsWith 6 rfl 0 x1 t4 hq14) cb_X10_166 rfl hl.1 rfl rfl (Nat.le_of_ble_eq_true rfl) ⟨Nat.le_of_ble_eq_true rfl, Nat.le_of_ble_eq_true rfl⟩ ⟨Nat.le_of_ble_eq_true rfl, Nat.le_of_ble_eq_true rfl⟩ (dk T_X10_shape 22 rfl) (fun H locs Y => ?_)
      exact KR q14 t4 _ _ _ _ _ _ (Option.some.inj h).symm (Nat.le_of_ble_eq_true rfl) (Nat.le_of_ble_eq_true rfl) Y (dk T_X10_shape 23 rfl)
    replace h := ineg c13 h
    rcases Decidable.em (x2 = 7) with c15 | c15
    · replace h := ipos c15 h
      refine lv_tableIn (tgt := 87) (off := 81) X.1 X.2.1 (dk T_X10_shape 4 rfl) (ts1 c15 (by decide)) (ts2 c15 (by decide)) (ts3 c15 (by decide)) rfl ?_
      refine lv_aload_n X.1 X.2.1 (dk T_X10_shape 24 rfl) rfl (lv_at hl 0 rfl) ?_
      refine gg X Y fl_X10_12 rfl rfl (dk T_X10_shape 25 rfl) ?_
      refine lv_iload_n X.1 X.2.1 (dk T_X10_shape 26 rfl) rfl (lv_at hl 1 rfl) ?_
      obtain ⟨q16, hq16, h⟩ := bs h
      refine gvIx (rest := []) X Y (c_X8_differentTurns 1 rfl x1 t4 hq16) cb_X10_185 rfl hl.1 rfl rfl (Nat.le_of_ble_eq_true rfl) ⟨Nat.le_of_ble_eq_true rfl, Nat.le_of_ble_eq_true rfl⟩ ⟨Nat.le_of_ble_eq_true rfl, Nat.le_of_ble_eq_true rfl⟩ (dk T_X10_shape 27 rfl) (fun H locs Y => ?_)
      exact KR q16 t4 _ _ _ _ _ _ (Option.some.inj h).symm (Nat.le_of_ble_eq_true rfl) (Nat.le_of_ble_eq_true rfl) Y (dk T_X10_shape 28 rfl)
    replace h := ineg c15 h
    refine lv_tableOut (tgt := 96) X.1 X.2.1 (dk T_X10_shape 4 rfl) (ts8n c5 c7 c8 c9 c10 c11 c13 c15) rfl ?_
    exact KT "java/lang/IllegalArgumentException" "what is not valid" 86 177 90 _ _ _ _ _ _ _ _ th_86_177_90 (Option.some.inj h).symm Y hl.1 (Nat.le_of_ble_eq_true rfl) ⟨(dk T_X10_shape 29 rfl), (dk T_X10_shape 30 rfl), Or.inl ⟨(dk T_X10_shape 31 rfl), (dk T_X10_shape 32 rfl), (dk T_X10_shape 33 rfl)⟩⟩ (Nat.le_of_ble_eq_true rfl) (Nat.le_of_ble_eq_true rfl)
def f_X10_shape (x1 : Int32) (x2 : Int32) (σ : St) : Option ((String × St) ⊕ (Int32 × St)) := f_X10_shape_0 x1 x2 σ
set_option maxHeartbeats 4000000 in
set_option maxRecDepth 100000 in
theorem c_X10_shape {l : Launch} {g : Geo} (x1 : Int32) (x2 : Int32) (σ : St) {w : (String × St) ⊕ (Int32 × St)} (h : f_X10_shape x1 x2 σ = some w) : CtT l yX10_shape cX10_shape 3 (some .int) 7 111 2 12 g [.ref (g.2.2 (0)), .int (x1), .int (x2)] σ w := enT .int (by decide) rfl (fun _ _ _ => rfl) (Nat.le_of_ble_eq_true rfl) ⟨Nat.le_of_ble_eq_true rfl, Nat.le_of_ble_eq_true rfl⟩ (fun p e s m args below meth c Q X TX hst Y ls hl KR KT KO => w_X10_shape_0 X TX hst x1 x2 σ KR KT KO Y hl h)
def I_X10_checkTurn : List (Nat × Instr × Nat) := [(0, .iload_n 0, 1), (1, .iconst 0, 1), (2, .iconst 3, 1), (3, .invokestatic 82, 3), (6, .ifCond .ne 14, 3), (9, .new 86, 3), (12, .dup, 1), (13, .ldc_w 349, 3), (16, .invokespecial 90, 3), (19, .athrow, 1), (20, .return_, 1)]
set_option maxRecDepth 100000 in
theorem T_X10_checkTurn : ∀ q ∈ I_X10_checkTurn, decode cX10_checkTurn q.1 = .ok (q.2.1, q.2.2) := by decide +kernel
def f_X10_checkTurn_0 (x0 : Int32) (σ : St) : Option ((String × St) ⊕ St) :=
  (f_X10_isWithin x0 0 3).bind fun q1 => if q1 = 0 then some (.inl ("java/lang/IllegalArgumentException", σ)) else some (.inr σ)
set_option maxHeartbeats 4000000 in
set_option maxRecDepth 100000 in
theorem w_X10_checkTurn_0 (X : Cx g RX10 cX10_checkTurn 1 none p s m args meth c) (TX : TXs g (GA g s.heap.size) s s.heap) (hst : l.stackTraces = false) (x0 : Int32) (σ : St) {w : (String × St) ⊕ St} (KR : ∀ (τ : St) (H : Heap) (locs : List Loc) (ls : Array Slot) (pc k n : Nat), w = .inr τ → k ≤ 1 → n ≤ 6 → Wd g s τ H locs → decode cX10_checkTurn pc = .ok (.return_, 1) → W p l e (rmT 6 90 1 6) s m args below meth c H locs k n Q (F0 m pc ls [])) (KT : ∀ (E text : String) (ik is ic : Nat) (τ : St) (H : Heap) (locs : List Loc) (ls : Array Slot) (pc : Nat) (rest : List Value) (k n : Nat), THx RX10 E text ik is ic → w = .inl (E, τ) → Wd g s τ H locs → ls.size = 1 → (rest.map fun v => v.category).sum ≤ 8 → (decode cX10_checkTurn pc = .ok (.new ik, 3) ∧ decode cX10_checkTurn (pc + 3) = .ok (.dup, 1) ∧ ((decode cX10_checkTurn (pc + 4) = .ok (.ldc is, 2) ∧ decode cX10_checkTurn (pc + 6) = .ok (.invokespecial ic, 3) ∧ decode cX10_checkTurn (pc + 9) = .ok (.athrow, 1)) ∨ (decode cX10_checkTurn (pc + 4) = .ok (.ldc_w is, 3) ∧ decode cX10_checkTurn (pc + 7) = .ok (.invokespecial ic, 3) ∧ decode cX10_checkTurn (pc + 10) = .ok (.athrow, 1)))) → k + 1 ≤ 1 → n + 6 ≤ 6 → W p l e (rmT 6 90 1 6) s m args below meth c H locs k n Q (F0 m pc ls rest)) (KO : ∀ (E : String) (τ : St) (ce : Cell) (q9 : Addr) (H : Heap) (locs : List Loc) (ls : Array Slot) (pc : Nat) (rest : List Value) (k n : Nat), w = .inl (E, τ) → Wd g s τ H locs → H[q9]? = some ce → ce.vm = .none → s.vm.findClass E = some ce.cls → k ≤ 1 → n ≤ 6 → vx_W p l e (rmT 6 90 1 6) s m args below meth c H locs k n Q (F0 m pc ls rest) q9) {H : Heap} {locs : List Loc} {ls : Array Slot} (Y : Wd g s σ H locs) (hl : lv_has ls 1 [(0, .int (x0))]) (h : f_X10_checkTurn_0 x0 σ = some w) : W p l e (rmT 6 90 1 6) s m args below meth c H locs 0 0 Q (F0 m 0 ls []) := by
  unfold f_X10_checkTurn_0 at h
  refine lv_iload_n X.1 X.2.1 (dk T_X10_checkTurn 0 rfl) rfl (lv_at hl 0 rfl) ?_
  refine lv_iconst (v := 0) X.1 X.2.1 (dk T_X10_checkTurn 1 rfl) ic_0 ?_
  refine lv_iconst (v := 3) X.1 X.2.1 (dk T_X10_checkTurn 2 rfl) ic_3 ?_
  obtain ⟨q1, hq1, h⟩ := bs h
  refine gsIx (rest := []) X Y (c_X10_isWithin x0 0 3 σ hq1) cb_X10_82 hl.1 rfl rfl (Nat.le_of_ble_eq_true rfl) ⟨Nat.le_of_ble_eq_true rfl, Nat.le_of_ble_eq_true rfl⟩ ⟨Nat.le_of_ble_eq_true rfl, Nat.le_of_ble_eq_true rfl⟩ (dk T_X10_checkTurn 3 rfl) (fun H locs Y => ?_)
  refine lv_if_ne (tgt := 20) X.1 X.2.1 (dk T_X10_checkTurn 4 rfl) rfl (fun c2 => ?_) (fun c2 => ?_)
  · replace h := ineg c2 h
    exact KR σ _ _ _ _ _ _ (Option.some.inj h).symm (Nat.le_of_ble_eq_true rfl) (Nat.le_of_ble_eq_true rfl) Y (dk T_X10_checkTurn 10 rfl)
  · replace h := ipos c2 h
    exact KT "java/lang/IllegalArgumentException" "there is no such turn" 86 349 90 _ _ _ _ _ _ _ _ th_86_349_90 (Option.some.inj h).symm Y hl.1 (Nat.le_of_ble_eq_true rfl) ⟨(dk T_X10_checkTurn 5 rfl), (dk T_X10_checkTurn 6 rfl), Or.inr ⟨(dk T_X10_checkTurn 7 rfl), (dk T_X10_checkTurn 8 rfl), (dk T_X10_checkTurn 9 rfl)⟩⟩ (Nat.le_of_ble_eq_true rfl) (Nat.le_of_ble_eq_true rfl)
def f_X10_checkTurn (x0 : Int32) (σ : St) : Option ((String × St) ⊕ St) := f_X10_checkTurn_0 x0 σ
set_option maxHeartbeats 4000000 in
set_option maxRecDepth 100000 in
theorem c_X10_checkTurn {l : Launch} {g : Geo} (x0 : Int32) (σ : St) {w : (String × St) ⊕ St} (h : f_X10_checkTurn x0 σ = some w) : CtTV l yX10_checkTurn cX10_checkTurn 1 none 6 90 1 6 g [.int (x0)] σ w := enTV (by decide) rfl (Nat.le_of_ble_eq_true rfl) ⟨Nat.le_of_ble_eq_true rfl, Nat.le_of_ble_eq_true rfl⟩ (fun p e s m args below meth c Q X TX hst Y ls hl KR KT KO => w_X10_checkTurn_0 X TX hst x0 σ KR KT KO Y hl h)
def I_X10_turned : List (Nat × Instr × Nat) := [(0, .aload_n 0, 1), (1, .iload_n 1, 1), (2, .invokevirtual 179, 3), (5, .iload_n 2, 1), (6, .invokestatic 188, 3), (9, .aload_n 0, 1), (10, .getfield 12, 3), (13, .iload_n 1, 1), (14, .iload_n 2, 1), (15, .invokevirtual 191, 3), (18, .ireturn, 1)]
set_option maxRecDepth 100000 in
theorem T_X10_turned : ∀ q ∈ I_X10_turned, decode cX10_turned q.1 = .ok (q.2.1, q.2.2) := by decide +kernel
def f_X10_turned_0 (x1 : Int32) (x2 : Int32) (σ : St) : Option ((String × St) ⊕ (Int32 × St)) :=
  (f_X10_checkShape x1 σ).bind fun q1 => Sum.elim (fun x => some (.inl x)) (fun q1 => (f_X10_checkTurn x2 q1).bind fun q5 => Sum.elim (fun x => some (.inl x)) (fun q5 => (f_X8_coveredAfter 1 x1 x2 q5).bind fun q9 => some (.inr (q9, q5))) q5) q1
set_option maxHeartbeats 4000000 in
set_option maxRecDepth 100000 in
theorem w_X10_turned_0 (X : Cx g RX10 cX10_turned 3 (some .int) p s m args meth c) (TX : TXs g (GA g s.heap.size) s s.heap) (hst : l.stackTraces = false) (x1 : Int32) (x2 : Int32) (σ : St) {w : (String × St) ⊕ (Int32 × St)} (KR : ∀ (v : Int32) (τ : St) (H : Heap) (locs : List Loc) (ls : Array Slot) (pc k n : Nat), w = .inr (v, τ) → k ≤ 2 → n ≤ 12 → Wd g s τ H locs → decode cX10_turned pc = .ok (.ireturn, 1) → W p l e (rmT 7 111 2 12) s m args below meth c H locs k n Q (F0 m pc ls [.int v])) (KT : ∀ (E text : String) (ik is ic : Nat) (τ : St) (H : Heap) (locs : List Loc) (ls : Array Slot) (pc : Nat) (rest : List Value) (k n : Nat), THx RX10 E text ik is ic → w = .inl (E, τ) → Wd g s τ H locs → ls.size = 3 → (rest.map fun v => v.category).sum ≤ 8 → (decode cX10_turned pc = .ok (.new ik, 3) ∧ decode cX10_turned (pc + 3) = .ok (.dup, 1) ∧ ((decode cX10_turned (pc + 4) = .ok (.ldc is, 2) ∧ decode cX10_turned (pc + 6) = .ok (.invokespecial ic, 3) ∧ decode cX10_turned (pc + 9) = .ok (.athrow, 1)) ∨ (decode cX10_turned (pc + 4) = .ok (.ldc_w is, 3) ∧ decode cX10_turned (pc + 7) = .ok (.invokespecial ic, 3) ∧ decode cX10_turned (pc + 10) = .ok (.athrow, 1)))) → k + 1 ≤ 2 → n + 6 ≤ 12 → W p l e (rmT 7 111 2 12) s m args below meth c H locs k n Q (F0 m pc ls rest)) (KO : ∀ (E : String) (τ : St) (ce : Cell) (q9 : Addr) (H : Heap) (locs : List Loc) (ls : Array Slot) (pc : Nat) (rest : List Value) (k n : Nat), w = .inl (E, τ) → Wd g s τ H locs → H[q9]? = some ce → ce.vm = .none → s.vm.findClass E = some ce.cls → k ≤ 2 → n ≤ 12 → vx_W p l e (rmT 7 111 2 12) s m args below meth c H locs k n Q (F0 m pc ls rest) q9) {H : Heap} {locs : List Loc} {ls : Array Slot} (Y : Wd g s σ H locs) (hl : lv_has ls 3 [(0, .ref (g.2.2 (0))), (1, .int (x1)), (2, .int (x2))]) (h : f_X10_turned_0 x1 x2 σ = some w) : W p l e (rmT 7 111 2 12) s m args below meth c H locs 0 0 Q (F0 m 0 ls []) := by
  unfold f_X10_turned_0 at h
  refine lv_aload_n X.1 X.2.1 (dk T_X10_turned 0 rfl) rfl (lv_at hl 0 rfl) ?_
  refine lv_iload_n X.1 X.2.1 (dk T_X10_turned 1 rfl) rfl (lv_at hl 1 rfl) ?_
  obtain ⟨q1, hq1, h⟩ := bs h
  refine gvTV (rest := []) X TX hst Y (c_X10_checkShape x1 σ hq1) cb_X10_179 rfl hl.1 rfl rfl (Nat.le_of_ble_eq_true rfl) ⟨(Nat.le_of_ble_eq_true rfl), (Nat.le_of_ble_eq_true rfl)⟩ ⟨(Nat.le_of_ble_eq_true rfl), (Nat.le_of_ble_eq_true rfl)⟩ (dk T_X10_turned 2 rfl) (fun E τ ce q9 H locs e2 Y h1 h2 h3 => ?_) (fun t4 H locs e2 Y => ?_)
  · subst e2; replace h := sel h
    exact KO E τ ce q9 _ _ _ _ _ _ _ (Option.some.inj h).symm Y h1 h2 h3 (Nat.le_of_ble_eq_true rfl) (Nat.le_of_ble_eq_true rfl)
  · subst e2; replace h := ser h; try dsimp only at h
    refine lv_iload_n X.1 X.2.1 (dk T_X10_turned 3 rfl) rfl (lv_at hl 2 rfl) ?_
    obtain ⟨q5, hq5, h⟩ := bs h
    refine gsTV (rest := []) X TX hst Y (c_X10_checkTurn x2 t4 hq5) cb_X10_188 hl.1 rfl rfl (Nat.le_of_ble_eq_true rfl) ⟨(Nat.le_of_ble_eq_true rfl), (Nat.le_of_ble_eq_true rfl)⟩ ⟨(Nat.le_of_ble_eq_true rfl), (Nat.le_of_ble_eq_true rfl)⟩ (dk T_X10_turned 4 rfl) (fun E τ ce q9 H locs e6 Y h1 h2 h3 => ?_) (fun t8 H locs e6 Y => ?_)
    · subst e6; replace h := sel h
      exact KO E τ ce q9 _ _ _ _ _ _ _ (Option.some.inj h).symm Y h1 h2 h3 (Nat.le_of_ble_eq_true rfl) (Nat.le_of_ble_eq_true rfl)
    · subst e6; replace h := ser h; try dsimp only at h
      refine lv_aload_n X.1 X.2.1 (dk T_X10_turned 5 rfl) rfl (lv_at hl 0 rfl) ?_
      refine gg X Y fl_X10_12 rfl rfl (dk T_X10_turned 6 rfl) ?_
      refine lv_iload_n X.1 X.2.1 (dk T_X10_turned 7 rfl) rfl (lv_at hl 1 rfl) ?_
      refine lv_iload_n X.1 X.2.1 (dk T_X10_turned 8 rfl) rfl (lv_at hl 2 rfl) ?_
      obtain ⟨q9, hq9, h⟩ := bs h
      refine gvIx (rest := []) X Y (c_X8_coveredAfter 1 rfl x1 x2 t8 hq9) cb_X10_191 rfl hl.1 rfl rfl (Nat.le_of_ble_eq_true rfl) ⟨Nat.le_of_ble_eq_true rfl, Nat.le_of_ble_eq_true rfl⟩ ⟨Nat.le_of_ble_eq_true rfl, Nat.le_of_ble_eq_true rfl⟩ (dk T_X10_turned 9 rfl) (fun H locs Y => ?_)
      exact KR q9 t8 _ _ _ _ _ _ (Option.some.inj h).symm (Nat.le_of_ble_eq_true rfl) (Nat.le_of_ble_eq_true rfl) Y (dk T_X10_turned 10 rfl)
def f_X10_turned (x1 : Int32) (x2 : Int32) (σ : St) : Option ((String × St) ⊕ (Int32 × St)) := f_X10_turned_0 x1 x2 σ
set_option maxHeartbeats 4000000 in
set_option maxRecDepth 100000 in
theorem c_X10_turned {l : Launch} {g : Geo} (x1 : Int32) (x2 : Int32) (σ : St) {w : (String × St) ⊕ (Int32 × St)} (h : f_X10_turned x1 x2 σ = some w) : CtT l yX10_turned cX10_turned 3 (some .int) 7 111 2 12 g [.ref (g.2.2 (0)), .int (x1), .int (x2)] σ w := enT .int (by decide) rfl (fun _ _ _ => rfl) (Nat.le_of_ble_eq_true rfl) ⟨Nat.le_of_ble_eq_true rfl, Nat.le_of_ble_eq_true rfl⟩ (fun p e s m args below meth c Q X TX hst Y ls hl KR KT KO => w_X10_turned_0 X TX hst x1 x2 σ KR KT KO Y hl h)
def I_X10_place : List (Nat × Instr × Nat) := [(0, .aload_n 0, 1), (1, .iload_n 1, 1), (2, .invokevirtual 179, 3), (5, .aload_n 0, 1), (6, .iload_n 2, 1), (7, .invokevirtual 152, 3), (10, .iload 5, 2), (12, .invokestatic 188, 3), (15, .aload_n 0, 1), (16, .iload_n 1, 1), (17, .iload_n 2, 1), (18, .iload_n 3, 1), (19, .iload 4, 2), (21, .iload 5, 2), (23, .invokevirtual 194, 3), (26, .ifCond .ne 13, 3), (29, .new 140, 3), (32, .dup, 1), (33, .ldc 198, 2), (35, .invokespecial 144, 3), (38, .athrow, 1), (39, .aload_n 0, 1), (40, .getfield 25, 3), (43, .aload_n 0, 1), (44, .getfield 12, 3), (47, .invokevirtual 108, 3), (50, .aload_n 0, 1), (51, .getfield 12, 3), (54, .iload_n 1, 1), (55, .iload_n 2, 1), (56, .iload_n 3, 1), (57, .iload 4, 2), (59, .iload 5, 2), (61, .invokevirtual 200, 3), (64, .ireturn, 1)]
set_option maxRecDepth 100000 in
theorem T_X10_place : ∀ q ∈ I_X10_place, decode cX10_place q.1 = .ok (q.2.1, q.2.2) := by decide +kernel
def f_X10_place_0 (x1 : Int32) (x2 : Int32) (x3 : Int32) (x4 : Int32) (x5 : Int32) (σ : St) : Option ((String × St) ⊕ (Int32 × St)) :=
  (f_X10_checkShape x1 σ).bind fun q1 => Sum.elim (fun x => some (.inl x)) (fun q1 => (f_X10_checkSheet x2 q1).bind fun q5 => Sum.elim (fun x => some (.inl x)) (fun q5 => (f_X10_checkTurn x5 q5).bind fun q9 => Sum.elim (fun x => some (.inl x)) (fun q9 => (f_X10_isAdmitted x1 x2 x3 x4 x5 q9).bind fun q13 => if q13.1 = 0 then some (.inl ("java/lang/UnsupportedOperationException", q13.2)) else (f_X2_push 1 q13.2).bind fun q15 => (f_X8_createPart 1 x1 x2 x3 x4 x5 q15).bind fun q16 => some (.inr (q16.1, q16.2))) q9) q5) q1
set_option maxHeartbeats 4000000 in
set_option maxRecDepth 100000 in
theorem w_X10_place_0 (X : Cx g RX10 cX10_place 6 (some .int) p s m args meth c) (TX : TXs g (GA g s.heap.size) s s.heap) (hst : l.stackTraces = false) (x1 : Int32) (x2 : Int32) (x3 : Int32) (x4 : Int32) (x5 : Int32) (σ : St) {w : (String × St) ⊕ (Int32 × St)} (KR : ∀ (v : Int32) (τ : St) (H : Heap) (locs : List Loc) (ls : Array Slot) (pc k n : Nat), w = .inr (v, τ) → k ≤ 4 → n ≤ 24 → Wd g s τ H locs → decode cX10_place pc = .ok (.ireturn, 1) → W p l e (rmT 7 130 4 24) s m args below meth c H locs k n Q (F0 m pc ls [.int v])) (KT : ∀ (E text : String) (ik is ic : Nat) (τ : St) (H : Heap) (locs : List Loc) (ls : Array Slot) (pc : Nat) (rest : List Value) (k n : Nat), THx RX10 E text ik is ic → w = .inl (E, τ) → Wd g s τ H locs → ls.size = 6 → (rest.map fun v => v.category).sum ≤ 8 → (decode cX10_place pc = .ok (.new ik, 3) ∧ decode cX10_place (pc + 3) = .ok (.dup, 1) ∧ ((decode cX10_place (pc + 4) = .ok (.ldc is, 2) ∧ decode cX10_place (pc + 6) = .ok (.invokespecial ic, 3) ∧ decode cX10_place (pc + 9) = .ok (.athrow, 1)) ∨ (decode cX10_place (pc + 4) = .ok (.ldc_w is, 3) ∧ decode cX10_place (pc + 7) = .ok (.invokespecial ic, 3) ∧ decode cX10_place (pc + 10) = .ok (.athrow, 1)))) → k + 1 ≤ 4 → n + 6 ≤ 24 → W p l e (rmT 7 130 4 24) s m args below meth c H locs k n Q (F0 m pc ls rest)) (KO : ∀ (E : String) (τ : St) (ce : Cell) (q9 : Addr) (H : Heap) (locs : List Loc) (ls : Array Slot) (pc : Nat) (rest : List Value) (k n : Nat), w = .inl (E, τ) → Wd g s τ H locs → H[q9]? = some ce → ce.vm = .none → s.vm.findClass E = some ce.cls → k ≤ 4 → n ≤ 24 → vx_W p l e (rmT 7 130 4 24) s m args below meth c H locs k n Q (F0 m pc ls rest) q9) {H : Heap} {locs : List Loc} {ls : Array Slot} (Y : Wd g s σ H locs) (hl : lv_has ls 6 [(0, .ref (g.2.2 (0))), (1, .int (x1)), (2, .int (x2)), (3, .int (x3)), (4, .int (x4)), (5, .int (x5))]) (h : f_X10_place_0 x1 x2 x3 x4 x5 σ = some w) : W p l e (rmT 7 130 4 24) s m args below meth c H locs 0 0 Q (F0 m 0 ls []) := by
  unfold f_X10_place_0 at h
  refine lv_aload_n X.1 X.2.1 (dk T_X10_place 0 rfl) rfl (lv_at hl 0 rfl) ?_
  refine lv_iload_n X.1 X.2.1 (dk T_X10_place 1 rfl) rfl (lv_at hl 1 rfl) ?_
  obtain ⟨q1, hq1, h⟩ := bs h
  refine gvTV (rest := []) X TX hst Y (c_X10_checkShape x1 σ hq1) cb_X10_179 rfl hl.1 rfl rfl (Nat.le_of_ble_eq_true rfl) ⟨(Nat.le_of_ble_eq_true rfl), (Nat.le_of_ble_eq_true rfl)⟩ ⟨(Nat.le_of_ble_eq_true rfl), (Nat.le_of_ble_eq_true rfl)⟩ (dk T_X10_place 2 rfl) (fun E τ ce q9 H locs e2 Y h1 h2 h3 => ?_) (fun t4 H locs e2 Y => ?_)
  · subst e2; replace h := sel h
    exact KO E τ ce q9 _ _ _ _ _ _ _ (Option.some.inj h).symm Y h1 h2 h3 (Nat.le_of_ble_eq_true rfl) (Nat.le_of_ble_eq_true rfl)
  · subst e2; replace h := ser h; try dsimp only at h
    refine lv_aload_n X.1 X.2.1 (dk T_X10_place 3 rfl) rfl (lv_at hl 0 rfl) ?_
    refine lv_iload_n X.1 X.2.1 (dk T_X10_place 4 rfl) rfl (lv_at hl 2 rfl) ?_
    obtain ⟨q5, hq5, h⟩ := bs h
    refine gvTV (rest := []) X TX hst Y (c_X10_checkSheet x2 t4 hq5) cb_X10_152 rfl hl.1 rfl rfl (Nat.le_of_ble_eq_true rfl) ⟨(Nat.le_of_ble_eq_true rfl), (Nat.le_of_ble_eq_true rfl)⟩ ⟨(Nat.le_of_ble_eq_true rfl), (Nat.le_of_ble_eq_true rfl)⟩ (dk T_X10_place 5 rfl) (fun E τ ce q9 H locs e6 Y h1 h2 h3 => ?_) (fun t8 H locs e6 Y => ?_)
    · subst e6; replace h := sel h
      exact KO E τ ce q9 _ _ _ _ _ _ _ (Option.some.inj h).symm Y h1 h2 h3 (Nat.le_of_ble_eq_true rfl) (Nat.le_of_ble_eq_true rfl)
    · subst e6; replace h := ser h; try dsimp only at h
      refine lv_iload X.1 X.2.1 (dk T_X10_place 6 rfl) (lv_at hl 5 rfl) ?_
      obtain ⟨q9, hq9, h⟩ := bs h
      refine gsTV (rest := []) X TX hst Y (c_X10_checkTurn x5 t8 hq9) cb_X10_188 hl.1 rfl rfl (Nat.le_of_ble_eq_true rfl) ⟨(Nat.le_of_ble_eq_true rfl), (Nat.le_of_ble_eq_true rfl)⟩ ⟨(Nat.le_of_ble_eq_true rfl), (Nat.le_of_ble_eq_true rfl)⟩ (dk T_X10_place 7 rfl) (fun E τ ce q9 H locs e10 Y h1 h2 h3 => ?_) (fun t12 H locs e10 Y => ?_)
      · subst e10; replace h := sel h
        exact KO E τ ce q9 _ _ _ _ _ _ _ (Option.some.inj h).symm Y h1 h2 h3 (Nat.le_of_ble_eq_true rfl) (Nat.le_of_ble_eq_true rfl)
      · subst e10; replace h := ser h; try dsimp only at h
        refine lv_aload_n X.1 X.2.1 (dk T_X10_place 8 rfl) rfl (lv_at hl 0 rfl) ?_
        refine lv_iload_n X.1 X.2.1 (dk T_X10_place 9 rfl) rfl (lv_at hl 1 rfl) ?_
        refine lv_iload_n X.1 X.2.1 (dk T_X10_place 10 rfl) rfl (lv_at hl 2 rfl) ?_
        refine lv_iload_n X.1 X.2.1 (dk T_X10_place 11 rfl) rfl (lv_at hl 3 rfl) ?_
        refine lv_iload X.1 X.2.1 (dk T_X10_place 12 rfl) (lv_at hl 4 rfl) ?_
        refine lv_iload X.1 X.2.1 (dk T_X10_place 13 rfl) (lv_at hl 5 rfl) ?_
        obtain ⟨q13, hq13, h⟩ := bs h
        refine gvIx (rest := []) X Y (c_X10_isAdmitted x1 x2 x3 x4 x5 t12 hq13) cb_X10_194 rfl hl.1 rfl rfl (Nat.le_of_ble_eq_true rfl) ⟨Nat.le_of_ble_eq_true rfl, Nat.le_of_ble_eq_true rfl⟩ ⟨Nat.le_of_ble_eq_true rfl, Nat.le_of_ble_eq_true rfl⟩ (dk T_X10_place 14 rfl) (fun H locs Y => ?_)
        refine lv_if_ne (tgt := 39) X.1 X.2.1 (dk T_X10_place 15 rfl) rfl (fun c14 => ?_) (fun c14 => ?_)
        · replace h := ineg c14 h
          refine lv_aload_n X.1 X.2.1 (dk T_X10_place 21 rfl) rfl (lv_at hl 0 rfl) ?_
          refine gg X Y fl_X10_25 rfl rfl (dk T_X10_place 22 rfl) ?_
          refine lv_aload_n X.1 X.2.1 (dk T_X10_place 23 rfl) rfl (lv_at hl 0 rfl) ?_
          refine gg X Y fl_X10_12 rfl rfl (dk T_X10_place 24 rfl) ?_
          obtain ⟨q15, hq15, h⟩ := bs h
          refine gvVx (rest := []) X Y (c_X2_push 1 rfl q13.2 hq15) cb_X10_108 rfl hl.1 rfl rfl (Nat.le_of_ble_eq_true rfl) ⟨Nat.le_of_ble_eq_true rfl, Nat.le_of_ble_eq_true rfl⟩ ⟨Nat.le_of_ble_eq_true rfl, Nat.le_of_ble_eq_true rfl⟩ (dk T_X10_place 25 rfl) (fun H locs Y => ?_)
          refine lv_aload_n X.1 X.2.1 (dk T_X10_place 26 rfl) rfl (lv_at hl 0 rfl) ?_
          refine gg X Y fl_X10_12 rfl rfl (dk T_X10_place 27 rfl) ?_
          refine lv_iload_n X.1 X.2.1 (dk T_X10_place 28 rfl) rfl (lv_at hl 1 rfl) ?_
          refine lv_iload_n X.1 X.2.1 (dk T_X10_place 29 rfl) rfl (lv_at hl 2 rfl) ?_
          refine lv_iload_n X.1 X.2.1 (dk T_X10_place 30 rfl) rfl (lv_at hl 3 rfl) ?_
          refine lv_iload X.1 X.2.1 (dk T_X10_place 31 rfl) (lv_at hl 4 rfl) ?_
          refine lv_iload X.1 X.2.1 (dk T_X10_place 32 rfl) (lv_at hl 5 rfl) ?_
          obtain ⟨q16, hq16, h⟩ := bs h
          refine gvIx (rest := []) X Y (c_X8_createPart 1 rfl x1 x2 x3 x4 x5 q15 hq16) cb_X10_200 rfl hl.1 rfl rfl (Nat.le_of_ble_eq_true rfl) ⟨Nat.le_of_ble_eq_true rfl, Nat.le_of_ble_eq_true rfl⟩ ⟨Nat.le_of_ble_eq_true rfl, Nat.le_of_ble_eq_true rfl⟩ (dk T_X10_place 33 rfl) (fun H locs Y => ?_)
          exact KR q16.1 q16.2 _ _ _ _ _ _ (Option.some.inj h).symm (Nat.le_of_ble_eq_true rfl) (Nat.le_of_ble_eq_true rfl) Y (dk T_X10_place 34 rfl)
        · replace h := ipos c14 h
          exact KT "java/lang/UnsupportedOperationException" "the shape cannot be placed" 140 198 144 _ _ _ _ _ _ _ _ th_140_198_144 (Option.some.inj h).symm Y hl.1 (Nat.le_of_ble_eq_true rfl) ⟨(dk T_X10_place 16 rfl), (dk T_X10_place 17 rfl), Or.inl ⟨(dk T_X10_place 18 rfl), (dk T_X10_place 19 rfl), (dk T_X10_place 20 rfl)⟩⟩ (Nat.le_of_ble_eq_true rfl) (Nat.le_of_ble_eq_true rfl)
def f_X10_place (x1 : Int32) (x2 : Int32) (x3 : Int32) (x4 : Int32) (x5 : Int32) (σ : St) : Option ((String × St) ⊕ (Int32 × St)) := f_X10_place_0 x1 x2 x3 x4 x5 σ
set_option maxHeartbeats 4000000 in
set_option maxRecDepth 100000 in
theorem c_X10_place {l : Launch} {g : Geo} (x1 : Int32) (x2 : Int32) (x3 : Int32) (x4 : Int32) (x5 : Int32) (σ : St) {w : (String × St) ⊕ (Int32 × St)} (h : f_X10_place x1 x2 x3 x4 x5 σ = some w) : CtT l yX10_place cX10_place 6 (some .int) 7 130 4 24 g [.ref (g.2.2 (0)), .int (x1), .int (x2), .int (x3), .int (x4), .int (x5)] σ w := enT .int (by decide) rfl (fun _ _ _ => rfl) (Nat.le_of_ble_eq_true rfl) ⟨Nat.le_of_ble_eq_true rfl, Nat.le_of_ble_eq_true rfl⟩ (fun p e s m args below meth c Q X TX hst Y ls hl KR KT KO => w_X10_place_0 X TX hst x1 x2 x3 x4 x5 σ KR KT KO Y hl h)
def I_X10_checkPart : List (Nat × Instr × Nat) := [(0, .aload_n 0, 1), (1, .getfield 12, 3), (4, .getfield 163, 3), (7, .iload_n 1, 1), (8, .invokevirtual 335, 3), (11, .ifCond .ne 14, 3), (14, .new 336, 3), (17, .dup, 1), (18, .ldc_w 345, 3), (21, .invokespecial 340, 3), (24, .athrow, 1), (25, .return_, 1)]
set_option maxRecDepth 100000 in
theorem T_X10_checkPart : ∀ q ∈ I_X10_checkPart, decode cX10_checkPart q.1 = .ok (q.2.1, q.2.2) := by decide +kernel
def f_X10_checkPart_0 (x1 : Int32) (σ : St) : Option ((String × St) ⊕ St) :=
  (f_X9_has 6 x1 σ).bind fun q1 => if q1 = 0 then some (.inl ("java/lang/IndexOutOfBoundsException", σ)) else some (.inr σ)
set_option maxHeartbeats 4000000 in
set_option maxRecDepth 100000 in
theorem w_X10_checkPart_0 (X : Cx g RX10 cX10_checkPart 2 none p s m args meth c) (TX : TXs g (GA g s.heap.size) s s.heap) (hst : l.stackTraces = false) (x1 : Int32) (σ : St) {w : (String × St) ⊕ St} (KR : ∀ (τ : St) (H : Heap) (locs : List Loc) (ls : Array Slot) (pc k n : Nat), w = .inr τ → k ≤ 1 → n ≤ 6 → Wd g s τ H locs → decode cX10_checkPart pc = .ok (.return_, 1) → W p l e (rmT 6 90 1 6) s m args below meth c H locs k n Q (F0 m pc ls [])) (KT : ∀ (E text : String) (ik is ic : Nat) (τ : St) (H : Heap) (locs : List Loc) (ls : Array Slot) (pc : Nat) (rest : List Value) (k n : Nat), THx RX10 E text ik is ic → w = .inl (E, τ) → Wd g s τ H locs → ls.size = 2 → (rest.map fun v => v.category).sum ≤ 8 → (decode cX10_checkPart pc = .ok (.new ik, 3) ∧ decode cX10_checkPart (pc + 3) = .ok (.dup, 1) ∧ ((decode cX10_checkPart (pc + 4) = .ok (.ldc is, 2) ∧ decode cX10_checkPart (pc + 6) = .ok (.invokespecial ic, 3) ∧ decode cX10_checkPart (pc + 9) = .ok (.athrow, 1)) ∨ (decode cX10_checkPart (pc + 4) = .ok (.ldc_w is, 3) ∧ decode cX10_checkPart (pc + 7) = .ok (.invokespecial ic, 3) ∧ decode cX10_checkPart (pc + 10) = .ok (.athrow, 1)))) → k + 1 ≤ 1 → n + 6 ≤ 6 → W p l e (rmT 6 90 1 6) s m args below meth c H locs k n Q (F0 m pc ls rest)) (KO : ∀ (E : String) (τ : St) (ce : Cell) (q9 : Addr) (H : Heap) (locs : List Loc) (ls : Array Slot) (pc : Nat) (rest : List Value) (k n : Nat), w = .inl (E, τ) → Wd g s τ H locs → H[q9]? = some ce → ce.vm = .none → s.vm.findClass E = some ce.cls → k ≤ 1 → n ≤ 6 → vx_W p l e (rmT 6 90 1 6) s m args below meth c H locs k n Q (F0 m pc ls rest) q9) {H : Heap} {locs : List Loc} {ls : Array Slot} (Y : Wd g s σ H locs) (hl : lv_has ls 2 [(0, .ref (g.2.2 (0))), (1, .int (x1))]) (h : f_X10_checkPart_0 x1 σ = some w) : W p l e (rmT 6 90 1 6) s m args below meth c H locs 0 0 Q (F0 m 0 ls []) := by
  unfold f_X10_checkPart_0 at h
  refine lv_aload_n X.1 X.2.1 (dk T_X10_checkPart 0 rfl) rfl (lv_at hl 0 rfl) ?_
  refine gg X Y fl_X10_12 rfl rfl (dk T_X10_checkPart 1 rfl) ?_
  refine ggN X Y fl_X10_163 rfl rfl (dk T_X10_checkPart 2 rfl) ?_
  refine lv_iload_n X.1 X.2.1 (dk T_X10_checkPart 3 rfl) rfl (lv_at hl 1 rfl) ?_
  obtain ⟨q1, hq1, h⟩ := bs h
  refine gvIx (rest := []) X Y (c_X9_has 6 rfl x1 σ hq1) cb_X10_335 rfl hl.1 rfl rfl (Nat.le_of_ble_eq_true rfl) ⟨Nat.le_of_ble_eq_true rfl, Nat.le_of_ble_eq_true rfl⟩ ⟨Nat.le_of_ble_eq_true rfl, Nat.le_of_ble_eq_true rfl⟩ (dk T_X10_checkPart 4 rfl) (fun H locs Y => ?_)
  refine lv_if_ne (tgt := 25) X.1 X.2.1 (dk T_X10_checkPart 5 rfl) rfl (fun c2 => ?_) (fun c2 => ?_)
  · replace h := ineg c2 h
    exact KR σ _ _ _ _ _ _ (Option.some.inj h).symm (Nat.le_of_ble_eq_true rfl) (Nat.le_of_ble_eq_true rfl) Y (dk T_X10_checkPart 11 rfl)
  · replace h := ipos c2 h
    exact KT "java/lang/IndexOutOfBoundsException" "there is no such part" 336 345 340 _ _ _ _ _ _ _ _ th_336_345_340 (Option.some.inj h).symm Y hl.1 (Nat.le_of_ble_eq_true rfl) ⟨(dk T_X10_checkPart 6 rfl), (dk T_X10_checkPart 7 rfl), Or.inr ⟨(dk T_X10_checkPart 8 rfl), (dk T_X10_checkPart 9 rfl), (dk T_X10_checkPart 10 rfl)⟩⟩ (Nat.le_of_ble_eq_true rfl) (Nat.le_of_ble_eq_true rfl)
def f_X10_checkPart (x1 : Int32) (σ : St) : Option ((String × St) ⊕ St) := f_X10_checkPart_0 x1 σ
set_option maxHeartbeats 4000000 in
set_option maxRecDepth 100000 in
theorem c_X10_checkPart {l : Launch} {g : Geo} (x1 : Int32) (σ : St) {w : (String × St) ⊕ St} (h : f_X10_checkPart x1 σ = some w) : CtTV l yX10_checkPart cX10_checkPart 2 none 6 90 1 6 g [.ref (g.2.2 (0)), .int (x1)] σ w := enTV (by decide) rfl (Nat.le_of_ble_eq_true rfl) ⟨Nat.le_of_ble_eq_true rfl, Nat.le_of_ble_eq_true rfl⟩ (fun p e s m args below meth c Q X TX hst Y ls hl KR KT KO => w_X10_checkPart_0 X TX hst x1 σ KR KT KO Y hl h)
def I_X10_take : List (Nat × Instr × Nat) := [(0, .aload_n 0, 1), (1, .iload_n 1, 1), (2, .invokevirtual 203, 3), (5, .aload_n 0, 1), (6, .getfield 25, 3), (9, .aload_n 0, 1), (10, .getfield 12, 3), (13, .invokevirtual 108, 3), (16, .aload_n 0, 1), (17, .getfield 12, 3), (20, .iload_n 1, 1), (21, .invokevirtual 206, 3), (24, .aload_n 0, 1), (25, .getfield 12, 3), (28, .getfield 163, 3), (31, .invokevirtual 209, 3), (34, .ireturn, 1)]
set_option maxRecDepth 100000 in
theorem T_X10_take : ∀ q ∈ I_X10_take, decode cX10_take q.1 = .ok (q.2.1, q.2.2) := by decide +kernel
def f_X10_take_0 (x1 : Int32) (σ : St) : Option ((String × St) ⊕ (Int32 × St)) :=
  (f_X10_checkPart x1 σ).bind fun q1 => Sum.elim (fun x => some (.inl x)) (fun q1 => (f_X2_push 1 q1).bind fun q5 => (f_X8_removePart 1 x1 q5).bind fun q6 => (f_X9_size 6 q6).bind fun q7 => some (.inr (q7, q6))) q1
set_option maxHeartbeats 4000000 in
set_option maxRecDepth 100000 in
theorem w_X10_take_0 (X : Cx g RX10 cX10_take 2 (some .int) p s m args meth c) (TX : TXs g (GA g s.heap.size) s s.heap) (hst : l.stackTraces = false) (x1 : Int32) (σ : St) {w : (String × St) ⊕ (Int32 × St)} (KR : ∀ (v : Int32) (τ : St) (H : Heap) (locs : List Loc) (ls : Array Slot) (pc k n : Nat), w = .inr (v, τ) → k ≤ 1 → n ≤ 6 → Wd g s τ H locs → decode cX10_take pc = .ok (.ireturn, 1) → W p l e (rmT 7 111 1 6) s m args below meth c H locs k n Q (F0 m pc ls [.int v])) (KT : ∀ (E text : String) (ik is ic : Nat) (τ : St) (H : Heap) (locs : List Loc) (ls : Array Slot) (pc : Nat) (rest : List Value) (k n : Nat), THx RX10 E text ik is ic → w = .inl (E, τ) → Wd g s τ H locs → ls.size = 2 → (rest.map fun v => v.category).sum ≤ 8 → (decode cX10_take pc = .ok (.new ik, 3) ∧ decode cX10_take (pc + 3) = .ok (.dup, 1) ∧ ((decode cX10_take (pc + 4) = .ok (.ldc is, 2) ∧ decode cX10_take (pc + 6) = .ok (.invokespecial ic, 3) ∧ decode cX10_take (pc + 9) = .ok (.athrow, 1)) ∨ (decode cX10_take (pc + 4) = .ok (.ldc_w is, 3) ∧ decode cX10_take (pc + 7) = .ok (.invokespecial ic, 3) ∧ decode cX10_take (pc + 10) = .ok (.athrow, 1)))) → k + 1 ≤ 1 → n + 6 ≤ 6 → W p l e (rmT 7 111 1 6) s m args below meth c H locs k n Q (F0 m pc ls rest)) (KO : ∀ (E : String) (τ : St) (ce : Cell) (q9 : Addr) (H : Heap) (locs : List Loc) (ls : Array Slot) (pc : Nat) (rest : List Value) (k n : Nat), w = .inl (E, τ) → Wd g s τ H locs → H[q9]? = some ce → ce.vm = .none → s.vm.findClass E = some ce.cls → k ≤ 1 → n ≤ 6 → vx_W p l e (rmT 7 111 1 6) s m args below meth c H locs k n Q (F0 m pc ls rest) q9) {H : Heap} {locs : List Loc} {ls : Array Slot} (Y : Wd g s σ H locs) (hl : lv_has ls 2 [(0, .ref (g.2.2 (0))), (1, .int (x1))]) (h : f_X10_take_0 x1 σ = some w) : W p l e (rmT 7 111 1 6) s m args below meth c H locs 0 0 Q (F0 m 0 ls []) := by
  unfold f_X10_take_0 at h
  refine lv_aload_n X.1 X.2.1 (dk T_X10_take 0 rfl) rfl (lv_at hl 0 rfl) ?_
  refine lv_iload_n X.1 X.2.1 (dk T_X10_take 1 rfl) rfl (lv_at hl 1 rfl) ?_
  obtain ⟨q1, hq1, h⟩ := bs h
  refine gvTV (rest := []) X TX hst Y (c_X10_checkPart x1 σ hq1) cb_X10_203 rfl hl.1 rfl rfl (Nat.le_of_ble_eq_true rfl) ⟨(Nat.le_of_ble_eq_true rfl), (Nat.le_of_ble_eq_true rfl)⟩ ⟨(Nat.le_of_ble_eq_true rfl), (Nat.le_of_ble_eq_true rfl)⟩ (dk T_X10_take 2 rfl) (fun E τ ce q9 H locs e2 Y h1 h2 h3 => ?_) (fun t4 H locs e2 Y => ?_)
  · subst e2; replace h := sel h
    exact KO E τ ce q9 _ _ _ _ _ _ _ (Option.some.inj h).symm Y h1 h2 h3 (Nat.le_of_ble_eq_true rfl) (Nat.le_of_ble_eq_true rfl)
  · subst e2; replace h := ser h; try dsimp only at h
    refine lv_aload_n X.1 X.2.1 (dk T_X10_take 3 rfl) rfl (lv_at hl 0 rfl) ?_
    refine gg X Y fl_X10_25 rfl rfl (dk T_X10_take 4 rfl) ?_
    refine lv_aload_n X.1 X.2.1 (dk T_X10_take 5 rfl) rfl (lv_at hl 0 rfl) ?_
    refine gg X Y fl_X10_12 rfl rfl (dk T_X10_take 6 rfl) ?_
    obtain ⟨q5, hq5, h⟩ := bs h
    refine gvVx (rest := []) X Y (c_X2_push 1 rfl t4 hq5) cb_X10_108 rfl hl.1 rfl rfl (Nat.le_of_ble_eq_true rfl) ⟨Nat.le_of_ble_eq_true rfl, Nat.le_of_ble_eq_true rfl⟩ ⟨Nat.le_of_ble_eq_true rfl, Nat.le_of_ble_eq_true rfl⟩ (dk T_X10_take 7 rfl) (fun H locs Y => ?_)
    refine lv_aload_n X.1 X.2.1 (dk T_X10_take 8 rfl) rfl (lv_at hl 0 rfl) ?_
    refine gg X Y fl_X10_12 rfl rfl (dk T_X10_take 9 rfl) ?_
    refine lv_iload_n X.1 X.2.1 (dk T_X10_take 10 rfl) rfl (lv_at hl 1 rfl) ?_
    obtain ⟨q6, hq6, h⟩ := bs h
    refine gvVx (rest := []) X Y (c_X8_removePart 1 rfl x1 q5 hq6) cb_X10_206 rfl hl.1 rfl rfl (Nat.le_of_ble_eq_true rfl) ⟨Nat.le_of_ble_eq_true rfl, Nat.le_of_ble_eq_true rfl⟩ ⟨Nat.le_of_ble_eq_true rfl, Nat.le_of_ble_eq_true rfl⟩ (dk T_X10_take 11 rfl) (fun H locs Y => ?_)
    refine lv_aload_n X.1 X.2.1 (dk T_X10_take 12 rfl) rfl (lv_at hl 0 rfl) ?_
    refine gg X Y fl_X10_12 rfl rfl (dk T_X10_take 13 rfl) ?_
    refine ggN X Y fl_X10_163 rfl rfl (dk T_X10_take 14 rfl) ?_
    obtain ⟨q7, hq7, h⟩ := bs h
    refine gvIx (rest := []) X Y (c_X9_size 6 rfl q6 hq7) cb_X10_209 rfl hl.1 rfl rfl (Nat.le_of_ble_eq_true rfl) ⟨Nat.le_of_ble_eq_true rfl, Nat.le_of_ble_eq_true rfl⟩ ⟨Nat.le_of_ble_eq_true rfl, Nat.le_of_ble_eq_true rfl⟩ (dk T_X10_take 15 rfl) (fun H locs Y => ?_)
    exact KR q7 q6 _ _ _ _ _ _ (Option.some.inj h).symm (Nat.le_of_ble_eq_true rfl) (Nat.le_of_ble_eq_true rfl) Y (dk T_X10_take 16 rfl)
def f_X10_take (x1 : Int32) (σ : St) : Option ((String × St) ⊕ (Int32 × St)) := f_X10_take_0 x1 σ
set_option maxHeartbeats 4000000 in
set_option maxRecDepth 100000 in
theorem c_X10_take {l : Launch} {g : Geo} (x1 : Int32) (σ : St) {w : (String × St) ⊕ (Int32 × St)} (h : f_X10_take x1 σ = some w) : CtT l yX10_take cX10_take 2 (some .int) 7 111 1 6 g [.ref (g.2.2 (0)), .int (x1)] σ w := enT .int (by decide) rfl (fun _ _ _ => rfl) (Nat.le_of_ble_eq_true rfl) ⟨Nat.le_of_ble_eq_true rfl, Nat.le_of_ble_eq_true rfl⟩ (fun p e s m args below meth c Q X TX hst Y ls hl KR KT KO => w_X10_take_0 X TX hst x1 σ KR KT KO Y hl h)
def I_X10_part : List (Nat × Instr × Nat) := [(0, .aload_n 0, 1), (1, .iload_n 1, 1), (2, .invokevirtual 203, 3), (5, .iload_n 2, 1), (6, .tableswitch 90 0 7 #[46, 46, 46, 46, 46, 59, 68, 81], 46), (52, .aload_n 0, 1), (53, .getfield 12, 3), (56, .getfield 163, 3), (59, .iload_n 1, 1), (60, .iload_n 2, 1), (61, .invokevirtual 156, 3), (64, .ireturn, 1), (65, .aload_n 0, 1), (66, .getfield 12, 3), (69, .iload_n 1, 1), (70, .invokevirtual 213, 3), (73, .ireturn, 1), (74, .aload_n 0, 1), (75, .getfield 56, 3), (78, .aload_n 0, 1), (79, .getfield 12, 3), (82, .iload_n 1, 1), (83, .invokevirtual 216, 3), (86, .ireturn, 1), (87, .aload_n 0, 1), (88, .getfield 12, 3), (91, .iload_n 1, 1), (92, .invokevirtual 219, 3), (95, .ireturn, 1), (96, .new 86, 3), (99, .dup, 1), (100, .ldc 177, 2), (102, .invokespecial 90, 3), (105, .athrow, 1)]
set_option maxRecDepth 100000 in
theorem T_X10_part : ∀ q ∈ I_X10_part, decode cX10_part q.1 = .ok (q.2.1, q.2.2) := by decide +kernel
def f_X10_part_j52 (x1 : Int32) (x2 : Int32) (σ : St) : Option ((String × St) ⊕ (Int32 × St)) :=
  (f_X9_get 6 x1 x2 σ).bind fun q6 => some (.inr (q6, σ))
set_option maxHeartbeats 4000000 in
set_option maxRecDepth 100000 in
theorem w_X10_part_j52 (X : Cx g RX10 cX10_part 3 (some .int) p s m args meth c) (TX : TXs g (GA g s.heap.size) s s.heap) (hst : l.stackTraces = false) (x1 : Int32) (x2 : Int32) (σ : St) {w : (String × St) ⊕ (Int32 × St)} (KR : ∀ (v : Int32) (τ : St) (H : Heap) (locs : List Loc) (ls : Array Slot) (pc k n : Nat), w = .inr (v, τ) → k ≤ 2 → n ≤ 12 → Wd g s τ H locs → decode cX10_part pc = .ok (.ireturn, 1) → W p l e (rmT 7 119 2 12) s m args below meth c H locs k n Q (F0 m pc ls [.int v])) (KT : ∀ (E text : String) (ik is ic : Nat) (τ : St) (H : Heap) (locs : List Loc) (ls : Array Slot) (pc : Nat) (rest : List Value) (k n : Nat), THx RX10 E text ik is ic → w = .inl (E, τ) → Wd g s τ H locs → ls.size = 3 → (rest.map fun v => v.category).sum ≤ 8 → (decode cX10_part pc = .ok (.new ik, 3) ∧ decode cX10_part (pc + 3) = .ok (.dup, 1) ∧ ((decode cX10_part (pc + 4) = .ok (.ldc is, 2) ∧ decode cX10_part (pc + 6) = .ok (.invokespecial ic, 3) ∧ decode cX10_part (pc + 9) = .ok (.athrow, 1)) ∨ (decode cX10_part (pc + 4) = .ok (.ldc_w is, 3) ∧ decode cX10_part (pc + 7) = .ok (.invokespecial ic, 3) ∧ decode cX10_part (pc + 10) = .ok (.athrow, 1)))) → k + 1 ≤ 2 → n + 6 ≤ 12 → W p l e (rmT 7 119 2 12) s m args below meth c H locs k n Q (F0 m pc ls rest)) (KO : ∀ (E : String) (τ : St) (ce : Cell) (q9 : Addr) (H : Heap) (locs : List Loc) (ls : Array Slot) (pc : Nat) (rest : List Value) (k n : Nat), w = .inl (E, τ) → Wd g s τ H locs → H[q9]? = some ce → ce.vm = .none → s.vm.findClass E = some ce.cls → k ≤ 2 → n ≤ 12 → vx_W p l e (rmT 7 119 2 12) s m args below meth c H locs k n Q (F0 m pc ls rest) q9) {H : Heap} {locs : List Loc} {ls : Array Slot} (Y : Wd g s σ H locs) (hl : lv_has ls 3 [(0, .ref (g.2.2 (0))), (1, .int (x1)), (2, .int (x2))]) (h : f_X10_part_j52 x1 x2 σ = some w) : W p l e (rmT 7 119 2 12) s m args below meth c H locs 1 6 Q (F0 m 52 ls []) := by
  unfold f_X10_part_j52 at h
  refine lv_aload_n X.1 X.2.1 (dk T_X10_part 5 rfl) rfl (lv_at hl 0 rfl) ?_
  refine gg X Y fl_X10_12 rfl rfl (dk T_X10_part 6 rfl) ?_
  refine ggN X Y fl_X10_163 rfl rfl (dk T_X10_part 7 rfl) ?_
  refine lv_iload_n X.1 X.2.1 (dk T_X10_part 8 rfl) rfl (lv_at hl 1 rfl) ?_
  refine lv_iload_n X.1 X.2.1 (dk T_X10_part 9 rfl) rfl (lv_at hl 2 rfl) ?_
  obtain ⟨q6, hq6, h⟩ := bs h
  refine gvIx (rest := []) X Y (c_X9_get 6 rfl x1 x2 σ hq6) cb_X10_156 rfl hl.1 rfl rfl (Nat.le_of_ble_eq_true rfl) ⟨Nat.le_of_ble_eq_true rfl, Nat.le_of_ble_eq_true rfl⟩ ⟨Nat.le_of_ble_eq_true rfl, Nat.le_of_ble_eq_true rfl⟩ (dk T_X10_part 10 rfl) (fun H locs Y => ?_)
  exact KR q6 σ _ _ _ _ _ _ (Option.some.inj h).symm (Nat.le_of_ble_eq_true rfl) (Nat.le_of_ble_eq_true rfl) Y (dk T_X10_part 11 rfl)
def f_X10_part_0 (x1 : Int32) (x2 : Int32) (σ : St) : Option ((String × St) ⊕ (Int32 × St)) :=
  (f_X10_checkPart x1 σ).bind fun q1 => Sum.elim (fun x => some (.inl x)) (fun q1 => if x2 = 0 then f_X10_part_j52 x1 x2 q1 else if x2 = 1 then f_X10_part_j52 x1 x2 q1 else if x2 = 2 then f_X10_part_j52 x1 x2 q1 else if x2 = 3 then f_X10_part_j52 x1 x2 q1 else if x2 = 4 then f_X10_part_j52 x1 x2 q1 else if x2 = 5 then (f_X8_lowestCell 1 x1 q1).bind fun q12 => some (.inr (q12, q1)) else if x2 = 6 then (f_X4_smallestAround 1 x1 q1).bind fun q14 => some (.inr (q14.1, q14.2)) else if x2 = 7 then (f_X8_commonCutsOf 1 x1 q1).bind fun q16 => some (.inr (q16, q1)) else some (.inl ("java/lang/IllegalArgumentException", q1))) q1
set_option maxHeartbeats 4000000 in
set_option maxRecDepth 100000 in
theorem w_X10_part_0 (X : Cx g RX10 cX10_part 3 (some .int) p s m args meth c) (TX : TXs g (GA g s.heap.size) s s.heap) (hst : l.stackTraces = false) (x1 : Int32) (x2 : Int32) (σ : St) {w : (String × St) ⊕ (Int32 × St)} (KR : ∀ (v : Int32) (τ : St) (H : Heap) (locs : List Loc) (ls : Array Slot) (pc k n : Nat), w = .inr (v, τ) → k ≤ 2 → n ≤ 12 → Wd g s τ H locs → decode cX10_part pc = .ok (.ireturn, 1) → W p l e (rmT 7 119 2 12) s m args below meth c H locs k n Q (F0 m pc ls [.int v])) (KT : ∀ (E text : String) (ik is ic : Nat) (τ : St) (H : Heap) (locs : List Loc) (ls : Array Slot) (pc : Nat) (rest : List Value) (k n : Nat), THx RX10 E text ik is ic → w = .inl (E, τ) → Wd g s τ H locs → ls.size = 3 → (rest.map fun v => v.category).sum ≤ 8 → (decode cX10_part pc = .ok (.new ik, 3) ∧ decode cX10_part (pc + 3) = .ok (.dup, 1) ∧ ((decode cX10_part (pc + 4) = .ok (.ldc is, 2) ∧ decode cX10_part (pc + 6) = .ok (.invokespecial ic, 3) ∧ decode cX10_part (pc + 9) = .ok (.athrow, 1)) ∨ (decode cX10_part (pc + 4) = .ok (.ldc_w is, 3) ∧ decode cX10_part (pc + 7) = .ok (.invokespecial ic, 3) ∧ decode cX10_part (pc + 10) = .ok (.athrow, 1)))) → k + 1 ≤ 2 → n + 6 ≤ 12 → W p l e (rmT 7 119 2 12) s m args below meth c H locs k n Q (F0 m pc ls rest)) (KO : ∀ (E : String) (τ : St) (ce : Cell) (q9 : Addr) (H : Heap) (locs : List Loc) (ls : Array Slot) (pc : Nat) (rest : List Value) (k n : Nat), w = .inl (E, τ) → Wd g s τ H locs → H[q9]? = some ce → ce.vm = .none → s.vm.findClass E = some ce.cls → k ≤ 2 → n ≤ 12 → vx_W p l e (rmT 7 119 2 12) s m args below meth c H locs k n Q (F0 m pc ls rest) q9) {H : Heap} {locs : List Loc} {ls : Array Slot} (Y : Wd g s σ H locs) (hl : lv_has ls 3 [(0, .ref (g.2.2 (0))), (1, .int (x1)), (2, .int (x2))]) (h : f_X10_part_0 x1 x2 σ = some w) : W p l e (rmT 7 119 2 12) s m args below meth c H locs 0 0 Q (F0 m 0 ls []) := by
  unfold f_X10_part_0 at h
  refine lv_aload_n X.1 X.2.1 (dk T_X10_part 0 rfl) rfl (lv_at hl 0 rfl) ?_
  refine lv_iload_n X.1 X.2.1 (dk T_X10_part 1 rfl) rfl (lv_at hl 1 rfl) ?_
  obtain ⟨q1, hq1, h⟩ := bs h
  refine gvTV (rest := []) X TX hst Y (c_X10_checkPart x1 σ hq1) cb_X10_203 rfl hl.1 rfl rfl (Nat.le_of_ble_eq_true rfl) ⟨(Nat.le_of_ble_eq_true rfl), (Nat.le_of_ble_eq_true rfl)⟩ ⟨(Nat.le_of_ble_eq_true rfl), (Nat.le_of_ble_eq_true rfl)⟩ (dk T_X10_part 2 rfl) (fun E τ ce q9 H locs e2 Y h1 h2 h3 => ?_) (fun t4 H locs e2 Y => ?_)
  · subst e2; replace h := sel h
    exact KO E τ ce q9 _ _ _ _ _ _ _ (Option.some.inj h).symm Y h1 h2 h3 (Nat.le_of_ble_eq_true rfl) (Nat.le_of_ble_eq_true rfl)
  · subst e2; replace h := ser h; try dsimp only at h
    refine lv_iload_n X.1 X.2.1 (dk T_X10_part 3 rfl) rfl (lv_at hl 2 rfl) ?_
    rcases Decidable.em (x2 = 0) with c5 | c5
    · replace h := ipos c5 h
      refine lv_tableIn (tgt := 52) (off := 46) X.1 X.2.1 (dk T_X10_part 4 rfl) (ts1 c5 (by decide)) (ts2 c5 (by decide)) (ts3 c5 (by decide)) rfl ?_
      exact w_X10_part_j52 X TX hst x1 x2 t4 KR KT KO Y (lv_sub hl [0, 1, 2] rfl) h
    replace h := ineg c5 h
    rcases Decidable.em (x2 = 1) with c7 | c7
    · replace h := ipos c7 h
      refine lv_tableIn (tgt := 52) (off := 46) X.1 X.2.1 (dk T_X10_part 4 rfl) (ts1 c7 (by decide)) (ts2 c7 (by decide)) (ts3 c7 (by decide)) rfl ?_
      exact w_X10_part_j52 X TX hst x1 x2 t4 KR KT KO Y (lv_sub hl [0, 1, 2] rfl) h
    replace h := ineg c7 h
    rcases Decidable.em (x2 = 2) with c8 | c8
    · replace h := ipos c8 h
      refine lv_tableIn (tgt := 52) (off := 46) X.1 X.2.1 (dk T_X10_part 4 rfl) (ts1 c8 (by decide)) (ts2 c8 (by decide)) (ts3 c8 (by decide)) rfl ?_
      exact w_X10_part_j52 X TX hst x1 x2 t4 KR KT KO Y (lv_sub hl [0, 1, 2] rfl) h
    replace h := ineg c8 h
    rcases Decidable.em (x2 = 3) with c9 | c9
    · replace h := ipos c9 h
      refine lv_tableIn (tgt := 52) (off := 46) X.1 X.2.1 (dk T_X10_part 4 rfl) (ts1 c9 (by decide)) (ts2 c9 (by decide)) (ts3 c9 (by decide)) rfl ?_
      exact w_X10_part_j52 X TX hst x1 x2 t4 KR KT KO Y (lv_sub hl [0, 1, 2] rfl) h
    replace h := ineg c9 h
    rcases Decidable.em (x2 = 4) with c10 | c10
    · replace h := ipos c10 h
      refine lv_tableIn (tgt := 52) (off := 46) X.1 X.2.1 (dk T_X10_part 4 rfl) (ts1 c10 (by decide)) (ts2 c10 (by decide)) (ts3 c10 (by decide)) rfl ?_
      exact w_X10_part_j52 X TX hst x1 x2 t4 KR KT KO Y (lv_sub hl [0, 1, 2] rfl) h
    replace h := ineg c10 h
    rcases Decidable.em (x2 = 5) with c11 | c11
    · replace h := ipos c11 h
      refine lv_tableIn (tgt := 65) (off := 59) X.1 X.2.1 (dk T_X10_part 4 rfl) (ts1 c11 (by decide)) (ts2 c11 (by decide)) (ts3 c11 (by decide)) rfl ?_
      refine lv_aload_n X.1 X.2.1 (dk T_X10_part 12 rfl) rfl (lv_at hl 0 rfl) ?_
      refine gg X Y fl_X10_12 rfl rfl (dk T_X10_part 13 rfl) ?_
      refine lv_iload_n X.1 X.2.1 (dk T_X10_part 14 rfl) rfl (lv_at hl 1 rfl) ?_
      obtain ⟨q12, hq12, h⟩ := bs h
      refine gvIx (rest := []) X Y (c_X8_lowestCell 1 rfl x1 t4 hq12) cb_X10_213 rfl hl.1 rfl rfl (Nat.le_of_ble_eq_true rfl) ⟨Nat.le_of_ble_eq_true rfl, Nat.le_of_ble_eq_true rfl⟩ ⟨Nat.le_of_ble_eq_true rfl, Nat.le_of_ble_eq_true rfl⟩ (dk T_X10_part 15 rfl) (fun H locs Y => ?_)
      exact KR q12 t4 _ _ _ _ _ _ (Option.some.inj h).symm (Nat.le_of_ble_eq_true rfl) (Nat.le_of_ble_eq_true rfl) Y (dk T_X10_part 16 rfl)
    replace h := ineg c11 h
    rcases Decidable.em (x2 = 6) with c13 | c13
    · replace h := ipos c13 h
      refine lv_tableIn (tgt := 74) (off := 68) X.1 X.2.1 (dk T_X10_part 4 rfl) (ts1 c13 (by decide)) (ts2 c13 (by decide)) (ts3 c13 (by decide)) rfl ?_
      refine lv_aload_n X.1 X.2.1 (dk T_X10_part 17 rfl) rfl (lv_at hl 0 rfl) ?_
      refine gg X Y fl_X10_56 rfl rfl (dk T_X10_part 18 rfl) ?_
      refine lv_aload_n X.1 X.2.1 (dk T_X10_part 19 rfl) rfl (lv_at hl 0 rfl) ?_
      refine gg X Y fl_X10_12 rfl rfl (dk T_X10_part 20 rfl) ?_
      refine lv_iload_n X.1 X.2.1 (dk T_X10_part 21 rfl) rfl (lv_at hl 1 rfl) ?_
      obtain ⟨q14, hq14, h⟩ := bs h
      refine gvIx (rest := []) X Y (c_X4_smallestAround 1 rfl x1 t4 hq14) cb_X10_216 rfl hl.1 rfl rfl (Nat.le_of_ble_eq_true rfl) ⟨Nat.le_of_ble_eq_true rfl, Nat.le_of_ble_eq_true rfl⟩ ⟨Nat.le_of_ble_eq_true rfl, Nat.le_of_ble_eq_true rfl⟩ (dk T_X10_part 22 rfl) (fun H locs Y => ?_)
      exact KR q14.1 q14.2 _ _ _ _ _ _ (Option.some.inj h).symm (Nat.le_of_ble_eq_true rfl) (Nat.le_of_ble_eq_true rfl) Y (dk T_X10_part 23 rfl)
    replace h := ineg c13 h
    rcases Decidable.em (x2 = 7) with c15 | c15
    · replace h := ipos c15 h
      refine lv_tableIn (tgt := 87) (off := 81) X.1 X.2.1 (dk T_X10_part 4 rfl) (ts1 c15 (by decide)) (ts2 c15 (by decide)) (ts3 c15 (by decide)) rfl ?_
      refine lv_aload_n X.1 X.2.1 (dk T_X10_part 24 rfl) rfl (lv_at hl 0 rfl) ?_
      refine gg X Y fl_X10_12 rfl rfl (dk T_X10_part 25 rfl) ?_
      refine lv_iload_n X.1 X.2.1 (dk T_X10_part 26 rfl) rfl (lv_at hl 1 rfl) ?_
      obtain ⟨q16, hq16, h⟩ := bs h
      refine gvIx (rest := []) X Y (c_X8_commonCutsOf 1 rfl x1 t4 hq16) cb_X10_219 rfl hl.1 rfl rfl (Nat.le_of_ble_eq_true rfl) ⟨Nat.le_of_ble_eq_true rfl, Nat.le_of_ble_eq_true rfl⟩ ⟨Nat.le_of_ble_eq_true rfl, Nat.le_of_ble_eq_true rfl⟩ (dk T_X10_part 27 rfl) (fun H locs Y => ?_)
      exact KR q16 t4 _ _ _ _ _ _ (Option.some.inj h).symm (Nat.le_of_ble_eq_true rfl) (Nat.le_of_ble_eq_true rfl) Y (dk T_X10_part 28 rfl)
    replace h := ineg c15 h
    refine lv_tableOut (tgt := 96) X.1 X.2.1 (dk T_X10_part 4 rfl) (ts8n c5 c7 c8 c9 c10 c11 c13 c15) rfl ?_
    exact KT "java/lang/IllegalArgumentException" "what is not valid" 86 177 90 _ _ _ _ _ _ _ _ th_86_177_90 (Option.some.inj h).symm Y hl.1 (Nat.le_of_ble_eq_true rfl) ⟨(dk T_X10_part 29 rfl), (dk T_X10_part 30 rfl), Or.inl ⟨(dk T_X10_part 31 rfl), (dk T_X10_part 32 rfl), (dk T_X10_part 33 rfl)⟩⟩ (Nat.le_of_ble_eq_true rfl) (Nat.le_of_ble_eq_true rfl)
def f_X10_part (x1 : Int32) (x2 : Int32) (σ : St) : Option ((String × St) ⊕ (Int32 × St)) := f_X10_part_0 x1 x2 σ
set_option maxHeartbeats 4000000 in
set_option maxRecDepth 100000 in
theorem c_X10_part {l : Launch} {g : Geo} (x1 : Int32) (x2 : Int32) (σ : St) {w : (String × St) ⊕ (Int32 × St)} (h : f_X10_part x1 x2 σ = some w) : CtT l yX10_part cX10_part 3 (some .int) 7 119 2 12 g [.ref (g.2.2 (0)), .int (x1), .int (x2)] σ w := enT .int (by decide) rfl (fun _ _ _ => rfl) (Nat.le_of_ble_eq_true rfl) ⟨Nat.le_of_ble_eq_true rfl, Nat.le_of_ble_eq_true rfl⟩ (fun p e s m args below meth c Q X TX hst Y ls hl KR KT KO => w_X10_part_0 X TX hst x1 x2 σ KR KT KO Y hl h)
def I_X10_causeNumber : List (Nat × Instr × Nat) := [(0, .aload_n 0, 1), (1, .iload_n 1, 1), (2, .invokevirtual 324, 3), (5, .ifCond .ne 14, 3), (8, .new 230, 3), (11, .dup, 1), (12, .ldc_w 327, 3), (15, .invokespecial 232, 3), (18, .athrow, 1), (19, .iload_n 2, 1), (20, .ifCond .eq 11, 3), (23, .aload_n 0, 1), (24, .iload_n 1, 1), (25, .invokevirtual 329, 3), (28, .goto 8, 3), (31, .aload_n 0, 1), (32, .iload_n 1, 1), (33, .invokevirtual 332, 3), (36, .ireturn, 1)]
set_option maxRecDepth 100000 in
theorem T_X10_causeNumber : ∀ q ∈ I_X10_causeNumber, decode cX10_causeNumber q.1 = .ok (q.2.1, q.2.2) := by decide +kernel
def f_X10_causeNumber_0 (t0 : Nat) (x1 : Int32) (x2 : Int32) (σ : St) : Option ((String × St) ⊕ (Int32 × St)) :=
  (f_X0_has t0 x1 σ).bind fun q1 => if q1 = 0 then some (.inl ("java/util/NoSuchElementException", σ)) else if x2 = 0 then (f_X0_kindAt t0 x1 σ).bind fun q4 => some (.inr (q4, σ)) else (f_X0_placeAt t0 x1 σ).bind fun q5 => some (.inr (q5, σ))
set_option maxHeartbeats 4000000 in
set_option maxRecDepth 100000 in
theorem w_X10_causeNumber_0 (X : Cx g RX10 cX10_causeNumber 3 (some .int) p s m args meth c) (TX : TXs g (GA g s.heap.size) s s.heap) (hst : l.stackTraces = false) (t0 : Nat) (hk0 : kd t0 = 2) (x1 : Int32) (x2 : Int32) (σ : St) {w : (String × St) ⊕ (Int32 × St)} (KR : ∀ (v : Int32) (τ : St) (H : Heap) (locs : List Loc) (ls : Array Slot) (pc k n : Nat), w = .inr (v, τ) → k ≤ 1 → n ≤ 6 → Wd g s τ H locs → decode cX10_causeNumber pc = .ok (.ireturn, 1) → W p l e (rmT 6 90 1 6) s m args below meth c H locs k n Q (F0 m pc ls [.int v])) (KT : ∀ (E text : String) (ik is ic : Nat) (τ : St) (H : Heap) (locs : List Loc) (ls : Array Slot) (pc : Nat) (rest : List Value) (k n : Nat), THx RX10 E text ik is ic → w = .inl (E, τ) → Wd g s τ H locs → ls.size = 3 → (rest.map fun v => v.category).sum ≤ 8 → (decode cX10_causeNumber pc = .ok (.new ik, 3) ∧ decode cX10_causeNumber (pc + 3) = .ok (.dup, 1) ∧ ((decode cX10_causeNumber (pc + 4) = .ok (.ldc is, 2) ∧ decode cX10_causeNumber (pc + 6) = .ok (.invokespecial ic, 3) ∧ decode cX10_causeNumber (pc + 9) = .ok (.athrow, 1)) ∨ (decode cX10_causeNumber (pc + 4) = .ok (.ldc_w is, 3) ∧ decode cX10_causeNumber (pc + 7) = .ok (.invokespecial ic, 3) ∧ decode cX10_causeNumber (pc + 10) = .ok (.athrow, 1)))) → k + 1 ≤ 1 → n + 6 ≤ 6 → W p l e (rmT 6 90 1 6) s m args below meth c H locs k n Q (F0 m pc ls rest)) (KO : ∀ (E : String) (τ : St) (ce : Cell) (q9 : Addr) (H : Heap) (locs : List Loc) (ls : Array Slot) (pc : Nat) (rest : List Value) (k n : Nat), w = .inl (E, τ) → Wd g s τ H locs → H[q9]? = some ce → ce.vm = .none → s.vm.findClass E = some ce.cls → k ≤ 1 → n ≤ 6 → vx_W p l e (rmT 6 90 1 6) s m args below meth c H locs k n Q (F0 m pc ls rest) q9) {H : Heap} {locs : List Loc} {ls : Array Slot} (Y : Wd g s σ H locs) (hl : lv_has ls 3 [(0, .ref (g.2.2 (t0))), (1, .int (x1)), (2, .int (x2))]) (h : f_X10_causeNumber_0 t0 x1 x2 σ = some w) : W p l e (rmT 6 90 1 6) s m args below meth c H locs 0 0 Q (F0 m 0 ls []) := by
  unfold f_X10_causeNumber_0 at h
  refine lv_aload_n X.1 X.2.1 (dk T_X10_causeNumber 0 rfl) rfl (lv_at hl 0 rfl) ?_
  refine lv_iload_n X.1 X.2.1 (dk T_X10_causeNumber 1 rfl) rfl (lv_at hl 1 rfl) ?_
  obtain ⟨q1, hq1, h⟩ := bs h
  refine gvIx (rest := []) X Y (c_X0_has t0 hk0 x1 σ hq1) cb_X10_324 hk0 hl.1 rfl rfl (Nat.le_of_ble_eq_true rfl) ⟨Nat.le_of_ble_eq_true rfl, Nat.le_of_ble_eq_true rfl⟩ ⟨Nat.le_of_ble_eq_true rfl, Nat.le_of_ble_eq_true rfl⟩ (dk T_X10_causeNumber 2 rfl) (fun H locs Y => ?_)
  refine lv_if_ne (tgt := 19) X.1 X.2.1 (dk T_X10_causeNumber 3 rfl) rfl (fun c2 => ?_) (fun c2 => ?_)
  · replace h := ineg c2 h
    refine lv_iload_n X.1 X.2.1 (dk T_X10_causeNumber 9 rfl) rfl (lv_at hl 2 rfl) ?_
    refine lv_if_eq (tgt := 31) X.1 X.2.1 (dk T_X10_causeNumber 10 rfl) rfl (fun c3 => ?_) (fun c3 => ?_)
    · replace h := ipos c3 h
      refine lv_aload_n X.1 X.2.1 (dk T_X10_causeNumber 15 rfl) rfl (lv_at hl 0 rfl) ?_
      refine lv_iload_n X.1 X.2.1 (dk T_X10_causeNumber 16 rfl) rfl (lv_at hl 1 rfl) ?_
      obtain ⟨q4, hq4, h⟩ := bs h
      refine gvIx (rest := []) X Y (c_X0_kindAt t0 hk0 x1 σ hq4) cb_X10_332 hk0 hl.1 rfl rfl (Nat.le_of_ble_eq_true rfl) ⟨Nat.le_of_ble_eq_true rfl, Nat.le_of_ble_eq_true rfl⟩ ⟨Nat.le_of_ble_eq_true rfl, Nat.le_of_ble_eq_true rfl⟩ (dk T_X10_causeNumber 17 rfl) (fun H locs Y => ?_)
      exact KR q4 σ _ _ _ _ _ _ (Option.some.inj h).symm (Nat.le_of_ble_eq_true rfl) (Nat.le_of_ble_eq_true rfl) Y (dk T_X10_causeNumber 18 rfl)
    · replace h := ineg c3 h
      refine lv_aload_n X.1 X.2.1 (dk T_X10_causeNumber 11 rfl) rfl (lv_at hl 0 rfl) ?_
      refine lv_iload_n X.1 X.2.1 (dk T_X10_causeNumber 12 rfl) rfl (lv_at hl 1 rfl) ?_
      obtain ⟨q5, hq5, h⟩ := bs h
      refine gvIx (rest := []) X Y (c_X0_placeAt t0 hk0 x1 σ hq5) cb_X10_329 hk0 hl.1 rfl rfl (Nat.le_of_ble_eq_true rfl) ⟨Nat.le_of_ble_eq_true rfl, Nat.le_of_ble_eq_true rfl⟩ ⟨Nat.le_of_ble_eq_true rfl, Nat.le_of_ble_eq_true rfl⟩ (dk T_X10_causeNumber 13 rfl) (fun H locs Y => ?_)
      refine lv_goto (tgt := 36) X.1 X.2.1 (dk T_X10_causeNumber 14 rfl) rfl ?_
      exact KR q5 σ _ _ _ _ _ _ (Option.some.inj h).symm (Nat.le_of_ble_eq_true rfl) (Nat.le_of_ble_eq_true rfl) Y (dk T_X10_causeNumber 18 rfl)
  · replace h := ipos c2 h
    exact KT "java/util/NoSuchElementException" "nothing is kept of this level" 230 327 232 _ _ _ _ _ _ _ _ th_230_327_232 (Option.some.inj h).symm Y hl.1 (Nat.le_of_ble_eq_true rfl) ⟨(dk T_X10_causeNumber 4 rfl), (dk T_X10_causeNumber 5 rfl), Or.inr ⟨(dk T_X10_causeNumber 6 rfl), (dk T_X10_causeNumber 7 rfl), (dk T_X10_causeNumber 8 rfl)⟩⟩ (Nat.le_of_ble_eq_true rfl) (Nat.le_of_ble_eq_true rfl)
def f_X10_causeNumber (t0 : Nat) (x1 : Int32) (x2 : Int32) (σ : St) : Option ((String × St) ⊕ (Int32 × St)) := f_X10_causeNumber_0 t0 x1 x2 σ
set_option maxHeartbeats 4000000 in
set_option maxRecDepth 100000 in
theorem c_X10_causeNumber {l : Launch} {g : Geo} (t0 : Nat) (hk0 : kd t0 = 2) (x1 : Int32) (x2 : Int32) (σ : St) {w : (String × St) ⊕ (Int32 × St)} (h : f_X10_causeNumber t0 x1 x2 σ = some w) : CtT l yX10_causeNumber cX10_causeNumber 3 (some .int) 6 90 1 6 g [.ref (g.2.2 (t0)), .int (x1), .int (x2)] σ w := enT .int (by decide) rfl (fun _ _ _ => rfl) (Nat.le_of_ble_eq_true rfl) ⟨Nat.le_of_ble_eq_true rfl, Nat.le_of_ble_eq_true rfl⟩ (fun p e s m args below meth c Q X TX hst Y ls hl KR KT KO => w_X10_causeNumber_0 X TX hst t0 hk0 x1 x2 σ KR KT KO Y hl h)
def I_X10_reason : List (Nat × Instr × Nat) := [(0, .aload_n 0, 1), (1, .getfield 32, 3), (4, .iload_n 1, 1), (5, .iload_n 2, 1), (6, .invokestatic 222, 3), (9, .ireturn, 1)]
set_option maxRecDepth 100000 in
theorem T_X10_reason : ∀ q ∈ I_X10_reason, decode cX10_reason q.1 = .ok (q.2.1, q.2.2) := by decide +kernel
def f_X10_reason_0 (x1 : Int32) (x2 : Int32) (σ : St) : Option ((String × St) ⊕ (Int32 × St)) :=
  (f_X10_causeNumber 80 x1 x2 σ).bind fun q1 => Sum.elim (fun x => some (.inl x)) (fun q1 => some (.inr (q1.1, q1.2))) q1
set_option maxHeartbeats 4000000 in
set_option maxRecDepth 100000 in
theorem w_X10_reason_0 (X : Cx g RX10 cX10_reason 3 (some .int) p s m args meth c) (TX : TXs g (GA g s.heap.size) s s.heap) (hst : l.stackTraces = false) (x1 : Int32) (x2 : Int32) (σ : St) {w : (String × St) ⊕ (Int32 × St)} (KR : ∀ (v : Int32) (τ : St) (H : Heap) (locs : List Loc) (ls : Array Slot) (pc k n : Nat), w = .inr (v, τ) → k ≤ 1 → n ≤ 6 → Wd g s τ H locs → decode cX10_reason pc = .ok (.ireturn, 1) → W p l e (rmT 7 112 1 6) s m args below meth c H locs k n Q (F0 m pc ls [.int v])) (KT : ∀ (E text : String) (ik is ic : Nat) (τ : St) (H : Heap) (locs : List Loc) (ls : Array Slot) (pc : Nat) (rest : List Value) (k n : Nat), THx RX10 E text ik is ic → w = .inl (E, τ) → Wd g s τ H locs → ls.size = 3 → (rest.map fun v => v.category).sum ≤ 8 → (decode cX10_reason pc = .ok (.new ik, 3) ∧ decode cX10_reason (pc + 3) = .ok (.dup, 1) ∧ ((decode cX10_reason (pc + 4) = .ok (.ldc is, 2) ∧ decode cX10_reason (pc + 6) = .ok (.invokespecial ic, 3) ∧ decode cX10_reason (pc + 9) = .ok (.athrow, 1)) ∨ (decode cX10_reason (pc + 4) = .ok (.ldc_w is, 3) ∧ decode cX10_reason (pc + 7) = .ok (.invokespecial ic, 3) ∧ decode cX10_reason (pc + 10) = .ok (.athrow, 1)))) → k + 1 ≤ 1 → n + 6 ≤ 6 → W p l e (rmT 7 112 1 6) s m args below meth c H locs k n Q (F0 m pc ls rest)) (KO : ∀ (E : String) (τ : St) (ce : Cell) (q9 : Addr) (H : Heap) (locs : List Loc) (ls : Array Slot) (pc : Nat) (rest : List Value) (k n : Nat), w = .inl (E, τ) → Wd g s τ H locs → H[q9]? = some ce → ce.vm = .none → s.vm.findClass E = some ce.cls → k ≤ 1 → n ≤ 6 → vx_W p l e (rmT 7 112 1 6) s m args below meth c H locs k n Q (F0 m pc ls rest) q9) {H : Heap} {locs : List Loc} {ls : Array Slot} (Y : Wd g s σ H locs) (hl : lv_has ls 3 [(0, .ref (g.2.2 (0))), (1, .int (x1)), (2, .int (x2))]) (h : f_X10_reason_0 x1 x2 σ = some w) : W p l e (rmT 7 112 1 6) s m args below meth c H locs 0 0 Q (F0 m 0 ls []) := by
  unfold f_X10_reason_0 at h
  refine lv_aload_n X.1 X.2.1 (dk T_X10_reason 0 rfl) rfl (lv_at hl 0 rfl) ?_
  refine gg X Y fl_X10_32 rfl rfl (dk T_X10_reason 1 rfl) ?_
  refine lv_iload_n X.1 X.2.1 (dk T_X10_reason 2 rfl) rfl (lv_at hl 1 rfl) ?_
  refine lv_iload_n X.1 X.2.1 (dk T_X10_reason 3 rfl) rfl (lv_at hl 2 rfl) ?_
  obtain ⟨q1, hq1, h⟩ := bs h
  refine gsT (rest := []) X TX hst Y (c_X10_causeNumber 80 rfl x1 x2 σ hq1) cb_X10_222 hl.1 rfl rfl (Nat.le_of_ble_eq_true rfl) ⟨(Nat.le_of_ble_eq_true rfl), (Nat.le_of_ble_eq_true rfl)⟩ ⟨(Nat.le_of_ble_eq_true rfl), (Nat.le_of_ble_eq_true rfl)⟩ (dk T_X10_reason 4 rfl) (fun E τ ce q9 H locs e2 Y h1 h2 h3 => ?_) (fun y3 t4 H locs e2 Y => ?_)
  · subst e2; replace h := sel h
    exact KO E τ ce q9 _ _ _ _ _ _ _ (Option.some.inj h).symm Y h1 h2 h3 (Nat.le_of_ble_eq_true rfl) (Nat.le_of_ble_eq_true rfl)
  · subst e2; replace h := ser h; try dsimp only at h
    exact KR y3 t4 _ _ _ _ _ _ (Option.some.inj h).symm (Nat.le_of_ble_eq_true rfl) (Nat.le_of_ble_eq_true rfl) Y (dk T_X10_reason 5 rfl)
def f_X10_reason (x1 : Int32) (x2 : Int32) (σ : St) : Option ((String × St) ⊕ (Int32 × St)) := f_X10_reason_0 x1 x2 σ
set_option maxHeartbeats 4000000 in
set_option maxRecDepth 100000 in
theorem c_X10_reason {l : Launch} {g : Geo} (x1 : Int32) (x2 : Int32) (σ : St) {w : (String × St) ⊕ (Int32 × St)} (h : f_X10_reason x1 x2 σ = some w) : CtT l yX10_reason cX10_reason 3 (some .int) 7 112 1 6 g [.ref (g.2.2 (0)), .int (x1), .int (x2)] σ w := enT .int (by decide) rfl (fun _ _ _ => rfl) (Nat.le_of_ble_eq_true rfl) ⟨Nat.le_of_ble_eq_true rfl, Nat.le_of_ble_eq_true rfl⟩ (fun p e s m args below meth c Q X TX hst Y ls hl KR KT KO => w_X10_reason_0 X TX hst x1 x2 σ KR KT KO Y hl h)
def I_X10_nest : List (Nat × Instr × Nat) := [(0, .aload_n 0, 1), (1, .iload_n 1, 1), (2, .invokevirtual 179, 3), (5, .aload_n 0, 1), (6, .getfield 49, 3), (9, .aload_n 0, 1), (10, .getfield 12, 3), (13, .iload_n 1, 1), (14, .invokevirtual 226, 3), (17, .ifCond .ne 13, 3), (20, .new 230, 3), (23, .dup, 1), (24, .ldc 198, 2), (26, .invokespecial 232, 3), (29, .athrow, 1), (30, .aload_n 0, 1), (31, .getfield 25, 3), (34, .aload_n 0, 1), (35, .getfield 12, 3), (38, .invokevirtual 108, 3), (41, .aload_n 0, 1), (42, .getfield 49, 3), (45, .aload_n 0, 1), (46, .getfield 12, 3), (49, .iload_n 1, 1), (50, .invokevirtual 233, 3), (53, .ireturn, 1)]
set_option maxRecDepth 100000 in
theorem T_X10_nest : ∀ q ∈ I_X10_nest, decode cX10_nest q.1 = .ok (q.2.1, q.2.2) := by decide +kernel
def f_X10_nest_0 (x1 : Int32) (σ : St) : Option ((String × St) ⊕ (Int32 × St)) :=
  (f_X10_checkShape x1 σ).bind fun q1 => Sum.elim (fun x => some (.inl x)) (fun q1 => (f_X7_find 1 x1 q1).bind fun q5 => if q5.1 = 0 then some (.inl ("java/util/NoSuchElementException", q5.2)) else (f_X2_push 1 q5.2).bind fun q7 => (f_X7_carryOut 1 x1 q7).bind fun q8 => some (.inr (q8.1, q8.2))) q1
set_option maxHeartbeats 4000000 in
set_option maxRecDepth 100000 in
theorem w_X10_nest_0 (X : Cx g RX10 cX10_nest 2 (some .int) p s m args meth c) (TX : TXs g (GA g s.heap.size) s s.heap) (hst : l.stackTraces = false) (x1 : Int32) (σ : St) {w : (String × St) ⊕ (Int32 × St)} (KR : ∀ (v : Int32) (τ : St) (H : Heap) (locs : List Loc) (ls : Array Slot) (pc k n : Nat), w = .inr (v, τ) → k ≤ 2 → n ≤ 12 → Wd g s τ H locs → decode cX10_nest pc = .ok (.ireturn, 1) → W p l e (rmT 7 155 2 12) s m args below meth c H locs k n Q (F0 m pc ls [.int v])) (KT : ∀ (E text : String) (ik is ic : Nat) (τ : St) (H : Heap) (locs : List Loc) (ls : Array Slot) (pc : Nat) (rest : List Value) (k n : Nat), THx RX10 E text ik is ic → w = .inl (E, τ) → Wd g s τ H locs → ls.size = 2 → (rest.map fun v => v.category).sum ≤ 8 → (decode cX10_nest pc = .ok (.new ik, 3) ∧ decode cX10_nest (pc + 3) = .ok (.dup, 1) ∧ ((decode cX10_nest (pc + 4) = .ok (.ldc is, 2) ∧ decode cX10_nest (pc + 6) = .ok (.invokespecial ic, 3) ∧ decode cX10_nest (pc + 9) = .ok (.athrow, 1)) ∨ (decode cX10_nest (pc + 4) = .ok (.ldc_w is, 3) ∧ decode cX10_nest (pc + 7) = .ok (.invokespecial ic, 3) ∧ decode cX10_nest (pc + 10) = .ok (.athrow, 1)))) → k + 1 ≤ 2 → n + 6 ≤ 12 → W p l e (rmT 7 155 2 12) s m args below meth c H locs k n Q (F0 m pc ls rest)) (KO : ∀ (E : String) (τ : St) (ce : Cell) (q9 : Addr) (H : Heap) (locs : List Loc) (ls : Array Slot) (pc : Nat) (rest : List Value) (k n : Nat), w = .inl (E, τ) → Wd g s τ H locs → H[q9]? = some ce → ce.vm = .none → s.vm.findClass E = some ce.cls → k ≤ 2 → n ≤ 12 → vx_W p l e (rmT 7 155 2 12) s m args below meth c H locs k n Q (F0 m pc ls rest) q9) {H : Heap} {locs : List Loc} {ls : Array Slot} (Y : Wd g s σ H locs) (hl : lv_has ls 2 [(0, .ref (g.2.2 (0))), (1, .int (x1))]) (h : f_X10_nest_0 x1 σ = some w) : W p l e (rmT 7 155 2 12) s m args below meth c H locs 0 0 Q (F0 m 0 ls []) := by
  unfold f_X10_nest_0 at h
  refine lv_aload_n X.1 X.2.1 (dk T_X10_nest 0 rfl) rfl (lv_at hl 0 rfl) ?_
  refine lv_iload_n X.1 X.2.1 (dk T_X10_nest 1 rfl) rfl (lv_at hl 1 rfl) ?_
  obtain ⟨q1, hq1, h⟩ := bs h
  refine gvTV (rest := []) X TX hst Y (c_X10_checkShape x1 σ hq1) cb_X10_179 rfl hl.1 rfl rfl (Nat.le_of_ble_eq_true rfl) ⟨(Nat.le_of_ble_eq_true rfl), (Nat.le_of_ble_eq_true rfl)⟩ ⟨(Nat.le_of_ble_eq_true rfl), (Nat.le_of_ble_eq_true rfl)⟩ (dk T_X10_nest 2 rfl) (fun E τ ce q9 H locs e2 Y h1 h2 h3 => ?_) (fun t4 H locs e2 Y => ?_)
  · subst e2; replace h := sel h
    exact KO E τ ce q9 _ _ _ _ _ _ _ (Option.some.inj h).symm Y h1 h2 h3 (Nat.le_of_ble_eq_true rfl) (Nat.le_of_ble_eq_true rfl)
  · subst e2; replace h := ser h; try dsimp only at h
    refine lv_aload_n X.1 X.2.1 (dk T_X10_nest 3 rfl) rfl (lv_at hl 0 rfl) ?_
    refine gg X Y fl_X10_49 rfl rfl (dk T_X10_nest 4 rfl) ?_
    refine lv_aload_n X.1 X.2.1 (dk T_X10_nest 5 rfl) rfl (lv_at hl 0 rfl) ?_
    refine gg X Y fl_X10_12 rfl rfl (dk T_X10_nest 6 rfl) ?_
    refine lv_iload_n X.1 X.2.1 (dk T_X10_nest 7 rfl) rfl (lv_at hl 1 rfl) ?_
    obtain ⟨q5, hq5, h⟩ := bs h
    refine gvIx (rest := []) X Y (c_X7_find 1 rfl x1 t4 hq5) cb_X10_226 rfl hl.1 rfl rfl (Nat.le_of_ble_eq_true rfl) ⟨Nat.le_of_ble_eq_true rfl, Nat.le_of_ble_eq_true rfl⟩ ⟨Nat.le_of_ble_eq_true rfl, Nat.le_of_ble_eq_true rfl⟩ (dk T_X10_nest 8 rfl) (fun H locs Y => ?_)
    refine lv_if_ne (tgt := 30) X.1 X.2.1 (dk T_X10_nest 9 rfl) rfl (fun c6 => ?_) (fun c6 => ?_)
    · replace h := ineg c6 h
      refine lv_aload_n X.1 X.2.1 (dk T_X10_nest 15 rfl) rfl (lv_at hl 0 rfl) ?_
      refine gg X Y fl_X10_25 rfl rfl (dk T_X10_nest 16 rfl) ?_
      refine lv_aload_n X.1 X.2.1 (dk T_X10_nest 17 rfl) rfl (lv_at hl 0 rfl) ?_
      refine gg X Y fl_X10_12 rfl rfl (dk T_X10_nest 18 rfl) ?_
      obtain ⟨q7, hq7, h⟩ := bs h
      refine gvVx (rest := []) X Y (c_X2_push 1 rfl q5.2 hq7) cb_X10_108 rfl hl.1 rfl rfl (Nat.le_of_ble_eq_true rfl) ⟨Nat.le_of_ble_eq_true rfl, Nat.le_of_ble_eq_true rfl⟩ ⟨Nat.le_of_ble_eq_true rfl, Nat.le_of_ble_eq_true rfl⟩ (dk T_X10_nest 19 rfl) (fun H locs Y => ?_)
      refine lv_aload_n X.1 X.2.1 (dk T_X10_nest 20 rfl) rfl (lv_at hl 0 rfl) ?_
      refine gg X Y fl_X10_49 rfl rfl (dk T_X10_nest 21 rfl) ?_
      refine lv_aload_n X.1 X.2.1 (dk T_X10_nest 22 rfl) rfl (lv_at hl 0 rfl) ?_
      refine gg X Y fl_X10_12 rfl rfl (dk T_X10_nest 23 rfl) ?_
      refine lv_iload_n X.1 X.2.1 (dk T_X10_nest 24 rfl) rfl (lv_at hl 1 rfl) ?_
      obtain ⟨q8, hq8, h⟩ := bs h
      refine gvIx (rest := []) X Y (c_X7_carryOut 1 rfl x1 q7 hq8) cb_X10_233 rfl hl.1 rfl rfl (Nat.le_of_ble_eq_true rfl) ⟨Nat.le_of_ble_eq_true rfl, Nat.le_of_ble_eq_true rfl⟩ ⟨Nat.le_of_ble_eq_true rfl, Nat.le_of_ble_eq_true rfl⟩ (dk T_X10_nest 25 rfl) (fun H locs Y => ?_)
      exact KR q8.1 q8.2 _ _ _ _ _ _ (Option.some.inj h).symm (Nat.le_of_ble_eq_true rfl) (Nat.le_of_ble_eq_true rfl) Y (dk T_X10_nest 26 rfl)
    · replace h := ipos c6 h
      exact KT "java/util/NoSuchElementException" "the shape cannot be placed" 230 198 232 _ _ _ _ _ _ _ _ th_230_198_232 (Option.some.inj h).symm Y hl.1 (Nat.le_of_ble_eq_true rfl) ⟨(dk T_X10_nest 10 rfl), (dk T_X10_nest 11 rfl), Or.inl ⟨(dk T_X10_nest 12 rfl), (dk T_X10_nest 13 rfl), (dk T_X10_nest 14 rfl)⟩⟩ (Nat.le_of_ble_eq_true rfl) (Nat.le_of_ble_eq_true rfl)
def f_X10_nest (x1 : Int32) (σ : St) : Option ((String × St) ⊕ (Int32 × St)) := f_X10_nest_0 x1 σ
set_option maxHeartbeats 4000000 in
set_option maxRecDepth 100000 in
theorem c_X10_nest {l : Launch} {g : Geo} (x1 : Int32) (σ : St) {w : (String × St) ⊕ (Int32 × St)} (h : f_X10_nest x1 σ = some w) : CtT l yX10_nest cX10_nest 2 (some .int) 7 155 2 12 g [.ref (g.2.2 (0)), .int (x1)] σ w := enT .int (by decide) rfl (fun _ _ _ => rfl) (Nat.le_of_ble_eq_true rfl) ⟨Nat.le_of_ble_eq_true rfl, Nat.le_of_ble_eq_true rfl⟩ (fun p e s m args below meth c Q X TX hst Y ls hl KR KT KO => w_X10_nest_0 X TX hst x1 σ KR KT KO Y hl h)
def I_X10_checkRemnant : List (Nat × Instr × Nat) := [(0, .iload_n 2, 1), (1, .iconst 0, 1), (2, .aload_n 0, 1), (3, .getfield 56, 3), (6, .aload_n 0, 1), (7, .getfield 12, 3), (10, .iload_n 1, 1), (11, .invokevirtual 173, 3), (14, .iconst 1, 1), (15, .isub, 1), (16, .invokestatic 82, 3), (19, .ifCond .ne 14, 3), (22, .new 336, 3), (25, .dup, 1), (26, .ldc_w 347, 3), (29, .invokespecial 340, 3), (32, .athrow, 1), (33, .return_, 1)]
set_option maxRecDepth 100000 in
theorem T_X10_checkRemnant : ∀ q ∈ I_X10_checkRemnant, decode cX10_checkRemnant q.1 = .ok (q.2.1, q.2.2) := by decide +kernel
def f_X10_checkRemnant_0 (x1 : Int32) (x2 : Int32) (σ : St) : Option ((String × St) ⊕ St) :=
  (f_X4_findRemnants 1 x1 σ).bind fun q1 => (f_X10_isWithin x2 0 (q1.1 - 1)).bind fun q2 => if q2 = 0 then some (.inl ("java/lang/IndexOutOfBoundsException", q1.2)) else some (.inr q1.2)
set_option maxHeartbeats 4000000 in
set_option maxRecDepth 100000 in
theorem w_X10_checkRemnant_0 (X : Cx g RX10 cX10_checkRemnant 3 none p s m args meth c) (TX : TXs g (GA g s.heap.size) s s.heap) (hst : l.stackTraces = false) (x1 : Int32) (x2 : Int32) (σ : St) {w : (String × St) ⊕ St} (KR : ∀ (τ : St) (H : Heap) (locs : List Loc) (ls : Array Slot) (pc k n : Nat), w = .inr τ → k ≤ 1 → n ≤ 6 → Wd g s τ H locs → decode cX10_checkRemnant pc = .ok (.return_, 1) → W p l e (rmT 6 93 1 6) s m args below meth c H locs k n Q (F0 m pc ls [])) (KT : ∀ (E text : String) (ik is ic : Nat) (τ : St) (H : Heap) (locs : List Loc) (ls : Array Slot) (pc : Nat) (rest : List Value) (k n : Nat), THx RX10 E text ik is ic → w = .inl (E, τ) → Wd g s τ H locs → ls.size = 3 → (rest.map fun v => v.category).sum ≤ 8 → (decode cX10_checkRemnant pc = .ok (.new ik, 3) ∧ decode cX10_checkRemnant (pc + 3) = .ok (.dup, 1) ∧ ((decode cX10_checkRemnant (pc + 4) = .ok (.ldc is, 2) ∧ decode cX10_checkRemnant (pc + 6) = .ok (.invokespecial ic, 3) ∧ decode cX10_checkRemnant (pc + 9) = .ok (.athrow, 1)) ∨ (decode cX10_checkRemnant (pc + 4) = .ok (.ldc_w is, 3) ∧ decode cX10_checkRemnant (pc + 7) = .ok (.invokespecial ic, 3) ∧ decode cX10_checkRemnant (pc + 10) = .ok (.athrow, 1)))) → k + 1 ≤ 1 → n + 6 ≤ 6 → W p l e (rmT 6 93 1 6) s m args below meth c H locs k n Q (F0 m pc ls rest)) (KO : ∀ (E : String) (τ : St) (ce : Cell) (q9 : Addr) (H : Heap) (locs : List Loc) (ls : Array Slot) (pc : Nat) (rest : List Value) (k n : Nat), w = .inl (E, τ) → Wd g s τ H locs → H[q9]? = some ce → ce.vm = .none → s.vm.findClass E = some ce.cls → k ≤ 1 → n ≤ 6 → vx_W p l e (rmT 6 93 1 6) s m args below meth c H locs k n Q (F0 m pc ls rest) q9) {H : Heap} {locs : List Loc} {ls : Array Slot} (Y : Wd g s σ H locs) (hl : lv_has ls 3 [(0, .ref (g.2.2 (0))), (1, .int (x1)), (2, .int (x2))]) (h : f_X10_checkRemnant_0 x1 x2 σ = some w) : W p l e (rmT 6 93 1 6) s m args below meth c H locs 0 0 Q (F0 m 0 ls []) := by
  unfold f_X10_checkRemnant_0 at h
  refine lv_iload_n X.1 X.2.1 (dk T_X10_checkRemnant 0 rfl) rfl (lv_at hl 2 rfl) ?_
  refine lv_iconst (v := 0) X.1 X.2.1 (dk T_X10_checkRemnant 1 rfl) ic_0 ?_
  refine lv_aload_n X.1 X.2.1 (dk T_X10_checkRemnant 2 rfl) rfl (lv_at hl 0 rfl) ?_
  refine gg X Y fl_X10_56 rfl rfl (dk T_X10_checkRemnant 3 rfl) ?_
  refine lv_aload_n X.1 X.2.1 (dk T_X10_checkRemnant 4 rfl) rfl (lv_at hl 0 rfl) ?_
  refine gg X Y fl_X10_12 rfl rfl (dk T_X10_checkRemnant 5 rfl) ?_
  refine lv_iload_n X.1 X.2.1 (dk T_X10_checkRemnant 6 rfl) rfl (lv_at hl 1 rfl) ?_
  obtain ⟨q1, hq1, h⟩ := bs h
  refine gvIx (rest := [.int (0), .int (x2)]) X Y (c_X4_findRemnants 1 rfl x1 σ hq1) cb_X10_173 rfl hl.1 rfl rfl (Nat.le_of_ble_eq_true rfl) ⟨Nat.le_of_ble_eq_true rfl, Nat.le_of_ble_eq_true rfl⟩ ⟨Nat.le_of_ble_eq_true rfl, Nat.le_of_ble_eq_true rfl⟩ (dk T_X10_checkRemnant 7 rfl) (fun H locs Y => ?_)
  refine lv_iconst (v := 1) X.1 X.2.1 (dk T_X10_checkRemnant 8 rfl) ic_1 ?_
  refine lv_isub X.1 X.2.1 (dk T_X10_checkRemnant 9 rfl) ?_
  obtain ⟨q2, hq2, h⟩ := bs h
  refine gsIx (rest := []) X Y (c_X10_isWithin x2 0 (q1.1 - 1) q1.2 hq2) cb_X10_82 hl.1 rfl rfl (Nat.le_of_ble_eq_true rfl) ⟨Nat.le_of_ble_eq_true rfl, Nat.le_of_ble_eq_true rfl⟩ ⟨Nat.le_of_ble_eq_true rfl, Nat.le_of_ble_eq_true rfl⟩ (dk T_X10_checkRemnant 10 rfl) (fun H locs Y => ?_)
  refine lv_if_ne (tgt := 33) X.1 X.2.1 (dk T_X10_checkRemnant 11 rfl) rfl (fun c3 => ?_) (fun c3 => ?_)
  · replace h := ineg c3 h
    exact KR q1.2 _ _ _ _ _ _ (Option.some.inj h).symm (Nat.le_of_ble_eq_true rfl) (Nat.le_of_ble_eq_true rfl) Y (dk T_X10_checkRemnant 17 rfl)
  · replace h := ipos c3 h
    exact KT "java/lang/IndexOutOfBoundsException" "there is no such remnant" 336 347 340 _ _ _ _ _ _ _ _ th_336_347_340 (Option.some.inj h).symm Y hl.1 (Nat.le_of_ble_eq_true rfl) ⟨(dk T_X10_checkRemnant 12 rfl), (dk T_X10_checkRemnant 13 rfl), Or.inr ⟨(dk T_X10_checkRemnant 14 rfl), (dk T_X10_checkRemnant 15 rfl), (dk T_X10_checkRemnant 16 rfl)⟩⟩ (Nat.le_of_ble_eq_true rfl) (Nat.le_of_ble_eq_true rfl)
def f_X10_checkRemnant (x1 : Int32) (x2 : Int32) (σ : St) : Option ((String × St) ⊕ St) := f_X10_checkRemnant_0 x1 x2 σ
set_option maxHeartbeats 4000000 in
set_option maxRecDepth 100000 in
theorem c_X10_checkRemnant {l : Launch} {g : Geo} (x1 : Int32) (x2 : Int32) (σ : St) {w : (String × St) ⊕ St} (h : f_X10_checkRemnant x1 x2 σ = some w) : CtTV l yX10_checkRemnant cX10_checkRemnant 3 none 6 93 1 6 g [.ref (g.2.2 (0)), .int (x1), .int (x2)] σ w := enTV (by decide) rfl (Nat.le_of_ble_eq_true rfl) ⟨Nat.le_of_ble_eq_true rfl, Nat.le_of_ble_eq_true rfl⟩ (fun p e s m args below meth c Q X TX hst Y ls hl KR KT KO => w_X10_checkRemnant_0 X TX hst x1 x2 σ KR KT KO Y hl h)
def I_X10_remnant : List (Nat × Instr × Nat) := [(0, .aload_n 0, 1), (1, .iload_n 1, 1), (2, .invokevirtual 152, 3), (5, .aload_n 0, 1), (6, .iload_n 1, 1), (7, .iload_n 2, 1), (8, .invokevirtual 236, 3), (11, .aload_n 0, 1), (12, .getfield 56, 3), (15, .iload_n 2, 1), (16, .invokevirtual 239, 3), (19, .iload_n 3, 1), (20, .tableswitch 77 0 4 #[36, 44, 52, 60, 68], 36), (56, .aload_n 0, 1), (57, .getfield 56, 3), (60, .invokevirtual 242, 3), (63, .ireturn, 1), (64, .aload_n 0, 1), (65, .getfield 56, 3), (68, .invokevirtual 245, 3), (71, .ireturn, 1), (72, .aload_n 0, 1), (73, .getfield 56, 3), (76, .invokevirtual 248, 3), (79, .ireturn, 1), (80, .aload_n 0, 1), (81, .getfield 56, 3), (84, .invokevirtual 251, 3), (87, .ireturn, 1), (88, .aload_n 0, 1), (89, .getfield 56, 3), (92, .iload_n 2, 1), (93, .invokevirtual 254, 3), (96, .ireturn, 1), (97, .new 86, 3), (100, .dup, 1), (101, .ldc 177, 2), (103, .invokespecial 90, 3), (106, .athrow, 1)]
set_option maxRecDepth 100000 in
theorem T_X10_remnant : ∀ q ∈ I_X10_remnant, decode cX10_remnant q.1 = .ok (q.2.1, q.2.2) := by decide +kernel
def f_X10_remnant_0 (x1 : Int32) (x2 : Int32) (x3 : Int32) (σ : St) : Option ((String × St) ⊕ (Int32 × St)) :=
  (f_X10_checkSheet x1 σ).bind fun q1 => Sum.elim (fun x => some (.inl x)) (fun q1 => (f_X10_checkRemnant x1 x2 q1).bind fun q5 => Sum.elim (fun x => some (.inl x)) (fun q5 => (f_X4_measure x2 q5).bind fun q9 => if x3 = 0 then (f_X4_cellsMeasured q9).bind fun q11 => some (.inr (q11, q9)) else if x3 = 1 then (f_X4_lowestMeasured q9).bind fun q13 => some (.inr (q13, q9)) else if x3 = 2 then (f_X4_columnsMeasured q9).bind fun q15 => some (.inr (q15, q9)) else if x3 = 3 then (f_X4_rowsMeasured q9).bind fun q17 => some (.inr (q17, q9)) else if x3 = 4 then (f_X4_greatestRectangle x2 q9).bind fun q19 => some (.inr (q19, q9)) else some (.inl ("java/lang/IllegalArgumentException", q9))) q5) q1
set_option maxHeartbeats 4000000 in
set_option maxRecDepth 100000 in
theorem w_X10_remnant_0 (X : Cx g RX10 cX10_remnant 4 (some .int) p s m args meth c) (TX : TXs g (GA g s.heap.size) s s.heap) (hst : l.stackTraces = false) (x1 : Int32) (x2 : Int32) (x3 : Int32) (σ : St) {w : (String × St) ⊕ (Int32 × St)} (KR : ∀ (v : Int32) (τ : St) (H : Heap) (locs : List Loc) (ls : Array Slot) (pc k n : Nat), w = .inr (v, τ) → k ≤ 3 → n ≤ 18 → Wd g s τ H locs → decode cX10_remnant pc = .ok (.ireturn, 1) → W p l e (rmT 7 115 3 18) s m args below meth c H locs k n Q (F0 m pc ls [.int v])) (KT : ∀ (E text : String) (ik is ic : Nat) (τ : St) (H : Heap) (locs : List Loc) (ls : Array Slot) (pc : Nat) (rest : List Value) (k n : Nat), THx RX10 E text ik is ic → w = .inl (E, τ) → Wd g s τ H locs → ls.size = 4 → (rest.map fun v => v.category).sum ≤ 8 → (decode cX10_remnant pc = .ok (.new ik, 3) ∧ decode cX10_remnant (pc + 3) = .ok (.dup, 1) ∧ ((decode cX10_remnant (pc + 4) = .ok (.ldc is, 2) ∧ decode cX10_remnant (pc + 6) = .ok (.invokespecial ic, 3) ∧ decode cX10_remnant (pc + 9) = .ok (.athrow, 1)) ∨ (decode cX10_remnant (pc + 4) = .ok (.ldc_w is, 3) ∧ decode cX10_remnant (pc + 7) = .ok (.invokespecial ic, 3) ∧ decode cX10_remnant (pc + 10) = .ok (.athrow, 1)))) → k + 1 ≤ 3 → n + 6 ≤ 18 → W p l e (rmT 7 115 3 18) s m args below meth c H locs k n Q (F0 m pc ls rest)) (KO : ∀ (E : String) (τ : St) (ce : Cell) (q9 : Addr) (H : Heap) (locs : List Loc) (ls : Array Slot) (pc : Nat) (rest : List Value) (k n : Nat), w = .inl (E, τ) → Wd g s τ H locs → H[q9]? = some ce → ce.vm = .none → s.vm.findClass E = some ce.cls → k ≤ 3 → n ≤ 18 → vx_W p l e (rmT 7 115 3 18) s m args below meth c H locs k n Q (F0 m pc ls rest) q9) {H : Heap} {locs : List Loc} {ls : Array Slot} (Y : Wd g s σ H locs) (hl : lv_has ls 4 [(0, .ref (g.2.2 (0))), (1, .int (x1)), (2, .int (x2)), (3, .int (x3))]) (h : f_X10_remnant_0 x1 x2 x3 σ = some w) : W p l e (rmT 7 115 3 18) s m args below meth c H locs 0 0 Q (F0 m 0 ls []) := by
  unfold f_X10_remnant_0 at h
  refine lv_aload_n X.1 X.2.1 (dk T_X10_remnant 0 rfl) rfl (lv_at hl 0 rfl) ?_
  refine lv_iload_n X.1 X.2.1 (dk T_X10_remnant 1 rfl) rfl (lv_at hl 1 rfl) ?_
  obtain ⟨q1, hq1, h⟩ := bs h
  refine gvTV (rest := []) X TX hst Y (c_X10_checkSheet x1 σ hq1) cb_X10_152 rfl hl.1 rfl rfl (Nat.le_of_ble_eq_true rfl) ⟨(Nat.le_of_ble_eq_true rfl), (Nat.le_of_ble_eq_true rfl)⟩ ⟨(Nat.le_of_ble_eq_true rfl), (Nat.le_of_ble_eq_true rfl)⟩ (dk T_X10_remnant 2 rfl) (fun E τ ce q9 H locs e2 Y h1 h2 h3 => ?_) (fun t4 H locs e2 Y => ?_)
  · subst e2; replace h := sel h
    exact KO E τ ce q9 _ _ _ _ _ _ _ (Option.some.inj h).symm Y h1 h2 h3 (Nat.le_of_ble_eq_true rfl) (Nat.le_of_ble_eq_true rfl)
  · subst e2; replace h := ser h; try dsimp only at h
    refine lv_aload_n X.1 X.2.1 (dk T_X10_remnant 3 rfl) rfl (lv_at hl 0 rfl) ?_
    refine lv_iload_n X.1 X.2.1 (dk T_X10_remnant 4 rfl) rfl (lv_at hl 1 rfl) ?_
    refine lv_iload_n X.1 X.2.1 (dk T_X10_remnant 5 rfl) rfl (lv_at hl 2 rfl) ?_
    obtain ⟨q5, hq5, h⟩ := bs h
    refine gvTV (rest := []) X TX hst Y (c_X10_checkRemnant x1 x2 t4 hq5) cb_X10_236 rfl hl.1 rfl rfl (Nat.le_of_ble_eq_true rfl) ⟨(Nat.le_of_ble_eq_true rfl), (Nat.le_of_ble_eq_true rfl)⟩ ⟨(Nat.le_of_ble_eq_true rfl), (Nat.le_of_ble_eq_true rfl)⟩ (dk T_X10_remnant 6 rfl) (fun E τ ce q9 H locs e6 Y h1 h2 h3 => ?_) (fun t8 H locs e6 Y => ?_)
    · subst e6; replace h := sel h
      exact KO E τ ce q9 _ _ _ _ _ _ _ (Option.some.inj h).symm Y h1 h2 h3 (Nat.le_of_ble_eq_true rfl) (Nat.le_of_ble_eq_true rfl)
    · subst e6; replace h := ser h; try dsimp only at h
      refine lv_aload_n X.1 X.2.1 (dk T_X10_remnant 7 rfl) rfl (lv_at hl 0 rfl) ?_
      refine gg X Y fl_X10_56 rfl rfl (dk T_X10_remnant 8 rfl) ?_
      refine lv_iload_n X.1 X.2.1 (dk T_X10_remnant 9 rfl) rfl (lv_at hl 2 rfl) ?_
      obtain ⟨q9, hq9, h⟩ := bs h
      refine gvVx (rest := []) X Y (c_X4_measure x2 t8 hq9) cb_X10_239 rfl hl.1 rfl rfl (Nat.le_of_ble_eq_true rfl) ⟨Nat.le_of_ble_eq_true rfl, Nat.le_of_ble_eq_true rfl⟩ ⟨Nat.le_of_ble_eq_true rfl, Nat.le_of_ble_eq_true rfl⟩ (dk T_X10_remnant 10 rfl) (fun H locs Y => ?_)
      refine lv_iload_n X.1 X.2.1 (dk T_X10_remnant 11 rfl) rfl (lv_at hl 3 rfl) ?_
      rcases Decidable.em (x3 = 0) with c10 | c10
      · replace h := ipos c10 h
        refine lv_tableIn (tgt := 56) (off := 36) X.1 X.2.1 (dk T_X10_remnant 12 rfl) (ts1 c10 (by decide)) (ts2 c10 (by decide)) (ts3 c10 (by decide)) rfl ?_
        refine lv_aload_n X.1 X.2.1 (dk T_X10_remnant 13 rfl) rfl (lv_at hl 0 rfl) ?_
        refine gg X Y fl_X10_56 rfl rfl (dk T_X10_remnant 14 rfl) ?_
        obtain ⟨q11, hq11, h⟩ := bs h
        refine gvIx (rest := []) X Y (c_X4_cellsMeasured q9 hq11) cb_X10_242 rfl hl.1 rfl rfl (Nat.le_of_ble_eq_true rfl) ⟨Nat.le_of_ble_eq_true rfl, Nat.le_of_ble_eq_true rfl⟩ ⟨Nat.le_of_ble_eq_true rfl, Nat.le_of_ble_eq_true rfl⟩ (dk T_X10_remnant 15 rfl) (fun H locs Y => ?_)
        exact KR q11 q9 _ _ _ _ _ _ (Option.some.inj h).symm (Nat.le_of_ble_eq_true rfl) (Nat.le_of_ble_eq_true rfl) Y (dk T_X10_remnant 16 rfl)
      replace h := ineg c10 h
      rcases Decidable.em (x3 = 1) with c12 | c12
      · replace h := ipos c12 h
        refine lv_tableIn (tgt := 64) (off := 44) X.1 X.2.1 (dk T_X10_remnant 12 rfl) (ts1 c12 (by decide)) (ts2 c12 (by decide)) (ts3 c12 (by decide)) rfl ?_
        refine lv_aload_n X.1 X.2.1 (dk T_X10_remnant 17 rfl) rfl (lv_at hl 0 rfl) ?_
        refine gg X Y fl_X10_56 rfl rfl (dk T_X10_remnant 18 rfl) ?_
        obtain ⟨q13, hq13, h⟩ := bs h
        refine gvIx (rest := []) X Y (c_X4_lowestMeasured q9 hq13) cb_X10_245 rfl hl.1 rfl rfl (Nat.le_of_ble_eq_true rfl) ⟨Nat.le_of_ble_eq_true rfl, Nat.le_of_ble_eq_true rfl⟩ ⟨Nat.le_of_ble_eq_true rfl, Nat.le_of_ble_eq_true rfl⟩ (dk T_X10_remnant 19 rfl) (fun H locs Y => ?_)
        exact KR q13 q9 _ _ _ _ _ _ (Option.some.inj h).symm (Nat.le_of_ble_eq_true rfl) (Nat.le_of_ble_eq_true rfl) Y (dk T_X10_remnant 20 rfl)
      replace h := ineg c12 h
      rcases Decidable.em (x3 = 2) with c14 | c14
      · replace h := ipos c14 h
        refine lv_tableIn (tgt := 72) (off := 52) X.1 X.2.1 (dk T_X10_remnant 12 rfl) (ts1 c14 (by decide)) (ts2 c14 (by decide)) (ts3 c14 (by decide)) rfl ?_
        refine lv_aload_n X.1 X.2.1 (dk T_X10_remnant 21 rfl) rfl (lv_at hl 0 rfl) ?_
        refine gg X Y fl_X10_56 rfl rfl (dk T_X10_remnant 22 rfl) ?_
        obtain ⟨q15, hq15, h⟩ := bs h
        refine gvIx (rest := []) X Y (c_X4_columnsMeasured q9 hq15) cb_X10_248 rfl hl.1 rfl rfl (Nat.le_of_ble_eq_true rfl) ⟨Nat.le_of_ble_eq_true rfl, Nat.le_of_ble_eq_true rfl⟩ ⟨Nat.le_of_ble_eq_true rfl, Nat.le_of_ble_eq_true rfl⟩ (dk T_X10_remnant 23 rfl) (fun H locs Y => ?_)
        exact KR q15 q9 _ _ _ _ _ _ (Option.some.inj h).symm (Nat.le_of_ble_eq_true rfl) (Nat.le_of_ble_eq_true rfl) Y (dk T_X10_remnant 24 rfl)
      replace h := ineg c14 h
      rcases Decidable.em (x3 = 3) with c16 | c16
      · replace h := ipos c16 h
        refine lv_tableIn (tgt := 80) (off := 60) X.1 X.2.1 (dk T_X10_remnant 12 rfl) (ts1 c16 (by decide)) (ts2 c16 (by decide)) (ts3 c16 (by decide)) rfl ?_
        refine lv_aload_n X.1 X.2.1 (dk T_X10_remnant 25 rfl) rfl (lv_at hl 0 rfl) ?_
        refine gg X Y fl_X10_56 rfl rfl (dk T_X10_remnant 26 rfl) ?_
        obtain ⟨q17, hq17, h⟩ := bs h
        refine gvIx (rest := []) X Y (c_X4_rowsMeasured q9 hq17) cb_X10_251 rfl hl.1 rfl rfl (Nat.le_of_ble_eq_true rfl) ⟨Nat.le_of_ble_eq_true rfl, Nat.le_of_ble_eq_true rfl⟩ ⟨Nat.le_of_ble_eq_true rfl, Nat.le_of_ble_eq_true rfl⟩ (dk T_X10_remnant 27 rfl) (fun H locs Y => ?_)
        exact KR q17 q9 _ _ _ _ _ _ (Option.some.inj h).symm (Nat.le_of_ble_eq_true rfl) (Nat.le_of_ble_eq_true rfl) Y (dk T_X10_remnant 28 rfl)
      replace h := ineg c16 h
      rcases Decidable.em (x3 = 4) with c18 | c18
      · replace h := ipos c18 h
        refine lv_tableIn (tgt := 88) (off := 68) X.1 X.2.1 (dk T_X10_remnant 12 rfl) (ts1 c18 (by decide)) (ts2 c18 (by decide)) (ts3 c18 (by decide)) rfl ?_
        refine lv_aload_n X.1 X.2.1 (dk T_X10_remnant 29 rfl) rfl (lv_at hl 0 rfl) ?_
        refine gg X Y fl_X10_56 rfl rfl (dk T_X10_remnant 30 rfl) ?_
        refine lv_iload_n X.1 X.2.1 (dk T_X10_remnant 31 rfl) rfl (lv_at hl 2 rfl) ?_
        obtain ⟨q19, hq19, h⟩ := bs h
        refine gvIx (rest := []) X Y (c_X4_greatestRectangle x2 q9 hq19) cb_X10_254 rfl hl.1 rfl rfl (Nat.le_of_ble_eq_true rfl) ⟨Nat.le_of_ble_eq_true rfl, Nat.le_of_ble_eq_true rfl⟩ ⟨Nat.le_of_ble_eq_true rfl, Nat.le_of_ble_eq_true rfl⟩ (dk T_X10_remnant 32 rfl) (fun H locs Y => ?_)
        exact KR q19 q9 _ _ _ _ _ _ (Option.some.inj h).symm (Nat.le_of_ble_eq_true rfl) (Nat.le_of_ble_eq_true rfl) Y (dk T_X10_remnant 33 rfl)
      replace h := ineg c18 h
      refine lv_tableOut (tgt := 97) X.1 X.2.1 (dk T_X10_remnant 12 rfl) (ts5n c10 c12 c14 c16 c18) rfl ?_
      exact KT "java/lang/IllegalArgumentException" "what is not valid" 86 177 90 _ _ _ _ _ _ _ _ th_86_177_90 (Option.some.inj h).symm Y hl.1 (Nat.le_of_ble_eq_true rfl) ⟨(dk T_X10_remnant 34 rfl), (dk T_X10_remnant 35 rfl), Or.inl ⟨(dk T_X10_remnant 36 rfl), (dk T_X10_remnant 37 rfl), (dk T_X10_remnant 38 rfl)⟩⟩ (Nat.le_of_ble_eq_true rfl) (Nat.le_of_ble_eq_true rfl)
def f_X10_remnant (x1 : Int32) (x2 : Int32) (x3 : Int32) (σ : St) : Option ((String × St) ⊕ (Int32 × St)) := f_X10_remnant_0 x1 x2 x3 σ
set_option maxHeartbeats 4000000 in
set_option maxRecDepth 100000 in
theorem c_X10_remnant {l : Launch} {g : Geo} (x1 : Int32) (x2 : Int32) (x3 : Int32) (σ : St) {w : (String × St) ⊕ (Int32 × St)} (h : f_X10_remnant x1 x2 x3 σ = some w) : CtT l yX10_remnant cX10_remnant 4 (some .int) 7 115 3 18 g [.ref (g.2.2 (0)), .int (x1), .int (x2), .int (x3)] σ w := enT .int (by decide) rfl (fun _ _ _ => rfl) (Nat.le_of_ble_eq_true rfl) ⟨Nat.le_of_ble_eq_true rfl, Nat.le_of_ble_eq_true rfl⟩ (fun p e s m args below meth c Q X TX hst Y ls hl KR KT KO => w_X10_remnant_0 X TX hst x1 x2 x3 σ KR KT KO Y hl h)
def I_X10_keep : List (Nat × Instr × Nat) := [(0, .aload_n 0, 1), (1, .iload_n 1, 1), (2, .invokevirtual 152, 3), (5, .aload_n 0, 1), (6, .iload_n 1, 1), (7, .iload_n 2, 1), (8, .invokevirtual 236, 3), (11, .aload_n 0, 1), (12, .getfield 12, 3), (15, .getfield 93, 3), (18, .invokevirtual 97, 3), (21, .ifCond .eq 13, 3), (24, .new 103, 3), (27, .dup, 1), (28, .ldc 105, 2), (30, .invokespecial 107, 3), (33, .athrow, 1), (34, .aload_n 0, 1), (35, .getfield 25, 3), (38, .aload_n 0, 1), (39, .getfield 12, 3), (42, .invokevirtual 108, 3), (45, .aload_n 0, 1), (46, .getfield 56, 3), (49, .aload_n 0, 1), (50, .getfield 12, 3), (53, .iload_n 1, 1), (54, .iload_n 2, 1), (55, .invokevirtual 257, 3), (58, .ireturn, 1)]
set_option maxRecDepth 100000 in
theorem T_X10_keep : ∀ q ∈ I_X10_keep, decode cX10_keep q.1 = .ok (q.2.1, q.2.2) := by decide +kernel
def f_X10_keep_0 (x1 : Int32) (x2 : Int32) (σ : St) : Option ((String × St) ⊕ (Int32 × St)) :=
  (f_X10_checkSheet x1 σ).bind fun q1 => Sum.elim (fun x => some (.inl x)) (fun q1 => (f_X10_checkRemnant x1 x2 q1).bind fun q5 => Sum.elim (fun x => some (.inl x)) (fun q5 => (f_X9_isFull 2 q5).bind fun q9 => if q9 = 0 then (f_X2_push 1 q5).bind fun q11 => (f_X4_splitOff 1 x1 x2 q11).bind fun q12 => some (.inr (q12.1, q12.2)) else some (.inl ("java/lang/IllegalStateException", q5))) q5) q1
set_option maxHeartbeats 4000000 in
set_option maxRecDepth 100000 in
theorem w_X10_keep_0 (X : Cx g RX10 cX10_keep 3 (some .int) p s m args meth c) (TX : TXs g (GA g s.heap.size) s s.heap) (hst : l.stackTraces = false) (x1 : Int32) (x2 : Int32) (σ : St) {w : (String × St) ⊕ (Int32 × St)} (KR : ∀ (v : Int32) (τ : St) (H : Heap) (locs : List Loc) (ls : Array Slot) (pc k n : Nat), w = .inr (v, τ) → k ≤ 3 → n ≤ 18 → Wd g s τ H locs → decode cX10_keep pc = .ok (.ireturn, 1) → W p l e (rmT 7 115 3 18) s m args below meth c H locs k n Q (F0 m pc ls [.int v])) (KT : ∀ (E text : String) (ik is ic : Nat) (τ : St) (H : Heap) (locs : List Loc) (ls : Array Slot) (pc : Nat) (rest : List Value) (k n : Nat), THx RX10 E text ik is ic → w = .inl (E, τ) → Wd g s τ H locs → ls.size = 3 → (rest.map fun v => v.category).sum ≤ 8 → (decode cX10_keep pc = .ok (.new ik, 3) ∧ decode cX10_keep (pc + 3) = .ok (.dup, 1) ∧ ((decode cX10_keep (pc + 4) = .ok (.ldc is, 2) ∧ decode cX10_keep (pc + 6) = .ok (.invokespecial ic, 3) ∧ decode cX10_keep (pc + 9) = .ok (.athrow, 1)) ∨ (decode cX10_keep (pc + 4) = .ok (.ldc_w is, 3) ∧ decode cX10_keep (pc + 7) = .ok (.invokespecial ic, 3) ∧ decode cX10_keep (pc + 10) = .ok (.athrow, 1)))) → k + 1 ≤ 3 → n + 6 ≤ 18 → W p l e (rmT 7 115 3 18) s m args below meth c H locs k n Q (F0 m pc ls rest)) (KO : ∀ (E : String) (τ : St) (ce : Cell) (q9 : Addr) (H : Heap) (locs : List Loc) (ls : Array Slot) (pc : Nat) (rest : List Value) (k n : Nat), w = .inl (E, τ) → Wd g s τ H locs → H[q9]? = some ce → ce.vm = .none → s.vm.findClass E = some ce.cls → k ≤ 3 → n ≤ 18 → vx_W p l e (rmT 7 115 3 18) s m args below meth c H locs k n Q (F0 m pc ls rest) q9) {H : Heap} {locs : List Loc} {ls : Array Slot} (Y : Wd g s σ H locs) (hl : lv_has ls 3 [(0, .ref (g.2.2 (0))), (1, .int (x1)), (2, .int (x2))]) (h : f_X10_keep_0 x1 x2 σ = some w) : W p l e (rmT 7 115 3 18) s m args below meth c H locs 0 0 Q (F0 m 0 ls []) := by
  unfold f_X10_keep_0 at h
  refine lv_aload_n X.1 X.2.1 (dk T_X10_keep 0 rfl) rfl (lv_at hl 0 rfl) ?_
  refine lv_iload_n X.1 X.2.1 (dk T_X10_keep 1 rfl) rfl (lv_at hl 1 rfl) ?_
  obtain ⟨q1, hq1, h⟩ := bs h
  refine gvTV (rest := []) X TX hst Y (c_X10_checkSheet x1 σ hq1) cb_X10_152 rfl hl.1 rfl rfl (Nat.le_of_ble_eq_true rfl) ⟨(Nat.le_of_ble_eq_true rfl), (Nat.le_of_ble_eq_true rfl)⟩ ⟨(Nat.le_of_ble_eq_true rfl), (Nat.le_of_ble_eq_true rfl)⟩ (dk T_X10_keep 2 rfl) (fun E τ ce q9 H locs e2 Y h1 h2 h3 => ?_) (fun t4 H locs e2 Y => ?_)
  · subst e2; replace h := sel h
    exact KO E τ ce q9 _ _ _ _ _ _ _ (Option.some.inj h).symm Y h1 h2 h3 (Nat.le_of_ble_eq_true rfl) (Nat.le_of_ble_eq_true rfl)
  · subst e2; replace h := ser h; try dsimp only at h
    refine lv_aload_n X.1 X.2.1 (dk T_X10_keep 3 rfl) rfl (lv_at hl 0 rfl) ?_
    refine lv_iload_n X.1 X.2.1 (dk T_X10_keep 4 rfl) rfl (lv_at hl 1 rfl) ?_
    refine lv_iload_n X.1 X.2.1 (dk T_X10_keep 5 rfl) rfl (lv_at hl 2 rfl) ?_
    obtain ⟨q5, hq5, h⟩ := bs h
    refine gvTV (rest := []) X TX hst Y (c_X10_checkRemnant x1 x2 t4 hq5) cb_X10_236 rfl hl.1 rfl rfl (Nat.le_of_ble_eq_true rfl) ⟨(Nat.le_of_ble_eq_true rfl), (Nat.le_of_ble_eq_true rfl)⟩ ⟨(Nat.le_of_ble_eq_true rfl), (Nat.le_of_ble_eq_true rfl)⟩ (dk T_X10_keep 6 rfl) (fun E τ ce q9 H locs e6 Y h1 h2 h3 => ?_) (fun t8 H locs e6 Y => ?_)
    · subst e6; replace h := sel h
      exact KO E τ ce q9 _ _ _ _ _ _ _ (Option.some.inj h).symm Y h1 h2 h3 (Nat.le_of_ble_eq_true rfl) (Nat.le_of_ble_eq_true rfl)
    · subst e6; replace h := ser h; try dsimp only at h
      refine lv_aload_n X.1 X.2.1 (dk T_X10_keep 7 rfl) rfl (lv_at hl 0 rfl) ?_
      refine gg X Y fl_X10_12 rfl rfl (dk T_X10_keep 8 rfl) ?_
      refine ggN X Y fl_X10_93 rfl rfl (dk T_X10_keep 9 rfl) ?_
      obtain ⟨q9, hq9, h⟩ := bs h
      refine gvIx (rest := []) X Y (c_X9_isFull 2 rfl t8 hq9) cb_X10_97 rfl hl.1 rfl rfl (Nat.le_of_ble_eq_true rfl) ⟨Nat.le_of_ble_eq_true rfl, Nat.le_of_ble_eq_true rfl⟩ ⟨Nat.le_of_ble_eq_true rfl, Nat.le_of_ble_eq_true rfl⟩ (dk T_X10_keep 10 rfl) (fun H locs Y => ?_)
      refine lv_if_eq (tgt := 34) X.1 X.2.1 (dk T_X10_keep 11 rfl) rfl (fun c10 => ?_) (fun c10 => ?_)
      · replace h := ipos c10 h
        refine lv_aload_n X.1 X.2.1 (dk T_X10_keep 17 rfl) rfl (lv_at hl 0 rfl) ?_
        refine gg X Y fl_X10_25 rfl rfl (dk T_X10_keep 18 rfl) ?_
        refine lv_aload_n X.1 X.2.1 (dk T_X10_keep 19 rfl) rfl (lv_at hl 0 rfl) ?_
        refine gg X Y fl_X10_12 rfl rfl (dk T_X10_keep 20 rfl) ?_
        obtain ⟨q11, hq11, h⟩ := bs h
        refine gvVx (rest := []) X Y (c_X2_push 1 rfl t8 hq11) cb_X10_108 rfl hl.1 rfl rfl (Nat.le_of_ble_eq_true rfl) ⟨Nat.le_of_ble_eq_true rfl, Nat.le_of_ble_eq_true rfl⟩ ⟨Nat.le_of_ble_eq_true rfl, Nat.le_of_ble_eq_true rfl⟩ (dk T_X10_keep 21 rfl) (fun H locs Y => ?_)
        refine lv_aload_n X.1 X.2.1 (dk T_X10_keep 22 rfl) rfl (lv_at hl 0 rfl) ?_
        refine gg X Y fl_X10_56 rfl rfl (dk T_X10_keep 23 rfl) ?_
        refine lv_aload_n X.1 X.2.1 (dk T_X10_keep 24 rfl) rfl (lv_at hl 0 rfl) ?_
        refine gg X Y fl_X10_12 rfl rfl (dk T_X10_keep 25 rfl) ?_
        refine lv_iload_n X.1 X.2.1 (dk T_X10_keep 26 rfl) rfl (lv_at hl 1 rfl) ?_
        refine lv_iload_n X.1 X.2.1 (dk T_X10_keep 27 rfl) rfl (lv_at hl 2 rfl) ?_
        obtain ⟨q12, hq12, h⟩ := bs h
        refine gvIx (rest := []) X Y (c_X4_splitOff 1 rfl x1 x2 q11 hq12) cb_X10_257 rfl hl.1 rfl rfl (Nat.le_of_ble_eq_true rfl) ⟨Nat.le_of_ble_eq_true rfl, Nat.le_of_ble_eq_true rfl⟩ ⟨Nat.le_of_ble_eq_true rfl, Nat.le_of_ble_eq_true rfl⟩ (dk T_X10_keep 28 rfl) (fun H locs Y => ?_)
        exact KR q12.1 q12.2 _ _ _ _ _ _ (Option.some.inj h).symm (Nat.le_of_ble_eq_true rfl) (Nat.le_of_ble_eq_true rfl) Y (dk T_X10_keep 29 rfl)
      · replace h := ineg c10 h
        exact KT "java/lang/IllegalStateException" "there are 6 sheets" 103 105 107 _ _ _ _ _ _ _ _ th_103_105_107 (Option.some.inj h).symm Y hl.1 (Nat.le_of_ble_eq_true rfl) ⟨(dk T_X10_keep 12 rfl), (dk T_X10_keep 13 rfl), Or.inl ⟨(dk T_X10_keep 14 rfl), (dk T_X10_keep 15 rfl), (dk T_X10_keep 16 rfl)⟩⟩ (Nat.le_of_ble_eq_true rfl) (Nat.le_of_ble_eq_true rfl)
def f_X10_keep (x1 : Int32) (x2 : Int32) (σ : St) : Option ((String × St) ⊕ (Int32 × St)) := f_X10_keep_0 x1 x2 σ
set_option maxHeartbeats 4000000 in
set_option maxRecDepth 100000 in
theorem c_X10_keep {l : Launch} {g : Geo} (x1 : Int32) (x2 : Int32) (σ : St) {w : (String × St) ⊕ (Int32 × St)} (h : f_X10_keep x1 x2 σ = some w) : CtT l yX10_keep cX10_keep 3 (some .int) 7 115 3 18 g [.ref (g.2.2 (0)), .int (x1), .int (x2)] σ w := enT .int (by decide) rfl (fun _ _ _ => rfl) (Nat.le_of_ble_eq_true rfl) ⟨Nat.le_of_ble_eq_true rfl, Nat.le_of_ble_eq_true rfl⟩ (fun p e s m args below meth c Q X TX hst Y ls hl KR KT KO => w_X10_keep_0 X TX hst x1 x2 σ KR KT KO Y hl h)
def I_X10_way : List (Nat × Instr × Nat) := [(0, .aload_n 0, 1), (1, .iload_n 1, 1), (2, .invokevirtual 152, 3), (5, .iload_n 2, 1), (6, .iconst 0, 1), (7, .iconst 1, 1), (8, .invokestatic 82, 3), (11, .ifCond .ne 14, 3), (14, .new 86, 3), (17, .dup, 1), (18, .ldc_w 261, 3), (21, .invokespecial 90, 3), (24, .athrow, 1), (25, .aload_n 0, 1), (26, .getfield 12, 3), (29, .getfield 163, 3), (32, .iconst 1, 1), (33, .iload_n 1, 1), (34, .invokevirtual 166, 3), (37, .istore 4, 2), (39, .iload_n 2, 1), (40, .iconst 1, 1), (41, .if_icmp .ne 21, 3), (44, .iload 4, 2), (46, .bipush 9, 2), (48, .if_icmp .le 14, 3), (51, .new 140, 3), (54, .dup, 1), (55, .ldc_w 263, 3), (58, .invokespecial 144, 3), (61, .athrow, 1), (62, .iload_n 3, 1), (63, .iconst (-1), 1), (64, .iload 4, 2), (66, .iconst 1, 1), (67, .isub, 1), (68, .invokestatic 82, 3), (71, .ifCond .ne 14, 3), (74, .new 230, 3), (77, .dup, 1), (78, .ldc_w 265, 3), (81, .invokespecial 232, 3), (84, .athrow, 1), (85, .aload_n 0, 1), (86, .getfield 63, 3), (89, .aload_n 0, 1), (90, .getfield 12, 3), (93, .aload_n 0, 1), (94, .getfield 56, 3), (97, .iload_n 1, 1), (98, .iload_n 2, 1), (99, .iconst 1, 1), (100, .if_icmp .ne 7, 3), (103, .iconst 1, 1), (104, .goto 4, 3), (107, .iconst 0, 1), (108, .invokevirtual 267, 3), (111, .iload_n 3, 1), (112, .iconst (-1), 1), (113, .if_icmp .ne 13, 3), (116, .aload_n 0, 1), (117, .getfield 63, 3), (120, .invokevirtual 271, 3), (123, .goto 11, 3), (126, .aload_n 0, 1), (127, .getfield 63, 3), (130, .iload_n 3, 1), (131, .invokevirtual 274, 3), (134, .ireturn, 1)]
set_option maxRecDepth 100000 in
theorem T_X10_way : ∀ q ∈ I_X10_way, decode cX10_way q.1 = .ok (q.2.1, q.2.2) := by decide +kernel
def f_X10_way_j108 (x3 : Int32) (s0 : Int32) (s1 : Int32) (σ : St) : Option ((String × St) ⊕ (Int32 × St)) :=
  (f_X5_plan 1 s1 s0 σ).bind fun q12 => if x3 = (-1) then (f_X5_length q12).bind fun q15 => some (.inr (q15, q12)) else (f_X5_partAt x3 q12).bind fun q14 => some (.inr (q14, q12))
set_option maxHeartbeats 4000000 in
set_option maxRecDepth 100000 in
theorem w_X10_way_j108 (X : Cx g RX10 cX10_way 5 (some .int) p s m args meth c) (TX : TXs g (GA g s.heap.size) s s.heap) (hst : l.stackTraces = false) (x3 : Int32) (s0 : Int32) (s1 : Int32) (σ : St) {w : (String × St) ⊕ (Int32 × St)} (KR : ∀ (v : Int32) (τ : St) (H : Heap) (locs : List Loc) (ls : Array Slot) (pc k n : Nat), w = .inr (v, τ) → k ≤ 2 → n ≤ 12 → Wd g s τ H locs → decode cX10_way pc = .ok (.ireturn, 1) → W p l e (rmT 7 148 2 12) s m args below meth c H locs k n Q (F0 m pc ls [.int v])) (KT : ∀ (E text : String) (ik is ic : Nat) (τ : St) (H : Heap) (locs : List Loc) (ls : Array Slot) (pc : Nat) (rest : List Value) (k n : Nat), THx RX10 E text ik is ic → w = .inl (E, τ) → Wd g s τ H locs → ls.size = 5 → (rest.map fun v => v.category).sum ≤ 8 → (decode cX10_way pc = .ok (.new ik, 3) ∧ decode cX10_way (pc + 3) = .ok (.dup, 1) ∧ ((decode cX10_way (pc + 4) = .ok (.ldc is, 2) ∧ decode cX10_way (pc + 6) = .ok (.invokespecial ic, 3) ∧ decode cX10_way (pc + 9) = .ok (.athrow, 1)) ∨ (decode cX10_way (pc + 4) = .ok (.ldc_w is, 3) ∧ decode cX10_way (pc + 7) = .ok (.invokespecial ic, 3) ∧ decode cX10_way (pc + 10) = .ok (.athrow, 1)))) → k + 1 ≤ 2 → n + 6 ≤ 12 → W p l e (rmT 7 148 2 12) s m args below meth c H locs k n Q (F0 m pc ls rest)) (KO : ∀ (E : String) (τ : St) (ce : Cell) (q9 : Addr) (H : Heap) (locs : List Loc) (ls : Array Slot) (pc : Nat) (rest : List Value) (k n : Nat), w = .inl (E, τ) → Wd g s τ H locs → H[q9]? = some ce → ce.vm = .none → s.vm.findClass E = some ce.cls → k ≤ 2 → n ≤ 12 → vx_W p l e (rmT 7 148 2 12) s m args below meth c H locs k n Q (F0 m pc ls rest) q9) {H : Heap} {locs : List Loc} {ls : Array Slot} (Y : Wd g s σ H locs) (hl : lv_has ls 5 [(0, .ref (g.2.2 (0))), (3, .int (x3))]) (h : f_X10_way_j108 x3 s0 s1 σ = some w) : W p l e (rmT 7 148 2 12) s m args below meth c H locs 1 6 Q (F0 m 108 ls [.int (s0), .int (s1), .ref (g.2.2 (89)), .ref (g.2.2 (1)), .ref (g.2.2 (92))]) := by
  unfold f_X10_way_j108 at h
  obtain ⟨q12, hq12, h⟩ := bs h
  refine gvVx (rest := []) X Y (c_X5_plan 1 rfl s1 s0 σ hq12) cb_X10_267 rfl hl.1 rfl rfl (Nat.le_of_ble_eq_true rfl) ⟨Nat.le_of_ble_eq_true rfl, Nat.le_of_ble_eq_true rfl⟩ ⟨Nat.le_of_ble_eq_true rfl, Nat.le_of_ble_eq_true rfl⟩ (dk T_X10_way 56 rfl) (fun H locs Y => ?_)
  refine lv_iload_n X.1 X.2.1 (dk T_X10_way 57 rfl) rfl (lv_at hl 1 rfl) ?_
  refine lv_iconst (v := (-1)) X.1 X.2.1 (dk T_X10_way 58 rfl) ic_m1 ?_
  refine lv_icmp_ne (tgt := 126) X.1 X.2.1 (dk T_X10_way 59 rfl) rfl (fun c13 => ?_) (fun c13 => ?_)
  · replace h := ineg c13 h
    refine lv_aload_n X.1 X.2.1 (dk T_X10_way 64 rfl) rfl (lv_at hl 0 rfl) ?_
    refine gg X Y fl_X10_63 rfl rfl (dk T_X10_way 65 rfl) ?_
    refine lv_iload_n X.1 X.2.1 (dk T_X10_way 66 rfl) rfl (lv_at hl 1 rfl) ?_
    obtain ⟨q14, hq14, h⟩ := bs h
    refine gvIx (rest := []) X Y (c_X5_partAt x3 q12 hq14) cb_X10_274 rfl hl.1 rfl rfl (Nat.le_of_ble_eq_true rfl) ⟨Nat.le_of_ble_eq_true rfl, Nat.le_of_ble_eq_true rfl⟩ ⟨Nat.le_of_ble_eq_true rfl, Nat.le_of_ble_eq_true rfl⟩ (dk T_X10_way 67 rfl) (fun H locs Y => ?_)
    exact KR q14 q12 _ _ _ _ _ _ (Option.some.inj h).symm (Nat.le_of_ble_eq_true rfl) (Nat.le_of_ble_eq_true rfl) Y (dk T_X10_way 68 rfl)
  · replace h := ipos c13 h
    refine lv_aload_n X.1 X.2.1 (dk T_X10_way 60 rfl) rfl (lv_at hl 0 rfl) ?_
    refine gg X Y fl_X10_63 rfl rfl (dk T_X10_way 61 rfl) ?_
    obtain ⟨q15, hq15, h⟩ := bs h
    refine gvIx (rest := []) X Y (c_X5_length q12 hq15) cb_X10_271 rfl hl.1 rfl rfl (Nat.le_of_ble_eq_true rfl) ⟨Nat.le_of_ble_eq_true rfl, Nat.le_of_ble_eq_true rfl⟩ ⟨Nat.le_of_ble_eq_true rfl, Nat.le_of_ble_eq_true rfl⟩ (dk T_X10_way 62 rfl) (fun H locs Y => ?_)
    refine lv_goto (tgt := 134) X.1 X.2.1 (dk T_X10_way 63 rfl) rfl ?_
    exact KR q15 q12 _ _ _ _ _ _ (Option.some.inj h).symm (Nat.le_of_ble_eq_true rfl) (Nat.le_of_ble_eq_true rfl) Y (dk T_X10_way 68 rfl)
def f_X10_way_j62 (x1 : Int32) (x2 : Int32) (x3 : Int32) (x4 : Int32) (σ : St) : Option ((String × St) ⊕ (Int32 × St)) :=
  (f_X10_isWithin x3 (-1) (x4 - 1)).bind fun q9 => if q9 = 0 then some (.inl ("java/util/NoSuchElementException", σ)) else if x2 = 1 then f_X10_way_j108 x3 1 x1 σ else f_X10_way_j108 x3 0 x1 σ
set_option maxHeartbeats 4000000 in
set_option maxRecDepth 100000 in
theorem w_X10_way_j62 (X : Cx g RX10 cX10_way 5 (some .int) p s m args meth c) (TX : TXs g (GA g s.heap.size) s s.heap) (hst : l.stackTraces = false) (x1 : Int32) (x2 : Int32) (x3 : Int32) (x4 : Int32) (σ : St) {w : (String × St) ⊕ (Int32 × St)} (KR : ∀ (v : Int32) (τ : St) (H : Heap) (locs : List Loc) (ls : Array Slot) (pc k n : Nat), w = .inr (v, τ) → k ≤ 2 → n ≤ 12 → Wd g s τ H locs → decode cX10_way pc = .ok (.ireturn, 1) → W p l e (rmT 7 148 2 12) s m args below meth c H locs k n Q (F0 m pc ls [.int v])) (KT : ∀ (E text : String) (ik is ic : Nat) (τ : St) (H : Heap) (locs : List Loc) (ls : Array Slot) (pc : Nat) (rest : List Value) (k n : Nat), THx RX10 E text ik is ic → w = .inl (E, τ) → Wd g s τ H locs → ls.size = 5 → (rest.map fun v => v.category).sum ≤ 8 → (decode cX10_way pc = .ok (.new ik, 3) ∧ decode cX10_way (pc + 3) = .ok (.dup, 1) ∧ ((decode cX10_way (pc + 4) = .ok (.ldc is, 2) ∧ decode cX10_way (pc + 6) = .ok (.invokespecial ic, 3) ∧ decode cX10_way (pc + 9) = .ok (.athrow, 1)) ∨ (decode cX10_way (pc + 4) = .ok (.ldc_w is, 3) ∧ decode cX10_way (pc + 7) = .ok (.invokespecial ic, 3) ∧ decode cX10_way (pc + 10) = .ok (.athrow, 1)))) → k + 1 ≤ 2 → n + 6 ≤ 12 → W p l e (rmT 7 148 2 12) s m args below meth c H locs k n Q (F0 m pc ls rest)) (KO : ∀ (E : String) (τ : St) (ce : Cell) (q9 : Addr) (H : Heap) (locs : List Loc) (ls : Array Slot) (pc : Nat) (rest : List Value) (k n : Nat), w = .inl (E, τ) → Wd g s τ H locs → H[q9]? = some ce → ce.vm = .none → s.vm.findClass E = some ce.cls → k ≤ 2 → n ≤ 12 → vx_W p l e (rmT 7 148 2 12) s m args below meth c H locs k n Q (F0 m pc ls rest) q9) {H : Heap} {locs : List Loc} {ls : Array Slot} (Y : Wd g s σ H locs) (hl : lv_has ls 5 [(0, .ref (g.2.2 (0))), (1, .int (x1)), (2, .int (x2)), (3, .int (x3)), (4, .int (x4))]) (h : f_X10_way_j62 x1 x2 x3 x4 σ = some w) : W p l e (rmT 7 148 2 12) s m args below meth c H locs 1 6 Q (F0 m 62 ls []) := by
  unfold f_X10_way_j62 at h
  refine lv_iload_n X.1 X.2.1 (dk T_X10_way 31 rfl) rfl (lv_at hl 3 rfl) ?_
  refine lv_iconst (v := (-1)) X.1 X.2.1 (dk T_X10_way 32 rfl) ic_m1 ?_
  refine lv_iload X.1 X.2.1 (dk T_X10_way 33 rfl) (lv_at hl 4 rfl) ?_
  refine lv_iconst (v := 1) X.1 X.2.1 (dk T_X10_way 34 rfl) ic_1 ?_
  refine lv_isub X.1 X.2.1 (dk T_X10_way 35 rfl) ?_
  obtain ⟨q9, hq9, h⟩ := bs h
  refine gsIx (rest := []) X Y (c_X10_isWithin x3 (-1) (x4 - 1) σ hq9) cb_X10_82 hl.1 rfl rfl (Nat.le_of_ble_eq_true rfl) ⟨Nat.le_of_ble_eq_true rfl, Nat.le_of_ble_eq_true rfl⟩ ⟨Nat.le_of_ble_eq_true rfl, Nat.le_of_ble_eq_true rfl⟩ (dk T_X10_way 36 rfl) (fun H locs Y => ?_)
  refine lv_if_ne (tgt := 85) X.1 X.2.1 (dk T_X10_way 37 rfl) rfl (fun c10 => ?_) (fun c10 => ?_)
  · replace h := ineg c10 h
    refine lv_aload_n X.1 X.2.1 (dk T_X10_way 43 rfl) rfl (lv_at hl 0 rfl) ?_
    refine gg X Y fl_X10_63 rfl rfl (dk T_X10_way 44 rfl) ?_
    refine lv_aload_n X.1 X.2.1 (dk T_X10_way 45 rfl) rfl (lv_at hl 0 rfl) ?_
    refine gg X Y fl_X10_12 rfl rfl (dk T_X10_way 46 rfl) ?_
    refine lv_aload_n X.1 X.2.1 (dk T_X10_way 47 rfl) rfl (lv_at hl 0 rfl) ?_
    refine gg X Y fl_X10_56 rfl rfl (dk T_X10_way 48 rfl) ?_
    refine lv_iload_n X.1 X.2.1 (dk T_X10_way 49 rfl) rfl (lv_at hl 1 rfl) ?_
    refine lv_iload_n X.1 X.2.1 (dk T_X10_way 50 rfl) rfl (lv_at hl 2 rfl) ?_
    refine lv_iconst (v := 1) X.1 X.2.1 (dk T_X10_way 51 rfl) ic_1 ?_
    refine lv_icmp_ne (tgt := 107) X.1 X.2.1 (dk T_X10_way 52 rfl) rfl (fun c11 => ?_) (fun c11 => ?_)
    · replace h := ineg c11 h
      refine lv_iconst (v := 0) X.1 X.2.1 (dk T_X10_way 55 rfl) ic_0 ?_
      exact w_X10_way_j108 X TX hst x3 0 x1 σ KR KT KO Y (lv_sub hl [0, 3] rfl) h
    · replace h := ipos c11 h
      refine lv_iconst (v := 1) X.1 X.2.1 (dk T_X10_way 53 rfl) ic_1 ?_
      refine lv_goto (tgt := 108) X.1 X.2.1 (dk T_X10_way 54 rfl) rfl ?_
      exact w_X10_way_j108 X TX hst x3 1 x1 σ KR KT KO Y (lv_sub hl [0, 3] rfl) h
  · replace h := ipos c10 h
    exact KT "java/util/NoSuchElementException" "there is no such place in the order" 230 265 232 _ _ _ _ _ _ _ _ th_230_265_232 (Option.some.inj h).symm Y hl.1 (Nat.le_of_ble_eq_true rfl) ⟨(dk T_X10_way 38 rfl), (dk T_X10_way 39 rfl), Or.inr ⟨(dk T_X10_way 40 rfl), (dk T_X10_way 41 rfl), (dk T_X10_way 42 rfl)⟩⟩ (Nat.le_of_ble_eq_true rfl) (Nat.le_of_ble_eq_true rfl)
def f_X10_way_0 (x1 : Int32) (x2 : Int32) (x3 : Int32) (σ : St) : Option ((String × St) ⊕ (Int32 × St)) :=
  (f_X10_checkSheet x1 σ).bind fun q1 => Sum.elim (fun x => some (.inl x)) (fun q1 => (f_X10_isWithin x2 0 1).bind fun q5 => if q5 = 0 then some (.inl ("java/lang/IllegalArgumentException", q1)) else (f_X9_rowsWith 6 1 x1 q1).bind fun q7 => if x2 = 1 then if q7 ≤ 9 then f_X10_way_j62 x1 x2 x3 q7 q1 else some (.inl ("java/lang/UnsupportedOperationException", q1)) else f_X10_way_j62 x1 x2 x3 q7 q1) q1
set_option maxHeartbeats 4000000 in
set_option maxRecDepth 100000 in
theorem w_X10_way_0 (X : Cx g RX10 cX10_way 5 (some .int) p s m args meth c) (TX : TXs g (GA g s.heap.size) s s.heap) (hst : l.stackTraces = false) (x1 : Int32) (x2 : Int32) (x3 : Int32) (σ : St) {w : (String × St) ⊕ (Int32 × St)} (KR : ∀ (v : Int32) (τ : St) (H : Heap) (locs : List Loc) (ls : Array Slot) (pc k n : Nat), w = .inr (v, τ) → k ≤ 2 → n ≤ 12 → Wd g s τ H locs → decode cX10_way pc = .ok (.ireturn, 1) → W p l e (rmT 7 148 2 12) s m args below meth c H locs k n Q (F0 m pc ls [.int v])) (KT : ∀ (E text : String) (ik is ic : Nat) (τ : St) (H : Heap) (locs : List Loc) (ls : Array Slot) (pc : Nat) (rest : List Value) (k n : Nat), THx RX10 E text ik is ic → w = .inl (E, τ) → Wd g s τ H locs → ls.size = 5 → (rest.map fun v => v.category).sum ≤ 8 → (decode cX10_way pc = .ok (.new ik, 3) ∧ decode cX10_way (pc + 3) = .ok (.dup, 1) ∧ ((decode cX10_way (pc + 4) = .ok (.ldc is, 2) ∧ decode cX10_way (pc + 6) = .ok (.invokespecial ic, 3) ∧ decode cX10_way (pc + 9) = .ok (.athrow, 1)) ∨ (decode cX10_way (pc + 4) = .ok (.ldc_w is, 3) ∧ decode cX10_way (pc + 7) = .ok (.invokespecial ic, 3) ∧ decode cX10_way (pc + 10) = .ok (.athrow, 1)))) → k + 1 ≤ 2 → n + 6 ≤ 12 → W p l e (rmT 7 148 2 12) s m args below meth c H locs k n Q (F0 m pc ls rest)) (KO : ∀ (E : String) (τ : St) (ce : Cell) (q9 : Addr) (H : Heap) (locs : List Loc) (ls : Array Slot) (pc : Nat) (rest : List Value) (k n : Nat), w = .inl (E, τ) → Wd g s τ H locs → H[q9]? = some ce → ce.vm = .none → s.vm.findClass E = some ce.cls → k ≤ 2 → n ≤ 12 → vx_W p l e (rmT 7 148 2 12) s m args below meth c H locs k n Q (F0 m pc ls rest) q9) {H : Heap} {locs : List Loc} {ls : Array Slot} (Y : Wd g s σ H locs) (hl : lv_has ls 5 [(0, .ref (g.2.2 (0))), (1, .int (x1)), (2, .int (x2)), (3, .int (x3))]) (h : f_X10_way_0 x1 x2 x3 σ = some w) : W p l e (rmT 7 148 2 12) s m args below meth c H locs 0 0 Q (F0 m 0 ls []) := by
  unfold f_X10_way_0 at h
  refine lv_aload_n X.1 X.2.1 (dk T_X10_way 0 rfl) rfl (lv_at hl 0 rfl) ?_
  refine lv_iload_n X.1 X.2.1 (dk T_X10_way 1 rfl) rfl (lv_at hl 1 rfl) ?_
  obtain ⟨q1, hq1, h⟩ := bs h
  refine gvTV (rest := []) X TX hst Y (c_X10_checkSheet x1 σ hq1) cb_X10_152 rfl hl.1 rfl rfl (Nat.le_of_ble_eq_true rfl) ⟨(Nat.le_of_ble_eq_true rfl), (Nat.le_of_ble_eq_true rfl)⟩ ⟨(Nat.le_of_ble_eq_true rfl), (Nat.le_of_ble_eq_true rfl)⟩ (dk T_X10_way 2 rfl) (fun E τ ce q9 H locs e2 Y h1 h2 h3 => ?_) (fun t4 H locs e2 Y => ?_)
  · subst e2; replace h := sel h
    exact KO E τ ce q9 _ _ _ _ _ _ _ (Option.some.inj h).symm Y h1 h2 h3 (Nat.le_of_ble_eq_true rfl) (Nat.le_of_ble_eq_true rfl)
  · subst e2; replace h := ser h; try dsimp only at h
    refine lv_iload_n X.1 X.2.1 (dk T_X10_way 3 rfl) rfl (lv_at hl 2 rfl) ?_
    refine lv_iconst (v := 0) X.1 X.2.1 (dk T_X10_way 4 rfl) ic_0 ?_
    refine lv_iconst (v := 1) X.1 X.2.1 (dk T_X10_way 5 rfl) ic_1 ?_
    obtain ⟨q5, hq5, h⟩ := bs h
    refine gsIx (rest := []) X Y (c_X10_isWithin x2 0 1 t4 hq5) cb_X10_82 hl.1 rfl rfl (Nat.le_of_ble_eq_true rfl) ⟨Nat.le_of_ble_eq_true rfl, Nat.le_of_ble_eq_true rfl⟩ ⟨Nat.le_of_ble_eq_true rfl, Nat.le_of_ble_eq_true rfl⟩ (dk T_X10_way 6 rfl) (fun H locs Y => ?_)
    refine lv_if_ne (tgt := 25) X.1 X.2.1 (dk T_X10_way 7 rfl) rfl (fun c6 => ?_) (fun c6 => ?_)
    · replace h := ineg c6 h
      refine lv_aload_n X.1 X.2.1 (dk T_X10_way 13 rfl) rfl (lv_at hl 0 rfl) ?_
      refine gg X Y fl_X10_12 rfl rfl (dk T_X10_way 14 rfl) ?_
      refine ggN X Y fl_X10_163 rfl rfl (dk T_X10_way 15 rfl) ?_
      refine lv_iconst (v := 1) X.1 X.2.1 (dk T_X10_way 16 rfl) ic_1 ?_
      refine lv_iload_n X.1 X.2.1 (dk T_X10_way 17 rfl) rfl (lv_at hl 1 rfl) ?_
      obtain ⟨q7, hq7, h⟩ := bs h
      refine gvIx (rest := []) X Y (c_X9_rowsWith 6 rfl 1 x1 t4 hq7) cb_X10_166 rfl hl.1 rfl rfl (Nat.le_of_ble_eq_true rfl) ⟨Nat.le_of_ble_eq_true rfl, Nat.le_of_ble_eq_true rfl⟩ ⟨Nat.le_of_ble_eq_true rfl, Nat.le_of_ble_eq_true rfl⟩ (dk T_X10_way 18 rfl) (fun H locs Y => ?_)
      refine lv_istore (lv' := [(4, .int (q7)), (0, .ref (g.2.2 (0))), (1, .int (x1)), (2, .int (x2)), (3, .int (x3))]) X.1 X.2.1 (dk T_X10_way 19 rfl) hl (Nat.le_of_ble_eq_true rfl) rfl (fun ls hl => ?_)
      refine lv_iload_n X.1 X.2.1 (dk T_X10_way 20 rfl) rfl (lv_at hl 3 rfl) ?_
      refine lv_iconst (v := 1) X.1 X.2.1 (dk T_X10_way 21 rfl) ic_1 ?_
      refine lv_icmp_ne (tgt := 62) X.1 X.2.1 (dk T_X10_way 22 rfl) rfl (fun c8 => ?_) (fun c8 => ?_)
      · replace h := ineg c8 h
        exact w_X10_way_j62 X TX hst x1 x2 x3 q7 t4 KR KT KO Y (lv_sub hl [1, 2, 3, 4, 0] rfl) h
      · replace h := ipos c8 h
        refine lv_iload X.1 X.2.1 (dk T_X10_way 23 rfl) (lv_at hl 0 rfl) ?_
        refine lv_bipush (v := 9) X.1 X.2.1 (dk T_X10_way 24 rfl) bp_9 ?_
        refine lv_icmp_le (tgt := 62) X.1 X.2.1 (dk T_X10_way 25 rfl) rfl (fun c16 => ?_) (fun c16 => ?_)
        · replace h := ipos c16 h
          exact w_X10_way_j62 X TX hst x1 x2 x3 q7 t4 KR KT KO Y (lv_sub hl [1, 2, 3, 4, 0] rfl) h
        · replace h := ineg c16 h
          exact KT "java/lang/UnsupportedOperationException" "the sheet has more than 9 parts" 140 263 144 _ _ _ _ _ _ _ _ th_140_263_144 (Option.some.inj h).symm Y hl.1 (Nat.le_of_ble_eq_true rfl) ⟨(dk T_X10_way 26 rfl), (dk T_X10_way 27 rfl), Or.inr ⟨(dk T_X10_way 28 rfl), (dk T_X10_way 29 rfl), (dk T_X10_way 30 rfl)⟩⟩ (Nat.le_of_ble_eq_true rfl) (Nat.le_of_ble_eq_true rfl)
    · replace h := ipos c6 h
      exact KT "java/lang/IllegalArgumentException" "there is no such way" 86 261 90 _ _ _ _ _ _ _ _ th_86_261_90 (Option.some.inj h).symm Y hl.1 (Nat.le_of_ble_eq_true rfl) ⟨(dk T_X10_way 8 rfl), (dk T_X10_way 9 rfl), Or.inr ⟨(dk T_X10_way 10 rfl), (dk T_X10_way 11 rfl), (dk T_X10_way 12 rfl)⟩⟩ (Nat.le_of_ble_eq_true rfl) (Nat.le_of_ble_eq_true rfl)
def f_X10_way (x1 : Int32) (x2 : Int32) (x3 : Int32) (σ : St) : Option ((String × St) ⊕ (Int32 × St)) := f_X10_way_0 x1 x2 x3 σ
set_option maxHeartbeats 4000000 in
set_option maxRecDepth 100000 in
theorem c_X10_way {l : Launch} {g : Geo} (x1 : Int32) (x2 : Int32) (x3 : Int32) (σ : St) {w : (String × St) ⊕ (Int32 × St)} (h : f_X10_way x1 x2 x3 σ = some w) : CtT l yX10_way cX10_way 5 (some .int) 7 148 2 12 g [.ref (g.2.2 (0)), .int (x1), .int (x2), .int (x3)] σ w := enT .int (by decide) rfl (fun _ _ _ => rfl) (Nat.le_of_ble_eq_true rfl) ⟨Nat.le_of_ble_eq_true rfl, Nat.le_of_ble_eq_true rfl⟩ (fun p e s m args below meth c Q X TX hst Y ls hl KR KT KO => w_X10_way_0 X TX hst x1 x2 x3 σ KR KT KO Y hl h)
def I_X10_count : List (Nat × Instr × Nat) := [(0, .iload_n 1, 1), (1, .tableswitch 102 0 6 #[43, 54, 65, 76, 81, 86, 94], 43), (44, .aload_n 0, 1), (45, .getfield 12, 3), (48, .getfield 93, 3), (51, .invokevirtual 209, 3), (54, .ireturn, 1), (55, .aload_n 0, 1), (56, .getfield 12, 3), (59, .getfield 123, 3), (62, .invokevirtual 209, 3), (65, .ireturn, 1), (66, .aload_n 0, 1), (67, .getfield 12, 3), (70, .getfield 163, 3), (73, .invokevirtual 209, 3), (76, .ireturn, 1), (77, .aload_n 0, 1), (78, .invokevirtual 285, 3), (81, .ireturn, 1), (82, .aload_n 0, 1), (83, .invokevirtual 288, 3), (86, .ireturn, 1), (87, .aload_n 0, 1), (88, .getfield 25, 3), (91, .invokevirtual 291, 3), (94, .ireturn, 1), (95, .aload_n 0, 1), (96, .getfield 70, 3), (99, .invokevirtual 292, 3), (102, .ireturn, 1), (103, .new 86, 3), (106, .dup, 1), (107, .ldc 177, 2), (109, .invokespecial 90, 3), (112, .athrow, 1)]
set_option maxRecDepth 100000 in
theorem T_X10_count : ∀ q ∈ I_X10_count, decode cX10_count q.1 = .ok (q.2.1, q.2.2) := by decide +kernel
def f_X10_count_0 (x1 : Int32) (σ : St) : Option ((String × St) ⊕ (Int32 × St)) :=
  if x1 = 0 then (f_X9_size 2 σ).bind fun q2 => some (.inr (q2, σ)) else if x1 = 1 then (f_X9_size 4 σ).bind fun q4 => some (.inr (q4, σ)) else if x1 = 2 then (f_X9_size 6 σ).bind fun q6 => some (.inr (q6, σ)) else if x1 = 3 then (f_X10_cellsOfAllSheets σ).bind fun q8 => some (.inr (q8, σ)) else if x1 = 4 then (f_X10_cutsOfAllSheets σ).bind fun q10 => some (.inr (q10, σ)) else if x1 = 5 then (f_X2_size σ).bind fun q12 => some (.inr (q12, σ)) else if x1 = 6 then (f_X6_length σ).bind fun q14 => some (.inr (q14, σ)) else some (.inl ("java/lang/IllegalArgumentException", σ))
set_option maxHeartbeats 4000000 in
set_option maxRecDepth 100000 in
theorem w_X10_count_0 (X : Cx g RX10 cX10_count 2 (some .int) p s m args meth c) (TX : TXs g (GA g s.heap.size) s s.heap) (hst : l.stackTraces = false) (x1 : Int32) (σ : St) {w : (String × St) ⊕ (Int32 × St)} (KR : ∀ (v : Int32) (τ : St) (H : Heap) (locs : List Loc) (ls : Array Slot) (pc k n : Nat), w = .inr (v, τ) → k ≤ 1 → n ≤ 6 → Wd g s τ H locs → decode cX10_count pc = .ok (.ireturn, 1) → W p l e (rmT 6 96 1 6) s m args below meth c H locs k n Q (F0 m pc ls [.int v])) (KT : ∀ (E text : String) (ik is ic : Nat) (τ : St) (H : Heap) (locs : List Loc) (ls : Array Slot) (pc : Nat) (rest : List Value) (k n : Nat), THx RX10 E text ik is ic → w = .inl (E, τ) → Wd g s τ H locs → ls.size = 2 → (rest.map fun v => v.category).sum ≤ 8 → (decode cX10_count pc = .ok (.new ik, 3) ∧ decode cX10_count (pc + 3) = .ok (.dup, 1) ∧ ((decode cX10_count (pc + 4) = .ok (.ldc is, 2) ∧ decode cX10_count (pc + 6) = .ok (.invokespecial ic, 3) ∧ decode cX10_count (pc + 9) = .ok (.athrow, 1)) ∨ (decode cX10_count (pc + 4) = .ok (.ldc_w is, 3) ∧ decode cX10_count (pc + 7) = .ok (.invokespecial ic, 3) ∧ decode cX10_count (pc + 10) = .ok (.athrow, 1)))) → k + 1 ≤ 1 → n + 6 ≤ 6 → W p l e (rmT 6 96 1 6) s m args below meth c H locs k n Q (F0 m pc ls rest)) (KO : ∀ (E : String) (τ : St) (ce : Cell) (q9 : Addr) (H : Heap) (locs : List Loc) (ls : Array Slot) (pc : Nat) (rest : List Value) (k n : Nat), w = .inl (E, τ) → Wd g s τ H locs → H[q9]? = some ce → ce.vm = .none → s.vm.findClass E = some ce.cls → k ≤ 1 → n ≤ 6 → vx_W p l e (rmT 6 96 1 6) s m args below meth c H locs k n Q (F0 m pc ls rest) q9) {H : Heap} {locs : List Loc} {ls : Array Slot} (Y : Wd g s σ H locs) (hl : lv_has ls 2 [(0, .ref (g.2.2 (0))), (1, .int (x1))]) (h : f_X10_count_0 x1 σ = some w) : W p l e (rmT 6 96 1 6) s m args below meth c H locs 0 0 Q (F0 m 0 ls []) := by
  unfold f_X10_count_0 at h
  refine lv_iload_n X.1 X.2.1 (dk T_X10_count 0 rfl) rfl (lv_at hl 1 rfl) ?_
  rcases Decidable.em (x1 = 0) with c1 | c1
  · replace h := ipos c1 h
    refine lv_tableIn (tgt := 44) (off := 43) X.1 X.2.1 (dk T_X10_count 1 rfl) (ts1 c1 (by decide)) (ts2 c1 (by decide)) (ts3 c1 (by decide)) rfl ?_
    refine lv_aload_n X.1 X.2.1 (dk T_X10_count 2 rfl) rfl (lv_at hl 0 rfl) ?_
    refine gg X Y fl_X10_12 rfl rfl (dk T_X10_count 3 rfl) ?_
    refine ggN X Y fl_X10_93 rfl rfl (dk T_X10_count 4 rfl) ?_
    obtain ⟨q2, hq2, h⟩ := bs h
    refine gvIx (rest := []) X Y (c_X9_size 2 rfl σ hq2) cb_X10_209 rfl hl.1 rfl rfl (Nat.le_of_ble_eq_true rfl) ⟨Nat.le_of_ble_eq_true rfl, Nat.le_of_ble_eq_true rfl⟩ ⟨Nat.le_of_ble_eq_true rfl, Nat.le_of_ble_eq_true rfl⟩ (dk T_X10_count 5 rfl) (fun H locs Y => ?_)
    exact KR q2 σ _ _ _ _ _ _ (Option.some.inj h).symm (Nat.le_of_ble_eq_true rfl) (Nat.le_of_ble_eq_true rfl) Y (dk T_X10_count 6 rfl)
  replace h := ineg c1 h
  rcases Decidable.em (x1 = 1) with c3 | c3
  · replace h := ipos c3 h
    refine lv_tableIn (tgt := 55) (off := 54) X.1 X.2.1 (dk T_X10_count 1 rfl) (ts1 c3 (by decide)) (ts2 c3 (by decide)) (ts3 c3 (by decide)) rfl ?_
    refine lv_aload_n X.1 X.2.1 (dk T_X10_count 7 rfl) rfl (lv_at hl 0 rfl) ?_
    refine gg X Y fl_X10_12 rfl rfl (dk T_X10_count 8 rfl) ?_
    refine ggN X Y fl_X10_123 rfl rfl (dk T_X10_count 9 rfl) ?_
    obtain ⟨q4, hq4, h⟩ := bs h
    refine gvIx (rest := []) X Y (c_X9_size 4 rfl σ hq4) cb_X10_209 rfl hl.1 rfl rfl (Nat.le_of_ble_eq_true rfl) ⟨Nat.le_of_ble_eq_true rfl, Nat.le_of_ble_eq_true rfl⟩ ⟨Nat.le_of_ble_eq_true rfl, Nat.le_of_ble_eq_true rfl⟩ (dk T_X10_count 10 rfl) (fun H locs Y => ?_)
    exact KR q4 σ _ _ _ _ _ _ (Option.some.inj h).symm (Nat.le_of_ble_eq_true rfl) (Nat.le_of_ble_eq_true rfl) Y (dk T_X10_count 11 rfl)
  replace h := ineg c3 h
  rcases Decidable.em (x1 = 2) with c5 | c5
  · replace h := ipos c5 h
    refine lv_tableIn (tgt := 66) (off := 65) X.1 X.2.1 (dk T_X10_count 1 rfl) (ts1 c5 (by decide)) (ts2 c5 (by decide)) (ts3 c5 (by decide)) rfl ?_
    refine lv_aload_n X.1 X.2.1 (dk T_X10_count 12 rfl) rfl (lv_at hl 0 rfl) ?_
    refine gg X Y fl_X10_12 rfl rfl (dk T_X10_count 13 rfl) ?_
    refine ggN X Y fl_X10_163 rfl rfl (dk T_X10_count 14 rfl) ?_
    obtain ⟨q6, hq6, h⟩ := bs h
    refine gvIx (rest := []) X Y (c_X9_size 6 rfl σ hq6) cb_X10_209 rfl hl.1 rfl rfl (Nat.le_of_ble_eq_true rfl) ⟨Nat.le_of_ble_eq_true rfl, Nat.le_of_ble_eq_true rfl⟩ ⟨Nat.le_of_ble_eq_true rfl, Nat.le_of_ble_eq_true rfl⟩ (dk T_X10_count 15 rfl) (fun H locs Y => ?_)
    exact KR q6 σ _ _ _ _ _ _ (Option.some.inj h).symm (Nat.le_of_ble_eq_true rfl) (Nat.le_of_ble_eq_true rfl) Y (dk T_X10_count 16 rfl)
  replace h := ineg c5 h
  rcases Decidable.em (x1 = 3) with c7 | c7
  · replace h := ipos c7 h
    refine lv_tableIn (tgt := 77) (off := 76) X.1 X.2.1 (dk T_X10_count 1 rfl) (ts1 c7 (by decide)) (ts2 c7 (by decide)) (ts3 c7 (by decide)) rfl ?_
    refine lv_aload_n X.1 X.2.1 (dk T_X10_count 17 rfl) rfl (lv_at hl 0 rfl) ?_
    obtain ⟨q8, hq8, h⟩ := bs h
    refine gvIx (rest := []) X Y (c_X10_cellsOfAllSheets σ hq8) cb_X10_285 rfl hl.1 rfl rfl (Nat.le_of_ble_eq_true rfl) ⟨Nat.le_of_ble_eq_true rfl, Nat.le_of_ble_eq_true rfl⟩ ⟨Nat.le_of_ble_eq_true rfl, Nat.le_of_ble_eq_true rfl⟩ (dk T_X10_count 18 rfl) (fun H locs Y => ?_)
    exact KR q8 σ _ _ _ _ _ _ (Option.some.inj h).symm (Nat.le_of_ble_eq_true rfl) (Nat.le_of_ble_eq_true rfl) Y (dk T_X10_count 19 rfl)
  replace h := ineg c7 h
  rcases Decidable.em (x1 = 4) with c9 | c9
  · replace h := ipos c9 h
    refine lv_tableIn (tgt := 82) (off := 81) X.1 X.2.1 (dk T_X10_count 1 rfl) (ts1 c9 (by decide)) (ts2 c9 (by decide)) (ts3 c9 (by decide)) rfl ?_
    refine lv_aload_n X.1 X.2.1 (dk T_X10_count 20 rfl) rfl (lv_at hl 0 rfl) ?_
    obtain ⟨q10, hq10, h⟩ := bs h
    refine gvIx (rest := []) X Y (c_X10_cutsOfAllSheets σ hq10) cb_X10_288 rfl hl.1 rfl rfl (Nat.le_of_ble_eq_true rfl) ⟨Nat.le_of_ble_eq_true rfl, Nat.le_of_ble_eq_true rfl⟩ ⟨Nat.le_of_ble_eq_true rfl, Nat.le_of_ble_eq_true rfl⟩ (dk T_X10_count 21 rfl) (fun H locs Y => ?_)
    exact KR q10 σ _ _ _ _ _ _ (Option.some.inj h).symm (Nat.le_of_ble_eq_true rfl) (Nat.le_of_ble_eq_true rfl) Y (dk T_X10_count 22 rfl)
  replace h := ineg c9 h
  rcases Decidable.em (x1 = 5) with c11 | c11
  · replace h := ipos c11 h
    refine lv_tableIn (tgt := 87) (off := 86) X.1 X.2.1 (dk T_X10_count 1 rfl) (ts1 c11 (by decide)) (ts2 c11 (by decide)) (ts3 c11 (by decide)) rfl ?_
    refine lv_aload_n X.1 X.2.1 (dk T_X10_count 23 rfl) rfl (lv_at hl 0 rfl) ?_
    refine gg X Y fl_X10_25 rfl rfl (dk T_X10_count 24 rfl) ?_
    obtain ⟨q12, hq12, h⟩ := bs h
    refine gvIx (rest := []) X Y (c_X2_size σ hq12) cb_X10_291 rfl hl.1 rfl rfl (Nat.le_of_ble_eq_true rfl) ⟨Nat.le_of_ble_eq_true rfl, Nat.le_of_ble_eq_true rfl⟩ ⟨Nat.le_of_ble_eq_true rfl, Nat.le_of_ble_eq_true rfl⟩ (dk T_X10_count 25 rfl) (fun H locs Y => ?_)
    exact KR q12 σ _ _ _ _ _ _ (Option.some.inj h).symm (Nat.le_of_ble_eq_true rfl) (Nat.le_of_ble_eq_true rfl) Y (dk T_X10_count 26 rfl)
  replace h := ineg c11 h
  rcases Decidable.em (x1 = 6) with c13 | c13
  · replace h := ipos c13 h
    refine lv_tableIn (tgt := 95) (off := 94) X.1 X.2.1 (dk T_X10_count 1 rfl) (ts1 c13 (by decide)) (ts2 c13 (by decide)) (ts3 c13 (by decide)) rfl ?_
    refine lv_aload_n X.1 X.2.1 (dk T_X10_count 27 rfl) rfl (lv_at hl 0 rfl) ?_
    refine gg X Y fl_X10_70 rfl rfl (dk T_X10_count 28 rfl) ?_
    obtain ⟨q14, hq14, h⟩ := bs h
    refine gvIx (rest := []) X Y (c_X6_length σ hq14) cb_X10_292 rfl hl.1 rfl rfl (Nat.le_of_ble_eq_true rfl) ⟨Nat.le_of_ble_eq_true rfl, Nat.le_of_ble_eq_true rfl⟩ ⟨Nat.le_of_ble_eq_true rfl, Nat.le_of_ble_eq_true rfl⟩ (dk T_X10_count 29 rfl) (fun H locs Y => ?_)
    exact KR q14 σ _ _ _ _ _ _ (Option.some.inj h).symm (Nat.le_of_ble_eq_true rfl) (Nat.le_of_ble_eq_true rfl) Y (dk T_X10_count 30 rfl)
  replace h := ineg c13 h
  refine lv_tableOut (tgt := 103) X.1 X.2.1 (dk T_X10_count 1 rfl) (ts7n c1 c3 c5 c7 c9 c11 c13) rfl ?_
  exact KT "java/lang/IllegalArgumentException" "what is not valid" 86 177 90 _ _ _ _ _ _ _ _ th_86_177_90 (Option.some.inj h).symm Y hl.1 (Nat.le_of_ble_eq_true rfl) ⟨(dk T_X10_count 31 rfl), (dk T_X10_count 32 rfl), Or.inl ⟨(dk T_X10_count 33 rfl), (dk T_X10_count 34 rfl), (dk T_X10_count 35 rfl)⟩⟩ (Nat.le_of_ble_eq_true rfl) (Nat.le_of_ble_eq_true rfl)
def f_X10_count (x1 : Int32) (σ : St) : Option ((String × St) ⊕ (Int32 × St)) := f_X10_count_0 x1 σ
set_option maxHeartbeats 4000000 in
set_option maxRecDepth 100000 in
theorem c_X10_count {l : Launch} {g : Geo} (x1 : Int32) (σ : St) {w : (String × St) ⊕ (Int32 × St)} (h : f_X10_count x1 σ = some w) : CtT l yX10_count cX10_count 2 (some .int) 6 96 1 6 g [.ref (g.2.2 (0)), .int (x1)] σ w := enT .int (by decide) rfl (fun _ _ _ => rfl) (Nat.le_of_ble_eq_true rfl) ⟨Nat.le_of_ble_eq_true rfl, Nat.le_of_ble_eq_true rfl⟩ (fun p e s m args below meth c Q X TX hst Y ls hl KR KT KO => w_X10_count_0 X TX hst x1 σ KR KT KO Y hl h)
def I_X10_feed : List (Nat × Instr × Nat) := [(0, .aload_n 0, 1), (1, .getfield 70, 3), (4, .invokevirtual 293, 3), (7, .ifCond .eq 14, 3), (10, .new 103, 3), (13, .dup, 1), (14, .ldc_w 294, 3), (17, .invokespecial 107, 3), (20, .athrow, 1), (21, .aload_n 0, 1), (22, .getfield 70, 3), (25, .iload_n 1, 1), (26, .invokevirtual 296, 3), (29, .ireturn, 1)]
set_option maxRecDepth 100000 in
theorem T_X10_feed : ∀ q ∈ I_X10_feed, decode cX10_feed q.1 = .ok (q.2.1, q.2.2) := by decide +kernel
def f_X10_feed_0 (x1 : Int32) (σ : St) : Option ((String × St) ⊕ (Int32 × St)) :=
  (f_X6_isFull σ).bind fun q1 => if q1 = 0 then (f_X6_append x1 σ).bind fun q3 => some (.inr (q3.1, q3.2)) else some (.inl ("java/lang/IllegalStateException", σ))
set_option maxHeartbeats 4000000 in
set_option maxRecDepth 100000 in
theorem w_X10_feed_0 (X : Cx g RX10 cX10_feed 2 (some .int) p s m args meth c) (TX : TXs g (GA g s.heap.size) s s.heap) (hst : l.stackTraces = false) (x1 : Int32) (σ : St) {w : (String × St) ⊕ (Int32 × St)} (KR : ∀ (v : Int32) (τ : St) (H : Heap) (locs : List Loc) (ls : Array Slot) (pc k n : Nat), w = .inr (v, τ) → k ≤ 1 → n ≤ 6 → Wd g s τ H locs → decode cX10_feed pc = .ok (.ireturn, 1) → W p l e (rmT 6 90 1 6) s m args below meth c H locs k n Q (F0 m pc ls [.int v])) (KT : ∀ (E text : String) (ik is ic : Nat) (τ : St) (H : Heap) (locs : List Loc) (ls : Array Slot) (pc : Nat) (rest : List Value) (k n : Nat), THx RX10 E text ik is ic → w = .inl (E, τ) → Wd g s τ H locs → ls.size = 2 → (rest.map fun v => v.category).sum ≤ 8 → (decode cX10_feed pc = .ok (.new ik, 3) ∧ decode cX10_feed (pc + 3) = .ok (.dup, 1) ∧ ((decode cX10_feed (pc + 4) = .ok (.ldc is, 2) ∧ decode cX10_feed (pc + 6) = .ok (.invokespecial ic, 3) ∧ decode cX10_feed (pc + 9) = .ok (.athrow, 1)) ∨ (decode cX10_feed (pc + 4) = .ok (.ldc_w is, 3) ∧ decode cX10_feed (pc + 7) = .ok (.invokespecial ic, 3) ∧ decode cX10_feed (pc + 10) = .ok (.athrow, 1)))) → k + 1 ≤ 1 → n + 6 ≤ 6 → W p l e (rmT 6 90 1 6) s m args below meth c H locs k n Q (F0 m pc ls rest)) (KO : ∀ (E : String) (τ : St) (ce : Cell) (q9 : Addr) (H : Heap) (locs : List Loc) (ls : Array Slot) (pc : Nat) (rest : List Value) (k n : Nat), w = .inl (E, τ) → Wd g s τ H locs → H[q9]? = some ce → ce.vm = .none → s.vm.findClass E = some ce.cls → k ≤ 1 → n ≤ 6 → vx_W p l e (rmT 6 90 1 6) s m args below meth c H locs k n Q (F0 m pc ls rest) q9) {H : Heap} {locs : List Loc} {ls : Array Slot} (Y : Wd g s σ H locs) (hl : lv_has ls 2 [(0, .ref (g.2.2 (0))), (1, .int (x1))]) (h : f_X10_feed_0 x1 σ = some w) : W p l e (rmT 6 90 1 6) s m args below meth c H locs 0 0 Q (F0 m 0 ls []) := by
  unfold f_X10_feed_0 at h
  refine lv_aload_n X.1 X.2.1 (dk T_X10_feed 0 rfl) rfl (lv_at hl 0 rfl) ?_
  refine gg X Y fl_X10_70 rfl rfl (dk T_X10_feed 1 rfl) ?_
  obtain ⟨q1, hq1, h⟩ := bs h
  refine gvIx (rest := []) X Y (c_X6_isFull σ hq1) cb_X10_293 rfl hl.1 rfl rfl (Nat.le_of_ble_eq_true rfl) ⟨Nat.le_of_ble_eq_true rfl, Nat.le_of_ble_eq_true rfl⟩ ⟨Nat.le_of_ble_eq_true rfl, Nat.le_of_ble_eq_true rfl⟩ (dk T_X10_feed 2 rfl) (fun H locs Y => ?_)
  refine lv_if_eq (tgt := 21) X.1 X.2.1 (dk T_X10_feed 3 rfl) rfl (fun c2 => ?_) (fun c2 => ?_)
  · replace h := ipos c2 h
    refine lv_aload_n X.1 X.2.1 (dk T_X10_feed 9 rfl) rfl (lv_at hl 0 rfl) ?_
    refine gg X Y fl_X10_70 rfl rfl (dk T_X10_feed 10 rfl) ?_
    refine lv_iload_n X.1 X.2.1 (dk T_X10_feed 11 rfl) rfl (lv_at hl 1 rfl) ?_
    obtain ⟨q3, hq3, h⟩ := bs h
    refine gvIx (rest := []) X Y (c_X6_append x1 σ hq3) cb_X10_296 rfl hl.1 rfl rfl (Nat.le_of_ble_eq_true rfl) ⟨Nat.le_of_ble_eq_true rfl, Nat.le_of_ble_eq_true rfl⟩ ⟨Nat.le_of_ble_eq_true rfl, Nat.le_of_ble_eq_true rfl⟩ (dk T_X10_feed 12 rfl) (fun H locs Y => ?_)
    exact KR q3.1 q3.2 _ _ _ _ _ _ (Option.some.inj h).symm (Nat.le_of_ble_eq_true rfl) (Nat.le_of_ble_eq_true rfl) Y (dk T_X10_feed 13 rfl)
  · replace h := ineg c2 h
    exact KT "java/lang/IllegalStateException" "the input has 70 characters" 103 294 107 _ _ _ _ _ _ _ _ th_103_294_107 (Option.some.inj h).symm Y hl.1 (Nat.le_of_ble_eq_true rfl) ⟨(dk T_X10_feed 4 rfl), (dk T_X10_feed 5 rfl), Or.inr ⟨(dk T_X10_feed 6 rfl), (dk T_X10_feed 7 rfl), (dk T_X10_feed 8 rfl)⟩⟩ (Nat.le_of_ble_eq_true rfl) (Nat.le_of_ble_eq_true rfl)
def f_X10_feed (x1 : Int32) (σ : St) : Option ((String × St) ⊕ (Int32 × St)) := f_X10_feed_0 x1 σ
set_option maxHeartbeats 4000000 in
set_option maxRecDepth 100000 in
theorem c_X10_feed {l : Launch} {g : Geo} (x1 : Int32) (σ : St) {w : (String × St) ⊕ (Int32 × St)} (h : f_X10_feed x1 σ = some w) : CtT l yX10_feed cX10_feed 2 (some .int) 6 90 1 6 g [.ref (g.2.2 (0)), .int (x1)] σ w := enT .int (by decide) rfl (fun _ _ _ => rfl) (Nat.le_of_ble_eq_true rfl) ⟨Nat.le_of_ble_eq_true rfl, Nat.le_of_ble_eq_true rfl⟩ (fun p e s m args below meth c Q X TX hst Y ls hl KR KT KO => w_X10_feed_0 X TX hst x1 σ KR KT KO Y hl h)
def I_X10_fault : List (Nat × Instr × Nat) := [(0, .aload_n 0, 1), (1, .getfield 36, 3), (4, .iload_n 1, 1), (5, .iload_n 2, 1), (6, .invokestatic 222, 3), (9, .ireturn, 1)]
set_option maxRecDepth 100000 in
theorem T_X10_fault : ∀ q ∈ I_X10_fault, decode cX10_fault q.1 = .ok (q.2.1, q.2.2) := by decide +kernel
def f_X10_fault_0 (x1 : Int32) (x2 : Int32) (σ : St) : Option ((String × St) ⊕ (Int32 × St)) :=
  (f_X10_causeNumber 83 x1 x2 σ).bind fun q1 => Sum.elim (fun x => some (.inl x)) (fun q1 => some (.inr (q1.1, q1.2))) q1
set_option maxHeartbeats 4000000 in
set_option maxRecDepth 100000 in
theorem w_X10_fault_0 (X : Cx g RX10 cX10_fault 3 (some .int) p s m args meth c) (TX : TXs g (GA g s.heap.size) s s.heap) (hst : l.stackTraces = false) (x1 : Int32) (x2 : Int32) (σ : St) {w : (String × St) ⊕ (Int32 × St)} (KR : ∀ (v : Int32) (τ : St) (H : Heap) (locs : List Loc) (ls : Array Slot) (pc k n : Nat), w = .inr (v, τ) → k ≤ 1 → n ≤ 6 → Wd g s τ H locs → decode cX10_fault pc = .ok (.ireturn, 1) → W p l e (rmT 7 112 1 6) s m args below meth c H locs k n Q (F0 m pc ls [.int v])) (KT : ∀ (E text : String) (ik is ic : Nat) (τ : St) (H : Heap) (locs : List Loc) (ls : Array Slot) (pc : Nat) (rest : List Value) (k n : Nat), THx RX10 E text ik is ic → w = .inl (E, τ) → Wd g s τ H locs → ls.size = 3 → (rest.map fun v => v.category).sum ≤ 8 → (decode cX10_fault pc = .ok (.new ik, 3) ∧ decode cX10_fault (pc + 3) = .ok (.dup, 1) ∧ ((decode cX10_fault (pc + 4) = .ok (.ldc is, 2) ∧ decode cX10_fault (pc + 6) = .ok (.invokespecial ic, 3) ∧ decode cX10_fault (pc + 9) = .ok (.athrow, 1)) ∨ (decode cX10_fault (pc + 4) = .ok (.ldc_w is, 3) ∧ decode cX10_fault (pc + 7) = .ok (.invokespecial ic, 3) ∧ decode cX10_fault (pc + 10) = .ok (.athrow, 1)))) → k + 1 ≤ 1 → n + 6 ≤ 6 → W p l e (rmT 7 112 1 6) s m args below meth c H locs k n Q (F0 m pc ls rest)) (KO : ∀ (E : String) (τ : St) (ce : Cell) (q9 : Addr) (H : Heap) (locs : List Loc) (ls : Array Slot) (pc : Nat) (rest : List Value) (k n : Nat), w = .inl (E, τ) → Wd g s τ H locs → H[q9]? = some ce → ce.vm = .none → s.vm.findClass E = some ce.cls → k ≤ 1 → n ≤ 6 → vx_W p l e (rmT 7 112 1 6) s m args below meth c H locs k n Q (F0 m pc ls rest) q9) {H : Heap} {locs : List Loc} {ls : Array Slot} (Y : Wd g s σ H locs) (hl : lv_has ls 3 [(0, .ref (g.2.2 (0))), (1, .int (x1)), (2, .int (x2))]) (h : f_X10_fault_0 x1 x2 σ = some w) : W p l e (rmT 7 112 1 6) s m args below meth c H locs 0 0 Q (F0 m 0 ls []) := by
  unfold f_X10_fault_0 at h
  refine lv_aload_n X.1 X.2.1 (dk T_X10_fault 0 rfl) rfl (lv_at hl 0 rfl) ?_
  refine gg X Y fl_X10_36 rfl rfl (dk T_X10_fault 1 rfl) ?_
  refine lv_iload_n X.1 X.2.1 (dk T_X10_fault 2 rfl) rfl (lv_at hl 1 rfl) ?_
  refine lv_iload_n X.1 X.2.1 (dk T_X10_fault 3 rfl) rfl (lv_at hl 2 rfl) ?_
  obtain ⟨q1, hq1, h⟩ := bs h
  refine gsT (rest := []) X TX hst Y (c_X10_causeNumber 83 rfl x1 x2 σ hq1) cb_X10_222 hl.1 rfl rfl (Nat.le_of_ble_eq_true rfl) ⟨(Nat.le_of_ble_eq_true rfl), (Nat.le_of_ble_eq_true rfl)⟩ ⟨(Nat.le_of_ble_eq_true rfl), (Nat.le_of_ble_eq_true rfl)⟩ (dk T_X10_fault 4 rfl) (fun E τ ce q9 H locs e2 Y h1 h2 h3 => ?_) (fun y3 t4 H locs e2 Y => ?_)
  · subst e2; replace h := sel h
    exact KO E τ ce q9 _ _ _ _ _ _ _ (Option.some.inj h).symm Y h1 h2 h3 (Nat.le_of_ble_eq_true rfl) (Nat.le_of_ble_eq_true rfl)
  · subst e2; replace h := ser h; try dsimp only at h
    exact KR y3 t4 _ _ _ _ _ _ (Option.some.inj h).symm (Nat.le_of_ble_eq_true rfl) (Nat.le_of_ble_eq_true rfl) Y (dk T_X10_fault 5 rfl)
def f_X10_fault (x1 : Int32) (x2 : Int32) (σ : St) : Option ((String × St) ⊕ (Int32 × St)) := f_X10_fault_0 x1 x2 σ
set_option maxHeartbeats 4000000 in
set_option maxRecDepth 100000 in
theorem c_X10_fault {l : Launch} {g : Geo} (x1 : Int32) (x2 : Int32) (σ : St) {w : (String × St) ⊕ (Int32 × St)} (h : f_X10_fault x1 x2 σ = some w) : CtT l yX10_fault cX10_fault 3 (some .int) 7 112 1 6 g [.ref (g.2.2 (0)), .int (x1), .int (x2)] σ w := enT .int (by decide) rfl (fun _ _ _ => rfl) (Nat.le_of_ble_eq_true rfl) ⟨Nat.le_of_ble_eq_true rfl, Nat.le_of_ble_eq_true rfl⟩ (fun p e s m args below meth c Q X TX hst Y ls hl KR KT KO => w_X10_fault_0 X TX hst x1 x2 σ KR KT KO Y hl h)
def I_X10_undo : List (Nat × Instr × Nat) := [(0, .aload_n 0, 1), (1, .getfield 25, 3), (4, .invokevirtual 291, 3), (7, .iconst 1, 1), (8, .if_icmp .ge 14, 3), (11, .new 103, 3), (14, .dup, 1), (15, .ldc_w 313, 3), (18, .invokespecial 107, 3), (21, .athrow, 1), (22, .aload_n 0, 1), (23, .getfield 25, 3), (26, .aload_n 0, 1), (27, .getfield 12, 3), (30, .invokevirtual 315, 3), (33, .aload_n 0, 1), (34, .getfield 25, 3), (37, .invokevirtual 291, 3), (40, .ireturn, 1)]
set_option maxRecDepth 100000 in
theorem T_X10_undo : ∀ q ∈ I_X10_undo, decode cX10_undo q.1 = .ok (q.2.1, q.2.2) := by decide +kernel
def f_X10_undo_0 (σ : St) : Option ((String × St) ⊕ (Int32 × St)) :=
  (f_X2_size σ).bind fun q1 => if 1 ≤ q1 then (f_X2_pop 1 σ).bind fun q3 => (f_X2_size q3).bind fun q4 => some (.inr (q4, q3)) else some (.inl ("java/lang/IllegalStateException", σ))
set_option maxHeartbeats 4000000 in
set_option maxRecDepth 100000 in
theorem w_X10_undo_0 (X : Cx g RX10 cX10_undo 1 (some .int) p s m args meth c) (TX : TXs g (GA g s.heap.size) s s.heap) (hst : l.stackTraces = false) (σ : St) {w : (String × St) ⊕ (Int32 × St)} (KR : ∀ (v : Int32) (τ : St) (H : Heap) (locs : List Loc) (ls : Array Slot) (pc k n : Nat), w = .inr (v, τ) → k ≤ 1 → n ≤ 6 → Wd g s τ H locs → decode cX10_undo pc = .ok (.ireturn, 1) → W p l e (rmT 6 105 1 6) s m args below meth c H locs k n Q (F0 m pc ls [.int v])) (KT : ∀ (E text : String) (ik is ic : Nat) (τ : St) (H : Heap) (locs : List Loc) (ls : Array Slot) (pc : Nat) (rest : List Value) (k n : Nat), THx RX10 E text ik is ic → w = .inl (E, τ) → Wd g s τ H locs → ls.size = 1 → (rest.map fun v => v.category).sum ≤ 8 → (decode cX10_undo pc = .ok (.new ik, 3) ∧ decode cX10_undo (pc + 3) = .ok (.dup, 1) ∧ ((decode cX10_undo (pc + 4) = .ok (.ldc is, 2) ∧ decode cX10_undo (pc + 6) = .ok (.invokespecial ic, 3) ∧ decode cX10_undo (pc + 9) = .ok (.athrow, 1)) ∨ (decode cX10_undo (pc + 4) = .ok (.ldc_w is, 3) ∧ decode cX10_undo (pc + 7) = .ok (.invokespecial ic, 3) ∧ decode cX10_undo (pc + 10) = .ok (.athrow, 1)))) → k + 1 ≤ 1 → n + 6 ≤ 6 → W p l e (rmT 6 105 1 6) s m args below meth c H locs k n Q (F0 m pc ls rest)) (KO : ∀ (E : String) (τ : St) (ce : Cell) (q9 : Addr) (H : Heap) (locs : List Loc) (ls : Array Slot) (pc : Nat) (rest : List Value) (k n : Nat), w = .inl (E, τ) → Wd g s τ H locs → H[q9]? = some ce → ce.vm = .none → s.vm.findClass E = some ce.cls → k ≤ 1 → n ≤ 6 → vx_W p l e (rmT 6 105 1 6) s m args below meth c H locs k n Q (F0 m pc ls rest) q9) {H : Heap} {locs : List Loc} {ls : Array Slot} (Y : Wd g s σ H locs) (hl : lv_has ls 1 [(0, .ref (g.2.2 (0)))]) (h : f_X10_undo_0 σ = some w) : W p l e (rmT 6 105 1 6) s m args below meth c H locs 0 0 Q (F0 m 0 ls []) := by
  unfold f_X10_undo_0 at h
  refine lv_aload_n X.1 X.2.1 (dk T_X10_undo 0 rfl) rfl (lv_at hl 0 rfl) ?_
  refine gg X Y fl_X10_25 rfl rfl (dk T_X10_undo 1 rfl) ?_
  obtain ⟨q1, hq1, h⟩ := bs h
  refine gvIx (rest := []) X Y (c_X2_size σ hq1) cb_X10_291 rfl hl.1 rfl rfl (Nat.le_of_ble_eq_true rfl) ⟨Nat.le_of_ble_eq_true rfl, Nat.le_of_ble_eq_true rfl⟩ ⟨Nat.le_of_ble_eq_true rfl, Nat.le_of_ble_eq_true rfl⟩ (dk T_X10_undo 2 rfl) (fun H locs Y => ?_)
  refine lv_iconst (v := 1) X.1 X.2.1 (dk T_X10_undo 3 rfl) ic_1 ?_
  refine lv_icmp_ge (tgt := 22) X.1 X.2.1 (dk T_X10_undo 4 rfl) rfl (fun c2 => ?_) (fun c2 => ?_)
  · replace h := ipos c2 h
    refine lv_aload_n X.1 X.2.1 (dk T_X10_undo 10 rfl) rfl (lv_at hl 0 rfl) ?_
    refine gg X Y fl_X10_25 rfl rfl (dk T_X10_undo 11 rfl) ?_
    refine lv_aload_n X.1 X.2.1 (dk T_X10_undo 12 rfl) rfl (lv_at hl 0 rfl) ?_
    refine gg X Y fl_X10_12 rfl rfl (dk T_X10_undo 13 rfl) ?_
    obtain ⟨q3, hq3, h⟩ := bs h
    refine gvVx (rest := []) X Y (c_X2_pop 1 rfl σ hq3) cb_X10_315 rfl hl.1 rfl rfl (Nat.le_of_ble_eq_true rfl) ⟨Nat.le_of_ble_eq_true rfl, Nat.le_of_ble_eq_true rfl⟩ ⟨Nat.le_of_ble_eq_true rfl, Nat.le_of_ble_eq_true rfl⟩ (dk T_X10_undo 14 rfl) (fun H locs Y => ?_)
    refine lv_aload_n X.1 X.2.1 (dk T_X10_undo 15 rfl) rfl (lv_at hl 0 rfl) ?_
    refine gg X Y fl_X10_25 rfl rfl (dk T_X10_undo 16 rfl) ?_
    obtain ⟨q4, hq4, h⟩ := bs h
    refine gvIx (rest := []) X Y (c_X2_size q3 hq4) cb_X10_291 rfl hl.1 rfl rfl (Nat.le_of_ble_eq_true rfl) ⟨Nat.le_of_ble_eq_true rfl, Nat.le_of_ble_eq_true rfl⟩ ⟨Nat.le_of_ble_eq_true rfl, Nat.le_of_ble_eq_true rfl⟩ (dk T_X10_undo 17 rfl) (fun H locs Y => ?_)
    exact KR q4 q3 _ _ _ _ _ _ (Option.some.inj h).symm (Nat.le_of_ble_eq_true rfl) (Nat.le_of_ble_eq_true rfl) Y (dk T_X10_undo 18 rfl)
  · replace h := ineg c2 h
    exact KT "java/lang/IllegalStateException" "there is no change that can be undone" 103 313 107 _ _ _ _ _ _ _ _ th_103_313_107 (Option.some.inj h).symm Y hl.1 (Nat.le_of_ble_eq_true rfl) ⟨(dk T_X10_undo 5 rfl), (dk T_X10_undo 6 rfl), Or.inr ⟨(dk T_X10_undo 7 rfl), (dk T_X10_undo 8 rfl), (dk T_X10_undo 9 rfl)⟩⟩ (Nat.le_of_ble_eq_true rfl) (Nat.le_of_ble_eq_true rfl)
def f_X10_undo (σ : St) : Option ((String × St) ⊕ (Int32 × St)) := f_X10_undo_0 σ
set_option maxHeartbeats 4000000 in
set_option maxRecDepth 100000 in
theorem c_X10_undo {l : Launch} {g : Geo} (σ : St) {w : (String × St) ⊕ (Int32 × St)} (h : f_X10_undo σ = some w) : CtT l yX10_undo cX10_undo 1 (some .int) 6 105 1 6 g [.ref (g.2.2 (0))] σ w := enT .int (by decide) rfl (fun _ _ _ => rfl) (Nat.le_of_ble_eq_true rfl) ⟨Nat.le_of_ble_eq_true rfl, Nat.le_of_ble_eq_true rfl⟩ (fun p e s m args below meth c Q X TX hst Y ls hl KR KT KO => w_X10_undo_0 X TX hst σ KR KT KO Y hl h)
def I_X10_restoreSnapshot : List (Nat × Instr × Nat) := [(0, .aload_n 0, 1), (1, .getfield 74, 3), (4, .ifCond .ne 14, 3), (7, .new 103, 3), (10, .dup, 1), (11, .ldc_w 321, 3), (14, .invokespecial 107, 3), (17, .athrow, 1), (18, .aload_n 0, 1), (19, .getfield 12, 3), (22, .aload_n 0, 1), (23, .getfield 19, 3), (26, .invokevirtual 318, 3), (29, .aload_n 0, 1), (30, .getfield 25, 3), (33, .invokevirtual 323, 3), (36, .aload_n 0, 1), (37, .getfield 12, 3), (40, .getfield 163, 3), (43, .invokevirtual 209, 3), (46, .ireturn, 1)]
set_option maxRecDepth 100000 in
theorem T_X10_restoreSnapshot : ∀ q ∈ I_X10_restoreSnapshot, decode cX10_restoreSnapshot q.1 = .ok (q.2.1, q.2.2) := by decide +kernel
def f_X10_restoreSnapshot_0 (σ : St) : Option ((String × St) ⊕ (Int32 × St)) :=
  if (σ 0 11) = 0 then some (.inl ("java/lang/IllegalStateException", σ)) else (f_X8_copyFrom 1 15 σ).bind fun q2 => (f_X2_clear q2).bind fun q3 => (f_X9_size 6 q3).bind fun q4 => some (.inr (q4, q3))
set_option maxHeartbeats 4000000 in
set_option maxRecDepth 100000 in
theorem w_X10_restoreSnapshot_0 (X : Cx g RX10 cX10_restoreSnapshot 1 (some .int) p s m args meth c) (TX : TXs g (GA g s.heap.size) s s.heap) (hst : l.stackTraces = false) (σ : St) {w : (String × St) ⊕ (Int32 × St)} (KR : ∀ (v : Int32) (τ : St) (H : Heap) (locs : List Loc) (ls : Array Slot) (pc k n : Nat), w = .inr (v, τ) → k ≤ 1 → n ≤ 6 → Wd g s τ H locs → decode cX10_restoreSnapshot pc = .ok (.ireturn, 1) → W p l e (rmT 6 90 1 6) s m args below meth c H locs k n Q (F0 m pc ls [.int v])) (KT : ∀ (E text : String) (ik is ic : Nat) (τ : St) (H : Heap) (locs : List Loc) (ls : Array Slot) (pc : Nat) (rest : List Value) (k n : Nat), THx RX10 E text ik is ic → w = .inl (E, τ) → Wd g s τ H locs → ls.size = 1 → (rest.map fun v => v.category).sum ≤ 8 → (decode cX10_restoreSnapshot pc = .ok (.new ik, 3) ∧ decode cX10_restoreSnapshot (pc + 3) = .ok (.dup, 1) ∧ ((decode cX10_restoreSnapshot (pc + 4) = .ok (.ldc is, 2) ∧ decode cX10_restoreSnapshot (pc + 6) = .ok (.invokespecial ic, 3) ∧ decode cX10_restoreSnapshot (pc + 9) = .ok (.athrow, 1)) ∨ (decode cX10_restoreSnapshot (pc + 4) = .ok (.ldc_w is, 3) ∧ decode cX10_restoreSnapshot (pc + 7) = .ok (.invokespecial ic, 3) ∧ decode cX10_restoreSnapshot (pc + 10) = .ok (.athrow, 1)))) → k + 1 ≤ 1 → n + 6 ≤ 6 → W p l e (rmT 6 90 1 6) s m args below meth c H locs k n Q (F0 m pc ls rest)) (KO : ∀ (E : String) (τ : St) (ce : Cell) (q9 : Addr) (H : Heap) (locs : List Loc) (ls : Array Slot) (pc : Nat) (rest : List Value) (k n : Nat), w = .inl (E, τ) → Wd g s τ H locs → H[q9]? = some ce → ce.vm = .none → s.vm.findClass E = some ce.cls → k ≤ 1 → n ≤ 6 → vx_W p l e (rmT 6 90 1 6) s m args below meth c H locs k n Q (F0 m pc ls rest) q9) {H : Heap} {locs : List Loc} {ls : Array Slot} (Y : Wd g s σ H locs) (hl : lv_has ls 1 [(0, .ref (g.2.2 (0)))]) (h : f_X10_restoreSnapshot_0 σ = some w) : W p l e (rmT 6 90 1 6) s m args below meth c H locs 0 0 Q (F0 m 0 ls []) := by
  unfold f_X10_restoreSnapshot_0 at h
  refine lv_aload_n X.1 X.2.1 (dk T_X10_restoreSnapshot 0 rfl) rfl (lv_at hl 0 rfl) ?_
  refine gg X Y fl_X10_74 rfl rfl (dk T_X10_restoreSnapshot 1 rfl) ?_
  refine lv_if_ne (tgt := 18) X.1 X.2.1 (dk T_X10_restoreSnapshot 2 rfl) rfl (fun c1 => ?_) (fun c1 => ?_)
  · replace h := ineg c1 h
    refine lv_aload_n X.1 X.2.1 (dk T_X10_restoreSnapshot 8 rfl) rfl (lv_at hl 0 rfl) ?_
    refine gg X Y fl_X10_12 rfl rfl (dk T_X10_restoreSnapshot 9 rfl) ?_
    refine lv_aload_n X.1 X.2.1 (dk T_X10_restoreSnapshot 10 rfl) rfl (lv_at hl 0 rfl) ?_
    refine gg X Y fl_X10_19 rfl rfl (dk T_X10_restoreSnapshot 11 rfl) ?_
    obtain ⟨q2, hq2, h⟩ := bs h
    refine gvVx (rest := []) X Y (c_X8_copyFrom 1 15 rfl rfl σ hq2) cb_X10_318 rfl hl.1 rfl rfl (Nat.le_of_ble_eq_true rfl) ⟨Nat.le_of_ble_eq_true rfl, Nat.le_of_ble_eq_true rfl⟩ ⟨Nat.le_of_ble_eq_true rfl, Nat.le_of_ble_eq_true rfl⟩ (dk T_X10_restoreSnapshot 12 rfl) (fun H locs Y => ?_)
    refine lv_aload_n X.1 X.2.1 (dk T_X10_restoreSnapshot 13 rfl) rfl (lv_at hl 0 rfl) ?_
    refine gg X Y fl_X10_25 rfl rfl (dk T_X10_restoreSnapshot 14 rfl) ?_
    obtain ⟨q3, hq3, h⟩ := bs h
    refine gvVx (rest := []) X Y (c_X2_clear q2 hq3) cb_X10_323 rfl hl.1 rfl rfl (Nat.le_of_ble_eq_true rfl) ⟨Nat.le_of_ble_eq_true rfl, Nat.le_of_ble_eq_true rfl⟩ ⟨Nat.le_of_ble_eq_true rfl, Nat.le_of_ble_eq_true rfl⟩ (dk T_X10_restoreSnapshot 15 rfl) (fun H locs Y => ?_)
    refine lv_aload_n X.1 X.2.1 (dk T_X10_restoreSnapshot 16 rfl) rfl (lv_at hl 0 rfl) ?_
    refine gg X Y fl_X10_12 rfl rfl (dk T_X10_restoreSnapshot 17 rfl) ?_
    refine ggN X Y fl_X10_163 rfl rfl (dk T_X10_restoreSnapshot 18 rfl) ?_
    obtain ⟨q4, hq4, h⟩ := bs h
    refine gvIx (rest := []) X Y (c_X9_size 6 rfl q3 hq4) cb_X10_209 rfl hl.1 rfl rfl (Nat.le_of_ble_eq_true rfl) ⟨Nat.le_of_ble_eq_true rfl, Nat.le_of_ble_eq_true rfl⟩ ⟨Nat.le_of_ble_eq_true rfl, Nat.le_of_ble_eq_true rfl⟩ (dk T_X10_restoreSnapshot 19 rfl) (fun H locs Y => ?_)
    exact KR q4 q3 _ _ _ _ _ _ (Option.some.inj h).symm (Nat.le_of_ble_eq_true rfl) (Nat.le_of_ble_eq_true rfl) Y (dk T_X10_restoreSnapshot 20 rfl)
  · replace h := ipos c1 h
    exact KT "java/lang/IllegalStateException" "there is no snapshot" 103 321 107 _ _ _ _ _ _ _ _ th_103_321_107 (Option.some.inj h).symm Y hl.1 (Nat.le_of_ble_eq_true rfl) ⟨(dk T_X10_restoreSnapshot 3 rfl), (dk T_X10_restoreSnapshot 4 rfl), Or.inr ⟨(dk T_X10_restoreSnapshot 5 rfl), (dk T_X10_restoreSnapshot 6 rfl), (dk T_X10_restoreSnapshot 7 rfl)⟩⟩ (Nat.le_of_ble_eq_true rfl) (Nat.le_of_ble_eq_true rfl)
def f_X10_restoreSnapshot (σ : St) : Option ((String × St) ⊕ (Int32 × St)) := f_X10_restoreSnapshot_0 σ
set_option maxHeartbeats 4000000 in
set_option maxRecDepth 100000 in
theorem c_X10_restoreSnapshot {l : Launch} {g : Geo} (σ : St) {w : (String × St) ⊕ (Int32 × St)} (h : f_X10_restoreSnapshot σ = some w) : CtT l yX10_restoreSnapshot cX10_restoreSnapshot 1 (some .int) 6 90 1 6 g [.ref (g.2.2 (0))] σ w := enT .int (by decide) rfl (fun _ _ _ => rfl) (Nat.le_of_ble_eq_true rfl) ⟨Nat.le_of_ble_eq_true rfl, Nat.le_of_ble_eq_true rfl⟩ (fun p e s m args below meth c Q X TX hst Y ls hl KR KT KO => w_X10_restoreSnapshot_0 X TX hst σ KR KT KO Y hl h)
end
