set_option maxRecDepth 20000 in
theorem kl_RJ13_314 : Cond.constantLong RJ13 314 (6148914691236517205) ∈ wsL_law := ml 415 (by decide +kernel) (by decide +kernel)
set_option maxRecDepth 20000 in
theorem kl_RJ13_316 : Cond.constantLong RJ13 316 (3689348814741910323) ∈ wsL_law := ml 416 (by decide +kernel) (by decide +kernel)
set_option maxRecDepth 20000 in
theorem kl_RJ13_318 : Cond.constantLong RJ13 318 (1085102592571150095) ∈ wsL_law := ml 417 (by decide +kernel) (by decide +kernel)
set_option maxRecDepth 20000 in
theorem cd_yX4_mark_cX4_mark : Cond.code yX4_mark cX4_mark 1 (some .long) ∈ wsL_law := ml 335 rfl (by decide +kernel)
set_option maxRecDepth 20000 in
theorem mk_RX4_175 : Cond.methodLink RX4 175 yX4_mark ∈ wsL_law := ml 428 (by decide +kernel) (by decide +kernel)
set_option maxRecDepth 20000 in
theorem sc_yX4_mark : Cond.static yX4_mark ∈ wsL_law := ml 334 (by decide +kernel) (by decide +kernel)
set_option maxRecDepth 20000 in
theorem ini_RX4 : Cond.initialized RX4 ∈ wsL_law := ml 31 (by decide +kernel) (by decide +kernel)
set_option maxRecDepth 20000 in
theorem gs_RX4_175 : GoodIn wsL_law (wsS RX4 175 yX4_mark (wsU yX4_mark cX4_mark 1 (some .long))) := gwS mk_RX4_175 sc_yX4_mark ini_RX4 cd_yX4_mark_cX4_mark
set_option maxRecDepth 20000 in
theorem cd_yX4_isMarked_cX4_isMarked : Cond.code yX4_isMarked cX4_isMarked 3 (some .boolean) ∈ wsL_law := ml 427 rfl (by decide +kernel)
set_option maxRecDepth 20000 in
theorem mk_RX4_106 : Cond.methodLink RX4 106 yX4_isMarked ∈ wsL_law := ml 425 (by decide +kernel) (by decide +kernel)
set_option maxRecDepth 20000 in
theorem sc_yX4_isMarked : Cond.static yX4_isMarked ∈ wsL_law := ml 426 (by decide +kernel) (by decide +kernel)
set_option maxRecDepth 20000 in
theorem kl_RX4_179 : Cond.constantLong RX4 179 (4294967295) ∈ wsL_law := ml 375 (by decide +kernel) (by decide +kernel)
set_option maxRecDepth 20000 in
theorem cd_yX4_isBelowUnsigned_cX4_isBelowUnsigned : Cond.code yX4_isBelowUnsigned cX4_isBelowUnsigned 2 (some .boolean) ∈ wsL_law := ml 381 rfl (by decide +kernel)
set_option maxRecDepth 20000 in
theorem mk_RX4_181 : Cond.methodLink RX4 181 yX4_isBelowUnsigned ∈ wsL_law := ml 379 (by decide +kernel) (by decide +kernel)
set_option maxRecDepth 20000 in
theorem sc_yX4_isBelowUnsigned : Cond.static yX4_isBelowUnsigned ∈ wsL_law := ml 380 (by decide +kernel) (by decide +kernel)
set_option maxRecDepth 20000 in
theorem gs_RX4_181 : GoodIn wsL_law (wsS RX4 181 yX4_isBelowUnsigned (wsU yX4_isBelowUnsigned cX4_isBelowUnsigned 2 (some .boolean))) := gwS mk_RX4_181 sc_yX4_isBelowUnsigned ini_RX4 cd_yX4_isBelowUnsigned_cX4_isBelowUnsigned
set_option maxRecDepth 20000 in
theorem fl_RX3_34 : Cond.fieldLink RX3 34 "SymbolBench$Program" "inputs" "I" ∈ wsL_law := ml 56 (by decide +kernel) (by decide +kernel)
set_option maxRecDepth 20000 in
theorem fl_RX3_38 : Cond.fieldLink RX3 38 "SymbolBench$Program" "bits" "I" ∈ wsL_law := ml 58 (by decide +kernel) (by decide +kernel)
set_option maxRecDepth 20000 in
theorem fl_RX3_41 : Cond.fieldLink RX3 41 "SymbolBench$Program" "size" "I" ∈ wsL_law := ml 68 (by decide +kernel) (by decide +kernel)
set_option maxRecDepth 20000 in
theorem fl_RX3_44 : Cond.fieldLink RX3 44 "SymbolBench$Program" "multiplications" "I" ∈ wsL_law := ml 71 (by decide +kernel) (by decide +kernel)
set_option maxRecDepth 20000 in
theorem fl_RX3_47 : Cond.fieldLink RX3 47 "SymbolBench$Program" "divisions" "I" ∈ wsL_law := ml 72 (by decide +kernel) (by decide +kernel)
set_option maxRecDepth 20000 in
theorem cd_yX4_isDivision_cX4_isDivision : Cond.code yX4_isDivision cX4_isDivision 1 (some .boolean) ∈ wsL_law := ml 296 rfl (by decide +kernel)
set_option maxRecDepth 20000 in
theorem nl_RX3_58 : Cond.methodLinkNest RX3 58 yX4_isDivision RX4 ∈ nwL := List.mem_of_getElem? (i := 47) (by decide +kernel)
set_option maxRecDepth 20000 in
theorem sc_yX4_isDivision : Cond.static yX4_isDivision ∈ wsL_law := ml 295 (by decide +kernel) (by decide +kernel)
set_option maxRecDepth 20000 in
theorem cd_yX3_takesThreeRegisters_cX3_takesThreeRegisters : Cond.code yX3_takesThreeRegisters cX3_takesThreeRegisters 1 (some .boolean) ∈ wsL_law := ml 289 rfl (by decide +kernel)
set_option maxRecDepth 20000 in
theorem mk_RX3_67 : Cond.methodLink RX3 67 yX3_takesThreeRegisters ∈ wsL_law := ml 287 (by decide +kernel) (by decide +kernel)
set_option maxRecDepth 20000 in
theorem sc_yX3_takesThreeRegisters : Cond.static yX3_takesThreeRegisters ∈ wsL_law := ml 288 (by decide +kernel) (by decide +kernel)
set_option maxRecDepth 20000 in
theorem ini_RX3 : Cond.initialized RX3 ∈ wsL_law := ml 32 (by decide +kernel) (by decide +kernel)
set_option maxRecDepth 20000 in
theorem gs_RX3_67 : GoodIn wsL_law (wsS RX3 67 yX3_takesThreeRegisters (wsU yX3_takesThreeRegisters cX3_takesThreeRegisters 1 (some .boolean))) := gwS mk_RX3_67 sc_yX3_takesThreeRegisters ini_RX3 cd_yX3_takesThreeRegisters_cX3_takesThreeRegisters
set_option maxRecDepth 20000 in
theorem cd_yX4_isRegister_cX4_isRegister : Cond.code yX4_isRegister cX4_isRegister 1 (some .boolean) ∈ wsL_law := ml 282 rfl (by decide +kernel)
set_option maxRecDepth 20000 in
theorem nl_RX3_61 : Cond.methodLinkNest RX3 61 yX4_isRegister RX4 ∈ nwL := List.mem_of_getElem? (i := 46) (by decide +kernel)
set_option maxRecDepth 20000 in
theorem sc_yX4_isRegister : Cond.static yX4_isRegister ∈ wsL_law := ml 281 (by decide +kernel) (by decide +kernel)
set_option maxRecDepth 20000 in
theorem cd_yX3_isTarget_cX3_isTarget : Cond.code yX3_isTarget cX3_isTarget 2 (some .boolean) ∈ wsL_law := ml 286 rfl (by decide +kernel)
set_option maxRecDepth 20000 in
theorem mk_RX3_64 : Cond.methodLink RX3 64 yX3_isTarget ∈ wsL_law := ml 283 (by decide +kernel) (by decide +kernel)
set_option maxRecDepth 20000 in
theorem im_yX3_isTarget : Cond.instanceMethod yX3_isTarget ∈ wsL_law := ml 285 (by decide +kernel) (by decide +kernel)
set_option maxRecDepth 20000 in
theorem se_yX3_isTarget : Cond.selects RX3 yX3_isTarget yX3_isTarget ∈ wsL_law := ml 2 (by decide +kernel) (by decide +kernel)
set_option maxRecDepth 20000 in
theorem gv_RX3_64 : GoodIn wsL_law (wsV RX3 64 RX3 yX3_isTarget (wsU yX3_isTarget cX3_isTarget 2 (some .boolean))) := gwV mk_RX3_64 im_yX3_isTarget se_yX3_isTarget ini_RX3 cd_yX3_isTarget_cX3_isTarget
set_option maxRecDepth 20000 in
theorem fl_RX3_9 : Cond.fieldLink RX3 9 "SymbolBench$Program" "widths" "[I" ∈ wsL_law := ml 53 (by decide +kernel) (by decide +kernel)
set_option maxRecDepth 20000 in
theorem fl_RX3_15 : Cond.fieldLink RX3 15 "SymbolBench$Program" "reaches" "[I" ∈ wsL_law := ml 54 (by decide +kernel) (by decide +kernel)
set_option maxRecDepth 20000 in
theorem fl_RX3_18 : Cond.fieldLink RX3 18 "SymbolBench$Program" "signs" "[Z" ∈ wsL_law := ml 55 (by decide +kernel) (by decide +kernel)
set_option maxRecDepth 20000 in
theorem fl_RX3_22 : Cond.fieldLink RX3 22 "SymbolBench$Program" "numbers" "[I" ∈ wsL_law := ml 60 (by decide +kernel) (by decide +kernel)
set_option maxRecDepth 20000 in
theorem fl_RX3_25 : Cond.fieldLink RX3 25 "SymbolBench$Program" "firsts" "[I" ∈ wsL_law := ml 62 (by decide +kernel) (by decide +kernel)
set_option maxRecDepth 20000 in
theorem fl_RX3_28 : Cond.fieldLink RX3 28 "SymbolBench$Program" "seconds" "[I" ∈ wsL_law := ml 64 (by decide +kernel) (by decide +kernel)
set_option maxRecDepth 20000 in
theorem fl_RX3_31 : Cond.fieldLink RX3 31 "SymbolBench$Program" "thirds" "[I" ∈ wsL_law := ml 66 (by decide +kernel) (by decide +kernel)
set_option maxRecDepth 20000 in
theorem cd_yX3_fits_cX3_fits : Cond.code yX3_fits cX3_fits 5 (some .boolean) ∈ wsL_law := ml 279 rfl (by decide +kernel)
set_option maxRecDepth 20000 in
theorem mk_RX3_50 : Cond.methodLink RX3 50 yX3_fits ∈ wsL_law := ml 276 (by decide +kernel) (by decide +kernel)
set_option maxRecDepth 20000 in
theorem im_yX3_fits : Cond.instanceMethod yX3_fits ∈ wsL_law := ml 278 (by decide +kernel) (by decide +kernel)
set_option maxRecDepth 20000 in
theorem se_yX3_fits : Cond.selects RX3 yX3_fits yX3_fits ∈ wsL_law := ml 1 (by decide +kernel) (by decide +kernel)
set_option maxRecDepth 20000 in
theorem gv_RX3_50 : GoodIn wsL_law (wsV RX3 50 RX3 yX3_fits (wsU yX3_fits cX3_fits 5 (some .boolean))) := gwV mk_RX3_50 im_yX3_fits se_yX3_fits ini_RX3 cd_yX3_fits_cX3_fits
set_option maxRecDepth 20000 in
theorem cd_yX3_wouldBeTooMany_cX3_wouldBeTooMany : Cond.code yX3_wouldBeTooMany cX3_wouldBeTooMany 2 (some .boolean) ∈ wsL_law := ml 293 rfl (by decide +kernel)
set_option maxRecDepth 20000 in
theorem mk_RX3_54 : Cond.methodLink RX3 54 yX3_wouldBeTooMany ∈ wsL_law := ml 290 (by decide +kernel) (by decide +kernel)
set_option maxRecDepth 20000 in
theorem im_yX3_wouldBeTooMany : Cond.instanceMethod yX3_wouldBeTooMany ∈ wsL_law := ml 292 (by decide +kernel) (by decide +kernel)
set_option maxRecDepth 20000 in
theorem se_yX3_wouldBeTooMany : Cond.selects RX3 yX3_wouldBeTooMany yX3_wouldBeTooMany ∈ wsL_law := ml 3 (by decide +kernel) (by decide +kernel)
set_option maxRecDepth 20000 in
theorem gv_RX3_54 : GoodIn wsL_law (wsV RX3 54 RX3 yX3_wouldBeTooMany (wsU yX3_wouldBeTooMany cX3_wouldBeTooMany 2 (some .boolean))) := gwV mk_RX3_54 im_yX3_wouldBeTooMany se_yX3_wouldBeTooMany ini_RX3 cd_yX3_wouldBeTooMany_cX3_wouldBeTooMany
set_option maxRecDepth 20000 in
theorem cd_yX3_words_cX3_words : Cond.code yX3_words cX3_words 1 (some .int) ∈ wsL_law := ml 321 rfl (by decide +kernel)
set_option maxRecDepth 20000 in
theorem mk_RX3_70 : Cond.methodLink RX3 70 yX3_words ∈ wsL_law := ml 437 (by decide +kernel) (by decide +kernel)
set_option maxRecDepth 20000 in
theorem im_yX3_words : Cond.instanceMethod yX3_words ∈ wsL_law := ml 319 (by decide +kernel) (by decide +kernel)
set_option maxRecDepth 20000 in
theorem se_yX3_words : Cond.selects RX3 yX3_words yX3_words ∈ wsL_law := ml 320 (by decide +kernel) (by decide +kernel)
set_option maxRecDepth 20000 in
theorem gv_RX3_70 : GoodIn wsL_law (wsV RX3 70 RX3 yX3_words (wsU yX3_words cX3_words 1 (some .int))) := gwV mk_RX3_70 im_yX3_words se_yX3_words ini_RX3 cd_yX3_words_cX3_words
set_option maxRecDepth 20000 in
theorem fl_RX1_28 : Cond.fieldLink RX1 28 "SymbolBench$Machine" "hasEnded" "Z" ∈ wsL_law := ml 199 (by decide +kernel) (by decide +kernel)
set_option maxRecDepth 20000 in
theorem fl_RX1_75 : Cond.fieldLink RX1 75 "SymbolBench$Machine" "end" "I" ∈ wsL_law := ml 201 (by decide +kernel) (by decide +kernel)
set_option maxRecDepth 20000 in
theorem fl_RX1_78 : Cond.fieldLink RX1 78 "SymbolBench$Machine" "result" "I" ∈ wsL_law := ml 205 (by decide +kernel) (by decide +kernel)
set_option maxRecDepth 20000 in
theorem fl_RX1_60 : Cond.fieldLink RX1 60 "SymbolBench$Machine" "isGuided" "Z" ∈ wsL_law := ml 182 (by decide +kernel) (by decide +kernel)
set_option maxRecDepth 20000 in
theorem fl_RX1_68 : Cond.fieldLink RX1 68 "SymbolBench$Machine" "guidingOnes" "J" ∈ wsL_law := ml 183 (by decide +kernel) (by decide +kernel)
set_option maxRecDepth 20000 in
theorem fl_RX1_39 : Cond.fieldLink RX1 39 "SymbolBench$Machine" "placeMark" "J" ∈ wsL_law := ml 188 (by decide +kernel) (by decide +kernel)
set_option maxRecDepth 20000 in
theorem fl_RX1_71 : Cond.fieldLink RX1 71 "SymbolBench$Machine" "decided" "J" ∈ wsL_law := ml 193 (by decide +kernel) (by decide +kernel)
set_option maxRecDepth 20000 in
theorem fl_RX1_74 : Cond.fieldLink RX1 74 "SymbolBench$Machine" "ones" "J" ∈ wsL_law := ml 196 (by decide +kernel) (by decide +kernel)
set_option maxRecDepth 20000 in
theorem fl_RX1_9 : Cond.fieldLink RX1 9 "SymbolBench$Machine" "registers" "[I" ∈ wsL_law := ml 178 (by decide +kernel) (by decide +kernel)
set_option maxRecDepth 20000 in
theorem fl_RX1_15 : Cond.fieldLink RX1 15 "SymbolBench$Machine" "cells" "[I" ∈ wsL_law := ml 180 (by decide +kernel) (by decide +kernel)
set_option maxRecDepth 20000 in
theorem cd_yX4_isCell_cX4_isCell : Cond.code yX4_isCell cX4_isCell 1 (some .boolean) ∈ wsL_law := ml 350 rfl (by decide +kernel)
set_option maxRecDepth 20000 in
theorem nl_RX1_126 : Cond.methodLinkNest RX1 126 yX4_isCell RX4 ∈ nwL := List.mem_of_getElem? (i := 49) (by decide +kernel)
set_option maxRecDepth 20000 in
theorem sc_yX4_isCell : Cond.static yX4_isCell ∈ wsL_law := ml 349 (by decide +kernel) (by decide +kernel)
set_option maxRecDepth 20000 in
theorem cd_yX1_decide_cX1_decide : Cond.code yX1_decide cX1_decide 3 (some .boolean) ∈ wsL_law := ml 354 rfl (by decide +kernel)
set_option maxRecDepth 20000 in
theorem mk_RX1_100 : Cond.methodLink RX1 100 yX1_decide ∈ wsL_law := ml 351 (by decide +kernel) (by decide +kernel)
set_option maxRecDepth 20000 in
theorem im_yX1_decide : Cond.instanceMethod yX1_decide ∈ wsL_law := ml 353 (by decide +kernel) (by decide +kernel)
set_option maxRecDepth 20000 in
theorem se_yX1_decide : Cond.selects RX1 yX1_decide yX1_decide ∈ wsL_law := ml 7 (by decide +kernel) (by decide +kernel)
set_option maxRecDepth 20000 in
theorem ini_RX1 : Cond.initialized RX1 ∈ wsL_law := ml 35 (by decide +kernel) (by decide +kernel)
set_option maxRecDepth 20000 in
theorem cd_yX1_stop_cX1_stop : Cond.code yX1_stop cX1_stop 3 none ∈ wsL_law := ml 358 rfl (by decide +kernel)
set_option maxRecDepth 20000 in
theorem mk_RX1_50 : Cond.methodLink RX1 50 yX1_stop ∈ wsL_law := ml 355 (by decide +kernel) (by decide +kernel)
set_option maxRecDepth 20000 in
theorem im_yX1_stop : Cond.instanceMethod yX1_stop ∈ wsL_law := ml 357 (by decide +kernel) (by decide +kernel)
set_option maxRecDepth 20000 in
theorem se_yX1_stop : Cond.selects RX1 yX1_stop yX1_stop ∈ wsL_law := ml 8 (by decide +kernel) (by decide +kernel)
set_option maxRecDepth 20000 in
theorem cd_yX4_divide_cX4_divide : Cond.code yX4_divide cX4_divide 8 (some .int) ∈ wsL_law := ml 374 rfl (by decide +kernel)
set_option maxRecDepth 20000 in
theorem nl_RX1_119 : Cond.methodLinkNest RX1 119 yX4_divide RX4 ∈ nwL := List.mem_of_getElem? (i := 51) (by decide +kernel)
set_option maxRecDepth 20000 in
theorem sc_yX4_divide : Cond.static yX4_divide ∈ wsL_law := ml 373 (by decide +kernel) (by decide +kernel)
set_option maxRecDepth 20000 in
theorem nl_RX1_115 : Cond.methodLinkNest RX1 115 yX4_isDivision RX4 ∈ nwL := List.mem_of_getElem? (i := 50) (by decide +kernel)
set_option maxRecDepth 20000 in
theorem cd_yX4_combine_cX4_combine : Cond.code yX4_combine cX4_combine 3 (some .int) ∈ wsL_law := ml 378 rfl (by decide +kernel)
set_option maxRecDepth 20000 in
theorem nl_RX1_123 : Cond.methodLinkNest RX1 123 yX4_combine RX4 ∈ nwL := List.mem_of_getElem? (i := 52) (by decide +kernel)
set_option maxRecDepth 20000 in
theorem sc_yX4_combine : Cond.static yX4_combine ∈ wsL_law := ml 377 (by decide +kernel) (by decide +kernel)
set_option maxRecDepth 20000 in
theorem nl_RX1_81 : Cond.fieldLinkNest RX1 81 RX3 "numbers" "[I" RX4 ∈ nwL := List.mem_of_getElem? (i := 2) (by decide +kernel)
set_option maxRecDepth 20000 in
theorem fl_RX1_32 : Cond.fieldLink RX1 32 "SymbolBench$Machine" "place" "I" ∈ wsL_law := ml 185 (by decide +kernel) (by decide +kernel)
set_option maxRecDepth 20000 in
theorem nl_RX1_84 : Cond.fieldLinkNest RX1 84 RX3 "firsts" "[I" RX4 ∈ nwL := List.mem_of_getElem? (i := 3) (by decide +kernel)
set_option maxRecDepth 20000 in
theorem nl_RX1_87 : Cond.fieldLinkNest RX1 87 RX3 "seconds" "[I" RX4 ∈ nwL := List.mem_of_getElem? (i := 4) (by decide +kernel)
set_option maxRecDepth 20000 in
theorem nl_RX1_108 : Cond.fieldLinkNest RX1 108 RX3 "thirds" "[I" RX4 ∈ nwL := List.mem_of_getElem? (i := 5) (by decide +kernel)
set_option maxRecDepth 20000 in
theorem cd_yX1_calculate_cX1_calculate : Cond.code yX1_calculate cX1_calculate 5 none ∈ wsL_law := ml 370 rfl (by decide +kernel)
set_option maxRecDepth 20000 in
theorem mk_RX1_111 : Cond.methodLink RX1 111 yX1_calculate ∈ wsL_law := ml 367 (by decide +kernel) (by decide +kernel)
set_option maxRecDepth 20000 in
theorem im_yX1_calculate : Cond.instanceMethod yX1_calculate ∈ wsL_law := ml 369 (by decide +kernel) (by decide +kernel)
set_option maxRecDepth 20000 in
theorem se_yX1_calculate : Cond.selects RX1 yX1_calculate yX1_calculate ∈ wsL_law := ml 11 (by decide +kernel) (by decide +kernel)
set_option maxRecDepth 20000 in
theorem gv_RX1_111 : GoodIn wsL_law (wsV RX1 111 RX1 yX1_calculate (wsU yX1_calculate cX1_calculate 5 none)) := gwV mk_RX1_111 im_yX1_calculate se_yX1_calculate ini_RX1 cd_yX1_calculate_cX1_calculate
set_option maxRecDepth 20000 in
theorem gv_RX1_100 : GoodIn wsL_law (wsV RX1 100 RX1 yX1_decide (wsU yX1_decide cX1_decide 3 (some .boolean))) := gwV mk_RX1_100 im_yX1_decide se_yX1_decide ini_RX1 cd_yX1_decide_cX1_decide
set_option maxRecDepth 20000 in
theorem cd_yX3_inputIn_cX3_inputIn : Cond.code yX3_inputIn cX3_inputIn 5 (some .int) ∈ wsL_law := ml 343 rfl (by decide +kernel)
set_option maxRecDepth 20000 in
theorem mk_RX1_90 : Cond.methodLink RX1 90 yX3_inputIn ∈ wsL_law := ml 340 (by decide +kernel) (by decide +kernel)
set_option maxRecDepth 20000 in
theorem im_yX3_inputIn : Cond.instanceMethod yX3_inputIn ∈ wsL_law := ml 341 (by decide +kernel) (by decide +kernel)
set_option maxRecDepth 20000 in
theorem se_yX3_inputIn : Cond.selects RX3 yX3_inputIn yX3_inputIn ∈ wsL_law := ml 342 (by decide +kernel) (by decide +kernel)
set_option maxRecDepth 20000 in
theorem gv_RX1_90 : GoodIn wsL_law (wsV RX1 90 RX3 yX3_inputIn (wsU yX3_inputIn cX3_inputIn 5 (some .int))) := gwV mk_RX1_90 im_yX3_inputIn se_yX3_inputIn ini_RX3 cd_yX3_inputIn_cX3_inputIn
set_option maxRecDepth 20000 in
theorem cd_yX1_load_cX1_load : Cond.code yX1_load cX1_load 3 none ∈ wsL_law := ml 347 rfl (by decide +kernel)
set_option maxRecDepth 20000 in
theorem mk_RX1_94 : Cond.methodLink RX1 94 yX1_load ∈ wsL_law := ml 344 (by decide +kernel) (by decide +kernel)
set_option maxRecDepth 20000 in
theorem im_yX1_load : Cond.instanceMethod yX1_load ∈ wsL_law := ml 346 (by decide +kernel) (by decide +kernel)
set_option maxRecDepth 20000 in
theorem se_yX1_load : Cond.selects RX1 yX1_load yX1_load ∈ wsL_law := ml 6 (by decide +kernel) (by decide +kernel)
set_option maxRecDepth 20000 in
theorem gv_RX1_94 : GoodIn wsL_law (wsV RX1 94 RX1 yX1_load (wsU yX1_load cX1_load 3 none)) := gwV mk_RX1_94 im_yX1_load se_yX1_load ini_RX1 cd_yX1_load_cX1_load
set_option maxRecDepth 20000 in
theorem cd_yX1_store_cX1_store : Cond.code yX1_store cX1_store 3 none ∈ wsL_law := ml 362 rfl (by decide +kernel)
set_option maxRecDepth 20000 in
theorem mk_RX1_97 : Cond.methodLink RX1 97 yX1_store ∈ wsL_law := ml 359 (by decide +kernel) (by decide +kernel)
set_option maxRecDepth 20000 in
theorem im_yX1_store : Cond.instanceMethod yX1_store ∈ wsL_law := ml 361 (by decide +kernel) (by decide +kernel)
set_option maxRecDepth 20000 in
theorem se_yX1_store : Cond.selects RX1 yX1_store yX1_store ∈ wsL_law := ml 9 (by decide +kernel) (by decide +kernel)
set_option maxRecDepth 20000 in
theorem gv_RX1_97 : GoodIn wsL_law (wsV RX1 97 RX1 yX1_store (wsU yX1_store cX1_store 3 none)) := gwV mk_RX1_97 im_yX1_store se_yX1_store ini_RX1 cd_yX1_store_cX1_store
set_option maxRecDepth 20000 in
theorem cd_yX1_stopUnlessTrue_cX1_stopUnlessTrue : Cond.code yX1_stopUnlessTrue cX1_stopUnlessTrue 2 none ∈ wsL_law := ml 366 rfl (by decide +kernel)
set_option maxRecDepth 20000 in
theorem mk_RX1_104 : Cond.methodLink RX1 104 yX1_stopUnlessTrue ∈ wsL_law := ml 363 (by decide +kernel) (by decide +kernel)
set_option maxRecDepth 20000 in
theorem im_yX1_stopUnlessTrue : Cond.instanceMethod yX1_stopUnlessTrue ∈ wsL_law := ml 365 (by decide +kernel) (by decide +kernel)
set_option maxRecDepth 20000 in
theorem se_yX1_stopUnlessTrue : Cond.selects RX1 yX1_stopUnlessTrue yX1_stopUnlessTrue ∈ wsL_law := ml 10 (by decide +kernel) (by decide +kernel)
set_option maxRecDepth 20000 in
theorem gv_RX1_104 : GoodIn wsL_law (wsV RX1 104 RX1 yX1_stopUnlessTrue (wsU yX1_stopUnlessTrue cX1_stopUnlessTrue 2 none)) := gwV mk_RX1_104 im_yX1_stopUnlessTrue se_yX1_stopUnlessTrue ini_RX1 cd_yX1_stopUnlessTrue_cX1_stopUnlessTrue
set_option maxRecDepth 20000 in
theorem fl_RX1_43 : Cond.fieldLink RX1 43 "SymbolBench$Machine" "visited" "J" ∈ wsL_law := ml 189 (by decide +kernel) (by decide +kernel)
set_option maxRecDepth 20000 in
theorem cd_yJ7_fill_53178_cJ7_fill_53178 : Cond.code yJ7_fill_53178 cJ7_fill_53178 4 none ∈ wsL_law := ml 332 rfl (by decide +kernel)
set_option maxRecDepth 20000 in
theorem mk_RX1_54 : Cond.methodLink RX1 54 yJ7_fill_53178 ∈ wsL_law := ml 330 (by decide +kernel) (by decide +kernel)
set_option maxRecDepth 20000 in
theorem sc_yJ7_fill_53178 : Cond.static yJ7_fill_53178 ∈ wsL_law := ml 331 (by decide +kernel) (by decide +kernel)
set_option maxRecDepth 20000 in
theorem ini_RJ7 : Cond.initialized RJ7 ∈ wsL_law := ml 37 (by decide +kernel) (by decide +kernel)
set_option maxRecDepth 20000 in
theorem nl_RX1_63 : Cond.fieldLinkNest RX1 63 RX2 "ones" "J" RX4 ∈ nwL := List.mem_of_getElem? (i := 9) (by decide +kernel)
set_option maxRecDepth 20000 in
theorem gs_RX1_54 : GoodIn wsL_law (va_wsS RX1 54 yJ7_fill_53178 (wsU yJ7_fill_53178 cJ7_fill_53178 4 none)) := gwT mk_RX1_54 sc_yJ7_fill_53178 ini_RJ7 cd_yJ7_fill_53178_cJ7_fill_53178
set_option maxRecDepth 20000 in
theorem nl_RX1_22 : Cond.fieldLinkNest RX1 22 RX3 "size" "I" RX4 ∈ nwL := List.mem_of_getElem? (i := 6) (by decide +kernel)
set_option maxRecDepth 20000 in
theorem nl_RX1_35 : Cond.methodLinkNest RX1 35 yX4_mark RX4 ∈ nwL := List.mem_of_getElem? (i := 48) (by decide +kernel)
set_option maxRecDepth 20000 in
theorem cd_yX1_step_cX1_step : Cond.code yX1_step cX1_step 6 (some .int) ∈ wsL_law := ml 339 rfl (by decide +kernel)
set_option maxRecDepth 20000 in
theorem mk_RX1_46 : Cond.methodLink RX1 46 yX1_step ∈ wsL_law := ml 336 (by decide +kernel) (by decide +kernel)
set_option maxRecDepth 20000 in
theorem im_yX1_step : Cond.instanceMethod yX1_step ∈ wsL_law := ml 338 (by decide +kernel) (by decide +kernel)
set_option maxRecDepth 20000 in
theorem se_yX1_step : Cond.selects RX1 yX1_step yX1_step ∈ wsL_law := ml 5 (by decide +kernel) (by decide +kernel)
set_option maxRecDepth 20000 in
theorem cd_yX1_begin_cX1_begin : Cond.code yX1_begin cX1_begin 2 none ∈ wsL_law := ml 329 rfl (by decide +kernel)
set_option maxRecDepth 20000 in
theorem mk_RX1_18 : Cond.methodLink RX1 18 yX1_begin ∈ wsL_law := ml 326 (by decide +kernel) (by decide +kernel)
set_option maxRecDepth 20000 in
theorem im_yX1_begin : Cond.instanceMethod yX1_begin ∈ wsL_law := ml 328 (by decide +kernel) (by decide +kernel)
set_option maxRecDepth 20000 in
theorem se_yX1_begin : Cond.selects RX1 yX1_begin yX1_begin ∈ wsL_law := ml 4 (by decide +kernel) (by decide +kernel)
set_option maxRecDepth 20000 in
theorem gv_RX1_50 : GoodIn wsL_law (wsV RX1 50 RX1 yX1_stop (wsU yX1_stop cX1_stop 3 none)) := gwV mk_RX1_50 im_yX1_stop se_yX1_stop ini_RX1 cd_yX1_stop_cX1_stop
set_option maxRecDepth 20000 in
theorem gv_RX1_46 : GoodIn wsL_law (wsV RX1 46 RX1 yX1_step (wsU yX1_step cX1_step 6 (some .int))) := gwV mk_RX1_46 im_yX1_step se_yX1_step ini_RX1 cd_yX1_step_cX1_step
set_option maxRecDepth 20000 in
theorem gv_RX1_18 : GoodIn wsL_law (wsV RX1 18 RX1 yX1_begin (wsU yX1_begin cX1_begin 2 none)) := gwV mk_RX1_18 im_yX1_begin se_yX1_begin ini_RX1 cd_yX1_begin_cX1_begin
set_option maxRecDepth 20000 in
theorem nl_RX2_7 : Cond.fieldLinkNest RX2 7 RX1 "decided" "J" RX4 ∈ nwL := List.mem_of_getElem? (i := 32) (by decide +kernel)
set_option maxRecDepth 20000 in
theorem fl_RX2_13 : Cond.fieldLink RX2 13 "SymbolBench$Path" "decided" "J" ∈ wsL_law := ml 113 (by decide +kernel) (by decide +kernel)
set_option maxRecDepth 20000 in
theorem nl_RX2_16 : Cond.fieldLinkNest RX2 16 RX1 "ones" "J" RX4 ∈ nwL := List.mem_of_getElem? (i := 34) (by decide +kernel)
set_option maxRecDepth 20000 in
theorem fl_RX2_19 : Cond.fieldLink RX2 19 "SymbolBench$Path" "ones" "J" ∈ wsL_law := ml 115 (by decide +kernel) (by decide +kernel)
set_option maxRecDepth 20000 in
theorem nl_RX2_20 : Cond.fieldLinkNest RX2 20 RX1 "end" "I" RX4 ∈ nwL := List.mem_of_getElem? (i := 37) (by decide +kernel)
set_option maxRecDepth 20000 in
theorem fl_RX2_24 : Cond.fieldLink RX2 24 "SymbolBench$Path" "end" "I" ∈ wsL_law := ml 119 (by decide +kernel) (by decide +kernel)
set_option maxRecDepth 20000 in
theorem nl_RX2_25 : Cond.fieldLinkNest RX2 25 RX1 "place" "I" RX4 ∈ nwL := List.mem_of_getElem? (i := 27) (by decide +kernel)
set_option maxRecDepth 20000 in
theorem fl_RX2_28 : Cond.fieldLink RX2 28 "SymbolBench$Path" "endPlace" "I" ∈ wsL_law := ml 122 (by decide +kernel) (by decide +kernel)
set_option maxRecDepth 20000 in
theorem fl_RX2_31 : Cond.fieldLink RX2 31 "SymbolBench$Path" "leastWord" "I" ∈ wsL_law := ml 125 (by decide +kernel) (by decide +kernel)
set_option maxRecDepth 20000 in
theorem nl_RX2_34 : Cond.fieldLinkNest RX2 34 RX1 "result" "I" RX4 ∈ nwL := List.mem_of_getElem? (i := 40) (by decide +kernel)
set_option maxRecDepth 20000 in
theorem fl_RX2_37 : Cond.fieldLink RX2 37 "SymbolBench$Path" "result" "I" ∈ wsL_law := ml 128 (by decide +kernel) (by decide +kernel)
set_option maxRecDepth 20000 in
theorem fl_RX2_38 : Cond.fieldLink RX2 38 "SymbolBench$Path" "alwaysSameResult" "Z" ∈ wsL_law := ml 131 (by decide +kernel) (by decide +kernel)
set_option maxRecDepth 20000 in
theorem fl_RX0_26 : Cond.fieldLink RX0 26 "SymbolBench$Atlas" "size" "I" ∈ wsL_law := ml 153 (by decide +kernel) (by decide +kernel)
set_option maxRecDepth 20000 in
theorem fl_RX0_30 : Cond.fieldLink RX0 30 "SymbolBench$Atlas" "visited" "J" ∈ wsL_law := ml 155 (by decide +kernel) (by decide +kernel)
set_option maxRecDepth 20000 in
theorem fl_RX0_34 : Cond.fieldLink RX0 34 "SymbolBench$Atlas" "failed" "J" ∈ wsL_law := ml 157 (by decide +kernel) (by decide +kernel)
set_option maxRecDepth 20000 in
theorem cd_yX0_isKnown_cX0_isKnown : Cond.code yX0_isKnown cX0_isKnown 1 (some .boolean) ∈ wsL_law := ml 312 rfl (by decide +kernel)
set_option maxRecDepth 20000 in
theorem mk_RX0_37 : Cond.methodLink RX0 37 yX0_isKnown ∈ wsL_law := ml 403 (by decide +kernel) (by decide +kernel)
set_option maxRecDepth 20000 in
theorem im_yX0_isKnown : Cond.instanceMethod yX0_isKnown ∈ wsL_law := ml 310 (by decide +kernel) (by decide +kernel)
set_option maxRecDepth 20000 in
theorem se_yX0_isKnown : Cond.selects RX0 yX0_isKnown yX0_isKnown ∈ wsL_law := ml 311 (by decide +kernel) (by decide +kernel)
set_option maxRecDepth 20000 in
theorem ini_RX0 : Cond.initialized RX0 ∈ wsL_law := ml 33 (by decide +kernel) (by decide +kernel)
set_option maxRecDepth 20000 in
theorem gv_RX0_37 : GoodIn wsL_law (wsV RX0 37 RX0 yX0_isKnown (wsU yX0_isKnown cX0_isKnown 1 (some .boolean))) := gwV mk_RX0_37 im_yX0_isKnown se_yX0_isKnown ini_RX0 cd_yX0_isKnown_cX0_isKnown
set_option maxRecDepth 20000 in
theorem nl_RX0_106 : Cond.methodLinkNest RX0 106 yX4_isBelowUnsigned RX4 ∈ nwL := List.mem_of_getElem? (i := 54) (by decide +kernel)
set_option maxRecDepth 20000 in
theorem fl_RX0_11 : Cond.fieldLink RX0 11 "SymbolBench$Atlas" "paths" "[LSymbolBench$Path;" ∈ wsL_law := ml 150 (by decide +kernel) (by decide +kernel)
set_option maxRecDepth 20000 in
theorem nl_RX0_67 : Cond.fieldLinkNest RX0 67 RX2 "ones" "J" RX4 ∈ nwL := List.mem_of_getElem? (i := 10) (by decide +kernel)
set_option maxRecDepth 20000 in
theorem cd_yX0_firstNotAheadOf_cX0_firstNotAheadOf : Cond.code yX0_firstNotAheadOf cX0_firstNotAheadOf 4 (some .int) ∈ wsL_law := ml 389 rfl (by decide +kernel)
set_option maxRecDepth 20000 in
theorem mk_RX0_63 : Cond.methodLink RX0 63 yX0_firstNotAheadOf ∈ wsL_law := ml 386 (by decide +kernel) (by decide +kernel)
set_option maxRecDepth 20000 in
theorem im_yX0_firstNotAheadOf : Cond.instanceMethod yX0_firstNotAheadOf ∈ wsL_law := ml 388 (by decide +kernel) (by decide +kernel)
set_option maxRecDepth 20000 in
theorem se_yX0_firstNotAheadOf : Cond.selects RX0 yX0_firstNotAheadOf yX0_firstNotAheadOf ∈ wsL_law := ml 13 (by decide +kernel) (by decide +kernel)
set_option maxRecDepth 20000 in
theorem fl_RX0_17 : Cond.fieldLink RX0 17 "SymbolBench$Atlas" "onesOfWord" "[J" ∈ wsL_law := ml 151 (by decide +kernel) (by decide +kernel)
set_option maxRecDepth 20000 in
theorem nl_RX0_95 : Cond.fieldLinkNest RX0 95 RX2 "leastWord" "I" RX4 ∈ nwL := List.mem_of_getElem? (i := 17) (by decide +kernel)
set_option maxRecDepth 20000 in
theorem fl_RX0_21 : Cond.fieldLink RX0 21 "SymbolBench$Atlas" "resultOfWord" "[I" ∈ wsL_law := ml 152 (by decide +kernel) (by decide +kernel)
set_option maxRecDepth 20000 in
theorem cd_yX0_goes_cX0_goes : Cond.code yX0_goes cX0_goes 3 (some .boolean) ∈ wsL_law := ml 441 rfl (by decide +kernel)
set_option maxRecDepth 20000 in
theorem mk_RX0_98 : Cond.methodLink RX0 98 yX0_goes ∈ wsL_law := ml 456 (by decide +kernel) (by decide +kernel)
set_option maxRecDepth 20000 in
theorem im_yX0_goes : Cond.instanceMethod yX0_goes ∈ wsL_law := ml 439 (by decide +kernel) (by decide +kernel)
set_option maxRecDepth 20000 in
theorem se_yX0_goes : Cond.selects RX0 yX0_goes yX0_goes ∈ wsL_law := ml 440 (by decide +kernel) (by decide +kernel)
set_option maxRecDepth 20000 in
theorem gv_RX0_98 : GoodIn wsL_law (wsV RX0 98 RX0 yX0_goes (wsU yX0_goes cX0_goes 3 (some .boolean))) := gwV mk_RX0_98 im_yX0_goes se_yX0_goes ini_RX0 cd_yX0_goes_cX0_goes
set_option maxRecDepth 20000 in
theorem cd_yX0_isWanted_cX0_isWanted : Cond.code yX0_isWanted cX0_isWanted 3 (some .boolean) ∈ wsL_law := ml 459 rfl (by decide +kernel)
set_option maxRecDepth 20000 in
theorem mk_RX0_102 : Cond.methodLink RX0 102 yX0_isWanted ∈ wsL_law := ml 457 (by decide +kernel) (by decide +kernel)
set_option maxRecDepth 20000 in
theorem sc_yX0_isWanted : Cond.static yX0_isWanted ∈ wsL_law := ml 458 (by decide +kernel) (by decide +kernel)
set_option maxRecDepth 20000 in
theorem gs_RX0_102 : GoodIn wsL_law (wsS RX0 102 yX0_isWanted (wsU yX0_isWanted cX0_isWanted 3 (some .boolean))) := gwS mk_RX0_102 sc_yX0_isWanted ini_RX0 cd_yX0_isWanted_cX0_isWanted
set_option maxRecDepth 20000 in
theorem nl_RX0_114 : Cond.fieldLinkNest RX0 114 RX2 "end" "I" RX4 ∈ nwL := List.mem_of_getElem? (i := 13) (by decide +kernel)
set_option maxRecDepth 20000 in
theorem nl_RX0_115 : Cond.fieldLinkNest RX0 115 RX2 "endPlace" "I" RX4 ∈ nwL := List.mem_of_getElem? (i := 15) (by decide +kernel)
set_option maxRecDepth 20000 in
theorem cd_yX4_placeOfMark_cX4_placeOfMark : Cond.code yX4_placeOfMark cX4_placeOfMark 5 (some .int) ∈ wsL_law := ml 424 rfl (by decide +kernel)
set_option maxRecDepth 20000 in
theorem nl_RX0_110 : Cond.methodLinkNest RX0 110 yX4_placeOfMark RX4 ∈ nwL := List.mem_of_getElem? (i := 55) (by decide +kernel)
set_option maxRecDepth 20000 in
theorem sc_yX4_placeOfMark : Cond.static yX4_placeOfMark ∈ wsL_law := ml 423 (by decide +kernel) (by decide +kernel)
set_option maxRecDepth 20000 in
theorem nl_RX0_60 : Cond.fieldLinkNest RX0 60 RX1 "ones" "J" RX4 ∈ nwL := List.mem_of_getElem? (i := 35) (by decide +kernel)
set_option maxRecDepth 20000 in
theorem nl_RX0_68 : Cond.fieldLinkNest RX0 68 RX2 "alwaysSameResult" "Z" RX4 ∈ nwL := List.mem_of_getElem? (i := 21) (by decide +kernel)
set_option maxRecDepth 20000 in
theorem nl_RX0_72 : Cond.fieldLinkNest RX0 72 RX2 "result" "I" RX4 ∈ nwL := List.mem_of_getElem? (i := 19) (by decide +kernel)
set_option maxRecDepth 20000 in
theorem nl_RX0_75 : Cond.fieldLinkNest RX0 75 RX1 "result" "I" RX4 ∈ nwL := List.mem_of_getElem? (i := 41) (by decide +kernel)
set_option maxRecDepth 20000 in
theorem nl_RX0_84 : Cond.fieldLinkNest RX0 84 RX1 "visited" "J" RX4 ∈ nwL := List.mem_of_getElem? (i := 30) (by decide +kernel)
set_option maxRecDepth 20000 in
theorem nl_RX0_85 : Cond.fieldLinkNest RX0 85 RX1 "end" "I" RX4 ∈ nwL := List.mem_of_getElem? (i := 38) (by decide +kernel)
set_option maxRecDepth 20000 in
theorem nl_RX0_88 : Cond.fieldLinkNest RX0 88 RX1 "place" "I" RX4 ∈ nwL := List.mem_of_getElem? (i := 28) (by decide +kernel)
set_option maxRecDepth 20000 in
theorem cd_yX0_insertAt_cX0_insertAt : Cond.code yX0_insertAt cX0_insertAt 4 (some (.object "SymbolBench$Path")) ∈ wsL_law := ml 393 rfl (by decide +kernel)
set_option maxRecDepth 20000 in
theorem mk_RX0_76 : Cond.methodLink RX0 76 yX0_insertAt ∈ wsL_law := ml 390 (by decide +kernel) (by decide +kernel)
set_option maxRecDepth 20000 in
theorem im_yX0_insertAt : Cond.instanceMethod yX0_insertAt ∈ wsL_law := ml 392 (by decide +kernel) (by decide +kernel)
set_option maxRecDepth 20000 in
theorem se_yX0_insertAt : Cond.selects RX0 yX0_insertAt yX0_insertAt ∈ wsL_law := ml 14 (by decide +kernel) (by decide +kernel)
set_option maxRecDepth 20000 in
theorem gv_RX0_76 : GoodIn wsL_law (wsV RX0 76 RX0 yX0_insertAt (wsU yX0_insertAt cX0_insertAt 4 (some (.object "SymbolBench$Path")))) := gwV mk_RX0_76 im_yX0_insertAt se_yX0_insertAt ini_RX0 cd_yX0_insertAt_cX0_insertAt
set_option maxRecDepth 20000 in
theorem cd_yX2_take_cX2_take : Cond.code yX2_take cX2_take 3 none ∈ wsL_law := ml 397 rfl (by decide +kernel)
set_option maxRecDepth 20000 in
theorem mk_RX0_80 : Cond.methodLink RX0 80 yX2_take ∈ wsL_law := ml 394 (by decide +kernel) (by decide +kernel)
set_option maxRecDepth 20000 in
theorem im_yX2_take : Cond.instanceMethod yX2_take ∈ wsL_law := ml 395 (by decide +kernel) (by decide +kernel)
set_option maxRecDepth 20000 in
theorem se_yX2_take : Cond.selects RX2 yX2_take yX2_take ∈ wsL_law := ml 396 (by decide +kernel) (by decide +kernel)
set_option maxRecDepth 20000 in
theorem ini_RX2 : Cond.initialized RX2 ∈ wsL_law := ml 34 (by decide +kernel) (by decide +kernel)
set_option maxRecDepth 20000 in
theorem gv_RX0_80 : GoodIn wsL_law (wsV RX0 80 RX2 yX2_take (wsU yX2_take cX2_take 3 none)) := gwV mk_RX0_80 im_yX2_take se_yX2_take ini_RX2 cd_yX2_take_cX2_take
set_option maxRecDepth 20000 in
theorem nl_RX0_91 : Cond.methodLinkNest RX0 91 yX4_mark RX4 ∈ nwL := List.mem_of_getElem? (i := 53) (by decide +kernel)
set_option maxRecDepth 20000 in
theorem gv_RX0_63 : GoodIn wsL_law (wsV RX0 63 RX0 yX0_firstNotAheadOf (wsU yX0_firstNotAheadOf cX0_firstNotAheadOf 4 (some .int))) := gwV mk_RX0_63 im_yX0_firstNotAheadOf se_yX0_firstNotAheadOf ini_RX0 cd_yX0_firstNotAheadOf_cX0_firstNotAheadOf
set_option maxRecDepth 20000 in
theorem cd_yX0_forget_cX0_forget : Cond.code yX0_forget cX0_forget 1 none ∈ wsL_law := ml 267 rfl (by decide +kernel)
set_option maxRecDepth 20000 in
theorem mk_RX0_41 : Cond.methodLink RX0 41 yX0_forget ∈ wsL_law := ml 317 (by decide +kernel) (by decide +kernel)
set_option maxRecDepth 20000 in
theorem im_yX0_forget : Cond.instanceMethod yX0_forget ∈ wsL_law := ml 265 (by decide +kernel) (by decide +kernel)
set_option maxRecDepth 20000 in
theorem se_yX0_forget : Cond.selects RX0 yX0_forget yX0_forget ∈ wsL_law := ml 266 (by decide +kernel) (by decide +kernel)
set_option maxRecDepth 20000 in
theorem cd_yX1_execute_cX1_execute : Cond.code yX1_execute cX1_execute 6 none ∈ wsL_law := ml 325 rfl (by decide +kernel)
set_option maxRecDepth 20000 in
theorem mk_RX0_50 : Cond.methodLink RX0 50 yX1_execute ∈ wsL_law := ml 322 (by decide +kernel) (by decide +kernel)
set_option maxRecDepth 20000 in
theorem im_yX1_execute : Cond.instanceMethod yX1_execute ∈ wsL_law := ml 323 (by decide +kernel) (by decide +kernel)
set_option maxRecDepth 20000 in
theorem se_yX1_execute : Cond.selects RX1 yX1_execute yX1_execute ∈ wsL_law := ml 324 (by decide +kernel) (by decide +kernel)
set_option maxRecDepth 20000 in
theorem gv_RX0_50 : GoodIn wsL_law (wsV RX0 50 RX1 yX1_execute (wsU yX1_execute cX1_execute 6 none)) := gwV mk_RX0_50 im_yX1_execute se_yX1_execute ini_RX1 cd_yX1_execute_cX1_execute
set_option maxRecDepth 20000 in
theorem cd_yX0_enter_cX0_enter : Cond.code yX0_enter cX0_enter 4 (some .boolean) ∈ wsL_law := ml 385 rfl (by decide +kernel)
set_option maxRecDepth 20000 in
theorem mk_RX0_56 : Cond.methodLink RX0 56 yX0_enter ∈ wsL_law := ml 382 (by decide +kernel) (by decide +kernel)
set_option maxRecDepth 20000 in
theorem im_yX0_enter : Cond.instanceMethod yX0_enter ∈ wsL_law := ml 384 (by decide +kernel) (by decide +kernel)
set_option maxRecDepth 20000 in
theorem se_yX0_enter : Cond.selects RX0 yX0_enter yX0_enter ∈ wsL_law := ml 12 (by decide +kernel) (by decide +kernel)
set_option maxRecDepth 20000 in
theorem gv_RX0_56 : GoodIn wsL_law (wsV RX0 56 RX0 yX0_enter (wsU yX0_enter cX0_enter 4 (some .boolean))) := gwV mk_RX0_56 im_yX0_enter se_yX0_enter ini_RX0 cd_yX0_enter_cX0_enter
set_option maxRecDepth 20000 in
theorem gv_RX0_41 : GoodIn wsL_law (wsV RX0 41 RX0 yX0_forget (wsU yX0_forget cX0_forget 1 none)) := gwV mk_RX0_41 im_yX0_forget se_yX0_forget ini_RX0 cd_yX0_forget_cX0_forget
set_option maxRecDepth 20000 in
theorem mk_RX0_44 : Cond.methodLink RX0 44 yX3_words ∈ wsL_law := ml 318 (by decide +kernel) (by decide +kernel)
set_option maxRecDepth 20000 in
theorem gv_RX0_44 : GoodIn wsL_law (wsV RX0 44 RX3 yX3_words (wsU yX3_words cX3_words 1 (some .int))) := gwV mk_RX0_44 im_yX3_words se_yX3_words ini_RX3 cd_yX3_words_cX3_words
set_option maxRecDepth 20000 in
theorem fl_RX4_19 : Cond.fieldLink RX4 19 "SymbolBench" "atlas" "LSymbolBench$Atlas;" ∈ wsL_law := ml 234 (by decide +kernel) (by decide +kernel)
set_option maxRecDepth 20000 in
theorem fl_RX4_131 : Cond.fieldLink RX4 131 "SymbolBench" "changedSinceRun" "Z" ∈ wsL_law := ml 238 (by decide +kernel) (by decide +kernel)
set_option maxRecDepth 20000 in
theorem mk_RX4_172 : Cond.methodLink RX4 172 yX0_forget ∈ wsL_law := ml 264 (by decide +kernel) (by decide +kernel)
set_option maxRecDepth 20000 in
theorem gv_RX4_172 : GoodIn wsL_law (wsV RX4 172 RX0 yX0_forget (wsU yX0_forget cX0_forget 1 none)) := gwV mk_RX4_172 im_yX0_forget se_yX0_forget ini_RX0 cd_yX0_forget_cX0_forget
set_option maxRecDepth 20000 in
theorem fl_RX4_12 : Cond.fieldLink RX4 12 "SymbolBench" "program" "LSymbolBench$Program;" ∈ wsL_law := ml 233 (by decide +kernel) (by decide +kernel)
set_option maxRecDepth 20000 in
theorem cd_yX3_addInput_cX3_addInput : Cond.code yX3_addInput cX3_addInput 3 (some .int) ∈ wsL_law := ml 259 rfl (by decide +kernel)
set_option maxRecDepth 20000 in
theorem mk_RX4_33 : Cond.methodLink RX4 33 yX3_addInput ∈ wsL_law := ml 256 (by decide +kernel) (by decide +kernel)
set_option maxRecDepth 20000 in
theorem im_yX3_addInput : Cond.instanceMethod yX3_addInput ∈ wsL_law := ml 257 (by decide +kernel) (by decide +kernel)
set_option maxRecDepth 20000 in
theorem se_yX3_addInput : Cond.selects RX3 yX3_addInput yX3_addInput ∈ wsL_law := ml 258 (by decide +kernel) (by decide +kernel)
set_option maxRecDepth 20000 in
theorem gv_RX4_33 : GoodIn wsL_law (wsV RX4 33 RX3 yX3_addInput (wsU yX3_addInput cX3_addInput 3 (some .int))) := gwV mk_RX4_33 im_yX3_addInput se_yX3_addInput ini_RX3 cd_yX3_addInput_cX3_addInput
set_option maxRecDepth 20000 in
theorem cd_yX4_forgetFindings_cX4_forgetFindings : Cond.code yX4_forgetFindings cX4_forgetFindings 1 none ∈ wsL_law := ml 263 rfl (by decide +kernel)
set_option maxRecDepth 20000 in
theorem mk_RX4_37 : Cond.methodLink RX4 37 yX4_forgetFindings ∈ wsL_law := ml 260 (by decide +kernel) (by decide +kernel)
set_option maxRecDepth 20000 in
theorem im_yX4_forgetFindings : Cond.instanceMethod yX4_forgetFindings ∈ wsL_law := ml 262 (by decide +kernel) (by decide +kernel)
set_option maxRecDepth 20000 in
theorem se_yX4_forgetFindings : Cond.selects RX4 yX4_forgetFindings yX4_forgetFindings ∈ wsL_law := ml 0 (by decide +kernel) (by decide +kernel)
set_option maxRecDepth 20000 in
theorem cd_yX3_addInstruction_cX3_addInstruction : Cond.code yX3_addInstruction cX3_addInstruction 5 (some .int) ∈ wsL_law := ml 275 rfl (by decide +kernel)
set_option maxRecDepth 20000 in
theorem mk_RX4_40 : Cond.methodLink RX4 40 yX3_addInstruction ∈ wsL_law := ml 272 (by decide +kernel) (by decide +kernel)
set_option maxRecDepth 20000 in
theorem im_yX3_addInstruction : Cond.instanceMethod yX3_addInstruction ∈ wsL_law := ml 273 (by decide +kernel) (by decide +kernel)
set_option maxRecDepth 20000 in
theorem se_yX3_addInstruction : Cond.selects RX3 yX3_addInstruction yX3_addInstruction ∈ wsL_law := ml 274 (by decide +kernel) (by decide +kernel)
set_option maxRecDepth 20000 in
theorem gv_RX4_40 : GoodIn wsL_law (wsV RX4 40 RX3 yX3_addInstruction (wsU yX3_addInstruction cX3_addInstruction 5 (some .int))) := gwV mk_RX4_40 im_yX3_addInstruction se_yX3_addInstruction ini_RX3 cd_yX3_addInstruction_cX3_addInstruction
set_option maxRecDepth 20000 in
theorem nl_RX4_44 : Cond.fieldLinkNest RX4 44 RX3 "size" "I" RX4 ∈ nwL := List.mem_of_getElem? (i := 7) (by decide +kernel)
set_option maxRecDepth 20000 in
theorem fl_RX4_51 : Cond.fieldLink RX4 51 "SymbolBench" "hasRun" "Z" ∈ wsL_law := ml 237 (by decide +kernel) (by decide +kernel)
set_option maxRecDepth 20000 in
theorem cd_yX3_empty_cX3_empty : Cond.code yX3_empty cX3_empty 1 none ∈ wsL_law := ml 304 rfl (by decide +kernel)
set_option maxRecDepth 20000 in
theorem mk_RX4_48 : Cond.methodLink RX4 48 yX3_empty ∈ wsL_law := ml 301 (by decide +kernel) (by decide +kernel)
set_option maxRecDepth 20000 in
theorem im_yX3_empty : Cond.instanceMethod yX3_empty ∈ wsL_law := ml 302 (by decide +kernel) (by decide +kernel)
set_option maxRecDepth 20000 in
theorem se_yX3_empty : Cond.selects RX3 yX3_empty yX3_empty ∈ wsL_law := ml 303 (by decide +kernel) (by decide +kernel)
set_option maxRecDepth 20000 in
theorem gv_RX4_48 : GoodIn wsL_law (wsV RX4 48 RX3 yX3_empty (wsU yX3_empty cX3_empty 1 none)) := gwV mk_RX4_48 im_yX3_empty se_yX3_empty ini_RX3 cd_yX3_empty_cX3_empty
set_option maxRecDepth 20000 in
theorem gv_RX4_37 : GoodIn wsL_law (wsV RX4 37 RX4 yX4_forgetFindings (wsU yX4_forgetFindings cX4_forgetFindings 1 none)) := gwV mk_RX4_37 im_yX4_forgetFindings se_yX4_forgetFindings ini_RX4 cd_yX4_forgetFindings_cX4_forgetFindings
set_option maxRecDepth 20000 in
theorem fl_RX4_26 : Cond.fieldLink RX4 26 "SymbolBench" "prober" "LSymbolBench$Machine;" ∈ wsL_law := ml 235 (by decide +kernel) (by decide +kernel)
set_option maxRecDepth 20000 in
theorem nl_RX4_63 : Cond.fieldLinkNest RX4 63 RX0 "size" "I" RX4 ∈ nwL := List.mem_of_getElem? (i := 22) (by decide +kernel)
set_option maxRecDepth 20000 in
theorem cd_yX0_knownOrNone_cX0_knownOrNone : Cond.code yX0_knownOrNone cX0_knownOrNone 2 (some .int) ∈ wsL_law := ml 402 rfl (by decide +kernel)
set_option maxRecDepth 20000 in
theorem mk_RX4_64 : Cond.methodLink RX4 64 yX0_knownOrNone ∈ wsL_law := ml 399 (by decide +kernel) (by decide +kernel)
set_option maxRecDepth 20000 in
theorem im_yX0_knownOrNone : Cond.instanceMethod yX0_knownOrNone ∈ wsL_law := ml 400 (by decide +kernel) (by decide +kernel)
set_option maxRecDepth 20000 in
theorem se_yX0_knownOrNone : Cond.selects RX0 yX0_knownOrNone yX0_knownOrNone ∈ wsL_law := ml 401 (by decide +kernel) (by decide +kernel)
set_option maxRecDepth 20000 in
theorem mk_RX4_55 : Cond.methodLink RX4 55 yX0_isKnown ∈ wsL_law := ml 309 (by decide +kernel) (by decide +kernel)
set_option maxRecDepth 20000 in
theorem cd_yX0_survey_cX0_survey : Cond.code yX0_survey cX0_survey 5 none ∈ wsL_law := ml 316 rfl (by decide +kernel)
set_option maxRecDepth 20000 in
theorem mk_RX4_59 : Cond.methodLink RX4 59 yX0_survey ∈ wsL_law := ml 313 (by decide +kernel) (by decide +kernel)
set_option maxRecDepth 20000 in
theorem im_yX0_survey : Cond.instanceMethod yX0_survey ∈ wsL_law := ml 314 (by decide +kernel) (by decide +kernel)
set_option maxRecDepth 20000 in
theorem se_yX0_survey : Cond.selects RX0 yX0_survey yX0_survey ∈ wsL_law := ml 315 (by decide +kernel) (by decide +kernel)
set_option maxRecDepth 20000 in
theorem gv_RX4_59 : GoodIn wsL_law (wsV RX4 59 RX0 yX0_survey (wsU yX0_survey cX0_survey 5 none)) := gwV mk_RX4_59 im_yX0_survey se_yX0_survey ini_RX0 cd_yX0_survey_cX0_survey
set_option maxRecDepth 20000 in
theorem nl_RX4_72 : Cond.fieldLinkNest RX4 72 RX2 "end" "I" RX4 ∈ nwL := List.mem_of_getElem? (i := 12) (by decide +kernel)
set_option maxRecDepth 20000 in
theorem nl_RX4_77 : Cond.fieldLinkNest RX4 77 RX2 "endPlace" "I" RX4 ∈ nwL := List.mem_of_getElem? (i := 14) (by decide +kernel)
set_option maxRecDepth 20000 in
theorem nl_RX4_80 : Cond.fieldLinkNest RX4 80 RX2 "decided" "J" RX4 ∈ nwL := List.mem_of_getElem? (i := 8) (by decide +kernel)
set_option maxRecDepth 20000 in
theorem nl_RX4_90 : Cond.fieldLinkNest RX4 90 RX2 "leastWord" "I" RX4 ∈ nwL := List.mem_of_getElem? (i := 16) (by decide +kernel)
set_option maxRecDepth 20000 in
theorem nl_RX4_93 : Cond.fieldLinkNest RX4 93 RX2 "result" "I" RX4 ∈ nwL := List.mem_of_getElem? (i := 18) (by decide +kernel)
set_option maxRecDepth 20000 in
theorem nl_RX4_96 : Cond.fieldLinkNest RX4 96 RX2 "alwaysSameResult" "Z" RX4 ∈ nwL := List.mem_of_getElem? (i := 20) (by decide +kernel)
set_option maxRecDepth 20000 in
theorem cd_yX0_pathAt_cX0_pathAt : Cond.code yX0_pathAt cX0_pathAt 2 (some (.object "SymbolBench$Path")) ∈ wsL_law := ml 411 rfl (by decide +kernel)
set_option maxRecDepth 20000 in
theorem mk_RX4_68 : Cond.methodLink RX4 68 yX0_pathAt ∈ wsL_law := ml 408 (by decide +kernel) (by decide +kernel)
set_option maxRecDepth 20000 in
theorem im_yX0_pathAt : Cond.instanceMethod yX0_pathAt ∈ wsL_law := ml 409 (by decide +kernel) (by decide +kernel)
set_option maxRecDepth 20000 in
theorem se_yX0_pathAt : Cond.selects RX0 yX0_pathAt yX0_pathAt ∈ wsL_law := ml 410 (by decide +kernel) (by decide +kernel)
set_option maxRecDepth 20000 in
theorem cd_yJ13_bitCount_95d88_cJ13_bitCount_95d88 : Cond.code yJ13_bitCount_95d88 cJ13_bitCount_95d88 2 (some .int) ∈ wsL_law := ml 414 rfl (by decide +kernel)
set_option maxRecDepth 20000 in
theorem mk_RX4_84 : Cond.methodLink RX4 84 yJ13_bitCount_95d88 ∈ wsL_law := ml 412 (by decide +kernel) (by decide +kernel)
set_option maxRecDepth 20000 in
theorem sc_yJ13_bitCount_95d88 : Cond.static yJ13_bitCount_95d88 ∈ wsL_law := ml 413 (by decide +kernel) (by decide +kernel)
set_option maxRecDepth 20000 in
theorem ini_RJ13 : Cond.initialized RJ13 ∈ wsL_law := ml 38 (by decide +kernel) (by decide +kernel)
set_option maxRecDepth 20000 in
theorem nl_RX4_103 : Cond.fieldLinkNest RX4 103 RX2 "ones" "J" RX4 ∈ nwL := List.mem_of_getElem? (i := 11) (by decide +kernel)
set_option maxRecDepth 20000 in
theorem mk_RX4_99 : Cond.methodLink RX4 99 yX4_placeOfMark ∈ wsL_law := ml 422 (by decide +kernel) (by decide +kernel)
set_option maxRecDepth 20000 in
theorem gs_RX4_99 : GoodIn wsL_law (wsS RX4 99 yX4_placeOfMark (wsU yX4_placeOfMark cX4_placeOfMark 5 (some .int))) := gwS mk_RX4_99 sc_yX4_placeOfMark ini_RX4 cd_yX4_placeOfMark_cX4_placeOfMark
set_option maxRecDepth 20000 in
theorem cd_yX3_hasWord_cX3_hasWord : Cond.code yX3_hasWord cX3_hasWord 2 (some .boolean) ∈ wsL_law := ml 436 rfl (by decide +kernel)
set_option maxRecDepth 20000 in
theorem mk_RX4_110 : Cond.methodLink RX4 110 yX3_hasWord ∈ wsL_law := ml 433 (by decide +kernel) (by decide +kernel)
set_option maxRecDepth 20000 in
theorem im_yX3_hasWord : Cond.instanceMethod yX3_hasWord ∈ wsL_law := ml 434 (by decide +kernel) (by decide +kernel)
set_option maxRecDepth 20000 in
theorem se_yX3_hasWord : Cond.selects RX3 yX3_hasWord yX3_hasWord ∈ wsL_law := ml 435 (by decide +kernel) (by decide +kernel)
set_option maxRecDepth 20000 in
theorem mk_RX4_114 : Cond.methodLink RX4 114 yX0_goes ∈ wsL_law := ml 438 (by decide +kernel) (by decide +kernel)
set_option maxRecDepth 20000 in
theorem gv_RX4_114 : GoodIn wsL_law (wsV RX4 114 RX0 yX0_goes (wsU yX0_goes cX0_goes 3 (some .boolean))) := gwV mk_RX4_114 im_yX0_goes se_yX0_goes ini_RX0 cd_yX0_goes_cX0_goes
set_option maxRecDepth 20000 in
theorem nl_RX4_122 : Cond.fieldLinkNest RX4 122 RX1 "result" "I" RX4 ∈ nwL := List.mem_of_getElem? (i := 42) (by decide +kernel)
set_option maxRecDepth 20000 in
theorem mk_RX4_118 : Cond.methodLink RX4 118 yX1_execute ∈ wsL_law := ml 446 (by decide +kernel) (by decide +kernel)
set_option maxRecDepth 20000 in
theorem gv_RX4_68 : GoodIn wsL_law (wsV RX4 68 RX0 yX0_pathAt (wsU yX0_pathAt cX0_pathAt 2 (some (.object "SymbolBench$Path")))) := gwV mk_RX4_68 im_yX0_pathAt se_yX0_pathAt ini_RX0 cd_yX0_pathAt_cX0_pathAt
set_option maxRecDepth 20000 in
theorem mk_RX4_123 : Cond.methodLink RX4 123 yX3_words ∈ wsL_law := ml 451 (by decide +kernel) (by decide +kernel)
set_option maxRecDepth 20000 in
theorem gv_RX4_123 : GoodIn wsL_law (wsV RX4 123 RX3 yX3_words (wsU yX3_words cX3_words 1 (some .int))) := gwV mk_RX4_123 im_yX3_words se_yX3_words ini_RX3 cd_yX3_words_cX3_words
set_option maxRecDepth 20000 in
theorem cd_yX0_leastWordWith_cX0_leastWordWith : Cond.code yX0_leastWordWith cX0_leastWordWith 6 (some .int) ∈ wsL_law := ml 455 rfl (by decide +kernel)
set_option maxRecDepth 20000 in
theorem mk_RX4_127 : Cond.methodLink RX4 127 yX0_leastWordWith ∈ wsL_law := ml 452 (by decide +kernel) (by decide +kernel)
set_option maxRecDepth 20000 in
theorem im_yX0_leastWordWith : Cond.instanceMethod yX0_leastWordWith ∈ wsL_law := ml 453 (by decide +kernel) (by decide +kernel)
set_option maxRecDepth 20000 in
theorem se_yX0_leastWordWith : Cond.selects RX0 yX0_leastWordWith yX0_leastWordWith ∈ wsL_law := ml 454 (by decide +kernel) (by decide +kernel)
set_option maxRecDepth 20000 in
theorem gv_RX4_127 : GoodIn wsL_law (wsV RX4 127 RX0 yX0_leastWordWith (wsU yX0_leastWordWith cX0_leastWordWith 6 (some .int))) := gwV mk_RX4_127 im_yX0_leastWordWith se_yX0_leastWordWith ini_RX0 cd_yX0_leastWordWith_cX0_leastWordWith
set_option maxRecDepth 20000 in
theorem fl_RX4_30 : Cond.fieldLink RX4 30 "SymbolBench" "runner" "LSymbolBench$Machine;" ∈ wsL_law := ml 236 (by decide +kernel) (by decide +kernel)
set_option maxRecDepth 20000 in
theorem nl_RX4_134 : Cond.fieldLinkNest RX4 134 RX1 "end" "I" RX4 ∈ nwL := List.mem_of_getElem? (i := 39) (by decide +kernel)
set_option maxRecDepth 20000 in
theorem gv_RX4_110 : GoodIn wsL_law (wsV RX4 110 RX3 yX3_hasWord (wsU yX3_hasWord cX3_hasWord 2 (some .boolean))) := gwV mk_RX4_110 im_yX3_hasWord se_yX3_hasWord ini_RX3 cd_yX3_hasWord_cX3_hasWord
set_option maxRecDepth 20000 in
theorem gv_RX4_118 : GoodIn wsL_law (wsV RX4 118 RX1 yX1_execute (wsU yX1_execute cX1_execute 6 none)) := gwV mk_RX4_118 im_yX1_execute se_yX1_execute ini_RX1 cd_yX1_execute_cX1_execute
set_option maxRecDepth 20000 in
theorem nl_RX4_135 : Cond.fieldLinkNest RX4 135 RX1 "place" "I" RX4 ∈ nwL := List.mem_of_getElem? (i := 29) (by decide +kernel)
set_option maxRecDepth 20000 in
theorem nl_RX4_138 : Cond.fieldLinkNest RX4 138 RX1 "visited" "J" RX4 ∈ nwL := List.mem_of_getElem? (i := 31) (by decide +kernel)
set_option maxRecDepth 20000 in
theorem nl_RX4_141 : Cond.fieldLinkNest RX4 141 RX1 "decided" "J" RX4 ∈ nwL := List.mem_of_getElem? (i := 33) (by decide +kernel)
set_option maxRecDepth 20000 in
theorem nl_RX4_142 : Cond.fieldLinkNest RX4 142 RX1 "ones" "J" RX4 ∈ nwL := List.mem_of_getElem? (i := 36) (by decide +kernel)
set_option maxRecDepth 20000 in
theorem cd_yX0_numberOf_cX0_numberOf : Cond.code yX0_numberOf cX0_numberOf 4 (some .int) ∈ wsL_law := ml 472 rfl (by decide +kernel)
set_option maxRecDepth 20000 in
theorem mk_RX4_143 : Cond.methodLink RX4 143 yX0_numberOf ∈ wsL_law := ml 469 (by decide +kernel) (by decide +kernel)
set_option maxRecDepth 20000 in
theorem im_yX0_numberOf : Cond.instanceMethod yX0_numberOf ∈ wsL_law := ml 470 (by decide +kernel) (by decide +kernel)
set_option maxRecDepth 20000 in
theorem se_yX0_numberOf : Cond.selects RX0 yX0_numberOf yX0_numberOf ∈ wsL_law := ml 471 (by decide +kernel) (by decide +kernel)
set_option maxRecDepth 20000 in
theorem gv_RX4_143 : GoodIn wsL_law (wsV RX4 143 RX0 yX0_numberOf (wsU yX0_numberOf cX0_numberOf 4 (some .int))) := gwV mk_RX4_143 im_yX0_numberOf se_yX0_numberOf ini_RX0 cd_yX0_numberOf_cX0_numberOf
set_option maxRecDepth 20000 in
theorem nl_RX4_149 : Cond.fieldLinkNest RX4 149 RX1 "registers" "[I" RX4 ∈ nwL := List.mem_of_getElem? (i := 25) (by decide +kernel)
set_option maxRecDepth 20000 in
theorem mk_RX4_146 : Cond.methodLink RX4 146 yX4_isRegister ∈ wsL_law := ml 477 (by decide +kernel) (by decide +kernel)
set_option maxRecDepth 20000 in
theorem gs_RX4_146 : GoodIn wsL_law (wsS RX4 146 yX4_isRegister (wsU yX4_isRegister cX4_isRegister 1 (some .boolean))) := gwS mk_RX4_146 sc_yX4_isRegister ini_RX4 cd_yX4_isRegister_cX4_isRegister
set_option maxRecDepth 20000 in
theorem nl_RX4_156 : Cond.fieldLinkNest RX4 156 RX1 "cells" "[I" RX4 ∈ nwL := List.mem_of_getElem? (i := 26) (by decide +kernel)
set_option maxRecDepth 20000 in
theorem mk_RX4_153 : Cond.methodLink RX4 153 yX4_isCell ∈ wsL_law := ml 482 (by decide +kernel) (by decide +kernel)
set_option maxRecDepth 20000 in
theorem gs_RX4_153 : GoodIn wsL_law (wsS RX4 153 yX4_isCell (wsU yX4_isCell cX4_isCell 1 (some .boolean))) := gwS mk_RX4_153 sc_yX4_isCell ini_RX4 cd_yX4_isCell_cX4_isCell
set_option maxRecDepth 20000 in
theorem cd_yX0_firstFailing_cX0_firstFailing : Cond.code yX0_firstFailing cX0_firstFailing 7 (some (.object "SymbolBench$Path")) ∈ wsL_law := ml 490 rfl (by decide +kernel)
set_option maxRecDepth 20000 in
theorem mk_RX4_159 : Cond.methodLink RX4 159 yX0_firstFailing ∈ wsL_law := ml 487 (by decide +kernel) (by decide +kernel)
set_option maxRecDepth 20000 in
theorem im_yX0_firstFailing : Cond.instanceMethod yX0_firstFailing ∈ wsL_law := ml 488 (by decide +kernel) (by decide +kernel)
set_option maxRecDepth 20000 in
theorem se_yX0_firstFailing : Cond.selects RX0 yX0_firstFailing yX0_firstFailing ∈ wsL_law := ml 489 (by decide +kernel) (by decide +kernel)
set_option maxRecDepth 20000 in
theorem gv_RX4_159 : GoodIn wsL_law (wsV RX4 159 RX0 yX0_firstFailing (wsU yX0_firstFailing cX0_firstFailing 7 (some (.object "SymbolBench$Path")))) := gwV mk_RX4_159 im_yX0_firstFailing se_yX0_firstFailing ini_RX0 cd_yX0_firstFailing_cX0_firstFailing
set_option maxRecDepth 20000 in
theorem nl_RX4_162 : Cond.fieldLinkNest RX4 162 RX0 "visited" "J" RX4 ∈ nwL := List.mem_of_getElem? (i := 23) (by decide +kernel)
set_option maxRecDepth 20000 in
theorem gv_RX4_55 : GoodIn wsL_law (wsV RX4 55 RX0 yX0_isKnown (wsU yX0_isKnown cX0_isKnown 1 (some .boolean))) := gwV mk_RX4_55 im_yX0_isKnown se_yX0_isKnown ini_RX0 cd_yX0_isKnown_cX0_isKnown
set_option maxRecDepth 20000 in
theorem gs_RX4_106 : GoodIn wsL_law (wsS RX4 106 yX4_isMarked (wsU yX4_isMarked cX4_isMarked 3 (some .boolean))) := gwS mk_RX4_106 sc_yX4_isMarked ini_RX4 cd_yX4_isMarked_cX4_isMarked
set_option maxRecDepth 20000 in
theorem nl_RX4_163 : Cond.fieldLinkNest RX4 163 RX3 "inputs" "I" RX4 ∈ nwL := List.mem_of_getElem? (i := 0) (by decide +kernel)
set_option maxRecDepth 20000 in
theorem nl_RX4_166 : Cond.fieldLinkNest RX4 166 RX3 "bits" "I" RX4 ∈ nwL := List.mem_of_getElem? (i := 1) (by decide +kernel)
set_option maxRecDepth 20000 in
theorem nl_RX4_169 : Cond.fieldLinkNest RX4 169 RX0 "failed" "J" RX4 ∈ nwL := List.mem_of_getElem? (i := 24) (by decide +kernel)
set_option maxRecDepth 20000 in
theorem gs_RX4_84 : GoodIn wsL_law (va_wsS RX4 84 yJ13_bitCount_95d88 (wsU yJ13_bitCount_95d88 cJ13_bitCount_95d88 2 (some .int))) := gwT mk_RX4_84 sc_yJ13_bitCount_95d88 ini_RJ13 cd_yJ13_bitCount_95d88_cJ13_bitCount_95d88
set_option maxRecDepth 20000 in
theorem gv_RX4_64 : GoodIn wsL_law (wsV RX4 64 RX0 yX0_knownOrNone (wsU yX0_knownOrNone cX0_knownOrNone 2 (some .int))) := gwV mk_RX4_64 im_yX0_knownOrNone se_yX0_knownOrNone ini_RX0 cd_yX0_knownOrNone_cX0_knownOrNone
set_option maxRecDepth 20000 in
theorem ki_RX5_121 : Cond.constant RX5 121 (-2147483648) ∈ wsL_law := ml 691 (by decide +kernel) (by decide +kernel)
set_option maxRecDepth 20000 in
theorem kl_RX5_122 : Cond.constantLong RX5 122 (4294967295) ∈ wsL_law := ml 687 (by decide +kernel) (by decide +kernel)
set_option maxRecDepth 20000 in
theorem cd_yX5_truth_cX5_truth : Cond.code yX5_truth cX5_truth 1 (some .int) ∈ wsL_law := ml 672 rfl (by decide +kernel)
set_option maxRecDepth 20000 in
theorem mk_RX5_128 : Cond.methodLink RX5 128 yX5_truth ∈ wsL_law := ml 670 (by decide +kernel) (by decide +kernel)
set_option maxRecDepth 20000 in
theorem sc_yX5_truth : Cond.static yX5_truth ∈ wsL_law := ml 671 (by decide +kernel) (by decide +kernel)
set_option maxRecDepth 20000 in
theorem ini_RX5 : Cond.initialized RX5 ∈ wsL_law := ml 36 (by decide +kernel) (by decide +kernel)
set_option maxRecDepth 20000 in
theorem cd_yX5_plain_cX5_plain : Cond.code yX5_plain cX5_plain 1 (some .long) ∈ wsL_law := ml 686 rfl (by decide +kernel)
set_option maxRecDepth 20000 in
theorem mk_RX5_124 : Cond.methodLink RX5 124 yX5_plain ∈ wsL_law := ml 684 (by decide +kernel) (by decide +kernel)
set_option maxRecDepth 20000 in
theorem sc_yX5_plain : Cond.static yX5_plain ∈ wsL_law := ml 685 (by decide +kernel) (by decide +kernel)
set_option maxRecDepth 20000 in
theorem gs_RX5_124 : GoodIn wsL_law (wsS RX5 124 yX5_plain (wsU yX5_plain cX5_plain 1 (some .long))) := gwS mk_RX5_124 sc_yX5_plain ini_RX5 cd_yX5_plain_cX5_plain
set_option maxRecDepth 20000 in
theorem cd_yX5_isBelow_cX5_isBelow : Cond.code yX5_isBelow cX5_isBelow 2 (some .boolean) ∈ wsL_law := ml 690 rfl (by decide +kernel)
set_option maxRecDepth 20000 in
theorem mk_RX5_132 : Cond.methodLink RX5 132 yX5_isBelow ∈ wsL_law := ml 688 (by decide +kernel) (by decide +kernel)
set_option maxRecDepth 20000 in
theorem sc_yX5_isBelow : Cond.static yX5_isBelow ∈ wsL_law := ml 689 (by decide +kernel) (by decide +kernel)
set_option maxRecDepth 20000 in
theorem fl_RX5_29 : Cond.fieldLink RX5 29 "SymbolBenchModel" "paths" "I" ∈ wsL_law := ml 519 (by decide +kernel) (by decide +kernel)
set_option maxRecDepth 20000 in
theorem fl_RX5_80 : Cond.fieldLink RX5 80 "SymbolBenchModel" "same" "Z" ∈ wsL_law := ml 546 (by decide +kernel) (by decide +kernel)
set_option maxRecDepth 20000 in
theorem fl_RX5_93 : Cond.fieldLink RX5 93 "SymbolBenchModel" "size" "I" ∈ wsL_law := ml 510 (by decide +kernel) (by decide +kernel)
set_option maxRecDepth 20000 in
theorem fl_RX5_84 : Cond.fieldLink RX5 84 "SymbolBenchModel" "inputs" "I" ∈ wsL_law := ml 508 (by decide +kernel) (by decide +kernel)
set_option maxRecDepth 20000 in
theorem cd_yX5_isRegister_cX5_isRegister : Cond.code yX5_isRegister cX5_isRegister 1 (some .boolean) ∈ wsL_law := ml 646 rfl (by decide +kernel)
set_option maxRecDepth 20000 in
theorem mk_RX5_96 : Cond.methodLink RX5 96 yX5_isRegister ∈ wsL_law := ml 644 (by decide +kernel) (by decide +kernel)
set_option maxRecDepth 20000 in
theorem sc_yX5_isRegister : Cond.static yX5_isRegister ∈ wsL_law := ml 645 (by decide +kernel) (by decide +kernel)
set_option maxRecDepth 20000 in
theorem cd_yX5_isTarget_cX5_isTarget : Cond.code yX5_isTarget cX5_isTarget 2 (some .boolean) ∈ wsL_law := ml 650 rfl (by decide +kernel)
set_option maxRecDepth 20000 in
theorem mk_RX5_100 : Cond.methodLink RX5 100 yX5_isTarget ∈ wsL_law := ml 647 (by decide +kernel) (by decide +kernel)
set_option maxRecDepth 20000 in
theorem im_yX5_isTarget : Cond.instanceMethod yX5_isTarget ∈ wsL_law := ml 649 (by decide +kernel) (by decide +kernel)
set_option maxRecDepth 20000 in
theorem se_yX5_isTarget : Cond.selects RX5 yX5_isTarget yX5_isTarget ∈ wsL_law := ml 17 (by decide +kernel) (by decide +kernel)
set_option maxRecDepth 20000 in
theorem gv_RX5_100 : GoodIn wsL_law (wsV RX5 100 RX5 yX5_isTarget (wsU yX5_isTarget cX5_isTarget 2 (some .boolean))) := gwV mk_RX5_100 im_yX5_isTarget se_yX5_isTarget ini_RX5 cd_yX5_isTarget_cX5_isTarget
set_option maxRecDepth 20000 in
theorem gs_RX5_96 : GoodIn wsL_law (wsS RX5 96 yX5_isRegister (wsU yX5_isRegister cX5_isRegister 1 (some .boolean))) := gwS mk_RX5_96 sc_yX5_isRegister ini_RX5 cd_yX5_isRegister_cX5_isRegister
set_option maxRecDepth 20000 in
theorem fl_RX5_87 : Cond.fieldLink RX5 87 "SymbolBenchModel" "bits" "I" ∈ wsL_law := ml 509 (by decide +kernel) (by decide +kernel)
set_option maxRecDepth 20000 in
theorem fl_RX5_7 : Cond.fieldLink RX5 7 "SymbolBenchModel" "wide" "[I" ∈ wsL_law := ml 513 (by decide +kernel) (by decide +kernel)
set_option maxRecDepth 20000 in
theorem fl_RX5_13 : Cond.fieldLink RX5 13 "SymbolBenchModel" "signed" "[Z" ∈ wsL_law := ml 514 (by decide +kernel) (by decide +kernel)
set_option maxRecDepth 20000 in
theorem cd_yX5_changed_cX5_changed : Cond.code yX5_changed cX5_changed 1 none ∈ wsL_law := ml 635 rfl (by decide +kernel)
set_option maxRecDepth 20000 in
theorem mk_RX5_90 : Cond.methodLink RX5 90 yX5_changed ∈ wsL_law := ml 632 (by decide +kernel) (by decide +kernel)
set_option maxRecDepth 20000 in
theorem im_yX5_changed : Cond.instanceMethod yX5_changed ∈ wsL_law := ml 634 (by decide +kernel) (by decide +kernel)
set_option maxRecDepth 20000 in
theorem se_yX5_changed : Cond.selects RX5 yX5_changed yX5_changed ∈ wsL_law := ml 15 (by decide +kernel) (by decide +kernel)
set_option maxRecDepth 20000 in
theorem fl_RX5_107 : Cond.fieldLink RX5 107 "SymbolBenchModel" "muls" "I" ∈ wsL_law := ml 511 (by decide +kernel) (by decide +kernel)
set_option maxRecDepth 20000 in
theorem fl_RX5_113 : Cond.fieldLink RX5 113 "SymbolBenchModel" "divisions" "I" ∈ wsL_law := ml 512 (by decide +kernel) (by decide +kernel)
set_option maxRecDepth 20000 in
theorem fl_RX5_17 : Cond.fieldLink RX5 17 "SymbolBenchModel" "op" "[I" ∈ wsL_law := ml 515 (by decide +kernel) (by decide +kernel)
set_option maxRecDepth 20000 in
theorem fl_RX5_20 : Cond.fieldLink RX5 20 "SymbolBenchModel" "a" "[I" ∈ wsL_law := ml 516 (by decide +kernel) (by decide +kernel)
set_option maxRecDepth 20000 in
theorem fl_RX5_23 : Cond.fieldLink RX5 23 "SymbolBenchModel" "b" "[I" ∈ wsL_law := ml 517 (by decide +kernel) (by decide +kernel)
set_option maxRecDepth 20000 in
theorem fl_RX5_26 : Cond.fieldLink RX5 26 "SymbolBenchModel" "c" "[I" ∈ wsL_law := ml 518 (by decide +kernel) (by decide +kernel)
set_option maxRecDepth 20000 in
theorem cd_yX5_isDivision_cX5_isDivision : Cond.code yX5_isDivision cX5_isDivision 1 (some .boolean) ∈ wsL_law := ml 653 rfl (by decide +kernel)
set_option maxRecDepth 20000 in
theorem mk_RX5_110 : Cond.methodLink RX5 110 yX5_isDivision ∈ wsL_law := ml 651 (by decide +kernel) (by decide +kernel)
set_option maxRecDepth 20000 in
theorem sc_yX5_isDivision : Cond.static yX5_isDivision ∈ wsL_law := ml 652 (by decide +kernel) (by decide +kernel)
set_option maxRecDepth 20000 in
theorem cd_yX5_isGood_cX5_isGood : Cond.code yX5_isGood cX5_isGood 5 (some .boolean) ∈ wsL_law := ml 643 rfl (by decide +kernel)
set_option maxRecDepth 20000 in
theorem mk_RX5_103 : Cond.methodLink RX5 103 yX5_isGood ∈ wsL_law := ml 640 (by decide +kernel) (by decide +kernel)
set_option maxRecDepth 20000 in
theorem im_yX5_isGood : Cond.instanceMethod yX5_isGood ∈ wsL_law := ml 642 (by decide +kernel) (by decide +kernel)
set_option maxRecDepth 20000 in
theorem se_yX5_isGood : Cond.selects RX5 yX5_isGood yX5_isGood ∈ wsL_law := ml 16 (by decide +kernel) (by decide +kernel)
set_option maxRecDepth 20000 in
theorem gv_RX5_103 : GoodIn wsL_law (wsV RX5 103 RX5 yX5_isGood (wsU yX5_isGood cX5_isGood 5 (some .boolean))) := gwV mk_RX5_103 im_yX5_isGood se_yX5_isGood ini_RX5 cd_yX5_isGood_cX5_isGood
set_option maxRecDepth 20000 in
theorem fl_RX5_116 : Cond.fieldLink RX5 116 "SymbolBenchModel" "ran" "Z" ∈ wsL_law := ml 537 (by decide +kernel) (by decide +kernel)
set_option maxRecDepth 20000 in
theorem gv_RX5_90 : GoodIn wsL_law (wsV RX5 90 RX5 yX5_changed (wsU yX5_changed cX5_changed 1 none)) := gwV mk_RX5_90 im_yX5_changed se_yX5_changed ini_RX5 cd_yX5_changed_cX5_changed
set_option maxRecDepth 20000 in
theorem fl_RX5_136 : Cond.fieldLink RX5 136 "SymbolBenchModel" "runEnd" "I" ∈ wsL_law := ml 532 (by decide +kernel) (by decide +kernel)
set_option maxRecDepth 20000 in
theorem fl_RX5_139 : Cond.fieldLink RX5 139 "SymbolBenchModel" "runPlace" "I" ∈ wsL_law := ml 533 (by decide +kernel) (by decide +kernel)
set_option maxRecDepth 20000 in
theorem fl_RX5_142 : Cond.fieldLink RX5 142 "SymbolBenchModel" "runResult" "I" ∈ wsL_law := ml 534 (by decide +kernel) (by decide +kernel)
set_option maxRecDepth 20000 in
theorem fl_RX5_62 : Cond.fieldLink RX5 62 "SymbolBenchModel" "reg" "[I" ∈ wsL_law := ml 529 (by decide +kernel) (by decide +kernel)
set_option maxRecDepth 20000 in
theorem fl_RX5_65 : Cond.fieldLink RX5 65 "SymbolBenchModel" "cell" "[I" ∈ wsL_law := ml 530 (by decide +kernel) (by decide +kernel)
set_option maxRecDepth 20000 in
theorem fl_RX5_145 : Cond.fieldLink RX5 145 "SymbolBenchModel" "runDone" "I" ∈ wsL_law := ml 535 (by decide +kernel) (by decide +kernel)
set_option maxRecDepth 20000 in
theorem fl_RX5_148 : Cond.fieldLink RX5 148 "SymbolBenchModel" "runMade" "I" ∈ wsL_law := ml 536 (by decide +kernel) (by decide +kernel)
set_option maxRecDepth 20000 in
theorem fl_RX5_59 : Cond.fieldLink RX5 59 "SymbolBenchModel" "met" "[Z" ∈ wsL_law := ml 528 (by decide +kernel) (by decide +kernel)
set_option maxRecDepth 20000 in
theorem fl_RX5_68 : Cond.fieldLink RX5 68 "SymbolBenchModel" "made" "[I" ∈ wsL_law := ml 531 (by decide +kernel) (by decide +kernel)
set_option maxRecDepth 20000 in
theorem cd_yX5_ends_cX5_ends : Cond.code yX5_ends cX5_ends 4 none ∈ wsL_law := ml 680 rfl (by decide +kernel)
set_option maxRecDepth 20000 in
theorem mk_RX5_155 : Cond.methodLink RX5 155 yX5_ends ∈ wsL_law := ml 677 (by decide +kernel) (by decide +kernel)
set_option maxRecDepth 20000 in
theorem im_yX5_ends : Cond.instanceMethod yX5_ends ∈ wsL_law := ml 679 (by decide +kernel) (by decide +kernel)
set_option maxRecDepth 20000 in
theorem se_yX5_ends : Cond.selects RX5 yX5_ends yX5_ends ∈ wsL_law := ml 21 (by decide +kernel) (by decide +kernel)
set_option maxRecDepth 20000 in
theorem cd_yX5_reckoned_cX5_reckoned : Cond.code yX5_reckoned cX5_reckoned 3 (some .int) ∈ wsL_law := ml 683 rfl (by decide +kernel)
set_option maxRecDepth 20000 in
theorem mk_RX5_159 : Cond.methodLink RX5 159 yX5_reckoned ∈ wsL_law := ml 681 (by decide +kernel) (by decide +kernel)
set_option maxRecDepth 20000 in
theorem sc_yX5_reckoned : Cond.static yX5_reckoned ∈ wsL_law := ml 682 (by decide +kernel) (by decide +kernel)
set_option maxRecDepth 20000 in
theorem cd_yX5_inputOf_cX5_inputOf : Cond.code yX5_inputOf cX5_inputOf 5 (some .int) ∈ wsL_law := ml 676 rfl (by decide +kernel)
set_option maxRecDepth 20000 in
theorem mk_RX5_151 : Cond.methodLink RX5 151 yX5_inputOf ∈ wsL_law := ml 673 (by decide +kernel) (by decide +kernel)
set_option maxRecDepth 20000 in
theorem im_yX5_inputOf : Cond.instanceMethod yX5_inputOf ∈ wsL_law := ml 675 (by decide +kernel) (by decide +kernel)
set_option maxRecDepth 20000 in
theorem se_yX5_inputOf : Cond.selects RX5 yX5_inputOf yX5_inputOf ∈ wsL_law := ml 20 (by decide +kernel) (by decide +kernel)
set_option maxRecDepth 20000 in
theorem gs_RX5_159 : GoodIn wsL_law (wsS RX5 159 yX5_reckoned (wsU yX5_reckoned cX5_reckoned 3 (some .int))) := gwS mk_RX5_159 sc_yX5_reckoned ini_RX5 cd_yX5_reckoned_cX5_reckoned
set_option maxRecDepth 20000 in
theorem gv_RX5_155 : GoodIn wsL_law (wsV RX5 155 RX5 yX5_ends (wsU yX5_ends cX5_ends 4 none)) := gwV mk_RX5_155 im_yX5_ends se_yX5_ends ini_RX5 cd_yX5_ends_cX5_ends
set_option maxRecDepth 20000 in
theorem gv_RX5_151 : GoodIn wsL_law (wsV RX5 151 RX5 yX5_inputOf (wsU yX5_inputOf cX5_inputOf 5 (some .int))) := gwV mk_RX5_151 im_yX5_inputOf se_yX5_inputOf ini_RX5 cd_yX5_inputOf_cX5_inputOf
set_option maxRecDepth 20000 in
theorem gs_RX5_110 : GoodIn wsL_law (wsS RX5 110 yX5_isDivision (wsU yX5_isDivision cX5_isDivision 1 (some .boolean))) := gwS mk_RX5_110 sc_yX5_isDivision ini_RX5 cd_yX5_isDivision_cX5_isDivision
set_option maxRecDepth 20000 in
theorem fl_RX5_39 : Cond.fieldLink RX5 39 "SymbolBenchModel" "many" "[I" ∈ wsL_law := ml 522 (by decide +kernel) (by decide +kernel)
set_option maxRecDepth 20000 in
theorem fl_RX5_50 : Cond.fieldLink RX5 50 "SymbolBenchModel" "row" "[[I" ∈ wsL_law := ml 525 (by decide +kernel) (by decide +kernel)
set_option maxRecDepth 20000 in
theorem fl_RX5_33 : Cond.fieldLink RX5 33 "SymbolBenchModel" "end" "[I" ∈ wsL_law := ml 520 (by decide +kernel) (by decide +kernel)
set_option maxRecDepth 20000 in
theorem fl_RX5_36 : Cond.fieldLink RX5 36 "SymbolBenchModel" "place" "[I" ∈ wsL_law := ml 521 (by decide +kernel) (by decide +kernel)
set_option maxRecDepth 20000 in
theorem fl_RX5_42 : Cond.fieldLink RX5 42 "SymbolBenchModel" "least" "[I" ∈ wsL_law := ml 523 (by decide +kernel) (by decide +kernel)
set_option maxRecDepth 20000 in
theorem fl_RX5_45 : Cond.fieldLink RX5 45 "SymbolBenchModel" "alike" "[Z" ∈ wsL_law := ml 524 (by decide +kernel) (by decide +kernel)
set_option maxRecDepth 20000 in
theorem fl_RX5_53 : Cond.fieldLink RX5 53 "SymbolBenchModel" "of" "[I" ∈ wsL_law := ml 526 (by decide +kernel) (by decide +kernel)
set_option maxRecDepth 20000 in
theorem cd_yX5_words_cX5_words : Cond.code yX5_words cX5_words 1 (some .int) ∈ wsL_law := ml 665 rfl (by decide +kernel)
set_option maxRecDepth 20000 in
theorem mk_RX5_163 : Cond.methodLink RX5 163 yX5_words ∈ wsL_law := ml 662 (by decide +kernel) (by decide +kernel)
set_option maxRecDepth 20000 in
theorem im_yX5_words : Cond.instanceMethod yX5_words ∈ wsL_law := ml 664 (by decide +kernel) (by decide +kernel)
set_option maxRecDepth 20000 in
theorem se_yX5_words : Cond.selects RX5 yX5_words yX5_words ∈ wsL_law := ml 18 (by decide +kernel) (by decide +kernel)
set_option maxRecDepth 20000 in
theorem cd_yX5_turn_cX5_turn : Cond.code yX5_turn cX5_turn 4 none ∈ wsL_law := ml 710 rfl (by decide +kernel)
set_option maxRecDepth 20000 in
theorem mk_RX5_184 : Cond.methodLink RX5 184 yX5_turn ∈ wsL_law := ml 708 (by decide +kernel) (by decide +kernel)
set_option maxRecDepth 20000 in
theorem sc_yX5_turn : Cond.static yX5_turn ∈ wsL_law := ml 709 (by decide +kernel) (by decide +kernel)
set_option maxRecDepth 20000 in
theorem gs_RX5_184 : GoodIn wsL_law (wsS RX5 184 yX5_turn (wsU yX5_turn cX5_turn 4 none)) := gwS mk_RX5_184 sc_yX5_turn ini_RX5 cd_yX5_turn_cX5_turn
set_option maxRecDepth 20000 in
theorem cd_yX5_isAhead_cX5_isAhead : Cond.code yX5_isAhead cX5_isAhead 4 (some .boolean) ∈ wsL_law := ml 703 rfl (by decide +kernel)
set_option maxRecDepth 20000 in
theorem mk_RX5_177 : Cond.methodLink RX5 177 yX5_isAhead ∈ wsL_law := ml 700 (by decide +kernel) (by decide +kernel)
set_option maxRecDepth 20000 in
theorem im_yX5_isAhead : Cond.instanceMethod yX5_isAhead ∈ wsL_law := ml 702 (by decide +kernel) (by decide +kernel)
set_option maxRecDepth 20000 in
theorem se_yX5_isAhead : Cond.selects RX5 yX5_isAhead yX5_isAhead ∈ wsL_law := ml 24 (by decide +kernel) (by decide +kernel)
set_option maxRecDepth 20000 in
theorem gv_RX5_177 : GoodIn wsL_law (wsV RX5 177 RX5 yX5_isAhead (wsU yX5_isAhead cX5_isAhead 4 (some .boolean))) := gwV mk_RX5_177 im_yX5_isAhead se_yX5_isAhead ini_RX5 cd_yX5_isAhead_cX5_isAhead
set_option maxRecDepth 20000 in
theorem cd_yX5_exchange_cX5_exchange : Cond.code yX5_exchange cX5_exchange 6 none ∈ wsL_law := ml 707 rfl (by decide +kernel)
set_option maxRecDepth 20000 in
theorem mk_RX5_180 : Cond.methodLink RX5 180 yX5_exchange ∈ wsL_law := ml 704 (by decide +kernel) (by decide +kernel)
set_option maxRecDepth 20000 in
theorem im_yX5_exchange : Cond.instanceMethod yX5_exchange ∈ wsL_law := ml 706 (by decide +kernel) (by decide +kernel)
set_option maxRecDepth 20000 in
theorem se_yX5_exchange : Cond.selects RX5 yX5_exchange yX5_exchange ∈ wsL_law := ml 25 (by decide +kernel) (by decide +kernel)
set_option maxRecDepth 20000 in
theorem gv_RX5_180 : GoodIn wsL_law (wsV RX5 180 RX5 yX5_exchange (wsU yX5_exchange cX5_exchange 6 none)) := gwV mk_RX5_180 im_yX5_exchange se_yX5_exchange ini_RX5 cd_yX5_exchange_cX5_exchange
set_option maxRecDepth 20000 in
theorem fl_RX5_56 : Cond.fieldLink RX5 56 "SymbolBenchModel" "result" "[I" ∈ wsL_law := ml 527 (by decide +kernel) (by decide +kernel)
set_option maxRecDepth 20000 in
theorem cd_yX5_order_cX5_order : Cond.code yX5_order cX5_order 3 none ∈ wsL_law := ml 699 rfl (by decide +kernel)
set_option maxRecDepth 20000 in
theorem mk_RX5_174 : Cond.methodLink RX5 174 yX5_order ∈ wsL_law := ml 696 (by decide +kernel) (by decide +kernel)
set_option maxRecDepth 20000 in
theorem im_yX5_order : Cond.instanceMethod yX5_order ∈ wsL_law := ml 698 (by decide +kernel) (by decide +kernel)
set_option maxRecDepth 20000 in
theorem se_yX5_order : Cond.selects RX5 yX5_order yX5_order ∈ wsL_law := ml 23 (by decide +kernel) (by decide +kernel)
set_option maxRecDepth 20000 in
theorem gv_RX5_174 : GoodIn wsL_law (wsV RX5 174 RX5 yX5_order (wsU yX5_order cX5_order 3 none)) := gwV mk_RX5_174 im_yX5_order se_yX5_order ini_RX5 cd_yX5_order_cX5_order
set_option maxRecDepth 20000 in
theorem cd_yX5_isPath_cX5_isPath : Cond.code yX5_isPath cX5_isPath 4 (some .boolean) ∈ wsL_law := ml 695 rfl (by decide +kernel)
set_option maxRecDepth 20000 in
theorem mk_RX5_171 : Cond.methodLink RX5 171 yX5_isPath ∈ wsL_law := ml 692 (by decide +kernel) (by decide +kernel)
set_option maxRecDepth 20000 in
theorem im_yX5_isPath : Cond.instanceMethod yX5_isPath ∈ wsL_law := ml 694 (by decide +kernel) (by decide +kernel)
set_option maxRecDepth 20000 in
theorem se_yX5_isPath : Cond.selects RX5 yX5_isPath yX5_isPath ∈ wsL_law := ml 22 (by decide +kernel) (by decide +kernel)
set_option maxRecDepth 20000 in
theorem gv_RX5_171 : GoodIn wsL_law (wsV RX5 171 RX5 yX5_isPath (wsU yX5_isPath cX5_isPath 4 (some .boolean))) := gwV mk_RX5_171 im_yX5_isPath se_yX5_isPath ini_RX5 cd_yX5_isPath_cX5_isPath
set_option maxRecDepth 20000 in
theorem cd_yX5_go_cX5_go : Cond.code yX5_go cX5_go 14 none ∈ wsL_law := ml 669 rfl (by decide +kernel)
set_option maxRecDepth 20000 in
theorem mk_RX5_167 : Cond.methodLink RX5 167 yX5_go ∈ wsL_law := ml 666 (by decide +kernel) (by decide +kernel)
set_option maxRecDepth 20000 in
theorem im_yX5_go : Cond.instanceMethod yX5_go ∈ wsL_law := ml 668 (by decide +kernel) (by decide +kernel)
set_option maxRecDepth 20000 in
theorem se_yX5_go : Cond.selects RX5 yX5_go yX5_go ∈ wsL_law := ml 19 (by decide +kernel) (by decide +kernel)
set_option maxRecDepth 20000 in
theorem cd_yX5_has_cX5_has : Cond.code yX5_has cX5_has 2 (some .boolean) ∈ wsL_law := ml 718 rfl (by decide +kernel)
set_option maxRecDepth 20000 in
theorem mk_RX5_188 : Cond.methodLink RX5 188 yX5_has ∈ wsL_law := ml 715 (by decide +kernel) (by decide +kernel)
set_option maxRecDepth 20000 in
theorem im_yX5_has : Cond.instanceMethod yX5_has ∈ wsL_law := ml 717 (by decide +kernel) (by decide +kernel)
set_option maxRecDepth 20000 in
theorem se_yX5_has : Cond.selects RX5 yX5_has yX5_has ∈ wsL_law := ml 26 (by decide +kernel) (by decide +kernel)
set_option maxRecDepth 20000 in
theorem cd_yX5_isWord_cX5_isWord : Cond.code yX5_isWord cX5_isWord 2 (some .boolean) ∈ wsL_law := ml 730 rfl (by decide +kernel)
set_option maxRecDepth 20000 in
theorem mk_RX5_191 : Cond.methodLink RX5 191 yX5_isWord ∈ wsL_law := ml 727 (by decide +kernel) (by decide +kernel)
set_option maxRecDepth 20000 in
theorem im_yX5_isWord : Cond.instanceMethod yX5_isWord ∈ wsL_law := ml 729 (by decide +kernel) (by decide +kernel)
set_option maxRecDepth 20000 in
theorem se_yX5_isWord : Cond.selects RX5 yX5_isWord yX5_isWord ∈ wsL_law := ml 27 (by decide +kernel) (by decide +kernel)
set_option maxRecDepth 20000 in
theorem gs_RX5_132 : GoodIn wsL_law (wsS RX5 132 yX5_isBelow (wsU yX5_isBelow cX5_isBelow 2 (some .boolean))) := gwS mk_RX5_132 sc_yX5_isBelow ini_RX5 cd_yX5_isBelow_cX5_isBelow
set_option maxRecDepth 20000 in
theorem gv_RX5_163 : GoodIn wsL_law (wsV RX5 163 RX5 yX5_words (wsU yX5_words cX5_words 1 (some .int))) := gwV mk_RX5_163 im_yX5_words se_yX5_words ini_RX5 cd_yX5_words_cX5_words
set_option maxRecDepth 20000 in
theorem gv_RX5_188 : GoodIn wsL_law (wsV RX5 188 RX5 yX5_has (wsU yX5_has cX5_has 2 (some .boolean))) := gwV mk_RX5_188 im_yX5_has se_yX5_has ini_RX5 cd_yX5_has_cX5_has
set_option maxRecDepth 20000 in
theorem fl_RX5_194 : Cond.fieldLink RX5 194 "SymbolBenchModel" "told" "I" ∈ wsL_law := ml 538 (by decide +kernel) (by decide +kernel)
set_option maxRecDepth 20000 in
theorem fl_RX5_197 : Cond.fieldLink RX5 197 "SymbolBenchModel" "toldEnd" "I" ∈ wsL_law := ml 539 (by decide +kernel) (by decide +kernel)
set_option maxRecDepth 20000 in
theorem fl_RX5_200 : Cond.fieldLink RX5 200 "SymbolBenchModel" "toldPlace" "I" ∈ wsL_law := ml 540 (by decide +kernel) (by decide +kernel)
set_option maxRecDepth 20000 in
theorem fl_RX5_203 : Cond.fieldLink RX5 203 "SymbolBenchModel" "toldResult" "I" ∈ wsL_law := ml 541 (by decide +kernel) (by decide +kernel)
set_option maxRecDepth 20000 in
theorem fl_RX5_206 : Cond.fieldLink RX5 206 "SymbolBenchModel" "toldDone" "I" ∈ wsL_law := ml 542 (by decide +kernel) (by decide +kernel)
set_option maxRecDepth 20000 in
theorem fl_RX5_209 : Cond.fieldLink RX5 209 "SymbolBenchModel" "toldMade" "I" ∈ wsL_law := ml 543 (by decide +kernel) (by decide +kernel)
set_option maxRecDepth 20000 in
theorem fl_RX5_71 : Cond.fieldLink RX5 71 "SymbolBenchModel" "toldReg" "[I" ∈ wsL_law := ml 544 (by decide +kernel) (by decide +kernel)
set_option maxRecDepth 20000 in
theorem fl_RX5_74 : Cond.fieldLink RX5 74 "SymbolBenchModel" "toldCell" "[I" ∈ wsL_law := ml 545 (by decide +kernel) (by decide +kernel)
set_option maxRecDepth 20000 in
theorem gv_RX5_191 : GoodIn wsL_law (wsV RX5 191 RX5 yX5_isWord (wsU yX5_isWord cX5_isWord 2 (some .boolean))) := gwV mk_RX5_191 im_yX5_isWord se_yX5_isWord ini_RX5 cd_yX5_isWord_cX5_isWord
set_option maxRecDepth 20000 in
theorem gv_RX5_167 : GoodIn wsL_law (wsV RX5 167 RX5 yX5_go (wsU yX5_go cX5_go 14 none)) := gwV mk_RX5_167 im_yX5_go se_yX5_go ini_RX5 cd_yX5_go_cX5_go
set_option maxRecDepth 20000 in
theorem cd_yX5_failing_cX5_failing : Cond.code yX5_failing cX5_failing 5 (some .int) ∈ wsL_law := ml 762 rfl (by decide +kernel)
set_option maxRecDepth 20000 in
theorem mk_RX5_212 : Cond.methodLink RX5 212 yX5_failing ∈ wsL_law := ml 759 (by decide +kernel) (by decide +kernel)
set_option maxRecDepth 20000 in
theorem im_yX5_failing : Cond.instanceMethod yX5_failing ∈ wsL_law := ml 761 (by decide +kernel) (by decide +kernel)
set_option maxRecDepth 20000 in
theorem se_yX5_failing : Cond.selects RX5 yX5_failing yX5_failing ∈ wsL_law := ml 28 (by decide +kernel) (by decide +kernel)
set_option maxRecDepth 20000 in
theorem gv_RX5_212 : GoodIn wsL_law (wsV RX5 212 RX5 yX5_failing (wsU yX5_failing cX5_failing 5 (some .int))) := gwV mk_RX5_212 im_yX5_failing se_yX5_failing ini_RX5 cd_yX5_failing_cX5_failing
set_option maxRecDepth 20000 in
theorem gs_RX5_128 : GoodIn wsL_law (wsS RX5 128 yX5_truth (wsU yX5_truth cX5_truth 1 (some .int))) := gwS mk_RX5_128 sc_yX5_truth ini_RX5 cd_yX5_truth_cX5_truth
set_option maxRecDepth 20000 in
theorem cd_yX5_failures_cX5_failures : Cond.code yX5_failures cX5_failures 4 (some .int) ∈ wsL_law := ml 774 rfl (by decide +kernel)
set_option maxRecDepth 20000 in
theorem mk_RX5_215 : Cond.methodLink RX5 215 yX5_failures ∈ wsL_law := ml 771 (by decide +kernel) (by decide +kernel)
set_option maxRecDepth 20000 in
theorem im_yX5_failures : Cond.instanceMethod yX5_failures ∈ wsL_law := ml 773 (by decide +kernel) (by decide +kernel)
set_option maxRecDepth 20000 in
theorem se_yX5_failures : Cond.selects RX5 yX5_failures yX5_failures ∈ wsL_law := ml 29 (by decide +kernel) (by decide +kernel)
set_option maxRecDepth 20000 in
theorem gv_RX5_215 : GoodIn wsL_law (wsV RX5 215 RX5 yX5_failures (wsU yX5_failures cX5_failures 4 (some .int))) := gwV mk_RX5_215 im_yX5_failures se_yX5_failures ini_RX5 cd_yX5_failures_cX5_failures
