theorem w_1 : Cond.initialized "OutOrder" ∈ jtbl := jtbl_in 1 (by decide +kernel) (by decide +kernel)
theorem w_2 : Cond.initialized "OutOrder$Table" ∈ jtbl := jtbl_in 2 (by decide +kernel) (by decide +kernel)
theorem w_3 : Cond.initialized "OutOrder$Modulus" ∈ jtbl := jtbl_in 3 (by decide +kernel) (by decide +kernel)
theorem w_4 : Cond.initialized "OutOrder$Row" ∈ jtbl := jtbl_in 4 (by decide +kernel) (by decide +kernel)
theorem w_5 : Cond.initialized "OutOrder$Rules" ∈ jtbl := jtbl_in 5 (by decide +kernel) (by decide +kernel)
theorem w_6 : Cond.initialized "OutOrder$Net" ∈ jtbl := jtbl_in 6 (by decide +kernel) (by decide +kernel)
theorem w_7 : Cond.initialized "OutOrder$Least" ∈ jtbl := jtbl_in 7 (by decide +kernel) (by decide +kernel)
theorem w_8 : Cond.initialized "OutOrder$FullNet" ∈ jtbl := jtbl_in 8 (by decide +kernel) (by decide +kernel)
theorem w_9 : Cond.initialized "OutOrder$Going" ∈ jtbl := jtbl_in 9 (by decide +kernel) (by decide +kernel)
theorem w_10 : Cond.initialized "OutOrder$Work" ∈ jtbl := jtbl_in 10 (by decide +kernel) (by decide +kernel)
theorem w_11 : Cond.initialized "OutOrder$Plan" ∈ jtbl := jtbl_in 11 (by decide +kernel) (by decide +kernel)
theorem w_12 : Cond.initialized "OutOrderModel" ∈ jtbl := jtbl_in 12 (by decide +kernel) (by decide +kernel)
theorem w_13 : Cond.initialized "java/lang/Math" ∈ jtbl := jtbl_in 13 (by decide +kernel) (by decide +kernel)
theorem w_14 : Cond.initialized "java/lang/Integer" ∈ jtbl := jtbl_in 14 (by decide +kernel) (by decide +kernel)
theorem w_15 : Cond.initialized "java/lang/System" ∈ jtbl := jtbl_in 15 (by decide +kernel) (by decide +kernel)
theorem w_16 : Cond.initialized "OutOrder$Rings" ∈ jtbl := jtbl_in 16 (by decide +kernel) (by decide +kernel)
theorem w_37 : Cond.fieldLink "OutOrder$Modulus" 9 "OutOrder$Modulus" "p" "I" ∈ jtbl := jtbl_in 37 (by decide +kernel) (by decide +kernel)
theorem w_45 : Cond.fieldLink "OutOrder$Table" 12 "OutOrder$Table" "modulus" "LOutOrder$Modulus;" ∈ jtbl := jtbl_in 45 (by decide +kernel) (by decide +kernel)
theorem w_48 : Cond.fieldLink "OutOrder$Table" 20 "OutOrder$Table" "values" "[[I" ∈ jtbl := jtbl_in 48 (by decide +kernel) (by decide +kernel)
theorem w_51 : Cond.fieldLink "OutOrder$Table" 23 "OutOrder$Table" "joins" "[I" ∈ jtbl := jtbl_in 51 (by decide +kernel) (by decide +kernel)
theorem w_56 : Cond.fieldLink "OutOrder$Table" 27 "OutOrder$Table" "sides" "[I" ∈ jtbl := jtbl_in 56 (by decide +kernel) (by decide +kernel)
theorem w_59 : Cond.fieldLink "OutOrder$Table" 30 "OutOrder$Table" "n" "I" ∈ jtbl := jtbl_in 59 (by decide +kernel) (by decide +kernel)
theorem w_65 : Cond.fieldLink "OutOrder$Table" 37 "OutOrder$Table" "held" "I" ∈ jtbl := jtbl_in 65 (by decide +kernel) (by decide +kernel)
theorem w_88 : Cond.fieldLink "OutOrder$Row" 9 "OutOrder$Row" "unknowns" "[I" ∈ jtbl := jtbl_in 88 (by decide +kernel) (by decide +kernel)
theorem w_93 : Cond.fieldLink "OutOrder$Row" 15 "OutOrder$Row" "places" "[I" ∈ jtbl := jtbl_in 93 (by decide +kernel) (by decide +kernel)
theorem w_95 : Cond.fieldLink "OutOrder$Row" 18 "OutOrder$Row" "n" "I" ∈ jtbl := jtbl_in 95 (by decide +kernel) (by decide +kernel)
theorem w_117 : Cond.fieldLink "OutOrder$Net" 9 "OutOrder$Net" "near" "[I" ∈ jtbl := jtbl_in 117 (by decide +kernel) (by decide +kernel)
theorem w_123 : Cond.fieldLink "OutOrder$Net" 22 "OutOrder$Net" "left" "I" ∈ jtbl := jtbl_in 123 (by decide +kernel) (by decide +kernel)
theorem w_126 : Cond.fieldLink "OutOrder$Net" 15 "OutOrder$Net" "n" "I" ∈ jtbl := jtbl_in 126 (by decide +kernel) (by decide +kernel)
theorem w_137 : Cond.fieldLink "OutOrder$Rules" 12 "OutOrder$Rules" "net" "LOutOrder$Net;" ∈ jtbl := jtbl_in 137 (by decide +kernel) (by decide +kernel)
theorem w_150 : Cond.fieldLink "OutOrder$Least" 9 "OutOrder$Least" "sums" "[I" ∈ jtbl := jtbl_in 150 (by decide +kernel) (by decide +kernel)
theorem w_152 : Cond.fieldLink "OutOrder$Least" 15 "OutOrder$Least" "widths" "[I" ∈ jtbl := jtbl_in 152 (by decide +kernel) (by decide +kernel)
theorem w_154 : Cond.fieldLink "OutOrder$Least" 20 "OutOrder$Least" "nets" "[[I" ∈ jtbl := jtbl_in 154 (by decide +kernel) (by decide +kernel)
theorem w_155 : Cond.fieldLink "OutOrder$Least" 26 "OutOrder$Least" "net" "LOutOrder$Net;" ∈ jtbl := jtbl_in 155 (by decide +kernel) (by decide +kernel)
theorem w_173 : Cond.fieldLink "OutOrder$FullNet" 12 "OutOrder$FullNet" "net" "LOutOrder$Net;" ∈ jtbl := jtbl_in 173 (by decide +kernel) (by decide +kernel)
theorem w_174 : Cond.fieldLink "OutOrder$FullNet" 18 "OutOrder$FullNet" "pairs" "[I" ∈ jtbl := jtbl_in 174 (by decide +kernel) (by decide +kernel)
theorem w_176 : Cond.fieldLink "OutOrder$FullNet" 22 "OutOrder$FullNet" "behind" "[I" ∈ jtbl := jtbl_in 176 (by decide +kernel) (by decide +kernel)
theorem w_178 : Cond.fieldLink "OutOrder$FullNet" 25 "OutOrder$FullNet" "parents" "[I" ∈ jtbl := jtbl_in 178 (by decide +kernel) (by decide +kernel)
theorem w_180 : Cond.fieldLink "OutOrder$FullNet" 28 "OutOrder$FullNet" "heights" "[I" ∈ jtbl := jtbl_in 180 (by decide +kernel) (by decide +kernel)
theorem w_183 : Cond.fieldLink "OutOrder$FullNet" 31 "OutOrder$FullNet" "children" "[I" ∈ jtbl := jtbl_in 183 (by decide +kernel) (by decide +kernel)
theorem w_186 : Cond.fieldLink "OutOrder$FullNet" 34 "OutOrder$FullNet" "groups" "[I" ∈ jtbl := jtbl_in 186 (by decide +kernel) (by decide +kernel)
theorem w_188 : Cond.fieldLink "OutOrder$FullNet" 41 "OutOrder$FullNet" "fillCount" "I" ∈ jtbl := jtbl_in 188 (by decide +kernel) (by decide +kernel)
theorem w_190 : Cond.fieldLink "OutOrder$FullNet" 90 "OutOrder$FullNet" "groupCount" "I" ∈ jtbl := jtbl_in 190 (by decide +kernel) (by decide +kernel)
theorem w_192 : Cond.fieldLink "OutOrder$FullNet" 45 "OutOrder$FullNet" "widest" "I" ∈ jtbl := jtbl_in 192 (by decide +kernel) (by decide +kernel)
theorem w_223 : Cond.fieldLink "OutOrder$Going" 12 "OutOrder$Going" "net" "LOutOrder$Net;" ∈ jtbl := jtbl_in 223 (by decide +kernel) (by decide +kernel)
theorem w_225 : Cond.fieldLink "OutOrder$Going" 18 "OutOrder$Going" "gone" "[I" ∈ jtbl := jtbl_in 225 (by decide +kernel) (by decide +kernel)
theorem w_226 : Cond.fieldLink "OutOrder$Going" 26 "OutOrder$Going" "count" "I" ∈ jtbl := jtbl_in 226 (by decide +kernel) (by decide +kernel)
theorem w_242 : Cond.fieldLink "OutOrder$Work" 11 "OutOrder$Work" "ones" "[[I" ∈ jtbl := jtbl_in 242 (by decide +kernel) (by decide +kernel)
theorem w_243 : Cond.fieldLink "OutOrder$Work" 16 "OutOrder$Work" "pivots" "[I" ∈ jtbl := jtbl_in 243 (by decide +kernel) (by decide +kernel)
theorem w_245 : Cond.fieldLink "OutOrder$Work" 20 "OutOrder$Work" "inverses" "[I" ∈ jtbl := jtbl_in 245 (by decide +kernel) (by decide +kernel)
theorem w_246 : Cond.fieldLink "OutOrder$Work" 23 "OutOrder$Work" "answers" "[I" ∈ jtbl := jtbl_in 246 (by decide +kernel) (by decide +kernel)
theorem w_248 : Cond.fieldLink "OutOrder$Work" 30 "OutOrder$Work" "worked" "I" ∈ jtbl := jtbl_in 248 (by decide +kernel) (by decide +kernel)
theorem w_250 : Cond.fieldLink "OutOrder$Work" 26 "OutOrder$Work" "stuckPlace" "I" ∈ jtbl := jtbl_in 250 (by decide +kernel) (by decide +kernel)
theorem w_271 : Cond.fieldLink "OutOrder$Plan" 9 "OutOrder$Plan" "rounds" "[I" ∈ jtbl := jtbl_in 271 (by decide +kernel) (by decide +kernel)
theorem w_276 : Cond.methodLink "OutOrder" 69 ⟨"OutOrder", "startAnew", "(II)V"⟩ ∈ jtbl := jtbl_in 276 (by decide +kernel) (by decide +kernel)
theorem w_278 : Cond.instanceMethod ⟨"OutOrder", "startAnew", "(II)V"⟩ ∈ jtbl := jtbl_in 278 (by decide +kernel) (by decide +kernel)
theorem w_279 : Cond.code ⟨"OutOrder", "startAnew", "(II)V"⟩ prog_1_method_33_code 3 (Option.none : Option Jvm.ClassFile.FieldType) ∈ jtbl := jtbl_in 279 (by decide +kernel) (by decide +kernel)
theorem w_280 : Cond.methodLink "OutOrder" 270 ⟨"OutOrder$Table", "clear", "(II)V"⟩ ∈ jtbl := jtbl_in 280 (by decide +kernel) (by decide +kernel)
theorem w_281 : Cond.instanceMethod ⟨"OutOrder$Table", "clear", "(II)V"⟩ ∈ jtbl := jtbl_in 281 (by decide +kernel) (by decide +kernel)
theorem w_282 : Cond.selects "OutOrder$Table" ⟨"OutOrder$Table", "clear", "(II)V"⟩ ⟨"OutOrder$Table", "clear", "(II)V"⟩ ∈ jtbl := jtbl_in 282 (by decide +kernel) (by decide +kernel)
theorem w_283 : Cond.code ⟨"OutOrder$Table", "clear", "(II)V"⟩ prog_11_method_2_code 5 (Option.none : Option Jvm.ClassFile.FieldType) ∈ jtbl := jtbl_in 283 (by decide +kernel) (by decide +kernel)
theorem w_284 : Cond.methodLink "OutOrder" 273 ⟨"OutOrder$Row", "byNumbers", "(I)V"⟩ ∈ jtbl := jtbl_in 284 (by decide +kernel) (by decide +kernel)
theorem w_285 : Cond.instanceMethod ⟨"OutOrder$Row", "byNumbers", "(I)V"⟩ ∈ jtbl := jtbl_in 285 (by decide +kernel) (by decide +kernel)
theorem w_286 : Cond.selects "OutOrder$Row" ⟨"OutOrder$Row", "byNumbers", "(I)V"⟩ ⟨"OutOrder$Row", "byNumbers", "(I)V"⟩ ∈ jtbl := jtbl_in 286 (by decide +kernel) (by decide +kernel)
theorem w_287 : Cond.code ⟨"OutOrder$Row", "byNumbers", "(I)V"⟩ prog_9_method_2_code 3 (Option.none : Option Jvm.ClassFile.FieldType) ∈ jtbl := jtbl_in 287 (by decide +kernel) (by decide +kernel)
theorem w_288 : Cond.methodLink "OutOrder$Row" 22 ⟨"OutOrder$Row", "set", "(II)V"⟩ ∈ jtbl := jtbl_in 288 (by decide +kernel) (by decide +kernel)
theorem w_289 : Cond.instanceMethod ⟨"OutOrder$Row", "set", "(II)V"⟩ ∈ jtbl := jtbl_in 289 (by decide +kernel) (by decide +kernel)
theorem w_290 : Cond.selects "OutOrder$Row" ⟨"OutOrder$Row", "set", "(II)V"⟩ ⟨"OutOrder$Row", "set", "(II)V"⟩ ∈ jtbl := jtbl_in 290 (by decide +kernel) (by decide +kernel)
theorem w_291 : Cond.code ⟨"OutOrder$Row", "set", "(II)V"⟩ prog_9_method_3_code 3 (Option.none : Option Jvm.ClassFile.FieldType) ∈ jtbl := jtbl_in 291 (by decide +kernel) (by decide +kernel)
theorem w_292 : Cond.methodLink "OutOrder" 94 ⟨"OutOrder", "numbersChanged", "()V"⟩ ∈ jtbl := jtbl_in 292 (by decide +kernel) (by decide +kernel)
theorem w_294 : Cond.instanceMethod ⟨"OutOrder", "numbersChanged", "()V"⟩ ∈ jtbl := jtbl_in 294 (by decide +kernel) (by decide +kernel)
theorem w_295 : Cond.code ⟨"OutOrder", "numbersChanged", "()V"⟩ prog_1_method_34_code 1 (Option.none : Option Jvm.ClassFile.FieldType) ∈ jtbl := jtbl_in 295 (by decide +kernel) (by decide +kernel)
theorem w_296 : Cond.methodLink "OutOrder" 181 ⟨"OutOrder$Going", "restart", "(LOutOrder$Table;)V"⟩ ∈ jtbl := jtbl_in 296 (by decide +kernel) (by decide +kernel)
theorem w_297 : Cond.instanceMethod ⟨"OutOrder$Going", "restart", "(LOutOrder$Table;)V"⟩ ∈ jtbl := jtbl_in 297 (by decide +kernel) (by decide +kernel)
theorem w_298 : Cond.selects "OutOrder$Going" ⟨"OutOrder$Going", "restart", "(LOutOrder$Table;)V"⟩ ⟨"OutOrder$Going", "restart", "(LOutOrder$Table;)V"⟩ ∈ jtbl := jtbl_in 298 (by decide +kernel) (by decide +kernel)
theorem w_299 : Cond.code ⟨"OutOrder$Going", "restart", "(LOutOrder$Table;)V"⟩ prog_3_method_2_code 2 (Option.none : Option Jvm.ClassFile.FieldType) ∈ jtbl := jtbl_in 299 (by decide +kernel) (by decide +kernel)
theorem w_300 : Cond.methodLink "OutOrder$Going" 22 ⟨"OutOrder$Net", "take", "(LOutOrder$Table;)V"⟩ ∈ jtbl := jtbl_in 300 (by decide +kernel) (by decide +kernel)
theorem w_301 : Cond.instanceMethod ⟨"OutOrder$Net", "take", "(LOutOrder$Table;)V"⟩ ∈ jtbl := jtbl_in 301 (by decide +kernel) (by decide +kernel)
theorem w_302 : Cond.selects "OutOrder$Net" ⟨"OutOrder$Net", "take", "(LOutOrder$Table;)V"⟩ ⟨"OutOrder$Net", "take", "(LOutOrder$Table;)V"⟩ ∈ jtbl := jtbl_in 302 (by decide +kernel) (by decide +kernel)
theorem w_303 : Cond.code ⟨"OutOrder$Net", "take", "(LOutOrder$Table;)V"⟩ prog_6_method_2_code 3 (Option.none : Option Jvm.ClassFile.FieldType) ∈ jtbl := jtbl_in 303 (by decide +kernel) (by decide +kernel)
theorem w_304 : Cond.methodLink "OutOrder" 111 ⟨"OutOrder", "orderChanged", "()V"⟩ ∈ jtbl := jtbl_in 304 (by decide +kernel) (by decide +kernel)
theorem w_306 : Cond.instanceMethod ⟨"OutOrder", "orderChanged", "()V"⟩ ∈ jtbl := jtbl_in 306 (by decide +kernel) (by decide +kernel)
theorem w_307 : Cond.code ⟨"OutOrder", "orderChanged", "()V"⟩ prog_1_method_35_code 1 (Option.none : Option Jvm.ClassFile.FieldType) ∈ jtbl := jtbl_in 307 (by decide +kernel) (by decide +kernel)
theorem w_308 : Cond.methodLink "OutOrder" 283 ⟨"OutOrder$Work", "forget", "()V"⟩ ∈ jtbl := jtbl_in 308 (by decide +kernel) (by decide +kernel)
theorem w_309 : Cond.instanceMethod ⟨"OutOrder$Work", "forget", "()V"⟩ ∈ jtbl := jtbl_in 309 (by decide +kernel) (by decide +kernel)
theorem w_310 : Cond.selects "OutOrder$Work" ⟨"OutOrder$Work", "forget", "()V"⟩ ⟨"OutOrder$Work", "forget", "()V"⟩ ∈ jtbl := jtbl_in 310 (by decide +kernel) (by decide +kernel)
theorem w_311 : Cond.code ⟨"OutOrder$Work", "forget", "()V"⟩ prog_12_method_2_code 1 (Option.none : Option Jvm.ClassFile.FieldType) ∈ jtbl := jtbl_in 311 (by decide +kernel) (by decide +kernel)
theorem w_312 : Cond.fieldLink "OutOrder" 12 "OutOrder" "numbers" "LOutOrder$Table;" ∈ jtbl := jtbl_in 312 (by decide +kernel) (by decide +kernel)
theorem w_313 : Cond.fieldLink "OutOrder" 19 "OutOrder" "row" "LOutOrder$Row;" ∈ jtbl := jtbl_in 313 (by decide +kernel) (by decide +kernel)
theorem w_314 : Cond.fieldLink "OutOrder" 26 "OutOrder" "rules" "LOutOrder$Rules;" ∈ jtbl := jtbl_in 314 (by decide +kernel) (by decide +kernel)
theorem w_315 : Cond.fieldLink "OutOrder" 33 "OutOrder" "minima" "LOutOrder$Least;" ∈ jtbl := jtbl_in 315 (by decide +kernel) (by decide +kernel)
theorem w_316 : Cond.fieldLink "OutOrder" 40 "OutOrder" "full" "LOutOrder$FullNet;" ∈ jtbl := jtbl_in 316 (by decide +kernel) (by decide +kernel)
theorem w_317 : Cond.fieldLink "OutOrder" 47 "OutOrder" "state" "LOutOrder$Going;" ∈ jtbl := jtbl_in 317 (by decide +kernel) (by decide +kernel)
theorem w_318 : Cond.fieldLink "OutOrder" 54 "OutOrder" "factors" "LOutOrder$Work;" ∈ jtbl := jtbl_in 318 (by decide +kernel) (by decide +kernel)
theorem w_319 : Cond.fieldLink "OutOrder" 61 "OutOrder" "shares" "LOutOrder$Plan;" ∈ jtbl := jtbl_in 319 (by decide +kernel) (by decide +kernel)
theorem w_320 : Cond.fieldLink "OutOrder" 65 "OutOrder" "refusals" "[I" ∈ jtbl := jtbl_in 320 (by decide +kernel) (by decide +kernel)
theorem w_321 : Cond.fieldLink "OutOrder" 280 "OutOrder" "fullKnown" "Z" ∈ jtbl := jtbl_in 321 (by decide +kernel) (by decide +kernel)
theorem w_322 : Cond.fieldLink "OutOrder" 276 "OutOrder" "minimaKnown" "Z" ∈ jtbl := jtbl_in 322 (by decide +kernel) (by decide +kernel)
theorem w_350 : Cond.methodLink "OutOrder" 73 ⟨"OutOrder", "refuse", "(I)I"⟩ ∈ jtbl := jtbl_in 350 (by decide +kernel) (by decide +kernel)
theorem w_352 : Cond.instanceMethod ⟨"OutOrder", "refuse", "(I)I"⟩ ∈ jtbl := jtbl_in 352 (by decide +kernel) (by decide +kernel)
theorem w_353 : Cond.code ⟨"OutOrder", "refuse", "(I)I"⟩ prog_1_method_32_code 3 (Option.some Jvm.ClassFile.FieldType.int) ∈ jtbl := jtbl_in 353 (by decide +kernel) (by decide +kernel)
theorem w_354 : Cond.methodLink "OutOrder" 77 ⟨"OutOrder$Modulus", "isPrime", "(I)Z"⟩ ∈ jtbl := jtbl_in 354 (by decide +kernel) (by decide +kernel)
theorem w_355 : Cond.static ⟨"OutOrder$Modulus", "isPrime", "(I)Z"⟩ ∈ jtbl := jtbl_in 355 (by decide +kernel) (by decide +kernel)
theorem w_356 : Cond.code ⟨"OutOrder$Modulus", "isPrime", "(I)Z"⟩ prog_5_method_2_code 2 (Option.some Jvm.ClassFile.FieldType.boolean) ∈ jtbl := jtbl_in 356 (by decide +kernel) (by decide +kernel)
theorem w_361 : Cond.methodLink "OutOrder" 83 ⟨"OutOrder", "isNobody", "(I)Z"⟩ ∈ jtbl := jtbl_in 361 (by decide +kernel) (by decide +kernel)
theorem w_363 : Cond.instanceMethod ⟨"OutOrder", "isNobody", "(I)Z"⟩ ∈ jtbl := jtbl_in 363 (by decide +kernel) (by decide +kernel)
theorem w_364 : Cond.code ⟨"OutOrder", "isNobody", "(I)Z"⟩ prog_1_method_31_code 2 (Option.some Jvm.ClassFile.FieldType.boolean) ∈ jtbl := jtbl_in 364 (by decide +kernel) (by decide +kernel)
theorem w_365 : Cond.methodLink "OutOrder" 90 ⟨"OutOrder$Table", "set", "(III)V"⟩ ∈ jtbl := jtbl_in 365 (by decide +kernel) (by decide +kernel)
theorem w_366 : Cond.instanceMethod ⟨"OutOrder$Table", "set", "(III)V"⟩ ∈ jtbl := jtbl_in 366 (by decide +kernel) (by decide +kernel)
theorem w_367 : Cond.selects "OutOrder$Table" ⟨"OutOrder$Table", "set", "(III)V"⟩ ⟨"OutOrder$Table", "set", "(III)V"⟩ ∈ jtbl := jtbl_in 367 (by decide +kernel) (by decide +kernel)
theorem w_368 : Cond.code ⟨"OutOrder$Table", "set", "(III)V"⟩ prog_11_method_3_code 5 (Option.none : Option Jvm.ClassFile.FieldType) ∈ jtbl := jtbl_in 368 (by decide +kernel) (by decide +kernel)
theorem w_369 : Cond.methodLink "OutOrder$Table" 40 ⟨"OutOrder$Modulus", "reduce", "(I)I"⟩ ∈ jtbl := jtbl_in 369 (by decide +kernel) (by decide +kernel)
theorem w_370 : Cond.instanceMethod ⟨"OutOrder$Modulus", "reduce", "(I)I"⟩ ∈ jtbl := jtbl_in 370 (by decide +kernel) (by decide +kernel)
theorem w_371 : Cond.selects "OutOrder$Modulus" ⟨"OutOrder$Modulus", "reduce", "(I)I"⟩ ⟨"OutOrder$Modulus", "reduce", "(I)I"⟩ ∈ jtbl := jtbl_in 371 (by decide +kernel) (by decide +kernel)
theorem w_372 : Cond.code ⟨"OutOrder$Modulus", "reduce", "(I)I"⟩ prog_5_method_3_code 2 (Option.some Jvm.ClassFile.FieldType.int) ∈ jtbl := jtbl_in 372 (by decide +kernel) (by decide +kernel)
theorem w_373 : Cond.methodLink "OutOrder$Modulus" 15 ⟨"java/lang/Math", "floorMod", "(II)I"⟩ ∈ jtbl := jtbl_in 373 (by decide +kernel) (by decide +kernel)
theorem w_374 : Cond.static ⟨"java/lang/Math", "floorMod", "(II)I"⟩ ∈ jtbl := jtbl_in 374 (by decide +kernel) (by decide +kernel)
theorem w_375 : Cond.code ⟨"java/lang/Math", "floorMod", "(II)I"⟩ prog_16_method_50_code 3 (Option.some Jvm.ClassFile.FieldType.int) ∈ jtbl := jtbl_in 375 (by decide +kernel) (by decide +kernel)
theorem w_384 : Cond.methodLink "OutOrder" 97 ⟨"OutOrder$Table", "isHeld", "(I)Z"⟩ ∈ jtbl := jtbl_in 384 (by decide +kernel) (by decide +kernel)
theorem w_385 : Cond.instanceMethod ⟨"OutOrder$Table", "isHeld", "(I)Z"⟩ ∈ jtbl := jtbl_in 385 (by decide +kernel) (by decide +kernel)
theorem w_386 : Cond.selects "OutOrder$Table" ⟨"OutOrder$Table", "isHeld", "(I)Z"⟩ ⟨"OutOrder$Table", "isHeld", "(I)Z"⟩ ∈ jtbl := jtbl_in 386 (by decide +kernel) (by decide +kernel)
theorem w_387 : Cond.code ⟨"OutOrder$Table", "isHeld", "(I)Z"⟩ prog_11_method_4_code 2 (Option.some Jvm.ClassFile.FieldType.boolean) ∈ jtbl := jtbl_in 387 (by decide +kernel) (by decide +kernel)
theorem w_392 : Cond.methodLink "OutOrder" 107 ⟨"OutOrder", "arrange", "(I)V"⟩ ∈ jtbl := jtbl_in 392 (by decide +kernel) (by decide +kernel)
theorem w_394 : Cond.instanceMethod ⟨"OutOrder", "arrange", "(I)V"⟩ ∈ jtbl := jtbl_in 394 (by decide +kernel) (by decide +kernel)
theorem w_395 : Cond.code ⟨"OutOrder", "arrange", "(I)V"⟩ prog_1_method_36_code 2 (Option.none : Option Jvm.ClassFile.FieldType) ∈ jtbl := jtbl_in 395 (by decide +kernel) (by decide +kernel)
theorem w_396 : Cond.methodLink "OutOrder" 286 ⟨"OutOrder$Row", "turn", "()V"⟩ ∈ jtbl := jtbl_in 396 (by decide +kernel) (by decide +kernel)
theorem w_397 : Cond.instanceMethod ⟨"OutOrder$Row", "turn", "()V"⟩ ∈ jtbl := jtbl_in 397 (by decide +kernel) (by decide +kernel)
theorem w_398 : Cond.selects "OutOrder$Row" ⟨"OutOrder$Row", "turn", "()V"⟩ ⟨"OutOrder$Row", "turn", "()V"⟩ ∈ jtbl := jtbl_in 398 (by decide +kernel) (by decide +kernel)
theorem w_399 : Cond.code ⟨"OutOrder$Row", "turn", "()V"⟩ prog_9_method_5_code 2 (Option.none : Option Jvm.ClassFile.FieldType) ∈ jtbl := jtbl_in 399 (by decide +kernel) (by decide +kernel)
theorem w_400 : Cond.methodLink "OutOrder$Row" 26 ⟨"OutOrder$Row", "exchange", "(II)V"⟩ ∈ jtbl := jtbl_in 400 (by decide +kernel) (by decide +kernel)
theorem w_401 : Cond.instanceMethod ⟨"OutOrder$Row", "exchange", "(II)V"⟩ ∈ jtbl := jtbl_in 401 (by decide +kernel) (by decide +kernel)
theorem w_402 : Cond.selects "OutOrder$Row" ⟨"OutOrder$Row", "exchange", "(II)V"⟩ ⟨"OutOrder$Row", "exchange", "(II)V"⟩ ∈ jtbl := jtbl_in 402 (by decide +kernel) (by decide +kernel)
theorem w_403 : Cond.code ⟨"OutOrder$Row", "exchange", "(II)V"⟩ prog_9_method_4_code 4 (Option.none : Option Jvm.ClassFile.FieldType) ∈ jtbl := jtbl_in 403 (by decide +kernel) (by decide +kernel)
theorem w_404 : Cond.methodLink "OutOrder" 289 ⟨"OutOrder$Rules", "search", "(LOutOrder$Table;LOutOrder$Row;)V"⟩ ∈ jtbl := jtbl_in 404 (by decide +kernel) (by decide +kernel)
theorem w_405 : Cond.instanceMethod ⟨"OutOrder$Rules", "search", "(LOutOrder$Table;LOutOrder$Row;)V"⟩ ∈ jtbl := jtbl_in 405 (by decide +kernel) (by decide +kernel)
theorem w_406 : Cond.selects "OutOrder$Rules" ⟨"OutOrder$Rules", "search", "(LOutOrder$Table;LOutOrder$Row;)V"⟩ ⟨"OutOrder$Rules", "search", "(LOutOrder$Table;LOutOrder$Row;)V"⟩ ∈ jtbl := jtbl_in 406 (by decide +kernel) (by decide +kernel)
theorem w_407 : Cond.code ⟨"OutOrder$Rules", "search", "(LOutOrder$Table;LOutOrder$Row;)V"⟩ prog_10_method_5_code 6 (Option.none : Option Jvm.ClassFile.FieldType) ∈ jtbl := jtbl_in 407 (by decide +kernel) (by decide +kernel)
theorem w_408 : Cond.methodLink "OutOrder$Rules" 65 ⟨"OutOrder$Rules", "mostJoined", "(LOutOrder$Table;I)I"⟩ ∈ jtbl := jtbl_in 408 (by decide +kernel) (by decide +kernel)
theorem w_409 : Cond.static ⟨"OutOrder$Rules", "mostJoined", "(LOutOrder$Table;I)I"⟩ ∈ jtbl := jtbl_in 409 (by decide +kernel) (by decide +kernel)
theorem w_410 : Cond.code ⟨"OutOrder$Rules", "mostJoined", "(LOutOrder$Table;I)I"⟩ prog_10_method_6_code 6 (Option.some Jvm.ClassFile.FieldType.int) ∈ jtbl := jtbl_in 410 (by decide +kernel) (by decide +kernel)
theorem w_411 : Cond.methodLink "OutOrder$Rules" 56 ⟨"java/lang/Integer", "bitCount", "(I)I"⟩ ∈ jtbl := jtbl_in 411 (by decide +kernel) (by decide +kernel)
theorem w_412 : Cond.static ⟨"java/lang/Integer", "bitCount", "(I)I"⟩ ∈ jtbl := jtbl_in 412 (by decide +kernel) (by decide +kernel)
theorem w_413 : Cond.code ⟨"java/lang/Integer", "bitCount", "(I)I"⟩ prog_15_method_49_code 1 (Option.some Jvm.ClassFile.FieldType.int) ∈ jtbl := jtbl_in 413 (by decide +kernel) (by decide +kernel)
theorem w_414 : Cond.constant "java/lang/Integer" 265 (1431655765 : Int32) ∈ jtbl := jtbl_in 414 (by decide +kernel) (by decide +kernel)
theorem w_415 : Cond.constant "java/lang/Integer" 266 (858993459 : Int32) ∈ jtbl := jtbl_in 415 (by decide +kernel) (by decide +kernel)
theorem w_416 : Cond.constant "java/lang/Integer" 267 (252645135 : Int32) ∈ jtbl := jtbl_in 416 (by decide +kernel) (by decide +kernel)
theorem w_417 : Cond.methodLink "OutOrder$Rules" 38 ⟨"OutOrder$Row", "set", "(II)V"⟩ ∈ jtbl := jtbl_in 417 (by decide +kernel) (by decide +kernel)
theorem w_418 : Cond.methodLink "OutOrder" 168 ⟨"OutOrder", "knownMinima", "()LOutOrder$Least;"⟩ ∈ jtbl := jtbl_in 418 (by decide +kernel) (by decide +kernel)
theorem w_420 : Cond.instanceMethod ⟨"OutOrder", "knownMinima", "()LOutOrder$Least;"⟩ ∈ jtbl := jtbl_in 420 (by decide +kernel) (by decide +kernel)
theorem w_421 : Cond.code ⟨"OutOrder", "knownMinima", "()LOutOrder$Least;"⟩ prog_1_method_38_code 1 (Option.some (Jvm.ClassFile.FieldType.object "OutOrder$Least")) ∈ jtbl := jtbl_in 421 (by decide +kernel) (by decide +kernel)
theorem w_422 : Cond.methodLink "OutOrder" 301 ⟨"OutOrder$Least", "reckon", "(LOutOrder$Table;)V"⟩ ∈ jtbl := jtbl_in 422 (by decide +kernel) (by decide +kernel)
theorem w_423 : Cond.instanceMethod ⟨"OutOrder$Least", "reckon", "(LOutOrder$Table;)V"⟩ ∈ jtbl := jtbl_in 423 (by decide +kernel) (by decide +kernel)
theorem w_424 : Cond.selects "OutOrder$Least" ⟨"OutOrder$Least", "reckon", "(LOutOrder$Table;)V"⟩ ⟨"OutOrder$Least", "reckon", "(LOutOrder$Table;)V"⟩ ∈ jtbl := jtbl_in 424 (by decide +kernel) (by decide +kernel)
theorem w_425 : Cond.code ⟨"OutOrder$Least", "reckon", "(LOutOrder$Table;)V"⟩ prog_4_method_2_code 7 (Option.none : Option Jvm.ClassFile.FieldType) ∈ jtbl := jtbl_in 425 (by decide +kernel) (by decide +kernel)
theorem w_426 : Cond.methodLink "OutOrder$Least" 39 ⟨"OutOrder$Least", "makeNet", "(III)V"⟩ ∈ jtbl := jtbl_in 426 (by decide +kernel) (by decide +kernel)
theorem w_428 : Cond.instanceMethod ⟨"OutOrder$Least", "makeNet", "(III)V"⟩ ∈ jtbl := jtbl_in 428 (by decide +kernel) (by decide +kernel)
theorem w_429 : Cond.code ⟨"OutOrder$Least", "makeNet", "(III)V"⟩ prog_4_method_3_code 4 (Option.none : Option Jvm.ClassFile.FieldType) ∈ jtbl := jtbl_in 429 (by decide +kernel) (by decide +kernel)
theorem w_430 : Cond.methodLink "OutOrder$Least" 47 ⟨"OutOrder$Net", "copyWithout", "(I[I[II)V"⟩ ∈ jtbl := jtbl_in 430 (by decide +kernel) (by decide +kernel)
theorem w_431 : Cond.static ⟨"OutOrder$Net", "copyWithout", "(I[I[II)V"⟩ ∈ jtbl := jtbl_in 431 (by decide +kernel) (by decide +kernel)
theorem w_432 : Cond.code ⟨"OutOrder$Net", "copyWithout", "(I[I[II)V"⟩ prog_6_method_6_code 7 (Option.none : Option Jvm.ClassFile.FieldType) ∈ jtbl := jtbl_in 432 (by decide +kernel) (by decide +kernel)
theorem w_433 : Cond.methodLink "OutOrder$Least" 51 ⟨"java/lang/System", "arraycopy", "(Ljava/lang/Object;ILjava/lang/Object;II)V"⟩ ∈ jtbl := jtbl_in 433 (by decide +kernel) (by decide +kernel)
theorem w_434 : Cond.static ⟨"java/lang/System", "arraycopy", "(Ljava/lang/Object;ILjava/lang/Object;II)V"⟩ ∈ jtbl := jtbl_in 434 (by decide +kernel) (by decide +kernel)
theorem w_435 : Cond.native ⟨"java/lang/System", "arraycopy", "(Ljava/lang/Object;ILjava/lang/Object;II)V"⟩ ∈ jtbl := jtbl_in 435 (by decide +kernel) (by decide +kernel)
theorem w_436 : Cond.methodLink "OutOrder$Least" 43 ⟨"OutOrder$Least", "weigh", "(II)V"⟩ ∈ jtbl := jtbl_in 436 (by decide +kernel) (by decide +kernel)
theorem w_438 : Cond.instanceMethod ⟨"OutOrder$Least", "weigh", "(II)V"⟩ ∈ jtbl := jtbl_in 438 (by decide +kernel) (by decide +kernel)
theorem w_439 : Cond.code ⟨"OutOrder$Least", "weigh", "(II)V"⟩ prog_4_method_4_code 8 (Option.none : Option Jvm.ClassFile.FieldType) ∈ jtbl := jtbl_in 439 (by decide +kernel) (by decide +kernel)
theorem w_440 : Cond.methodLink "OutOrder$Least" 57 ⟨"java/lang/Integer", "bitCount", "(I)I"⟩ ∈ jtbl := jtbl_in 440 (by decide +kernel) (by decide +kernel)
theorem w_441 : Cond.methodLink "OutOrder$Least" 63 ⟨"java/lang/Math", "min", "(II)I"⟩ ∈ jtbl := jtbl_in 441 (by decide +kernel) (by decide +kernel)
theorem w_442 : Cond.static ⟨"java/lang/Math", "min", "(II)I"⟩ ∈ jtbl := jtbl_in 442 (by decide +kernel) (by decide +kernel)
theorem w_443 : Cond.code ⟨"java/lang/Math", "min", "(II)I"⟩ prog_16_method_69_code 2 (Option.some Jvm.ClassFile.FieldType.int) ∈ jtbl := jtbl_in 443 (by decide +kernel) (by decide +kernel)
theorem w_444 : Cond.methodLink "OutOrder$Least" 69 ⟨"java/lang/Math", "max", "(II)I"⟩ ∈ jtbl := jtbl_in 444 (by decide +kernel) (by decide +kernel)
theorem w_445 : Cond.static ⟨"java/lang/Math", "max", "(II)I"⟩ ∈ jtbl := jtbl_in 445 (by decide +kernel) (by decide +kernel)
theorem w_446 : Cond.code ⟨"java/lang/Math", "max", "(II)I"⟩ prog_16_method_65_code 2 (Option.some Jvm.ClassFile.FieldType.int) ∈ jtbl := jtbl_in 446 (by decide +kernel) (by decide +kernel)
theorem w_447 : Cond.methodLink "OutOrder" 292 ⟨"OutOrder$Least", "walk", "(LOutOrder$Table;LOutOrder$Row;Z)V"⟩ ∈ jtbl := jtbl_in 447 (by decide +kernel) (by decide +kernel)
theorem w_448 : Cond.instanceMethod ⟨"OutOrder$Least", "walk", "(LOutOrder$Table;LOutOrder$Row;Z)V"⟩ ∈ jtbl := jtbl_in 448 (by decide +kernel) (by decide +kernel)
theorem w_449 : Cond.selects "OutOrder$Least" ⟨"OutOrder$Least", "walk", "(LOutOrder$Table;LOutOrder$Row;Z)V"⟩ ⟨"OutOrder$Least", "walk", "(LOutOrder$Table;LOutOrder$Row;Z)V"⟩ ∈ jtbl := jtbl_in 449 (by decide +kernel) (by decide +kernel)
theorem w_450 : Cond.code ⟨"OutOrder$Least", "walk", "(LOutOrder$Table;LOutOrder$Row;Z)V"⟩ prog_4_method_5_code 7 (Option.none : Option Jvm.ClassFile.FieldType) ∈ jtbl := jtbl_in 450 (by decide +kernel) (by decide +kernel)
theorem w_451 : Cond.methodLink "OutOrder$Least" 72 ⟨"OutOrder$Net", "take", "(LOutOrder$Table;)V"⟩ ∈ jtbl := jtbl_in 451 (by decide +kernel) (by decide +kernel)
theorem w_452 : Cond.methodLink "OutOrder$Least" 76 ⟨"OutOrder$Least", "firstGood", "(IZ)I"⟩ ∈ jtbl := jtbl_in 452 (by decide +kernel) (by decide +kernel)
theorem w_454 : Cond.instanceMethod ⟨"OutOrder$Least", "firstGood", "(IZ)I"⟩ ∈ jtbl := jtbl_in 454 (by decide +kernel) (by decide +kernel)
theorem w_455 : Cond.code ⟨"OutOrder$Least", "firstGood", "(IZ)I"⟩ prog_4_method_6_code 4 (Option.some Jvm.ClassFile.FieldType.int) ∈ jtbl := jtbl_in 455 (by decide +kernel) (by decide +kernel)
theorem w_456 : Cond.methodLink "OutOrder$Least" 90 ⟨"OutOrder$Net", "has", "(I)Z"⟩ ∈ jtbl := jtbl_in 456 (by decide +kernel) (by decide +kernel)
theorem w_457 : Cond.instanceMethod ⟨"OutOrder$Net", "has", "(I)Z"⟩ ∈ jtbl := jtbl_in 457 (by decide +kernel) (by decide +kernel)
theorem w_458 : Cond.selects "OutOrder$Net" ⟨"OutOrder$Net", "has", "(I)Z"⟩ ⟨"OutOrder$Net", "has", "(I)Z"⟩ ∈ jtbl := jtbl_in 458 (by decide +kernel) (by decide +kernel)
theorem w_459 : Cond.code ⟨"OutOrder$Net", "has", "(I)Z"⟩ prog_6_method_3_code 2 (Option.some Jvm.ClassFile.FieldType.boolean) ∈ jtbl := jtbl_in 459 (by decide +kernel) (by decide +kernel)
theorem w_460 : Cond.methodLink "OutOrder$Least" 94 ⟨"OutOrder$Least", "isGood", "(IIZ)Z"⟩ ∈ jtbl := jtbl_in 460 (by decide +kernel) (by decide +kernel)
theorem w_462 : Cond.instanceMethod ⟨"OutOrder$Least", "isGood", "(IIZ)Z"⟩ ∈ jtbl := jtbl_in 462 (by decide +kernel) (by decide +kernel)
theorem w_463 : Cond.code ⟨"OutOrder$Least", "isGood", "(IIZ)Z"⟩ prog_4_method_7_code 6 (Option.some Jvm.ClassFile.FieldType.boolean) ∈ jtbl := jtbl_in 463 (by decide +kernel) (by decide +kernel)
theorem w_464 : Cond.methodLink "OutOrder$Least" 80 ⟨"OutOrder$Row", "set", "(II)V"⟩ ∈ jtbl := jtbl_in 464 (by decide +kernel) (by decide +kernel)
theorem w_465 : Cond.methodLink "OutOrder$Least" 85 ⟨"OutOrder$Net", "remove", "(I)V"⟩ ∈ jtbl := jtbl_in 465 (by decide +kernel) (by decide +kernel)
theorem w_466 : Cond.instanceMethod ⟨"OutOrder$Net", "remove", "(I)V"⟩ ∈ jtbl := jtbl_in 466 (by decide +kernel) (by decide +kernel)
theorem w_467 : Cond.selects "OutOrder$Net" ⟨"OutOrder$Net", "remove", "(I)V"⟩ ⟨"OutOrder$Net", "remove", "(I)V"⟩ ∈ jtbl := jtbl_in 467 (by decide +kernel) (by decide +kernel)
theorem w_468 : Cond.code ⟨"OutOrder$Net", "remove", "(I)V"⟩ prog_6_method_5_code 2 (Option.none : Option Jvm.ClassFile.FieldType) ∈ jtbl := jtbl_in 468 (by decide +kernel) (by decide +kernel)
theorem w_469 : Cond.methodLink "OutOrder$Net" 34 ⟨"OutOrder$Net", "copyWithout", "(I[I[II)V"⟩ ∈ jtbl := jtbl_in 469 (by decide +kernel) (by decide +kernel)
theorem w_470 : Cond.methodLink "OutOrder" 296 ⟨"OutOrder$Rules", "greedy", "(ILOutOrder$Table;LOutOrder$Row;)V"⟩ ∈ jtbl := jtbl_in 470 (by decide +kernel) (by decide +kernel)
theorem w_471 : Cond.instanceMethod ⟨"OutOrder$Rules", "greedy", "(ILOutOrder$Table;LOutOrder$Row;)V"⟩ ∈ jtbl := jtbl_in 471 (by decide +kernel) (by decide +kernel)
theorem w_472 : Cond.selects "OutOrder$Rules" ⟨"OutOrder$Rules", "greedy", "(ILOutOrder$Table;LOutOrder$Row;)V"⟩ ⟨"OutOrder$Rules", "greedy", "(ILOutOrder$Table;LOutOrder$Row;)V"⟩ ∈ jtbl := jtbl_in 472 (by decide +kernel) (by decide +kernel)
theorem w_473 : Cond.code ⟨"OutOrder$Rules", "greedy", "(ILOutOrder$Table;LOutOrder$Row;)V"⟩ prog_10_method_2_code 7 (Option.none : Option Jvm.ClassFile.FieldType) ∈ jtbl := jtbl_in 473 (by decide +kernel) (by decide +kernel)
theorem w_474 : Cond.methodLink "OutOrder$Rules" 18 ⟨"OutOrder$Net", "take", "(LOutOrder$Table;)V"⟩ ∈ jtbl := jtbl_in 474 (by decide +kernel) (by decide +kernel)
theorem w_475 : Cond.methodLink "OutOrder$Rules" 34 ⟨"OutOrder$Rules", "cheapest", "(II)I"⟩ ∈ jtbl := jtbl_in 475 (by decide +kernel) (by decide +kernel)
theorem w_477 : Cond.instanceMethod ⟨"OutOrder$Rules", "cheapest", "(II)I"⟩ ∈ jtbl := jtbl_in 477 (by decide +kernel) (by decide +kernel)
theorem w_478 : Cond.code ⟨"OutOrder$Rules", "cheapest", "(II)I"⟩ prog_10_method_3_code 6 (Option.some Jvm.ClassFile.FieldType.int) ∈ jtbl := jtbl_in 478 (by decide +kernel) (by decide +kernel)
theorem w_479 : Cond.methodLink "OutOrder$Rules" 49 ⟨"OutOrder$Rules", "cost", "(II)I"⟩ ∈ jtbl := jtbl_in 479 (by decide +kernel) (by decide +kernel)
theorem w_481 : Cond.instanceMethod ⟨"OutOrder$Rules", "cost", "(II)I"⟩ ∈ jtbl := jtbl_in 481 (by decide +kernel) (by decide +kernel)
theorem w_482 : Cond.code ⟨"OutOrder$Rules", "cost", "(II)I"⟩ prog_10_method_4_code 3 (Option.some Jvm.ClassFile.FieldType.int) ∈ jtbl := jtbl_in 482 (by decide +kernel) (by decide +kernel)
theorem w_483 : Cond.methodLink "OutOrder$Rules" 62 ⟨"OutOrder$Net", "missing", "(I)I"⟩ ∈ jtbl := jtbl_in 483 (by decide +kernel) (by decide +kernel)
theorem w_484 : Cond.instanceMethod ⟨"OutOrder$Net", "missing", "(I)I"⟩ ∈ jtbl := jtbl_in 484 (by decide +kernel) (by decide +kernel)
theorem w_485 : Cond.selects "OutOrder$Net" ⟨"OutOrder$Net", "missing", "(I)I"⟩ ⟨"OutOrder$Net", "missing", "(I)I"⟩ ∈ jtbl := jtbl_in 485 (by decide +kernel) (by decide +kernel)
theorem w_486 : Cond.code ⟨"OutOrder$Net", "missing", "(I)I"⟩ prog_6_method_4_code 5 (Option.some Jvm.ClassFile.FieldType.int) ∈ jtbl := jtbl_in 486 (by decide +kernel) (by decide +kernel)
theorem w_487 : Cond.methodLink "OutOrder$Net" 28 ⟨"java/lang/Integer", "bitCount", "(I)I"⟩ ∈ jtbl := jtbl_in 487 (by decide +kernel) (by decide +kernel)
theorem w_488 : Cond.methodLink "OutOrder$Rules" 44 ⟨"OutOrder$Net", "remove", "(I)V"⟩ ∈ jtbl := jtbl_in 488 (by decide +kernel) (by decide +kernel)
theorem w_489 : Cond.methodLink "OutOrder" 114 ⟨"OutOrder", "fullNet", "()LOutOrder$FullNet;"⟩ ∈ jtbl := jtbl_in 489 (by decide +kernel) (by decide +kernel)
theorem w_491 : Cond.instanceMethod ⟨"OutOrder", "fullNet", "()LOutOrder$FullNet;"⟩ ∈ jtbl := jtbl_in 491 (by decide +kernel) (by decide +kernel)
theorem w_492 : Cond.code ⟨"OutOrder", "fullNet", "()LOutOrder$FullNet;"⟩ prog_1_method_37_code 1 (Option.some (Jvm.ClassFile.FieldType.object "OutOrder$FullNet")) ∈ jtbl := jtbl_in 492 (by decide +kernel) (by decide +kernel)
theorem w_493 : Cond.methodLink "OutOrder" 300 ⟨"OutOrder$FullNet", "reckon", "(LOutOrder$Table;LOutOrder$Row;)V"⟩ ∈ jtbl := jtbl_in 493 (by decide +kernel) (by decide +kernel)
theorem w_494 : Cond.instanceMethod ⟨"OutOrder$FullNet", "reckon", "(LOutOrder$Table;LOutOrder$Row;)V"⟩ ∈ jtbl := jtbl_in 494 (by decide +kernel) (by decide +kernel)
theorem w_495 : Cond.selects "OutOrder$FullNet" ⟨"OutOrder$FullNet", "reckon", "(LOutOrder$Table;LOutOrder$Row;)V"⟩ ⟨"OutOrder$FullNet", "reckon", "(LOutOrder$Table;LOutOrder$Row;)V"⟩ ∈ jtbl := jtbl_in 495 (by decide +kernel) (by decide +kernel)
theorem w_496 : Cond.code ⟨"OutOrder$FullNet", "reckon", "(LOutOrder$Table;LOutOrder$Row;)V"⟩ prog_2_method_2_code 5 (Option.none : Option Jvm.ClassFile.FieldType) ∈ jtbl := jtbl_in 496 (by decide +kernel) (by decide +kernel)
theorem w_497 : Cond.methodLink "OutOrder$FullNet" 37 ⟨"OutOrder$Net", "take", "(LOutOrder$Table;)V"⟩ ∈ jtbl := jtbl_in 497 (by decide +kernel) (by decide +kernel)
theorem w_498 : Cond.methodLink "OutOrder$FullNet" 59 ⟨"java/lang/Integer", "bitCount", "(I)I"⟩ ∈ jtbl := jtbl_in 498 (by decide +kernel) (by decide +kernel)
theorem w_499 : Cond.methodLink "OutOrder$FullNet" 65 ⟨"java/lang/Math", "max", "(II)I"⟩ ∈ jtbl := jtbl_in 499 (by decide +kernel) (by decide +kernel)
theorem w_500 : Cond.methodLink "OutOrder$FullNet" 71 ⟨"OutOrder$FullNet", "listFills", "(I)V"⟩ ∈ jtbl := jtbl_in 500 (by decide +kernel) (by decide +kernel)
theorem w_502 : Cond.instanceMethod ⟨"OutOrder$FullNet", "listFills", "(I)V"⟩ ∈ jtbl := jtbl_in 502 (by decide +kernel) (by decide +kernel)
theorem w_503 : Cond.code ⟨"OutOrder$FullNet", "listFills", "(I)V"⟩ prog_2_method_3_code 5 (Option.none : Option Jvm.ClassFile.FieldType) ∈ jtbl := jtbl_in 503 (by decide +kernel) (by decide +kernel)
theorem w_504 : Cond.methodLink "OutOrder$FullNet" 75 ⟨"OutOrder$Net", "remove", "(I)V"⟩ ∈ jtbl := jtbl_in 504 (by decide +kernel) (by decide +kernel)
theorem w_505 : Cond.methodLink "OutOrder$FullNet" 78 ⟨"OutOrder$FullNet", "makeTree", "(LOutOrder$Row;)V"⟩ ∈ jtbl := jtbl_in 505 (by decide +kernel) (by decide +kernel)
theorem w_507 : Cond.instanceMethod ⟨"OutOrder$FullNet", "makeTree", "(LOutOrder$Row;)V"⟩ ∈ jtbl := jtbl_in 507 (by decide +kernel) (by decide +kernel)
theorem w_508 : Cond.code ⟨"OutOrder$FullNet", "makeTree", "(LOutOrder$Row;)V"⟩ prog_2_method_4_code 5 (Option.none : Option Jvm.ClassFile.FieldType) ∈ jtbl := jtbl_in 508 (by decide +kernel) (by decide +kernel)
theorem w_509 : Cond.methodLink "OutOrder$FullNet" 86 ⟨"OutOrder$FullNet", "firstOf", "(ILOutOrder$Row;)I"⟩ ∈ jtbl := jtbl_in 509 (by decide +kernel) (by decide +kernel)
theorem w_510 : Cond.static ⟨"OutOrder$FullNet", "firstOf", "(ILOutOrder$Row;)I"⟩ ∈ jtbl := jtbl_in 510 (by decide +kernel) (by decide +kernel)
theorem w_511 : Cond.code ⟨"OutOrder$FullNet", "firstOf", "(ILOutOrder$Row;)I"⟩ prog_2_method_5_code 3 (Option.some Jvm.ClassFile.FieldType.int) ∈ jtbl := jtbl_in 511 (by decide +kernel) (by decide +kernel)
theorem w_512 : Cond.methodLink "OutOrder$FullNet" 82 ⟨"OutOrder$FullNet", "makeGroups", "(I)V"⟩ ∈ jtbl := jtbl_in 512 (by decide +kernel) (by decide +kernel)
theorem w_514 : Cond.instanceMethod ⟨"OutOrder$FullNet", "makeGroups", "(I)V"⟩ ∈ jtbl := jtbl_in 514 (by decide +kernel) (by decide +kernel)
theorem w_515 : Cond.code ⟨"OutOrder$FullNet", "makeGroups", "(I)V"⟩ prog_2_method_6_code 3 (Option.none : Option Jvm.ClassFile.FieldType) ∈ jtbl := jtbl_in 515 (by decide +kernel) (by decide +kernel)
theorem w_516 : Cond.methodLink "OutOrder$FullNet" 93 ⟨"OutOrder$FullNet", "isWithinAnother", "(II)Z"⟩ ∈ jtbl := jtbl_in 516 (by decide +kernel) (by decide +kernel)
theorem w_518 : Cond.instanceMethod ⟨"OutOrder$FullNet", "isWithinAnother", "(II)Z"⟩ ∈ jtbl := jtbl_in 518 (by decide +kernel) (by decide +kernel)
theorem w_519 : Cond.code ⟨"OutOrder$FullNet", "isWithinAnother", "(II)Z"⟩ prog_2_method_7_code 5 (Option.some Jvm.ClassFile.FieldType.boolean) ∈ jtbl := jtbl_in 519 (by decide +kernel) (by decide +kernel)
theorem w_520 : Cond.methodLink "OutOrder$FullNet" 97 ⟨"OutOrder$FullNet", "insertGroup", "(I)V"⟩ ∈ jtbl := jtbl_in 520 (by decide +kernel) (by decide +kernel)
theorem w_522 : Cond.instanceMethod ⟨"OutOrder$FullNet", "insertGroup", "(I)V"⟩ ∈ jtbl := jtbl_in 522 (by decide +kernel) (by decide +kernel)
theorem w_523 : Cond.code ⟨"OutOrder$FullNet", "insertGroup", "(I)V"⟩ prog_2_method_8_code 3 (Option.none : Option Jvm.ClassFile.FieldType) ∈ jtbl := jtbl_in 523 (by decide +kernel) (by decide +kernel)
theorem w_528 : Cond.methodLink "OutOrder" 121 ⟨"OutOrder$Row", "exchange", "(II)V"⟩ ∈ jtbl := jtbl_in 528 (by decide +kernel) (by decide +kernel)
theorem w_545 : Cond.methodLink "OutOrder" 136 ⟨"java/lang/Integer", "bitCount", "(I)I"⟩ ∈ jtbl := jtbl_in 545 (by decide +kernel) (by decide +kernel)
theorem w_558 : Cond.methodLink "OutOrder" 162 ⟨"OutOrder$Rings", "shortest", "(I[I)I"⟩ ∈ jtbl := jtbl_in 558 (by decide +kernel) (by decide +kernel)
theorem w_559 : Cond.static ⟨"OutOrder$Rings", "shortest", "(I[I)I"⟩ ∈ jtbl := jtbl_in 559 (by decide +kernel) (by decide +kernel)
theorem w_560 : Cond.code ⟨"OutOrder$Rings", "shortest", "(I[I)I"⟩ prog_8_method_2_code 6 (Option.some Jvm.ClassFile.FieldType.int) ∈ jtbl := jtbl_in 560 (by decide +kernel) (by decide +kernel)
theorem w_561 : Cond.methodLink "OutOrder$Rings" 7 ⟨"OutOrder$Rings", "along", "(III[I)I"⟩ ∈ jtbl := jtbl_in 561 (by decide +kernel) (by decide +kernel)
theorem w_562 : Cond.static ⟨"OutOrder$Rings", "along", "(III[I)I"⟩ ∈ jtbl := jtbl_in 562 (by decide +kernel) (by decide +kernel)
theorem w_563 : Cond.code ⟨"OutOrder$Rings", "along", "(III[I)I"⟩ prog_8_method_3_code 9 (Option.some Jvm.ClassFile.FieldType.int) ∈ jtbl := jtbl_in 563 (by decide +kernel) (by decide +kernel)
theorem w_564 : Cond.methodLink "OutOrder$Rings" 13 ⟨"OutOrder$Rings", "joinedWith", "(II[I)I"⟩ ∈ jtbl := jtbl_in 564 (by decide +kernel) (by decide +kernel)
theorem w_565 : Cond.static ⟨"OutOrder$Rings", "joinedWith", "(II[I)I"⟩ ∈ jtbl := jtbl_in 565 (by decide +kernel) (by decide +kernel)
theorem w_566 : Cond.code ⟨"OutOrder$Rings", "joinedWith", "(II[I)I"⟩ prog_8_method_4_code 5 (Option.some Jvm.ClassFile.FieldType.int) ∈ jtbl := jtbl_in 566 (by decide +kernel) (by decide +kernel)
theorem w_575 : Cond.methodLink "OutOrder" 175 ⟨"OutOrder$Table", "pairs", "()I"⟩ ∈ jtbl := jtbl_in 575 (by decide +kernel) (by decide +kernel)
theorem w_576 : Cond.instanceMethod ⟨"OutOrder$Table", "pairs", "()I"⟩ ∈ jtbl := jtbl_in 576 (by decide +kernel) (by decide +kernel)
theorem w_577 : Cond.selects "OutOrder$Table" ⟨"OutOrder$Table", "pairs", "()I"⟩ ⟨"OutOrder$Table", "pairs", "()I"⟩ ∈ jtbl := jtbl_in 577 (by decide +kernel) (by decide +kernel)
theorem w_578 : Cond.code ⟨"OutOrder$Table", "pairs", "()I"⟩ prog_11_method_5_code 3 (Option.some Jvm.ClassFile.FieldType.int) ∈ jtbl := jtbl_in 578 (by decide +kernel) (by decide +kernel)
theorem w_579 : Cond.methodLink "OutOrder$Table" 44 ⟨"java/lang/Integer", "bitCount", "(I)I"⟩ ∈ jtbl := jtbl_in 579 (by decide +kernel) (by decide +kernel)
theorem w_588 : Cond.methodLink "OutOrder" 189 ⟨"OutOrder$Net", "has", "(I)Z"⟩ ∈ jtbl := jtbl_in 588 (by decide +kernel) (by decide +kernel)
theorem w_589 : Cond.methodLink "OutOrder" 194 ⟨"OutOrder$Net", "missing", "(I)I"⟩ ∈ jtbl := jtbl_in 589 (by decide +kernel) (by decide +kernel)
theorem w_590 : Cond.methodLink "OutOrder" 197 ⟨"OutOrder$Going", "sendOut", "(I)V"⟩ ∈ jtbl := jtbl_in 590 (by decide +kernel) (by decide +kernel)
theorem w_591 : Cond.instanceMethod ⟨"OutOrder$Going", "sendOut", "(I)V"⟩ ∈ jtbl := jtbl_in 591 (by decide +kernel) (by decide +kernel)
theorem w_592 : Cond.selects "OutOrder$Going" ⟨"OutOrder$Going", "sendOut", "(I)V"⟩ ⟨"OutOrder$Going", "sendOut", "(I)V"⟩ ∈ jtbl := jtbl_in 592 (by decide +kernel) (by decide +kernel)
theorem w_593 : Cond.code ⟨"OutOrder$Going", "sendOut", "(I)V"⟩ prog_3_method_3_code 2 (Option.none : Option Jvm.ClassFile.FieldType) ∈ jtbl := jtbl_in 593 (by decide +kernel) (by decide +kernel)
theorem w_594 : Cond.methodLink "OutOrder$Going" 30 ⟨"OutOrder$Net", "remove", "(I)V"⟩ ∈ jtbl := jtbl_in 594 (by decide +kernel) (by decide +kernel)
theorem w_599 : Cond.methodLink "OutOrder" 200 ⟨"OutOrder$Going", "kind", "(II)I"⟩ ∈ jtbl := jtbl_in 599 (by decide +kernel) (by decide +kernel)
theorem w_600 : Cond.instanceMethod ⟨"OutOrder$Going", "kind", "(II)I"⟩ ∈ jtbl := jtbl_in 600 (by decide +kernel) (by decide +kernel)
theorem w_601 : Cond.selects "OutOrder$Going" ⟨"OutOrder$Going", "kind", "(II)I"⟩ ⟨"OutOrder$Going", "kind", "(II)I"⟩ ∈ jtbl := jtbl_in 601 (by decide +kernel) (by decide +kernel)
theorem w_602 : Cond.code ⟨"OutOrder$Going", "kind", "(II)I"⟩ prog_3_method_5_code 3 (Option.some Jvm.ClassFile.FieldType.int) ∈ jtbl := jtbl_in 602 (by decide +kernel) (by decide +kernel)
theorem w_603 : Cond.methodLink "OutOrder$Going" 40 ⟨"OutOrder$Going", "isTwin", "(I)Z"⟩ ∈ jtbl := jtbl_in 603 (by decide +kernel) (by decide +kernel)
theorem w_605 : Cond.instanceMethod ⟨"OutOrder$Going", "isTwin", "(I)Z"⟩ ∈ jtbl := jtbl_in 605 (by decide +kernel) (by decide +kernel)
theorem w_606 : Cond.code ⟨"OutOrder$Going", "isTwin", "(I)Z"⟩ prog_3_method_6_code 5 (Option.some Jvm.ClassFile.FieldType.boolean) ∈ jtbl := jtbl_in 606 (by decide +kernel) (by decide +kernel)
theorem w_607 : Cond.methodLink "OutOrder$Going" 44 ⟨"OutOrder$Net", "missing", "(I)I"⟩ ∈ jtbl := jtbl_in 607 (by decide +kernel) (by decide +kernel)
theorem w_612 : Cond.methodLink "OutOrder" 207 ⟨"OutOrder$Going", "undo", "(LOutOrder$Table;)I"⟩ ∈ jtbl := jtbl_in 612 (by decide +kernel) (by decide +kernel)
theorem w_613 : Cond.instanceMethod ⟨"OutOrder$Going", "undo", "(LOutOrder$Table;)I"⟩ ∈ jtbl := jtbl_in 613 (by decide +kernel) (by decide +kernel)
theorem w_614 : Cond.selects "OutOrder$Going" ⟨"OutOrder$Going", "undo", "(LOutOrder$Table;)I"⟩ ⟨"OutOrder$Going", "undo", "(LOutOrder$Table;)I"⟩ ∈ jtbl := jtbl_in 614 (by decide +kernel) (by decide +kernel)
theorem w_615 : Cond.code ⟨"OutOrder$Going", "undo", "(LOutOrder$Table;)I"⟩ prog_3_method_4_code 3 (Option.some Jvm.ClassFile.FieldType.int) ∈ jtbl := jtbl_in 615 (by decide +kernel) (by decide +kernel)
theorem w_620 : Cond.methodLink "OutOrder" 211 ⟨"OutOrder$Work", "reckon", "(LOutOrder$Table;LOutOrder$Row;)V"⟩ ∈ jtbl := jtbl_in 620 (by decide +kernel) (by decide +kernel)
theorem w_621 : Cond.instanceMethod ⟨"OutOrder$Work", "reckon", "(LOutOrder$Table;LOutOrder$Row;)V"⟩ ∈ jtbl := jtbl_in 621 (by decide +kernel) (by decide +kernel)
theorem w_622 : Cond.selects "OutOrder$Work" ⟨"OutOrder$Work", "reckon", "(LOutOrder$Table;LOutOrder$Row;)V"⟩ ⟨"OutOrder$Work", "reckon", "(LOutOrder$Table;LOutOrder$Row;)V"⟩ ∈ jtbl := jtbl_in 622 (by decide +kernel) (by decide +kernel)
theorem w_623 : Cond.code ⟨"OutOrder$Work", "reckon", "(LOutOrder$Table;LOutOrder$Row;)V"⟩ prog_12_method_3_code 4 (Option.none : Option Jvm.ClassFile.FieldType) ∈ jtbl := jtbl_in 623 (by decide +kernel) (by decide +kernel)
theorem w_624 : Cond.methodLink "OutOrder$Work" 33 ⟨"OutOrder$Work", "forget", "()V"⟩ ∈ jtbl := jtbl_in 624 (by decide +kernel) (by decide +kernel)
theorem w_625 : Cond.methodLink "OutOrder$Work" 36 ⟨"OutOrder$Work", "takeNumbers", "(LOutOrder$Table;LOutOrder$Row;)V"⟩ ∈ jtbl := jtbl_in 625 (by decide +kernel) (by decide +kernel)
theorem w_627 : Cond.instanceMethod ⟨"OutOrder$Work", "takeNumbers", "(LOutOrder$Table;LOutOrder$Row;)V"⟩ ∈ jtbl := jtbl_in 627 (by decide +kernel) (by decide +kernel)
theorem w_628 : Cond.code ⟨"OutOrder$Work", "takeNumbers", "(LOutOrder$Table;LOutOrder$Row;)V"⟩ prog_12_method_4_code 5 (Option.none : Option Jvm.ClassFile.FieldType) ∈ jtbl := jtbl_in 628 (by decide +kernel) (by decide +kernel)
theorem w_629 : Cond.methodLink "OutOrder$Work" 49 ⟨"OutOrder$Modulus", "inverse", "(I)I"⟩ ∈ jtbl := jtbl_in 629 (by decide +kernel) (by decide +kernel)
theorem w_630 : Cond.instanceMethod ⟨"OutOrder$Modulus", "inverse", "(I)I"⟩ ∈ jtbl := jtbl_in 630 (by decide +kernel) (by decide +kernel)
theorem w_631 : Cond.selects "OutOrder$Modulus" ⟨"OutOrder$Modulus", "inverse", "(I)I"⟩ ⟨"OutOrder$Modulus", "inverse", "(I)I"⟩ ∈ jtbl := jtbl_in 631 (by decide +kernel) (by decide +kernel)
theorem w_632 : Cond.code ⟨"OutOrder$Modulus", "inverse", "(I)I"⟩ prog_5_method_5_code 5 (Option.some Jvm.ClassFile.FieldType.int) ∈ jtbl := jtbl_in 632 (by decide +kernel) (by decide +kernel)
theorem w_633 : Cond.methodLink "OutOrder$Modulus" 25 ⟨"OutOrder$Modulus", "times", "(II)I"⟩ ∈ jtbl := jtbl_in 633 (by decide +kernel) (by decide +kernel)
theorem w_634 : Cond.instanceMethod ⟨"OutOrder$Modulus", "times", "(II)I"⟩ ∈ jtbl := jtbl_in 634 (by decide +kernel) (by decide +kernel)
theorem w_635 : Cond.selects "OutOrder$Modulus" ⟨"OutOrder$Modulus", "times", "(II)I"⟩ ⟨"OutOrder$Modulus", "times", "(II)I"⟩ ∈ jtbl := jtbl_in 635 (by decide +kernel) (by decide +kernel)
theorem w_636 : Cond.code ⟨"OutOrder$Modulus", "times", "(II)I"⟩ prog_5_method_4_code 3 (Option.some Jvm.ClassFile.FieldType.int) ∈ jtbl := jtbl_in 636 (by decide +kernel) (by decide +kernel)
theorem w_637 : Cond.methodLink "OutOrder$Modulus" 21 ⟨"OutOrder$Modulus", "reduce", "(I)I"⟩ ∈ jtbl := jtbl_in 637 (by decide +kernel) (by decide +kernel)
theorem w_638 : Cond.methodLink "OutOrder$Work" 55 ⟨"OutOrder$Work", "hasRest", "(II)Z"⟩ ∈ jtbl := jtbl_in 638 (by decide +kernel) (by decide +kernel)
theorem w_640 : Cond.instanceMethod ⟨"OutOrder$Work", "hasRest", "(II)Z"⟩ ∈ jtbl := jtbl_in 640 (by decide +kernel) (by decide +kernel)
theorem w_641 : Cond.code ⟨"OutOrder$Work", "hasRest", "(II)Z"⟩ prog_12_method_5_code 4 (Option.some Jvm.ClassFile.FieldType.boolean) ∈ jtbl := jtbl_in 641 (by decide +kernel) (by decide +kernel)
theorem w_642 : Cond.methodLink "OutOrder$Work" 59 ⟨"OutOrder$Work", "eliminate", "(IILOutOrder$Modulus;)V"⟩ ∈ jtbl := jtbl_in 642 (by decide +kernel) (by decide +kernel)
theorem w_644 : Cond.instanceMethod ⟨"OutOrder$Work", "eliminate", "(IILOutOrder$Modulus;)V"⟩ ∈ jtbl := jtbl_in 644 (by decide +kernel) (by decide +kernel)
theorem w_645 : Cond.code ⟨"OutOrder$Work", "eliminate", "(IILOutOrder$Modulus;)V"⟩ prog_12_method_6_code 7 (Option.none : Option Jvm.ClassFile.FieldType) ∈ jtbl := jtbl_in 645 (by decide +kernel) (by decide +kernel)
theorem w_646 : Cond.methodLink "OutOrder$Work" 71 ⟨"OutOrder$Modulus", "times", "(II)I"⟩ ∈ jtbl := jtbl_in 646 (by decide +kernel) (by decide +kernel)
theorem w_647 : Cond.methodLink "OutOrder$Work" 75 ⟨"OutOrder$Modulus", "reduce", "(I)I"⟩ ∈ jtbl := jtbl_in 647 (by decide +kernel) (by decide +kernel)
theorem w_656 : Cond.methodLink "OutOrder" 224 ⟨"OutOrder$Work", "share", "(II)I"⟩ ∈ jtbl := jtbl_in 656 (by decide +kernel) (by decide +kernel)
theorem w_657 : Cond.instanceMethod ⟨"OutOrder$Work", "share", "(II)I"⟩ ∈ jtbl := jtbl_in 657 (by decide +kernel) (by decide +kernel)
theorem w_658 : Cond.selects "OutOrder$Work" ⟨"OutOrder$Work", "share", "(II)I"⟩ ⟨"OutOrder$Work", "share", "(II)I"⟩ ∈ jtbl := jtbl_in 658 (by decide +kernel) (by decide +kernel)
theorem w_659 : Cond.code ⟨"OutOrder$Work", "share", "(II)I"⟩ prog_12_method_7_code 3 (Option.some Jvm.ClassFile.FieldType.int) ∈ jtbl := jtbl_in 659 (by decide +kernel) (by decide +kernel)
theorem w_664 : Cond.methodLink "OutOrder" 227 ⟨"OutOrder$Work", "product", "(LOutOrder$Table;)I"⟩ ∈ jtbl := jtbl_in 664 (by decide +kernel) (by decide +kernel)
theorem w_665 : Cond.instanceMethod ⟨"OutOrder$Work", "product", "(LOutOrder$Table;)I"⟩ ∈ jtbl := jtbl_in 665 (by decide +kernel) (by decide +kernel)
theorem w_666 : Cond.selects "OutOrder$Work" ⟨"OutOrder$Work", "product", "(LOutOrder$Table;)I"⟩ ⟨"OutOrder$Work", "product", "(LOutOrder$Table;)I"⟩ ∈ jtbl := jtbl_in 666 (by decide +kernel) (by decide +kernel)
theorem w_667 : Cond.code ⟨"OutOrder$Work", "product", "(LOutOrder$Table;)I"⟩ prog_12_method_8_code 4 (Option.some Jvm.ClassFile.FieldType.int) ∈ jtbl := jtbl_in 667 (by decide +kernel) (by decide +kernel)
theorem w_672 : Cond.methodLink "OutOrder" 237 ⟨"OutOrder$Modulus", "reduce", "(I)I"⟩ ∈ jtbl := jtbl_in 672 (by decide +kernel) (by decide +kernel)
theorem w_677 : Cond.methodLink "OutOrder" 240 ⟨"OutOrder$Work", "canDivide", "(I)Z"⟩ ∈ jtbl := jtbl_in 677 (by decide +kernel) (by decide +kernel)
theorem w_678 : Cond.instanceMethod ⟨"OutOrder$Work", "canDivide", "(I)Z"⟩ ∈ jtbl := jtbl_in 678 (by decide +kernel) (by decide +kernel)
theorem w_679 : Cond.selects "OutOrder$Work" ⟨"OutOrder$Work", "canDivide", "(I)Z"⟩ ⟨"OutOrder$Work", "canDivide", "(I)Z"⟩ ∈ jtbl := jtbl_in 679 (by decide +kernel) (by decide +kernel)
theorem w_680 : Cond.code ⟨"OutOrder$Work", "canDivide", "(I)Z"⟩ prog_12_method_9_code 3 (Option.some Jvm.ClassFile.FieldType.boolean) ∈ jtbl := jtbl_in 680 (by decide +kernel) (by decide +kernel)
theorem w_681 : Cond.methodLink "OutOrder" 243 ⟨"OutOrder$Work", "takeSides", "(LOutOrder$Table;LOutOrder$Row;)V"⟩ ∈ jtbl := jtbl_in 681 (by decide +kernel) (by decide +kernel)
theorem w_682 : Cond.instanceMethod ⟨"OutOrder$Work", "takeSides", "(LOutOrder$Table;LOutOrder$Row;)V"⟩ ∈ jtbl := jtbl_in 682 (by decide +kernel) (by decide +kernel)
theorem w_683 : Cond.selects "OutOrder$Work" ⟨"OutOrder$Work", "takeSides", "(LOutOrder$Table;LOutOrder$Row;)V"⟩ ⟨"OutOrder$Work", "takeSides", "(LOutOrder$Table;LOutOrder$Row;)V"⟩ ∈ jtbl := jtbl_in 683 (by decide +kernel) (by decide +kernel)
theorem w_684 : Cond.code ⟨"OutOrder$Work", "takeSides", "(LOutOrder$Table;LOutOrder$Row;)V"⟩ prog_12_method_10_code 4 (Option.none : Option Jvm.ClassFile.FieldType) ∈ jtbl := jtbl_in 684 (by decide +kernel) (by decide +kernel)
theorem w_685 : Cond.methodLink "OutOrder" 246 ⟨"OutOrder$Work", "resolve", "(LOutOrder$Table;)V"⟩ ∈ jtbl := jtbl_in 685 (by decide +kernel) (by decide +kernel)
theorem w_686 : Cond.instanceMethod ⟨"OutOrder$Work", "resolve", "(LOutOrder$Table;)V"⟩ ∈ jtbl := jtbl_in 686 (by decide +kernel) (by decide +kernel)
theorem w_687 : Cond.selects "OutOrder$Work" ⟨"OutOrder$Work", "resolve", "(LOutOrder$Table;)V"⟩ ⟨"OutOrder$Work", "resolve", "(LOutOrder$Table;)V"⟩ ∈ jtbl := jtbl_in 687 (by decide +kernel) (by decide +kernel)
theorem w_688 : Cond.code ⟨"OutOrder$Work", "resolve", "(LOutOrder$Table;)V"⟩ prog_12_method_12_code 6 (Option.none : Option Jvm.ClassFile.FieldType) ∈ jtbl := jtbl_in 688 (by decide +kernel) (by decide +kernel)
theorem w_693 : Cond.methodLink "OutOrder" 252 ⟨"OutOrder$Work", "takeSingle", "(II)V"⟩ ∈ jtbl := jtbl_in 693 (by decide +kernel) (by decide +kernel)
theorem w_694 : Cond.instanceMethod ⟨"OutOrder$Work", "takeSingle", "(II)V"⟩ ∈ jtbl := jtbl_in 694 (by decide +kernel) (by decide +kernel)
theorem w_695 : Cond.selects "OutOrder$Work" ⟨"OutOrder$Work", "takeSingle", "(II)V"⟩ ⟨"OutOrder$Work", "takeSingle", "(II)V"⟩ ∈ jtbl := jtbl_in 695 (by decide +kernel) (by decide +kernel)
theorem w_696 : Cond.code ⟨"OutOrder$Work", "takeSingle", "(II)V"⟩ prog_12_method_11_code 4 (Option.none : Option Jvm.ClassFile.FieldType) ∈ jtbl := jtbl_in 696 (by decide +kernel) (by decide +kernel)
theorem w_701 : Cond.methodLink "OutOrder" 255 ⟨"OutOrder$Plan", "reckon", "(ILOutOrder$Row;LOutOrder$FullNet;)I"⟩ ∈ jtbl := jtbl_in 701 (by decide +kernel) (by decide +kernel)
theorem w_702 : Cond.instanceMethod ⟨"OutOrder$Plan", "reckon", "(ILOutOrder$Row;LOutOrder$FullNet;)I"⟩ ∈ jtbl := jtbl_in 702 (by decide +kernel) (by decide +kernel)
theorem w_703 : Cond.selects "OutOrder$Plan" ⟨"OutOrder$Plan", "reckon", "(ILOutOrder$Row;LOutOrder$FullNet;)I"⟩ ⟨"OutOrder$Plan", "reckon", "(ILOutOrder$Row;LOutOrder$FullNet;)I"⟩ ∈ jtbl := jtbl_in 703 (by decide +kernel) (by decide +kernel)
theorem w_704 : Cond.code ⟨"OutOrder$Plan", "reckon", "(ILOutOrder$Row;LOutOrder$FullNet;)I"⟩ prog_7_method_2_code 10 (Option.some Jvm.ClassFile.FieldType.int) ∈ jtbl := jtbl_in 704 (by decide +kernel) (by decide +kernel)
theorem w_705 : Cond.methodLink "OutOrder$Plan" 21 ⟨"OutOrder$Plan", "allowed", "(IILOutOrder$FullNet;)I"⟩ ∈ jtbl := jtbl_in 705 (by decide +kernel) (by decide +kernel)
theorem w_706 : Cond.static ⟨"OutOrder$Plan", "allowed", "(IILOutOrder$FullNet;)I"⟩ ∈ jtbl := jtbl_in 706 (by decide +kernel) (by decide +kernel)
theorem w_707 : Cond.code ⟨"OutOrder$Plan", "allowed", "(IILOutOrder$FullNet;)I"⟩ prog_7_method_3_code 5 (Option.some Jvm.ClassFile.FieldType.int) ∈ jtbl := jtbl_in 707 (by decide +kernel) (by decide +kernel)
theorem w_708 : Cond.methodLink "OutOrder$Plan" 25 ⟨"OutOrder$Plan", "highest", "(ILOutOrder$Row;LOutOrder$FullNet;)I"⟩ ∈ jtbl := jtbl_in 708 (by decide +kernel) (by decide +kernel)
theorem w_709 : Cond.static ⟨"OutOrder$Plan", "highest", "(ILOutOrder$Row;LOutOrder$FullNet;)I"⟩ ∈ jtbl := jtbl_in 709 (by decide +kernel) (by decide +kernel)
theorem w_710 : Cond.code ⟨"OutOrder$Plan", "highest", "(ILOutOrder$Row;LOutOrder$FullNet;)I"⟩ prog_7_method_4_code 7 (Option.some Jvm.ClassFile.FieldType.int) ∈ jtbl := jtbl_in 710 (by decide +kernel) (by decide +kernel)
theorem w_719 : Cond.methodLink "OutOrder" 267 ⟨"OutOrder$Table", "digest", "()I"⟩ ∈ jtbl := jtbl_in 719 (by decide +kernel) (by decide +kernel)
theorem w_720 : Cond.instanceMethod ⟨"OutOrder$Table", "digest", "()I"⟩ ∈ jtbl := jtbl_in 720 (by decide +kernel) (by decide +kernel)
theorem w_721 : Cond.selects "OutOrder$Table" ⟨"OutOrder$Table", "digest", "()I"⟩ ⟨"OutOrder$Table", "digest", "()I"⟩ ∈ jtbl := jtbl_in 721 (by decide +kernel) (by decide +kernel)
theorem w_722 : Cond.code ⟨"OutOrder$Table", "digest", "()I"⟩ prog_11_method_6_code 4 (Option.some Jvm.ClassFile.FieldType.int) ∈ jtbl := jtbl_in 722 (by decide +kernel) (by decide +kernel)
theorem w_729 : Cond.fieldLink "OutOrderModel" 7 "OutOrderModel" "n" "I" ∈ jtbl := jtbl_in 729 (by decide +kernel) (by decide +kernel)
theorem w_730 : Cond.fieldLink "OutOrderModel" 13 "OutOrderModel" "p" "I" ∈ jtbl := jtbl_in 730 (by decide +kernel) (by decide +kernel)
theorem w_731 : Cond.fieldLink "OutOrderModel" 16 "OutOrderModel" "numbers" "[I" ∈ jtbl := jtbl_in 731 (by decide +kernel) (by decide +kernel)
theorem w_732 : Cond.fieldLink "OutOrderModel" 20 "OutOrderModel" "held" "[Z" ∈ jtbl := jtbl_in 732 (by decide +kernel) (by decide +kernel)
theorem w_733 : Cond.fieldLink "OutOrderModel" 24 "OutOrderModel" "order" "[I" ∈ jtbl := jtbl_in 733 (by decide +kernel) (by decide +kernel)
theorem w_734 : Cond.fieldLink "OutOrderModel" 27 "OutOrderModel" "sides" "[I" ∈ jtbl := jtbl_in 734 (by decide +kernel) (by decide +kernel)
theorem w_735 : Cond.fieldLink "OutOrderModel" 30 "OutOrderModel" "refused" "[I" ∈ jtbl := jtbl_in 735 (by decide +kernel) (by decide +kernel)
theorem w_736 : Cond.fieldLink "OutOrderModel" 33 "OutOrderModel" "net" "[I" ∈ jtbl := jtbl_in 736 (by decide +kernel) (by decide +kernel)
theorem w_737 : Cond.fieldLink "OutOrderModel" 36 "OutOrderModel" "behind" "[I" ∈ jtbl := jtbl_in 737 (by decide +kernel) (by decide +kernel)
theorem w_738 : Cond.fieldLink "OutOrderModel" 39 "OutOrderModel" "fillPairs" "[I" ∈ jtbl := jtbl_in 738 (by decide +kernel) (by decide +kernel)
theorem w_739 : Cond.fieldLink "OutOrderModel" 103 "OutOrderModel" "fillMany" "I" ∈ jtbl := jtbl_in 739 (by decide +kernel) (by decide +kernel)
theorem w_740 : Cond.fieldLink "OutOrderModel" 42 "OutOrderModel" "place" "[I" ∈ jtbl := jtbl_in 740 (by decide +kernel) (by decide +kernel)
theorem w_741 : Cond.fieldLink "OutOrderModel" 45 "OutOrderModel" "leastOf" "[I" ∈ jtbl := jtbl_in 741 (by decide +kernel) (by decide +kernel)
theorem w_742 : Cond.fieldLink "OutOrderModel" 48 "OutOrderModel" "known" "I" ∈ jtbl := jtbl_in 742 (by decide +kernel) (by decide +kernel)
theorem w_743 : Cond.fieldLink "OutOrderModel" 51 "OutOrderModel" "gone" "[I" ∈ jtbl := jtbl_in 743 (by decide +kernel) (by decide +kernel)
theorem w_744 : Cond.fieldLink "OutOrderModel" 161 "OutOrderModel" "goneMany" "I" ∈ jtbl := jtbl_in 744 (by decide +kernel) (by decide +kernel)
theorem w_745 : Cond.fieldLink "OutOrderModel" 54 "OutOrderModel" "goingNet" "[I" ∈ jtbl := jtbl_in 745 (by decide +kernel) (by decide +kernel)
theorem w_746 : Cond.fieldLink "OutOrderModel" 57 "OutOrderModel" "now" "[I" ∈ jtbl := jtbl_in 746 (by decide +kernel) (by decide +kernel)
theorem w_747 : Cond.fieldLink "OutOrderModel" 176 "OutOrderModel" "worked" "I" ∈ jtbl := jtbl_in 747 (by decide +kernel) (by decide +kernel)
theorem w_748 : Cond.fieldLink "OutOrderModel" 60 "OutOrderModel" "stuck" "I" ∈ jtbl := jtbl_in 748 (by decide +kernel) (by decide +kernel)
theorem w_749 : Cond.fieldLink "OutOrderModel" 63 "OutOrderModel" "pivots" "[I" ∈ jtbl := jtbl_in 749 (by decide +kernel) (by decide +kernel)
theorem w_750 : Cond.fieldLink "OutOrderModel" 66 "OutOrderModel" "ones" "[I" ∈ jtbl := jtbl_in 750 (by decide +kernel) (by decide +kernel)
theorem w_751 : Cond.fieldLink "OutOrderModel" 69 "OutOrderModel" "x" "[I" ∈ jtbl := jtbl_in 751 (by decide +kernel) (by decide +kernel)
theorem w_752 : Cond.fieldLink "OutOrderModel" 72 "OutOrderModel" "rounds" "[I" ∈ jtbl := jtbl_in 752 (by decide +kernel) (by decide +kernel)
theorem w_807 : Cond.methodLink "OutOrderModel" 79 ⟨"OutOrderModel", "refuse", "(I)I"⟩ ∈ jtbl := jtbl_in 807 (by decide +kernel) (by decide +kernel)
theorem w_809 : Cond.instanceMethod ⟨"OutOrderModel", "refuse", "(I)I"⟩ ∈ jtbl := jtbl_in 809 (by decide +kernel) (by decide +kernel)
theorem w_810 : Cond.code ⟨"OutOrderModel", "refuse", "(I)I"⟩ prog_14_method_4_code 2 (Option.some Jvm.ClassFile.FieldType.int) ∈ jtbl := jtbl_in 810 (by decide +kernel) (by decide +kernel)
theorem w_811 : Cond.methodLink "OutOrderModel" 83 ⟨"OutOrderModel", "notWorked", "()V"⟩ ∈ jtbl := jtbl_in 811 (by decide +kernel) (by decide +kernel)
theorem w_813 : Cond.instanceMethod ⟨"OutOrderModel", "notWorked", "()V"⟩ ∈ jtbl := jtbl_in 813 (by decide +kernel) (by decide +kernel)
theorem w_814 : Cond.code ⟨"OutOrderModel", "notWorked", "()V"⟩ prog_14_method_47_code 1 (Option.none : Option Jvm.ClassFile.FieldType) ∈ jtbl := jtbl_in 814 (by decide +kernel) (by decide +kernel)
theorem w_815 : Cond.methodLink "OutOrderModel" 86 ⟨"OutOrderModel", "begin", "()I"⟩ ∈ jtbl := jtbl_in 815 (by decide +kernel) (by decide +kernel)
theorem w_816 : Cond.instanceMethod ⟨"OutOrderModel", "begin", "()I"⟩ ∈ jtbl := jtbl_in 816 (by decide +kernel) (by decide +kernel)
theorem w_817 : Cond.selects "OutOrderModel" ⟨"OutOrderModel", "begin", "()I"⟩ ⟨"OutOrderModel", "begin", "()I"⟩ ∈ jtbl := jtbl_in 817 (by decide +kernel) (by decide +kernel)
theorem w_818 : Cond.code ⟨"OutOrderModel", "begin", "()I"⟩ prog_14_method_39_code 2 (Option.some Jvm.ClassFile.FieldType.int) ∈ jtbl := jtbl_in 818 (by decide +kernel) (by decide +kernel)
theorem w_819 : Cond.methodLink "OutOrderModel" 100 ⟨"OutOrderModel", "beginNet", "()V"⟩ ∈ jtbl := jtbl_in 819 (by decide +kernel) (by decide +kernel)
theorem w_821 : Cond.instanceMethod ⟨"OutOrderModel", "beginNet", "()V"⟩ ∈ jtbl := jtbl_in 821 (by decide +kernel) (by decide +kernel)
theorem w_822 : Cond.code ⟨"OutOrderModel", "beginNet", "()V"⟩ prog_14_method_13_code 3 (Option.none : Option Jvm.ClassFile.FieldType) ∈ jtbl := jtbl_in 822 (by decide +kernel) (by decide +kernel)
theorem w_827 : Cond.methodLink "OutOrderModel" 90 ⟨"OutOrderModel", "isUnknown", "(I)Z"⟩ ∈ jtbl := jtbl_in 827 (by decide +kernel) (by decide +kernel)
theorem w_829 : Cond.instanceMethod ⟨"OutOrderModel", "isUnknown", "(I)Z"⟩ ∈ jtbl := jtbl_in 829 (by decide +kernel) (by decide +kernel)
theorem w_830 : Cond.code ⟨"OutOrderModel", "isUnknown", "(I)Z"⟩ prog_14_method_5_code 2 (Option.some Jvm.ClassFile.FieldType.boolean) ∈ jtbl := jtbl_in 830 (by decide +kernel) (by decide +kernel)
theorem w_831 : Cond.methodLink "OutOrderModel" 75 ⟨"OutOrderModel", "in", "(III)Z"⟩ ∈ jtbl := jtbl_in 831 (by decide +kernel) (by decide +kernel)
theorem w_832 : Cond.static ⟨"OutOrderModel", "in", "(III)Z"⟩ ∈ jtbl := jtbl_in 832 (by decide +kernel) (by decide +kernel)
theorem w_833 : Cond.code ⟨"OutOrderModel", "in", "(III)Z"⟩ prog_14_method_3_code 3 (Option.some Jvm.ClassFile.FieldType.boolean) ∈ jtbl := jtbl_in 833 (by decide +kernel) (by decide +kernel)
theorem w_834 : Cond.methodLink "OutOrderModel" 94 ⟨"OutOrderModel", "modulo", "(J)I"⟩ ∈ jtbl := jtbl_in 834 (by decide +kernel) (by decide +kernel)
theorem w_836 : Cond.instanceMethod ⟨"OutOrderModel", "modulo", "(J)I"⟩ ∈ jtbl := jtbl_in 836 (by decide +kernel) (by decide +kernel)
theorem w_837 : Cond.code ⟨"OutOrderModel", "modulo", "(J)I"⟩ prog_14_method_7_code 5 (Option.some Jvm.ClassFile.FieldType.int) ∈ jtbl := jtbl_in 837 (by decide +kernel) (by decide +kernel)
theorem w_850 : Cond.methodLink "OutOrderModel" 129 ⟨"OutOrderModel", "someHeld", "()Z"⟩ ∈ jtbl := jtbl_in 850 (by decide +kernel) (by decide +kernel)
theorem w_852 : Cond.instanceMethod ⟨"OutOrderModel", "someHeld", "()Z"⟩ ∈ jtbl := jtbl_in 852 (by decide +kernel) (by decide +kernel)
theorem w_853 : Cond.code ⟨"OutOrderModel", "someHeld", "()Z"⟩ prog_14_method_12_code 3 (Option.some Jvm.ClassFile.FieldType.boolean) ∈ jtbl := jtbl_in 853 (by decide +kernel) (by decide +kernel)
theorem w_854 : Cond.methodLink "OutOrderModel" 133 ⟨"OutOrderModel", "byNumbers", "()V"⟩ ∈ jtbl := jtbl_in 854 (by decide +kernel) (by decide +kernel)
theorem w_856 : Cond.instanceMethod ⟨"OutOrderModel", "byNumbers", "()V"⟩ ∈ jtbl := jtbl_in 856 (by decide +kernel) (by decide +kernel)
theorem w_857 : Cond.code ⟨"OutOrderModel", "byNumbers", "()V"⟩ prog_14_method_17_code 4 (Option.none : Option Jvm.ClassFile.FieldType) ∈ jtbl := jtbl_in 857 (by decide +kernel) (by decide +kernel)
theorem w_858 : Cond.methodLink "OutOrderModel" 136 ⟨"OutOrderModel", "byFewest", "(Z)V"⟩ ∈ jtbl := jtbl_in 858 (by decide +kernel) (by decide +kernel)
theorem w_860 : Cond.instanceMethod ⟨"OutOrderModel", "byFewest", "(Z)V"⟩ ∈ jtbl := jtbl_in 860 (by decide +kernel) (by decide +kernel)
theorem w_861 : Cond.code ⟨"OutOrderModel", "byFewest", "(Z)V"⟩ prog_14_method_18_code 10 (Option.none : Option Jvm.ClassFile.FieldType) ∈ jtbl := jtbl_in 861 (by decide +kernel) (by decide +kernel)
theorem w_862 : Cond.methodLink "OutOrderModel" 110 ⟨"OutOrderModel", "fillsOf", "([II)I"⟩ ∈ jtbl := jtbl_in 862 (by decide +kernel) (by decide +kernel)
theorem w_863 : Cond.static ⟨"OutOrderModel", "fillsOf", "([II)I"⟩ ∈ jtbl := jtbl_in 863 (by decide +kernel) (by decide +kernel)
theorem w_864 : Cond.code ⟨"OutOrderModel", "fillsOf", "([II)I"⟩ prog_14_method_14_code 4 (Option.some Jvm.ClassFile.FieldType.int) ∈ jtbl := jtbl_in 864 (by decide +kernel) (by decide +kernel)
theorem w_865 : Cond.methodLink "OutOrderModel" 98 ⟨"OutOrderModel", "ones", "(I)I"⟩ ∈ jtbl := jtbl_in 865 (by decide +kernel) (by decide +kernel)
theorem w_866 : Cond.static ⟨"OutOrderModel", "ones", "(I)I"⟩ ∈ jtbl := jtbl_in 866 (by decide +kernel) (by decide +kernel)
theorem w_867 : Cond.code ⟨"OutOrderModel", "ones", "(I)I"⟩ prog_14_method_6_code 3 (Option.some Jvm.ClassFile.FieldType.int) ∈ jtbl := jtbl_in 867 (by decide +kernel) (by decide +kernel)
theorem w_868 : Cond.methodLink "OutOrderModel" 106 ⟨"OutOrderModel", "joinAll", "([II)V"⟩ ∈ jtbl := jtbl_in 868 (by decide +kernel) (by decide +kernel)
theorem w_869 : Cond.static ⟨"OutOrderModel", "joinAll", "([II)V"⟩ ∈ jtbl := jtbl_in 869 (by decide +kernel) (by decide +kernel)
theorem w_870 : Cond.code ⟨"OutOrderModel", "joinAll", "([II)V"⟩ prog_14_method_15_code 3 (Option.none : Option Jvm.ClassFile.FieldType) ∈ jtbl := jtbl_in 870 (by decide +kernel) (by decide +kernel)
theorem w_871 : Cond.methodLink "OutOrderModel" 139 ⟨"OutOrderModel", "bySearch", "()V"⟩ ∈ jtbl := jtbl_in 871 (by decide +kernel) (by decide +kernel)
theorem w_873 : Cond.instanceMethod ⟨"OutOrderModel", "bySearch", "()V"⟩ ∈ jtbl := jtbl_in 873 (by decide +kernel) (by decide +kernel)
theorem w_874 : Cond.code ⟨"OutOrderModel", "bySearch", "()V"⟩ prog_14_method_19_code 6 (Option.none : Option Jvm.ClassFile.FieldType) ∈ jtbl := jtbl_in 874 (by decide +kernel) (by decide +kernel)
theorem w_875 : Cond.methodLink "OutOrderModel" 142 ⟨"OutOrderModel", "byLeast", "(Z)V"⟩ ∈ jtbl := jtbl_in 875 (by decide +kernel) (by decide +kernel)
theorem w_877 : Cond.instanceMethod ⟨"OutOrderModel", "byLeast", "(Z)V"⟩ ∈ jtbl := jtbl_in 877 (by decide +kernel) (by decide +kernel)
theorem w_878 : Cond.code ⟨"OutOrderModel", "byLeast", "(Z)V"⟩ prog_14_method_24_code 8 (Option.none : Option Jvm.ClassFile.FieldType) ∈ jtbl := jtbl_in 878 (by decide +kernel) (by decide +kernel)
theorem w_879 : Cond.methodLink "OutOrderModel" 125 ⟨"OutOrderModel", "findLeast", "(Z)V"⟩ ∈ jtbl := jtbl_in 879 (by decide +kernel) (by decide +kernel)
theorem w_881 : Cond.instanceMethod ⟨"OutOrderModel", "findLeast", "(Z)V"⟩ ∈ jtbl := jtbl_in 881 (by decide +kernel) (by decide +kernel)
theorem w_882 : Cond.code ⟨"OutOrderModel", "findLeast", "(Z)V"⟩ prog_14_method_23_code 7 (Option.none : Option Jvm.ClassFile.FieldType) ∈ jtbl := jtbl_in 882 (by decide +kernel) (by decide +kernel)
theorem w_883 : Cond.methodLink "OutOrderModel" 118 ⟨"OutOrderModel", "costOf", "(IIZ)I"⟩ ∈ jtbl := jtbl_in 883 (by decide +kernel) (by decide +kernel)
theorem w_885 : Cond.instanceMethod ⟨"OutOrderModel", "costOf", "(IIZ)I"⟩ ∈ jtbl := jtbl_in 885 (by decide +kernel) (by decide +kernel)
theorem w_886 : Cond.code ⟨"OutOrderModel", "costOf", "(IIZ)I"⟩ prog_14_method_21_code 7 (Option.some Jvm.ClassFile.FieldType.int) ∈ jtbl := jtbl_in 886 (by decide +kernel) (by decide +kernel)
theorem w_887 : Cond.methodLink "OutOrderModel" 114 ⟨"OutOrderModel", "around", "(II)I"⟩ ∈ jtbl := jtbl_in 887 (by decide +kernel) (by decide +kernel)
theorem w_889 : Cond.instanceMethod ⟨"OutOrderModel", "around", "(II)I"⟩ ∈ jtbl := jtbl_in 889 (by decide +kernel) (by decide +kernel)
theorem w_890 : Cond.code ⟨"OutOrderModel", "around", "(II)I"⟩ prog_14_method_20_code 8 (Option.some Jvm.ClassFile.FieldType.int) ∈ jtbl := jtbl_in 890 (by decide +kernel) (by decide +kernel)
theorem w_891 : Cond.methodLink "OutOrderModel" 122 ⟨"OutOrderModel", "joined", "(IIZ)I"⟩ ∈ jtbl := jtbl_in 891 (by decide +kernel) (by decide +kernel)
theorem w_893 : Cond.instanceMethod ⟨"OutOrderModel", "joined", "(IIZ)I"⟩ ∈ jtbl := jtbl_in 893 (by decide +kernel) (by decide +kernel)
theorem w_894 : Cond.code ⟨"OutOrderModel", "joined", "(IIZ)I"⟩ prog_14_method_22_code 4 (Option.some Jvm.ClassFile.FieldType.int) ∈ jtbl := jtbl_in 894 (by decide +kernel) (by decide +kernel)
theorem w_895 : Cond.methodLink "OutOrderModel" 145 ⟨"OutOrderModel", "fills", "()I"⟩ ∈ jtbl := jtbl_in 895 (by decide +kernel) (by decide +kernel)
theorem w_896 : Cond.instanceMethod ⟨"OutOrderModel", "fills", "()I"⟩ ∈ jtbl := jtbl_in 896 (by decide +kernel) (by decide +kernel)
theorem w_897 : Cond.selects "OutOrderModel" ⟨"OutOrderModel", "fills", "()I"⟩ ⟨"OutOrderModel", "fills", "()I"⟩ ∈ jtbl := jtbl_in 897 (by decide +kernel) (by decide +kernel)
theorem w_898 : Cond.code ⟨"OutOrderModel", "fills", "()I"⟩ prog_14_method_28_code 1 (Option.some Jvm.ClassFile.FieldType.int) ∈ jtbl := jtbl_in 898 (by decide +kernel) (by decide +kernel)
theorem w_899 : Cond.methodLink "OutOrderModel" 148 ⟨"OutOrderModel", "goThrough", "()V"⟩ ∈ jtbl := jtbl_in 899 (by decide +kernel) (by decide +kernel)
theorem w_901 : Cond.instanceMethod ⟨"OutOrderModel", "goThrough", "()V"⟩ ∈ jtbl := jtbl_in 901 (by decide +kernel) (by decide +kernel)
theorem w_902 : Cond.code ⟨"OutOrderModel", "goThrough", "()V"⟩ prog_14_method_16_code 7 (Option.none : Option Jvm.ClassFile.FieldType) ∈ jtbl := jtbl_in 902 (by decide +kernel) (by decide +kernel)
theorem w_920 : Cond.methodLink "OutOrderModel" 151 ⟨"OutOrderModel", "parent", "(I)I"⟩ ∈ jtbl := jtbl_in 920 (by decide +kernel) (by decide +kernel)
theorem w_922 : Cond.instanceMethod ⟨"OutOrderModel", "parent", "(I)I"⟩ ∈ jtbl := jtbl_in 922 (by decide +kernel) (by decide +kernel)
theorem w_923 : Cond.code ⟨"OutOrderModel", "parent", "(I)I"⟩ prog_14_method_30_code 4 (Option.some Jvm.ClassFile.FieldType.int) ∈ jtbl := jtbl_in 923 (by decide +kernel) (by decide +kernel)
theorem w_924 : Cond.methodLink "OutOrderModel" 154 ⟨"OutOrderModel", "height", "(I)I"⟩ ∈ jtbl := jtbl_in 924 (by decide +kernel) (by decide +kernel)
theorem w_926 : Cond.instanceMethod ⟨"OutOrderModel", "height", "(I)I"⟩ ∈ jtbl := jtbl_in 926 (by decide +kernel) (by decide +kernel)
theorem w_927 : Cond.code ⟨"OutOrderModel", "height", "(I)I"⟩ prog_14_method_31_code 4 (Option.some Jvm.ClassFile.FieldType.int) ∈ jtbl := jtbl_in 927 (by decide +kernel) (by decide +kernel)
theorem w_944 : Cond.methodLink "OutOrderModel" 157 ⟨"OutOrderModel", "steps", "(III)I"⟩ ∈ jtbl := jtbl_in 944 (by decide +kernel) (by decide +kernel)
theorem w_946 : Cond.instanceMethod ⟨"OutOrderModel", "steps", "(III)I"⟩ ∈ jtbl := jtbl_in 946 (by decide +kernel) (by decide +kernel)
theorem w_947 : Cond.code ⟨"OutOrderModel", "steps", "(III)I"⟩ prog_14_method_36_code 9 (Option.some Jvm.ClassFile.FieldType.int) ∈ jtbl := jtbl_in 947 (by decide +kernel) (by decide +kernel)
theorem w_957 : Cond.methodLink "OutOrderModel" 167 ⟨"OutOrderModel", "goingLacks", "(I)I"⟩ ∈ jtbl := jtbl_in 957 (by decide +kernel) (by decide +kernel)
theorem w_959 : Cond.instanceMethod ⟨"OutOrderModel", "goingLacks", "(I)I"⟩ ∈ jtbl := jtbl_in 959 (by decide +kernel) (by decide +kernel)
theorem w_960 : Cond.code ⟨"OutOrderModel", "goingLacks", "(I)I"⟩ prog_14_method_41_code 2 (Option.some Jvm.ClassFile.FieldType.int) ∈ jtbl := jtbl_in 960 (by decide +kernel) (by decide +kernel)
theorem w_961 : Cond.methodLink "OutOrderModel" 164 ⟨"OutOrderModel", "goneBits", "()I"⟩ ∈ jtbl := jtbl_in 961 (by decide +kernel) (by decide +kernel)
theorem w_963 : Cond.instanceMethod ⟨"OutOrderModel", "goneBits", "()I"⟩ ∈ jtbl := jtbl_in 963 (by decide +kernel) (by decide +kernel)
theorem w_964 : Cond.code ⟨"OutOrderModel", "goneBits", "()I"⟩ prog_14_method_40_code 3 (Option.some Jvm.ClassFile.FieldType.int) ∈ jtbl := jtbl_in 964 (by decide +kernel) (by decide +kernel)
theorem w_965 : Cond.methodLink "OutOrderModel" 170 ⟨"OutOrderModel", "goingAround", "(I)I"⟩ ∈ jtbl := jtbl_in 965 (by decide +kernel) (by decide +kernel)
theorem w_967 : Cond.instanceMethod ⟨"OutOrderModel", "goingAround", "(I)I"⟩ ∈ jtbl := jtbl_in 967 (by decide +kernel) (by decide +kernel)
theorem w_968 : Cond.code ⟨"OutOrderModel", "goingAround", "(I)I"⟩ prog_14_method_42_code 2 (Option.some Jvm.ClassFile.FieldType.int) ∈ jtbl := jtbl_in 968 (by decide +kernel) (by decide +kernel)
theorem w_973 : Cond.methodLink "OutOrderModel" 173 ⟨"OutOrderModel", "kindOf", "(I)I"⟩ ∈ jtbl := jtbl_in 973 (by decide +kernel) (by decide +kernel)
theorem w_975 : Cond.instanceMethod ⟨"OutOrderModel", "kindOf", "(I)I"⟩ ∈ jtbl := jtbl_in 975 (by decide +kernel) (by decide +kernel)
theorem w_976 : Cond.code ⟨"OutOrderModel", "kindOf", "(I)I"⟩ prog_14_method_44_code 5 (Option.some Jvm.ClassFile.FieldType.int) ∈ jtbl := jtbl_in 976 (by decide +kernel) (by decide +kernel)
theorem w_985 : Cond.methodLink "OutOrderModel" 179 ⟨"OutOrderModel", "rest", "(III)I"⟩ ∈ jtbl := jtbl_in 985 (by decide +kernel) (by decide +kernel)
theorem w_987 : Cond.instanceMethod ⟨"OutOrderModel", "rest", "(III)I"⟩ ∈ jtbl := jtbl_in 987 (by decide +kernel) (by decide +kernel)
theorem w_988 : Cond.code ⟨"OutOrderModel", "rest", "(III)I"⟩ prog_14_method_49_code 8 (Option.some Jvm.ClassFile.FieldType.int) ∈ jtbl := jtbl_in 988 (by decide +kernel) (by decide +kernel)
theorem w_989 : Cond.methodLink "OutOrderModel" 182 ⟨"OutOrderModel", "inverse", "(I)I"⟩ ∈ jtbl := jtbl_in 989 (by decide +kernel) (by decide +kernel)
theorem w_991 : Cond.instanceMethod ⟨"OutOrderModel", "inverse", "(I)I"⟩ ∈ jtbl := jtbl_in 991 (by decide +kernel) (by decide +kernel)
theorem w_992 : Cond.code ⟨"OutOrderModel", "inverse", "(I)I"⟩ prog_14_method_48_code 7 (Option.some Jvm.ClassFile.FieldType.int) ∈ jtbl := jtbl_in 992 (by decide +kernel) (by decide +kernel)
theorem w_997 : Cond.methodLink "OutOrderModel" 185 ⟨"OutOrderModel", "placeOf", "(I)I"⟩ ∈ jtbl := jtbl_in 997 (by decide +kernel) (by decide +kernel)
theorem w_999 : Cond.instanceMethod ⟨"OutOrderModel", "placeOf", "(I)I"⟩ ∈ jtbl := jtbl_in 999 (by decide +kernel) (by decide +kernel)
theorem w_1000 : Cond.code ⟨"OutOrderModel", "placeOf", "(I)I"⟩ prog_14_method_51_code 3 (Option.some Jvm.ClassFile.FieldType.int) ∈ jtbl := jtbl_in 1000 (by decide +kernel) (by decide +kernel)
theorem w_1017 : Cond.methodLink "OutOrderModel" 188 ⟨"OutOrderModel", "isSolved", "()Z"⟩ ∈ jtbl := jtbl_in 1017 (by decide +kernel) (by decide +kernel)
theorem w_1019 : Cond.instanceMethod ⟨"OutOrderModel", "isSolved", "()Z"⟩ ∈ jtbl := jtbl_in 1019 (by decide +kernel) (by decide +kernel)
theorem w_1020 : Cond.code ⟨"OutOrderModel", "isSolved", "()Z"⟩ prog_14_method_56_code 3 (Option.some Jvm.ClassFile.FieldType.boolean) ∈ jtbl := jtbl_in 1020 (by decide +kernel) (by decide +kernel)
theorem w_1021 : Cond.methodLink "OutOrderModel" 191 ⟨"OutOrderModel", "solveAll", "()V"⟩ ∈ jtbl := jtbl_in 1021 (by decide +kernel) (by decide +kernel)
theorem w_1023 : Cond.instanceMethod ⟨"OutOrderModel", "solveAll", "()V"⟩ ∈ jtbl := jtbl_in 1023 (by decide +kernel) (by decide +kernel)
theorem w_1024 : Cond.code ⟨"OutOrderModel", "solveAll", "()V"⟩ prog_14_method_57_code 3 (Option.none : Option Jvm.ClassFile.FieldType) ∈ jtbl := jtbl_in 1024 (by decide +kernel) (by decide +kernel)
theorem w_1033 : Cond.methodLink "OutOrderModel" 198 ⟨"OutOrderModel", "planFor", "(I)I"⟩ ∈ jtbl := jtbl_in 1033 (by decide +kernel) (by decide +kernel)
theorem w_1035 : Cond.instanceMethod ⟨"OutOrderModel", "planFor", "(I)I"⟩ ∈ jtbl := jtbl_in 1035 (by decide +kernel) (by decide +kernel)
theorem w_1036 : Cond.code ⟨"OutOrderModel", "planFor", "(I)I"⟩ prog_14_method_60_code 8 (Option.some Jvm.ClassFile.FieldType.int) ∈ jtbl := jtbl_in 1036 (by decide +kernel) (by decide +kernel)
theorem w_1037 : Cond.methodLink "OutOrderModel" 194 ⟨"OutOrderModel", "mayBeDone", "(II)Z"⟩ ∈ jtbl := jtbl_in 1037 (by decide +kernel) (by decide +kernel)
theorem w_1039 : Cond.instanceMethod ⟨"OutOrderModel", "mayBeDone", "(II)Z"⟩ ∈ jtbl := jtbl_in 1039 (by decide +kernel) (by decide +kernel)
theorem w_1040 : Cond.code ⟨"OutOrderModel", "mayBeDone", "(II)Z"⟩ prog_14_method_61_code 5 (Option.some Jvm.ClassFile.FieldType.boolean) ∈ jtbl := jtbl_in 1040 (by decide +kernel) (by decide +kernel)
theorem ws_0 : Cond.selects "OutOrder" ⟨"OutOrder", "startAnew", "(II)V"⟩ ⟨"OutOrder", "startAnew", "(II)V"⟩ ∈ jtbl := jtbl_sel 0 (by decide +kernel) (by decide +kernel)
theorem ws_1 : Cond.selects "OutOrder" ⟨"OutOrder", "numbersChanged", "()V"⟩ ⟨"OutOrder", "numbersChanged", "()V"⟩ ∈ jtbl := jtbl_sel 1 (by decide +kernel) (by decide +kernel)
theorem ws_2 : Cond.selects "OutOrder" ⟨"OutOrder", "orderChanged", "()V"⟩ ⟨"OutOrder", "orderChanged", "()V"⟩ ∈ jtbl := jtbl_sel 2 (by decide +kernel) (by decide +kernel)
theorem ws_3 : Cond.selects "OutOrder" ⟨"OutOrder", "refuse", "(I)I"⟩ ⟨"OutOrder", "refuse", "(I)I"⟩ ∈ jtbl := jtbl_sel 3 (by decide +kernel) (by decide +kernel)
theorem ws_4 : Cond.selects "OutOrder" ⟨"OutOrder", "isNobody", "(I)Z"⟩ ⟨"OutOrder", "isNobody", "(I)Z"⟩ ∈ jtbl := jtbl_sel 4 (by decide +kernel) (by decide +kernel)
theorem ws_5 : Cond.selects "OutOrder" ⟨"OutOrder", "arrange", "(I)V"⟩ ⟨"OutOrder", "arrange", "(I)V"⟩ ∈ jtbl := jtbl_sel 5 (by decide +kernel) (by decide +kernel)
theorem ws_6 : Cond.selects "OutOrder" ⟨"OutOrder", "knownMinima", "()LOutOrder$Least;"⟩ ⟨"OutOrder", "knownMinima", "()LOutOrder$Least;"⟩ ∈ jtbl := jtbl_sel 6 (by decide +kernel) (by decide +kernel)
theorem ws_7 : Cond.selects "OutOrder$Least" ⟨"OutOrder$Least", "makeNet", "(III)V"⟩ ⟨"OutOrder$Least", "makeNet", "(III)V"⟩ ∈ jtbl := jtbl_sel 7 (by decide +kernel) (by decide +kernel)
theorem ws_8 : Cond.selects "OutOrder$Least" ⟨"OutOrder$Least", "weigh", "(II)V"⟩ ⟨"OutOrder$Least", "weigh", "(II)V"⟩ ∈ jtbl := jtbl_sel 8 (by decide +kernel) (by decide +kernel)
theorem ws_9 : Cond.selects "OutOrder$Least" ⟨"OutOrder$Least", "firstGood", "(IZ)I"⟩ ⟨"OutOrder$Least", "firstGood", "(IZ)I"⟩ ∈ jtbl := jtbl_sel 9 (by decide +kernel) (by decide +kernel)
theorem ws_10 : Cond.selects "OutOrder$Least" ⟨"OutOrder$Least", "isGood", "(IIZ)Z"⟩ ⟨"OutOrder$Least", "isGood", "(IIZ)Z"⟩ ∈ jtbl := jtbl_sel 10 (by decide +kernel) (by decide +kernel)
theorem ws_11 : Cond.selects "OutOrder$Rules" ⟨"OutOrder$Rules", "cheapest", "(II)I"⟩ ⟨"OutOrder$Rules", "cheapest", "(II)I"⟩ ∈ jtbl := jtbl_sel 11 (by decide +kernel) (by decide +kernel)
theorem ws_12 : Cond.selects "OutOrder$Rules" ⟨"OutOrder$Rules", "cost", "(II)I"⟩ ⟨"OutOrder$Rules", "cost", "(II)I"⟩ ∈ jtbl := jtbl_sel 12 (by decide +kernel) (by decide +kernel)
theorem ws_13 : Cond.selects "OutOrder" ⟨"OutOrder", "fullNet", "()LOutOrder$FullNet;"⟩ ⟨"OutOrder", "fullNet", "()LOutOrder$FullNet;"⟩ ∈ jtbl := jtbl_sel 13 (by decide +kernel) (by decide +kernel)
theorem ws_14 : Cond.selects "OutOrder$FullNet" ⟨"OutOrder$FullNet", "listFills", "(I)V"⟩ ⟨"OutOrder$FullNet", "listFills", "(I)V"⟩ ∈ jtbl := jtbl_sel 14 (by decide +kernel) (by decide +kernel)
theorem ws_15 : Cond.selects "OutOrder$FullNet" ⟨"OutOrder$FullNet", "makeTree", "(LOutOrder$Row;)V"⟩ ⟨"OutOrder$FullNet", "makeTree", "(LOutOrder$Row;)V"⟩ ∈ jtbl := jtbl_sel 15 (by decide +kernel) (by decide +kernel)
theorem ws_16 : Cond.selects "OutOrder$FullNet" ⟨"OutOrder$FullNet", "makeGroups", "(I)V"⟩ ⟨"OutOrder$FullNet", "makeGroups", "(I)V"⟩ ∈ jtbl := jtbl_sel 16 (by decide +kernel) (by decide +kernel)
theorem ws_17 : Cond.selects "OutOrder$FullNet" ⟨"OutOrder$FullNet", "isWithinAnother", "(II)Z"⟩ ⟨"OutOrder$FullNet", "isWithinAnother", "(II)Z"⟩ ∈ jtbl := jtbl_sel 17 (by decide +kernel) (by decide +kernel)
theorem ws_18 : Cond.selects "OutOrder$FullNet" ⟨"OutOrder$FullNet", "insertGroup", "(I)V"⟩ ⟨"OutOrder$FullNet", "insertGroup", "(I)V"⟩ ∈ jtbl := jtbl_sel 18 (by decide +kernel) (by decide +kernel)
theorem ws_19 : Cond.selects "OutOrder$Going" ⟨"OutOrder$Going", "isTwin", "(I)Z"⟩ ⟨"OutOrder$Going", "isTwin", "(I)Z"⟩ ∈ jtbl := jtbl_sel 19 (by decide +kernel) (by decide +kernel)
theorem ws_20 : Cond.selects "OutOrder$Work" ⟨"OutOrder$Work", "takeNumbers", "(LOutOrder$Table;LOutOrder$Row;)V"⟩ ⟨"OutOrder$Work", "takeNumbers", "(LOutOrder$Table;LOutOrder$Row;)V"⟩ ∈ jtbl := jtbl_sel 20 (by decide +kernel) (by decide +kernel)
theorem ws_21 : Cond.selects "OutOrder$Work" ⟨"OutOrder$Work", "hasRest", "(II)Z"⟩ ⟨"OutOrder$Work", "hasRest", "(II)Z"⟩ ∈ jtbl := jtbl_sel 21 (by decide +kernel) (by decide +kernel)
theorem ws_22 : Cond.selects "OutOrder$Work" ⟨"OutOrder$Work", "eliminate", "(IILOutOrder$Modulus;)V"⟩ ⟨"OutOrder$Work", "eliminate", "(IILOutOrder$Modulus;)V"⟩ ∈ jtbl := jtbl_sel 22 (by decide +kernel) (by decide +kernel)
theorem ws_23 : Cond.selects "OutOrderModel" ⟨"OutOrderModel", "refuse", "(I)I"⟩ ⟨"OutOrderModel", "refuse", "(I)I"⟩ ∈ jtbl := jtbl_sel 23 (by decide +kernel) (by decide +kernel)
theorem ws_24 : Cond.selects "OutOrderModel" ⟨"OutOrderModel", "notWorked", "()V"⟩ ⟨"OutOrderModel", "notWorked", "()V"⟩ ∈ jtbl := jtbl_sel 24 (by decide +kernel) (by decide +kernel)
theorem ws_25 : Cond.selects "OutOrderModel" ⟨"OutOrderModel", "beginNet", "()V"⟩ ⟨"OutOrderModel", "beginNet", "()V"⟩ ∈ jtbl := jtbl_sel 25 (by decide +kernel) (by decide +kernel)
theorem ws_26 : Cond.selects "OutOrderModel" ⟨"OutOrderModel", "isUnknown", "(I)Z"⟩ ⟨"OutOrderModel", "isUnknown", "(I)Z"⟩ ∈ jtbl := jtbl_sel 26 (by decide +kernel) (by decide +kernel)
theorem ws_27 : Cond.selects "OutOrderModel" ⟨"OutOrderModel", "modulo", "(J)I"⟩ ⟨"OutOrderModel", "modulo", "(J)I"⟩ ∈ jtbl := jtbl_sel 27 (by decide +kernel) (by decide +kernel)
theorem ws_28 : Cond.selects "OutOrderModel" ⟨"OutOrderModel", "someHeld", "()Z"⟩ ⟨"OutOrderModel", "someHeld", "()Z"⟩ ∈ jtbl := jtbl_sel 28 (by decide +kernel) (by decide +kernel)
theorem ws_29 : Cond.selects "OutOrderModel" ⟨"OutOrderModel", "byNumbers", "()V"⟩ ⟨"OutOrderModel", "byNumbers", "()V"⟩ ∈ jtbl := jtbl_sel 29 (by decide +kernel) (by decide +kernel)
theorem ws_30 : Cond.selects "OutOrderModel" ⟨"OutOrderModel", "byFewest", "(Z)V"⟩ ⟨"OutOrderModel", "byFewest", "(Z)V"⟩ ∈ jtbl := jtbl_sel 30 (by decide +kernel) (by decide +kernel)
theorem ws_31 : Cond.selects "OutOrderModel" ⟨"OutOrderModel", "bySearch", "()V"⟩ ⟨"OutOrderModel", "bySearch", "()V"⟩ ∈ jtbl := jtbl_sel 31 (by decide +kernel) (by decide +kernel)
theorem ws_32 : Cond.selects "OutOrderModel" ⟨"OutOrderModel", "byLeast", "(Z)V"⟩ ⟨"OutOrderModel", "byLeast", "(Z)V"⟩ ∈ jtbl := jtbl_sel 32 (by decide +kernel) (by decide +kernel)
theorem ws_33 : Cond.selects "OutOrderModel" ⟨"OutOrderModel", "findLeast", "(Z)V"⟩ ⟨"OutOrderModel", "findLeast", "(Z)V"⟩ ∈ jtbl := jtbl_sel 33 (by decide +kernel) (by decide +kernel)
theorem ws_34 : Cond.selects "OutOrderModel" ⟨"OutOrderModel", "costOf", "(IIZ)I"⟩ ⟨"OutOrderModel", "costOf", "(IIZ)I"⟩ ∈ jtbl := jtbl_sel 34 (by decide +kernel) (by decide +kernel)
theorem ws_35 : Cond.selects "OutOrderModel" ⟨"OutOrderModel", "around", "(II)I"⟩ ⟨"OutOrderModel", "around", "(II)I"⟩ ∈ jtbl := jtbl_sel 35 (by decide +kernel) (by decide +kernel)
theorem ws_36 : Cond.selects "OutOrderModel" ⟨"OutOrderModel", "joined", "(IIZ)I"⟩ ⟨"OutOrderModel", "joined", "(IIZ)I"⟩ ∈ jtbl := jtbl_sel 36 (by decide +kernel) (by decide +kernel)
theorem ws_37 : Cond.selects "OutOrderModel" ⟨"OutOrderModel", "goThrough", "()V"⟩ ⟨"OutOrderModel", "goThrough", "()V"⟩ ∈ jtbl := jtbl_sel 37 (by decide +kernel) (by decide +kernel)
theorem ws_38 : Cond.selects "OutOrderModel" ⟨"OutOrderModel", "parent", "(I)I"⟩ ⟨"OutOrderModel", "parent", "(I)I"⟩ ∈ jtbl := jtbl_sel 38 (by decide +kernel) (by decide +kernel)
theorem ws_39 : Cond.selects "OutOrderModel" ⟨"OutOrderModel", "height", "(I)I"⟩ ⟨"OutOrderModel", "height", "(I)I"⟩ ∈ jtbl := jtbl_sel 39 (by decide +kernel) (by decide +kernel)
theorem ws_40 : Cond.selects "OutOrderModel" ⟨"OutOrderModel", "steps", "(III)I"⟩ ⟨"OutOrderModel", "steps", "(III)I"⟩ ∈ jtbl := jtbl_sel 40 (by decide +kernel) (by decide +kernel)
theorem ws_41 : Cond.selects "OutOrderModel" ⟨"OutOrderModel", "goingLacks", "(I)I"⟩ ⟨"OutOrderModel", "goingLacks", "(I)I"⟩ ∈ jtbl := jtbl_sel 41 (by decide +kernel) (by decide +kernel)
theorem ws_42 : Cond.selects "OutOrderModel" ⟨"OutOrderModel", "goneBits", "()I"⟩ ⟨"OutOrderModel", "goneBits", "()I"⟩ ∈ jtbl := jtbl_sel 42 (by decide +kernel) (by decide +kernel)
theorem ws_43 : Cond.selects "OutOrderModel" ⟨"OutOrderModel", "goingAround", "(I)I"⟩ ⟨"OutOrderModel", "goingAround", "(I)I"⟩ ∈ jtbl := jtbl_sel 43 (by decide +kernel) (by decide +kernel)
theorem ws_44 : Cond.selects "OutOrderModel" ⟨"OutOrderModel", "kindOf", "(I)I"⟩ ⟨"OutOrderModel", "kindOf", "(I)I"⟩ ∈ jtbl := jtbl_sel 44 (by decide +kernel) (by decide +kernel)
theorem ws_45 : Cond.selects "OutOrderModel" ⟨"OutOrderModel", "rest", "(III)I"⟩ ⟨"OutOrderModel", "rest", "(III)I"⟩ ∈ jtbl := jtbl_sel 45 (by decide +kernel) (by decide +kernel)
theorem ws_46 : Cond.selects "OutOrderModel" ⟨"OutOrderModel", "inverse", "(I)I"⟩ ⟨"OutOrderModel", "inverse", "(I)I"⟩ ∈ jtbl := jtbl_sel 46 (by decide +kernel) (by decide +kernel)
theorem ws_47 : Cond.selects "OutOrderModel" ⟨"OutOrderModel", "placeOf", "(I)I"⟩ ⟨"OutOrderModel", "placeOf", "(I)I"⟩ ∈ jtbl := jtbl_sel 47 (by decide +kernel) (by decide +kernel)
theorem ws_48 : Cond.selects "OutOrderModel" ⟨"OutOrderModel", "isSolved", "()Z"⟩ ⟨"OutOrderModel", "isSolved", "()Z"⟩ ∈ jtbl := jtbl_sel 48 (by decide +kernel) (by decide +kernel)
theorem ws_49 : Cond.selects "OutOrderModel" ⟨"OutOrderModel", "solveAll", "()V"⟩ ⟨"OutOrderModel", "solveAll", "()V"⟩ ∈ jtbl := jtbl_sel 49 (by decide +kernel) (by decide +kernel)
theorem ws_50 : Cond.selects "OutOrderModel" ⟨"OutOrderModel", "planFor", "(I)I"⟩ ⟨"OutOrderModel", "planFor", "(I)I"⟩ ∈ jtbl := jtbl_sel 50 (by decide +kernel) (by decide +kernel)
theorem ws_51 : Cond.selects "OutOrderModel" ⟨"OutOrderModel", "mayBeDone", "(II)Z"⟩ ⟨"OutOrderModel", "mayBeDone", "(II)Z"⟩ ∈ jtbl := jtbl_sel 51 (by decide +kernel) (by decide +kernel)
theorem jAI.self {E : jE} {n i : Nat} (h : jAI E n i) : jAI E (jl i) i := ⟨h.1, h.2.1, rfl⟩
theorem sh_FN_0 {E : jE} (hE : E.2.2.2 = jLX) {i : Nat} (h : jOB E 0 i) : jOB E 4 (jr i 0) := by
  obtain ⟨h1, h2⟩ := h
  have key : ∀ i ∈ jLX, jk i = 0 → jr i 0 ∈ jLX ∧ jk (jr i 0) = 4 := by decide +kernel
  have h3 := key i (hE ▸ h1) h2
  rw [← hE] at h3
  exact h3
theorem sh_FN_1 {E : jE} (hE : E.2.2.2 = jLX) {i : Nat} (h : jOB E 0 i) : jAI E 288 (jr i 1) := by
  obtain ⟨h1, h2⟩ := h
  have key : ∀ i ∈ jLX, jk i = 0 → jr i 1 ∈ jLX ∧ jk (jr i 1) = 1000 ∧ jl (jr i 1) = 288 := by decide +kernel
  have h3 := key i (hE ▸ h1) h2
  rw [← hE] at h3
  exact h3
theorem sh_FN_2 {E : jE} (hE : E.2.2.2 = jLX) {i : Nat} (h : jOB E 0 i) : jAI E 24 (jr i 2) := by
  obtain ⟨h1, h2⟩ := h
  have key : ∀ i ∈ jLX, jk i = 0 → jr i 2 ∈ jLX ∧ jk (jr i 2) = 1000 ∧ jl (jr i 2) = 24 := by decide +kernel
  have h3 := key i (hE ▸ h1) h2
  rw [← hE] at h3
  exact h3
theorem sh_FN_3 {E : jE} (hE : E.2.2.2 = jLX) {i : Nat} (h : jOB E 0 i) : jAI E 24 (jr i 3) := by
  obtain ⟨h1, h2⟩ := h
  have key : ∀ i ∈ jLX, jk i = 0 → jr i 3 ∈ jLX ∧ jk (jr i 3) = 1000 ∧ jl (jr i 3) = 24 := by decide +kernel
  have h3 := key i (hE ▸ h1) h2
  rw [← hE] at h3
  exact h3
theorem sh_FN_4 {E : jE} (hE : E.2.2.2 = jLX) {i : Nat} (h : jOB E 0 i) : jAI E 24 (jr i 4) := by
  obtain ⟨h1, h2⟩ := h
  have key : ∀ i ∈ jLX, jk i = 0 → jr i 4 ∈ jLX ∧ jk (jr i 4) = 1000 ∧ jl (jr i 4) = 24 := by decide +kernel
  have h3 := key i (hE ▸ h1) h2
  rw [← hE] at h3
  exact h3
theorem sh_FN_5 {E : jE} (hE : E.2.2.2 = jLX) {i : Nat} (h : jOB E 0 i) : jAI E 24 (jr i 5) := by
  obtain ⟨h1, h2⟩ := h
  have key : ∀ i ∈ jLX, jk i = 0 → jr i 5 ∈ jLX ∧ jk (jr i 5) = 1000 ∧ jl (jr i 5) = 24 := by decide +kernel
  have h3 := key i (hE ▸ h1) h2
  rw [← hE] at h3
  exact h3
theorem sh_FN_6 {E : jE} (hE : E.2.2.2 = jLX) {i : Nat} (h : jOB E 0 i) : jAI E 24 (jr i 6) := by
  obtain ⟨h1, h2⟩ := h
  have key : ∀ i ∈ jLX, jk i = 0 → jr i 6 ∈ jLX ∧ jk (jr i 6) = 1000 ∧ jl (jr i 6) = 24 := by decide +kernel
  have h3 := key i (hE ▸ h1) h2
  rw [← hE] at h3
  exact h3
theorem sh_GO_0 {E : jE} (hE : E.2.2.2 = jLX) {i : Nat} (h : jOB E 1 i) : jOB E 4 (jr i 0) := by
  obtain ⟨h1, h2⟩ := h
  have key : ∀ i ∈ jLX, jk i = 1 → jr i 0 ∈ jLX ∧ jk (jr i 0) = 4 := by decide +kernel
  have h3 := key i (hE ▸ h1) h2
  rw [← hE] at h3
  exact h3
theorem sh_GO_1 {E : jE} (hE : E.2.2.2 = jLX) {i : Nat} (h : jOB E 1 i) : jAI E 24 (jr i 1) := by
  obtain ⟨h1, h2⟩ := h
  have key : ∀ i ∈ jLX, jk i = 1 → jr i 1 ∈ jLX ∧ jk (jr i 1) = 1000 ∧ jl (jr i 1) = 24 := by decide +kernel
  have h3 := key i (hE ▸ h1) h2
  rw [← hE] at h3
  exact h3
theorem sh_LE_0 {E : jE} (hE : E.2.2.2 = jLX) {i : Nat} (h : jOB E 2 i) : jAI E 4096 (jr i 0) := by
  obtain ⟨h1, h2⟩ := h
  have key : ∀ i ∈ jLX, jk i = 2 → jr i 0 ∈ jLX ∧ jk (jr i 0) = 1000 ∧ jl (jr i 0) = 4096 := by decide +kernel
  have h3 := key i (hE ▸ h1) h2
  rw [← hE] at h3
  exact h3
theorem sh_LE_1 {E : jE} (hE : E.2.2.2 = jLX) {i : Nat} (h : jOB E 2 i) : jAI E 4096 (jr i 1) := by
  obtain ⟨h1, h2⟩ := h
  have key : ∀ i ∈ jLX, jk i = 2 → jr i 1 ∈ jLX ∧ jk (jr i 1) = 1000 ∧ jl (jr i 1) = 4096 := by decide +kernel
  have h3 := key i (hE ▸ h1) h2
  rw [← hE] at h3
  exact h3
theorem sh_LE_2 {E : jE} (hE : E.2.2.2 = jLX) {i : Nat} (h : jOB E 2 i) : jAA E 13 (jr i 2) := by
  obtain ⟨h1, h2⟩ := h
  have key : ∀ i ∈ jLX, jk i = 2 → jr i 2 ∈ jLX ∧ jk (jr i 2) = 1002 ∧ jl (jr i 2) = 13 := by decide +kernel
  have h3 := key i (hE ▸ h1) h2
  rw [← hE] at h3
  exact h3
theorem sh_LE_3 {E : jE} (hE : E.2.2.2 = jLX) {i : Nat} (h : jOB E 2 i) : jOB E 4 (jr i 3) := by
  obtain ⟨h1, h2⟩ := h
  have key : ∀ i ∈ jLX, jk i = 2 → jr i 3 ∈ jLX ∧ jk (jr i 3) = 4 := by decide +kernel
  have h3 := key i (hE ▸ h1) h2
  rw [← hE] at h3
  exact h3
theorem sh_NE_0 {E : jE} (hE : E.2.2.2 = jLX) {i : Nat} (h : jOB E 4 i) : jAI E 24 (jr i 0) := by
  obtain ⟨h1, h2⟩ := h
  have key : ∀ i ∈ jLX, jk i = 4 → jr i 0 ∈ jLX ∧ jk (jr i 0) = 1000 ∧ jl (jr i 0) = 24 := by decide +kernel
  have h3 := key i (hE ▸ h1) h2
  rw [← hE] at h3
  exact h3
theorem sh_PL_0 {E : jE} (hE : E.2.2.2 = jLX) {i : Nat} (h : jOB E 5 i) : jAI E 24 (jr i 0) := by
  obtain ⟨h1, h2⟩ := h
  have key : ∀ i ∈ jLX, jk i = 5 → jr i 0 ∈ jLX ∧ jk (jr i 0) = 1000 ∧ jl (jr i 0) = 24 := by decide +kernel
  have h3 := key i (hE ▸ h1) h2
  rw [← hE] at h3
  exact h3
theorem sh_RO_0 {E : jE} (hE : E.2.2.2 = jLX) {i : Nat} (h : jOB E 6 i) : jAI E 24 (jr i 0) := by
  obtain ⟨h1, h2⟩ := h
  have key : ∀ i ∈ jLX, jk i = 6 → jr i 0 ∈ jLX ∧ jk (jr i 0) = 1000 ∧ jl (jr i 0) = 24 := by decide +kernel
  have h3 := key i (hE ▸ h1) h2
  rw [← hE] at h3
  exact h3
theorem sh_RO_1 {E : jE} (hE : E.2.2.2 = jLX) {i : Nat} (h : jOB E 6 i) : jAI E 24 (jr i 1) := by
  obtain ⟨h1, h2⟩ := h
  have key : ∀ i ∈ jLX, jk i = 6 → jr i 1 ∈ jLX ∧ jk (jr i 1) = 1000 ∧ jl (jr i 1) = 24 := by decide +kernel
  have h3 := key i (hE ▸ h1) h2
  rw [← hE] at h3
  exact h3
theorem sh_RU_0 {E : jE} (hE : E.2.2.2 = jLX) {i : Nat} (h : jOB E 7 i) : jOB E 4 (jr i 0) := by
  obtain ⟨h1, h2⟩ := h
  have key : ∀ i ∈ jLX, jk i = 7 → jr i 0 ∈ jLX ∧ jk (jr i 0) = 4 := by decide +kernel
  have h3 := key i (hE ▸ h1) h2
  rw [← hE] at h3
  exact h3
theorem sh_TA_0 {E : jE} (hE : E.2.2.2 = jLX) {i : Nat} (h : jOB E 8 i) : jOB E 3 (jr i 0) := by
  obtain ⟨h1, h2⟩ := h
  have key : ∀ i ∈ jLX, jk i = 8 → jr i 0 ∈ jLX ∧ jk (jr i 0) = 3 := by decide +kernel
  have h3 := key i (hE ▸ h1) h2
  rw [← hE] at h3
  exact h3
theorem sh_TA_1 {E : jE} (hE : E.2.2.2 = jLX) {i : Nat} (h : jOB E 8 i) : jAA E 24 (jr i 1) := by
  obtain ⟨h1, h2⟩ := h
  have key : ∀ i ∈ jLX, jk i = 8 → jr i 1 ∈ jLX ∧ jk (jr i 1) = 1002 ∧ jl (jr i 1) = 24 := by decide +kernel
  have h3 := key i (hE ▸ h1) h2
  rw [← hE] at h3
  exact h3
theorem sh_TA_2 {E : jE} (hE : E.2.2.2 = jLX) {i : Nat} (h : jOB E 8 i) : jAI E 24 (jr i 2) := by
  obtain ⟨h1, h2⟩ := h
  have key : ∀ i ∈ jLX, jk i = 8 → jr i 2 ∈ jLX ∧ jk (jr i 2) = 1000 ∧ jl (jr i 2) = 24 := by decide +kernel
  have h3 := key i (hE ▸ h1) h2
  rw [← hE] at h3
  exact h3
theorem sh_TA_3 {E : jE} (hE : E.2.2.2 = jLX) {i : Nat} (h : jOB E 8 i) : jAI E 24 (jr i 3) := by
  obtain ⟨h1, h2⟩ := h
  have key : ∀ i ∈ jLX, jk i = 8 → jr i 3 ∈ jLX ∧ jk (jr i 3) = 1000 ∧ jl (jr i 3) = 24 := by decide +kernel
  have h3 := key i (hE ▸ h1) h2
  rw [← hE] at h3
  exact h3
theorem sh_WO_0 {E : jE} (hE : E.2.2.2 = jLX) {i : Nat} (h : jOB E 9 i) : jAA E 24 (jr i 0) := by
  obtain ⟨h1, h2⟩ := h
  have key : ∀ i ∈ jLX, jk i = 9 → jr i 0 ∈ jLX ∧ jk (jr i 0) = 1002 ∧ jl (jr i 0) = 24 := by decide +kernel
  have h3 := key i (hE ▸ h1) h2
  rw [← hE] at h3
  exact h3
theorem sh_WO_1 {E : jE} (hE : E.2.2.2 = jLX) {i : Nat} (h : jOB E 9 i) : jAI E 24 (jr i 1) := by
  obtain ⟨h1, h2⟩ := h
  have key : ∀ i ∈ jLX, jk i = 9 → jr i 1 ∈ jLX ∧ jk (jr i 1) = 1000 ∧ jl (jr i 1) = 24 := by decide +kernel
  have h3 := key i (hE ▸ h1) h2
  rw [← hE] at h3
  exact h3
theorem sh_WO_2 {E : jE} (hE : E.2.2.2 = jLX) {i : Nat} (h : jOB E 9 i) : jAI E 24 (jr i 2) := by
  obtain ⟨h1, h2⟩ := h
  have key : ∀ i ∈ jLX, jk i = 9 → jr i 2 ∈ jLX ∧ jk (jr i 2) = 1000 ∧ jl (jr i 2) = 24 := by decide +kernel
  have h3 := key i (hE ▸ h1) h2
  rw [← hE] at h3
  exact h3
theorem sh_WO_3 {E : jE} (hE : E.2.2.2 = jLX) {i : Nat} (h : jOB E 9 i) : jAI E 24 (jr i 3) := by
  obtain ⟨h1, h2⟩ := h
  have key : ∀ i ∈ jLX, jk i = 9 → jr i 3 ∈ jLX ∧ jk (jr i 3) = 1000 ∧ jl (jr i 3) = 24 := by decide +kernel
  have h3 := key i (hE ▸ h1) h2
  rw [← hE] at h3
  exact h3
theorem sh_OO_0 {E : jE} (hE : E.2.2.2 = jLX) {i : Nat} (h : jOB E 10 i) : jOB E 8 (jr i 0) := by
  obtain ⟨h1, h2⟩ := h
  have key : ∀ i ∈ jLX, jk i = 10 → jr i 0 ∈ jLX ∧ jk (jr i 0) = 8 := by decide +kernel
  have h3 := key i (hE ▸ h1) h2
  rw [← hE] at h3
  exact h3
theorem sh_OO_1 {E : jE} (hE : E.2.2.2 = jLX) {i : Nat} (h : jOB E 10 i) : jOB E 6 (jr i 1) := by
  obtain ⟨h1, h2⟩ := h
  have key : ∀ i ∈ jLX, jk i = 10 → jr i 1 ∈ jLX ∧ jk (jr i 1) = 6 := by decide +kernel
  have h3 := key i (hE ▸ h1) h2
  rw [← hE] at h3
  exact h3
theorem sh_OO_2 {E : jE} (hE : E.2.2.2 = jLX) {i : Nat} (h : jOB E 10 i) : jOB E 7 (jr i 2) := by
  obtain ⟨h1, h2⟩ := h
  have key : ∀ i ∈ jLX, jk i = 10 → jr i 2 ∈ jLX ∧ jk (jr i 2) = 7 := by decide +kernel
  have h3 := key i (hE ▸ h1) h2
  rw [← hE] at h3
  exact h3
theorem sh_OO_3 {E : jE} (hE : E.2.2.2 = jLX) {i : Nat} (h : jOB E 10 i) : jOB E 2 (jr i 3) := by
  obtain ⟨h1, h2⟩ := h
  have key : ∀ i ∈ jLX, jk i = 10 → jr i 3 ∈ jLX ∧ jk (jr i 3) = 2 := by decide +kernel
  have h3 := key i (hE ▸ h1) h2
  rw [← hE] at h3
  exact h3
theorem sh_OO_4 {E : jE} (hE : E.2.2.2 = jLX) {i : Nat} (h : jOB E 10 i) : jOB E 0 (jr i 4) := by
  obtain ⟨h1, h2⟩ := h
  have key : ∀ i ∈ jLX, jk i = 10 → jr i 4 ∈ jLX ∧ jk (jr i 4) = 0 := by decide +kernel
  have h3 := key i (hE ▸ h1) h2
  rw [← hE] at h3
  exact h3
theorem sh_OO_5 {E : jE} (hE : E.2.2.2 = jLX) {i : Nat} (h : jOB E 10 i) : jOB E 1 (jr i 5) := by
  obtain ⟨h1, h2⟩ := h
  have key : ∀ i ∈ jLX, jk i = 10 → jr i 5 ∈ jLX ∧ jk (jr i 5) = 1 := by decide +kernel
  have h3 := key i (hE ▸ h1) h2
  rw [← hE] at h3
  exact h3
theorem sh_OO_6 {E : jE} (hE : E.2.2.2 = jLX) {i : Nat} (h : jOB E 10 i) : jOB E 9 (jr i 6) := by
  obtain ⟨h1, h2⟩ := h
  have key : ∀ i ∈ jLX, jk i = 10 → jr i 6 ∈ jLX ∧ jk (jr i 6) = 9 := by decide +kernel
  have h3 := key i (hE ▸ h1) h2
  rw [← hE] at h3
  exact h3
theorem sh_OO_7 {E : jE} (hE : E.2.2.2 = jLX) {i : Nat} (h : jOB E 10 i) : jOB E 5 (jr i 7) := by
  obtain ⟨h1, h2⟩ := h
  have key : ∀ i ∈ jLX, jk i = 10 → jr i 7 ∈ jLX ∧ jk (jr i 7) = 5 := by decide +kernel
  have h3 := key i (hE ▸ h1) h2
  rw [← hE] at h3
  exact h3
theorem sh_OO_8 {E : jE} (hE : E.2.2.2 = jLX) {i : Nat} (h : jOB E 10 i) : jAI E 7 (jr i 8) := by
  obtain ⟨h1, h2⟩ := h
  have key : ∀ i ∈ jLX, jk i = 10 → jr i 8 ∈ jLX ∧ jk (jr i 8) = 1000 ∧ jl (jr i 8) = 7 := by decide +kernel
  have h3 := key i (hE ▸ h1) h2
  rw [← hE] at h3
  exact h3
theorem sh_MD_2 {E : jE} (hE : E.2.2.2 = jLM) {i : Nat} (h : jOB E 11 i) : jAI E 576 (jr i 2) := by
  obtain ⟨h1, h2⟩ := h
  have key : ∀ i ∈ jLM, jk i = 11 → jr i 2 ∈ jLM ∧ jk (jr i 2) = 1000 ∧ jl (jr i 2) = 576 := by decide +kernel
  have h3 := key i (hE ▸ h1) h2
  rw [← hE] at h3
  exact h3
theorem sh_MD_3 {E : jE} (hE : E.2.2.2 = jLM) {i : Nat} (h : jOB E 11 i) : jAB E 24 (jr i 3) := by
  obtain ⟨h1, h2⟩ := h
  have key : ∀ i ∈ jLM, jk i = 11 → jr i 3 ∈ jLM ∧ jk (jr i 3) = 1001 ∧ jl (jr i 3) = 24 := by decide +kernel
  have h3 := key i (hE ▸ h1) h2
  rw [← hE] at h3
  exact h3
theorem sh_MD_4 {E : jE} (hE : E.2.2.2 = jLM) {i : Nat} (h : jOB E 11 i) : jAI E 24 (jr i 4) := by
  obtain ⟨h1, h2⟩ := h
  have key : ∀ i ∈ jLM, jk i = 11 → jr i 4 ∈ jLM ∧ jk (jr i 4) = 1000 ∧ jl (jr i 4) = 24 := by decide +kernel
  have h3 := key i (hE ▸ h1) h2
  rw [← hE] at h3
  exact h3
theorem sh_MD_5 {E : jE} (hE : E.2.2.2 = jLM) {i : Nat} (h : jOB E 11 i) : jAI E 24 (jr i 5) := by
  obtain ⟨h1, h2⟩ := h
  have key : ∀ i ∈ jLM, jk i = 11 → jr i 5 ∈ jLM ∧ jk (jr i 5) = 1000 ∧ jl (jr i 5) = 24 := by decide +kernel
  have h3 := key i (hE ▸ h1) h2
  rw [← hE] at h3
  exact h3
theorem sh_MD_6 {E : jE} (hE : E.2.2.2 = jLM) {i : Nat} (h : jOB E 11 i) : jAI E 7 (jr i 6) := by
  obtain ⟨h1, h2⟩ := h
  have key : ∀ i ∈ jLM, jk i = 11 → jr i 6 ∈ jLM ∧ jk (jr i 6) = 1000 ∧ jl (jr i 6) = 7 := by decide +kernel
  have h3 := key i (hE ▸ h1) h2
  rw [← hE] at h3
  exact h3
theorem sh_MD_7 {E : jE} (hE : E.2.2.2 = jLM) {i : Nat} (h : jOB E 11 i) : jAI E 24 (jr i 7) := by
  obtain ⟨h1, h2⟩ := h
  have key : ∀ i ∈ jLM, jk i = 11 → jr i 7 ∈ jLM ∧ jk (jr i 7) = 1000 ∧ jl (jr i 7) = 24 := by decide +kernel
  have h3 := key i (hE ▸ h1) h2
  rw [← hE] at h3
  exact h3
theorem sh_MD_8 {E : jE} (hE : E.2.2.2 = jLM) {i : Nat} (h : jOB E 11 i) : jAI E 24 (jr i 8) := by
  obtain ⟨h1, h2⟩ := h
  have key : ∀ i ∈ jLM, jk i = 11 → jr i 8 ∈ jLM ∧ jk (jr i 8) = 1000 ∧ jl (jr i 8) = 24 := by decide +kernel
  have h3 := key i (hE ▸ h1) h2
  rw [← hE] at h3
  exact h3
theorem sh_MD_9 {E : jE} (hE : E.2.2.2 = jLM) {i : Nat} (h : jOB E 11 i) : jAI E 300 (jr i 9) := by
  obtain ⟨h1, h2⟩ := h
  have key : ∀ i ∈ jLM, jk i = 11 → jr i 9 ∈ jLM ∧ jk (jr i 9) = 1000 ∧ jl (jr i 9) = 300 := by decide +kernel
  have h3 := key i (hE ▸ h1) h2
  rw [← hE] at h3
  exact h3
theorem sh_MD_11 {E : jE} (hE : E.2.2.2 = jLM) {i : Nat} (h : jOB E 11 i) : jAI E 24 (jr i 11) := by
  obtain ⟨h1, h2⟩ := h
  have key : ∀ i ∈ jLM, jk i = 11 → jr i 11 ∈ jLM ∧ jk (jr i 11) = 1000 ∧ jl (jr i 11) = 24 := by decide +kernel
  have h3 := key i (hE ▸ h1) h2
  rw [← hE] at h3
  exact h3
theorem sh_MD_12 {E : jE} (hE : E.2.2.2 = jLM) {i : Nat} (h : jOB E 11 i) : jAI E 4096 (jr i 12) := by
  obtain ⟨h1, h2⟩ := h
  have key : ∀ i ∈ jLM, jk i = 11 → jr i 12 ∈ jLM ∧ jk (jr i 12) = 1000 ∧ jl (jr i 12) = 4096 := by decide +kernel
  have h3 := key i (hE ▸ h1) h2
  rw [← hE] at h3
  exact h3
theorem sh_MD_14 {E : jE} (hE : E.2.2.2 = jLM) {i : Nat} (h : jOB E 11 i) : jAI E 24 (jr i 14) := by
  obtain ⟨h1, h2⟩ := h
  have key : ∀ i ∈ jLM, jk i = 11 → jr i 14 ∈ jLM ∧ jk (jr i 14) = 1000 ∧ jl (jr i 14) = 24 := by decide +kernel
  have h3 := key i (hE ▸ h1) h2
  rw [← hE] at h3
  exact h3
theorem sh_MD_16 {E : jE} (hE : E.2.2.2 = jLM) {i : Nat} (h : jOB E 11 i) : jAI E 600 (jr i 16) := by
  obtain ⟨h1, h2⟩ := h
  have key : ∀ i ∈ jLM, jk i = 11 → jr i 16 ∈ jLM ∧ jk (jr i 16) = 1000 ∧ jl (jr i 16) = 600 := by decide +kernel
  have h3 := key i (hE ▸ h1) h2
  rw [← hE] at h3
  exact h3
theorem sh_MD_17 {E : jE} (hE : E.2.2.2 = jLM) {i : Nat} (h : jOB E 11 i) : jAI E 24 (jr i 17) := by
  obtain ⟨h1, h2⟩ := h
  have key : ∀ i ∈ jLM, jk i = 11 → jr i 17 ∈ jLM ∧ jk (jr i 17) = 1000 ∧ jl (jr i 17) = 24 := by decide +kernel
  have h3 := key i (hE ▸ h1) h2
  rw [← hE] at h3
  exact h3
theorem sh_MD_20 {E : jE} (hE : E.2.2.2 = jLM) {i : Nat} (h : jOB E 11 i) : jAI E 24 (jr i 20) := by
  obtain ⟨h1, h2⟩ := h
  have key : ∀ i ∈ jLM, jk i = 11 → jr i 20 ∈ jLM ∧ jk (jr i 20) = 1000 ∧ jl (jr i 20) = 24 := by decide +kernel
  have h3 := key i (hE ▸ h1) h2
  rw [← hE] at h3
  exact h3
theorem sh_MD_21 {E : jE} (hE : E.2.2.2 = jLM) {i : Nat} (h : jOB E 11 i) : jAI E 576 (jr i 21) := by
  obtain ⟨h1, h2⟩ := h
  have key : ∀ i ∈ jLM, jk i = 11 → jr i 21 ∈ jLM ∧ jk (jr i 21) = 1000 ∧ jl (jr i 21) = 576 := by decide +kernel
  have h3 := key i (hE ▸ h1) h2
  rw [← hE] at h3
  exact h3
theorem sh_MD_22 {E : jE} (hE : E.2.2.2 = jLM) {i : Nat} (h : jOB E 11 i) : jAI E 24 (jr i 22) := by
  obtain ⟨h1, h2⟩ := h
  have key : ∀ i ∈ jLM, jk i = 11 → jr i 22 ∈ jLM ∧ jk (jr i 22) = 1000 ∧ jl (jr i 22) = 24 := by decide +kernel
  have h3 := key i (hE ▸ h1) h2
  rw [← hE] at h3
  exact h3
theorem sh_MD_23 {E : jE} (hE : E.2.2.2 = jLM) {i : Nat} (h : jOB E 11 i) : jAI E 24 (jr i 23) := by
  obtain ⟨h1, h2⟩ := h
  have key : ∀ i ∈ jLM, jk i = 11 → jr i 23 ∈ jLM ∧ jk (jr i 23) = 1000 ∧ jl (jr i 23) = 24 := by decide +kernel
  have h3 := key i (hE ▸ h1) h2
  rw [← hE] at h3
  exact h3
theorem sr_13_12 {E : jE} (hE : E.2.2.2 = jLX) {i : Nat} (h : jAA E 13 i) {x : Int32} (hx : vp_in x 13) : jAI E 12 (jw i x.toNatClampNeg) := by
  obtain ⟨h1, h2, h4⟩ := h
  have hlt : x.toNatClampNeg < 13 := Nat.not_le.mp fun q => hx (Or.inr q)
  have key : ∀ i ∈ jLX, jk i = 1002 → jl i = 13 → ∀ j, j < 13 → jw i j ∈ jLX ∧ jk (jw i j) = 1000 ∧ jl (jw i j) = 12 := by decide +kernel
  have h3 := key i (hE ▸ h1) h2 h4 _ hlt
  rw [← hE] at h3
  exact h3
theorem sr_24_24 {E : jE} (hE : E.2.2.2 = jLX) {i : Nat} (h : jAA E 24 i) {x : Int32} (hx : vp_in x 24) : jAI E 24 (jw i x.toNatClampNeg) := by
  obtain ⟨h1, h2, h4⟩ := h
  have hlt : x.toNatClampNeg < 24 := Nat.not_le.mp fun q => hx (Or.inr q)
  have key : ∀ i ∈ jLX, jk i = 1002 → jl i = 24 → ∀ j, j < 24 → jw i j ∈ jLX ∧ jk (jw i j) = 1000 ∧ jl (jw i j) = 24 := by decide +kernel
  have h3 := key i (hE ▸ h1) h2 h4 _ hlt
  rw [← hE] at h3
  exact h3
theorem sw_ne {x k : Int32} {n : Int} (hk : k.toInt = n) (h : ¬ x = k) : x.toInt ≠ n := fun e => h (Int32.toInt_inj.mp (e.trans hk.symm))
theorem ic_m1 : Int32.ofInt (-1) = (-1 : Int32) := by decide
theorem ic_0 : Int32.ofInt (0) = (0 : Int32) := by decide
theorem ic_1 : Int32.ofInt (1) = (1 : Int32) := by decide
theorem ic_2 : Int32.ofInt (2) = (2 : Int32) := by decide
theorem ic_3 : Int32.ofInt (3) = (3 : Int32) := by decide
theorem ic_4 : Int32.ofInt (4) = (4 : Int32) := by decide
theorem ic_5 : Int32.ofInt (5) = (5 : Int32) := by decide
theorem ib_m9 : (Int8.ofInt (-9)).toInt32 = (-9 : Int32) := by decide
theorem ib_m6 : (Int8.ofInt (-6)).toInt32 = (-6 : Int32) := by decide
theorem ib_m5 : (Int8.ofInt (-5)).toInt32 = (-5 : Int32) := by decide
theorem ib_m4 : (Int8.ofInt (-4)).toInt32 = (-4 : Int32) := by decide
theorem ib_m3 : (Int8.ofInt (-3)).toInt32 = (-3 : Int32) := by decide
theorem ib_m2 : (Int8.ofInt (-2)).toInt32 = (-2 : Int32) := by decide
theorem ib_6 : (Int8.ofInt (6)).toInt32 = (6 : Int32) := by decide
theorem ib_7 : (Int8.ofInt (7)).toInt32 = (7 : Int32) := by decide
theorem ib_8 : (Int8.ofInt (8)).toInt32 = (8 : Int32) := by decide
theorem ib_10 : (Int8.ofInt (10)).toInt32 = (10 : Int32) := by decide
theorem ib_11 : (Int8.ofInt (11)).toInt32 = (11 : Int32) := by decide
theorem ib_12 : (Int8.ofInt (12)).toInt32 = (12 : Int32) := by decide
theorem ib_13 : (Int8.ofInt (13)).toInt32 = (13 : Int32) := by decide
theorem ib_16 : (Int8.ofInt (16)).toInt32 = (16 : Int32) := by decide
theorem ib_24 : (Int8.ofInt (24)).toInt32 = (24 : Int32) := by decide
theorem ib_31 : (Int8.ofInt (31)).toInt32 = (31 : Int32) := by decide
theorem ib_32 : (Int8.ofInt (32)).toInt32 = (32 : Int32) := by decide
theorem ib_63 : (Int8.ofInt (63)).toInt32 = (63 : Int32) := by decide
theorem is_288 : (Int16.ofInt (288)).toInt32 = (288 : Int32) := by decide
theorem is_300 : (Int16.ofInt (300)).toInt32 = (300 : Int32) := by decide
theorem is_576 : (Int16.ofInt (576)).toInt32 = (576 : Int32) := by decide
theorem is_600 : (Int16.ofInt (600)).toInt32 = (600 : Int32) := by decide
theorem is_4096 : (Int16.ofInt (4096)).toInt32 = (4096 : Int32) := by decide
theorem is_32749 : (Int16.ofInt (32749)).toInt32 = (32749 : Int32) := by decide
theorem fg_OO_19 {Z : jZ} {E : jE} {cc : ByteArray} {nL fR lR : Nat} {Q : State → Prop} {pc : Nat} {lv : List (Nat × Value)} {st : List Value} {I : jM} (C : jC Z E cc nL "OutOrder" fR lR) {i : Nat} (hi : jOB E 10 i) (d : decode cc pc = .ok (.getfield 19, 3)) (h : jJ Z E nL Q (pc + 3) lv (.ref (E.2.2.1 (jr i 1)) :: st) I) : jJ Z E nL Q pc lv (.ref (E.2.2.1 i) :: st) I := j_getR C jcl_OO hi (k := 1) (by decide) rfl (ref := "OutOrder") rfl w_313 d h
theorem cw_OO_286 : jcw "OutOrder" 286 ⟨"OutOrder$Row", "turn", "()V"⟩ prog_9_method_5_code 2 none 0 := ⟨w_399, w_396, w_4, ⟨by decide, by decide⟩, by decide +kernel⟩
theorem fg_OO_26 {Z : jZ} {E : jE} {cc : ByteArray} {nL fR lR : Nat} {Q : State → Prop} {pc : Nat} {lv : List (Nat × Value)} {st : List Value} {I : jM} (C : jC Z E cc nL "OutOrder" fR lR) {i : Nat} (hi : jOB E 10 i) (d : decode cc pc = .ok (.getfield 26, 3)) (h : jJ Z E nL Q (pc + 3) lv (.ref (E.2.2.1 (jr i 2)) :: st) I) : jJ Z E nL Q pc lv (.ref (E.2.2.1 i) :: st) I := j_getR C jcl_OO hi (k := 2) (by decide) rfl (ref := "OutOrder") rfl w_314 d h
theorem fg_OO_12 {Z : jZ} {E : jE} {cc : ByteArray} {nL fR lR : Nat} {Q : State → Prop} {pc : Nat} {lv : List (Nat × Value)} {st : List Value} {I : jM} (C : jC Z E cc nL "OutOrder" fR lR) {i : Nat} (hi : jOB E 10 i) (d : decode cc pc = .ok (.getfield 12, 3)) (h : jJ Z E nL Q (pc + 3) lv (.ref (E.2.2.1 (jr i 0)) :: st) I) : jJ Z E nL Q pc lv (.ref (E.2.2.1 i) :: st) I := j_getR C jcl_OO hi (k := 0) (by decide) rfl (ref := "OutOrder") rfl w_312 d h
theorem cw_OO_289 : jcw "OutOrder" 289 ⟨"OutOrder$Rules", "search", "(LOutOrder$Table;LOutOrder$Row;)V"⟩ prog_10_method_5_code 6 none 2 := ⟨w_407, w_404, w_5, ⟨by decide, by decide⟩, by decide +kernel⟩
theorem cw_OO_168 : jcw "OutOrder" 168 ⟨"OutOrder", "knownMinima", "()LOutOrder$Least;"⟩ prog_1_method_38_code 1 (some (.object "OutOrder$Least")) 0 := ⟨w_421, w_418, w_1, ⟨by decide, by decide⟩, by decide +kernel⟩
theorem cw_OO_292 : jcw "OutOrder" 292 ⟨"OutOrder$Least", "walk", "(LOutOrder$Table;LOutOrder$Row;Z)V"⟩ prog_4_method_5_code 7 none 3 := ⟨w_450, w_447, w_7, ⟨by decide, by decide⟩, by decide +kernel⟩
theorem cw_OO_296 : jcw "OutOrder" 296 ⟨"OutOrder$Rules", "greedy", "(ILOutOrder$Table;LOutOrder$Row;)V"⟩ prog_10_method_2_code 7 none 3 := ⟨w_473, w_470, w_5, ⟨by decide, by decide⟩, by decide +kernel⟩
theorem cw_OO_83 : jcw "OutOrder" 83 ⟨"OutOrder", "isNobody", "(I)Z"⟩ prog_1_method_31_code 2 (some .boolean) 1 := ⟨w_364, w_361, w_1, ⟨by decide, by decide⟩, by decide +kernel⟩
theorem cw_OO_73 : jcw "OutOrder" 73 ⟨"OutOrder", "refuse", "(I)I"⟩ prog_1_method_32_code 3 (some .int) 1 := ⟨w_353, w_350, w_1, ⟨by decide, by decide⟩, by decide +kernel⟩
theorem fg_OO_124 {Z : jZ} {E : jE} {cc : ByteArray} {nL fR lR : Nat} {Q : State → Prop} {pc : Nat} {lv : List (Nat × Value)} {st : List Value} {I : jM} (C : jC Z E cc nL "OutOrder" fR lR) {i : Nat} (hi : jOB E 6 i) (d : decode cc pc = .ok (.getfield 124, 3)) (h : jJ Z E nL Q (pc + 3) lv (.ref (E.2.2.1 (jr i 0)) :: st) I) : jJ Z E nL Q pc lv (.ref (E.2.2.1 i) :: st) I := j_getRN C jcl_RO hi (k := 0) (by decide) rfl (ref := "OutOrder$Row") rfl (List.mem_of_getElem? (i := 22) rfl : Cond.fieldLinkNest "OutOrder" 124 "OutOrder$Row" "unknowns" "[I" "OutOrder" ∈ jnst) d h
theorem fg_OO_47 {Z : jZ} {E : jE} {cc : ByteArray} {nL fR lR : Nat} {Q : State → Prop} {pc : Nat} {lv : List (Nat × Value)} {st : List Value} {I : jM} (C : jC Z E cc nL "OutOrder" fR lR) {i : Nat} (hi : jOB E 10 i) (d : decode cc pc = .ok (.getfield 47, 3)) (h : jJ Z E nL Q (pc + 3) lv (.ref (E.2.2.1 (jr i 5)) :: st) I) : jJ Z E nL Q pc lv (.ref (E.2.2.1 i) :: st) I := j_getR C jcl_OO hi (k := 5) (by decide) rfl (ref := "OutOrder") rfl w_317 d h
theorem cw_OO_207 : jcw "OutOrder" 207 ⟨"OutOrder$Going", "undo", "(LOutOrder$Table;)I"⟩ prog_3_method_4_code 3 (some .int) 1 := ⟨w_615, w_612, w_9, ⟨by decide, by decide⟩, by decide +kernel⟩
theorem cw_OO_181 : jcw "OutOrder" 181 ⟨"OutOrder$Going", "restart", "(LOutOrder$Table;)V"⟩ prog_3_method_2_code 2 none 1 := ⟨w_299, w_296, w_9, ⟨by decide, by decide⟩, by decide +kernel⟩
theorem fg_OO_104 {Z : jZ} {E : jE} {cc : ByteArray} {nL fR lR : Nat} {Q : State → Prop} {pc : Nat} {lv : List (Nat × Value)} {st : List Value} {I : jM} (C : jC Z E cc nL "OutOrder" fR lR) {i : Nat} (hi : jOB E 8 i) (d : decode cc pc = .ok (.getfield 104, 3)) (h : jJ Z E nL Q (pc + 3) lv (.int (I i 4) :: st) I) : jJ Z E nL Q pc lv (.ref (E.2.2.1 i) :: st) I := j_getIN C jcl_TA hi (k := 4) (by decide) rfl (ref := "OutOrder$Table") rfl (List.mem_of_getElem? (i := 16) rfl : Cond.fieldLinkNest "OutOrder" 104 "OutOrder$Table" "n" "I" "OutOrder" ∈ jnst) d h
theorem cw_OO_114 : jcw "OutOrder" 114 ⟨"OutOrder", "fullNet", "()LOutOrder$FullNet;"⟩ prog_1_method_37_code 1 (some (.object "OutOrder$FullNet")) 0 := ⟨w_492, w_489, w_1, ⟨by decide, by decide⟩, by decide +kernel⟩
theorem fg_OO_130 {Z : jZ} {E : jE} {cc : ByteArray} {nL fR lR : Nat} {Q : State → Prop} {pc : Nat} {lv : List (Nat × Value)} {st : List Value} {I : jM} (C : jC Z E cc nL "OutOrder" fR lR) {i : Nat} (hi : jOB E 6 i) (d : decode cc pc = .ok (.getfield 130, 3)) (h : jJ Z E nL Q (pc + 3) lv (.ref (E.2.2.1 (jr i 1)) :: st) I) : jJ Z E nL Q pc lv (.ref (E.2.2.1 i) :: st) I := j_getRN C jcl_RO hi (k := 1) (by decide) rfl (ref := "OutOrder$Row") rfl (List.mem_of_getElem? (i := 23) rfl : Cond.fieldLinkNest "OutOrder" 130 "OutOrder$Row" "places" "[I" "OutOrder" ∈ jnst) d h
theorem fg_OO_133 {Z : jZ} {E : jE} {cc : ByteArray} {nL fR lR : Nat} {Q : State → Prop} {pc : Nat} {lv : List (Nat × Value)} {st : List Value} {I : jM} (C : jC Z E cc nL "OutOrder" fR lR) {i : Nat} (hi : jOB E 0 i) (d : decode cc pc = .ok (.getfield 133, 3)) (h : jJ Z E nL Q (pc + 3) lv (.ref (E.2.2.1 (jr i 2)) :: st) I) : jJ Z E nL Q pc lv (.ref (E.2.2.1 i) :: st) I := j_getRN C jcl_FN hi (k := 2) (by decide) rfl (ref := "OutOrder$FullNet") rfl (List.mem_of_getElem? (i := 39) rfl : Cond.fieldLinkNest "OutOrder" 133 "OutOrder$FullNet" "behind" "[I" "OutOrder" ∈ jnst) d h
theorem cw_OO_136 : jcw "OutOrder" 136 ⟨"java/lang/Integer", "bitCount", "(I)I"⟩ prog_15_method_49_code 1 (some .int) 1 := ⟨w_413, w_545, w_14, ⟨by decide, by decide⟩, by decide +kernel⟩
theorem fg_OO_141 {Z : jZ} {E : jE} {cc : ByteArray} {nL fR lR : Nat} {Q : State → Prop} {pc : Nat} {lv : List (Nat × Value)} {st : List Value} {I : jM} (C : jC Z E cc nL "OutOrder" fR lR) {i : Nat} (hi : jOB E 0 i) (d : decode cc pc = .ok (.getfield 141, 3)) (h : jJ Z E nL Q (pc + 3) lv (.ref (E.2.2.1 (jr i 3)) :: st) I) : jJ Z E nL Q pc lv (.ref (E.2.2.1 i) :: st) I := j_getRN C jcl_FN hi (k := 3) (by decide) rfl (ref := "OutOrder$FullNet") rfl (List.mem_of_getElem? (i := 40) rfl : Cond.fieldLinkNest "OutOrder" 141 "OutOrder$FullNet" "parents" "[I" "OutOrder" ∈ jnst) d h
theorem fg_OO_144 {Z : jZ} {E : jE} {cc : ByteArray} {nL fR lR : Nat} {Q : State → Prop} {pc : Nat} {lv : List (Nat × Value)} {st : List Value} {I : jM} (C : jC Z E cc nL "OutOrder" fR lR) {i : Nat} (hi : jOB E 0 i) (d : decode cc pc = .ok (.getfield 144, 3)) (h : jJ Z E nL Q (pc + 3) lv (.ref (E.2.2.1 (jr i 4)) :: st) I) : jJ Z E nL Q pc lv (.ref (E.2.2.1 i) :: st) I := j_getRN C jcl_FN hi (k := 4) (by decide) rfl (ref := "OutOrder$FullNet") rfl (List.mem_of_getElem? (i := 42) rfl : Cond.fieldLinkNest "OutOrder" 144 "OutOrder$FullNet" "heights" "[I" "OutOrder" ∈ jnst) d h
theorem fg_OO_147 {Z : jZ} {E : jE} {cc : ByteArray} {nL fR lR : Nat} {Q : State → Prop} {pc : Nat} {lv : List (Nat × Value)} {st : List Value} {I : jM} (C : jC Z E cc nL "OutOrder" fR lR) {i : Nat} (hi : jOB E 0 i) (d : decode cc pc = .ok (.getfield 147, 3)) (h : jJ Z E nL Q (pc + 3) lv (.ref (E.2.2.1 (jr i 5)) :: st) I) : jJ Z E nL Q pc lv (.ref (E.2.2.1 i) :: st) I := j_getRN C jcl_FN hi (k := 5) (by decide) rfl (ref := "OutOrder$FullNet") rfl (List.mem_of_getElem? (i := 44) rfl : Cond.fieldLinkNest "OutOrder" 147 "OutOrder$FullNet" "children" "[I" "OutOrder" ∈ jnst) d h
theorem fg_OO_118 {Z : jZ} {E : jE} {cc : ByteArray} {nL fR lR : Nat} {Q : State → Prop} {pc : Nat} {lv : List (Nat × Value)} {st : List Value} {I : jM} (C : jC Z E cc nL "OutOrder" fR lR) {i : Nat} (hi : jOB E 0 i) (d : decode cc pc = .ok (.getfield 118, 3)) (h : jJ Z E nL Q (pc + 3) lv (.int (I i 7) :: st) I) : jJ Z E nL Q pc lv (.ref (E.2.2.1 i) :: st) I := j_getIN C jcl_FN hi (k := 7) (by decide) rfl (ref := "OutOrder$FullNet") rfl (List.mem_of_getElem? (i := 46) rfl : Cond.fieldLinkNest "OutOrder" 118 "OutOrder$FullNet" "fillCount" "I" "OutOrder" ∈ jnst) d h
theorem fg_OO_127 {Z : jZ} {E : jE} {cc : ByteArray} {nL fR lR : Nat} {Q : State → Prop} {pc : Nat} {lv : List (Nat × Value)} {st : List Value} {I : jM} (C : jC Z E cc nL "OutOrder" fR lR) {i : Nat} (hi : jOB E 0 i) (d : decode cc pc = .ok (.getfield 127, 3)) (h : jJ Z E nL Q (pc + 3) lv (.ref (E.2.2.1 (jr i 1)) :: st) I) : jJ Z E nL Q pc lv (.ref (E.2.2.1 i) :: st) I := j_getRN C jcl_FN hi (k := 1) (by decide) rfl (ref := "OutOrder$FullNet") rfl (List.mem_of_getElem? (i := 38) rfl : Cond.fieldLinkNest "OutOrder" 127 "OutOrder$FullNet" "pairs" "[I" "OutOrder" ∈ jnst) d h
theorem fg_OO_280 {Z : jZ} {E : jE} {cc : ByteArray} {nL fR lR : Nat} {Q : State → Prop} {pc : Nat} {lv : List (Nat × Value)} {st : List Value} {I : jM} (C : jC Z E cc nL "OutOrder" fR lR) {i : Nat} (hi : jOB E 10 i) (d : decode cc pc = .ok (.getfield 280, 3)) (h : jJ Z E nL Q (pc + 3) lv (.int (I i 9) :: st) I) : jJ Z E nL Q pc lv (.ref (E.2.2.1 i) :: st) I := j_getI C jcl_OO hi (k := 9) (by decide) rfl (ref := "OutOrder") rfl w_321 d h
theorem fg_OO_40 {Z : jZ} {E : jE} {cc : ByteArray} {nL fR lR : Nat} {Q : State → Prop} {pc : Nat} {lv : List (Nat × Value)} {st : List Value} {I : jM} (C : jC Z E cc nL "OutOrder" fR lR) {i : Nat} (hi : jOB E 10 i) (d : decode cc pc = .ok (.getfield 40, 3)) (h : jJ Z E nL Q (pc + 3) lv (.ref (E.2.2.1 (jr i 4)) :: st) I) : jJ Z E nL Q pc lv (.ref (E.2.2.1 i) :: st) I := j_getR C jcl_OO hi (k := 4) (by decide) rfl (ref := "OutOrder") rfl w_316 d h
theorem cw_OO_300 : jcw "OutOrder" 300 ⟨"OutOrder$FullNet", "reckon", "(LOutOrder$Table;LOutOrder$Row;)V"⟩ prog_2_method_2_code 5 none 2 := ⟨w_496, w_493, w_8, ⟨by decide, by decide⟩, by decide +kernel⟩
theorem fp_OO_280 {Z : jZ} {E : jE} {cc : ByteArray} {nL fR lR : Nat} {Q : State → Prop} {pc : Nat} {lv : List (Nat × Value)} {st : List Value} {I : jM} (C : jC Z E cc nL "OutOrder" fR lR) {i : Nat} {v : Int32} (hn : narrow .boolean (.int v) = .int v) (hf : fits .boolean (.int v) = true) (hi : jOB E 10 i) (d : decode cc pc = .ok (.putfield 280, 3)) (h : jJ Z E nL Q (pc + 3) lv st (jwr I i 9 v)) : jJ Z E nL Q pc lv (.int v :: .ref (E.2.2.1 i) :: st) I := j_put C jcl_OO hi (k := 9) (by decide) rfl (ref := "OutOrder") rfl rfl w_321 hn hf d h
theorem fg_OO_185 {Z : jZ} {E : jE} {cc : ByteArray} {nL fR lR : Nat} {Q : State → Prop} {pc : Nat} {lv : List (Nat × Value)} {st : List Value} {I : jM} (C : jC Z E cc nL "OutOrder" fR lR) {i : Nat} (hi : jOB E 1 i) (d : decode cc pc = .ok (.getfield 185, 3)) (h : jJ Z E nL Q (pc + 3) lv (.ref (E.2.2.1 (jr i 0)) :: st) I) : jJ Z E nL Q pc lv (.ref (E.2.2.1 i) :: st) I := j_getRN C jcl_GO hi (k := 0) (by decide) rfl (ref := "OutOrder$Going") rfl (List.mem_of_getElem? (i := 49) rfl : Cond.fieldLinkNest "OutOrder" 185 "OutOrder$Going" "net" "LOutOrder$Net;" "OutOrder" ∈ jnst) d h
theorem cw_OO_189 : jcw "OutOrder" 189 ⟨"OutOrder$Net", "has", "(I)Z"⟩ prog_6_method_3_code 2 (some .boolean) 1 := ⟨w_459, w_588, w_6, ⟨by decide, by decide⟩, by decide +kernel⟩
theorem fg_OO_100 {Z : jZ} {E : jE} {cc : ByteArray} {nL fR lR : Nat} {Q : State → Prop} {pc : Nat} {lv : List (Nat × Value)} {st : List Value} {I : jM} (C : jC Z E cc nL "OutOrder" fR lR) {i : Nat} (hi : jOB E 8 i) (d : decode cc pc = .ok (.getfield 100, 3)) (h : jJ Z E nL Q (pc + 3) lv (.int (I i 5) :: st) I) : jJ Z E nL Q pc lv (.ref (E.2.2.1 i) :: st) I := j_getIN C jcl_TA hi (k := 5) (by decide) rfl (ref := "OutOrder$Table") rfl (List.mem_of_getElem? (i := 18) rfl : Cond.fieldLinkNest "OutOrder" 100 "OutOrder$Table" "held" "I" "OutOrder" ∈ jnst) d h
theorem cw_OO_200 : jcw "OutOrder" 200 ⟨"OutOrder$Going", "kind", "(II)I"⟩ prog_3_method_5_code 3 (some .int) 2 := ⟨w_602, w_599, w_9, ⟨by decide, by decide⟩, by decide +kernel⟩
theorem fg_OO_204 {Z : jZ} {E : jE} {cc : ByteArray} {nL fR lR : Nat} {Q : State → Prop} {pc : Nat} {lv : List (Nat × Value)} {st : List Value} {I : jM} (C : jC Z E cc nL "OutOrder" fR lR) {i : Nat} (hi : jOB E 4 i) (d : decode cc pc = .ok (.getfield 204, 3)) (h : jJ Z E nL Q (pc + 3) lv (.ref (E.2.2.1 (jr i 0)) :: st) I) : jJ Z E nL Q pc lv (.ref (E.2.2.1 i) :: st) I := j_getRN C jcl_NE hi (k := 0) (by decide) rfl (ref := "OutOrder$Net") rfl (List.mem_of_getElem? (i := 30) rfl : Cond.fieldLinkNest "OutOrder" 204 "OutOrder$Net" "near" "[I" "OutOrder" ∈ jnst) d h
theorem cw_OO_194 : jcw "OutOrder" 194 ⟨"OutOrder$Net", "missing", "(I)I"⟩ prog_6_method_4_code 5 (some .int) 1 := ⟨w_486, w_589, w_6, ⟨by decide, by decide⟩, by decide +kernel⟩
theorem fg_OO_153 {Z : jZ} {E : jE} {cc : ByteArray} {nL fR lR : Nat} {Q : State → Prop} {pc : Nat} {lv : List (Nat × Value)} {st : List Value} {I : jM} (C : jC Z E cc nL "OutOrder" fR lR) {i : Nat} (hi : jOB E 0 i) (d : decode cc pc = .ok (.getfield 153, 3)) (h : jJ Z E nL Q (pc + 3) lv (.int (I i 8) :: st) I) : jJ Z E nL Q pc lv (.ref (E.2.2.1 i) :: st) I := j_getIN C jcl_FN hi (k := 8) (by decide) rfl (ref := "OutOrder$FullNet") rfl (List.mem_of_getElem? (i := 47) rfl : Cond.fieldLinkNest "OutOrder" 153 "OutOrder$FullNet" "groupCount" "I" "OutOrder" ∈ jnst) d h
theorem fg_OO_156 {Z : jZ} {E : jE} {cc : ByteArray} {nL fR lR : Nat} {Q : State → Prop} {pc : Nat} {lv : List (Nat × Value)} {st : List Value} {I : jM} (C : jC Z E cc nL "OutOrder" fR lR) {i : Nat} (hi : jOB E 0 i) (d : decode cc pc = .ok (.getfield 156, 3)) (h : jJ Z E nL Q (pc + 3) lv (.ref (E.2.2.1 (jr i 6)) :: st) I) : jJ Z E nL Q pc lv (.ref (E.2.2.1 i) :: st) I := j_getRN C jcl_FN hi (k := 6) (by decide) rfl (ref := "OutOrder$FullNet") rfl (List.mem_of_getElem? (i := 45) rfl : Cond.fieldLinkNest "OutOrder" 156 "OutOrder$FullNet" "groups" "[I" "OutOrder" ∈ jnst) d h
theorem cw_OO_97 : jcw "OutOrder" 97 ⟨"OutOrder$Table", "isHeld", "(I)Z"⟩ prog_11_method_4_code 2 (some .boolean) 1 := ⟨w_387, w_384, w_2, ⟨by decide, by decide⟩, by decide +kernel⟩
theorem fp_OO_100 {Z : jZ} {E : jE} {cc : ByteArray} {nL fR lR : Nat} {Q : State → Prop} {pc : Nat} {lv : List (Nat × Value)} {st : List Value} {I : jM} (C : jC Z E cc nL "OutOrder" fR lR) {i : Nat} {v : Int32} (hi : jOB E 8 i) (d : decode cc pc = .ok (.putfield 100, 3)) (h : jJ Z E nL Q (pc + 3) lv st (jwr I i 5 v)) : jJ Z E nL Q pc lv (.int v :: .ref (E.2.2.1 i) :: st) I := j_putN C jcl_TA hi (k := 5) (by decide) rfl (ref := "OutOrder$Table") rfl rfl (List.mem_of_getElem? (i := 18) rfl : Cond.fieldLinkNest "OutOrder" 100 "OutOrder$Table" "held" "I" "OutOrder" ∈ jnst) rfl rfl d h
theorem fg_OO_54 {Z : jZ} {E : jE} {cc : ByteArray} {nL fR lR : Nat} {Q : State → Prop} {pc : Nat} {lv : List (Nat × Value)} {st : List Value} {I : jM} (C : jC Z E cc nL "OutOrder" fR lR) {i : Nat} (hi : jOB E 10 i) (d : decode cc pc = .ok (.getfield 54, 3)) (h : jJ Z E nL Q (pc + 3) lv (.ref (E.2.2.1 (jr i 6)) :: st) I) : jJ Z E nL Q pc lv (.ref (E.2.2.1 i) :: st) I := j_getR C jcl_OO hi (k := 6) (by decide) rfl (ref := "OutOrder") rfl w_318 d h
theorem cw_OO_240 : jcw "OutOrder" 240 ⟨"OutOrder$Work", "canDivide", "(I)Z"⟩ prog_12_method_9_code 3 (some .boolean) 1 := ⟨w_680, w_677, w_10, ⟨by decide, by decide⟩, by decide +kernel⟩
theorem cw_OO_252 : jcw "OutOrder" 252 ⟨"OutOrder$Work", "takeSingle", "(II)V"⟩ prog_12_method_11_code 4 none 2 := ⟨w_696, w_693, w_10, ⟨by decide, by decide⟩, by decide +kernel⟩
theorem cw_OO_246 : jcw "OutOrder" 246 ⟨"OutOrder$Work", "resolve", "(LOutOrder$Table;)V"⟩ prog_12_method_12_code 6 none 1 := ⟨w_688, w_685, w_10, ⟨by decide, by decide⟩, by decide +kernel⟩
theorem fg_OO_249 {Z : jZ} {E : jE} {cc : ByteArray} {nL fR lR : Nat} {Q : State → Prop} {pc : Nat} {lv : List (Nat × Value)} {st : List Value} {I : jM} (C : jC Z E cc nL "OutOrder" fR lR) {i : Nat} (hi : jOB E 9 i) (d : decode cc pc = .ok (.getfield 249, 3)) (h : jJ Z E nL Q (pc + 3) lv (.ref (E.2.2.1 (jr i 3)) :: st) I) : jJ Z E nL Q pc lv (.ref (E.2.2.1 i) :: st) I := j_getRN C jcl_WO hi (k := 3) (by decide) rfl (ref := "OutOrder$Work") rfl (List.mem_of_getElem? (i := 52) rfl : Cond.fieldLinkNest "OutOrder" 249 "OutOrder$Work" "answers" "[I" "OutOrder" ∈ jnst) d h
theorem fg_OO_159 {Z : jZ} {E : jE} {cc : ByteArray} {nL fR lR : Nat} {Q : State → Prop} {pc : Nat} {lv : List (Nat × Value)} {st : List Value} {I : jM} (C : jC Z E cc nL "OutOrder" fR lR) {i : Nat} (hi : jOB E 8 i) (d : decode cc pc = .ok (.getfield 159, 3)) (h : jJ Z E nL Q (pc + 3) lv (.ref (E.2.2.1 (jr i 2)) :: st) I) : jJ Z E nL Q pc lv (.ref (E.2.2.1 i) :: st) I := j_getRN C jcl_TA hi (k := 2) (by decide) rfl (ref := "OutOrder$Table") rfl (List.mem_of_getElem? (i := 9) rfl : Cond.fieldLinkNest "OutOrder" 159 "OutOrder$Table" "joins" "[I" "OutOrder" ∈ jnst) d h
theorem cw_OO_162 : jcw "OutOrder" 162 ⟨"OutOrder$Rings", "shortest", "(I[I)I"⟩ prog_8_method_2_code 6 (some .int) 2 := ⟨w_560, w_558, w_16, ⟨by decide, by decide⟩, by decide +kernel⟩
theorem fg_OO_276 {Z : jZ} {E : jE} {cc : ByteArray} {nL fR lR : Nat} {Q : State → Prop} {pc : Nat} {lv : List (Nat × Value)} {st : List Value} {I : jM} (C : jC Z E cc nL "OutOrder" fR lR) {i : Nat} (hi : jOB E 10 i) (d : decode cc pc = .ok (.getfield 276, 3)) (h : jJ Z E nL Q (pc + 3) lv (.int (I i 10) :: st) I) : jJ Z E nL Q pc lv (.ref (E.2.2.1 i) :: st) I := j_getI C jcl_OO hi (k := 10) (by decide) rfl (ref := "OutOrder") rfl w_322 d h
theorem fg_OO_33 {Z : jZ} {E : jE} {cc : ByteArray} {nL fR lR : Nat} {Q : State → Prop} {pc : Nat} {lv : List (Nat × Value)} {st : List Value} {I : jM} (C : jC Z E cc nL "OutOrder" fR lR) {i : Nat} (hi : jOB E 10 i) (d : decode cc pc = .ok (.getfield 33, 3)) (h : jJ Z E nL Q (pc + 3) lv (.ref (E.2.2.1 (jr i 3)) :: st) I) : jJ Z E nL Q pc lv (.ref (E.2.2.1 i) :: st) I := j_getR C jcl_OO hi (k := 3) (by decide) rfl (ref := "OutOrder") rfl w_315 d h
theorem cw_OO_301 : jcw "OutOrder" 301 ⟨"OutOrder$Least", "reckon", "(LOutOrder$Table;)V"⟩ prog_4_method_2_code 7 none 1 := ⟨w_425, w_422, w_7, ⟨by decide, by decide⟩, by decide +kernel⟩
theorem fp_OO_276 {Z : jZ} {E : jE} {cc : ByteArray} {nL fR lR : Nat} {Q : State → Prop} {pc : Nat} {lv : List (Nat × Value)} {st : List Value} {I : jM} (C : jC Z E cc nL "OutOrder" fR lR) {i : Nat} {v : Int32} (hn : narrow .boolean (.int v) = .int v) (hf : fits .boolean (.int v) = true) (hi : jOB E 10 i) (d : decode cc pc = .ok (.putfield 276, 3)) (h : jJ Z E nL Q (pc + 3) lv st (jwr I i 10 v)) : jJ Z E nL Q pc lv (.int v :: .ref (E.2.2.1 i) :: st) I := j_put C jcl_OO hi (k := 10) (by decide) rfl (ref := "OutOrder") rfl rfl w_322 hn hf d h
theorem fg_OO_172 {Z : jZ} {E : jE} {cc : ByteArray} {nL fR lR : Nat} {Q : State → Prop} {pc : Nat} {lv : List (Nat × Value)} {st : List Value} {I : jM} (C : jC Z E cc nL "OutOrder" fR lR) {i : Nat} (hi : jOB E 2 i) (d : decode cc pc = .ok (.getfield 172, 3)) (h : jJ Z E nL Q (pc + 3) lv (.ref (E.2.2.1 (jr i 0)) :: st) I) : jJ Z E nL Q pc lv (.ref (E.2.2.1 i) :: st) I := j_getRN C jcl_LE hi (k := 0) (by decide) rfl (ref := "OutOrder$Least") rfl (List.mem_of_getElem? (i := 36) rfl : Cond.fieldLinkNest "OutOrder" 172 "OutOrder$Least" "sums" "[I" "OutOrder" ∈ jnst) d h
theorem cw_OO_175 : jcw "OutOrder" 175 ⟨"OutOrder$Table", "pairs", "()I"⟩ prog_11_method_5_code 3 (some .int) 0 := ⟨w_578, w_575, w_2, ⟨by decide, by decide⟩, by decide +kernel⟩
theorem fg_OO_178 {Z : jZ} {E : jE} {cc : ByteArray} {nL fR lR : Nat} {Q : State → Prop} {pc : Nat} {lv : List (Nat × Value)} {st : List Value} {I : jM} (C : jC Z E cc nL "OutOrder" fR lR) {i : Nat} (hi : jOB E 2 i) (d : decode cc pc = .ok (.getfield 178, 3)) (h : jJ Z E nL Q (pc + 3) lv (.ref (E.2.2.1 (jr i 1)) :: st) I) : jJ Z E nL Q pc lv (.ref (E.2.2.1 i) :: st) I := j_getRN C jcl_LE hi (k := 1) (by decide) rfl (ref := "OutOrder$Least") rfl (List.mem_of_getElem? (i := 37) rfl : Cond.fieldLinkNest "OutOrder" 178 "OutOrder$Least" "widths" "[I" "OutOrder" ∈ jnst) d h
theorem fg_OO_86 {Z : jZ} {E : jE} {cc : ByteArray} {nL fR lR : Nat} {Q : State → Prop} {pc : Nat} {lv : List (Nat × Value)} {st : List Value} {I : jM} (C : jC Z E cc nL "OutOrder" fR lR) {i : Nat} (hi : jOB E 8 i) (d : decode cc pc = .ok (.getfield 86, 3)) (h : jJ Z E nL Q (pc + 3) lv (.ref (E.2.2.1 (jr i 1)) :: st) I) : jJ Z E nL Q pc lv (.ref (E.2.2.1 i) :: st) I := j_getRN C jcl_TA hi (k := 1) (by decide) rfl (ref := "OutOrder$Table") rfl (List.mem_of_getElem? (i := 4) rfl : Cond.fieldLinkNest "OutOrder" 86 "OutOrder$Table" "values" "[[I" "OutOrder" ∈ jnst) d h
theorem cw_OO_111 : jcw "OutOrder" 111 ⟨"OutOrder", "orderChanged", "()V"⟩ prog_1_method_35_code 1 none 0 := ⟨w_307, w_304, w_1, ⟨by decide, by decide⟩, by decide +kernel⟩
theorem fg_OO_215 {Z : jZ} {E : jE} {cc : ByteArray} {nL fR lR : Nat} {Q : State → Prop} {pc : Nat} {lv : List (Nat × Value)} {st : List Value} {I : jM} (C : jC Z E cc nL "OutOrder" fR lR) {i : Nat} (hi : jOB E 9 i) (d : decode cc pc = .ok (.getfield 215, 3)) (h : jJ Z E nL Q (pc + 3) lv (.int (I i 4) :: st) I) : jJ Z E nL Q pc lv (.ref (E.2.2.1 i) :: st) I := j_getIN C jcl_WO hi (k := 4) (by decide) rfl (ref := "OutOrder$Work") rfl (List.mem_of_getElem? (i := 53) rfl : Cond.fieldLinkNest "OutOrder" 215 "OutOrder$Work" "worked" "I" "OutOrder" ∈ jnst) d h
theorem cw_OO_224 : jcw "OutOrder" 224 ⟨"OutOrder$Work", "share", "(II)I"⟩ prog_12_method_7_code 3 (some .int) 2 := ⟨w_659, w_656, w_10, ⟨by decide, by decide⟩, by decide +kernel⟩
theorem cw_OO_107 : jcw "OutOrder" 107 ⟨"OutOrder", "arrange", "(I)V"⟩ prog_1_method_36_code 2 none 1 := ⟨w_395, w_392, w_1, ⟨by decide, by decide⟩, by decide +kernel⟩
theorem cw_OO_283 : jcw "OutOrder" 283 ⟨"OutOrder$Work", "forget", "()V"⟩ prog_12_method_2_code 1 none 0 := ⟨w_311, w_308, w_10, ⟨by decide, by decide⟩, by decide +kernel⟩
theorem cw_OO_197 : jcw "OutOrder" 197 ⟨"OutOrder$Going", "sendOut", "(I)V"⟩ prog_3_method_3_code 2 none 1 := ⟨w_593, w_590, w_9, ⟨by decide, by decide⟩, by decide +kernel⟩
theorem fg_OO_218 {Z : jZ} {E : jE} {cc : ByteArray} {nL fR lR : Nat} {Q : State → Prop} {pc : Nat} {lv : List (Nat × Value)} {st : List Value} {I : jM} (C : jC Z E cc nL "OutOrder" fR lR) {i : Nat} (hi : jOB E 9 i) (d : decode cc pc = .ok (.getfield 218, 3)) (h : jJ Z E nL Q (pc + 3) lv (.int (I i 5) :: st) I) : jJ Z E nL Q pc lv (.ref (E.2.2.1 i) :: st) I := j_getIN C jcl_WO hi (k := 5) (by decide) rfl (ref := "OutOrder$Work") rfl (List.mem_of_getElem? (i := 54) rfl : Cond.fieldLinkNest "OutOrder" 218 "OutOrder$Work" "stuckPlace" "I" "OutOrder" ∈ jnst) d h
theorem fg_OO_221 {Z : jZ} {E : jE} {cc : ByteArray} {nL fR lR : Nat} {Q : State → Prop} {pc : Nat} {lv : List (Nat × Value)} {st : List Value} {I : jM} (C : jC Z E cc nL "OutOrder" fR lR) {i : Nat} (hi : jOB E 9 i) (d : decode cc pc = .ok (.getfield 221, 3)) (h : jJ Z E nL Q (pc + 3) lv (.ref (E.2.2.1 (jr i 1)) :: st) I) : jJ Z E nL Q pc lv (.ref (E.2.2.1 i) :: st) I := j_getRN C jcl_WO hi (k := 1) (by decide) rfl (ref := "OutOrder$Work") rfl (List.mem_of_getElem? (i := 51) rfl : Cond.fieldLinkNest "OutOrder" 221 "OutOrder$Work" "pivots" "[I" "OutOrder" ∈ jnst) d h
theorem fg_OO_61 {Z : jZ} {E : jE} {cc : ByteArray} {nL fR lR : Nat} {Q : State → Prop} {pc : Nat} {lv : List (Nat × Value)} {st : List Value} {I : jM} (C : jC Z E cc nL "OutOrder" fR lR) {i : Nat} (hi : jOB E 10 i) (d : decode cc pc = .ok (.getfield 61, 3)) (h : jJ Z E nL Q (pc + 3) lv (.ref (E.2.2.1 (jr i 7)) :: st) I) : jJ Z E nL Q pc lv (.ref (E.2.2.1 i) :: st) I := j_getR C jcl_OO hi (k := 7) (by decide) rfl (ref := "OutOrder") rfl w_319 d h
theorem cw_OO_255 : jcw "OutOrder" 255 ⟨"OutOrder$Plan", "reckon", "(ILOutOrder$Row;LOutOrder$FullNet;)I"⟩ prog_7_method_2_code 10 (some .int) 3 := ⟨w_704, w_701, w_11, ⟨by decide, by decide⟩, by decide +kernel⟩
theorem cw_OO_90 : jcw "OutOrder" 90 ⟨"OutOrder$Table", "set", "(III)V"⟩ prog_11_method_3_code 5 none 3 := ⟨w_368, w_365, w_2, ⟨by decide, by decide⟩, by decide +kernel⟩
theorem cw_OO_94 : jcw "OutOrder" 94 ⟨"OutOrder", "numbersChanged", "()V"⟩ prog_1_method_34_code 1 none 0 := ⟨w_295, w_292, w_1, ⟨by decide, by decide⟩, by decide +kernel⟩
theorem fg_OO_65 {Z : jZ} {E : jE} {cc : ByteArray} {nL fR lR : Nat} {Q : State → Prop} {pc : Nat} {lv : List (Nat × Value)} {st : List Value} {I : jM} (C : jC Z E cc nL "OutOrder" fR lR) {i : Nat} (hi : jOB E 10 i) (d : decode cc pc = .ok (.getfield 65, 3)) (h : jJ Z E nL Q (pc + 3) lv (.ref (E.2.2.1 (jr i 8)) :: st) I) : jJ Z E nL Q pc lv (.ref (E.2.2.1 i) :: st) I := j_getR C jcl_OO hi (k := 8) (by decide) rfl (ref := "OutOrder") rfl w_320 d h
theorem fg_OO_258 {Z : jZ} {E : jE} {cc : ByteArray} {nL fR lR : Nat} {Q : State → Prop} {pc : Nat} {lv : List (Nat × Value)} {st : List Value} {I : jM} (C : jC Z E cc nL "OutOrder" fR lR) {i : Nat} (hi : jOB E 5 i) (d : decode cc pc = .ok (.getfield 258, 3)) (h : jJ Z E nL Q (pc + 3) lv (.ref (E.2.2.1 (jr i 0)) :: st) I) : jJ Z E nL Q pc lv (.ref (E.2.2.1 i) :: st) I := j_getRN C jcl_PL hi (k := 0) (by decide) rfl (ref := "OutOrder$Plan") rfl (List.mem_of_getElem? (i := 55) rfl : Cond.fieldLinkNest "OutOrder" 258 "OutOrder$Plan" "rounds" "[I" "OutOrder" ∈ jnst) d h
theorem fg_OO_230 {Z : jZ} {E : jE} {cc : ByteArray} {nL fR lR : Nat} {Q : State → Prop} {pc : Nat} {lv : List (Nat × Value)} {st : List Value} {I : jM} (C : jC Z E cc nL "OutOrder" fR lR) {i : Nat} (hi : jOB E 8 i) (d : decode cc pc = .ok (.getfield 230, 3)) (h : jJ Z E nL Q (pc + 3) lv (.ref (E.2.2.1 (jr i 3)) :: st) I) : jJ Z E nL Q pc lv (.ref (E.2.2.1 i) :: st) I := j_getRN C jcl_TA hi (k := 3) (by decide) rfl (ref := "OutOrder$Table") rfl (List.mem_of_getElem? (i := 11) rfl : Cond.fieldLinkNest "OutOrder" 230 "OutOrder$Table" "sides" "[I" "OutOrder" ∈ jnst) d h
theorem fg_OO_233 {Z : jZ} {E : jE} {cc : ByteArray} {nL fR lR : Nat} {Q : State → Prop} {pc : Nat} {lv : List (Nat × Value)} {st : List Value} {I : jM} (C : jC Z E cc nL "OutOrder" fR lR) {i : Nat} (hi : jOB E 8 i) (d : decode cc pc = .ok (.getfield 233, 3)) (h : jJ Z E nL Q (pc + 3) lv (.ref (E.2.2.1 (jr i 0)) :: st) I) : jJ Z E nL Q pc lv (.ref (E.2.2.1 i) :: st) I := j_getRN C jcl_TA hi (k := 0) (by decide) rfl (ref := "OutOrder$Table") rfl (List.mem_of_getElem? (i := 3) rfl : Cond.fieldLinkNest "OutOrder" 233 "OutOrder$Table" "modulus" "LOutOrder$Modulus;" "OutOrder" ∈ jnst) d h
theorem cw_OO_237 : jcw "OutOrder" 237 ⟨"OutOrder$Modulus", "reduce", "(I)I"⟩ prog_5_method_3_code 2 (some .int) 1 := ⟨w_372, w_672, w_3, ⟨by decide, by decide⟩, by decide +kernel⟩
theorem cw_OO_243 : jcw "OutOrder" 243 ⟨"OutOrder$Work", "takeSides", "(LOutOrder$Table;LOutOrder$Row;)V"⟩ prog_12_method_10_code 4 none 2 := ⟨w_684, w_681, w_10, ⟨by decide, by decide⟩, by decide +kernel⟩
theorem cw_OO_270 : jcw "OutOrder" 270 ⟨"OutOrder$Table", "clear", "(II)V"⟩ prog_11_method_2_code 5 none 2 := ⟨w_283, w_280, w_2, ⟨by decide, by decide⟩, by decide +kernel⟩
theorem cw_OO_273 : jcw "OutOrder" 273 ⟨"OutOrder$Row", "byNumbers", "(I)V"⟩ prog_9_method_2_code 3 none 1 := ⟨w_287, w_284, w_4, ⟨by decide, by decide⟩, by decide +kernel⟩
theorem fg_OO_261 {Z : jZ} {E : jE} {cc : ByteArray} {nL fR lR : Nat} {Q : State → Prop} {pc : Nat} {lv : List (Nat × Value)} {st : List Value} {I : jM} (C : jC Z E cc nL "OutOrder" fR lR) {i : Nat} (hi : jOB E 3 i) (d : decode cc pc = .ok (.getfield 261, 3)) (h : jJ Z E nL Q (pc + 3) lv (.int (I i 0) :: st) I) : jJ Z E nL Q pc lv (.ref (E.2.2.1 i) :: st) I := j_getIN C jcl_MO hi (k := 0) (by decide) rfl (ref := "OutOrder$Modulus") rfl (List.mem_of_getElem? (i := 1) rfl : Cond.fieldLinkNest "OutOrder" 261 "OutOrder$Modulus" "p" "I" "OutOrder" ∈ jnst) d h
theorem fg_OO_264 {Z : jZ} {E : jE} {cc : ByteArray} {nL fR lR : Nat} {Q : State → Prop} {pc : Nat} {lv : List (Nat × Value)} {st : List Value} {I : jM} (C : jC Z E cc nL "OutOrder" fR lR) {i : Nat} (hi : jOB E 1 i) (d : decode cc pc = .ok (.getfield 264, 3)) (h : jJ Z E nL Q (pc + 3) lv (.int (I i 2) :: st) I) : jJ Z E nL Q pc lv (.ref (E.2.2.1 i) :: st) I := j_getIN C jcl_GO hi (k := 2) (by decide) rfl (ref := "OutOrder$Going") rfl (List.mem_of_getElem? (i := 50) rfl : Cond.fieldLinkNest "OutOrder" 264 "OutOrder$Going" "count" "I" "OutOrder" ∈ jnst) d h
theorem cw_OO_267 : jcw "OutOrder" 267 ⟨"OutOrder$Table", "digest", "()I"⟩ prog_11_method_6_code 4 (some .int) 0 := ⟨w_722, w_719, w_2, ⟨by decide, by decide⟩, by decide +kernel⟩
theorem cw_OO_121 : jcw "OutOrder" 121 ⟨"OutOrder$Row", "exchange", "(II)V"⟩ prog_9_method_4_code 4 none 2 := ⟨w_403, w_528, w_4, ⟨by decide, by decide⟩, by decide +kernel⟩
theorem cw_OO_77 : jcw "OutOrder" 77 ⟨"OutOrder$Modulus", "isPrime", "(I)Z"⟩ prog_5_method_2_code 2 (some .boolean) 1 := ⟨w_356, w_354, w_3, ⟨by decide, by decide⟩, by decide +kernel⟩
theorem cw_OO_69 : jcw "OutOrder" 69 ⟨"OutOrder", "startAnew", "(II)V"⟩ prog_1_method_33_code 3 none 2 := ⟨w_279, w_276, w_1, ⟨by decide, by decide⟩, by decide +kernel⟩
theorem fg_OO_150 {Z : jZ} {E : jE} {cc : ByteArray} {nL fR lR : Nat} {Q : State → Prop} {pc : Nat} {lv : List (Nat × Value)} {st : List Value} {I : jM} (C : jC Z E cc nL "OutOrder" fR lR) {i : Nat} (hi : jOB E 0 i) (d : decode cc pc = .ok (.getfield 150, 3)) (h : jJ Z E nL Q (pc + 3) lv (.int (I i 9) :: st) I) : jJ Z E nL Q pc lv (.ref (E.2.2.1 i) :: st) I := j_getIN C jcl_FN hi (k := 9) (by decide) rfl (ref := "OutOrder$FullNet") rfl (List.mem_of_getElem? (i := 48) rfl : Cond.fieldLinkNest "OutOrder" 150 "OutOrder$FullNet" "widest" "I" "OutOrder" ∈ jnst) d h
theorem cw_OO_211 : jcw "OutOrder" 211 ⟨"OutOrder$Work", "reckon", "(LOutOrder$Table;LOutOrder$Row;)V"⟩ prog_12_method_3_code 4 none 2 := ⟨w_623, w_620, w_10, ⟨by decide, by decide⟩, by decide +kernel⟩
theorem cw_OO_227 : jcw "OutOrder" 227 ⟨"OutOrder$Work", "product", "(LOutOrder$Table;)I"⟩ prog_12_method_8_code 4 (some .int) 1 := ⟨w_667, w_664, w_10, ⟨by decide, by decide⟩, by decide +kernel⟩
theorem fg_FN_48 {Z : jZ} {E : jE} {cc : ByteArray} {nL fR lR : Nat} {Q : State → Prop} {pc : Nat} {lv : List (Nat × Value)} {st : List Value} {I : jM} (C : jC Z E cc nL "OutOrder$FullNet" fR lR) {i : Nat} (hi : jOB E 6 i) (d : decode cc pc = .ok (.getfield 48, 3)) (h : jJ Z E nL Q (pc + 3) lv (.int (I i 2) :: st) I) : jJ Z E nL Q pc lv (.ref (E.2.2.1 i) :: st) I := j_getIN C jcl_RO hi (k := 2) (by decide) rfl (ref := "OutOrder$Row") rfl (List.mem_of_getElem? (i := 25) rfl : Cond.fieldLinkNest "OutOrder$FullNet" 48 "OutOrder$Row" "n" "I" "OutOrder" ∈ jnst) d h
theorem fg_FN_53 {Z : jZ} {E : jE} {cc : ByteArray} {nL fR lR : Nat} {Q : State → Prop} {pc : Nat} {lv : List (Nat × Value)} {st : List Value} {I : jM} (C : jC Z E cc nL "OutOrder$FullNet" fR lR) {i : Nat} (hi : jOB E 6 i) (d : decode cc pc = .ok (.getfield 53, 3)) (h : jJ Z E nL Q (pc + 3) lv (.ref (E.2.2.1 (jr i 0)) :: st) I) : jJ Z E nL Q pc lv (.ref (E.2.2.1 i) :: st) I := j_getRN C jcl_RO hi (k := 0) (by decide) rfl (ref := "OutOrder$Row") rfl (List.mem_of_getElem? (i := 19) rfl : Cond.fieldLinkNest "OutOrder$FullNet" 53 "OutOrder$Row" "unknowns" "[I" "OutOrder" ∈ jnst) d h
theorem fg_FN_90 {Z : jZ} {E : jE} {cc : ByteArray} {nL fR lR : Nat} {Q : State → Prop} {pc : Nat} {lv : List (Nat × Value)} {st : List Value} {I : jM} (C : jC Z E cc nL "OutOrder$FullNet" fR lR) {i : Nat} (hi : jOB E 0 i) (d : decode cc pc = .ok (.getfield 90, 3)) (h : jJ Z E nL Q (pc + 3) lv (.int (I i 8) :: st) I) : jJ Z E nL Q pc lv (.ref (E.2.2.1 i) :: st) I := j_getI C jcl_FN hi (k := 8) (by decide) rfl (ref := "OutOrder$FullNet") rfl w_190 d h
theorem fg_FN_34 {Z : jZ} {E : jE} {cc : ByteArray} {nL fR lR : Nat} {Q : State → Prop} {pc : Nat} {lv : List (Nat × Value)} {st : List Value} {I : jM} (C : jC Z E cc nL "OutOrder$FullNet" fR lR) {i : Nat} (hi : jOB E 0 i) (d : decode cc pc = .ok (.getfield 34, 3)) (h : jJ Z E nL Q (pc + 3) lv (.ref (E.2.2.1 (jr i 6)) :: st) I) : jJ Z E nL Q pc lv (.ref (E.2.2.1 i) :: st) I := j_getR C jcl_FN hi (k := 6) (by decide) rfl (ref := "OutOrder$FullNet") rfl w_186 d h
theorem fp_FN_90 {Z : jZ} {E : jE} {cc : ByteArray} {nL fR lR : Nat} {Q : State → Prop} {pc : Nat} {lv : List (Nat × Value)} {st : List Value} {I : jM} (C : jC Z E cc nL "OutOrder$FullNet" fR lR) {i : Nat} {v : Int32} (hi : jOB E 0 i) (d : decode cc pc = .ok (.putfield 90, 3)) (h : jJ Z E nL Q (pc + 3) lv st (jwr I i 8 v)) : jJ Z E nL Q pc lv (.int v :: .ref (E.2.2.1 i) :: st) I := j_put C jcl_FN hi (k := 8) (by decide) rfl (ref := "OutOrder$FullNet") rfl rfl w_190 rfl rfl d h
theorem fg_FN_22 {Z : jZ} {E : jE} {cc : ByteArray} {nL fR lR : Nat} {Q : State → Prop} {pc : Nat} {lv : List (Nat × Value)} {st : List Value} {I : jM} (C : jC Z E cc nL "OutOrder$FullNet" fR lR) {i : Nat} (hi : jOB E 0 i) (d : decode cc pc = .ok (.getfield 22, 3)) (h : jJ Z E nL Q (pc + 3) lv (.ref (E.2.2.1 (jr i 2)) :: st) I) : jJ Z E nL Q pc lv (.ref (E.2.2.1 i) :: st) I := j_getR C jcl_FN hi (k := 2) (by decide) rfl (ref := "OutOrder$FullNet") rfl w_176 d h
theorem fg_FN_12 {Z : jZ} {E : jE} {cc : ByteArray} {nL fR lR : Nat} {Q : State → Prop} {pc : Nat} {lv : List (Nat × Value)} {st : List Value} {I : jM} (C : jC Z E cc nL "OutOrder$FullNet" fR lR) {i : Nat} (hi : jOB E 0 i) (d : decode cc pc = .ok (.getfield 12, 3)) (h : jJ Z E nL Q (pc + 3) lv (.ref (E.2.2.1 (jr i 0)) :: st) I) : jJ Z E nL Q pc lv (.ref (E.2.2.1 i) :: st) I := j_getR C jcl_FN hi (k := 0) (by decide) rfl (ref := "OutOrder$FullNet") rfl w_173 d h
theorem fg_FN_85 {Z : jZ} {E : jE} {cc : ByteArray} {nL fR lR : Nat} {Q : State → Prop} {pc : Nat} {lv : List (Nat × Value)} {st : List Value} {I : jM} (C : jC Z E cc nL "OutOrder$FullNet" fR lR) {i : Nat} (hi : jOB E 4 i) (d : decode cc pc = .ok (.getfield 85, 3)) (h : jJ Z E nL Q (pc + 3) lv (.int (I i 2) :: st) I) : jJ Z E nL Q pc lv (.ref (E.2.2.1 i) :: st) I := j_getIN C jcl_NE hi (k := 2) (by decide) rfl (ref := "OutOrder$Net") rfl (List.mem_of_getElem? (i := 33) rfl : Cond.fieldLinkNest "OutOrder$FullNet" 85 "OutOrder$Net" "n" "I" "OutOrder" ∈ jnst) d h
theorem fg_FN_56 {Z : jZ} {E : jE} {cc : ByteArray} {nL fR lR : Nat} {Q : State → Prop} {pc : Nat} {lv : List (Nat × Value)} {st : List Value} {I : jM} (C : jC Z E cc nL "OutOrder$FullNet" fR lR) {i : Nat} (hi : jOB E 4 i) (d : decode cc pc = .ok (.getfield 56, 3)) (h : jJ Z E nL Q (pc + 3) lv (.ref (E.2.2.1 (jr i 0)) :: st) I) : jJ Z E nL Q pc lv (.ref (E.2.2.1 i) :: st) I := j_getRN C jcl_NE hi (k := 0) (by decide) rfl (ref := "OutOrder$Net") rfl (List.mem_of_getElem? (i := 26) rfl : Cond.fieldLinkNest "OutOrder$FullNet" 56 "OutOrder$Net" "near" "[I" "OutOrder" ∈ jnst) d h
theorem fg_FN_41 {Z : jZ} {E : jE} {cc : ByteArray} {nL fR lR : Nat} {Q : State → Prop} {pc : Nat} {lv : List (Nat × Value)} {st : List Value} {I : jM} (C : jC Z E cc nL "OutOrder$FullNet" fR lR) {i : Nat} (hi : jOB E 0 i) (d : decode cc pc = .ok (.getfield 41, 3)) (h : jJ Z E nL Q (pc + 3) lv (.int (I i 7) :: st) I) : jJ Z E nL Q pc lv (.ref (E.2.2.1 i) :: st) I := j_getI C jcl_FN hi (k := 7) (by decide) rfl (ref := "OutOrder$FullNet") rfl w_188 d h
theorem fg_FN_18 {Z : jZ} {E : jE} {cc : ByteArray} {nL fR lR : Nat} {Q : State → Prop} {pc : Nat} {lv : List (Nat × Value)} {st : List Value} {I : jM} (C : jC Z E cc nL "OutOrder$FullNet" fR lR) {i : Nat} (hi : jOB E 0 i) (d : decode cc pc = .ok (.getfield 18, 3)) (h : jJ Z E nL Q (pc + 3) lv (.ref (E.2.2.1 (jr i 1)) :: st) I) : jJ Z E nL Q pc lv (.ref (E.2.2.1 i) :: st) I := j_getR C jcl_FN hi (k := 1) (by decide) rfl (ref := "OutOrder$FullNet") rfl w_174 d h
theorem fp_FN_41 {Z : jZ} {E : jE} {cc : ByteArray} {nL fR lR : Nat} {Q : State → Prop} {pc : Nat} {lv : List (Nat × Value)} {st : List Value} {I : jM} (C : jC Z E cc nL "OutOrder$FullNet" fR lR) {i : Nat} {v : Int32} (hi : jOB E 0 i) (d : decode cc pc = .ok (.putfield 41, 3)) (h : jJ Z E nL Q (pc + 3) lv st (jwr I i 7 v)) : jJ Z E nL Q pc lv (.int v :: .ref (E.2.2.1 i) :: st) I := j_put C jcl_FN hi (k := 7) (by decide) rfl (ref := "OutOrder$FullNet") rfl rfl w_188 rfl rfl d h
theorem cw_FN_93 : jcw "OutOrder$FullNet" 93 ⟨"OutOrder$FullNet", "isWithinAnother", "(II)Z"⟩ prog_2_method_7_code 5 (some .boolean) 2 := ⟨w_519, w_516, w_8, ⟨by decide, by decide⟩, by decide +kernel⟩
theorem cw_FN_97 : jcw "OutOrder$FullNet" 97 ⟨"OutOrder$FullNet", "insertGroup", "(I)V"⟩ prog_2_method_8_code 3 none 1 := ⟨w_523, w_520, w_8, ⟨by decide, by decide⟩, by decide +kernel⟩
theorem fg_FN_31 {Z : jZ} {E : jE} {cc : ByteArray} {nL fR lR : Nat} {Q : State → Prop} {pc : Nat} {lv : List (Nat × Value)} {st : List Value} {I : jM} (C : jC Z E cc nL "OutOrder$FullNet" fR lR) {i : Nat} (hi : jOB E 0 i) (d : decode cc pc = .ok (.getfield 31, 3)) (h : jJ Z E nL Q (pc + 3) lv (.ref (E.2.2.1 (jr i 5)) :: st) I) : jJ Z E nL Q pc lv (.ref (E.2.2.1 i) :: st) I := j_getR C jcl_FN hi (k := 5) (by decide) rfl (ref := "OutOrder$FullNet") rfl w_183 d h
theorem cw_FN_86 : jcw "OutOrder$FullNet" 86 ⟨"OutOrder$FullNet", "firstOf", "(ILOutOrder$Row;)I"⟩ prog_2_method_5_code 3 (some .int) 2 := ⟨w_511, w_509, w_8, ⟨by decide, by decide⟩, by decide +kernel⟩
theorem fg_FN_25 {Z : jZ} {E : jE} {cc : ByteArray} {nL fR lR : Nat} {Q : State → Prop} {pc : Nat} {lv : List (Nat × Value)} {st : List Value} {I : jM} (C : jC Z E cc nL "OutOrder$FullNet" fR lR) {i : Nat} (hi : jOB E 0 i) (d : decode cc pc = .ok (.getfield 25, 3)) (h : jJ Z E nL Q (pc + 3) lv (.ref (E.2.2.1 (jr i 3)) :: st) I) : jJ Z E nL Q pc lv (.ref (E.2.2.1 i) :: st) I := j_getR C jcl_FN hi (k := 3) (by decide) rfl (ref := "OutOrder$FullNet") rfl w_178 d h
theorem fg_FN_28 {Z : jZ} {E : jE} {cc : ByteArray} {nL fR lR : Nat} {Q : State → Prop} {pc : Nat} {lv : List (Nat × Value)} {st : List Value} {I : jM} (C : jC Z E cc nL "OutOrder$FullNet" fR lR) {i : Nat} (hi : jOB E 0 i) (d : decode cc pc = .ok (.getfield 28, 3)) (h : jJ Z E nL Q (pc + 3) lv (.ref (E.2.2.1 (jr i 4)) :: st) I) : jJ Z E nL Q pc lv (.ref (E.2.2.1 i) :: st) I := j_getR C jcl_FN hi (k := 4) (by decide) rfl (ref := "OutOrder$FullNet") rfl w_180 d h
theorem cw_FN_37 : jcw "OutOrder$FullNet" 37 ⟨"OutOrder$Net", "take", "(LOutOrder$Table;)V"⟩ prog_6_method_2_code 3 none 1 := ⟨w_303, w_497, w_6, ⟨by decide, by decide⟩, by decide +kernel⟩
theorem fp_FN_45 {Z : jZ} {E : jE} {cc : ByteArray} {nL fR lR : Nat} {Q : State → Prop} {pc : Nat} {lv : List (Nat × Value)} {st : List Value} {I : jM} (C : jC Z E cc nL "OutOrder$FullNet" fR lR) {i : Nat} {v : Int32} (hi : jOB E 0 i) (d : decode cc pc = .ok (.putfield 45, 3)) (h : jJ Z E nL Q (pc + 3) lv st (jwr I i 9 v)) : jJ Z E nL Q pc lv (.int v :: .ref (E.2.2.1 i) :: st) I := j_put C jcl_FN hi (k := 9) (by decide) rfl (ref := "OutOrder$FullNet") rfl rfl w_192 rfl rfl d h
theorem fg_FN_45 {Z : jZ} {E : jE} {cc : ByteArray} {nL fR lR : Nat} {Q : State → Prop} {pc : Nat} {lv : List (Nat × Value)} {st : List Value} {I : jM} (C : jC Z E cc nL "OutOrder$FullNet" fR lR) {i : Nat} (hi : jOB E 0 i) (d : decode cc pc = .ok (.getfield 45, 3)) (h : jJ Z E nL Q (pc + 3) lv (.int (I i 9) :: st) I) : jJ Z E nL Q pc lv (.ref (E.2.2.1 i) :: st) I := j_getI C jcl_FN hi (k := 9) (by decide) rfl (ref := "OutOrder$FullNet") rfl w_192 d h
theorem cw_FN_59 : jcw "OutOrder$FullNet" 59 ⟨"java/lang/Integer", "bitCount", "(I)I"⟩ prog_15_method_49_code 1 (some .int) 1 := ⟨w_413, w_498, w_14, ⟨by decide, by decide⟩, by decide +kernel⟩
theorem cw_FN_65 : jcw "OutOrder$FullNet" 65 ⟨"java/lang/Math", "max", "(II)I"⟩ prog_16_method_65_code 2 (some .int) 2 := ⟨w_446, w_499, w_13, ⟨by decide, by decide⟩, by decide +kernel⟩
theorem cw_FN_71 : jcw "OutOrder$FullNet" 71 ⟨"OutOrder$FullNet", "listFills", "(I)V"⟩ prog_2_method_3_code 5 none 1 := ⟨w_503, w_500, w_8, ⟨by decide, by decide⟩, by decide +kernel⟩
theorem cw_FN_75 : jcw "OutOrder$FullNet" 75 ⟨"OutOrder$Net", "remove", "(I)V"⟩ prog_6_method_5_code 2 none 1 := ⟨w_468, w_504, w_6, ⟨by decide, by decide⟩, by decide +kernel⟩
theorem cw_FN_78 : jcw "OutOrder$FullNet" 78 ⟨"OutOrder$FullNet", "makeTree", "(LOutOrder$Row;)V"⟩ prog_2_method_4_code 5 none 1 := ⟨w_508, w_505, w_8, ⟨by decide, by decide⟩, by decide +kernel⟩
theorem cw_FN_82 : jcw "OutOrder$FullNet" 82 ⟨"OutOrder$FullNet", "makeGroups", "(I)V"⟩ prog_2_method_6_code 3 none 1 := ⟨w_515, w_512, w_8, ⟨by decide, by decide⟩, by decide +kernel⟩
theorem fg_GO_12 {Z : jZ} {E : jE} {cc : ByteArray} {nL fR lR : Nat} {Q : State → Prop} {pc : Nat} {lv : List (Nat × Value)} {st : List Value} {I : jM} (C : jC Z E cc nL "OutOrder$Going" fR lR) {i : Nat} (hi : jOB E 1 i) (d : decode cc pc = .ok (.getfield 12, 3)) (h : jJ Z E nL Q (pc + 3) lv (.ref (E.2.2.1 (jr i 0)) :: st) I) : jJ Z E nL Q pc lv (.ref (E.2.2.1 i) :: st) I := j_getR C jcl_GO hi (k := 0) (by decide) rfl (ref := "OutOrder$Going") rfl w_223 d h
theorem fg_GO_37 {Z : jZ} {E : jE} {cc : ByteArray} {nL fR lR : Nat} {Q : State → Prop} {pc : Nat} {lv : List (Nat × Value)} {st : List Value} {I : jM} (C : jC Z E cc nL "OutOrder$Going" fR lR) {i : Nat} (hi : jOB E 4 i) (d : decode cc pc = .ok (.getfield 37, 3)) (h : jJ Z E nL Q (pc + 3) lv (.ref (E.2.2.1 (jr i 0)) :: st) I) : jJ Z E nL Q pc lv (.ref (E.2.2.1 i) :: st) I := j_getRN C jcl_NE hi (k := 0) (by decide) rfl (ref := "OutOrder$Net") rfl (List.mem_of_getElem? (i := 28) rfl : Cond.fieldLinkNest "OutOrder$Going" 37 "OutOrder$Net" "near" "[I" "OutOrder" ∈ jnst) d h
theorem fg_GO_34 {Z : jZ} {E : jE} {cc : ByteArray} {nL fR lR : Nat} {Q : State → Prop} {pc : Nat} {lv : List (Nat × Value)} {st : List Value} {I : jM} (C : jC Z E cc nL "OutOrder$Going" fR lR) {i : Nat} (hi : jOB E 4 i) (d : decode cc pc = .ok (.getfield 34, 3)) (h : jJ Z E nL Q (pc + 3) lv (.int (I i 1) :: st) I) : jJ Z E nL Q pc lv (.ref (E.2.2.1 i) :: st) I := j_getIN C jcl_NE hi (k := 1) (by decide) rfl (ref := "OutOrder$Net") rfl (List.mem_of_getElem? (i := 32) rfl : Cond.fieldLinkNest "OutOrder$Going" 34 "OutOrder$Net" "left" "I" "OutOrder" ∈ jnst) d h
theorem cw_GO_40 : jcw "OutOrder$Going" 40 ⟨"OutOrder$Going", "isTwin", "(I)Z"⟩ prog_3_method_6_code 5 (some .boolean) 1 := ⟨w_606, w_603, w_9, ⟨by decide, by decide⟩, by decide +kernel⟩
theorem cw_GO_44 : jcw "OutOrder$Going" 44 ⟨"OutOrder$Net", "missing", "(I)I"⟩ prog_6_method_4_code 5 (some .int) 1 := ⟨w_486, w_607, w_6, ⟨by decide, by decide⟩, by decide +kernel⟩
theorem cw_GO_22 : jcw "OutOrder$Going" 22 ⟨"OutOrder$Net", "take", "(LOutOrder$Table;)V"⟩ prog_6_method_2_code 3 none 1 := ⟨w_303, w_300, w_6, ⟨by decide, by decide⟩, by decide +kernel⟩
theorem fp_GO_26 {Z : jZ} {E : jE} {cc : ByteArray} {nL fR lR : Nat} {Q : State → Prop} {pc : Nat} {lv : List (Nat × Value)} {st : List Value} {I : jM} (C : jC Z E cc nL "OutOrder$Going" fR lR) {i : Nat} {v : Int32} (hi : jOB E 1 i) (d : decode cc pc = .ok (.putfield 26, 3)) (h : jJ Z E nL Q (pc + 3) lv st (jwr I i 2 v)) : jJ Z E nL Q pc lv (.int v :: .ref (E.2.2.1 i) :: st) I := j_put C jcl_GO hi (k := 2) (by decide) rfl (ref := "OutOrder$Going") rfl rfl w_226 rfl rfl d h
theorem fg_GO_26 {Z : jZ} {E : jE} {cc : ByteArray} {nL fR lR : Nat} {Q : State → Prop} {pc : Nat} {lv : List (Nat × Value)} {st : List Value} {I : jM} (C : jC Z E cc nL "OutOrder$Going" fR lR) {i : Nat} (hi : jOB E 1 i) (d : decode cc pc = .ok (.getfield 26, 3)) (h : jJ Z E nL Q (pc + 3) lv (.int (I i 2) :: st) I) : jJ Z E nL Q pc lv (.ref (E.2.2.1 i) :: st) I := j_getI C jcl_GO hi (k := 2) (by decide) rfl (ref := "OutOrder$Going") rfl w_226 d h
theorem fg_GO_18 {Z : jZ} {E : jE} {cc : ByteArray} {nL fR lR : Nat} {Q : State → Prop} {pc : Nat} {lv : List (Nat × Value)} {st : List Value} {I : jM} (C : jC Z E cc nL "OutOrder$Going" fR lR) {i : Nat} (hi : jOB E 1 i) (d : decode cc pc = .ok (.getfield 18, 3)) (h : jJ Z E nL Q (pc + 3) lv (.ref (E.2.2.1 (jr i 1)) :: st) I) : jJ Z E nL Q pc lv (.ref (E.2.2.1 i) :: st) I := j_getR C jcl_GO hi (k := 1) (by decide) rfl (ref := "OutOrder$Going") rfl w_225 d h
theorem cw_GO_30 : jcw "OutOrder$Going" 30 ⟨"OutOrder$Net", "remove", "(I)V"⟩ prog_6_method_5_code 2 none 1 := ⟨w_468, w_594, w_6, ⟨by decide, by decide⟩, by decide +kernel⟩
theorem fg_LE_26 {Z : jZ} {E : jE} {cc : ByteArray} {nL fR lR : Nat} {Q : State → Prop} {pc : Nat} {lv : List (Nat × Value)} {st : List Value} {I : jM} (C : jC Z E cc nL "OutOrder$Least" fR lR) {i : Nat} (hi : jOB E 2 i) (d : decode cc pc = .ok (.getfield 26, 3)) (h : jJ Z E nL Q (pc + 3) lv (.ref (E.2.2.1 (jr i 3)) :: st) I) : jJ Z E nL Q pc lv (.ref (E.2.2.1 i) :: st) I := j_getR C jcl_LE hi (k := 3) (by decide) rfl (ref := "OutOrder$Least") rfl w_155 d h
theorem fg_LE_89 {Z : jZ} {E : jE} {cc : ByteArray} {nL fR lR : Nat} {Q : State → Prop} {pc : Nat} {lv : List (Nat × Value)} {st : List Value} {I : jM} (C : jC Z E cc nL "OutOrder$Least" fR lR) {i : Nat} (hi : jOB E 4 i) (d : decode cc pc = .ok (.getfield 89, 3)) (h : jJ Z E nL Q (pc + 3) lv (.int (I i 2) :: st) I) : jJ Z E nL Q pc lv (.ref (E.2.2.1 i) :: st) I := j_getIN C jcl_NE hi (k := 2) (by decide) rfl (ref := "OutOrder$Net") rfl (List.mem_of_getElem? (i := 35) rfl : Cond.fieldLinkNest "OutOrder$Least" 89 "OutOrder$Net" "n" "I" "OutOrder" ∈ jnst) d h
theorem cw_LE_90 : jcw "OutOrder$Least" 90 ⟨"OutOrder$Net", "has", "(I)Z"⟩ prog_6_method_3_code 2 (some .boolean) 1 := ⟨w_459, w_456, w_6, ⟨by decide, by decide⟩, by decide +kernel⟩
theorem cw_LE_94 : jcw "OutOrder$Least" 94 ⟨"OutOrder$Least", "isGood", "(IIZ)Z"⟩ prog_4_method_7_code 6 (some .boolean) 3 := ⟨w_463, w_460, w_7, ⟨by decide, by decide⟩, by decide +kernel⟩
theorem fg_LE_98 {Z : jZ} {E : jE} {cc : ByteArray} {nL fR lR : Nat} {Q : State → Prop} {pc : Nat} {lv : List (Nat × Value)} {st : List Value} {I : jM} (C : jC Z E cc nL "OutOrder$Least" fR lR) {i : Nat} (hi : jOB E 4 i) (d : decode cc pc = .ok (.getfield 98, 3)) (h : jJ Z E nL Q (pc + 3) lv (.ref (E.2.2.1 (jr i 0)) :: st) I) : jJ Z E nL Q pc lv (.ref (E.2.2.1 i) :: st) I := j_getRN C jcl_NE hi (k := 0) (by decide) rfl (ref := "OutOrder$Net") rfl (List.mem_of_getElem? (i := 29) rfl : Cond.fieldLinkNest "OutOrder$Least" 98 "OutOrder$Net" "near" "[I" "OutOrder" ∈ jnst) d h
theorem cw_LE_57 : jcw "OutOrder$Least" 57 ⟨"java/lang/Integer", "bitCount", "(I)I"⟩ prog_15_method_49_code 1 (some .int) 1 := ⟨w_413, w_440, w_14, ⟨by decide, by decide⟩, by decide +kernel⟩
theorem fg_LE_15 {Z : jZ} {E : jE} {cc : ByteArray} {nL fR lR : Nat} {Q : State → Prop} {pc : Nat} {lv : List (Nat × Value)} {st : List Value} {I : jM} (C : jC Z E cc nL "OutOrder$Least" fR lR) {i : Nat} (hi : jOB E 2 i) (d : decode cc pc = .ok (.getfield 15, 3)) (h : jJ Z E nL Q (pc + 3) lv (.ref (E.2.2.1 (jr i 1)) :: st) I) : jJ Z E nL Q pc lv (.ref (E.2.2.1 i) :: st) I := j_getR C jcl_LE hi (k := 1) (by decide) rfl (ref := "OutOrder$Least") rfl w_152 d h
theorem cw_LE_69 : jcw "OutOrder$Least" 69 ⟨"java/lang/Math", "max", "(II)I"⟩ prog_16_method_65_code 2 (some .int) 2 := ⟨w_446, w_444, w_13, ⟨by decide, by decide⟩, by decide +kernel⟩
theorem fg_LE_9 {Z : jZ} {E : jE} {cc : ByteArray} {nL fR lR : Nat} {Q : State → Prop} {pc : Nat} {lv : List (Nat × Value)} {st : List Value} {I : jM} (C : jC Z E cc nL "OutOrder$Least" fR lR) {i : Nat} (hi : jOB E 2 i) (d : decode cc pc = .ok (.getfield 9, 3)) (h : jJ Z E nL Q (pc + 3) lv (.ref (E.2.2.1 (jr i 0)) :: st) I) : jJ Z E nL Q pc lv (.ref (E.2.2.1 i) :: st) I := j_getR C jcl_LE hi (k := 0) (by decide) rfl (ref := "OutOrder$Least") rfl w_150 d h
theorem fg_LE_20 {Z : jZ} {E : jE} {cc : ByteArray} {nL fR lR : Nat} {Q : State → Prop} {pc : Nat} {lv : List (Nat × Value)} {st : List Value} {I : jM} (C : jC Z E cc nL "OutOrder$Least" fR lR) {i : Nat} (hi : jOB E 2 i) (d : decode cc pc = .ok (.getfield 20, 3)) (h : jJ Z E nL Q (pc + 3) lv (.ref (E.2.2.1 (jr i 2)) :: st) I) : jJ Z E nL Q pc lv (.ref (E.2.2.1 i) :: st) I := j_getR C jcl_LE hi (k := 2) (by decide) rfl (ref := "OutOrder$Least") rfl w_154 d h
theorem cw_LE_47 : jcw "OutOrder$Least" 47 ⟨"OutOrder$Net", "copyWithout", "(I[I[II)V"⟩ prog_6_method_6_code 7 none 4 := ⟨w_432, w_430, w_6, ⟨by decide, by decide⟩, by decide +kernel⟩
theorem fg_LE_30 {Z : jZ} {E : jE} {cc : ByteArray} {nL fR lR : Nat} {Q : State → Prop} {pc : Nat} {lv : List (Nat × Value)} {st : List Value} {I : jM} (C : jC Z E cc nL "OutOrder$Least" fR lR) {i : Nat} (hi : jOB E 8 i) (d : decode cc pc = .ok (.getfield 30, 3)) (h : jJ Z E nL Q (pc + 3) lv (.int (I i 4) :: st) I) : jJ Z E nL Q pc lv (.ref (E.2.2.1 i) :: st) I := j_getIN C jcl_TA hi (k := 4) (by decide) rfl (ref := "OutOrder$Table") rfl (List.mem_of_getElem? (i := 12) rfl : Cond.fieldLinkNest "OutOrder$Least" 30 "OutOrder$Table" "n" "I" "OutOrder" ∈ jnst) d h
theorem fg_LE_36 {Z : jZ} {E : jE} {cc : ByteArray} {nL fR lR : Nat} {Q : State → Prop} {pc : Nat} {lv : List (Nat × Value)} {st : List Value} {I : jM} (C : jC Z E cc nL "OutOrder$Least" fR lR) {i : Nat} (hi : jOB E 8 i) (d : decode cc pc = .ok (.getfield 36, 3)) (h : jJ Z E nL Q (pc + 3) lv (.ref (E.2.2.1 (jr i 2)) :: st) I) : jJ Z E nL Q pc lv (.ref (E.2.2.1 i) :: st) I := j_getRN C jcl_TA hi (k := 2) (by decide) rfl (ref := "OutOrder$Table") rfl (List.mem_of_getElem? (i := 6) rfl : Cond.fieldLinkNest "OutOrder$Least" 36 "OutOrder$Table" "joins" "[I" "OutOrder" ∈ jnst) d h
theorem cw_LE_39 : jcw "OutOrder$Least" 39 ⟨"OutOrder$Least", "makeNet", "(III)V"⟩ prog_4_method_3_code 4 none 3 := ⟨w_429, w_426, w_7, ⟨by decide, by decide⟩, by decide +kernel⟩
theorem cw_LE_43 : jcw "OutOrder$Least" 43 ⟨"OutOrder$Least", "weigh", "(II)V"⟩ prog_4_method_4_code 8 none 2 := ⟨w_439, w_436, w_7, ⟨by decide, by decide⟩, by decide +kernel⟩
theorem cw_LE_72 : jcw "OutOrder$Least" 72 ⟨"OutOrder$Net", "take", "(LOutOrder$Table;)V"⟩ prog_6_method_2_code 3 none 1 := ⟨w_303, w_451, w_6, ⟨by decide, by decide⟩, by decide +kernel⟩
theorem cw_LE_76 : jcw "OutOrder$Least" 76 ⟨"OutOrder$Least", "firstGood", "(IZ)I"⟩ prog_4_method_6_code 4 (some .int) 2 := ⟨w_455, w_452, w_7, ⟨by decide, by decide⟩, by decide +kernel⟩
theorem cw_LE_80 : jcw "OutOrder$Least" 80 ⟨"OutOrder$Row", "set", "(II)V"⟩ prog_9_method_3_code 3 none 2 := ⟨w_291, w_464, w_4, ⟨by decide, by decide⟩, by decide +kernel⟩
theorem cw_LE_85 : jcw "OutOrder$Least" 85 ⟨"OutOrder$Net", "remove", "(I)V"⟩ prog_6_method_5_code 2 none 1 := ⟨w_468, w_465, w_6, ⟨by decide, by decide⟩, by decide +kernel⟩
theorem cw_LE_63 : jcw "OutOrder$Least" 63 ⟨"java/lang/Math", "min", "(II)I"⟩ prog_16_method_69_code 2 (some .int) 2 := ⟨w_443, w_441, w_13, ⟨by decide, by decide⟩, by decide +kernel⟩
theorem fg_MO_9 {Z : jZ} {E : jE} {cc : ByteArray} {nL fR lR : Nat} {Q : State → Prop} {pc : Nat} {lv : List (Nat × Value)} {st : List Value} {I : jM} (C : jC Z E cc nL "OutOrder$Modulus" fR lR) {i : Nat} (hi : jOB E 3 i) (d : decode cc pc = .ok (.getfield 9, 3)) (h : jJ Z E nL Q (pc + 3) lv (.int (I i 0) :: st) I) : jJ Z E nL Q pc lv (.ref (E.2.2.1 i) :: st) I := j_getI C jcl_MO hi (k := 0) (by decide) rfl (ref := "OutOrder$Modulus") rfl w_37 d h
theorem cw_MO_25 : jcw "OutOrder$Modulus" 25 ⟨"OutOrder$Modulus", "times", "(II)I"⟩ prog_5_method_4_code 3 (some .int) 2 := ⟨w_636, w_633, w_3, ⟨by decide, by decide⟩, by decide +kernel⟩
theorem cw_MO_15 : jcw "OutOrder$Modulus" 15 ⟨"java/lang/Math", "floorMod", "(II)I"⟩ prog_16_method_50_code 3 (some .int) 2 := ⟨w_375, w_373, w_13, ⟨by decide, by decide⟩, by decide +kernel⟩
theorem cw_MO_21 : jcw "OutOrder$Modulus" 21 ⟨"OutOrder$Modulus", "reduce", "(I)I"⟩ prog_5_method_3_code 2 (some .int) 1 := ⟨w_372, w_637, w_3, ⟨by decide, by decide⟩, by decide +kernel⟩
theorem fg_NE_22 {Z : jZ} {E : jE} {cc : ByteArray} {nL fR lR : Nat} {Q : State → Prop} {pc : Nat} {lv : List (Nat × Value)} {st : List Value} {I : jM} (C : jC Z E cc nL "OutOrder$Net" fR lR) {i : Nat} (hi : jOB E 4 i) (d : decode cc pc = .ok (.getfield 22, 3)) (h : jJ Z E nL Q (pc + 3) lv (.int (I i 1) :: st) I) : jJ Z E nL Q pc lv (.ref (E.2.2.1 i) :: st) I := j_getI C jcl_NE hi (k := 1) (by decide) rfl (ref := "OutOrder$Net") rfl w_123 d h
theorem fg_NE_9 {Z : jZ} {E : jE} {cc : ByteArray} {nL fR lR : Nat} {Q : State → Prop} {pc : Nat} {lv : List (Nat × Value)} {st : List Value} {I : jM} (C : jC Z E cc nL "OutOrder$Net" fR lR) {i : Nat} (hi : jOB E 4 i) (d : decode cc pc = .ok (.getfield 9, 3)) (h : jJ Z E nL Q (pc + 3) lv (.ref (E.2.2.1 (jr i 0)) :: st) I) : jJ Z E nL Q pc lv (.ref (E.2.2.1 i) :: st) I := j_getR C jcl_NE hi (k := 0) (by decide) rfl (ref := "OutOrder$Net") rfl w_117 d h
theorem fg_NE_15 {Z : jZ} {E : jE} {cc : ByteArray} {nL fR lR : Nat} {Q : State → Prop} {pc : Nat} {lv : List (Nat × Value)} {st : List Value} {I : jM} (C : jC Z E cc nL "OutOrder$Net" fR lR) {i : Nat} (hi : jOB E 4 i) (d : decode cc pc = .ok (.getfield 15, 3)) (h : jJ Z E nL Q (pc + 3) lv (.int (I i 2) :: st) I) : jJ Z E nL Q pc lv (.ref (E.2.2.1 i) :: st) I := j_getI C jcl_NE hi (k := 2) (by decide) rfl (ref := "OutOrder$Net") rfl w_126 d h
theorem cw_NE_28 : jcw "OutOrder$Net" 28 ⟨"java/lang/Integer", "bitCount", "(I)I"⟩ prog_15_method_49_code 1 (some .int) 1 := ⟨w_413, w_487, w_14, ⟨by decide, by decide⟩, by decide +kernel⟩
theorem fp_NE_22 {Z : jZ} {E : jE} {cc : ByteArray} {nL fR lR : Nat} {Q : State → Prop} {pc : Nat} {lv : List (Nat × Value)} {st : List Value} {I : jM} (C : jC Z E cc nL "OutOrder$Net" fR lR) {i : Nat} {v : Int32} (hi : jOB E 4 i) (d : decode cc pc = .ok (.putfield 22, 3)) (h : jJ Z E nL Q (pc + 3) lv st (jwr I i 1 v)) : jJ Z E nL Q pc lv (.int v :: .ref (E.2.2.1 i) :: st) I := j_put C jcl_NE hi (k := 1) (by decide) rfl (ref := "OutOrder$Net") rfl rfl w_123 rfl rfl d h
theorem cw_NE_34 : jcw "OutOrder$Net" 34 ⟨"OutOrder$Net", "copyWithout", "(I[I[II)V"⟩ prog_6_method_6_code 7 none 4 := ⟨w_432, w_469, w_6, ⟨by decide, by decide⟩, by decide +kernel⟩
theorem fg_NE_19 {Z : jZ} {E : jE} {cc : ByteArray} {nL fR lR : Nat} {Q : State → Prop} {pc : Nat} {lv : List (Nat × Value)} {st : List Value} {I : jM} (C : jC Z E cc nL "OutOrder$Net" fR lR) {i : Nat} (hi : jOB E 8 i) (d : decode cc pc = .ok (.getfield 19, 3)) (h : jJ Z E nL Q (pc + 3) lv (.int (I i 4) :: st) I) : jJ Z E nL Q pc lv (.ref (E.2.2.1 i) :: st) I := j_getIN C jcl_TA hi (k := 4) (by decide) rfl (ref := "OutOrder$Table") rfl (List.mem_of_getElem? (i := 13) rfl : Cond.fieldLinkNest "OutOrder$Net" 19 "OutOrder$Table" "n" "I" "OutOrder" ∈ jnst) d h
theorem fp_NE_15 {Z : jZ} {E : jE} {cc : ByteArray} {nL fR lR : Nat} {Q : State → Prop} {pc : Nat} {lv : List (Nat × Value)} {st : List Value} {I : jM} (C : jC Z E cc nL "OutOrder$Net" fR lR) {i : Nat} {v : Int32} (hi : jOB E 4 i) (d : decode cc pc = .ok (.putfield 15, 3)) (h : jJ Z E nL Q (pc + 3) lv st (jwr I i 2 v)) : jJ Z E nL Q pc lv (.int v :: .ref (E.2.2.1 i) :: st) I := j_put C jcl_NE hi (k := 2) (by decide) rfl (ref := "OutOrder$Net") rfl rfl w_126 rfl rfl d h
theorem fg_NE_25 {Z : jZ} {E : jE} {cc : ByteArray} {nL fR lR : Nat} {Q : State → Prop} {pc : Nat} {lv : List (Nat × Value)} {st : List Value} {I : jM} (C : jC Z E cc nL "OutOrder$Net" fR lR) {i : Nat} (hi : jOB E 8 i) (d : decode cc pc = .ok (.getfield 25, 3)) (h : jJ Z E nL Q (pc + 3) lv (.ref (E.2.2.1 (jr i 2)) :: st) I) : jJ Z E nL Q pc lv (.ref (E.2.2.1 i) :: st) I := j_getRN C jcl_TA hi (k := 2) (by decide) rfl (ref := "OutOrder$Table") rfl (List.mem_of_getElem? (i := 7) rfl : Cond.fieldLinkNest "OutOrder$Net" 25 "OutOrder$Table" "joins" "[I" "OutOrder" ∈ jnst) d h
theorem fg_PL_29 {Z : jZ} {E : jE} {cc : ByteArray} {nL fR lR : Nat} {Q : State → Prop} {pc : Nat} {lv : List (Nat × Value)} {st : List Value} {I : jM} (C : jC Z E cc nL "OutOrder$Plan" fR lR) {i : Nat} (hi : jOB E 0 i) (d : decode cc pc = .ok (.getfield 29, 3)) (h : jJ Z E nL Q (pc + 3) lv (.ref (E.2.2.1 (jr i 5)) :: st) I) : jJ Z E nL Q pc lv (.ref (E.2.2.1 i) :: st) I := j_getRN C jcl_FN hi (k := 5) (by decide) rfl (ref := "OutOrder$FullNet") rfl (List.mem_of_getElem? (i := 43) rfl : Cond.fieldLinkNest "OutOrder$Plan" 29 "OutOrder$FullNet" "children" "[I" "OutOrder" ∈ jnst) d h
theorem fg_PL_15 {Z : jZ} {E : jE} {cc : ByteArray} {nL fR lR : Nat} {Q : State → Prop} {pc : Nat} {lv : List (Nat × Value)} {st : List Value} {I : jM} (C : jC Z E cc nL "OutOrder$Plan" fR lR) {i : Nat} (hi : jOB E 6 i) (d : decode cc pc = .ok (.getfield 15, 3)) (h : jJ Z E nL Q (pc + 3) lv (.int (I i 2) :: st) I) : jJ Z E nL Q pc lv (.ref (E.2.2.1 i) :: st) I := j_getIN C jcl_RO hi (k := 2) (by decide) rfl (ref := "OutOrder$Row") rfl (List.mem_of_getElem? (i := 24) rfl : Cond.fieldLinkNest "OutOrder$Plan" 15 "OutOrder$Row" "n" "I" "OutOrder" ∈ jnst) d h
theorem fg_PL_34 {Z : jZ} {E : jE} {cc : ByteArray} {nL fR lR : Nat} {Q : State → Prop} {pc : Nat} {lv : List (Nat × Value)} {st : List Value} {I : jM} (C : jC Z E cc nL "OutOrder$Plan" fR lR) {i : Nat} (hi : jOB E 6 i) (d : decode cc pc = .ok (.getfield 34, 3)) (h : jJ Z E nL Q (pc + 3) lv (.ref (E.2.2.1 (jr i 0)) :: st) I) : jJ Z E nL Q pc lv (.ref (E.2.2.1 i) :: st) I := j_getRN C jcl_RO hi (k := 0) (by decide) rfl (ref := "OutOrder$Row") rfl (List.mem_of_getElem? (i := 20) rfl : Cond.fieldLinkNest "OutOrder$Plan" 34 "OutOrder$Row" "unknowns" "[I" "OutOrder" ∈ jnst) d h
theorem fg_PL_37 {Z : jZ} {E : jE} {cc : ByteArray} {nL fR lR : Nat} {Q : State → Prop} {pc : Nat} {lv : List (Nat × Value)} {st : List Value} {I : jM} (C : jC Z E cc nL "OutOrder$Plan" fR lR) {i : Nat} (hi : jOB E 0 i) (d : decode cc pc = .ok (.getfield 37, 3)) (h : jJ Z E nL Q (pc + 3) lv (.ref (E.2.2.1 (jr i 4)) :: st) I) : jJ Z E nL Q pc lv (.ref (E.2.2.1 i) :: st) I := j_getRN C jcl_FN hi (k := 4) (by decide) rfl (ref := "OutOrder$FullNet") rfl (List.mem_of_getElem? (i := 41) rfl : Cond.fieldLinkNest "OutOrder$Plan" 37 "OutOrder$FullNet" "heights" "[I" "OutOrder" ∈ jnst) d h
theorem cw_PL_21 : jcw "OutOrder$Plan" 21 ⟨"OutOrder$Plan", "allowed", "(IILOutOrder$FullNet;)I"⟩ prog_7_method_3_code 5 (some .int) 3 := ⟨w_707, w_705, w_11, ⟨by decide, by decide⟩, by decide +kernel⟩
theorem cw_PL_25 : jcw "OutOrder$Plan" 25 ⟨"OutOrder$Plan", "highest", "(ILOutOrder$Row;LOutOrder$FullNet;)I"⟩ prog_7_method_4_code 7 (some .int) 3 := ⟨w_710, w_708, w_11, ⟨by decide, by decide⟩, by decide +kernel⟩
theorem fg_PL_9 {Z : jZ} {E : jE} {cc : ByteArray} {nL fR lR : Nat} {Q : State → Prop} {pc : Nat} {lv : List (Nat × Value)} {st : List Value} {I : jM} (C : jC Z E cc nL "OutOrder$Plan" fR lR) {i : Nat} (hi : jOB E 5 i) (d : decode cc pc = .ok (.getfield 9, 3)) (h : jJ Z E nL Q (pc + 3) lv (.ref (E.2.2.1 (jr i 0)) :: st) I) : jJ Z E nL Q pc lv (.ref (E.2.2.1 i) :: st) I := j_getR C jcl_PL hi (k := 0) (by decide) rfl (ref := "OutOrder$Plan") rfl w_271 d h
theorem cw_RI_13 : jcw "OutOrder$Rings" 13 ⟨"OutOrder$Rings", "joinedWith", "(II[I)I"⟩ prog_8_method_4_code 5 (some .int) 3 := ⟨w_566, w_564, w_16, ⟨by decide, by decide⟩, by decide +kernel⟩
theorem cw_RI_7 : jcw "OutOrder$Rings" 7 ⟨"OutOrder$Rings", "along", "(III[I)I"⟩ prog_8_method_3_code 9 (some .int) 4 := ⟨w_563, w_561, w_16, ⟨by decide, by decide⟩, by decide +kernel⟩
theorem fp_RO_18 {Z : jZ} {E : jE} {cc : ByteArray} {nL fR lR : Nat} {Q : State → Prop} {pc : Nat} {lv : List (Nat × Value)} {st : List Value} {I : jM} (C : jC Z E cc nL "OutOrder$Row" fR lR) {i : Nat} {v : Int32} (hi : jOB E 6 i) (d : decode cc pc = .ok (.putfield 18, 3)) (h : jJ Z E nL Q (pc + 3) lv st (jwr I i 2 v)) : jJ Z E nL Q pc lv (.int v :: .ref (E.2.2.1 i) :: st) I := j_put C jcl_RO hi (k := 2) (by decide) rfl (ref := "OutOrder$Row") rfl rfl w_95 rfl rfl d h
theorem fg_RO_18 {Z : jZ} {E : jE} {cc : ByteArray} {nL fR lR : Nat} {Q : State → Prop} {pc : Nat} {lv : List (Nat × Value)} {st : List Value} {I : jM} (C : jC Z E cc nL "OutOrder$Row" fR lR) {i : Nat} (hi : jOB E 6 i) (d : decode cc pc = .ok (.getfield 18, 3)) (h : jJ Z E nL Q (pc + 3) lv (.int (I i 2) :: st) I) : jJ Z E nL Q pc lv (.ref (E.2.2.1 i) :: st) I := j_getI C jcl_RO hi (k := 2) (by decide) rfl (ref := "OutOrder$Row") rfl w_95 d h
theorem cw_RO_22 : jcw "OutOrder$Row" 22 ⟨"OutOrder$Row", "set", "(II)V"⟩ prog_9_method_3_code 3 none 2 := ⟨w_291, w_288, w_4, ⟨by decide, by decide⟩, by decide +kernel⟩
theorem fg_RO_9 {Z : jZ} {E : jE} {cc : ByteArray} {nL fR lR : Nat} {Q : State → Prop} {pc : Nat} {lv : List (Nat × Value)} {st : List Value} {I : jM} (C : jC Z E cc nL "OutOrder$Row" fR lR) {i : Nat} (hi : jOB E 6 i) (d : decode cc pc = .ok (.getfield 9, 3)) (h : jJ Z E nL Q (pc + 3) lv (.ref (E.2.2.1 (jr i 0)) :: st) I) : jJ Z E nL Q pc lv (.ref (E.2.2.1 i) :: st) I := j_getR C jcl_RO hi (k := 0) (by decide) rfl (ref := "OutOrder$Row") rfl w_88 d h
theorem fg_RO_15 {Z : jZ} {E : jE} {cc : ByteArray} {nL fR lR : Nat} {Q : State → Prop} {pc : Nat} {lv : List (Nat × Value)} {st : List Value} {I : jM} (C : jC Z E cc nL "OutOrder$Row" fR lR) {i : Nat} (hi : jOB E 6 i) (d : decode cc pc = .ok (.getfield 15, 3)) (h : jJ Z E nL Q (pc + 3) lv (.ref (E.2.2.1 (jr i 1)) :: st) I) : jJ Z E nL Q pc lv (.ref (E.2.2.1 i) :: st) I := j_getR C jcl_RO hi (k := 1) (by decide) rfl (ref := "OutOrder$Row") rfl w_93 d h
theorem cw_RO_26 : jcw "OutOrder$Row" 26 ⟨"OutOrder$Row", "exchange", "(II)V"⟩ prog_9_method_4_code 4 none 2 := ⟨w_403, w_400, w_4, ⟨by decide, by decide⟩, by decide +kernel⟩
theorem fg_RU_12 {Z : jZ} {E : jE} {cc : ByteArray} {nL fR lR : Nat} {Q : State → Prop} {pc : Nat} {lv : List (Nat × Value)} {st : List Value} {I : jM} (C : jC Z E cc nL "OutOrder$Rules" fR lR) {i : Nat} (hi : jOB E 7 i) (d : decode cc pc = .ok (.getfield 12, 3)) (h : jJ Z E nL Q (pc + 3) lv (.ref (E.2.2.1 (jr i 0)) :: st) I) : jJ Z E nL Q pc lv (.ref (E.2.2.1 i) :: st) I := j_getR C jcl_RU hi (k := 0) (by decide) rfl (ref := "OutOrder$Rules") rfl w_137 d h
theorem fg_RU_48 {Z : jZ} {E : jE} {cc : ByteArray} {nL fR lR : Nat} {Q : State → Prop} {pc : Nat} {lv : List (Nat × Value)} {st : List Value} {I : jM} (C : jC Z E cc nL "OutOrder$Rules" fR lR) {i : Nat} (hi : jOB E 4 i) (d : decode cc pc = .ok (.getfield 48, 3)) (h : jJ Z E nL Q (pc + 3) lv (.int (I i 2) :: st) I) : jJ Z E nL Q pc lv (.ref (E.2.2.1 i) :: st) I := j_getIN C jcl_NE hi (k := 2) (by decide) rfl (ref := "OutOrder$Net") rfl (List.mem_of_getElem? (i := 34) rfl : Cond.fieldLinkNest "OutOrder$Rules" 48 "OutOrder$Net" "n" "I" "OutOrder" ∈ jnst) d h
theorem cw_RU_49 : jcw "OutOrder$Rules" 49 ⟨"OutOrder$Rules", "cost", "(II)I"⟩ prog_10_method_4_code 3 (some .int) 2 := ⟨w_482, w_479, w_5, ⟨by decide, by decide⟩, by decide +kernel⟩
theorem fg_RU_52 {Z : jZ} {E : jE} {cc : ByteArray} {nL fR lR : Nat} {Q : State → Prop} {pc : Nat} {lv : List (Nat × Value)} {st : List Value} {I : jM} (C : jC Z E cc nL "OutOrder$Rules" fR lR) {i : Nat} (hi : jOB E 4 i) (d : decode cc pc = .ok (.getfield 52, 3)) (h : jJ Z E nL Q (pc + 3) lv (.ref (E.2.2.1 (jr i 0)) :: st) I) : jJ Z E nL Q pc lv (.ref (E.2.2.1 i) :: st) I := j_getRN C jcl_NE hi (k := 0) (by decide) rfl (ref := "OutOrder$Net") rfl (List.mem_of_getElem? (i := 27) rfl : Cond.fieldLinkNest "OutOrder$Rules" 52 "OutOrder$Net" "near" "[I" "OutOrder" ∈ jnst) d h
theorem cw_RU_56 : jcw "OutOrder$Rules" 56 ⟨"java/lang/Integer", "bitCount", "(I)I"⟩ prog_15_method_49_code 1 (some .int) 1 := ⟨w_413, w_411, w_14, ⟨by decide, by decide⟩, by decide +kernel⟩
theorem cw_RU_62 : jcw "OutOrder$Rules" 62 ⟨"OutOrder$Net", "missing", "(I)I"⟩ prog_6_method_4_code 5 (some .int) 1 := ⟨w_486, w_483, w_6, ⟨by decide, by decide⟩, by decide +kernel⟩
theorem cw_RU_18 : jcw "OutOrder$Rules" 18 ⟨"OutOrder$Net", "take", "(LOutOrder$Table;)V"⟩ prog_6_method_2_code 3 none 1 := ⟨w_303, w_474, w_6, ⟨by decide, by decide⟩, by decide +kernel⟩
theorem fg_RU_22 {Z : jZ} {E : jE} {cc : ByteArray} {nL fR lR : Nat} {Q : State → Prop} {pc : Nat} {lv : List (Nat × Value)} {st : List Value} {I : jM} (C : jC Z E cc nL "OutOrder$Rules" fR lR) {i : Nat} (hi : jOB E 8 i) (d : decode cc pc = .ok (.getfield 22, 3)) (h : jJ Z E nL Q (pc + 3) lv (.int (I i 4) :: st) I) : jJ Z E nL Q pc lv (.ref (E.2.2.1 i) :: st) I := j_getIN C jcl_TA hi (k := 4) (by decide) rfl (ref := "OutOrder$Table") rfl (List.mem_of_getElem? (i := 14) rfl : Cond.fieldLinkNest "OutOrder$Rules" 22 "OutOrder$Table" "n" "I" "OutOrder" ∈ jnst) d h
theorem fg_RU_28 {Z : jZ} {E : jE} {cc : ByteArray} {nL fR lR : Nat} {Q : State → Prop} {pc : Nat} {lv : List (Nat × Value)} {st : List Value} {I : jM} (C : jC Z E cc nL "OutOrder$Rules" fR lR) {i : Nat} (hi : jOB E 4 i) (d : decode cc pc = .ok (.getfield 28, 3)) (h : jJ Z E nL Q (pc + 3) lv (.int (I i 1) :: st) I) : jJ Z E nL Q pc lv (.ref (E.2.2.1 i) :: st) I := j_getIN C jcl_NE hi (k := 1) (by decide) rfl (ref := "OutOrder$Net") rfl (List.mem_of_getElem? (i := 31) rfl : Cond.fieldLinkNest "OutOrder$Rules" 28 "OutOrder$Net" "left" "I" "OutOrder" ∈ jnst) d h
theorem fg_RU_31 {Z : jZ} {E : jE} {cc : ByteArray} {nL fR lR : Nat} {Q : State → Prop} {pc : Nat} {lv : List (Nat × Value)} {st : List Value} {I : jM} (C : jC Z E cc nL "OutOrder$Rules" fR lR) {i : Nat} (hi : jOB E 8 i) (d : decode cc pc = .ok (.getfield 31, 3)) (h : jJ Z E nL Q (pc + 3) lv (.int (I i 5) :: st) I) : jJ Z E nL Q pc lv (.ref (E.2.2.1 i) :: st) I := j_getIN C jcl_TA hi (k := 5) (by decide) rfl (ref := "OutOrder$Table") rfl (List.mem_of_getElem? (i := 17) rfl : Cond.fieldLinkNest "OutOrder$Rules" 31 "OutOrder$Table" "held" "I" "OutOrder" ∈ jnst) d h
theorem cw_RU_34 : jcw "OutOrder$Rules" 34 ⟨"OutOrder$Rules", "cheapest", "(II)I"⟩ prog_10_method_3_code 6 (some .int) 2 := ⟨w_478, w_475, w_5, ⟨by decide, by decide⟩, by decide +kernel⟩
theorem cw_RU_38 : jcw "OutOrder$Rules" 38 ⟨"OutOrder$Row", "set", "(II)V"⟩ prog_9_method_3_code 3 none 2 := ⟨w_291, w_417, w_4, ⟨by decide, by decide⟩, by decide +kernel⟩
theorem cw_RU_44 : jcw "OutOrder$Rules" 44 ⟨"OutOrder$Net", "remove", "(I)V"⟩ prog_6_method_5_code 2 none 1 := ⟨w_468, w_488, w_6, ⟨by decide, by decide⟩, by decide +kernel⟩
theorem fg_RU_69 {Z : jZ} {E : jE} {cc : ByteArray} {nL fR lR : Nat} {Q : State → Prop} {pc : Nat} {lv : List (Nat × Value)} {st : List Value} {I : jM} (C : jC Z E cc nL "OutOrder$Rules" fR lR) {i : Nat} (hi : jOB E 8 i) (d : decode cc pc = .ok (.getfield 69, 3)) (h : jJ Z E nL Q (pc + 3) lv (.ref (E.2.2.1 (jr i 2)) :: st) I) : jJ Z E nL Q pc lv (.ref (E.2.2.1 i) :: st) I := j_getRN C jcl_TA hi (k := 2) (by decide) rfl (ref := "OutOrder$Table") rfl (List.mem_of_getElem? (i := 8) rfl : Cond.fieldLinkNest "OutOrder$Rules" 69 "OutOrder$Table" "joins" "[I" "OutOrder" ∈ jnst) d h
theorem cw_RU_65 : jcw "OutOrder$Rules" 65 ⟨"OutOrder$Rules", "mostJoined", "(LOutOrder$Table;I)I"⟩ prog_10_method_6_code 6 (some .int) 2 := ⟨w_410, w_408, w_5, ⟨by decide, by decide⟩, by decide +kernel⟩
theorem fp_TA_30 {Z : jZ} {E : jE} {cc : ByteArray} {nL fR lR : Nat} {Q : State → Prop} {pc : Nat} {lv : List (Nat × Value)} {st : List Value} {I : jM} (C : jC Z E cc nL "OutOrder$Table" fR lR) {i : Nat} {v : Int32} (hi : jOB E 8 i) (d : decode cc pc = .ok (.putfield 30, 3)) (h : jJ Z E nL Q (pc + 3) lv st (jwr I i 4 v)) : jJ Z E nL Q pc lv (.int v :: .ref (E.2.2.1 i) :: st) I := j_put C jcl_TA hi (k := 4) (by decide) rfl (ref := "OutOrder$Table") rfl rfl w_59 rfl rfl d h
theorem fg_TA_12 {Z : jZ} {E : jE} {cc : ByteArray} {nL fR lR : Nat} {Q : State → Prop} {pc : Nat} {lv : List (Nat × Value)} {st : List Value} {I : jM} (C : jC Z E cc nL "OutOrder$Table" fR lR) {i : Nat} (hi : jOB E 8 i) (d : decode cc pc = .ok (.getfield 12, 3)) (h : jJ Z E nL Q (pc + 3) lv (.ref (E.2.2.1 (jr i 0)) :: st) I) : jJ Z E nL Q pc lv (.ref (E.2.2.1 i) :: st) I := j_getR C jcl_TA hi (k := 0) (by decide) rfl (ref := "OutOrder$Table") rfl w_45 d h
theorem fp_TA_34 {Z : jZ} {E : jE} {cc : ByteArray} {nL fR lR : Nat} {Q : State → Prop} {pc : Nat} {lv : List (Nat × Value)} {st : List Value} {I : jM} (C : jC Z E cc nL "OutOrder$Table" fR lR) {i : Nat} {v : Int32} (hi : jOB E 3 i) (d : decode cc pc = .ok (.putfield 34, 3)) (h : jJ Z E nL Q (pc + 3) lv st (jwr I i 0 v)) : jJ Z E nL Q pc lv (.int v :: .ref (E.2.2.1 i) :: st) I := j_putN C jcl_MO hi (k := 0) (by decide) rfl (ref := "OutOrder$Modulus") rfl rfl (List.mem_of_getElem? (i := 0) rfl : Cond.fieldLinkNest "OutOrder$Table" 34 "OutOrder$Modulus" "p" "I" "OutOrder" ∈ jnst) rfl rfl d h
theorem fp_TA_37 {Z : jZ} {E : jE} {cc : ByteArray} {nL fR lR : Nat} {Q : State → Prop} {pc : Nat} {lv : List (Nat × Value)} {st : List Value} {I : jM} (C : jC Z E cc nL "OutOrder$Table" fR lR) {i : Nat} {v : Int32} (hi : jOB E 8 i) (d : decode cc pc = .ok (.putfield 37, 3)) (h : jJ Z E nL Q (pc + 3) lv st (jwr I i 5 v)) : jJ Z E nL Q pc lv (.int v :: .ref (E.2.2.1 i) :: st) I := j_put C jcl_TA hi (k := 5) (by decide) rfl (ref := "OutOrder$Table") rfl rfl w_65 rfl rfl d h
theorem fg_TA_23 {Z : jZ} {E : jE} {cc : ByteArray} {nL fR lR : Nat} {Q : State → Prop} {pc : Nat} {lv : List (Nat × Value)} {st : List Value} {I : jM} (C : jC Z E cc nL "OutOrder$Table" fR lR) {i : Nat} (hi : jOB E 8 i) (d : decode cc pc = .ok (.getfield 23, 3)) (h : jJ Z E nL Q (pc + 3) lv (.ref (E.2.2.1 (jr i 2)) :: st) I) : jJ Z E nL Q pc lv (.ref (E.2.2.1 i) :: st) I := j_getR C jcl_TA hi (k := 2) (by decide) rfl (ref := "OutOrder$Table") rfl w_51 d h
theorem fg_TA_27 {Z : jZ} {E : jE} {cc : ByteArray} {nL fR lR : Nat} {Q : State → Prop} {pc : Nat} {lv : List (Nat × Value)} {st : List Value} {I : jM} (C : jC Z E cc nL "OutOrder$Table" fR lR) {i : Nat} (hi : jOB E 8 i) (d : decode cc pc = .ok (.getfield 27, 3)) (h : jJ Z E nL Q (pc + 3) lv (.ref (E.2.2.1 (jr i 3)) :: st) I) : jJ Z E nL Q pc lv (.ref (E.2.2.1 i) :: st) I := j_getR C jcl_TA hi (k := 3) (by decide) rfl (ref := "OutOrder$Table") rfl w_56 d h
theorem fg_TA_20 {Z : jZ} {E : jE} {cc : ByteArray} {nL fR lR : Nat} {Q : State → Prop} {pc : Nat} {lv : List (Nat × Value)} {st : List Value} {I : jM} (C : jC Z E cc nL "OutOrder$Table" fR lR) {i : Nat} (hi : jOB E 8 i) (d : decode cc pc = .ok (.getfield 20, 3)) (h : jJ Z E nL Q (pc + 3) lv (.ref (E.2.2.1 (jr i 1)) :: st) I) : jJ Z E nL Q pc lv (.ref (E.2.2.1 i) :: st) I := j_getR C jcl_TA hi (k := 1) (by decide) rfl (ref := "OutOrder$Table") rfl w_48 d h
theorem fg_TA_30 {Z : jZ} {E : jE} {cc : ByteArray} {nL fR lR : Nat} {Q : State → Prop} {pc : Nat} {lv : List (Nat × Value)} {st : List Value} {I : jM} (C : jC Z E cc nL "OutOrder$Table" fR lR) {i : Nat} (hi : jOB E 8 i) (d : decode cc pc = .ok (.getfield 30, 3)) (h : jJ Z E nL Q (pc + 3) lv (.int (I i 4) :: st) I) : jJ Z E nL Q pc lv (.ref (E.2.2.1 i) :: st) I := j_getI C jcl_TA hi (k := 4) (by decide) rfl (ref := "OutOrder$Table") rfl w_59 d h
theorem fg_TA_37 {Z : jZ} {E : jE} {cc : ByteArray} {nL fR lR : Nat} {Q : State → Prop} {pc : Nat} {lv : List (Nat × Value)} {st : List Value} {I : jM} (C : jC Z E cc nL "OutOrder$Table" fR lR) {i : Nat} (hi : jOB E 8 i) (d : decode cc pc = .ok (.getfield 37, 3)) (h : jJ Z E nL Q (pc + 3) lv (.int (I i 5) :: st) I) : jJ Z E nL Q pc lv (.ref (E.2.2.1 i) :: st) I := j_getI C jcl_TA hi (k := 5) (by decide) rfl (ref := "OutOrder$Table") rfl w_65 d h
theorem cw_TA_44 : jcw "OutOrder$Table" 44 ⟨"java/lang/Integer", "bitCount", "(I)I"⟩ prog_15_method_49_code 1 (some .int) 1 := ⟨w_413, w_579, w_14, ⟨by decide, by decide⟩, by decide +kernel⟩
theorem cw_TA_40 : jcw "OutOrder$Table" 40 ⟨"OutOrder$Modulus", "reduce", "(I)I"⟩ prog_5_method_3_code 2 (some .int) 1 := ⟨w_372, w_369, w_3, ⟨by decide, by decide⟩, by decide +kernel⟩
theorem fg_WO_30 {Z : jZ} {E : jE} {cc : ByteArray} {nL fR lR : Nat} {Q : State → Prop} {pc : Nat} {lv : List (Nat × Value)} {st : List Value} {I : jM} (C : jC Z E cc nL "OutOrder$Work" fR lR) {i : Nat} (hi : jOB E 9 i) (d : decode cc pc = .ok (.getfield 30, 3)) (h : jJ Z E nL Q (pc + 3) lv (.int (I i 4) :: st) I) : jJ Z E nL Q pc lv (.ref (E.2.2.1 i) :: st) I := j_getI C jcl_WO hi (k := 4) (by decide) rfl (ref := "OutOrder$Work") rfl w_248 d h
theorem fg_WO_16 {Z : jZ} {E : jE} {cc : ByteArray} {nL fR lR : Nat} {Q : State → Prop} {pc : Nat} {lv : List (Nat × Value)} {st : List Value} {I : jM} (C : jC Z E cc nL "OutOrder$Work" fR lR) {i : Nat} (hi : jOB E 9 i) (d : decode cc pc = .ok (.getfield 16, 3)) (h : jJ Z E nL Q (pc + 3) lv (.ref (E.2.2.1 (jr i 1)) :: st) I) : jJ Z E nL Q pc lv (.ref (E.2.2.1 i) :: st) I := j_getR C jcl_WO hi (k := 1) (by decide) rfl (ref := "OutOrder$Work") rfl w_243 d h
theorem fg_WO_11 {Z : jZ} {E : jE} {cc : ByteArray} {nL fR lR : Nat} {Q : State → Prop} {pc : Nat} {lv : List (Nat × Value)} {st : List Value} {I : jM} (C : jC Z E cc nL "OutOrder$Work" fR lR) {i : Nat} (hi : jOB E 9 i) (d : decode cc pc = .ok (.getfield 11, 3)) (h : jJ Z E nL Q (pc + 3) lv (.ref (E.2.2.1 (jr i 0)) :: st) I) : jJ Z E nL Q pc lv (.ref (E.2.2.1 i) :: st) I := j_getR C jcl_WO hi (k := 0) (by decide) rfl (ref := "OutOrder$Work") rfl w_242 d h
theorem fg_WO_20 {Z : jZ} {E : jE} {cc : ByteArray} {nL fR lR : Nat} {Q : State → Prop} {pc : Nat} {lv : List (Nat × Value)} {st : List Value} {I : jM} (C : jC Z E cc nL "OutOrder$Work" fR lR) {i : Nat} (hi : jOB E 9 i) (d : decode cc pc = .ok (.getfield 20, 3)) (h : jJ Z E nL Q (pc + 3) lv (.ref (E.2.2.1 (jr i 2)) :: st) I) : jJ Z E nL Q pc lv (.ref (E.2.2.1 i) :: st) I := j_getR C jcl_WO hi (k := 2) (by decide) rfl (ref := "OutOrder$Work") rfl w_245 d h
theorem cw_WO_71 : jcw "OutOrder$Work" 71 ⟨"OutOrder$Modulus", "times", "(II)I"⟩ prog_5_method_4_code 3 (some .int) 2 := ⟨w_636, w_646, w_3, ⟨by decide, by decide⟩, by decide +kernel⟩
theorem cw_WO_75 : jcw "OutOrder$Work" 75 ⟨"OutOrder$Modulus", "reduce", "(I)I"⟩ prog_5_method_3_code 2 (some .int) 1 := ⟨w_372, w_647, w_3, ⟨by decide, by decide⟩, by decide +kernel⟩
theorem fp_WO_30 {Z : jZ} {E : jE} {cc : ByteArray} {nL fR lR : Nat} {Q : State → Prop} {pc : Nat} {lv : List (Nat × Value)} {st : List Value} {I : jM} (C : jC Z E cc nL "OutOrder$Work" fR lR) {i : Nat} {v : Int32} (hi : jOB E 9 i) (d : decode cc pc = .ok (.putfield 30, 3)) (h : jJ Z E nL Q (pc + 3) lv st (jwr I i 4 v)) : jJ Z E nL Q pc lv (.int v :: .ref (E.2.2.1 i) :: st) I := j_put C jcl_WO hi (k := 4) (by decide) rfl (ref := "OutOrder$Work") rfl rfl w_248 rfl rfl d h
theorem fp_WO_26 {Z : jZ} {E : jE} {cc : ByteArray} {nL fR lR : Nat} {Q : State → Prop} {pc : Nat} {lv : List (Nat × Value)} {st : List Value} {I : jM} (C : jC Z E cc nL "OutOrder$Work" fR lR) {i : Nat} {v : Int32} (hi : jOB E 9 i) (d : decode cc pc = .ok (.putfield 26, 3)) (h : jJ Z E nL Q (pc + 3) lv st (jwr I i 5 v)) : jJ Z E nL Q pc lv (.int v :: .ref (E.2.2.1 i) :: st) I := j_put C jcl_WO hi (k := 5) (by decide) rfl (ref := "OutOrder$Work") rfl rfl w_250 rfl rfl d h
theorem fg_WO_40 {Z : jZ} {E : jE} {cc : ByteArray} {nL fR lR : Nat} {Q : State → Prop} {pc : Nat} {lv : List (Nat × Value)} {st : List Value} {I : jM} (C : jC Z E cc nL "OutOrder$Work" fR lR) {i : Nat} (hi : jOB E 8 i) (d : decode cc pc = .ok (.getfield 40, 3)) (h : jJ Z E nL Q (pc + 3) lv (.int (I i 4) :: st) I) : jJ Z E nL Q pc lv (.ref (E.2.2.1 i) :: st) I := j_getIN C jcl_TA hi (k := 4) (by decide) rfl (ref := "OutOrder$Table") rfl (List.mem_of_getElem? (i := 15) rfl : Cond.fieldLinkNest "OutOrder$Work" 40 "OutOrder$Table" "n" "I" "OutOrder" ∈ jnst) d h
theorem fg_WO_45 {Z : jZ} {E : jE} {cc : ByteArray} {nL fR lR : Nat} {Q : State → Prop} {pc : Nat} {lv : List (Nat × Value)} {st : List Value} {I : jM} (C : jC Z E cc nL "OutOrder$Work" fR lR) {i : Nat} (hi : jOB E 8 i) (d : decode cc pc = .ok (.getfield 45, 3)) (h : jJ Z E nL Q (pc + 3) lv (.ref (E.2.2.1 (jr i 0)) :: st) I) : jJ Z E nL Q pc lv (.ref (E.2.2.1 i) :: st) I := j_getRN C jcl_TA hi (k := 0) (by decide) rfl (ref := "OutOrder$Table") rfl (List.mem_of_getElem? (i := 2) rfl : Cond.fieldLinkNest "OutOrder$Work" 45 "OutOrder$Table" "modulus" "LOutOrder$Modulus;" "OutOrder" ∈ jnst) d h
theorem cw_WO_33 : jcw "OutOrder$Work" 33 ⟨"OutOrder$Work", "forget", "()V"⟩ prog_12_method_2_code 1 none 0 := ⟨w_311, w_624, w_10, ⟨by decide, by decide⟩, by decide +kernel⟩
theorem cw_WO_36 : jcw "OutOrder$Work" 36 ⟨"OutOrder$Work", "takeNumbers", "(LOutOrder$Table;LOutOrder$Row;)V"⟩ prog_12_method_4_code 5 none 2 := ⟨w_628, w_625, w_10, ⟨by decide, by decide⟩, by decide +kernel⟩
theorem cw_WO_49 : jcw "OutOrder$Work" 49 ⟨"OutOrder$Modulus", "inverse", "(I)I"⟩ prog_5_method_5_code 5 (some .int) 1 := ⟨w_632, w_629, w_3, ⟨by decide, by decide⟩, by decide +kernel⟩
theorem cw_WO_55 : jcw "OutOrder$Work" 55 ⟨"OutOrder$Work", "hasRest", "(II)Z"⟩ prog_12_method_5_code 4 (some .boolean) 2 := ⟨w_641, w_638, w_10, ⟨by decide, by decide⟩, by decide +kernel⟩
theorem cw_WO_59 : jcw "OutOrder$Work" 59 ⟨"OutOrder$Work", "eliminate", "(IILOutOrder$Modulus;)V"⟩ prog_12_method_6_code 7 none 3 := ⟨w_645, w_642, w_10, ⟨by decide, by decide⟩, by decide +kernel⟩
theorem fg_WO_23 {Z : jZ} {E : jE} {cc : ByteArray} {nL fR lR : Nat} {Q : State → Prop} {pc : Nat} {lv : List (Nat × Value)} {st : List Value} {I : jM} (C : jC Z E cc nL "OutOrder$Work" fR lR) {i : Nat} (hi : jOB E 9 i) (d : decode cc pc = .ok (.getfield 23, 3)) (h : jJ Z E nL Q (pc + 3) lv (.ref (E.2.2.1 (jr i 3)) :: st) I) : jJ Z E nL Q pc lv (.ref (E.2.2.1 i) :: st) I := j_getR C jcl_WO hi (k := 3) (by decide) rfl (ref := "OutOrder$Work") rfl w_246 d h
theorem fg_WO_63 {Z : jZ} {E : jE} {cc : ByteArray} {nL fR lR : Nat} {Q : State → Prop} {pc : Nat} {lv : List (Nat × Value)} {st : List Value} {I : jM} (C : jC Z E cc nL "OutOrder$Work" fR lR) {i : Nat} (hi : jOB E 8 i) (d : decode cc pc = .ok (.getfield 63, 3)) (h : jJ Z E nL Q (pc + 3) lv (.ref (E.2.2.1 (jr i 1)) :: st) I) : jJ Z E nL Q pc lv (.ref (E.2.2.1 i) :: st) I := j_getRN C jcl_TA hi (k := 1) (by decide) rfl (ref := "OutOrder$Table") rfl (List.mem_of_getElem? (i := 5) rfl : Cond.fieldLinkNest "OutOrder$Work" 63 "OutOrder$Table" "values" "[[I" "OutOrder" ∈ jnst) d h
theorem fg_WO_66 {Z : jZ} {E : jE} {cc : ByteArray} {nL fR lR : Nat} {Q : State → Prop} {pc : Nat} {lv : List (Nat × Value)} {st : List Value} {I : jM} (C : jC Z E cc nL "OutOrder$Work" fR lR) {i : Nat} (hi : jOB E 6 i) (d : decode cc pc = .ok (.getfield 66, 3)) (h : jJ Z E nL Q (pc + 3) lv (.ref (E.2.2.1 (jr i 0)) :: st) I) : jJ Z E nL Q pc lv (.ref (E.2.2.1 i) :: st) I := j_getRN C jcl_RO hi (k := 0) (by decide) rfl (ref := "OutOrder$Row") rfl (List.mem_of_getElem? (i := 21) rfl : Cond.fieldLinkNest "OutOrder$Work" 66 "OutOrder$Row" "unknowns" "[I" "OutOrder" ∈ jnst) d h
theorem fg_WO_78 {Z : jZ} {E : jE} {cc : ByteArray} {nL fR lR : Nat} {Q : State → Prop} {pc : Nat} {lv : List (Nat × Value)} {st : List Value} {I : jM} (C : jC Z E cc nL "OutOrder$Work" fR lR) {i : Nat} (hi : jOB E 8 i) (d : decode cc pc = .ok (.getfield 78, 3)) (h : jJ Z E nL Q (pc + 3) lv (.ref (E.2.2.1 (jr i 3)) :: st) I) : jJ Z E nL Q pc lv (.ref (E.2.2.1 i) :: st) I := j_getRN C jcl_TA hi (k := 3) (by decide) rfl (ref := "OutOrder$Table") rfl (List.mem_of_getElem? (i := 10) rfl : Cond.fieldLinkNest "OutOrder$Work" 78 "OutOrder$Table" "sides" "[I" "OutOrder" ∈ jnst) d h
theorem fg_MD_7 {Z : jZ} {E : jE} {cc : ByteArray} {nL fR lR : Nat} {Q : State → Prop} {pc : Nat} {lv : List (Nat × Value)} {st : List Value} {I : jM} (C : jC Z E cc nL "OutOrderModel" fR lR) {i : Nat} (hi : jOB E 11 i) (d : decode cc pc = .ok (.getfield 7, 3)) (h : jJ Z E nL Q (pc + 3) lv (.int (I i 0) :: st) I) : jJ Z E nL Q pc lv (.ref (E.2.2.1 i) :: st) I := j_getI C jcl_MD hi (k := 0) (by decide) rfl (ref := "OutOrderModel") rfl w_729 d h
theorem fg_MD_33 {Z : jZ} {E : jE} {cc : ByteArray} {nL fR lR : Nat} {Q : State → Prop} {pc : Nat} {lv : List (Nat × Value)} {st : List Value} {I : jM} (C : jC Z E cc nL "OutOrderModel" fR lR) {i : Nat} (hi : jOB E 11 i) (d : decode cc pc = .ok (.getfield 33, 3)) (h : jJ Z E nL Q (pc + 3) lv (.ref (E.2.2.1 (jr i 7)) :: st) I) : jJ Z E nL Q pc lv (.ref (E.2.2.1 i) :: st) I := j_getR C jcl_MD hi (k := 7) (by decide) rfl (ref := "OutOrderModel") rfl w_736 d h
theorem cw_MD_90 : jcw "OutOrderModel" 90 ⟨"OutOrderModel", "isUnknown", "(I)Z"⟩ prog_14_method_5_code 2 (some .boolean) 1 := ⟨w_830, w_827, w_12, ⟨by decide, by decide⟩, by decide +kernel⟩
theorem fg_MD_24 {Z : jZ} {E : jE} {cc : ByteArray} {nL fR lR : Nat} {Q : State → Prop} {pc : Nat} {lv : List (Nat × Value)} {st : List Value} {I : jM} (C : jC Z E cc nL "OutOrderModel" fR lR) {i : Nat} (hi : jOB E 11 i) (d : decode cc pc = .ok (.getfield 24, 3)) (h : jJ Z E nL Q (pc + 3) lv (.ref (E.2.2.1 (jr i 4)) :: st) I) : jJ Z E nL Q pc lv (.ref (E.2.2.1 i) :: st) I := j_getR C jcl_MD hi (k := 4) (by decide) rfl (ref := "OutOrderModel") rfl w_733 d h
theorem cw_MD_79 : jcw "OutOrderModel" 79 ⟨"OutOrderModel", "refuse", "(I)I"⟩ prog_14_method_4_code 2 (some .int) 1 := ⟨w_810, w_807, w_12, ⟨by decide, by decide⟩, by decide +kernel⟩
theorem fg_MD_161 {Z : jZ} {E : jE} {cc : ByteArray} {nL fR lR : Nat} {Q : State → Prop} {pc : Nat} {lv : List (Nat × Value)} {st : List Value} {I : jM} (C : jC Z E cc nL "OutOrderModel" fR lR) {i : Nat} (hi : jOB E 11 i) (d : decode cc pc = .ok (.getfield 161, 3)) (h : jJ Z E nL Q (pc + 3) lv (.int (I i 15) :: st) I) : jJ Z E nL Q pc lv (.ref (E.2.2.1 i) :: st) I := j_getI C jcl_MD hi (k := 15) (by decide) rfl (ref := "OutOrderModel") rfl w_744 d h
theorem fp_MD_161 {Z : jZ} {E : jE} {cc : ByteArray} {nL fR lR : Nat} {Q : State → Prop} {pc : Nat} {lv : List (Nat × Value)} {st : List Value} {I : jM} (C : jC Z E cc nL "OutOrderModel" fR lR) {i : Nat} {v : Int32} (hi : jOB E 11 i) (d : decode cc pc = .ok (.putfield 161, 3)) (h : jJ Z E nL Q (pc + 3) lv st (jwr I i 15 v)) : jJ Z E nL Q pc lv (.int v :: .ref (E.2.2.1 i) :: st) I := j_put C jcl_MD hi (k := 15) (by decide) rfl (ref := "OutOrderModel") rfl rfl w_744 rfl rfl d h
theorem fg_MD_57 {Z : jZ} {E : jE} {cc : ByteArray} {nL fR lR : Nat} {Q : State → Prop} {pc : Nat} {lv : List (Nat × Value)} {st : List Value} {I : jM} (C : jC Z E cc nL "OutOrderModel" fR lR) {i : Nat} (hi : jOB E 11 i) (d : decode cc pc = .ok (.getfield 57, 3)) (h : jJ Z E nL Q (pc + 3) lv (.ref (E.2.2.1 (jr i 17)) :: st) I) : jJ Z E nL Q pc lv (.ref (E.2.2.1 i) :: st) I := j_getR C jcl_MD hi (k := 17) (by decide) rfl (ref := "OutOrderModel") rfl w_746 d h
theorem fg_MD_54 {Z : jZ} {E : jE} {cc : ByteArray} {nL fR lR : Nat} {Q : State → Prop} {pc : Nat} {lv : List (Nat × Value)} {st : List Value} {I : jM} (C : jC Z E cc nL "OutOrderModel" fR lR) {i : Nat} (hi : jOB E 11 i) (d : decode cc pc = .ok (.getfield 54, 3)) (h : jJ Z E nL Q (pc + 3) lv (.ref (E.2.2.1 (jr i 16)) :: st) I) : jJ Z E nL Q pc lv (.ref (E.2.2.1 i) :: st) I := j_getR C jcl_MD hi (k := 16) (by decide) rfl (ref := "OutOrderModel") rfl w_745 d h
theorem fg_MD_51 {Z : jZ} {E : jE} {cc : ByteArray} {nL fR lR : Nat} {Q : State → Prop} {pc : Nat} {lv : List (Nat × Value)} {st : List Value} {I : jM} (C : jC Z E cc nL "OutOrderModel" fR lR) {i : Nat} (hi : jOB E 11 i) (d : decode cc pc = .ok (.getfield 51, 3)) (h : jJ Z E nL Q (pc + 3) lv (.ref (E.2.2.1 (jr i 14)) :: st) I) : jJ Z E nL Q pc lv (.ref (E.2.2.1 i) :: st) I := j_getR C jcl_MD hi (k := 14) (by decide) rfl (ref := "OutOrderModel") rfl w_743 d h
theorem cw_MD_100 : jcw "OutOrderModel" 100 ⟨"OutOrderModel", "beginNet", "()V"⟩ prog_14_method_13_code 3 none 0 := ⟨w_822, w_819, w_12, ⟨by decide, by decide⟩, by decide +kernel⟩
theorem fg_MD_16 {Z : jZ} {E : jE} {cc : ByteArray} {nL fR lR : Nat} {Q : State → Prop} {pc : Nat} {lv : List (Nat × Value)} {st : List Value} {I : jM} (C : jC Z E cc nL "OutOrderModel" fR lR) {i : Nat} (hi : jOB E 11 i) (d : decode cc pc = .ok (.getfield 16, 3)) (h : jJ Z E nL Q (pc + 3) lv (.ref (E.2.2.1 (jr i 2)) :: st) I) : jJ Z E nL Q pc lv (.ref (E.2.2.1 i) :: st) I := j_getR C jcl_MD hi (k := 2) (by decide) rfl (ref := "OutOrderModel") rfl w_731 d h
theorem fg_MD_20 {Z : jZ} {E : jE} {cc : ByteArray} {nL fR lR : Nat} {Q : State → Prop} {pc : Nat} {lv : List (Nat × Value)} {st : List Value} {I : jM} (C : jC Z E cc nL "OutOrderModel" fR lR) {i : Nat} (hi : jOB E 11 i) (d : decode cc pc = .ok (.getfield 20, 3)) (h : jJ Z E nL Q (pc + 3) lv (.ref (E.2.2.1 (jr i 3)) :: st) I) : jJ Z E nL Q pc lv (.ref (E.2.2.1 i) :: st) I := j_getR C jcl_MD hi (k := 3) (by decide) rfl (ref := "OutOrderModel") rfl w_732 d h
theorem cw_MD_110 : jcw "OutOrderModel" 110 ⟨"OutOrderModel", "fillsOf", "([II)I"⟩ prog_14_method_14_code 4 (some .int) 2 := ⟨w_864, w_862, w_12, ⟨by decide, by decide⟩, by decide +kernel⟩
theorem cw_MD_98 : jcw "OutOrderModel" 98 ⟨"OutOrderModel", "ones", "(I)I"⟩ prog_14_method_6_code 3 (some .int) 1 := ⟨w_867, w_865, w_12, ⟨by decide, by decide⟩, by decide +kernel⟩
theorem cw_MD_106 : jcw "OutOrderModel" 106 ⟨"OutOrderModel", "joinAll", "([II)V"⟩ prog_14_method_15_code 3 none 2 := ⟨w_870, w_868, w_12, ⟨by decide, by decide⟩, by decide +kernel⟩
theorem cw_MD_125 : jcw "OutOrderModel" 125 ⟨"OutOrderModel", "findLeast", "(Z)V"⟩ prog_14_method_23_code 7 none 1 := ⟨w_882, w_879, w_12, ⟨by decide, by decide⟩, by decide +kernel⟩
theorem fg_MD_45 {Z : jZ} {E : jE} {cc : ByteArray} {nL fR lR : Nat} {Q : State → Prop} {pc : Nat} {lv : List (Nat × Value)} {st : List Value} {I : jM} (C : jC Z E cc nL "OutOrderModel" fR lR) {i : Nat} (hi : jOB E 11 i) (d : decode cc pc = .ok (.getfield 45, 3)) (h : jJ Z E nL Q (pc + 3) lv (.ref (E.2.2.1 (jr i 12)) :: st) I) : jJ Z E nL Q pc lv (.ref (E.2.2.1 i) :: st) I := j_getR C jcl_MD hi (k := 12) (by decide) rfl (ref := "OutOrderModel") rfl w_741 d h
theorem cw_MD_118 : jcw "OutOrderModel" 118 ⟨"OutOrderModel", "costOf", "(IIZ)I"⟩ prog_14_method_21_code 7 (some .int) 3 := ⟨w_886, w_883, w_12, ⟨by decide, by decide⟩, by decide +kernel⟩
theorem cw_MD_122 : jcw "OutOrderModel" 122 ⟨"OutOrderModel", "joined", "(IIZ)I"⟩ prog_14_method_22_code 4 (some .int) 3 := ⟨w_894, w_891, w_12, ⟨by decide, by decide⟩, by decide +kernel⟩
theorem cw_MD_148 : jcw "OutOrderModel" 148 ⟨"OutOrderModel", "goThrough", "()V"⟩ prog_14_method_16_code 7 none 0 := ⟨w_902, w_899, w_12, ⟨by decide, by decide⟩, by decide +kernel⟩
theorem cw_MD_151 : jcw "OutOrderModel" 151 ⟨"OutOrderModel", "parent", "(I)I"⟩ prog_14_method_30_code 4 (some .int) 1 := ⟨w_923, w_920, w_12, ⟨by decide, by decide⟩, by decide +kernel⟩
theorem fg_MD_42 {Z : jZ} {E : jE} {cc : ByteArray} {nL fR lR : Nat} {Q : State → Prop} {pc : Nat} {lv : List (Nat × Value)} {st : List Value} {I : jM} (C : jC Z E cc nL "OutOrderModel" fR lR) {i : Nat} (hi : jOB E 11 i) (d : decode cc pc = .ok (.getfield 42, 3)) (h : jJ Z E nL Q (pc + 3) lv (.ref (E.2.2.1 (jr i 11)) :: st) I) : jJ Z E nL Q pc lv (.ref (E.2.2.1 i) :: st) I := j_getR C jcl_MD hi (k := 11) (by decide) rfl (ref := "OutOrderModel") rfl w_740 d h
theorem fg_MD_36 {Z : jZ} {E : jE} {cc : ByteArray} {nL fR lR : Nat} {Q : State → Prop} {pc : Nat} {lv : List (Nat × Value)} {st : List Value} {I : jM} (C : jC Z E cc nL "OutOrderModel" fR lR) {i : Nat} (hi : jOB E 11 i) (d : decode cc pc = .ok (.getfield 36, 3)) (h : jJ Z E nL Q (pc + 3) lv (.ref (E.2.2.1 (jr i 8)) :: st) I) : jJ Z E nL Q pc lv (.ref (E.2.2.1 i) :: st) I := j_getR C jcl_MD hi (k := 8) (by decide) rfl (ref := "OutOrderModel") rfl w_737 d h
theorem cw_MD_154 : jcw "OutOrderModel" 154 ⟨"OutOrderModel", "height", "(I)I"⟩ prog_14_method_31_code 4 (some .int) 1 := ⟨w_927, w_924, w_12, ⟨by decide, by decide⟩, by decide +kernel⟩
theorem cw_MD_114 : jcw "OutOrderModel" 114 ⟨"OutOrderModel", "around", "(II)I"⟩ prog_14_method_20_code 8 (some .int) 2 := ⟨w_890, w_887, w_12, ⟨by decide, by decide⟩, by decide +kernel⟩
theorem fg_MD_103 {Z : jZ} {E : jE} {cc : ByteArray} {nL fR lR : Nat} {Q : State → Prop} {pc : Nat} {lv : List (Nat × Value)} {st : List Value} {I : jM} (C : jC Z E cc nL "OutOrderModel" fR lR) {i : Nat} (hi : jOB E 11 i) (d : decode cc pc = .ok (.getfield 103, 3)) (h : jJ Z E nL Q (pc + 3) lv (.int (I i 10) :: st) I) : jJ Z E nL Q pc lv (.ref (E.2.2.1 i) :: st) I := j_getI C jcl_MD hi (k := 10) (by decide) rfl (ref := "OutOrderModel") rfl w_739 d h
theorem cw_MD_75 : jcw "OutOrderModel" 75 ⟨"OutOrderModel", "in", "(III)Z"⟩ prog_14_method_3_code 3 (some .boolean) 3 := ⟨w_833, w_831, w_12, ⟨by decide, by decide⟩, by decide +kernel⟩
theorem fg_MD_39 {Z : jZ} {E : jE} {cc : ByteArray} {nL fR lR : Nat} {Q : State → Prop} {pc : Nat} {lv : List (Nat × Value)} {st : List Value} {I : jM} (C : jC Z E cc nL "OutOrderModel" fR lR) {i : Nat} (hi : jOB E 11 i) (d : decode cc pc = .ok (.getfield 39, 3)) (h : jJ Z E nL Q (pc + 3) lv (.ref (E.2.2.1 (jr i 9)) :: st) I) : jJ Z E nL Q pc lv (.ref (E.2.2.1 i) :: st) I := j_getR C jcl_MD hi (k := 9) (by decide) rfl (ref := "OutOrderModel") rfl w_738 d h
theorem fg_MD_48 {Z : jZ} {E : jE} {cc : ByteArray} {nL fR lR : Nat} {Q : State → Prop} {pc : Nat} {lv : List (Nat × Value)} {st : List Value} {I : jM} (C : jC Z E cc nL "OutOrderModel" fR lR) {i : Nat} (hi : jOB E 11 i) (d : decode cc pc = .ok (.getfield 48, 3)) (h : jJ Z E nL Q (pc + 3) lv (.int (I i 13) :: st) I) : jJ Z E nL Q pc lv (.ref (E.2.2.1 i) :: st) I := j_getI C jcl_MD hi (k := 13) (by decide) rfl (ref := "OutOrderModel") rfl w_742 d h
theorem fp_MD_48 {Z : jZ} {E : jE} {cc : ByteArray} {nL fR lR : Nat} {Q : State → Prop} {pc : Nat} {lv : List (Nat × Value)} {st : List Value} {I : jM} (C : jC Z E cc nL "OutOrderModel" fR lR) {i : Nat} {v : Int32} (hi : jOB E 11 i) (d : decode cc pc = .ok (.putfield 48, 3)) (h : jJ Z E nL Q (pc + 3) lv st (jwr I i 13 v)) : jJ Z E nL Q pc lv (.int v :: .ref (E.2.2.1 i) :: st) I := j_put C jcl_MD hi (k := 13) (by decide) rfl (ref := "OutOrderModel") rfl rfl w_742 rfl rfl d h
theorem fp_MD_103 {Z : jZ} {E : jE} {cc : ByteArray} {nL fR lR : Nat} {Q : State → Prop} {pc : Nat} {lv : List (Nat × Value)} {st : List Value} {I : jM} (C : jC Z E cc nL "OutOrderModel" fR lR) {i : Nat} {v : Int32} (hi : jOB E 11 i) (d : decode cc pc = .ok (.putfield 103, 3)) (h : jJ Z E nL Q (pc + 3) lv st (jwr I i 10 v)) : jJ Z E nL Q pc lv (.int v :: .ref (E.2.2.1 i) :: st) I := j_put C jcl_MD hi (k := 10) (by decide) rfl (ref := "OutOrderModel") rfl rfl w_739 rfl rfl d h
theorem cw_MD_167 : jcw "OutOrderModel" 167 ⟨"OutOrderModel", "goingLacks", "(I)I"⟩ prog_14_method_41_code 2 (some .int) 1 := ⟨w_960, w_957, w_12, ⟨by decide, by decide⟩, by decide +kernel⟩
theorem cw_MD_170 : jcw "OutOrderModel" 170 ⟨"OutOrderModel", "goingAround", "(I)I"⟩ prog_14_method_42_code 2 (some .int) 1 := ⟨w_968, w_965, w_12, ⟨by decide, by decide⟩, by decide +kernel⟩
theorem cw_MD_173 : jcw "OutOrderModel" 173 ⟨"OutOrderModel", "kindOf", "(I)I"⟩ prog_14_method_44_code 5 (some .int) 1 := ⟨w_976, w_973, w_12, ⟨by decide, by decide⟩, by decide +kernel⟩
theorem cw_MD_164 : jcw "OutOrderModel" 164 ⟨"OutOrderModel", "goneBits", "()I"⟩ prog_14_method_40_code 3 (some .int) 0 := ⟨w_964, w_961, w_12, ⟨by decide, by decide⟩, by decide +kernel⟩
theorem cw_MD_188 : jcw "OutOrderModel" 188 ⟨"OutOrderModel", "isSolved", "()Z"⟩ prog_14_method_56_code 3 (some .boolean) 0 := ⟨w_1020, w_1017, w_12, ⟨by decide, by decide⟩, by decide +kernel⟩
theorem fg_MD_69 {Z : jZ} {E : jE} {cc : ByteArray} {nL fR lR : Nat} {Q : State → Prop} {pc : Nat} {lv : List (Nat × Value)} {st : List Value} {I : jM} (C : jC Z E cc nL "OutOrderModel" fR lR) {i : Nat} (hi : jOB E 11 i) (d : decode cc pc = .ok (.getfield 69, 3)) (h : jJ Z E nL Q (pc + 3) lv (.ref (E.2.2.1 (jr i 22)) :: st) I) : jJ Z E nL Q pc lv (.ref (E.2.2.1 i) :: st) I := j_getR C jcl_MD hi (k := 22) (by decide) rfl (ref := "OutOrderModel") rfl w_751 d h
theorem cw_MD_191 : jcw "OutOrderModel" 191 ⟨"OutOrderModel", "solveAll", "()V"⟩ prog_14_method_57_code 3 none 0 := ⟨w_1024, w_1021, w_12, ⟨by decide, by decide⟩, by decide +kernel⟩
theorem fg_MD_13 {Z : jZ} {E : jE} {cc : ByteArray} {nL fR lR : Nat} {Q : State → Prop} {pc : Nat} {lv : List (Nat × Value)} {st : List Value} {I : jM} (C : jC Z E cc nL "OutOrderModel" fR lR) {i : Nat} (hi : jOB E 11 i) (d : decode cc pc = .ok (.getfield 13, 3)) (h : jJ Z E nL Q (pc + 3) lv (.int (I i 1) :: st) I) : jJ Z E nL Q pc lv (.ref (E.2.2.1 i) :: st) I := j_getI C jcl_MD hi (k := 1) (by decide) rfl (ref := "OutOrderModel") rfl w_730 d h
theorem fg_MD_176 {Z : jZ} {E : jE} {cc : ByteArray} {nL fR lR : Nat} {Q : State → Prop} {pc : Nat} {lv : List (Nat × Value)} {st : List Value} {I : jM} (C : jC Z E cc nL "OutOrderModel" fR lR) {i : Nat} (hi : jOB E 11 i) (d : decode cc pc = .ok (.getfield 176, 3)) (h : jJ Z E nL Q (pc + 3) lv (.int (I i 18) :: st) I) : jJ Z E nL Q pc lv (.ref (E.2.2.1 i) :: st) I := j_getI C jcl_MD hi (k := 18) (by decide) rfl (ref := "OutOrderModel") rfl w_747 d h
theorem fg_MD_63 {Z : jZ} {E : jE} {cc : ByteArray} {nL fR lR : Nat} {Q : State → Prop} {pc : Nat} {lv : List (Nat × Value)} {st : List Value} {I : jM} (C : jC Z E cc nL "OutOrderModel" fR lR) {i : Nat} (hi : jOB E 11 i) (d : decode cc pc = .ok (.getfield 63, 3)) (h : jJ Z E nL Q (pc + 3) lv (.ref (E.2.2.1 (jr i 20)) :: st) I) : jJ Z E nL Q pc lv (.ref (E.2.2.1 i) :: st) I := j_getR C jcl_MD hi (k := 20) (by decide) rfl (ref := "OutOrderModel") rfl w_749 d h
theorem fg_MD_72 {Z : jZ} {E : jE} {cc : ByteArray} {nL fR lR : Nat} {Q : State → Prop} {pc : Nat} {lv : List (Nat × Value)} {st : List Value} {I : jM} (C : jC Z E cc nL "OutOrderModel" fR lR) {i : Nat} (hi : jOB E 11 i) (d : decode cc pc = .ok (.getfield 72, 3)) (h : jJ Z E nL Q (pc + 3) lv (.ref (E.2.2.1 (jr i 23)) :: st) I) : jJ Z E nL Q pc lv (.ref (E.2.2.1 i) :: st) I := j_getR C jcl_MD hi (k := 23) (by decide) rfl (ref := "OutOrderModel") rfl w_752 d h
theorem fp_MD_176 {Z : jZ} {E : jE} {cc : ByteArray} {nL fR lR : Nat} {Q : State → Prop} {pc : Nat} {lv : List (Nat × Value)} {st : List Value} {I : jM} (C : jC Z E cc nL "OutOrderModel" fR lR) {i : Nat} {v : Int32} (hi : jOB E 11 i) (d : decode cc pc = .ok (.putfield 176, 3)) (h : jJ Z E nL Q (pc + 3) lv st (jwr I i 18 v)) : jJ Z E nL Q pc lv (.int v :: .ref (E.2.2.1 i) :: st) I := j_put C jcl_MD hi (k := 18) (by decide) rfl (ref := "OutOrderModel") rfl rfl w_747 rfl rfl d h
theorem fp_MD_60 {Z : jZ} {E : jE} {cc : ByteArray} {nL fR lR : Nat} {Q : State → Prop} {pc : Nat} {lv : List (Nat × Value)} {st : List Value} {I : jM} (C : jC Z E cc nL "OutOrderModel" fR lR) {i : Nat} {v : Int32} (hi : jOB E 11 i) (d : decode cc pc = .ok (.putfield 60, 3)) (h : jJ Z E nL Q (pc + 3) lv st (jwr I i 19 v)) : jJ Z E nL Q pc lv (.int v :: .ref (E.2.2.1 i) :: st) I := j_put C jcl_MD hi (k := 19) (by decide) rfl (ref := "OutOrderModel") rfl rfl w_748 rfl rfl d h
theorem cw_MD_185 : jcw "OutOrderModel" 185 ⟨"OutOrderModel", "placeOf", "(I)I"⟩ prog_14_method_51_code 3 (some .int) 1 := ⟨w_1000, w_997, w_12, ⟨by decide, by decide⟩, by decide +kernel⟩
theorem fg_MD_66 {Z : jZ} {E : jE} {cc : ByteArray} {nL fR lR : Nat} {Q : State → Prop} {pc : Nat} {lv : List (Nat × Value)} {st : List Value} {I : jM} (C : jC Z E cc nL "OutOrderModel" fR lR) {i : Nat} (hi : jOB E 11 i) (d : decode cc pc = .ok (.getfield 66, 3)) (h : jJ Z E nL Q (pc + 3) lv (.ref (E.2.2.1 (jr i 21)) :: st) I) : jJ Z E nL Q pc lv (.ref (E.2.2.1 i) :: st) I := j_getR C jcl_MD hi (k := 21) (by decide) rfl (ref := "OutOrderModel") rfl w_750 d h
theorem cw_MD_129 : jcw "OutOrderModel" 129 ⟨"OutOrderModel", "someHeld", "()Z"⟩ prog_14_method_12_code 3 (some .boolean) 0 := ⟨w_853, w_850, w_12, ⟨by decide, by decide⟩, by decide +kernel⟩
theorem cw_MD_83 : jcw "OutOrderModel" 83 ⟨"OutOrderModel", "notWorked", "()V"⟩ prog_14_method_47_code 1 none 0 := ⟨w_814, w_811, w_12, ⟨by decide, by decide⟩, by decide +kernel⟩
theorem cw_MD_133 : jcw "OutOrderModel" 133 ⟨"OutOrderModel", "byNumbers", "()V"⟩ prog_14_method_17_code 4 none 0 := ⟨w_857, w_854, w_12, ⟨by decide, by decide⟩, by decide +kernel⟩
theorem cw_MD_136 : jcw "OutOrderModel" 136 ⟨"OutOrderModel", "byFewest", "(Z)V"⟩ prog_14_method_18_code 10 none 1 := ⟨w_861, w_858, w_12, ⟨by decide, by decide⟩, by decide +kernel⟩
theorem cw_MD_139 : jcw "OutOrderModel" 139 ⟨"OutOrderModel", "bySearch", "()V"⟩ prog_14_method_19_code 6 none 0 := ⟨w_874, w_871, w_12, ⟨by decide, by decide⟩, by decide +kernel⟩
theorem cw_MD_142 : jcw "OutOrderModel" 142 ⟨"OutOrderModel", "byLeast", "(Z)V"⟩ prog_14_method_24_code 8 none 1 := ⟨w_878, w_875, w_12, ⟨by decide, by decide⟩, by decide +kernel⟩
theorem cw_MD_145 : jcw "OutOrderModel" 145 ⟨"OutOrderModel", "fills", "()I"⟩ prog_14_method_28_code 1 (some .int) 0 := ⟨w_898, w_895, w_12, ⟨by decide, by decide⟩, by decide +kernel⟩
theorem fg_MD_60 {Z : jZ} {E : jE} {cc : ByteArray} {nL fR lR : Nat} {Q : State → Prop} {pc : Nat} {lv : List (Nat × Value)} {st : List Value} {I : jM} (C : jC Z E cc nL "OutOrderModel" fR lR) {i : Nat} (hi : jOB E 11 i) (d : decode cc pc = .ok (.getfield 60, 3)) (h : jJ Z E nL Q (pc + 3) lv (.int (I i 19) :: st) I) : jJ Z E nL Q pc lv (.ref (E.2.2.1 i) :: st) I := j_getI C jcl_MD hi (k := 19) (by decide) rfl (ref := "OutOrderModel") rfl w_748 d h
theorem cw_MD_198 : jcw "OutOrderModel" 198 ⟨"OutOrderModel", "planFor", "(I)I"⟩ prog_14_method_60_code 8 (some .int) 1 := ⟨w_1036, w_1033, w_12, ⟨by decide, by decide⟩, by decide +kernel⟩
theorem cw_MD_194 : jcw "OutOrderModel" 194 ⟨"OutOrderModel", "mayBeDone", "(II)Z"⟩ prog_14_method_61_code 5 (some .boolean) 2 := ⟨w_1040, w_1037, w_12, ⟨by decide, by decide⟩, by decide +kernel⟩
theorem cw_MD_94 : jcw "OutOrderModel" 94 ⟨"OutOrderModel", "modulo", "(J)I"⟩ prog_14_method_7_code 5 (some .int) 1 := ⟨w_837, w_834, w_12, ⟨by decide, by decide⟩, by decide +kernel⟩
theorem cw_MD_86 : jcw "OutOrderModel" 86 ⟨"OutOrderModel", "begin", "()I"⟩ prog_14_method_39_code 2 (some .int) 0 := ⟨w_818, w_815, w_12, ⟨by decide, by decide⟩, by decide +kernel⟩
theorem fg_MD_30 {Z : jZ} {E : jE} {cc : ByteArray} {nL fR lR : Nat} {Q : State → Prop} {pc : Nat} {lv : List (Nat × Value)} {st : List Value} {I : jM} (C : jC Z E cc nL "OutOrderModel" fR lR) {i : Nat} (hi : jOB E 11 i) (d : decode cc pc = .ok (.getfield 30, 3)) (h : jJ Z E nL Q (pc + 3) lv (.ref (E.2.2.1 (jr i 6)) :: st) I) : jJ Z E nL Q pc lv (.ref (E.2.2.1 i) :: st) I := j_getR C jcl_MD hi (k := 6) (by decide) rfl (ref := "OutOrderModel") rfl w_735 d h
theorem cw_MD_157 : jcw "OutOrderModel" 157 ⟨"OutOrderModel", "steps", "(III)I"⟩ prog_14_method_36_code 9 (some .int) 3 := ⟨w_947, w_944, w_12, ⟨by decide, by decide⟩, by decide +kernel⟩
theorem fg_MD_27 {Z : jZ} {E : jE} {cc : ByteArray} {nL fR lR : Nat} {Q : State → Prop} {pc : Nat} {lv : List (Nat × Value)} {st : List Value} {I : jM} (C : jC Z E cc nL "OutOrderModel" fR lR) {i : Nat} (hi : jOB E 11 i) (d : decode cc pc = .ok (.getfield 27, 3)) (h : jJ Z E nL Q (pc + 3) lv (.ref (E.2.2.1 (jr i 5)) :: st) I) : jJ Z E nL Q pc lv (.ref (E.2.2.1 i) :: st) I := j_getR C jcl_MD hi (k := 5) (by decide) rfl (ref := "OutOrderModel") rfl w_734 d h
theorem cw_MD_182 : jcw "OutOrderModel" 182 ⟨"OutOrderModel", "inverse", "(I)I"⟩ prog_14_method_48_code 7 (some .int) 1 := ⟨w_992, w_989, w_12, ⟨by decide, by decide⟩, by decide +kernel⟩
theorem fp_MD_7 {Z : jZ} {E : jE} {cc : ByteArray} {nL fR lR : Nat} {Q : State → Prop} {pc : Nat} {lv : List (Nat × Value)} {st : List Value} {I : jM} (C : jC Z E cc nL "OutOrderModel" fR lR) {i : Nat} {v : Int32} (hi : jOB E 11 i) (d : decode cc pc = .ok (.putfield 7, 3)) (h : jJ Z E nL Q (pc + 3) lv st (jwr I i 0 v)) : jJ Z E nL Q pc lv (.int v :: .ref (E.2.2.1 i) :: st) I := j_put C jcl_MD hi (k := 0) (by decide) rfl (ref := "OutOrderModel") rfl rfl w_729 rfl rfl d h
theorem fp_MD_13 {Z : jZ} {E : jE} {cc : ByteArray} {nL fR lR : Nat} {Q : State → Prop} {pc : Nat} {lv : List (Nat × Value)} {st : List Value} {I : jM} (C : jC Z E cc nL "OutOrderModel" fR lR) {i : Nat} {v : Int32} (hi : jOB E 11 i) (d : decode cc pc = .ok (.putfield 13, 3)) (h : jJ Z E nL Q (pc + 3) lv st (jwr I i 1 v)) : jJ Z E nL Q pc lv (.int v :: .ref (E.2.2.1 i) :: st) I := j_put C jcl_MD hi (k := 1) (by decide) rfl (ref := "OutOrderModel") rfl rfl w_730 rfl rfl d h
theorem cw_MD_179 : jcw "OutOrderModel" 179 ⟨"OutOrderModel", "rest", "(III)I"⟩ prog_14_method_49_code 8 (some .int) 3 := ⟨w_988, w_985, w_12, ⟨by decide, by decide⟩, by decide +kernel⟩
