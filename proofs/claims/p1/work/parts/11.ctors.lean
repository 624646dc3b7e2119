theorem iuX9 : ∀ w ∈ u_ws RX9 TX9 9, w ∈ uG := uG_list _ [416, 418, 420, 422, 424, 426, 428, 430, 432] (by decide +kernel) (by decide +kernel)
theorem iuX4 : ∀ w ∈ u_ws RX4 TX4 17, w ∈ uG := uG_list _ [337, 339, 341, 343, 345, 347, 349, 351, 353, 355, 357, 359, 361, 363, 365, 367, 369] (by decide +kernel) (by decide +kernel)
theorem iuX6 : ∀ w ∈ u_ws RX6 TX6 15, w ∈ uG := uG_list _ [472, 474, 476, 478, 480, 482, 484, 486, 488, 490, 492, 494, 496, 498, 500] (by decide +kernel) (by decide +kernel)
theorem iuX10 : ∀ w ∈ u_ws RX10 TX10 6, w ∈ uG := uG_list _ [525, 527, 529, 531, 533, 535] (by decide +kernel) (by decide +kernel)
theorem iuX5 : ∀ w ∈ u_ws RX5 TX5 9, w ∈ uG := uG_list _ [550, 552, 554, 556, 558, 560, 562, 564, 566] (by decide +kernel) (by decide +kernel)
theorem iuX2 : ∀ w ∈ u_ws RX2 TX2 5, w ∈ uG := uG_list _ [582, 584, 586, 588, 590] (by decide +kernel) (by decide +kernel)
theorem iuX1 : ∀ w ∈ u_ws RX1 TX1 8, w ∈ uG := uG_list _ [607, 609, 611, 613, 615, 617, 619, 621] (by decide +kernel) (by decide +kernel)
theorem iuX7 : ∀ w ∈ u_ws RX7 TX7 3, w ∈ uG := uG_list _ [633, 635, 637] (by decide +kernel) (by decide +kernel)
theorem iuX0 : ∀ w ∈ u_ws RX0 TX0 2, w ∈ uG := uG_list _ [655, 657] (by decide +kernel) (by decide +kernel)
theorem iuX3 : ∀ w ∈ u_ws RX3 TX3 18, w ∈ uG := uG_list _ [681, 683, 685, 687, 689, 691, 693, 695, 697, 699, 701, 703, 705, 707, 709, 711, 713, 715] (by decide +kernel) (by decide +kernel)
theorem dfX8 : ∀ j, j < 3 → defaultValue (tyX8 j) = vp_V [.null, .int 0, .int 0] j := by decide +kernel
theorem dfX9 : ∀ j, j < 9 → defaultValue (tyX9 j) = vp_V [.null, .null, .null, .null, .null, .null, .null, .null, .int 0] j := by decide +kernel
theorem dfX4 : ∀ j, j < 17 → defaultValue (tyX4 j) = vp_V [.null, .null, .int 0, .null, .int 0, .int 0, .int 0, .null, .null, .null, .null, .null, .null, .null, .null, .null, .null] j := by decide +kernel
theorem dfX6 : ∀ j, j < 15 → defaultValue (tyX6 j) = vp_V [.null, .null, .null, .null, .null, .null, .null, .null, .int 0, .null, .null, .null, .null, .null, .int 0] j := by decide +kernel
theorem dfX10 : ∀ j, j < 6 → defaultValue (tyX10 j) = vp_V [.null, .int 0, .int 0, .int 0, .int 0, .long 0] j := by decide +kernel
theorem dfX5 : ∀ j, j < 9 → defaultValue (tyX5 j) = vp_V [.null, .null, .null, .null, .int 0, .int 0, .int 0, .int 0, .int 0] j := by decide +kernel
theorem dfX2 : ∀ j, j < 5 → defaultValue (tyX2 j) = vp_V [.null, .null, .null, .int 0, .int 0] j := by decide +kernel
theorem dfX1 : ∀ j, j < 8 → defaultValue (tyX1 j) = vp_V [.null, .null, .null, .null, .null, .int 0, .int 0, .int 0] j := by decide +kernel
theorem dfX7 : ∀ j, j < 3 → defaultValue (tyX7 j) = vp_V [.null, .null, .null] j := by decide +kernel
theorem dfX0 : ∀ j, j < 2 → defaultValue (tyX0 j) = vp_V [.null, .null] j := by decide +kernel
theorem dfX3 : ∀ j, j < 18 → defaultValue (tyX3 j) = vp_V [.null, .null, .null, .null, .null, .null, .null, .null, .int 0, .null, .int 0, .int 0, .int 0, .int 0, .long 0, .int 0, .int 0, .int 0] j := by decide +kernel
theorem mG_220 : Cond.initialized "LazyForge$Words" ∈ uG := uG_at 220 (by decide +kernel) (by decide +kernel)
theorem mG_225 : Cond.initialized "LazyForge$Cells" ∈ uG := uG_at 225 (by decide +kernel) (by decide +kernel)
theorem mG_254 : Cond.instanceMethod objectInit ∈ uG := uG_at 254 (by decide +kernel) (by decide +kernel)
theorem mG_255 : Cond.code objectInit object_method_1_code 1 none ∈ uG := uG_at 255 (by decide +kernel) (by decide +kernel)
theorem mG_261 : Cond.methodLink "LazyForge$Signs" 3 objectInit ∈ uG := uG_at 261 (by decide +kernel) (by decide +kernel)
theorem mG_275 : Cond.arrayClass FieldType.byte ∈ uG := uG_at 275 (by decide +kernel) (by decide +kernel)
theorem mG_281 : Cond.methodLink "LazyForge$Program" 3 objectInit ∈ uG := uG_at 281 (by decide +kernel) (by decide +kernel)
theorem mG_282 : Cond.fieldLink "LazyForge$Program" 9 "LazyForge$Program" "constructorName" "[J" ∈ uG := uG_at 282 (by decide +kernel) (by decide +kernel)
theorem mG_284 : Cond.fieldLink "LazyForge$Program" 15 "LazyForge$Program" "fields" "[I" ∈ uG := uG_at 284 (by decide +kernel) (by decide +kernel)
theorem mG_294 : Cond.fieldLink "LazyForge$Program" 19 "LazyForge$Program" "topName" "[J" ∈ uG := uG_at 294 (by decide +kernel) (by decide +kernel)
theorem mG_308 : Cond.fieldLink "LazyForge$Program" 22 "LazyForge$Program" "parameters" "[I" ∈ uG := uG_at 308 (by decide +kernel) (by decide +kernel)
theorem mG_314 : Cond.fieldLink "LazyForge$Program" 25 "LazyForge$Program" "frees" "[I" ∈ uG := uG_at 314 (by decide +kernel) (by decide +kernel)
theorem mG_316 : Cond.fieldLink "LazyForge$Program" 28 "LazyForge$Program" "free" "[I" ∈ uG := uG_at 316 (by decide +kernel) (by decide +kernel)
theorem mG_318 : Cond.fieldLink "LazyForge$Program" 31 "LazyForge$Program" "variables" "[I" ∈ uG := uG_at 318 (by decide +kernel) (by decide +kernel)
theorem mG_322 : Cond.fieldLink "LazyForge$Program" 34 "LazyForge$Program" "root" "[I" ∈ uG := uG_at 322 (by decide +kernel) (by decide +kernel)
theorem mG_327 : Cond.fieldLink "LazyForge$Program" 37 "LazyForge$Program" "scope" "[I" ∈ uG := uG_at 327 (by decide +kernel) (by decide +kernel)
theorem mG_329 : Cond.fieldLink "LazyForge$Program" 40 "LazyForge$Program" "parts" "[I" ∈ uG := uG_at 329 (by decide +kernel) (by decide +kernel)
theorem mG_331 : Cond.fieldLink "LazyForge$Program" 43 "LazyForge$Program" "height" "[I" ∈ uG := uG_at 331 (by decide +kernel) (by decide +kernel)
theorem mG_333 : Cond.fieldLink "LazyForge$Program" 46 "LazyForge$Program" "lets" "[I" ∈ uG := uG_at 333 (by decide +kernel) (by decide +kernel)
theorem mG_335 : Cond.fieldLink "LazyForge$Program" 49 "LazyForge$Program" "needed" "[I" ∈ uG := uG_at 335 (by decide +kernel) (by decide +kernel)
theorem mG_372 : Cond.arrayClass FieldType.long ∈ uG := uG_at 372 (by decide +kernel) (by decide +kernel)
theorem mG_373 : Cond.arrayClass FieldType.int ∈ uG := uG_at 373 (by decide +kernel) (by decide +kernel)
theorem mG_379 : Cond.methodLink "LazyForge$Tree" 3 objectInit ∈ uG := uG_at 379 (by decide +kernel) (by decide +kernel)
theorem mG_380 : Cond.fieldLink "LazyForge$Tree" 9 "LazyForge$Tree" "kind" "[I" ∈ uG := uG_at 380 (by decide +kernel) (by decide +kernel)
theorem mG_385 : Cond.fieldLink "LazyForge$Tree" 15 "LazyForge$Tree" "value" "[I" ∈ uG := uG_at 385 (by decide +kernel) (by decide +kernel)
theorem mG_390 : Cond.fieldLink "LazyForge$Tree" 18 "LazyForge$Tree" "slot" "[I" ∈ uG := uG_at 390 (by decide +kernel) (by decide +kernel)
theorem mG_395 : Cond.fieldLink "LazyForge$Tree" 21 "LazyForge$Tree" "kid" "[I" ∈ uG := uG_at 395 (by decide +kernel) (by decide +kernel)
theorem mG_400 : Cond.fieldLink "LazyForge$Tree" 24 "LazyForge$Tree" "next" "[I" ∈ uG := uG_at 400 (by decide +kernel) (by decide +kernel)
theorem mG_406 : Cond.fieldLink "LazyForge$Tree" 27 "LazyForge$Tree" "height" "[I" ∈ uG := uG_at 406 (by decide +kernel) (by decide +kernel)
theorem mG_408 : Cond.fieldLink "LazyForge$Tree" 30 "LazyForge$Tree" "parts" "[I" ∈ uG := uG_at 408 (by decide +kernel) (by decide +kernel)
theorem mG_410 : Cond.fieldLink "LazyForge$Tree" 33 "LazyForge$Tree" "used" "[J" ∈ uG := uG_at 410 (by decide +kernel) (by decide +kernel)
theorem mG_440 : Cond.methodLink "LazyForge$Scopes" 3 objectInit ∈ uG := uG_at 440 (by decide +kernel) (by decide +kernel)
theorem mG_441 : Cond.fieldLink "LazyForge$Scopes" 9 "LazyForge$Scopes" "name" "[J" ∈ uG := uG_at 441 (by decide +kernel) (by decide +kernel)
theorem mG_442 : Cond.fieldLink "LazyForge$Scopes" 15 "LazyForge$Scopes" "names" "[I" ∈ uG := uG_at 442 (by decide +kernel) (by decide +kernel)
theorem mG_445 : Cond.fieldLink "LazyForge$Scopes" 19 "LazyForge$Scopes" "parent" "[I" ∈ uG := uG_at 445 (by decide +kernel) (by decide +kernel)
theorem mG_447 : Cond.fieldLink "LazyForge$Scopes" 22 "LazyForge$Scopes" "owner" "[I" ∈ uG := uG_at 447 (by decide +kernel) (by decide +kernel)
theorem mG_449 : Cond.fieldLink "LazyForge$Scopes" 25 "LazyForge$Scopes" "root" "[I" ∈ uG := uG_at 449 (by decide +kernel) (by decide +kernel)
theorem mG_452 : Cond.fieldLink "LazyForge$Scopes" 28 "LazyForge$Scopes" "place" "[I" ∈ uG := uG_at 452 (by decide +kernel) (by decide +kernel)
theorem mG_454 : Cond.fieldLink "LazyForge$Scopes" 31 "LazyForge$Scopes" "base" "[I" ∈ uG := uG_at 454 (by decide +kernel) (by decide +kernel)
theorem mG_456 : Cond.fieldLink "LazyForge$Scopes" 34 "LazyForge$Scopes" "number" "[I" ∈ uG := uG_at 456 (by decide +kernel) (by decide +kernel)
theorem mG_460 : Cond.fieldLink "LazyForge$Scopes" 37 "LazyForge$Scopes" "useName" "[J" ∈ uG := uG_at 460 (by decide +kernel) (by decide +kernel)
theorem mG_462 : Cond.fieldLink "LazyForge$Scopes" 40 "LazyForge$Scopes" "useScope" "[I" ∈ uG := uG_at 462 (by decide +kernel) (by decide +kernel)
theorem mG_464 : Cond.fieldLink "LazyForge$Scopes" 43 "LazyForge$Scopes" "usePlace" "[I" ∈ uG := uG_at 464 (by decide +kernel) (by decide +kernel)
theorem mG_466 : Cond.fieldLink "LazyForge$Scopes" 46 "LazyForge$Scopes" "useNode" "[I" ∈ uG := uG_at 466 (by decide +kernel) (by decide +kernel)
theorem mG_468 : Cond.fieldLink "LazyForge$Scopes" 49 "LazyForge$Scopes" "useTarget" "[I" ∈ uG := uG_at 468 (by decide +kernel) (by decide +kernel)
theorem mG_508 : Cond.methodLink "LazyForge$Reader" 3 objectInit ∈ uG := uG_at 508 (by decide +kernel) (by decide +kernel)
theorem mG_509 : Cond.classLink "LazyForge$Reader" 9 "LazyForge$Words" ∈ uG := uG_at 509 (by decide +kernel) (by decide +kernel)
theorem mG_510 : Cond.instantiable "LazyForge$Words" 6 ∈ uG := uG_at 510 (by decide +kernel) (by decide +kernel)
theorem mG_511 : Cond.methodLink "LazyForge$Reader" 11 yX10_init ∈ uG := uG_at 511 (by decide +kernel) (by decide +kernel)
theorem mG_512 : Cond.instanceMethod yX10_init ∈ uG := uG_at 512 (by decide +kernel) (by decide +kernel)
theorem mG_513 : Cond.code yX10_init prog_12_method_1_code 2 none ∈ uG := uG_at 513 (by decide +kernel) (by decide +kernel)
theorem mG_514 : Cond.methodLink "LazyForge$Words" 3 objectInit ∈ uG := uG_at 514 (by decide +kernel) (by decide +kernel)
theorem mG_515 : Cond.fieldLink "LazyForge$Words" 9 "LazyForge$Words" "text" "LLazyForge$Signs;" ∈ uG := uG_at 515 (by decide +kernel) (by decide +kernel)
theorem mG_538 : Cond.fieldLink "LazyForge$Reader" 14 "LazyForge$Reader" "words" "LLazyForge$Words;" ∈ uG := uG_at 538 (by decide +kernel) (by decide +kernel)
theorem mG_539 : Cond.fieldLink "LazyForge$Reader" 20 "LazyForge$Reader" "tree" "LLazyForge$Tree;" ∈ uG := uG_at 539 (by decide +kernel) (by decide +kernel)
theorem mG_540 : Cond.fieldLink "LazyForge$Reader" 24 "LazyForge$Reader" "program" "LLazyForge$Program;" ∈ uG := uG_at 540 (by decide +kernel) (by decide +kernel)
theorem mG_541 : Cond.fieldLink "LazyForge$Reader" 28 "LazyForge$Reader" "scopes" "LLazyForge$Scopes;" ∈ uG := uG_at 541 (by decide +kernel) (by decide +kernel)
theorem mG_574 : Cond.methodLink "LazyForge$Lifter" 3 objectInit ∈ uG := uG_at 574 (by decide +kernel) (by decide +kernel)
theorem mG_575 : Cond.fieldLink "LazyForge$Lifter" 9 "LazyForge$Lifter" "tree" "LLazyForge$Tree;" ∈ uG := uG_at 575 (by decide +kernel) (by decide +kernel)
theorem mG_576 : Cond.fieldLink "LazyForge$Lifter" 15 "LazyForge$Lifter" "program" "LLazyForge$Program;" ∈ uG := uG_at 576 (by decide +kernel) (by decide +kernel)
theorem mG_577 : Cond.fieldLink "LazyForge$Lifter" 19 "LazyForge$Lifter" "scopes" "LLazyForge$Scopes;" ∈ uG := uG_at 577 (by decide +kernel) (by decide +kernel)
theorem mG_598 : Cond.methodLink "LazyForge$Demand" 3 objectInit ∈ uG := uG_at 598 (by decide +kernel) (by decide +kernel)
theorem mG_599 : Cond.fieldLink "LazyForge$Demand" 21 "LazyForge$Demand" "tree" "LLazyForge$Tree;" ∈ uG := uG_at 599 (by decide +kernel) (by decide +kernel)
theorem mG_600 : Cond.fieldLink "LazyForge$Demand" 25 "LazyForge$Demand" "program" "LLazyForge$Program;" ∈ uG := uG_at 600 (by decide +kernel) (by decide +kernel)
theorem mG_601 : Cond.fieldLink "LazyForge$Demand" 11 "LazyForge$Demand" "table" "[J" ∈ uG := uG_at 601 (by decide +kernel) (by decide +kernel)
theorem mG_602 : Cond.fieldLink "LazyForge$Demand" 15 "LazyForge$Demand" "bits" "[J" ∈ uG := uG_at 602 (by decide +kernel) (by decide +kernel)
theorem mG_603 : Cond.fieldLink "LazyForge$Demand" 18 "LazyForge$Demand" "given" "[J" ∈ uG := uG_at 603 (by decide +kernel) (by decide +kernel)
theorem mG_629 : Cond.methodLink "LazyForge$Scribe" 3 objectInit ∈ uG := uG_at 629 (by decide +kernel) (by decide +kernel)
theorem mG_630 : Cond.fieldLink "LazyForge$Scribe" 9 "LazyForge$Scribe" "tree" "LLazyForge$Tree;" ∈ uG := uG_at 630 (by decide +kernel) (by decide +kernel)
theorem mG_631 : Cond.fieldLink "LazyForge$Scribe" 15 "LazyForge$Scribe" "program" "LLazyForge$Program;" ∈ uG := uG_at 631 (by decide +kernel) (by decide +kernel)
theorem mG_645 : Cond.methodLink "LazyForge$Machine" 5 objectInit ∈ uG := uG_at 645 (by decide +kernel) (by decide +kernel)
theorem mG_646 : Cond.classLink "LazyForge$Machine" 11 "LazyForge$Cells" ∈ uG := uG_at 646 (by decide +kernel) (by decide +kernel)
theorem mG_647 : Cond.instantiable "LazyForge$Cells" 2 ∈ uG := uG_at 647 (by decide +kernel) (by decide +kernel)
theorem mG_648 : Cond.methodLink "LazyForge$Machine" 41 yX0_init ∈ uG := uG_at 648 (by decide +kernel) (by decide +kernel)
theorem mG_649 : Cond.instanceMethod yX0_init ∈ uG := uG_at 649 (by decide +kernel) (by decide +kernel)
theorem mG_650 : Cond.code yX0_init prog_2_method_1_code 2 none ∈ uG := uG_at 650 (by decide +kernel) (by decide +kernel)
theorem mG_651 : Cond.methodLink "LazyForge$Cells" 5 objectInit ∈ uG := uG_at 651 (by decide +kernel) (by decide +kernel)
theorem mG_652 : Cond.fieldLink "LazyForge$Cells" 11 "LazyForge$Cells" "row" "[J" ∈ uG := uG_at 652 (by decide +kernel) (by decide +kernel)
theorem mG_654 : Cond.fieldLink "LazyForge$Cells" 15 "LazyForge$Cells" "counts" "[I" ∈ uG := uG_at 654 (by decide +kernel) (by decide +kernel)
theorem mG_660 : Cond.fieldLink "LazyForge$Machine" 33 "LazyForge$Machine" "tree" "LLazyForge$Tree;" ∈ uG := uG_at 660 (by decide +kernel) (by decide +kernel)
theorem mG_661 : Cond.fieldLink "LazyForge$Machine" 37 "LazyForge$Machine" "program" "LLazyForge$Program;" ∈ uG := uG_at 661 (by decide +kernel) (by decide +kernel)
theorem mG_662 : Cond.fieldLink "LazyForge$Machine" 13 "LazyForge$Machine" "counts" "[I" ∈ uG := uG_at 662 (by decide +kernel) (by decide +kernel)
theorem mG_664 : Cond.fieldLink "LazyForge$Machine" 17 "LazyForge$Machine" "timesCalled" "[I" ∈ uG := uG_at 664 (by decide +kernel) (by decide +kernel)
theorem mG_666 : Cond.fieldLink "LazyForge$Machine" 20 "LazyForge$Machine" "row" "[I" ∈ uG := uG_at 666 (by decide +kernel) (by decide +kernel)
theorem mG_668 : Cond.fieldLink "LazyForge$Machine" 23 "LazyForge$Machine" "global" "[I" ∈ uG := uG_at 668 (by decide +kernel) (by decide +kernel)
theorem mG_669 : Cond.fieldLink "LazyForge$Machine" 44 "LazyForge$Machine" "cells" "LLazyForge$Cells;" ∈ uG := uG_at 669 (by decide +kernel) (by decide +kernel)
theorem mG_670 : Cond.fieldLink "LazyForge$Machine" 26 "LazyForge$Machine" "stack" "[J" ∈ uG := uG_at 670 (by decide +kernel) (by decide +kernel)
theorem mG_672 : Cond.fieldLink "LazyForge$Machine" 30 "LazyForge$Machine" "variables" "[J" ∈ uG := uG_at 672 (by decide +kernel) (by decide +kernel)
theorem dX0_init_0 : decode cX0_init 0 = .ok (.aload_n 0, 1) := by decide +kernel
theorem dX0_init_1 : decode cX0_init 1 = .ok (.invokespecial 5, 3) := by decide +kernel
theorem dX0_init_4 : decode cX0_init 4 = .ok (.aload_n 0, 1) := by decide +kernel
theorem dX0_init_5 : decode cX0_init 5 = .ok (.sipush 4000, 3) := by decide +kernel
theorem dX0_init_8 : decode cX0_init 8 = .ok (.newarray .long, 2) := by decide +kernel
theorem dX0_init_10 : decode cX0_init 10 = .ok (.putfield 11, 3) := by decide +kernel
theorem dX0_init_13 : decode cX0_init 13 = .ok (.aload_n 0, 1) := by decide +kernel
theorem dX0_init_14 : decode cX0_init 14 = .ok (.aload_n 1, 1) := by decide +kernel
theorem dX0_init_15 : decode cX0_init 15 = .ok (.putfield 15, 3) := by decide +kernel
theorem dX0_init_18 : decode cX0_init 18 = .ok (.return_, 1) := by decide +kernel
theorem dX10_init_0 : decode cX10_init 0 = .ok (.aload_n 0, 1) := by decide +kernel
theorem dX10_init_1 : decode cX10_init 1 = .ok (.invokespecial 3, 3) := by decide +kernel
theorem dX10_init_4 : decode cX10_init 4 = .ok (.aload_n 0, 1) := by decide +kernel
theorem dX10_init_5 : decode cX10_init 5 = .ok (.aload_n 1, 1) := by decide +kernel
theorem dX10_init_6 : decode cX10_init 6 = .ok (.putfield 9, 3) := by decide +kernel
theorem dX10_init_9 : decode cX10_init 9 = .ok (.return_, 1) := by decide +kernel
theorem dX1_init_0 : decode cX1_init 0 = .ok (.aload_n 0, 1) := by decide +kernel
theorem dX1_init_1 : decode cX1_init 1 = .ok (.invokespecial 3, 3) := by decide +kernel
theorem dX1_init_4 : decode cX1_init 4 = .ok (.aload_n 0, 1) := by decide +kernel
theorem dX1_init_5 : decode cX1_init 5 = .ok (.sipush 2520, 3) := by decide +kernel
theorem dX1_init_8 : decode cX1_init 8 = .ok (.newarray .long, 2) := by decide +kernel
theorem dX1_init_10 : decode cX1_init 10 = .ok (.putfield 11, 3) := by decide +kernel
theorem dX1_init_13 : decode cX1_init 13 = .ok (.aload_n 0, 1) := by decide +kernel
theorem dX1_init_14 : decode cX1_init 14 = .ok (.bipush 40, 2) := by decide +kernel
theorem dX1_init_16 : decode cX1_init 16 = .ok (.newarray .long, 2) := by decide +kernel
theorem dX1_init_18 : decode cX1_init 18 = .ok (.putfield 15, 3) := by decide +kernel
theorem dX1_init_21 : decode cX1_init 21 = .ok (.aload_n 0, 1) := by decide +kernel
theorem dX1_init_22 : decode cX1_init 22 = .ok (.sipush 328, 3) := by decide +kernel
theorem dX1_init_25 : decode cX1_init 25 = .ok (.newarray .long, 2) := by decide +kernel
theorem dX1_init_27 : decode cX1_init 27 = .ok (.putfield 18, 3) := by decide +kernel
theorem dX1_init_30 : decode cX1_init 30 = .ok (.aload_n 0, 1) := by decide +kernel
theorem dX1_init_31 : decode cX1_init 31 = .ok (.aload_n 1, 1) := by decide +kernel
theorem dX1_init_32 : decode cX1_init 32 = .ok (.putfield 21, 3) := by decide +kernel
theorem dX1_init_35 : decode cX1_init 35 = .ok (.aload_n 0, 1) := by decide +kernel
theorem dX1_init_36 : decode cX1_init 36 = .ok (.aload_n 2, 1) := by decide +kernel
theorem dX1_init_37 : decode cX1_init 37 = .ok (.putfield 25, 3) := by decide +kernel
theorem dX1_init_40 : decode cX1_init 40 = .ok (.return_, 1) := by decide +kernel
theorem dX2_init_0 : decode cX2_init 0 = .ok (.aload_n 0, 1) := by decide +kernel
theorem dX2_init_1 : decode cX2_init 1 = .ok (.invokespecial 3, 3) := by decide +kernel
theorem dX2_init_4 : decode cX2_init 4 = .ok (.aload_n 0, 1) := by decide +kernel
theorem dX2_init_5 : decode cX2_init 5 = .ok (.aload_n 1, 1) := by decide +kernel
theorem dX2_init_6 : decode cX2_init 6 = .ok (.putfield 9, 3) := by decide +kernel
theorem dX2_init_9 : decode cX2_init 9 = .ok (.aload_n 0, 1) := by decide +kernel
theorem dX2_init_10 : decode cX2_init 10 = .ok (.aload_n 2, 1) := by decide +kernel
theorem dX2_init_11 : decode cX2_init 11 = .ok (.putfield 15, 3) := by decide +kernel
theorem dX2_init_14 : decode cX2_init 14 = .ok (.aload_n 0, 1) := by decide +kernel
theorem dX2_init_15 : decode cX2_init 15 = .ok (.aload_n 3, 1) := by decide +kernel
theorem dX2_init_16 : decode cX2_init 16 = .ok (.putfield 19, 3) := by decide +kernel
theorem dX2_init_19 : decode cX2_init 19 = .ok (.return_, 1) := by decide +kernel
theorem dX3_init_0 : decode cX3_init 0 = .ok (.aload_n 0, 1) := by decide +kernel
theorem dX3_init_1 : decode cX3_init 1 = .ok (.invokespecial 5, 3) := by decide +kernel
theorem dX3_init_4 : decode cX3_init 4 = .ok (.aload_n 0, 1) := by decide +kernel
theorem dX3_init_5 : decode cX3_init 5 = .ok (.bipush 10, 2) := by decide +kernel
theorem dX3_init_7 : decode cX3_init 7 = .ok (.newarray .int, 2) := by decide +kernel
theorem dX3_init_9 : decode cX3_init 9 = .ok (.putfield 13, 3) := by decide +kernel
theorem dX3_init_12 : decode cX3_init 12 = .ok (.aload_n 0, 1) := by decide +kernel
theorem dX3_init_13 : decode cX3_init 13 = .ok (.sipush 630, 3) := by decide +kernel
theorem dX3_init_16 : decode cX3_init 16 = .ok (.newarray .int, 2) := by decide +kernel
theorem dX3_init_18 : decode cX3_init 18 = .ok (.putfield 17, 3) := by decide +kernel
theorem dX3_init_21 : decode cX3_init 21 = .ok (.aload_n 0, 1) := by decide +kernel
theorem dX3_init_22 : decode cX3_init 22 = .ok (.sipush 1000, 3) := by decide +kernel
theorem dX3_init_25 : decode cX3_init 25 = .ok (.newarray .int, 2) := by decide +kernel
theorem dX3_init_27 : decode cX3_init 27 = .ok (.putfield 20, 3) := by decide +kernel
theorem dX3_init_30 : decode cX3_init 30 = .ok (.aload_n 0, 1) := by decide +kernel
theorem dX3_init_31 : decode cX3_init 31 = .ok (.bipush 30, 2) := by decide +kernel
theorem dX3_init_33 : decode cX3_init 33 = .ok (.newarray .int, 2) := by decide +kernel
theorem dX3_init_35 : decode cX3_init 35 = .ok (.putfield 23, 3) := by decide +kernel
theorem dX3_init_38 : decode cX3_init 38 = .ok (.aload_n 0, 1) := by decide +kernel
theorem dX3_init_39 : decode cX3_init 39 = .ok (.sipush 512, 3) := by decide +kernel
theorem dX3_init_42 : decode cX3_init 42 = .ok (.newarray .long, 2) := by decide +kernel
theorem dX3_init_44 : decode cX3_init 44 = .ok (.putfield 26, 3) := by decide +kernel
theorem dX3_init_47 : decode cX3_init 47 = .ok (.aload_n 0, 1) := by decide +kernel
theorem dX3_init_48 : decode cX3_init 48 = .ok (.sipush 512, 3) := by decide +kernel
theorem dX3_init_51 : decode cX3_init 51 = .ok (.newarray .long, 2) := by decide +kernel
theorem dX3_init_53 : decode cX3_init 53 = .ok (.putfield 30, 3) := by decide +kernel
theorem dX3_init_56 : decode cX3_init 56 = .ok (.aload_n 0, 1) := by decide +kernel
theorem dX3_init_57 : decode cX3_init 57 = .ok (.aload_n 1, 1) := by decide +kernel
theorem dX3_init_58 : decode cX3_init 58 = .ok (.putfield 33, 3) := by decide +kernel
theorem dX3_init_61 : decode cX3_init 61 = .ok (.aload_n 0, 1) := by decide +kernel
theorem dX3_init_62 : decode cX3_init 62 = .ok (.aload_n 2, 1) := by decide +kernel
theorem dX3_init_63 : decode cX3_init 63 = .ok (.putfield 37, 3) := by decide +kernel
theorem dX3_init_66 : decode cX3_init 66 = .ok (.aload_n 0, 1) := by decide +kernel
theorem dX3_init_67 : decode cX3_init 67 = .ok (.new 11, 3) := by decide +kernel
theorem dX3_init_70 : decode cX3_init 70 = .ok (.dup, 1) := by decide +kernel
theorem dX3_init_71 : decode cX3_init 71 = .ok (.aload_n 0, 1) := by decide +kernel
theorem dX3_init_72 : decode cX3_init 72 = .ok (.getfield 13, 3) := by decide +kernel
theorem dX3_init_75 : decode cX3_init 75 = .ok (.invokespecial 41, 3) := by decide +kernel
theorem dX3_init_78 : decode cX3_init 78 = .ok (.putfield 44, 3) := by decide +kernel
theorem dX3_init_81 : decode cX3_init 81 = .ok (.return_, 1) := by decide +kernel
theorem dX4_init_0 : decode cX4_init 0 = .ok (.aload_n 0, 1) := by decide +kernel
theorem dX4_init_1 : decode cX4_init 1 = .ok (.invokespecial 3, 3) := by decide +kernel
theorem dX4_init_4 : decode cX4_init 4 = .ok (.aload_n 0, 1) := by decide +kernel
theorem dX4_init_5 : decode cX4_init 5 = .ok (.bipush 30, 2) := by decide +kernel
theorem dX4_init_7 : decode cX4_init 7 = .ok (.newarray .long, 2) := by decide +kernel
theorem dX4_init_9 : decode cX4_init 9 = .ok (.putfield 9, 3) := by decide +kernel
theorem dX4_init_12 : decode cX4_init 12 = .ok (.aload_n 0, 1) := by decide +kernel
theorem dX4_init_13 : decode cX4_init 13 = .ok (.bipush 30, 2) := by decide +kernel
theorem dX4_init_15 : decode cX4_init 15 = .ok (.newarray .int, 2) := by decide +kernel
theorem dX4_init_17 : decode cX4_init 17 = .ok (.putfield 15, 3) := by decide +kernel
theorem dX4_init_20 : decode cX4_init 20 = .ok (.aload_n 0, 1) := by decide +kernel
theorem dX4_init_21 : decode cX4_init 21 = .ok (.bipush 30, 2) := by decide +kernel
theorem dX4_init_23 : decode cX4_init 23 = .ok (.newarray .long, 2) := by decide +kernel
theorem dX4_init_25 : decode cX4_init 25 = .ok (.putfield 19, 3) := by decide +kernel
theorem dX4_init_28 : decode cX4_init 28 = .ok (.aload_n 0, 1) := by decide +kernel
theorem dX4_init_29 : decode cX4_init 29 = .ok (.sipush 630, 3) := by decide +kernel
theorem dX4_init_32 : decode cX4_init 32 = .ok (.newarray .int, 2) := by decide +kernel
theorem dX4_init_34 : decode cX4_init 34 = .ok (.putfield 22, 3) := by decide +kernel
theorem dX4_init_37 : decode cX4_init 37 = .ok (.aload_n 0, 1) := by decide +kernel
theorem dX4_init_38 : decode cX4_init 38 = .ok (.sipush 630, 3) := by decide +kernel
theorem dX4_init_41 : decode cX4_init 41 = .ok (.newarray .int, 2) := by decide +kernel
theorem dX4_init_43 : decode cX4_init 43 = .ok (.putfield 25, 3) := by decide +kernel
theorem dX4_init_46 : decode cX4_init 46 = .ok (.aload_n 0, 1) := by decide +kernel
theorem dX4_init_47 : decode cX4_init 47 = .ok (.sipush 5040, 3) := by decide +kernel
theorem dX4_init_50 : decode cX4_init 50 = .ok (.newarray .int, 2) := by decide +kernel
theorem dX4_init_52 : decode cX4_init 52 = .ok (.putfield 28, 3) := by decide +kernel
theorem dX4_init_55 : decode cX4_init 55 = .ok (.aload_n 0, 1) := by decide +kernel
theorem dX4_init_56 : decode cX4_init 56 = .ok (.sipush 630, 3) := by decide +kernel
theorem dX4_init_59 : decode cX4_init 59 = .ok (.newarray .int, 2) := by decide +kernel
theorem dX4_init_61 : decode cX4_init 61 = .ok (.putfield 31, 3) := by decide +kernel
theorem dX4_init_64 : decode cX4_init 64 = .ok (.aload_n 0, 1) := by decide +kernel
theorem dX4_init_65 : decode cX4_init 65 = .ok (.sipush 630, 3) := by decide +kernel
theorem dX4_init_68 : decode cX4_init 68 = .ok (.newarray .int, 2) := by decide +kernel
theorem dX4_init_70 : decode cX4_init 70 = .ok (.putfield 34, 3) := by decide +kernel
theorem dX4_init_73 : decode cX4_init 73 = .ok (.aload_n 0, 1) := by decide +kernel
theorem dX4_init_74 : decode cX4_init 74 = .ok (.sipush 630, 3) := by decide +kernel
theorem dX4_init_77 : decode cX4_init 77 = .ok (.newarray .int, 2) := by decide +kernel
theorem dX4_init_79 : decode cX4_init 79 = .ok (.putfield 37, 3) := by decide +kernel
theorem dX4_init_82 : decode cX4_init 82 = .ok (.aload_n 0, 1) := by decide +kernel
theorem dX4_init_83 : decode cX4_init 83 = .ok (.sipush 630, 3) := by decide +kernel
theorem dX4_init_86 : decode cX4_init 86 = .ok (.newarray .int, 2) := by decide +kernel
theorem dX4_init_88 : decode cX4_init 88 = .ok (.putfield 40, 3) := by decide +kernel
theorem dX4_init_91 : decode cX4_init 91 = .ok (.aload_n 0, 1) := by decide +kernel
theorem dX4_init_92 : decode cX4_init 92 = .ok (.sipush 630, 3) := by decide +kernel
theorem dX4_init_95 : decode cX4_init 95 = .ok (.newarray .int, 2) := by decide +kernel
theorem dX4_init_97 : decode cX4_init 97 = .ok (.putfield 43, 3) := by decide +kernel
theorem dX4_init_100 : decode cX4_init 100 = .ok (.aload_n 0, 1) := by decide +kernel
theorem dX4_init_101 : decode cX4_init 101 = .ok (.sipush 630, 3) := by decide +kernel
theorem dX4_init_104 : decode cX4_init 104 = .ok (.newarray .int, 2) := by decide +kernel
theorem dX4_init_106 : decode cX4_init 106 = .ok (.putfield 46, 3) := by decide +kernel
theorem dX4_init_109 : decode cX4_init 109 = .ok (.aload_n 0, 1) := by decide +kernel
theorem dX4_init_110 : decode cX4_init 110 = .ok (.sipush 630, 3) := by decide +kernel
theorem dX4_init_113 : decode cX4_init 113 = .ok (.newarray .int, 2) := by decide +kernel
theorem dX4_init_115 : decode cX4_init 115 = .ok (.putfield 49, 3) := by decide +kernel
theorem dX4_init_118 : decode cX4_init 118 = .ok (.return_, 1) := by decide +kernel
theorem dX5_init_0 : decode cX5_init 0 = .ok (.aload_n 0, 1) := by decide +kernel
theorem dX5_init_1 : decode cX5_init 1 = .ok (.invokespecial 3, 3) := by decide +kernel
theorem dX5_init_4 : decode cX5_init 4 = .ok (.aload_n 0, 1) := by decide +kernel
theorem dX5_init_5 : decode cX5_init 5 = .ok (.new 9, 3) := by decide +kernel
theorem dX5_init_8 : decode cX5_init 8 = .ok (.dup, 1) := by decide +kernel
theorem dX5_init_9 : decode cX5_init 9 = .ok (.aload_n 1, 1) := by decide +kernel
theorem dX5_init_10 : decode cX5_init 10 = .ok (.invokespecial 11, 3) := by decide +kernel
theorem dX5_init_13 : decode cX5_init 13 = .ok (.putfield 14, 3) := by decide +kernel
theorem dX5_init_16 : decode cX5_init 16 = .ok (.aload_n 0, 1) := by decide +kernel
theorem dX5_init_17 : decode cX5_init 17 = .ok (.aload_n 2, 1) := by decide +kernel
theorem dX5_init_18 : decode cX5_init 18 = .ok (.putfield 20, 3) := by decide +kernel
theorem dX5_init_21 : decode cX5_init 21 = .ok (.aload_n 0, 1) := by decide +kernel
theorem dX5_init_22 : decode cX5_init 22 = .ok (.aload_n 3, 1) := by decide +kernel
theorem dX5_init_23 : decode cX5_init 23 = .ok (.putfield 24, 3) := by decide +kernel
theorem dX5_init_26 : decode cX5_init 26 = .ok (.aload_n 0, 1) := by decide +kernel
theorem dX5_init_27 : decode cX5_init 27 = .ok (.aload 4, 2) := by decide +kernel
theorem dX5_init_29 : decode cX5_init 29 = .ok (.putfield 28, 3) := by decide +kernel
theorem dX5_init_32 : decode cX5_init 32 = .ok (.return_, 1) := by decide +kernel
theorem dX6_init_0 : decode cX6_init 0 = .ok (.aload_n 0, 1) := by decide +kernel
theorem dX6_init_1 : decode cX6_init 1 = .ok (.invokespecial 3, 3) := by decide +kernel
theorem dX6_init_4 : decode cX6_init 4 = .ok (.aload_n 0, 1) := by decide +kernel
theorem dX6_init_5 : decode cX6_init 5 = .ok (.sipush 3500, 3) := by decide +kernel
theorem dX6_init_8 : decode cX6_init 8 = .ok (.newarray .long, 2) := by decide +kernel
theorem dX6_init_10 : decode cX6_init 10 = .ok (.putfield 9, 3) := by decide +kernel
theorem dX6_init_13 : decode cX6_init 13 = .ok (.aload_n 0, 1) := by decide +kernel
theorem dX6_init_14 : decode cX6_init 14 = .ok (.sipush 700, 3) := by decide +kernel
theorem dX6_init_17 : decode cX6_init 17 = .ok (.newarray .int, 2) := by decide +kernel
theorem dX6_init_19 : decode cX6_init 19 = .ok (.putfield 15, 3) := by decide +kernel
theorem dX6_init_22 : decode cX6_init 22 = .ok (.aload_n 0, 1) := by decide +kernel
theorem dX6_init_23 : decode cX6_init 23 = .ok (.sipush 700, 3) := by decide +kernel
theorem dX6_init_26 : decode cX6_init 26 = .ok (.newarray .int, 2) := by decide +kernel
theorem dX6_init_28 : decode cX6_init 28 = .ok (.putfield 19, 3) := by decide +kernel
theorem dX6_init_31 : decode cX6_init 31 = .ok (.aload_n 0, 1) := by decide +kernel
theorem dX6_init_32 : decode cX6_init 32 = .ok (.sipush 700, 3) := by decide +kernel
theorem dX6_init_35 : decode cX6_init 35 = .ok (.newarray .int, 2) := by decide +kernel
theorem dX6_init_37 : decode cX6_init 37 = .ok (.putfield 22, 3) := by decide +kernel
theorem dX6_init_40 : decode cX6_init 40 = .ok (.aload_n 0, 1) := by decide +kernel
theorem dX6_init_41 : decode cX6_init 41 = .ok (.sipush 700, 3) := by decide +kernel
theorem dX6_init_44 : decode cX6_init 44 = .ok (.newarray .int, 2) := by decide +kernel
theorem dX6_init_46 : decode cX6_init 46 = .ok (.putfield 25, 3) := by decide +kernel
theorem dX6_init_49 : decode cX6_init 49 = .ok (.aload_n 0, 1) := by decide +kernel
theorem dX6_init_50 : decode cX6_init 50 = .ok (.sipush 700, 3) := by decide +kernel
theorem dX6_init_53 : decode cX6_init 53 = .ok (.newarray .int, 2) := by decide +kernel
theorem dX6_init_55 : decode cX6_init 55 = .ok (.putfield 28, 3) := by decide +kernel
theorem dX6_init_58 : decode cX6_init 58 = .ok (.aload_n 0, 1) := by decide +kernel
theorem dX6_init_59 : decode cX6_init 59 = .ok (.sipush 700, 3) := by decide +kernel
theorem dX6_init_62 : decode cX6_init 62 = .ok (.newarray .int, 2) := by decide +kernel
theorem dX6_init_64 : decode cX6_init 64 = .ok (.putfield 31, 3) := by decide +kernel
theorem dX6_init_67 : decode cX6_init 67 = .ok (.aload_n 0, 1) := by decide +kernel
theorem dX6_init_68 : decode cX6_init 68 = .ok (.sipush 700, 3) := by decide +kernel
theorem dX6_init_71 : decode cX6_init 71 = .ok (.newarray .int, 2) := by decide +kernel
theorem dX6_init_73 : decode cX6_init 73 = .ok (.putfield 34, 3) := by decide +kernel
theorem dX6_init_76 : decode cX6_init 76 = .ok (.aload_n 0, 1) := by decide +kernel
theorem dX6_init_77 : decode cX6_init 77 = .ok (.sipush 600, 3) := by decide +kernel
theorem dX6_init_80 : decode cX6_init 80 = .ok (.newarray .long, 2) := by decide +kernel
theorem dX6_init_82 : decode cX6_init 82 = .ok (.putfield 37, 3) := by decide +kernel
theorem dX6_init_85 : decode cX6_init 85 = .ok (.aload_n 0, 1) := by decide +kernel
theorem dX6_init_86 : decode cX6_init 86 = .ok (.sipush 600, 3) := by decide +kernel
theorem dX6_init_89 : decode cX6_init 89 = .ok (.newarray .int, 2) := by decide +kernel
theorem dX6_init_91 : decode cX6_init 91 = .ok (.putfield 40, 3) := by decide +kernel
theorem dX6_init_94 : decode cX6_init 94 = .ok (.aload_n 0, 1) := by decide +kernel
theorem dX6_init_95 : decode cX6_init 95 = .ok (.sipush 600, 3) := by decide +kernel
theorem dX6_init_98 : decode cX6_init 98 = .ok (.newarray .int, 2) := by decide +kernel
theorem dX6_init_100 : decode cX6_init 100 = .ok (.putfield 43, 3) := by decide +kernel
theorem dX6_init_103 : decode cX6_init 103 = .ok (.aload_n 0, 1) := by decide +kernel
theorem dX6_init_104 : decode cX6_init 104 = .ok (.sipush 600, 3) := by decide +kernel
theorem dX6_init_107 : decode cX6_init 107 = .ok (.newarray .int, 2) := by decide +kernel
theorem dX6_init_109 : decode cX6_init 109 = .ok (.putfield 46, 3) := by decide +kernel
theorem dX6_init_112 : decode cX6_init 112 = .ok (.aload_n 0, 1) := by decide +kernel
theorem dX6_init_113 : decode cX6_init 113 = .ok (.sipush 600, 3) := by decide +kernel
theorem dX6_init_116 : decode cX6_init 116 = .ok (.newarray .int, 2) := by decide +kernel
theorem dX6_init_118 : decode cX6_init 118 = .ok (.putfield 49, 3) := by decide +kernel
theorem dX6_init_121 : decode cX6_init 121 = .ok (.return_, 1) := by decide +kernel
theorem dX7_init_0 : decode cX7_init 0 = .ok (.aload_n 0, 1) := by decide +kernel
theorem dX7_init_1 : decode cX7_init 1 = .ok (.invokespecial 3, 3) := by decide +kernel
theorem dX7_init_4 : decode cX7_init 4 = .ok (.aload_n 0, 1) := by decide +kernel
theorem dX7_init_5 : decode cX7_init 5 = .ok (.aload_n 1, 1) := by decide +kernel
theorem dX7_init_6 : decode cX7_init 6 = .ok (.putfield 9, 3) := by decide +kernel
theorem dX7_init_9 : decode cX7_init 9 = .ok (.aload_n 0, 1) := by decide +kernel
theorem dX7_init_10 : decode cX7_init 10 = .ok (.aload_n 2, 1) := by decide +kernel
theorem dX7_init_11 : decode cX7_init 11 = .ok (.putfield 15, 3) := by decide +kernel
theorem dX7_init_14 : decode cX7_init 14 = .ok (.return_, 1) := by decide +kernel
theorem dX8_init_0 : decode cX8_init 0 = .ok (.aload_n 0, 1) := by decide +kernel
theorem dX8_init_1 : decode cX8_init 1 = .ok (.invokespecial 3, 3) := by decide +kernel
theorem dX8_init_4 : decode cX8_init 4 = .ok (.aload_n 0, 1) := by decide +kernel
theorem dX8_init_5 : decode cX8_init 5 = .ok (.iload_n 1, 1) := by decide +kernel
theorem dX8_init_6 : decode cX8_init 6 = .ok (.newarray .byte, 2) := by decide +kernel
theorem dX8_init_8 : decode cX8_init 8 = .ok (.putfield 9, 3) := by decide +kernel
theorem dX8_init_11 : decode cX8_init 11 = .ok (.return_, 1) := by decide +kernel
theorem dX9_init_0 : decode cX9_init 0 = .ok (.aload_n 0, 1) := by decide +kernel
theorem dX9_init_1 : decode cX9_init 1 = .ok (.invokespecial 3, 3) := by decide +kernel
theorem dX9_init_4 : decode cX9_init 4 = .ok (.aload_n 0, 1) := by decide +kernel
theorem dX9_init_5 : decode cX9_init 5 = .ok (.sipush 6200, 3) := by decide +kernel
theorem dX9_init_8 : decode cX9_init 8 = .ok (.newarray .int, 2) := by decide +kernel
theorem dX9_init_10 : decode cX9_init 10 = .ok (.putfield 9, 3) := by decide +kernel
theorem dX9_init_13 : decode cX9_init 13 = .ok (.aload_n 0, 1) := by decide +kernel
theorem dX9_init_14 : decode cX9_init 14 = .ok (.sipush 6200, 3) := by decide +kernel
theorem dX9_init_17 : decode cX9_init 17 = .ok (.newarray .int, 2) := by decide +kernel
theorem dX9_init_19 : decode cX9_init 19 = .ok (.putfield 15, 3) := by decide +kernel
theorem dX9_init_22 : decode cX9_init 22 = .ok (.aload_n 0, 1) := by decide +kernel
theorem dX9_init_23 : decode cX9_init 23 = .ok (.sipush 6200, 3) := by decide +kernel
theorem dX9_init_26 : decode cX9_init 26 = .ok (.newarray .int, 2) := by decide +kernel
theorem dX9_init_28 : decode cX9_init 28 = .ok (.putfield 18, 3) := by decide +kernel
theorem dX9_init_31 : decode cX9_init 31 = .ok (.aload_n 0, 1) := by decide +kernel
theorem dX9_init_32 : decode cX9_init 32 = .ok (.sipush 6200, 3) := by decide +kernel
theorem dX9_init_35 : decode cX9_init 35 = .ok (.newarray .int, 2) := by decide +kernel
theorem dX9_init_37 : decode cX9_init 37 = .ok (.putfield 21, 3) := by decide +kernel
theorem dX9_init_40 : decode cX9_init 40 = .ok (.aload_n 0, 1) := by decide +kernel
theorem dX9_init_41 : decode cX9_init 41 = .ok (.sipush 6200, 3) := by decide +kernel
theorem dX9_init_44 : decode cX9_init 44 = .ok (.newarray .int, 2) := by decide +kernel
theorem dX9_init_46 : decode cX9_init 46 = .ok (.putfield 24, 3) := by decide +kernel
theorem dX9_init_49 : decode cX9_init 49 = .ok (.aload_n 0, 1) := by decide +kernel
theorem dX9_init_50 : decode cX9_init 50 = .ok (.sipush 6200, 3) := by decide +kernel
theorem dX9_init_53 : decode cX9_init 53 = .ok (.newarray .int, 2) := by decide +kernel
theorem dX9_init_55 : decode cX9_init 55 = .ok (.putfield 27, 3) := by decide +kernel
theorem dX9_init_58 : decode cX9_init 58 = .ok (.aload_n 0, 1) := by decide +kernel
theorem dX9_init_59 : decode cX9_init 59 = .ok (.sipush 6200, 3) := by decide +kernel
theorem dX9_init_62 : decode cX9_init 62 = .ok (.newarray .int, 2) := by decide +kernel
theorem dX9_init_64 : decode cX9_init 64 = .ok (.putfield 30, 3) := by decide +kernel
theorem dX9_init_67 : decode cX9_init 67 = .ok (.aload_n 0, 1) := by decide +kernel
theorem dX9_init_68 : decode cX9_init 68 = .ok (.sipush 6200, 3) := by decide +kernel
theorem dX9_init_71 : decode cX9_init 71 = .ok (.newarray .long, 2) := by decide +kernel
theorem dX9_init_73 : decode cX9_init 73 = .ok (.putfield 33, 3) := by decide +kernel
theorem dX9_init_76 : decode cX9_init 76 = .ok (.return_, 1) := by decide +kernel
set_option maxHeartbeats 4000000 in
set_option maxRecDepth 100000 in
/-- Signs(n) -/
theorem kX8_init (l : Launch) (dC : Nat → ClassId) (dI : Nat → Nat → Nat) (sz : Nat) (a : Nat) (n : Int32) (N : Nat) (hN0 : ¬ n < 0) (hN1 : n.toNatClampNeg = N) (hN2 : N * componentBytes FieldType.byte ≤ 536870912) : Met l yX8_init (Cond.code yX8_init cX8_init 2 none :: uG) ({ frames := 1, cells := 1, slots := (N), locals := 12 }) (va_Pc [.ref a, .int n] (fun U => U.heap.size = sz ∧ va_P (dC, dI) vwCl [(a, .inr (11, [.null, .int 0, .int 0]))] U.heap ∧ va_K (dC, dI) vwCl [] U ∧ va_D (fun _ => True) [(a, .inr (11, [.null, .int 0, .int 0]))])) (va_Qv (S := (Nat → Nat) × (Nat → ClassId)) (fun _ => True) (fun u t => va_P (dC, dI) vwCl [(a, .inr (11, [.ref (u.1 0), .int 0, .int 0])), ((u.1 0), .inl ((u.2 0), N, .inl (fun _ => 0)))] t.heap ∧ va_K (dC, dI) vwCl [((u.2 0), .byte)] t ∧ va_D (va_A [(a, .inr (11, [.null, .int 0, .int 0]))] sz) [(a, .inr (11, [.ref (u.1 0), .int 0, .int 0])), ((u.1 0), .inl ((u.2 0), N, .inl (fun _ => 0)))]) (va_A [(a, .inr (11, [.null, .int 0, .int 0]))] sz)) 1 (N) (va_A [(a, .inr (11, [.null, .int 0, .int 0]))] sz) := by
  refine Met.ofW (cc := cX8_init) (maxL := 2) (ret := none) (by decide) rfl ?_
  intro p e s m args below meth c s₁ B hml hv
  obtain ⟨rfl, hsz, hP, hK, hD0⟩ := hv
  have hx := B.exec
  have hb := B.bytes
  have hr := B.returns
  have hts := atoms_spec (ws := Cond.code yX8_init cX8_init 2 none :: uG) B.pre
  have hu := fun (w : Cond) (h : w ∈ uG) => hts w (List.mem_cons_of_mem _ h)
  have hown : s.vm.findClass RX8 = some m.cls := findClass_of_methodNamed B.named
  have hlocks := B.notSynchronized
  have hin : meth.name = "<init>" := (name_of_methodNamed B.named B.method).1
  subst hsz
  have hD := hD0.self (sz := s.heap.size)
  generalize hAe : va_A [(a, .inr (11, [.null, .int 0, .int 0]))] s.heap.size = A at hD ⊢
  have hA : ∀ q : Nat, s.heap.size ≤ q → A q := fun q h => by rw [← hAe]; exact Or.inr h
  have hS : va_S A s.heap s.heap [] := va_S.rf
  have hP : va_P (dC, dI) vwCl [(a, .inr (11, [.null, .int 0, .int 0]))] s.heap := hP
  have hD : va_D A [(a, .inr (11, [.null, .int 0, .int 0]))] := hD
  have hl := lv_entry ([.ref a, .int n]) (n := 2) (Nat.le_of_ble_eq_true rfl)
  rw [lg_entry_eq]
  generalize (lg_sl ([.ref a, .int n]) ++ List.replicate (2 - (lg_sl ([.ref a, .int n])).length) Slot.unset).toArray = ls at hl ⊢
  have hl : lv_has ls 2 [(0, .ref a), (1, .int n)] := hl
  refine lv_aload_n hx hb dX8_init_0 rfl (lv_at hl 0 rfl) ?_
  refine W.objInit hx hb hown (hu _ mG_261) (hu _ mG_254) (hu _ mG_255) rfl (by rw [hml]; exact hl.1) rfl dX8_init_1 (Nat.le_of_ble_eq_true rfl) (Nat.le_of_ble_eq_true rfl) ?_
  refine W.eq (g2 := F0 m 4 ls []) rfl ?_
  refine lv_aload_n hx hb dX8_init_4 rfl (lv_at hl 0 rfl) ?_
  refine lv_iload_n hx hb dX8_init_5 rfl (lv_at hl 1 rfl) ?_
  refine va_newa (atype := .byte) (N' := N) (a0 := (N, .inl (fun _ => 0))) hx hb (hu _ mG_275) rfl hK hP hD hS hA (fun _ => rfl) (by exact hN0) (by exact hN1) (by exact hN2) (Nat.le_of_ble_eq_true rfl) (by show 0 + N ≤ N; omega) dX8_init_6 (fun q6 k6 H hK hP hD hS => ?_)
  have hP : va_P (dC, dI) vwCl [(a, .inr (11, [.null, .int 0, .int 0])), (q6, .inl (k6, N, .inl (fun _ => 0)))] H := hP
  have hD : va_D A [(a, .inr (11, [.null, .int 0, .int 0])), (q6, .inl (k6, N, .inl (fun _ => 0)))] := hD
  have hK : va_K (dC, dI) vwCl [(k6, .byte)] s := hK
  refine va_putF (D := (dC, dI)) (ci := 11) (v := .ref q6) (ty := (tyX8 0)) (C := RX8) (T := TX8) (N := 3) hx hb hu iuX8 tyX8 tyX8_ok nmX8 hown hK hP hD hS 0 rfl rfl 0 (by decide) (hu _ mG_262) (fun _ h9 => h9) rfl hin rfl (by decide +kernel) (rfl) (rfl) (Nat.le_of_ble_eq_true rfl) dX8_init_8 (fun H locs hP hD hS => ?_)
  have hP : va_P (dC, dI) vwCl [(a, .inr (11, [.ref q6, .int 0, .int 0])), (q6, .inl (k6, N, .inl (fun _ => 0)))] H := hP
  have hD : va_D A [(a, .inr (11, [.ref q6, .int 0, .int 0])), (q6, .inl (k6, N, .inl (fun _ => 0)))] := hD
  refine W.widen (k := 1) (n := N) (by omega) (by omega) ?_
  exact W.vret hx hb hr (fun t ht hW => ⟨⟨(fun i => if i = 0 then q6 else 0, fun i => if i = 0 then k6 else k6), rfl, trivial, by rw [ht]; exact hP, va_K.moved hW.alike hK, hD⟩, hS.F ht⟩) hS.2.2 dX8_init_11
set_option maxHeartbeats 4000000 in
set_option maxRecDepth 100000 in
/-- Tree() -/
theorem kX9_init (l : Launch) (dC : Nat → ClassId) (dI : Nat → Nat → Nat) (sz : Nat) (a : Nat)  : Met l yX9_init (Cond.code yX9_init cX9_init 1 none :: uG) ({ frames := 1, cells := 8, slots := (49600), locals := 12 }) (va_Pc [.ref a] (fun U => U.heap.size = sz ∧ va_P (dC, dI) vwCl [(a, .inr (12, [.null, .null, .null, .null, .null, .null, .null, .null, .int 0]))] U.heap ∧ va_K (dC, dI) vwCl [] U ∧ va_D (fun _ => True) [(a, .inr (12, [.null, .null, .null, .null, .null, .null, .null, .null, .int 0]))])) (va_Qv (S := (Nat → Nat) × (Nat → ClassId)) (fun _ => True) (fun u t => va_P (dC, dI) vwCl [(a, .inr (12, [.ref (u.1 0), .ref (u.1 1), .ref (u.1 2), .ref (u.1 3), .ref (u.1 4), .ref (u.1 5), .ref (u.1 6), .ref (u.1 7), .int 0])), ((u.1 0), .inl ((u.2 0), 6200, .inl (fun _ => 0))), ((u.1 1), .inl ((u.2 1), 6200, .inl (fun _ => 0))), ((u.1 2), .inl ((u.2 2), 6200, .inl (fun _ => 0))), ((u.1 3), .inl ((u.2 3), 6200, .inl (fun _ => 0))), ((u.1 4), .inl ((u.2 4), 6200, .inl (fun _ => 0))), ((u.1 5), .inl ((u.2 5), 6200, .inl (fun _ => 0))), ((u.1 6), .inl ((u.2 6), 6200, .inl (fun _ => 0))), ((u.1 7), .inl ((u.2 7), 6200, .inr (.inl (fun _ => 0))))] t.heap ∧ va_K (dC, dI) vwCl [((u.2 0), .int), ((u.2 1), .int), ((u.2 2), .int), ((u.2 3), .int), ((u.2 4), .int), ((u.2 5), .int), ((u.2 6), .int), ((u.2 7), .long)] t ∧ va_D (va_A [(a, .inr (12, [.null, .null, .null, .null, .null, .null, .null, .null, .int 0]))] sz) [(a, .inr (12, [.ref (u.1 0), .ref (u.1 1), .ref (u.1 2), .ref (u.1 3), .ref (u.1 4), .ref (u.1 5), .ref (u.1 6), .ref (u.1 7), .int 0])), ((u.1 0), .inl ((u.2 0), 6200, .inl (fun _ => 0))), ((u.1 1), .inl ((u.2 1), 6200, .inl (fun _ => 0))), ((u.1 2), .inl ((u.2 2), 6200, .inl (fun _ => 0))), ((u.1 3), .inl ((u.2 3), 6200, .inl (fun _ => 0))), ((u.1 4), .inl ((u.2 4), 6200, .inl (fun _ => 0))), ((u.1 5), .inl ((u.2 5), 6200, .inl (fun _ => 0))), ((u.1 6), .inl ((u.2 6), 6200, .inl (fun _ => 0))), ((u.1 7), .inl ((u.2 7), 6200, .inr (.inl (fun _ => 0))))]) (va_A [(a, .inr (12, [.null, .null, .null, .null, .null, .null, .null, .null, .int 0]))] sz)) 8 (49600) (va_A [(a, .inr (12, [.null, .null, .null, .null, .null, .null, .null, .null, .int 0]))] sz) := by
  refine Met.ofW (cc := cX9_init) (maxL := 1) (ret := none) (by decide) rfl ?_
  intro p e s m args below meth c s₁ B hml hv
  obtain ⟨rfl, hsz, hP, hK, hD0⟩ := hv
  have hx := B.exec
  have hb := B.bytes
  have hr := B.returns
  have hts := atoms_spec (ws := Cond.code yX9_init cX9_init 1 none :: uG) B.pre
  have hu := fun (w : Cond) (h : w ∈ uG) => hts w (List.mem_cons_of_mem _ h)
  have hown : s.vm.findClass RX9 = some m.cls := findClass_of_methodNamed B.named
  have hlocks := B.notSynchronized
  have hin : meth.name = "<init>" := (name_of_methodNamed B.named B.method).1
  subst hsz
  have hD := hD0.self (sz := s.heap.size)
  generalize hAe : va_A [(a, .inr (12, [.null, .null, .null, .null, .null, .null, .null, .null, .int 0]))] s.heap.size = A at hD ⊢
  have hA : ∀ q : Nat, s.heap.size ≤ q → A q := fun q h => by rw [← hAe]; exact Or.inr h
  have hS : va_S A s.heap s.heap [] := va_S.rf
  have hP : va_P (dC, dI) vwCl [(a, .inr (12, [.null, .null, .null, .null, .null, .null, .null, .null, .int 0]))] s.heap := hP
  have hD : va_D A [(a, .inr (12, [.null, .null, .null, .null, .null, .null, .null, .null, .int 0]))] := hD
  have hl := lv_entry ([.ref a]) (n := 1) (Nat.le_of_ble_eq_true rfl)
  rw [lg_entry_eq]
  generalize (lg_sl ([.ref a]) ++ List.replicate (1 - (lg_sl ([.ref a])).length) Slot.unset).toArray = ls at hl ⊢
  have hl : lv_has ls 1 [(0, .ref a)] := hl
  refine lv_aload_n hx hb dX9_init_0 rfl (lv_at hl 0 rfl) ?_
  refine W.objInit hx hb hown (hu _ mG_379) (hu _ mG_254) (hu _ mG_255) rfl (by rw [hml]; exact hl.1) rfl dX9_init_1 (Nat.le_of_ble_eq_true rfl) (Nat.le_of_ble_eq_true rfl) ?_
  refine W.eq (g2 := F0 m 4 ls []) rfl ?_
  refine lv_aload_n hx hb dX9_init_4 rfl (lv_at hl 0 rfl) ?_
  refine lv_sipush (v := 6200) hx hb dX9_init_5 (by decide) ?_
  refine va_newa (atype := .int) (N' := 6200) (a0 := (6200, .inl (fun _ => 0))) hx hb (hu _ mG_373) rfl hK hP hD hS hA (fun _ => rfl) (by decide +kernel) (by decide +kernel) (by decide +kernel) (Nat.le_of_ble_eq_true rfl) (Nat.le_of_ble_eq_true rfl) dX9_init_8 (fun q8 k8 H hK hP hD hS => ?_)
  have hP : va_P (dC, dI) vwCl [(a, .inr (12, [.null, .null, .null, .null, .null, .null, .null, .null, .int 0])), (q8, .inl (k8, 6200, .inl (fun _ => 0)))] H := hP
  have hD : va_D A [(a, .inr (12, [.null, .null, .null, .null, .null, .null, .null, .null, .int 0])), (q8, .inl (k8, 6200, .inl (fun _ => 0)))] := hD
  have hK : va_K (dC, dI) vwCl [(k8, .int)] s := hK
  refine va_putF (D := (dC, dI)) (ci := 12) (v := .ref q8) (ty := (tyX9 0)) (C := RX9) (T := TX9) (N := 9) hx hb hu iuX9 tyX9 tyX9_ok nmX9 hown hK hP hD hS 0 rfl rfl 0 (by decide) (hu _ mG_380) (fun _ h9 => h9) rfl hin rfl (by decide +kernel) (rfl) (rfl) (Nat.le_of_ble_eq_true rfl) dX9_init_10 (fun H locs hP hD hS => ?_)
  have hP : va_P (dC, dI) vwCl [(a, .inr (12, [.ref q8, .null, .null, .null, .null, .null, .null, .null, .int 0])), (q8, .inl (k8, 6200, .inl (fun _ => 0)))] H := hP
  have hD : va_D A [(a, .inr (12, [.ref q8, .null, .null, .null, .null, .null, .null, .null, .int 0])), (q8, .inl (k8, 6200, .inl (fun _ => 0)))] := hD
  refine lv_aload_n hx hb dX9_init_13 rfl (lv_at hl 0 rfl) ?_
  refine lv_sipush (v := 6200) hx hb dX9_init_14 (by decide) ?_
  refine va_newa (atype := .int) (N' := 6200) (a0 := (6200, .inl (fun _ => 0))) hx hb (hu _ mG_373) rfl hK hP hD hS hA (fun _ => rfl) (by decide +kernel) (by decide +kernel) (by decide +kernel) (Nat.le_of_ble_eq_true rfl) (Nat.le_of_ble_eq_true rfl) dX9_init_17 (fun q17 k17 H hK hP hD hS => ?_)
  have hP : va_P (dC, dI) vwCl [(a, .inr (12, [.ref q8, .null, .null, .null, .null, .null, .null, .null, .int 0])), (q8, .inl (k8, 6200, .inl (fun _ => 0))), (q17, .inl (k17, 6200, .inl (fun _ => 0)))] H := hP
  have hD : va_D A [(a, .inr (12, [.ref q8, .null, .null, .null, .null, .null, .null, .null, .int 0])), (q8, .inl (k8, 6200, .inl (fun _ => 0))), (q17, .inl (k17, 6200, .inl (fun _ => 0)))] := hD
  have hK : va_K (dC, dI) vwCl [(k8, .int), (k17, .int)] s := hK
  refine va_putF (D := (dC, dI)) (ci := 12) (v := .ref q17) (ty := (tyX9 1)) (C := RX9) (T := TX9) (N := 9) hx hb hu iuX9 tyX9 tyX9_ok nmX9 hown hK hP hD hS 0 rfl rfl 1 (by decide) (hu _ mG_385) (fun _ h9 => h9) rfl hin rfl (by decide +kernel) (rfl) (rfl) (Nat.le_of_ble_eq_true rfl) dX9_init_19 (fun H locs hP hD hS => ?_)
  have hP : va_P (dC, dI) vwCl [(a, .inr (12, [.ref q8, .ref q17, .null, .null, .null, .null, .null, .null, .int 0])), (q8, .inl (k8, 6200, .inl (fun _ => 0))), (q17, .inl (k17, 6200, .inl (fun _ => 0)))] H := hP
  have hD : va_D A [(a, .inr (12, [.ref q8, .ref q17, .null, .null, .null, .null, .null, .null, .int 0])), (q8, .inl (k8, 6200, .inl (fun _ => 0))), (q17, .inl (k17, 6200, .inl (fun _ => 0)))] := hD
  refine lv_aload_n hx hb dX9_init_22 rfl (lv_at hl 0 rfl) ?_
  refine lv_sipush (v := 6200) hx hb dX9_init_23 (by decide) ?_
  refine va_newa (atype := .int) (N' := 6200) (a0 := (6200, .inl (fun _ => 0))) hx hb (hu _ mG_373) rfl hK hP hD hS hA (fun _ => rfl) (by decide +kernel) (by decide +kernel) (by decide +kernel) (Nat.le_of_ble_eq_true rfl) (Nat.le_of_ble_eq_true rfl) dX9_init_26 (fun q26 k26 H hK hP hD hS => ?_)
  have hP : va_P (dC, dI) vwCl [(a, .inr (12, [.ref q8, .ref q17, .null, .null, .null, .null, .null, .null, .int 0])), (q8, .inl (k8, 6200, .inl (fun _ => 0))), (q17, .inl (k17, 6200, .inl (fun _ => 0))), (q26, .inl (k26, 6200, .inl (fun _ => 0)))] H := hP
  have hD : va_D A [(a, .inr (12, [.ref q8, .ref q17, .null, .null, .null, .null, .null, .null, .int 0])), (q8, .inl (k8, 6200, .inl (fun _ => 0))), (q17, .inl (k17, 6200, .inl (fun _ => 0))), (q26, .inl (k26, 6200, .inl (fun _ => 0)))] := hD
  have hK : va_K (dC, dI) vwCl [(k8, .int), (k17, .int), (k26, .int)] s := hK
  refine va_putF (D := (dC, dI)) (ci := 12) (v := .ref q26) (ty := (tyX9 2)) (C := RX9) (T := TX9) (N := 9) hx hb hu iuX9 tyX9 tyX9_ok nmX9 hown hK hP hD hS 0 rfl rfl 2 (by decide) (hu _ mG_390) (fun _ h9 => h9) rfl hin rfl (by decide +kernel) (rfl) (rfl) (Nat.le_of_ble_eq_true rfl) dX9_init_28 (fun H locs hP hD hS => ?_)
  have hP : va_P (dC, dI) vwCl [(a, .inr (12, [.ref q8, .ref q17, .ref q26, .null, .null, .null, .null, .null, .int 0])), (q8, .inl (k8, 6200, .inl (fun _ => 0))), (q17, .inl (k17, 6200, .inl (fun _ => 0))), (q26, .inl (k26, 6200, .inl (fun _ => 0)))] H := hP
  have hD : va_D A [(a, .inr (12, [.ref q8, .ref q17, .ref q26, .null, .null, .null, .null, .null, .int 0])), (q8, .inl (k8, 6200, .inl (fun _ => 0))), (q17, .inl (k17, 6200, .inl (fun _ => 0))), (q26, .inl (k26, 6200, .inl (fun _ => 0)))] := hD
  refine lv_aload_n hx hb dX9_init_31 rfl (lv_at hl 0 rfl) ?_
  refine lv_sipush (v := 6200) hx hb dX9_init_32 (by decide) ?_
  refine va_newa (atype := .int) (N' := 6200) (a0 := (6200, .inl (fun _ => 0))) hx hb (hu _ mG_373) rfl hK hP hD hS hA (fun _ => rfl) (by decide +kernel) (by decide +kernel) (by decide +kernel) (Nat.le_of_ble_eq_true rfl) (Nat.le_of_ble_eq_true rfl) dX9_init_35 (fun q35 k35 H hK hP hD hS => ?_)
  have hP : va_P (dC, dI) vwCl [(a, .inr (12, [.ref q8, .ref q17, .ref q26, .null, .null, .null, .null, .null, .int 0])), (q8, .inl (k8, 6200, .inl (fun _ => 0))), (q17, .inl (k17, 6200, .inl (fun _ => 0))), (q26, .inl (k26, 6200, .inl (fun _ => 0))), (q35, .inl (k35, 6200, .inl (fun _ => 0)))] H := hP
  have hD : va_D A [(a, .inr (12, [.ref q8, .ref q17, .ref q26, .null, .null, .null, .null, .null, .int 0])), (q8, .inl (k8, 6200, .inl (fun _ => 0))), (q17, .inl (k17, 6200, .inl (fun _ => 0))), (q26, .inl (k26, 6200, .inl (fun _ => 0))), (q35, .inl (k35, 6200, .inl (fun _ => 0)))] := hD
  have hK : va_K (dC, dI) vwCl [(k8, .int), (k17, .int), (k26, .int), (k35, .int)] s := hK
  refine va_putF (D := (dC, dI)) (ci := 12) (v := .ref q35) (ty := (tyX9 3)) (C := RX9) (T := TX9) (N := 9) hx hb hu iuX9 tyX9 tyX9_ok nmX9 hown hK hP hD hS 0 rfl rfl 3 (by decide) (hu _ mG_395) (fun _ h9 => h9) rfl hin rfl (by decide +kernel) (rfl) (rfl) (Nat.le_of_ble_eq_true rfl) dX9_init_37 (fun H locs hP hD hS => ?_)
  have hP : va_P (dC, dI) vwCl [(a, .inr (12, [.ref q8, .ref q17, .ref q26, .ref q35, .null, .null, .null, .null, .int 0])), (q8, .inl (k8, 6200, .inl (fun _ => 0))), (q17, .inl (k17, 6200, .inl (fun _ => 0))), (q26, .inl (k26, 6200, .inl (fun _ => 0))), (q35, .inl (k35, 6200, .inl (fun _ => 0)))] H := hP
  have hD : va_D A [(a, .inr (12, [.ref q8, .ref q17, .ref q26, .ref q35, .null, .null, .null, .null, .int 0])), (q8, .inl (k8, 6200, .inl (fun _ => 0))), (q17, .inl (k17, 6200, .inl (fun _ => 0))), (q26, .inl (k26, 6200, .inl (fun _ => 0))), (q35, .inl (k35, 6200, .inl (fun _ => 0)))] := hD
  refine lv_aload_n hx hb dX9_init_40 rfl (lv_at hl 0 rfl) ?_
  refine lv_sipush (v := 6200) hx hb dX9_init_41 (by decide) ?_
  refine va_newa (atype := .int) (N' := 6200) (a0 := (6200, .inl (fun _ => 0))) hx hb (hu _ mG_373) rfl hK hP hD hS hA (fun _ => rfl) (by decide +kernel) (by decide +kernel) (by decide +kernel) (Nat.le_of_ble_eq_true rfl) (Nat.le_of_ble_eq_true rfl) dX9_init_44 (fun q44 k44 H hK hP hD hS => ?_)
  have hP : va_P (dC, dI) vwCl [(a, .inr (12, [.ref q8, .ref q17, .ref q26, .ref q35, .null, .null, .null, .null, .int 0])), (q8, .inl (k8, 6200, .inl (fun _ => 0))), (q17, .inl (k17, 6200, .inl (fun _ => 0))), (q26, .inl (k26, 6200, .inl (fun _ => 0))), (q35, .inl (k35, 6200, .inl (fun _ => 0))), (q44, .inl (k44, 6200, .inl (fun _ => 0)))] H := hP
  have hD : va_D A [(a, .inr (12, [.ref q8, .ref q17, .ref q26, .ref q35, .null, .null, .null, .null, .int 0])), (q8, .inl (k8, 6200, .inl (fun _ => 0))), (q17, .inl (k17, 6200, .inl (fun _ => 0))), (q26, .inl (k26, 6200, .inl (fun _ => 0))), (q35, .inl (k35, 6200, .inl (fun _ => 0))), (q44, .inl (k44, 6200, .inl (fun _ => 0)))] := hD
  have hK : va_K (dC, dI) vwCl [(k8, .int), (k17, .int), (k26, .int), (k35, .int), (k44, .int)] s := hK
  refine va_putF (D := (dC, dI)) (ci := 12) (v := .ref q44) (ty := (tyX9 4)) (C := RX9) (T := TX9) (N := 9) hx hb hu iuX9 tyX9 tyX9_ok nmX9 hown hK hP hD hS 0 rfl rfl 4 (by decide) (hu _ mG_400) (fun _ h9 => h9) rfl hin rfl (by decide +kernel) (rfl) (rfl) (Nat.le_of_ble_eq_true rfl) dX9_init_46 (fun H locs hP hD hS => ?_)
  have hP : va_P (dC, dI) vwCl [(a, .inr (12, [.ref q8, .ref q17, .ref q26, .ref q35, .ref q44, .null, .null, .null, .int 0])), (q8, .inl (k8, 6200, .inl (fun _ => 0))), (q17, .inl (k17, 6200, .inl (fun _ => 0))), (q26, .inl (k26, 6200, .inl (fun _ => 0))), (q35, .inl (k35, 6200, .inl (fun _ => 0))), (q44, .inl (k44, 6200, .inl (fun _ => 0)))] H := hP
  have hD : va_D A [(a, .inr (12, [.ref q8, .ref q17, .ref q26, .ref q35, .ref q44, .null, .null, .null, .int 0])), (q8, .inl (k8, 6200, .inl (fun _ => 0))), (q17, .inl (k17, 6200, .inl (fun _ => 0))), (q26, .inl (k26, 6200, .inl (fun _ => 0))), (q35, .inl (k35, 6200, .inl (fun _ => 0))), (q44, .inl (k44, 6200, .inl (fun _ => 0)))] := hD
  refine lv_aload_n hx hb dX9_init_49 rfl (lv_at hl 0 rfl) ?_
  refine lv_sipush (v := 6200) hx hb dX9_init_50 (by decide) ?_
  refine va_newa (atype := .int) (N' := 6200) (a0 := (6200, .inl (fun _ => 0))) hx hb (hu _ mG_373) rfl hK hP hD hS hA (fun _ => rfl) (by decide +kernel) (by decide +kernel) (by decide +kernel) (Nat.le_of_ble_eq_true rfl) (Nat.le_of_ble_eq_true rfl) dX9_init_53 (fun q53 k53 H hK hP hD hS => ?_)
  have hP : va_P (dC, dI) vwCl [(a, .inr (12, [.ref q8, .ref q17, .ref q26, .ref q35, .ref q44, .null, .null, .null, .int 0])), (q8, .inl (k8, 6200, .inl (fun _ => 0))), (q17, .inl (k17, 6200, .inl (fun _ => 0))), (q26, .inl (k26, 6200, .inl (fun _ => 0))), (q35, .inl (k35, 6200, .inl (fun _ => 0))), (q44, .inl (k44, 6200, .inl (fun _ => 0))), (q53, .inl (k53, 6200, .inl (fun _ => 0)))] H := hP
  have hD : va_D A [(a, .inr (12, [.ref q8, .ref q17, .ref q26, .ref q35, .ref q44, .null, .null, .null, .int 0])), (q8, .inl (k8, 6200, .inl (fun _ => 0))), (q17, .inl (k17, 6200, .inl (fun _ => 0))), (q26, .inl (k26, 6200, .inl (fun _ => 0))), (q35, .inl (k35, 6200, .inl (fun _ => 0))), (q44, .inl (k44, 6200, .inl (fun _ => 0))), (q53, .inl (k53, 6200, .inl (fun _ => 0)))] := hD
  have hK : va_K (dC, dI) vwCl [(k8, .int), (k17, .int), (k26, .int), (k35, .int), (k44, .int), (k53, .int)] s := hK
  refine va_putF (D := (dC, dI)) (ci := 12) (v := .ref q53) (ty := (tyX9 5)) (C := RX9) (T := TX9) (N := 9) hx hb hu iuX9 tyX9 tyX9_ok nmX9 hown hK hP hD hS 0 rfl rfl 5 (by decide) (hu _ mG_406) (fun _ h9 => h9) rfl hin rfl (by decide +kernel) (rfl) (rfl) (Nat.le_of_ble_eq_true rfl) dX9_init_55 (fun H locs hP hD hS => ?_)
  have hP : va_P (dC, dI) vwCl [(a, .inr (12, [.ref q8, .ref q17, .ref q26, .ref q35, .ref q44, .ref q53, .null, .null, .int 0])), (q8, .inl (k8, 6200, .inl (fun _ => 0))), (q17, .inl (k17, 6200, .inl (fun _ => 0))), (q26, .inl (k26, 6200, .inl (fun _ => 0))), (q35, .inl (k35, 6200, .inl (fun _ => 0))), (q44, .inl (k44, 6200, .inl (fun _ => 0))), (q53, .inl (k53, 6200, .inl (fun _ => 0)))] H := hP
  have hD : va_D A [(a, .inr (12, [.ref q8, .ref q17, .ref q26, .ref q35, .ref q44, .ref q53, .null, .null, .int 0])), (q8, .inl (k8, 6200, .inl (fun _ => 0))), (q17, .inl (k17, 6200, .inl (fun _ => 0))), (q26, .inl (k26, 6200, .inl (fun _ => 0))), (q35, .inl (k35, 6200, .inl (fun _ => 0))), (q44, .inl (k44, 6200, .inl (fun _ => 0))), (q53, .inl (k53, 6200, .inl (fun _ => 0)))] := hD
  refine lv_aload_n hx hb dX9_init_58 rfl (lv_at hl 0 rfl) ?_
  refine lv_sipush (v := 6200) hx hb dX9_init_59 (by decide) ?_
  refine va_newa (atype := .int) (N' := 6200) (a0 := (6200, .inl (fun _ => 0))) hx hb (hu _ mG_373) rfl hK hP hD hS hA (fun _ => rfl) (by decide +kernel) (by decide +kernel) (by decide +kernel) (Nat.le_of_ble_eq_true rfl) (Nat.le_of_ble_eq_true rfl) dX9_init_62 (fun q62 k62 H hK hP hD hS => ?_)
  have hP : va_P (dC, dI) vwCl [(a, .inr (12, [.ref q8, .ref q17, .ref q26, .ref q35, .ref q44, .ref q53, .null, .null, .int 0])), (q8, .inl (k8, 6200, .inl (fun _ => 0))), (q17, .inl (k17, 6200, .inl (fun _ => 0))), (q26, .inl (k26, 6200, .inl (fun _ => 0))), (q35, .inl (k35, 6200, .inl (fun _ => 0))), (q44, .inl (k44, 6200, .inl (fun _ => 0))), (q53, .inl (k53, 6200, .inl (fun _ => 0))), (q62, .inl (k62, 6200, .inl (fun _ => 0)))] H := hP
  have hD : va_D A [(a, .inr (12, [.ref q8, .ref q17, .ref q26, .ref q35, .ref q44, .ref q53, .null, .null, .int 0])), (q8, .inl (k8, 6200, .inl (fun _ => 0))), (q17, .inl (k17, 6200, .inl (fun _ => 0))), (q26, .inl (k26, 6200, .inl (fun _ => 0))), (q35, .inl (k35, 6200, .inl (fun _ => 0))), (q44, .inl (k44, 6200, .inl (fun _ => 0))), (q53, .inl (k53, 6200, .inl (fun _ => 0))), (q62, .inl (k62, 6200, .inl (fun _ => 0)))] := hD
  have hK : va_K (dC, dI) vwCl [(k8, .int), (k17, .int), (k26, .int), (k35, .int), (k44, .int), (k53, .int), (k62, .int)] s := hK
  refine va_putF (D := (dC, dI)) (ci := 12) (v := .ref q62) (ty := (tyX9 6)) (C := RX9) (T := TX9) (N := 9) hx hb hu iuX9 tyX9 tyX9_ok nmX9 hown hK hP hD hS 0 rfl rfl 6 (by decide) (hu _ mG_408) (fun _ h9 => h9) rfl hin rfl (by decide +kernel) (rfl) (rfl) (Nat.le_of_ble_eq_true rfl) dX9_init_64 (fun H locs hP hD hS => ?_)
  have hP : va_P (dC, dI) vwCl [(a, .inr (12, [.ref q8, .ref q17, .ref q26, .ref q35, .ref q44, .ref q53, .ref q62, .null, .int 0])), (q8, .inl (k8, 6200, .inl (fun _ => 0))), (q17, .inl (k17, 6200, .inl (fun _ => 0))), (q26, .inl (k26, 6200, .inl (fun _ => 0))), (q35, .inl (k35, 6200, .inl (fun _ => 0))), (q44, .inl (k44, 6200, .inl (fun _ => 0))), (q53, .inl (k53, 6200, .inl (fun _ => 0))), (q62, .inl (k62, 6200, .inl (fun _ => 0)))] H := hP
  have hD : va_D A [(a, .inr (12, [.ref q8, .ref q17, .ref q26, .ref q35, .ref q44, .ref q53, .ref q62, .null, .int 0])), (q8, .inl (k8, 6200, .inl (fun _ => 0))), (q17, .inl (k17, 6200, .inl (fun _ => 0))), (q26, .inl (k26, 6200, .inl (fun _ => 0))), (q35, .inl (k35, 6200, .inl (fun _ => 0))), (q44, .inl (k44, 6200, .inl (fun _ => 0))), (q53, .inl (k53, 6200, .inl (fun _ => 0))), (q62, .inl (k62, 6200, .inl (fun _ => 0)))] := hD
  refine lv_aload_n hx hb dX9_init_67 rfl (lv_at hl 0 rfl) ?_
  refine lv_sipush (v := 6200) hx hb dX9_init_68 (by decide) ?_
  refine va_newa (atype := .long) (N' := 6200) (a0 := (6200, .inr (.inl (fun _ => 0)))) hx hb (hu _ mG_372) rfl hK hP hD hS hA (fun _ => rfl) (by decide +kernel) (by decide +kernel) (by decide +kernel) (Nat.le_of_ble_eq_true rfl) (Nat.le_of_ble_eq_true rfl) dX9_init_71 (fun q71 k71 H hK hP hD hS => ?_)
  have hP : va_P (dC, dI) vwCl [(a, .inr (12, [.ref q8, .ref q17, .ref q26, .ref q35, .ref q44, .ref q53, .ref q62, .null, .int 0])), (q8, .inl (k8, 6200, .inl (fun _ => 0))), (q17, .inl (k17, 6200, .inl (fun _ => 0))), (q26, .inl (k26, 6200, .inl (fun _ => 0))), (q35, .inl (k35, 6200, .inl (fun _ => 0))), (q44, .inl (k44, 6200, .inl (fun _ => 0))), (q53, .inl (k53, 6200, .inl (fun _ => 0))), (q62, .inl (k62, 6200, .inl (fun _ => 0))), (q71, .inl (k71, 6200, .inr (.inl (fun _ => 0))))] H := hP
  have hD : va_D A [(a, .inr (12, [.ref q8, .ref q17, .ref q26, .ref q35, .ref q44, .ref q53, .ref q62, .null, .int 0])), (q8, .inl (k8, 6200, .inl (fun _ => 0))), (q17, .inl (k17, 6200, .inl (fun _ => 0))), (q26, .inl (k26, 6200, .inl (fun _ => 0))), (q35, .inl (k35, 6200, .inl (fun _ => 0))), (q44, .inl (k44, 6200, .inl (fun _ => 0))), (q53, .inl (k53, 6200, .inl (fun _ => 0))), (q62, .inl (k62, 6200, .inl (fun _ => 0))), (q71, .inl (k71, 6200, .inr (.inl (fun _ => 0))))] := hD
  have hK : va_K (dC, dI) vwCl [(k8, .int), (k17, .int), (k26, .int), (k35, .int), (k44, .int), (k53, .int), (k62, .int), (k71, .long)] s := hK
  refine va_putF (D := (dC, dI)) (ci := 12) (v := .ref q71) (ty := (tyX9 7)) (C := RX9) (T := TX9) (N := 9) hx hb hu iuX9 tyX9 tyX9_ok nmX9 hown hK hP hD hS 0 rfl rfl 7 (by decide) (hu _ mG_410) (fun _ h9 => h9) rfl hin rfl (by decide +kernel) (rfl) (rfl) (Nat.le_of_ble_eq_true rfl) dX9_init_73 (fun H locs hP hD hS => ?_)
  have hP : va_P (dC, dI) vwCl [(a, .inr (12, [.ref q8, .ref q17, .ref q26, .ref q35, .ref q44, .ref q53, .ref q62, .ref q71, .int 0])), (q8, .inl (k8, 6200, .inl (fun _ => 0))), (q17, .inl (k17, 6200, .inl (fun _ => 0))), (q26, .inl (k26, 6200, .inl (fun _ => 0))), (q35, .inl (k35, 6200, .inl (fun _ => 0))), (q44, .inl (k44, 6200, .inl (fun _ => 0))), (q53, .inl (k53, 6200, .inl (fun _ => 0))), (q62, .inl (k62, 6200, .inl (fun _ => 0))), (q71, .inl (k71, 6200, .inr (.inl (fun _ => 0))))] H := hP
  have hD : va_D A [(a, .inr (12, [.ref q8, .ref q17, .ref q26, .ref q35, .ref q44, .ref q53, .ref q62, .ref q71, .int 0])), (q8, .inl (k8, 6200, .inl (fun _ => 0))), (q17, .inl (k17, 6200, .inl (fun _ => 0))), (q26, .inl (k26, 6200, .inl (fun _ => 0))), (q35, .inl (k35, 6200, .inl (fun _ => 0))), (q44, .inl (k44, 6200, .inl (fun _ => 0))), (q53, .inl (k53, 6200, .inl (fun _ => 0))), (q62, .inl (k62, 6200, .inl (fun _ => 0))), (q71, .inl (k71, 6200, .inr (.inl (fun _ => 0))))] := hD
  refine W.widen (k := 8) (n := 49600) (by omega) (by omega) ?_
  exact W.vret hx hb hr (fun t ht hW => ⟨⟨(fun i => if i = 0 then q8 else if i = 1 then q17 else if i = 2 then q26 else if i = 3 then q35 else if i = 4 then q44 else if i = 5 then q53 else if i = 6 then q62 else if i = 7 then q71 else 0, fun i => if i = 0 then k8 else if i = 1 then k17 else if i = 2 then k26 else if i = 3 then k35 else if i = 4 then k44 else if i = 5 then k53 else if i = 6 then k62 else if i = 7 then k71 else k8), rfl, trivial, by rw [ht]; exact hP, va_K.moved hW.alike hK, hD⟩, hS.F ht⟩) hS.2.2 dX9_init_76
set_option maxHeartbeats 4000000 in
set_option maxRecDepth 100000 in
/-- Program() -/
theorem kX4_init (l : Launch) (dC : Nat → ClassId) (dI : Nat → Nat → Nat) (sz : Nat) (a : Nat)  : Met l yX4_init (Cond.code yX4_init cX4_init 1 none :: uG) ({ frames := 1, cells := 13, slots := (10800), locals := 12 }) (va_Pc [.ref a] (fun U => U.heap.size = sz ∧ va_P (dC, dI) vwCl [(a, .inr (7, [.null, .null, .int 0, .null, .int 0, .int 0, .int 0, .null, .null, .null, .null, .null, .null, .null, .null, .null, .null]))] U.heap ∧ va_K (dC, dI) vwCl [] U ∧ va_D (fun _ => True) [(a, .inr (7, [.null, .null, .int 0, .null, .int 0, .int 0, .int 0, .null, .null, .null, .null, .null, .null, .null, .null, .null, .null]))])) (va_Qv (S := (Nat → Nat) × (Nat → ClassId)) (fun _ => True) (fun u t => va_P (dC, dI) vwCl [(a, .inr (7, [.ref (u.1 0), .ref (u.1 1), .int 0, .ref (u.1 2), .int 0, .int 0, .int 0, .ref (u.1 3), .ref (u.1 4), .ref (u.1 5), .ref (u.1 6), .ref (u.1 7), .ref (u.1 8), .ref (u.1 9), .ref (u.1 10), .ref (u.1 11), .ref (u.1 12)])), ((u.1 0), .inl ((u.2 0), 30, .inr (.inl (fun _ => 0)))), ((u.1 1), .inl ((u.2 1), 30, .inl (fun _ => 0))), ((u.1 2), .inl ((u.2 2), 30, .inr (.inl (fun _ => 0)))), ((u.1 3), .inl ((u.2 3), 630, .inl (fun _ => 0))), ((u.1 4), .inl ((u.2 4), 630, .inl (fun _ => 0))), ((u.1 5), .inl ((u.2 5), 5040, .inl (fun _ => 0))), ((u.1 6), .inl ((u.2 6), 630, .inl (fun _ => 0))), ((u.1 7), .inl ((u.2 7), 630, .inl (fun _ => 0))), ((u.1 8), .inl ((u.2 8), 630, .inl (fun _ => 0))), ((u.1 9), .inl ((u.2 9), 630, .inl (fun _ => 0))), ((u.1 10), .inl ((u.2 10), 630, .inl (fun _ => 0))), ((u.1 11), .inl ((u.2 11), 630, .inl (fun _ => 0))), ((u.1 12), .inl ((u.2 12), 630, .inl (fun _ => 0)))] t.heap ∧ va_K (dC, dI) vwCl [((u.2 0), .long), ((u.2 1), .int), ((u.2 2), .long), ((u.2 3), .int), ((u.2 4), .int), ((u.2 5), .int), ((u.2 6), .int), ((u.2 7), .int), ((u.2 8), .int), ((u.2 9), .int), ((u.2 10), .int), ((u.2 11), .int), ((u.2 12), .int)] t ∧ va_D (va_A [(a, .inr (7, [.null, .null, .int 0, .null, .int 0, .int 0, .int 0, .null, .null, .null, .null, .null, .null, .null, .null, .null, .null]))] sz) [(a, .inr (7, [.ref (u.1 0), .ref (u.1 1), .int 0, .ref (u.1 2), .int 0, .int 0, .int 0, .ref (u.1 3), .ref (u.1 4), .ref (u.1 5), .ref (u.1 6), .ref (u.1 7), .ref (u.1 8), .ref (u.1 9), .ref (u.1 10), .ref (u.1 11), .ref (u.1 12)])), ((u.1 0), .inl ((u.2 0), 30, .inr (.inl (fun _ => 0)))), ((u.1 1), .inl ((u.2 1), 30, .inl (fun _ => 0))), ((u.1 2), .inl ((u.2 2), 30, .inr (.inl (fun _ => 0)))), ((u.1 3), .inl ((u.2 3), 630, .inl (fun _ => 0))), ((u.1 4), .inl ((u.2 4), 630, .inl (fun _ => 0))), ((u.1 5), .inl ((u.2 5), 5040, .inl (fun _ => 0))), ((u.1 6), .inl ((u.2 6), 630, .inl (fun _ => 0))), ((u.1 7), .inl ((u.2 7), 630, .inl (fun _ => 0))), ((u.1 8), .inl ((u.2 8), 630, .inl (fun _ => 0))), ((u.1 9), .inl ((u.2 9), 630, .inl (fun _ => 0))), ((u.1 10), .inl ((u.2 10), 630, .inl (fun _ => 0))), ((u.1 11), .inl ((u.2 11), 630, .inl (fun _ => 0))), ((u.1 12), .inl ((u.2 12), 630, .inl (fun _ => 0)))]) (va_A [(a, .inr (7, [.null, .null, .int 0, .null, .int 0, .int 0, .int 0, .null, .null, .null, .null, .null, .null, .null, .null, .null, .null]))] sz)) 13 (10800) (va_A [(a, .inr (7, [.null, .null, .int 0, .null, .int 0, .int 0, .int 0, .null, .null, .null, .null, .null, .null, .null, .null, .null, .null]))] sz) := by
  refine Met.ofW (cc := cX4_init) (maxL := 1) (ret := none) (by decide) rfl ?_
  intro p e s m args below meth c s₁ B hml hv
  obtain ⟨rfl, hsz, hP, hK, hD0⟩ := hv
  have hx := B.exec
  have hb := B.bytes
  have hr := B.returns
  have hts := atoms_spec (ws := Cond.code yX4_init cX4_init 1 none :: uG) B.pre
  have hu := fun (w : Cond) (h : w ∈ uG) => hts w (List.mem_cons_of_mem _ h)
  have hown : s.vm.findClass RX4 = some m.cls := findClass_of_methodNamed B.named
  have hlocks := B.notSynchronized
  have hin : meth.name = "<init>" := (name_of_methodNamed B.named B.method).1
  subst hsz
  have hD := hD0.self (sz := s.heap.size)
  generalize hAe : va_A [(a, .inr (7, [.null, .null, .int 0, .null, .int 0, .int 0, .int 0, .null, .null, .null, .null, .null, .null, .null, .null, .null, .null]))] s.heap.size = A at hD ⊢
  have hA : ∀ q : Nat, s.heap.size ≤ q → A q := fun q h => by rw [← hAe]; exact Or.inr h
  have hS : va_S A s.heap s.heap [] := va_S.rf
  have hP : va_P (dC, dI) vwCl [(a, .inr (7, [.null, .null, .int 0, .null, .int 0, .int 0, .int 0, .null, .null, .null, .null, .null, .null, .null, .null, .null, .null]))] s.heap := hP
  have hD : va_D A [(a, .inr (7, [.null, .null, .int 0, .null, .int 0, .int 0, .int 0, .null, .null, .null, .null, .null, .null, .null, .null, .null, .null]))] := hD
  have hl := lv_entry ([.ref a]) (n := 1) (Nat.le_of_ble_eq_true rfl)
  rw [lg_entry_eq]
  generalize (lg_sl ([.ref a]) ++ List.replicate (1 - (lg_sl ([.ref a])).length) Slot.unset).toArray = ls at hl ⊢
  have hl : lv_has ls 1 [(0, .ref a)] := hl
  refine lv_aload_n hx hb dX4_init_0 rfl (lv_at hl 0 rfl) ?_
  refine W.objInit hx hb hown (hu _ mG_281) (hu _ mG_254) (hu _ mG_255) rfl (by rw [hml]; exact hl.1) rfl dX4_init_1 (Nat.le_of_ble_eq_true rfl) (Nat.le_of_ble_eq_true rfl) ?_
  refine W.eq (g2 := F0 m 4 ls []) rfl ?_
  refine lv_aload_n hx hb dX4_init_4 rfl (lv_at hl 0 rfl) ?_
  refine lv_bipush (v := 30) hx hb dX4_init_5 (by decide) ?_
  refine va_newa (atype := .long) (N' := 30) (a0 := (30, .inr (.inl (fun _ => 0)))) hx hb (hu _ mG_372) rfl hK hP hD hS hA (fun _ => rfl) (by decide +kernel) (by decide +kernel) (by decide +kernel) (Nat.le_of_ble_eq_true rfl) (Nat.le_of_ble_eq_true rfl) dX4_init_7 (fun q7 k7 H hK hP hD hS => ?_)
  have hP : va_P (dC, dI) vwCl [(a, .inr (7, [.null, .null, .int 0, .null, .int 0, .int 0, .int 0, .null, .null, .null, .null, .null, .null, .null, .null, .null, .null])), (q7, .inl (k7, 30, .inr (.inl (fun _ => 0))))] H := hP
  have hD : va_D A [(a, .inr (7, [.null, .null, .int 0, .null, .int 0, .int 0, .int 0, .null, .null, .null, .null, .null, .null, .null, .null, .null, .null])), (q7, .inl (k7, 30, .inr (.inl (fun _ => 0))))] := hD
  have hK : va_K (dC, dI) vwCl [(k7, .long)] s := hK
  refine va_putF (D := (dC, dI)) (ci := 7) (v := .ref q7) (ty := (tyX4 0)) (C := RX4) (T := TX4) (N := 17) hx hb hu iuX4 tyX4 tyX4_ok nmX4 hown hK hP hD hS 0 rfl rfl 0 (by decide) (hu _ mG_282) (fun _ h9 => h9) rfl hin rfl (by decide +kernel) (rfl) (rfl) (Nat.le_of_ble_eq_true rfl) dX4_init_9 (fun H locs hP hD hS => ?_)
  have hP : va_P (dC, dI) vwCl [(a, .inr (7, [.ref q7, .null, .int 0, .null, .int 0, .int 0, .int 0, .null, .null, .null, .null, .null, .null, .null, .null, .null, .null])), (q7, .inl (k7, 30, .inr (.inl (fun _ => 0))))] H := hP
  have hD : va_D A [(a, .inr (7, [.ref q7, .null, .int 0, .null, .int 0, .int 0, .int 0, .null, .null, .null, .null, .null, .null, .null, .null, .null, .null])), (q7, .inl (k7, 30, .inr (.inl (fun _ => 0))))] := hD
  refine lv_aload_n hx hb dX4_init_12 rfl (lv_at hl 0 rfl) ?_
  refine lv_bipush (v := 30) hx hb dX4_init_13 (by decide) ?_
  refine va_newa (atype := .int) (N' := 30) (a0 := (30, .inl (fun _ => 0))) hx hb (hu _ mG_373) rfl hK hP hD hS hA (fun _ => rfl) (by decide +kernel) (by decide +kernel) (by decide +kernel) (Nat.le_of_ble_eq_true rfl) (Nat.le_of_ble_eq_true rfl) dX4_init_15 (fun q15 k15 H hK hP hD hS => ?_)
  have hP : va_P (dC, dI) vwCl [(a, .inr (7, [.ref q7, .null, .int 0, .null, .int 0, .int 0, .int 0, .null, .null, .null, .null, .null, .null, .null, .null, .null, .null])), (q7, .inl (k7, 30, .inr (.inl (fun _ => 0)))), (q15, .inl (k15, 30, .inl (fun _ => 0)))] H := hP
  have hD : va_D A [(a, .inr (7, [.ref q7, .null, .int 0, .null, .int 0, .int 0, .int 0, .null, .null, .null, .null, .null, .null, .null, .null, .null, .null])), (q7, .inl (k7, 30, .inr (.inl (fun _ => 0)))), (q15, .inl (k15, 30, .inl (fun _ => 0)))] := hD
  have hK : va_K (dC, dI) vwCl [(k7, .long), (k15, .int)] s := hK
  refine va_putF (D := (dC, dI)) (ci := 7) (v := .ref q15) (ty := (tyX4 1)) (C := RX4) (T := TX4) (N := 17) hx hb hu iuX4 tyX4 tyX4_ok nmX4 hown hK hP hD hS 0 rfl rfl 1 (by decide) (hu _ mG_284) (fun _ h9 => h9) rfl hin rfl (by decide +kernel) (rfl) (rfl) (Nat.le_of_ble_eq_true rfl) dX4_init_17 (fun H locs hP hD hS => ?_)
  have hP : va_P (dC, dI) vwCl [(a, .inr (7, [.ref q7, .ref q15, .int 0, .null, .int 0, .int 0, .int 0, .null, .null, .null, .null, .null, .null, .null, .null, .null, .null])), (q7, .inl (k7, 30, .inr (.inl (fun _ => 0)))), (q15, .inl (k15, 30, .inl (fun _ => 0)))] H := hP
  have hD : va_D A [(a, .inr (7, [.ref q7, .ref q15, .int 0, .null, .int 0, .int 0, .int 0, .null, .null, .null, .null, .null, .null, .null, .null, .null, .null])), (q7, .inl (k7, 30, .inr (.inl (fun _ => 0)))), (q15, .inl (k15, 30, .inl (fun _ => 0)))] := hD
  refine lv_aload_n hx hb dX4_init_20 rfl (lv_at hl 0 rfl) ?_
  refine lv_bipush (v := 30) hx hb dX4_init_21 (by decide) ?_
  refine va_newa (atype := .long) (N' := 30) (a0 := (30, .inr (.inl (fun _ => 0)))) hx hb (hu _ mG_372) rfl hK hP hD hS hA (fun _ => rfl) (by decide +kernel) (by decide +kernel) (by decide +kernel) (Nat.le_of_ble_eq_true rfl) (Nat.le_of_ble_eq_true rfl) dX4_init_23 (fun q23 k23 H hK hP hD hS => ?_)
  have hP : va_P (dC, dI) vwCl [(a, .inr (7, [.ref q7, .ref q15, .int 0, .null, .int 0, .int 0, .int 0, .null, .null, .null, .null, .null, .null, .null, .null, .null, .null])), (q7, .inl (k7, 30, .inr (.inl (fun _ => 0)))), (q15, .inl (k15, 30, .inl (fun _ => 0))), (q23, .inl (k23, 30, .inr (.inl (fun _ => 0))))] H := hP
  have hD : va_D A [(a, .inr (7, [.ref q7, .ref q15, .int 0, .null, .int 0, .int 0, .int 0, .null, .null, .null, .null, .null, .null, .null, .null, .null, .null])), (q7, .inl (k7, 30, .inr (.inl (fun _ => 0)))), (q15, .inl (k15, 30, .inl (fun _ => 0))), (q23, .inl (k23, 30, .inr (.inl (fun _ => 0))))] := hD
  have hK : va_K (dC, dI) vwCl [(k7, .long), (k15, .int), (k23, .long)] s := hK
  refine va_putF (D := (dC, dI)) (ci := 7) (v := .ref q23) (ty := (tyX4 3)) (C := RX4) (T := TX4) (N := 17) hx hb hu iuX4 tyX4 tyX4_ok nmX4 hown hK hP hD hS 0 rfl rfl 3 (by decide) (hu _ mG_294) (fun _ h9 => h9) rfl hin rfl (by decide +kernel) (rfl) (rfl) (Nat.le_of_ble_eq_true rfl) dX4_init_25 (fun H locs hP hD hS => ?_)
  have hP : va_P (dC, dI) vwCl [(a, .inr (7, [.ref q7, .ref q15, .int 0, .ref q23, .int 0, .int 0, .int 0, .null, .null, .null, .null, .null, .null, .null, .null, .null, .null])), (q7, .inl (k7, 30, .inr (.inl (fun _ => 0)))), (q15, .inl (k15, 30, .inl (fun _ => 0))), (q23, .inl (k23, 30, .inr (.inl (fun _ => 0))))] H := hP
  have hD : va_D A [(a, .inr (7, [.ref q7, .ref q15, .int 0, .ref q23, .int 0, .int 0, .int 0, .null, .null, .null, .null, .null, .null, .null, .null, .null, .null])), (q7, .inl (k7, 30, .inr (.inl (fun _ => 0)))), (q15, .inl (k15, 30, .inl (fun _ => 0))), (q23, .inl (k23, 30, .inr (.inl (fun _ => 0))))] := hD
  refine lv_aload_n hx hb dX4_init_28 rfl (lv_at hl 0 rfl) ?_
  refine lv_sipush (v := 630) hx hb dX4_init_29 (by decide) ?_
  refine va_newa (atype := .int) (N' := 630) (a0 := (630, .inl (fun _ => 0))) hx hb (hu _ mG_373) rfl hK hP hD hS hA (fun _ => rfl) (by decide +kernel) (by decide +kernel) (by decide +kernel) (Nat.le_of_ble_eq_true rfl) (Nat.le_of_ble_eq_true rfl) dX4_init_32 (fun q32 k32 H hK hP hD hS => ?_)
  have hP : va_P (dC, dI) vwCl [(a, .inr (7, [.ref q7, .ref q15, .int 0, .ref q23, .int 0, .int 0, .int 0, .null, .null, .null, .null, .null, .null, .null, .null, .null, .null])), (q7, .inl (k7, 30, .inr (.inl (fun _ => 0)))), (q15, .inl (k15, 30, .inl (fun _ => 0))), (q23, .inl (k23, 30, .inr (.inl (fun _ => 0)))), (q32, .inl (k32, 630, .inl (fun _ => 0)))] H := hP
  have hD : va_D A [(a, .inr (7, [.ref q7, .ref q15, .int 0, .ref q23, .int 0, .int 0, .int 0, .null, .null, .null, .null, .null, .null, .null, .null, .null, .null])), (q7, .inl (k7, 30, .inr (.inl (fun _ => 0)))), (q15, .inl (k15, 30, .inl (fun _ => 0))), (q23, .inl (k23, 30, .inr (.inl (fun _ => 0)))), (q32, .inl (k32, 630, .inl (fun _ => 0)))] := hD
  have hK : va_K (dC, dI) vwCl [(k7, .long), (k15, .int), (k23, .long), (k32, .int)] s := hK
  refine va_putF (D := (dC, dI)) (ci := 7) (v := .ref q32) (ty := (tyX4 7)) (C := RX4) (T := TX4) (N := 17) hx hb hu iuX4 tyX4 tyX4_ok nmX4 hown hK hP hD hS 0 rfl rfl 7 (by decide) (hu _ mG_308) (fun _ h9 => h9) rfl hin rfl (by decide +kernel) (rfl) (rfl) (Nat.le_of_ble_eq_true rfl) dX4_init_34 (fun H locs hP hD hS => ?_)
  have hP : va_P (dC, dI) vwCl [(a, .inr (7, [.ref q7, .ref q15, .int 0, .ref q23, .int 0, .int 0, .int 0, .ref q32, .null, .null, .null, .null, .null, .null, .null, .null, .null])), (q7, .inl (k7, 30, .inr (.inl (fun _ => 0)))), (q15, .inl (k15, 30, .inl (fun _ => 0))), (q23, .inl (k23, 30, .inr (.inl (fun _ => 0)))), (q32, .inl (k32, 630, .inl (fun _ => 0)))] H := hP
  have hD : va_D A [(a, .inr (7, [.ref q7, .ref q15, .int 0, .ref q23, .int 0, .int 0, .int 0, .ref q32, .null, .null, .null, .null, .null, .null, .null, .null, .null])), (q7, .inl (k7, 30, .inr (.inl (fun _ => 0)))), (q15, .inl (k15, 30, .inl (fun _ => 0))), (q23, .inl (k23, 30, .inr (.inl (fun _ => 0)))), (q32, .inl (k32, 630, .inl (fun _ => 0)))] := hD
  refine lv_aload_n hx hb dX4_init_37 rfl (lv_at hl 0 rfl) ?_
  refine lv_sipush (v := 630) hx hb dX4_init_38 (by decide) ?_
  refine va_newa (atype := .int) (N' := 630) (a0 := (630, .inl (fun _ => 0))) hx hb (hu _ mG_373) rfl hK hP hD hS hA (fun _ => rfl) (by decide +kernel) (by decide +kernel) (by decide +kernel) (Nat.le_of_ble_eq_true rfl) (Nat.le_of_ble_eq_true rfl) dX4_init_41 (fun q41 k41 H hK hP hD hS => ?_)
  have hP : va_P (dC, dI) vwCl [(a, .inr (7, [.ref q7, .ref q15, .int 0, .ref q23, .int 0, .int 0, .int 0, .ref q32, .null, .null, .null, .null, .null, .null, .null, .null, .null])), (q7, .inl (k7, 30, .inr (.inl (fun _ => 0)))), (q15, .inl (k15, 30, .inl (fun _ => 0))), (q23, .inl (k23, 30, .inr (.inl (fun _ => 0)))), (q32, .inl (k32, 630, .inl (fun _ => 0))), (q41, .inl (k41, 630, .inl (fun _ => 0)))] H := hP
  have hD : va_D A [(a, .inr (7, [.ref q7, .ref q15, .int 0, .ref q23, .int 0, .int 0, .int 0, .ref q32, .null, .null, .null, .null, .null, .null, .null, .null, .null])), (q7, .inl (k7, 30, .inr (.inl (fun _ => 0)))), (q15, .inl (k15, 30, .inl (fun _ => 0))), (q23, .inl (k23, 30, .inr (.inl (fun _ => 0)))), (q32, .inl (k32, 630, .inl (fun _ => 0))), (q41, .inl (k41, 630, .inl (fun _ => 0)))] := hD
  have hK : va_K (dC, dI) vwCl [(k7, .long), (k15, .int), (k23, .long), (k32, .int), (k41, .int)] s := hK
  refine va_putF (D := (dC, dI)) (ci := 7) (v := .ref q41) (ty := (tyX4 8)) (C := RX4) (T := TX4) (N := 17) hx hb hu iuX4 tyX4 tyX4_ok nmX4 hown hK hP hD hS 0 rfl rfl 8 (by decide) (hu _ mG_314) (fun _ h9 => h9) rfl hin rfl (by decide +kernel) (rfl) (rfl) (Nat.le_of_ble_eq_true rfl) dX4_init_43 (fun H locs hP hD hS => ?_)
  have hP : va_P (dC, dI) vwCl [(a, .inr (7, [.ref q7, .ref q15, .int 0, .ref q23, .int 0, .int 0, .int 0, .ref q32, .ref q41, .null, .null, .null, .null, .null, .null, .null, .null])), (q7, .inl (k7, 30, .inr (.inl (fun _ => 0)))), (q15, .inl (k15, 30, .inl (fun _ => 0))), (q23, .inl (k23, 30, .inr (.inl (fun _ => 0)))), (q32, .inl (k32, 630, .inl (fun _ => 0))), (q41, .inl (k41, 630, .inl (fun _ => 0)))] H := hP
  have hD : va_D A [(a, .inr (7, [.ref q7, .ref q15, .int 0, .ref q23, .int 0, .int 0, .int 0, .ref q32, .ref q41, .null, .null, .null, .null, .null, .null, .null, .null])), (q7, .inl (k7, 30, .inr (.inl (fun _ => 0)))), (q15, .inl (k15, 30, .inl (fun _ => 0))), (q23, .inl (k23, 30, .inr (.inl (fun _ => 0)))), (q32, .inl (k32, 630, .inl (fun _ => 0))), (q41, .inl (k41, 630, .inl (fun _ => 0)))] := hD
  refine lv_aload_n hx hb dX4_init_46 rfl (lv_at hl 0 rfl) ?_
  refine lv_sipush (v := 5040) hx hb dX4_init_47 (by decide) ?_
  refine va_newa (atype := .int) (N' := 5040) (a0 := (5040, .inl (fun _ => 0))) hx hb (hu _ mG_373) rfl hK hP hD hS hA (fun _ => rfl) (by decide +kernel) (by decide +kernel) (by decide +kernel) (Nat.le_of_ble_eq_true rfl) (Nat.le_of_ble_eq_true rfl) dX4_init_50 (fun q50 k50 H hK hP hD hS => ?_)
  have hP : va_P (dC, dI) vwCl [(a, .inr (7, [.ref q7, .ref q15, .int 0, .ref q23, .int 0, .int 0, .int 0, .ref q32, .ref q41, .null, .null, .null, .null, .null, .null, .null, .null])), (q7, .inl (k7, 30, .inr (.inl (fun _ => 0)))), (q15, .inl (k15, 30, .inl (fun _ => 0))), (q23, .inl (k23, 30, .inr (.inl (fun _ => 0)))), (q32, .inl (k32, 630, .inl (fun _ => 0))), (q41, .inl (k41, 630, .inl (fun _ => 0))), (q50, .inl (k50, 5040, .inl (fun _ => 0)))] H := hP
  have hD : va_D A [(a, .inr (7, [.ref q7, .ref q15, .int 0, .ref q23, .int 0, .int 0, .int 0, .ref q32, .ref q41, .null, .null, .null, .null, .null, .null, .null, .null])), (q7, .inl (k7, 30, .inr (.inl (fun _ => 0)))), (q15, .inl (k15, 30, .inl (fun _ => 0))), (q23, .inl (k23, 30, .inr (.inl (fun _ => 0)))), (q32, .inl (k32, 630, .inl (fun _ => 0))), (q41, .inl (k41, 630, .inl (fun _ => 0))), (q50, .inl (k50, 5040, .inl (fun _ => 0)))] := hD
  have hK : va_K (dC, dI) vwCl [(k7, .long), (k15, .int), (k23, .long), (k32, .int), (k41, .int), (k50, .int)] s := hK
  refine va_putF (D := (dC, dI)) (ci := 7) (v := .ref q50) (ty := (tyX4 9)) (C := RX4) (T := TX4) (N := 17) hx hb hu iuX4 tyX4 tyX4_ok nmX4 hown hK hP hD hS 0 rfl rfl 9 (by decide) (hu _ mG_316) (fun _ h9 => h9) rfl hin rfl (by decide +kernel) (rfl) (rfl) (Nat.le_of_ble_eq_true rfl) dX4_init_52 (fun H locs hP hD hS => ?_)
  have hP : va_P (dC, dI) vwCl [(a, .inr (7, [.ref q7, .ref q15, .int 0, .ref q23, .int 0, .int 0, .int 0, .ref q32, .ref q41, .ref q50, .null, .null, .null, .null, .null, .null, .null])), (q7, .inl (k7, 30, .inr (.inl (fun _ => 0)))), (q15, .inl (k15, 30, .inl (fun _ => 0))), (q23, .inl (k23, 30, .inr (.inl (fun _ => 0)))), (q32, .inl (k32, 630, .inl (fun _ => 0))), (q41, .inl (k41, 630, .inl (fun _ => 0))), (q50, .inl (k50, 5040, .inl (fun _ => 0)))] H := hP
  have hD : va_D A [(a, .inr (7, [.ref q7, .ref q15, .int 0, .ref q23, .int 0, .int 0, .int 0, .ref q32, .ref q41, .ref q50, .null, .null, .null, .null, .null, .null, .null])), (q7, .inl (k7, 30, .inr (.inl (fun _ => 0)))), (q15, .inl (k15, 30, .inl (fun _ => 0))), (q23, .inl (k23, 30, .inr (.inl (fun _ => 0)))), (q32, .inl (k32, 630, .inl (fun _ => 0))), (q41, .inl (k41, 630, .inl (fun _ => 0))), (q50, .inl (k50, 5040, .inl (fun _ => 0)))] := hD
  refine lv_aload_n hx hb dX4_init_55 rfl (lv_at hl 0 rfl) ?_
  refine lv_sipush (v := 630) hx hb dX4_init_56 (by decide) ?_
  refine va_newa (atype := .int) (N' := 630) (a0 := (630, .inl (fun _ => 0))) hx hb (hu _ mG_373) rfl hK hP hD hS hA (fun _ => rfl) (by decide +kernel) (by decide +kernel) (by decide +kernel) (Nat.le_of_ble_eq_true rfl) (Nat.le_of_ble_eq_true rfl) dX4_init_59 (fun q59 k59 H hK hP hD hS => ?_)
  have hP : va_P (dC, dI) vwCl [(a, .inr (7, [.ref q7, .ref q15, .int 0, .ref q23, .int 0, .int 0, .int 0, .ref q32, .ref q41, .ref q50, .null, .null, .null, .null, .null, .null, .null])), (q7, .inl (k7, 30, .inr (.inl (fun _ => 0)))), (q15, .inl (k15, 30, .inl (fun _ => 0))), (q23, .inl (k23, 30, .inr (.inl (fun _ => 0)))), (q32, .inl (k32, 630, .inl (fun _ => 0))), (q41, .inl (k41, 630, .inl (fun _ => 0))), (q50, .inl (k50, 5040, .inl (fun _ => 0))), (q59, .inl (k59, 630, .inl (fun _ => 0)))] H := hP
  have hD : va_D A [(a, .inr (7, [.ref q7, .ref q15, .int 0, .ref q23, .int 0, .int 0, .int 0, .ref q32, .ref q41, .ref q50, .null, .null, .null, .null, .null, .null, .null])), (q7, .inl (k7, 30, .inr (.inl (fun _ => 0)))), (q15, .inl (k15, 30, .inl (fun _ => 0))), (q23, .inl (k23, 30, .inr (.inl (fun _ => 0)))), (q32, .inl (k32, 630, .inl (fun _ => 0))), (q41, .inl (k41, 630, .inl (fun _ => 0))), (q50, .inl (k50, 5040, .inl (fun _ => 0))), (q59, .inl (k59, 630, .inl (fun _ => 0)))] := hD
  have hK : va_K (dC, dI) vwCl [(k7, .long), (k15, .int), (k23, .long), (k32, .int), (k41, .int), (k50, .int), (k59, .int)] s := hK
  refine va_putF (D := (dC, dI)) (ci := 7) (v := .ref q59) (ty := (tyX4 10)) (C := RX4) (T := TX4) (N := 17) hx hb hu iuX4 tyX4 tyX4_ok nmX4 hown hK hP hD hS 0 rfl rfl 10 (by decide) (hu _ mG_318) (fun _ h9 => h9) rfl hin rfl (by decide +kernel) (rfl) (rfl) (Nat.le_of_ble_eq_true rfl) dX4_init_61 (fun H locs hP hD hS => ?_)
  have hP : va_P (dC, dI) vwCl [(a, .inr (7, [.ref q7, .ref q15, .int 0, .ref q23, .int 0, .int 0, .int 0, .ref q32, .ref q41, .ref q50, .ref q59, .null, .null, .null, .null, .null, .null])), (q7, .inl (k7, 30, .inr (.inl (fun _ => 0)))), (q15, .inl (k15, 30, .inl (fun _ => 0))), (q23, .inl (k23, 30, .inr (.inl (fun _ => 0)))), (q32, .inl (k32, 630, .inl (fun _ => 0))), (q41, .inl (k41, 630, .inl (fun _ => 0))), (q50, .inl (k50, 5040, .inl (fun _ => 0))), (q59, .inl (k59, 630, .inl (fun _ => 0)))] H := hP
  have hD : va_D A [(a, .inr (7, [.ref q7, .ref q15, .int 0, .ref q23, .int 0, .int 0, .int 0, .ref q32, .ref q41, .ref q50, .ref q59, .null, .null, .null, .null, .null, .null])), (q7, .inl (k7, 30, .inr (.inl (fun _ => 0)))), (q15, .inl (k15, 30, .inl (fun _ => 0))), (q23, .inl (k23, 30, .inr (.inl (fun _ => 0)))), (q32, .inl (k32, 630, .inl (fun _ => 0))), (q41, .inl (k41, 630, .inl (fun _ => 0))), (q50, .inl (k50, 5040, .inl (fun _ => 0))), (q59, .inl (k59, 630, .inl (fun _ => 0)))] := hD
  refine lv_aload_n hx hb dX4_init_64 rfl (lv_at hl 0 rfl) ?_
  refine lv_sipush (v := 630) hx hb dX4_init_65 (by decide) ?_
  refine va_newa (atype := .int) (N' := 630) (a0 := (630, .inl (fun _ => 0))) hx hb (hu _ mG_373) rfl hK hP hD hS hA (fun _ => rfl) (by decide +kernel) (by decide +kernel) (by decide +kernel) (Nat.le_of_ble_eq_true rfl) (Nat.le_of_ble_eq_true rfl) dX4_init_68 (fun q68 k68 H hK hP hD hS => ?_)
  have hP : va_P (dC, dI) vwCl [(a, .inr (7, [.ref q7, .ref q15, .int 0, .ref q23, .int 0, .int 0, .int 0, .ref q32, .ref q41, .ref q50, .ref q59, .null, .null, .null, .null, .null, .null])), (q7, .inl (k7, 30, .inr (.inl (fun _ => 0)))), (q15, .inl (k15, 30, .inl (fun _ => 0))), (q23, .inl (k23, 30, .inr (.inl (fun _ => 0)))), (q32, .inl (k32, 630, .inl (fun _ => 0))), (q41, .inl (k41, 630, .inl (fun _ => 0))), (q50, .inl (k50, 5040, .inl (fun _ => 0))), (q59, .inl (k59, 630, .inl (fun _ => 0))), (q68, .inl (k68, 630, .inl (fun _ => 0)))] H := hP
  have hD : va_D A [(a, .inr (7, [.ref q7, .ref q15, .int 0, .ref q23, .int 0, .int 0, .int 0, .ref q32, .ref q41, .ref q50, .ref q59, .null, .null, .null, .null, .null, .null])), (q7, .inl (k7, 30, .inr (.inl (fun _ => 0)))), (q15, .inl (k15, 30, .inl (fun _ => 0))), (q23, .inl (k23, 30, .inr (.inl (fun _ => 0)))), (q32, .inl (k32, 630, .inl (fun _ => 0))), (q41, .inl (k41, 630, .inl (fun _ => 0))), (q50, .inl (k50, 5040, .inl (fun _ => 0))), (q59, .inl (k59, 630, .inl (fun _ => 0))), (q68, .inl (k68, 630, .inl (fun _ => 0)))] := hD
  have hK : va_K (dC, dI) vwCl [(k7, .long), (k15, .int), (k23, .long), (k32, .int), (k41, .int), (k50, .int), (k59, .int), (k68, .int)] s := hK
  refine va_putF (D := (dC, dI)) (ci := 7) (v := .ref q68) (ty := (tyX4 11)) (C := RX4) (T := TX4) (N := 17) hx hb hu iuX4 tyX4 tyX4_ok nmX4 hown hK hP hD hS 0 rfl rfl 11 (by decide) (hu _ mG_322) (fun _ h9 => h9) rfl hin rfl (by decide +kernel) (rfl) (rfl) (Nat.le_of_ble_eq_true rfl) dX4_init_70 (fun H locs hP hD hS => ?_)
  have hP : va_P (dC, dI) vwCl [(a, .inr (7, [.ref q7, .ref q15, .int 0, .ref q23, .int 0, .int 0, .int 0, .ref q32, .ref q41, .ref q50, .ref q59, .ref q68, .null, .null, .null, .null, .null])), (q7, .inl (k7, 30, .inr (.inl (fun _ => 0)))), (q15, .inl (k15, 30, .inl (fun _ => 0))), (q23, .inl (k23, 30, .inr (.inl (fun _ => 0)))), (q32, .inl (k32, 630, .inl (fun _ => 0))), (q41, .inl (k41, 630, .inl (fun _ => 0))), (q50, .inl (k50, 5040, .inl (fun _ => 0))), (q59, .inl (k59, 630, .inl (fun _ => 0))), (q68, .inl (k68, 630, .inl (fun _ => 0)))] H := hP
  have hD : va_D A [(a, .inr (7, [.ref q7, .ref q15, .int 0, .ref q23, .int 0, .int 0, .int 0, .ref q32, .ref q41, .ref q50, .ref q59, .ref q68, .null, .null, .null, .null, .null])), (q7, .inl (k7, 30, .inr (.inl (fun _ => 0)))), (q15, .inl (k15, 30, .inl (fun _ => 0))), (q23, .inl (k23, 30, .inr (.inl (fun _ => 0)))), (q32, .inl (k32, 630, .inl (fun _ => 0))), (q41, .inl (k41, 630, .inl (fun _ => 0))), (q50, .inl (k50, 5040, .inl (fun _ => 0))), (q59, .inl (k59, 630, .inl (fun _ => 0))), (q68, .inl (k68, 630, .inl (fun _ => 0)))] := hD
  refine lv_aload_n hx hb dX4_init_73 rfl (lv_at hl 0 rfl) ?_
  refine lv_sipush (v := 630) hx hb dX4_init_74 (by decide) ?_
  refine va_newa (atype := .int) (N' := 630) (a0 := (630, .inl (fun _ => 0))) hx hb (hu _ mG_373) rfl hK hP hD hS hA (fun _ => rfl) (by decide +kernel) (by decide +kernel) (by decide +kernel) (Nat.le_of_ble_eq_true rfl) (Nat.le_of_ble_eq_true rfl) dX4_init_77 (fun q77 k77 H hK hP hD hS => ?_)
  have hP : va_P (dC, dI) vwCl [(a, .inr (7, [.ref q7, .ref q15, .int 0, .ref q23, .int 0, .int 0, .int 0, .ref q32, .ref q41, .ref q50, .ref q59, .ref q68, .null, .null, .null, .null, .null])), (q7, .inl (k7, 30, .inr (.inl (fun _ => 0)))), (q15, .inl (k15, 30, .inl (fun _ => 0))), (q23, .inl (k23, 30, .inr (.inl (fun _ => 0)))), (q32, .inl (k32, 630, .inl (fun _ => 0))), (q41, .inl (k41, 630, .inl (fun _ => 0))), (q50, .inl (k50, 5040, .inl (fun _ => 0))), (q59, .inl (k59, 630, .inl (fun _ => 0))), (q68, .inl (k68, 630, .inl (fun _ => 0))), (q77, .inl (k77, 630, .inl (fun _ => 0)))] H := hP
  have hD : va_D A [(a, .inr (7, [.ref q7, .ref q15, .int 0, .ref q23, .int 0, .int 0, .int 0, .ref q32, .ref q41, .ref q50, .ref q59, .ref q68, .null, .null, .null, .null, .null])), (q7, .inl (k7, 30, .inr (.inl (fun _ => 0)))), (q15, .inl (k15, 30, .inl (fun _ => 0))), (q23, .inl (k23, 30, .inr (.inl (fun _ => 0)))), (q32, .inl (k32, 630, .inl (fun _ => 0))), (q41, .inl (k41, 630, .inl (fun _ => 0))), (q50, .inl (k50, 5040, .inl (fun _ => 0))), (q59, .inl (k59, 630, .inl (fun _ => 0))), (q68, .inl (k68, 630, .inl (fun _ => 0))), (q77, .inl (k77, 630, .inl (fun _ => 0)))] := hD
  have hK : va_K (dC, dI) vwCl [(k7, .long), (k15, .int), (k23, .long), (k32, .int), (k41, .int), (k50, .int), (k59, .int), (k68, .int), (k77, .int)] s := hK
  refine va_putF (D := (dC, dI)) (ci := 7) (v := .ref q77) (ty := (tyX4 12)) (C := RX4) (T := TX4) (N := 17) hx hb hu iuX4 tyX4 tyX4_ok nmX4 hown hK hP hD hS 0 rfl rfl 12 (by decide) (hu _ mG_327) (fun _ h9 => h9) rfl hin rfl (by decide +kernel) (rfl) (rfl) (Nat.le_of_ble_eq_true rfl) dX4_init_79 (fun H locs hP hD hS => ?_)
  have hP : va_P (dC, dI) vwCl [(a, .inr (7, [.ref q7, .ref q15, .int 0, .ref q23, .int 0, .int 0, .int 0, .ref q32, .ref q41, .ref q50, .ref q59, .ref q68, .ref q77, .null, .null, .null, .null])), (q7, .inl (k7, 30, .inr (.inl (fun _ => 0)))), (q15, .inl (k15, 30, .inl (fun _ => 0))), (q23, .inl (k23, 30, .inr (.inl (fun _ => 0)))), (q32, .inl (k32, 630, .inl (fun _ => 0))), (q41, .inl (k41, 630, .inl (fun _ => 0))), (q50, .inl (k50, 5040, .inl (fun _ => 0))), (q59, .inl (k59, 630, .inl (fun _ => 0))), (q68, .inl (k68, 630, .inl (fun _ => 0))), (q77, .inl (k77, 630, .inl (fun _ => 0)))] H := hP
  have hD : va_D A [(a, .inr (7, [.ref q7, .ref q15, .int 0, .ref q23, .int 0, .int 0, .int 0, .ref q32, .ref q41, .ref q50, .ref q59, .ref q68, .ref q77, .null, .null, .null, .null])), (q7, .inl (k7, 30, .inr (.inl (fun _ => 0)))), (q15, .inl (k15, 30, .inl (fun _ => 0))), (q23, .inl (k23, 30, .inr (.inl (fun _ => 0)))), (q32, .inl (k32, 630, .inl (fun _ => 0))), (q41, .inl (k41, 630, .inl (fun _ => 0))), (q50, .inl (k50, 5040, .inl (fun _ => 0))), (q59, .inl (k59, 630, .inl (fun _ => 0))), (q68, .inl (k68, 630, .inl (fun _ => 0))), (q77, .inl (k77, 630, .inl (fun _ => 0)))] := hD
  refine lv_aload_n hx hb dX4_init_82 rfl (lv_at hl 0 rfl) ?_
  refine lv_sipush (v := 630) hx hb dX4_init_83 (by decide) ?_
  refine va_newa (atype := .int) (N' := 630) (a0 := (630, .inl (fun _ => 0))) hx hb (hu _ mG_373) rfl hK hP hD hS hA (fun _ => rfl) (by decide +kernel) (by decide +kernel) (by decide +kernel) (Nat.le_of_ble_eq_true rfl) (Nat.le_of_ble_eq_true rfl) dX4_init_86 (fun q86 k86 H hK hP hD hS => ?_)
  have hP : va_P (dC, dI) vwCl [(a, .inr (7, [.ref q7, .ref q15, .int 0, .ref q23, .int 0, .int 0, .int 0, .ref q32, .ref q41, .ref q50, .ref q59, .ref q68, .ref q77, .null, .null, .null, .null])), (q7, .inl (k7, 30, .inr (.inl (fun _ => 0)))), (q15, .inl (k15, 30, .inl (fun _ => 0))), (q23, .inl (k23, 30, .inr (.inl (fun _ => 0)))), (q32, .inl (k32, 630, .inl (fun _ => 0))), (q41, .inl (k41, 630, .inl (fun _ => 0))), (q50, .inl (k50, 5040, .inl (fun _ => 0))), (q59, .inl (k59, 630, .inl (fun _ => 0))), (q68, .inl (k68, 630, .inl (fun _ => 0))), (q77, .inl (k77, 630, .inl (fun _ => 0))), (q86, .inl (k86, 630, .inl (fun _ => 0)))] H := hP
  have hD : va_D A [(a, .inr (7, [.ref q7, .ref q15, .int 0, .ref q23, .int 0, .int 0, .int 0, .ref q32, .ref q41, .ref q50, .ref q59, .ref q68, .ref q77, .null, .null, .null, .null])), (q7, .inl (k7, 30, .inr (.inl (fun _ => 0)))), (q15, .inl (k15, 30, .inl (fun _ => 0))), (q23, .inl (k23, 30, .inr (.inl (fun _ => 0)))), (q32, .inl (k32, 630, .inl (fun _ => 0))), (q41, .inl (k41, 630, .inl (fun _ => 0))), (q50, .inl (k50, 5040, .inl (fun _ => 0))), (q59, .inl (k59, 630, .inl (fun _ => 0))), (q68, .inl (k68, 630, .inl (fun _ => 0))), (q77, .inl (k77, 630, .inl (fun _ => 0))), (q86, .inl (k86, 630, .inl (fun _ => 0)))] := hD
  have hK : va_K (dC, dI) vwCl [(k7, .long), (k15, .int), (k23, .long), (k32, .int), (k41, .int), (k50, .int), (k59, .int), (k68, .int), (k77, .int), (k86, .int)] s := hK
  refine va_putF (D := (dC, dI)) (ci := 7) (v := .ref q86) (ty := (tyX4 13)) (C := RX4) (T := TX4) (N := 17) hx hb hu iuX4 tyX4 tyX4_ok nmX4 hown hK hP hD hS 0 rfl rfl 13 (by decide) (hu _ mG_329) (fun _ h9 => h9) rfl hin rfl (by decide +kernel) (rfl) (rfl) (Nat.le_of_ble_eq_true rfl) dX4_init_88 (fun H locs hP hD hS => ?_)
  have hP : va_P (dC, dI) vwCl [(a, .inr (7, [.ref q7, .ref q15, .int 0, .ref q23, .int 0, .int 0, .int 0, .ref q32, .ref q41, .ref q50, .ref q59, .ref q68, .ref q77, .ref q86, .null, .null, .null])), (q7, .inl (k7, 30, .inr (.inl (fun _ => 0)))), (q15, .inl (k15, 30, .inl (fun _ => 0))), (q23, .inl (k23, 30, .inr (.inl (fun _ => 0)))), (q32, .inl (k32, 630, .inl (fun _ => 0))), (q41, .inl (k41, 630, .inl (fun _ => 0))), (q50, .inl (k50, 5040, .inl (fun _ => 0))), (q59, .inl (k59, 630, .inl (fun _ => 0))), (q68, .inl (k68, 630, .inl (fun _ => 0))), (q77, .inl (k77, 630, .inl (fun _ => 0))), (q86, .inl (k86, 630, .inl (fun _ => 0)))] H := hP
  have hD : va_D A [(a, .inr (7, [.ref q7, .ref q15, .int 0, .ref q23, .int 0, .int 0, .int 0, .ref q32, .ref q41, .ref q50, .ref q59, .ref q68, .ref q77, .ref q86, .null, .null, .null])), (q7, .inl (k7, 30, .inr (.inl (fun _ => 0)))), (q15, .inl (k15, 30, .inl (fun _ => 0))), (q23, .inl (k23, 30, .inr (.inl (fun _ => 0)))), (q32, .inl (k32, 630, .inl (fun _ => 0))), (q41, .inl (k41, 630, .inl (fun _ => 0))), (q50, .inl (k50, 5040, .inl (fun _ => 0))), (q59, .inl (k59, 630, .inl (fun _ => 0))), (q68, .inl (k68, 630, .inl (fun _ => 0))), (q77, .inl (k77, 630, .inl (fun _ => 0))), (q86, .inl (k86, 630, .inl (fun _ => 0)))] := hD
  refine lv_aload_n hx hb dX4_init_91 rfl (lv_at hl 0 rfl) ?_
  refine lv_sipush (v := 630) hx hb dX4_init_92 (by decide) ?_
  refine va_newa (atype := .int) (N' := 630) (a0 := (630, .inl (fun _ => 0))) hx hb (hu _ mG_373) rfl hK hP hD hS hA (fun _ => rfl) (by decide +kernel) (by decide +kernel) (by decide +kernel) (Nat.le_of_ble_eq_true rfl) (Nat.le_of_ble_eq_true rfl) dX4_init_95 (fun q95 k95 H hK hP hD hS => ?_)
  have hP : va_P (dC, dI) vwCl [(a, .inr (7, [.ref q7, .ref q15, .int 0, .ref q23, .int 0, .int 0, .int 0, .ref q32, .ref q41, .ref q50, .ref q59, .ref q68, .ref q77, .ref q86, .null, .null, .null])), (q7, .inl (k7, 30, .inr (.inl (fun _ => 0)))), (q15, .inl (k15, 30, .inl (fun _ => 0))), (q23, .inl (k23, 30, .inr (.inl (fun _ => 0)))), (q32, .inl (k32, 630, .inl (fun _ => 0))), (q41, .inl (k41, 630, .inl (fun _ => 0))), (q50, .inl (k50, 5040, .inl (fun _ => 0))), (q59, .inl (k59, 630, .inl (fun _ => 0))), (q68, .inl (k68, 630, .inl (fun _ => 0))), (q77, .inl (k77, 630, .inl (fun _ => 0))), (q86, .inl (k86, 630, .inl (fun _ => 0))), (q95, .inl (k95, 630, .inl (fun _ => 0)))] H := hP
  have hD : va_D A [(a, .inr (7, [.ref q7, .ref q15, .int 0, .ref q23, .int 0, .int 0, .int 0, .ref q32, .ref q41, .ref q50, .ref q59, .ref q68, .ref q77, .ref q86, .null, .null, .null])), (q7, .inl (k7, 30, .inr (.inl (fun _ => 0)))), (q15, .inl (k15, 30, .inl (fun _ => 0))), (q23, .inl (k23, 30, .inr (.inl (fun _ => 0)))), (q32, .inl (k32, 630, .inl (fun _ => 0))), (q41, .inl (k41, 630, .inl (fun _ => 0))), (q50, .inl (k50, 5040, .inl (fun _ => 0))), (q59, .inl (k59, 630, .inl (fun _ => 0))), (q68, .inl (k68, 630, .inl (fun _ => 0))), (q77, .inl (k77, 630, .inl (fun _ => 0))), (q86, .inl (k86, 630, .inl (fun _ => 0))), (q95, .inl (k95, 630, .inl (fun _ => 0)))] := hD
  have hK : va_K (dC, dI) vwCl [(k7, .long), (k15, .int), (k23, .long), (k32, .int), (k41, .int), (k50, .int), (k59, .int), (k68, .int), (k77, .int), (k86, .int), (k95, .int)] s := hK
  refine va_putF (D := (dC, dI)) (ci := 7) (v := .ref q95) (ty := (tyX4 14)) (C := RX4) (T := TX4) (N := 17) hx hb hu iuX4 tyX4 tyX4_ok nmX4 hown hK hP hD hS 0 rfl rfl 14 (by decide) (hu _ mG_331) (fun _ h9 => h9) rfl hin rfl (by decide +kernel) (rfl) (rfl) (Nat.le_of_ble_eq_true rfl) dX4_init_97 (fun H locs hP hD hS => ?_)
  have hP : va_P (dC, dI) vwCl [(a, .inr (7, [.ref q7, .ref q15, .int 0, .ref q23, .int 0, .int 0, .int 0, .ref q32, .ref q41, .ref q50, .ref q59, .ref q68, .ref q77, .ref q86, .ref q95, .null, .null])), (q7, .inl (k7, 30, .inr (.inl (fun _ => 0)))), (q15, .inl (k15, 30, .inl (fun _ => 0))), (q23, .inl (k23, 30, .inr (.inl (fun _ => 0)))), (q32, .inl (k32, 630, .inl (fun _ => 0))), (q41, .inl (k41, 630, .inl (fun _ => 0))), (q50, .inl (k50, 5040, .inl (fun _ => 0))), (q59, .inl (k59, 630, .inl (fun _ => 0))), (q68, .inl (k68, 630, .inl (fun _ => 0))), (q77, .inl (k77, 630, .inl (fun _ => 0))), (q86, .inl (k86, 630, .inl (fun _ => 0))), (q95, .inl (k95, 630, .inl (fun _ => 0)))] H := hP
  have hD : va_D A [(a, .inr (7, [.ref q7, .ref q15, .int 0, .ref q23, .int 0, .int 0, .int 0, .ref q32, .ref q41, .ref q50, .ref q59, .ref q68, .ref q77, .ref q86, .ref q95, .null, .null])), (q7, .inl (k7, 30, .inr (.inl (fun _ => 0)))), (q15, .inl (k15, 30, .inl (fun _ => 0))), (q23, .inl (k23, 30, .inr (.inl (fun _ => 0)))), (q32, .inl (k32, 630, .inl (fun _ => 0))), (q41, .inl (k41, 630, .inl (fun _ => 0))), (q50, .inl (k50, 5040, .inl (fun _ => 0))), (q59, .inl (k59, 630, .inl (fun _ => 0))), (q68, .inl (k68, 630, .inl (fun _ => 0))), (q77, .inl (k77, 630, .inl (fun _ => 0))), (q86, .inl (k86, 630, .inl (fun _ => 0))), (q95, .inl (k95, 630, .inl (fun _ => 0)))] := hD
  refine lv_aload_n hx hb dX4_init_100 rfl (lv_at hl 0 rfl) ?_
  refine lv_sipush (v := 630) hx hb dX4_init_101 (by decide) ?_
  refine va_newa (atype := .int) (N' := 630) (a0 := (630, .inl (fun _ => 0))) hx hb (hu _ mG_373) rfl hK hP hD hS hA (fun _ => rfl) (by decide +kernel) (by decide +kernel) (by decide +kernel) (Nat.le_of_ble_eq_true rfl) (Nat.le_of_ble_eq_true rfl) dX4_init_104 (fun q104 k104 H hK hP hD hS => ?_)
  have hP : va_P (dC, dI) vwCl [(a, .inr (7, [.ref q7, .ref q15, .int 0, .ref q23, .int 0, .int 0, .int 0, .ref q32, .ref q41, .ref q50, .ref q59, .ref q68, .ref q77, .ref q86, .ref q95, .null, .null])), (q7, .inl (k7, 30, .inr (.inl (fun _ => 0)))), (q15, .inl (k15, 30, .inl (fun _ => 0))), (q23, .inl (k23, 30, .inr (.inl (fun _ => 0)))), (q32, .inl (k32, 630, .inl (fun _ => 0))), (q41, .inl (k41, 630, .inl (fun _ => 0))), (q50, .inl (k50, 5040, .inl (fun _ => 0))), (q59, .inl (k59, 630, .inl (fun _ => 0))), (q68, .inl (k68, 630, .inl (fun _ => 0))), (q77, .inl (k77, 630, .inl (fun _ => 0))), (q86, .inl (k86, 630, .inl (fun _ => 0))), (q95, .inl (k95, 630, .inl (fun _ => 0))), (q104, .inl (k104, 630, .inl (fun _ => 0)))] H := hP
  have hD : va_D A [(a, .inr (7, [.ref q7, .ref q15, .int 0, .ref q23, .int 0, .int 0, .int 0, .ref q32, .ref q41, .ref q50, .ref q59, .ref q68, .ref q77, .ref q86, .ref q95, .null, .null])), (q7, .inl (k7, 30, .inr (.inl (fun _ => 0)))), (q15, .inl (k15, 30, .inl (fun _ => 0))), (q23, .inl (k23, 30, .inr (.inl (fun _ => 0)))), (q32, .inl (k32, 630, .inl (fun _ => 0))), (q41, .inl (k41, 630, .inl (fun _ => 0))), (q50, .inl (k50, 5040, .inl (fun _ => 0))), (q59, .inl (k59, 630, .inl (fun _ => 0))), (q68, .inl (k68, 630, .inl (fun _ => 0))), (q77, .inl (k77, 630, .inl (fun _ => 0))), (q86, .inl (k86, 630, .inl (fun _ => 0))), (q95, .inl (k95, 630, .inl (fun _ => 0))), (q104, .inl (k104, 630, .inl (fun _ => 0)))] := hD
  have hK : va_K (dC, dI) vwCl [(k7, .long), (k15, .int), (k23, .long), (k32, .int), (k41, .int), (k50, .int), (k59, .int), (k68, .int), (k77, .int), (k86, .int), (k95, .int), (k104, .int)] s := hK
  refine va_putF (D := (dC, dI)) (ci := 7) (v := .ref q104) (ty := (tyX4 15)) (C := RX4) (T := TX4) (N := 17) hx hb hu iuX4 tyX4 tyX4_ok nmX4 hown hK hP hD hS 0 rfl rfl 15 (by decide) (hu _ mG_333) (fun _ h9 => h9) rfl hin rfl (by decide +kernel) (rfl) (rfl) (Nat.le_of_ble_eq_true rfl) dX4_init_106 (fun H locs hP hD hS => ?_)
  have hP : va_P (dC, dI) vwCl [(a, .inr (7, [.ref q7, .ref q15, .int 0, .ref q23, .int 0, .int 0, .int 0, .ref q32, .ref q41, .ref q50, .ref q59, .ref q68, .ref q77, .ref q86, .ref q95, .ref q104, .null])), (q7, .inl (k7, 30, .inr (.inl (fun _ => 0)))), (q15, .inl (k15, 30, .inl (fun _ => 0))), (q23, .inl (k23, 30, .inr (.inl (fun _ => 0)))), (q32, .inl (k32, 630, .inl (fun _ => 0))), (q41, .inl (k41, 630, .inl (fun _ => 0))), (q50, .inl (k50, 5040, .inl (fun _ => 0))), (q59, .inl (k59, 630, .inl (fun _ => 0))), (q68, .inl (k68, 630, .inl (fun _ => 0))), (q77, .inl (k77, 630, .inl (fun _ => 0))), (q86, .inl (k86, 630, .inl (fun _ => 0))), (q95, .inl (k95, 630, .inl (fun _ => 0))), (q104, .inl (k104, 630, .inl (fun _ => 0)))] H := hP
  have hD : va_D A [(a, .inr (7, [.ref q7, .ref q15, .int 0, .ref q23, .int 0, .int 0, .int 0, .ref q32, .ref q41, .ref q50, .ref q59, .ref q68, .ref q77, .ref q86, .ref q95, .ref q104, .null])), (q7, .inl (k7, 30, .inr (.inl (fun _ => 0)))), (q15, .inl (k15, 30, .inl (fun _ => 0))), (q23, .inl (k23, 30, .inr (.inl (fun _ => 0)))), (q32, .inl (k32, 630, .inl (fun _ => 0))), (q41, .inl (k41, 630, .inl (fun _ => 0))), (q50, .inl (k50, 5040, .inl (fun _ => 0))), (q59, .inl (k59, 630, .inl (fun _ => 0))), (q68, .inl (k68, 630, .inl (fun _ => 0))), (q77, .inl (k77, 630, .inl (fun _ => 0))), (q86, .inl (k86, 630, .inl (fun _ => 0))), (q95, .inl (k95, 630, .inl (fun _ => 0))), (q104, .inl (k104, 630, .inl (fun _ => 0)))] := hD
  refine lv_aload_n hx hb dX4_init_109 rfl (lv_at hl 0 rfl) ?_
  refine lv_sipush (v := 630) hx hb dX4_init_110 (by decide) ?_
  refine va_newa (atype := .int) (N' := 630) (a0 := (630, .inl (fun _ => 0))) hx hb (hu _ mG_373) rfl hK hP hD hS hA (fun _ => rfl) (by decide +kernel) (by decide +kernel) (by decide +kernel) (Nat.le_of_ble_eq_true rfl) (Nat.le_of_ble_eq_true rfl) dX4_init_113 (fun q113 k113 H hK hP hD hS => ?_)
  have hP : va_P (dC, dI) vwCl [(a, .inr (7, [.ref q7, .ref q15, .int 0, .ref q23, .int 0, .int 0, .int 0, .ref q32, .ref q41, .ref q50, .ref q59, .ref q68, .ref q77, .ref q86, .ref q95, .ref q104, .null])), (q7, .inl (k7, 30, .inr (.inl (fun _ => 0)))), (q15, .inl (k15, 30, .inl (fun _ => 0))), (q23, .inl (k23, 30, .inr (.inl (fun _ => 0)))), (q32, .inl (k32, 630, .inl (fun _ => 0))), (q41, .inl (k41, 630, .inl (fun _ => 0))), (q50, .inl (k50, 5040, .inl (fun _ => 0))), (q59, .inl (k59, 630, .inl (fun _ => 0))), (q68, .inl (k68, 630, .inl (fun _ => 0))), (q77, .inl (k77, 630, .inl (fun _ => 0))), (q86, .inl (k86, 630, .inl (fun _ => 0))), (q95, .inl (k95, 630, .inl (fun _ => 0))), (q104, .inl (k104, 630, .inl (fun _ => 0))), (q113, .inl (k113, 630, .inl (fun _ => 0)))] H := hP
  have hD : va_D A [(a, .inr (7, [.ref q7, .ref q15, .int 0, .ref q23, .int 0, .int 0, .int 0, .ref q32, .ref q41, .ref q50, .ref q59, .ref q68, .ref q77, .ref q86, .ref q95, .ref q104, .null])), (q7, .inl (k7, 30, .inr (.inl (fun _ => 0)))), (q15, .inl (k15, 30, .inl (fun _ => 0))), (q23, .inl (k23, 30, .inr (.inl (fun _ => 0)))), (q32, .inl (k32, 630, .inl (fun _ => 0))), (q41, .inl (k41, 630, .inl (fun _ => 0))), (q50, .inl (k50, 5040, .inl (fun _ => 0))), (q59, .inl (k59, 630, .inl (fun _ => 0))), (q68, .inl (k68, 630, .inl (fun _ => 0))), (q77, .inl (k77, 630, .inl (fun _ => 0))), (q86, .inl (k86, 630, .inl (fun _ => 0))), (q95, .inl (k95, 630, .inl (fun _ => 0))), (q104, .inl (k104, 630, .inl (fun _ => 0))), (q113, .inl (k113, 630, .inl (fun _ => 0)))] := hD
  have hK : va_K (dC, dI) vwCl [(k7, .long), (k15, .int), (k23, .long), (k32, .int), (k41, .int), (k50, .int), (k59, .int), (k68, .int), (k77, .int), (k86, .int), (k95, .int), (k104, .int), (k113, .int)] s := hK
  refine va_putF (D := (dC, dI)) (ci := 7) (v := .ref q113) (ty := (tyX4 16)) (C := RX4) (T := TX4) (N := 17) hx hb hu iuX4 tyX4 tyX4_ok nmX4 hown hK hP hD hS 0 rfl rfl 16 (by decide) (hu _ mG_335) (fun _ h9 => h9) rfl hin rfl (by decide +kernel) (rfl) (rfl) (Nat.le_of_ble_eq_true rfl) dX4_init_115 (fun H locs hP hD hS => ?_)
  have hP : va_P (dC, dI) vwCl [(a, .inr (7, [.ref q7, .ref q15, .int 0, .ref q23, .int 0, .int 0, .int 0, .ref q32, .ref q41, .ref q50, .ref q59, .ref q68, .ref q77, .ref q86, .ref q95, .ref q104, .ref q113])), (q7, .inl (k7, 30, .inr (.inl (fun _ => 0)))), (q15, .inl (k15, 30, .inl (fun _ => 0))), (q23, .inl (k23, 30, .inr (.inl (fun _ => 0)))), (q32, .inl (k32, 630, .inl (fun _ => 0))), (q41, .inl (k41, 630, .inl (fun _ => 0))), (q50, .inl (k50, 5040, .inl (fun _ => 0))), (q59, .inl (k59, 630, .inl (fun _ => 0))), (q68, .inl (k68, 630, .inl (fun _ => 0))), (q77, .inl (k77, 630, .inl (fun _ => 0))), (q86, .inl (k86, 630, .inl (fun _ => 0))), (q95, .inl (k95, 630, .inl (fun _ => 0))), (q104, .inl (k104, 630, .inl (fun _ => 0))), (q113, .inl (k113, 630, .inl (fun _ => 0)))] H := hP
  have hD : va_D A [(a, .inr (7, [.ref q7, .ref q15, .int 0, .ref q23, .int 0, .int 0, .int 0, .ref q32, .ref q41, .ref q50, .ref q59, .ref q68, .ref q77, .ref q86, .ref q95, .ref q104, .ref q113])), (q7, .inl (k7, 30, .inr (.inl (fun _ => 0)))), (q15, .inl (k15, 30, .inl (fun _ => 0))), (q23, .inl (k23, 30, .inr (.inl (fun _ => 0)))), (q32, .inl (k32, 630, .inl (fun _ => 0))), (q41, .inl (k41, 630, .inl (fun _ => 0))), (q50, .inl (k50, 5040, .inl (fun _ => 0))), (q59, .inl (k59, 630, .inl (fun _ => 0))), (q68, .inl (k68, 630, .inl (fun _ => 0))), (q77, .inl (k77, 630, .inl (fun _ => 0))), (q86, .inl (k86, 630, .inl (fun _ => 0))), (q95, .inl (k95, 630, .inl (fun _ => 0))), (q104, .inl (k104, 630, .inl (fun _ => 0))), (q113, .inl (k113, 630, .inl (fun _ => 0)))] := hD
  refine W.widen (k := 13) (n := 10800) (by omega) (by omega) ?_
  exact W.vret hx hb hr (fun t ht hW => ⟨⟨(fun i => if i = 0 then q7 else if i = 1 then q15 else if i = 2 then q23 else if i = 3 then q32 else if i = 4 then q41 else if i = 5 then q50 else if i = 6 then q59 else if i = 7 then q68 else if i = 8 then q77 else if i = 9 then q86 else if i = 10 then q95 else if i = 11 then q104 else if i = 12 then q113 else 0, fun i => if i = 0 then k7 else if i = 1 then k15 else if i = 2 then k23 else if i = 3 then k32 else if i = 4 then k41 else if i = 5 then k50 else if i = 6 then k59 else if i = 7 then k68 else if i = 8 then k77 else if i = 9 then k86 else if i = 10 then k95 else if i = 11 then k104 else if i = 12 then k113 else k7), rfl, trivial, by rw [ht]; exact hP, va_K.moved hW.alike hK, hD⟩, hS.F ht⟩) hS.2.2 dX4_init_118
set_option maxHeartbeats 4000000 in
set_option maxRecDepth 100000 in
/-- Scopes() -/
theorem kX6_init (l : Launch) (dC : Nat → ClassId) (dI : Nat → Nat → Nat) (sz : Nat) (a : Nat)  : Met l yX6_init (Cond.code yX6_init cX6_init 1 none :: uG) ({ frames := 1, cells := 13, slots := (11400), locals := 12 }) (va_Pc [.ref a] (fun U => U.heap.size = sz ∧ va_P (dC, dI) vwCl [(a, .inr (9, [.null, .null, .null, .null, .null, .null, .null, .null, .int 0, .null, .null, .null, .null, .null, .int 0]))] U.heap ∧ va_K (dC, dI) vwCl [] U ∧ va_D (fun _ => True) [(a, .inr (9, [.null, .null, .null, .null, .null, .null, .null, .null, .int 0, .null, .null, .null, .null, .null, .int 0]))])) (va_Qv (S := (Nat → Nat) × (Nat → ClassId)) (fun _ => True) (fun u t => va_P (dC, dI) vwCl [(a, .inr (9, [.ref (u.1 0), .ref (u.1 1), .ref (u.1 2), .ref (u.1 3), .ref (u.1 4), .ref (u.1 5), .ref (u.1 6), .ref (u.1 7), .int 0, .ref (u.1 8), .ref (u.1 9), .ref (u.1 10), .ref (u.1 11), .ref (u.1 12), .int 0])), ((u.1 0), .inl ((u.2 0), 3500, .inr (.inl (fun _ => 0)))), ((u.1 1), .inl ((u.2 1), 700, .inl (fun _ => 0))), ((u.1 2), .inl ((u.2 2), 700, .inl (fun _ => 0))), ((u.1 3), .inl ((u.2 3), 700, .inl (fun _ => 0))), ((u.1 4), .inl ((u.2 4), 700, .inl (fun _ => 0))), ((u.1 5), .inl ((u.2 5), 700, .inl (fun _ => 0))), ((u.1 6), .inl ((u.2 6), 700, .inl (fun _ => 0))), ((u.1 7), .inl ((u.2 7), 700, .inl (fun _ => 0))), ((u.1 8), .inl ((u.2 8), 600, .inr (.inl (fun _ => 0)))), ((u.1 9), .inl ((u.2 9), 600, .inl (fun _ => 0))), ((u.1 10), .inl ((u.2 10), 600, .inl (fun _ => 0))), ((u.1 11), .inl ((u.2 11), 600, .inl (fun _ => 0))), ((u.1 12), .inl ((u.2 12), 600, .inl (fun _ => 0)))] t.heap ∧ va_K (dC, dI) vwCl [((u.2 0), .long), ((u.2 1), .int), ((u.2 2), .int), ((u.2 3), .int), ((u.2 4), .int), ((u.2 5), .int), ((u.2 6), .int), ((u.2 7), .int), ((u.2 8), .long), ((u.2 9), .int), ((u.2 10), .int), ((u.2 11), .int), ((u.2 12), .int)] t ∧ va_D (va_A [(a, .inr (9, [.null, .null, .null, .null, .null, .null, .null, .null, .int 0, .null, .null, .null, .null, .null, .int 0]))] sz) [(a, .inr (9, [.ref (u.1 0), .ref (u.1 1), .ref (u.1 2), .ref (u.1 3), .ref (u.1 4), .ref (u.1 5), .ref (u.1 6), .ref (u.1 7), .int 0, .ref (u.1 8), .ref (u.1 9), .ref (u.1 10), .ref (u.1 11), .ref (u.1 12), .int 0])), ((u.1 0), .inl ((u.2 0), 3500, .inr (.inl (fun _ => 0)))), ((u.1 1), .inl ((u.2 1), 700, .inl (fun _ => 0))), ((u.1 2), .inl ((u.2 2), 700, .inl (fun _ => 0))), ((u.1 3), .inl ((u.2 3), 700, .inl (fun _ => 0))), ((u.1 4), .inl ((u.2 4), 700, .inl (fun _ => 0))), ((u.1 5), .inl ((u.2 5), 700, .inl (fun _ => 0))), ((u.1 6), .inl ((u.2 6), 700, .inl (fun _ => 0))), ((u.1 7), .inl ((u.2 7), 700, .inl (fun _ => 0))), ((u.1 8), .inl ((u.2 8), 600, .inr (.inl (fun _ => 0)))), ((u.1 9), .inl ((u.2 9), 600, .inl (fun _ => 0))), ((u.1 10), .inl ((u.2 10), 600, .inl (fun _ => 0))), ((u.1 11), .inl ((u.2 11), 600, .inl (fun _ => 0))), ((u.1 12), .inl ((u.2 12), 600, .inl (fun _ => 0)))]) (va_A [(a, .inr (9, [.null, .null, .null, .null, .null, .null, .null, .null, .int 0, .null, .null, .null, .null, .null, .int 0]))] sz)) 13 (11400) (va_A [(a, .inr (9, [.null, .null, .null, .null, .null, .null, .null, .null, .int 0, .null, .null, .null, .null, .null, .int 0]))] sz) := by
  refine Met.ofW (cc := cX6_init) (maxL := 1) (ret := none) (by decide) rfl ?_
  intro p e s m args below meth c s₁ B hml hv
  obtain ⟨rfl, hsz, hP, hK, hD0⟩ := hv
  have hx := B.exec
  have hb := B.bytes
  have hr := B.returns
  have hts := atoms_spec (ws := Cond.code yX6_init cX6_init 1 none :: uG) B.pre
  have hu := fun (w : Cond) (h : w ∈ uG) => hts w (List.mem_cons_of_mem _ h)
  have hown : s.vm.findClass RX6 = some m.cls := findClass_of_methodNamed B.named
  have hlocks := B.notSynchronized
  have hin : meth.name = "<init>" := (name_of_methodNamed B.named B.method).1
  subst hsz
  have hD := hD0.self (sz := s.heap.size)
  generalize hAe : va_A [(a, .inr (9, [.null, .null, .null, .null, .null, .null, .null, .null, .int 0, .null, .null, .null, .null, .null, .int 0]))] s.heap.size = A at hD ⊢
  have hA : ∀ q : Nat, s.heap.size ≤ q → A q := fun q h => by rw [← hAe]; exact Or.inr h
  have hS : va_S A s.heap s.heap [] := va_S.rf
  have hP : va_P (dC, dI) vwCl [(a, .inr (9, [.null, .null, .null, .null, .null, .null, .null, .null, .int 0, .null, .null, .null, .null, .null, .int 0]))] s.heap := hP
  have hD : va_D A [(a, .inr (9, [.null, .null, .null, .null, .null, .null, .null, .null, .int 0, .null, .null, .null, .null, .null, .int 0]))] := hD
  have hl := lv_entry ([.ref a]) (n := 1) (Nat.le_of_ble_eq_true rfl)
  rw [lg_entry_eq]
  generalize (lg_sl ([.ref a]) ++ List.replicate (1 - (lg_sl ([.ref a])).length) Slot.unset).toArray = ls at hl ⊢
  have hl : lv_has ls 1 [(0, .ref a)] := hl
  refine lv_aload_n hx hb dX6_init_0 rfl (lv_at hl 0 rfl) ?_
  refine W.objInit hx hb hown (hu _ mG_440) (hu _ mG_254) (hu _ mG_255) rfl (by rw [hml]; exact hl.1) rfl dX6_init_1 (Nat.le_of_ble_eq_true rfl) (Nat.le_of_ble_eq_true rfl) ?_
  refine W.eq (g2 := F0 m 4 ls []) rfl ?_
  refine lv_aload_n hx hb dX6_init_4 rfl (lv_at hl 0 rfl) ?_
  refine lv_sipush (v := 3500) hx hb dX6_init_5 (by decide) ?_
  refine va_newa (atype := .long) (N' := 3500) (a0 := (3500, .inr (.inl (fun _ => 0)))) hx hb (hu _ mG_372) rfl hK hP hD hS hA (fun _ => rfl) (by decide +kernel) (by decide +kernel) (by decide +kernel) (Nat.le_of_ble_eq_true rfl) (Nat.le_of_ble_eq_true rfl) dX6_init_8 (fun q8 k8 H hK hP hD hS => ?_)
  have hP : va_P (dC, dI) vwCl [(a, .inr (9, [.null, .null, .null, .null, .null, .null, .null, .null, .int 0, .null, .null, .null, .null, .null, .int 0])), (q8, .inl (k8, 3500, .inr (.inl (fun _ => 0))))] H := hP
  have hD : va_D A [(a, .inr (9, [.null, .null, .null, .null, .null, .null, .null, .null, .int 0, .null, .null, .null, .null, .null, .int 0])), (q8, .inl (k8, 3500, .inr (.inl (fun _ => 0))))] := hD
  have hK : va_K (dC, dI) vwCl [(k8, .long)] s := hK
  refine va_putF (D := (dC, dI)) (ci := 9) (v := .ref q8) (ty := (tyX6 0)) (C := RX6) (T := TX6) (N := 15) hx hb hu iuX6 tyX6 tyX6_ok nmX6 hown hK hP hD hS 0 rfl rfl 0 (by decide) (hu _ mG_441) (fun _ h9 => h9) rfl hin rfl (by decide +kernel) (rfl) (rfl) (Nat.le_of_ble_eq_true rfl) dX6_init_10 (fun H locs hP hD hS => ?_)
  have hP : va_P (dC, dI) vwCl [(a, .inr (9, [.ref q8, .null, .null, .null, .null, .null, .null, .null, .int 0, .null, .null, .null, .null, .null, .int 0])), (q8, .inl (k8, 3500, .inr (.inl (fun _ => 0))))] H := hP
  have hD : va_D A [(a, .inr (9, [.ref q8, .null, .null, .null, .null, .null, .null, .null, .int 0, .null, .null, .null, .null, .null, .int 0])), (q8, .inl (k8, 3500, .inr (.inl (fun _ => 0))))] := hD
  refine lv_aload_n hx hb dX6_init_13 rfl (lv_at hl 0 rfl) ?_
  refine lv_sipush (v := 700) hx hb dX6_init_14 (by decide) ?_
  refine va_newa (atype := .int) (N' := 700) (a0 := (700, .inl (fun _ => 0))) hx hb (hu _ mG_373) rfl hK hP hD hS hA (fun _ => rfl) (by decide +kernel) (by decide +kernel) (by decide +kernel) (Nat.le_of_ble_eq_true rfl) (Nat.le_of_ble_eq_true rfl) dX6_init_17 (fun q17 k17 H hK hP hD hS => ?_)
  have hP : va_P (dC, dI) vwCl [(a, .inr (9, [.ref q8, .null, .null, .null, .null, .null, .null, .null, .int 0, .null, .null, .null, .null, .null, .int 0])), (q8, .inl (k8, 3500, .inr (.inl (fun _ => 0)))), (q17, .inl (k17, 700, .inl (fun _ => 0)))] H := hP
  have hD : va_D A [(a, .inr (9, [.ref q8, .null, .null, .null, .null, .null, .null, .null, .int 0, .null, .null, .null, .null, .null, .int 0])), (q8, .inl (k8, 3500, .inr (.inl (fun _ => 0)))), (q17, .inl (k17, 700, .inl (fun _ => 0)))] := hD
  have hK : va_K (dC, dI) vwCl [(k8, .long), (k17, .int)] s := hK
  refine va_putF (D := (dC, dI)) (ci := 9) (v := .ref q17) (ty := (tyX6 1)) (C := RX6) (T := TX6) (N := 15) hx hb hu iuX6 tyX6 tyX6_ok nmX6 hown hK hP hD hS 0 rfl rfl 1 (by decide) (hu _ mG_442) (fun _ h9 => h9) rfl hin rfl (by decide +kernel) (rfl) (rfl) (Nat.le_of_ble_eq_true rfl) dX6_init_19 (fun H locs hP hD hS => ?_)
  have hP : va_P (dC, dI) vwCl [(a, .inr (9, [.ref q8, .ref q17, .null, .null, .null, .null, .null, .null, .int 0, .null, .null, .null, .null, .null, .int 0])), (q8, .inl (k8, 3500, .inr (.inl (fun _ => 0)))), (q17, .inl (k17, 700, .inl (fun _ => 0)))] H := hP
  have hD : va_D A [(a, .inr (9, [.ref q8, .ref q17, .null, .null, .null, .null, .null, .null, .int 0, .null, .null, .null, .null, .null, .int 0])), (q8, .inl (k8, 3500, .inr (.inl (fun _ => 0)))), (q17, .inl (k17, 700, .inl (fun _ => 0)))] := hD
  refine lv_aload_n hx hb dX6_init_22 rfl (lv_at hl 0 rfl) ?_
  refine lv_sipush (v := 700) hx hb dX6_init_23 (by decide) ?_
  refine va_newa (atype := .int) (N' := 700) (a0 := (700, .inl (fun _ => 0))) hx hb (hu _ mG_373) rfl hK hP hD hS hA (fun _ => rfl) (by decide +kernel) (by decide +kernel) (by decide +kernel) (Nat.le_of_ble_eq_true rfl) (Nat.le_of_ble_eq_true rfl) dX6_init_26 (fun q26 k26 H hK hP hD hS => ?_)
  have hP : va_P (dC, dI) vwCl [(a, .inr (9, [.ref q8, .ref q17, .null, .null, .null, .null, .null, .null, .int 0, .null, .null, .null, .null, .null, .int 0])), (q8, .inl (k8, 3500, .inr (.inl (fun _ => 0)))), (q17, .inl (k17, 700, .inl (fun _ => 0))), (q26, .inl (k26, 700, .inl (fun _ => 0)))] H := hP
  have hD : va_D A [(a, .inr (9, [.ref q8, .ref q17, .null, .null, .null, .null, .null, .null, .int 0, .null, .null, .null, .null, .null, .int 0])), (q8, .inl (k8, 3500, .inr (.inl (fun _ => 0)))), (q17, .inl (k17, 700, .inl (fun _ => 0))), (q26, .inl (k26, 700, .inl (fun _ => 0)))] := hD
  have hK : va_K (dC, dI) vwCl [(k8, .long), (k17, .int), (k26, .int)] s := hK
  refine va_putF (D := (dC, dI)) (ci := 9) (v := .ref q26) (ty := (tyX6 2)) (C := RX6) (T := TX6) (N := 15) hx hb hu iuX6 tyX6 tyX6_ok nmX6 hown hK hP hD hS 0 rfl rfl 2 (by decide) (hu _ mG_445) (fun _ h9 => h9) rfl hin rfl (by decide +kernel) (rfl) (rfl) (Nat.le_of_ble_eq_true rfl) dX6_init_28 (fun H locs hP hD hS => ?_)
  have hP : va_P (dC, dI) vwCl [(a, .inr (9, [.ref q8, .ref q17, .ref q26, .null, .null, .null, .null, .null, .int 0, .null, .null, .null, .null, .null, .int 0])), (q8, .inl (k8, 3500, .inr (.inl (fun _ => 0)))), (q17, .inl (k17, 700, .inl (fun _ => 0))), (q26, .inl (k26, 700, .inl (fun _ => 0)))] H := hP
  have hD : va_D A [(a, .inr (9, [.ref q8, .ref q17, .ref q26, .null, .null, .null, .null, .null, .int 0, .null, .null, .null, .null, .null, .int 0])), (q8, .inl (k8, 3500, .inr (.inl (fun _ => 0)))), (q17, .inl (k17, 700, .inl (fun _ => 0))), (q26, .inl (k26, 700, .inl (fun _ => 0)))] := hD
  refine lv_aload_n hx hb dX6_init_31 rfl (lv_at hl 0 rfl) ?_
  refine lv_sipush (v := 700) hx hb dX6_init_32 (by decide) ?_
  refine va_newa (atype := .int) (N' := 700) (a0 := (700, .inl (fun _ => 0))) hx hb (hu _ mG_373) rfl hK hP hD hS hA (fun _ => rfl) (by decide +kernel) (by decide +kernel) (by decide +kernel) (Nat.le_of_ble_eq_true rfl) (Nat.le_of_ble_eq_true rfl) dX6_init_35 (fun q35 k35 H hK hP hD hS => ?_)
  have hP : va_P (dC, dI) vwCl [(a, .inr (9, [.ref q8, .ref q17, .ref q26, .null, .null, .null, .null, .null, .int 0, .null, .null, .null, .null, .null, .int 0])), (q8, .inl (k8, 3500, .inr (.inl (fun _ => 0)))), (q17, .inl (k17, 700, .inl (fun _ => 0))), (q26, .inl (k26, 700, .inl (fun _ => 0))), (q35, .inl (k35, 700, .inl (fun _ => 0)))] H := hP
  have hD : va_D A [(a, .inr (9, [.ref q8, .ref q17, .ref q26, .null, .null, .null, .null, .null, .int 0, .null, .null, .null, .null, .null, .int 0])), (q8, .inl (k8, 3500, .inr (.inl (fun _ => 0)))), (q17, .inl (k17, 700, .inl (fun _ => 0))), (q26, .inl (k26, 700, .inl (fun _ => 0))), (q35, .inl (k35, 700, .inl (fun _ => 0)))] := hD
  have hK : va_K (dC, dI) vwCl [(k8, .long), (k17, .int), (k26, .int), (k35, .int)] s := hK
  refine va_putF (D := (dC, dI)) (ci := 9) (v := .ref q35) (ty := (tyX6 3)) (C := RX6) (T := TX6) (N := 15) hx hb hu iuX6 tyX6 tyX6_ok nmX6 hown hK hP hD hS 0 rfl rfl 3 (by decide) (hu _ mG_447) (fun _ h9 => h9) rfl hin rfl (by decide +kernel) (rfl) (rfl) (Nat.le_of_ble_eq_true rfl) dX6_init_37 (fun H locs hP hD hS => ?_)
  have hP : va_P (dC, dI) vwCl [(a, .inr (9, [.ref q8, .ref q17, .ref q26, .ref q35, .null, .null, .null, .null, .int 0, .null, .null, .null, .null, .null, .int 0])), (q8, .inl (k8, 3500, .inr (.inl (fun _ => 0)))), (q17, .inl (k17, 700, .inl (fun _ => 0))), (q26, .inl (k26, 700, .inl (fun _ => 0))), (q35, .inl (k35, 700, .inl (fun _ => 0)))] H := hP
  have hD : va_D A [(a, .inr (9, [.ref q8, .ref q17, .ref q26, .ref q35, .null, .null, .null, .null, .int 0, .null, .null, .null, .null, .null, .int 0])), (q8, .inl (k8, 3500, .inr (.inl (fun _ => 0)))), (q17, .inl (k17, 700, .inl (fun _ => 0))), (q26, .inl (k26, 700, .inl (fun _ => 0))), (q35, .inl (k35, 700, .inl (fun _ => 0)))] := hD
  refine lv_aload_n hx hb dX6_init_40 rfl (lv_at hl 0 rfl) ?_
  refine lv_sipush (v := 700) hx hb dX6_init_41 (by decide) ?_
  refine va_newa (atype := .int) (N' := 700) (a0 := (700, .inl (fun _ => 0))) hx hb (hu _ mG_373) rfl hK hP hD hS hA (fun _ => rfl) (by decide +kernel) (by decide +kernel) (by decide +kernel) (Nat.le_of_ble_eq_true rfl) (Nat.le_of_ble_eq_true rfl) dX6_init_44 (fun q44 k44 H hK hP hD hS => ?_)
  have hP : va_P (dC, dI) vwCl [(a, .inr (9, [.ref q8, .ref q17, .ref q26, .ref q35, .null, .null, .null, .null, .int 0, .null, .null, .null, .null, .null, .int 0])), (q8, .inl (k8, 3500, .inr (.inl (fun _ => 0)))), (q17, .inl (k17, 700, .inl (fun _ => 0))), (q26, .inl (k26, 700, .inl (fun _ => 0))), (q35, .inl (k35, 700, .inl (fun _ => 0))), (q44, .inl (k44, 700, .inl (fun _ => 0)))] H := hP
  have hD : va_D A [(a, .inr (9, [.ref q8, .ref q17, .ref q26, .ref q35, .null, .null, .null, .null, .int 0, .null, .null, .null, .null, .null, .int 0])), (q8, .inl (k8, 3500, .inr (.inl (fun _ => 0)))), (q17, .inl (k17, 700, .inl (fun _ => 0))), (q26, .inl (k26, 700, .inl (fun _ => 0))), (q35, .inl (k35, 700, .inl (fun _ => 0))), (q44, .inl (k44, 700, .inl (fun _ => 0)))] := hD
  have hK : va_K (dC, dI) vwCl [(k8, .long), (k17, .int), (k26, .int), (k35, .int), (k44, .int)] s := hK
  refine va_putF (D := (dC, dI)) (ci := 9) (v := .ref q44) (ty := (tyX6 4)) (C := RX6) (T := TX6) (N := 15) hx hb hu iuX6 tyX6 tyX6_ok nmX6 hown hK hP hD hS 0 rfl rfl 4 (by decide) (hu _ mG_449) (fun _ h9 => h9) rfl hin rfl (by decide +kernel) (rfl) (rfl) (Nat.le_of_ble_eq_true rfl) dX6_init_46 (fun H locs hP hD hS => ?_)
  have hP : va_P (dC, dI) vwCl [(a, .inr (9, [.ref q8, .ref q17, .ref q26, .ref q35, .ref q44, .null, .null, .null, .int 0, .null, .null, .null, .null, .null, .int 0])), (q8, .inl (k8, 3500, .inr (.inl (fun _ => 0)))), (q17, .inl (k17, 700, .inl (fun _ => 0))), (q26, .inl (k26, 700, .inl (fun _ => 0))), (q35, .inl (k35, 700, .inl (fun _ => 0))), (q44, .inl (k44, 700, .inl (fun _ => 0)))] H := hP
  have hD : va_D A [(a, .inr (9, [.ref q8, .ref q17, .ref q26, .ref q35, .ref q44, .null, .null, .null, .int 0, .null, .null, .null, .null, .null, .int 0])), (q8, .inl (k8, 3500, .inr (.inl (fun _ => 0)))), (q17, .inl (k17, 700, .inl (fun _ => 0))), (q26, .inl (k26, 700, .inl (fun _ => 0))), (q35, .inl (k35, 700, .inl (fun _ => 0))), (q44, .inl (k44, 700, .inl (fun _ => 0)))] := hD
  refine lv_aload_n hx hb dX6_init_49 rfl (lv_at hl 0 rfl) ?_
  refine lv_sipush (v := 700) hx hb dX6_init_50 (by decide) ?_
  refine va_newa (atype := .int) (N' := 700) (a0 := (700, .inl (fun _ => 0))) hx hb (hu _ mG_373) rfl hK hP hD hS hA (fun _ => rfl) (by decide +kernel) (by decide +kernel) (by decide +kernel) (Nat.le_of_ble_eq_true rfl) (Nat.le_of_ble_eq_true rfl) dX6_init_53 (fun q53 k53 H hK hP hD hS => ?_)
  have hP : va_P (dC, dI) vwCl [(a, .inr (9, [.ref q8, .ref q17, .ref q26, .ref q35, .ref q44, .null, .null, .null, .int 0, .null, .null, .null, .null, .null, .int 0])), (q8, .inl (k8, 3500, .inr (.inl (fun _ => 0)))), (q17, .inl (k17, 700, .inl (fun _ => 0))), (q26, .inl (k26, 700, .inl (fun _ => 0))), (q35, .inl (k35, 700, .inl (fun _ => 0))), (q44, .inl (k44, 700, .inl (fun _ => 0))), (q53, .inl (k53, 700, .inl (fun _ => 0)))] H := hP
  have hD : va_D A [(a, .inr (9, [.ref q8, .ref q17, .ref q26, .ref q35, .ref q44, .null, .null, .null, .int 0, .null, .null, .null, .null, .null, .int 0])), (q8, .inl (k8, 3500, .inr (.inl (fun _ => 0)))), (q17, .inl (k17, 700, .inl (fun _ => 0))), (q26, .inl (k26, 700, .inl (fun _ => 0))), (q35, .inl (k35, 700, .inl (fun _ => 0))), (q44, .inl (k44, 700, .inl (fun _ => 0))), (q53, .inl (k53, 700, .inl (fun _ => 0)))] := hD
  have hK : va_K (dC, dI) vwCl [(k8, .long), (k17, .int), (k26, .int), (k35, .int), (k44, .int), (k53, .int)] s := hK
  refine va_putF (D := (dC, dI)) (ci := 9) (v := .ref q53) (ty := (tyX6 5)) (C := RX6) (T := TX6) (N := 15) hx hb hu iuX6 tyX6 tyX6_ok nmX6 hown hK hP hD hS 0 rfl rfl 5 (by decide) (hu _ mG_452) (fun _ h9 => h9) rfl hin rfl (by decide +kernel) (rfl) (rfl) (Nat.le_of_ble_eq_true rfl) dX6_init_55 (fun H locs hP hD hS => ?_)
  have hP : va_P (dC, dI) vwCl [(a, .inr (9, [.ref q8, .ref q17, .ref q26, .ref q35, .ref q44, .ref q53, .null, .null, .int 0, .null, .null, .null, .null, .null, .int 0])), (q8, .inl (k8, 3500, .inr (.inl (fun _ => 0)))), (q17, .inl (k17, 700, .inl (fun _ => 0))), (q26, .inl (k26, 700, .inl (fun _ => 0))), (q35, .inl (k35, 700, .inl (fun _ => 0))), (q44, .inl (k44, 700, .inl (fun _ => 0))), (q53, .inl (k53, 700, .inl (fun _ => 0)))] H := hP
  have hD : va_D A [(a, .inr (9, [.ref q8, .ref q17, .ref q26, .ref q35, .ref q44, .ref q53, .null, .null, .int 0, .null, .null, .null, .null, .null, .int 0])), (q8, .inl (k8, 3500, .inr (.inl (fun _ => 0)))), (q17, .inl (k17, 700, .inl (fun _ => 0))), (q26, .inl (k26, 700, .inl (fun _ => 0))), (q35, .inl (k35, 700, .inl (fun _ => 0))), (q44, .inl (k44, 700, .inl (fun _ => 0))), (q53, .inl (k53, 700, .inl (fun _ => 0)))] := hD
  refine lv_aload_n hx hb dX6_init_58 rfl (lv_at hl 0 rfl) ?_
  refine lv_sipush (v := 700) hx hb dX6_init_59 (by decide) ?_
  refine va_newa (atype := .int) (N' := 700) (a0 := (700, .inl (fun _ => 0))) hx hb (hu _ mG_373) rfl hK hP hD hS hA (fun _ => rfl) (by decide +kernel) (by decide +kernel) (by decide +kernel) (Nat.le_of_ble_eq_true rfl) (Nat.le_of_ble_eq_true rfl) dX6_init_62 (fun q62 k62 H hK hP hD hS => ?_)
  have hP : va_P (dC, dI) vwCl [(a, .inr (9, [.ref q8, .ref q17, .ref q26, .ref q35, .ref q44, .ref q53, .null, .null, .int 0, .null, .null, .null, .null, .null, .int 0])), (q8, .inl (k8, 3500, .inr (.inl (fun _ => 0)))), (q17, .inl (k17, 700, .inl (fun _ => 0))), (q26, .inl (k26, 700, .inl (fun _ => 0))), (q35, .inl (k35, 700, .inl (fun _ => 0))), (q44, .inl (k44, 700, .inl (fun _ => 0))), (q53, .inl (k53, 700, .inl (fun _ => 0))), (q62, .inl (k62, 700, .inl (fun _ => 0)))] H := hP
  have hD : va_D A [(a, .inr (9, [.ref q8, .ref q17, .ref q26, .ref q35, .ref q44, .ref q53, .null, .null, .int 0, .null, .null, .null, .null, .null, .int 0])), (q8, .inl (k8, 3500, .inr (.inl (fun _ => 0)))), (q17, .inl (k17, 700, .inl (fun _ => 0))), (q26, .inl (k26, 700, .inl (fun _ => 0))), (q35, .inl (k35, 700, .inl (fun _ => 0))), (q44, .inl (k44, 700, .inl (fun _ => 0))), (q53, .inl (k53, 700, .inl (fun _ => 0))), (q62, .inl (k62, 700, .inl (fun _ => 0)))] := hD
  have hK : va_K (dC, dI) vwCl [(k8, .long), (k17, .int), (k26, .int), (k35, .int), (k44, .int), (k53, .int), (k62, .int)] s := hK
  refine va_putF (D := (dC, dI)) (ci := 9) (v := .ref q62) (ty := (tyX6 6)) (C := RX6) (T := TX6) (N := 15) hx hb hu iuX6 tyX6 tyX6_ok nmX6 hown hK hP hD hS 0 rfl rfl 6 (by decide) (hu _ mG_454) (fun _ h9 => h9) rfl hin rfl (by decide +kernel) (rfl) (rfl) (Nat.le_of_ble_eq_true rfl) dX6_init_64 (fun H locs hP hD hS => ?_)
  have hP : va_P (dC, dI) vwCl [(a, .inr (9, [.ref q8, .ref q17, .ref q26, .ref q35, .ref q44, .ref q53, .ref q62, .null, .int 0, .null, .null, .null, .null, .null, .int 0])), (q8, .inl (k8, 3500, .inr (.inl (fun _ => 0)))), (q17, .inl (k17, 700, .inl (fun _ => 0))), (q26, .inl (k26, 700, .inl (fun _ => 0))), (q35, .inl (k35, 700, .inl (fun _ => 0))), (q44, .inl (k44, 700, .inl (fun _ => 0))), (q53, .inl (k53, 700, .inl (fun _ => 0))), (q62, .inl (k62, 700, .inl (fun _ => 0)))] H := hP
  have hD : va_D A [(a, .inr (9, [.ref q8, .ref q17, .ref q26, .ref q35, .ref q44, .ref q53, .ref q62, .null, .int 0, .null, .null, .null, .null, .null, .int 0])), (q8, .inl (k8, 3500, .inr (.inl (fun _ => 0)))), (q17, .inl (k17, 700, .inl (fun _ => 0))), (q26, .inl (k26, 700, .inl (fun _ => 0))), (q35, .inl (k35, 700, .inl (fun _ => 0))), (q44, .inl (k44, 700, .inl (fun _ => 0))), (q53, .inl (k53, 700, .inl (fun _ => 0))), (q62, .inl (k62, 700, .inl (fun _ => 0)))] := hD
  refine lv_aload_n hx hb dX6_init_67 rfl (lv_at hl 0 rfl) ?_
  refine lv_sipush (v := 700) hx hb dX6_init_68 (by decide) ?_
  refine va_newa (atype := .int) (N' := 700) (a0 := (700, .inl (fun _ => 0))) hx hb (hu _ mG_373) rfl hK hP hD hS hA (fun _ => rfl) (by decide +kernel) (by decide +kernel) (by decide +kernel) (Nat.le_of_ble_eq_true rfl) (Nat.le_of_ble_eq_true rfl) dX6_init_71 (fun q71 k71 H hK hP hD hS => ?_)
  have hP : va_P (dC, dI) vwCl [(a, .inr (9, [.ref q8, .ref q17, .ref q26, .ref q35, .ref q44, .ref q53, .ref q62, .null, .int 0, .null, .null, .null, .null, .null, .int 0])), (q8, .inl (k8, 3500, .inr (.inl (fun _ => 0)))), (q17, .inl (k17, 700, .inl (fun _ => 0))), (q26, .inl (k26, 700, .inl (fun _ => 0))), (q35, .inl (k35, 700, .inl (fun _ => 0))), (q44, .inl (k44, 700, .inl (fun _ => 0))), (q53, .inl (k53, 700, .inl (fun _ => 0))), (q62, .inl (k62, 700, .inl (fun _ => 0))), (q71, .inl (k71, 700, .inl (fun _ => 0)))] H := hP
  have hD : va_D A [(a, .inr (9, [.ref q8, .ref q17, .ref q26, .ref q35, .ref q44, .ref q53, .ref q62, .null, .int 0, .null, .null, .null, .null, .null, .int 0])), (q8, .inl (k8, 3500, .inr (.inl (fun _ => 0)))), (q17, .inl (k17, 700, .inl (fun _ => 0))), (q26, .inl (k26, 700, .inl (fun _ => 0))), (q35, .inl (k35, 700, .inl (fun _ => 0))), (q44, .inl (k44, 700, .inl (fun _ => 0))), (q53, .inl (k53, 700, .inl (fun _ => 0))), (q62, .inl (k62, 700, .inl (fun _ => 0))), (q71, .inl (k71, 700, .inl (fun _ => 0)))] := hD
  have hK : va_K (dC, dI) vwCl [(k8, .long), (k17, .int), (k26, .int), (k35, .int), (k44, .int), (k53, .int), (k62, .int), (k71, .int)] s := hK
  refine va_putF (D := (dC, dI)) (ci := 9) (v := .ref q71) (ty := (tyX6 7)) (C := RX6) (T := TX6) (N := 15) hx hb hu iuX6 tyX6 tyX6_ok nmX6 hown hK hP hD hS 0 rfl rfl 7 (by decide) (hu _ mG_456) (fun _ h9 => h9) rfl hin rfl (by decide +kernel) (rfl) (rfl) (Nat.le_of_ble_eq_true rfl) dX6_init_73 (fun H locs hP hD hS => ?_)
  have hP : va_P (dC, dI) vwCl [(a, .inr (9, [.ref q8, .ref q17, .ref q26, .ref q35, .ref q44, .ref q53, .ref q62, .ref q71, .int 0, .null, .null, .null, .null, .null, .int 0])), (q8, .inl (k8, 3500, .inr (.inl (fun _ => 0)))), (q17, .inl (k17, 700, .inl (fun _ => 0))), (q26, .inl (k26, 700, .inl (fun _ => 0))), (q35, .inl (k35, 700, .inl (fun _ => 0))), (q44, .inl (k44, 700, .inl (fun _ => 0))), (q53, .inl (k53, 700, .inl (fun _ => 0))), (q62, .inl (k62, 700, .inl (fun _ => 0))), (q71, .inl (k71, 700, .inl (fun _ => 0)))] H := hP
  have hD : va_D A [(a, .inr (9, [.ref q8, .ref q17, .ref q26, .ref q35, .ref q44, .ref q53, .ref q62, .ref q71, .int 0, .null, .null, .null, .null, .null, .int 0])), (q8, .inl (k8, 3500, .inr (.inl (fun _ => 0)))), (q17, .inl (k17, 700, .inl (fun _ => 0))), (q26, .inl (k26, 700, .inl (fun _ => 0))), (q35, .inl (k35, 700, .inl (fun _ => 0))), (q44, .inl (k44, 700, .inl (fun _ => 0))), (q53, .inl (k53, 700, .inl (fun _ => 0))), (q62, .inl (k62, 700, .inl (fun _ => 0))), (q71, .inl (k71, 700, .inl (fun _ => 0)))] := hD
  refine lv_aload_n hx hb dX6_init_76 rfl (lv_at hl 0 rfl) ?_
  refine lv_sipush (v := 600) hx hb dX6_init_77 (by decide) ?_
  refine va_newa (atype := .long) (N' := 600) (a0 := (600, .inr (.inl (fun _ => 0)))) hx hb (hu _ mG_372) rfl hK hP hD hS hA (fun _ => rfl) (by decide +kernel) (by decide +kernel) (by decide +kernel) (Nat.le_of_ble_eq_true rfl) (Nat.le_of_ble_eq_true rfl) dX6_init_80 (fun q80 k80 H hK hP hD hS => ?_)
  have hP : va_P (dC, dI) vwCl [(a, .inr (9, [.ref q8, .ref q17, .ref q26, .ref q35, .ref q44, .ref q53, .ref q62, .ref q71, .int 0, .null, .null, .null, .null, .null, .int 0])), (q8, .inl (k8, 3500, .inr (.inl (fun _ => 0)))), (q17, .inl (k17, 700, .inl (fun _ => 0))), (q26, .inl (k26, 700, .inl (fun _ => 0))), (q35, .inl (k35, 700, .inl (fun _ => 0))), (q44, .inl (k44, 700, .inl (fun _ => 0))), (q53, .inl (k53, 700, .inl (fun _ => 0))), (q62, .inl (k62, 700, .inl (fun _ => 0))), (q71, .inl (k71, 700, .inl (fun _ => 0))), (q80, .inl (k80, 600, .inr (.inl (fun _ => 0))))] H := hP
  have hD : va_D A [(a, .inr (9, [.ref q8, .ref q17, .ref q26, .ref q35, .ref q44, .ref q53, .ref q62, .ref q71, .int 0, .null, .null, .null, .null, .null, .int 0])), (q8, .inl (k8, 3500, .inr (.inl (fun _ => 0)))), (q17, .inl (k17, 700, .inl (fun _ => 0))), (q26, .inl (k26, 700, .inl (fun _ => 0))), (q35, .inl (k35, 700, .inl (fun _ => 0))), (q44, .inl (k44, 700, .inl (fun _ => 0))), (q53, .inl (k53, 700, .inl (fun _ => 0))), (q62, .inl (k62, 700, .inl (fun _ => 0))), (q71, .inl (k71, 700, .inl (fun _ => 0))), (q80, .inl (k80, 600, .inr (.inl (fun _ => 0))))] := hD
  have hK : va_K (dC, dI) vwCl [(k8, .long), (k17, .int), (k26, .int), (k35, .int), (k44, .int), (k53, .int), (k62, .int), (k71, .int), (k80, .long)] s := hK
  refine va_putF (D := (dC, dI)) (ci := 9) (v := .ref q80) (ty := (tyX6 9)) (C := RX6) (T := TX6) (N := 15) hx hb hu iuX6 tyX6 tyX6_ok nmX6 hown hK hP hD hS 0 rfl rfl 9 (by decide) (hu _ mG_460) (fun _ h9 => h9) rfl hin rfl (by decide +kernel) (rfl) (rfl) (Nat.le_of_ble_eq_true rfl) dX6_init_82 (fun H locs hP hD hS => ?_)
  have hP : va_P (dC, dI) vwCl [(a, .inr (9, [.ref q8, .ref q17, .ref q26, .ref q35, .ref q44, .ref q53, .ref q62, .ref q71, .int 0, .ref q80, .null, .null, .null, .null, .int 0])), (q8, .inl (k8, 3500, .inr (.inl (fun _ => 0)))), (q17, .inl (k17, 700, .inl (fun _ => 0))), (q26, .inl (k26, 700, .inl (fun _ => 0))), (q35, .inl (k35, 700, .inl (fun _ => 0))), (q44, .inl (k44, 700, .inl (fun _ => 0))), (q53, .inl (k53, 700, .inl (fun _ => 0))), (q62, .inl (k62, 700, .inl (fun _ => 0))), (q71, .inl (k71, 700, .inl (fun _ => 0))), (q80, .inl (k80, 600, .inr (.inl (fun _ => 0))))] H := hP
  have hD : va_D A [(a, .inr (9, [.ref q8, .ref q17, .ref q26, .ref q35, .ref q44, .ref q53, .ref q62, .ref q71, .int 0, .ref q80, .null, .null, .null, .null, .int 0])), (q8, .inl (k8, 3500, .inr (.inl (fun _ => 0)))), (q17, .inl (k17, 700, .inl (fun _ => 0))), (q26, .inl (k26, 700, .inl (fun _ => 0))), (q35, .inl (k35, 700, .inl (fun _ => 0))), (q44, .inl (k44, 700, .inl (fun _ => 0))), (q53, .inl (k53, 700, .inl (fun _ => 0))), (q62, .inl (k62, 700, .inl (fun _ => 0))), (q71, .inl (k71, 700, .inl (fun _ => 0))), (q80, .inl (k80, 600, .inr (.inl (fun _ => 0))))] := hD
  refine lv_aload_n hx hb dX6_init_85 rfl (lv_at hl 0 rfl) ?_
  refine lv_sipush (v := 600) hx hb dX6_init_86 (by decide) ?_
  refine va_newa (atype := .int) (N' := 600) (a0 := (600, .inl (fun _ => 0))) hx hb (hu _ mG_373) rfl hK hP hD hS hA (fun _ => rfl) (by decide +kernel) (by decide +kernel) (by decide +kernel) (Nat.le_of_ble_eq_true rfl) (Nat.le_of_ble_eq_true rfl) dX6_init_89 (fun q89 k89 H hK hP hD hS => ?_)
  have hP : va_P (dC, dI) vwCl [(a, .inr (9, [.ref q8, .ref q17, .ref q26, .ref q35, .ref q44, .ref q53, .ref q62, .ref q71, .int 0, .ref q80, .null, .null, .null, .null, .int 0])), (q8, .inl (k8, 3500, .inr (.inl (fun _ => 0)))), (q17, .inl (k17, 700, .inl (fun _ => 0))), (q26, .inl (k26, 700, .inl (fun _ => 0))), (q35, .inl (k35, 700, .inl (fun _ => 0))), (q44, .inl (k44, 700, .inl (fun _ => 0))), (q53, .inl (k53, 700, .inl (fun _ => 0))), (q62, .inl (k62, 700, .inl (fun _ => 0))), (q71, .inl (k71, 700, .inl (fun _ => 0))), (q80, .inl (k80, 600, .inr (.inl (fun _ => 0)))), (q89, .inl (k89, 600, .inl (fun _ => 0)))] H := hP
  have hD : va_D A [(a, .inr (9, [.ref q8, .ref q17, .ref q26, .ref q35, .ref q44, .ref q53, .ref q62, .ref q71, .int 0, .ref q80, .null, .null, .null, .null, .int 0])), (q8, .inl (k8, 3500, .inr (.inl (fun _ => 0)))), (q17, .inl (k17, 700, .inl (fun _ => 0))), (q26, .inl (k26, 700, .inl (fun _ => 0))), (q35, .inl (k35, 700, .inl (fun _ => 0))), (q44, .inl (k44, 700, .inl (fun _ => 0))), (q53, .inl (k53, 700, .inl (fun _ => 0))), (q62, .inl (k62, 700, .inl (fun _ => 0))), (q71, .inl (k71, 700, .inl (fun _ => 0))), (q80, .inl (k80, 600, .inr (.inl (fun _ => 0)))), (q89, .inl (k89, 600, .inl (fun _ => 0)))] := hD
  have hK : va_K (dC, dI) vwCl [(k8, .long), (k17, .int), (k26, .int), (k35, .int), (k44, .int), (k53, .int), (k62, .int), (k71, .int), (k80, .long), (k89, .int)] s := hK
  refine va_putF (D := (dC, dI)) (ci := 9) (v := .ref q89) (ty := (tyX6 10)) (C := RX6) (T := TX6) (N := 15) hx hb hu iuX6 tyX6 tyX6_ok nmX6 hown hK hP hD hS 0 rfl rfl 10 (by decide) (hu _ mG_462) (fun _ h9 => h9) rfl hin rfl (by decide +kernel) (rfl) (rfl) (Nat.le_of_ble_eq_true rfl) dX6_init_91 (fun H locs hP hD hS => ?_)
  have hP : va_P (dC, dI) vwCl [(a, .inr (9, [.ref q8, .ref q17, .ref q26, .ref q35, .ref q44, .ref q53, .ref q62, .ref q71, .int 0, .ref q80, .ref q89, .null, .null, .null, .int 0])), (q8, .inl (k8, 3500, .inr (.inl (fun _ => 0)))), (q17, .inl (k17, 700, .inl (fun _ => 0))), (q26, .inl (k26, 700, .inl (fun _ => 0))), (q35, .inl (k35, 700, .inl (fun _ => 0))), (q44, .inl (k44, 700, .inl (fun _ => 0))), (q53, .inl (k53, 700, .inl (fun _ => 0))), (q62, .inl (k62, 700, .inl (fun _ => 0))), (q71, .inl (k71, 700, .inl (fun _ => 0))), (q80, .inl (k80, 600, .inr (.inl (fun _ => 0)))), (q89, .inl (k89, 600, .inl (fun _ => 0)))] H := hP
  have hD : va_D A [(a, .inr (9, [.ref q8, .ref q17, .ref q26, .ref q35, .ref q44, .ref q53, .ref q62, .ref q71, .int 0, .ref q80, .ref q89, .null, .null, .null, .int 0])), (q8, .inl (k8, 3500, .inr (.inl (fun _ => 0)))), (q17, .inl (k17, 700, .inl (fun _ => 0))), (q26, .inl (k26, 700, .inl (fun _ => 0))), (q35, .inl (k35, 700, .inl (fun _ => 0))), (q44, .inl (k44, 700, .inl (fun _ => 0))), (q53, .inl (k53, 700, .inl (fun _ => 0))), (q62, .inl (k62, 700, .inl (fun _ => 0))), (q71, .inl (k71, 700, .inl (fun _ => 0))), (q80, .inl (k80, 600, .inr (.inl (fun _ => 0)))), (q89, .inl (k89, 600, .inl (fun _ => 0)))] := hD
  refine lv_aload_n hx hb dX6_init_94 rfl (lv_at hl 0 rfl) ?_
  refine lv_sipush (v := 600) hx hb dX6_init_95 (by decide) ?_
  refine va_newa (atype := .int) (N' := 600) (a0 := (600, .inl (fun _ => 0))) hx hb (hu _ mG_373) rfl hK hP hD hS hA (fun _ => rfl) (by decide +kernel) (by decide +kernel) (by decide +kernel) (Nat.le_of_ble_eq_true rfl) (Nat.le_of_ble_eq_true rfl) dX6_init_98 (fun q98 k98 H hK hP hD hS => ?_)
  have hP : va_P (dC, dI) vwCl [(a, .inr (9, [.ref q8, .ref q17, .ref q26, .ref q35, .ref q44, .ref q53, .ref q62, .ref q71, .int 0, .ref q80, .ref q89, .null, .null, .null, .int 0])), (q8, .inl (k8, 3500, .inr (.inl (fun _ => 0)))), (q17, .inl (k17, 700, .inl (fun _ => 0))), (q26, .inl (k26, 700, .inl (fun _ => 0))), (q35, .inl (k35, 700, .inl (fun _ => 0))), (q44, .inl (k44, 700, .inl (fun _ => 0))), (q53, .inl (k53, 700, .inl (fun _ => 0))), (q62, .inl (k62, 700, .inl (fun _ => 0))), (q71, .inl (k71, 700, .inl (fun _ => 0))), (q80, .inl (k80, 600, .inr (.inl (fun _ => 0)))), (q89, .inl (k89, 600, .inl (fun _ => 0))), (q98, .inl (k98, 600, .inl (fun _ => 0)))] H := hP
  have hD : va_D A [(a, .inr (9, [.ref q8, .ref q17, .ref q26, .ref q35, .ref q44, .ref q53, .ref q62, .ref q71, .int 0, .ref q80, .ref q89, .null, .null, .null, .int 0])), (q8, .inl (k8, 3500, .inr (.inl (fun _ => 0)))), (q17, .inl (k17, 700, .inl (fun _ => 0))), (q26, .inl (k26, 700, .inl (fun _ => 0))), (q35, .inl (k35, 700, .inl (fun _ => 0))), (q44, .inl (k44, 700, .inl (fun _ => 0))), (q53, .inl (k53, 700, .inl (fun _ => 0))), (q62, .inl (k62, 700, .inl (fun _ => 0))), (q71, .inl (k71, 700, .inl (fun _ => 0))), (q80, .inl (k80, 600, .inr (.inl (fun _ => 0)))), (q89, .inl (k89, 600, .inl (fun _ => 0))), (q98, .inl (k98, 600, .inl (fun _ => 0)))] := hD
  have hK : va_K (dC, dI) vwCl [(k8, .long), (k17, .int), (k26, .int), (k35, .int), (k44, .int), (k53, .int), (k62, .int), (k71, .int), (k80, .long), (k89, .int), (k98, .int)] s := hK
  refine va_putF (D := (dC, dI)) (ci := 9) (v := .ref q98) (ty := (tyX6 11)) (C := RX6) (T := TX6) (N := 15) hx hb hu iuX6 tyX6 tyX6_ok nmX6 hown hK hP hD hS 0 rfl rfl 11 (by decide) (hu _ mG_464) (fun _ h9 => h9) rfl hin rfl (by decide +kernel) (rfl) (rfl) (Nat.le_of_ble_eq_true rfl) dX6_init_100 (fun H locs hP hD hS => ?_)
  have hP : va_P (dC, dI) vwCl [(a, .inr (9, [.ref q8, .ref q17, .ref q26, .ref q35, .ref q44, .ref q53, .ref q62, .ref q71, .int 0, .ref q80, .ref q89, .ref q98, .null, .null, .int 0])), (q8, .inl (k8, 3500, .inr (.inl (fun _ => 0)))), (q17, .inl (k17, 700, .inl (fun _ => 0))), (q26, .inl (k26, 700, .inl (fun _ => 0))), (q35, .inl (k35, 700, .inl (fun _ => 0))), (q44, .inl (k44, 700, .inl (fun _ => 0))), (q53, .inl (k53, 700, .inl (fun _ => 0))), (q62, .inl (k62, 700, .inl (fun _ => 0))), (q71, .inl (k71, 700, .inl (fun _ => 0))), (q80, .inl (k80, 600, .inr (.inl (fun _ => 0)))), (q89, .inl (k89, 600, .inl (fun _ => 0))), (q98, .inl (k98, 600, .inl (fun _ => 0)))] H := hP
  have hD : va_D A [(a, .inr (9, [.ref q8, .ref q17, .ref q26, .ref q35, .ref q44, .ref q53, .ref q62, .ref q71, .int 0, .ref q80, .ref q89, .ref q98, .null, .null, .int 0])), (q8, .inl (k8, 3500, .inr (.inl (fun _ => 0)))), (q17, .inl (k17, 700, .inl (fun _ => 0))), (q26, .inl (k26, 700, .inl (fun _ => 0))), (q35, .inl (k35, 700, .inl (fun _ => 0))), (q44, .inl (k44, 700, .inl (fun _ => 0))), (q53, .inl (k53, 700, .inl (fun _ => 0))), (q62, .inl (k62, 700, .inl (fun _ => 0))), (q71, .inl (k71, 700, .inl (fun _ => 0))), (q80, .inl (k80, 600, .inr (.inl (fun _ => 0)))), (q89, .inl (k89, 600, .inl (fun _ => 0))), (q98, .inl (k98, 600, .inl (fun _ => 0)))] := hD
  refine lv_aload_n hx hb dX6_init_103 rfl (lv_at hl 0 rfl) ?_
  refine lv_sipush (v := 600) hx hb dX6_init_104 (by decide) ?_
  refine va_newa (atype := .int) (N' := 600) (a0 := (600, .inl (fun _ => 0))) hx hb (hu _ mG_373) rfl hK hP hD hS hA (fun _ => rfl) (by decide +kernel) (by decide +kernel) (by decide +kernel) (Nat.le_of_ble_eq_true rfl) (Nat.le_of_ble_eq_true rfl) dX6_init_107 (fun q107 k107 H hK hP hD hS => ?_)
  have hP : va_P (dC, dI) vwCl [(a, .inr (9, [.ref q8, .ref q17, .ref q26, .ref q35, .ref q44, .ref q53, .ref q62, .ref q71, .int 0, .ref q80, .ref q89, .ref q98, .null, .null, .int 0])), (q8, .inl (k8, 3500, .inr (.inl (fun _ => 0)))), (q17, .inl (k17, 700, .inl (fun _ => 0))), (q26, .inl (k26, 700, .inl (fun _ => 0))), (q35, .inl (k35, 700, .inl (fun _ => 0))), (q44, .inl (k44, 700, .inl (fun _ => 0))), (q53, .inl (k53, 700, .inl (fun _ => 0))), (q62, .inl (k62, 700, .inl (fun _ => 0))), (q71, .inl (k71, 700, .inl (fun _ => 0))), (q80, .inl (k80, 600, .inr (.inl (fun _ => 0)))), (q89, .inl (k89, 600, .inl (fun _ => 0))), (q98, .inl (k98, 600, .inl (fun _ => 0))), (q107, .inl (k107, 600, .inl (fun _ => 0)))] H := hP
  have hD : va_D A [(a, .inr (9, [.ref q8, .ref q17, .ref q26, .ref q35, .ref q44, .ref q53, .ref q62, .ref q71, .int 0, .ref q80, .ref q89, .ref q98, .null, .null, .int 0])), (q8, .inl (k8, 3500, .inr (.inl (fun _ => 0)))), (q17, .inl (k17, 700, .inl (fun _ => 0))), (q26, .inl (k26, 700, .inl (fun _ => 0))), (q35, .inl (k35, 700, .inl (fun _ => 0))), (q44, .inl (k44, 700, .inl (fun _ => 0))), (q53, .inl (k53, 700, .inl (fun _ => 0))), (q62, .inl (k62, 700, .inl (fun _ => 0))), (q71, .inl (k71, 700, .inl (fun _ => 0))), (q80, .inl (k80, 600, .inr (.inl (fun _ => 0)))), (q89, .inl (k89, 600, .inl (fun _ => 0))), (q98, .inl (k98, 600, .inl (fun _ => 0))), (q107, .inl (k107, 600, .inl (fun _ => 0)))] := hD
  have hK : va_K (dC, dI) vwCl [(k8, .long), (k17, .int), (k26, .int), (k35, .int), (k44, .int), (k53, .int), (k62, .int), (k71, .int), (k80, .long), (k89, .int), (k98, .int), (k107, .int)] s := hK
  refine va_putF (D := (dC, dI)) (ci := 9) (v := .ref q107) (ty := (tyX6 12)) (C := RX6) (T := TX6) (N := 15) hx hb hu iuX6 tyX6 tyX6_ok nmX6 hown hK hP hD hS 0 rfl rfl 12 (by decide) (hu _ mG_466) (fun _ h9 => h9) rfl hin rfl (by decide +kernel) (rfl) (rfl) (Nat.le_of_ble_eq_true rfl) dX6_init_109 (fun H locs hP hD hS => ?_)
  have hP : va_P (dC, dI) vwCl [(a, .inr (9, [.ref q8, .ref q17, .ref q26, .ref q35, .ref q44, .ref q53, .ref q62, .ref q71, .int 0, .ref q80, .ref q89, .ref q98, .ref q107, .null, .int 0])), (q8, .inl (k8, 3500, .inr (.inl (fun _ => 0)))), (q17, .inl (k17, 700, .inl (fun _ => 0))), (q26, .inl (k26, 700, .inl (fun _ => 0))), (q35, .inl (k35, 700, .inl (fun _ => 0))), (q44, .inl (k44, 700, .inl (fun _ => 0))), (q53, .inl (k53, 700, .inl (fun _ => 0))), (q62, .inl (k62, 700, .inl (fun _ => 0))), (q71, .inl (k71, 700, .inl (fun _ => 0))), (q80, .inl (k80, 600, .inr (.inl (fun _ => 0)))), (q89, .inl (k89, 600, .inl (fun _ => 0))), (q98, .inl (k98, 600, .inl (fun _ => 0))), (q107, .inl (k107, 600, .inl (fun _ => 0)))] H := hP
  have hD : va_D A [(a, .inr (9, [.ref q8, .ref q17, .ref q26, .ref q35, .ref q44, .ref q53, .ref q62, .ref q71, .int 0, .ref q80, .ref q89, .ref q98, .ref q107, .null, .int 0])), (q8, .inl (k8, 3500, .inr (.inl (fun _ => 0)))), (q17, .inl (k17, 700, .inl (fun _ => 0))), (q26, .inl (k26, 700, .inl (fun _ => 0))), (q35, .inl (k35, 700, .inl (fun _ => 0))), (q44, .inl (k44, 700, .inl (fun _ => 0))), (q53, .inl (k53, 700, .inl (fun _ => 0))), (q62, .inl (k62, 700, .inl (fun _ => 0))), (q71, .inl (k71, 700, .inl (fun _ => 0))), (q80, .inl (k80, 600, .inr (.inl (fun _ => 0)))), (q89, .inl (k89, 600, .inl (fun _ => 0))), (q98, .inl (k98, 600, .inl (fun _ => 0))), (q107, .inl (k107, 600, .inl (fun _ => 0)))] := hD
  refine lv_aload_n hx hb dX6_init_112 rfl (lv_at hl 0 rfl) ?_
  refine lv_sipush (v := 600) hx hb dX6_init_113 (by decide) ?_
  refine va_newa (atype := .int) (N' := 600) (a0 := (600, .inl (fun _ => 0))) hx hb (hu _ mG_373) rfl hK hP hD hS hA (fun _ => rfl) (by decide +kernel) (by decide +kernel) (by decide +kernel) (Nat.le_of_ble_eq_true rfl) (Nat.le_of_ble_eq_true rfl) dX6_init_116 (fun q116 k116 H hK hP hD hS => ?_)
  have hP : va_P (dC, dI) vwCl [(a, .inr (9, [.ref q8, .ref q17, .ref q26, .ref q35, .ref q44, .ref q53, .ref q62, .ref q71, .int 0, .ref q80, .ref q89, .ref q98, .ref q107, .null, .int 0])), (q8, .inl (k8, 3500, .inr (.inl (fun _ => 0)))), (q17, .inl (k17, 700, .inl (fun _ => 0))), (q26, .inl (k26, 700, .inl (fun _ => 0))), (q35, .inl (k35, 700, .inl (fun _ => 0))), (q44, .inl (k44, 700, .inl (fun _ => 0))), (q53, .inl (k53, 700, .inl (fun _ => 0))), (q62, .inl (k62, 700, .inl (fun _ => 0))), (q71, .inl (k71, 700, .inl (fun _ => 0))), (q80, .inl (k80, 600, .inr (.inl (fun _ => 0)))), (q89, .inl (k89, 600, .inl (fun _ => 0))), (q98, .inl (k98, 600, .inl (fun _ => 0))), (q107, .inl (k107, 600, .inl (fun _ => 0))), (q116, .inl (k116, 600, .inl (fun _ => 0)))] H := hP
  have hD : va_D A [(a, .inr (9, [.ref q8, .ref q17, .ref q26, .ref q35, .ref q44, .ref q53, .ref q62, .ref q71, .int 0, .ref q80, .ref q89, .ref q98, .ref q107, .null, .int 0])), (q8, .inl (k8, 3500, .inr (.inl (fun _ => 0)))), (q17, .inl (k17, 700, .inl (fun _ => 0))), (q26, .inl (k26, 700, .inl (fun _ => 0))), (q35, .inl (k35, 700, .inl (fun _ => 0))), (q44, .inl (k44, 700, .inl (fun _ => 0))), (q53, .inl (k53, 700, .inl (fun _ => 0))), (q62, .inl (k62, 700, .inl (fun _ => 0))), (q71, .inl (k71, 700, .inl (fun _ => 0))), (q80, .inl (k80, 600, .inr (.inl (fun _ => 0)))), (q89, .inl (k89, 600, .inl (fun _ => 0))), (q98, .inl (k98, 600, .inl (fun _ => 0))), (q107, .inl (k107, 600, .inl (fun _ => 0))), (q116, .inl (k116, 600, .inl (fun _ => 0)))] := hD
  have hK : va_K (dC, dI) vwCl [(k8, .long), (k17, .int), (k26, .int), (k35, .int), (k44, .int), (k53, .int), (k62, .int), (k71, .int), (k80, .long), (k89, .int), (k98, .int), (k107, .int), (k116, .int)] s := hK
  refine va_putF (D := (dC, dI)) (ci := 9) (v := .ref q116) (ty := (tyX6 13)) (C := RX6) (T := TX6) (N := 15) hx hb hu iuX6 tyX6 tyX6_ok nmX6 hown hK hP hD hS 0 rfl rfl 13 (by decide) (hu _ mG_468) (fun _ h9 => h9) rfl hin rfl (by decide +kernel) (rfl) (rfl) (Nat.le_of_ble_eq_true rfl) dX6_init_118 (fun H locs hP hD hS => ?_)
  have hP : va_P (dC, dI) vwCl [(a, .inr (9, [.ref q8, .ref q17, .ref q26, .ref q35, .ref q44, .ref q53, .ref q62, .ref q71, .int 0, .ref q80, .ref q89, .ref q98, .ref q107, .ref q116, .int 0])), (q8, .inl (k8, 3500, .inr (.inl (fun _ => 0)))), (q17, .inl (k17, 700, .inl (fun _ => 0))), (q26, .inl (k26, 700, .inl (fun _ => 0))), (q35, .inl (k35, 700, .inl (fun _ => 0))), (q44, .inl (k44, 700, .inl (fun _ => 0))), (q53, .inl (k53, 700, .inl (fun _ => 0))), (q62, .inl (k62, 700, .inl (fun _ => 0))), (q71, .inl (k71, 700, .inl (fun _ => 0))), (q80, .inl (k80, 600, .inr (.inl (fun _ => 0)))), (q89, .inl (k89, 600, .inl (fun _ => 0))), (q98, .inl (k98, 600, .inl (fun _ => 0))), (q107, .inl (k107, 600, .inl (fun _ => 0))), (q116, .inl (k116, 600, .inl (fun _ => 0)))] H := hP
  have hD : va_D A [(a, .inr (9, [.ref q8, .ref q17, .ref q26, .ref q35, .ref q44, .ref q53, .ref q62, .ref q71, .int 0, .ref q80, .ref q89, .ref q98, .ref q107, .ref q116, .int 0])), (q8, .inl (k8, 3500, .inr (.inl (fun _ => 0)))), (q17, .inl (k17, 700, .inl (fun _ => 0))), (q26, .inl (k26, 700, .inl (fun _ => 0))), (q35, .inl (k35, 700, .inl (fun _ => 0))), (q44, .inl (k44, 700, .inl (fun _ => 0))), (q53, .inl (k53, 700, .inl (fun _ => 0))), (q62, .inl (k62, 700, .inl (fun _ => 0))), (q71, .inl (k71, 700, .inl (fun _ => 0))), (q80, .inl (k80, 600, .inr (.inl (fun _ => 0)))), (q89, .inl (k89, 600, .inl (fun _ => 0))), (q98, .inl (k98, 600, .inl (fun _ => 0))), (q107, .inl (k107, 600, .inl (fun _ => 0))), (q116, .inl (k116, 600, .inl (fun _ => 0)))] := hD
  refine W.widen (k := 13) (n := 11400) (by omega) (by omega) ?_
  exact W.vret hx hb hr (fun t ht hW => ⟨⟨(fun i => if i = 0 then q8 else if i = 1 then q17 else if i = 2 then q26 else if i = 3 then q35 else if i = 4 then q44 else if i = 5 then q53 else if i = 6 then q62 else if i = 7 then q71 else if i = 8 then q80 else if i = 9 then q89 else if i = 10 then q98 else if i = 11 then q107 else if i = 12 then q116 else 0, fun i => if i = 0 then k8 else if i = 1 then k17 else if i = 2 then k26 else if i = 3 then k35 else if i = 4 then k44 else if i = 5 then k53 else if i = 6 then k62 else if i = 7 then k71 else if i = 8 then k80 else if i = 9 then k89 else if i = 10 then k98 else if i = 11 then k107 else if i = 12 then k116 else k8), rfl, trivial, by rw [ht]; exact hP, va_K.moved hW.alike hK, hD⟩, hS.F ht⟩) hS.2.2 dX6_init_121
set_option maxHeartbeats 4000000 in
set_option maxRecDepth 100000 in
/-- Words(text) -/
theorem kX10_init (l : Launch) (dC : Nat → ClassId) (dI : Nat → Nat → Nat) (sz : Nat) (a : Nat) (te : Nat) : Met l yX10_init (Cond.code yX10_init cX10_init 2 none :: uG) ({ frames := 1, cells := 0, slots := (0), locals := 12 }) (va_Pc [.ref a, .ref te] (fun U => U.heap.size = sz ∧ va_P (dC, dI) vwCl [(a, .inr (13, [.null, .int 0, .int 0, .int 0, .int 0, .long 0]))] U.heap ∧ va_K (dC, dI) vwCl [] U ∧ va_D (fun _ => True) [(a, .inr (13, [.null, .int 0, .int 0, .int 0, .int 0, .long 0]))])) (va_Qv (S := (Nat → Nat) × (Nat → ClassId)) (fun _ => True) (fun u t => va_P (dC, dI) vwCl [(a, .inr (13, [.ref te, .int 0, .int 0, .int 0, .int 0, .long 0]))] t.heap ∧ va_K (dC, dI) vwCl [] t ∧ va_D (va_A [(a, .inr (13, [.null, .int 0, .int 0, .int 0, .int 0, .long 0]))] sz) [(a, .inr (13, [.ref te, .int 0, .int 0, .int 0, .int 0, .long 0]))]) (va_A [(a, .inr (13, [.null, .int 0, .int 0, .int 0, .int 0, .long 0]))] sz)) 0 (0) (va_A [(a, .inr (13, [.null, .int 0, .int 0, .int 0, .int 0, .long 0]))] sz) := by
  refine Met.ofW (cc := cX10_init) (maxL := 2) (ret := none) (by decide) rfl ?_
  intro p e s m args below meth c s₁ B hml hv
  obtain ⟨rfl, hsz, hP, hK, hD0⟩ := hv
  have hx := B.exec
  have hb := B.bytes
  have hr := B.returns
  have hts := atoms_spec (ws := Cond.code yX10_init cX10_init 2 none :: uG) B.pre
  have hu := fun (w : Cond) (h : w ∈ uG) => hts w (List.mem_cons_of_mem _ h)
  have hown : s.vm.findClass RX10 = some m.cls := findClass_of_methodNamed B.named
  have hlocks := B.notSynchronized
  have hin : meth.name = "<init>" := (name_of_methodNamed B.named B.method).1
  subst hsz
  have hD := hD0.self (sz := s.heap.size)
  generalize hAe : va_A [(a, .inr (13, [.null, .int 0, .int 0, .int 0, .int 0, .long 0]))] s.heap.size = A at hD ⊢
  have hA : ∀ q : Nat, s.heap.size ≤ q → A q := fun q h => by rw [← hAe]; exact Or.inr h
  have hS : va_S A s.heap s.heap [] := va_S.rf
  have hP : va_P (dC, dI) vwCl [(a, .inr (13, [.null, .int 0, .int 0, .int 0, .int 0, .long 0]))] s.heap := hP
  have hD : va_D A [(a, .inr (13, [.null, .int 0, .int 0, .int 0, .int 0, .long 0]))] := hD
  have hl := lv_entry ([.ref a, .ref te]) (n := 2) (Nat.le_of_ble_eq_true rfl)
  rw [lg_entry_eq]
  generalize (lg_sl ([.ref a, .ref te]) ++ List.replicate (2 - (lg_sl ([.ref a, .ref te])).length) Slot.unset).toArray = ls at hl ⊢
  have hl : lv_has ls 2 [(0, .ref a), (1, .ref te)] := hl
  refine lv_aload_n hx hb dX10_init_0 rfl (lv_at hl 0 rfl) ?_
  refine W.objInit hx hb hown (hu _ mG_514) (hu _ mG_254) (hu _ mG_255) rfl (by rw [hml]; exact hl.1) rfl dX10_init_1 (Nat.le_of_ble_eq_true rfl) (Nat.le_of_ble_eq_true rfl) ?_
  refine W.eq (g2 := F0 m 4 ls []) rfl ?_
  refine lv_aload_n hx hb dX10_init_4 rfl (lv_at hl 0 rfl) ?_
  refine lv_aload_n hx hb dX10_init_5 rfl (lv_at hl 1 rfl) ?_
  refine va_putF (D := (dC, dI)) (ci := 13) (v := .ref te) (ty := (tyX10 0)) (C := RX10) (T := TX10) (N := 6) hx hb hu iuX10 tyX10 tyX10_ok nmX10 hown hK hP hD hS 0 rfl rfl 0 (by decide) (hu _ mG_515) (fun _ h9 => h9) rfl hin rfl (by decide +kernel) (rfl) (rfl) (Nat.le_of_ble_eq_true rfl) dX10_init_6 (fun H locs hP hD hS => ?_)
  have hP : va_P (dC, dI) vwCl [(a, .inr (13, [.ref te, .int 0, .int 0, .int 0, .int 0, .long 0]))] H := hP
  have hD : va_D A [(a, .inr (13, [.ref te, .int 0, .int 0, .int 0, .int 0, .long 0]))] := hD
  refine W.widen (k := 0) (n := 0) (by omega) (by omega) ?_
  exact W.vret hx hb hr (fun t ht hW => ⟨⟨(fun _ => 0, fun _ => m.cls), rfl, trivial, by rw [ht]; exact hP, va_K.moved hW.alike hK, hD⟩, hS.F ht⟩) hS.2.2 dX10_init_9
set_option maxHeartbeats 4000000 in
set_option maxRecDepth 100000 in
/-- Reader(text, tree, program, scopes) -/
theorem kX5_init (l : Launch) (dC : Nat → ClassId) (dI : Nat → Nat → Nat) (sz : Nat) (a : Nat) (te tr pr sc : Nat) : Met l yX5_init (Cond.code yX5_init cX5_init 5 none :: uG) ({ frames := 2, cells := 1, slots := (6), locals := 33 }) (va_Pc [.ref a, .ref te, .ref tr, .ref pr, .ref sc] (fun U => U.heap.size = sz ∧ va_P (dC, dI) vwCl [(a, .inr (8, [.null, .null, .null, .null, .int 0, .int 0, .int 0, .int 0, .int 0]))] U.heap ∧ va_K (dC, dI) vwCl [] U ∧ va_D (fun _ => True) [(a, .inr (8, [.null, .null, .null, .null, .int 0, .int 0, .int 0, .int 0, .int 0]))])) (va_Qv (S := (Nat → Nat) × (Nat → ClassId)) (fun _ => True) (fun u t => va_P (dC, dI) vwCl [(a, .inr (8, [.ref (u.1 0), .ref tr, .ref pr, .ref sc, .int 0, .int 0, .int 0, .int 0, .int 0])), ((u.1 0), .inr (13, [.ref te, .int 0, .int 0, .int 0, .int 0, .long 0]))] t.heap ∧ va_K (dC, dI) vwCl [] t ∧ va_D (va_A [(a, .inr (8, [.null, .null, .null, .null, .int 0, .int 0, .int 0, .int 0, .int 0]))] sz) [(a, .inr (8, [.ref (u.1 0), .ref tr, .ref pr, .ref sc, .int 0, .int 0, .int 0, .int 0, .int 0])), ((u.1 0), .inr (13, [.ref te, .int 0, .int 0, .int 0, .int 0, .long 0]))]) (va_A [(a, .inr (8, [.null, .null, .null, .null, .int 0, .int 0, .int 0, .int 0, .int 0]))] sz)) 1 (6) (va_A [(a, .inr (8, [.null, .null, .null, .null, .int 0, .int 0, .int 0, .int 0, .int 0]))] sz) := by
  refine Met.ofW (cc := cX5_init) (maxL := 5) (ret := none) (by decide) rfl ?_
  intro p e s m args below meth c s₁ B hml hv
  obtain ⟨rfl, hsz, hP, hK, hD0⟩ := hv
  have hx := B.exec
  have hb := B.bytes
  have hr := B.returns
  have hts := atoms_spec (ws := Cond.code yX5_init cX5_init 5 none :: uG) B.pre
  have hu := fun (w : Cond) (h : w ∈ uG) => hts w (List.mem_cons_of_mem _ h)
  have hown : s.vm.findClass RX5 = some m.cls := findClass_of_methodNamed B.named
  have hlocks := B.notSynchronized
  have hin : meth.name = "<init>" := (name_of_methodNamed B.named B.method).1
  subst hsz
  have hD := hD0.self (sz := s.heap.size)
  generalize hAe : va_A [(a, .inr (8, [.null, .null, .null, .null, .int 0, .int 0, .int 0, .int 0, .int 0]))] s.heap.size = A at hD ⊢
  have hA : ∀ q : Nat, s.heap.size ≤ q → A q := fun q h => by rw [← hAe]; exact Or.inr h
  have hS : va_S A s.heap s.heap [] := va_S.rf
  have hP : va_P (dC, dI) vwCl [(a, .inr (8, [.null, .null, .null, .null, .int 0, .int 0, .int 0, .int 0, .int 0]))] s.heap := hP
  have hD : va_D A [(a, .inr (8, [.null, .null, .null, .null, .int 0, .int 0, .int 0, .int 0, .int 0]))] := hD
  have hl := lv_entry ([.ref a, .ref te, .ref tr, .ref pr, .ref sc]) (n := 5) (Nat.le_of_ble_eq_true rfl)
  rw [lg_entry_eq]
  generalize (lg_sl ([.ref a, .ref te, .ref tr, .ref pr, .ref sc]) ++ List.replicate (5 - (lg_sl ([.ref a, .ref te, .ref tr, .ref pr, .ref sc])).length) Slot.unset).toArray = ls at hl ⊢
  have hl : lv_has ls 5 [(0, .ref a), (1, .ref te), (2, .ref tr), (3, .ref pr), (4, .ref sc)] := hl
  refine lv_aload_n hx hb dX5_init_0 rfl (lv_at hl 0 rfl) ?_
  refine W.objInit hx hb hown (hu _ mG_508) (hu _ mG_254) (hu _ mG_255) rfl (by rw [hml]; exact hl.1) rfl dX5_init_1 (Nat.le_of_ble_eq_true rfl) (Nat.le_of_ble_eq_true rfl) ?_
  refine W.eq (g2 := F0 m 4 ls []) rfl ?_
  refine lv_aload_n hx hb dX5_init_4 rfl (lv_at hl 0 rfl) ?_
  refine va_new (ci := 13) (fs := [.null, .int 0, .int 0, .int 0, .int 0, .long 0]) (C := RX10) (T := TX10) (N := 6) hx hb hu iuX10 tyX10 tyX10_ok hown (hu _ mG_509) (hu _ mG_510) (hu _ mG_220) hK hP hD hS hA rfl (dfX10) (Nat.le_of_ble_eq_true rfl) (Nat.le_of_ble_eq_true rfl) dX5_init_5 (fun q5 H hP hD hS => ?_)
  have hP : va_P (dC, dI) vwCl [(a, .inr (8, [.null, .null, .null, .null, .int 0, .int 0, .int 0, .int 0, .int 0])), (q5, .inr (13, [.null, .int 0, .int 0, .int 0, .int 0, .long 0]))] H := hP
  have hD : va_D A [(a, .inr (8, [.null, .null, .null, .null, .int 0, .int 0, .int 0, .int 0, .int 0])), (q5, .inr (13, [.null, .int 0, .int 0, .int 0, .int 0, .long 0]))] := hD
  refine lv_dup hx hb dX5_init_8 rfl ?_
  refine lv_aload_n hx hb dX5_init_9 rfl (lv_at hl 1 rfl) ?_
  have hPc := hP.sub (ws' := [(q5, .inr (13, [.null, .int 0, .int 0, .int 0, .int 0, .long 0]))]) [1] rfl
  have hDc := hD.sub (ws' := [(q5, .inr (13, [.null, .int 0, .int 0, .int 0, .int 0, .long 0]))]) [1] (by decide) rfl
  have hKc := hK.sub (tys' := []) [] rfl
  have hFc := va_free (wc := [(q5, .inr (13, [.null, .int 0, .int 0, .int 0, .int 0, .long 0]))]) hD hS hA [1] rfl
  refine va_callv (va_runI (As := [.ref te]) (rest := [.ref q5, .ref a]) ⟨hx, hb, hml, hown, hu⟩ (kX10_init l dC dI H.size q5 te) (cwI 1 hu (uG_c (fun _ h => h) mG_513) rfl rfl rfl (hu _ mG_220) (hu _ mG_511) (hu _ mG_512) rfl (by decide +kernel) ⟨Nat.le_of_ble_eq_true rfl, Nat.le_of_ble_eq_true rfl⟩) ⟨fun a U g mk q => by obtain ⟨q0, q1, qP, qK, qD⟩ := q; exact ⟨q0, q1, qP, va_K.moved (u := U) (U := U.calling g mk a) (Vm.Alike.refl U.vm) qK, qD⟩, fun U hU hW => ⟨rfl, by rw [hU], by rw [hU]; exact hPc, va_K.moved hW.alike hKc, hDc.weaken (fun _ _ _ _ => trivial)⟩⟩ rfl rfl hl.1 rfl (lv_room (Nat.le_of_ble_eq_true rfl)) dX5_init_10 ⟨Nat.le_of_ble_eq_true rfl, Nat.le_of_ble_eq_true rfl⟩) hS (fun q _ h => hFc q h) hFc (fun u t H1 locs ht hvm hw hB hz1 hk1 hS => ?_)
  obtain ⟨a10, k10⟩ := u
  obtain ⟨hP1, hK1, hD1⟩ := hB
  rw [ht] at hP1
  obtain ⟨hP, hD⟩ := va_join (wr := [(a, .inr (8, [.null, .null, .null, .null, .int 0, .int 0, .int 0, .int 0, .int 0]))]) (w1 := [(q5, .inr (13, [.ref te, .int 0, .int 0, .int 0, .int 0, .long 0]))]) hP hD [1] [0] rfl rfl (by decide) (by decide) hk1 hFc hP1 hD1
  generalize H1 = H at hP hS ⊢
  have hP : va_P (dC, dI) vwCl [(a, .inr (8, [.null, .null, .null, .null, .int 0, .int 0, .int 0, .int 0, .int 0])), (q5, .inr (13, [.ref te, .int 0, .int 0, .int 0, .int 0, .long 0]))] H := hP
  have hD : va_D A [(a, .inr (8, [.null, .null, .null, .null, .int 0, .int 0, .int 0, .int 0, .int 0])), (q5, .inr (13, [.ref te, .int 0, .int 0, .int 0, .int 0, .long 0]))] := hD
  have hK := hK.app (va_K.moved hvm.symm hK1)
  have hK : va_K (dC, dI) vwCl [] s := hK
  refine va_putF (D := (dC, dI)) (ci := 8) (v := .ref q5) (ty := (tyX5 0)) (C := RX5) (T := TX5) (N := 9) hx hb hu iuX5 tyX5 tyX5_ok nmX5 hown hK hP hD hS 0 rfl rfl 0 (by decide) (hu _ mG_538) (fun _ h9 => h9) rfl hin rfl (by decide +kernel) (rfl) (rfl) (Nat.le_of_ble_eq_true rfl) dX5_init_13 (fun H locs hP hD hS => ?_)
  have hP : va_P (dC, dI) vwCl [(a, .inr (8, [.ref q5, .null, .null, .null, .int 0, .int 0, .int 0, .int 0, .int 0])), (q5, .inr (13, [.ref te, .int 0, .int 0, .int 0, .int 0, .long 0]))] H := hP
  have hD : va_D A [(a, .inr (8, [.ref q5, .null, .null, .null, .int 0, .int 0, .int 0, .int 0, .int 0])), (q5, .inr (13, [.ref te, .int 0, .int 0, .int 0, .int 0, .long 0]))] := hD
  refine lv_aload_n hx hb dX5_init_16 rfl (lv_at hl 0 rfl) ?_
  refine lv_aload_n hx hb dX5_init_17 rfl (lv_at hl 2 rfl) ?_
  refine va_putF (D := (dC, dI)) (ci := 8) (v := .ref tr) (ty := (tyX5 1)) (C := RX5) (T := TX5) (N := 9) hx hb hu iuX5 tyX5 tyX5_ok nmX5 hown hK hP hD hS 0 rfl rfl 1 (by decide) (hu _ mG_539) (fun _ h9 => h9) rfl hin rfl (by decide +kernel) (rfl) (rfl) (Nat.le_of_ble_eq_true rfl) dX5_init_18 (fun H locs hP hD hS => ?_)
  have hP : va_P (dC, dI) vwCl [(a, .inr (8, [.ref q5, .ref tr, .null, .null, .int 0, .int 0, .int 0, .int 0, .int 0])), (q5, .inr (13, [.ref te, .int 0, .int 0, .int 0, .int 0, .long 0]))] H := hP
  have hD : va_D A [(a, .inr (8, [.ref q5, .ref tr, .null, .null, .int 0, .int 0, .int 0, .int 0, .int 0])), (q5, .inr (13, [.ref te, .int 0, .int 0, .int 0, .int 0, .long 0]))] := hD
  refine lv_aload_n hx hb dX5_init_21 rfl (lv_at hl 0 rfl) ?_
  refine lv_aload_n hx hb dX5_init_22 rfl (lv_at hl 3 rfl) ?_
  refine va_putF (D := (dC, dI)) (ci := 8) (v := .ref pr) (ty := (tyX5 2)) (C := RX5) (T := TX5) (N := 9) hx hb hu iuX5 tyX5 tyX5_ok nmX5 hown hK hP hD hS 0 rfl rfl 2 (by decide) (hu _ mG_540) (fun _ h9 => h9) rfl hin rfl (by decide +kernel) (rfl) (rfl) (Nat.le_of_ble_eq_true rfl) dX5_init_23 (fun H locs hP hD hS => ?_)
  have hP : va_P (dC, dI) vwCl [(a, .inr (8, [.ref q5, .ref tr, .ref pr, .null, .int 0, .int 0, .int 0, .int 0, .int 0])), (q5, .inr (13, [.ref te, .int 0, .int 0, .int 0, .int 0, .long 0]))] H := hP
  have hD : va_D A [(a, .inr (8, [.ref q5, .ref tr, .ref pr, .null, .int 0, .int 0, .int 0, .int 0, .int 0])), (q5, .inr (13, [.ref te, .int 0, .int 0, .int 0, .int 0, .long 0]))] := hD
  refine lv_aload_n hx hb dX5_init_26 rfl (lv_at hl 0 rfl) ?_
  refine lv_aload hx hb dX5_init_27 (lv_at hl 4 rfl) ?_
  refine va_putF (D := (dC, dI)) (ci := 8) (v := .ref sc) (ty := (tyX5 3)) (C := RX5) (T := TX5) (N := 9) hx hb hu iuX5 tyX5 tyX5_ok nmX5 hown hK hP hD hS 0 rfl rfl 3 (by decide) (hu _ mG_541) (fun _ h9 => h9) rfl hin rfl (by decide +kernel) (rfl) (rfl) (Nat.le_of_ble_eq_true rfl) dX5_init_29 (fun H locs hP hD hS => ?_)
  have hP : va_P (dC, dI) vwCl [(a, .inr (8, [.ref q5, .ref tr, .ref pr, .ref sc, .int 0, .int 0, .int 0, .int 0, .int 0])), (q5, .inr (13, [.ref te, .int 0, .int 0, .int 0, .int 0, .long 0]))] H := hP
  have hD : va_D A [(a, .inr (8, [.ref q5, .ref tr, .ref pr, .ref sc, .int 0, .int 0, .int 0, .int 0, .int 0])), (q5, .inr (13, [.ref te, .int 0, .int 0, .int 0, .int 0, .long 0]))] := hD
  refine W.widen (k := 1) (n := 6) (by omega) (by omega) ?_
  exact W.vret hx hb hr (fun t ht hW => ⟨⟨(fun i => if i = 0 then q5 else 0, fun _ => m.cls), rfl, trivial, by rw [ht]; exact hP, va_K.moved hW.alike hK, hD⟩, hS.F ht⟩) hS.2.2 dX5_init_32
set_option maxHeartbeats 4000000 in
set_option maxRecDepth 100000 in
/-- Lifter -/
theorem kX2_init (l : Launch) (dC : Nat → ClassId) (dI : Nat → Nat → Nat) (sz : Nat) (a : Nat) (tr pr sc : Nat) : Met l yX2_init (Cond.code yX2_init cX2_init 4 none :: uG) ({ frames := 1, cells := 0, slots := (0), locals := 12 }) (va_Pc [.ref a, .ref tr, .ref pr, .ref sc] (fun U => U.heap.size = sz ∧ va_P (dC, dI) vwCl [(a, .inr (5, [.null, .null, .null, .int 0, .int 0]))] U.heap ∧ va_K (dC, dI) vwCl [] U ∧ va_D (fun _ => True) [(a, .inr (5, [.null, .null, .null, .int 0, .int 0]))])) (va_Qv (S := (Nat → Nat) × (Nat → ClassId)) (fun _ => True) (fun u t => va_P (dC, dI) vwCl [(a, .inr (5, [.ref tr, .ref pr, .ref sc, .int 0, .int 0]))] t.heap ∧ va_K (dC, dI) vwCl [] t ∧ va_D (va_A [(a, .inr (5, [.null, .null, .null, .int 0, .int 0]))] sz) [(a, .inr (5, [.ref tr, .ref pr, .ref sc, .int 0, .int 0]))]) (va_A [(a, .inr (5, [.null, .null, .null, .int 0, .int 0]))] sz)) 0 (0) (va_A [(a, .inr (5, [.null, .null, .null, .int 0, .int 0]))] sz) := by
  refine Met.ofW (cc := cX2_init) (maxL := 4) (ret := none) (by decide) rfl ?_
  intro p e s m args below meth c s₁ B hml hv
  obtain ⟨rfl, hsz, hP, hK, hD0⟩ := hv
  have hx := B.exec
  have hb := B.bytes
  have hr := B.returns
  have hts := atoms_spec (ws := Cond.code yX2_init cX2_init 4 none :: uG) B.pre
  have hu := fun (w : Cond) (h : w ∈ uG) => hts w (List.mem_cons_of_mem _ h)
  have hown : s.vm.findClass RX2 = some m.cls := findClass_of_methodNamed B.named
  have hlocks := B.notSynchronized
  have hin : meth.name = "<init>" := (name_of_methodNamed B.named B.method).1
  subst hsz
  have hD := hD0.self (sz := s.heap.size)
  generalize hAe : va_A [(a, .inr (5, [.null, .null, .null, .int 0, .int 0]))] s.heap.size = A at hD ⊢
  have hA : ∀ q : Nat, s.heap.size ≤ q → A q := fun q h => by rw [← hAe]; exact Or.inr h
  have hS : va_S A s.heap s.heap [] := va_S.rf
  have hP : va_P (dC, dI) vwCl [(a, .inr (5, [.null, .null, .null, .int 0, .int 0]))] s.heap := hP
  have hD : va_D A [(a, .inr (5, [.null, .null, .null, .int 0, .int 0]))] := hD
  have hl := lv_entry ([.ref a, .ref tr, .ref pr, .ref sc]) (n := 4) (Nat.le_of_ble_eq_true rfl)
  rw [lg_entry_eq]
  generalize (lg_sl ([.ref a, .ref tr, .ref pr, .ref sc]) ++ List.replicate (4 - (lg_sl ([.ref a, .ref tr, .ref pr, .ref sc])).length) Slot.unset).toArray = ls at hl ⊢
  have hl : lv_has ls 4 [(0, .ref a), (1, .ref tr), (2, .ref pr), (3, .ref sc)] := hl
  refine lv_aload_n hx hb dX2_init_0 rfl (lv_at hl 0 rfl) ?_
  refine W.objInit hx hb hown (hu _ mG_574) (hu _ mG_254) (hu _ mG_255) rfl (by rw [hml]; exact hl.1) rfl dX2_init_1 (Nat.le_of_ble_eq_true rfl) (Nat.le_of_ble_eq_true rfl) ?_
  refine W.eq (g2 := F0 m 4 ls []) rfl ?_
  refine lv_aload_n hx hb dX2_init_4 rfl (lv_at hl 0 rfl) ?_
  refine lv_aload_n hx hb dX2_init_5 rfl (lv_at hl 1 rfl) ?_
  refine va_putF (D := (dC, dI)) (ci := 5) (v := .ref tr) (ty := (tyX2 0)) (C := RX2) (T := TX2) (N := 5) hx hb hu iuX2 tyX2 tyX2_ok nmX2 hown hK hP hD hS 0 rfl rfl 0 (by decide) (hu _ mG_575) (fun _ h9 => h9) rfl hin rfl (by decide +kernel) (rfl) (rfl) (Nat.le_of_ble_eq_true rfl) dX2_init_6 (fun H locs hP hD hS => ?_)
  have hP : va_P (dC, dI) vwCl [(a, .inr (5, [.ref tr, .null, .null, .int 0, .int 0]))] H := hP
  have hD : va_D A [(a, .inr (5, [.ref tr, .null, .null, .int 0, .int 0]))] := hD
  refine lv_aload_n hx hb dX2_init_9 rfl (lv_at hl 0 rfl) ?_
  refine lv_aload_n hx hb dX2_init_10 rfl (lv_at hl 2 rfl) ?_
  refine va_putF (D := (dC, dI)) (ci := 5) (v := .ref pr) (ty := (tyX2 1)) (C := RX2) (T := TX2) (N := 5) hx hb hu iuX2 tyX2 tyX2_ok nmX2 hown hK hP hD hS 0 rfl rfl 1 (by decide) (hu _ mG_576) (fun _ h9 => h9) rfl hin rfl (by decide +kernel) (rfl) (rfl) (Nat.le_of_ble_eq_true rfl) dX2_init_11 (fun H locs hP hD hS => ?_)
  have hP : va_P (dC, dI) vwCl [(a, .inr (5, [.ref tr, .ref pr, .null, .int 0, .int 0]))] H := hP
  have hD : va_D A [(a, .inr (5, [.ref tr, .ref pr, .null, .int 0, .int 0]))] := hD
  refine lv_aload_n hx hb dX2_init_14 rfl (lv_at hl 0 rfl) ?_
  refine lv_aload_n hx hb dX2_init_15 rfl (lv_at hl 3 rfl) ?_
  refine va_putF (D := (dC, dI)) (ci := 5) (v := .ref sc) (ty := (tyX2 2)) (C := RX2) (T := TX2) (N := 5) hx hb hu iuX2 tyX2 tyX2_ok nmX2 hown hK hP hD hS 0 rfl rfl 2 (by decide) (hu _ mG_577) (fun _ h9 => h9) rfl hin rfl (by decide +kernel) (rfl) (rfl) (Nat.le_of_ble_eq_true rfl) dX2_init_16 (fun H locs hP hD hS => ?_)
  have hP : va_P (dC, dI) vwCl [(a, .inr (5, [.ref tr, .ref pr, .ref sc, .int 0, .int 0]))] H := hP
  have hD : va_D A [(a, .inr (5, [.ref tr, .ref pr, .ref sc, .int 0, .int 0]))] := hD
  refine W.widen (k := 0) (n := 0) (by omega) (by omega) ?_
  exact W.vret hx hb hr (fun t ht hW => ⟨⟨(fun _ => 0, fun _ => m.cls), rfl, trivial, by rw [ht]; exact hP, va_K.moved hW.alike hK, hD⟩, hS.F ht⟩) hS.2.2 dX2_init_19
set_option maxHeartbeats 4000000 in
set_option maxRecDepth 100000 in
/-- Demand -/
theorem kX1_init (l : Launch) (dC : Nat → ClassId) (dI : Nat → Nat → Nat) (sz : Nat) (a : Nat) (tr pr : Nat) : Met l yX1_init (Cond.code yX1_init cX1_init 3 none :: uG) ({ frames := 1, cells := 3, slots := (2888), locals := 12 }) (va_Pc [.ref a, .ref tr, .ref pr] (fun U => U.heap.size = sz ∧ va_P (dC, dI) vwCl [(a, .inr (4, [.null, .null, .null, .null, .null, .int 0, .int 0, .int 0]))] U.heap ∧ va_K (dC, dI) vwCl [] U ∧ va_D (fun _ => True) [(a, .inr (4, [.null, .null, .null, .null, .null, .int 0, .int 0, .int 0]))])) (va_Qv (S := (Nat → Nat) × (Nat → ClassId)) (fun _ => True) (fun u t => va_P (dC, dI) vwCl [(a, .inr (4, [.ref tr, .ref pr, .ref (u.1 0), .ref (u.1 1), .ref (u.1 2), .int 0, .int 0, .int 0])), ((u.1 0), .inl ((u.2 0), 2520, .inr (.inl (fun _ => 0)))), ((u.1 1), .inl ((u.2 1), 40, .inr (.inl (fun _ => 0)))), ((u.1 2), .inl ((u.2 2), 328, .inr (.inl (fun _ => 0))))] t.heap ∧ va_K (dC, dI) vwCl [((u.2 0), .long), ((u.2 1), .long), ((u.2 2), .long)] t ∧ va_D (va_A [(a, .inr (4, [.null, .null, .null, .null, .null, .int 0, .int 0, .int 0]))] sz) [(a, .inr (4, [.ref tr, .ref pr, .ref (u.1 0), .ref (u.1 1), .ref (u.1 2), .int 0, .int 0, .int 0])), ((u.1 0), .inl ((u.2 0), 2520, .inr (.inl (fun _ => 0)))), ((u.1 1), .inl ((u.2 1), 40, .inr (.inl (fun _ => 0)))), ((u.1 2), .inl ((u.2 2), 328, .inr (.inl (fun _ => 0))))]) (va_A [(a, .inr (4, [.null, .null, .null, .null, .null, .int 0, .int 0, .int 0]))] sz)) 3 (2888) (va_A [(a, .inr (4, [.null, .null, .null, .null, .null, .int 0, .int 0, .int 0]))] sz) := by
  refine Met.ofW (cc := cX1_init) (maxL := 3) (ret := none) (by decide) rfl ?_
  intro p e s m args below meth c s₁ B hml hv
  obtain ⟨rfl, hsz, hP, hK, hD0⟩ := hv
  have hx := B.exec
  have hb := B.bytes
  have hr := B.returns
  have hts := atoms_spec (ws := Cond.code yX1_init cX1_init 3 none :: uG) B.pre
  have hu := fun (w : Cond) (h : w ∈ uG) => hts w (List.mem_cons_of_mem _ h)
  have hown : s.vm.findClass RX1 = some m.cls := findClass_of_methodNamed B.named
  have hlocks := B.notSynchronized
  have hin : meth.name = "<init>" := (name_of_methodNamed B.named B.method).1
  subst hsz
  have hD := hD0.self (sz := s.heap.size)
  generalize hAe : va_A [(a, .inr (4, [.null, .null, .null, .null, .null, .int 0, .int 0, .int 0]))] s.heap.size = A at hD ⊢
  have hA : ∀ q : Nat, s.heap.size ≤ q → A q := fun q h => by rw [← hAe]; exact Or.inr h
  have hS : va_S A s.heap s.heap [] := va_S.rf
  have hP : va_P (dC, dI) vwCl [(a, .inr (4, [.null, .null, .null, .null, .null, .int 0, .int 0, .int 0]))] s.heap := hP
  have hD : va_D A [(a, .inr (4, [.null, .null, .null, .null, .null, .int 0, .int 0, .int 0]))] := hD
  have hl := lv_entry ([.ref a, .ref tr, .ref pr]) (n := 3) (Nat.le_of_ble_eq_true rfl)
  rw [lg_entry_eq]
  generalize (lg_sl ([.ref a, .ref tr, .ref pr]) ++ List.replicate (3 - (lg_sl ([.ref a, .ref tr, .ref pr])).length) Slot.unset).toArray = ls at hl ⊢
  have hl : lv_has ls 3 [(0, .ref a), (1, .ref tr), (2, .ref pr)] := hl
  refine lv_aload_n hx hb dX1_init_0 rfl (lv_at hl 0 rfl) ?_
  refine W.objInit hx hb hown (hu _ mG_598) (hu _ mG_254) (hu _ mG_255) rfl (by rw [hml]; exact hl.1) rfl dX1_init_1 (Nat.le_of_ble_eq_true rfl) (Nat.le_of_ble_eq_true rfl) ?_
  refine W.eq (g2 := F0 m 4 ls []) rfl ?_
  refine lv_aload_n hx hb dX1_init_4 rfl (lv_at hl 0 rfl) ?_
  refine lv_sipush (v := 2520) hx hb dX1_init_5 (by decide) ?_
  refine va_newa (atype := .long) (N' := 2520) (a0 := (2520, .inr (.inl (fun _ => 0)))) hx hb (hu _ mG_372) rfl hK hP hD hS hA (fun _ => rfl) (by decide +kernel) (by decide +kernel) (by decide +kernel) (Nat.le_of_ble_eq_true rfl) (Nat.le_of_ble_eq_true rfl) dX1_init_8 (fun q8 k8 H hK hP hD hS => ?_)
  have hP : va_P (dC, dI) vwCl [(a, .inr (4, [.null, .null, .null, .null, .null, .int 0, .int 0, .int 0])), (q8, .inl (k8, 2520, .inr (.inl (fun _ => 0))))] H := hP
  have hD : va_D A [(a, .inr (4, [.null, .null, .null, .null, .null, .int 0, .int 0, .int 0])), (q8, .inl (k8, 2520, .inr (.inl (fun _ => 0))))] := hD
  have hK : va_K (dC, dI) vwCl [(k8, .long)] s := hK
  refine va_putF (D := (dC, dI)) (ci := 4) (v := .ref q8) (ty := (tyX1 2)) (C := RX1) (T := TX1) (N := 8) hx hb hu iuX1 tyX1 tyX1_ok nmX1 hown hK hP hD hS 0 rfl rfl 2 (by decide) (hu _ mG_601) (fun _ h9 => h9) rfl hin rfl (by decide +kernel) (rfl) (rfl) (Nat.le_of_ble_eq_true rfl) dX1_init_10 (fun H locs hP hD hS => ?_)
  have hP : va_P (dC, dI) vwCl [(a, .inr (4, [.null, .null, .ref q8, .null, .null, .int 0, .int 0, .int 0])), (q8, .inl (k8, 2520, .inr (.inl (fun _ => 0))))] H := hP
  have hD : va_D A [(a, .inr (4, [.null, .null, .ref q8, .null, .null, .int 0, .int 0, .int 0])), (q8, .inl (k8, 2520, .inr (.inl (fun _ => 0))))] := hD
  refine lv_aload_n hx hb dX1_init_13 rfl (lv_at hl 0 rfl) ?_
  refine lv_bipush (v := 40) hx hb dX1_init_14 (by decide) ?_
  refine va_newa (atype := .long) (N' := 40) (a0 := (40, .inr (.inl (fun _ => 0)))) hx hb (hu _ mG_372) rfl hK hP hD hS hA (fun _ => rfl) (by decide +kernel) (by decide +kernel) (by decide +kernel) (Nat.le_of_ble_eq_true rfl) (Nat.le_of_ble_eq_true rfl) dX1_init_16 (fun q16 k16 H hK hP hD hS => ?_)
  have hP : va_P (dC, dI) vwCl [(a, .inr (4, [.null, .null, .ref q8, .null, .null, .int 0, .int 0, .int 0])), (q8, .inl (k8, 2520, .inr (.inl (fun _ => 0)))), (q16, .inl (k16, 40, .inr (.inl (fun _ => 0))))] H := hP
  have hD : va_D A [(a, .inr (4, [.null, .null, .ref q8, .null, .null, .int 0, .int 0, .int 0])), (q8, .inl (k8, 2520, .inr (.inl (fun _ => 0)))), (q16, .inl (k16, 40, .inr (.inl (fun _ => 0))))] := hD
  have hK : va_K (dC, dI) vwCl [(k8, .long), (k16, .long)] s := hK
  refine va_putF (D := (dC, dI)) (ci := 4) (v := .ref q16) (ty := (tyX1 3)) (C := RX1) (T := TX1) (N := 8) hx hb hu iuX1 tyX1 tyX1_ok nmX1 hown hK hP hD hS 0 rfl rfl 3 (by decide) (hu _ mG_602) (fun _ h9 => h9) rfl hin rfl (by decide +kernel) (rfl) (rfl) (Nat.le_of_ble_eq_true rfl) dX1_init_18 (fun H locs hP hD hS => ?_)
  have hP : va_P (dC, dI) vwCl [(a, .inr (4, [.null, .null, .ref q8, .ref q16, .null, .int 0, .int 0, .int 0])), (q8, .inl (k8, 2520, .inr (.inl (fun _ => 0)))), (q16, .inl (k16, 40, .inr (.inl (fun _ => 0))))] H := hP
  have hD : va_D A [(a, .inr (4, [.null, .null, .ref q8, .ref q16, .null, .int 0, .int 0, .int 0])), (q8, .inl (k8, 2520, .inr (.inl (fun _ => 0)))), (q16, .inl (k16, 40, .inr (.inl (fun _ => 0))))] := hD
  refine lv_aload_n hx hb dX1_init_21 rfl (lv_at hl 0 rfl) ?_
  refine lv_sipush (v := 328) hx hb dX1_init_22 (by decide) ?_
  refine va_newa (atype := .long) (N' := 328) (a0 := (328, .inr (.inl (fun _ => 0)))) hx hb (hu _ mG_372) rfl hK hP hD hS hA (fun _ => rfl) (by decide +kernel) (by decide +kernel) (by decide +kernel) (Nat.le_of_ble_eq_true rfl) (Nat.le_of_ble_eq_true rfl) dX1_init_25 (fun q25 k25 H hK hP hD hS => ?_)
  have hP : va_P (dC, dI) vwCl [(a, .inr (4, [.null, .null, .ref q8, .ref q16, .null, .int 0, .int 0, .int 0])), (q8, .inl (k8, 2520, .inr (.inl (fun _ => 0)))), (q16, .inl (k16, 40, .inr (.inl (fun _ => 0)))), (q25, .inl (k25, 328, .inr (.inl (fun _ => 0))))] H := hP
  have hD : va_D A [(a, .inr (4, [.null, .null, .ref q8, .ref q16, .null, .int 0, .int 0, .int 0])), (q8, .inl (k8, 2520, .inr (.inl (fun _ => 0)))), (q16, .inl (k16, 40, .inr (.inl (fun _ => 0)))), (q25, .inl (k25, 328, .inr (.inl (fun _ => 0))))] := hD
  have hK : va_K (dC, dI) vwCl [(k8, .long), (k16, .long), (k25, .long)] s := hK
  refine va_putF (D := (dC, dI)) (ci := 4) (v := .ref q25) (ty := (tyX1 4)) (C := RX1) (T := TX1) (N := 8) hx hb hu iuX1 tyX1 tyX1_ok nmX1 hown hK hP hD hS 0 rfl rfl 4 (by decide) (hu _ mG_603) (fun _ h9 => h9) rfl hin rfl (by decide +kernel) (rfl) (rfl) (Nat.le_of_ble_eq_true rfl) dX1_init_27 (fun H locs hP hD hS => ?_)
  have hP : va_P (dC, dI) vwCl [(a, .inr (4, [.null, .null, .ref q8, .ref q16, .ref q25, .int 0, .int 0, .int 0])), (q8, .inl (k8, 2520, .inr (.inl (fun _ => 0)))), (q16, .inl (k16, 40, .inr (.inl (fun _ => 0)))), (q25, .inl (k25, 328, .inr (.inl (fun _ => 0))))] H := hP
  have hD : va_D A [(a, .inr (4, [.null, .null, .ref q8, .ref q16, .ref q25, .int 0, .int 0, .int 0])), (q8, .inl (k8, 2520, .inr (.inl (fun _ => 0)))), (q16, .inl (k16, 40, .inr (.inl (fun _ => 0)))), (q25, .inl (k25, 328, .inr (.inl (fun _ => 0))))] := hD
  refine lv_aload_n hx hb dX1_init_30 rfl (lv_at hl 0 rfl) ?_
  refine lv_aload_n hx hb dX1_init_31 rfl (lv_at hl 1 rfl) ?_
  refine va_putF (D := (dC, dI)) (ci := 4) (v := .ref tr) (ty := (tyX1 0)) (C := RX1) (T := TX1) (N := 8) hx hb hu iuX1 tyX1 tyX1_ok nmX1 hown hK hP hD hS 0 rfl rfl 0 (by decide) (hu _ mG_599) (fun _ h9 => h9) rfl hin rfl (by decide +kernel) (rfl) (rfl) (Nat.le_of_ble_eq_true rfl) dX1_init_32 (fun H locs hP hD hS => ?_)
  have hP : va_P (dC, dI) vwCl [(a, .inr (4, [.ref tr, .null, .ref q8, .ref q16, .ref q25, .int 0, .int 0, .int 0])), (q8, .inl (k8, 2520, .inr (.inl (fun _ => 0)))), (q16, .inl (k16, 40, .inr (.inl (fun _ => 0)))), (q25, .inl (k25, 328, .inr (.inl (fun _ => 0))))] H := hP
  have hD : va_D A [(a, .inr (4, [.ref tr, .null, .ref q8, .ref q16, .ref q25, .int 0, .int 0, .int 0])), (q8, .inl (k8, 2520, .inr (.inl (fun _ => 0)))), (q16, .inl (k16, 40, .inr (.inl (fun _ => 0)))), (q25, .inl (k25, 328, .inr (.inl (fun _ => 0))))] := hD
  refine lv_aload_n hx hb dX1_init_35 rfl (lv_at hl 0 rfl) ?_
  refine lv_aload_n hx hb dX1_init_36 rfl (lv_at hl 2 rfl) ?_
  refine va_putF (D := (dC, dI)) (ci := 4) (v := .ref pr) (ty := (tyX1 1)) (C := RX1) (T := TX1) (N := 8) hx hb hu iuX1 tyX1 tyX1_ok nmX1 hown hK hP hD hS 0 rfl rfl 1 (by decide) (hu _ mG_600) (fun _ h9 => h9) rfl hin rfl (by decide +kernel) (rfl) (rfl) (Nat.le_of_ble_eq_true rfl) dX1_init_37 (fun H locs hP hD hS => ?_)
  have hP : va_P (dC, dI) vwCl [(a, .inr (4, [.ref tr, .ref pr, .ref q8, .ref q16, .ref q25, .int 0, .int 0, .int 0])), (q8, .inl (k8, 2520, .inr (.inl (fun _ => 0)))), (q16, .inl (k16, 40, .inr (.inl (fun _ => 0)))), (q25, .inl (k25, 328, .inr (.inl (fun _ => 0))))] H := hP
  have hD : va_D A [(a, .inr (4, [.ref tr, .ref pr, .ref q8, .ref q16, .ref q25, .int 0, .int 0, .int 0])), (q8, .inl (k8, 2520, .inr (.inl (fun _ => 0)))), (q16, .inl (k16, 40, .inr (.inl (fun _ => 0)))), (q25, .inl (k25, 328, .inr (.inl (fun _ => 0))))] := hD
  refine W.widen (k := 3) (n := 2888) (by omega) (by omega) ?_
  exact W.vret hx hb hr (fun t ht hW => ⟨⟨(fun i => if i = 0 then q8 else if i = 1 then q16 else if i = 2 then q25 else 0, fun i => if i = 0 then k8 else if i = 1 then k16 else if i = 2 then k25 else k8), rfl, trivial, by rw [ht]; exact hP, va_K.moved hW.alike hK, hD⟩, hS.F ht⟩) hS.2.2 dX1_init_40
set_option maxHeartbeats 4000000 in
set_option maxRecDepth 100000 in
/-- Scribe -/
theorem kX7_init (l : Launch) (dC : Nat → ClassId) (dI : Nat → Nat → Nat) (sz : Nat) (a : Nat) (tr pr : Nat) : Met l yX7_init (Cond.code yX7_init cX7_init 3 none :: uG) ({ frames := 1, cells := 0, slots := (0), locals := 12 }) (va_Pc [.ref a, .ref tr, .ref pr] (fun U => U.heap.size = sz ∧ va_P (dC, dI) vwCl [(a, .inr (10, [.null, .null, .null]))] U.heap ∧ va_K (dC, dI) vwCl [] U ∧ va_D (fun _ => True) [(a, .inr (10, [.null, .null, .null]))])) (va_Qv (S := (Nat → Nat) × (Nat → ClassId)) (fun _ => True) (fun u t => va_P (dC, dI) vwCl [(a, .inr (10, [.ref tr, .ref pr, .null]))] t.heap ∧ va_K (dC, dI) vwCl [] t ∧ va_D (va_A [(a, .inr (10, [.null, .null, .null]))] sz) [(a, .inr (10, [.ref tr, .ref pr, .null]))]) (va_A [(a, .inr (10, [.null, .null, .null]))] sz)) 0 (0) (va_A [(a, .inr (10, [.null, .null, .null]))] sz) := by
  refine Met.ofW (cc := cX7_init) (maxL := 3) (ret := none) (by decide) rfl ?_
  intro p e s m args below meth c s₁ B hml hv
  obtain ⟨rfl, hsz, hP, hK, hD0⟩ := hv
  have hx := B.exec
  have hb := B.bytes
  have hr := B.returns
  have hts := atoms_spec (ws := Cond.code yX7_init cX7_init 3 none :: uG) B.pre
  have hu := fun (w : Cond) (h : w ∈ uG) => hts w (List.mem_cons_of_mem _ h)
  have hown : s.vm.findClass RX7 = some m.cls := findClass_of_methodNamed B.named
  have hlocks := B.notSynchronized
  have hin : meth.name = "<init>" := (name_of_methodNamed B.named B.method).1
  subst hsz
  have hD := hD0.self (sz := s.heap.size)
  generalize hAe : va_A [(a, .inr (10, [.null, .null, .null]))] s.heap.size = A at hD ⊢
  have hA : ∀ q : Nat, s.heap.size ≤ q → A q := fun q h => by rw [← hAe]; exact Or.inr h
  have hS : va_S A s.heap s.heap [] := va_S.rf
  have hP : va_P (dC, dI) vwCl [(a, .inr (10, [.null, .null, .null]))] s.heap := hP
  have hD : va_D A [(a, .inr (10, [.null, .null, .null]))] := hD
  have hl := lv_entry ([.ref a, .ref tr, .ref pr]) (n := 3) (Nat.le_of_ble_eq_true rfl)
  rw [lg_entry_eq]
  generalize (lg_sl ([.ref a, .ref tr, .ref pr]) ++ List.replicate (3 - (lg_sl ([.ref a, .ref tr, .ref pr])).length) Slot.unset).toArray = ls at hl ⊢
  have hl : lv_has ls 3 [(0, .ref a), (1, .ref tr), (2, .ref pr)] := hl
  refine lv_aload_n hx hb dX7_init_0 rfl (lv_at hl 0 rfl) ?_
  refine W.objInit hx hb hown (hu _ mG_629) (hu _ mG_254) (hu _ mG_255) rfl (by rw [hml]; exact hl.1) rfl dX7_init_1 (Nat.le_of_ble_eq_true rfl) (Nat.le_of_ble_eq_true rfl) ?_
  refine W.eq (g2 := F0 m 4 ls []) rfl ?_
  refine lv_aload_n hx hb dX7_init_4 rfl (lv_at hl 0 rfl) ?_
  refine lv_aload_n hx hb dX7_init_5 rfl (lv_at hl 1 rfl) ?_
  refine va_putF (D := (dC, dI)) (ci := 10) (v := .ref tr) (ty := (tyX7 0)) (C := RX7) (T := TX7) (N := 3) hx hb hu iuX7 tyX7 tyX7_ok nmX7 hown hK hP hD hS 0 rfl rfl 0 (by decide) (hu _ mG_630) (fun _ h9 => h9) rfl hin rfl (by decide +kernel) (rfl) (rfl) (Nat.le_of_ble_eq_true rfl) dX7_init_6 (fun H locs hP hD hS => ?_)
  have hP : va_P (dC, dI) vwCl [(a, .inr (10, [.ref tr, .null, .null]))] H := hP
  have hD : va_D A [(a, .inr (10, [.ref tr, .null, .null]))] := hD
  refine lv_aload_n hx hb dX7_init_9 rfl (lv_at hl 0 rfl) ?_
  refine lv_aload_n hx hb dX7_init_10 rfl (lv_at hl 2 rfl) ?_
  refine va_putF (D := (dC, dI)) (ci := 10) (v := .ref pr) (ty := (tyX7 1)) (C := RX7) (T := TX7) (N := 3) hx hb hu iuX7 tyX7 tyX7_ok nmX7 hown hK hP hD hS 0 rfl rfl 1 (by decide) (hu _ mG_631) (fun _ h9 => h9) rfl hin rfl (by decide +kernel) (rfl) (rfl) (Nat.le_of_ble_eq_true rfl) dX7_init_11 (fun H locs hP hD hS => ?_)
  have hP : va_P (dC, dI) vwCl [(a, .inr (10, [.ref tr, .ref pr, .null]))] H := hP
  have hD : va_D A [(a, .inr (10, [.ref tr, .ref pr, .null]))] := hD
  refine W.widen (k := 0) (n := 0) (by omega) (by omega) ?_
  exact W.vret hx hb hr (fun t ht hW => ⟨⟨(fun _ => 0, fun _ => m.cls), rfl, trivial, by rw [ht]; exact hP, va_K.moved hW.alike hK, hD⟩, hS.F ht⟩) hS.2.2 dX7_init_14
set_option maxHeartbeats 4000000 in
set_option maxRecDepth 100000 in
/-- Cells(counts) -/
theorem kX0_init (l : Launch) (dC : Nat → ClassId) (dI : Nat → Nat → Nat) (sz : Nat) (a : Nat) (co : Nat) : Met l yX0_init (Cond.code yX0_init cX0_init 2 none :: uG) ({ frames := 1, cells := 1, slots := (4000), locals := 12 }) (va_Pc [.ref a, .ref co] (fun U => U.heap.size = sz ∧ va_P (dC, dI) vwCl [(a, .inr (3, [.null, .null]))] U.heap ∧ va_K (dC, dI) vwCl [] U ∧ va_D (fun _ => True) [(a, .inr (3, [.null, .null]))])) (va_Qv (S := (Nat → Nat) × (Nat → ClassId)) (fun _ => True) (fun u t => va_P (dC, dI) vwCl [(a, .inr (3, [.ref (u.1 0), .ref co])), ((u.1 0), .inl ((u.2 0), 4000, .inr (.inl (fun _ => 0))))] t.heap ∧ va_K (dC, dI) vwCl [((u.2 0), .long)] t ∧ va_D (va_A [(a, .inr (3, [.null, .null]))] sz) [(a, .inr (3, [.ref (u.1 0), .ref co])), ((u.1 0), .inl ((u.2 0), 4000, .inr (.inl (fun _ => 0))))]) (va_A [(a, .inr (3, [.null, .null]))] sz)) 1 (4000) (va_A [(a, .inr (3, [.null, .null]))] sz) := by
  refine Met.ofW (cc := cX0_init) (maxL := 2) (ret := none) (by decide) rfl ?_
  intro p e s m args below meth c s₁ B hml hv
  obtain ⟨rfl, hsz, hP, hK, hD0⟩ := hv
  have hx := B.exec
  have hb := B.bytes
  have hr := B.returns
  have hts := atoms_spec (ws := Cond.code yX0_init cX0_init 2 none :: uG) B.pre
  have hu := fun (w : Cond) (h : w ∈ uG) => hts w (List.mem_cons_of_mem _ h)
  have hown : s.vm.findClass RX0 = some m.cls := findClass_of_methodNamed B.named
  have hlocks := B.notSynchronized
  have hin : meth.name = "<init>" := (name_of_methodNamed B.named B.method).1
  subst hsz
  have hD := hD0.self (sz := s.heap.size)
  generalize hAe : va_A [(a, .inr (3, [.null, .null]))] s.heap.size = A at hD ⊢
  have hA : ∀ q : Nat, s.heap.size ≤ q → A q := fun q h => by rw [← hAe]; exact Or.inr h
  have hS : va_S A s.heap s.heap [] := va_S.rf
  have hP : va_P (dC, dI) vwCl [(a, .inr (3, [.null, .null]))] s.heap := hP
  have hD : va_D A [(a, .inr (3, [.null, .null]))] := hD
  have hl := lv_entry ([.ref a, .ref co]) (n := 2) (Nat.le_of_ble_eq_true rfl)
  rw [lg_entry_eq]
  generalize (lg_sl ([.ref a, .ref co]) ++ List.replicate (2 - (lg_sl ([.ref a, .ref co])).length) Slot.unset).toArray = ls at hl ⊢
  have hl : lv_has ls 2 [(0, .ref a), (1, .ref co)] := hl
  refine lv_aload_n hx hb dX0_init_0 rfl (lv_at hl 0 rfl) ?_
  refine W.objInit hx hb hown (hu _ mG_651) (hu _ mG_254) (hu _ mG_255) rfl (by rw [hml]; exact hl.1) rfl dX0_init_1 (Nat.le_of_ble_eq_true rfl) (Nat.le_of_ble_eq_true rfl) ?_
  refine W.eq (g2 := F0 m 4 ls []) rfl ?_
  refine lv_aload_n hx hb dX0_init_4 rfl (lv_at hl 0 rfl) ?_
  refine lv_sipush (v := 4000) hx hb dX0_init_5 (by decide) ?_
  refine va_newa (atype := .long) (N' := 4000) (a0 := (4000, .inr (.inl (fun _ => 0)))) hx hb (hu _ mG_372) rfl hK hP hD hS hA (fun _ => rfl) (by decide +kernel) (by decide +kernel) (by decide +kernel) (Nat.le_of_ble_eq_true rfl) (Nat.le_of_ble_eq_true rfl) dX0_init_8 (fun q8 k8 H hK hP hD hS => ?_)
  have hP : va_P (dC, dI) vwCl [(a, .inr (3, [.null, .null])), (q8, .inl (k8, 4000, .inr (.inl (fun _ => 0))))] H := hP
  have hD : va_D A [(a, .inr (3, [.null, .null])), (q8, .inl (k8, 4000, .inr (.inl (fun _ => 0))))] := hD
  have hK : va_K (dC, dI) vwCl [(k8, .long)] s := hK
  refine va_putF (D := (dC, dI)) (ci := 3) (v := .ref q8) (ty := (tyX0 0)) (C := RX0) (T := TX0) (N := 2) hx hb hu iuX0 tyX0 tyX0_ok nmX0 hown hK hP hD hS 0 rfl rfl 0 (by decide) (hu _ mG_652) (fun _ h9 => h9) rfl hin rfl (by decide +kernel) (rfl) (rfl) (Nat.le_of_ble_eq_true rfl) dX0_init_10 (fun H locs hP hD hS => ?_)
  have hP : va_P (dC, dI) vwCl [(a, .inr (3, [.ref q8, .null])), (q8, .inl (k8, 4000, .inr (.inl (fun _ => 0))))] H := hP
  have hD : va_D A [(a, .inr (3, [.ref q8, .null])), (q8, .inl (k8, 4000, .inr (.inl (fun _ => 0))))] := hD
  refine lv_aload_n hx hb dX0_init_13 rfl (lv_at hl 0 rfl) ?_
  refine lv_aload_n hx hb dX0_init_14 rfl (lv_at hl 1 rfl) ?_
  refine va_putF (D := (dC, dI)) (ci := 3) (v := .ref co) (ty := (tyX0 1)) (C := RX0) (T := TX0) (N := 2) hx hb hu iuX0 tyX0 tyX0_ok nmX0 hown hK hP hD hS 0 rfl rfl 1 (by decide) (hu _ mG_654) (fun _ h9 => h9) rfl hin rfl (by decide +kernel) (rfl) (rfl) (Nat.le_of_ble_eq_true rfl) dX0_init_15 (fun H locs hP hD hS => ?_)
  have hP : va_P (dC, dI) vwCl [(a, .inr (3, [.ref q8, .ref co])), (q8, .inl (k8, 4000, .inr (.inl (fun _ => 0))))] H := hP
  have hD : va_D A [(a, .inr (3, [.ref q8, .ref co])), (q8, .inl (k8, 4000, .inr (.inl (fun _ => 0))))] := hD
  refine W.widen (k := 1) (n := 4000) (by omega) (by omega) ?_
  exact W.vret hx hb hr (fun t ht hW => ⟨⟨(fun i => if i = 0 then q8 else 0, fun i => if i = 0 then k8 else k8), rfl, trivial, by rw [ht]; exact hP, va_K.moved hW.alike hK, hD⟩, hS.F ht⟩) hS.2.2 dX0_init_18
set_option maxHeartbeats 4000000 in
set_option maxRecDepth 100000 in
/-- Machine -/
theorem kX3_init (l : Launch) (dC : Nat → ClassId) (dI : Nat → Nat → Nat) (sz : Nat) (a : Nat) (tr pr : Nat) : Met l yX3_init (Cond.code yX3_init cX3_init 3 none :: uG) ({ frames := 2, cells := 8, slots := (6696), locals := 33 }) (va_Pc [.ref a, .ref tr, .ref pr] (fun U => U.heap.size = sz ∧ va_P (dC, dI) vwCl [(a, .inr (6, [.null, .null, .null, .null, .null, .null, .null, .null, .int 0, .null, .int 0, .int 0, .int 0, .int 0, .long 0, .int 0, .int 0, .int 0]))] U.heap ∧ va_K (dC, dI) vwCl [] U ∧ va_D (fun _ => True) [(a, .inr (6, [.null, .null, .null, .null, .null, .null, .null, .null, .int 0, .null, .int 0, .int 0, .int 0, .int 0, .long 0, .int 0, .int 0, .int 0]))])) (va_Qv (S := (Nat → Nat) × (Nat → ClassId)) (fun _ => True) (fun u t => va_P (dC, dI) vwCl [(a, .inr (6, [.ref tr, .ref pr, .ref (u.1 0), .ref (u.1 1), .ref (u.1 2), .ref (u.1 3), .ref (u.1 6), .ref (u.1 4), .int 0, .ref (u.1 5), .int 0, .int 0, .int 0, .int 0, .long 0, .int 0, .int 0, .int 0])), ((u.1 0), .inl ((u.2 0), 10, .inl (fun _ => 0))), ((u.1 1), .inl ((u.2 1), 630, .inl (fun _ => 0))), ((u.1 2), .inl ((u.2 2), 1000, .inl (fun _ => 0))), ((u.1 3), .inl ((u.2 3), 30, .inl (fun _ => 0))), ((u.1 4), .inl ((u.2 4), 512, .inr (.inl (fun _ => 0)))), ((u.1 5), .inl ((u.2 5), 512, .inr (.inl (fun _ => 0)))), ((u.1 6), .inr (3, [.ref (u.1 7), .ref (u.1 0)])), ((u.1 7), .inl ((u.2 6), 4000, .inr (.inl (fun _ => 0))))] t.heap ∧ va_K (dC, dI) vwCl [((u.2 0), .int), ((u.2 1), .int), ((u.2 2), .int), ((u.2 3), .int), ((u.2 4), .long), ((u.2 5), .long), ((u.2 6), .long)] t ∧ va_D (va_A [(a, .inr (6, [.null, .null, .null, .null, .null, .null, .null, .null, .int 0, .null, .int 0, .int 0, .int 0, .int 0, .long 0, .int 0, .int 0, .int 0]))] sz) [(a, .inr (6, [.ref tr, .ref pr, .ref (u.1 0), .ref (u.1 1), .ref (u.1 2), .ref (u.1 3), .ref (u.1 6), .ref (u.1 4), .int 0, .ref (u.1 5), .int 0, .int 0, .int 0, .int 0, .long 0, .int 0, .int 0, .int 0])), ((u.1 0), .inl ((u.2 0), 10, .inl (fun _ => 0))), ((u.1 1), .inl ((u.2 1), 630, .inl (fun _ => 0))), ((u.1 2), .inl ((u.2 2), 1000, .inl (fun _ => 0))), ((u.1 3), .inl ((u.2 3), 30, .inl (fun _ => 0))), ((u.1 4), .inl ((u.2 4), 512, .inr (.inl (fun _ => 0)))), ((u.1 5), .inl ((u.2 5), 512, .inr (.inl (fun _ => 0)))), ((u.1 6), .inr (3, [.ref (u.1 7), .ref (u.1 0)])), ((u.1 7), .inl ((u.2 6), 4000, .inr (.inl (fun _ => 0))))]) (va_A [(a, .inr (6, [.null, .null, .null, .null, .null, .null, .null, .null, .int 0, .null, .int 0, .int 0, .int 0, .int 0, .long 0, .int 0, .int 0, .int 0]))] sz)) 8 (6696) (va_A [(a, .inr (6, [.null, .null, .null, .null, .null, .null, .null, .null, .int 0, .null, .int 0, .int 0, .int 0, .int 0, .long 0, .int 0, .int 0, .int 0]))] sz) := by
  refine Met.ofW (cc := cX3_init) (maxL := 3) (ret := none) (by decide) rfl ?_
  intro p e s m args below meth c s₁ B hml hv
  obtain ⟨rfl, hsz, hP, hK, hD0⟩ := hv
  have hx := B.exec
  have hb := B.bytes
  have hr := B.returns
  have hts := atoms_spec (ws := Cond.code yX3_init cX3_init 3 none :: uG) B.pre
  have hu := fun (w : Cond) (h : w ∈ uG) => hts w (List.mem_cons_of_mem _ h)
  have hown : s.vm.findClass RX3 = some m.cls := findClass_of_methodNamed B.named
  have hlocks := B.notSynchronized
  have hin : meth.name = "<init>" := (name_of_methodNamed B.named B.method).1
  subst hsz
  have hD := hD0.self (sz := s.heap.size)
  generalize hAe : va_A [(a, .inr (6, [.null, .null, .null, .null, .null, .null, .null, .null, .int 0, .null, .int 0, .int 0, .int 0, .int 0, .long 0, .int 0, .int 0, .int 0]))] s.heap.size = A at hD ⊢
  have hA : ∀ q : Nat, s.heap.size ≤ q → A q := fun q h => by rw [← hAe]; exact Or.inr h
  have hS : va_S A s.heap s.heap [] := va_S.rf
  have hP : va_P (dC, dI) vwCl [(a, .inr (6, [.null, .null, .null, .null, .null, .null, .null, .null, .int 0, .null, .int 0, .int 0, .int 0, .int 0, .long 0, .int 0, .int 0, .int 0]))] s.heap := hP
  have hD : va_D A [(a, .inr (6, [.null, .null, .null, .null, .null, .null, .null, .null, .int 0, .null, .int 0, .int 0, .int 0, .int 0, .long 0, .int 0, .int 0, .int 0]))] := hD
  have hl := lv_entry ([.ref a, .ref tr, .ref pr]) (n := 3) (Nat.le_of_ble_eq_true rfl)
  rw [lg_entry_eq]
  generalize (lg_sl ([.ref a, .ref tr, .ref pr]) ++ List.replicate (3 - (lg_sl ([.ref a, .ref tr, .ref pr])).length) Slot.unset).toArray = ls at hl ⊢
  have hl : lv_has ls 3 [(0, .ref a), (1, .ref tr), (2, .ref pr)] := hl
  refine lv_aload_n hx hb dX3_init_0 rfl (lv_at hl 0 rfl) ?_
  refine W.objInit hx hb hown (hu _ mG_645) (hu _ mG_254) (hu _ mG_255) rfl (by rw [hml]; exact hl.1) rfl dX3_init_1 (Nat.le_of_ble_eq_true rfl) (Nat.le_of_ble_eq_true rfl) ?_
  refine W.eq (g2 := F0 m 4 ls []) rfl ?_
  refine lv_aload_n hx hb dX3_init_4 rfl (lv_at hl 0 rfl) ?_
  refine lv_bipush (v := 10) hx hb dX3_init_5 (by decide) ?_
  refine va_newa (atype := .int) (N' := 10) (a0 := (10, .inl (fun _ => 0))) hx hb (hu _ mG_373) rfl hK hP hD hS hA (fun _ => rfl) (by decide +kernel) (by decide +kernel) (by decide +kernel) (Nat.le_of_ble_eq_true rfl) (Nat.le_of_ble_eq_true rfl) dX3_init_7 (fun q7 k7 H hK hP hD hS => ?_)
  have hP : va_P (dC, dI) vwCl [(a, .inr (6, [.null, .null, .null, .null, .null, .null, .null, .null, .int 0, .null, .int 0, .int 0, .int 0, .int 0, .long 0, .int 0, .int 0, .int 0])), (q7, .inl (k7, 10, .inl (fun _ => 0)))] H := hP
  have hD : va_D A [(a, .inr (6, [.null, .null, .null, .null, .null, .null, .null, .null, .int 0, .null, .int 0, .int 0, .int 0, .int 0, .long 0, .int 0, .int 0, .int 0])), (q7, .inl (k7, 10, .inl (fun _ => 0)))] := hD
  have hK : va_K (dC, dI) vwCl [(k7, .int)] s := hK
  refine va_putF (D := (dC, dI)) (ci := 6) (v := .ref q7) (ty := (tyX3 2)) (C := RX3) (T := TX3) (N := 18) hx hb hu iuX3 tyX3 tyX3_ok nmX3 hown hK hP hD hS 0 rfl rfl 2 (by decide) (hu _ mG_662) (fun _ h9 => h9) rfl hin rfl (by decide +kernel) (rfl) (rfl) (Nat.le_of_ble_eq_true rfl) dX3_init_9 (fun H locs hP hD hS => ?_)
  have hP : va_P (dC, dI) vwCl [(a, .inr (6, [.null, .null, .ref q7, .null, .null, .null, .null, .null, .int 0, .null, .int 0, .int 0, .int 0, .int 0, .long 0, .int 0, .int 0, .int 0])), (q7, .inl (k7, 10, .inl (fun _ => 0)))] H := hP
  have hD : va_D A [(a, .inr (6, [.null, .null, .ref q7, .null, .null, .null, .null, .null, .int 0, .null, .int 0, .int 0, .int 0, .int 0, .long 0, .int 0, .int 0, .int 0])), (q7, .inl (k7, 10, .inl (fun _ => 0)))] := hD
  refine lv_aload_n hx hb dX3_init_12 rfl (lv_at hl 0 rfl) ?_
  refine lv_sipush (v := 630) hx hb dX3_init_13 (by decide) ?_
  refine va_newa (atype := .int) (N' := 630) (a0 := (630, .inl (fun _ => 0))) hx hb (hu _ mG_373) rfl hK hP hD hS hA (fun _ => rfl) (by decide +kernel) (by decide +kernel) (by decide +kernel) (Nat.le_of_ble_eq_true rfl) (Nat.le_of_ble_eq_true rfl) dX3_init_16 (fun q16 k16 H hK hP hD hS => ?_)
  have hP : va_P (dC, dI) vwCl [(a, .inr (6, [.null, .null, .ref q7, .null, .null, .null, .null, .null, .int 0, .null, .int 0, .int 0, .int 0, .int 0, .long 0, .int 0, .int 0, .int 0])), (q7, .inl (k7, 10, .inl (fun _ => 0))), (q16, .inl (k16, 630, .inl (fun _ => 0)))] H := hP
  have hD : va_D A [(a, .inr (6, [.null, .null, .ref q7, .null, .null, .null, .null, .null, .int 0, .null, .int 0, .int 0, .int 0, .int 0, .long 0, .int 0, .int 0, .int 0])), (q7, .inl (k7, 10, .inl (fun _ => 0))), (q16, .inl (k16, 630, .inl (fun _ => 0)))] := hD
  have hK : va_K (dC, dI) vwCl [(k7, .int), (k16, .int)] s := hK
  refine va_putF (D := (dC, dI)) (ci := 6) (v := .ref q16) (ty := (tyX3 3)) (C := RX3) (T := TX3) (N := 18) hx hb hu iuX3 tyX3 tyX3_ok nmX3 hown hK hP hD hS 0 rfl rfl 3 (by decide) (hu _ mG_664) (fun _ h9 => h9) rfl hin rfl (by decide +kernel) (rfl) (rfl) (Nat.le_of_ble_eq_true rfl) dX3_init_18 (fun H locs hP hD hS => ?_)
  have hP : va_P (dC, dI) vwCl [(a, .inr (6, [.null, .null, .ref q7, .ref q16, .null, .null, .null, .null, .int 0, .null, .int 0, .int 0, .int 0, .int 0, .long 0, .int 0, .int 0, .int 0])), (q7, .inl (k7, 10, .inl (fun _ => 0))), (q16, .inl (k16, 630, .inl (fun _ => 0)))] H := hP
  have hD : va_D A [(a, .inr (6, [.null, .null, .ref q7, .ref q16, .null, .null, .null, .null, .int 0, .null, .int 0, .int 0, .int 0, .int 0, .long 0, .int 0, .int 0, .int 0])), (q7, .inl (k7, 10, .inl (fun _ => 0))), (q16, .inl (k16, 630, .inl (fun _ => 0)))] := hD
  refine lv_aload_n hx hb dX3_init_21 rfl (lv_at hl 0 rfl) ?_
  refine lv_sipush (v := 1000) hx hb dX3_init_22 (by decide) ?_
  refine va_newa (atype := .int) (N' := 1000) (a0 := (1000, .inl (fun _ => 0))) hx hb (hu _ mG_373) rfl hK hP hD hS hA (fun _ => rfl) (by decide +kernel) (by decide +kernel) (by decide +kernel) (Nat.le_of_ble_eq_true rfl) (Nat.le_of_ble_eq_true rfl) dX3_init_25 (fun q25 k25 H hK hP hD hS => ?_)
  have hP : va_P (dC, dI) vwCl [(a, .inr (6, [.null, .null, .ref q7, .ref q16, .null, .null, .null, .null, .int 0, .null, .int 0, .int 0, .int 0, .int 0, .long 0, .int 0, .int 0, .int 0])), (q7, .inl (k7, 10, .inl (fun _ => 0))), (q16, .inl (k16, 630, .inl (fun _ => 0))), (q25, .inl (k25, 1000, .inl (fun _ => 0)))] H := hP
  have hD : va_D A [(a, .inr (6, [.null, .null, .ref q7, .ref q16, .null, .null, .null, .null, .int 0, .null, .int 0, .int 0, .int 0, .int 0, .long 0, .int 0, .int 0, .int 0])), (q7, .inl (k7, 10, .inl (fun _ => 0))), (q16, .inl (k16, 630, .inl (fun _ => 0))), (q25, .inl (k25, 1000, .inl (fun _ => 0)))] := hD
  have hK : va_K (dC, dI) vwCl [(k7, .int), (k16, .int), (k25, .int)] s := hK
  refine va_putF (D := (dC, dI)) (ci := 6) (v := .ref q25) (ty := (tyX3 4)) (C := RX3) (T := TX3) (N := 18) hx hb hu iuX3 tyX3 tyX3_ok nmX3 hown hK hP hD hS 0 rfl rfl 4 (by decide) (hu _ mG_666) (fun _ h9 => h9) rfl hin rfl (by decide +kernel) (rfl) (rfl) (Nat.le_of_ble_eq_true rfl) dX3_init_27 (fun H locs hP hD hS => ?_)
  have hP : va_P (dC, dI) vwCl [(a, .inr (6, [.null, .null, .ref q7, .ref q16, .ref q25, .null, .null, .null, .int 0, .null, .int 0, .int 0, .int 0, .int 0, .long 0, .int 0, .int 0, .int 0])), (q7, .inl (k7, 10, .inl (fun _ => 0))), (q16, .inl (k16, 630, .inl (fun _ => 0))), (q25, .inl (k25, 1000, .inl (fun _ => 0)))] H := hP
  have hD : va_D A [(a, .inr (6, [.null, .null, .ref q7, .ref q16, .ref q25, .null, .null, .null, .int 0, .null, .int 0, .int 0, .int 0, .int 0, .long 0, .int 0, .int 0, .int 0])), (q7, .inl (k7, 10, .inl (fun _ => 0))), (q16, .inl (k16, 630, .inl (fun _ => 0))), (q25, .inl (k25, 1000, .inl (fun _ => 0)))] := hD
  refine lv_aload_n hx hb dX3_init_30 rfl (lv_at hl 0 rfl) ?_
  refine lv_bipush (v := 30) hx hb dX3_init_31 (by decide) ?_
  refine va_newa (atype := .int) (N' := 30) (a0 := (30, .inl (fun _ => 0))) hx hb (hu _ mG_373) rfl hK hP hD hS hA (fun _ => rfl) (by decide +kernel) (by decide +kernel) (by decide +kernel) (Nat.le_of_ble_eq_true rfl) (Nat.le_of_ble_eq_true rfl) dX3_init_33 (fun q33 k33 H hK hP hD hS => ?_)
  have hP : va_P (dC, dI) vwCl [(a, .inr (6, [.null, .null, .ref q7, .ref q16, .ref q25, .null, .null, .null, .int 0, .null, .int 0, .int 0, .int 0, .int 0, .long 0, .int 0, .int 0, .int 0])), (q7, .inl (k7, 10, .inl (fun _ => 0))), (q16, .inl (k16, 630, .inl (fun _ => 0))), (q25, .inl (k25, 1000, .inl (fun _ => 0))), (q33, .inl (k33, 30, .inl (fun _ => 0)))] H := hP
  have hD : va_D A [(a, .inr (6, [.null, .null, .ref q7, .ref q16, .ref q25, .null, .null, .null, .int 0, .null, .int 0, .int 0, .int 0, .int 0, .long 0, .int 0, .int 0, .int 0])), (q7, .inl (k7, 10, .inl (fun _ => 0))), (q16, .inl (k16, 630, .inl (fun _ => 0))), (q25, .inl (k25, 1000, .inl (fun _ => 0))), (q33, .inl (k33, 30, .inl (fun _ => 0)))] := hD
  have hK : va_K (dC, dI) vwCl [(k7, .int), (k16, .int), (k25, .int), (k33, .int)] s := hK
  refine va_putF (D := (dC, dI)) (ci := 6) (v := .ref q33) (ty := (tyX3 5)) (C := RX3) (T := TX3) (N := 18) hx hb hu iuX3 tyX3 tyX3_ok nmX3 hown hK hP hD hS 0 rfl rfl 5 (by decide) (hu _ mG_668) (fun _ h9 => h9) rfl hin rfl (by decide +kernel) (rfl) (rfl) (Nat.le_of_ble_eq_true rfl) dX3_init_35 (fun H locs hP hD hS => ?_)
  have hP : va_P (dC, dI) vwCl [(a, .inr (6, [.null, .null, .ref q7, .ref q16, .ref q25, .ref q33, .null, .null, .int 0, .null, .int 0, .int 0, .int 0, .int 0, .long 0, .int 0, .int 0, .int 0])), (q7, .inl (k7, 10, .inl (fun _ => 0))), (q16, .inl (k16, 630, .inl (fun _ => 0))), (q25, .inl (k25, 1000, .inl (fun _ => 0))), (q33, .inl (k33, 30, .inl (fun _ => 0)))] H := hP
  have hD : va_D A [(a, .inr (6, [.null, .null, .ref q7, .ref q16, .ref q25, .ref q33, .null, .null, .int 0, .null, .int 0, .int 0, .int 0, .int 0, .long 0, .int 0, .int 0, .int 0])), (q7, .inl (k7, 10, .inl (fun _ => 0))), (q16, .inl (k16, 630, .inl (fun _ => 0))), (q25, .inl (k25, 1000, .inl (fun _ => 0))), (q33, .inl (k33, 30, .inl (fun _ => 0)))] := hD
  refine lv_aload_n hx hb dX3_init_38 rfl (lv_at hl 0 rfl) ?_
  refine lv_sipush (v := 512) hx hb dX3_init_39 (by decide) ?_
  refine va_newa (atype := .long) (N' := 512) (a0 := (512, .inr (.inl (fun _ => 0)))) hx hb (hu _ mG_372) rfl hK hP hD hS hA (fun _ => rfl) (by decide +kernel) (by decide +kernel) (by decide +kernel) (Nat.le_of_ble_eq_true rfl) (Nat.le_of_ble_eq_true rfl) dX3_init_42 (fun q42 k42 H hK hP hD hS => ?_)
  have hP : va_P (dC, dI) vwCl [(a, .inr (6, [.null, .null, .ref q7, .ref q16, .ref q25, .ref q33, .null, .null, .int 0, .null, .int 0, .int 0, .int 0, .int 0, .long 0, .int 0, .int 0, .int 0])), (q7, .inl (k7, 10, .inl (fun _ => 0))), (q16, .inl (k16, 630, .inl (fun _ => 0))), (q25, .inl (k25, 1000, .inl (fun _ => 0))), (q33, .inl (k33, 30, .inl (fun _ => 0))), (q42, .inl (k42, 512, .inr (.inl (fun _ => 0))))] H := hP
  have hD : va_D A [(a, .inr (6, [.null, .null, .ref q7, .ref q16, .ref q25, .ref q33, .null, .null, .int 0, .null, .int 0, .int 0, .int 0, .int 0, .long 0, .int 0, .int 0, .int 0])), (q7, .inl (k7, 10, .inl (fun _ => 0))), (q16, .inl (k16, 630, .inl (fun _ => 0))), (q25, .inl (k25, 1000, .inl (fun _ => 0))), (q33, .inl (k33, 30, .inl (fun _ => 0))), (q42, .inl (k42, 512, .inr (.inl (fun _ => 0))))] := hD
  have hK : va_K (dC, dI) vwCl [(k7, .int), (k16, .int), (k25, .int), (k33, .int), (k42, .long)] s := hK
  refine va_put (D := (dC, dI)) (ci := 6) (v := .ref q42) (ty := (tyX3 7)) (C := RX3) (T := TX3) (N := 18) hx hb hu iuX3 tyX3 tyX3_ok nmX3 hown hK hP hD hS 0 rfl rfl 7 (by decide) (hu _ mG_670) (fun _ h9 => h9) rfl (by decide +kernel) (rfl) (rfl) (Nat.le_of_ble_eq_true rfl) dX3_init_44 (fun H locs hP hD hS => ?_)
  have hP : va_P (dC, dI) vwCl [(a, .inr (6, [.null, .null, .ref q7, .ref q16, .ref q25, .ref q33, .null, .ref q42, .int 0, .null, .int 0, .int 0, .int 0, .int 0, .long 0, .int 0, .int 0, .int 0])), (q7, .inl (k7, 10, .inl (fun _ => 0))), (q16, .inl (k16, 630, .inl (fun _ => 0))), (q25, .inl (k25, 1000, .inl (fun _ => 0))), (q33, .inl (k33, 30, .inl (fun _ => 0))), (q42, .inl (k42, 512, .inr (.inl (fun _ => 0))))] H := hP
  have hD : va_D A [(a, .inr (6, [.null, .null, .ref q7, .ref q16, .ref q25, .ref q33, .null, .ref q42, .int 0, .null, .int 0, .int 0, .int 0, .int 0, .long 0, .int 0, .int 0, .int 0])), (q7, .inl (k7, 10, .inl (fun _ => 0))), (q16, .inl (k16, 630, .inl (fun _ => 0))), (q25, .inl (k25, 1000, .inl (fun _ => 0))), (q33, .inl (k33, 30, .inl (fun _ => 0))), (q42, .inl (k42, 512, .inr (.inl (fun _ => 0))))] := hD
  refine lv_aload_n hx hb dX3_init_47 rfl (lv_at hl 0 rfl) ?_
  refine lv_sipush (v := 512) hx hb dX3_init_48 (by decide) ?_
  refine va_newa (atype := .long) (N' := 512) (a0 := (512, .inr (.inl (fun _ => 0)))) hx hb (hu _ mG_372) rfl hK hP hD hS hA (fun _ => rfl) (by decide +kernel) (by decide +kernel) (by decide +kernel) (Nat.le_of_ble_eq_true rfl) (Nat.le_of_ble_eq_true rfl) dX3_init_51 (fun q51 k51 H hK hP hD hS => ?_)
  have hP : va_P (dC, dI) vwCl [(a, .inr (6, [.null, .null, .ref q7, .ref q16, .ref q25, .ref q33, .null, .ref q42, .int 0, .null, .int 0, .int 0, .int 0, .int 0, .long 0, .int 0, .int 0, .int 0])), (q7, .inl (k7, 10, .inl (fun _ => 0))), (q16, .inl (k16, 630, .inl (fun _ => 0))), (q25, .inl (k25, 1000, .inl (fun _ => 0))), (q33, .inl (k33, 30, .inl (fun _ => 0))), (q42, .inl (k42, 512, .inr (.inl (fun _ => 0)))), (q51, .inl (k51, 512, .inr (.inl (fun _ => 0))))] H := hP
  have hD : va_D A [(a, .inr (6, [.null, .null, .ref q7, .ref q16, .ref q25, .ref q33, .null, .ref q42, .int 0, .null, .int 0, .int 0, .int 0, .int 0, .long 0, .int 0, .int 0, .int 0])), (q7, .inl (k7, 10, .inl (fun _ => 0))), (q16, .inl (k16, 630, .inl (fun _ => 0))), (q25, .inl (k25, 1000, .inl (fun _ => 0))), (q33, .inl (k33, 30, .inl (fun _ => 0))), (q42, .inl (k42, 512, .inr (.inl (fun _ => 0)))), (q51, .inl (k51, 512, .inr (.inl (fun _ => 0))))] := hD
  have hK : va_K (dC, dI) vwCl [(k7, .int), (k16, .int), (k25, .int), (k33, .int), (k42, .long), (k51, .long)] s := hK
  refine va_put (D := (dC, dI)) (ci := 6) (v := .ref q51) (ty := (tyX3 9)) (C := RX3) (T := TX3) (N := 18) hx hb hu iuX3 tyX3 tyX3_ok nmX3 hown hK hP hD hS 0 rfl rfl 9 (by decide) (hu _ mG_672) (fun _ h9 => h9) rfl (by decide +kernel) (rfl) (rfl) (Nat.le_of_ble_eq_true rfl) dX3_init_53 (fun H locs hP hD hS => ?_)
  have hP : va_P (dC, dI) vwCl [(a, .inr (6, [.null, .null, .ref q7, .ref q16, .ref q25, .ref q33, .null, .ref q42, .int 0, .ref q51, .int 0, .int 0, .int 0, .int 0, .long 0, .int 0, .int 0, .int 0])), (q7, .inl (k7, 10, .inl (fun _ => 0))), (q16, .inl (k16, 630, .inl (fun _ => 0))), (q25, .inl (k25, 1000, .inl (fun _ => 0))), (q33, .inl (k33, 30, .inl (fun _ => 0))), (q42, .inl (k42, 512, .inr (.inl (fun _ => 0)))), (q51, .inl (k51, 512, .inr (.inl (fun _ => 0))))] H := hP
  have hD : va_D A [(a, .inr (6, [.null, .null, .ref q7, .ref q16, .ref q25, .ref q33, .null, .ref q42, .int 0, .ref q51, .int 0, .int 0, .int 0, .int 0, .long 0, .int 0, .int 0, .int 0])), (q7, .inl (k7, 10, .inl (fun _ => 0))), (q16, .inl (k16, 630, .inl (fun _ => 0))), (q25, .inl (k25, 1000, .inl (fun _ => 0))), (q33, .inl (k33, 30, .inl (fun _ => 0))), (q42, .inl (k42, 512, .inr (.inl (fun _ => 0)))), (q51, .inl (k51, 512, .inr (.inl (fun _ => 0))))] := hD
  refine lv_aload_n hx hb dX3_init_56 rfl (lv_at hl 0 rfl) ?_
  refine lv_aload_n hx hb dX3_init_57 rfl (lv_at hl 1 rfl) ?_
  refine va_putF (D := (dC, dI)) (ci := 6) (v := .ref tr) (ty := (tyX3 0)) (C := RX3) (T := TX3) (N := 18) hx hb hu iuX3 tyX3 tyX3_ok nmX3 hown hK hP hD hS 0 rfl rfl 0 (by decide) (hu _ mG_660) (fun _ h9 => h9) rfl hin rfl (by decide +kernel) (rfl) (rfl) (Nat.le_of_ble_eq_true rfl) dX3_init_58 (fun H locs hP hD hS => ?_)
  have hP : va_P (dC, dI) vwCl [(a, .inr (6, [.ref tr, .null, .ref q7, .ref q16, .ref q25, .ref q33, .null, .ref q42, .int 0, .ref q51, .int 0, .int 0, .int 0, .int 0, .long 0, .int 0, .int 0, .int 0])), (q7, .inl (k7, 10, .inl (fun _ => 0))), (q16, .inl (k16, 630, .inl (fun _ => 0))), (q25, .inl (k25, 1000, .inl (fun _ => 0))), (q33, .inl (k33, 30, .inl (fun _ => 0))), (q42, .inl (k42, 512, .inr (.inl (fun _ => 0)))), (q51, .inl (k51, 512, .inr (.inl (fun _ => 0))))] H := hP
  have hD : va_D A [(a, .inr (6, [.ref tr, .null, .ref q7, .ref q16, .ref q25, .ref q33, .null, .ref q42, .int 0, .ref q51, .int 0, .int 0, .int 0, .int 0, .long 0, .int 0, .int 0, .int 0])), (q7, .inl (k7, 10, .inl (fun _ => 0))), (q16, .inl (k16, 630, .inl (fun _ => 0))), (q25, .inl (k25, 1000, .inl (fun _ => 0))), (q33, .inl (k33, 30, .inl (fun _ => 0))), (q42, .inl (k42, 512, .inr (.inl (fun _ => 0)))), (q51, .inl (k51, 512, .inr (.inl (fun _ => 0))))] := hD
  refine lv_aload_n hx hb dX3_init_61 rfl (lv_at hl 0 rfl) ?_
  refine lv_aload_n hx hb dX3_init_62 rfl (lv_at hl 2 rfl) ?_
  refine va_putF (D := (dC, dI)) (ci := 6) (v := .ref pr) (ty := (tyX3 1)) (C := RX3) (T := TX3) (N := 18) hx hb hu iuX3 tyX3 tyX3_ok nmX3 hown hK hP hD hS 0 rfl rfl 1 (by decide) (hu _ mG_661) (fun _ h9 => h9) rfl hin rfl (by decide +kernel) (rfl) (rfl) (Nat.le_of_ble_eq_true rfl) dX3_init_63 (fun H locs hP hD hS => ?_)
  have hP : va_P (dC, dI) vwCl [(a, .inr (6, [.ref tr, .ref pr, .ref q7, .ref q16, .ref q25, .ref q33, .null, .ref q42, .int 0, .ref q51, .int 0, .int 0, .int 0, .int 0, .long 0, .int 0, .int 0, .int 0])), (q7, .inl (k7, 10, .inl (fun _ => 0))), (q16, .inl (k16, 630, .inl (fun _ => 0))), (q25, .inl (k25, 1000, .inl (fun _ => 0))), (q33, .inl (k33, 30, .inl (fun _ => 0))), (q42, .inl (k42, 512, .inr (.inl (fun _ => 0)))), (q51, .inl (k51, 512, .inr (.inl (fun _ => 0))))] H := hP
  have hD : va_D A [(a, .inr (6, [.ref tr, .ref pr, .ref q7, .ref q16, .ref q25, .ref q33, .null, .ref q42, .int 0, .ref q51, .int 0, .int 0, .int 0, .int 0, .long 0, .int 0, .int 0, .int 0])), (q7, .inl (k7, 10, .inl (fun _ => 0))), (q16, .inl (k16, 630, .inl (fun _ => 0))), (q25, .inl (k25, 1000, .inl (fun _ => 0))), (q33, .inl (k33, 30, .inl (fun _ => 0))), (q42, .inl (k42, 512, .inr (.inl (fun _ => 0)))), (q51, .inl (k51, 512, .inr (.inl (fun _ => 0))))] := hD
  refine lv_aload_n hx hb dX3_init_66 rfl (lv_at hl 0 rfl) ?_
  refine va_new (ci := 3) (fs := [.null, .null]) (C := RX0) (T := TX0) (N := 2) hx hb hu iuX0 tyX0 tyX0_ok hown (hu _ mG_646) (hu _ mG_647) (hu _ mG_225) hK hP hD hS hA rfl (dfX0) (Nat.le_of_ble_eq_true rfl) (Nat.le_of_ble_eq_true rfl) dX3_init_67 (fun q67 H hP hD hS => ?_)
  have hP : va_P (dC, dI) vwCl [(a, .inr (6, [.ref tr, .ref pr, .ref q7, .ref q16, .ref q25, .ref q33, .null, .ref q42, .int 0, .ref q51, .int 0, .int 0, .int 0, .int 0, .long 0, .int 0, .int 0, .int 0])), (q7, .inl (k7, 10, .inl (fun _ => 0))), (q16, .inl (k16, 630, .inl (fun _ => 0))), (q25, .inl (k25, 1000, .inl (fun _ => 0))), (q33, .inl (k33, 30, .inl (fun _ => 0))), (q42, .inl (k42, 512, .inr (.inl (fun _ => 0)))), (q51, .inl (k51, 512, .inr (.inl (fun _ => 0)))), (q67, .inr (3, [.null, .null]))] H := hP
  have hD : va_D A [(a, .inr (6, [.ref tr, .ref pr, .ref q7, .ref q16, .ref q25, .ref q33, .null, .ref q42, .int 0, .ref q51, .int 0, .int 0, .int 0, .int 0, .long 0, .int 0, .int 0, .int 0])), (q7, .inl (k7, 10, .inl (fun _ => 0))), (q16, .inl (k16, 630, .inl (fun _ => 0))), (q25, .inl (k25, 1000, .inl (fun _ => 0))), (q33, .inl (k33, 30, .inl (fun _ => 0))), (q42, .inl (k42, 512, .inr (.inl (fun _ => 0)))), (q51, .inl (k51, 512, .inr (.inl (fun _ => 0)))), (q67, .inr (3, [.null, .null]))] := hD
  refine lv_dup hx hb dX3_init_70 rfl ?_
  refine lv_aload_n hx hb dX3_init_71 rfl (lv_at hl 0 rfl) ?_
  refine va_get (D := (dC, dI)) (ci := 6) (v := .ref q7) (C := RX3) (T := TX3) (N := 18) hx hb hu iuX3 hown hK hP 0 rfl rfl 2 (by decide) (hu _ mG_662) (fun _ h9 => h9) rfl dX3_init_72 ?_
  have hPc := hP.sub (ws' := [(q67, .inr (3, [.null, .null]))]) [7] rfl
  have hDc := hD.sub (ws' := [(q67, .inr (3, [.null, .null]))]) [7] (by decide) rfl
  have hKc := hK.sub (tys' := []) [] rfl
  have hFc := va_free (wc := [(q67, .inr (3, [.null, .null]))]) hD hS hA [7] rfl
  refine va_callv (va_runI (As := [.ref q7]) (rest := [.ref q67, .ref a]) ⟨hx, hb, hml, hown, hu⟩ (kX0_init l dC dI H.size q67 q7) (cwI 1 hu (uG_c (fun _ h => h) mG_650) rfl rfl rfl (hu _ mG_225) (hu _ mG_648) (hu _ mG_649) rfl (by decide +kernel) ⟨Nat.le_of_ble_eq_true rfl, Nat.le_of_ble_eq_true rfl⟩) ⟨fun a U g mk q => by obtain ⟨q0, q1, qP, qK, qD⟩ := q; exact ⟨q0, q1, qP, va_K.moved (u := U) (U := U.calling g mk a) (Vm.Alike.refl U.vm) qK, qD⟩, fun U hU hW => ⟨rfl, by rw [hU], by rw [hU]; exact hPc, va_K.moved hW.alike hKc, hDc.weaken (fun _ _ _ _ => trivial)⟩⟩ rfl rfl hl.1 rfl (lv_room (Nat.le_of_ble_eq_true rfl)) dX3_init_75 ⟨Nat.le_of_ble_eq_true rfl, Nat.le_of_ble_eq_true rfl⟩) hS (fun q _ h => hFc q h) hFc (fun u t H1 locs ht hvm hw hB hz1 hk1 hS => ?_)
  obtain ⟨a75, k75⟩ := u
  obtain ⟨hP1, hK1, hD1⟩ := hB
  rw [ht] at hP1
  obtain ⟨hP, hD⟩ := va_join (wr := [(a, .inr (6, [.ref tr, .ref pr, .ref q7, .ref q16, .ref q25, .ref q33, .null, .ref q42, .int 0, .ref q51, .int 0, .int 0, .int 0, .int 0, .long 0, .int 0, .int 0, .int 0])), (q7, .inl (k7, 10, .inl (fun _ => 0))), (q16, .inl (k16, 630, .inl (fun _ => 0))), (q25, .inl (k25, 1000, .inl (fun _ => 0))), (q33, .inl (k33, 30, .inl (fun _ => 0))), (q42, .inl (k42, 512, .inr (.inl (fun _ => 0)))), (q51, .inl (k51, 512, .inr (.inl (fun _ => 0))))]) (w1 := [(q67, .inr (3, [.ref (a75 0), .ref q7])), ((a75 0), .inl ((k75 0), 4000, .inr (.inl (fun _ => 0))))]) hP hD [7] [0, 1, 2, 3, 4, 5, 6] rfl rfl (by decide) (by decide) hk1 hFc hP1 hD1
  generalize H1 = H at hP hS ⊢
  have hP : va_P (dC, dI) vwCl [(a, .inr (6, [.ref tr, .ref pr, .ref q7, .ref q16, .ref q25, .ref q33, .null, .ref q42, .int 0, .ref q51, .int 0, .int 0, .int 0, .int 0, .long 0, .int 0, .int 0, .int 0])), (q7, .inl (k7, 10, .inl (fun _ => 0))), (q16, .inl (k16, 630, .inl (fun _ => 0))), (q25, .inl (k25, 1000, .inl (fun _ => 0))), (q33, .inl (k33, 30, .inl (fun _ => 0))), (q42, .inl (k42, 512, .inr (.inl (fun _ => 0)))), (q51, .inl (k51, 512, .inr (.inl (fun _ => 0)))), (q67, .inr (3, [.ref (a75 0), .ref q7])), ((a75 0), .inl ((k75 0), 4000, .inr (.inl (fun _ => 0))))] H := hP
  have hD : va_D A [(a, .inr (6, [.ref tr, .ref pr, .ref q7, .ref q16, .ref q25, .ref q33, .null, .ref q42, .int 0, .ref q51, .int 0, .int 0, .int 0, .int 0, .long 0, .int 0, .int 0, .int 0])), (q7, .inl (k7, 10, .inl (fun _ => 0))), (q16, .inl (k16, 630, .inl (fun _ => 0))), (q25, .inl (k25, 1000, .inl (fun _ => 0))), (q33, .inl (k33, 30, .inl (fun _ => 0))), (q42, .inl (k42, 512, .inr (.inl (fun _ => 0)))), (q51, .inl (k51, 512, .inr (.inl (fun _ => 0)))), (q67, .inr (3, [.ref (a75 0), .ref q7])), ((a75 0), .inl ((k75 0), 4000, .inr (.inl (fun _ => 0))))] := hD
  have hK := hK.app (va_K.moved hvm.symm hK1)
  have hK : va_K (dC, dI) vwCl [(k7, .int), (k16, .int), (k25, .int), (k33, .int), (k42, .long), (k51, .long), ((k75 0), .long)] s := hK
  refine va_putF (D := (dC, dI)) (ci := 6) (v := .ref q67) (ty := (tyX3 6)) (C := RX3) (T := TX3) (N := 18) hx hb hu iuX3 tyX3 tyX3_ok nmX3 hown hK hP hD hS 0 rfl rfl 6 (by decide) (hu _ mG_669) (fun _ h9 => h9) rfl hin rfl (by decide +kernel) (rfl) (rfl) (Nat.le_of_ble_eq_true rfl) dX3_init_78 (fun H locs hP hD hS => ?_)
  have hP : va_P (dC, dI) vwCl [(a, .inr (6, [.ref tr, .ref pr, .ref q7, .ref q16, .ref q25, .ref q33, .ref q67, .ref q42, .int 0, .ref q51, .int 0, .int 0, .int 0, .int 0, .long 0, .int 0, .int 0, .int 0])), (q7, .inl (k7, 10, .inl (fun _ => 0))), (q16, .inl (k16, 630, .inl (fun _ => 0))), (q25, .inl (k25, 1000, .inl (fun _ => 0))), (q33, .inl (k33, 30, .inl (fun _ => 0))), (q42, .inl (k42, 512, .inr (.inl (fun _ => 0)))), (q51, .inl (k51, 512, .inr (.inl (fun _ => 0)))), (q67, .inr (3, [.ref (a75 0), .ref q7])), ((a75 0), .inl ((k75 0), 4000, .inr (.inl (fun _ => 0))))] H := hP
  have hD : va_D A [(a, .inr (6, [.ref tr, .ref pr, .ref q7, .ref q16, .ref q25, .ref q33, .ref q67, .ref q42, .int 0, .ref q51, .int 0, .int 0, .int 0, .int 0, .long 0, .int 0, .int 0, .int 0])), (q7, .inl (k7, 10, .inl (fun _ => 0))), (q16, .inl (k16, 630, .inl (fun _ => 0))), (q25, .inl (k25, 1000, .inl (fun _ => 0))), (q33, .inl (k33, 30, .inl (fun _ => 0))), (q42, .inl (k42, 512, .inr (.inl (fun _ => 0)))), (q51, .inl (k51, 512, .inr (.inl (fun _ => 0)))), (q67, .inr (3, [.ref (a75 0), .ref q7])), ((a75 0), .inl ((k75 0), 4000, .inr (.inl (fun _ => 0))))] := hD
  refine W.widen (k := 8) (n := 6696) (by omega) (by omega) ?_
  exact W.vret hx hb hr (fun t ht hW => ⟨⟨(fun i => if i = 0 then q7 else if i = 1 then q16 else if i = 2 then q25 else if i = 3 then q33 else if i = 4 then q42 else if i = 5 then q51 else if i = 6 then q67 else if i = 7 then (a75 0) else 0, fun i => if i = 0 then k7 else if i = 1 then k16 else if i = 2 then k25 else if i = 3 then k33 else if i = 4 then k42 else if i = 5 then k51 else if i = 6 then (k75 0) else k7), rfl, trivial, by rw [ht]; exact hP, va_K.moved hW.alike hK, hD⟩, hS.F ht⟩) hS.2.2 dX3_init_81
