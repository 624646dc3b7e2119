
theorem mG_108 : Cond.selects "LazyForgeModel" yX12_next yX12_next ∈ uG := uG_at 108 (by decide +kernel) (by decide +kernel)
theorem mG_109 : Cond.selects "LazyForgeModel" yX12_passBlanks yX12_passBlanks ∈ uG := uG_at 109 (by decide +kernel) (by decide +kernel)
theorem mG_110 : Cond.selects "LazyForgeModel" yX12_sign yX12_sign ∈ uG := uG_at 110 (by decide +kernel) (by decide +kernel)
theorem mG_111 : Cond.selects "LazyForgeModel" yX12_readName yX12_readName ∈ uG := uG_at 111 (by decide +kernel) (by decide +kernel)
theorem mG_112 : Cond.selects "LazyForgeModel" yX12_readNumber yX12_readNumber ∈ uG := uG_at 112 (by decide +kernel) (by decide +kernel)
theorem mG_115 : Cond.selects "LazyForgeModel" yX12_fail yX12_fail ∈ uG := uG_at 115 (by decide +kernel) (by decide +kernel)
theorem mG_117 : Cond.selects "LazyForgeModel" yX12_wrong yX12_wrong ∈ uG := uG_at 117 (by decide +kernel) (by decide +kernel)
theorem mG_226 : Cond.initialized "LazyForgeModel" ∈ uG := uG_at 226 (by decide +kernel) (by decide +kernel)
theorem mG_2050 : Cond.fieldLink "LazyForgeModel" 251 "LazyForgeModel" "thrown" "I" ∈ uG := uG_at 2050 (by decide +kernel) (by decide +kernel)
theorem mG_2052 : Cond.fieldLink "LazyForgeModel" 254 "LazyForgeModel" "size" "I" ∈ uG := uG_at 2052 (by decide +kernel) (by decide +kernel)
theorem mG_2055 : Cond.fieldLink "LazyForgeModel" 261 "LazyForgeModel" "at" "I" ∈ uG := uG_at 2055 (by decide +kernel) (by decide +kernel)
theorem mG_2056 : Cond.fieldLink "LazyForgeModel" 286 "LazyForgeModel" "word" "I" ∈ uG := uG_at 2056 (by decide +kernel) (by decide +kernel)
theorem mG_2057 : Cond.fieldLink "LazyForgeModel" 275 "LazyForgeModel" "wordPlace" "I" ∈ uG := uG_at 2057 (by decide +kernel) (by decide +kernel)
theorem mG_2058 : Cond.fieldLink "LazyForgeModel" 278 "LazyForgeModel" "wordName" "J" ∈ uG := uG_at 2058 (by decide +kernel) (by decide +kernel)
theorem mG_2059 : Cond.fieldLink "LazyForgeModel" 295 "LazyForgeModel" "wordNumber" "I" ∈ uG := uG_at 2059 (by decide +kernel) (by decide +kernel)
theorem mG_2060 : Cond.fieldLink "LazyForgeModel" 311 "LazyForgeModel" "fault" "I" ∈ uG := uG_at 2060 (by decide +kernel) (by decide +kernel)
theorem mG_2061 : Cond.fieldLink "LazyForgeModel" 314 "LazyForgeModel" "faultPlace" "I" ∈ uG := uG_at 2061 (by decide +kernel) (by decide +kernel)
theorem mG_2062 : Cond.fieldLink "LazyForgeModel" 327 "LazyForgeModel" "nodes" "I" ∈ uG := uG_at 2062 (by decide +kernel) (by decide +kernel)
theorem mG_2073 : Cond.fieldLink "LazyForgeModel" 330 "LazyForgeModel" "gives" "I" ∈ uG := uG_at 2073 (by decide +kernel) (by decide +kernel)
theorem mG_2075 : Cond.fieldLink "LazyForgeModel" 333 "LazyForgeModel" "parts" "I" ∈ uG := uG_at 2075 (by decide +kernel) (by decide +kernel)
theorem mG_2076 : Cond.fieldLink "LazyForgeModel" 336 "LazyForgeModel" "allParts" "I" ∈ uG := uG_at 2076 (by decide +kernel) (by decide +kernel)
theorem mG_2081 : Cond.fieldLink "LazyForgeModel" 348 "LazyForgeModel" "constructors" "I" ∈ uG := uG_at 2081 (by decide +kernel) (by decide +kernel)
theorem mG_2084 : Cond.fieldLink "LazyForgeModel" 339 "LazyForgeModel" "open" "I" ∈ uG := uG_at 2084 (by decide +kernel) (by decide +kernel)
theorem mG_2085 : Cond.fieldLink "LazyForgeModel" 342 "LazyForgeModel" "piled" "I" ∈ uG := uG_at 2085 (by decide +kernel) (by decide +kernel)
theorem mG_2090 : Cond.fieldLink "LazyForgeModel" 345 "LazyForgeModel" "operands" "I" ∈ uG := uG_at 2090 (by decide +kernel) (by decide +kernel)
theorem mG_2476 : Cond.methodLink "LazyForgeModel" 257 yX12_pack ∈ uG := uG_at 2476 (by decide +kernel) (by decide +kernel)
theorem mG_2477 : Cond.static yX12_pack ∈ uG := uG_at 2477 (by decide +kernel) (by decide +kernel)
theorem mG_2478 : Cond.code yX12_pack prog_14_method_7_code 7 (some .long) ∈ uG := uG_at 2478 (by decide +kernel) (by decide +kernel)
theorem mG_2479 : Cond.methodLink "LazyForgeModel" 321 yX12_next ∈ uG := uG_at 2479 (by decide +kernel) (by decide +kernel)
theorem mG_2481 : Cond.instanceMethod yX12_next ∈ uG := uG_at 2481 (by decide +kernel) (by decide +kernel)
theorem mG_2482 : Cond.code yX12_next prog_14_method_12_code 4 none ∈ uG := uG_at 2482 (by decide +kernel) (by decide +kernel)
theorem mG_2483 : Cond.methodLink "LazyForgeModel" 298 yX12_passBlanks ∈ uG := uG_at 2483 (by decide +kernel) (by decide +kernel)
theorem mG_2485 : Cond.instanceMethod yX12_passBlanks ∈ uG := uG_at 2485 (by decide +kernel) (by decide +kernel)
theorem mG_2486 : Cond.code yX12_passBlanks prog_14_method_9_code 2 none ∈ uG := uG_at 2486 (by decide +kernel) (by decide +kernel)
theorem mG_2487 : Cond.methodLink "LazyForgeModel" 264 yX12_sign ∈ uG := uG_at 2487 (by decide +kernel) (by decide +kernel)
theorem mG_2489 : Cond.instanceMethod yX12_sign ∈ uG := uG_at 2489 (by decide +kernel) (by decide +kernel)
theorem mG_2490 : Cond.code yX12_sign prog_14_method_3_code 2 (some .int) ∈ uG := uG_at 2490 (by decide +kernel) (by decide +kernel)
theorem mG_2491 : Cond.methodLink "LazyForgeModel" 268 yX12_isSmall ∈ uG := uG_at 2491 (by decide +kernel) (by decide +kernel)
theorem mG_2492 : Cond.static yX12_isSmall ∈ uG := uG_at 2492 (by decide +kernel) (by decide +kernel)
theorem mG_2493 : Cond.code yX12_isSmall prog_14_method_5_code 1 (some .boolean) ∈ uG := uG_at 2493 (by decide +kernel) (by decide +kernel)
theorem mG_2494 : Cond.methodLink "LazyForgeModel" 301 yX12_isCapital ∈ uG := uG_at 2494 (by decide +kernel) (by decide +kernel)
theorem mG_2495 : Cond.static yX12_isCapital ∈ uG := uG_at 2495 (by decide +kernel) (by decide +kernel)
theorem mG_2496 : Cond.code yX12_isCapital prog_14_method_6_code 1 (some .boolean) ∈ uG := uG_at 2496 (by decide +kernel) (by decide +kernel)
theorem mG_2497 : Cond.methodLink "LazyForgeModel" 304 yX12_readName ∈ uG := uG_at 2497 (by decide +kernel) (by decide +kernel)
theorem mG_2499 : Cond.instanceMethod yX12_readName ∈ uG := uG_at 2499 (by decide +kernel) (by decide +kernel)
theorem mG_2500 : Cond.code yX12_readName prog_14_method_10_code 4 none ∈ uG := uG_at 2500 (by decide +kernel) (by decide +kernel)
theorem mG_2501 : Cond.methodLink "LazyForgeModel" 272 yX12_isDigit ∈ uG := uG_at 2501 (by decide +kernel) (by decide +kernel)
theorem mG_2502 : Cond.static yX12_isDigit ∈ uG := uG_at 2502 (by decide +kernel) (by decide +kernel)
theorem mG_2503 : Cond.code yX12_isDigit prog_14_method_4_code 1 (some .boolean) ∈ uG := uG_at 2503 (by decide +kernel) (by decide +kernel)
theorem mG_2504 : Cond.methodLink "LazyForgeModel" 282 yX12_keyword ∈ uG := uG_at 2504 (by decide +kernel) (by decide +kernel)
theorem mG_2505 : Cond.static yX12_keyword ∈ uG := uG_at 2505 (by decide +kernel) (by decide +kernel)
theorem mG_2506 : Cond.code yX12_keyword prog_14_method_8_code 2 (some .int) ∈ uG := uG_at 2506 (by decide +kernel) (by decide +kernel)
theorem mG_2507 : Cond.methodLink "LazyForgeModel" 308 yX12_readNumber ∈ uG := uG_at 2507 (by decide +kernel) (by decide +kernel)
theorem mG_2509 : Cond.instanceMethod yX12_readNumber ∈ uG := uG_at 2509 (by decide +kernel) (by decide +kernel)
theorem mG_2510 : Cond.code yX12_readNumber prog_14_method_11_code 3 none ∈ uG := uG_at 2510 (by decide +kernel) (by decide +kernel)
theorem mG_2511 : Cond.constantLong "LazyForgeModel" 289 10 ∈ uG := uG_at 2511 (by decide +kernel) (by decide +kernel)
theorem mG_2512 : Cond.constantLong "LazyForgeModel" 291 48 ∈ uG := uG_at 2512 (by decide +kernel) (by decide +kernel)
theorem mG_2513 : Cond.constantLong "LazyForgeModel" 293 2147483647 ∈ uG := uG_at 2513 (by decide +kernel) (by decide +kernel)
theorem mG_2522 : Cond.methodLink "LazyForgeModel" 317 yX12_fail ∈ uG := uG_at 2522 (by decide +kernel) (by decide +kernel)
theorem mG_2524 : Cond.instanceMethod yX12_fail ∈ uG := uG_at 2524 (by decide +kernel) (by decide +kernel)
theorem mG_2525 : Cond.code yX12_fail prog_14_method_14_code 3 none ∈ uG := uG_at 2525 (by decide +kernel) (by decide +kernel)
theorem mG_2530 : Cond.methodLink "LazyForgeModel" 324 yX12_wrong ∈ uG := uG_at 2530 (by decide +kernel) (by decide +kernel)
theorem mG_2532 : Cond.instanceMethod yX12_wrong ∈ uG := uG_at 2532 (by decide +kernel) (by decide +kernel)
theorem mG_2533 : Cond.code yX12_wrong prog_14_method_15_code 1 none ∈ uG := uG_at 2533 (by decide +kernel) (by decide +kernel)
theorem dX12_accept_0 : decode cX12_accept 0 = .ok (.iload_n 1, 1) := by decide +kernel
theorem dX12_accept_1 : decode cX12_accept 1 = .ok (.ifCond .eq 17, 3) := by decide +kernel
theorem dX12_accept_4 : decode cX12_accept 4 = .ok (.aload_n 0, 1) := by decide +kernel
theorem dX12_accept_5 : decode cX12_accept 5 = .ok (.getfield 311, 3) := by decide +kernel
theorem dX12_accept_8 : decode cX12_accept 8 = .ok (.ifCond .ne 10, 3) := by decide +kernel
theorem dX12_accept_11 : decode cX12_accept 11 = .ok (.aload_n 0, 1) := by decide +kernel
theorem dX12_accept_12 : decode cX12_accept 12 = .ok (.invokevirtual 321, 3) := by decide +kernel
theorem dX12_accept_15 : decode cX12_accept 15 = .ok (.goto 7, 3) := by decide +kernel
theorem dX12_accept_18 : decode cX12_accept 18 = .ok (.aload_n 0, 1) := by decide +kernel
theorem dX12_accept_19 : decode cX12_accept 19 = .ok (.invokevirtual 324, 3) := by decide +kernel
theorem dX12_accept_22 : decode cX12_accept 22 = .ok (.return_, 1) := by decide +kernel
theorem dX12_append_0 : decode cX12_append 0 = .ok (.aload_n 0, 1) := by decide +kernel
theorem dX12_append_1 : decode cX12_append 1 = .ok (.getfield 19, 3) := by decide +kernel
theorem dX12_append_4 : decode cX12_append 4 = .ok (.iload_n 1, 1) := by decide +kernel
theorem dX12_append_5 : decode cX12_append 5 = .ok (.iaload, 1) := by decide +kernel
theorem dX12_append_6 : decode cX12_append 6 = .ok (.ifCond .ge 13, 3) := by decide +kernel
theorem dX12_append_9 : decode cX12_append 9 = .ok (.aload_n 0, 1) := by decide +kernel
theorem dX12_append_10 : decode cX12_append 10 = .ok (.getfield 19, 3) := by decide +kernel
theorem dX12_append_13 : decode cX12_append 13 = .ok (.iload_n 1, 1) := by decide +kernel
theorem dX12_append_14 : decode cX12_append 14 = .ok (.iload_n 2, 1) := by decide +kernel
theorem dX12_append_15 : decode cX12_append 15 = .ok (.iastore, 1) := by decide +kernel
theorem dX12_append_16 : decode cX12_append 16 = .ok (.goto 15, 3) := by decide +kernel
theorem dX12_append_19 : decode cX12_append 19 = .ok (.aload_n 0, 1) := by decide +kernel
theorem dX12_append_20 : decode cX12_append 20 = .ok (.getfield 25, 3) := by decide +kernel
theorem dX12_append_23 : decode cX12_append 23 = .ok (.aload_n 0, 1) := by decide +kernel
theorem dX12_append_24 : decode cX12_append 24 = .ok (.getfield 22, 3) := by decide +kernel
theorem dX12_append_27 : decode cX12_append 27 = .ok (.iload_n 1, 1) := by decide +kernel
theorem dX12_append_28 : decode cX12_append 28 = .ok (.iaload, 1) := by decide +kernel
theorem dX12_append_29 : decode cX12_append 29 = .ok (.iload_n 2, 1) := by decide +kernel
theorem dX12_append_30 : decode cX12_append 30 = .ok (.iastore, 1) := by decide +kernel
theorem dX12_append_31 : decode cX12_append 31 = .ok (.aload_n 0, 1) := by decide +kernel
theorem dX12_append_32 : decode cX12_append 32 = .ok (.getfield 22, 3) := by decide +kernel
theorem dX12_append_35 : decode cX12_append 35 = .ok (.iload_n 1, 1) := by decide +kernel
theorem dX12_append_36 : decode cX12_append 36 = .ok (.iload_n 2, 1) := by decide +kernel
theorem dX12_append_37 : decode cX12_append 37 = .ok (.iastore, 1) := by decide +kernel
theorem dX12_append_38 : decode cX12_append 38 = .ok (.return_, 1) := by decide +kernel
theorem dX12_fail_0 : decode cX12_fail 0 = .ok (.aload_n 0, 1) := by decide +kernel
theorem dX12_fail_1 : decode cX12_fail 1 = .ok (.getfield 311, 3) := by decide +kernel
theorem dX12_fail_4 : decode cX12_fail 4 = .ok (.ifCond .ne 13, 3) := by decide +kernel
theorem dX12_fail_7 : decode cX12_fail 7 = .ok (.aload_n 0, 1) := by decide +kernel
theorem dX12_fail_8 : decode cX12_fail 8 = .ok (.iload_n 1, 1) := by decide +kernel
theorem dX12_fail_9 : decode cX12_fail 9 = .ok (.putfield 311, 3) := by decide +kernel
theorem dX12_fail_12 : decode cX12_fail 12 = .ok (.aload_n 0, 1) := by decide +kernel
theorem dX12_fail_13 : decode cX12_fail 13 = .ok (.iload_n 2, 1) := by decide +kernel
theorem dX12_fail_14 : decode cX12_fail 14 = .ok (.putfield 314, 3) := by decide +kernel
theorem dX12_fail_17 : decode cX12_fail 17 = .ok (.return_, 1) := by decide +kernel
theorem dX12_findConstructor_0 : decode cX12_findConstructor 0 = .ok (.iconst 0, 1) := by decide +kernel
theorem dX12_findConstructor_1 : decode cX12_findConstructor 1 = .ok (.istore_n 3, 1) := by decide +kernel
theorem dX12_findConstructor_2 : decode cX12_findConstructor 2 = .ok (.iload_n 3, 1) := by decide +kernel
theorem dX12_findConstructor_3 : decode cX12_findConstructor 3 = .ok (.aload_n 0, 1) := by decide +kernel
theorem dX12_findConstructor_4 : decode cX12_findConstructor 4 = .ok (.getfield 348, 3) := by decide +kernel
theorem dX12_findConstructor_7 : decode cX12_findConstructor 7 = .ok (.if_icmp .ge 20, 3) := by decide +kernel
theorem dX12_findConstructor_10 : decode cX12_findConstructor 10 = .ok (.aload_n 0, 1) := by decide +kernel
theorem dX12_findConstructor_11 : decode cX12_findConstructor 11 = .ok (.getfield 59, 3) := by decide +kernel
theorem dX12_findConstructor_14 : decode cX12_findConstructor 14 = .ok (.iload_n 3, 1) := by decide +kernel
theorem dX12_findConstructor_15 : decode cX12_findConstructor 15 = .ok (.laload, 1) := by decide +kernel
theorem dX12_findConstructor_16 : decode cX12_findConstructor 16 = .ok (.lload_n 1, 1) := by decide +kernel
theorem dX12_findConstructor_17 : decode cX12_findConstructor 17 = .ok (.lcmp, 1) := by decide +kernel
theorem dX12_findConstructor_18 : decode cX12_findConstructor 18 = .ok (.ifCond .eq 9, 3) := by decide +kernel
theorem dX12_findConstructor_21 : decode cX12_findConstructor 21 = .ok (.iinc 3 1, 3) := by decide +kernel
theorem dX12_findConstructor_24 : decode cX12_findConstructor 24 = .ok (.goto (-22), 3) := by decide +kernel
theorem dX12_findConstructor_27 : decode cX12_findConstructor 27 = .ok (.iload_n 3, 1) := by decide +kernel
theorem dX12_findConstructor_28 : decode cX12_findConstructor 28 = .ok (.aload_n 0, 1) := by decide +kernel
theorem dX12_findConstructor_29 : decode cX12_findConstructor 29 = .ok (.getfield 348, 3) := by decide +kernel
theorem dX12_findConstructor_32 : decode cX12_findConstructor 32 = .ok (.if_icmp .ge 7, 3) := by decide +kernel
theorem dX12_findConstructor_35 : decode cX12_findConstructor 35 = .ok (.iload_n 3, 1) := by decide +kernel
theorem dX12_findConstructor_36 : decode cX12_findConstructor 36 = .ok (.goto 4, 3) := by decide +kernel
theorem dX12_findConstructor_39 : decode cX12_findConstructor 39 = .ok (.iconst (-1), 1) := by decide +kernel
theorem dX12_findConstructor_40 : decode cX12_findConstructor 40 = .ok (.ireturn, 1) := by decide +kernel
theorem dX12_isCapital_0 : decode cX12_isCapital 0 = .ok (.iload_n 0, 1) := by decide +kernel
theorem dX12_isCapital_1 : decode cX12_isCapital 1 = .ok (.bipush 65, 2) := by decide +kernel
theorem dX12_isCapital_3 : decode cX12_isCapital 3 = .ok (.if_icmp .lt 13, 3) := by decide +kernel
theorem dX12_isCapital_6 : decode cX12_isCapital 6 = .ok (.iload_n 0, 1) := by decide +kernel
theorem dX12_isCapital_7 : decode cX12_isCapital 7 = .ok (.bipush 90, 2) := by decide +kernel
theorem dX12_isCapital_9 : decode cX12_isCapital 9 = .ok (.if_icmp .gt 7, 3) := by decide +kernel
theorem dX12_isCapital_12 : decode cX12_isCapital 12 = .ok (.iconst 1, 1) := by decide +kernel
theorem dX12_isCapital_13 : decode cX12_isCapital 13 = .ok (.goto 4, 3) := by decide +kernel
theorem dX12_isCapital_16 : decode cX12_isCapital 16 = .ok (.iconst 0, 1) := by decide +kernel
theorem dX12_isCapital_17 : decode cX12_isCapital 17 = .ok (.ireturn, 1) := by decide +kernel
theorem dX12_isDigit_0 : decode cX12_isDigit 0 = .ok (.iload_n 0, 1) := by decide +kernel
theorem dX12_isDigit_1 : decode cX12_isDigit 1 = .ok (.bipush 48, 2) := by decide +kernel
theorem dX12_isDigit_3 : decode cX12_isDigit 3 = .ok (.if_icmp .lt 13, 3) := by decide +kernel
theorem dX12_isDigit_6 : decode cX12_isDigit 6 = .ok (.iload_n 0, 1) := by decide +kernel
theorem dX12_isDigit_7 : decode cX12_isDigit 7 = .ok (.bipush 57, 2) := by decide +kernel
theorem dX12_isDigit_9 : decode cX12_isDigit 9 = .ok (.if_icmp .gt 7, 3) := by decide +kernel
theorem dX12_isDigit_12 : decode cX12_isDigit 12 = .ok (.iconst 1, 1) := by decide +kernel
theorem dX12_isDigit_13 : decode cX12_isDigit 13 = .ok (.goto 4, 3) := by decide +kernel
theorem dX12_isDigit_16 : decode cX12_isDigit 16 = .ok (.iconst 0, 1) := by decide +kernel
theorem dX12_isDigit_17 : decode cX12_isDigit 17 = .ok (.ireturn, 1) := by decide +kernel
theorem dX12_isGiven_0 : decode cX12_isGiven 0 = .ok (.iconst 0, 1) := by decide +kernel
theorem dX12_isGiven_1 : decode cX12_isGiven 1 = .ok (.istore 4, 2) := by decide +kernel
theorem dX12_isGiven_3 : decode cX12_isGiven 3 = .ok (.iconst 0, 1) := by decide +kernel
theorem dX12_isGiven_4 : decode cX12_isGiven 4 = .ok (.istore 5, 2) := by decide +kernel
theorem dX12_isGiven_6 : decode cX12_isGiven 6 = .ok (.iload 5, 2) := by decide +kernel
theorem dX12_isGiven_8 : decode cX12_isGiven 8 = .ok (.aload_n 0, 1) := by decide +kernel
theorem dX12_isGiven_9 : decode cX12_isGiven 9 = .ok (.getfield 44, 3) := by decide +kernel
theorem dX12_isGiven_12 : decode cX12_isGiven 12 = .ok (.iload_n 1, 1) := by decide +kernel
theorem dX12_isGiven_13 : decode cX12_isGiven 13 = .ok (.iaload, 1) := by decide +kernel
theorem dX12_isGiven_14 : decode cX12_isGiven 14 = .ok (.if_icmp .ge 40, 3) := by decide +kernel
theorem dX12_isGiven_17 : decode cX12_isGiven 17 = .ok (.iload 4, 2) := by decide +kernel
theorem dX12_isGiven_19 : decode cX12_isGiven 19 = .ok (.ifCond .ne 22, 3) := by decide +kernel
theorem dX12_isGiven_22 : decode cX12_isGiven 22 = .ok (.aload_n 0, 1) := by decide +kernel
theorem dX12_isGiven_23 : decode cX12_isGiven 23 = .ok (.getfield 47, 3) := by decide +kernel
theorem dX12_isGiven_26 : decode cX12_isGiven 26 = .ok (.aload_n 0, 1) := by decide +kernel
theorem dX12_isGiven_27 : decode cX12_isGiven 27 = .ok (.getfield 41, 3) := by decide +kernel
theorem dX12_isGiven_30 : decode cX12_isGiven 30 = .ok (.iload_n 1, 1) := by decide +kernel
theorem dX12_isGiven_31 : decode cX12_isGiven 31 = .ok (.iaload, 1) := by decide +kernel
theorem dX12_isGiven_32 : decode cX12_isGiven 32 = .ok (.iload 5, 2) := by decide +kernel
theorem dX12_isGiven_34 : decode cX12_isGiven 34 = .ok (.iadd, 1) := by decide +kernel
theorem dX12_isGiven_35 : decode cX12_isGiven 35 = .ok (.laload, 1) := by decide +kernel
theorem dX12_isGiven_36 : decode cX12_isGiven 36 = .ok (.lload_n 2, 1) := by decide +kernel
theorem dX12_isGiven_37 : decode cX12_isGiven 37 = .ok (.lcmp, 1) := by decide +kernel
theorem dX12_isGiven_38 : decode cX12_isGiven 38 = .ok (.ifCond .ne 7, 3) := by decide +kernel
theorem dX12_isGiven_41 : decode cX12_isGiven 41 = .ok (.iconst 1, 1) := by decide +kernel
theorem dX12_isGiven_42 : decode cX12_isGiven 42 = .ok (.goto 4, 3) := by decide +kernel
theorem dX12_isGiven_45 : decode cX12_isGiven 45 = .ok (.iconst 0, 1) := by decide +kernel
theorem dX12_isGiven_46 : decode cX12_isGiven 46 = .ok (.istore 4, 2) := by decide +kernel
theorem dX12_isGiven_48 : decode cX12_isGiven 48 = .ok (.iinc 5 1, 3) := by decide +kernel
theorem dX12_isGiven_51 : decode cX12_isGiven 51 = .ok (.goto (-45), 3) := by decide +kernel
theorem dX12_isGiven_54 : decode cX12_isGiven 54 = .ok (.iload 4, 2) := by decide +kernel
theorem dX12_isGiven_56 : decode cX12_isGiven 56 = .ok (.ireturn, 1) := by decide +kernel
theorem dX12_isSign_0 : decode cX12_isSign 0 = .ok (.aload_n 0, 1) := by decide +kernel
theorem dX12_isSign_1 : decode cX12_isSign 1 = .ok (.getfield 286, 3) := by decide +kernel
theorem dX12_isSign_4 : decode cX12_isSign 4 = .ok (.bipush 100, 2) := by decide +kernel
theorem dX12_isSign_6 : decode cX12_isSign 6 = .ok (.iload_n 1, 1) := by decide +kernel
theorem dX12_isSign_7 : decode cX12_isSign 7 = .ok (.iadd, 1) := by decide +kernel
theorem dX12_isSign_8 : decode cX12_isSign 8 = .ok (.if_icmp .ne 7, 3) := by decide +kernel
theorem dX12_isSign_11 : decode cX12_isSign 11 = .ok (.iconst 1, 1) := by decide +kernel
theorem dX12_isSign_12 : decode cX12_isSign 12 = .ok (.goto 4, 3) := by decide +kernel
theorem dX12_isSign_15 : decode cX12_isSign 15 = .ok (.iconst 0, 1) := by decide +kernel
theorem dX12_isSign_16 : decode cX12_isSign 16 = .ok (.ireturn, 1) := by decide +kernel
theorem dX12_isSmall_0 : decode cX12_isSmall 0 = .ok (.iload_n 0, 1) := by decide +kernel
theorem dX12_isSmall_1 : decode cX12_isSmall 1 = .ok (.bipush 97, 2) := by decide +kernel
theorem dX12_isSmall_3 : decode cX12_isSmall 3 = .ok (.if_icmp .lt 13, 3) := by decide +kernel
theorem dX12_isSmall_6 : decode cX12_isSmall 6 = .ok (.iload_n 0, 1) := by decide +kernel
theorem dX12_isSmall_7 : decode cX12_isSmall 7 = .ok (.bipush 122, 2) := by decide +kernel
theorem dX12_isSmall_9 : decode cX12_isSmall 9 = .ok (.if_icmp .gt 7, 3) := by decide +kernel
theorem dX12_isSmall_12 : decode cX12_isSmall 12 = .ok (.iconst 1, 1) := by decide +kernel
theorem dX12_isSmall_13 : decode cX12_isSmall 13 = .ok (.goto 4, 3) := by decide +kernel
theorem dX12_isSmall_16 : decode cX12_isSmall 16 = .ok (.iconst 0, 1) := by decide +kernel
theorem dX12_isSmall_17 : decode cX12_isSmall 17 = .ok (.ireturn, 1) := by decide +kernel
theorem dX12_keyword_0 : decode cX12_keyword 0 = .ok (.lload_n 0, 1) := by decide +kernel
theorem dX12_keyword_1 : decode cX12_keyword 1 = .ok (.bipush 100, 2) := by decide +kernel
theorem dX12_keyword_3 : decode cX12_keyword 3 = .ok (.bipush 97, 2) := by decide +kernel
theorem dX12_keyword_5 : decode cX12_keyword 5 = .ok (.bipush 116, 2) := by decide +kernel
theorem dX12_keyword_7 : decode cX12_keyword 7 = .ok (.bipush 97, 2) := by decide +kernel
theorem dX12_keyword_9 : decode cX12_keyword 9 = .ok (.iconst 0, 1) := by decide +kernel
theorem dX12_keyword_10 : decode cX12_keyword 10 = .ok (.invokestatic 257, 3) := by decide +kernel
theorem dX12_keyword_13 : decode cX12_keyword 13 = .ok (.lcmp, 1) := by decide +kernel
theorem dX12_keyword_14 : decode cX12_keyword 14 = .ok (.ifCond .ne 6, 3) := by decide +kernel
theorem dX12_keyword_17 : decode cX12_keyword 17 = .ok (.bipush 10, 2) := by decide +kernel
theorem dX12_keyword_19 : decode cX12_keyword 19 = .ok (.ireturn, 1) := by decide +kernel
theorem dX12_keyword_20 : decode cX12_keyword 20 = .ok (.lload_n 0, 1) := by decide +kernel
theorem dX12_keyword_21 : decode cX12_keyword 21 = .ok (.bipush 108, 2) := by decide +kernel
theorem dX12_keyword_23 : decode cX12_keyword 23 = .ok (.bipush 101, 2) := by decide +kernel
theorem dX12_keyword_25 : decode cX12_keyword 25 = .ok (.bipush 116, 2) := by decide +kernel
theorem dX12_keyword_27 : decode cX12_keyword 27 = .ok (.iconst 0, 1) := by decide +kernel
theorem dX12_keyword_28 : decode cX12_keyword 28 = .ok (.iconst 0, 1) := by decide +kernel
theorem dX12_keyword_29 : decode cX12_keyword 29 = .ok (.invokestatic 257, 3) := by decide +kernel
theorem dX12_keyword_32 : decode cX12_keyword 32 = .ok (.lcmp, 1) := by decide +kernel
theorem dX12_keyword_33 : decode cX12_keyword 33 = .ok (.ifCond .ne 6, 3) := by decide +kernel
theorem dX12_keyword_36 : decode cX12_keyword 36 = .ok (.bipush 11, 2) := by decide +kernel
theorem dX12_keyword_38 : decode cX12_keyword 38 = .ok (.ireturn, 1) := by decide +kernel
theorem dX12_keyword_39 : decode cX12_keyword 39 = .ok (.lload_n 0, 1) := by decide +kernel
theorem dX12_keyword_40 : decode cX12_keyword 40 = .ok (.bipush 105, 2) := by decide +kernel
theorem dX12_keyword_42 : decode cX12_keyword 42 = .ok (.bipush 110, 2) := by decide +kernel
theorem dX12_keyword_44 : decode cX12_keyword 44 = .ok (.iconst 0, 1) := by decide +kernel
theorem dX12_keyword_45 : decode cX12_keyword 45 = .ok (.iconst 0, 1) := by decide +kernel
theorem dX12_keyword_46 : decode cX12_keyword 46 = .ok (.iconst 0, 1) := by decide +kernel
theorem dX12_keyword_47 : decode cX12_keyword 47 = .ok (.invokestatic 257, 3) := by decide +kernel
theorem dX12_keyword_50 : decode cX12_keyword 50 = .ok (.lcmp, 1) := by decide +kernel
theorem dX12_keyword_51 : decode cX12_keyword 51 = .ok (.ifCond .ne 6, 3) := by decide +kernel
theorem dX12_keyword_54 : decode cX12_keyword 54 = .ok (.bipush 12, 2) := by decide +kernel
theorem dX12_keyword_56 : decode cX12_keyword 56 = .ok (.ireturn, 1) := by decide +kernel
theorem dX12_keyword_57 : decode cX12_keyword 57 = .ok (.lload_n 0, 1) := by decide +kernel
theorem dX12_keyword_58 : decode cX12_keyword 58 = .ok (.bipush 99, 2) := by decide +kernel
theorem dX12_keyword_60 : decode cX12_keyword 60 = .ok (.bipush 97, 2) := by decide +kernel
theorem dX12_keyword_62 : decode cX12_keyword 62 = .ok (.bipush 115, 2) := by decide +kernel
theorem dX12_keyword_64 : decode cX12_keyword 64 = .ok (.bipush 101, 2) := by decide +kernel
theorem dX12_keyword_66 : decode cX12_keyword 66 = .ok (.iconst 0, 1) := by decide +kernel
theorem dX12_keyword_67 : decode cX12_keyword 67 = .ok (.invokestatic 257, 3) := by decide +kernel
theorem dX12_keyword_70 : decode cX12_keyword 70 = .ok (.lcmp, 1) := by decide +kernel
theorem dX12_keyword_71 : decode cX12_keyword 71 = .ok (.ifCond .ne 6, 3) := by decide +kernel
theorem dX12_keyword_74 : decode cX12_keyword 74 = .ok (.bipush 13, 2) := by decide +kernel
theorem dX12_keyword_76 : decode cX12_keyword 76 = .ok (.ireturn, 1) := by decide +kernel
theorem dX12_keyword_77 : decode cX12_keyword 77 = .ok (.lload_n 0, 1) := by decide +kernel
theorem dX12_keyword_78 : decode cX12_keyword 78 = .ok (.bipush 111, 2) := by decide +kernel
theorem dX12_keyword_80 : decode cX12_keyword 80 = .ok (.bipush 102, 2) := by decide +kernel
theorem dX12_keyword_82 : decode cX12_keyword 82 = .ok (.iconst 0, 1) := by decide +kernel
theorem dX12_keyword_83 : decode cX12_keyword 83 = .ok (.iconst 0, 1) := by decide +kernel
theorem dX12_keyword_84 : decode cX12_keyword 84 = .ok (.iconst 0, 1) := by decide +kernel
theorem dX12_keyword_85 : decode cX12_keyword 85 = .ok (.invokestatic 257, 3) := by decide +kernel
theorem dX12_keyword_88 : decode cX12_keyword 88 = .ok (.lcmp, 1) := by decide +kernel
theorem dX12_keyword_89 : decode cX12_keyword 89 = .ok (.ifCond .ne 6, 3) := by decide +kernel
theorem dX12_keyword_92 : decode cX12_keyword 92 = .ok (.bipush 14, 2) := by decide +kernel
theorem dX12_keyword_94 : decode cX12_keyword 94 = .ok (.ireturn, 1) := by decide +kernel
theorem dX12_keyword_95 : decode cX12_keyword 95 = .ok (.lload_n 0, 1) := by decide +kernel
theorem dX12_keyword_96 : decode cX12_keyword 96 = .ok (.bipush 102, 2) := by decide +kernel
theorem dX12_keyword_98 : decode cX12_keyword 98 = .ok (.bipush 97, 2) := by decide +kernel
theorem dX12_keyword_100 : decode cX12_keyword 100 = .ok (.bipush 105, 2) := by decide +kernel
theorem dX12_keyword_102 : decode cX12_keyword 102 = .ok (.bipush 108, 2) := by decide +kernel
theorem dX12_keyword_104 : decode cX12_keyword 104 = .ok (.iconst 0, 1) := by decide +kernel
theorem dX12_keyword_105 : decode cX12_keyword 105 = .ok (.invokestatic 257, 3) := by decide +kernel
theorem dX12_keyword_108 : decode cX12_keyword 108 = .ok (.lcmp, 1) := by decide +kernel
theorem dX12_keyword_109 : decode cX12_keyword 109 = .ok (.ifCond .ne 8, 3) := by decide +kernel
theorem dX12_keyword_112 : decode cX12_keyword 112 = .ok (.bipush 15, 2) := by decide +kernel
theorem dX12_keyword_114 : decode cX12_keyword 114 = .ok (.goto 4, 3) := by decide +kernel
theorem dX12_keyword_117 : decode cX12_keyword 117 = .ok (.iconst 3, 1) := by decide +kernel
theorem dX12_keyword_118 : decode cX12_keyword 118 = .ok (.ireturn, 1) := by decide +kernel
theorem dX12_next_0 : decode cX12_next 0 = .ok (.aload_n 0, 1) := by decide +kernel
theorem dX12_next_1 : decode cX12_next 1 = .ok (.invokevirtual 298, 3) := by decide +kernel
theorem dX12_next_4 : decode cX12_next 4 = .ok (.aload_n 0, 1) := by decide +kernel
theorem dX12_next_5 : decode cX12_next 5 = .ok (.aload_n 0, 1) := by decide +kernel
theorem dX12_next_6 : decode cX12_next 6 = .ok (.getfield 261, 3) := by decide +kernel
theorem dX12_next_9 : decode cX12_next 9 = .ok (.putfield 275, 3) := by decide +kernel
theorem dX12_next_12 : decode cX12_next 12 = .ok (.aload_n 0, 1) := by decide +kernel
theorem dX12_next_13 : decode cX12_next 13 = .ok (.aload_n 0, 1) := by decide +kernel
theorem dX12_next_14 : decode cX12_next 14 = .ok (.getfield 261, 3) := by decide +kernel
theorem dX12_next_17 : decode cX12_next 17 = .ok (.invokevirtual 264, 3) := by decide +kernel
theorem dX12_next_20 : decode cX12_next 20 = .ok (.istore_n 1, 1) := by decide +kernel
theorem dX12_next_21 : decode cX12_next 21 = .ok (.aload_n 0, 1) := by decide +kernel
theorem dX12_next_22 : decode cX12_next 22 = .ok (.aload_n 0, 1) := by decide +kernel
theorem dX12_next_23 : decode cX12_next 23 = .ok (.getfield 261, 3) := by decide +kernel
theorem dX12_next_26 : decode cX12_next 26 = .ok (.iconst 1, 1) := by decide +kernel
theorem dX12_next_27 : decode cX12_next 27 = .ok (.iadd, 1) := by decide +kernel
theorem dX12_next_28 : decode cX12_next 28 = .ok (.invokevirtual 264, 3) := by decide +kernel
theorem dX12_next_31 : decode cX12_next 31 = .ok (.istore_n 2, 1) := by decide +kernel
theorem dX12_next_32 : decode cX12_next 32 = .ok (.aload_n 0, 1) := by decide +kernel
theorem dX12_next_33 : decode cX12_next 33 = .ok (.getfield 261, 3) := by decide +kernel
theorem dX12_next_36 : decode cX12_next 36 = .ok (.aload_n 0, 1) := by decide +kernel
theorem dX12_next_37 : decode cX12_next 37 = .ok (.getfield 254, 3) := by decide +kernel
theorem dX12_next_40 : decode cX12_next 40 = .ok (.if_icmp .lt 11, 3) := by decide +kernel
theorem dX12_next_43 : decode cX12_next 43 = .ok (.aload_n 0, 1) := by decide +kernel
theorem dX12_next_44 : decode cX12_next 44 = .ok (.iconst 0, 1) := by decide +kernel
theorem dX12_next_45 : decode cX12_next 45 = .ok (.putfield 286, 3) := by decide +kernel
theorem dX12_next_48 : decode cX12_next 48 = .ok (.goto 263, 3) := by decide +kernel
theorem dX12_next_51 : decode cX12_next 51 = .ok (.iload_n 1, 1) := by decide +kernel
theorem dX12_next_52 : decode cX12_next 52 = .ok (.invokestatic 268, 3) := by decide +kernel
theorem dX12_next_55 : decode cX12_next 55 = .ok (.ifCond .ne 10, 3) := by decide +kernel
theorem dX12_next_58 : decode cX12_next 58 = .ok (.iload_n 1, 1) := by decide +kernel
theorem dX12_next_59 : decode cX12_next 59 = .ok (.invokestatic 301, 3) := by decide +kernel
theorem dX12_next_62 : decode cX12_next 62 = .ok (.ifCond .eq 14, 3) := by decide +kernel
theorem dX12_next_65 : decode cX12_next 65 = .ok (.aload_n 0, 1) := by decide +kernel
theorem dX12_next_66 : decode cX12_next 66 = .ok (.iload_n 1, 1) := by decide +kernel
theorem dX12_next_67 : decode cX12_next 67 = .ok (.invokestatic 301, 3) := by decide +kernel
theorem dX12_next_70 : decode cX12_next 70 = .ok (.invokevirtual 304, 3) := by decide +kernel
theorem dX12_next_73 : decode cX12_next 73 = .ok (.goto 238, 3) := by decide +kernel
theorem dX12_next_76 : decode cX12_next 76 = .ok (.iload_n 1, 1) := by decide +kernel
theorem dX12_next_77 : decode cX12_next 77 = .ok (.invokestatic 272, 3) := by decide +kernel
theorem dX12_next_80 : decode cX12_next 80 = .ok (.ifCond .eq 10, 3) := by decide +kernel
theorem dX12_next_83 : decode cX12_next 83 = .ok (.aload_n 0, 1) := by decide +kernel
theorem dX12_next_84 : decode cX12_next 84 = .ok (.invokevirtual 308, 3) := by decide +kernel
theorem dX12_next_87 : decode cX12_next 87 = .ok (.goto 224, 3) := by decide +kernel
theorem dX12_next_90 : decode cX12_next 90 = .ok (.iload_n 1, 1) := by decide +kernel
theorem dX12_next_91 : decode cX12_next 91 = .ok (.bipush 45, 2) := by decide +kernel
theorem dX12_next_93 : decode cX12_next 93 = .ok (.if_icmp .ne 9, 3) := by decide +kernel
theorem dX12_next_96 : decode cX12_next 96 = .ok (.iload_n 2, 1) := by decide +kernel
theorem dX12_next_97 : decode cX12_next 97 = .ok (.bipush 62, 2) := by decide +kernel
theorem dX12_next_99 : decode cX12_next 99 = .ok (.if_icmp .eq 27, 3) := by decide +kernel
theorem dX12_next_102 : decode cX12_next 102 = .ok (.iload_n 1, 1) := by decide +kernel
theorem dX12_next_103 : decode cX12_next 103 = .ok (.bipush 60, 2) := by decide +kernel
theorem dX12_next_105 : decode cX12_next 105 = .ok (.if_icmp .ne 9, 3) := by decide +kernel
theorem dX12_next_108 : decode cX12_next 108 = .ok (.iload_n 2, 1) := by decide +kernel
theorem dX12_next_109 : decode cX12_next 109 = .ok (.bipush 61, 2) := by decide +kernel
theorem dX12_next_111 : decode cX12_next 111 = .ok (.if_icmp .eq 15, 3) := by decide +kernel
theorem dX12_next_114 : decode cX12_next 114 = .ok (.iload_n 1, 1) := by decide +kernel
theorem dX12_next_115 : decode cX12_next 115 = .ok (.bipush 61, 2) := by decide +kernel
theorem dX12_next_117 : decode cX12_next 117 = .ok (.if_icmp .ne 50, 3) := by decide +kernel
theorem dX12_next_120 : decode cX12_next 120 = .ok (.iload_n 2, 1) := by decide +kernel
theorem dX12_next_121 : decode cX12_next 121 = .ok (.bipush 61, 2) := by decide +kernel
theorem dX12_next_123 : decode cX12_next 123 = .ok (.if_icmp .ne 44, 3) := by decide +kernel
theorem dX12_next_126 : decode cX12_next 126 = .ok (.aload_n 0, 1) := by decide +kernel
theorem dX12_next_127 : decode cX12_next 127 = .ok (.dup, 1) := by decide +kernel
theorem dX12_next_128 : decode cX12_next 128 = .ok (.getfield 261, 3) := by decide +kernel
theorem dX12_next_131 : decode cX12_next 131 = .ok (.iconst 2, 1) := by decide +kernel
theorem dX12_next_132 : decode cX12_next 132 = .ok (.iadd, 1) := by decide +kernel
theorem dX12_next_133 : decode cX12_next 133 = .ok (.putfield 261, 3) := by decide +kernel
theorem dX12_next_136 : decode cX12_next 136 = .ok (.aload_n 0, 1) := by decide +kernel
theorem dX12_next_137 : decode cX12_next 137 = .ok (.iload_n 1, 1) := by decide +kernel
theorem dX12_next_138 : decode cX12_next 138 = .ok (.bipush 45, 2) := by decide +kernel
theorem dX12_next_140 : decode cX12_next 140 = .ok (.if_icmp .ne 8, 3) := by decide +kernel
theorem dX12_next_143 : decode cX12_next 143 = .ok (.bipush 20, 2) := by decide +kernel
theorem dX12_next_145 : decode cX12_next 145 = .ok (.goto 16, 3) := by decide +kernel
theorem dX12_next_148 : decode cX12_next 148 = .ok (.iload_n 1, 1) := by decide +kernel
theorem dX12_next_149 : decode cX12_next 149 = .ok (.bipush 60, 2) := by decide +kernel
theorem dX12_next_151 : decode cX12_next 151 = .ok (.if_icmp .ne 8, 3) := by decide +kernel
theorem dX12_next_154 : decode cX12_next 154 = .ok (.bipush 22, 2) := by decide +kernel
theorem dX12_next_156 : decode cX12_next 156 = .ok (.goto 5, 3) := by decide +kernel
theorem dX12_next_159 : decode cX12_next 159 = .ok (.bipush 21, 2) := by decide +kernel
theorem dX12_next_161 : decode cX12_next 161 = .ok (.putfield 286, 3) := by decide +kernel
theorem dX12_next_164 : decode cX12_next 164 = .ok (.goto 147, 3) := by decide +kernel
theorem dX12_next_167 : decode cX12_next 167 = .ok (.iload_n 1, 1) := by decide +kernel
theorem dX12_next_168 : decode cX12_next 168 = .ok (.bipush 40, 2) := by decide +kernel
theorem dX12_next_170 : decode cX12_next 170 = .ok (.if_icmp .eq 51, 3) := by decide +kernel
theorem dX12_next_173 : decode cX12_next 173 = .ok (.iload_n 1, 1) := by decide +kernel
theorem dX12_next_174 : decode cX12_next 174 = .ok (.bipush 41, 2) := by decide +kernel
theorem dX12_next_176 : decode cX12_next 176 = .ok (.if_icmp .eq 45, 3) := by decide +kernel
theorem dX12_next_179 : decode cX12_next 179 = .ok (.iload_n 1, 1) := by decide +kernel
theorem dX12_next_180 : decode cX12_next 180 = .ok (.bipush 123, 2) := by decide +kernel
theorem dX12_next_182 : decode cX12_next 182 = .ok (.if_icmp .eq 39, 3) := by decide +kernel
theorem dX12_next_185 : decode cX12_next 185 = .ok (.iload_n 1, 1) := by decide +kernel
theorem dX12_next_186 : decode cX12_next 186 = .ok (.bipush 125, 2) := by decide +kernel
theorem dX12_next_188 : decode cX12_next 188 = .ok (.if_icmp .eq 33, 3) := by decide +kernel
theorem dX12_next_191 : decode cX12_next 191 = .ok (.iload_n 1, 1) := by decide +kernel
theorem dX12_next_192 : decode cX12_next 192 = .ok (.bipush 61, 2) := by decide +kernel
theorem dX12_next_194 : decode cX12_next 194 = .ok (.if_icmp .eq 27, 3) := by decide +kernel
theorem dX12_next_197 : decode cX12_next 197 = .ok (.iload_n 1, 1) := by decide +kernel
theorem dX12_next_198 : decode cX12_next 198 = .ok (.bipush 59, 2) := by decide +kernel
theorem dX12_next_200 : decode cX12_next 200 = .ok (.if_icmp .eq 21, 3) := by decide +kernel
theorem dX12_next_203 : decode cX12_next 203 = .ok (.iload_n 1, 1) := by decide +kernel
theorem dX12_next_204 : decode cX12_next 204 = .ok (.bipush 44, 2) := by decide +kernel
theorem dX12_next_206 : decode cX12_next 206 = .ok (.if_icmp .eq 15, 3) := by decide +kernel
theorem dX12_next_209 : decode cX12_next 209 = .ok (.iload_n 1, 1) := by decide +kernel
theorem dX12_next_210 : decode cX12_next 210 = .ok (.bipush 92, 2) := by decide +kernel
theorem dX12_next_212 : decode cX12_next 212 = .ok (.if_icmp .eq 9, 3) := by decide +kernel
theorem dX12_next_215 : decode cX12_next 215 = .ok (.iload_n 1, 1) := by decide +kernel
theorem dX12_next_216 : decode cX12_next 216 = .ok (.bipush 46, 2) := by decide +kernel
theorem dX12_next_218 : decode cX12_next 218 = .ok (.if_icmp .ne 7, 3) := by decide +kernel
theorem dX12_next_221 : decode cX12_next 221 = .ok (.iconst 1, 1) := by decide +kernel
theorem dX12_next_222 : decode cX12_next 222 = .ok (.goto 4, 3) := by decide +kernel
theorem dX12_next_225 : decode cX12_next 225 = .ok (.iconst 0, 1) := by decide +kernel
theorem dX12_next_226 : decode cX12_next 226 = .ok (.istore_n 3, 1) := by decide +kernel
theorem dX12_next_227 : decode cX12_next 227 = .ok (.iload_n 3, 1) := by decide +kernel
theorem dX12_next_228 : decode cX12_next 228 = .ok (.ifCond .ne 51, 3) := by decide +kernel
theorem dX12_next_231 : decode cX12_next 231 = .ok (.iload_n 1, 1) := by decide +kernel
theorem dX12_next_232 : decode cX12_next 232 = .ok (.bipush 95, 2) := by decide +kernel
theorem dX12_next_234 : decode cX12_next 234 = .ok (.if_icmp .eq 45, 3) := by decide +kernel
theorem dX12_next_237 : decode cX12_next 237 = .ok (.iload_n 1, 1) := by decide +kernel
theorem dX12_next_238 : decode cX12_next 238 = .ok (.bipush 43, 2) := by decide +kernel
theorem dX12_next_240 : decode cX12_next 240 = .ok (.if_icmp .eq 39, 3) := by decide +kernel
theorem dX12_next_243 : decode cX12_next 243 = .ok (.iload_n 1, 1) := by decide +kernel
theorem dX12_next_244 : decode cX12_next 244 = .ok (.bipush 45, 2) := by decide +kernel
theorem dX12_next_246 : decode cX12_next 246 = .ok (.if_icmp .eq 33, 3) := by decide +kernel
theorem dX12_next_249 : decode cX12_next 249 = .ok (.iload_n 1, 1) := by decide +kernel
theorem dX12_next_250 : decode cX12_next 250 = .ok (.bipush 42, 2) := by decide +kernel
theorem dX12_next_252 : decode cX12_next 252 = .ok (.if_icmp .eq 27, 3) := by decide +kernel
theorem dX12_next_255 : decode cX12_next 255 = .ok (.iload_n 1, 1) := by decide +kernel
theorem dX12_next_256 : decode cX12_next 256 = .ok (.bipush 47, 2) := by decide +kernel
theorem dX12_next_258 : decode cX12_next 258 = .ok (.if_icmp .eq 21, 3) := by decide +kernel
theorem dX12_next_261 : decode cX12_next 261 = .ok (.iload_n 1, 1) := by decide +kernel
theorem dX12_next_262 : decode cX12_next 262 = .ok (.bipush 37, 2) := by decide +kernel
theorem dX12_next_264 : decode cX12_next 264 = .ok (.if_icmp .eq 15, 3) := by decide +kernel
theorem dX12_next_267 : decode cX12_next 267 = .ok (.iload_n 1, 1) := by decide +kernel
theorem dX12_next_268 : decode cX12_next 268 = .ok (.bipush 60, 2) := by decide +kernel
theorem dX12_next_270 : decode cX12_next 270 = .ok (.if_icmp .eq 9, 3) := by decide +kernel
theorem dX12_next_273 : decode cX12_next 273 = .ok (.iload_n 1, 1) := by decide +kernel
theorem dX12_next_274 : decode cX12_next 274 = .ok (.bipush 124, 2) := by decide +kernel
theorem dX12_next_276 : decode cX12_next 276 = .ok (.if_icmp .ne 7, 3) := by decide +kernel
theorem dX12_next_279 : decode cX12_next 279 = .ok (.iconst 1, 1) := by decide +kernel
theorem dX12_next_280 : decode cX12_next 280 = .ok (.goto 4, 3) := by decide +kernel
theorem dX12_next_283 : decode cX12_next 283 = .ok (.iconst 0, 1) := by decide +kernel
theorem dX12_next_284 : decode cX12_next 284 = .ok (.istore_n 3, 1) := by decide +kernel
theorem dX12_next_285 : decode cX12_next 285 = .ok (.aload_n 0, 1) := by decide +kernel
theorem dX12_next_286 : decode cX12_next 286 = .ok (.dup, 1) := by decide +kernel
theorem dX12_next_287 : decode cX12_next 287 = .ok (.getfield 261, 3) := by decide +kernel
theorem dX12_next_290 : decode cX12_next 290 = .ok (.iconst 1, 1) := by decide +kernel
theorem dX12_next_291 : decode cX12_next 291 = .ok (.iadd, 1) := by decide +kernel
theorem dX12_next_292 : decode cX12_next 292 = .ok (.putfield 261, 3) := by decide +kernel
theorem dX12_next_295 : decode cX12_next 295 = .ok (.aload_n 0, 1) := by decide +kernel
theorem dX12_next_296 : decode cX12_next 296 = .ok (.iload_n 3, 1) := by decide +kernel
theorem dX12_next_297 : decode cX12_next 297 = .ok (.ifCond .eq 10, 3) := by decide +kernel
theorem dX12_next_300 : decode cX12_next 300 = .ok (.bipush 100, 2) := by decide +kernel
theorem dX12_next_302 : decode cX12_next 302 = .ok (.iload_n 1, 1) := by decide +kernel
theorem dX12_next_303 : decode cX12_next 303 = .ok (.iadd, 1) := by decide +kernel
theorem dX12_next_304 : decode cX12_next 304 = .ok (.goto 4, 3) := by decide +kernel
theorem dX12_next_307 : decode cX12_next 307 = .ok (.iconst 1, 1) := by decide +kernel
theorem dX12_next_308 : decode cX12_next 308 = .ok (.putfield 286, 3) := by decide +kernel
theorem dX12_next_311 : decode cX12_next 311 = .ok (.return_, 1) := by decide +kernel
theorem dX12_node_0 : decode cX12_node 0 = .ok (.aload_n 0, 1) := by decide +kernel
theorem dX12_node_1 : decode cX12_node 1 = .ok (.getfield 327, 3) := by decide +kernel
theorem dX12_node_4 : decode cX12_node 4 = .ok (.istore_n 2, 1) := by decide +kernel
theorem dX12_node_5 : decode cX12_node 5 = .ok (.aload_n 0, 1) := by decide +kernel
theorem dX12_node_6 : decode cX12_node 6 = .ok (.dup, 1) := by decide +kernel
theorem dX12_node_7 : decode cX12_node 7 = .ok (.getfield 327, 3) := by decide +kernel
theorem dX12_node_10 : decode cX12_node 10 = .ok (.iconst 1, 1) := by decide +kernel
theorem dX12_node_11 : decode cX12_node 11 = .ok (.iadd, 1) := by decide +kernel
theorem dX12_node_12 : decode cX12_node 12 = .ok (.putfield 327, 3) := by decide +kernel
theorem dX12_node_15 : decode cX12_node 15 = .ok (.aload_n 0, 1) := by decide +kernel
theorem dX12_node_16 : decode cX12_node 16 = .ok (.getfield 16, 3) := by decide +kernel
theorem dX12_node_19 : decode cX12_node 19 = .ok (.iload_n 2, 1) := by decide +kernel
theorem dX12_node_20 : decode cX12_node 20 = .ok (.iload_n 1, 1) := by decide +kernel
theorem dX12_node_21 : decode cX12_node 21 = .ok (.iastore, 1) := by decide +kernel
theorem dX12_node_22 : decode cX12_node 22 = .ok (.aload_n 0, 1) := by decide +kernel
theorem dX12_node_23 : decode cX12_node 23 = .ok (.getfield 19, 3) := by decide +kernel
theorem dX12_node_26 : decode cX12_node 26 = .ok (.iload_n 2, 1) := by decide +kernel
theorem dX12_node_27 : decode cX12_node 27 = .ok (.iconst (-1), 1) := by decide +kernel
theorem dX12_node_28 : decode cX12_node 28 = .ok (.iastore, 1) := by decide +kernel
theorem dX12_node_29 : decode cX12_node 29 = .ok (.aload_n 0, 1) := by decide +kernel
theorem dX12_node_30 : decode cX12_node 30 = .ok (.getfield 22, 3) := by decide +kernel
theorem dX12_node_33 : decode cX12_node 33 = .ok (.iload_n 2, 1) := by decide +kernel
theorem dX12_node_34 : decode cX12_node 34 = .ok (.iconst (-1), 1) := by decide +kernel
theorem dX12_node_35 : decode cX12_node 35 = .ok (.iastore, 1) := by decide +kernel
theorem dX12_node_36 : decode cX12_node 36 = .ok (.aload_n 0, 1) := by decide +kernel
theorem dX12_node_37 : decode cX12_node 37 = .ok (.getfield 25, 3) := by decide +kernel
theorem dX12_node_40 : decode cX12_node 40 = .ok (.iload_n 2, 1) := by decide +kernel
theorem dX12_node_41 : decode cX12_node 41 = .ok (.iconst (-1), 1) := by decide +kernel
theorem dX12_node_42 : decode cX12_node 42 = .ok (.iastore, 1) := by decide +kernel
theorem dX12_node_43 : decode cX12_node 43 = .ok (.aload_n 0, 1) := by decide +kernel
theorem dX12_node_44 : decode cX12_node 44 = .ok (.getfield 28, 3) := by decide +kernel
theorem dX12_node_47 : decode cX12_node 47 = .ok (.iload_n 2, 1) := by decide +kernel
theorem dX12_node_48 : decode cX12_node 48 = .ok (.aload_n 0, 1) := by decide +kernel
theorem dX12_node_49 : decode cX12_node 49 = .ok (.getfield 275, 3) := by decide +kernel
theorem dX12_node_52 : decode cX12_node 52 = .ok (.iastore, 1) := by decide +kernel
theorem dX12_node_53 : decode cX12_node 53 = .ok (.aload_n 0, 1) := by decide +kernel
theorem dX12_node_54 : decode cX12_node 54 = .ok (.getfield 31, 3) := by decide +kernel
theorem dX12_node_57 : decode cX12_node 57 = .ok (.iload_n 2, 1) := by decide +kernel
theorem dX12_node_58 : decode cX12_node 58 = .ok (.iconst 0, 1) := by decide +kernel
theorem dX12_node_59 : decode cX12_node 59 = .ok (.iastore, 1) := by decide +kernel
theorem dX12_node_60 : decode cX12_node 60 = .ok (.aload_n 0, 1) := by decide +kernel
theorem dX12_node_61 : decode cX12_node 61 = .ok (.getfield 34, 3) := by decide +kernel
theorem dX12_node_64 : decode cX12_node 64 = .ok (.iload_n 2, 1) := by decide +kernel
theorem dX12_node_65 : decode cX12_node 65 = .ok (.iconst 0, 1) := by decide +kernel
theorem dX12_node_66 : decode cX12_node 66 = .ok (.iastore, 1) := by decide +kernel
theorem dX12_node_67 : decode cX12_node 67 = .ok (.aload_n 0, 1) := by decide +kernel
theorem dX12_node_68 : decode cX12_node 68 = .ok (.getfield 37, 3) := by decide +kernel
theorem dX12_node_71 : decode cX12_node 71 = .ok (.iload_n 2, 1) := by decide +kernel
theorem dX12_node_72 : decode cX12_node 72 = .ok (.lconst 0, 1) := by decide +kernel
theorem dX12_node_73 : decode cX12_node 73 = .ok (.lastore, 1) := by decide +kernel
theorem dX12_node_74 : decode cX12_node 74 = .ok (.aload_n 0, 1) := by decide +kernel
theorem dX12_node_75 : decode cX12_node 75 = .ok (.getfield 41, 3) := by decide +kernel
theorem dX12_node_78 : decode cX12_node 78 = .ok (.iload_n 2, 1) := by decide +kernel
theorem dX12_node_79 : decode cX12_node 79 = .ok (.aload_n 0, 1) := by decide +kernel
theorem dX12_node_80 : decode cX12_node 80 = .ok (.getfield 330, 3) := by decide +kernel
theorem dX12_node_83 : decode cX12_node 83 = .ok (.iastore, 1) := by decide +kernel
theorem dX12_node_84 : decode cX12_node 84 = .ok (.aload_n 0, 1) := by decide +kernel
theorem dX12_node_85 : decode cX12_node 85 = .ok (.getfield 44, 3) := by decide +kernel
theorem dX12_node_88 : decode cX12_node 88 = .ok (.iload_n 2, 1) := by decide +kernel
theorem dX12_node_89 : decode cX12_node 89 = .ok (.iconst 0, 1) := by decide +kernel
theorem dX12_node_90 : decode cX12_node 90 = .ok (.iastore, 1) := by decide +kernel
theorem dX12_node_91 : decode cX12_node 91 = .ok (.iload_n 2, 1) := by decide +kernel
theorem dX12_node_92 : decode cX12_node 92 = .ok (.ireturn, 1) := by decide +kernel
theorem dX12_opens_0 : decode cX12_opens 0 = .ok (.aload_n 0, 1) := by decide +kernel
theorem dX12_opens_1 : decode cX12_opens 1 = .ok (.getfield 339, 3) := by decide +kernel
theorem dX12_opens_4 : decode cX12_opens 4 = .ok (.bipush 30, 2) := by decide +kernel
theorem dX12_opens_6 : decode cX12_opens 6 = .ok (.if_icmp .ne 7, 3) := by decide +kernel
theorem dX12_opens_9 : decode cX12_opens 9 = .ok (.aload_n 0, 1) := by decide +kernel
theorem dX12_opens_10 : decode cX12_opens 10 = .ok (.invokevirtual 324, 3) := by decide +kernel
theorem dX12_opens_13 : decode cX12_opens 13 = .ok (.aload_n 0, 1) := by decide +kernel
theorem dX12_opens_14 : decode cX12_opens 14 = .ok (.dup, 1) := by decide +kernel
theorem dX12_opens_15 : decode cX12_opens 15 = .ok (.getfield 339, 3) := by decide +kernel
theorem dX12_opens_18 : decode cX12_opens 18 = .ok (.iconst 1, 1) := by decide +kernel
theorem dX12_opens_19 : decode cX12_opens 19 = .ok (.iadd, 1) := by decide +kernel
theorem dX12_opens_20 : decode cX12_opens 20 = .ok (.putfield 339, 3) := by decide +kernel
theorem dX12_opens_23 : decode cX12_opens 23 = .ok (.return_, 1) := by decide +kernel
theorem dX12_operand_0 : decode cX12_operand 0 = .ok (.aload_n 0, 1) := by decide +kernel
theorem dX12_operand_1 : decode cX12_operand 1 = .ok (.getfield 77, 3) := by decide +kernel
theorem dX12_operand_4 : decode cX12_operand 4 = .ok (.aload_n 0, 1) := by decide +kernel
theorem dX12_operand_5 : decode cX12_operand 5 = .ok (.getfield 345, 3) := by decide +kernel
theorem dX12_operand_8 : decode cX12_operand 8 = .ok (.iload_n 1, 1) := by decide +kernel
theorem dX12_operand_9 : decode cX12_operand 9 = .ok (.iastore, 1) := by decide +kernel
theorem dX12_operand_10 : decode cX12_operand 10 = .ok (.aload_n 0, 1) := by decide +kernel
theorem dX12_operand_11 : decode cX12_operand 11 = .ok (.dup, 1) := by decide +kernel
theorem dX12_operand_12 : decode cX12_operand 12 = .ok (.getfield 345, 3) := by decide +kernel
theorem dX12_operand_15 : decode cX12_operand 15 = .ok (.iconst 1, 1) := by decide +kernel
theorem dX12_operand_16 : decode cX12_operand 16 = .ok (.iadd, 1) := by decide +kernel
theorem dX12_operand_17 : decode cX12_operand 17 = .ok (.putfield 345, 3) := by decide +kernel
theorem dX12_operand_20 : decode cX12_operand 20 = .ok (.return_, 1) := by decide +kernel
theorem dX12_pack_0 : decode cX12_pack 0 = .ok (.iload_n 0, 1) := by decide +kernel
theorem dX12_pack_1 : decode cX12_pack 1 = .ok (.i2l, 1) := by decide +kernel
theorem dX12_pack_2 : decode cX12_pack 2 = .ok (.lstore 5, 2) := by decide +kernel
theorem dX12_pack_4 : decode cX12_pack 4 = .ok (.iload_n 1, 1) := by decide +kernel
theorem dX12_pack_5 : decode cX12_pack 5 = .ok (.ifCond .ne 8, 3) := by decide +kernel
theorem dX12_pack_8 : decode cX12_pack 8 = .ok (.lload 5, 2) := by decide +kernel
theorem dX12_pack_10 : decode cX12_pack 10 = .ok (.goto 11, 3) := by decide +kernel
theorem dX12_pack_13 : decode cX12_pack 13 = .ok (.lload 5, 2) := by decide +kernel
theorem dX12_pack_15 : decode cX12_pack 15 = .ok (.bipush 8, 2) := by decide +kernel
theorem dX12_pack_17 : decode cX12_pack 17 = .ok (.lshl, 1) := by decide +kernel
theorem dX12_pack_18 : decode cX12_pack 18 = .ok (.iload_n 1, 1) := by decide +kernel
theorem dX12_pack_19 : decode cX12_pack 19 = .ok (.i2l, 1) := by decide +kernel
theorem dX12_pack_20 : decode cX12_pack 20 = .ok (.lor, 1) := by decide +kernel
theorem dX12_pack_21 : decode cX12_pack 21 = .ok (.lstore 5, 2) := by decide +kernel
theorem dX12_pack_23 : decode cX12_pack 23 = .ok (.iload_n 2, 1) := by decide +kernel
theorem dX12_pack_24 : decode cX12_pack 24 = .ok (.ifCond .ne 8, 3) := by decide +kernel
theorem dX12_pack_27 : decode cX12_pack 27 = .ok (.lload 5, 2) := by decide +kernel
theorem dX12_pack_29 : decode cX12_pack 29 = .ok (.goto 11, 3) := by decide +kernel
theorem dX12_pack_32 : decode cX12_pack 32 = .ok (.lload 5, 2) := by decide +kernel
theorem dX12_pack_34 : decode cX12_pack 34 = .ok (.bipush 8, 2) := by decide +kernel
theorem dX12_pack_36 : decode cX12_pack 36 = .ok (.lshl, 1) := by decide +kernel
theorem dX12_pack_37 : decode cX12_pack 37 = .ok (.iload_n 2, 1) := by decide +kernel
theorem dX12_pack_38 : decode cX12_pack 38 = .ok (.i2l, 1) := by decide +kernel
theorem dX12_pack_39 : decode cX12_pack 39 = .ok (.lor, 1) := by decide +kernel
theorem dX12_pack_40 : decode cX12_pack 40 = .ok (.lstore 5, 2) := by decide +kernel
theorem dX12_pack_42 : decode cX12_pack 42 = .ok (.iload_n 3, 1) := by decide +kernel
theorem dX12_pack_43 : decode cX12_pack 43 = .ok (.ifCond .ne 8, 3) := by decide +kernel
theorem dX12_pack_46 : decode cX12_pack 46 = .ok (.lload 5, 2) := by decide +kernel
theorem dX12_pack_48 : decode cX12_pack 48 = .ok (.goto 11, 3) := by decide +kernel
theorem dX12_pack_51 : decode cX12_pack 51 = .ok (.lload 5, 2) := by decide +kernel
theorem dX12_pack_53 : decode cX12_pack 53 = .ok (.bipush 8, 2) := by decide +kernel
theorem dX12_pack_55 : decode cX12_pack 55 = .ok (.lshl, 1) := by decide +kernel
theorem dX12_pack_56 : decode cX12_pack 56 = .ok (.iload_n 3, 1) := by decide +kernel
theorem dX12_pack_57 : decode cX12_pack 57 = .ok (.i2l, 1) := by decide +kernel
theorem dX12_pack_58 : decode cX12_pack 58 = .ok (.lor, 1) := by decide +kernel
theorem dX12_pack_59 : decode cX12_pack 59 = .ok (.lstore 5, 2) := by decide +kernel
theorem dX12_pack_61 : decode cX12_pack 61 = .ok (.iload 4, 2) := by decide +kernel
theorem dX12_pack_63 : decode cX12_pack 63 = .ok (.ifCond .ne 8, 3) := by decide +kernel
theorem dX12_pack_66 : decode cX12_pack 66 = .ok (.lload 5, 2) := by decide +kernel
theorem dX12_pack_68 : decode cX12_pack 68 = .ok (.goto 12, 3) := by decide +kernel
theorem dX12_pack_71 : decode cX12_pack 71 = .ok (.lload 5, 2) := by decide +kernel
theorem dX12_pack_73 : decode cX12_pack 73 = .ok (.bipush 8, 2) := by decide +kernel
theorem dX12_pack_75 : decode cX12_pack 75 = .ok (.lshl, 1) := by decide +kernel
theorem dX12_pack_76 : decode cX12_pack 76 = .ok (.iload 4, 2) := by decide +kernel
theorem dX12_pack_78 : decode cX12_pack 78 = .ok (.i2l, 1) := by decide +kernel
theorem dX12_pack_79 : decode cX12_pack 79 = .ok (.lor, 1) := by decide +kernel
theorem dX12_pack_80 : decode cX12_pack 80 = .ok (.lreturn, 1) := by decide +kernel
theorem dX12_part_0 : decode cX12_part 0 = .ok (.aload_n 0, 1) := by decide +kernel
theorem dX12_part_1 : decode cX12_part 1 = .ok (.getfield 333, 3) := by decide +kernel
theorem dX12_part_4 : decode cX12_part 4 = .ok (.sipush 600, 3) := by decide +kernel
theorem dX12_part_7 : decode cX12_part 7 = .ok (.if_icmp .ne 12, 3) := by decide +kernel
theorem dX12_part_10 : decode cX12_part 10 = .ok (.aload_n 0, 1) := by decide +kernel
theorem dX12_part_11 : decode cX12_part 11 = .ok (.iconst 4, 1) := by decide +kernel
theorem dX12_part_12 : decode cX12_part 12 = .ok (.aload_n 0, 1) := by decide +kernel
theorem dX12_part_13 : decode cX12_part 13 = .ok (.getfield 275, 3) := by decide +kernel
theorem dX12_part_16 : decode cX12_part 16 = .ok (.invokevirtual 317, 3) := by decide +kernel
theorem dX12_part_19 : decode cX12_part 19 = .ok (.aload_n 0, 1) := by decide +kernel
theorem dX12_part_20 : decode cX12_part 20 = .ok (.getfield 311, 3) := by decide +kernel
theorem dX12_part_23 : decode cX12_part 23 = .ok (.ifCond .ne 23, 3) := by decide +kernel
theorem dX12_part_26 : decode cX12_part 26 = .ok (.aload_n 0, 1) := by decide +kernel
theorem dX12_part_27 : decode cX12_part 27 = .ok (.dup, 1) := by decide +kernel
theorem dX12_part_28 : decode cX12_part 28 = .ok (.getfield 333, 3) := by decide +kernel
theorem dX12_part_31 : decode cX12_part 31 = .ok (.iconst 1, 1) := by decide +kernel
theorem dX12_part_32 : decode cX12_part 32 = .ok (.iadd, 1) := by decide +kernel
theorem dX12_part_33 : decode cX12_part 33 = .ok (.putfield 333, 3) := by decide +kernel
theorem dX12_part_36 : decode cX12_part 36 = .ok (.aload_n 0, 1) := by decide +kernel
theorem dX12_part_37 : decode cX12_part 37 = .ok (.dup, 1) := by decide +kernel
theorem dX12_part_38 : decode cX12_part 38 = .ok (.getfield 336, 3) := by decide +kernel
theorem dX12_part_41 : decode cX12_part 41 = .ok (.iconst 1, 1) := by decide +kernel
theorem dX12_part_42 : decode cX12_part 42 = .ok (.iadd, 1) := by decide +kernel
theorem dX12_part_43 : decode cX12_part 43 = .ok (.putfield 336, 3) := by decide +kernel
theorem dX12_part_46 : decode cX12_part 46 = .ok (.aload_n 0, 1) := by decide +kernel
theorem dX12_part_47 : decode cX12_part 47 = .ok (.getfield 311, 3) := by decide +kernel
theorem dX12_part_50 : decode cX12_part 50 = .ok (.ifCond .ne 7, 3) := by decide +kernel
theorem dX12_part_53 : decode cX12_part 53 = .ok (.iconst 1, 1) := by decide +kernel
theorem dX12_part_54 : decode cX12_part 54 = .ok (.goto 4, 3) := by decide +kernel
theorem dX12_part_57 : decode cX12_part 57 = .ok (.iconst 0, 1) := by decide +kernel
theorem dX12_part_58 : decode cX12_part 58 = .ok (.ireturn, 1) := by decide +kernel
theorem dX12_passBlanks_0 : decode cX12_passBlanks 0 = .ok (.iconst 1, 1) := by decide +kernel
theorem dX12_passBlanks_1 : decode cX12_passBlanks 1 = .ok (.istore_n 1, 1) := by decide +kernel
theorem dX12_passBlanks_2 : decode cX12_passBlanks 2 = .ok (.iload_n 1, 1) := by decide +kernel
theorem dX12_passBlanks_3 : decode cX12_passBlanks 3 = .ok (.ifCond .eq 108, 3) := by decide +kernel
theorem dX12_passBlanks_6 : decode cX12_passBlanks 6 = .ok (.aload_n 0, 1) := by decide +kernel
theorem dX12_passBlanks_7 : decode cX12_passBlanks 7 = .ok (.getfield 261, 3) := by decide +kernel
theorem dX12_passBlanks_10 : decode cX12_passBlanks 10 = .ok (.aload_n 0, 1) := by decide +kernel
theorem dX12_passBlanks_11 : decode cX12_passBlanks 11 = .ok (.getfield 254, 3) := by decide +kernel
theorem dX12_passBlanks_14 : decode cX12_passBlanks 14 = .ok (.if_icmp .ge 97, 3) := by decide +kernel
theorem dX12_passBlanks_17 : decode cX12_passBlanks 17 = .ok (.aload_n 0, 1) := by decide +kernel
theorem dX12_passBlanks_18 : decode cX12_passBlanks 18 = .ok (.aload_n 0, 1) := by decide +kernel
theorem dX12_passBlanks_19 : decode cX12_passBlanks 19 = .ok (.getfield 261, 3) := by decide +kernel
theorem dX12_passBlanks_22 : decode cX12_passBlanks 22 = .ok (.invokevirtual 264, 3) := by decide +kernel
theorem dX12_passBlanks_25 : decode cX12_passBlanks 25 = .ok (.bipush 35, 2) := by decide +kernel
theorem dX12_passBlanks_27 : decode cX12_passBlanks 27 = .ok (.if_icmp .ne 40, 3) := by decide +kernel
theorem dX12_passBlanks_30 : decode cX12_passBlanks 30 = .ok (.aload_n 0, 1) := by decide +kernel
theorem dX12_passBlanks_31 : decode cX12_passBlanks 31 = .ok (.getfield 261, 3) := by decide +kernel
theorem dX12_passBlanks_34 : decode cX12_passBlanks 34 = .ok (.aload_n 0, 1) := by decide +kernel
theorem dX12_passBlanks_35 : decode cX12_passBlanks 35 = .ok (.getfield 254, 3) := by decide +kernel
theorem dX12_passBlanks_38 : decode cX12_passBlanks 38 = .ok (.if_icmp .ge (-36), 3) := by decide +kernel
theorem dX12_passBlanks_41 : decode cX12_passBlanks 41 = .ok (.aload_n 0, 1) := by decide +kernel
theorem dX12_passBlanks_42 : decode cX12_passBlanks 42 = .ok (.aload_n 0, 1) := by decide +kernel
theorem dX12_passBlanks_43 : decode cX12_passBlanks 43 = .ok (.getfield 261, 3) := by decide +kernel
theorem dX12_passBlanks_46 : decode cX12_passBlanks 46 = .ok (.invokevirtual 264, 3) := by decide +kernel
theorem dX12_passBlanks_49 : decode cX12_passBlanks 49 = .ok (.bipush 10, 2) := by decide +kernel
theorem dX12_passBlanks_51 : decode cX12_passBlanks 51 = .ok (.if_icmp .eq (-49), 3) := by decide +kernel
theorem dX12_passBlanks_54 : decode cX12_passBlanks 54 = .ok (.aload_n 0, 1) := by decide +kernel
theorem dX12_passBlanks_55 : decode cX12_passBlanks 55 = .ok (.dup, 1) := by decide +kernel
theorem dX12_passBlanks_56 : decode cX12_passBlanks 56 = .ok (.getfield 261, 3) := by decide +kernel
theorem dX12_passBlanks_59 : decode cX12_passBlanks 59 = .ok (.iconst 1, 1) := by decide +kernel
theorem dX12_passBlanks_60 : decode cX12_passBlanks 60 = .ok (.iadd, 1) := by decide +kernel
theorem dX12_passBlanks_61 : decode cX12_passBlanks 61 = .ok (.putfield 261, 3) := by decide +kernel
theorem dX12_passBlanks_64 : decode cX12_passBlanks 64 = .ok (.goto (-34), 3) := by decide +kernel
theorem dX12_passBlanks_67 : decode cX12_passBlanks 67 = .ok (.aload_n 0, 1) := by decide +kernel
theorem dX12_passBlanks_68 : decode cX12_passBlanks 68 = .ok (.aload_n 0, 1) := by decide +kernel
theorem dX12_passBlanks_69 : decode cX12_passBlanks 69 = .ok (.getfield 261, 3) := by decide +kernel
theorem dX12_passBlanks_72 : decode cX12_passBlanks 72 = .ok (.invokevirtual 264, 3) := by decide +kernel
theorem dX12_passBlanks_75 : decode cX12_passBlanks 75 = .ok (.bipush 32, 2) := by decide +kernel
theorem dX12_passBlanks_77 : decode cX12_passBlanks 77 = .ok (.if_icmp .eq 16, 3) := by decide +kernel
theorem dX12_passBlanks_80 : decode cX12_passBlanks 80 = .ok (.aload_n 0, 1) := by decide +kernel
theorem dX12_passBlanks_81 : decode cX12_passBlanks 81 = .ok (.aload_n 0, 1) := by decide +kernel
theorem dX12_passBlanks_82 : decode cX12_passBlanks 82 = .ok (.getfield 261, 3) := by decide +kernel
theorem dX12_passBlanks_85 : decode cX12_passBlanks 85 = .ok (.invokevirtual 264, 3) := by decide +kernel
theorem dX12_passBlanks_88 : decode cX12_passBlanks 88 = .ok (.bipush 10, 2) := by decide +kernel
theorem dX12_passBlanks_90 : decode cX12_passBlanks 90 = .ok (.if_icmp .ne 16, 3) := by decide +kernel
theorem dX12_passBlanks_93 : decode cX12_passBlanks 93 = .ok (.aload_n 0, 1) := by decide +kernel
theorem dX12_passBlanks_94 : decode cX12_passBlanks 94 = .ok (.dup, 1) := by decide +kernel
theorem dX12_passBlanks_95 : decode cX12_passBlanks 95 = .ok (.getfield 261, 3) := by decide +kernel
theorem dX12_passBlanks_98 : decode cX12_passBlanks 98 = .ok (.iconst 1, 1) := by decide +kernel
theorem dX12_passBlanks_99 : decode cX12_passBlanks 99 = .ok (.iadd, 1) := by decide +kernel
theorem dX12_passBlanks_100 : decode cX12_passBlanks 100 = .ok (.putfield 261, 3) := by decide +kernel
theorem dX12_passBlanks_103 : decode cX12_passBlanks 103 = .ok (.goto (-101), 3) := by decide +kernel
theorem dX12_passBlanks_106 : decode cX12_passBlanks 106 = .ok (.iconst 0, 1) := by decide +kernel
theorem dX12_passBlanks_107 : decode cX12_passBlanks 107 = .ok (.istore_n 1, 1) := by decide +kernel
theorem dX12_passBlanks_108 : decode cX12_passBlanks 108 = .ok (.goto (-106), 3) := by decide +kernel
theorem dX12_passBlanks_111 : decode cX12_passBlanks 111 = .ok (.return_, 1) := by decide +kernel
theorem dX12_pile_0 : decode cX12_pile 0 = .ok (.aload_n 0, 1) := by decide +kernel
theorem dX12_pile_1 : decode cX12_pile 1 = .ok (.getfield 65, 3) := by decide +kernel
theorem dX12_pile_4 : decode cX12_pile 4 = .ok (.aload_n 0, 1) := by decide +kernel
theorem dX12_pile_5 : decode cX12_pile 5 = .ok (.getfield 342, 3) := by decide +kernel
theorem dX12_pile_8 : decode cX12_pile 8 = .ok (.iload_n 1, 1) := by decide +kernel
theorem dX12_pile_9 : decode cX12_pile 9 = .ok (.iastore, 1) := by decide +kernel
theorem dX12_pile_10 : decode cX12_pile 10 = .ok (.aload_n 0, 1) := by decide +kernel
theorem dX12_pile_11 : decode cX12_pile 11 = .ok (.getfield 68, 3) := by decide +kernel
theorem dX12_pile_14 : decode cX12_pile 14 = .ok (.aload_n 0, 1) := by decide +kernel
theorem dX12_pile_15 : decode cX12_pile 15 = .ok (.getfield 342, 3) := by decide +kernel
theorem dX12_pile_18 : decode cX12_pile 18 = .ok (.iload_n 2, 1) := by decide +kernel
theorem dX12_pile_19 : decode cX12_pile 19 = .ok (.iastore, 1) := by decide +kernel
theorem dX12_pile_20 : decode cX12_pile 20 = .ok (.aload_n 0, 1) := by decide +kernel
theorem dX12_pile_21 : decode cX12_pile 21 = .ok (.getfield 71, 3) := by decide +kernel
theorem dX12_pile_24 : decode cX12_pile 24 = .ok (.aload_n 0, 1) := by decide +kernel
theorem dX12_pile_25 : decode cX12_pile 25 = .ok (.getfield 342, 3) := by decide +kernel
theorem dX12_pile_28 : decode cX12_pile 28 = .ok (.iload_n 3, 1) := by decide +kernel
theorem dX12_pile_29 : decode cX12_pile 29 = .ok (.iastore, 1) := by decide +kernel
theorem dX12_pile_30 : decode cX12_pile 30 = .ok (.aload_n 0, 1) := by decide +kernel
theorem dX12_pile_31 : decode cX12_pile 31 = .ok (.getfield 74, 3) := by decide +kernel
theorem dX12_pile_34 : decode cX12_pile 34 = .ok (.aload_n 0, 1) := by decide +kernel
theorem dX12_pile_35 : decode cX12_pile 35 = .ok (.getfield 342, 3) := by decide +kernel
theorem dX12_pile_38 : decode cX12_pile 38 = .ok (.iconst 0, 1) := by decide +kernel
theorem dX12_pile_39 : decode cX12_pile 39 = .ok (.iastore, 1) := by decide +kernel
theorem dX12_pile_40 : decode cX12_pile 40 = .ok (.aload_n 0, 1) := by decide +kernel
theorem dX12_pile_41 : decode cX12_pile 41 = .ok (.dup, 1) := by decide +kernel
theorem dX12_pile_42 : decode cX12_pile 42 = .ok (.getfield 342, 3) := by decide +kernel
theorem dX12_pile_45 : decode cX12_pile 45 = .ok (.iconst 1, 1) := by decide +kernel
theorem dX12_pile_46 : decode cX12_pile 46 = .ok (.iadd, 1) := by decide +kernel
theorem dX12_pile_47 : decode cX12_pile 47 = .ok (.putfield 342, 3) := by decide +kernel
theorem dX12_pile_50 : decode cX12_pile 50 = .ok (.return_, 1) := by decide +kernel
theorem dX12_readName_0 : decode cX12_readName 0 = .ok (.lconst 0, 1) := by decide +kernel
theorem dX12_readName_1 : decode cX12_readName 1 = .ok (.lstore_n 2, 1) := by decide +kernel
theorem dX12_readName_2 : decode cX12_readName 2 = .ok (.aload_n 0, 1) := by decide +kernel
theorem dX12_readName_3 : decode cX12_readName 3 = .ok (.aload_n 0, 1) := by decide +kernel
theorem dX12_readName_4 : decode cX12_readName 4 = .ok (.getfield 261, 3) := by decide +kernel
theorem dX12_readName_7 : decode cX12_readName 7 = .ok (.invokevirtual 264, 3) := by decide +kernel
theorem dX12_readName_10 : decode cX12_readName 10 = .ok (.invokestatic 268, 3) := by decide +kernel
theorem dX12_readName_13 : decode cX12_readName 13 = .ok (.ifCond .ne 28, 3) := by decide +kernel
theorem dX12_readName_16 : decode cX12_readName 16 = .ok (.aload_n 0, 1) := by decide +kernel
theorem dX12_readName_17 : decode cX12_readName 17 = .ok (.aload_n 0, 1) := by decide +kernel
theorem dX12_readName_18 : decode cX12_readName 18 = .ok (.getfield 261, 3) := by decide +kernel
theorem dX12_readName_21 : decode cX12_readName 21 = .ok (.invokevirtual 264, 3) := by decide +kernel
theorem dX12_readName_24 : decode cX12_readName 24 = .ok (.invokestatic 272, 3) := by decide +kernel
theorem dX12_readName_27 : decode cX12_readName 27 = .ok (.ifCond .ne 14, 3) := by decide +kernel
theorem dX12_readName_30 : decode cX12_readName 30 = .ok (.aload_n 0, 1) := by decide +kernel
theorem dX12_readName_31 : decode cX12_readName 31 = .ok (.getfield 261, 3) := by decide +kernel
theorem dX12_readName_34 : decode cX12_readName 34 = .ok (.aload_n 0, 1) := by decide +kernel
theorem dX12_readName_35 : decode cX12_readName 35 = .ok (.getfield 275, 3) := by decide +kernel
theorem dX12_readName_38 : decode cX12_readName 38 = .ok (.if_icmp .ne 49, 3) := by decide +kernel
theorem dX12_readName_41 : decode cX12_readName 41 = .ok (.aload_n 0, 1) := by decide +kernel
theorem dX12_readName_42 : decode cX12_readName 42 = .ok (.getfield 261, 3) := by decide +kernel
theorem dX12_readName_45 : decode cX12_readName 45 = .ok (.aload_n 0, 1) := by decide +kernel
theorem dX12_readName_46 : decode cX12_readName 46 = .ok (.getfield 275, 3) := by decide +kernel
theorem dX12_readName_49 : decode cX12_readName 49 = .ok (.isub, 1) := by decide +kernel
theorem dX12_readName_50 : decode cX12_readName 50 = .ok (.bipush 8, 2) := by decide +kernel
theorem dX12_readName_52 : decode cX12_readName 52 = .ok (.if_icmp .ge 20, 3) := by decide +kernel
theorem dX12_readName_55 : decode cX12_readName 55 = .ok (.lload_n 2, 1) := by decide +kernel
theorem dX12_readName_56 : decode cX12_readName 56 = .ok (.bipush 8, 2) := by decide +kernel
theorem dX12_readName_58 : decode cX12_readName 58 = .ok (.lshl, 1) := by decide +kernel
theorem dX12_readName_59 : decode cX12_readName 59 = .ok (.aload_n 0, 1) := by decide +kernel
theorem dX12_readName_60 : decode cX12_readName 60 = .ok (.aload_n 0, 1) := by decide +kernel
theorem dX12_readName_61 : decode cX12_readName 61 = .ok (.getfield 261, 3) := by decide +kernel
theorem dX12_readName_64 : decode cX12_readName 64 = .ok (.invokevirtual 264, 3) := by decide +kernel
theorem dX12_readName_67 : decode cX12_readName 67 = .ok (.i2l, 1) := by decide +kernel
theorem dX12_readName_68 : decode cX12_readName 68 = .ok (.lor, 1) := by decide +kernel
theorem dX12_readName_69 : decode cX12_readName 69 = .ok (.goto 4, 3) := by decide +kernel
theorem dX12_readName_72 : decode cX12_readName 72 = .ok (.lload_n 2, 1) := by decide +kernel
theorem dX12_readName_73 : decode cX12_readName 73 = .ok (.lstore_n 2, 1) := by decide +kernel
theorem dX12_readName_74 : decode cX12_readName 74 = .ok (.aload_n 0, 1) := by decide +kernel
theorem dX12_readName_75 : decode cX12_readName 75 = .ok (.dup, 1) := by decide +kernel
theorem dX12_readName_76 : decode cX12_readName 76 = .ok (.getfield 261, 3) := by decide +kernel
theorem dX12_readName_79 : decode cX12_readName 79 = .ok (.iconst 1, 1) := by decide +kernel
theorem dX12_readName_80 : decode cX12_readName 80 = .ok (.iadd, 1) := by decide +kernel
theorem dX12_readName_81 : decode cX12_readName 81 = .ok (.putfield 261, 3) := by decide +kernel
theorem dX12_readName_84 : decode cX12_readName 84 = .ok (.goto (-82), 3) := by decide +kernel
theorem dX12_readName_87 : decode cX12_readName 87 = .ok (.aload_n 0, 1) := by decide +kernel
theorem dX12_readName_88 : decode cX12_readName 88 = .ok (.lload_n 2, 1) := by decide +kernel
theorem dX12_readName_89 : decode cX12_readName 89 = .ok (.putfield 278, 3) := by decide +kernel
theorem dX12_readName_92 : decode cX12_readName 92 = .ok (.aload_n 0, 1) := by decide +kernel
theorem dX12_readName_93 : decode cX12_readName 93 = .ok (.aload_n 0, 1) := by decide +kernel
theorem dX12_readName_94 : decode cX12_readName 94 = .ok (.getfield 261, 3) := by decide +kernel
theorem dX12_readName_97 : decode cX12_readName 97 = .ok (.aload_n 0, 1) := by decide +kernel
theorem dX12_readName_98 : decode cX12_readName 98 = .ok (.getfield 275, 3) := by decide +kernel
theorem dX12_readName_101 : decode cX12_readName 101 = .ok (.isub, 1) := by decide +kernel
theorem dX12_readName_102 : decode cX12_readName 102 = .ok (.bipush 8, 2) := by decide +kernel
theorem dX12_readName_104 : decode cX12_readName 104 = .ok (.if_icmp .le 7, 3) := by decide +kernel
theorem dX12_readName_107 : decode cX12_readName 107 = .ok (.iconst 1, 1) := by decide +kernel
theorem dX12_readName_108 : decode cX12_readName 108 = .ok (.goto 15, 3) := by decide +kernel
theorem dX12_readName_111 : decode cX12_readName 111 = .ok (.iload_n 1, 1) := by decide +kernel
theorem dX12_readName_112 : decode cX12_readName 112 = .ok (.ifCond .eq 7, 3) := by decide +kernel
theorem dX12_readName_115 : decode cX12_readName 115 = .ok (.iconst 4, 1) := by decide +kernel
theorem dX12_readName_116 : decode cX12_readName 116 = .ok (.goto 7, 3) := by decide +kernel
theorem dX12_readName_119 : decode cX12_readName 119 = .ok (.lload_n 2, 1) := by decide +kernel
theorem dX12_readName_120 : decode cX12_readName 120 = .ok (.invokestatic 282, 3) := by decide +kernel
theorem dX12_readName_123 : decode cX12_readName 123 = .ok (.putfield 286, 3) := by decide +kernel
theorem dX12_readName_126 : decode cX12_readName 126 = .ok (.return_, 1) := by decide +kernel
theorem dX12_readNumber_0 : decode cX12_readNumber 0 = .ok (.lconst 0, 1) := by decide +kernel
theorem dX12_readNumber_1 : decode cX12_readNumber 1 = .ok (.lstore_n 1, 1) := by decide +kernel
theorem dX12_readNumber_2 : decode cX12_readNumber 2 = .ok (.aload_n 0, 1) := by decide +kernel
theorem dX12_readNumber_3 : decode cX12_readNumber 3 = .ok (.aload_n 0, 1) := by decide +kernel
theorem dX12_readNumber_4 : decode cX12_readNumber 4 = .ok (.getfield 261, 3) := by decide +kernel
theorem dX12_readNumber_7 : decode cX12_readNumber 7 = .ok (.invokevirtual 264, 3) := by decide +kernel
theorem dX12_readNumber_10 : decode cX12_readNumber 10 = .ok (.invokestatic 272, 3) := by decide +kernel
theorem dX12_readNumber_13 : decode cX12_readNumber 13 = .ok (.ifCond .eq 54, 3) := by decide +kernel
theorem dX12_readNumber_16 : decode cX12_readNumber 16 = .ok (.aload_n 0, 1) := by decide +kernel
theorem dX12_readNumber_17 : decode cX12_readNumber 17 = .ok (.getfield 261, 3) := by decide +kernel
theorem dX12_readNumber_20 : decode cX12_readNumber 20 = .ok (.aload_n 0, 1) := by decide +kernel
theorem dX12_readNumber_21 : decode cX12_readNumber 21 = .ok (.getfield 275, 3) := by decide +kernel
theorem dX12_readNumber_24 : decode cX12_readNumber 24 = .ok (.isub, 1) := by decide +kernel
theorem dX12_readNumber_25 : decode cX12_readNumber 25 = .ok (.bipush 10, 2) := by decide +kernel
theorem dX12_readNumber_27 : decode cX12_readNumber 27 = .ok (.if_icmp .ge 25, 3) := by decide +kernel
theorem dX12_readNumber_30 : decode cX12_readNumber 30 = .ok (.ldc2_w 289, 3) := by decide +kernel
theorem dX12_readNumber_33 : decode cX12_readNumber 33 = .ok (.lload_n 1, 1) := by decide +kernel
theorem dX12_readNumber_34 : decode cX12_readNumber 34 = .ok (.lmul, 1) := by decide +kernel
theorem dX12_readNumber_35 : decode cX12_readNumber 35 = .ok (.aload_n 0, 1) := by decide +kernel
theorem dX12_readNumber_36 : decode cX12_readNumber 36 = .ok (.aload_n 0, 1) := by decide +kernel
theorem dX12_readNumber_37 : decode cX12_readNumber 37 = .ok (.getfield 261, 3) := by decide +kernel
theorem dX12_readNumber_40 : decode cX12_readNumber 40 = .ok (.invokevirtual 264, 3) := by decide +kernel
theorem dX12_readNumber_43 : decode cX12_readNumber 43 = .ok (.i2l, 1) := by decide +kernel
theorem dX12_readNumber_44 : decode cX12_readNumber 44 = .ok (.ladd, 1) := by decide +kernel
theorem dX12_readNumber_45 : decode cX12_readNumber 45 = .ok (.ldc2_w 291, 3) := by decide +kernel
theorem dX12_readNumber_48 : decode cX12_readNumber 48 = .ok (.lsub, 1) := by decide +kernel
theorem dX12_readNumber_49 : decode cX12_readNumber 49 = .ok (.goto 4, 3) := by decide +kernel
theorem dX12_readNumber_52 : decode cX12_readNumber 52 = .ok (.lload_n 1, 1) := by decide +kernel
theorem dX12_readNumber_53 : decode cX12_readNumber 53 = .ok (.lstore_n 1, 1) := by decide +kernel
theorem dX12_readNumber_54 : decode cX12_readNumber 54 = .ok (.aload_n 0, 1) := by decide +kernel
theorem dX12_readNumber_55 : decode cX12_readNumber 55 = .ok (.dup, 1) := by decide +kernel
theorem dX12_readNumber_56 : decode cX12_readNumber 56 = .ok (.getfield 261, 3) := by decide +kernel
theorem dX12_readNumber_59 : decode cX12_readNumber 59 = .ok (.iconst 1, 1) := by decide +kernel
theorem dX12_readNumber_60 : decode cX12_readNumber 60 = .ok (.iadd, 1) := by decide +kernel
theorem dX12_readNumber_61 : decode cX12_readNumber 61 = .ok (.putfield 261, 3) := by decide +kernel
theorem dX12_readNumber_64 : decode cX12_readNumber 64 = .ok (.goto (-62), 3) := by decide +kernel
theorem dX12_readNumber_67 : decode cX12_readNumber 67 = .ok (.aload_n 0, 1) := by decide +kernel
theorem dX12_readNumber_68 : decode cX12_readNumber 68 = .ok (.aload_n 0, 1) := by decide +kernel
theorem dX12_readNumber_69 : decode cX12_readNumber 69 = .ok (.getfield 261, 3) := by decide +kernel
theorem dX12_readNumber_72 : decode cX12_readNumber 72 = .ok (.aload_n 0, 1) := by decide +kernel
theorem dX12_readNumber_73 : decode cX12_readNumber 73 = .ok (.getfield 275, 3) := by decide +kernel
theorem dX12_readNumber_76 : decode cX12_readNumber 76 = .ok (.isub, 1) := by decide +kernel
theorem dX12_readNumber_77 : decode cX12_readNumber 77 = .ok (.bipush 10, 2) := by decide +kernel
theorem dX12_readNumber_79 : decode cX12_readNumber 79 = .ok (.if_icmp .gt 11, 3) := by decide +kernel
theorem dX12_readNumber_82 : decode cX12_readNumber 82 = .ok (.lload_n 1, 1) := by decide +kernel
theorem dX12_readNumber_83 : decode cX12_readNumber 83 = .ok (.ldc2_w 293, 3) := by decide +kernel
theorem dX12_readNumber_86 : decode cX12_readNumber 86 = .ok (.lcmp, 1) := by decide +kernel
theorem dX12_readNumber_87 : decode cX12_readNumber 87 = .ok (.ifCond .le 7, 3) := by decide +kernel
theorem dX12_readNumber_90 : decode cX12_readNumber 90 = .ok (.iconst 1, 1) := by decide +kernel
theorem dX12_readNumber_91 : decode cX12_readNumber 91 = .ok (.goto 4, 3) := by decide +kernel
theorem dX12_readNumber_94 : decode cX12_readNumber 94 = .ok (.iconst 2, 1) := by decide +kernel
theorem dX12_readNumber_95 : decode cX12_readNumber 95 = .ok (.putfield 286, 3) := by decide +kernel
theorem dX12_readNumber_98 : decode cX12_readNumber 98 = .ok (.aload_n 0, 1) := by decide +kernel
theorem dX12_readNumber_99 : decode cX12_readNumber 99 = .ok (.lload_n 1, 1) := by decide +kernel
theorem dX12_readNumber_100 : decode cX12_readNumber 100 = .ok (.l2i, 1) := by decide +kernel
theorem dX12_readNumber_101 : decode cX12_readNumber 101 = .ok (.putfield 295, 3) := by decide +kernel
theorem dX12_readNumber_104 : decode cX12_readNumber 104 = .ok (.return_, 1) := by decide +kernel
theorem dX12_sign_0 : decode cX12_sign 0 = .ok (.iload_n 1, 1) := by decide +kernel
theorem dX12_sign_1 : decode cX12_sign 1 = .ok (.aload_n 0, 1) := by decide +kernel
theorem dX12_sign_2 : decode cX12_sign 2 = .ok (.getfield 254, 3) := by decide +kernel
theorem dX12_sign_5 : decode cX12_sign 5 = .ok (.if_icmp .ge 12, 3) := by decide +kernel
theorem dX12_sign_8 : decode cX12_sign 8 = .ok (.aload_n 0, 1) := by decide +kernel
theorem dX12_sign_9 : decode cX12_sign 9 = .ok (.getfield 7, 3) := by decide +kernel
theorem dX12_sign_12 : decode cX12_sign 12 = .ok (.iload_n 1, 1) := by decide +kernel
theorem dX12_sign_13 : decode cX12_sign 13 = .ok (.iaload, 1) := by decide +kernel
theorem dX12_sign_14 : decode cX12_sign 14 = .ok (.goto 4, 3) := by decide +kernel
theorem dX12_sign_17 : decode cX12_sign 17 = .ok (.iconst 0, 1) := by decide +kernel
theorem dX12_sign_18 : decode cX12_sign 18 = .ok (.ireturn, 1) := by decide +kernel
theorem dX12_taken_0 : decode cX12_taken 0 = .ok (.aload_n 0, 1) := by decide +kernel
theorem dX12_taken_1 : decode cX12_taken 1 = .ok (.dup, 1) := by decide +kernel
theorem dX12_taken_2 : decode cX12_taken 2 = .ok (.getfield 345, 3) := by decide +kernel
theorem dX12_taken_5 : decode cX12_taken 5 = .ok (.iconst 1, 1) := by decide +kernel
theorem dX12_taken_6 : decode cX12_taken 6 = .ok (.isub, 1) := by decide +kernel
theorem dX12_taken_7 : decode cX12_taken 7 = .ok (.putfield 345, 3) := by decide +kernel
theorem dX12_taken_10 : decode cX12_taken 10 = .ok (.aload_n 0, 1) := by decide +kernel
theorem dX12_taken_11 : decode cX12_taken 11 = .ok (.getfield 77, 3) := by decide +kernel
theorem dX12_taken_14 : decode cX12_taken 14 = .ok (.aload_n 0, 1) := by decide +kernel
theorem dX12_taken_15 : decode cX12_taken 15 = .ok (.getfield 345, 3) := by decide +kernel
theorem dX12_taken_18 : decode cX12_taken 18 = .ok (.iaload, 1) := by decide +kernel
theorem dX12_taken_19 : decode cX12_taken 19 = .ok (.ireturn, 1) := by decide +kernel
theorem dX12_thrown_0 : decode cX12_thrown 0 = .ok (.aload_n 0, 1) := by decide +kernel
theorem dX12_thrown_1 : decode cX12_thrown 1 = .ok (.getfield 251, 3) := by decide +kernel
theorem dX12_thrown_4 : decode cX12_thrown 4 = .ok (.ireturn, 1) := by decide +kernel
theorem dX12_wrong_0 : decode cX12_wrong 0 = .ok (.aload_n 0, 1) := by decide +kernel
theorem dX12_wrong_1 : decode cX12_wrong 1 = .ok (.iconst 1, 1) := by decide +kernel
theorem dX12_wrong_2 : decode cX12_wrong 2 = .ok (.aload_n 0, 1) := by decide +kernel
theorem dX12_wrong_3 : decode cX12_wrong 3 = .ok (.getfield 275, 3) := by decide +kernel
theorem dX12_wrong_6 : decode cX12_wrong 6 = .ok (.invokevirtual 317, 3) := by decide +kernel
theorem dX12_wrong_9 : decode cX12_wrong 9 = .ok (.return_, 1) := by decide +kernel
theorem cw_X12_fail : CWV yX12_fail cX12_fail 3 none RX12 2 := ⟨mG_2525, mG_2524, mG_115, mG_226, by decide +kernel⟩
theorem cw_X12_isCapital : CWS yX12_isCapital cX12_isCapital 1 (some .boolean) RX12 1 := ⟨mG_2496, mG_2495, mG_226, by decide +kernel⟩
theorem cw_X12_isDigit : CWS yX12_isDigit cX12_isDigit 1 (some .boolean) RX12 1 := ⟨mG_2503, mG_2502, mG_226, by decide +kernel⟩
theorem cw_X12_isSmall : CWS yX12_isSmall cX12_isSmall 1 (some .boolean) RX12 1 := ⟨mG_2493, mG_2492, mG_226, by decide +kernel⟩
theorem cw_X12_keyword : CWS yX12_keyword cX12_keyword 2 (some .int) RX12 1 := ⟨mG_2506, mG_2505, mG_226, by decide +kernel⟩
theorem cw_X12_next : CWV yX12_next cX12_next 4 none RX12 0 := ⟨mG_2482, mG_2481, mG_108, mG_226, by decide +kernel⟩
theorem cw_X12_pack : CWS yX12_pack cX12_pack 7 (some .long) RX12 5 := ⟨mG_2478, mG_2477, mG_226, by decide +kernel⟩
theorem cw_X12_passBlanks : CWV yX12_passBlanks cX12_passBlanks 2 none RX12 0 := ⟨mG_2486, mG_2485, mG_109, mG_226, by decide +kernel⟩
theorem cw_X12_readName : CWV yX12_readName cX12_readName 4 none RX12 1 := ⟨mG_2500, mG_2499, mG_111, mG_226, by decide +kernel⟩
theorem cw_X12_readNumber : CWV yX12_readNumber cX12_readNumber 3 none RX12 0 := ⟨mG_2510, mG_2509, mG_112, mG_226, by decide +kernel⟩
theorem cw_X12_sign : CWV yX12_sign cX12_sign 2 (some .int) RX12 1 := ⟨mG_2490, mG_2489, mG_110, mG_226, by decide +kernel⟩
theorem cw_X12_wrong : CWV yX12_wrong cX12_wrong 1 none RX12 0 := ⟨mG_2533, mG_2532, mG_117, mG_226, by decide +kernel⟩
section MX12_thrown
variable {p : Program} {l : Launch} {e : Env} {R : Room} {s : State} {m : MethodId} {args : Array Value} {below : List Frame} {meth : Method} {c : Code} {dC : Nat → ClassId} {dI : Nat → Nat → Nat} {Z : ZZ} {A : Nat → Prop} {ad : Nat → Nat} {kc : Nat → ClassId} {r : Int32} {τ : S5}
set_option maxHeartbeats 4000000 in
set_option maxRecDepth 100000 in
theorem w_X12_thrown {σ : S5}  {H : Heap} {locs : List Loc} {ls : Array Slot} (S : CallFix p m c cX12_thrown 1 s args uG RX12) (hr : meth.sig.returnType = (some .int)) (hk : meth.locks = false) (hR : 0 ≤ R.frames ∧ 0 ≤ R.locals)
    (X : gX (dC, dI) (tM kc) (wM ad kc) Z A s σ H locs) (hl : lv_has ls 1 [(0, .ref (ad 0))]) (hg : f_X12_thrown  σ = some (r, τ)) : W p l e R s m args below meth c H locs 0 0 (MQ below (gQi (dC, dI) (tM kc) (wM ad kc) A r τ) args s 0 0 A) (F0 m 0 ls []) := by
  have hx := S.1
  have hb := S.2.1
  have hown := S.2.2.2.1
  have hu := S.2.2.2.2
  unfold f_X12_thrown at hg
  refine lv_aload_n hx hb dX12_thrown_0 rfl (lv_at hl 0 rfl) ?_
  refine wmgI_0 (v := (gI σ 0)) S X mG_2050 rfl dX12_thrown_1 ?_
  obtain ⟨rfl, rfl⟩ := fin_some hg
  exact gr_i S hr hk X dX12_thrown_4
end MX12_thrown
set_option maxRecDepth 100000 in
theorem k2_X12_thrown (l : Launch) (dC : Nat → ClassId) (dI : Nat → Nat → Nat) {Z : ZZ} (ad : Nat → Nat) (kc : Nat → ClassId) {σ τ : S5}  {r : Int32} (hg : f_X12_thrown  σ = some (r, τ)) (sz : Nat) : Met l yX12_thrown (Cond.code yX12_thrown cX12_thrown 1 (some .int) :: uG) { frames := 0, cells := 0, slots := 0, locals := 0 } (gPc (dC, dI) (tM kc) (wM ad kc) Z [.ref (ad 0)] σ sz) (gQi (dC, dI) (tM kc) (wM ad kc) (va_A (wM ad kc σ) sz) r τ) 0 0 (va_A (wM ad kc σ) sz) :=
  g_start (by decide) (Nat.le_of_ble_eq_true rfl) (fun p e s m below meth c ls S hr hk X hl => w_X12_thrown S hr hk ⟨Nat.le_refl _, Nat.le_refl _⟩ X hl hg)
section MX12_sign
variable {p : Program} {l : Launch} {e : Env} {R : Room} {s : State} {m : MethodId} {args : Array Value} {below : List Frame} {meth : Method} {c : Code} {dC : Nat → ClassId} {dI : Nat → Nat → Nat} {Z : ZZ} {A : Nat → Prop} {ad : Nat → Nat} {kc : Nat → ClassId} {r : Int32} {τ : S5}
set_option maxHeartbeats 4000000 in
set_option maxRecDepth 100000 in
theorem w_X12_sign {σ : S5} {a1 : Int32} {H : Heap} {locs : List Loc} {ls : Array Slot} (S : CallFix p m c cX12_sign 2 s args uG RX12) (hr : meth.sig.returnType = (some .int)) (hk : meth.locks = false) (hR : 0 ≤ R.frames ∧ 0 ≤ R.locals)
    (X : gX (dC, dI) (tM kc) (wM ad kc) Z A s σ H locs) (hl : lv_has ls 2 [(0, .ref (ad 0)), (1, .int a1)]) (hg : f_X12_sign a1 σ = some (r, τ)) : W p l e R s m args below meth c H locs 0 0 (MQ below (gQi (dC, dI) (tM kc) (wM ad kc) A r τ) args s 0 0 A) (F0 m 0 ls []) := by
  have hx := S.1
  have hb := S.2.1
  have hown := S.2.2.2.1
  have hu := S.2.2.2.2
  unfold f_X12_sign at hg
  refine lv_iload_n hx hb dX12_sign_0 rfl (lv_at hl 1 rfl) ?_
  refine lv_aload_n hx hb dX12_sign_1 rfl (lv_at hl 0 rfl) ?_
  refine wmgI_1 (v := (gI σ 1)) S X mG_2052 rfl dX12_sign_2 ?_
  refine lv_icmp_ge (tgt := 17) hx hb dX12_sign_5 (by decide) (fun c5 => ?_) (fun c5 => ?_)
  · have hg := (if_pos c5).symm.trans hg
    refine lv_iconst (v := 0) hx hb dX12_sign_17 (by decide) ?_
    obtain ⟨rfl, rfl⟩ := fin_some hg
    exact gr_i S hr hk X dX12_sign_18
  · have hg := (if_neg c5).symm.trans hg
    refine lv_aload_n hx hb dX12_sign_8 rfl (lv_at hl 0 rfl) ?_
    refine wmgR_0_1 S X mG_2051 dX12_sign_9 ?_
    refine lv_iload_n hx hb dX12_sign_12 rfl (lv_at hl 1 rfl) ?_
    obtain ⟨hi13, hg⟩ := gd_some hg
    refine wmlA_0 (v := (xA σ 0 a1)) S X hi13 rfl dX12_sign_13 ?_
    refine lv_goto (tgt := 18) hx hb dX12_sign_14 (by decide) ?_
    obtain ⟨rfl, rfl⟩ := fin_some hg
    exact gr_i S hr hk X dX12_sign_18
end MX12_sign
set_option maxRecDepth 100000 in
theorem k2_X12_sign (l : Launch) (dC : Nat → ClassId) (dI : Nat → Nat → Nat) {Z : ZZ} (ad : Nat → Nat) (kc : Nat → ClassId) {σ τ : S5} {a1 : Int32} {r : Int32} (hg : f_X12_sign a1 σ = some (r, τ)) (sz : Nat) : Met l yX12_sign (Cond.code yX12_sign cX12_sign 2 (some .int) :: uG) { frames := 0, cells := 0, slots := 0, locals := 0 } (gPc (dC, dI) (tM kc) (wM ad kc) Z [.ref (ad 0), .int a1] σ sz) (gQi (dC, dI) (tM kc) (wM ad kc) (va_A (wM ad kc σ) sz) r τ) 0 0 (va_A (wM ad kc σ) sz) :=
  g_start (by decide) (Nat.le_of_ble_eq_true rfl) (fun p e s m below meth c ls S hr hk X hl => w_X12_sign S hr hk ⟨Nat.le_refl _, Nat.le_refl _⟩ X hl hg)
section MX12_isDigit
variable {p : Program} {l : Launch} {e : Env} {R : Room} {s : State} {m : MethodId} {args : Array Value} {below : List Frame} {meth : Method} {c : Code} {dC : Nat → ClassId} {dI : Nat → Nat → Nat} {Z : ZZ} {A : Nat → Prop} {ad : Nat → Nat} {kc : Nat → ClassId} {r : Int32} {τ : S5}
set_option maxHeartbeats 4000000 in
set_option maxRecDepth 100000 in
theorem w_X12_isDigit {σ : S5} {a0 : Int32} {H : Heap} {locs : List Loc} {ls : Array Slot} (S : CallFix p m c cX12_isDigit 1 s args uG RX12) (hr : meth.sig.returnType = (some .boolean)) (hk : meth.locks = false) (hR : 0 ≤ R.frames ∧ 0 ≤ R.locals)
    (X : gX (dC, dI) (tM kc) (wM ad kc) Z A s σ H locs) (hl : lv_has ls 1 [(0, .int a0)]) (hg : f_X12_isDigit a0 σ = some (r, τ)) : W p l e R s m args below meth c H locs 0 0 (MQ below (gQi (dC, dI) (tM kc) (wM ad kc) A r τ) args s 0 0 A) (F0 m 0 ls []) := by
  have hx := S.1
  have hb := S.2.1
  have hown := S.2.2.2.1
  have hu := S.2.2.2.2
  unfold f_X12_isDigit at hg
  refine lv_iload_n hx hb dX12_isDigit_0 rfl (lv_at hl 0 rfl) ?_
  refine lv_bipush (v := 48) hx hb dX12_isDigit_1 (by decide) ?_
  refine lv_icmp_lt (tgt := 16) hx hb dX12_isDigit_3 (by decide) (fun c3 => ?_) (fun c3 => ?_)
  · have hg := (if_pos c3).symm.trans hg
    refine lv_iconst (v := 0) hx hb dX12_isDigit_16 (by decide) ?_
    obtain ⟨rfl, rfl⟩ := fin_some hg
    exact gr_z S hr hk X (Or.inl rfl) dX12_isDigit_17
  · have hg := (if_neg c3).symm.trans hg
    refine lv_iload_n hx hb dX12_isDigit_6 rfl (lv_at hl 0 rfl) ?_
    refine lv_bipush (v := 57) hx hb dX12_isDigit_7 (by decide) ?_
    refine lv_icmp_gt (tgt := 16) hx hb dX12_isDigit_9 (by decide) (fun c9 => ?_) (fun c9 => ?_)
    · have hg := (if_pos c9).symm.trans hg
      refine lv_iconst (v := 0) hx hb dX12_isDigit_16 (by decide) ?_
      obtain ⟨rfl, rfl⟩ := fin_some hg
      exact gr_z S hr hk X (Or.inl rfl) dX12_isDigit_17
    · have hg := (if_neg c9).symm.trans hg
      refine lv_iconst (v := 1) hx hb dX12_isDigit_12 (by decide) ?_
      refine lv_goto (tgt := 17) hx hb dX12_isDigit_13 (by decide) ?_
      obtain ⟨rfl, rfl⟩ := fin_some hg
      exact gr_z S hr hk X (Or.inr rfl) dX12_isDigit_17
end MX12_isDigit
set_option maxRecDepth 100000 in
theorem k2_X12_isDigit (l : Launch) (dC : Nat → ClassId) (dI : Nat → Nat → Nat) {Z : ZZ} (ad : Nat → Nat) (kc : Nat → ClassId) {σ τ : S5} {a0 : Int32} {r : Int32} (hg : f_X12_isDigit a0 σ = some (r, τ)) (sz : Nat) : Met l yX12_isDigit (Cond.code yX12_isDigit cX12_isDigit 1 (some .boolean) :: uG) { frames := 0, cells := 0, slots := 0, locals := 0 } (gPc (dC, dI) (tM kc) (wM ad kc) Z [.int a0] σ sz) (gQi (dC, dI) (tM kc) (wM ad kc) (va_A (wM ad kc σ) sz) r τ) 0 0 (va_A (wM ad kc σ) sz) :=
  g_start (by decide) (Nat.le_of_ble_eq_true rfl) (fun p e s m below meth c ls S hr hk X hl => w_X12_isDigit S hr hk ⟨Nat.le_refl _, Nat.le_refl _⟩ X hl hg)
section MX12_isSmall
variable {p : Program} {l : Launch} {e : Env} {R : Room} {s : State} {m : MethodId} {args : Array Value} {below : List Frame} {meth : Method} {c : Code} {dC : Nat → ClassId} {dI : Nat → Nat → Nat} {Z : ZZ} {A : Nat → Prop} {ad : Nat → Nat} {kc : Nat → ClassId} {r : Int32} {τ : S5}
set_option maxHeartbeats 4000000 in
set_option maxRecDepth 100000 in
theorem w_X12_isSmall {σ : S5} {a0 : Int32} {H : Heap} {locs : List Loc} {ls : Array Slot} (S : CallFix p m c cX12_isSmall 1 s args uG RX12) (hr : meth.sig.returnType = (some .boolean)) (hk : meth.locks = false) (hR : 0 ≤ R.frames ∧ 0 ≤ R.locals)
    (X : gX (dC, dI) (tM kc) (wM ad kc) Z A s σ H locs) (hl : lv_has ls 1 [(0, .int a0)]) (hg : f_X12_isSmall a0 σ = some (r, τ)) : W p l e R s m args below meth c H locs 0 0 (MQ below (gQi (dC, dI) (tM kc) (wM ad kc) A r τ) args s 0 0 A) (F0 m 0 ls []) := by
  have hx := S.1
  have hb := S.2.1
  have hown := S.2.2.2.1
  have hu := S.2.2.2.2
  unfold f_X12_isSmall at hg
  refine lv_iload_n hx hb dX12_isSmall_0 rfl (lv_at hl 0 rfl) ?_
  refine lv_bipush (v := 97) hx hb dX12_isSmall_1 (by decide) ?_
  refine lv_icmp_lt (tgt := 16) hx hb dX12_isSmall_3 (by decide) (fun c3 => ?_) (fun c3 => ?_)
  · have hg := (if_pos c3).symm.trans hg
    refine lv_iconst (v := 0) hx hb dX12_isSmall_16 (by decide) ?_
    obtain ⟨rfl, rfl⟩ := fin_some hg
    exact gr_z S hr hk X (Or.inl rfl) dX12_isSmall_17
  · have hg := (if_neg c3).symm.trans hg
    refine lv_iload_n hx hb dX12_isSmall_6 rfl (lv_at hl 0 rfl) ?_
    refine lv_bipush (v := 122) hx hb dX12_isSmall_7 (by decide) ?_
    refine lv_icmp_gt (tgt := 16) hx hb dX12_isSmall_9 (by decide) (fun c9 => ?_) (fun c9 => ?_)
    · have hg := (if_pos c9).symm.trans hg
      refine lv_iconst (v := 0) hx hb dX12_isSmall_16 (by decide) ?_
      obtain ⟨rfl, rfl⟩ := fin_some hg
      exact gr_z S hr hk X (Or.inl rfl) dX12_isSmall_17
    · have hg := (if_neg c9).symm.trans hg
      refine lv_iconst (v := 1) hx hb dX12_isSmall_12 (by decide) ?_
      refine lv_goto (tgt := 17) hx hb dX12_isSmall_13 (by decide) ?_
      obtain ⟨rfl, rfl⟩ := fin_some hg
      exact gr_z S hr hk X (Or.inr rfl) dX12_isSmall_17
end MX12_isSmall
set_option maxRecDepth 100000 in
theorem k2_X12_isSmall (l : Launch) (dC : Nat → ClassId) (dI : Nat → Nat → Nat) {Z : ZZ} (ad : Nat → Nat) (kc : Nat → ClassId) {σ τ : S5} {a0 : Int32} {r : Int32} (hg : f_X12_isSmall a0 σ = some (r, τ)) (sz : Nat) : Met l yX12_isSmall (Cond.code yX12_isSmall cX12_isSmall 1 (some .boolean) :: uG) { frames := 0, cells := 0, slots := 0, locals := 0 } (gPc (dC, dI) (tM kc) (wM ad kc) Z [.int a0] σ sz) (gQi (dC, dI) (tM kc) (wM ad kc) (va_A (wM ad kc σ) sz) r τ) 0 0 (va_A (wM ad kc σ) sz) :=
  g_start (by decide) (Nat.le_of_ble_eq_true rfl) (fun p e s m below meth c ls S hr hk X hl => w_X12_isSmall S hr hk ⟨Nat.le_refl _, Nat.le_refl _⟩ X hl hg)
section MX12_isCapital
variable {p : Program} {l : Launch} {e : Env} {R : Room} {s : State} {m : MethodId} {args : Array Value} {below : List Frame} {meth : Method} {c : Code} {dC : Nat → ClassId} {dI : Nat → Nat → Nat} {Z : ZZ} {A : Nat → Prop} {ad : Nat → Nat} {kc : Nat → ClassId} {r : Int32} {τ : S5}
set_option maxHeartbeats 4000000 in
set_option maxRecDepth 100000 in
theorem w_X12_isCapital {σ : S5} {a0 : Int32} {H : Heap} {locs : List Loc} {ls : Array Slot} (S : CallFix p m c cX12_isCapital 1 s args uG RX12) (hr : meth.sig.returnType = (some .boolean)) (hk : meth.locks = false) (hR : 0 ≤ R.frames ∧ 0 ≤ R.locals)
    (X : gX (dC, dI) (tM kc) (wM ad kc) Z A s σ H locs) (hl : lv_has ls 1 [(0, .int a0)]) (hg : f_X12_isCapital a0 σ = some (r, τ)) : W p l e R s m args below meth c H locs 0 0 (MQ below (gQi (dC, dI) (tM kc) (wM ad kc) A r τ) args s 0 0 A) (F0 m 0 ls []) := by
  have hx := S.1
  have hb := S.2.1
  have hown := S.2.2.2.1
  have hu := S.2.2.2.2
  unfold f_X12_isCapital at hg
  refine lv_iload_n hx hb dX12_isCapital_0 rfl (lv_at hl 0 rfl) ?_
  refine lv_bipush (v := 65) hx hb dX12_isCapital_1 (by decide) ?_
  refine lv_icmp_lt (tgt := 16) hx hb dX12_isCapital_3 (by decide) (fun c3 => ?_) (fun c3 => ?_)
  · have hg := (if_pos c3).symm.trans hg
    refine lv_iconst (v := 0) hx hb dX12_isCapital_16 (by decide) ?_
    obtain ⟨rfl, rfl⟩ := fin_some hg
    exact gr_z S hr hk X (Or.inl rfl) dX12_isCapital_17
  · have hg := (if_neg c3).symm.trans hg
    refine lv_iload_n hx hb dX12_isCapital_6 rfl (lv_at hl 0 rfl) ?_
    refine lv_bipush (v := 90) hx hb dX12_isCapital_7 (by decide) ?_
    refine lv_icmp_gt (tgt := 16) hx hb dX12_isCapital_9 (by decide) (fun c9 => ?_) (fun c9 => ?_)
    · have hg := (if_pos c9).symm.trans hg
      refine lv_iconst (v := 0) hx hb dX12_isCapital_16 (by decide) ?_
      obtain ⟨rfl, rfl⟩ := fin_some hg
      exact gr_z S hr hk X (Or.inl rfl) dX12_isCapital_17
    · have hg := (if_neg c9).symm.trans hg
      refine lv_iconst (v := 1) hx hb dX12_isCapital_12 (by decide) ?_
      refine lv_goto (tgt := 17) hx hb dX12_isCapital_13 (by decide) ?_
      obtain ⟨rfl, rfl⟩ := fin_some hg
      exact gr_z S hr hk X (Or.inr rfl) dX12_isCapital_17
end MX12_isCapital
set_option maxRecDepth 100000 in
theorem k2_X12_isCapital (l : Launch) (dC : Nat → ClassId) (dI : Nat → Nat → Nat) {Z : ZZ} (ad : Nat → Nat) (kc : Nat → ClassId) {σ τ : S5} {a0 : Int32} {r : Int32} (hg : f_X12_isCapital a0 σ = some (r, τ)) (sz : Nat) : Met l yX12_isCapital (Cond.code yX12_isCapital cX12_isCapital 1 (some .boolean) :: uG) { frames := 0, cells := 0, slots := 0, locals := 0 } (gPc (dC, dI) (tM kc) (wM ad kc) Z [.int a0] σ sz) (gQi (dC, dI) (tM kc) (wM ad kc) (va_A (wM ad kc σ) sz) r τ) 0 0 (va_A (wM ad kc σ) sz) :=
  g_start (by decide) (Nat.le_of_ble_eq_true rfl) (fun p e s m below meth c ls S hr hk X hl => w_X12_isCapital S hr hk ⟨Nat.le_refl _, Nat.le_refl _⟩ X hl hg)
section MX12_pack
variable {p : Program} {l : Launch} {e : Env} {R : Room} {s : State} {m : MethodId} {args : Array Value} {below : List Frame} {meth : Method} {c : Code} {dC : Nat → ClassId} {dI : Nat → Nat → Nat} {Z : ZZ} {A : Nat → Prop} {ad : Nat → Nat} {kc : Nat → ClassId} {r : Int64} {τ : S5}
set_option maxHeartbeats 4000000 in
set_option maxRecDepth 100000 in
theorem w_X12_pack_b59 {σ : S5} {v4 : Int32} {u0 : Int64} {H : Heap} {locs : List Loc} {ls : Array Slot} (S : CallFix p m c cX12_pack 7 s args uG RX12) (hr : meth.sig.returnType = (some .long)) (hk : meth.locks = false) (hR : 0 ≤ R.frames ∧ 0 ≤ R.locals)
    (X : gX (dC, dI) (tM kc) (wM ad kc) Z A s σ H locs) (hl : lv_has ls 7 [(4, .int v4)]) (hg : f_X12_pack_b59 v4 u0 σ = some (r, τ)) : W p l e R s m args below meth c H locs 0 0 (MQ below (gQl (dC, dI) (tM kc) (wM ad kc) A r τ) args s 0 0 A) (F0 m 59 ls [.long u0]) := by
  have hx := S.1
  have hb := S.2.1
  have hown := S.2.2.2.1
  have hu := S.2.2.2.2
  unfold f_X12_pack_b59 at hg
  refine lv_lstore (lv' := [(5, .long u0), (4, .int v4)]) hx hb dX12_pack_59 hl (by decide) rfl (fun ls hl => ?_)
  refine lv_iload hx hb dX12_pack_61 (lv_at hl 1 rfl) ?_
  refine lv_if_ne (tgt := 71) hx hb dX12_pack_63 (by decide) (fun c63 => ?_) (fun c63 => ?_)
  · have hg := (if_neg c63).symm.trans hg
    refine lv_lload hx hb dX12_pack_71 (lv_at hl 0 rfl) ?_
    refine lv_bipush (v := 8) hx hb dX12_pack_73 (by decide) ?_
    refine lv_lshl (v := (j_lshl u0 8)) hx hb dX12_pack_75 rfl ?_
    refine lv_iload hx hb dX12_pack_76 (lv_at hl 1 rfl) ?_
    refine lv_i2l (v := ((v4).toInt64)) hx hb dX12_pack_78 rfl ?_
    refine lv_lor hx hb dX12_pack_79 ?_
    obtain ⟨rfl, rfl⟩ := fin_some hg
    exact gr_l S hr hk X dX12_pack_80
  · have hg := (if_pos c63).symm.trans hg
    refine lv_lload hx hb dX12_pack_66 (lv_at hl 0 rfl) ?_
    refine lv_goto (tgt := 80) hx hb dX12_pack_68 (by decide) ?_
    obtain ⟨rfl, rfl⟩ := fin_some hg
    exact gr_l S hr hk X dX12_pack_80
set_option maxHeartbeats 4000000 in
set_option maxRecDepth 100000 in
theorem w_X12_pack_b40 {σ : S5} {v3 : Int32} {v4 : Int32} {u0 : Int64} {H : Heap} {locs : List Loc} {ls : Array Slot} (S : CallFix p m c cX12_pack 7 s args uG RX12) (hr : meth.sig.returnType = (some .long)) (hk : meth.locks = false) (hR : 0 ≤ R.frames ∧ 0 ≤ R.locals)
    (X : gX (dC, dI) (tM kc) (wM ad kc) Z A s σ H locs) (hl : lv_has ls 7 [(3, .int v3), (4, .int v4)]) (hg : f_X12_pack_b40 v3 v4 u0 σ = some (r, τ)) : W p l e R s m args below meth c H locs 0 0 (MQ below (gQl (dC, dI) (tM kc) (wM ad kc) A r τ) args s 0 0 A) (F0 m 40 ls [.long u0]) := by
  have hx := S.1
  have hb := S.2.1
  have hown := S.2.2.2.1
  have hu := S.2.2.2.2
  unfold f_X12_pack_b40 at hg
  refine lv_lstore (lv' := [(5, .long u0), (3, .int v3), (4, .int v4)]) hx hb dX12_pack_40 hl (by decide) rfl (fun ls hl => ?_)
  refine lv_iload_n hx hb dX12_pack_42 rfl (lv_at hl 1 rfl) ?_
  refine lv_if_ne (tgt := 51) hx hb dX12_pack_43 (by decide) (fun c43 => ?_) (fun c43 => ?_)
  · have hg := (if_neg c43).symm.trans hg
    refine lv_lload hx hb dX12_pack_51 (lv_at hl 0 rfl) ?_
    refine lv_bipush (v := 8) hx hb dX12_pack_53 (by decide) ?_
    refine lv_lshl (v := (j_lshl u0 8)) hx hb dX12_pack_55 rfl ?_
    refine lv_iload_n hx hb dX12_pack_56 rfl (lv_at hl 1 rfl) ?_
    refine lv_i2l (v := ((v3).toInt64)) hx hb dX12_pack_57 rfl ?_
    refine lv_lor hx hb dX12_pack_58 ?_
    exact w_X12_pack_b59 S hr hk hR X (lv_sub hl [2] rfl) hg
  · have hg := (if_pos c43).symm.trans hg
    refine lv_lload hx hb dX12_pack_46 (lv_at hl 0 rfl) ?_
    refine lv_goto (tgt := 59) hx hb dX12_pack_48 (by decide) ?_
    exact w_X12_pack_b59 S hr hk hR X (lv_sub hl [2] rfl) hg
set_option maxHeartbeats 4000000 in
set_option maxRecDepth 100000 in
theorem w_X12_pack_b21 {σ : S5} {v2 : Int32} {v3 : Int32} {v4 : Int32} {u0 : Int64} {H : Heap} {locs : List Loc} {ls : Array Slot} (S : CallFix p m c cX12_pack 7 s args uG RX12) (hr : meth.sig.returnType = (some .long)) (hk : meth.locks = false) (hR : 0 ≤ R.frames ∧ 0 ≤ R.locals)
    (X : gX (dC, dI) (tM kc) (wM ad kc) Z A s σ H locs) (hl : lv_has ls 7 [(2, .int v2), (3, .int v3), (4, .int v4)]) (hg : f_X12_pack_b21 v2 v3 v4 u0 σ = some (r, τ)) : W p l e R s m args below meth c H locs 0 0 (MQ below (gQl (dC, dI) (tM kc) (wM ad kc) A r τ) args s 0 0 A) (F0 m 21 ls [.long u0]) := by
  have hx := S.1
  have hb := S.2.1
  have hown := S.2.2.2.1
  have hu := S.2.2.2.2
  unfold f_X12_pack_b21 at hg
  refine lv_lstore (lv' := [(5, .long u0), (2, .int v2), (3, .int v3), (4, .int v4)]) hx hb dX12_pack_21 hl (by decide) rfl (fun ls hl => ?_)
  refine lv_iload_n hx hb dX12_pack_23 rfl (lv_at hl 1 rfl) ?_
  refine lv_if_ne (tgt := 32) hx hb dX12_pack_24 (by decide) (fun c24 => ?_) (fun c24 => ?_)
  · have hg := (if_neg c24).symm.trans hg
    refine lv_lload hx hb dX12_pack_32 (lv_at hl 0 rfl) ?_
    refine lv_bipush (v := 8) hx hb dX12_pack_34 (by decide) ?_
    refine lv_lshl (v := (j_lshl u0 8)) hx hb dX12_pack_36 rfl ?_
    refine lv_iload_n hx hb dX12_pack_37 rfl (lv_at hl 1 rfl) ?_
    refine lv_i2l (v := ((v2).toInt64)) hx hb dX12_pack_38 rfl ?_
    refine lv_lor hx hb dX12_pack_39 ?_
    exact w_X12_pack_b40 S hr hk hR X (lv_sub hl [2, 3] rfl) hg
  · have hg := (if_pos c24).symm.trans hg
    refine lv_lload hx hb dX12_pack_27 (lv_at hl 0 rfl) ?_
    refine lv_goto (tgt := 40) hx hb dX12_pack_29 (by decide) ?_
    exact w_X12_pack_b40 S hr hk hR X (lv_sub hl [2, 3] rfl) hg
set_option maxHeartbeats 4000000 in
set_option maxRecDepth 100000 in
theorem w_X12_pack {σ : S5} {a0 : Int32} {a1 : Int32} {a2 : Int32} {a3 : Int32} {a4 : Int32} {H : Heap} {locs : List Loc} {ls : Array Slot} (S : CallFix p m c cX12_pack 7 s args uG RX12) (hr : meth.sig.returnType = (some .long)) (hk : meth.locks = false) (hR : 0 ≤ R.frames ∧ 0 ≤ R.locals)
    (X : gX (dC, dI) (tM kc) (wM ad kc) Z A s σ H locs) (hl : lv_has ls 7 [(0, .int a0), (1, .int a1), (2, .int a2), (3, .int a3), (4, .int a4)]) (hg : f_X12_pack a0 a1 a2 a3 a4 σ = some (r, τ)) : W p l e R s m args below meth c H locs 0 0 (MQ below (gQl (dC, dI) (tM kc) (wM ad kc) A r τ) args s 0 0 A) (F0 m 0 ls []) := by
  have hx := S.1
  have hb := S.2.1
  have hown := S.2.2.2.1
  have hu := S.2.2.2.2
  unfold f_X12_pack at hg
  refine lv_iload_n hx hb dX12_pack_0 rfl (lv_at hl 0 rfl) ?_
  refine lv_i2l (v := ((a0).toInt64)) hx hb dX12_pack_1 rfl ?_
  refine lv_lstore (lv' := [(5, .long ((a0).toInt64)), (0, .int a0), (1, .int a1), (2, .int a2), (3, .int a3), (4, .int a4)]) hx hb dX12_pack_2 hl (by decide) rfl (fun ls hl => ?_)
  refine lv_iload_n hx hb dX12_pack_4 rfl (lv_at hl 2 rfl) ?_
  refine lv_if_ne (tgt := 13) hx hb dX12_pack_5 (by decide) (fun c5 => ?_) (fun c5 => ?_)
  · have hg := (if_neg c5).symm.trans hg
    refine lv_lload hx hb dX12_pack_13 (lv_at hl 0 rfl) ?_
    refine lv_bipush (v := 8) hx hb dX12_pack_15 (by decide) ?_
    refine lv_lshl (v := (j_lshl ((a0).toInt64) 8)) hx hb dX12_pack_17 rfl ?_
    refine lv_iload_n hx hb dX12_pack_18 rfl (lv_at hl 2 rfl) ?_
    refine lv_i2l (v := ((a1).toInt64)) hx hb dX12_pack_19 rfl ?_
    refine lv_lor hx hb dX12_pack_20 ?_
    exact w_X12_pack_b21 S hr hk hR X (lv_sub hl [3, 4, 5] rfl) hg
  · have hg := (if_pos c5).symm.trans hg
    refine lv_lload hx hb dX12_pack_8 (lv_at hl 0 rfl) ?_
    refine lv_goto (tgt := 21) hx hb dX12_pack_10 (by decide) ?_
    exact w_X12_pack_b21 S hr hk hR X (lv_sub hl [3, 4, 5] rfl) hg
end MX12_pack
set_option maxRecDepth 100000 in
theorem k2_X12_pack (l : Launch) (dC : Nat → ClassId) (dI : Nat → Nat → Nat) {Z : ZZ} (ad : Nat → Nat) (kc : Nat → ClassId) {σ τ : S5} {a0 : Int32} {a1 : Int32} {a2 : Int32} {a3 : Int32} {a4 : Int32} {r : Int64} (hg : f_X12_pack a0 a1 a2 a3 a4 σ = some (r, τ)) (sz : Nat) : Met l yX12_pack (Cond.code yX12_pack cX12_pack 7 (some .long) :: uG) { frames := 0, cells := 0, slots := 0, locals := 0 } (gPc (dC, dI) (tM kc) (wM ad kc) Z [.int a0, .int a1, .int a2, .int a3, .int a4] σ sz) (gQl (dC, dI) (tM kc) (wM ad kc) (va_A (wM ad kc σ) sz) r τ) 0 0 (va_A (wM ad kc σ) sz) :=
  g_start (by decide) (Nat.le_of_ble_eq_true rfl) (fun p e s m below meth c ls S hr hk X hl => w_X12_pack S hr hk ⟨Nat.le_refl _, Nat.le_refl _⟩ X hl hg)
section MX12_keyword
variable {p : Program} {l : Launch} {e : Env} {R : Room} {s : State} {m : MethodId} {args : Array Value} {below : List Frame} {meth : Method} {c : Code} {dC : Nat → ClassId} {dI : Nat → Nat → Nat} {Z : ZZ} {A : Nat → Prop} {ad : Nat → Nat} {kc : Nat → ClassId} {r : Int32} {τ : S5}
set_option maxHeartbeats 4000000 in
set_option maxRecDepth 100000 in
theorem w_X12_keyword {σ : S5} {a0 : Int64} {H : Heap} {locs : List Loc} {ls : Array Slot} (S : CallFix p m c cX12_keyword 2 s args uG RX12) (hr : meth.sig.returnType = (some .int)) (hk : meth.locks = false) (hR : 1 ≤ R.frames ∧ 26 ≤ R.locals)
    (X : gX (dC, dI) (tM kc) (wM ad kc) Z A s σ H locs) (hl : lv_has ls 2 [(0, .long a0)]) (hg : f_X12_keyword a0 σ = some (r, τ)) : W p l e R s m args below meth c H locs 0 0 (MQ below (gQi (dC, dI) (tM kc) (wM ad kc) A r τ) args s 0 0 A) (F0 m 0 ls []) := by
  have hx := S.1
  have hb := S.2.1
  have hown := S.2.2.2.1
  have hu := S.2.2.2.2
  unfold f_X12_keyword at hg
  refine lv_lload_n hx hb dX12_keyword_0 rfl (lv_at hl 0 rfl) ?_
  refine lv_bipush (v := 100) hx hb dX12_keyword_1 (by decide) ?_
  refine lv_bipush (v := 97) hx hb dX12_keyword_3 (by decide) ?_
  refine lv_bipush (v := 116) hx hb dX12_keyword_5 (by decide) ?_
  refine lv_bipush (v := 97) hx hb dX12_keyword_7 (by decide) ?_
  refine lv_iconst (v := 0) hx hb dX12_keyword_9 (by decide) ?_
  obtain ⟨r10, τ10, hq10, hg⟩ := bd_some hg
  refine gc_Sl (As := [.int 100, .int 97, .int 116, .int 97, .int 0]) (rest := [.long a0]) S X (k2_X12_pack l dC dI ad kc hq10 H.size) cw_X12_pack mG_2476 rfl rfl hl.1 (Nat.le_of_ble_eq_true rfl) dX12_keyword_10 ⟨by omega, by omega⟩ (fun H locs X => ?_)
  refine W.lcmp hx hb dX12_keyword_13 ?_
  refine lv_if_ne (tgt := 20) hx hb dX12_keyword_14 (by decide) (fun c14 => ?_) (fun c14 => ?_)
  · have hg := (if_neg c14).symm.trans hg
    refine lv_lload_n hx hb dX12_keyword_20 rfl (lv_at hl 0 rfl) ?_
    refine lv_bipush (v := 108) hx hb dX12_keyword_21 (by decide) ?_
    refine lv_bipush (v := 101) hx hb dX12_keyword_23 (by decide) ?_
    refine lv_bipush (v := 116) hx hb dX12_keyword_25 (by decide) ?_
    refine lv_iconst (v := 0) hx hb dX12_keyword_27 (by decide) ?_
    refine lv_iconst (v := 0) hx hb dX12_keyword_28 (by decide) ?_
    obtain ⟨r29, τ29, hq29, hg⟩ := bd_some hg
    refine gc_Sl (As := [.int 108, .int 101, .int 116, .int 0, .int 0]) (rest := [.long a0]) S X (k2_X12_pack l dC dI ad kc hq29 H.size) cw_X12_pack mG_2476 rfl rfl hl.1 (Nat.le_of_ble_eq_true rfl) dX12_keyword_29 ⟨by omega, by omega⟩ (fun H locs X => ?_)
    refine W.lcmp hx hb dX12_keyword_32 ?_
    refine lv_if_ne (tgt := 39) hx hb dX12_keyword_33 (by decide) (fun c33 => ?_) (fun c33 => ?_)
    · have hg := (if_neg c33).symm.trans hg
      refine lv_lload_n hx hb dX12_keyword_39 rfl (lv_at hl 0 rfl) ?_
      refine lv_bipush (v := 105) hx hb dX12_keyword_40 (by decide) ?_
      refine lv_bipush (v := 110) hx hb dX12_keyword_42 (by decide) ?_
      refine lv_iconst (v := 0) hx hb dX12_keyword_44 (by decide) ?_
      refine lv_iconst (v := 0) hx hb dX12_keyword_45 (by decide) ?_
      refine lv_iconst (v := 0) hx hb dX12_keyword_46 (by decide) ?_
      obtain ⟨r47, τ47, hq47, hg⟩ := bd_some hg
      refine gc_Sl (As := [.int 105, .int 110, .int 0, .int 0, .int 0]) (rest := [.long a0]) S X (k2_X12_pack l dC dI ad kc hq47 H.size) cw_X12_pack mG_2476 rfl rfl hl.1 (Nat.le_of_ble_eq_true rfl) dX12_keyword_47 ⟨by omega, by omega⟩ (fun H locs X => ?_)
      refine W.lcmp hx hb dX12_keyword_50 ?_
      refine lv_if_ne (tgt := 57) hx hb dX12_keyword_51 (by decide) (fun c51 => ?_) (fun c51 => ?_)
      · have hg := (if_neg c51).symm.trans hg
        refine lv_lload_n hx hb dX12_keyword_57 rfl (lv_at hl 0 rfl) ?_
        refine lv_bipush (v := 99) hx hb dX12_keyword_58 (by decide) ?_
        refine lv_bipush (v := 97) hx hb dX12_keyword_60 (by decide) ?_
        refine lv_bipush (v := 115) hx hb dX12_keyword_62 (by decide) ?_
        refine lv_bipush (v := 101) hx hb dX12_keyword_64 (by decide) ?_
        refine lv_iconst (v := 0) hx hb dX12_keyword_66 (by decide) ?_
        obtain ⟨r67, τ67, hq67, hg⟩ := bd_some hg
        refine gc_Sl (As := [.int 99, .int 97, .int 115, .int 101, .int 0]) (rest := [.long a0]) S X (k2_X12_pack l dC dI ad kc hq67 H.size) cw_X12_pack mG_2476 rfl rfl hl.1 (Nat.le_of_ble_eq_true rfl) dX12_keyword_67 ⟨by omega, by omega⟩ (fun H locs X => ?_)
        refine W.lcmp hx hb dX12_keyword_70 ?_
        refine lv_if_ne (tgt := 77) hx hb dX12_keyword_71 (by decide) (fun c71 => ?_) (fun c71 => ?_)
        · have hg := (if_neg c71).symm.trans hg
          refine lv_lload_n hx hb dX12_keyword_77 rfl (lv_at hl 0 rfl) ?_
          refine lv_bipush (v := 111) hx hb dX12_keyword_78 (by decide) ?_
          refine lv_bipush (v := 102) hx hb dX12_keyword_80 (by decide) ?_
          refine lv_iconst (v := 0) hx hb dX12_keyword_82 (by decide) ?_
          refine lv_iconst (v := 0) hx hb dX12_keyword_83 (by decide) ?_
          refine lv_iconst (v := 0) hx hb dX12_keyword_84 (by decide) ?_
          obtain ⟨r85, τ85, hq85, hg⟩ := bd_some hg
          refine gc_Sl (As := [.int 111, .int 102, .int 0, .int 0, .int 0]) (rest := [.long a0]) S X (k2_X12_pack l dC dI ad kc hq85 H.size) cw_X12_pack mG_2476 rfl rfl hl.1 (Nat.le_of_ble_eq_true rfl) dX12_keyword_85 ⟨by omega, by omega⟩ (fun H locs X => ?_)
          refine W.lcmp hx hb dX12_keyword_88 ?_
          refine lv_if_ne (tgt := 95) hx hb dX12_keyword_89 (by decide) (fun c89 => ?_) (fun c89 => ?_)
          · have hg := (if_neg c89).symm.trans hg
            refine lv_lload_n hx hb dX12_keyword_95 rfl (lv_at hl 0 rfl) ?_
            refine lv_bipush (v := 102) hx hb dX12_keyword_96 (by decide) ?_
            refine lv_bipush (v := 97) hx hb dX12_keyword_98 (by decide) ?_
            refine lv_bipush (v := 105) hx hb dX12_keyword_100 (by decide) ?_
            refine lv_bipush (v := 108) hx hb dX12_keyword_102 (by decide) ?_
            refine lv_iconst (v := 0) hx hb dX12_keyword_104 (by decide) ?_
            obtain ⟨r105, τ105, hq105, hg⟩ := bd_some hg
            refine gc_Sl (As := [.int 102, .int 97, .int 105, .int 108, .int 0]) (rest := [.long a0]) S X (k2_X12_pack l dC dI ad kc hq105 H.size) cw_X12_pack mG_2476 rfl rfl hl.1 (Nat.le_of_ble_eq_true rfl) dX12_keyword_105 ⟨by omega, by omega⟩ (fun H locs X => ?_)
            refine W.lcmp hx hb dX12_keyword_108 ?_
            refine lv_if_ne (tgt := 117) hx hb dX12_keyword_109 (by decide) (fun c109 => ?_) (fun c109 => ?_)
            · have hg := (if_neg c109).symm.trans hg
              refine lv_iconst (v := 3) hx hb dX12_keyword_117 (by decide) ?_
              obtain ⟨rfl, rfl⟩ := fin_some hg
              exact gr_i S hr hk X dX12_keyword_118
            · have hg := (if_pos c109).symm.trans hg
              refine lv_bipush (v := 15) hx hb dX12_keyword_112 (by decide) ?_
              refine lv_goto (tgt := 118) hx hb dX12_keyword_114 (by decide) ?_
              obtain ⟨rfl, rfl⟩ := fin_some hg
              exact gr_i S hr hk X dX12_keyword_118
          · have hg := (if_pos c89).symm.trans hg
            refine lv_bipush (v := 14) hx hb dX12_keyword_92 (by decide) ?_
            obtain ⟨rfl, rfl⟩ := fin_some hg
            exact gr_i S hr hk X dX12_keyword_94
        · have hg := (if_pos c71).symm.trans hg
          refine lv_bipush (v := 13) hx hb dX12_keyword_74 (by decide) ?_
          obtain ⟨rfl, rfl⟩ := fin_some hg
          exact gr_i S hr hk X dX12_keyword_76
      · have hg := (if_pos c51).symm.trans hg
        refine lv_bipush (v := 12) hx hb dX12_keyword_54 (by decide) ?_
        obtain ⟨rfl, rfl⟩ := fin_some hg
        exact gr_i S hr hk X dX12_keyword_56
    · have hg := (if_pos c33).symm.trans hg
      refine lv_bipush (v := 11) hx hb dX12_keyword_36 (by decide) ?_
      obtain ⟨rfl, rfl⟩ := fin_some hg
      exact gr_i S hr hk X dX12_keyword_38
  · have hg := (if_pos c14).symm.trans hg
    refine lv_bipush (v := 10) hx hb dX12_keyword_17 (by decide) ?_
    obtain ⟨rfl, rfl⟩ := fin_some hg
    exact gr_i S hr hk X dX12_keyword_19
end MX12_keyword
set_option maxRecDepth 100000 in
theorem k2_X12_keyword (l : Launch) (dC : Nat → ClassId) (dI : Nat → Nat → Nat) {Z : ZZ} (ad : Nat → Nat) (kc : Nat → ClassId) {σ τ : S5} {a0 : Int64} {r : Int32} (hg : f_X12_keyword a0 σ = some (r, τ)) (sz : Nat) : Met l yX12_keyword (Cond.code yX12_keyword cX12_keyword 2 (some .int) :: uG) { frames := 1, cells := 0, slots := 0, locals := 26 } (gPc (dC, dI) (tM kc) (wM ad kc) Z [.long a0] σ sz) (gQi (dC, dI) (tM kc) (wM ad kc) (va_A (wM ad kc σ) sz) r τ) 0 0 (va_A (wM ad kc σ) sz) :=
  g_start (by decide) (Nat.le_of_ble_eq_true rfl) (fun p e s m below meth c ls S hr hk X hl => w_X12_keyword S hr hk ⟨Nat.le_refl _, Nat.le_refl _⟩ X hl hg)
section MX12_passBlanks
variable {p : Program} {l : Launch} {e : Env} {R : Room} {s : State} {m : MethodId} {args : Array Value} {below : List Frame} {meth : Method} {c : Code} {dC : Nat → ClassId} {dI : Nat → Nat → Nat} {Z : ZZ} {A : Nat → Prop} {ad : Nat → Nat} {kc : Nat → ClassId} {r : Unit} {τ : S5}
set_option maxHeartbeats 4000000 in
set_option maxRecDepth 100000 in
theorem w_X12_passBlanks_b93 {σ : S5} {rec2 : Int32 → S5 → Option (Unit × S5)} {v1 : Int32} {H : Heap} {locs : List Loc} {ls : Array Slot} (S : CallFix p m c cX12_passBlanks 2 s args uG RX12) (hr : meth.sig.returnType = none) (hk : meth.locks = false) (hR : 1 ≤ R.frames ∧ 21 ≤ R.locals)
    (hrec2 : ∀ (v1 : Int32) (σ : S5) (H : Heap) (locs : List Loc) (ls : Array Slot), gX (dC, dI) (tM kc) (wM ad kc) Z A s σ H locs → lv_has ls 2 [(0, .ref (ad 0)), (1, .int v1)] → rec2 v1 σ = some (r, τ) → W p l e R s m args below meth c H locs 0 0 (MQ below (gQv (dC, dI) (tM kc) (wM ad kc) A r τ) args s 0 0 A) (F0 m 2 ls []))
    (X : gX (dC, dI) (tM kc) (wM ad kc) Z A s σ H locs) (hl : lv_has ls 2 [(0, .ref (ad 0)), (1, .int v1)]) (hg : f_X12_passBlanks_b93 rec2 v1 σ = some (r, τ)) : W p l e R s m args below meth c H locs 0 0 (MQ below (gQv (dC, dI) (tM kc) (wM ad kc) A r τ) args s 0 0 A) (F0 m 93 ls []) := by
  have hx := S.1
  have hb := S.2.1
  have hown := S.2.2.2.1
  have hu := S.2.2.2.2
  unfold f_X12_passBlanks_b93 at hg
  refine lv_aload_n hx hb dX12_passBlanks_93 rfl (lv_at hl 0 rfl) ?_
  refine lv_dup hx hb dX12_passBlanks_94 rfl ?_
  refine wmgI_3 (v := (gI σ 3)) S X mG_2055 rfl dX12_passBlanks_95 ?_
  refine lv_iconst (v := 1) hx hb dX12_passBlanks_98 (by decide) ?_
  refine lv_iadd hx hb dX12_passBlanks_99 ?_
  refine wmpI_3 S X mG_2055 dX12_passBlanks_100 (fun H locs X => ?_)
  refine lv_goto (tgt := 2) hx hb dX12_passBlanks_103 (by decide) ?_
  exact hrec2 _ _ _ _ _ X (lv_sub hl [0, 1] rfl) hg
set_option maxHeartbeats 4000000 in
set_option maxRecDepth 100000 in
theorem w_X12_passBlanks_B30 {σ : S5} {rec2 : Int32 → S5 → Option (Unit × S5)} {rec30 : Int32 → S5 → Option (Unit × S5)} {v1 : Int32} {H : Heap} {locs : List Loc} {ls : Array Slot} (S : CallFix p m c cX12_passBlanks 2 s args uG RX12) (hr : meth.sig.returnType = none) (hk : meth.locks = false) (hR : 1 ≤ R.frames ∧ 21 ≤ R.locals)
    (hrec2 : ∀ (v1 : Int32) (σ : S5) (H : Heap) (locs : List Loc) (ls : Array Slot), gX (dC, dI) (tM kc) (wM ad kc) Z A s σ H locs → lv_has ls 2 [(0, .ref (ad 0)), (1, .int v1)] → rec2 v1 σ = some (r, τ) → W p l e R s m args below meth c H locs 0 0 (MQ below (gQv (dC, dI) (tM kc) (wM ad kc) A r τ) args s 0 0 A) (F0 m 2 ls []))
    (hrec30 : ∀ (v1 : Int32) (σ : S5) (H : Heap) (locs : List Loc) (ls : Array Slot), gX (dC, dI) (tM kc) (wM ad kc) Z A s σ H locs → lv_has ls 2 [(0, .ref (ad 0)), (1, .int v1)] → rec30 v1 σ = some (r, τ) → W p l e R s m args below meth c H locs 0 0 (MQ below (gQv (dC, dI) (tM kc) (wM ad kc) A r τ) args s 0 0 A) (F0 m 30 ls []))
    (X : gX (dC, dI) (tM kc) (wM ad kc) Z A s σ H locs) (hl : lv_has ls 2 [(0, .ref (ad 0)), (1, .int v1)]) (hg : f_X12_passBlanks_B30 rec2 rec30 v1 σ = some (r, τ)) : W p l e R s m args below meth c H locs 0 0 (MQ below (gQv (dC, dI) (tM kc) (wM ad kc) A r τ) args s 0 0 A) (F0 m 30 ls []) := by
  have hx := S.1
  have hb := S.2.1
  have hown := S.2.2.2.1
  have hu := S.2.2.2.2
  unfold f_X12_passBlanks_B30 at hg
  refine lv_aload_n hx hb dX12_passBlanks_30 rfl (lv_at hl 0 rfl) ?_
  refine wmgI_3 (v := (gI σ 3)) S X mG_2055 rfl dX12_passBlanks_31 ?_
  refine lv_aload_n hx hb dX12_passBlanks_34 rfl (lv_at hl 0 rfl) ?_
  refine wmgI_1 (v := (gI σ 1)) S X mG_2052 rfl dX12_passBlanks_35 ?_
  refine lv_icmp_ge (tgt := 2) hx hb dX12_passBlanks_38 (by decide) (fun c38 => ?_) (fun c38 => ?_)
  · have hg := (if_pos c38).symm.trans hg
    exact hrec2 _ _ _ _ _ X (lv_sub hl [0, 1] rfl) hg
  · have hg := (if_neg c38).symm.trans hg
    refine lv_aload_n hx hb dX12_passBlanks_41 rfl (lv_at hl 0 rfl) ?_
    refine lv_aload_n hx hb dX12_passBlanks_42 rfl (lv_at hl 0 rfl) ?_
    refine wmgI_3 (v := (gI σ 3)) S X mG_2055 rfl dX12_passBlanks_43 ?_
    obtain ⟨r46, τ46, hq46, hg⟩ := bd_some hg
    refine gc_Vi (As := [.int (gI σ 3)]) (rest := []) (q0 := 0) (ci := 15) S X (k2_X12_sign l dC dI ad kc hq46 H.size) cw_X12_sign mG_2487 rfl rfl rfl rfl rfl hl.1 (Nat.le_of_ble_eq_true rfl) dX12_passBlanks_46 ⟨by omega, by omega⟩ (fun H locs X => ?_)
    refine lv_bipush (v := 10) hx hb dX12_passBlanks_49 (by decide) ?_
    refine lv_icmp_eq (tgt := 2) hx hb dX12_passBlanks_51 (by decide) (fun c51 => ?_) (fun c51 => ?_)
    · have hg := (if_pos c51).symm.trans hg
      exact hrec2 _ _ _ _ _ X (lv_sub hl [0, 1] rfl) hg
    · have hg := (if_neg c51).symm.trans hg
      refine lv_aload_n hx hb dX12_passBlanks_54 rfl (lv_at hl 0 rfl) ?_
      refine lv_dup hx hb dX12_passBlanks_55 rfl ?_
      refine wmgI_3 (v := (gI τ46 3)) S X mG_2055 rfl dX12_passBlanks_56 ?_
      refine lv_iconst (v := 1) hx hb dX12_passBlanks_59 (by decide) ?_
      refine lv_iadd hx hb dX12_passBlanks_60 ?_
      refine wmpI_3 S X mG_2055 dX12_passBlanks_61 (fun H locs X => ?_)
      refine lv_goto (tgt := 30) hx hb dX12_passBlanks_64 (by decide) ?_
      exact hrec30 _ _ _ _ _ X (lv_sub hl [0, 1] rfl) hg
set_option maxHeartbeats 4000000 in
set_option maxRecDepth 100000 in
theorem w_X12_passBlanks_L30 {rec2 : Int32 → S5 → Option (Unit × S5)} (S : CallFix p m c cX12_passBlanks 2 s args uG RX12) (hr : meth.sig.returnType = none) (hk : meth.locks = false) (hR : 1 ≤ R.frames ∧ 21 ≤ R.locals)
    (hrec2 : ∀ (v1 : Int32) (σ : S5) (H : Heap) (locs : List Loc) (ls : Array Slot), gX (dC, dI) (tM kc) (wM ad kc) Z A s σ H locs → lv_has ls 2 [(0, .ref (ad 0)), (1, .int v1)] → rec2 v1 σ = some (r, τ) → W p l e R s m args below meth c H locs 0 0 (MQ below (gQv (dC, dI) (tM kc) (wM ad kc) A r τ) args s 0 0 A) (F0 m 2 ls [])) : ∀ (n : Nat) (v1 : Int32) (σ : S5) (H : Heap) (locs : List Loc) (ls : Array Slot), gX (dC, dI) (tM kc) (wM ad kc) Z A s σ H locs → lv_has ls 2 [(0, .ref (ad 0)), (1, .int v1)] → f_X12_passBlanks_L30 rec2 n v1 σ = some (r, τ) → W p l e R s m args below meth c H locs 0 0 (MQ below (gQv (dC, dI) (tM kc) (wM ad kc) A r τ) args s 0 0 A) (F0 m 30 ls []) := by
  intro n
  induction n with
  | zero => intro v1 σ H locs ls X hl hg; cases hg
  | succ n ih => intro v1 σ H locs ls X hl hg; exact w_X12_passBlanks_B30 S hr hk hR hrec2 ih X hl hg
set_option maxHeartbeats 4000000 in
set_option maxRecDepth 100000 in
theorem w_X12_passBlanks_B2 {σ : S5} {rec2 : Int32 → S5 → Option (Unit × S5)} {v1 : Int32} {H : Heap} {locs : List Loc} {ls : Array Slot} (S : CallFix p m c cX12_passBlanks 2 s args uG RX12) (hr : meth.sig.returnType = none) (hk : meth.locks = false) (hR : 1 ≤ R.frames ∧ 21 ≤ R.locals)
    (hrec2 : ∀ (v1 : Int32) (σ : S5) (H : Heap) (locs : List Loc) (ls : Array Slot), gX (dC, dI) (tM kc) (wM ad kc) Z A s σ H locs → lv_has ls 2 [(0, .ref (ad 0)), (1, .int v1)] → rec2 v1 σ = some (r, τ) → W p l e R s m args below meth c H locs 0 0 (MQ below (gQv (dC, dI) (tM kc) (wM ad kc) A r τ) args s 0 0 A) (F0 m 2 ls []))
    (X : gX (dC, dI) (tM kc) (wM ad kc) Z A s σ H locs) (hl : lv_has ls 2 [(0, .ref (ad 0)), (1, .int v1)]) (hg : f_X12_passBlanks_B2 rec2 v1 σ = some (r, τ)) : W p l e R s m args below meth c H locs 0 0 (MQ below (gQv (dC, dI) (tM kc) (wM ad kc) A r τ) args s 0 0 A) (F0 m 2 ls []) := by
  have hx := S.1
  have hb := S.2.1
  have hown := S.2.2.2.1
  have hu := S.2.2.2.2
  unfold f_X12_passBlanks_B2 at hg
  refine lv_iload_n hx hb dX12_passBlanks_2 rfl (lv_at hl 1 rfl) ?_
  refine lv_if_eq (tgt := 111) hx hb dX12_passBlanks_3 (by decide) (fun c3 => ?_) (fun c3 => ?_)
  · have hg := (if_pos c3).symm.trans hg
    obtain ⟨-, rfl⟩ := fin_some hg
    exact gr_v S hr hk X dX12_passBlanks_111
  · have hg := (if_neg c3).symm.trans hg
    refine lv_aload_n hx hb dX12_passBlanks_6 rfl (lv_at hl 0 rfl) ?_
    refine wmgI_3 (v := (gI σ 3)) S X mG_2055 rfl dX12_passBlanks_7 ?_
    refine lv_aload_n hx hb dX12_passBlanks_10 rfl (lv_at hl 0 rfl) ?_
    refine wmgI_1 (v := (gI σ 1)) S X mG_2052 rfl dX12_passBlanks_11 ?_
    refine lv_icmp_ge (tgt := 111) hx hb dX12_passBlanks_14 (by decide) (fun c14 => ?_) (fun c14 => ?_)
    · have hg := (if_pos c14).symm.trans hg
      obtain ⟨-, rfl⟩ := fin_some hg
      exact gr_v S hr hk X dX12_passBlanks_111
    · have hg := (if_neg c14).symm.trans hg
      refine lv_aload_n hx hb dX12_passBlanks_17 rfl (lv_at hl 0 rfl) ?_
      refine lv_aload_n hx hb dX12_passBlanks_18 rfl (lv_at hl 0 rfl) ?_
      refine wmgI_3 (v := (gI σ 3)) S X mG_2055 rfl dX12_passBlanks_19 ?_
      obtain ⟨r22, τ22, hq22, hg⟩ := bd_some hg
      refine gc_Vi (As := [.int (gI σ 3)]) (rest := []) (q0 := 0) (ci := 15) S X (k2_X12_sign l dC dI ad kc hq22 H.size) cw_X12_sign mG_2487 rfl rfl rfl rfl rfl hl.1 (Nat.le_of_ble_eq_true rfl) dX12_passBlanks_22 ⟨by omega, by omega⟩ (fun H locs X => ?_)
      refine lv_bipush (v := 35) hx hb dX12_passBlanks_25 (by decide) ?_
      refine lv_icmp_ne (tgt := 67) hx hb dX12_passBlanks_27 (by decide) (fun c27 => ?_) (fun c27 => ?_)
      · have hg := (if_neg c27).symm.trans hg
        refine lv_aload_n hx hb dX12_passBlanks_67 rfl (lv_at hl 0 rfl) ?_
        refine lv_aload_n hx hb dX12_passBlanks_68 rfl (lv_at hl 0 rfl) ?_
        refine wmgI_3 (v := (gI τ22 3)) S X mG_2055 rfl dX12_passBlanks_69 ?_
        obtain ⟨r72, τ72, hq72, hg⟩ := bd_some hg
        refine gc_Vi (As := [.int (gI τ22 3)]) (rest := []) (q0 := 0) (ci := 15) S X (k2_X12_sign l dC dI ad kc hq72 H.size) cw_X12_sign mG_2487 rfl rfl rfl rfl rfl hl.1 (Nat.le_of_ble_eq_true rfl) dX12_passBlanks_72 ⟨by omega, by omega⟩ (fun H locs X => ?_)
        refine lv_bipush (v := 32) hx hb dX12_passBlanks_75 (by decide) ?_
        refine lv_icmp_eq (tgt := 93) hx hb dX12_passBlanks_77 (by decide) (fun c77 => ?_) (fun c77 => ?_)
        · have hg := (if_pos c77).symm.trans hg
          exact w_X12_passBlanks_b93 S hr hk hR hrec2 X (lv_sub hl [0, 1] rfl) hg
        · have hg := (if_neg c77).symm.trans hg
          refine lv_aload_n hx hb dX12_passBlanks_80 rfl (lv_at hl 0 rfl) ?_
          refine lv_aload_n hx hb dX12_passBlanks_81 rfl (lv_at hl 0 rfl) ?_
          refine wmgI_3 (v := (gI τ72 3)) S X mG_2055 rfl dX12_passBlanks_82 ?_
          obtain ⟨r85, τ85, hq85, hg⟩ := bd_some hg
          refine gc_Vi (As := [.int (gI τ72 3)]) (rest := []) (q0 := 0) (ci := 15) S X (k2_X12_sign l dC dI ad kc hq85 H.size) cw_X12_sign mG_2487 rfl rfl rfl rfl rfl hl.1 (Nat.le_of_ble_eq_true rfl) dX12_passBlanks_85 ⟨by omega, by omega⟩ (fun H locs X => ?_)
          refine lv_bipush (v := 10) hx hb dX12_passBlanks_88 (by decide) ?_
          refine lv_icmp_ne (tgt := 106) hx hb dX12_passBlanks_90 (by decide) (fun c90 => ?_) (fun c90 => ?_)
          · have hg := (if_neg c90).symm.trans hg
            refine lv_iconst (v := 0) hx hb dX12_passBlanks_106 (by decide) ?_
            refine lv_istore_n (lv' := [(1, .int 0), (0, .ref (ad 0))]) hx hb dX12_passBlanks_107 rfl hl (by decide) rfl (fun ls hl => ?_)
            refine lv_goto (tgt := 2) hx hb dX12_passBlanks_108 (by decide) ?_
            exact hrec2 _ _ _ _ _ X (lv_sub hl [1, 0] rfl) hg
          · have hg := (if_pos c90).symm.trans hg
            exact w_X12_passBlanks_b93 S hr hk hR hrec2 X (lv_sub hl [0, 1] rfl) hg
      · have hg := (if_pos c27).symm.trans hg
        exact w_X12_passBlanks_L30 S hr hk hR hrec2 _ _ _ _ _ _ X (lv_sub hl [0, 1] rfl) hg
set_option maxHeartbeats 4000000 in
set_option maxRecDepth 100000 in
theorem w_X12_passBlanks_L2 (S : CallFix p m c cX12_passBlanks 2 s args uG RX12) (hr : meth.sig.returnType = none) (hk : meth.locks = false) (hR : 1 ≤ R.frames ∧ 21 ≤ R.locals) : ∀ (n : Nat) (v1 : Int32) (σ : S5) (H : Heap) (locs : List Loc) (ls : Array Slot), gX (dC, dI) (tM kc) (wM ad kc) Z A s σ H locs → lv_has ls 2 [(0, .ref (ad 0)), (1, .int v1)] → f_X12_passBlanks_L2  n v1 σ = some (r, τ) → W p l e R s m args below meth c H locs 0 0 (MQ below (gQv (dC, dI) (tM kc) (wM ad kc) A r τ) args s 0 0 A) (F0 m 2 ls []) := by
  intro n
  induction n with
  | zero => intro v1 σ H locs ls X hl hg; cases hg
  | succ n ih => intro v1 σ H locs ls X hl hg; exact w_X12_passBlanks_B2 S hr hk hR ih X hl hg
set_option maxHeartbeats 4000000 in
set_option maxRecDepth 100000 in
theorem w_X12_passBlanks {σ : S5}  {H : Heap} {locs : List Loc} {ls : Array Slot} (S : CallFix p m c cX12_passBlanks 2 s args uG RX12) (hr : meth.sig.returnType = none) (hk : meth.locks = false) (hR : 1 ≤ R.frames ∧ 21 ≤ R.locals)
    (X : gX (dC, dI) (tM kc) (wM ad kc) Z A s σ H locs) (hl : lv_has ls 2 [(0, .ref (ad 0))]) (hg : f_X12_passBlanks  σ = some (r, τ)) : W p l e R s m args below meth c H locs 0 0 (MQ below (gQv (dC, dI) (tM kc) (wM ad kc) A r τ) args s 0 0 A) (F0 m 0 ls []) := by
  have hx := S.1
  have hb := S.2.1
  have hown := S.2.2.2.1
  have hu := S.2.2.2.2
  unfold f_X12_passBlanks at hg
  refine lv_iconst (v := 1) hx hb dX12_passBlanks_0 (by decide) ?_
  refine lv_istore_n (lv' := [(1, .int 1), (0, .ref (ad 0))]) hx hb dX12_passBlanks_1 rfl hl (by decide) rfl (fun ls hl => ?_)
  exact w_X12_passBlanks_L2 S hr hk hR _ _ _ _ _ _ X (lv_sub hl [1, 0] rfl) hg
end MX12_passBlanks
set_option maxRecDepth 100000 in
theorem k2_X12_passBlanks (l : Launch) (dC : Nat → ClassId) (dI : Nat → Nat → Nat) {Z : ZZ} (ad : Nat → Nat) (kc : Nat → ClassId) {σ τ : S5}  {r : Unit} (hg : f_X12_passBlanks  σ = some (r, τ)) (sz : Nat) : Met l yX12_passBlanks (Cond.code yX12_passBlanks cX12_passBlanks 2 none :: uG) { frames := 1, cells := 0, slots := 0, locals := 21 } (gPc (dC, dI) (tM kc) (wM ad kc) Z [.ref (ad 0)] σ sz) (gQv (dC, dI) (tM kc) (wM ad kc) (va_A (wM ad kc σ) sz) r τ) 0 0 (va_A (wM ad kc σ) sz) :=
  g_start (by decide) (Nat.le_of_ble_eq_true rfl) (fun p e s m below meth c ls S hr hk X hl => w_X12_passBlanks S hr hk ⟨Nat.le_refl _, Nat.le_refl _⟩ X hl hg)
section MX12_readName
variable {p : Program} {l : Launch} {e : Env} {R : Room} {s : State} {m : MethodId} {args : Array Value} {below : List Frame} {meth : Method} {c : Code} {dC : Nat → ClassId} {dI : Nat → Nat → Nat} {Z : ZZ} {A : Nat → Prop} {ad : Nat → Nat} {kc : Nat → ClassId} {r : Unit} {τ : S5}
set_option maxHeartbeats 4000000 in
set_option maxRecDepth 100000 in
theorem w_X12_readName_b123 {σ : S5} {u0 : Int32} {H : Heap} {locs : List Loc} {ls : Array Slot} (S : CallFix p m c cX12_readName 4 s args uG RX12) (hr : meth.sig.returnType = none) (hk : meth.locks = false) (hR : 2 ≤ R.frames ∧ 47 ≤ R.locals)
    (X : gX (dC, dI) (tM kc) (wM ad kc) Z A s σ H locs) (hl : lv_has ls 4 []) (hg : f_X12_readName_b123 u0 σ = some (r, τ)) : W p l e R s m args below meth c H locs 0 0 (MQ below (gQv (dC, dI) (tM kc) (wM ad kc) A r τ) args s 0 0 A) (F0 m 123 ls [.int u0, .ref (ad 0)]) := by
  have hx := S.1
  have hb := S.2.1
  have hown := S.2.2.2.1
  have hu := S.2.2.2.2
  unfold f_X12_readName_b123 at hg
  refine wmpI_4 S X mG_2056 dX12_readName_123 (fun H locs X => ?_)
  obtain ⟨-, rfl⟩ := fin_some hg
  exact gr_v S hr hk X dX12_readName_126
set_option maxHeartbeats 4000000 in
set_option maxRecDepth 100000 in
theorem w_X12_readName_b73 {σ : S5} {rec2 : Int32 → Int64 → S5 → Option (Unit × S5)} {v1 : Int32} {u0 : Int64} {H : Heap} {locs : List Loc} {ls : Array Slot} (S : CallFix p m c cX12_readName 4 s args uG RX12) (hr : meth.sig.returnType = none) (hk : meth.locks = false) (hR : 2 ≤ R.frames ∧ 47 ≤ R.locals)
    (hrec2 : ∀ (v1 : Int32) (v2 : Int64) (σ : S5) (H : Heap) (locs : List Loc) (ls : Array Slot), gX (dC, dI) (tM kc) (wM ad kc) Z A s σ H locs → lv_has ls 4 [(0, .ref (ad 0)), (1, .int v1), (2, .long v2)] → rec2 v1 v2 σ = some (r, τ) → W p l e R s m args below meth c H locs 0 0 (MQ below (gQv (dC, dI) (tM kc) (wM ad kc) A r τ) args s 0 0 A) (F0 m 2 ls []))
    (X : gX (dC, dI) (tM kc) (wM ad kc) Z A s σ H locs) (hl : lv_has ls 4 [(0, .ref (ad 0)), (1, .int v1)]) (hg : f_X12_readName_b73 rec2 v1 u0 σ = some (r, τ)) : W p l e R s m args below meth c H locs 0 0 (MQ below (gQv (dC, dI) (tM kc) (wM ad kc) A r τ) args s 0 0 A) (F0 m 73 ls [.long u0]) := by
  have hx := S.1
  have hb := S.2.1
  have hown := S.2.2.2.1
  have hu := S.2.2.2.2
  unfold f_X12_readName_b73 at hg
  refine lv_lstore_n (lv' := [(2, .long u0), (0, .ref (ad 0)), (1, .int v1)]) hx hb dX12_readName_73 rfl hl (by decide) rfl (fun ls hl => ?_)
  refine lv_aload_n hx hb dX12_readName_74 rfl (lv_at hl 1 rfl) ?_
  refine lv_dup hx hb dX12_readName_75 rfl ?_
  refine wmgI_3 (v := (gI σ 3)) S X mG_2055 rfl dX12_readName_76 ?_
  refine lv_iconst (v := 1) hx hb dX12_readName_79 (by decide) ?_
  refine lv_iadd hx hb dX12_readName_80 ?_
  refine wmpI_3 S X mG_2055 dX12_readName_81 (fun H locs X => ?_)
  refine lv_goto (tgt := 2) hx hb dX12_readName_84 (by decide) ?_
  exact hrec2 _ _ _ _ _ _ X (lv_sub hl [1, 2, 0] rfl) hg
set_option maxHeartbeats 4000000 in
set_option maxRecDepth 100000 in
theorem w_X12_readName_b41 {σ : S5} {rec2 : Int32 → Int64 → S5 → Option (Unit × S5)} {v1 : Int32} {v2 : Int64} {H : Heap} {locs : List Loc} {ls : Array Slot} (S : CallFix p m c cX12_readName 4 s args uG RX12) (hr : meth.sig.returnType = none) (hk : meth.locks = false) (hR : 2 ≤ R.frames ∧ 47 ≤ R.locals)
    (hrec2 : ∀ (v1 : Int32) (v2 : Int64) (σ : S5) (H : Heap) (locs : List Loc) (ls : Array Slot), gX (dC, dI) (tM kc) (wM ad kc) Z A s σ H locs → lv_has ls 4 [(0, .ref (ad 0)), (1, .int v1), (2, .long v2)] → rec2 v1 v2 σ = some (r, τ) → W p l e R s m args below meth c H locs 0 0 (MQ below (gQv (dC, dI) (tM kc) (wM ad kc) A r τ) args s 0 0 A) (F0 m 2 ls []))
    (X : gX (dC, dI) (tM kc) (wM ad kc) Z A s σ H locs) (hl : lv_has ls 4 [(0, .ref (ad 0)), (1, .int v1), (2, .long v2)]) (hg : f_X12_readName_b41 rec2 v1 v2 σ = some (r, τ)) : W p l e R s m args below meth c H locs 0 0 (MQ below (gQv (dC, dI) (tM kc) (wM ad kc) A r τ) args s 0 0 A) (F0 m 41 ls []) := by
  have hx := S.1
  have hb := S.2.1
  have hown := S.2.2.2.1
  have hu := S.2.2.2.2
  unfold f_X12_readName_b41 at hg
  refine lv_aload_n hx hb dX12_readName_41 rfl (lv_at hl 0 rfl) ?_
  refine wmgI_3 (v := (gI σ 3)) S X mG_2055 rfl dX12_readName_42 ?_
  refine lv_aload_n hx hb dX12_readName_45 rfl (lv_at hl 0 rfl) ?_
  refine wmgI_5 (v := (gI σ 5)) S X mG_2057 rfl dX12_readName_46 ?_
  refine lv_isub hx hb dX12_readName_49 ?_
  refine lv_bipush (v := 8) hx hb dX12_readName_50 (by decide) ?_
  refine lv_icmp_ge (tgt := 72) hx hb dX12_readName_52 (by decide) (fun c52 => ?_) (fun c52 => ?_)
  · have hg := (if_pos c52).symm.trans hg
    refine lv_lload_n hx hb dX12_readName_72 rfl (lv_at hl 2 rfl) ?_
    exact w_X12_readName_b73 S hr hk hR hrec2 X (lv_sub hl [0, 1] rfl) hg
  · have hg := (if_neg c52).symm.trans hg
    refine lv_lload_n hx hb dX12_readName_55 rfl (lv_at hl 2 rfl) ?_
    refine lv_bipush (v := 8) hx hb dX12_readName_56 (by decide) ?_
    refine lv_lshl (v := (j_lshl v2 8)) hx hb dX12_readName_58 rfl ?_
    refine lv_aload_n hx hb dX12_readName_59 rfl (lv_at hl 0 rfl) ?_
    refine lv_aload_n hx hb dX12_readName_60 rfl (lv_at hl 0 rfl) ?_
    refine wmgI_3 (v := (gI σ 3)) S X mG_2055 rfl dX12_readName_61 ?_
    obtain ⟨r64, τ64, hq64, hg⟩ := bd_some hg
    refine gc_Vi (As := [.int (gI σ 3)]) (rest := [.long (j_lshl v2 8)]) (q0 := 0) (ci := 15) S X (k2_X12_sign l dC dI ad kc hq64 H.size) cw_X12_sign mG_2487 rfl rfl rfl rfl rfl hl.1 (Nat.le_of_ble_eq_true rfl) dX12_readName_64 ⟨by omega, by omega⟩ (fun H locs X => ?_)
    refine lv_i2l (v := ((r64).toInt64)) hx hb dX12_readName_67 rfl ?_
    refine lv_lor hx hb dX12_readName_68 ?_
    refine lv_goto (tgt := 73) hx hb dX12_readName_69 (by decide) ?_
    exact w_X12_readName_b73 S hr hk hR hrec2 X (lv_sub hl [0, 1] rfl) hg
set_option maxHeartbeats 4000000 in
set_option maxRecDepth 100000 in
theorem w_X12_readName_B2 {σ : S5} {rec2 : Int32 → Int64 → S5 → Option (Unit × S5)} {v1 : Int32} {v2 : Int64} {H : Heap} {locs : List Loc} {ls : Array Slot} (S : CallFix p m c cX12_readName 4 s args uG RX12) (hr : meth.sig.returnType = none) (hk : meth.locks = false) (hR : 2 ≤ R.frames ∧ 47 ≤ R.locals)
    (hrec2 : ∀ (v1 : Int32) (v2 : Int64) (σ : S5) (H : Heap) (locs : List Loc) (ls : Array Slot), gX (dC, dI) (tM kc) (wM ad kc) Z A s σ H locs → lv_has ls 4 [(0, .ref (ad 0)), (1, .int v1), (2, .long v2)] → rec2 v1 v2 σ = some (r, τ) → W p l e R s m args below meth c H locs 0 0 (MQ below (gQv (dC, dI) (tM kc) (wM ad kc) A r τ) args s 0 0 A) (F0 m 2 ls []))
    (X : gX (dC, dI) (tM kc) (wM ad kc) Z A s σ H locs) (hl : lv_has ls 4 [(0, .ref (ad 0)), (1, .int v1), (2, .long v2)]) (hg : f_X12_readName_B2 rec2 v1 v2 σ = some (r, τ)) : W p l e R s m args below meth c H locs 0 0 (MQ below (gQv (dC, dI) (tM kc) (wM ad kc) A r τ) args s 0 0 A) (F0 m 2 ls []) := by
  have hx := S.1
  have hb := S.2.1
  have hown := S.2.2.2.1
  have hu := S.2.2.2.2
  unfold f_X12_readName_B2 at hg
  refine lv_aload_n hx hb dX12_readName_2 rfl (lv_at hl 0 rfl) ?_
  refine lv_aload_n hx hb dX12_readName_3 rfl (lv_at hl 0 rfl) ?_
  refine wmgI_3 (v := (gI σ 3)) S X mG_2055 rfl dX12_readName_4 ?_
  obtain ⟨r7, τ7, hq7, hg⟩ := bd_some hg
  refine gc_Vi (As := [.int (gI σ 3)]) (rest := []) (q0 := 0) (ci := 15) S X (k2_X12_sign l dC dI ad kc hq7 H.size) cw_X12_sign mG_2487 rfl rfl rfl rfl rfl hl.1 (Nat.le_of_ble_eq_true rfl) dX12_readName_7 ⟨by omega, by omega⟩ (fun H locs X => ?_)
  obtain ⟨r10, τ10, hq10, hg⟩ := bd_some hg
  refine gc_Si (As := [.int r7]) (rest := []) S X (k2_X12_isSmall l dC dI ad kc hq10 H.size) cw_X12_isSmall mG_2491 rfl rfl hl.1 (Nat.le_of_ble_eq_true rfl) dX12_readName_10 ⟨by omega, by omega⟩ (fun H locs X => ?_)
  refine lv_if_ne (tgt := 41) hx hb dX12_readName_13 (by decide) (fun c13 => ?_) (fun c13 => ?_)
  · have hg := (if_neg c13).symm.trans hg
    exact w_X12_readName_b41 S hr hk hR hrec2 X (lv_sub hl [0, 1, 2] rfl) hg
  · have hg := (if_pos c13).symm.trans hg
    refine lv_aload_n hx hb dX12_readName_16 rfl (lv_at hl 0 rfl) ?_
    refine lv_aload_n hx hb dX12_readName_17 rfl (lv_at hl 0 rfl) ?_
    refine wmgI_3 (v := (gI τ10 3)) S X mG_2055 rfl dX12_readName_18 ?_
    obtain ⟨r21, τ21, hq21, hg⟩ := bd_some hg
    refine gc_Vi (As := [.int (gI τ10 3)]) (rest := []) (q0 := 0) (ci := 15) S X (k2_X12_sign l dC dI ad kc hq21 H.size) cw_X12_sign mG_2487 rfl rfl rfl rfl rfl hl.1 (Nat.le_of_ble_eq_true rfl) dX12_readName_21 ⟨by omega, by omega⟩ (fun H locs X => ?_)
    obtain ⟨r24, τ24, hq24, hg⟩ := bd_some hg
    refine gc_Si (As := [.int r21]) (rest := []) S X (k2_X12_isDigit l dC dI ad kc hq24 H.size) cw_X12_isDigit mG_2501 rfl rfl hl.1 (Nat.le_of_ble_eq_true rfl) dX12_readName_24 ⟨by omega, by omega⟩ (fun H locs X => ?_)
    refine lv_if_ne (tgt := 41) hx hb dX12_readName_27 (by decide) (fun c27 => ?_) (fun c27 => ?_)
    · have hg := (if_neg c27).symm.trans hg
      exact w_X12_readName_b41 S hr hk hR hrec2 X (lv_sub hl [0, 1, 2] rfl) hg
    · have hg := (if_pos c27).symm.trans hg
      refine lv_aload_n hx hb dX12_readName_30 rfl (lv_at hl 0 rfl) ?_
      refine wmgI_3 (v := (gI τ24 3)) S X mG_2055 rfl dX12_readName_31 ?_
      refine lv_aload_n hx hb dX12_readName_34 rfl (lv_at hl 0 rfl) ?_
      refine wmgI_5 (v := (gI τ24 5)) S X mG_2057 rfl dX12_readName_35 ?_
      refine lv_icmp_ne (tgt := 87) hx hb dX12_readName_38 (by decide) (fun c38 => ?_) (fun c38 => ?_)
      · have hg := (if_neg c38).symm.trans hg
        refine lv_aload_n hx hb dX12_readName_87 rfl (lv_at hl 0 rfl) ?_
        refine lv_lload_n hx hb dX12_readName_88 rfl (lv_at hl 2 rfl) ?_
        refine wmpJ_0 S X mG_2058 dX12_readName_89 (fun H locs X => ?_)
        refine lv_aload_n hx hb dX12_readName_92 rfl (lv_at hl 0 rfl) ?_
        refine lv_aload_n hx hb dX12_readName_93 rfl (lv_at hl 0 rfl) ?_
        refine wmgI_3 (v := (gI τ24 3)) S X mG_2055 rfl dX12_readName_94 ?_
        refine lv_aload_n hx hb dX12_readName_97 rfl (lv_at hl 0 rfl) ?_
        refine wmgI_5 (v := (gI τ24 5)) S X mG_2057 rfl dX12_readName_98 ?_
        refine lv_isub hx hb dX12_readName_101 ?_
        refine lv_bipush (v := 8) hx hb dX12_readName_102 (by decide) ?_
        refine lv_icmp_le (tgt := 111) hx hb dX12_readName_104 (by decide) (fun c104 => ?_) (fun c104 => ?_)
        · have hg := (if_pos c104).symm.trans hg
          refine lv_iload_n hx hb dX12_readName_111 rfl (lv_at hl 1 rfl) ?_
          refine lv_if_eq (tgt := 119) hx hb dX12_readName_112 (by decide) (fun c112 => ?_) (fun c112 => ?_)
          · have hg := (if_pos c112).symm.trans hg
            refine lv_lload_n hx hb dX12_readName_119 rfl (lv_at hl 2 rfl) ?_
            obtain ⟨r120, τ120, hq120, hg⟩ := bd_some hg
            refine gc_Si (As := [.long v2]) (rest := [.ref (ad 0)]) S X (k2_X12_keyword l dC dI ad kc hq120 H.size) cw_X12_keyword mG_2504 rfl rfl hl.1 (Nat.le_of_ble_eq_true rfl) dX12_readName_120 ⟨by omega, by omega⟩ (fun H locs X => ?_)
            exact w_X12_readName_b123 S hr hk hR X (lv_sub hl [] rfl) hg
          · have hg := (if_neg c112).symm.trans hg
            refine lv_iconst (v := 4) hx hb dX12_readName_115 (by decide) ?_
            refine lv_goto (tgt := 123) hx hb dX12_readName_116 (by decide) ?_
            exact w_X12_readName_b123 S hr hk hR X (lv_sub hl [] rfl) hg
        · have hg := (if_neg c104).symm.trans hg
          refine lv_iconst (v := 1) hx hb dX12_readName_107 (by decide) ?_
          refine lv_goto (tgt := 123) hx hb dX12_readName_108 (by decide) ?_
          exact w_X12_readName_b123 S hr hk hR X (lv_sub hl [] rfl) hg
      · have hg := (if_pos c38).symm.trans hg
        exact w_X12_readName_b41 S hr hk hR hrec2 X (lv_sub hl [0, 1, 2] rfl) hg
set_option maxHeartbeats 4000000 in
set_option maxRecDepth 100000 in
theorem w_X12_readName_L2 (S : CallFix p m c cX12_readName 4 s args uG RX12) (hr : meth.sig.returnType = none) (hk : meth.locks = false) (hR : 2 ≤ R.frames ∧ 47 ≤ R.locals) : ∀ (n : Nat) (v1 : Int32) (v2 : Int64) (σ : S5) (H : Heap) (locs : List Loc) (ls : Array Slot), gX (dC, dI) (tM kc) (wM ad kc) Z A s σ H locs → lv_has ls 4 [(0, .ref (ad 0)), (1, .int v1), (2, .long v2)] → f_X12_readName_L2  n v1 v2 σ = some (r, τ) → W p l e R s m args below meth c H locs 0 0 (MQ below (gQv (dC, dI) (tM kc) (wM ad kc) A r τ) args s 0 0 A) (F0 m 2 ls []) := by
  intro n
  induction n with
  | zero => intro v1 v2 σ H locs ls X hl hg; cases hg
  | succ n ih => intro v1 v2 σ H locs ls X hl hg; exact w_X12_readName_B2 S hr hk hR ih X hl hg
set_option maxHeartbeats 4000000 in
set_option maxRecDepth 100000 in
theorem w_X12_readName {σ : S5} {a1 : Int32} {H : Heap} {locs : List Loc} {ls : Array Slot} (S : CallFix p m c cX12_readName 4 s args uG RX12) (hr : meth.sig.returnType = none) (hk : meth.locks = false) (hR : 2 ≤ R.frames ∧ 47 ≤ R.locals)
    (X : gX (dC, dI) (tM kc) (wM ad kc) Z A s σ H locs) (hl : lv_has ls 4 [(0, .ref (ad 0)), (1, .int a1)]) (hg : f_X12_readName a1 σ = some (r, τ)) : W p l e R s m args below meth c H locs 0 0 (MQ below (gQv (dC, dI) (tM kc) (wM ad kc) A r τ) args s 0 0 A) (F0 m 0 ls []) := by
  have hx := S.1
  have hb := S.2.1
  have hown := S.2.2.2.1
  have hu := S.2.2.2.2
  unfold f_X12_readName at hg
  refine lv_lconst (v := 0) hx hb dX12_readName_0 rfl ?_
  refine lv_lstore_n (lv' := [(2, .long 0), (0, .ref (ad 0)), (1, .int a1)]) hx hb dX12_readName_1 rfl hl (by decide) rfl (fun ls hl => ?_)
  exact w_X12_readName_L2 S hr hk hR _ _ _ _ _ _ _ X (lv_sub hl [1, 2, 0] rfl) hg
end MX12_readName
set_option maxRecDepth 100000 in
theorem k2_X12_readName (l : Launch) (dC : Nat → ClassId) (dI : Nat → Nat → Nat) {Z : ZZ} (ad : Nat → Nat) (kc : Nat → ClassId) {σ τ : S5} {a1 : Int32} {r : Unit} (hg : f_X12_readName a1 σ = some (r, τ)) (sz : Nat) : Met l yX12_readName (Cond.code yX12_readName cX12_readName 4 none :: uG) { frames := 2, cells := 0, slots := 0, locals := 47 } (gPc (dC, dI) (tM kc) (wM ad kc) Z [.ref (ad 0), .int a1] σ sz) (gQv (dC, dI) (tM kc) (wM ad kc) (va_A (wM ad kc σ) sz) r τ) 0 0 (va_A (wM ad kc σ) sz) :=
  g_start (by decide) (Nat.le_of_ble_eq_true rfl) (fun p e s m below meth c ls S hr hk X hl => w_X12_readName S hr hk ⟨Nat.le_refl _, Nat.le_refl _⟩ X hl hg)
section MX12_readNumber
variable {p : Program} {l : Launch} {e : Env} {R : Room} {s : State} {m : MethodId} {args : Array Value} {below : List Frame} {meth : Method} {c : Code} {dC : Nat → ClassId} {dI : Nat → Nat → Nat} {Z : ZZ} {A : Nat → Prop} {ad : Nat → Nat} {kc : Nat → ClassId} {r : Unit} {τ : S5}
set_option maxHeartbeats 4000000 in
set_option maxRecDepth 100000 in
theorem w_X12_readNumber_b95 {σ : S5} {v1 : Int64} {u0 : Int32} {H : Heap} {locs : List Loc} {ls : Array Slot} (S : CallFix p m c cX12_readNumber 3 s args uG RX12) (hr : meth.sig.returnType = none) (hk : meth.locks = false) (hR : 1 ≤ R.frames ∧ 21 ≤ R.locals)
    (X : gX (dC, dI) (tM kc) (wM ad kc) Z A s σ H locs) (hl : lv_has ls 3 [(0, .ref (ad 0)), (1, .long v1)]) (hg : f_X12_readNumber_b95 v1 u0 σ = some (r, τ)) : W p l e R s m args below meth c H locs 0 0 (MQ below (gQv (dC, dI) (tM kc) (wM ad kc) A r τ) args s 0 0 A) (F0 m 95 ls [.int u0, .ref (ad 0)]) := by
  have hx := S.1
  have hb := S.2.1
  have hown := S.2.2.2.1
  have hu := S.2.2.2.2
  unfold f_X12_readNumber_b95 at hg
  refine wmpI_4 S X mG_2056 dX12_readNumber_95 (fun H locs X => ?_)
  refine lv_aload_n hx hb dX12_readNumber_98 rfl (lv_at hl 0 rfl) ?_
  refine lv_lload_n hx hb dX12_readNumber_99 rfl (lv_at hl 1 rfl) ?_
  refine lv_l2i (v := ((v1 : Int64).toInt32)) hx hb dX12_readNumber_100 rfl ?_
  refine wmpI_6 S X mG_2059 dX12_readNumber_101 (fun H locs X => ?_)
  obtain ⟨-, rfl⟩ := fin_some hg
  exact gr_v S hr hk X dX12_readNumber_104
set_option maxHeartbeats 4000000 in
set_option maxRecDepth 100000 in
theorem w_X12_readNumber_b90 {σ : S5} {v1 : Int64} {H : Heap} {locs : List Loc} {ls : Array Slot} (S : CallFix p m c cX12_readNumber 3 s args uG RX12) (hr : meth.sig.returnType = none) (hk : meth.locks = false) (hR : 1 ≤ R.frames ∧ 21 ≤ R.locals)
    (X : gX (dC, dI) (tM kc) (wM ad kc) Z A s σ H locs) (hl : lv_has ls 3 [(0, .ref (ad 0)), (1, .long v1)]) (hg : f_X12_readNumber_b90 v1 σ = some (r, τ)) : W p l e R s m args below meth c H locs 0 0 (MQ below (gQv (dC, dI) (tM kc) (wM ad kc) A r τ) args s 0 0 A) (F0 m 90 ls [.ref (ad 0)]) := by
  have hx := S.1
  have hb := S.2.1
  have hown := S.2.2.2.1
  have hu := S.2.2.2.2
  unfold f_X12_readNumber_b90 at hg
  refine lv_iconst (v := 1) hx hb dX12_readNumber_90 (by decide) ?_
  refine lv_goto (tgt := 95) hx hb dX12_readNumber_91 (by decide) ?_
  exact w_X12_readNumber_b95 S hr hk hR X (lv_sub hl [0, 1] rfl) hg
set_option maxHeartbeats 4000000 in
set_option maxRecDepth 100000 in
theorem w_X12_readNumber_b53 {σ : S5} {rec2 : Int64 → S5 → Option (Unit × S5)} {u0 : Int64} {H : Heap} {locs : List Loc} {ls : Array Slot} (S : CallFix p m c cX12_readNumber 3 s args uG RX12) (hr : meth.sig.returnType = none) (hk : meth.locks = false) (hR : 1 ≤ R.frames ∧ 21 ≤ R.locals)
    (hrec2 : ∀ (v1 : Int64) (σ : S5) (H : Heap) (locs : List Loc) (ls : Array Slot), gX (dC, dI) (tM kc) (wM ad kc) Z A s σ H locs → lv_has ls 3 [(0, .ref (ad 0)), (1, .long v1)] → rec2 v1 σ = some (r, τ) → W p l e R s m args below meth c H locs 0 0 (MQ below (gQv (dC, dI) (tM kc) (wM ad kc) A r τ) args s 0 0 A) (F0 m 2 ls []))
    (X : gX (dC, dI) (tM kc) (wM ad kc) Z A s σ H locs) (hl : lv_has ls 3 [(0, .ref (ad 0))]) (hg : f_X12_readNumber_b53 rec2 u0 σ = some (r, τ)) : W p l e R s m args below meth c H locs 0 0 (MQ below (gQv (dC, dI) (tM kc) (wM ad kc) A r τ) args s 0 0 A) (F0 m 53 ls [.long u0]) := by
  have hx := S.1
  have hb := S.2.1
  have hown := S.2.2.2.1
  have hu := S.2.2.2.2
  unfold f_X12_readNumber_b53 at hg
  refine lv_lstore_n (lv' := [(1, .long u0), (0, .ref (ad 0))]) hx hb dX12_readNumber_53 rfl hl (by decide) rfl (fun ls hl => ?_)
  refine lv_aload_n hx hb dX12_readNumber_54 rfl (lv_at hl 1 rfl) ?_
  refine lv_dup hx hb dX12_readNumber_55 rfl ?_
  refine wmgI_3 (v := (gI σ 3)) S X mG_2055 rfl dX12_readNumber_56 ?_
  refine lv_iconst (v := 1) hx hb dX12_readNumber_59 (by decide) ?_
  refine lv_iadd hx hb dX12_readNumber_60 ?_
  refine wmpI_3 S X mG_2055 dX12_readNumber_61 (fun H locs X => ?_)
  refine lv_goto (tgt := 2) hx hb dX12_readNumber_64 (by decide) ?_
  exact hrec2 _ _ _ _ _ X (lv_sub hl [1, 0] rfl) hg
set_option maxHeartbeats 4000000 in
set_option maxRecDepth 100000 in
theorem w_X12_readNumber_B2 {σ : S5} {rec2 : Int64 → S5 → Option (Unit × S5)} {v1 : Int64} {H : Heap} {locs : List Loc} {ls : Array Slot} (S : CallFix p m c cX12_readNumber 3 s args uG RX12) (hr : meth.sig.returnType = none) (hk : meth.locks = false) (hR : 1 ≤ R.frames ∧ 21 ≤ R.locals)
    (hrec2 : ∀ (v1 : Int64) (σ : S5) (H : Heap) (locs : List Loc) (ls : Array Slot), gX (dC, dI) (tM kc) (wM ad kc) Z A s σ H locs → lv_has ls 3 [(0, .ref (ad 0)), (1, .long v1)] → rec2 v1 σ = some (r, τ) → W p l e R s m args below meth c H locs 0 0 (MQ below (gQv (dC, dI) (tM kc) (wM ad kc) A r τ) args s 0 0 A) (F0 m 2 ls []))
    (X : gX (dC, dI) (tM kc) (wM ad kc) Z A s σ H locs) (hl : lv_has ls 3 [(0, .ref (ad 0)), (1, .long v1)]) (hg : f_X12_readNumber_B2 rec2 v1 σ = some (r, τ)) : W p l e R s m args below meth c H locs 0 0 (MQ below (gQv (dC, dI) (tM kc) (wM ad kc) A r τ) args s 0 0 A) (F0 m 2 ls []) := by
  have hx := S.1
  have hb := S.2.1
  have hown := S.2.2.2.1
  have hu := S.2.2.2.2
  unfold f_X12_readNumber_B2 at hg
  refine lv_aload_n hx hb dX12_readNumber_2 rfl (lv_at hl 0 rfl) ?_
  refine lv_aload_n hx hb dX12_readNumber_3 rfl (lv_at hl 0 rfl) ?_
  refine wmgI_3 (v := (gI σ 3)) S X mG_2055 rfl dX12_readNumber_4 ?_
  obtain ⟨r7, τ7, hq7, hg⟩ := bd_some hg
  refine gc_Vi (As := [.int (gI σ 3)]) (rest := []) (q0 := 0) (ci := 15) S X (k2_X12_sign l dC dI ad kc hq7 H.size) cw_X12_sign mG_2487 rfl rfl rfl rfl rfl hl.1 (Nat.le_of_ble_eq_true rfl) dX12_readNumber_7 ⟨by omega, by omega⟩ (fun H locs X => ?_)
  obtain ⟨r10, τ10, hq10, hg⟩ := bd_some hg
  refine gc_Si (As := [.int r7]) (rest := []) S X (k2_X12_isDigit l dC dI ad kc hq10 H.size) cw_X12_isDigit mG_2501 rfl rfl hl.1 (Nat.le_of_ble_eq_true rfl) dX12_readNumber_10 ⟨by omega, by omega⟩ (fun H locs X => ?_)
  refine lv_if_eq (tgt := 67) hx hb dX12_readNumber_13 (by decide) (fun c13 => ?_) (fun c13 => ?_)
  · have hg := (if_pos c13).symm.trans hg
    refine lv_aload_n hx hb dX12_readNumber_67 rfl (lv_at hl 0 rfl) ?_
    refine lv_aload_n hx hb dX12_readNumber_68 rfl (lv_at hl 0 rfl) ?_
    refine wmgI_3 (v := (gI τ10 3)) S X mG_2055 rfl dX12_readNumber_69 ?_
    refine lv_aload_n hx hb dX12_readNumber_72 rfl (lv_at hl 0 rfl) ?_
    refine wmgI_5 (v := (gI τ10 5)) S X mG_2057 rfl dX12_readNumber_73 ?_
    refine lv_isub hx hb dX12_readNumber_76 ?_
    refine lv_bipush (v := 10) hx hb dX12_readNumber_77 (by decide) ?_
    refine lv_icmp_gt (tgt := 90) hx hb dX12_readNumber_79 (by decide) (fun c79 => ?_) (fun c79 => ?_)
    · have hg := (if_pos c79).symm.trans hg
      exact w_X12_readNumber_b90 S hr hk hR X (lv_sub hl [0, 1] rfl) hg
    · have hg := (if_neg c79).symm.trans hg
      refine lv_lload_n hx hb dX12_readNumber_82 rfl (lv_at hl 1 rfl) ?_
      refine lv_ldc2 (own := RX12) (v := 2147483647) hx hb hown (hu _ mG_2513) dX12_readNumber_83 ?_
      refine W.lcmp hx hb dX12_readNumber_86 ?_
      refine lv_if_le (tgt := 94) hx hb dX12_readNumber_87 (by decide) (fun c87 => ?_) (fun c87 => ?_)
      · have hg := (if_pos c87).symm.trans hg
        refine lv_iconst (v := 2) hx hb dX12_readNumber_94 (by decide) ?_
        exact w_X12_readNumber_b95 S hr hk hR X (lv_sub hl [0, 1] rfl) hg
      · have hg := (if_neg c87).symm.trans hg
        exact w_X12_readNumber_b90 S hr hk hR X (lv_sub hl [0, 1] rfl) hg
  · have hg := (if_neg c13).symm.trans hg
    refine lv_aload_n hx hb dX12_readNumber_16 rfl (lv_at hl 0 rfl) ?_
    refine wmgI_3 (v := (gI τ10 3)) S X mG_2055 rfl dX12_readNumber_17 ?_
    refine lv_aload_n hx hb dX12_readNumber_20 rfl (lv_at hl 0 rfl) ?_
    refine wmgI_5 (v := (gI τ10 5)) S X mG_2057 rfl dX12_readNumber_21 ?_
    refine lv_isub hx hb dX12_readNumber_24 ?_
    refine lv_bipush (v := 10) hx hb dX12_readNumber_25 (by decide) ?_
    refine lv_icmp_ge (tgt := 52) hx hb dX12_readNumber_27 (by decide) (fun c27 => ?_) (fun c27 => ?_)
    · have hg := (if_pos c27).symm.trans hg
      refine lv_lload_n hx hb dX12_readNumber_52 rfl (lv_at hl 1 rfl) ?_
      exact w_X12_readNumber_b53 S hr hk hR hrec2 X (lv_sub hl [0] rfl) hg
    · have hg := (if_neg c27).symm.trans hg
      refine lv_ldc2 (own := RX12) (v := 10) hx hb hown (hu _ mG_2511) dX12_readNumber_30 ?_
      refine lv_lload_n hx hb dX12_readNumber_33 rfl (lv_at hl 1 rfl) ?_
      refine lv_lmul hx hb dX12_readNumber_34 ?_
      refine lv_aload_n hx hb dX12_readNumber_35 rfl (lv_at hl 0 rfl) ?_
      refine lv_aload_n hx hb dX12_readNumber_36 rfl (lv_at hl 0 rfl) ?_
      refine wmgI_3 (v := (gI τ10 3)) S X mG_2055 rfl dX12_readNumber_37 ?_
      obtain ⟨r40, τ40, hq40, hg⟩ := bd_some hg
      refine gc_Vi (As := [.int (gI τ10 3)]) (rest := [.long (10 * v1)]) (q0 := 0) (ci := 15) S X (k2_X12_sign l dC dI ad kc hq40 H.size) cw_X12_sign mG_2487 rfl rfl rfl rfl rfl hl.1 (Nat.le_of_ble_eq_true rfl) dX12_readNumber_40 ⟨by omega, by omega⟩ (fun H locs X => ?_)
      refine lv_i2l (v := ((r40).toInt64)) hx hb dX12_readNumber_43 rfl ?_
      refine lv_ladd hx hb dX12_readNumber_44 ?_
      refine lv_ldc2 (own := RX12) (v := 48) hx hb hown (hu _ mG_2512) dX12_readNumber_45 ?_
      refine lv_lsub hx hb dX12_readNumber_48 ?_
      refine lv_goto (tgt := 53) hx hb dX12_readNumber_49 (by decide) ?_
      exact w_X12_readNumber_b53 S hr hk hR hrec2 X (lv_sub hl [0] rfl) hg
set_option maxHeartbeats 4000000 in
set_option maxRecDepth 100000 in
theorem w_X12_readNumber_L2 (S : CallFix p m c cX12_readNumber 3 s args uG RX12) (hr : meth.sig.returnType = none) (hk : meth.locks = false) (hR : 1 ≤ R.frames ∧ 21 ≤ R.locals) : ∀ (n : Nat) (v1 : Int64) (σ : S5) (H : Heap) (locs : List Loc) (ls : Array Slot), gX (dC, dI) (tM kc) (wM ad kc) Z A s σ H locs → lv_has ls 3 [(0, .ref (ad 0)), (1, .long v1)] → f_X12_readNumber_L2  n v1 σ = some (r, τ) → W p l e R s m args below meth c H locs 0 0 (MQ below (gQv (dC, dI) (tM kc) (wM ad kc) A r τ) args s 0 0 A) (F0 m 2 ls []) := by
  intro n
  induction n with
  | zero => intro v1 σ H locs ls X hl hg; cases hg
  | succ n ih => intro v1 σ H locs ls X hl hg; exact w_X12_readNumber_B2 S hr hk hR ih X hl hg
set_option maxHeartbeats 4000000 in
set_option maxRecDepth 100000 in
theorem w_X12_readNumber {σ : S5}  {H : Heap} {locs : List Loc} {ls : Array Slot} (S : CallFix p m c cX12_readNumber 3 s args uG RX12) (hr : meth.sig.returnType = none) (hk : meth.locks = false) (hR : 1 ≤ R.frames ∧ 21 ≤ R.locals)
    (X : gX (dC, dI) (tM kc) (wM ad kc) Z A s σ H locs) (hl : lv_has ls 3 [(0, .ref (ad 0))]) (hg : f_X12_readNumber  σ = some (r, τ)) : W p l e R s m args below meth c H locs 0 0 (MQ below (gQv (dC, dI) (tM kc) (wM ad kc) A r τ) args s 0 0 A) (F0 m 0 ls []) := by
  have hx := S.1
  have hb := S.2.1
  have hown := S.2.2.2.1
  have hu := S.2.2.2.2
  unfold f_X12_readNumber at hg
  refine lv_lconst (v := 0) hx hb dX12_readNumber_0 rfl ?_
  refine lv_lstore_n (lv' := [(1, .long 0), (0, .ref (ad 0))]) hx hb dX12_readNumber_1 rfl hl (by decide) rfl (fun ls hl => ?_)
  exact w_X12_readNumber_L2 S hr hk hR _ _ _ _ _ _ X (lv_sub hl [1, 0] rfl) hg
end MX12_readNumber
set_option maxRecDepth 100000 in
theorem k2_X12_readNumber (l : Launch) (dC : Nat → ClassId) (dI : Nat → Nat → Nat) {Z : ZZ} (ad : Nat → Nat) (kc : Nat → ClassId) {σ τ : S5}  {r : Unit} (hg : f_X12_readNumber  σ = some (r, τ)) (sz : Nat) : Met l yX12_readNumber (Cond.code yX12_readNumber cX12_readNumber 3 none :: uG) { frames := 1, cells := 0, slots := 0, locals := 21 } (gPc (dC, dI) (tM kc) (wM ad kc) Z [.ref (ad 0)] σ sz) (gQv (dC, dI) (tM kc) (wM ad kc) (va_A (wM ad kc σ) sz) r τ) 0 0 (va_A (wM ad kc σ) sz) :=
  g_start (by decide) (Nat.le_of_ble_eq_true rfl) (fun p e s m below meth c ls S hr hk X hl => w_X12_readNumber S hr hk ⟨Nat.le_refl _, Nat.le_refl _⟩ X hl hg)
section MX12_next
variable {p : Program} {l : Launch} {e : Env} {R : Room} {s : State} {m : MethodId} {args : Array Value} {below : List Frame} {meth : Method} {c : Code} {dC : Nat → ClassId} {dI : Nat → Nat → Nat} {Z : ZZ} {A : Nat → Prop} {ad : Nat → Nat} {kc : Nat → ClassId} {r : Unit} {τ : S5}
set_option maxHeartbeats 4000000 in
set_option maxRecDepth 100000 in
theorem w_X12_next_b308 {σ : S5} {u0 : Int32} {H : Heap} {locs : List Loc} {ls : Array Slot} (S : CallFix p m c cX12_next 4 s args uG RX12) (hr : meth.sig.returnType = none) (hk : meth.locks = false) (hR : 3 ≤ R.frames ∧ 70 ≤ R.locals)
    (X : gX (dC, dI) (tM kc) (wM ad kc) Z A s σ H locs) (hl : lv_has ls 4 []) (hg : f_X12_next_b308 u0 σ = some (r, τ)) : W p l e R s m args below meth c H locs 0 0 (MQ below (gQv (dC, dI) (tM kc) (wM ad kc) A r τ) args s 0 0 A) (F0 m 308 ls [.int u0, .ref (ad 0)]) := by
  have hx := S.1
  have hb := S.2.1
  have hown := S.2.2.2.1
  have hu := S.2.2.2.2
  unfold f_X12_next_b308 at hg
  refine wmpI_4 S X mG_2056 dX12_next_308 (fun H locs X => ?_)
  obtain ⟨-, rfl⟩ := fin_some hg
  exact gr_v S hr hk X dX12_next_311
set_option maxHeartbeats 4000000 in
set_option maxRecDepth 100000 in
theorem w_X12_next_b284 {σ : S5} {v1 : Int32} {u0 : Int32} {H : Heap} {locs : List Loc} {ls : Array Slot} (S : CallFix p m c cX12_next 4 s args uG RX12) (hr : meth.sig.returnType = none) (hk : meth.locks = false) (hR : 3 ≤ R.frames ∧ 70 ≤ R.locals)
    (X : gX (dC, dI) (tM kc) (wM ad kc) Z A s σ H locs) (hl : lv_has ls 4 [(0, .ref (ad 0)), (1, .int v1)]) (hg : f_X12_next_b284 v1 u0 σ = some (r, τ)) : W p l e R s m args below meth c H locs 0 0 (MQ below (gQv (dC, dI) (tM kc) (wM ad kc) A r τ) args s 0 0 A) (F0 m 284 ls [.int u0]) := by
  have hx := S.1
  have hb := S.2.1
  have hown := S.2.2.2.1
  have hu := S.2.2.2.2
  unfold f_X12_next_b284 at hg
  refine lv_istore_n (lv' := [(3, .int u0), (0, .ref (ad 0)), (1, .int v1)]) hx hb dX12_next_284 rfl hl (by decide) rfl (fun ls hl => ?_)
  refine lv_aload_n hx hb dX12_next_285 rfl (lv_at hl 1 rfl) ?_
  refine lv_dup hx hb dX12_next_286 rfl ?_
  refine wmgI_3 (v := (gI σ 3)) S X mG_2055 rfl dX12_next_287 ?_
  refine lv_iconst (v := 1) hx hb dX12_next_290 (by decide) ?_
  refine lv_iadd hx hb dX12_next_291 ?_
  refine wmpI_3 S X mG_2055 dX12_next_292 (fun H locs X => ?_)
  refine lv_aload_n hx hb dX12_next_295 rfl (lv_at hl 1 rfl) ?_
  refine lv_iload_n hx hb dX12_next_296 rfl (lv_at hl 0 rfl) ?_
  refine lv_if_eq (tgt := 307) hx hb dX12_next_297 (by decide) (fun c297 => ?_) (fun c297 => ?_)
  · have hg := (if_pos c297).symm.trans hg
    refine lv_iconst (v := 1) hx hb dX12_next_307 (by decide) ?_
    exact w_X12_next_b308 S hr hk hR X (lv_sub hl [] rfl) hg
  · have hg := (if_neg c297).symm.trans hg
    refine lv_bipush (v := 100) hx hb dX12_next_300 (by decide) ?_
    refine lv_iload_n hx hb dX12_next_302 rfl (lv_at hl 2 rfl) ?_
    refine lv_iadd hx hb dX12_next_303 ?_
    refine lv_goto (tgt := 308) hx hb dX12_next_304 (by decide) ?_
    exact w_X12_next_b308 S hr hk hR X (lv_sub hl [] rfl) hg
set_option maxHeartbeats 4000000 in
set_option maxRecDepth 100000 in
theorem w_X12_next_b279 {σ : S5} {v1 : Int32} {H : Heap} {locs : List Loc} {ls : Array Slot} (S : CallFix p m c cX12_next 4 s args uG RX12) (hr : meth.sig.returnType = none) (hk : meth.locks = false) (hR : 3 ≤ R.frames ∧ 70 ≤ R.locals)
    (X : gX (dC, dI) (tM kc) (wM ad kc) Z A s σ H locs) (hl : lv_has ls 4 [(0, .ref (ad 0)), (1, .int v1)]) (hg : f_X12_next_b279 v1 σ = some (r, τ)) : W p l e R s m args below meth c H locs 0 0 (MQ below (gQv (dC, dI) (tM kc) (wM ad kc) A r τ) args s 0 0 A) (F0 m 279 ls []) := by
  have hx := S.1
  have hb := S.2.1
  have hown := S.2.2.2.1
  have hu := S.2.2.2.2
  unfold f_X12_next_b279 at hg
  refine lv_iconst (v := 1) hx hb dX12_next_279 (by decide) ?_
  refine lv_goto (tgt := 284) hx hb dX12_next_280 (by decide) ?_
  exact w_X12_next_b284 S hr hk hR X (lv_sub hl [0, 1] rfl) hg
set_option maxHeartbeats 4000000 in
set_option maxRecDepth 100000 in
theorem w_X12_next_b226 {σ : S5} {v1 : Int32} {u0 : Int32} {H : Heap} {locs : List Loc} {ls : Array Slot} (S : CallFix p m c cX12_next 4 s args uG RX12) (hr : meth.sig.returnType = none) (hk : meth.locks = false) (hR : 3 ≤ R.frames ∧ 70 ≤ R.locals)
    (X : gX (dC, dI) (tM kc) (wM ad kc) Z A s σ H locs) (hl : lv_has ls 4 [(0, .ref (ad 0)), (1, .int v1)]) (hg : f_X12_next_b226 v1 u0 σ = some (r, τ)) : W p l e R s m args below meth c H locs 0 0 (MQ below (gQv (dC, dI) (tM kc) (wM ad kc) A r τ) args s 0 0 A) (F0 m 226 ls [.int u0]) := by
  have hx := S.1
  have hb := S.2.1
  have hown := S.2.2.2.1
  have hu := S.2.2.2.2
  unfold f_X12_next_b226 at hg
  refine lv_istore_n (lv' := [(3, .int u0), (0, .ref (ad 0)), (1, .int v1)]) hx hb dX12_next_226 rfl hl (by decide) rfl (fun ls hl => ?_)
  refine lv_iload_n hx hb dX12_next_227 rfl (lv_at hl 0 rfl) ?_
  refine lv_if_ne (tgt := 279) hx hb dX12_next_228 (by decide) (fun c228 => ?_) (fun c228 => ?_)
  · have hg := (if_neg c228).symm.trans hg
    exact w_X12_next_b279 S hr hk hR X (lv_sub hl [1, 2] rfl) hg
  · have hg := (if_pos c228).symm.trans hg
    refine lv_iload_n hx hb dX12_next_231 rfl (lv_at hl 2 rfl) ?_
    refine lv_bipush (v := 95) hx hb dX12_next_232 (by decide) ?_
    refine lv_icmp_eq (tgt := 279) hx hb dX12_next_234 (by decide) (fun c234 => ?_) (fun c234 => ?_)
    · have hg := (if_pos c234).symm.trans hg
      exact w_X12_next_b279 S hr hk hR X (lv_sub hl [1, 2] rfl) hg
    · have hg := (if_neg c234).symm.trans hg
      refine lv_iload_n hx hb dX12_next_237 rfl (lv_at hl 2 rfl) ?_
      refine lv_bipush (v := 43) hx hb dX12_next_238 (by decide) ?_
      refine lv_icmp_eq (tgt := 279) hx hb dX12_next_240 (by decide) (fun c240 => ?_) (fun c240 => ?_)
      · have hg := (if_pos c240).symm.trans hg
        exact w_X12_next_b279 S hr hk hR X (lv_sub hl [1, 2] rfl) hg
      · have hg := (if_neg c240).symm.trans hg
        refine lv_iload_n hx hb dX12_next_243 rfl (lv_at hl 2 rfl) ?_
        refine lv_bipush (v := 45) hx hb dX12_next_244 (by decide) ?_
        refine lv_icmp_eq (tgt := 279) hx hb dX12_next_246 (by decide) (fun c246 => ?_) (fun c246 => ?_)
        · have hg := (if_pos c246).symm.trans hg
          exact w_X12_next_b279 S hr hk hR X (lv_sub hl [1, 2] rfl) hg
        · have hg := (if_neg c246).symm.trans hg
          refine lv_iload_n hx hb dX12_next_249 rfl (lv_at hl 2 rfl) ?_
          refine lv_bipush (v := 42) hx hb dX12_next_250 (by decide) ?_
          refine lv_icmp_eq (tgt := 279) hx hb dX12_next_252 (by decide) (fun c252 => ?_) (fun c252 => ?_)
          · have hg := (if_pos c252).symm.trans hg
            exact w_X12_next_b279 S hr hk hR X (lv_sub hl [1, 2] rfl) hg
          · have hg := (if_neg c252).symm.trans hg
            refine lv_iload_n hx hb dX12_next_255 rfl (lv_at hl 2 rfl) ?_
            refine lv_bipush (v := 47) hx hb dX12_next_256 (by decide) ?_
            refine lv_icmp_eq (tgt := 279) hx hb dX12_next_258 (by decide) (fun c258 => ?_) (fun c258 => ?_)
            · have hg := (if_pos c258).symm.trans hg
              exact w_X12_next_b279 S hr hk hR X (lv_sub hl [1, 2] rfl) hg
            · have hg := (if_neg c258).symm.trans hg
              refine lv_iload_n hx hb dX12_next_261 rfl (lv_at hl 2 rfl) ?_
              refine lv_bipush (v := 37) hx hb dX12_next_262 (by decide) ?_
              refine lv_icmp_eq (tgt := 279) hx hb dX12_next_264 (by decide) (fun c264 => ?_) (fun c264 => ?_)
              · have hg := (if_pos c264).symm.trans hg
                exact w_X12_next_b279 S hr hk hR X (lv_sub hl [1, 2] rfl) hg
              · have hg := (if_neg c264).symm.trans hg
                refine lv_iload_n hx hb dX12_next_267 rfl (lv_at hl 2 rfl) ?_
                refine lv_bipush (v := 60) hx hb dX12_next_268 (by decide) ?_
                refine lv_icmp_eq (tgt := 279) hx hb dX12_next_270 (by decide) (fun c270 => ?_) (fun c270 => ?_)
                · have hg := (if_pos c270).symm.trans hg
                  exact w_X12_next_b279 S hr hk hR X (lv_sub hl [1, 2] rfl) hg
                · have hg := (if_neg c270).symm.trans hg
                  refine lv_iload_n hx hb dX12_next_273 rfl (lv_at hl 2 rfl) ?_
                  refine lv_bipush (v := 124) hx hb dX12_next_274 (by decide) ?_
                  refine lv_icmp_ne (tgt := 283) hx hb dX12_next_276 (by decide) (fun c276 => ?_) (fun c276 => ?_)
                  · have hg := (if_neg c276).symm.trans hg
                    refine lv_iconst (v := 0) hx hb dX12_next_283 (by decide) ?_
                    exact w_X12_next_b284 S hr hk hR X (lv_sub hl [1, 2] rfl) hg
                  · have hg := (if_pos c276).symm.trans hg
                    exact w_X12_next_b279 S hr hk hR X (lv_sub hl [1, 2] rfl) hg
set_option maxHeartbeats 4000000 in
set_option maxRecDepth 100000 in
theorem w_X12_next_b221 {σ : S5} {v1 : Int32} {H : Heap} {locs : List Loc} {ls : Array Slot} (S : CallFix p m c cX12_next 4 s args uG RX12) (hr : meth.sig.returnType = none) (hk : meth.locks = false) (hR : 3 ≤ R.frames ∧ 70 ≤ R.locals)
    (X : gX (dC, dI) (tM kc) (wM ad kc) Z A s σ H locs) (hl : lv_has ls 4 [(0, .ref (ad 0)), (1, .int v1)]) (hg : f_X12_next_b221 v1 σ = some (r, τ)) : W p l e R s m args below meth c H locs 0 0 (MQ below (gQv (dC, dI) (tM kc) (wM ad kc) A r τ) args s 0 0 A) (F0 m 221 ls []) := by
  have hx := S.1
  have hb := S.2.1
  have hown := S.2.2.2.1
  have hu := S.2.2.2.2
  unfold f_X12_next_b221 at hg
  refine lv_iconst (v := 1) hx hb dX12_next_221 (by decide) ?_
  refine lv_goto (tgt := 226) hx hb dX12_next_222 (by decide) ?_
  exact w_X12_next_b226 S hr hk hR X (lv_sub hl [0, 1] rfl) hg
set_option maxHeartbeats 4000000 in
set_option maxRecDepth 100000 in
theorem w_X12_next_b167 {σ : S5} {v1 : Int32} {H : Heap} {locs : List Loc} {ls : Array Slot} (S : CallFix p m c cX12_next 4 s args uG RX12) (hr : meth.sig.returnType = none) (hk : meth.locks = false) (hR : 3 ≤ R.frames ∧ 70 ≤ R.locals)
    (X : gX (dC, dI) (tM kc) (wM ad kc) Z A s σ H locs) (hl : lv_has ls 4 [(0, .ref (ad 0)), (1, .int v1)]) (hg : f_X12_next_b167 v1 σ = some (r, τ)) : W p l e R s m args below meth c H locs 0 0 (MQ below (gQv (dC, dI) (tM kc) (wM ad kc) A r τ) args s 0 0 A) (F0 m 167 ls []) := by
  have hx := S.1
  have hb := S.2.1
  have hown := S.2.2.2.1
  have hu := S.2.2.2.2
  unfold f_X12_next_b167 at hg
  refine lv_iload_n hx hb dX12_next_167 rfl (lv_at hl 1 rfl) ?_
  refine lv_bipush (v := 40) hx hb dX12_next_168 (by decide) ?_
  refine lv_icmp_eq (tgt := 221) hx hb dX12_next_170 (by decide) (fun c170 => ?_) (fun c170 => ?_)
  · have hg := (if_pos c170).symm.trans hg
    exact w_X12_next_b221 S hr hk hR X (lv_sub hl [0, 1] rfl) hg
  · have hg := (if_neg c170).symm.trans hg
    refine lv_iload_n hx hb dX12_next_173 rfl (lv_at hl 1 rfl) ?_
    refine lv_bipush (v := 41) hx hb dX12_next_174 (by decide) ?_
    refine lv_icmp_eq (tgt := 221) hx hb dX12_next_176 (by decide) (fun c176 => ?_) (fun c176 => ?_)
    · have hg := (if_pos c176).symm.trans hg
      exact w_X12_next_b221 S hr hk hR X (lv_sub hl [0, 1] rfl) hg
    · have hg := (if_neg c176).symm.trans hg
      refine lv_iload_n hx hb dX12_next_179 rfl (lv_at hl 1 rfl) ?_
      refine lv_bipush (v := 123) hx hb dX12_next_180 (by decide) ?_
      refine lv_icmp_eq (tgt := 221) hx hb dX12_next_182 (by decide) (fun c182 => ?_) (fun c182 => ?_)
      · have hg := (if_pos c182).symm.trans hg
        exact w_X12_next_b221 S hr hk hR X (lv_sub hl [0, 1] rfl) hg
      · have hg := (if_neg c182).symm.trans hg
        refine lv_iload_n hx hb dX12_next_185 rfl (lv_at hl 1 rfl) ?_
        refine lv_bipush (v := 125) hx hb dX12_next_186 (by decide) ?_
        refine lv_icmp_eq (tgt := 221) hx hb dX12_next_188 (by decide) (fun c188 => ?_) (fun c188 => ?_)
        · have hg := (if_pos c188).symm.trans hg
          exact w_X12_next_b221 S hr hk hR X (lv_sub hl [0, 1] rfl) hg
        · have hg := (if_neg c188).symm.trans hg
          refine lv_iload_n hx hb dX12_next_191 rfl (lv_at hl 1 rfl) ?_
          refine lv_bipush (v := 61) hx hb dX12_next_192 (by decide) ?_
          refine lv_icmp_eq (tgt := 221) hx hb dX12_next_194 (by decide) (fun c194 => ?_) (fun c194 => ?_)
          · have hg := (if_pos c194).symm.trans hg
            exact w_X12_next_b221 S hr hk hR X (lv_sub hl [0, 1] rfl) hg
          · have hg := (if_neg c194).symm.trans hg
            refine lv_iload_n hx hb dX12_next_197 rfl (lv_at hl 1 rfl) ?_
            refine lv_bipush (v := 59) hx hb dX12_next_198 (by decide) ?_
            refine lv_icmp_eq (tgt := 221) hx hb dX12_next_200 (by decide) (fun c200 => ?_) (fun c200 => ?_)
            · have hg := (if_pos c200).symm.trans hg
              exact w_X12_next_b221 S hr hk hR X (lv_sub hl [0, 1] rfl) hg
            · have hg := (if_neg c200).symm.trans hg
              refine lv_iload_n hx hb dX12_next_203 rfl (lv_at hl 1 rfl) ?_
              refine lv_bipush (v := 44) hx hb dX12_next_204 (by decide) ?_
              refine lv_icmp_eq (tgt := 221) hx hb dX12_next_206 (by decide) (fun c206 => ?_) (fun c206 => ?_)
              · have hg := (if_pos c206).symm.trans hg
                exact w_X12_next_b221 S hr hk hR X (lv_sub hl [0, 1] rfl) hg
              · have hg := (if_neg c206).symm.trans hg
                refine lv_iload_n hx hb dX12_next_209 rfl (lv_at hl 1 rfl) ?_
                refine lv_bipush (v := 92) hx hb dX12_next_210 (by decide) ?_
                refine lv_icmp_eq (tgt := 221) hx hb dX12_next_212 (by decide) (fun c212 => ?_) (fun c212 => ?_)
                · have hg := (if_pos c212).symm.trans hg
                  exact w_X12_next_b221 S hr hk hR X (lv_sub hl [0, 1] rfl) hg
                · have hg := (if_neg c212).symm.trans hg
                  refine lv_iload_n hx hb dX12_next_215 rfl (lv_at hl 1 rfl) ?_
                  refine lv_bipush (v := 46) hx hb dX12_next_216 (by decide) ?_
                  refine lv_icmp_ne (tgt := 225) hx hb dX12_next_218 (by decide) (fun c218 => ?_) (fun c218 => ?_)
                  · have hg := (if_neg c218).symm.trans hg
                    refine lv_iconst (v := 0) hx hb dX12_next_225 (by decide) ?_
                    exact w_X12_next_b226 S hr hk hR X (lv_sub hl [0, 1] rfl) hg
                  · have hg := (if_pos c218).symm.trans hg
                    exact w_X12_next_b221 S hr hk hR X (lv_sub hl [0, 1] rfl) hg
set_option maxHeartbeats 4000000 in
set_option maxRecDepth 100000 in
theorem w_X12_next_b161 {σ : S5} {u0 : Int32} {H : Heap} {locs : List Loc} {ls : Array Slot} (S : CallFix p m c cX12_next 4 s args uG RX12) (hr : meth.sig.returnType = none) (hk : meth.locks = false) (hR : 3 ≤ R.frames ∧ 70 ≤ R.locals)
    (X : gX (dC, dI) (tM kc) (wM ad kc) Z A s σ H locs) (hl : lv_has ls 4 []) (hg : f_X12_next_b161 u0 σ = some (r, τ)) : W p l e R s m args below meth c H locs 0 0 (MQ below (gQv (dC, dI) (tM kc) (wM ad kc) A r τ) args s 0 0 A) (F0 m 161 ls [.int u0, .ref (ad 0)]) := by
  have hx := S.1
  have hb := S.2.1
  have hown := S.2.2.2.1
  have hu := S.2.2.2.2
  unfold f_X12_next_b161 at hg
  refine wmpI_4 S X mG_2056 dX12_next_161 (fun H locs X => ?_)
  refine lv_goto (tgt := 311) hx hb dX12_next_164 (by decide) ?_
  obtain ⟨-, rfl⟩ := fin_some hg
  exact gr_v S hr hk X dX12_next_311
set_option maxHeartbeats 4000000 in
set_option maxRecDepth 100000 in
theorem w_X12_next_b126 {σ : S5} {v1 : Int32} {H : Heap} {locs : List Loc} {ls : Array Slot} (S : CallFix p m c cX12_next 4 s args uG RX12) (hr : meth.sig.returnType = none) (hk : meth.locks = false) (hR : 3 ≤ R.frames ∧ 70 ≤ R.locals)
    (X : gX (dC, dI) (tM kc) (wM ad kc) Z A s σ H locs) (hl : lv_has ls 4 [(0, .ref (ad 0)), (1, .int v1)]) (hg : f_X12_next_b126 v1 σ = some (r, τ)) : W p l e R s m args below meth c H locs 0 0 (MQ below (gQv (dC, dI) (tM kc) (wM ad kc) A r τ) args s 0 0 A) (F0 m 126 ls []) := by
  have hx := S.1
  have hb := S.2.1
  have hown := S.2.2.2.1
  have hu := S.2.2.2.2
  unfold f_X12_next_b126 at hg
  refine lv_aload_n hx hb dX12_next_126 rfl (lv_at hl 0 rfl) ?_
  refine lv_dup hx hb dX12_next_127 rfl ?_
  refine wmgI_3 (v := (gI σ 3)) S X mG_2055 rfl dX12_next_128 ?_
  refine lv_iconst (v := 2) hx hb dX12_next_131 (by decide) ?_
  refine lv_iadd hx hb dX12_next_132 ?_
  refine wmpI_3 S X mG_2055 dX12_next_133 (fun H locs X => ?_)
  refine lv_aload_n hx hb dX12_next_136 rfl (lv_at hl 0 rfl) ?_
  refine lv_iload_n hx hb dX12_next_137 rfl (lv_at hl 1 rfl) ?_
  refine lv_bipush (v := 45) hx hb dX12_next_138 (by decide) ?_
  refine lv_icmp_ne (tgt := 148) hx hb dX12_next_140 (by decide) (fun c140 => ?_) (fun c140 => ?_)
  · have hg := (if_neg c140).symm.trans hg
    refine lv_iload_n hx hb dX12_next_148 rfl (lv_at hl 1 rfl) ?_
    refine lv_bipush (v := 60) hx hb dX12_next_149 (by decide) ?_
    refine lv_icmp_ne (tgt := 159) hx hb dX12_next_151 (by decide) (fun c151 => ?_) (fun c151 => ?_)
    · have hg := (if_neg c151).symm.trans hg
      refine lv_bipush (v := 21) hx hb dX12_next_159 (by decide) ?_
      exact w_X12_next_b161 S hr hk hR X (lv_sub hl [] rfl) hg
    · have hg := (if_pos c151).symm.trans hg
      refine lv_bipush (v := 22) hx hb dX12_next_154 (by decide) ?_
      refine lv_goto (tgt := 161) hx hb dX12_next_156 (by decide) ?_
      exact w_X12_next_b161 S hr hk hR X (lv_sub hl [] rfl) hg
  · have hg := (if_pos c140).symm.trans hg
    refine lv_bipush (v := 20) hx hb dX12_next_143 (by decide) ?_
    refine lv_goto (tgt := 161) hx hb dX12_next_145 (by decide) ?_
    exact w_X12_next_b161 S hr hk hR X (lv_sub hl [] rfl) hg
set_option maxHeartbeats 4000000 in
set_option maxRecDepth 100000 in
theorem w_X12_next_b114 {σ : S5} {v1 : Int32} {v2 : Int32} {H : Heap} {locs : List Loc} {ls : Array Slot} (S : CallFix p m c cX12_next 4 s args uG RX12) (hr : meth.sig.returnType = none) (hk : meth.locks = false) (hR : 3 ≤ R.frames ∧ 70 ≤ R.locals)
    (X : gX (dC, dI) (tM kc) (wM ad kc) Z A s σ H locs) (hl : lv_has ls 4 [(0, .ref (ad 0)), (1, .int v1), (2, .int v2)]) (hg : f_X12_next_b114 v1 v2 σ = some (r, τ)) : W p l e R s m args below meth c H locs 0 0 (MQ below (gQv (dC, dI) (tM kc) (wM ad kc) A r τ) args s 0 0 A) (F0 m 114 ls []) := by
  have hx := S.1
  have hb := S.2.1
  have hown := S.2.2.2.1
  have hu := S.2.2.2.2
  unfold f_X12_next_b114 at hg
  refine lv_iload_n hx hb dX12_next_114 rfl (lv_at hl 1 rfl) ?_
  refine lv_bipush (v := 61) hx hb dX12_next_115 (by decide) ?_
  refine lv_icmp_ne (tgt := 167) hx hb dX12_next_117 (by decide) (fun c117 => ?_) (fun c117 => ?_)
  · have hg := (if_neg c117).symm.trans hg
    exact w_X12_next_b167 S hr hk hR X (lv_sub hl [0, 1] rfl) hg
  · have hg := (if_pos c117).symm.trans hg
    refine lv_iload_n hx hb dX12_next_120 rfl (lv_at hl 2 rfl) ?_
    refine lv_bipush (v := 61) hx hb dX12_next_121 (by decide) ?_
    refine lv_icmp_ne (tgt := 167) hx hb dX12_next_123 (by decide) (fun c123 => ?_) (fun c123 => ?_)
    · have hg := (if_neg c123).symm.trans hg
      exact w_X12_next_b167 S hr hk hR X (lv_sub hl [0, 1] rfl) hg
    · have hg := (if_pos c123).symm.trans hg
      exact w_X12_next_b126 S hr hk hR X (lv_sub hl [0, 1] rfl) hg
set_option maxHeartbeats 4000000 in
set_option maxRecDepth 100000 in
theorem w_X12_next_b102 {σ : S5} {v1 : Int32} {v2 : Int32} {H : Heap} {locs : List Loc} {ls : Array Slot} (S : CallFix p m c cX12_next 4 s args uG RX12) (hr : meth.sig.returnType = none) (hk : meth.locks = false) (hR : 3 ≤ R.frames ∧ 70 ≤ R.locals)
    (X : gX (dC, dI) (tM kc) (wM ad kc) Z A s σ H locs) (hl : lv_has ls 4 [(0, .ref (ad 0)), (1, .int v1), (2, .int v2)]) (hg : f_X12_next_b102 v1 v2 σ = some (r, τ)) : W p l e R s m args below meth c H locs 0 0 (MQ below (gQv (dC, dI) (tM kc) (wM ad kc) A r τ) args s 0 0 A) (F0 m 102 ls []) := by
  have hx := S.1
  have hb := S.2.1
  have hown := S.2.2.2.1
  have hu := S.2.2.2.2
  unfold f_X12_next_b102 at hg
  refine lv_iload_n hx hb dX12_next_102 rfl (lv_at hl 1 rfl) ?_
  refine lv_bipush (v := 60) hx hb dX12_next_103 (by decide) ?_
  refine lv_icmp_ne (tgt := 114) hx hb dX12_next_105 (by decide) (fun c105 => ?_) (fun c105 => ?_)
  · have hg := (if_neg c105).symm.trans hg
    exact w_X12_next_b114 S hr hk hR X (lv_sub hl [0, 1, 2] rfl) hg
  · have hg := (if_pos c105).symm.trans hg
    refine lv_iload_n hx hb dX12_next_108 rfl (lv_at hl 2 rfl) ?_
    refine lv_bipush (v := 61) hx hb dX12_next_109 (by decide) ?_
    refine lv_icmp_eq (tgt := 126) hx hb dX12_next_111 (by decide) (fun c111 => ?_) (fun c111 => ?_)
    · have hg := (if_pos c111).symm.trans hg
      exact w_X12_next_b126 S hr hk hR X (lv_sub hl [0, 1] rfl) hg
    · have hg := (if_neg c111).symm.trans hg
      exact w_X12_next_b114 S hr hk hR X (lv_sub hl [0, 1, 2] rfl) hg
set_option maxHeartbeats 4000000 in
set_option maxRecDepth 100000 in
theorem w_X12_next_b65 {σ : S5} {v1 : Int32} {H : Heap} {locs : List Loc} {ls : Array Slot} (S : CallFix p m c cX12_next 4 s args uG RX12) (hr : meth.sig.returnType = none) (hk : meth.locks = false) (hR : 3 ≤ R.frames ∧ 70 ≤ R.locals)
    (X : gX (dC, dI) (tM kc) (wM ad kc) Z A s σ H locs) (hl : lv_has ls 4 [(0, .ref (ad 0)), (1, .int v1)]) (hg : f_X12_next_b65 v1 σ = some (r, τ)) : W p l e R s m args below meth c H locs 0 0 (MQ below (gQv (dC, dI) (tM kc) (wM ad kc) A r τ) args s 0 0 A) (F0 m 65 ls []) := by
  have hx := S.1
  have hb := S.2.1
  have hown := S.2.2.2.1
  have hu := S.2.2.2.2
  unfold f_X12_next_b65 at hg
  refine lv_aload_n hx hb dX12_next_65 rfl (lv_at hl 0 rfl) ?_
  refine lv_iload_n hx hb dX12_next_66 rfl (lv_at hl 1 rfl) ?_
  obtain ⟨r67, τ67, hq67, hg⟩ := bd_some hg
  refine gc_Si (As := [.int v1]) (rest := [.ref (ad 0)]) S X (k2_X12_isCapital l dC dI ad kc hq67 H.size) cw_X12_isCapital mG_2494 rfl rfl hl.1 (Nat.le_of_ble_eq_true rfl) dX12_next_67 ⟨by omega, by omega⟩ (fun H locs X => ?_)
  obtain ⟨r70, τ70, hq70, hg⟩ := bd_some hg
  refine gc_Vv (As := [.int r67]) (rest := []) (q0 := 0) (ci := 15) S X (k2_X12_readName l dC dI ad kc hq70 H.size) cw_X12_readName mG_2497 rfl rfl rfl rfl rfl hl.1 (Nat.le_of_ble_eq_true rfl) dX12_next_70 ⟨by omega, by omega⟩ (fun H locs X => ?_)
  refine lv_goto (tgt := 311) hx hb dX12_next_73 (by decide) ?_
  obtain ⟨-, rfl⟩ := fin_some hg
  exact gr_v S hr hk X dX12_next_311
set_option maxHeartbeats 4000000 in
set_option maxRecDepth 100000 in
theorem w_X12_next {σ : S5}  {H : Heap} {locs : List Loc} {ls : Array Slot} (S : CallFix p m c cX12_next 4 s args uG RX12) (hr : meth.sig.returnType = none) (hk : meth.locks = false) (hR : 3 ≤ R.frames ∧ 70 ≤ R.locals)
    (X : gX (dC, dI) (tM kc) (wM ad kc) Z A s σ H locs) (hl : lv_has ls 4 [(0, .ref (ad 0))]) (hg : f_X12_next  σ = some (r, τ)) : W p l e R s m args below meth c H locs 0 0 (MQ below (gQv (dC, dI) (tM kc) (wM ad kc) A r τ) args s 0 0 A) (F0 m 0 ls []) := by
  have hx := S.1
  have hb := S.2.1
  have hown := S.2.2.2.1
  have hu := S.2.2.2.2
  unfold f_X12_next at hg
  refine lv_aload_n hx hb dX12_next_0 rfl (lv_at hl 0 rfl) ?_
  obtain ⟨r1, τ1, hq1, hg⟩ := bd_some hg
  refine gc_Vv (As := []) (rest := []) (q0 := 0) (ci := 15) S X (k2_X12_passBlanks l dC dI ad kc hq1 H.size) cw_X12_passBlanks mG_2483 rfl rfl rfl rfl rfl hl.1 (Nat.le_of_ble_eq_true rfl) dX12_next_1 ⟨by omega, by omega⟩ (fun H locs X => ?_)
  refine lv_aload_n hx hb dX12_next_4 rfl (lv_at hl 0 rfl) ?_
  refine lv_aload_n hx hb dX12_next_5 rfl (lv_at hl 0 rfl) ?_
  refine wmgI_3 (v := (gI τ1 3)) S X mG_2055 rfl dX12_next_6 ?_
  refine wmpI_5 S X mG_2057 dX12_next_9 (fun H locs X => ?_)
  refine lv_aload_n hx hb dX12_next_12 rfl (lv_at hl 0 rfl) ?_
  refine lv_aload_n hx hb dX12_next_13 rfl (lv_at hl 0 rfl) ?_
  refine wmgI_3 (v := (gI τ1 3)) S X mG_2055 rfl dX12_next_14 ?_
  obtain ⟨r17, τ17, hq17, hg⟩ := bd_some hg
  refine gc_Vi (As := [.int (gI τ1 3)]) (rest := []) (q0 := 0) (ci := 15) S X (k2_X12_sign l dC dI ad kc hq17 H.size) cw_X12_sign mG_2487 rfl rfl rfl rfl rfl hl.1 (Nat.le_of_ble_eq_true rfl) dX12_next_17 ⟨by omega, by omega⟩ (fun H locs X => ?_)
  refine lv_istore_n (lv' := [(1, .int r17), (0, .ref (ad 0))]) hx hb dX12_next_20 rfl hl (by decide) rfl (fun ls hl => ?_)
  refine lv_aload_n hx hb dX12_next_21 rfl (lv_at hl 1 rfl) ?_
  refine lv_aload_n hx hb dX12_next_22 rfl (lv_at hl 1 rfl) ?_
  refine wmgI_3 (v := (gI τ17 3)) S X mG_2055 rfl dX12_next_23 ?_
  refine lv_iconst (v := 1) hx hb dX12_next_26 (by decide) ?_
  refine lv_iadd hx hb dX12_next_27 ?_
  obtain ⟨r28, τ28, hq28, hg⟩ := bd_some hg
  refine gc_Vi (As := [.int ((gI τ17 3) + 1)]) (rest := []) (q0 := 0) (ci := 15) S X (k2_X12_sign l dC dI ad kc hq28 H.size) cw_X12_sign mG_2487 rfl rfl rfl rfl rfl hl.1 (Nat.le_of_ble_eq_true rfl) dX12_next_28 ⟨by omega, by omega⟩ (fun H locs X => ?_)
  refine lv_istore_n (lv' := [(2, .int r28), (1, .int r17), (0, .ref (ad 0))]) hx hb dX12_next_31 rfl hl (by decide) rfl (fun ls hl => ?_)
  refine lv_aload_n hx hb dX12_next_32 rfl (lv_at hl 2 rfl) ?_
  refine wmgI_3 (v := (gI τ28 3)) S X mG_2055 rfl dX12_next_33 ?_
  refine lv_aload_n hx hb dX12_next_36 rfl (lv_at hl 2 rfl) ?_
  refine wmgI_1 (v := (gI τ28 1)) S X mG_2052 rfl dX12_next_37 ?_
  refine lv_icmp_lt (tgt := 51) hx hb dX12_next_40 (by decide) (fun c40 => ?_) (fun c40 => ?_)
  · have hg := (if_pos c40).symm.trans hg
    refine lv_iload_n hx hb dX12_next_51 rfl (lv_at hl 1 rfl) ?_
    obtain ⟨r52, τ52, hq52, hg⟩ := bd_some hg
    refine gc_Si (As := [.int r17]) (rest := []) S X (k2_X12_isSmall l dC dI ad kc hq52 H.size) cw_X12_isSmall mG_2491 rfl rfl hl.1 (Nat.le_of_ble_eq_true rfl) dX12_next_52 ⟨by omega, by omega⟩ (fun H locs X => ?_)
    refine lv_if_ne (tgt := 65) hx hb dX12_next_55 (by decide) (fun c55 => ?_) (fun c55 => ?_)
    · have hg := (if_neg c55).symm.trans hg
      exact w_X12_next_b65 S hr hk hR X (lv_sub hl [2, 1] rfl) hg
    · have hg := (if_pos c55).symm.trans hg
      refine lv_iload_n hx hb dX12_next_58 rfl (lv_at hl 1 rfl) ?_
      obtain ⟨r59, τ59, hq59, hg⟩ := bd_some hg
      refine gc_Si (As := [.int r17]) (rest := []) S X (k2_X12_isCapital l dC dI ad kc hq59 H.size) cw_X12_isCapital mG_2494 rfl rfl hl.1 (Nat.le_of_ble_eq_true rfl) dX12_next_59 ⟨by omega, by omega⟩ (fun H locs X => ?_)
      refine lv_if_eq (tgt := 76) hx hb dX12_next_62 (by decide) (fun c62 => ?_) (fun c62 => ?_)
      · have hg := (if_pos c62).symm.trans hg
        refine lv_iload_n hx hb dX12_next_76 rfl (lv_at hl 1 rfl) ?_
        obtain ⟨r77, τ77, hq77, hg⟩ := bd_some hg
        refine gc_Si (As := [.int r17]) (rest := []) S X (k2_X12_isDigit l dC dI ad kc hq77 H.size) cw_X12_isDigit mG_2501 rfl rfl hl.1 (Nat.le_of_ble_eq_true rfl) dX12_next_77 ⟨by omega, by omega⟩ (fun H locs X => ?_)
        refine lv_if_eq (tgt := 90) hx hb dX12_next_80 (by decide) (fun c80 => ?_) (fun c80 => ?_)
        · have hg := (if_pos c80).symm.trans hg
          refine lv_iload_n hx hb dX12_next_90 rfl (lv_at hl 1 rfl) ?_
          refine lv_bipush (v := 45) hx hb dX12_next_91 (by decide) ?_
          refine lv_icmp_ne (tgt := 102) hx hb dX12_next_93 (by decide) (fun c93 => ?_) (fun c93 => ?_)
          · have hg := (if_neg c93).symm.trans hg
            exact w_X12_next_b102 S hr hk hR X (lv_sub hl [2, 1, 0] rfl) hg
          · have hg := (if_pos c93).symm.trans hg
            refine lv_iload_n hx hb dX12_next_96 rfl (lv_at hl 0 rfl) ?_
            refine lv_bipush (v := 62) hx hb dX12_next_97 (by decide) ?_
            refine lv_icmp_eq (tgt := 126) hx hb dX12_next_99 (by decide) (fun c99 => ?_) (fun c99 => ?_)
            · have hg := (if_pos c99).symm.trans hg
              exact w_X12_next_b126 S hr hk hR X (lv_sub hl [2, 1] rfl) hg
            · have hg := (if_neg c99).symm.trans hg
              exact w_X12_next_b102 S hr hk hR X (lv_sub hl [2, 1, 0] rfl) hg
        · have hg := (if_neg c80).symm.trans hg
          refine lv_aload_n hx hb dX12_next_83 rfl (lv_at hl 2 rfl) ?_
          obtain ⟨r84, τ84, hq84, hg⟩ := bd_some hg
          refine gc_Vv (As := []) (rest := []) (q0 := 0) (ci := 15) S X (k2_X12_readNumber l dC dI ad kc hq84 H.size) cw_X12_readNumber mG_2507 rfl rfl rfl rfl rfl hl.1 (Nat.le_of_ble_eq_true rfl) dX12_next_84 ⟨by omega, by omega⟩ (fun H locs X => ?_)
          refine lv_goto (tgt := 311) hx hb dX12_next_87 (by decide) ?_
          obtain ⟨-, rfl⟩ := fin_some hg
          exact gr_v S hr hk X dX12_next_311
      · have hg := (if_neg c62).symm.trans hg
        exact w_X12_next_b65 S hr hk hR X (lv_sub hl [2, 1] rfl) hg
  · have hg := (if_neg c40).symm.trans hg
    refine lv_aload_n hx hb dX12_next_43 rfl (lv_at hl 2 rfl) ?_
    refine lv_iconst (v := 0) hx hb dX12_next_44 (by decide) ?_
    refine wmpI_4 S X mG_2056 dX12_next_45 (fun H locs X => ?_)
    refine lv_goto (tgt := 311) hx hb dX12_next_48 (by decide) ?_
    obtain ⟨-, rfl⟩ := fin_some hg
    exact gr_v S hr hk X dX12_next_311
end MX12_next
set_option maxRecDepth 100000 in
theorem k2_X12_next (l : Launch) (dC : Nat → ClassId) (dI : Nat → Nat → Nat) {Z : ZZ} (ad : Nat → Nat) (kc : Nat → ClassId) {σ τ : S5}  {r : Unit} (hg : f_X12_next  σ = some (r, τ)) (sz : Nat) : Met l yX12_next (Cond.code yX12_next cX12_next 4 none :: uG) { frames := 3, cells := 0, slots := 0, locals := 70 } (gPc (dC, dI) (tM kc) (wM ad kc) Z [.ref (ad 0)] σ sz) (gQv (dC, dI) (tM kc) (wM ad kc) (va_A (wM ad kc σ) sz) r τ) 0 0 (va_A (wM ad kc σ) sz) :=
  g_start (by decide) (Nat.le_of_ble_eq_true rfl) (fun p e s m below meth c ls S hr hk X hl => w_X12_next S hr hk ⟨Nat.le_refl _, Nat.le_refl _⟩ X hl hg)
section MX12_isSign
variable {p : Program} {l : Launch} {e : Env} {R : Room} {s : State} {m : MethodId} {args : Array Value} {below : List Frame} {meth : Method} {c : Code} {dC : Nat → ClassId} {dI : Nat → Nat → Nat} {Z : ZZ} {A : Nat → Prop} {ad : Nat → Nat} {kc : Nat → ClassId} {r : Int32} {τ : S5}
set_option maxHeartbeats 4000000 in
set_option maxRecDepth 100000 in
theorem w_X12_isSign {σ : S5} {a1 : Int32} {H : Heap} {locs : List Loc} {ls : Array Slot} (S : CallFix p m c cX12_isSign 2 s args uG RX12) (hr : meth.sig.returnType = (some .boolean)) (hk : meth.locks = false) (hR : 0 ≤ R.frames ∧ 0 ≤ R.locals)
    (X : gX (dC, dI) (tM kc) (wM ad kc) Z A s σ H locs) (hl : lv_has ls 2 [(0, .ref (ad 0)), (1, .int a1)]) (hg : f_X12_isSign a1 σ = some (r, τ)) : W p l e R s m args below meth c H locs 0 0 (MQ below (gQi (dC, dI) (tM kc) (wM ad kc) A r τ) args s 0 0 A) (F0 m 0 ls []) := by
  have hx := S.1
  have hb := S.2.1
  have hown := S.2.2.2.1
  have hu := S.2.2.2.2
  unfold f_X12_isSign at hg
  refine lv_aload_n hx hb dX12_isSign_0 rfl (lv_at hl 0 rfl) ?_
  refine wmgI_4 (v := (gI σ 4)) S X mG_2056 rfl dX12_isSign_1 ?_
  refine lv_bipush (v := 100) hx hb dX12_isSign_4 (by decide) ?_
  refine lv_iload_n hx hb dX12_isSign_6 rfl (lv_at hl 1 rfl) ?_
  refine lv_iadd hx hb dX12_isSign_7 ?_
  refine lv_icmp_ne (tgt := 15) hx hb dX12_isSign_8 (by decide) (fun c8 => ?_) (fun c8 => ?_)
  · have hg := (if_neg c8).symm.trans hg
    refine lv_iconst (v := 0) hx hb dX12_isSign_15 (by decide) ?_
    obtain ⟨rfl, rfl⟩ := fin_some hg
    exact gr_z S hr hk X (Or.inl rfl) dX12_isSign_16
  · have hg := (if_pos c8).symm.trans hg
    refine lv_iconst (v := 1) hx hb dX12_isSign_11 (by decide) ?_
    refine lv_goto (tgt := 16) hx hb dX12_isSign_12 (by decide) ?_
    obtain ⟨rfl, rfl⟩ := fin_some hg
    exact gr_z S hr hk X (Or.inr rfl) dX12_isSign_16
end MX12_isSign
set_option maxRecDepth 100000 in
theorem k2_X12_isSign (l : Launch) (dC : Nat → ClassId) (dI : Nat → Nat → Nat) {Z : ZZ} (ad : Nat → Nat) (kc : Nat → ClassId) {σ τ : S5} {a1 : Int32} {r : Int32} (hg : f_X12_isSign a1 σ = some (r, τ)) (sz : Nat) : Met l yX12_isSign (Cond.code yX12_isSign cX12_isSign 2 (some .boolean) :: uG) { frames := 0, cells := 0, slots := 0, locals := 0 } (gPc (dC, dI) (tM kc) (wM ad kc) Z [.ref (ad 0), .int a1] σ sz) (gQi (dC, dI) (tM kc) (wM ad kc) (va_A (wM ad kc σ) sz) r τ) 0 0 (va_A (wM ad kc σ) sz) :=
  g_start (by decide) (Nat.le_of_ble_eq_true rfl) (fun p e s m below meth c ls S hr hk X hl => w_X12_isSign S hr hk ⟨Nat.le_refl _, Nat.le_refl _⟩ X hl hg)
section MX12_fail
variable {p : Program} {l : Launch} {e : Env} {R : Room} {s : State} {m : MethodId} {args : Array Value} {below : List Frame} {meth : Method} {c : Code} {dC : Nat → ClassId} {dI : Nat → Nat → Nat} {Z : ZZ} {A : Nat → Prop} {ad : Nat → Nat} {kc : Nat → ClassId} {r : Unit} {τ : S5}
set_option maxHeartbeats 4000000 in
set_option maxRecDepth 100000 in
theorem w_X12_fail {σ : S5} {a1 : Int32} {a2 : Int32} {H : Heap} {locs : List Loc} {ls : Array Slot} (S : CallFix p m c cX12_fail 3 s args uG RX12) (hr : meth.sig.returnType = none) (hk : meth.locks = false) (hR : 0 ≤ R.frames ∧ 0 ≤ R.locals)
    (X : gX (dC, dI) (tM kc) (wM ad kc) Z A s σ H locs) (hl : lv_has ls 3 [(0, .ref (ad 0)), (1, .int a1), (2, .int a2)]) (hg : f_X12_fail a1 a2 σ = some (r, τ)) : W p l e R s m args below meth c H locs 0 0 (MQ below (gQv (dC, dI) (tM kc) (wM ad kc) A r τ) args s 0 0 A) (F0 m 0 ls []) := by
  have hx := S.1
  have hb := S.2.1
  have hown := S.2.2.2.1
  have hu := S.2.2.2.2
  unfold f_X12_fail at hg
  refine lv_aload_n hx hb dX12_fail_0 rfl (lv_at hl 0 rfl) ?_
  refine wmgI_7 (v := (gI σ 7)) S X mG_2060 rfl dX12_fail_1 ?_
  refine lv_if_ne (tgt := 17) hx hb dX12_fail_4 (by decide) (fun c4 => ?_) (fun c4 => ?_)
  · have hg := (if_neg c4).symm.trans hg
    obtain ⟨-, rfl⟩ := fin_some hg
    exact gr_v S hr hk X dX12_fail_17
  · have hg := (if_pos c4).symm.trans hg
    refine lv_aload_n hx hb dX12_fail_7 rfl (lv_at hl 0 rfl) ?_
    refine lv_iload_n hx hb dX12_fail_8 rfl (lv_at hl 1 rfl) ?_
    refine wmpI_7 S X mG_2060 dX12_fail_9 (fun H locs X => ?_)
    refine lv_aload_n hx hb dX12_fail_12 rfl (lv_at hl 0 rfl) ?_
    refine lv_iload_n hx hb dX12_fail_13 rfl (lv_at hl 2 rfl) ?_
    refine wmpI_8 S X mG_2061 dX12_fail_14 (fun H locs X => ?_)
    obtain ⟨-, rfl⟩ := fin_some hg
    exact gr_v S hr hk X dX12_fail_17
end MX12_fail
set_option maxRecDepth 100000 in
theorem k2_X12_fail (l : Launch) (dC : Nat → ClassId) (dI : Nat → Nat → Nat) {Z : ZZ} (ad : Nat → Nat) (kc : Nat → ClassId) {σ τ : S5} {a1 : Int32} {a2 : Int32} {r : Unit} (hg : f_X12_fail a1 a2 σ = some (r, τ)) (sz : Nat) : Met l yX12_fail (Cond.code yX12_fail cX12_fail 3 none :: uG) { frames := 0, cells := 0, slots := 0, locals := 0 } (gPc (dC, dI) (tM kc) (wM ad kc) Z [.ref (ad 0), .int a1, .int a2] σ sz) (gQv (dC, dI) (tM kc) (wM ad kc) (va_A (wM ad kc σ) sz) r τ) 0 0 (va_A (wM ad kc σ) sz) :=
  g_start (by decide) (Nat.le_of_ble_eq_true rfl) (fun p e s m below meth c ls S hr hk X hl => w_X12_fail S hr hk ⟨Nat.le_refl _, Nat.le_refl _⟩ X hl hg)
section MX12_wrong
variable {p : Program} {l : Launch} {e : Env} {R : Room} {s : State} {m : MethodId} {args : Array Value} {below : List Frame} {meth : Method} {c : Code} {dC : Nat → ClassId} {dI : Nat → Nat → Nat} {Z : ZZ} {A : Nat → Prop} {ad : Nat → Nat} {kc : Nat → ClassId} {r : Unit} {τ : S5}
set_option maxHeartbeats 4000000 in
set_option maxRecDepth 100000 in
theorem w_X12_wrong {σ : S5}  {H : Heap} {locs : List Loc} {ls : Array Slot} (S : CallFix p m c cX12_wrong 1 s args uG RX12) (hr : meth.sig.returnType = none) (hk : meth.locks = false) (hR : 1 ≤ R.frames ∧ 22 ≤ R.locals)
    (X : gX (dC, dI) (tM kc) (wM ad kc) Z A s σ H locs) (hl : lv_has ls 1 [(0, .ref (ad 0))]) (hg : f_X12_wrong  σ = some (r, τ)) : W p l e R s m args below meth c H locs 0 0 (MQ below (gQv (dC, dI) (tM kc) (wM ad kc) A r τ) args s 0 0 A) (F0 m 0 ls []) := by
  have hx := S.1
  have hb := S.2.1
  have hown := S.2.2.2.1
  have hu := S.2.2.2.2
  unfold f_X12_wrong at hg
  refine lv_aload_n hx hb dX12_wrong_0 rfl (lv_at hl 0 rfl) ?_
  refine lv_iconst (v := 1) hx hb dX12_wrong_1 (by decide) ?_
  refine lv_aload_n hx hb dX12_wrong_2 rfl (lv_at hl 0 rfl) ?_
  refine wmgI_5 (v := (gI σ 5)) S X mG_2057 rfl dX12_wrong_3 ?_
  obtain ⟨r6, τ6, hq6, hg⟩ := bd_some hg
  refine gc_Vv (As := [.int 1, .int (gI σ 5)]) (rest := []) (q0 := 0) (ci := 15) S X (k2_X12_fail l dC dI ad kc hq6 H.size) cw_X12_fail mG_2522 rfl rfl rfl rfl rfl hl.1 (Nat.le_of_ble_eq_true rfl) dX12_wrong_6 ⟨by omega, by omega⟩ (fun H locs X => ?_)
  obtain ⟨-, rfl⟩ := fin_some hg
  exact gr_v S hr hk X dX12_wrong_9
end MX12_wrong
set_option maxRecDepth 100000 in
theorem k2_X12_wrong (l : Launch) (dC : Nat → ClassId) (dI : Nat → Nat → Nat) {Z : ZZ} (ad : Nat → Nat) (kc : Nat → ClassId) {σ τ : S5}  {r : Unit} (hg : f_X12_wrong  σ = some (r, τ)) (sz : Nat) : Met l yX12_wrong (Cond.code yX12_wrong cX12_wrong 1 none :: uG) { frames := 1, cells := 0, slots := 0, locals := 22 } (gPc (dC, dI) (tM kc) (wM ad kc) Z [.ref (ad 0)] σ sz) (gQv (dC, dI) (tM kc) (wM ad kc) (va_A (wM ad kc σ) sz) r τ) 0 0 (va_A (wM ad kc σ) sz) :=
  g_start (by decide) (Nat.le_of_ble_eq_true rfl) (fun p e s m below meth c ls S hr hk X hl => w_X12_wrong S hr hk ⟨Nat.le_refl _, Nat.le_refl _⟩ X hl hg)
section MX12_accept
variable {p : Program} {l : Launch} {e : Env} {R : Room} {s : State} {m : MethodId} {args : Array Value} {below : List Frame} {meth : Method} {c : Code} {dC : Nat → ClassId} {dI : Nat → Nat → Nat} {Z : ZZ} {A : Nat → Prop} {ad : Nat → Nat} {kc : Nat → ClassId} {r : Unit} {τ : S5}
set_option maxHeartbeats 4000000 in
set_option maxRecDepth 100000 in
theorem w_X12_accept_b18 {σ : S5}  {H : Heap} {locs : List Loc} {ls : Array Slot} (S : CallFix p m c cX12_accept 2 s args uG RX12) (hr : meth.sig.returnType = none) (hk : meth.locks = false) (hR : 4 ≤ R.frames ∧ 93 ≤ R.locals)
    (X : gX (dC, dI) (tM kc) (wM ad kc) Z A s σ H locs) (hl : lv_has ls 2 [(0, .ref (ad 0))]) (hg : f_X12_accept_b18  σ = some (r, τ)) : W p l e R s m args below meth c H locs 0 0 (MQ below (gQv (dC, dI) (tM kc) (wM ad kc) A r τ) args s 0 0 A) (F0 m 18 ls []) := by
  have hx := S.1
  have hb := S.2.1
  have hown := S.2.2.2.1
  have hu := S.2.2.2.2
  unfold f_X12_accept_b18 at hg
  refine lv_aload_n hx hb dX12_accept_18 rfl (lv_at hl 0 rfl) ?_
  obtain ⟨r19, τ19, hq19, hg⟩ := bd_some hg
  refine gc_Vv (As := []) (rest := []) (q0 := 0) (ci := 15) S X (k2_X12_wrong l dC dI ad kc hq19 H.size) cw_X12_wrong mG_2530 rfl rfl rfl rfl rfl hl.1 (Nat.le_of_ble_eq_true rfl) dX12_accept_19 ⟨by omega, by omega⟩ (fun H locs X => ?_)
  obtain ⟨-, rfl⟩ := fin_some hg
  exact gr_v S hr hk X dX12_accept_22
set_option maxHeartbeats 4000000 in
set_option maxRecDepth 100000 in
theorem w_X12_accept {σ : S5} {a1 : Int32} {H : Heap} {locs : List Loc} {ls : Array Slot} (S : CallFix p m c cX12_accept 2 s args uG RX12) (hr : meth.sig.returnType = none) (hk : meth.locks = false) (hR : 4 ≤ R.frames ∧ 93 ≤ R.locals)
    (X : gX (dC, dI) (tM kc) (wM ad kc) Z A s σ H locs) (hl : lv_has ls 2 [(0, .ref (ad 0)), (1, .int a1)]) (hg : f_X12_accept a1 σ = some (r, τ)) : W p l e R s m args below meth c H locs 0 0 (MQ below (gQv (dC, dI) (tM kc) (wM ad kc) A r τ) args s 0 0 A) (F0 m 0 ls []) := by
  have hx := S.1
  have hb := S.2.1
  have hown := S.2.2.2.1
  have hu := S.2.2.2.2
  unfold f_X12_accept at hg
  refine lv_iload_n hx hb dX12_accept_0 rfl (lv_at hl 1 rfl) ?_
  refine lv_if_eq (tgt := 18) hx hb dX12_accept_1 (by decide) (fun c1 => ?_) (fun c1 => ?_)
  · have hg := (if_pos c1).symm.trans hg
    exact w_X12_accept_b18 S hr hk hR X (lv_sub hl [0] rfl) hg
  · have hg := (if_neg c1).symm.trans hg
    refine lv_aload_n hx hb dX12_accept_4 rfl (lv_at hl 0 rfl) ?_
    refine wmgI_7 (v := (gI σ 7)) S X mG_2060 rfl dX12_accept_5 ?_
    refine lv_if_ne (tgt := 18) hx hb dX12_accept_8 (by decide) (fun c8 => ?_) (fun c8 => ?_)
    · have hg := (if_neg c8).symm.trans hg
      exact w_X12_accept_b18 S hr hk hR X (lv_sub hl [0] rfl) hg
    · have hg := (if_pos c8).symm.trans hg
      refine lv_aload_n hx hb dX12_accept_11 rfl (lv_at hl 0 rfl) ?_
      obtain ⟨r12, τ12, hq12, hg⟩ := bd_some hg
      refine gc_Vv (As := []) (rest := []) (q0 := 0) (ci := 15) S X (k2_X12_next l dC dI ad kc hq12 H.size) cw_X12_next mG_2479 rfl rfl rfl rfl rfl hl.1 (Nat.le_of_ble_eq_true rfl) dX12_accept_12 ⟨by omega, by omega⟩ (fun H locs X => ?_)
      refine lv_goto (tgt := 22) hx hb dX12_accept_15 (by decide) ?_
      obtain ⟨-, rfl⟩ := fin_some hg
      exact gr_v S hr hk X dX12_accept_22
end MX12_accept
set_option maxRecDepth 100000 in
theorem k2_X12_accept (l : Launch) (dC : Nat → ClassId) (dI : Nat → Nat → Nat) {Z : ZZ} (ad : Nat → Nat) (kc : Nat → ClassId) {σ τ : S5} {a1 : Int32} {r : Unit} (hg : f_X12_accept a1 σ = some (r, τ)) (sz : Nat) : Met l yX12_accept (Cond.code yX12_accept cX12_accept 2 none :: uG) { frames := 4, cells := 0, slots := 0, locals := 93 } (gPc (dC, dI) (tM kc) (wM ad kc) Z [.ref (ad 0), .int a1] σ sz) (gQv (dC, dI) (tM kc) (wM ad kc) (va_A (wM ad kc σ) sz) r τ) 0 0 (va_A (wM ad kc σ) sz) :=
  g_start (by decide) (Nat.le_of_ble_eq_true rfl) (fun p e s m below meth c ls S hr hk X hl => w_X12_accept S hr hk ⟨Nat.le_refl _, Nat.le_refl _⟩ X hl hg)
section MX12_node
variable {p : Program} {l : Launch} {e : Env} {R : Room} {s : State} {m : MethodId} {args : Array Value} {below : List Frame} {meth : Method} {c : Code} {dC : Nat → ClassId} {dI : Nat → Nat → Nat} {Z : ZZ} {A : Nat → Prop} {ad : Nat → Nat} {kc : Nat → ClassId} {r : Int32} {τ : S5}
set_option maxHeartbeats 4000000 in
set_option maxRecDepth 100000 in
theorem w_X12_node {σ : S5} {a1 : Int32} {H : Heap} {locs : List Loc} {ls : Array Slot} (S : CallFix p m c cX12_node 3 s args uG RX12) (hr : meth.sig.returnType = (some .int)) (hk : meth.locks = false) (hR : 0 ≤ R.frames ∧ 0 ≤ R.locals)
    (X : gX (dC, dI) (tM kc) (wM ad kc) Z A s σ H locs) (hl : lv_has ls 3 [(0, .ref (ad 0)), (1, .int a1)]) (hg : f_X12_node a1 σ = some (r, τ)) : W p l e R s m args below meth c H locs 0 0 (MQ below (gQi (dC, dI) (tM kc) (wM ad kc) A r τ) args s 0 0 A) (F0 m 0 ls []) := by
  have hx := S.1
  have hb := S.2.1
  have hown := S.2.2.2.1
  have hu := S.2.2.2.2
  unfold f_X12_node at hg
  refine lv_aload_n hx hb dX12_node_0 rfl (lv_at hl 0 rfl) ?_
  refine wmgI_9 (v := (gI σ 9)) S X mG_2062 rfl dX12_node_1 ?_
  refine lv_istore_n (lv' := [(2, .int (gI σ 9)), (0, .ref (ad 0)), (1, .int a1)]) hx hb dX12_node_4 rfl hl (by decide) rfl (fun ls hl => ?_)
  refine lv_aload_n hx hb dX12_node_5 rfl (lv_at hl 1 rfl) ?_
  refine lv_dup hx hb dX12_node_6 rfl ?_
  refine wmgI_9 (v := (gI σ 9)) S X mG_2062 rfl dX12_node_7 ?_
  refine lv_iconst (v := 1) hx hb dX12_node_10 (by decide) ?_
  refine lv_iadd hx hb dX12_node_11 ?_
  refine wmpI_9 S X mG_2062 dX12_node_12 (fun H locs X => ?_)
  refine lv_aload_n hx hb dX12_node_15 rfl (lv_at hl 1 rfl) ?_
  refine wmgR_0_13 S X mG_2063 dX12_node_16 ?_
  refine lv_iload_n hx hb dX12_node_19 rfl (lv_at hl 0 rfl) ?_
  refine lv_iload_n hx hb dX12_node_20 rfl (lv_at hl 2 rfl) ?_
  obtain ⟨hi21, hg⟩ := gd_some hg
  refine wmsA_2 S X hi21 dX12_node_21 (fun H locs X => ?_)
  refine lv_aload_n hx hb dX12_node_22 rfl (lv_at hl 1 rfl) ?_
  refine wmgR_0_14 S X mG_2064 dX12_node_23 ?_
  refine lv_iload_n hx hb dX12_node_26 rfl (lv_at hl 0 rfl) ?_
  refine lv_iconst (v := (-1)) hx hb dX12_node_27 (by decide) ?_
  obtain ⟨hi28, hg⟩ := gd_some hg
  refine wmsA_3 S X hi28 dX12_node_28 (fun H locs X => ?_)
  refine lv_aload_n hx hb dX12_node_29 rfl (lv_at hl 1 rfl) ?_
  refine wmgR_0_15 S X mG_2065 dX12_node_30 ?_
  refine lv_iload_n hx hb dX12_node_33 rfl (lv_at hl 0 rfl) ?_
  refine lv_iconst (v := (-1)) hx hb dX12_node_34 (by decide) ?_
  obtain ⟨hi35, hg⟩ := gd_some hg
  refine wmsA_4 S X hi35 dX12_node_35 (fun H locs X => ?_)
  refine lv_aload_n hx hb dX12_node_36 rfl (lv_at hl 1 rfl) ?_
  refine wmgR_0_16 S X mG_2066 dX12_node_37 ?_
  refine lv_iload_n hx hb dX12_node_40 rfl (lv_at hl 0 rfl) ?_
  refine lv_iconst (v := (-1)) hx hb dX12_node_41 (by decide) ?_
  obtain ⟨hi42, hg⟩ := gd_some hg
  refine wmsA_5 S X hi42 dX12_node_42 (fun H locs X => ?_)
  refine lv_aload_n hx hb dX12_node_43 rfl (lv_at hl 1 rfl) ?_
  refine wmgR_0_17 S X mG_2067 dX12_node_44 ?_
  refine lv_iload_n hx hb dX12_node_47 rfl (lv_at hl 0 rfl) ?_
  refine lv_aload_n hx hb dX12_node_48 rfl (lv_at hl 1 rfl) ?_
  refine wmgI_5 (v := (gI σ 5)) S X mG_2057 rfl dX12_node_49 ?_
  obtain ⟨hi52, hg⟩ := gd_some hg
  refine wmsA_6 S X hi52 dX12_node_52 (fun H locs X => ?_)
  refine lv_aload_n hx hb dX12_node_53 rfl (lv_at hl 1 rfl) ?_
  refine wmgR_0_18 S X mG_2068 dX12_node_54 ?_
  refine lv_iload_n hx hb dX12_node_57 rfl (lv_at hl 0 rfl) ?_
  refine lv_iconst (v := 0) hx hb dX12_node_58 (by decide) ?_
  obtain ⟨hi59, hg⟩ := gd_some hg
  refine wmsA_7 S X hi59 dX12_node_59 (fun H locs X => ?_)
  refine lv_aload_n hx hb dX12_node_60 rfl (lv_at hl 1 rfl) ?_
  refine wmgR_0_19 S X mG_2069 dX12_node_61 ?_
  refine lv_iload_n hx hb dX12_node_64 rfl (lv_at hl 0 rfl) ?_
  refine lv_iconst (v := 0) hx hb dX12_node_65 (by decide) ?_
  obtain ⟨hi66, hg⟩ := gd_some hg
  refine wmsA_8 S X hi66 dX12_node_66 (fun H locs X => ?_)
  refine lv_aload_n hx hb dX12_node_67 rfl (lv_at hl 1 rfl) ?_
  refine wmgR_0_20 S X mG_2070 dX12_node_68 ?_
  refine lv_iload_n hx hb dX12_node_71 rfl (lv_at hl 0 rfl) ?_
  refine lv_lconst (v := 0) hx hb dX12_node_72 rfl ?_
  obtain ⟨hi73, hg⟩ := gd_some hg
  refine wmsB_0 S X hi73 dX12_node_73 (fun H locs X => ?_)
  refine lv_aload_n hx hb dX12_node_74 rfl (lv_at hl 1 rfl) ?_
  refine wmgR_0_21 S X mG_2071 dX12_node_75 ?_
  refine lv_iload_n hx hb dX12_node_78 rfl (lv_at hl 0 rfl) ?_
  refine lv_aload_n hx hb dX12_node_79 rfl (lv_at hl 1 rfl) ?_
  refine wmgI_10 (v := (gI σ 10)) S X mG_2073 rfl dX12_node_80 ?_
  obtain ⟨hi83, hg⟩ := gd_some hg
  refine wmsA_9 S X hi83 dX12_node_83 (fun H locs X => ?_)
  refine lv_aload_n hx hb dX12_node_84 rfl (lv_at hl 1 rfl) ?_
  refine wmgR_0_22 S X mG_2072 dX12_node_85 ?_
  refine lv_iload_n hx hb dX12_node_88 rfl (lv_at hl 0 rfl) ?_
  refine lv_iconst (v := 0) hx hb dX12_node_89 (by decide) ?_
  obtain ⟨hi90, hg⟩ := gd_some hg
  refine wmsA_10 S X hi90 dX12_node_90 (fun H locs X => ?_)
  refine lv_iload_n hx hb dX12_node_91 rfl (lv_at hl 0 rfl) ?_
  obtain ⟨rfl, rfl⟩ := fin_some hg
  exact gr_i S hr hk X dX12_node_92
end MX12_node
set_option maxRecDepth 100000 in
theorem k2_X12_node (l : Launch) (dC : Nat → ClassId) (dI : Nat → Nat → Nat) {Z : ZZ} (ad : Nat → Nat) (kc : Nat → ClassId) {σ τ : S5} {a1 : Int32} {r : Int32} (hg : f_X12_node a1 σ = some (r, τ)) (sz : Nat) : Met l yX12_node (Cond.code yX12_node cX12_node 3 (some .int) :: uG) { frames := 0, cells := 0, slots := 0, locals := 0 } (gPc (dC, dI) (tM kc) (wM ad kc) Z [.ref (ad 0), .int a1] σ sz) (gQi (dC, dI) (tM kc) (wM ad kc) (va_A (wM ad kc σ) sz) r τ) 0 0 (va_A (wM ad kc σ) sz) :=
  g_start (by decide) (Nat.le_of_ble_eq_true rfl) (fun p e s m below meth c ls S hr hk X hl => w_X12_node S hr hk ⟨Nat.le_refl _, Nat.le_refl _⟩ X hl hg)
section MX12_part
variable {p : Program} {l : Launch} {e : Env} {R : Room} {s : State} {m : MethodId} {args : Array Value} {below : List Frame} {meth : Method} {c : Code} {dC : Nat → ClassId} {dI : Nat → Nat → Nat} {Z : ZZ} {A : Nat → Prop} {ad : Nat → Nat} {kc : Nat → ClassId} {r : Int32} {τ : S5}
set_option maxHeartbeats 4000000 in
set_option maxRecDepth 100000 in
theorem w_X12_part_b46 {σ : S5}  {H : Heap} {locs : List Loc} {ls : Array Slot} (S : CallFix p m c cX12_part 1 s args uG RX12) (hr : meth.sig.returnType = (some .boolean)) (hk : meth.locks = false) (hR : 1 ≤ R.frames ∧ 22 ≤ R.locals)
    (X : gX (dC, dI) (tM kc) (wM ad kc) Z A s σ H locs) (hl : lv_has ls 1 [(0, .ref (ad 0))]) (hg : f_X12_part_b46  σ = some (r, τ)) : W p l e R s m args below meth c H locs 0 0 (MQ below (gQi (dC, dI) (tM kc) (wM ad kc) A r τ) args s 0 0 A) (F0 m 46 ls []) := by
  have hx := S.1
  have hb := S.2.1
  have hown := S.2.2.2.1
  have hu := S.2.2.2.2
  unfold f_X12_part_b46 at hg
  refine lv_aload_n hx hb dX12_part_46 rfl (lv_at hl 0 rfl) ?_
  refine wmgI_7 (v := (gI σ 7)) S X mG_2060 rfl dX12_part_47 ?_
  refine lv_if_ne (tgt := 57) hx hb dX12_part_50 (by decide) (fun c50 => ?_) (fun c50 => ?_)
  · have hg := (if_neg c50).symm.trans hg
    refine lv_iconst (v := 0) hx hb dX12_part_57 (by decide) ?_
    obtain ⟨rfl, rfl⟩ := fin_some hg
    exact gr_z S hr hk X (Or.inl rfl) dX12_part_58
  · have hg := (if_pos c50).symm.trans hg
    refine lv_iconst (v := 1) hx hb dX12_part_53 (by decide) ?_
    refine lv_goto (tgt := 58) hx hb dX12_part_54 (by decide) ?_
    obtain ⟨rfl, rfl⟩ := fin_some hg
    exact gr_z S hr hk X (Or.inr rfl) dX12_part_58
set_option maxHeartbeats 4000000 in
set_option maxRecDepth 100000 in
theorem w_X12_part_b19 {σ : S5}  {H : Heap} {locs : List Loc} {ls : Array Slot} (S : CallFix p m c cX12_part 1 s args uG RX12) (hr : meth.sig.returnType = (some .boolean)) (hk : meth.locks = false) (hR : 1 ≤ R.frames ∧ 22 ≤ R.locals)
    (X : gX (dC, dI) (tM kc) (wM ad kc) Z A s σ H locs) (hl : lv_has ls 1 [(0, .ref (ad 0))]) (hg : f_X12_part_b19  σ = some (r, τ)) : W p l e R s m args below meth c H locs 0 0 (MQ below (gQi (dC, dI) (tM kc) (wM ad kc) A r τ) args s 0 0 A) (F0 m 19 ls []) := by
  have hx := S.1
  have hb := S.2.1
  have hown := S.2.2.2.1
  have hu := S.2.2.2.2
  unfold f_X12_part_b19 at hg
  refine lv_aload_n hx hb dX12_part_19 rfl (lv_at hl 0 rfl) ?_
  refine wmgI_7 (v := (gI σ 7)) S X mG_2060 rfl dX12_part_20 ?_
  refine lv_if_ne (tgt := 46) hx hb dX12_part_23 (by decide) (fun c23 => ?_) (fun c23 => ?_)
  · have hg := (if_neg c23).symm.trans hg
    exact w_X12_part_b46 S hr hk hR X (lv_sub hl [0] rfl) hg
  · have hg := (if_pos c23).symm.trans hg
    refine lv_aload_n hx hb dX12_part_26 rfl (lv_at hl 0 rfl) ?_
    refine lv_dup hx hb dX12_part_27 rfl ?_
    refine wmgI_11 (v := (gI σ 11)) S X mG_2075 rfl dX12_part_28 ?_
    refine lv_iconst (v := 1) hx hb dX12_part_31 (by decide) ?_
    refine lv_iadd hx hb dX12_part_32 ?_
    refine wmpI_11 S X mG_2075 dX12_part_33 (fun H locs X => ?_)
    refine lv_aload_n hx hb dX12_part_36 rfl (lv_at hl 0 rfl) ?_
    refine lv_dup hx hb dX12_part_37 rfl ?_
    refine wmgI_12 (v := (gI σ 12)) S X mG_2076 rfl dX12_part_38 ?_
    refine lv_iconst (v := 1) hx hb dX12_part_41 (by decide) ?_
    refine lv_iadd hx hb dX12_part_42 ?_
    refine wmpI_12 S X mG_2076 dX12_part_43 (fun H locs X => ?_)
    exact w_X12_part_b46 S hr hk hR X (lv_sub hl [0] rfl) hg
set_option maxHeartbeats 4000000 in
set_option maxRecDepth 100000 in
theorem w_X12_part {σ : S5}  {H : Heap} {locs : List Loc} {ls : Array Slot} (S : CallFix p m c cX12_part 1 s args uG RX12) (hr : meth.sig.returnType = (some .boolean)) (hk : meth.locks = false) (hR : 1 ≤ R.frames ∧ 22 ≤ R.locals)
    (X : gX (dC, dI) (tM kc) (wM ad kc) Z A s σ H locs) (hl : lv_has ls 1 [(0, .ref (ad 0))]) (hg : f_X12_part  σ = some (r, τ)) : W p l e R s m args below meth c H locs 0 0 (MQ below (gQi (dC, dI) (tM kc) (wM ad kc) A r τ) args s 0 0 A) (F0 m 0 ls []) := by
  have hx := S.1
  have hb := S.2.1
  have hown := S.2.2.2.1
  have hu := S.2.2.2.2
  unfold f_X12_part at hg
  refine lv_aload_n hx hb dX12_part_0 rfl (lv_at hl 0 rfl) ?_
  refine wmgI_11 (v := (gI σ 11)) S X mG_2075 rfl dX12_part_1 ?_
  refine lv_sipush (v := 600) hx hb dX12_part_4 (by decide) ?_
  refine lv_icmp_ne (tgt := 19) hx hb dX12_part_7 (by decide) (fun c7 => ?_) (fun c7 => ?_)
  · have hg := (if_neg c7).symm.trans hg
    exact w_X12_part_b19 S hr hk hR X (lv_sub hl [0] rfl) hg
  · have hg := (if_pos c7).symm.trans hg
    refine lv_aload_n hx hb dX12_part_10 rfl (lv_at hl 0 rfl) ?_
    refine lv_iconst (v := 4) hx hb dX12_part_11 (by decide) ?_
    refine lv_aload_n hx hb dX12_part_12 rfl (lv_at hl 0 rfl) ?_
    refine wmgI_5 (v := (gI σ 5)) S X mG_2057 rfl dX12_part_13 ?_
    obtain ⟨r16, τ16, hq16, hg⟩ := bd_some hg
    refine gc_Vv (As := [.int 4, .int (gI σ 5)]) (rest := []) (q0 := 0) (ci := 15) S X (k2_X12_fail l dC dI ad kc hq16 H.size) cw_X12_fail mG_2522 rfl rfl rfl rfl rfl hl.1 (Nat.le_of_ble_eq_true rfl) dX12_part_16 ⟨by omega, by omega⟩ (fun H locs X => ?_)
    exact w_X12_part_b19 S hr hk hR X (lv_sub hl [0] rfl) hg
end MX12_part
set_option maxRecDepth 100000 in
theorem k2_X12_part (l : Launch) (dC : Nat → ClassId) (dI : Nat → Nat → Nat) {Z : ZZ} (ad : Nat → Nat) (kc : Nat → ClassId) {σ τ : S5}  {r : Int32} (hg : f_X12_part  σ = some (r, τ)) (sz : Nat) : Met l yX12_part (Cond.code yX12_part cX12_part 1 (some .boolean) :: uG) { frames := 1, cells := 0, slots := 0, locals := 22 } (gPc (dC, dI) (tM kc) (wM ad kc) Z [.ref (ad 0)] σ sz) (gQi (dC, dI) (tM kc) (wM ad kc) (va_A (wM ad kc σ) sz) r τ) 0 0 (va_A (wM ad kc σ) sz) :=
  g_start (by decide) (Nat.le_of_ble_eq_true rfl) (fun p e s m below meth c ls S hr hk X hl => w_X12_part S hr hk ⟨Nat.le_refl _, Nat.le_refl _⟩ X hl hg)
section MX12_opens
variable {p : Program} {l : Launch} {e : Env} {R : Room} {s : State} {m : MethodId} {args : Array Value} {below : List Frame} {meth : Method} {c : Code} {dC : Nat → ClassId} {dI : Nat → Nat → Nat} {Z : ZZ} {A : Nat → Prop} {ad : Nat → Nat} {kc : Nat → ClassId} {r : Unit} {τ : S5}
set_option maxHeartbeats 4000000 in
set_option maxRecDepth 100000 in
theorem w_X12_opens_b13 {σ : S5}  {H : Heap} {locs : List Loc} {ls : Array Slot} (S : CallFix p m c cX12_opens 1 s args uG RX12) (hr : meth.sig.returnType = none) (hk : meth.locks = false) (hR : 2 ≤ R.frames ∧ 42 ≤ R.locals)
    (X : gX (dC, dI) (tM kc) (wM ad kc) Z A s σ H locs) (hl : lv_has ls 1 [(0, .ref (ad 0))]) (hg : f_X12_opens_b13  σ = some (r, τ)) : W p l e R s m args below meth c H locs 0 0 (MQ below (gQv (dC, dI) (tM kc) (wM ad kc) A r τ) args s 0 0 A) (F0 m 13 ls []) := by
  have hx := S.1
  have hb := S.2.1
  have hown := S.2.2.2.1
  have hu := S.2.2.2.2
  unfold f_X12_opens_b13 at hg
  refine lv_aload_n hx hb dX12_opens_13 rfl (lv_at hl 0 rfl) ?_
  refine lv_dup hx hb dX12_opens_14 rfl ?_
  refine wmgI_15 (v := (gI σ 15)) S X mG_2084 rfl dX12_opens_15 ?_
  refine lv_iconst (v := 1) hx hb dX12_opens_18 (by decide) ?_
  refine lv_iadd hx hb dX12_opens_19 ?_
  refine wmpI_15 S X mG_2084 dX12_opens_20 (fun H locs X => ?_)
  obtain ⟨-, rfl⟩ := fin_some hg
  exact gr_v S hr hk X dX12_opens_23
set_option maxHeartbeats 4000000 in
set_option maxRecDepth 100000 in
theorem w_X12_opens {σ : S5}  {H : Heap} {locs : List Loc} {ls : Array Slot} (S : CallFix p m c cX12_opens 1 s args uG RX12) (hr : meth.sig.returnType = none) (hk : meth.locks = false) (hR : 2 ≤ R.frames ∧ 42 ≤ R.locals)
    (X : gX (dC, dI) (tM kc) (wM ad kc) Z A s σ H locs) (hl : lv_has ls 1 [(0, .ref (ad 0))]) (hg : f_X12_opens  σ = some (r, τ)) : W p l e R s m args below meth c H locs 0 0 (MQ below (gQv (dC, dI) (tM kc) (wM ad kc) A r τ) args s 0 0 A) (F0 m 0 ls []) := by
  have hx := S.1
  have hb := S.2.1
  have hown := S.2.2.2.1
  have hu := S.2.2.2.2
  unfold f_X12_opens at hg
  refine lv_aload_n hx hb dX12_opens_0 rfl (lv_at hl 0 rfl) ?_
  refine wmgI_15 (v := (gI σ 15)) S X mG_2084 rfl dX12_opens_1 ?_
  refine lv_bipush (v := 30) hx hb dX12_opens_4 (by decide) ?_
  refine lv_icmp_ne (tgt := 13) hx hb dX12_opens_6 (by decide) (fun c6 => ?_) (fun c6 => ?_)
  · have hg := (if_neg c6).symm.trans hg
    exact w_X12_opens_b13 S hr hk hR X (lv_sub hl [0] rfl) hg
  · have hg := (if_pos c6).symm.trans hg
    refine lv_aload_n hx hb dX12_opens_9 rfl (lv_at hl 0 rfl) ?_
    obtain ⟨r10, τ10, hq10, hg⟩ := bd_some hg
    refine gc_Vv (As := []) (rest := []) (q0 := 0) (ci := 15) S X (k2_X12_wrong l dC dI ad kc hq10 H.size) cw_X12_wrong mG_2530 rfl rfl rfl rfl rfl hl.1 (Nat.le_of_ble_eq_true rfl) dX12_opens_10 ⟨by omega, by omega⟩ (fun H locs X => ?_)
    exact w_X12_opens_b13 S hr hk hR X (lv_sub hl [0] rfl) hg
end MX12_opens
set_option maxRecDepth 100000 in
theorem k2_X12_opens (l : Launch) (dC : Nat → ClassId) (dI : Nat → Nat → Nat) {Z : ZZ} (ad : Nat → Nat) (kc : Nat → ClassId) {σ τ : S5}  {r : Unit} (hg : f_X12_opens  σ = some (r, τ)) (sz : Nat) : Met l yX12_opens (Cond.code yX12_opens cX12_opens 1 none :: uG) { frames := 2, cells := 0, slots := 0, locals := 42 } (gPc (dC, dI) (tM kc) (wM ad kc) Z [.ref (ad 0)] σ sz) (gQv (dC, dI) (tM kc) (wM ad kc) (va_A (wM ad kc σ) sz) r τ) 0 0 (va_A (wM ad kc σ) sz) :=
  g_start (by decide) (Nat.le_of_ble_eq_true rfl) (fun p e s m below meth c ls S hr hk X hl => w_X12_opens S hr hk ⟨Nat.le_refl _, Nat.le_refl _⟩ X hl hg)
section MX12_pile
variable {p : Program} {l : Launch} {e : Env} {R : Room} {s : State} {m : MethodId} {args : Array Value} {below : List Frame} {meth : Method} {c : Code} {dC : Nat → ClassId} {dI : Nat → Nat → Nat} {Z : ZZ} {A : Nat → Prop} {ad : Nat → Nat} {kc : Nat → ClassId} {r : Unit} {τ : S5}
set_option maxHeartbeats 4000000 in
set_option maxRecDepth 100000 in
theorem w_X12_pile {σ : S5} {a1 : Int32} {a2 : Int32} {a3 : Int32} {H : Heap} {locs : List Loc} {ls : Array Slot} (S : CallFix p m c cX12_pile 4 s args uG RX12) (hr : meth.sig.returnType = none) (hk : meth.locks = false) (hR : 0 ≤ R.frames ∧ 0 ≤ R.locals)
    (X : gX (dC, dI) (tM kc) (wM ad kc) Z A s σ H locs) (hl : lv_has ls 4 [(0, .ref (ad 0)), (1, .int a1), (2, .int a2), (3, .int a3)]) (hg : f_X12_pile a1 a2 a3 σ = some (r, τ)) : W p l e R s m args below meth c H locs 0 0 (MQ below (gQv (dC, dI) (tM kc) (wM ad kc) A r τ) args s 0 0 A) (F0 m 0 ls []) := by
  have hx := S.1
  have hb := S.2.1
  have hown := S.2.2.2.1
  have hu := S.2.2.2.2
  unfold f_X12_pile at hg
  refine lv_aload_n hx hb dX12_pile_0 rfl (lv_at hl 0 rfl) ?_
  refine wmgR_0_36 S X mG_2086 dX12_pile_1 ?_
  refine lv_aload_n hx hb dX12_pile_4 rfl (lv_at hl 0 rfl) ?_
  refine wmgI_16 (v := (gI σ 16)) S X mG_2085 rfl dX12_pile_5 ?_
  refine lv_iload_n hx hb dX12_pile_8 rfl (lv_at hl 1 rfl) ?_
  obtain ⟨hi9, hg⟩ := gd_some hg
  refine wmsA_14 S X hi9 dX12_pile_9 (fun H locs X => ?_)
  refine lv_aload_n hx hb dX12_pile_10 rfl (lv_at hl 0 rfl) ?_
  refine wmgR_0_37 S X mG_2087 dX12_pile_11 ?_
  refine lv_aload_n hx hb dX12_pile_14 rfl (lv_at hl 0 rfl) ?_
  refine wmgI_16 (v := (gI σ 16)) S X mG_2085 rfl dX12_pile_15 ?_
  refine lv_iload_n hx hb dX12_pile_18 rfl (lv_at hl 2 rfl) ?_
  obtain ⟨hi19, hg⟩ := gd_some hg
  refine wmsA_15 S X hi19 dX12_pile_19 (fun H locs X => ?_)
  refine lv_aload_n hx hb dX12_pile_20 rfl (lv_at hl 0 rfl) ?_
  refine wmgR_0_38 S X mG_2088 dX12_pile_21 ?_
  refine lv_aload_n hx hb dX12_pile_24 rfl (lv_at hl 0 rfl) ?_
  refine wmgI_16 (v := (gI σ 16)) S X mG_2085 rfl dX12_pile_25 ?_
  refine lv_iload_n hx hb dX12_pile_28 rfl (lv_at hl 3 rfl) ?_
  obtain ⟨hi29, hg⟩ := gd_some hg
  refine wmsA_16 S X hi29 dX12_pile_29 (fun H locs X => ?_)
  refine lv_aload_n hx hb dX12_pile_30 rfl (lv_at hl 0 rfl) ?_
  refine wmgR_0_39 S X mG_2089 dX12_pile_31 ?_
  refine lv_aload_n hx hb dX12_pile_34 rfl (lv_at hl 0 rfl) ?_
  refine wmgI_16 (v := (gI σ 16)) S X mG_2085 rfl dX12_pile_35 ?_
  refine lv_iconst (v := 0) hx hb dX12_pile_38 (by decide) ?_
  obtain ⟨hi39, hg⟩ := gd_some hg
  refine wmsA_17 S X hi39 dX12_pile_39 (fun H locs X => ?_)
  refine lv_aload_n hx hb dX12_pile_40 rfl (lv_at hl 0 rfl) ?_
  refine lv_dup hx hb dX12_pile_41 rfl ?_
  refine wmgI_16 (v := (gI σ 16)) S X mG_2085 rfl dX12_pile_42 ?_
  refine lv_iconst (v := 1) hx hb dX12_pile_45 (by decide) ?_
  refine lv_iadd hx hb dX12_pile_46 ?_
  refine wmpI_16 S X mG_2085 dX12_pile_47 (fun H locs X => ?_)
  obtain ⟨-, rfl⟩ := fin_some hg
  exact gr_v S hr hk X dX12_pile_50
end MX12_pile
set_option maxRecDepth 100000 in
theorem k2_X12_pile (l : Launch) (dC : Nat → ClassId) (dI : Nat → Nat → Nat) {Z : ZZ} (ad : Nat → Nat) (kc : Nat → ClassId) {σ τ : S5} {a1 : Int32} {a2 : Int32} {a3 : Int32} {r : Unit} (hg : f_X12_pile a1 a2 a3 σ = some (r, τ)) (sz : Nat) : Met l yX12_pile (Cond.code yX12_pile cX12_pile 4 none :: uG) { frames := 0, cells := 0, slots := 0, locals := 0 } (gPc (dC, dI) (tM kc) (wM ad kc) Z [.ref (ad 0), .int a1, .int a2, .int a3] σ sz) (gQv (dC, dI) (tM kc) (wM ad kc) (va_A (wM ad kc σ) sz) r τ) 0 0 (va_A (wM ad kc σ) sz) :=
  g_start (by decide) (Nat.le_of_ble_eq_true rfl) (fun p e s m below meth c ls S hr hk X hl => w_X12_pile S hr hk ⟨Nat.le_refl _, Nat.le_refl _⟩ X hl hg)
section MX12_operand
variable {p : Program} {l : Launch} {e : Env} {R : Room} {s : State} {m : MethodId} {args : Array Value} {below : List Frame} {meth : Method} {c : Code} {dC : Nat → ClassId} {dI : Nat → Nat → Nat} {Z : ZZ} {A : Nat → Prop} {ad : Nat → Nat} {kc : Nat → ClassId} {r : Unit} {τ : S5}
set_option maxHeartbeats 4000000 in
set_option maxRecDepth 100000 in
theorem w_X12_operand {σ : S5} {a1 : Int32} {H : Heap} {locs : List Loc} {ls : Array Slot} (S : CallFix p m c cX12_operand 2 s args uG RX12) (hr : meth.sig.returnType = none) (hk : meth.locks = false) (hR : 0 ≤ R.frames ∧ 0 ≤ R.locals)
    (X : gX (dC, dI) (tM kc) (wM ad kc) Z A s σ H locs) (hl : lv_has ls 2 [(0, .ref (ad 0)), (1, .int a1)]) (hg : f_X12_operand a1 σ = some (r, τ)) : W p l e R s m args below meth c H locs 0 0 (MQ below (gQv (dC, dI) (tM kc) (wM ad kc) A r τ) args s 0 0 A) (F0 m 0 ls []) := by
  have hx := S.1
  have hb := S.2.1
  have hown := S.2.2.2.1
  have hu := S.2.2.2.2
  unfold f_X12_operand at hg
  refine lv_aload_n hx hb dX12_operand_0 rfl (lv_at hl 0 rfl) ?_
  refine wmgR_0_41 S X mG_2091 dX12_operand_1 ?_
  refine lv_aload_n hx hb dX12_operand_4 rfl (lv_at hl 0 rfl) ?_
  refine wmgI_17 (v := (gI σ 17)) S X mG_2090 rfl dX12_operand_5 ?_
  refine lv_iload_n hx hb dX12_operand_8 rfl (lv_at hl 1 rfl) ?_
  obtain ⟨hi9, hg⟩ := gd_some hg
  refine wmsA_18 S X hi9 dX12_operand_9 (fun H locs X => ?_)
  refine lv_aload_n hx hb dX12_operand_10 rfl (lv_at hl 0 rfl) ?_
  refine lv_dup hx hb dX12_operand_11 rfl ?_
  refine wmgI_17 (v := (gI σ 17)) S X mG_2090 rfl dX12_operand_12 ?_
  refine lv_iconst (v := 1) hx hb dX12_operand_15 (by decide) ?_
  refine lv_iadd hx hb dX12_operand_16 ?_
  refine wmpI_17 S X mG_2090 dX12_operand_17 (fun H locs X => ?_)
  obtain ⟨-, rfl⟩ := fin_some hg
  exact gr_v S hr hk X dX12_operand_20
end MX12_operand
set_option maxRecDepth 100000 in
theorem k2_X12_operand (l : Launch) (dC : Nat → ClassId) (dI : Nat → Nat → Nat) {Z : ZZ} (ad : Nat → Nat) (kc : Nat → ClassId) {σ τ : S5} {a1 : Int32} {r : Unit} (hg : f_X12_operand a1 σ = some (r, τ)) (sz : Nat) : Met l yX12_operand (Cond.code yX12_operand cX12_operand 2 none :: uG) { frames := 0, cells := 0, slots := 0, locals := 0 } (gPc (dC, dI) (tM kc) (wM ad kc) Z [.ref (ad 0), .int a1] σ sz) (gQv (dC, dI) (tM kc) (wM ad kc) (va_A (wM ad kc σ) sz) r τ) 0 0 (va_A (wM ad kc σ) sz) :=
  g_start (by decide) (Nat.le_of_ble_eq_true rfl) (fun p e s m below meth c ls S hr hk X hl => w_X12_operand S hr hk ⟨Nat.le_refl _, Nat.le_refl _⟩ X hl hg)
section MX12_taken
variable {p : Program} {l : Launch} {e : Env} {R : Room} {s : State} {m : MethodId} {args : Array Value} {below : List Frame} {meth : Method} {c : Code} {dC : Nat → ClassId} {dI : Nat → Nat → Nat} {Z : ZZ} {A : Nat → Prop} {ad : Nat → Nat} {kc : Nat → ClassId} {r : Int32} {τ : S5}
set_option maxHeartbeats 4000000 in
set_option maxRecDepth 100000 in
theorem w_X12_taken {σ : S5}  {H : Heap} {locs : List Loc} {ls : Array Slot} (S : CallFix p m c cX12_taken 1 s args uG RX12) (hr : meth.sig.returnType = (some .int)) (hk : meth.locks = false) (hR : 0 ≤ R.frames ∧ 0 ≤ R.locals)
    (X : gX (dC, dI) (tM kc) (wM ad kc) Z A s σ H locs) (hl : lv_has ls 1 [(0, .ref (ad 0))]) (hg : f_X12_taken  σ = some (r, τ)) : W p l e R s m args below meth c H locs 0 0 (MQ below (gQi (dC, dI) (tM kc) (wM ad kc) A r τ) args s 0 0 A) (F0 m 0 ls []) := by
  have hx := S.1
  have hb := S.2.1
  have hown := S.2.2.2.1
  have hu := S.2.2.2.2
  unfold f_X12_taken at hg
  refine lv_aload_n hx hb dX12_taken_0 rfl (lv_at hl 0 rfl) ?_
  refine lv_dup hx hb dX12_taken_1 rfl ?_
  refine wmgI_17 (v := (gI σ 17)) S X mG_2090 rfl dX12_taken_2 ?_
  refine lv_iconst (v := 1) hx hb dX12_taken_5 (by decide) ?_
  refine lv_isub hx hb dX12_taken_6 ?_
  refine wmpI_17 S X mG_2090 dX12_taken_7 (fun H locs X => ?_)
  refine lv_aload_n hx hb dX12_taken_10 rfl (lv_at hl 0 rfl) ?_
  refine wmgR_0_41 S X mG_2091 dX12_taken_11 ?_
  refine lv_aload_n hx hb dX12_taken_14 rfl (lv_at hl 0 rfl) ?_
  refine wmgI_17 (v := ((gI σ 17) - 1)) S X mG_2090 rfl dX12_taken_15 ?_
  obtain ⟨hi18, hg⟩ := gd_some hg
  refine wmlA_18 (v := (xA σ 18 ((gI σ 17) - 1))) S X hi18 rfl dX12_taken_18 ?_
  obtain ⟨rfl, rfl⟩ := fin_some hg
  exact gr_i S hr hk X dX12_taken_19
end MX12_taken
set_option maxRecDepth 100000 in
theorem k2_X12_taken (l : Launch) (dC : Nat → ClassId) (dI : Nat → Nat → Nat) {Z : ZZ} (ad : Nat → Nat) (kc : Nat → ClassId) {σ τ : S5}  {r : Int32} (hg : f_X12_taken  σ = some (r, τ)) (sz : Nat) : Met l yX12_taken (Cond.code yX12_taken cX12_taken 1 (some .int) :: uG) { frames := 0, cells := 0, slots := 0, locals := 0 } (gPc (dC, dI) (tM kc) (wM ad kc) Z [.ref (ad 0)] σ sz) (gQi (dC, dI) (tM kc) (wM ad kc) (va_A (wM ad kc σ) sz) r τ) 0 0 (va_A (wM ad kc σ) sz) :=
  g_start (by decide) (Nat.le_of_ble_eq_true rfl) (fun p e s m below meth c ls S hr hk X hl => w_X12_taken S hr hk ⟨Nat.le_refl _, Nat.le_refl _⟩ X hl hg)
section MX12_append
variable {p : Program} {l : Launch} {e : Env} {R : Room} {s : State} {m : MethodId} {args : Array Value} {below : List Frame} {meth : Method} {c : Code} {dC : Nat → ClassId} {dI : Nat → Nat → Nat} {Z : ZZ} {A : Nat → Prop} {ad : Nat → Nat} {kc : Nat → ClassId} {r : Unit} {τ : S5}
set_option maxHeartbeats 4000000 in
set_option maxRecDepth 100000 in
theorem w_X12_append_b31 {σ : S5} {v1 : Int32} {v2 : Int32} {H : Heap} {locs : List Loc} {ls : Array Slot} (S : CallFix p m c cX12_append 3 s args uG RX12) (hr : meth.sig.returnType = none) (hk : meth.locks = false) (hR : 0 ≤ R.frames ∧ 0 ≤ R.locals)
    (X : gX (dC, dI) (tM kc) (wM ad kc) Z A s σ H locs) (hl : lv_has ls 3 [(0, .ref (ad 0)), (1, .int v1), (2, .int v2)]) (hg : f_X12_append_b31 v1 v2 σ = some (r, τ)) : W p l e R s m args below meth c H locs 0 0 (MQ below (gQv (dC, dI) (tM kc) (wM ad kc) A r τ) args s 0 0 A) (F0 m 31 ls []) := by
  have hx := S.1
  have hb := S.2.1
  have hown := S.2.2.2.1
  have hu := S.2.2.2.2
  unfold f_X12_append_b31 at hg
  refine lv_aload_n hx hb dX12_append_31 rfl (lv_at hl 0 rfl) ?_
  refine wmgR_0_15 S X mG_2065 dX12_append_32 ?_
  refine lv_iload_n hx hb dX12_append_35 rfl (lv_at hl 1 rfl) ?_
  refine lv_iload_n hx hb dX12_append_36 rfl (lv_at hl 2 rfl) ?_
  obtain ⟨hi37, hg⟩ := gd_some hg
  refine wmsA_4 S X hi37 dX12_append_37 (fun H locs X => ?_)
  obtain ⟨-, rfl⟩ := fin_some hg
  exact gr_v S hr hk X dX12_append_38
set_option maxHeartbeats 4000000 in
set_option maxRecDepth 100000 in
theorem w_X12_append {σ : S5} {a1 : Int32} {a2 : Int32} {H : Heap} {locs : List Loc} {ls : Array Slot} (S : CallFix p m c cX12_append 3 s args uG RX12) (hr : meth.sig.returnType = none) (hk : meth.locks = false) (hR : 0 ≤ R.frames ∧ 0 ≤ R.locals)
    (X : gX (dC, dI) (tM kc) (wM ad kc) Z A s σ H locs) (hl : lv_has ls 3 [(0, .ref (ad 0)), (1, .int a1), (2, .int a2)]) (hg : f_X12_append a1 a2 σ = some (r, τ)) : W p l e R s m args below meth c H locs 0 0 (MQ below (gQv (dC, dI) (tM kc) (wM ad kc) A r τ) args s 0 0 A) (F0 m 0 ls []) := by
  have hx := S.1
  have hb := S.2.1
  have hown := S.2.2.2.1
  have hu := S.2.2.2.2
  unfold f_X12_append at hg
  refine lv_aload_n hx hb dX12_append_0 rfl (lv_at hl 0 rfl) ?_
  refine wmgR_0_14 S X mG_2064 dX12_append_1 ?_
  refine lv_iload_n hx hb dX12_append_4 rfl (lv_at hl 1 rfl) ?_
  obtain ⟨hi5, hg⟩ := gd_some hg
  refine wmlA_3 (v := (xA σ 3 a1)) S X hi5 rfl dX12_append_5 ?_
  refine lv_if_ge (tgt := 19) hx hb dX12_append_6 (by decide) (fun c6 => ?_) (fun c6 => ?_)
  · have hg := (if_pos c6).symm.trans hg
    refine lv_aload_n hx hb dX12_append_19 rfl (lv_at hl 0 rfl) ?_
    refine wmgR_0_16 S X mG_2066 dX12_append_20 ?_
    refine lv_aload_n hx hb dX12_append_23 rfl (lv_at hl 0 rfl) ?_
    refine wmgR_0_15 S X mG_2065 dX12_append_24 ?_
    refine lv_iload_n hx hb dX12_append_27 rfl (lv_at hl 1 rfl) ?_
    obtain ⟨hi28, hg⟩ := gd_some hg
    refine wmlA_4 (v := (xA σ 4 a1)) S X hi28 rfl dX12_append_28 ?_
    refine lv_iload_n hx hb dX12_append_29 rfl (lv_at hl 2 rfl) ?_
    obtain ⟨hi30, hg⟩ := gd_some hg
    refine wmsA_5 S X hi30 dX12_append_30 (fun H locs X => ?_)
    exact w_X12_append_b31 S hr hk hR X (lv_sub hl [0, 1, 2] rfl) hg
  · have hg := (if_neg c6).symm.trans hg
    refine lv_aload_n hx hb dX12_append_9 rfl (lv_at hl 0 rfl) ?_
    refine wmgR_0_14 S X mG_2064 dX12_append_10 ?_
    refine lv_iload_n hx hb dX12_append_13 rfl (lv_at hl 1 rfl) ?_
    refine lv_iload_n hx hb dX12_append_14 rfl (lv_at hl 2 rfl) ?_
    obtain ⟨hi15, hg⟩ := gd_some hg
    refine wmsA_3 S X hi15 dX12_append_15 (fun H locs X => ?_)
    refine lv_goto (tgt := 31) hx hb dX12_append_16 (by decide) ?_
    exact w_X12_append_b31 S hr hk hR X (lv_sub hl [0, 1, 2] rfl) hg
end MX12_append
set_option maxRecDepth 100000 in
theorem k2_X12_append (l : Launch) (dC : Nat → ClassId) (dI : Nat → Nat → Nat) {Z : ZZ} (ad : Nat → Nat) (kc : Nat → ClassId) {σ τ : S5} {a1 : Int32} {a2 : Int32} {r : Unit} (hg : f_X12_append a1 a2 σ = some (r, τ)) (sz : Nat) : Met l yX12_append (Cond.code yX12_append cX12_append 3 none :: uG) { frames := 0, cells := 0, slots := 0, locals := 0 } (gPc (dC, dI) (tM kc) (wM ad kc) Z [.ref (ad 0), .int a1, .int a2] σ sz) (gQv (dC, dI) (tM kc) (wM ad kc) (va_A (wM ad kc σ) sz) r τ) 0 0 (va_A (wM ad kc σ) sz) :=
  g_start (by decide) (Nat.le_of_ble_eq_true rfl) (fun p e s m below meth c ls S hr hk X hl => w_X12_append S hr hk ⟨Nat.le_refl _, Nat.le_refl _⟩ X hl hg)
section MX12_findConstructor
variable {p : Program} {l : Launch} {e : Env} {R : Room} {s : State} {m : MethodId} {args : Array Value} {below : List Frame} {meth : Method} {c : Code} {dC : Nat → ClassId} {dI : Nat → Nat → Nat} {Z : ZZ} {A : Nat → Prop} {ad : Nat → Nat} {kc : Nat → ClassId} {r : Int32} {τ : S5}
set_option maxHeartbeats 4000000 in
set_option maxRecDepth 100000 in
theorem w_X12_findConstructor_b27 {σ : S5} {v3 : Int32} {H : Heap} {locs : List Loc} {ls : Array Slot} (S : CallFix p m c cX12_findConstructor 4 s args uG RX12) (hr : meth.sig.returnType = (some .int)) (hk : meth.locks = false) (hR : 0 ≤ R.frames ∧ 0 ≤ R.locals)
    (X : gX (dC, dI) (tM kc) (wM ad kc) Z A s σ H locs) (hl : lv_has ls 4 [(0, .ref (ad 0)), (3, .int v3)]) (hg : f_X12_findConstructor_b27 v3 σ = some (r, τ)) : W p l e R s m args below meth c H locs 0 0 (MQ below (gQi (dC, dI) (tM kc) (wM ad kc) A r τ) args s 0 0 A) (F0 m 27 ls []) := by
  have hx := S.1
  have hb := S.2.1
  have hown := S.2.2.2.1
  have hu := S.2.2.2.2
  unfold f_X12_findConstructor_b27 at hg
  refine lv_iload_n hx hb dX12_findConstructor_27 rfl (lv_at hl 1 rfl) ?_
  refine lv_aload_n hx hb dX12_findConstructor_28 rfl (lv_at hl 0 rfl) ?_
  refine wmgI_14 (v := (gI σ 14)) S X mG_2081 rfl dX12_findConstructor_29 ?_
  refine lv_icmp_ge (tgt := 39) hx hb dX12_findConstructor_32 (by decide) (fun c32 => ?_) (fun c32 => ?_)
  · have hg := (if_pos c32).symm.trans hg
    refine lv_iconst (v := (-1)) hx hb dX12_findConstructor_39 (by decide) ?_
    obtain ⟨rfl, rfl⟩ := fin_some hg
    exact gr_i S hr hk X dX12_findConstructor_40
  · have hg := (if_neg c32).symm.trans hg
    refine lv_iload_n hx hb dX12_findConstructor_35 rfl (lv_at hl 1 rfl) ?_
    refine lv_goto (tgt := 40) hx hb dX12_findConstructor_36 (by decide) ?_
    obtain ⟨rfl, rfl⟩ := fin_some hg
    exact gr_i S hr hk X dX12_findConstructor_40
set_option maxHeartbeats 4000000 in
set_option maxRecDepth 100000 in
theorem w_X12_findConstructor_B2 {σ : S5} {rec2 : Int64 → Int32 → S5 → Option (Int32 × S5)} {v1 : Int64} {v3 : Int32} {H : Heap} {locs : List Loc} {ls : Array Slot} (S : CallFix p m c cX12_findConstructor 4 s args uG RX12) (hr : meth.sig.returnType = (some .int)) (hk : meth.locks = false) (hR : 0 ≤ R.frames ∧ 0 ≤ R.locals)
    (hrec2 : ∀ (v1 : Int64) (v3 : Int32) (σ : S5) (H : Heap) (locs : List Loc) (ls : Array Slot), gX (dC, dI) (tM kc) (wM ad kc) Z A s σ H locs → lv_has ls 4 [(0, .ref (ad 0)), (1, .long v1), (3, .int v3)] → rec2 v1 v3 σ = some (r, τ) → W p l e R s m args below meth c H locs 0 0 (MQ below (gQi (dC, dI) (tM kc) (wM ad kc) A r τ) args s 0 0 A) (F0 m 2 ls []))
    (X : gX (dC, dI) (tM kc) (wM ad kc) Z A s σ H locs) (hl : lv_has ls 4 [(0, .ref (ad 0)), (1, .long v1), (3, .int v3)]) (hg : f_X12_findConstructor_B2 rec2 v1 v3 σ = some (r, τ)) : W p l e R s m args below meth c H locs 0 0 (MQ below (gQi (dC, dI) (tM kc) (wM ad kc) A r τ) args s 0 0 A) (F0 m 2 ls []) := by
  have hx := S.1
  have hb := S.2.1
  have hown := S.2.2.2.1
  have hu := S.2.2.2.2
  unfold f_X12_findConstructor_B2 at hg
  refine lv_iload_n hx hb dX12_findConstructor_2 rfl (lv_at hl 2 rfl) ?_
  refine lv_aload_n hx hb dX12_findConstructor_3 rfl (lv_at hl 0 rfl) ?_
  refine wmgI_14 (v := (gI σ 14)) S X mG_2081 rfl dX12_findConstructor_4 ?_
  refine lv_icmp_ge (tgt := 27) hx hb dX12_findConstructor_7 (by decide) (fun c7 => ?_) (fun c7 => ?_)
  · have hg := (if_pos c7).symm.trans hg
    exact w_X12_findConstructor_b27 S hr hk hR X (lv_sub hl [0, 2] rfl) hg
  · have hg := (if_neg c7).symm.trans hg
    refine lv_aload_n hx hb dX12_findConstructor_10 rfl (lv_at hl 0 rfl) ?_
    refine wmgR_0_32 S X mG_2082 dX12_findConstructor_11 ?_
    refine lv_iload_n hx hb dX12_findConstructor_14 rfl (lv_at hl 2 rfl) ?_
    obtain ⟨hi15, hg⟩ := gd_some hg
    refine wmlB_3 (v := (xB σ 3 v3)) S X hi15 rfl dX12_findConstructor_15 ?_
    refine lv_lload_n hx hb dX12_findConstructor_16 rfl (lv_at hl 1 rfl) ?_
    refine W.lcmp hx hb dX12_findConstructor_17 ?_
    refine lv_if_eq (tgt := 27) hx hb dX12_findConstructor_18 (by decide) (fun c18 => ?_) (fun c18 => ?_)
    · have hg := (if_pos c18).symm.trans hg
      exact w_X12_findConstructor_b27 S hr hk hR X (lv_sub hl [0, 2] rfl) hg
    · have hg := (if_neg c18).symm.trans hg
      refine lv_iinc (v := (v3 + 1)) (lv' := [(3, .int (v3 + 1)), (0, .ref (ad 0)), (1, .long v1)]) hx hb dX12_findConstructor_21 hl (k := 2) rfl (by rfl) (by decide) rfl (fun ls hl => ?_)
      refine lv_goto (tgt := 2) hx hb dX12_findConstructor_24 (by decide) ?_
      exact hrec2 _ _ _ _ _ _ X (lv_sub hl [1, 2, 0] rfl) hg
set_option maxHeartbeats 4000000 in
set_option maxRecDepth 100000 in
theorem w_X12_findConstructor_L2 (S : CallFix p m c cX12_findConstructor 4 s args uG RX12) (hr : meth.sig.returnType = (some .int)) (hk : meth.locks = false) (hR : 0 ≤ R.frames ∧ 0 ≤ R.locals) : ∀ (n : Nat) (v1 : Int64) (v3 : Int32) (σ : S5) (H : Heap) (locs : List Loc) (ls : Array Slot), gX (dC, dI) (tM kc) (wM ad kc) Z A s σ H locs → lv_has ls 4 [(0, .ref (ad 0)), (1, .long v1), (3, .int v3)] → f_X12_findConstructor_L2  n v1 v3 σ = some (r, τ) → W p l e R s m args below meth c H locs 0 0 (MQ below (gQi (dC, dI) (tM kc) (wM ad kc) A r τ) args s 0 0 A) (F0 m 2 ls []) := by
  intro n
  induction n with
  | zero => intro v1 v3 σ H locs ls X hl hg; cases hg
  | succ n ih => intro v1 v3 σ H locs ls X hl hg; exact w_X12_findConstructor_B2 S hr hk hR ih X hl hg
set_option maxHeartbeats 4000000 in
set_option maxRecDepth 100000 in
theorem w_X12_findConstructor {σ : S5} {a1 : Int64} {H : Heap} {locs : List Loc} {ls : Array Slot} (S : CallFix p m c cX12_findConstructor 4 s args uG RX12) (hr : meth.sig.returnType = (some .int)) (hk : meth.locks = false) (hR : 0 ≤ R.frames ∧ 0 ≤ R.locals)
    (X : gX (dC, dI) (tM kc) (wM ad kc) Z A s σ H locs) (hl : lv_has ls 4 [(0, .ref (ad 0)), (1, .long a1)]) (hg : f_X12_findConstructor a1 σ = some (r, τ)) : W p l e R s m args below meth c H locs 0 0 (MQ below (gQi (dC, dI) (tM kc) (wM ad kc) A r τ) args s 0 0 A) (F0 m 0 ls []) := by
  have hx := S.1
  have hb := S.2.1
  have hown := S.2.2.2.1
  have hu := S.2.2.2.2
  unfold f_X12_findConstructor at hg
  refine lv_iconst (v := 0) hx hb dX12_findConstructor_0 (by decide) ?_
  refine lv_istore_n (lv' := [(3, .int 0), (0, .ref (ad 0)), (1, .long a1)]) hx hb dX12_findConstructor_1 rfl hl (by decide) rfl (fun ls hl => ?_)
  exact w_X12_findConstructor_L2 S hr hk hR _ _ _ _ _ _ _ X (lv_sub hl [1, 2, 0] rfl) hg
end MX12_findConstructor
set_option maxRecDepth 100000 in
theorem k2_X12_findConstructor (l : Launch) (dC : Nat → ClassId) (dI : Nat → Nat → Nat) {Z : ZZ} (ad : Nat → Nat) (kc : Nat → ClassId) {σ τ : S5} {a1 : Int64} {r : Int32} (hg : f_X12_findConstructor a1 σ = some (r, τ)) (sz : Nat) : Met l yX12_findConstructor (Cond.code yX12_findConstructor cX12_findConstructor 4 (some .int) :: uG) { frames := 0, cells := 0, slots := 0, locals := 0 } (gPc (dC, dI) (tM kc) (wM ad kc) Z [.ref (ad 0), .long a1] σ sz) (gQi (dC, dI) (tM kc) (wM ad kc) (va_A (wM ad kc σ) sz) r τ) 0 0 (va_A (wM ad kc σ) sz) :=
  g_start (by decide) (Nat.le_of_ble_eq_true rfl) (fun p e s m below meth c ls S hr hk X hl => w_X12_findConstructor S hr hk ⟨Nat.le_refl _, Nat.le_refl _⟩ X hl hg)
section MX12_isGiven
variable {p : Program} {l : Launch} {e : Env} {R : Room} {s : State} {m : MethodId} {args : Array Value} {below : List Frame} {meth : Method} {c : Code} {dC : Nat → ClassId} {dI : Nat → Nat → Nat} {Z : ZZ} {A : Nat → Prop} {ad : Nat → Nat} {kc : Nat → ClassId} {r : Int32} {τ : S5}
set_option maxHeartbeats 4000000 in
set_option maxRecDepth 100000 in
theorem w_X12_isGiven_b46 {σ : S5} {rec6 : Int32 → Int64 → Int32 → Int32 → S5 → Option (Int32 × S5)} {v1 : Int32} {v2 : Int64} {v5 : Int32} {u0 : Int32} {H : Heap} {locs : List Loc} {ls : Array Slot} (S : CallFix p m c cX12_isGiven 6 s args uG RX12) (hr : meth.sig.returnType = (some .boolean)) (hk : meth.locks = false) (hR : 0 ≤ R.frames ∧ 0 ≤ R.locals)
    (hrec6 : ∀ (v1 : Int32) (v2 : Int64) (v4 : Int32) (v5 : Int32) (σ : S5) (H : Heap) (locs : List Loc) (ls : Array Slot), gX (dC, dI) (tM kc) (wM ad kc) Z A s σ H locs → lv_has ls 6 [(0, .ref (ad 0)), (1, .int v1), (2, .long v2), (4, .int v4), (5, .int v5)] → rec6 v1 v2 v4 v5 σ = some (r, τ) → W p l e R s m args below meth c H locs 0 0 (MQ below (gQi (dC, dI) (tM kc) (wM ad kc) A r τ) args s 0 0 A) (F0 m 6 ls []))
    (X : gX (dC, dI) (tM kc) (wM ad kc) Z A s σ H locs) (hl : lv_has ls 6 [(0, .ref (ad 0)), (1, .int v1), (2, .long v2), (5, .int v5)]) (hg : f_X12_isGiven_b46 rec6 v1 v2 v5 u0 σ = some (r, τ)) : W p l e R s m args below meth c H locs 0 0 (MQ below (gQi (dC, dI) (tM kc) (wM ad kc) A r τ) args s 0 0 A) (F0 m 46 ls [.int u0]) := by
  have hx := S.1
  have hb := S.2.1
  have hown := S.2.2.2.1
  have hu := S.2.2.2.2
  unfold f_X12_isGiven_b46 at hg
  refine lv_istore (lv' := [(4, .int u0), (0, .ref (ad 0)), (1, .int v1), (2, .long v2), (5, .int v5)]) hx hb dX12_isGiven_46 hl (by decide) rfl (fun ls hl => ?_)
  refine lv_iinc (v := (v5 + 1)) (lv' := [(5, .int (v5 + 1)), (4, .int u0), (0, .ref (ad 0)), (1, .int v1), (2, .long v2)]) hx hb dX12_isGiven_48 hl (k := 4) rfl (by rfl) (by decide) rfl (fun ls hl => ?_)
  refine lv_goto (tgt := 6) hx hb dX12_isGiven_51 (by decide) ?_
  exact hrec6 _ _ _ _ _ _ _ _ X (lv_sub hl [2, 3, 4, 1, 0] rfl) hg
set_option maxHeartbeats 4000000 in
set_option maxRecDepth 100000 in
theorem w_X12_isGiven_b41 {σ : S5} {rec6 : Int32 → Int64 → Int32 → Int32 → S5 → Option (Int32 × S5)} {v1 : Int32} {v2 : Int64} {v5 : Int32} {H : Heap} {locs : List Loc} {ls : Array Slot} (S : CallFix p m c cX12_isGiven 6 s args uG RX12) (hr : meth.sig.returnType = (some .boolean)) (hk : meth.locks = false) (hR : 0 ≤ R.frames ∧ 0 ≤ R.locals)
    (hrec6 : ∀ (v1 : Int32) (v2 : Int64) (v4 : Int32) (v5 : Int32) (σ : S5) (H : Heap) (locs : List Loc) (ls : Array Slot), gX (dC, dI) (tM kc) (wM ad kc) Z A s σ H locs → lv_has ls 6 [(0, .ref (ad 0)), (1, .int v1), (2, .long v2), (4, .int v4), (5, .int v5)] → rec6 v1 v2 v4 v5 σ = some (r, τ) → W p l e R s m args below meth c H locs 0 0 (MQ below (gQi (dC, dI) (tM kc) (wM ad kc) A r τ) args s 0 0 A) (F0 m 6 ls []))
    (X : gX (dC, dI) (tM kc) (wM ad kc) Z A s σ H locs) (hl : lv_has ls 6 [(0, .ref (ad 0)), (1, .int v1), (2, .long v2), (5, .int v5)]) (hg : f_X12_isGiven_b41 rec6 v1 v2 v5 σ = some (r, τ)) : W p l e R s m args below meth c H locs 0 0 (MQ below (gQi (dC, dI) (tM kc) (wM ad kc) A r τ) args s 0 0 A) (F0 m 41 ls []) := by
  have hx := S.1
  have hb := S.2.1
  have hown := S.2.2.2.1
  have hu := S.2.2.2.2
  unfold f_X12_isGiven_b41 at hg
  refine lv_iconst (v := 1) hx hb dX12_isGiven_41 (by decide) ?_
  refine lv_goto (tgt := 46) hx hb dX12_isGiven_42 (by decide) ?_
  exact w_X12_isGiven_b46 S hr hk hR hrec6 X (lv_sub hl [0, 1, 2, 3] rfl) hg
set_option maxHeartbeats 4000000 in
set_option maxRecDepth 100000 in
theorem w_X12_isGiven_B6 {σ : S5} {rec6 : Int32 → Int64 → Int32 → Int32 → S5 → Option (Int32 × S5)} {v1 : Int32} {v2 : Int64} {v4 : Int32} {v5 : Int32} {H : Heap} {locs : List Loc} {ls : Array Slot} (S : CallFix p m c cX12_isGiven 6 s args uG RX12) (hr : meth.sig.returnType = (some .boolean)) (hk : meth.locks = false) (hR : 0 ≤ R.frames ∧ 0 ≤ R.locals)
    (hrec6 : ∀ (v1 : Int32) (v2 : Int64) (v4 : Int32) (v5 : Int32) (σ : S5) (H : Heap) (locs : List Loc) (ls : Array Slot), gX (dC, dI) (tM kc) (wM ad kc) Z A s σ H locs → lv_has ls 6 [(0, .ref (ad 0)), (1, .int v1), (2, .long v2), (4, .int v4), (5, .int v5)] → rec6 v1 v2 v4 v5 σ = some (r, τ) → W p l e R s m args below meth c H locs 0 0 (MQ below (gQi (dC, dI) (tM kc) (wM ad kc) A r τ) args s 0 0 A) (F0 m 6 ls []))
    (X : gX (dC, dI) (tM kc) (wM ad kc) Z A s σ H locs) (hl : lv_has ls 6 [(0, .ref (ad 0)), (1, .int v1), (2, .long v2), (4, .int v4), (5, .int v5)]) (hg : f_X12_isGiven_B6 rec6 v1 v2 v4 v5 σ = some (r, τ)) : W p l e R s m args below meth c H locs 0 0 (MQ below (gQi (dC, dI) (tM kc) (wM ad kc) A r τ) args s 0 0 A) (F0 m 6 ls []) := by
  have hx := S.1
  have hb := S.2.1
  have hown := S.2.2.2.1
  have hu := S.2.2.2.2
  unfold f_X12_isGiven_B6 at hg
  refine lv_iload hx hb dX12_isGiven_6 (lv_at hl 4 rfl) ?_
  refine lv_aload_n hx hb dX12_isGiven_8 rfl (lv_at hl 0 rfl) ?_
  refine wmgR_0_22 S X mG_2072 dX12_isGiven_9 ?_
  refine lv_iload_n hx hb dX12_isGiven_12 rfl (lv_at hl 1 rfl) ?_
  obtain ⟨hi13, hg⟩ := gd_some hg
  refine wmlA_10 (v := (xA σ 10 v1)) S X hi13 rfl dX12_isGiven_13 ?_
  refine lv_icmp_ge (tgt := 54) hx hb dX12_isGiven_14 (by decide) (fun c14 => ?_) (fun c14 => ?_)
  · have hg := (if_pos c14).symm.trans hg
    refine lv_iload hx hb dX12_isGiven_54 (lv_at hl 3 rfl) ?_
    obtain ⟨hn56, hg⟩ := g_t_some hg
    obtain ⟨rfl, rfl⟩ := fin_some hg
    exact gr_z S hr hk X hn56 dX12_isGiven_56
  · have hg := (if_neg c14).symm.trans hg
    refine lv_iload hx hb dX12_isGiven_17 (lv_at hl 3 rfl) ?_
    refine lv_if_ne (tgt := 41) hx hb dX12_isGiven_19 (by decide) (fun c19 => ?_) (fun c19 => ?_)
    · have hg := (if_neg c19).symm.trans hg
      exact w_X12_isGiven_b41 S hr hk hR hrec6 X (lv_sub hl [0, 1, 2, 4] rfl) hg
    · have hg := (if_pos c19).symm.trans hg
      refine lv_aload_n hx hb dX12_isGiven_22 rfl (lv_at hl 0 rfl) ?_
      refine wmgR_0_24 S X mG_2074 dX12_isGiven_23 ?_
      refine lv_aload_n hx hb dX12_isGiven_26 rfl (lv_at hl 0 rfl) ?_
      refine wmgR_0_21 S X mG_2071 dX12_isGiven_27 ?_
      refine lv_iload_n hx hb dX12_isGiven_30 rfl (lv_at hl 1 rfl) ?_
      obtain ⟨hi31, hg⟩ := gd_some hg
      refine wmlA_9 (v := (xA σ 9 v1)) S X hi31 rfl dX12_isGiven_31 ?_
      refine lv_iload hx hb dX12_isGiven_32 (lv_at hl 4 rfl) ?_
      refine lv_iadd hx hb dX12_isGiven_34 ?_
      obtain ⟨hi35, hg⟩ := gd_some hg
      refine wmlB_1 (v := (xB σ 1 ((xA σ 9 v1) + v5))) S X hi35 rfl dX12_isGiven_35 ?_
      refine lv_lload_n hx hb dX12_isGiven_36 rfl (lv_at hl 2 rfl) ?_
      refine W.lcmp hx hb dX12_isGiven_37 ?_
      refine lv_if_ne (tgt := 45) hx hb dX12_isGiven_38 (by decide) (fun c38 => ?_) (fun c38 => ?_)
      · have hg := (if_neg c38).symm.trans hg
        refine lv_iconst (v := 0) hx hb dX12_isGiven_45 (by decide) ?_
        exact w_X12_isGiven_b46 S hr hk hR hrec6 X (lv_sub hl [0, 1, 2, 4] rfl) hg
      · have hg := (if_pos c38).symm.trans hg
        exact w_X12_isGiven_b41 S hr hk hR hrec6 X (lv_sub hl [0, 1, 2, 4] rfl) hg
set_option maxHeartbeats 4000000 in
set_option maxRecDepth 100000 in
theorem w_X12_isGiven_L6 (S : CallFix p m c cX12_isGiven 6 s args uG RX12) (hr : meth.sig.returnType = (some .boolean)) (hk : meth.locks = false) (hR : 0 ≤ R.frames ∧ 0 ≤ R.locals) : ∀ (n : Nat) (v1 : Int32) (v2 : Int64) (v4 : Int32) (v5 : Int32) (σ : S5) (H : Heap) (locs : List Loc) (ls : Array Slot), gX (dC, dI) (tM kc) (wM ad kc) Z A s σ H locs → lv_has ls 6 [(0, .ref (ad 0)), (1, .int v1), (2, .long v2), (4, .int v4), (5, .int v5)] → f_X12_isGiven_L6  n v1 v2 v4 v5 σ = some (r, τ) → W p l e R s m args below meth c H locs 0 0 (MQ below (gQi (dC, dI) (tM kc) (wM ad kc) A r τ) args s 0 0 A) (F0 m 6 ls []) := by
  intro n
  induction n with
  | zero => intro v1 v2 v4 v5 σ H locs ls X hl hg; cases hg
  | succ n ih => intro v1 v2 v4 v5 σ H locs ls X hl hg; exact w_X12_isGiven_B6 S hr hk hR ih X hl hg
set_option maxHeartbeats 4000000 in
set_option maxRecDepth 100000 in
theorem w_X12_isGiven {σ : S5} {a1 : Int32} {a2 : Int64} {H : Heap} {locs : List Loc} {ls : Array Slot} (S : CallFix p m c cX12_isGiven 6 s args uG RX12) (hr : meth.sig.returnType = (some .boolean)) (hk : meth.locks = false) (hR : 0 ≤ R.frames ∧ 0 ≤ R.locals)
    (X : gX (dC, dI) (tM kc) (wM ad kc) Z A s σ H locs) (hl : lv_has ls 6 [(0, .ref (ad 0)), (1, .int a1), (2, .long a2)]) (hg : f_X12_isGiven a1 a2 σ = some (r, τ)) : W p l e R s m args below meth c H locs 0 0 (MQ below (gQi (dC, dI) (tM kc) (wM ad kc) A r τ) args s 0 0 A) (F0 m 0 ls []) := by
  have hx := S.1
  have hb := S.2.1
  have hown := S.2.2.2.1
  have hu := S.2.2.2.2
  unfold f_X12_isGiven at hg
  refine lv_iconst (v := 0) hx hb dX12_isGiven_0 (by decide) ?_
  refine lv_istore (lv' := [(4, .int 0), (0, .ref (ad 0)), (1, .int a1), (2, .long a2)]) hx hb dX12_isGiven_1 hl (by decide) rfl (fun ls hl => ?_)
  refine lv_iconst (v := 0) hx hb dX12_isGiven_3 (by decide) ?_
  refine lv_istore (lv' := [(5, .int 0), (4, .int 0), (0, .ref (ad 0)), (1, .int a1), (2, .long a2)]) hx hb dX12_isGiven_4 hl (by decide) rfl (fun ls hl => ?_)
  exact w_X12_isGiven_L6 S hr hk hR _ _ _ _ _ _ _ _ _ X (lv_sub hl [2, 3, 4, 1, 0] rfl) hg
end MX12_isGiven
set_option maxRecDepth 100000 in
theorem k2_X12_isGiven (l : Launch) (dC : Nat → ClassId) (dI : Nat → Nat → Nat) {Z : ZZ} (ad : Nat → Nat) (kc : Nat → ClassId) {σ τ : S5} {a1 : Int32} {a2 : Int64} {r : Int32} (hg : f_X12_isGiven a1 a2 σ = some (r, τ)) (sz : Nat) : Met l yX12_isGiven (Cond.code yX12_isGiven cX12_isGiven 6 (some .boolean) :: uG) { frames := 0, cells := 0, slots := 0, locals := 0 } (gPc (dC, dI) (tM kc) (wM ad kc) Z [.ref (ad 0), .int a1, .long a2] σ sz) (gQi (dC, dI) (tM kc) (wM ad kc) (va_A (wM ad kc σ) sz) r τ) 0 0 (va_A (wM ad kc σ) sz) :=
  g_start (by decide) (Nat.le_of_ble_eq_true rfl) (fun p e s m below meth c ls S hr hk X hl => w_X12_isGiven S hr hk ⟨Nat.le_refl _, Nat.le_refl _⟩ X hl hg)
