
theorem mG_114 : Cond.selects "LazyForgeModel" yX12_findConstructor yX12_findConstructor ∈ uG := uG_at 114 (by decide +kernel) (by decide +kernel)
theorem mG_116 : Cond.selects "LazyForgeModel" yX12_accept yX12_accept ∈ uG := uG_at 116 (by decide +kernel) (by decide +kernel)
theorem mG_118 : Cond.selects "LazyForgeModel" yX12_isSign yX12_isSign ∈ uG := uG_at 118 (by decide +kernel) (by decide +kernel)
theorem mG_120 : Cond.selects "LazyForgeModel" yX12_node yX12_node ∈ uG := uG_at 120 (by decide +kernel) (by decide +kernel)
theorem mG_121 : Cond.selects "LazyForgeModel" yX12_parameters yX12_parameters ∈ uG := uG_at 121 (by decide +kernel) (by decide +kernel)
theorem mG_122 : Cond.selects "LazyForgeModel" yX12_isGiven yX12_isGiven ∈ uG := uG_at 122 (by decide +kernel) (by decide +kernel)
theorem mG_123 : Cond.selects "LazyForgeModel" yX12_part yX12_part ∈ uG := uG_at 123 (by decide +kernel) (by decide +kernel)
theorem mG_124 : Cond.selects "LazyForgeModel" yX12_giveName yX12_giveName ∈ uG := uG_at 124 (by decide +kernel) (by decide +kernel)
theorem mG_126 : Cond.selects "LazyForgeModel" yX12_pile yX12_pile ∈ uG := uG_at 126 (by decide +kernel) (by decide +kernel)
theorem mG_129 : Cond.selects "LazyForgeModel" yX12_opens yX12_opens ∈ uG := uG_at 129 (by decide +kernel) (by decide +kernel)
theorem mG_130 : Cond.selects "LazyForgeModel" yX12_binding yX12_binding ∈ uG := uG_at 130 (by decide +kernel) (by decide +kernel)
theorem mG_131 : Cond.selects "LazyForgeModel" yX12_append yX12_append ∈ uG := uG_at 131 (by decide +kernel) (by decide +kernel)
theorem mG_133 : Cond.selects "LazyForgeModel" yX12_field yX12_field ∈ uG := uG_at 133 (by decide +kernel) (by decide +kernel)
theorem mG_134 : Cond.selects "LazyForgeModel" yX12_judgeAtom yX12_judgeAtom ∈ uG := uG_at 134 (by decide +kernel) (by decide +kernel)
theorem mG_135 : Cond.selects "LazyForgeModel" yX12_tooDeep yX12_tooDeep ∈ uG := uG_at 135 (by decide +kernel) (by decide +kernel)
theorem mG_136 : Cond.selects "LazyForgeModel" yX12_isAtom yX12_isAtom ∈ uG := uG_at 136 (by decide +kernel) (by decide +kernel)
theorem mG_137 : Cond.selects "LazyForgeModel" yX12_atom yX12_atom ∈ uG := uG_at 137 (by decide +kernel) (by decide +kernel)
theorem mG_138 : Cond.selects "LazyForgeModel" yX12_operand yX12_operand ∈ uG := uG_at 138 (by decide +kernel) (by decide +kernel)
theorem mG_140 : Cond.selects "LazyForgeModel" yX12_taken yX12_taken ∈ uG := uG_at 140 (by decide +kernel) (by decide +kernel)
theorem mG_2092 : Cond.fieldLink "LazyForgeModel" 393 "LazyForgeModel" "startsE" "Z" ∈ uG := uG_at 2092 (by decide +kernel) (by decide +kernel)
theorem mG_2093 : Cond.fieldLink "LazyForgeModel" 389 "LazyForgeModel" "wants" "Z" ∈ uG := uG_at 2093 (by decide +kernel) (by decide +kernel)
theorem mG_2094 : Cond.fieldLink "LazyForgeModel" 424 "LazyForgeModel" "isApplied" "Z" ∈ uG := uG_at 2094 (by decide +kernel) (by decide +kernel)
theorem mG_2095 : Cond.fieldLink "LazyForgeModel" 405 "LazyForgeModel" "isEnded" "Z" ∈ uG := uG_at 2095 (by decide +kernel) (by decide +kernel)
theorem mG_2518 : Cond.methodLink "LazyForgeModel" 396 yX12_findConstructor ∈ uG := uG_at 2518 (by decide +kernel) (by decide +kernel)
theorem mG_2520 : Cond.instanceMethod yX12_findConstructor ∈ uG := uG_at 2520 (by decide +kernel) (by decide +kernel)
theorem mG_2521 : Cond.code yX12_findConstructor prog_14_method_24_code 4 (some .int) ∈ uG := uG_at 2521 (by decide +kernel) (by decide +kernel)
theorem mG_2526 : Cond.methodLink "LazyForgeModel" 359 yX12_accept ∈ uG := uG_at 2526 (by decide +kernel) (by decide +kernel)
theorem mG_2528 : Cond.instanceMethod yX12_accept ∈ uG := uG_at 2528 (by decide +kernel) (by decide +kernel)
theorem mG_2529 : Cond.code yX12_accept prog_14_method_16_code 2 none ∈ uG := uG_at 2529 (by decide +kernel) (by decide +kernel)
theorem mG_2534 : Cond.methodLink "LazyForgeModel" 383 yX12_isSign ∈ uG := uG_at 2534 (by decide +kernel) (by decide +kernel)
theorem mG_2536 : Cond.instanceMethod yX12_isSign ∈ uG := uG_at 2536 (by decide +kernel) (by decide +kernel)
theorem mG_2537 : Cond.code yX12_isSign prog_14_method_13_code 2 (some .boolean) ∈ uG := uG_at 2537 (by decide +kernel) (by decide +kernel)
theorem mG_2542 : Cond.methodLink "LazyForgeModel" 369 yX12_node ∈ uG := uG_at 2542 (by decide +kernel) (by decide +kernel)
theorem mG_2544 : Cond.instanceMethod yX12_node ∈ uG := uG_at 2544 (by decide +kernel) (by decide +kernel)
theorem mG_2545 : Cond.code yX12_node prog_14_method_17_code 3 (some .int) ∈ uG := uG_at 2545 (by decide +kernel) (by decide +kernel)
theorem mG_2546 : Cond.methodLink "LazyForgeModel" 380 yX12_parameters ∈ uG := uG_at 2546 (by decide +kernel) (by decide +kernel)
theorem mG_2548 : Cond.instanceMethod yX12_parameters ∈ uG := uG_at 2548 (by decide +kernel) (by decide +kernel)
theorem mG_2549 : Cond.code yX12_parameters prog_14_method_27_code 5 none ∈ uG := uG_at 2549 (by decide +kernel) (by decide +kernel)
theorem mG_2550 : Cond.methodLink "LazyForgeModel" 351 yX12_isGiven ∈ uG := uG_at 2550 (by decide +kernel) (by decide +kernel)
theorem mG_2552 : Cond.instanceMethod yX12_isGiven ∈ uG := uG_at 2552 (by decide +kernel) (by decide +kernel)
theorem mG_2553 : Cond.code yX12_isGiven prog_14_method_25_code 6 (some .boolean) ∈ uG := uG_at 2553 (by decide +kernel) (by decide +kernel)
theorem mG_2554 : Cond.methodLink "LazyForgeModel" 355 yX12_part ∈ uG := uG_at 2554 (by decide +kernel) (by decide +kernel)
theorem mG_2556 : Cond.instanceMethod yX12_part ∈ uG := uG_at 2556 (by decide +kernel) (by decide +kernel)
theorem mG_2557 : Cond.code yX12_part prog_14_method_18_code 1 (some .boolean) ∈ uG := uG_at 2557 (by decide +kernel) (by decide +kernel)
theorem mG_2558 : Cond.methodLink "LazyForgeModel" 362 yX12_giveName ∈ uG := uG_at 2558 (by decide +kernel) (by decide +kernel)
theorem mG_2560 : Cond.instanceMethod yX12_giveName ∈ uG := uG_at 2560 (by decide +kernel) (by decide +kernel)
theorem mG_2561 : Cond.code yX12_giveName prog_14_method_26_code 4 none ∈ uG := uG_at 2561 (by decide +kernel) (by decide +kernel)
theorem mG_2566 : Cond.methodLink "LazyForgeModel" 372 yX12_pile ∈ uG := uG_at 2566 (by decide +kernel) (by decide +kernel)
theorem mG_2568 : Cond.instanceMethod yX12_pile ∈ uG := uG_at 2568 (by decide +kernel) (by decide +kernel)
theorem mG_2569 : Cond.code yX12_pile prog_14_method_20_code 4 none ∈ uG := uG_at 2569 (by decide +kernel) (by decide +kernel)
theorem mG_2578 : Cond.methodLink "LazyForgeModel" 366 yX12_opens ∈ uG := uG_at 2578 (by decide +kernel) (by decide +kernel)
theorem mG_2580 : Cond.instanceMethod yX12_opens ∈ uG := uG_at 2580 (by decide +kernel) (by decide +kernel)
theorem mG_2581 : Cond.code yX12_opens prog_14_method_19_code 1 none ∈ uG := uG_at 2581 (by decide +kernel) (by decide +kernel)
theorem mG_2582 : Cond.methodLink "LazyForgeModel" 376 yX12_binding ∈ uG := uG_at 2582 (by decide +kernel) (by decide +kernel)
theorem mG_2584 : Cond.instanceMethod yX12_binding ∈ uG := uG_at 2584 (by decide +kernel) (by decide +kernel)
theorem mG_2585 : Cond.code yX12_binding prog_14_method_29_code 4 none ∈ uG := uG_at 2585 (by decide +kernel) (by decide +kernel)
theorem mG_2586 : Cond.methodLink "LazyForgeModel" 386 yX12_append ∈ uG := uG_at 2586 (by decide +kernel) (by decide +kernel)
theorem mG_2588 : Cond.instanceMethod yX12_append ∈ uG := uG_at 2588 (by decide +kernel) (by decide +kernel)
theorem mG_2589 : Cond.code yX12_append prog_14_method_23_code 3 none ∈ uG := uG_at 2589 (by decide +kernel) (by decide +kernel)
theorem mG_2594 : Cond.methodLink "LazyForgeModel" 408 yX12_field ∈ uG := uG_at 2594 (by decide +kernel) (by decide +kernel)
theorem mG_2596 : Cond.instanceMethod yX12_field ∈ uG := uG_at 2596 (by decide +kernel) (by decide +kernel)
theorem mG_2597 : Cond.code yX12_field prog_14_method_35_code 2 (some .boolean) ∈ uG := uG_at 2597 (by decide +kernel) (by decide +kernel)
theorem mG_2598 : Cond.methodLink "LazyForgeModel" 417 yX12_judgeAtom ∈ uG := uG_at 2598 (by decide +kernel) (by decide +kernel)
theorem mG_2600 : Cond.instanceMethod yX12_judgeAtom ∈ uG := uG_at 2600 (by decide +kernel) (by decide +kernel)
theorem mG_2601 : Cond.code yX12_judgeAtom prog_14_method_34_code 2 none ∈ uG := uG_at 2601 (by decide +kernel) (by decide +kernel)
theorem mG_2602 : Cond.methodLink "LazyForgeModel" 414 yX12_tooDeep ∈ uG := uG_at 2602 (by decide +kernel) (by decide +kernel)
theorem mG_2604 : Cond.instanceMethod yX12_tooDeep ∈ uG := uG_at 2604 (by decide +kernel) (by decide +kernel)
theorem mG_2605 : Cond.code yX12_tooDeep prog_14_method_33_code 1 none ∈ uG := uG_at 2605 (by decide +kernel) (by decide +kernel)
theorem mG_2606 : Cond.methodLink "LazyForgeModel" 399 yX12_isAtom ∈ uG := uG_at 2606 (by decide +kernel) (by decide +kernel)
theorem mG_2608 : Cond.instanceMethod yX12_isAtom ∈ uG := uG_at 2608 (by decide +kernel) (by decide +kernel)
theorem mG_2609 : Cond.code yX12_isAtom prog_14_method_30_code 1 (some .boolean) ∈ uG := uG_at 2609 (by decide +kernel) (by decide +kernel)
theorem mG_2610 : Cond.methodLink "LazyForgeModel" 411 yX12_atom ∈ uG := uG_at 2610 (by decide +kernel) (by decide +kernel)
theorem mG_2612 : Cond.instanceMethod yX12_atom ∈ uG := uG_at 2612 (by decide +kernel) (by decide +kernel)
theorem mG_2613 : Cond.code yX12_atom prog_14_method_31_code 3 (some .boolean) ∈ uG := uG_at 2613 (by decide +kernel) (by decide +kernel)
theorem mG_2614 : Cond.methodLink "LazyForgeModel" 402 yX12_operand ∈ uG := uG_at 2614 (by decide +kernel) (by decide +kernel)
theorem mG_2616 : Cond.instanceMethod yX12_operand ∈ uG := uG_at 2616 (by decide +kernel) (by decide +kernel)
theorem mG_2617 : Cond.code yX12_operand prog_14_method_21_code 2 none ∈ uG := uG_at 2617 (by decide +kernel) (by decide +kernel)
theorem mG_2622 : Cond.methodLink "LazyForgeModel" 420 yX12_taken ∈ uG := uG_at 2622 (by decide +kernel) (by decide +kernel)
theorem mG_2624 : Cond.instanceMethod yX12_taken ∈ uG := uG_at 2624 (by decide +kernel) (by decide +kernel)
theorem mG_2625 : Cond.code yX12_taken prog_14_method_22_code 1 (some .int) ∈ uG := uG_at 2625 (by decide +kernel) (by decide +kernel)
theorem dX12_application_0 : decode cX12_application 0 = .ok (.aload_n 0, 1) := by decide +kernel
theorem dX12_application_1 : decode cX12_application 1 = .ok (.iconst 0, 1) := by decide +kernel
theorem dX12_application_2 : decode cX12_application 2 = .ok (.putfield 405, 3) := by decide +kernel
theorem dX12_application_5 : decode cX12_application 5 = .ok (.aload_n 0, 1) := by decide +kernel
theorem dX12_application_6 : decode cX12_application 6 = .ok (.getfield 286, 3) := by decide +kernel
theorem dX12_application_9 : decode cX12_application 9 = .ok (.iconst 4, 1) := by decide +kernel
theorem dX12_application_10 : decode cX12_application 10 = .ok (.if_icmp .ne 14, 3) := by decide +kernel
theorem dX12_application_13 : decode cX12_application 13 = .ok (.aload_n 0, 1) := by decide +kernel
theorem dX12_application_14 : decode cX12_application 14 = .ok (.aload_n 0, 1) := by decide +kernel
theorem dX12_application_15 : decode cX12_application 15 = .ok (.getfield 278, 3) := by decide +kernel
theorem dX12_application_18 : decode cX12_application 18 = .ok (.invokevirtual 396, 3) := by decide +kernel
theorem dX12_application_21 : decode cX12_application 21 = .ok (.goto 4, 3) := by decide +kernel
theorem dX12_application_24 : decode cX12_application 24 = .ok (.iconst (-1), 1) := by decide +kernel
theorem dX12_application_25 : decode cX12_application 25 = .ok (.istore_n 1, 1) := by decide +kernel
theorem dX12_application_26 : decode cX12_application 26 = .ok (.iload_n 1, 1) := by decide +kernel
theorem dX12_application_27 : decode cX12_application 27 = .ok (.ifCond .lt 49, 3) := by decide +kernel
theorem dX12_application_30 : decode cX12_application 30 = .ok (.aload_n 0, 1) := by decide +kernel
theorem dX12_application_31 : decode cX12_application 31 = .ok (.getfield 62, 3) := by decide +kernel
theorem dX12_application_34 : decode cX12_application 34 = .ok (.iload_n 1, 1) := by decide +kernel
theorem dX12_application_35 : decode cX12_application 35 = .ok (.iaload, 1) := by decide +kernel
theorem dX12_application_36 : decode cX12_application 36 = .ok (.ifCond .le 40, 3) := by decide +kernel
theorem dX12_application_39 : decode cX12_application 39 = .ok (.aload_n 0, 1) := by decide +kernel
theorem dX12_application_40 : decode cX12_application 40 = .ok (.bipush 7, 2) := by decide +kernel
theorem dX12_application_42 : decode cX12_application 42 = .ok (.invokevirtual 369, 3) := by decide +kernel
theorem dX12_application_45 : decode cX12_application 45 = .ok (.istore_n 2, 1) := by decide +kernel
theorem dX12_application_46 : decode cX12_application 46 = .ok (.aload_n 0, 1) := by decide +kernel
theorem dX12_application_47 : decode cX12_application 47 = .ok (.getfield 31, 3) := by decide +kernel
theorem dX12_application_50 : decode cX12_application 50 = .ok (.iload_n 2, 1) := by decide +kernel
theorem dX12_application_51 : decode cX12_application 51 = .ok (.iload_n 1, 1) := by decide +kernel
theorem dX12_application_52 : decode cX12_application 52 = .ok (.iastore, 1) := by decide +kernel
theorem dX12_application_53 : decode cX12_application 53 = .ok (.aload_n 0, 1) := by decide +kernel
theorem dX12_application_54 : decode cX12_application 54 = .ok (.invokevirtual 321, 3) := by decide +kernel
theorem dX12_application_57 : decode cX12_application 57 = .ok (.aload_n 0, 1) := by decide +kernel
theorem dX12_application_58 : decode cX12_application 58 = .ok (.bipush 9, 2) := by decide +kernel
theorem dX12_application_60 : decode cX12_application 60 = .ok (.iload_n 2, 1) := by decide +kernel
theorem dX12_application_61 : decode cX12_application 61 = .ok (.iconst 0, 1) := by decide +kernel
theorem dX12_application_62 : decode cX12_application 62 = .ok (.invokevirtual 372, 3) := by decide +kernel
theorem dX12_application_65 : decode cX12_application 65 = .ok (.aload_n 0, 1) := by decide +kernel
theorem dX12_application_66 : decode cX12_application 66 = .ok (.aload_n 0, 1) := by decide +kernel
theorem dX12_application_67 : decode cX12_application 67 = .ok (.getfield 342, 3) := by decide +kernel
theorem dX12_application_70 : decode cX12_application 70 = .ok (.iconst 1, 1) := by decide +kernel
theorem dX12_application_71 : decode cX12_application 71 = .ok (.isub, 1) := by decide +kernel
theorem dX12_application_72 : decode cX12_application 72 = .ok (.invokevirtual 408, 3) := by decide +kernel
theorem dX12_application_75 : decode cX12_application 75 = .ok (.ireturn, 1) := by decide +kernel
theorem dX12_application_76 : decode cX12_application 76 = .ok (.aload_n 0, 1) := by decide +kernel
theorem dX12_application_77 : decode cX12_application 77 = .ok (.bipush 8, 2) := by decide +kernel
theorem dX12_application_79 : decode cX12_application 79 = .ok (.iconst (-1), 1) := by decide +kernel
theorem dX12_application_80 : decode cX12_application 80 = .ok (.iconst 0, 1) := by decide +kernel
theorem dX12_application_81 : decode cX12_application 81 = .ok (.invokevirtual 372, 3) := by decide +kernel
theorem dX12_application_84 : decode cX12_application 84 = .ok (.aload_n 0, 1) := by decide +kernel
theorem dX12_application_85 : decode cX12_application 85 = .ok (.invokevirtual 411, 3) := by decide +kernel
theorem dX12_application_88 : decode cX12_application 88 = .ok (.ireturn, 1) := by decide +kernel
theorem dX12_atom_0 : decode cX12_atom 0 = .ok (.aload_n 0, 1) := by decide +kernel
theorem dX12_atom_1 : decode cX12_atom 1 = .ok (.bipush 40, 2) := by decide +kernel
theorem dX12_atom_3 : decode cX12_atom 3 = .ok (.invokevirtual 383, 3) := by decide +kernel
theorem dX12_atom_6 : decode cX12_atom 6 = .ok (.ifCond .eq 21, 3) := by decide +kernel
theorem dX12_atom_9 : decode cX12_atom 9 = .ok (.aload_n 0, 1) := by decide +kernel
theorem dX12_atom_10 : decode cX12_atom 10 = .ok (.invokevirtual 366, 3) := by decide +kernel
theorem dX12_atom_13 : decode cX12_atom 13 = .ok (.aload_n 0, 1) := by decide +kernel
theorem dX12_atom_14 : decode cX12_atom 14 = .ok (.iconst 1, 1) := by decide +kernel
theorem dX12_atom_15 : decode cX12_atom 15 = .ok (.invokevirtual 359, 3) := by decide +kernel
theorem dX12_atom_18 : decode cX12_atom 18 = .ok (.aload_n 0, 1) := by decide +kernel
theorem dX12_atom_19 : decode cX12_atom 19 = .ok (.iconst 1, 1) := by decide +kernel
theorem dX12_atom_20 : decode cX12_atom 20 = .ok (.iconst 0, 1) := by decide +kernel
theorem dX12_atom_21 : decode cX12_atom 21 = .ok (.iconst 0, 1) := by decide +kernel
theorem dX12_atom_22 : decode cX12_atom 22 = .ok (.invokevirtual 372, 3) := by decide +kernel
theorem dX12_atom_25 : decode cX12_atom 25 = .ok (.iconst 0, 1) := by decide +kernel
theorem dX12_atom_26 : decode cX12_atom 26 = .ok (.ireturn, 1) := by decide +kernel
theorem dX12_atom_27 : decode cX12_atom 27 = .ok (.aload_n 0, 1) := by decide +kernel
theorem dX12_atom_28 : decode cX12_atom 28 = .ok (.getfield 286, 3) := by decide +kernel
theorem dX12_atom_31 : decode cX12_atom 31 = .ok (.iconst 4, 1) := by decide +kernel
theorem dX12_atom_32 : decode cX12_atom 32 = .ok (.if_icmp .ne 14, 3) := by decide +kernel
theorem dX12_atom_35 : decode cX12_atom 35 = .ok (.aload_n 0, 1) := by decide +kernel
theorem dX12_atom_36 : decode cX12_atom 36 = .ok (.aload_n 0, 1) := by decide +kernel
theorem dX12_atom_37 : decode cX12_atom 37 = .ok (.getfield 278, 3) := by decide +kernel
theorem dX12_atom_40 : decode cX12_atom 40 = .ok (.invokevirtual 396, 3) := by decide +kernel
theorem dX12_atom_43 : decode cX12_atom 43 = .ok (.goto 4, 3) := by decide +kernel
theorem dX12_atom_46 : decode cX12_atom 46 = .ok (.iconst 0, 1) := by decide +kernel
theorem dX12_atom_47 : decode cX12_atom 47 = .ok (.istore_n 1, 1) := by decide +kernel
theorem dX12_atom_48 : decode cX12_atom 48 = .ok (.aload_n 0, 1) := by decide +kernel
theorem dX12_atom_49 : decode cX12_atom 49 = .ok (.getfield 286, 3) := by decide +kernel
theorem dX12_atom_52 : decode cX12_atom 52 = .ok (.iconst 4, 1) := by decide +kernel
theorem dX12_atom_53 : decode cX12_atom 53 = .ok (.if_icmp .ne 16, 3) := by decide +kernel
theorem dX12_atom_56 : decode cX12_atom 56 = .ok (.iload_n 1, 1) := by decide +kernel
theorem dX12_atom_57 : decode cX12_atom 57 = .ok (.ifCond .lt 12, 3) := by decide +kernel
theorem dX12_atom_60 : decode cX12_atom 60 = .ok (.aload_n 0, 1) := by decide +kernel
theorem dX12_atom_61 : decode cX12_atom 61 = .ok (.getfield 62, 3) := by decide +kernel
theorem dX12_atom_64 : decode cX12_atom 64 = .ok (.iload_n 1, 1) := by decide +kernel
theorem dX12_atom_65 : decode cX12_atom 65 = .ok (.iaload, 1) := by decide +kernel
theorem dX12_atom_66 : decode cX12_atom 66 = .ok (.ifCond .gt 10, 3) := by decide +kernel
theorem dX12_atom_69 : decode cX12_atom 69 = .ok (.aload_n 0, 1) := by decide +kernel
theorem dX12_atom_70 : decode cX12_atom 70 = .ok (.invokevirtual 399, 3) := by decide +kernel
theorem dX12_atom_73 : decode cX12_atom 73 = .ok (.ifCond .ne 10, 3) := by decide +kernel
theorem dX12_atom_76 : decode cX12_atom 76 = .ok (.aload_n 0, 1) := by decide +kernel
theorem dX12_atom_77 : decode cX12_atom 77 = .ok (.invokevirtual 324, 3) := by decide +kernel
theorem dX12_atom_80 : decode cX12_atom 80 = .ok (.goto 16, 3) := by decide +kernel
theorem dX12_atom_83 : decode cX12_atom 83 = .ok (.iload_n 1, 1) := by decide +kernel
theorem dX12_atom_84 : decode cX12_atom 84 = .ok (.ifCond .ge 12, 3) := by decide +kernel
theorem dX12_atom_87 : decode cX12_atom 87 = .ok (.aload_n 0, 1) := by decide +kernel
theorem dX12_atom_88 : decode cX12_atom 88 = .ok (.iconst 3, 1) := by decide +kernel
theorem dX12_atom_89 : decode cX12_atom 89 = .ok (.aload_n 0, 1) := by decide +kernel
theorem dX12_atom_90 : decode cX12_atom 90 = .ok (.getfield 275, 3) := by decide +kernel
theorem dX12_atom_93 : decode cX12_atom 93 = .ok (.invokevirtual 317, 3) := by decide +kernel
theorem dX12_atom_96 : decode cX12_atom 96 = .ok (.aload_n 0, 1) := by decide +kernel
theorem dX12_atom_97 : decode cX12_atom 97 = .ok (.getfield 311, 3) := by decide +kernel
theorem dX12_atom_100 : decode cX12_atom 100 = .ok (.ifCond .gt 10, 3) := by decide +kernel
theorem dX12_atom_103 : decode cX12_atom 103 = .ok (.aload_n 0, 1) := by decide +kernel
theorem dX12_atom_104 : decode cX12_atom 104 = .ok (.invokevirtual 355, 3) := by decide +kernel
theorem dX12_atom_107 : decode cX12_atom 107 = .ok (.ifCond .ne 5, 3) := by decide +kernel
theorem dX12_atom_110 : decode cX12_atom 110 = .ok (.iconst 0, 1) := by decide +kernel
theorem dX12_atom_111 : decode cX12_atom 111 = .ok (.ireturn, 1) := by decide +kernel
theorem dX12_atom_112 : decode cX12_atom 112 = .ok (.aload_n 0, 1) := by decide +kernel
theorem dX12_atom_113 : decode cX12_atom 113 = .ok (.aload_n 0, 1) := by decide +kernel
theorem dX12_atom_114 : decode cX12_atom 114 = .ok (.getfield 286, 3) := by decide +kernel
theorem dX12_atom_117 : decode cX12_atom 117 = .ok (.iconst 3, 1) := by decide +kernel
theorem dX12_atom_118 : decode cX12_atom 118 = .ok (.if_icmp .ne 8, 3) := by decide +kernel
theorem dX12_atom_121 : decode cX12_atom 121 = .ok (.bipush 8, 2) := by decide +kernel
theorem dX12_atom_123 : decode cX12_atom 123 = .ok (.goto 31, 3) := by decide +kernel
theorem dX12_atom_126 : decode cX12_atom 126 = .ok (.aload_n 0, 1) := by decide +kernel
theorem dX12_atom_127 : decode cX12_atom 127 = .ok (.getfield 286, 3) := by decide +kernel
theorem dX12_atom_130 : decode cX12_atom 130 = .ok (.iconst 4, 1) := by decide +kernel
theorem dX12_atom_131 : decode cX12_atom 131 = .ok (.if_icmp .ne 8, 3) := by decide +kernel
theorem dX12_atom_134 : decode cX12_atom 134 = .ok (.bipush 9, 2) := by decide +kernel
theorem dX12_atom_136 : decode cX12_atom 136 = .ok (.goto 18, 3) := by decide +kernel
theorem dX12_atom_139 : decode cX12_atom 139 = .ok (.aload_n 0, 1) := by decide +kernel
theorem dX12_atom_140 : decode cX12_atom 140 = .ok (.getfield 286, 3) := by decide +kernel
theorem dX12_atom_143 : decode cX12_atom 143 = .ok (.iconst 2, 1) := by decide +kernel
theorem dX12_atom_144 : decode cX12_atom 144 = .ok (.if_icmp .ne 8, 3) := by decide +kernel
theorem dX12_atom_147 : decode cX12_atom 147 = .ok (.bipush 10, 2) := by decide +kernel
theorem dX12_atom_149 : decode cX12_atom 149 = .ok (.goto 5, 3) := by decide +kernel
theorem dX12_atom_152 : decode cX12_atom 152 = .ok (.bipush 11, 2) := by decide +kernel
theorem dX12_atom_154 : decode cX12_atom 154 = .ok (.invokevirtual 369, 3) := by decide +kernel
theorem dX12_atom_157 : decode cX12_atom 157 = .ok (.istore_n 2, 1) := by decide +kernel
theorem dX12_atom_158 : decode cX12_atom 158 = .ok (.aload_n 0, 1) := by decide +kernel
theorem dX12_atom_159 : decode cX12_atom 159 = .ok (.getfield 37, 3) := by decide +kernel
theorem dX12_atom_162 : decode cX12_atom 162 = .ok (.iload_n 2, 1) := by decide +kernel
theorem dX12_atom_163 : decode cX12_atom 163 = .ok (.aload_n 0, 1) := by decide +kernel
theorem dX12_atom_164 : decode cX12_atom 164 = .ok (.getfield 278, 3) := by decide +kernel
theorem dX12_atom_167 : decode cX12_atom 167 = .ok (.lastore, 1) := by decide +kernel
theorem dX12_atom_168 : decode cX12_atom 168 = .ok (.aload_n 0, 1) := by decide +kernel
theorem dX12_atom_169 : decode cX12_atom 169 = .ok (.getfield 31, 3) := by decide +kernel
theorem dX12_atom_172 : decode cX12_atom 172 = .ok (.iload_n 2, 1) := by decide +kernel
theorem dX12_atom_173 : decode cX12_atom 173 = .ok (.aload_n 0, 1) := by decide +kernel
theorem dX12_atom_174 : decode cX12_atom 174 = .ok (.getfield 286, 3) := by decide +kernel
theorem dX12_atom_177 : decode cX12_atom 177 = .ok (.iconst 4, 1) := by decide +kernel
theorem dX12_atom_178 : decode cX12_atom 178 = .ok (.if_icmp .ne 7, 3) := by decide +kernel
theorem dX12_atom_181 : decode cX12_atom 181 = .ok (.iload_n 1, 1) := by decide +kernel
theorem dX12_atom_182 : decode cX12_atom 182 = .ok (.goto 7, 3) := by decide +kernel
theorem dX12_atom_185 : decode cX12_atom 185 = .ok (.aload_n 0, 1) := by decide +kernel
theorem dX12_atom_186 : decode cX12_atom 186 = .ok (.getfield 295, 3) := by decide +kernel
theorem dX12_atom_189 : decode cX12_atom 189 = .ok (.iastore, 1) := by decide +kernel
theorem dX12_atom_190 : decode cX12_atom 190 = .ok (.aload_n 0, 1) := by decide +kernel
theorem dX12_atom_191 : decode cX12_atom 191 = .ok (.invokevirtual 321, 3) := by decide +kernel
theorem dX12_atom_194 : decode cX12_atom 194 = .ok (.aload_n 0, 1) := by decide +kernel
theorem dX12_atom_195 : decode cX12_atom 195 = .ok (.iload_n 2, 1) := by decide +kernel
theorem dX12_atom_196 : decode cX12_atom 196 = .ok (.invokevirtual 402, 3) := by decide +kernel
theorem dX12_atom_199 : decode cX12_atom 199 = .ok (.iconst 1, 1) := by decide +kernel
theorem dX12_atom_200 : decode cX12_atom 200 = .ok (.ireturn, 1) := by decide +kernel
theorem dX12_atomEnds_0 : decode cX12_atomEnds 0 = .ok (.aload_n 0, 1) := by decide +kernel
theorem dX12_atomEnds_1 : decode cX12_atomEnds 1 = .ok (.getfield 342, 3) := by decide +kernel
theorem dX12_atomEnds_4 : decode cX12_atomEnds 4 = .ok (.iconst 1, 1) := by decide +kernel
theorem dX12_atomEnds_5 : decode cX12_atomEnds 5 = .ok (.isub, 1) := by decide +kernel
theorem dX12_atomEnds_6 : decode cX12_atomEnds 6 = .ok (.istore_n 1, 1) := by decide +kernel
theorem dX12_atomEnds_7 : decode cX12_atomEnds 7 = .ok (.aload_n 0, 1) := by decide +kernel
theorem dX12_atomEnds_8 : decode cX12_atomEnds 8 = .ok (.getfield 68, 3) := by decide +kernel
theorem dX12_atomEnds_11 : decode cX12_atomEnds 11 = .ok (.iload_n 1, 1) := by decide +kernel
theorem dX12_atomEnds_12 : decode cX12_atomEnds 12 = .ok (.iaload, 1) := by decide +kernel
theorem dX12_atomEnds_13 : decode cX12_atomEnds 13 = .ok (.istore_n 2, 1) := by decide +kernel
theorem dX12_atomEnds_14 : decode cX12_atomEnds 14 = .ok (.aload_n 0, 1) := by decide +kernel
theorem dX12_atomEnds_15 : decode cX12_atomEnds 15 = .ok (.getfield 74, 3) := by decide +kernel
theorem dX12_atomEnds_18 : decode cX12_atomEnds 18 = .ok (.iload_n 1, 1) := by decide +kernel
theorem dX12_atomEnds_19 : decode cX12_atomEnds 19 = .ok (.dup2, 1) := by decide +kernel
theorem dX12_atomEnds_20 : decode cX12_atomEnds 20 = .ok (.iaload, 1) := by decide +kernel
theorem dX12_atomEnds_21 : decode cX12_atomEnds 21 = .ok (.iconst 1, 1) := by decide +kernel
theorem dX12_atomEnds_22 : decode cX12_atomEnds 22 = .ok (.iadd, 1) := by decide +kernel
theorem dX12_atomEnds_23 : decode cX12_atomEnds 23 = .ok (.iastore, 1) := by decide +kernel
theorem dX12_atomEnds_24 : decode cX12_atomEnds 24 = .ok (.aload_n 0, 1) := by decide +kernel
theorem dX12_atomEnds_25 : decode cX12_atomEnds 25 = .ok (.getfield 74, 3) := by decide +kernel
theorem dX12_atomEnds_28 : decode cX12_atomEnds 28 = .ok (.iload_n 1, 1) := by decide +kernel
theorem dX12_atomEnds_29 : decode cX12_atomEnds 29 = .ok (.iaload, 1) := by decide +kernel
theorem dX12_atomEnds_30 : decode cX12_atomEnds 30 = .ok (.istore_n 3, 1) := by decide +kernel
theorem dX12_atomEnds_31 : decode cX12_atomEnds 31 = .ok (.aload_n 0, 1) := by decide +kernel
theorem dX12_atomEnds_32 : decode cX12_atomEnds 32 = .ok (.getfield 65, 3) := by decide +kernel
theorem dX12_atomEnds_35 : decode cX12_atomEnds 35 = .ok (.iload_n 1, 1) := by decide +kernel
theorem dX12_atomEnds_36 : decode cX12_atomEnds 36 = .ok (.iaload, 1) := by decide +kernel
theorem dX12_atomEnds_37 : decode cX12_atomEnds 37 = .ok (.bipush 9, 2) := by decide +kernel
theorem dX12_atomEnds_39 : decode cX12_atomEnds 39 = .ok (.if_icmp .ne 87, 3) := by decide +kernel
theorem dX12_atomEnds_42 : decode cX12_atomEnds 42 = .ok (.aload_n 0, 1) := by decide +kernel
theorem dX12_atomEnds_43 : decode cX12_atomEnds 43 = .ok (.iload_n 2, 1) := by decide +kernel
theorem dX12_atomEnds_44 : decode cX12_atomEnds 44 = .ok (.aload_n 0, 1) := by decide +kernel
theorem dX12_atomEnds_45 : decode cX12_atomEnds 45 = .ok (.invokevirtual 420, 3) := by decide +kernel
theorem dX12_atomEnds_48 : decode cX12_atomEnds 48 = .ok (.invokevirtual 386, 3) := by decide +kernel
theorem dX12_atomEnds_51 : decode cX12_atomEnds 51 = .ok (.iload_n 3, 1) := by decide +kernel
theorem dX12_atomEnds_52 : decode cX12_atomEnds 52 = .ok (.aload_n 0, 1) := by decide +kernel
theorem dX12_atomEnds_53 : decode cX12_atomEnds 53 = .ok (.getfield 62, 3) := by decide +kernel
theorem dX12_atomEnds_56 : decode cX12_atomEnds 56 = .ok (.aload_n 0, 1) := by decide +kernel
theorem dX12_atomEnds_57 : decode cX12_atomEnds 57 = .ok (.getfield 31, 3) := by decide +kernel
theorem dX12_atomEnds_60 : decode cX12_atomEnds 60 = .ok (.iload_n 2, 1) := by decide +kernel
theorem dX12_atomEnds_61 : decode cX12_atomEnds 61 = .ok (.iaload, 1) := by decide +kernel
theorem dX12_atomEnds_62 : decode cX12_atomEnds 62 = .ok (.iaload, 1) := by decide +kernel
theorem dX12_atomEnds_63 : decode cX12_atomEnds 63 = .ok (.if_icmp .ge 28, 3) := by decide +kernel
theorem dX12_atomEnds_66 : decode cX12_atomEnds 66 = .ok (.aload_n 0, 1) := by decide +kernel
theorem dX12_atomEnds_67 : decode cX12_atomEnds 67 = .ok (.aload_n 0, 1) := by decide +kernel
theorem dX12_atomEnds_68 : decode cX12_atomEnds 68 = .ok (.iload_n 1, 1) := by decide +kernel
theorem dX12_atomEnds_69 : decode cX12_atomEnds 69 = .ok (.invokevirtual 408, 3) := by decide +kernel
theorem dX12_atomEnds_72 : decode cX12_atomEnds 72 = .ok (.ifCond .ne 7, 3) := by decide +kernel
theorem dX12_atomEnds_75 : decode cX12_atomEnds 75 = .ok (.iconst 1, 1) := by decide +kernel
theorem dX12_atomEnds_76 : decode cX12_atomEnds 76 = .ok (.goto 4, 3) := by decide +kernel
theorem dX12_atomEnds_79 : decode cX12_atomEnds 79 = .ok (.iconst 0, 1) := by decide +kernel
theorem dX12_atomEnds_80 : decode cX12_atomEnds 80 = .ok (.putfield 389, 3) := by decide +kernel
theorem dX12_atomEnds_83 : decode cX12_atomEnds 83 = .ok (.aload_n 0, 1) := by decide +kernel
theorem dX12_atomEnds_84 : decode cX12_atomEnds 84 = .ok (.iconst 1, 1) := by decide +kernel
theorem dX12_atomEnds_85 : decode cX12_atomEnds 85 = .ok (.putfield 393, 3) := by decide +kernel
theorem dX12_atomEnds_88 : decode cX12_atomEnds 88 = .ok (.goto 37, 3) := by decide +kernel
theorem dX12_atomEnds_91 : decode cX12_atomEnds 91 = .ok (.aload_n 0, 1) := by decide +kernel
theorem dX12_atomEnds_92 : decode cX12_atomEnds 92 = .ok (.invokevirtual 399, 3) := by decide +kernel
theorem dX12_atomEnds_95 : decode cX12_atomEnds 95 = .ok (.ifCond .eq 10, 3) := by decide +kernel
theorem dX12_atomEnds_98 : decode cX12_atomEnds 98 = .ok (.aload_n 0, 1) := by decide +kernel
theorem dX12_atomEnds_99 : decode cX12_atomEnds 99 = .ok (.invokevirtual 324, 3) := by decide +kernel
theorem dX12_atomEnds_102 : decode cX12_atomEnds 102 = .ok (.goto 23, 3) := by decide +kernel
theorem dX12_atomEnds_105 : decode cX12_atomEnds 105 = .ok (.aload_n 0, 1) := by decide +kernel
theorem dX12_atomEnds_106 : decode cX12_atomEnds 106 = .ok (.dup, 1) := by decide +kernel
theorem dX12_atomEnds_107 : decode cX12_atomEnds 107 = .ok (.getfield 342, 3) := by decide +kernel
theorem dX12_atomEnds_110 : decode cX12_atomEnds 110 = .ok (.iconst 1, 1) := by decide +kernel
theorem dX12_atomEnds_111 : decode cX12_atomEnds 111 = .ok (.isub, 1) := by decide +kernel
theorem dX12_atomEnds_112 : decode cX12_atomEnds 112 = .ok (.putfield 342, 3) := by decide +kernel
theorem dX12_atomEnds_115 : decode cX12_atomEnds 115 = .ok (.aload_n 0, 1) := by decide +kernel
theorem dX12_atomEnds_116 : decode cX12_atomEnds 116 = .ok (.iload_n 2, 1) := by decide +kernel
theorem dX12_atomEnds_117 : decode cX12_atomEnds 117 = .ok (.invokevirtual 402, 3) := by decide +kernel
theorem dX12_atomEnds_120 : decode cX12_atomEnds 120 = .ok (.aload_n 0, 1) := by decide +kernel
theorem dX12_atomEnds_121 : decode cX12_atomEnds 121 = .ok (.iconst 1, 1) := by decide +kernel
theorem dX12_atomEnds_122 : decode cX12_atomEnds 122 = .ok (.putfield 424, 3) := by decide +kernel
theorem dX12_atomEnds_125 : decode cX12_atomEnds 125 = .ok (.return_, 1) := by decide +kernel
theorem dX12_atomEnds_126 : decode cX12_atomEnds 126 = .ok (.iload_n 2, 1) := by decide +kernel
theorem dX12_atomEnds_127 : decode cX12_atomEnds 127 = .ok (.ifCond .lt 12, 3) := by decide +kernel
theorem dX12_atomEnds_130 : decode cX12_atomEnds 130 = .ok (.aload_n 0, 1) := by decide +kernel
theorem dX12_atomEnds_131 : decode cX12_atomEnds 131 = .ok (.iload_n 2, 1) := by decide +kernel
theorem dX12_atomEnds_132 : decode cX12_atomEnds 132 = .ok (.aload_n 0, 1) := by decide +kernel
theorem dX12_atomEnds_133 : decode cX12_atomEnds 133 = .ok (.invokevirtual 420, 3) := by decide +kernel
theorem dX12_atomEnds_136 : decode cX12_atomEnds 136 = .ok (.invokevirtual 386, 3) := by decide +kernel
theorem dX12_atomEnds_139 : decode cX12_atomEnds 139 = .ok (.aload_n 0, 1) := by decide +kernel
theorem dX12_atomEnds_140 : decode cX12_atomEnds 140 = .ok (.invokevirtual 399, 3) := by decide +kernel
theorem dX12_atomEnds_143 : decode cX12_atomEnds 143 = .ok (.ifCond .ne 28, 3) := by decide +kernel
theorem dX12_atomEnds_146 : decode cX12_atomEnds 146 = .ok (.aload_n 0, 1) := by decide +kernel
theorem dX12_atomEnds_147 : decode cX12_atomEnds 147 = .ok (.dup, 1) := by decide +kernel
theorem dX12_atomEnds_148 : decode cX12_atomEnds 148 = .ok (.getfield 342, 3) := by decide +kernel
theorem dX12_atomEnds_151 : decode cX12_atomEnds 151 = .ok (.iconst 1, 1) := by decide +kernel
theorem dX12_atomEnds_152 : decode cX12_atomEnds 152 = .ok (.isub, 1) := by decide +kernel
theorem dX12_atomEnds_153 : decode cX12_atomEnds 153 = .ok (.putfield 342, 3) := by decide +kernel
theorem dX12_atomEnds_156 : decode cX12_atomEnds 156 = .ok (.iload_n 2, 1) := by decide +kernel
theorem dX12_atomEnds_157 : decode cX12_atomEnds 157 = .ok (.ifCond .lt 8, 3) := by decide +kernel
theorem dX12_atomEnds_160 : decode cX12_atomEnds 160 = .ok (.aload_n 0, 1) := by decide +kernel
theorem dX12_atomEnds_161 : decode cX12_atomEnds 161 = .ok (.iload_n 2, 1) := by decide +kernel
theorem dX12_atomEnds_162 : decode cX12_atomEnds 162 = .ok (.invokevirtual 402, 3) := by decide +kernel
theorem dX12_atomEnds_165 : decode cX12_atomEnds 165 = .ok (.aload_n 0, 1) := by decide +kernel
theorem dX12_atomEnds_166 : decode cX12_atomEnds 166 = .ok (.iconst 1, 1) := by decide +kernel
theorem dX12_atomEnds_167 : decode cX12_atomEnds 167 = .ok (.putfield 424, 3) := by decide +kernel
theorem dX12_atomEnds_170 : decode cX12_atomEnds 170 = .ok (.return_, 1) := by decide +kernel
theorem dX12_atomEnds_171 : decode cX12_atomEnds 171 = .ok (.aload_n 0, 1) := by decide +kernel
theorem dX12_atomEnds_172 : decode cX12_atomEnds 172 = .ok (.getfield 286, 3) := by decide +kernel
theorem dX12_atomEnds_175 : decode cX12_atomEnds 175 = .ok (.iconst 4, 1) := by decide +kernel
theorem dX12_atomEnds_176 : decode cX12_atomEnds 176 = .ok (.if_icmp .ne 14, 3) := by decide +kernel
theorem dX12_atomEnds_179 : decode cX12_atomEnds 179 = .ok (.aload_n 0, 1) := by decide +kernel
theorem dX12_atomEnds_180 : decode cX12_atomEnds 180 = .ok (.aload_n 0, 1) := by decide +kernel
theorem dX12_atomEnds_181 : decode cX12_atomEnds 181 = .ok (.getfield 278, 3) := by decide +kernel
theorem dX12_atomEnds_184 : decode cX12_atomEnds 184 = .ok (.invokevirtual 396, 3) := by decide +kernel
theorem dX12_atomEnds_187 : decode cX12_atomEnds 187 = .ok (.goto 4, 3) := by decide +kernel
theorem dX12_atomEnds_190 : decode cX12_atomEnds 190 = .ok (.iconst 0, 1) := by decide +kernel
theorem dX12_atomEnds_191 : decode cX12_atomEnds 191 = .ok (.istore 4, 2) := by decide +kernel
theorem dX12_atomEnds_193 : decode cX12_atomEnds 193 = .ok (.aload_n 0, 1) := by decide +kernel
theorem dX12_atomEnds_194 : decode cX12_atomEnds 194 = .ok (.invokevirtual 414, 3) := by decide +kernel
theorem dX12_atomEnds_197 : decode cX12_atomEnds 197 = .ok (.aload_n 0, 1) := by decide +kernel
theorem dX12_atomEnds_198 : decode cX12_atomEnds 198 = .ok (.getfield 286, 3) := by decide +kernel
theorem dX12_atomEnds_201 : decode cX12_atomEnds 201 = .ok (.iconst 4, 1) := by decide +kernel
theorem dX12_atomEnds_202 : decode cX12_atomEnds 202 = .ok (.if_icmp .ne 25, 3) := by decide +kernel
theorem dX12_atomEnds_205 : decode cX12_atomEnds 205 = .ok (.iload 4, 2) := by decide +kernel
theorem dX12_atomEnds_207 : decode cX12_atomEnds 207 = .ok (.ifCond .lt 20, 3) := by decide +kernel
theorem dX12_atomEnds_210 : decode cX12_atomEnds 210 = .ok (.aload_n 0, 1) := by decide +kernel
theorem dX12_atomEnds_211 : decode cX12_atomEnds 211 = .ok (.getfield 62, 3) := by decide +kernel
theorem dX12_atomEnds_214 : decode cX12_atomEnds 214 = .ok (.iload 4, 2) := by decide +kernel
theorem dX12_atomEnds_216 : decode cX12_atomEnds 216 = .ok (.iaload, 1) := by decide +kernel
theorem dX12_atomEnds_217 : decode cX12_atomEnds 217 = .ok (.ifCond .le 10, 3) := by decide +kernel
theorem dX12_atomEnds_220 : decode cX12_atomEnds 220 = .ok (.aload_n 0, 1) := by decide +kernel
theorem dX12_atomEnds_221 : decode cX12_atomEnds 221 = .ok (.invokevirtual 324, 3) := by decide +kernel
theorem dX12_atomEnds_224 : decode cX12_atomEnds 224 = .ok (.goto 35, 3) := by decide +kernel
theorem dX12_atomEnds_227 : decode cX12_atomEnds 227 = .ok (.iload 4, 2) := by decide +kernel
theorem dX12_atomEnds_229 : decode cX12_atomEnds 229 = .ok (.ifCond .ge 15, 3) := by decide +kernel
theorem dX12_atomEnds_232 : decode cX12_atomEnds 232 = .ok (.aload_n 0, 1) := by decide +kernel
theorem dX12_atomEnds_233 : decode cX12_atomEnds 233 = .ok (.iconst 3, 1) := by decide +kernel
theorem dX12_atomEnds_234 : decode cX12_atomEnds 234 = .ok (.aload_n 0, 1) := by decide +kernel
theorem dX12_atomEnds_235 : decode cX12_atomEnds 235 = .ok (.getfield 275, 3) := by decide +kernel
theorem dX12_atomEnds_238 : decode cX12_atomEnds 238 = .ok (.invokevirtual 317, 3) := by decide +kernel
theorem dX12_atomEnds_241 : decode cX12_atomEnds 241 = .ok (.goto 18, 3) := by decide +kernel
theorem dX12_atomEnds_244 : decode cX12_atomEnds 244 = .ok (.iload_n 3, 1) := by decide +kernel
theorem dX12_atomEnds_245 : decode cX12_atomEnds 245 = .ok (.bipush 6, 2) := by decide +kernel
theorem dX12_atomEnds_247 : decode cX12_atomEnds 247 = .ok (.if_icmp .ne 12, 3) := by decide +kernel
theorem dX12_atomEnds_250 : decode cX12_atomEnds 250 = .ok (.aload_n 0, 1) := by decide +kernel
theorem dX12_atomEnds_251 : decode cX12_atomEnds 251 = .ok (.iconst 4, 1) := by decide +kernel
theorem dX12_atomEnds_252 : decode cX12_atomEnds 252 = .ok (.aload_n 0, 1) := by decide +kernel
theorem dX12_atomEnds_253 : decode cX12_atomEnds 253 = .ok (.getfield 275, 3) := by decide +kernel
theorem dX12_atomEnds_256 : decode cX12_atomEnds 256 = .ok (.invokevirtual 317, 3) := by decide +kernel
theorem dX12_atomEnds_259 : decode cX12_atomEnds 259 = .ok (.aload_n 0, 1) := by decide +kernel
theorem dX12_atomEnds_260 : decode cX12_atomEnds 260 = .ok (.getfield 311, 3) := by decide +kernel
theorem dX12_atomEnds_263 : decode cX12_atomEnds 263 = .ok (.ifCond .ne 40, 3) := by decide +kernel
theorem dX12_atomEnds_266 : decode cX12_atomEnds 266 = .ok (.iload_n 2, 1) := by decide +kernel
theorem dX12_atomEnds_267 : decode cX12_atomEnds 267 = .ok (.ifCond .ge 36, 3) := by decide +kernel
theorem dX12_atomEnds_270 : decode cX12_atomEnds 270 = .ok (.aload_n 0, 1) := by decide +kernel
theorem dX12_atomEnds_271 : decode cX12_atomEnds 271 = .ok (.invokevirtual 355, 3) := by decide +kernel
theorem dX12_atomEnds_274 : decode cX12_atomEnds 274 = .ok (.ifCond .eq 29, 3) := by decide +kernel
theorem dX12_atomEnds_277 : decode cX12_atomEnds 277 = .ok (.aload_n 0, 1) := by decide +kernel
theorem dX12_atomEnds_278 : decode cX12_atomEnds 278 = .ok (.bipush 6, 2) := by decide +kernel
theorem dX12_atomEnds_280 : decode cX12_atomEnds 280 = .ok (.invokevirtual 369, 3) := by decide +kernel
theorem dX12_atomEnds_283 : decode cX12_atomEnds 283 = .ok (.istore 5, 2) := by decide +kernel
theorem dX12_atomEnds_285 : decode cX12_atomEnds 285 = .ok (.aload_n 0, 1) := by decide +kernel
theorem dX12_atomEnds_286 : decode cX12_atomEnds 286 = .ok (.iload 5, 2) := by decide +kernel
theorem dX12_atomEnds_288 : decode cX12_atomEnds 288 = .ok (.aload_n 0, 1) := by decide +kernel
theorem dX12_atomEnds_289 : decode cX12_atomEnds 289 = .ok (.invokevirtual 420, 3) := by decide +kernel
theorem dX12_atomEnds_292 : decode cX12_atomEnds 292 = .ok (.invokevirtual 386, 3) := by decide +kernel
theorem dX12_atomEnds_295 : decode cX12_atomEnds 295 = .ok (.aload_n 0, 1) := by decide +kernel
theorem dX12_atomEnds_296 : decode cX12_atomEnds 296 = .ok (.getfield 68, 3) := by decide +kernel
theorem dX12_atomEnds_299 : decode cX12_atomEnds 299 = .ok (.iload_n 1, 1) := by decide +kernel
theorem dX12_atomEnds_300 : decode cX12_atomEnds 300 = .ok (.iload 5, 2) := by decide +kernel
theorem dX12_atomEnds_302 : decode cX12_atomEnds 302 = .ok (.iastore, 1) := by decide +kernel
theorem dX12_atomEnds_303 : decode cX12_atomEnds 303 = .ok (.aload_n 0, 1) := by decide +kernel
theorem dX12_atomEnds_304 : decode cX12_atomEnds 304 = .ok (.aload_n 0, 1) := by decide +kernel
theorem dX12_atomEnds_305 : decode cX12_atomEnds 305 = .ok (.getfield 311, 3) := by decide +kernel
theorem dX12_atomEnds_308 : decode cX12_atomEnds 308 = .ok (.ifCond .ne 14, 3) := by decide +kernel
theorem dX12_atomEnds_311 : decode cX12_atomEnds 311 = .ok (.aload_n 0, 1) := by decide +kernel
theorem dX12_atomEnds_312 : decode cX12_atomEnds 312 = .ok (.invokevirtual 411, 3) := by decide +kernel
theorem dX12_atomEnds_315 : decode cX12_atomEnds 315 = .ok (.ifCond .ne 7, 3) := by decide +kernel
theorem dX12_atomEnds_318 : decode cX12_atomEnds 318 = .ok (.iconst 1, 1) := by decide +kernel
theorem dX12_atomEnds_319 : decode cX12_atomEnds 319 = .ok (.goto 4, 3) := by decide +kernel
theorem dX12_atomEnds_322 : decode cX12_atomEnds 322 = .ok (.iconst 0, 1) := by decide +kernel
theorem dX12_atomEnds_323 : decode cX12_atomEnds 323 = .ok (.putfield 389, 3) := by decide +kernel
theorem dX12_atomEnds_326 : decode cX12_atomEnds 326 = .ok (.aload_n 0, 1) := by decide +kernel
theorem dX12_atomEnds_327 : decode cX12_atomEnds 327 = .ok (.iconst 1, 1) := by decide +kernel
theorem dX12_atomEnds_328 : decode cX12_atomEnds 328 = .ok (.putfield 393, 3) := by decide +kernel
theorem dX12_atomEnds_331 : decode cX12_atomEnds 331 = .ok (.return_, 1) := by decide +kernel
theorem dX12_begins_0 : decode cX12_begins 0 = .ok (.aload_n 0, 1) := by decide +kernel
theorem dX12_begins_1 : decode cX12_begins 1 = .ok (.getfield 286, 3) := by decide +kernel
theorem dX12_begins_4 : decode cX12_begins 4 = .ok (.lookupswitch 190 #[(11, 36), (13, 83), (192, 125)], 36) := by decide +kernel
theorem dX12_begins_40 : decode cX12_begins 40 = .ok (.aload_n 0, 1) := by decide +kernel
theorem dX12_begins_41 : decode cX12_begins 41 = .ok (.invokevirtual 366, 3) := by decide +kernel
theorem dX12_begins_44 : decode cX12_begins 44 = .ok (.aload_n 0, 1) := by decide +kernel
theorem dX12_begins_45 : decode cX12_begins 45 = .ok (.getfield 311, 3) := by decide +kernel
theorem dX12_begins_48 : decode cX12_begins 48 = .ok (.ifCond .ne 18, 3) := by decide +kernel
theorem dX12_begins_51 : decode cX12_begins 51 = .ok (.aload_n 0, 1) := by decide +kernel
theorem dX12_begins_52 : decode cX12_begins 52 = .ok (.invokevirtual 355, 3) := by decide +kernel
theorem dX12_begins_55 : decode cX12_begins 55 = .ok (.ifCond .eq 11, 3) := by decide +kernel
theorem dX12_begins_58 : decode cX12_begins 58 = .ok (.aload_n 0, 1) := by decide +kernel
theorem dX12_begins_59 : decode cX12_begins 59 = .ok (.iconst 0, 1) := by decide +kernel
theorem dX12_begins_60 : decode cX12_begins 60 = .ok (.invokevirtual 369, 3) := by decide +kernel
theorem dX12_begins_63 : decode cX12_begins 63 = .ok (.goto 4, 3) := by decide +kernel
theorem dX12_begins_66 : decode cX12_begins 66 = .ok (.iconst 0, 1) := by decide +kernel
theorem dX12_begins_67 : decode cX12_begins 67 = .ok (.istore_n 1, 1) := by decide +kernel
theorem dX12_begins_68 : decode cX12_begins 68 = .ok (.aload_n 0, 1) := by decide +kernel
theorem dX12_begins_69 : decode cX12_begins 69 = .ok (.iconst 1, 1) := by decide +kernel
theorem dX12_begins_70 : decode cX12_begins 70 = .ok (.invokevirtual 359, 3) := by decide +kernel
theorem dX12_begins_73 : decode cX12_begins 73 = .ok (.aload_n 0, 1) := by decide +kernel
theorem dX12_begins_74 : decode cX12_begins 74 = .ok (.iconst 3, 1) := by decide +kernel
theorem dX12_begins_75 : decode cX12_begins 75 = .ok (.iload_n 1, 1) := by decide +kernel
theorem dX12_begins_76 : decode cX12_begins 76 = .ok (.iconst 0, 1) := by decide +kernel
theorem dX12_begins_77 : decode cX12_begins 77 = .ok (.invokevirtual 372, 3) := by decide +kernel
theorem dX12_begins_80 : decode cX12_begins 80 = .ok (.aload_n 0, 1) := by decide +kernel
theorem dX12_begins_81 : decode cX12_begins 81 = .ok (.iload_n 1, 1) := by decide +kernel
theorem dX12_begins_82 : decode cX12_begins 82 = .ok (.invokevirtual 376, 3) := by decide +kernel
theorem dX12_begins_85 : decode cX12_begins 85 = .ok (.iconst 1, 1) := by decide +kernel
theorem dX12_begins_86 : decode cX12_begins 86 = .ok (.ireturn, 1) := by decide +kernel
theorem dX12_begins_87 : decode cX12_begins 87 = .ok (.aload_n 0, 1) := by decide +kernel
theorem dX12_begins_88 : decode cX12_begins 88 = .ok (.invokevirtual 366, 3) := by decide +kernel
theorem dX12_begins_91 : decode cX12_begins 91 = .ok (.aload_n 0, 1) := by decide +kernel
theorem dX12_begins_92 : decode cX12_begins 92 = .ok (.getfield 311, 3) := by decide +kernel
theorem dX12_begins_95 : decode cX12_begins 95 = .ok (.ifCond .ne 18, 3) := by decide +kernel
theorem dX12_begins_98 : decode cX12_begins 98 = .ok (.aload_n 0, 1) := by decide +kernel
theorem dX12_begins_99 : decode cX12_begins 99 = .ok (.invokevirtual 355, 3) := by decide +kernel
theorem dX12_begins_102 : decode cX12_begins 102 = .ok (.ifCond .eq 11, 3) := by decide +kernel
theorem dX12_begins_105 : decode cX12_begins 105 = .ok (.aload_n 0, 1) := by decide +kernel
theorem dX12_begins_106 : decode cX12_begins 106 = .ok (.iconst 3, 1) := by decide +kernel
theorem dX12_begins_107 : decode cX12_begins 107 = .ok (.invokevirtual 369, 3) := by decide +kernel
theorem dX12_begins_110 : decode cX12_begins 110 = .ok (.goto 4, 3) := by decide +kernel
theorem dX12_begins_113 : decode cX12_begins 113 = .ok (.iconst 0, 1) := by decide +kernel
theorem dX12_begins_114 : decode cX12_begins 114 = .ok (.istore_n 1, 1) := by decide +kernel
theorem dX12_begins_115 : decode cX12_begins 115 = .ok (.aload_n 0, 1) := by decide +kernel
theorem dX12_begins_116 : decode cX12_begins 116 = .ok (.iconst 1, 1) := by decide +kernel
theorem dX12_begins_117 : decode cX12_begins 117 = .ok (.invokevirtual 359, 3) := by decide +kernel
theorem dX12_begins_120 : decode cX12_begins 120 = .ok (.aload_n 0, 1) := by decide +kernel
theorem dX12_begins_121 : decode cX12_begins 121 = .ok (.iconst 5, 1) := by decide +kernel
theorem dX12_begins_122 : decode cX12_begins 122 = .ok (.iload_n 1, 1) := by decide +kernel
theorem dX12_begins_123 : decode cX12_begins 123 = .ok (.iconst 0, 1) := by decide +kernel
theorem dX12_begins_124 : decode cX12_begins 124 = .ok (.invokevirtual 372, 3) := by decide +kernel
theorem dX12_begins_127 : decode cX12_begins 127 = .ok (.iconst 1, 1) := by decide +kernel
theorem dX12_begins_128 : decode cX12_begins 128 = .ok (.ireturn, 1) := by decide +kernel
theorem dX12_begins_129 : decode cX12_begins 129 = .ok (.aload_n 0, 1) := by decide +kernel
theorem dX12_begins_130 : decode cX12_begins 130 = .ok (.invokevirtual 366, 3) := by decide +kernel
theorem dX12_begins_133 : decode cX12_begins 133 = .ok (.aload_n 0, 1) := by decide +kernel
theorem dX12_begins_134 : decode cX12_begins 134 = .ok (.getfield 311, 3) := by decide +kernel
theorem dX12_begins_137 : decode cX12_begins 137 = .ok (.ifCond .ne 18, 3) := by decide +kernel
theorem dX12_begins_140 : decode cX12_begins 140 = .ok (.aload_n 0, 1) := by decide +kernel
theorem dX12_begins_141 : decode cX12_begins 141 = .ok (.invokevirtual 355, 3) := by decide +kernel
theorem dX12_begins_144 : decode cX12_begins 144 = .ok (.ifCond .eq 11, 3) := by decide +kernel
theorem dX12_begins_147 : decode cX12_begins 147 = .ok (.aload_n 0, 1) := by decide +kernel
theorem dX12_begins_148 : decode cX12_begins 148 = .ok (.iconst 2, 1) := by decide +kernel
theorem dX12_begins_149 : decode cX12_begins 149 = .ok (.invokevirtual 369, 3) := by decide +kernel
theorem dX12_begins_152 : decode cX12_begins 152 = .ok (.goto 4, 3) := by decide +kernel
theorem dX12_begins_155 : decode cX12_begins 155 = .ok (.iconst 0, 1) := by decide +kernel
theorem dX12_begins_156 : decode cX12_begins 156 = .ok (.istore_n 1, 1) := by decide +kernel
theorem dX12_begins_157 : decode cX12_begins 157 = .ok (.aload_n 0, 1) := by decide +kernel
theorem dX12_begins_158 : decode cX12_begins 158 = .ok (.iconst 1, 1) := by decide +kernel
theorem dX12_begins_159 : decode cX12_begins 159 = .ok (.invokevirtual 359, 3) := by decide +kernel
theorem dX12_begins_162 : decode cX12_begins 162 = .ok (.aload_n 0, 1) := by decide +kernel
theorem dX12_begins_163 : decode cX12_begins 163 = .ok (.getfield 311, 3) := by decide +kernel
theorem dX12_begins_166 : decode cX12_begins 166 = .ok (.ifCond .ne 9, 3) := by decide +kernel
theorem dX12_begins_169 : decode cX12_begins 169 = .ok (.aload_n 0, 1) := by decide +kernel
theorem dX12_begins_170 : decode cX12_begins 170 = .ok (.iload_n 1, 1) := by decide +kernel
theorem dX12_begins_171 : decode cX12_begins 171 = .ok (.iconst 1, 1) := by decide +kernel
theorem dX12_begins_172 : decode cX12_begins 172 = .ok (.invokevirtual 380, 3) := by decide +kernel
theorem dX12_begins_175 : decode cX12_begins 175 = .ok (.aload_n 0, 1) := by decide +kernel
theorem dX12_begins_176 : decode cX12_begins 176 = .ok (.aload_n 0, 1) := by decide +kernel
theorem dX12_begins_177 : decode cX12_begins 177 = .ok (.bipush 46, 2) := by decide +kernel
theorem dX12_begins_179 : decode cX12_begins 179 = .ok (.invokevirtual 383, 3) := by decide +kernel
theorem dX12_begins_182 : decode cX12_begins 182 = .ok (.invokevirtual 359, 3) := by decide +kernel
theorem dX12_begins_185 : decode cX12_begins 185 = .ok (.aload_n 0, 1) := by decide +kernel
theorem dX12_begins_186 : decode cX12_begins 186 = .ok (.iconst 4, 1) := by decide +kernel
theorem dX12_begins_187 : decode cX12_begins 187 = .ok (.iload_n 1, 1) := by decide +kernel
theorem dX12_begins_188 : decode cX12_begins 188 = .ok (.iconst 0, 1) := by decide +kernel
theorem dX12_begins_189 : decode cX12_begins 189 = .ok (.invokevirtual 372, 3) := by decide +kernel
theorem dX12_begins_192 : decode cX12_begins 192 = .ok (.iconst 1, 1) := by decide +kernel
theorem dX12_begins_193 : decode cX12_begins 193 = .ok (.ireturn, 1) := by decide +kernel
theorem dX12_begins_194 : decode cX12_begins 194 = .ok (.iconst 0, 1) := by decide +kernel
theorem dX12_begins_195 : decode cX12_begins 195 = .ok (.ireturn, 1) := by decide +kernel
theorem dX12_binding_0 : decode cX12_binding 0 = .ok (.aload_n 0, 1) := by decide +kernel
theorem dX12_binding_1 : decode cX12_binding 1 = .ok (.getfield 311, 3) := by decide +kernel
theorem dX12_binding_4 : decode cX12_binding 4 = .ok (.ifCond .le 4, 3) := by decide +kernel
theorem dX12_binding_7 : decode cX12_binding 7 = .ok (.return_, 1) := by decide +kernel
theorem dX12_binding_8 : decode cX12_binding 8 = .ok (.iconst 0, 1) := by decide +kernel
theorem dX12_binding_9 : decode cX12_binding 9 = .ok (.istore_n 2, 1) := by decide +kernel
theorem dX12_binding_10 : decode cX12_binding 10 = .ok (.aload_n 0, 1) := by decide +kernel
theorem dX12_binding_11 : decode cX12_binding 11 = .ok (.getfield 19, 3) := by decide +kernel
theorem dX12_binding_14 : decode cX12_binding 14 = .ok (.iload_n 1, 1) := by decide +kernel
theorem dX12_binding_15 : decode cX12_binding 15 = .ok (.iaload, 1) := by decide +kernel
theorem dX12_binding_16 : decode cX12_binding 16 = .ok (.istore_n 3, 1) := by decide +kernel
theorem dX12_binding_17 : decode cX12_binding 17 = .ok (.iload_n 3, 1) := by decide +kernel
theorem dX12_binding_18 : decode cX12_binding 18 = .ok (.ifCond .lt 47, 3) := by decide +kernel
theorem dX12_binding_21 : decode cX12_binding 21 = .ok (.iinc 2 1, 3) := by decide +kernel
theorem dX12_binding_24 : decode cX12_binding 24 = .ok (.aload_n 0, 1) := by decide +kernel
theorem dX12_binding_25 : decode cX12_binding 25 = .ok (.getfield 286, 3) := by decide +kernel
theorem dX12_binding_28 : decode cX12_binding 28 = .ok (.iconst 3, 1) := by decide +kernel
theorem dX12_binding_29 : decode cX12_binding 29 = .ok (.if_icmp .ne 26, 3) := by decide +kernel
theorem dX12_binding_32 : decode cX12_binding 32 = .ok (.aload_n 0, 1) := by decide +kernel
theorem dX12_binding_33 : decode cX12_binding 33 = .ok (.getfield 37, 3) := by decide +kernel
theorem dX12_binding_36 : decode cX12_binding 36 = .ok (.iload_n 3, 1) := by decide +kernel
theorem dX12_binding_37 : decode cX12_binding 37 = .ok (.laload, 1) := by decide +kernel
theorem dX12_binding_38 : decode cX12_binding 38 = .ok (.aload_n 0, 1) := by decide +kernel
theorem dX12_binding_39 : decode cX12_binding 39 = .ok (.getfield 278, 3) := by decide +kernel
theorem dX12_binding_42 : decode cX12_binding 42 = .ok (.lcmp, 1) := by decide +kernel
theorem dX12_binding_43 : decode cX12_binding 43 = .ok (.ifCond .ne 12, 3) := by decide +kernel
theorem dX12_binding_46 : decode cX12_binding 46 = .ok (.aload_n 0, 1) := by decide +kernel
theorem dX12_binding_47 : decode cX12_binding 47 = .ok (.iconst 2, 1) := by decide +kernel
theorem dX12_binding_48 : decode cX12_binding 48 = .ok (.aload_n 0, 1) := by decide +kernel
theorem dX12_binding_49 : decode cX12_binding 49 = .ok (.getfield 275, 3) := by decide +kernel
theorem dX12_binding_52 : decode cX12_binding 52 = .ok (.invokevirtual 317, 3) := by decide +kernel
theorem dX12_binding_55 : decode cX12_binding 55 = .ok (.aload_n 0, 1) := by decide +kernel
theorem dX12_binding_56 : decode cX12_binding 56 = .ok (.getfield 25, 3) := by decide +kernel
theorem dX12_binding_59 : decode cX12_binding 59 = .ok (.iload_n 3, 1) := by decide +kernel
theorem dX12_binding_60 : decode cX12_binding 60 = .ok (.iaload, 1) := by decide +kernel
theorem dX12_binding_61 : decode cX12_binding 61 = .ok (.istore_n 3, 1) := by decide +kernel
theorem dX12_binding_62 : decode cX12_binding 62 = .ok (.goto (-45), 3) := by decide +kernel
theorem dX12_binding_65 : decode cX12_binding 65 = .ok (.aload_n 0, 1) := by decide +kernel
theorem dX12_binding_66 : decode cX12_binding 66 = .ok (.getfield 286, 3) := by decide +kernel
theorem dX12_binding_69 : decode cX12_binding 69 = .ok (.iconst 3, 1) := by decide +kernel
theorem dX12_binding_70 : decode cX12_binding 70 = .ok (.if_icmp .ne 17, 3) := by decide +kernel
theorem dX12_binding_73 : decode cX12_binding 73 = .ok (.iload_n 2, 1) := by decide +kernel
theorem dX12_binding_74 : decode cX12_binding 74 = .ok (.iconst 5, 1) := by decide +kernel
theorem dX12_binding_75 : decode cX12_binding 75 = .ok (.if_icmp .ne 12, 3) := by decide +kernel
theorem dX12_binding_78 : decode cX12_binding 78 = .ok (.aload_n 0, 1) := by decide +kernel
theorem dX12_binding_79 : decode cX12_binding 79 = .ok (.iconst 4, 1) := by decide +kernel
theorem dX12_binding_80 : decode cX12_binding 80 = .ok (.aload_n 0, 1) := by decide +kernel
theorem dX12_binding_81 : decode cX12_binding 81 = .ok (.getfield 275, 3) := by decide +kernel
theorem dX12_binding_84 : decode cX12_binding 84 = .ok (.invokevirtual 317, 3) := by decide +kernel
theorem dX12_binding_87 : decode cX12_binding 87 = .ok (.aload_n 0, 1) := by decide +kernel
theorem dX12_binding_88 : decode cX12_binding 88 = .ok (.getfield 311, 3) := by decide +kernel
theorem dX12_binding_91 : decode cX12_binding 91 = .ok (.ifCond .gt 11, 3) := by decide +kernel
theorem dX12_binding_94 : decode cX12_binding 94 = .ok (.aload_n 0, 1) := by decide +kernel
theorem dX12_binding_95 : decode cX12_binding 95 = .ok (.getfield 286, 3) := by decide +kernel
theorem dX12_binding_98 : decode cX12_binding 98 = .ok (.iconst 3, 1) := by decide +kernel
theorem dX12_binding_99 : decode cX12_binding 99 = .ok (.if_icmp .eq 8, 3) := by decide +kernel
theorem dX12_binding_102 : decode cX12_binding 102 = .ok (.aload_n 0, 1) := by decide +kernel
theorem dX12_binding_103 : decode cX12_binding 103 = .ok (.invokevirtual 324, 3) := by decide +kernel
theorem dX12_binding_106 : decode cX12_binding 106 = .ok (.return_, 1) := by decide +kernel
theorem dX12_binding_107 : decode cX12_binding 107 = .ok (.aload_n 0, 1) := by decide +kernel
theorem dX12_binding_108 : decode cX12_binding 108 = .ok (.iconst 1, 1) := by decide +kernel
theorem dX12_binding_109 : decode cX12_binding 109 = .ok (.invokevirtual 369, 3) := by decide +kernel
theorem dX12_binding_112 : decode cX12_binding 112 = .ok (.istore_n 3, 1) := by decide +kernel
theorem dX12_binding_113 : decode cX12_binding 113 = .ok (.aload_n 0, 1) := by decide +kernel
theorem dX12_binding_114 : decode cX12_binding 114 = .ok (.getfield 37, 3) := by decide +kernel
theorem dX12_binding_117 : decode cX12_binding 117 = .ok (.iload_n 3, 1) := by decide +kernel
theorem dX12_binding_118 : decode cX12_binding 118 = .ok (.aload_n 0, 1) := by decide +kernel
theorem dX12_binding_119 : decode cX12_binding 119 = .ok (.getfield 278, 3) := by decide +kernel
theorem dX12_binding_122 : decode cX12_binding 122 = .ok (.lastore, 1) := by decide +kernel
theorem dX12_binding_123 : decode cX12_binding 123 = .ok (.aload_n 0, 1) := by decide +kernel
theorem dX12_binding_124 : decode cX12_binding 124 = .ok (.iload_n 1, 1) := by decide +kernel
theorem dX12_binding_125 : decode cX12_binding 125 = .ok (.iload_n 3, 1) := by decide +kernel
theorem dX12_binding_126 : decode cX12_binding 126 = .ok (.invokevirtual 386, 3) := by decide +kernel
theorem dX12_binding_129 : decode cX12_binding 129 = .ok (.aload_n 0, 1) := by decide +kernel
theorem dX12_binding_130 : decode cX12_binding 130 = .ok (.invokevirtual 321, 3) := by decide +kernel
theorem dX12_binding_133 : decode cX12_binding 133 = .ok (.aload_n 0, 1) := by decide +kernel
theorem dX12_binding_134 : decode cX12_binding 134 = .ok (.iload_n 3, 1) := by decide +kernel
theorem dX12_binding_135 : decode cX12_binding 135 = .ok (.iconst 0, 1) := by decide +kernel
theorem dX12_binding_136 : decode cX12_binding 136 = .ok (.invokevirtual 380, 3) := by decide +kernel
theorem dX12_binding_139 : decode cX12_binding 139 = .ok (.aload_n 0, 1) := by decide +kernel
theorem dX12_binding_140 : decode cX12_binding 140 = .ok (.aload_n 0, 1) := by decide +kernel
theorem dX12_binding_141 : decode cX12_binding 141 = .ok (.bipush 61, 2) := by decide +kernel
theorem dX12_binding_143 : decode cX12_binding 143 = .ok (.invokevirtual 383, 3) := by decide +kernel
theorem dX12_binding_146 : decode cX12_binding 146 = .ok (.invokevirtual 359, 3) := by decide +kernel
theorem dX12_binding_149 : decode cX12_binding 149 = .ok (.aload_n 0, 1) := by decide +kernel
theorem dX12_binding_150 : decode cX12_binding 150 = .ok (.iconst 2, 1) := by decide +kernel
theorem dX12_binding_151 : decode cX12_binding 151 = .ok (.iload_n 3, 1) := by decide +kernel
theorem dX12_binding_152 : decode cX12_binding 152 = .ok (.iconst 0, 1) := by decide +kernel
theorem dX12_binding_153 : decode cX12_binding 153 = .ok (.invokevirtual 372, 3) := by decide +kernel
theorem dX12_binding_156 : decode cX12_binding 156 = .ok (.aload_n 0, 1) := by decide +kernel
theorem dX12_binding_157 : decode cX12_binding 157 = .ok (.iconst 1, 1) := by decide +kernel
theorem dX12_binding_158 : decode cX12_binding 158 = .ok (.putfield 389, 3) := by decide +kernel
theorem dX12_binding_161 : decode cX12_binding 161 = .ok (.aload_n 0, 1) := by decide +kernel
theorem dX12_binding_162 : decode cX12_binding 162 = .ok (.iconst 1, 1) := by decide +kernel
theorem dX12_binding_163 : decode cX12_binding 163 = .ok (.putfield 393, 3) := by decide +kernel
theorem dX12_binding_166 : decode cX12_binding 166 = .ok (.return_, 1) := by decide +kernel
theorem dX12_field_0 : decode cX12_field 0 = .ok (.aload_n 0, 1) := by decide +kernel
theorem dX12_field_1 : decode cX12_field 1 = .ok (.invokevirtual 417, 3) := by decide +kernel
theorem dX12_field_4 : decode cX12_field 4 = .ok (.aload_n 0, 1) := by decide +kernel
theorem dX12_field_5 : decode cX12_field 5 = .ok (.getfield 311, 3) := by decide +kernel
theorem dX12_field_8 : decode cX12_field 8 = .ok (.ifCond .ne 17, 3) := by decide +kernel
theorem dX12_field_11 : decode cX12_field 11 = .ok (.aload_n 0, 1) := by decide +kernel
theorem dX12_field_12 : decode cX12_field 12 = .ok (.getfield 74, 3) := by decide +kernel
theorem dX12_field_15 : decode cX12_field 15 = .ok (.iload_n 1, 1) := by decide +kernel
theorem dX12_field_16 : decode cX12_field 16 = .ok (.iaload, 1) := by decide +kernel
theorem dX12_field_17 : decode cX12_field 17 = .ok (.ifCond .ne 8, 3) := by decide +kernel
theorem dX12_field_20 : decode cX12_field 20 = .ok (.aload_n 0, 1) := by decide +kernel
theorem dX12_field_21 : decode cX12_field 21 = .ok (.invokevirtual 355, 3) := by decide +kernel
theorem dX12_field_24 : decode cX12_field 24 = .ok (.pop, 1) := by decide +kernel
theorem dX12_field_25 : decode cX12_field 25 = .ok (.aload_n 0, 1) := by decide +kernel
theorem dX12_field_26 : decode cX12_field 26 = .ok (.getfield 311, 3) := by decide +kernel
theorem dX12_field_29 : decode cX12_field 29 = .ok (.ifCond .ne 14, 3) := by decide +kernel
theorem dX12_field_32 : decode cX12_field 32 = .ok (.aload_n 0, 1) := by decide +kernel
theorem dX12_field_33 : decode cX12_field 33 = .ok (.invokevirtual 411, 3) := by decide +kernel
theorem dX12_field_36 : decode cX12_field 36 = .ok (.ifCond .eq 7, 3) := by decide +kernel
theorem dX12_field_39 : decode cX12_field 39 = .ok (.iconst 1, 1) := by decide +kernel
theorem dX12_field_40 : decode cX12_field 40 = .ok (.goto 4, 3) := by decide +kernel
theorem dX12_field_43 : decode cX12_field 43 = .ok (.iconst 0, 1) := by decide +kernel
theorem dX12_field_44 : decode cX12_field 44 = .ok (.ireturn, 1) := by decide +kernel
theorem dX12_giveName_0 : decode cX12_giveName 0 = .ok (.aload_n 0, 1) := by decide +kernel
theorem dX12_giveName_1 : decode cX12_giveName 1 = .ok (.getfield 47, 3) := by decide +kernel
theorem dX12_giveName_4 : decode cX12_giveName 4 = .ok (.aload_n 0, 1) := by decide +kernel
theorem dX12_giveName_5 : decode cX12_giveName 5 = .ok (.getfield 330, 3) := by decide +kernel
theorem dX12_giveName_8 : decode cX12_giveName 8 = .ok (.lload_n 2, 1) := by decide +kernel
theorem dX12_giveName_9 : decode cX12_giveName 9 = .ok (.lastore, 1) := by decide +kernel
theorem dX12_giveName_10 : decode cX12_giveName 10 = .ok (.aload_n 0, 1) := by decide +kernel
theorem dX12_giveName_11 : decode cX12_giveName 11 = .ok (.dup, 1) := by decide +kernel
theorem dX12_giveName_12 : decode cX12_giveName 12 = .ok (.getfield 330, 3) := by decide +kernel
theorem dX12_giveName_15 : decode cX12_giveName 15 = .ok (.iconst 1, 1) := by decide +kernel
theorem dX12_giveName_16 : decode cX12_giveName 16 = .ok (.iadd, 1) := by decide +kernel
theorem dX12_giveName_17 : decode cX12_giveName 17 = .ok (.putfield 330, 3) := by decide +kernel
theorem dX12_giveName_20 : decode cX12_giveName 20 = .ok (.aload_n 0, 1) := by decide +kernel
theorem dX12_giveName_21 : decode cX12_giveName 21 = .ok (.getfield 44, 3) := by decide +kernel
theorem dX12_giveName_24 : decode cX12_giveName 24 = .ok (.iload_n 1, 1) := by decide +kernel
theorem dX12_giveName_25 : decode cX12_giveName 25 = .ok (.dup2, 1) := by decide +kernel
theorem dX12_giveName_26 : decode cX12_giveName 26 = .ok (.iaload, 1) := by decide +kernel
theorem dX12_giveName_27 : decode cX12_giveName 27 = .ok (.iconst 1, 1) := by decide +kernel
theorem dX12_giveName_28 : decode cX12_giveName 28 = .ok (.iadd, 1) := by decide +kernel
theorem dX12_giveName_29 : decode cX12_giveName 29 = .ok (.iastore, 1) := by decide +kernel
theorem dX12_giveName_30 : decode cX12_giveName 30 = .ok (.return_, 1) := by decide +kernel
theorem dX12_isAtom_0 : decode cX12_isAtom 0 = .ok (.aload_n 0, 1) := by decide +kernel
theorem dX12_isAtom_1 : decode cX12_isAtom 1 = .ok (.getfield 286, 3) := by decide +kernel
theorem dX12_isAtom_4 : decode cX12_isAtom 4 = .ok (.iconst 3, 1) := by decide +kernel
theorem dX12_isAtom_5 : decode cX12_isAtom 5 = .ok (.if_icmp .eq 37, 3) := by decide +kernel
theorem dX12_isAtom_8 : decode cX12_isAtom 8 = .ok (.aload_n 0, 1) := by decide +kernel
theorem dX12_isAtom_9 : decode cX12_isAtom 9 = .ok (.getfield 286, 3) := by decide +kernel
theorem dX12_isAtom_12 : decode cX12_isAtom 12 = .ok (.iconst 4, 1) := by decide +kernel
theorem dX12_isAtom_13 : decode cX12_isAtom 13 = .ok (.if_icmp .eq 29, 3) := by decide +kernel
theorem dX12_isAtom_16 : decode cX12_isAtom 16 = .ok (.aload_n 0, 1) := by decide +kernel
theorem dX12_isAtom_17 : decode cX12_isAtom 17 = .ok (.getfield 286, 3) := by decide +kernel
theorem dX12_isAtom_20 : decode cX12_isAtom 20 = .ok (.iconst 2, 1) := by decide +kernel
theorem dX12_isAtom_21 : decode cX12_isAtom 21 = .ok (.if_icmp .eq 21, 3) := by decide +kernel
theorem dX12_isAtom_24 : decode cX12_isAtom 24 = .ok (.aload_n 0, 1) := by decide +kernel
theorem dX12_isAtom_25 : decode cX12_isAtom 25 = .ok (.getfield 286, 3) := by decide +kernel
theorem dX12_isAtom_28 : decode cX12_isAtom 28 = .ok (.bipush 15, 2) := by decide +kernel
theorem dX12_isAtom_30 : decode cX12_isAtom 30 = .ok (.if_icmp .eq 12, 3) := by decide +kernel
theorem dX12_isAtom_33 : decode cX12_isAtom 33 = .ok (.aload_n 0, 1) := by decide +kernel
theorem dX12_isAtom_34 : decode cX12_isAtom 34 = .ok (.bipush 40, 2) := by decide +kernel
theorem dX12_isAtom_36 : decode cX12_isAtom 36 = .ok (.invokevirtual 383, 3) := by decide +kernel
theorem dX12_isAtom_39 : decode cX12_isAtom 39 = .ok (.ifCond .eq 7, 3) := by decide +kernel
theorem dX12_isAtom_42 : decode cX12_isAtom 42 = .ok (.iconst 1, 1) := by decide +kernel
theorem dX12_isAtom_43 : decode cX12_isAtom 43 = .ok (.goto 4, 3) := by decide +kernel
theorem dX12_isAtom_46 : decode cX12_isAtom 46 = .ok (.iconst 0, 1) := by decide +kernel
theorem dX12_isAtom_47 : decode cX12_isAtom 47 = .ok (.ireturn, 1) := by decide +kernel
theorem dX12_judgeAtom_0 : decode cX12_judgeAtom 0 = .ok (.aload_n 0, 1) := by decide +kernel
theorem dX12_judgeAtom_1 : decode cX12_judgeAtom 1 = .ok (.getfield 286, 3) := by decide +kernel
theorem dX12_judgeAtom_4 : decode cX12_judgeAtom 4 = .ok (.iconst 4, 1) := by decide +kernel
theorem dX12_judgeAtom_5 : decode cX12_judgeAtom 5 = .ok (.if_icmp .ne 14, 3) := by decide +kernel
theorem dX12_judgeAtom_8 : decode cX12_judgeAtom 8 = .ok (.aload_n 0, 1) := by decide +kernel
theorem dX12_judgeAtom_9 : decode cX12_judgeAtom 9 = .ok (.aload_n 0, 1) := by decide +kernel
theorem dX12_judgeAtom_10 : decode cX12_judgeAtom 10 = .ok (.getfield 278, 3) := by decide +kernel
theorem dX12_judgeAtom_13 : decode cX12_judgeAtom 13 = .ok (.invokevirtual 396, 3) := by decide +kernel
theorem dX12_judgeAtom_16 : decode cX12_judgeAtom 16 = .ok (.goto 4, 3) := by decide +kernel
theorem dX12_judgeAtom_19 : decode cX12_judgeAtom 19 = .ok (.iconst 0, 1) := by decide +kernel
theorem dX12_judgeAtom_20 : decode cX12_judgeAtom 20 = .ok (.istore_n 1, 1) := by decide +kernel
theorem dX12_judgeAtom_21 : decode cX12_judgeAtom 21 = .ok (.aload_n 0, 1) := by decide +kernel
theorem dX12_judgeAtom_22 : decode cX12_judgeAtom 22 = .ok (.invokevirtual 414, 3) := by decide +kernel
theorem dX12_judgeAtom_25 : decode cX12_judgeAtom 25 = .ok (.aload_n 0, 1) := by decide +kernel
theorem dX12_judgeAtom_26 : decode cX12_judgeAtom 26 = .ok (.getfield 286, 3) := by decide +kernel
theorem dX12_judgeAtom_29 : decode cX12_judgeAtom 29 = .ok (.iconst 4, 1) := by decide +kernel
theorem dX12_judgeAtom_30 : decode cX12_judgeAtom 30 = .ok (.if_icmp .ne 16, 3) := by decide +kernel
theorem dX12_judgeAtom_33 : decode cX12_judgeAtom 33 = .ok (.iload_n 1, 1) := by decide +kernel
theorem dX12_judgeAtom_34 : decode cX12_judgeAtom 34 = .ok (.ifCond .lt 12, 3) := by decide +kernel
theorem dX12_judgeAtom_37 : decode cX12_judgeAtom 37 = .ok (.aload_n 0, 1) := by decide +kernel
theorem dX12_judgeAtom_38 : decode cX12_judgeAtom 38 = .ok (.getfield 62, 3) := by decide +kernel
theorem dX12_judgeAtom_41 : decode cX12_judgeAtom 41 = .ok (.iload_n 1, 1) := by decide +kernel
theorem dX12_judgeAtom_42 : decode cX12_judgeAtom 42 = .ok (.iaload, 1) := by decide +kernel
theorem dX12_judgeAtom_43 : decode cX12_judgeAtom 43 = .ok (.ifCond .gt 10, 3) := by decide +kernel
theorem dX12_judgeAtom_46 : decode cX12_judgeAtom 46 = .ok (.aload_n 0, 1) := by decide +kernel
theorem dX12_judgeAtom_47 : decode cX12_judgeAtom 47 = .ok (.invokevirtual 399, 3) := by decide +kernel
theorem dX12_judgeAtom_50 : decode cX12_judgeAtom 50 = .ok (.ifCond .ne 10, 3) := by decide +kernel
theorem dX12_judgeAtom_53 : decode cX12_judgeAtom 53 = .ok (.aload_n 0, 1) := by decide +kernel
theorem dX12_judgeAtom_54 : decode cX12_judgeAtom 54 = .ok (.invokevirtual 324, 3) := by decide +kernel
theorem dX12_judgeAtom_57 : decode cX12_judgeAtom 57 = .ok (.goto 16, 3) := by decide +kernel
theorem dX12_judgeAtom_60 : decode cX12_judgeAtom 60 = .ok (.iload_n 1, 1) := by decide +kernel
theorem dX12_judgeAtom_61 : decode cX12_judgeAtom 61 = .ok (.ifCond .ge 12, 3) := by decide +kernel
theorem dX12_judgeAtom_64 : decode cX12_judgeAtom 64 = .ok (.aload_n 0, 1) := by decide +kernel
theorem dX12_judgeAtom_65 : decode cX12_judgeAtom 65 = .ok (.iconst 3, 1) := by decide +kernel
theorem dX12_judgeAtom_66 : decode cX12_judgeAtom 66 = .ok (.aload_n 0, 1) := by decide +kernel
theorem dX12_judgeAtom_67 : decode cX12_judgeAtom 67 = .ok (.getfield 275, 3) := by decide +kernel
theorem dX12_judgeAtom_70 : decode cX12_judgeAtom 70 = .ok (.invokevirtual 317, 3) := by decide +kernel
theorem dX12_judgeAtom_73 : decode cX12_judgeAtom 73 = .ok (.return_, 1) := by decide +kernel
theorem dX12_parameters_0 : decode cX12_parameters 0 = .ok (.aload_n 0, 1) := by decide +kernel
theorem dX12_parameters_1 : decode cX12_parameters 1 = .ok (.getfield 41, 3) := by decide +kernel
theorem dX12_parameters_4 : decode cX12_parameters 4 = .ok (.iload_n 1, 1) := by decide +kernel
theorem dX12_parameters_5 : decode cX12_parameters 5 = .ok (.aload_n 0, 1) := by decide +kernel
theorem dX12_parameters_6 : decode cX12_parameters 6 = .ok (.getfield 330, 3) := by decide +kernel
theorem dX12_parameters_9 : decode cX12_parameters 9 = .ok (.iastore, 1) := by decide +kernel
theorem dX12_parameters_10 : decode cX12_parameters 10 = .ok (.aload_n 0, 1) := by decide +kernel
theorem dX12_parameters_11 : decode cX12_parameters 11 = .ok (.getfield 311, 3) := by decide +kernel
theorem dX12_parameters_14 : decode cX12_parameters 14 = .ok (.ifCond .ne 157, 3) := by decide +kernel
theorem dX12_parameters_17 : decode cX12_parameters 17 = .ok (.aload_n 0, 1) := by decide +kernel
theorem dX12_parameters_18 : decode cX12_parameters 18 = .ok (.getfield 286, 3) := by decide +kernel
theorem dX12_parameters_21 : decode cX12_parameters 21 = .ok (.iconst 3, 1) := by decide +kernel
theorem dX12_parameters_22 : decode cX12_parameters 22 = .ok (.if_icmp .eq 13, 3) := by decide +kernel
theorem dX12_parameters_25 : decode cX12_parameters 25 = .ok (.aload_n 0, 1) := by decide +kernel
theorem dX12_parameters_26 : decode cX12_parameters 26 = .ok (.getfield 44, 3) := by decide +kernel
theorem dX12_parameters_29 : decode cX12_parameters 29 = .ok (.iload_n 1, 1) := by decide +kernel
theorem dX12_parameters_30 : decode cX12_parameters 30 = .ok (.iaload, 1) := by decide +kernel
theorem dX12_parameters_31 : decode cX12_parameters 31 = .ok (.iload_n 2, 1) := by decide +kernel
theorem dX12_parameters_32 : decode cX12_parameters 32 = .ok (.if_icmp .ge 139, 3) := by decide +kernel
theorem dX12_parameters_35 : decode cX12_parameters 35 = .ok (.aload_n 0, 1) := by decide +kernel
theorem dX12_parameters_36 : decode cX12_parameters 36 = .ok (.getfield 286, 3) := by decide +kernel
theorem dX12_parameters_39 : decode cX12_parameters 39 = .ok (.iconst 3, 1) := by decide +kernel
theorem dX12_parameters_40 : decode cX12_parameters 40 = .ok (.if_icmp .ne 27, 3) := by decide +kernel
theorem dX12_parameters_43 : decode cX12_parameters 43 = .ok (.aload_n 0, 1) := by decide +kernel
theorem dX12_parameters_44 : decode cX12_parameters 44 = .ok (.iload_n 1, 1) := by decide +kernel
theorem dX12_parameters_45 : decode cX12_parameters 45 = .ok (.aload_n 0, 1) := by decide +kernel
theorem dX12_parameters_46 : decode cX12_parameters 46 = .ok (.getfield 278, 3) := by decide +kernel
theorem dX12_parameters_49 : decode cX12_parameters 49 = .ok (.invokevirtual 351, 3) := by decide +kernel
theorem dX12_parameters_52 : decode cX12_parameters 52 = .ok (.ifCond .eq 15, 3) := by decide +kernel
theorem dX12_parameters_55 : decode cX12_parameters 55 = .ok (.aload_n 0, 1) := by decide +kernel
theorem dX12_parameters_56 : decode cX12_parameters 56 = .ok (.iconst 2, 1) := by decide +kernel
theorem dX12_parameters_57 : decode cX12_parameters 57 = .ok (.aload_n 0, 1) := by decide +kernel
theorem dX12_parameters_58 : decode cX12_parameters 58 = .ok (.getfield 275, 3) := by decide +kernel
theorem dX12_parameters_61 : decode cX12_parameters 61 = .ok (.invokevirtual 317, 3) := by decide +kernel
theorem dX12_parameters_64 : decode cX12_parameters 64 = .ok (.goto 30, 3) := by decide +kernel
theorem dX12_parameters_67 : decode cX12_parameters 67 = .ok (.aload_n 0, 1) := by decide +kernel
theorem dX12_parameters_68 : decode cX12_parameters 68 = .ok (.getfield 286, 3) := by decide +kernel
theorem dX12_parameters_71 : decode cX12_parameters 71 = .ok (.iconst 3, 1) := by decide +kernel
theorem dX12_parameters_72 : decode cX12_parameters 72 = .ok (.if_icmp .ne 22, 3) := by decide +kernel
theorem dX12_parameters_75 : decode cX12_parameters 75 = .ok (.aload_n 0, 1) := by decide +kernel
theorem dX12_parameters_76 : decode cX12_parameters 76 = .ok (.getfield 44, 3) := by decide +kernel
theorem dX12_parameters_79 : decode cX12_parameters 79 = .ok (.iload_n 1, 1) := by decide +kernel
theorem dX12_parameters_80 : decode cX12_parameters 80 = .ok (.iaload, 1) := by decide +kernel
theorem dX12_parameters_81 : decode cX12_parameters 81 = .ok (.iconst 5, 1) := by decide +kernel
theorem dX12_parameters_82 : decode cX12_parameters 82 = .ok (.if_icmp .ne 12, 3) := by decide +kernel
theorem dX12_parameters_85 : decode cX12_parameters 85 = .ok (.aload_n 0, 1) := by decide +kernel
theorem dX12_parameters_86 : decode cX12_parameters 86 = .ok (.iconst 4, 1) := by decide +kernel
theorem dX12_parameters_87 : decode cX12_parameters 87 = .ok (.aload_n 0, 1) := by decide +kernel
theorem dX12_parameters_88 : decode cX12_parameters 88 = .ok (.getfield 275, 3) := by decide +kernel
theorem dX12_parameters_91 : decode cX12_parameters 91 = .ok (.invokevirtual 317, 3) := by decide +kernel
theorem dX12_parameters_94 : decode cX12_parameters 94 = .ok (.aload_n 0, 1) := by decide +kernel
theorem dX12_parameters_95 : decode cX12_parameters 95 = .ok (.getfield 278, 3) := by decide +kernel
theorem dX12_parameters_98 : decode cX12_parameters 98 = .ok (.lstore_n 3, 1) := by decide +kernel
theorem dX12_parameters_99 : decode cX12_parameters 99 = .ok (.aload_n 0, 1) := by decide +kernel
theorem dX12_parameters_100 : decode cX12_parameters 100 = .ok (.getfield 16, 3) := by decide +kernel
theorem dX12_parameters_103 : decode cX12_parameters 103 = .ok (.iload_n 1, 1) := by decide +kernel
theorem dX12_parameters_104 : decode cX12_parameters 104 = .ok (.iaload, 1) := by decide +kernel
theorem dX12_parameters_105 : decode cX12_parameters 105 = .ok (.iconst 1, 1) := by decide +kernel
theorem dX12_parameters_106 : decode cX12_parameters 106 = .ok (.if_icmp .ne 32, 3) := by decide +kernel
theorem dX12_parameters_109 : decode cX12_parameters 109 = .ok (.aload_n 0, 1) := by decide +kernel
theorem dX12_parameters_110 : decode cX12_parameters 110 = .ok (.getfield 44, 3) := by decide +kernel
theorem dX12_parameters_113 : decode cX12_parameters 113 = .ok (.iload_n 1, 1) := by decide +kernel
theorem dX12_parameters_114 : decode cX12_parameters 114 = .ok (.iaload, 1) := by decide +kernel
theorem dX12_parameters_115 : decode cX12_parameters 115 = .ok (.ifCond .ne 23, 3) := by decide +kernel
theorem dX12_parameters_118 : decode cX12_parameters 118 = .ok (.aload_n 0, 1) := by decide +kernel
theorem dX12_parameters_119 : decode cX12_parameters 119 = .ok (.getfield 286, 3) := by decide +kernel
theorem dX12_parameters_122 : decode cX12_parameters 122 = .ok (.iconst 3, 1) := by decide +kernel
theorem dX12_parameters_123 : decode cX12_parameters 123 = .ok (.if_icmp .ne 15, 3) := by decide +kernel
theorem dX12_parameters_126 : decode cX12_parameters 126 = .ok (.aload_n 0, 1) := by decide +kernel
theorem dX12_parameters_127 : decode cX12_parameters 127 = .ok (.getfield 311, 3) := by decide +kernel
theorem dX12_parameters_130 : decode cX12_parameters 130 = .ok (.ifCond .ne 8, 3) := by decide +kernel
theorem dX12_parameters_133 : decode cX12_parameters 133 = .ok (.aload_n 0, 1) := by decide +kernel
theorem dX12_parameters_134 : decode cX12_parameters 134 = .ok (.invokevirtual 355, 3) := by decide +kernel
theorem dX12_parameters_137 : decode cX12_parameters 137 = .ok (.pop, 1) := by decide +kernel
theorem dX12_parameters_138 : decode cX12_parameters 138 = .ok (.aload_n 0, 1) := by decide +kernel
theorem dX12_parameters_139 : decode cX12_parameters 139 = .ok (.aload_n 0, 1) := by decide +kernel
theorem dX12_parameters_140 : decode cX12_parameters 140 = .ok (.getfield 286, 3) := by decide +kernel
theorem dX12_parameters_143 : decode cX12_parameters 143 = .ok (.iconst 3, 1) := by decide +kernel
theorem dX12_parameters_144 : decode cX12_parameters 144 = .ok (.if_icmp .ne 7, 3) := by decide +kernel
theorem dX12_parameters_147 : decode cX12_parameters 147 = .ok (.iconst 1, 1) := by decide +kernel
theorem dX12_parameters_148 : decode cX12_parameters 148 = .ok (.goto 4, 3) := by decide +kernel
theorem dX12_parameters_151 : decode cX12_parameters 151 = .ok (.iconst 0, 1) := by decide +kernel
theorem dX12_parameters_152 : decode cX12_parameters 152 = .ok (.invokevirtual 359, 3) := by decide +kernel
theorem dX12_parameters_155 : decode cX12_parameters 155 = .ok (.aload_n 0, 1) := by decide +kernel
theorem dX12_parameters_156 : decode cX12_parameters 156 = .ok (.getfield 311, 3) := by decide +kernel
theorem dX12_parameters_159 : decode cX12_parameters 159 = .ok (.ifCond .ne 9, 3) := by decide +kernel
theorem dX12_parameters_162 : decode cX12_parameters 162 = .ok (.aload_n 0, 1) := by decide +kernel
theorem dX12_parameters_163 : decode cX12_parameters 163 = .ok (.iload_n 1, 1) := by decide +kernel
theorem dX12_parameters_164 : decode cX12_parameters 164 = .ok (.lload_n 3, 1) := by decide +kernel
theorem dX12_parameters_165 : decode cX12_parameters 165 = .ok (.invokevirtual 362, 3) := by decide +kernel
theorem dX12_parameters_168 : decode cX12_parameters 168 = .ok (.goto (-158), 3) := by decide +kernel
theorem dX12_parameters_171 : decode cX12_parameters 171 = .ok (.return_, 1) := by decide +kernel
theorem dX12_rank_0 : decode cX12_rank 0 = .ok (.iload_n 0, 1) := by decide +kernel
theorem dX12_rank_1 : decode cX12_rank 1 = .ok (.lookupswitch 81 #[(21, 75), (22, 75), (137, 79), (142, 79), (143, 77), (145, 77), (147, 79), (160, 75)], 75) := by decide +kernel
theorem dX12_rank_76 : decode cX12_rank 76 = .ok (.iconst 1, 1) := by decide +kernel
theorem dX12_rank_77 : decode cX12_rank 77 = .ok (.ireturn, 1) := by decide +kernel
theorem dX12_rank_78 : decode cX12_rank 78 = .ok (.iconst 2, 1) := by decide +kernel
theorem dX12_rank_79 : decode cX12_rank 79 = .ok (.ireturn, 1) := by decide +kernel
theorem dX12_rank_80 : decode cX12_rank 80 = .ok (.iconst 3, 1) := by decide +kernel
theorem dX12_rank_81 : decode cX12_rank 81 = .ok (.ireturn, 1) := by decide +kernel
theorem dX12_rank_82 : decode cX12_rank 82 = .ok (.iconst 0, 1) := by decide +kernel
theorem dX12_rank_83 : decode cX12_rank 83 = .ok (.ireturn, 1) := by decide +kernel
theorem dX12_tooDeep_0 : decode cX12_tooDeep 0 = .ok (.aload_n 0, 1) := by decide +kernel
theorem dX12_tooDeep_1 : decode cX12_tooDeep 1 = .ok (.bipush 40, 2) := by decide +kernel
theorem dX12_tooDeep_3 : decode cX12_tooDeep 3 = .ok (.invokevirtual 383, 3) := by decide +kernel
theorem dX12_tooDeep_6 : decode cX12_tooDeep 6 = .ok (.ifCond .eq 16, 3) := by decide +kernel
theorem dX12_tooDeep_9 : decode cX12_tooDeep 9 = .ok (.aload_n 0, 1) := by decide +kernel
theorem dX12_tooDeep_10 : decode cX12_tooDeep 10 = .ok (.getfield 339, 3) := by decide +kernel
theorem dX12_tooDeep_13 : decode cX12_tooDeep 13 = .ok (.bipush 30, 2) := by decide +kernel
theorem dX12_tooDeep_15 : decode cX12_tooDeep 15 = .ok (.if_icmp .ne 7, 3) := by decide +kernel
theorem dX12_tooDeep_18 : decode cX12_tooDeep 18 = .ok (.aload_n 0, 1) := by decide +kernel
theorem dX12_tooDeep_19 : decode cX12_tooDeep 19 = .ok (.invokevirtual 324, 3) := by decide +kernel
theorem dX12_tooDeep_22 : decode cX12_tooDeep 22 = .ok (.return_, 1) := by decide +kernel
theorem cw_X12_accept : CWV yX12_accept cX12_accept 2 none RX12 1 := ⟨mG_2529, mG_2528, mG_116, mG_226, by decide +kernel⟩
theorem cw_X12_append : CWV yX12_append cX12_append 3 none RX12 2 := ⟨mG_2589, mG_2588, mG_131, mG_226, by decide +kernel⟩
theorem cw_X12_atom : CWV yX12_atom cX12_atom 3 (some .boolean) RX12 0 := ⟨mG_2613, mG_2612, mG_137, mG_226, by decide +kernel⟩
theorem cw_X12_binding : CWV yX12_binding cX12_binding 4 none RX12 1 := ⟨mG_2585, mG_2584, mG_130, mG_226, by decide +kernel⟩
theorem cw_X12_field : CWV yX12_field cX12_field 2 (some .boolean) RX12 1 := ⟨mG_2597, mG_2596, mG_133, mG_226, by decide +kernel⟩
theorem cw_X12_findConstructor : CWV yX12_findConstructor cX12_findConstructor 4 (some .int) RX12 1 := ⟨mG_2521, mG_2520, mG_114, mG_226, by decide +kernel⟩
theorem cw_X12_giveName : CWV yX12_giveName cX12_giveName 4 none RX12 2 := ⟨mG_2561, mG_2560, mG_124, mG_226, by decide +kernel⟩
theorem cw_X12_isAtom : CWV yX12_isAtom cX12_isAtom 1 (some .boolean) RX12 0 := ⟨mG_2609, mG_2608, mG_136, mG_226, by decide +kernel⟩
theorem cw_X12_isGiven : CWV yX12_isGiven cX12_isGiven 6 (some .boolean) RX12 2 := ⟨mG_2553, mG_2552, mG_122, mG_226, by decide +kernel⟩
theorem cw_X12_isSign : CWV yX12_isSign cX12_isSign 2 (some .boolean) RX12 1 := ⟨mG_2537, mG_2536, mG_118, mG_226, by decide +kernel⟩
theorem cw_X12_judgeAtom : CWV yX12_judgeAtom cX12_judgeAtom 2 none RX12 0 := ⟨mG_2601, mG_2600, mG_134, mG_226, by decide +kernel⟩
theorem cw_X12_node : CWV yX12_node cX12_node 3 (some .int) RX12 1 := ⟨mG_2545, mG_2544, mG_120, mG_226, by decide +kernel⟩
theorem cw_X12_opens : CWV yX12_opens cX12_opens 1 none RX12 0 := ⟨mG_2581, mG_2580, mG_129, mG_226, by decide +kernel⟩
theorem cw_X12_operand : CWV yX12_operand cX12_operand 2 none RX12 1 := ⟨mG_2617, mG_2616, mG_138, mG_226, by decide +kernel⟩
theorem cw_X12_parameters : CWV yX12_parameters cX12_parameters 5 none RX12 2 := ⟨mG_2549, mG_2548, mG_121, mG_226, by decide +kernel⟩
theorem cw_X12_part : CWV yX12_part cX12_part 1 (some .boolean) RX12 0 := ⟨mG_2557, mG_2556, mG_123, mG_226, by decide +kernel⟩
theorem cw_X12_pile : CWV yX12_pile cX12_pile 4 none RX12 3 := ⟨mG_2569, mG_2568, mG_126, mG_226, by decide +kernel⟩
theorem cw_X12_taken : CWV yX12_taken cX12_taken 1 (some .int) RX12 0 := ⟨mG_2625, mG_2624, mG_140, mG_226, by decide +kernel⟩
theorem cw_X12_tooDeep : CWV yX12_tooDeep cX12_tooDeep 1 none RX12 0 := ⟨mG_2605, mG_2604, mG_135, mG_226, by decide +kernel⟩
section MX12_giveName
variable {p : Program} {l : Launch} {e : Env} {R : Room} {s : State} {m : MethodId} {args : Array Value} {below : List Frame} {meth : Method} {c : Code} {dC : Nat → ClassId} {dI : Nat → Nat → Nat} {Z : ZZ} {A : Nat → Prop} {ad : Nat → Nat} {kc : Nat → ClassId} {r : Unit} {τ : S5}
set_option maxHeartbeats 4000000 in
set_option maxRecDepth 100000 in
theorem w_X12_giveName {σ : S5} {a1 : Int32} {a2 : Int64} {H : Heap} {locs : List Loc} {ls : Array Slot} (S : CallFix p m c cX12_giveName 4 s args uG RX12) (hr : meth.sig.returnType = none) (hk : meth.locks = false) (hR : 0 ≤ R.frames ∧ 0 ≤ R.locals)
    (X : gX (dC, dI) (tM kc) (wM ad kc) Z A s σ H locs) (hl : lv_has ls 4 [(0, .ref (ad 0)), (1, .int a1), (2, .long a2)]) (hg : f_X12_giveName a1 a2 σ = some (r, τ)) : W p l e R s m args below meth c H locs 0 0 (MQ below (gQv (dC, dI) (tM kc) (wM ad kc) A r τ) args s 0 0 A) (F0 m 0 ls []) := by
  have hx := S.1
  have hb := S.2.1
  have hown := S.2.2.2.1
  have hu := S.2.2.2.2
  unfold f_X12_giveName at hg
  refine lv_aload_n hx hb dX12_giveName_0 rfl (lv_at hl 0 rfl) ?_
  refine wmgR_0_24 S X mG_2074 dX12_giveName_1 ?_
  refine lv_aload_n hx hb dX12_giveName_4 rfl (lv_at hl 0 rfl) ?_
  refine wmgI_10 (v := (gI σ 10)) S X mG_2073 rfl dX12_giveName_5 ?_
  refine lv_lload_n hx hb dX12_giveName_8 rfl (lv_at hl 2 rfl) ?_
  obtain ⟨hi9, hg⟩ := gd_some hg
  refine wmsB_1 S X hi9 dX12_giveName_9 (fun H locs X => ?_)
  refine lv_aload_n hx hb dX12_giveName_10 rfl (lv_at hl 0 rfl) ?_
  refine lv_dup hx hb dX12_giveName_11 rfl ?_
  refine wmgI_10 (v := (gI σ 10)) S X mG_2073 rfl dX12_giveName_12 ?_
  refine lv_iconst (v := 1) hx hb dX12_giveName_15 (by decide) ?_
  refine lv_iadd hx hb dX12_giveName_16 ?_
  refine wmpI_10 S X mG_2073 dX12_giveName_17 (fun H locs X => ?_)
  refine lv_aload_n hx hb dX12_giveName_20 rfl (lv_at hl 0 rfl) ?_
  refine wmgR_0_22 S X mG_2072 dX12_giveName_21 ?_
  refine lv_iload_n hx hb dX12_giveName_24 rfl (lv_at hl 1 rfl) ?_
  refine lv_dup2_11 hx hb dX12_giveName_25 rfl rfl ?_
  obtain ⟨hi26, hg⟩ := gd_some hg
  refine wmlA_10 (v := (xA σ 10 a1)) S X hi26 rfl dX12_giveName_26 ?_
  refine lv_iconst (v := 1) hx hb dX12_giveName_27 (by decide) ?_
  refine lv_iadd hx hb dX12_giveName_28 ?_
  obtain ⟨hi29, hg⟩ := gd_some hg
  refine wmsA_10 S X hi29 dX12_giveName_29 (fun H locs X => ?_)
  obtain ⟨-, rfl⟩ := fin_some hg
  exact gr_v S hr hk X dX12_giveName_30
end MX12_giveName
set_option maxRecDepth 100000 in
theorem k2_X12_giveName (l : Launch) (dC : Nat → ClassId) (dI : Nat → Nat → Nat) {Z : ZZ} (ad : Nat → Nat) (kc : Nat → ClassId) {σ τ : S5} {a1 : Int32} {a2 : Int64} {r : Unit} (hg : f_X12_giveName a1 a2 σ = some (r, τ)) (sz : Nat) : Met l yX12_giveName (Cond.code yX12_giveName cX12_giveName 4 none :: uG) { frames := 0, cells := 0, slots := 0, locals := 0 } (gPc (dC, dI) (tM kc) (wM ad kc) Z [.ref (ad 0), .int a1, .long a2] σ sz) (gQv (dC, dI) (tM kc) (wM ad kc) (va_A (wM ad kc σ) sz) r τ) 0 0 (va_A (wM ad kc σ) sz) :=
  g_start (by decide) (Nat.le_of_ble_eq_true rfl) (fun p e s m below meth c ls S hr hk X hl => w_X12_giveName S hr hk ⟨Nat.le_refl _, Nat.le_refl _⟩ X hl hg)
section MX12_parameters
variable {p : Program} {l : Launch} {e : Env} {R : Room} {s : State} {m : MethodId} {args : Array Value} {below : List Frame} {meth : Method} {c : Code} {dC : Nat → ClassId} {dI : Nat → Nat → Nat} {Z : ZZ} {A : Nat → Prop} {ad : Nat → Nat} {kc : Nat → ClassId} {r : Unit} {τ : S5}
set_option maxHeartbeats 4000000 in
set_option maxRecDepth 100000 in
theorem w_X12_parameters_b168 {σ : S5} {rec10 : Int32 → Int32 → S5 → Option (Unit × S5)} {v1 : Int32} {v2 : Int32} {H : Heap} {locs : List Loc} {ls : Array Slot} (S : CallFix p m c cX12_parameters 5 s args uG RX12) (hr : meth.sig.returnType = none) (hk : meth.locks = false) (hR : 5 ≤ R.frames ∧ 114 ≤ R.locals)
    (hrec10 : ∀ (v1 : Int32) (v2 : Int32) (σ : S5) (H : Heap) (locs : List Loc) (ls : Array Slot), gX (dC, dI) (tM kc) (wM ad kc) Z A s σ H locs → lv_has ls 5 [(0, .ref (ad 0)), (1, .int v1), (2, .int v2)] → rec10 v1 v2 σ = some (r, τ) → W p l e R s m args below meth c H locs 0 0 (MQ below (gQv (dC, dI) (tM kc) (wM ad kc) A r τ) args s 0 0 A) (F0 m 10 ls []))
    (X : gX (dC, dI) (tM kc) (wM ad kc) Z A s σ H locs) (hl : lv_has ls 5 [(0, .ref (ad 0)), (1, .int v1), (2, .int v2)]) (hg : f_X12_parameters_b168 rec10 v1 v2 σ = some (r, τ)) : W p l e R s m args below meth c H locs 0 0 (MQ below (gQv (dC, dI) (tM kc) (wM ad kc) A r τ) args s 0 0 A) (F0 m 168 ls []) := by
  have hx := S.1
  have hb := S.2.1
  have hown := S.2.2.2.1
  have hu := S.2.2.2.2
  unfold f_X12_parameters_b168 at hg
  refine lv_goto (tgt := 10) hx hb dX12_parameters_168 (by decide) ?_
  exact hrec10 _ _ _ _ _ _ X (lv_sub hl [0, 1, 2] rfl) hg
set_option maxHeartbeats 4000000 in
set_option maxRecDepth 100000 in
theorem w_X12_parameters_b152 {σ : S5} {rec10 : Int32 → Int32 → S5 → Option (Unit × S5)} {v1 : Int32} {v2 : Int32} {v3 : Int64} {u0 : Int32} {H : Heap} {locs : List Loc} {ls : Array Slot} (S : CallFix p m c cX12_parameters 5 s args uG RX12) (hr : meth.sig.returnType = none) (hk : meth.locks = false) (hR : 5 ≤ R.frames ∧ 114 ≤ R.locals)
    (hrec10 : ∀ (v1 : Int32) (v2 : Int32) (σ : S5) (H : Heap) (locs : List Loc) (ls : Array Slot), gX (dC, dI) (tM kc) (wM ad kc) Z A s σ H locs → lv_has ls 5 [(0, .ref (ad 0)), (1, .int v1), (2, .int v2)] → rec10 v1 v2 σ = some (r, τ) → W p l e R s m args below meth c H locs 0 0 (MQ below (gQv (dC, dI) (tM kc) (wM ad kc) A r τ) args s 0 0 A) (F0 m 10 ls []))
    (X : gX (dC, dI) (tM kc) (wM ad kc) Z A s σ H locs) (hl : lv_has ls 5 [(0, .ref (ad 0)), (1, .int v1), (2, .int v2), (3, .long v3)]) (hg : f_X12_parameters_b152 rec10 v1 v2 v3 u0 σ = some (r, τ)) : W p l e R s m args below meth c H locs 0 0 (MQ below (gQv (dC, dI) (tM kc) (wM ad kc) A r τ) args s 0 0 A) (F0 m 152 ls [.int u0, .ref (ad 0)]) := by
  have hx := S.1
  have hb := S.2.1
  have hown := S.2.2.2.1
  have hu := S.2.2.2.2
  unfold f_X12_parameters_b152 at hg
  obtain ⟨r152, τ152, hq152, hg⟩ := bd_some hg
  refine gc_Vv (As := [.int u0]) (rest := []) (q0 := 0) (ci := 15) S X (k2_X12_accept l dC dI ad kc hq152 H.size) cw_X12_accept mG_2526 rfl rfl rfl rfl rfl hl.1 (Nat.le_of_ble_eq_true rfl) dX12_parameters_152 ⟨by omega, by omega⟩ (fun H locs X => ?_)
  refine lv_aload_n hx hb dX12_parameters_155 rfl (lv_at hl 0 rfl) ?_
  refine wmgI_7 (v := (gI τ152 7)) S X mG_2060 rfl dX12_parameters_156 ?_
  refine lv_if_ne (tgt := 168) hx hb dX12_parameters_159 (by decide) (fun c159 => ?_) (fun c159 => ?_)
  · have hg := (if_neg c159).symm.trans hg
    exact w_X12_parameters_b168 S hr hk hR hrec10 X (lv_sub hl [0, 1, 2] rfl) hg
  · have hg := (if_pos c159).symm.trans hg
    refine lv_aload_n hx hb dX12_parameters_162 rfl (lv_at hl 0 rfl) ?_
    refine lv_iload_n hx hb dX12_parameters_163 rfl (lv_at hl 1 rfl) ?_
    refine lv_lload_n hx hb dX12_parameters_164 rfl (lv_at hl 3 rfl) ?_
    obtain ⟨r165, τ165, hq165, hg⟩ := bd_some hg
    refine gc_Vv (As := [.int v1, .long v3]) (rest := []) (q0 := 0) (ci := 15) S X (k2_X12_giveName l dC dI ad kc hq165 H.size) cw_X12_giveName mG_2558 rfl rfl rfl rfl rfl hl.1 (Nat.le_of_ble_eq_true rfl) dX12_parameters_165 ⟨by omega, by omega⟩ (fun H locs X => ?_)
    exact w_X12_parameters_b168 S hr hk hR hrec10 X (lv_sub hl [0, 1, 2] rfl) hg
set_option maxHeartbeats 4000000 in
set_option maxRecDepth 100000 in
theorem w_X12_parameters_b138 {σ : S5} {rec10 : Int32 → Int32 → S5 → Option (Unit × S5)} {v1 : Int32} {v2 : Int32} {v3 : Int64} {H : Heap} {locs : List Loc} {ls : Array Slot} (S : CallFix p m c cX12_parameters 5 s args uG RX12) (hr : meth.sig.returnType = none) (hk : meth.locks = false) (hR : 5 ≤ R.frames ∧ 114 ≤ R.locals)
    (hrec10 : ∀ (v1 : Int32) (v2 : Int32) (σ : S5) (H : Heap) (locs : List Loc) (ls : Array Slot), gX (dC, dI) (tM kc) (wM ad kc) Z A s σ H locs → lv_has ls 5 [(0, .ref (ad 0)), (1, .int v1), (2, .int v2)] → rec10 v1 v2 σ = some (r, τ) → W p l e R s m args below meth c H locs 0 0 (MQ below (gQv (dC, dI) (tM kc) (wM ad kc) A r τ) args s 0 0 A) (F0 m 10 ls []))
    (X : gX (dC, dI) (tM kc) (wM ad kc) Z A s σ H locs) (hl : lv_has ls 5 [(0, .ref (ad 0)), (1, .int v1), (2, .int v2), (3, .long v3)]) (hg : f_X12_parameters_b138 rec10 v1 v2 v3 σ = some (r, τ)) : W p l e R s m args below meth c H locs 0 0 (MQ below (gQv (dC, dI) (tM kc) (wM ad kc) A r τ) args s 0 0 A) (F0 m 138 ls []) := by
  have hx := S.1
  have hb := S.2.1
  have hown := S.2.2.2.1
  have hu := S.2.2.2.2
  unfold f_X12_parameters_b138 at hg
  refine lv_aload_n hx hb dX12_parameters_138 rfl (lv_at hl 0 rfl) ?_
  refine lv_aload_n hx hb dX12_parameters_139 rfl (lv_at hl 0 rfl) ?_
  refine wmgI_4 (v := (gI σ 4)) S X mG_2056 rfl dX12_parameters_140 ?_
  refine lv_iconst (v := 3) hx hb dX12_parameters_143 (by decide) ?_
  refine lv_icmp_ne (tgt := 151) hx hb dX12_parameters_144 (by decide) (fun c144 => ?_) (fun c144 => ?_)
  · have hg := (if_neg c144).symm.trans hg
    refine lv_iconst (v := 0) hx hb dX12_parameters_151 (by decide) ?_
    exact w_X12_parameters_b152 S hr hk hR hrec10 X (lv_sub hl [0, 1, 2, 3] rfl) hg
  · have hg := (if_pos c144).symm.trans hg
    refine lv_iconst (v := 1) hx hb dX12_parameters_147 (by decide) ?_
    refine lv_goto (tgt := 152) hx hb dX12_parameters_148 (by decide) ?_
    exact w_X12_parameters_b152 S hr hk hR hrec10 X (lv_sub hl [0, 1, 2, 3] rfl) hg
set_option maxHeartbeats 4000000 in
set_option maxRecDepth 100000 in
theorem w_X12_parameters_b94 {σ : S5} {rec10 : Int32 → Int32 → S5 → Option (Unit × S5)} {v1 : Int32} {v2 : Int32} {H : Heap} {locs : List Loc} {ls : Array Slot} (S : CallFix p m c cX12_parameters 5 s args uG RX12) (hr : meth.sig.returnType = none) (hk : meth.locks = false) (hR : 5 ≤ R.frames ∧ 114 ≤ R.locals)
    (hrec10 : ∀ (v1 : Int32) (v2 : Int32) (σ : S5) (H : Heap) (locs : List Loc) (ls : Array Slot), gX (dC, dI) (tM kc) (wM ad kc) Z A s σ H locs → lv_has ls 5 [(0, .ref (ad 0)), (1, .int v1), (2, .int v2)] → rec10 v1 v2 σ = some (r, τ) → W p l e R s m args below meth c H locs 0 0 (MQ below (gQv (dC, dI) (tM kc) (wM ad kc) A r τ) args s 0 0 A) (F0 m 10 ls []))
    (X : gX (dC, dI) (tM kc) (wM ad kc) Z A s σ H locs) (hl : lv_has ls 5 [(0, .ref (ad 0)), (1, .int v1), (2, .int v2)]) (hg : f_X12_parameters_b94 rec10 v1 v2 σ = some (r, τ)) : W p l e R s m args below meth c H locs 0 0 (MQ below (gQv (dC, dI) (tM kc) (wM ad kc) A r τ) args s 0 0 A) (F0 m 94 ls []) := by
  have hx := S.1
  have hb := S.2.1
  have hown := S.2.2.2.1
  have hu := S.2.2.2.2
  unfold f_X12_parameters_b94 at hg
  refine lv_aload_n hx hb dX12_parameters_94 rfl (lv_at hl 0 rfl) ?_
  refine wmgJ_0 (v := (gJ σ 0)) S X mG_2058 rfl dX12_parameters_95 ?_
  refine lv_lstore_n (lv' := [(3, .long (gJ σ 0)), (0, .ref (ad 0)), (1, .int v1), (2, .int v2)]) hx hb dX12_parameters_98 rfl hl (by decide) rfl (fun ls hl => ?_)
  refine lv_aload_n hx hb dX12_parameters_99 rfl (lv_at hl 1 rfl) ?_
  refine wmgR_0_13 S X mG_2063 dX12_parameters_100 ?_
  refine lv_iload_n hx hb dX12_parameters_103 rfl (lv_at hl 2 rfl) ?_
  obtain ⟨hi104, hg⟩ := gd_some hg
  refine wmlA_2 (v := (xA σ 2 v1)) S X hi104 rfl dX12_parameters_104 ?_
  refine lv_iconst (v := 1) hx hb dX12_parameters_105 (by decide) ?_
  refine lv_icmp_ne (tgt := 138) hx hb dX12_parameters_106 (by decide) (fun c106 => ?_) (fun c106 => ?_)
  · have hg := (if_neg c106).symm.trans hg
    exact w_X12_parameters_b138 S hr hk hR hrec10 X (lv_sub hl [1, 2, 3, 0] rfl) hg
  · have hg := (if_pos c106).symm.trans hg
    refine lv_aload_n hx hb dX12_parameters_109 rfl (lv_at hl 1 rfl) ?_
    refine wmgR_0_22 S X mG_2072 dX12_parameters_110 ?_
    refine lv_iload_n hx hb dX12_parameters_113 rfl (lv_at hl 2 rfl) ?_
    obtain ⟨hi114, hg⟩ := gd_some hg
    refine wmlA_10 (v := (xA σ 10 v1)) S X hi114 rfl dX12_parameters_114 ?_
    refine lv_if_ne (tgt := 138) hx hb dX12_parameters_115 (by decide) (fun c115 => ?_) (fun c115 => ?_)
    · have hg := (if_neg c115).symm.trans hg
      exact w_X12_parameters_b138 S hr hk hR hrec10 X (lv_sub hl [1, 2, 3, 0] rfl) hg
    · have hg := (if_pos c115).symm.trans hg
      refine lv_aload_n hx hb dX12_parameters_118 rfl (lv_at hl 1 rfl) ?_
      refine wmgI_4 (v := (gI σ 4)) S X mG_2056 rfl dX12_parameters_119 ?_
      refine lv_iconst (v := 3) hx hb dX12_parameters_122 (by decide) ?_
      refine lv_icmp_ne (tgt := 138) hx hb dX12_parameters_123 (by decide) (fun c123 => ?_) (fun c123 => ?_)
      · have hg := (if_neg c123).symm.trans hg
        exact w_X12_parameters_b138 S hr hk hR hrec10 X (lv_sub hl [1, 2, 3, 0] rfl) hg
      · have hg := (if_pos c123).symm.trans hg
        refine lv_aload_n hx hb dX12_parameters_126 rfl (lv_at hl 1 rfl) ?_
        refine wmgI_7 (v := (gI σ 7)) S X mG_2060 rfl dX12_parameters_127 ?_
        refine lv_if_ne (tgt := 138) hx hb dX12_parameters_130 (by decide) (fun c130 => ?_) (fun c130 => ?_)
        · have hg := (if_neg c130).symm.trans hg
          exact w_X12_parameters_b138 S hr hk hR hrec10 X (lv_sub hl [1, 2, 3, 0] rfl) hg
        · have hg := (if_pos c130).symm.trans hg
          refine lv_aload_n hx hb dX12_parameters_133 rfl (lv_at hl 1 rfl) ?_
          obtain ⟨r134, τ134, hq134, hg⟩ := bd_some hg
          refine gc_Vi (As := []) (rest := []) (q0 := 0) (ci := 15) S X (k2_X12_part l dC dI ad kc hq134 H.size) cw_X12_part mG_2554 rfl rfl rfl rfl rfl hl.1 (Nat.le_of_ble_eq_true rfl) dX12_parameters_134 ⟨by omega, by omega⟩ (fun H locs X => ?_)
          refine lv_pop hx hb dX12_parameters_137 rfl ?_
          exact w_X12_parameters_b138 S hr hk hR hrec10 X (lv_sub hl [1, 2, 3, 0] rfl) hg
set_option maxHeartbeats 4000000 in
set_option maxRecDepth 100000 in
theorem w_X12_parameters_b67 {σ : S5} {rec10 : Int32 → Int32 → S5 → Option (Unit × S5)} {v1 : Int32} {v2 : Int32} {H : Heap} {locs : List Loc} {ls : Array Slot} (S : CallFix p m c cX12_parameters 5 s args uG RX12) (hr : meth.sig.returnType = none) (hk : meth.locks = false) (hR : 5 ≤ R.frames ∧ 114 ≤ R.locals)
    (hrec10 : ∀ (v1 : Int32) (v2 : Int32) (σ : S5) (H : Heap) (locs : List Loc) (ls : Array Slot), gX (dC, dI) (tM kc) (wM ad kc) Z A s σ H locs → lv_has ls 5 [(0, .ref (ad 0)), (1, .int v1), (2, .int v2)] → rec10 v1 v2 σ = some (r, τ) → W p l e R s m args below meth c H locs 0 0 (MQ below (gQv (dC, dI) (tM kc) (wM ad kc) A r τ) args s 0 0 A) (F0 m 10 ls []))
    (X : gX (dC, dI) (tM kc) (wM ad kc) Z A s σ H locs) (hl : lv_has ls 5 [(0, .ref (ad 0)), (1, .int v1), (2, .int v2)]) (hg : f_X12_parameters_b67 rec10 v1 v2 σ = some (r, τ)) : W p l e R s m args below meth c H locs 0 0 (MQ below (gQv (dC, dI) (tM kc) (wM ad kc) A r τ) args s 0 0 A) (F0 m 67 ls []) := by
  have hx := S.1
  have hb := S.2.1
  have hown := S.2.2.2.1
  have hu := S.2.2.2.2
  unfold f_X12_parameters_b67 at hg
  refine lv_aload_n hx hb dX12_parameters_67 rfl (lv_at hl 0 rfl) ?_
  refine wmgI_4 (v := (gI σ 4)) S X mG_2056 rfl dX12_parameters_68 ?_
  refine lv_iconst (v := 3) hx hb dX12_parameters_71 (by decide) ?_
  refine lv_icmp_ne (tgt := 94) hx hb dX12_parameters_72 (by decide) (fun c72 => ?_) (fun c72 => ?_)
  · have hg := (if_neg c72).symm.trans hg
    exact w_X12_parameters_b94 S hr hk hR hrec10 X (lv_sub hl [0, 1, 2] rfl) hg
  · have hg := (if_pos c72).symm.trans hg
    refine lv_aload_n hx hb dX12_parameters_75 rfl (lv_at hl 0 rfl) ?_
    refine wmgR_0_22 S X mG_2072 dX12_parameters_76 ?_
    refine lv_iload_n hx hb dX12_parameters_79 rfl (lv_at hl 1 rfl) ?_
    obtain ⟨hi80, hg⟩ := gd_some hg
    refine wmlA_10 (v := (xA σ 10 v1)) S X hi80 rfl dX12_parameters_80 ?_
    refine lv_iconst (v := 5) hx hb dX12_parameters_81 (by decide) ?_
    refine lv_icmp_ne (tgt := 94) hx hb dX12_parameters_82 (by decide) (fun c82 => ?_) (fun c82 => ?_)
    · have hg := (if_neg c82).symm.trans hg
      exact w_X12_parameters_b94 S hr hk hR hrec10 X (lv_sub hl [0, 1, 2] rfl) hg
    · have hg := (if_pos c82).symm.trans hg
      refine lv_aload_n hx hb dX12_parameters_85 rfl (lv_at hl 0 rfl) ?_
      refine lv_iconst (v := 4) hx hb dX12_parameters_86 (by decide) ?_
      refine lv_aload_n hx hb dX12_parameters_87 rfl (lv_at hl 0 rfl) ?_
      refine wmgI_5 (v := (gI σ 5)) S X mG_2057 rfl dX12_parameters_88 ?_
      obtain ⟨r91, τ91, hq91, hg⟩ := bd_some hg
      refine gc_Vv (As := [.int 4, .int (gI σ 5)]) (rest := []) (q0 := 0) (ci := 15) S X (k2_X12_fail l dC dI ad kc hq91 H.size) cw_X12_fail mG_2522 rfl rfl rfl rfl rfl hl.1 (Nat.le_of_ble_eq_true rfl) dX12_parameters_91 ⟨by omega, by omega⟩ (fun H locs X => ?_)
      exact w_X12_parameters_b94 S hr hk hR hrec10 X (lv_sub hl [0, 1, 2] rfl) hg
set_option maxHeartbeats 4000000 in
set_option maxRecDepth 100000 in
theorem w_X12_parameters_b35 {σ : S5} {rec10 : Int32 → Int32 → S5 → Option (Unit × S5)} {v1 : Int32} {v2 : Int32} {H : Heap} {locs : List Loc} {ls : Array Slot} (S : CallFix p m c cX12_parameters 5 s args uG RX12) (hr : meth.sig.returnType = none) (hk : meth.locks = false) (hR : 5 ≤ R.frames ∧ 114 ≤ R.locals)
    (hrec10 : ∀ (v1 : Int32) (v2 : Int32) (σ : S5) (H : Heap) (locs : List Loc) (ls : Array Slot), gX (dC, dI) (tM kc) (wM ad kc) Z A s σ H locs → lv_has ls 5 [(0, .ref (ad 0)), (1, .int v1), (2, .int v2)] → rec10 v1 v2 σ = some (r, τ) → W p l e R s m args below meth c H locs 0 0 (MQ below (gQv (dC, dI) (tM kc) (wM ad kc) A r τ) args s 0 0 A) (F0 m 10 ls []))
    (X : gX (dC, dI) (tM kc) (wM ad kc) Z A s σ H locs) (hl : lv_has ls 5 [(0, .ref (ad 0)), (1, .int v1), (2, .int v2)]) (hg : f_X12_parameters_b35 rec10 v1 v2 σ = some (r, τ)) : W p l e R s m args below meth c H locs 0 0 (MQ below (gQv (dC, dI) (tM kc) (wM ad kc) A r τ) args s 0 0 A) (F0 m 35 ls []) := by
  have hx := S.1
  have hb := S.2.1
  have hown := S.2.2.2.1
  have hu := S.2.2.2.2
  unfold f_X12_parameters_b35 at hg
  refine lv_aload_n hx hb dX12_parameters_35 rfl (lv_at hl 0 rfl) ?_
  refine wmgI_4 (v := (gI σ 4)) S X mG_2056 rfl dX12_parameters_36 ?_
  refine lv_iconst (v := 3) hx hb dX12_parameters_39 (by decide) ?_
  refine lv_icmp_ne (tgt := 67) hx hb dX12_parameters_40 (by decide) (fun c40 => ?_) (fun c40 => ?_)
  · have hg := (if_neg c40).symm.trans hg
    exact w_X12_parameters_b67 S hr hk hR hrec10 X (lv_sub hl [0, 1, 2] rfl) hg
  · have hg := (if_pos c40).symm.trans hg
    refine lv_aload_n hx hb dX12_parameters_43 rfl (lv_at hl 0 rfl) ?_
    refine lv_iload_n hx hb dX12_parameters_44 rfl (lv_at hl 1 rfl) ?_
    refine lv_aload_n hx hb dX12_parameters_45 rfl (lv_at hl 0 rfl) ?_
    refine wmgJ_0 (v := (gJ σ 0)) S X mG_2058 rfl dX12_parameters_46 ?_
    obtain ⟨r49, τ49, hq49, hg⟩ := bd_some hg
    refine gc_Vi (As := [.int v1, .long (gJ σ 0)]) (rest := []) (q0 := 0) (ci := 15) S X (k2_X12_isGiven l dC dI ad kc hq49 H.size) cw_X12_isGiven mG_2550 rfl rfl rfl rfl rfl hl.1 (Nat.le_of_ble_eq_true rfl) dX12_parameters_49 ⟨by omega, by omega⟩ (fun H locs X => ?_)
    refine lv_if_eq (tgt := 67) hx hb dX12_parameters_52 (by decide) (fun c52 => ?_) (fun c52 => ?_)
    · have hg := (if_pos c52).symm.trans hg
      exact w_X12_parameters_b67 S hr hk hR hrec10 X (lv_sub hl [0, 1, 2] rfl) hg
    · have hg := (if_neg c52).symm.trans hg
      refine lv_aload_n hx hb dX12_parameters_55 rfl (lv_at hl 0 rfl) ?_
      refine lv_iconst (v := 2) hx hb dX12_parameters_56 (by decide) ?_
      refine lv_aload_n hx hb dX12_parameters_57 rfl (lv_at hl 0 rfl) ?_
      refine wmgI_5 (v := (gI τ49 5)) S X mG_2057 rfl dX12_parameters_58 ?_
      obtain ⟨r61, τ61, hq61, hg⟩ := bd_some hg
      refine gc_Vv (As := [.int 2, .int (gI τ49 5)]) (rest := []) (q0 := 0) (ci := 15) S X (k2_X12_fail l dC dI ad kc hq61 H.size) cw_X12_fail mG_2522 rfl rfl rfl rfl rfl hl.1 (Nat.le_of_ble_eq_true rfl) dX12_parameters_61 ⟨by omega, by omega⟩ (fun H locs X => ?_)
      refine lv_goto (tgt := 94) hx hb dX12_parameters_64 (by decide) ?_
      exact w_X12_parameters_b94 S hr hk hR hrec10 X (lv_sub hl [0, 1, 2] rfl) hg
set_option maxHeartbeats 4000000 in
set_option maxRecDepth 100000 in
theorem w_X12_parameters_B10 {σ : S5} {rec10 : Int32 → Int32 → S5 → Option (Unit × S5)} {v1 : Int32} {v2 : Int32} {H : Heap} {locs : List Loc} {ls : Array Slot} (S : CallFix p m c cX12_parameters 5 s args uG RX12) (hr : meth.sig.returnType = none) (hk : meth.locks = false) (hR : 5 ≤ R.frames ∧ 114 ≤ R.locals)
    (hrec10 : ∀ (v1 : Int32) (v2 : Int32) (σ : S5) (H : Heap) (locs : List Loc) (ls : Array Slot), gX (dC, dI) (tM kc) (wM ad kc) Z A s σ H locs → lv_has ls 5 [(0, .ref (ad 0)), (1, .int v1), (2, .int v2)] → rec10 v1 v2 σ = some (r, τ) → W p l e R s m args below meth c H locs 0 0 (MQ below (gQv (dC, dI) (tM kc) (wM ad kc) A r τ) args s 0 0 A) (F0 m 10 ls []))
    (X : gX (dC, dI) (tM kc) (wM ad kc) Z A s σ H locs) (hl : lv_has ls 5 [(0, .ref (ad 0)), (1, .int v1), (2, .int v2)]) (hg : f_X12_parameters_B10 rec10 v1 v2 σ = some (r, τ)) : W p l e R s m args below meth c H locs 0 0 (MQ below (gQv (dC, dI) (tM kc) (wM ad kc) A r τ) args s 0 0 A) (F0 m 10 ls []) := by
  have hx := S.1
  have hb := S.2.1
  have hown := S.2.2.2.1
  have hu := S.2.2.2.2
  unfold f_X12_parameters_B10 at hg
  refine lv_aload_n hx hb dX12_parameters_10 rfl (lv_at hl 0 rfl) ?_
  refine wmgI_7 (v := (gI σ 7)) S X mG_2060 rfl dX12_parameters_11 ?_
  refine lv_if_ne (tgt := 171) hx hb dX12_parameters_14 (by decide) (fun c14 => ?_) (fun c14 => ?_)
  · have hg := (if_neg c14).symm.trans hg
    obtain ⟨-, rfl⟩ := fin_some hg
    exact gr_v S hr hk X dX12_parameters_171
  · have hg := (if_pos c14).symm.trans hg
    refine lv_aload_n hx hb dX12_parameters_17 rfl (lv_at hl 0 rfl) ?_
    refine wmgI_4 (v := (gI σ 4)) S X mG_2056 rfl dX12_parameters_18 ?_
    refine lv_iconst (v := 3) hx hb dX12_parameters_21 (by decide) ?_
    refine lv_icmp_eq (tgt := 35) hx hb dX12_parameters_22 (by decide) (fun c22 => ?_) (fun c22 => ?_)
    · have hg := (if_pos c22).symm.trans hg
      exact w_X12_parameters_b35 S hr hk hR hrec10 X (lv_sub hl [0, 1, 2] rfl) hg
    · have hg := (if_neg c22).symm.trans hg
      refine lv_aload_n hx hb dX12_parameters_25 rfl (lv_at hl 0 rfl) ?_
      refine wmgR_0_22 S X mG_2072 dX12_parameters_26 ?_
      refine lv_iload_n hx hb dX12_parameters_29 rfl (lv_at hl 1 rfl) ?_
      obtain ⟨hi30, hg⟩ := gd_some hg
      refine wmlA_10 (v := (xA σ 10 v1)) S X hi30 rfl dX12_parameters_30 ?_
      refine lv_iload_n hx hb dX12_parameters_31 rfl (lv_at hl 2 rfl) ?_
      refine lv_icmp_ge (tgt := 171) hx hb dX12_parameters_32 (by decide) (fun c32 => ?_) (fun c32 => ?_)
      · have hg := (if_pos c32).symm.trans hg
        obtain ⟨-, rfl⟩ := fin_some hg
        exact gr_v S hr hk X dX12_parameters_171
      · have hg := (if_neg c32).symm.trans hg
        exact w_X12_parameters_b35 S hr hk hR hrec10 X (lv_sub hl [0, 1, 2] rfl) hg
set_option maxHeartbeats 4000000 in
set_option maxRecDepth 100000 in
theorem w_X12_parameters_L10 (S : CallFix p m c cX12_parameters 5 s args uG RX12) (hr : meth.sig.returnType = none) (hk : meth.locks = false) (hR : 5 ≤ R.frames ∧ 114 ≤ R.locals) : ∀ (n : Nat) (v1 : Int32) (v2 : Int32) (σ : S5) (H : Heap) (locs : List Loc) (ls : Array Slot), gX (dC, dI) (tM kc) (wM ad kc) Z A s σ H locs → lv_has ls 5 [(0, .ref (ad 0)), (1, .int v1), (2, .int v2)] → f_X12_parameters_L10  n v1 v2 σ = some (r, τ) → W p l e R s m args below meth c H locs 0 0 (MQ below (gQv (dC, dI) (tM kc) (wM ad kc) A r τ) args s 0 0 A) (F0 m 10 ls []) := by
  intro n
  induction n with
  | zero => intro v1 v2 σ H locs ls X hl hg; cases hg
  | succ n ih => intro v1 v2 σ H locs ls X hl hg; exact w_X12_parameters_B10 S hr hk hR ih X hl hg
set_option maxHeartbeats 4000000 in
set_option maxRecDepth 100000 in
theorem w_X12_parameters {σ : S5} {a1 : Int32} {a2 : Int32} {H : Heap} {locs : List Loc} {ls : Array Slot} (S : CallFix p m c cX12_parameters 5 s args uG RX12) (hr : meth.sig.returnType = none) (hk : meth.locks = false) (hR : 5 ≤ R.frames ∧ 114 ≤ R.locals)
    (X : gX (dC, dI) (tM kc) (wM ad kc) Z A s σ H locs) (hl : lv_has ls 5 [(0, .ref (ad 0)), (1, .int a1), (2, .int a2)]) (hg : f_X12_parameters a1 a2 σ = some (r, τ)) : W p l e R s m args below meth c H locs 0 0 (MQ below (gQv (dC, dI) (tM kc) (wM ad kc) A r τ) args s 0 0 A) (F0 m 0 ls []) := by
  have hx := S.1
  have hb := S.2.1
  have hown := S.2.2.2.1
  have hu := S.2.2.2.2
  unfold f_X12_parameters at hg
  refine lv_aload_n hx hb dX12_parameters_0 rfl (lv_at hl 0 rfl) ?_
  refine wmgR_0_21 S X mG_2071 dX12_parameters_1 ?_
  refine lv_iload_n hx hb dX12_parameters_4 rfl (lv_at hl 1 rfl) ?_
  refine lv_aload_n hx hb dX12_parameters_5 rfl (lv_at hl 0 rfl) ?_
  refine wmgI_10 (v := (gI σ 10)) S X mG_2073 rfl dX12_parameters_6 ?_
  obtain ⟨hi9, hg⟩ := gd_some hg
  refine wmsA_9 S X hi9 dX12_parameters_9 (fun H locs X => ?_)
  exact w_X12_parameters_L10 S hr hk hR _ _ _ _ _ _ _ X (lv_sub hl [0, 1, 2] rfl) hg
end MX12_parameters
set_option maxRecDepth 100000 in
theorem k2_X12_parameters (l : Launch) (dC : Nat → ClassId) (dI : Nat → Nat → Nat) {Z : ZZ} (ad : Nat → Nat) (kc : Nat → ClassId) {σ τ : S5} {a1 : Int32} {a2 : Int32} {r : Unit} (hg : f_X12_parameters a1 a2 σ = some (r, τ)) (sz : Nat) : Met l yX12_parameters (Cond.code yX12_parameters cX12_parameters 5 none :: uG) { frames := 5, cells := 0, slots := 0, locals := 114 } (gPc (dC, dI) (tM kc) (wM ad kc) Z [.ref (ad 0), .int a1, .int a2] σ sz) (gQv (dC, dI) (tM kc) (wM ad kc) (va_A (wM ad kc σ) sz) r τ) 0 0 (va_A (wM ad kc σ) sz) :=
  g_start (by decide) (Nat.le_of_ble_eq_true rfl) (fun p e s m below meth c ls S hr hk X hl => w_X12_parameters S hr hk ⟨Nat.le_refl _, Nat.le_refl _⟩ X hl hg)
section MX12_binding
variable {p : Program} {l : Launch} {e : Env} {R : Room} {s : State} {m : MethodId} {args : Array Value} {below : List Frame} {meth : Method} {c : Code} {dC : Nat → ClassId} {dI : Nat → Nat → Nat} {Z : ZZ} {A : Nat → Prop} {ad : Nat → Nat} {kc : Nat → ClassId} {r : Unit} {τ : S5}
set_option maxHeartbeats 4000000 in
set_option maxRecDepth 100000 in
theorem w_X12_binding_b102 {σ : S5}  {H : Heap} {locs : List Loc} {ls : Array Slot} (S : CallFix p m c cX12_binding 4 s args uG RX12) (hr : meth.sig.returnType = none) (hk : meth.locks = false) (hR : 6 ≤ R.frames ∧ 138 ≤ R.locals)
    (X : gX (dC, dI) (tM kc) (wM ad kc) Z A s σ H locs) (hl : lv_has ls 4 [(0, .ref (ad 0))]) (hg : f_X12_binding_b102  σ = some (r, τ)) : W p l e R s m args below meth c H locs 0 0 (MQ below (gQv (dC, dI) (tM kc) (wM ad kc) A r τ) args s 0 0 A) (F0 m 102 ls []) := by
  have hx := S.1
  have hb := S.2.1
  have hown := S.2.2.2.1
  have hu := S.2.2.2.2
  unfold f_X12_binding_b102 at hg
  refine lv_aload_n hx hb dX12_binding_102 rfl (lv_at hl 0 rfl) ?_
  obtain ⟨r103, τ103, hq103, hg⟩ := bd_some hg
  refine gc_Vv (As := []) (rest := []) (q0 := 0) (ci := 15) S X (k2_X12_wrong l dC dI ad kc hq103 H.size) cw_X12_wrong mG_2530 rfl rfl rfl rfl rfl hl.1 (Nat.le_of_ble_eq_true rfl) dX12_binding_103 ⟨by omega, by omega⟩ (fun H locs X => ?_)
  obtain ⟨-, rfl⟩ := fin_some hg
  exact gr_v S hr hk X dX12_binding_106
set_option maxHeartbeats 4000000 in
set_option maxRecDepth 100000 in
theorem w_X12_binding_b87 {σ : S5} {v1 : Int32} {H : Heap} {locs : List Loc} {ls : Array Slot} (S : CallFix p m c cX12_binding 4 s args uG RX12) (hr : meth.sig.returnType = none) (hk : meth.locks = false) (hR : 6 ≤ R.frames ∧ 138 ≤ R.locals)
    (X : gX (dC, dI) (tM kc) (wM ad kc) Z A s σ H locs) (hl : lv_has ls 4 [(0, .ref (ad 0)), (1, .int v1)]) (hg : f_X12_binding_b87 v1 σ = some (r, τ)) : W p l e R s m args below meth c H locs 0 0 (MQ below (gQv (dC, dI) (tM kc) (wM ad kc) A r τ) args s 0 0 A) (F0 m 87 ls []) := by
  have hx := S.1
  have hb := S.2.1
  have hown := S.2.2.2.1
  have hu := S.2.2.2.2
  unfold f_X12_binding_b87 at hg
  refine lv_aload_n hx hb dX12_binding_87 rfl (lv_at hl 0 rfl) ?_
  refine wmgI_7 (v := (gI σ 7)) S X mG_2060 rfl dX12_binding_88 ?_
  refine lv_if_gt (tgt := 102) hx hb dX12_binding_91 (by decide) (fun c91 => ?_) (fun c91 => ?_)
  · have hg := (if_pos c91).symm.trans hg
    exact w_X12_binding_b102 S hr hk hR X (lv_sub hl [0] rfl) hg
  · have hg := (if_neg c91).symm.trans hg
    refine lv_aload_n hx hb dX12_binding_94 rfl (lv_at hl 0 rfl) ?_
    refine wmgI_4 (v := (gI σ 4)) S X mG_2056 rfl dX12_binding_95 ?_
    refine lv_iconst (v := 3) hx hb dX12_binding_98 (by decide) ?_
    refine lv_icmp_eq (tgt := 107) hx hb dX12_binding_99 (by decide) (fun c99 => ?_) (fun c99 => ?_)
    · have hg := (if_pos c99).symm.trans hg
      refine lv_aload_n hx hb dX12_binding_107 rfl (lv_at hl 0 rfl) ?_
      refine lv_iconst (v := 1) hx hb dX12_binding_108 (by decide) ?_
      obtain ⟨r109, τ109, hq109, hg⟩ := bd_some hg
      refine gc_Vi (As := [.int 1]) (rest := []) (q0 := 0) (ci := 15) S X (k2_X12_node l dC dI ad kc hq109 H.size) cw_X12_node mG_2542 rfl rfl rfl rfl rfl hl.1 (Nat.le_of_ble_eq_true rfl) dX12_binding_109 ⟨by omega, by omega⟩ (fun H locs X => ?_)
      refine lv_istore_n (lv' := [(3, .int r109), (0, .ref (ad 0)), (1, .int v1)]) hx hb dX12_binding_112 rfl hl (by decide) rfl (fun ls hl => ?_)
      refine lv_aload_n hx hb dX12_binding_113 rfl (lv_at hl 1 rfl) ?_
      refine wmgR_0_20 S X mG_2070 dX12_binding_114 ?_
      refine lv_iload_n hx hb dX12_binding_117 rfl (lv_at hl 0 rfl) ?_
      refine lv_aload_n hx hb dX12_binding_118 rfl (lv_at hl 1 rfl) ?_
      refine wmgJ_0 (v := (gJ τ109 0)) S X mG_2058 rfl dX12_binding_119 ?_
      obtain ⟨hi122, hg⟩ := gd_some hg
      refine wmsB_0 S X hi122 dX12_binding_122 (fun H locs X => ?_)
      refine lv_aload_n hx hb dX12_binding_123 rfl (lv_at hl 1 rfl) ?_
      refine lv_iload_n hx hb dX12_binding_124 rfl (lv_at hl 2 rfl) ?_
      refine lv_iload_n hx hb dX12_binding_125 rfl (lv_at hl 0 rfl) ?_
      obtain ⟨r126, τ126, hq126, hg⟩ := bd_some hg
      refine gc_Vv (As := [.int v1, .int r109]) (rest := []) (q0 := 0) (ci := 15) S X (k2_X12_append l dC dI ad kc hq126 H.size) cw_X12_append mG_2586 rfl rfl rfl rfl rfl hl.1 (Nat.le_of_ble_eq_true rfl) dX12_binding_126 ⟨by omega, by omega⟩ (fun H locs X => ?_)
      refine lv_aload_n hx hb dX12_binding_129 rfl (lv_at hl 1 rfl) ?_
      obtain ⟨r130, τ130, hq130, hg⟩ := bd_some hg
      refine gc_Vv (As := []) (rest := []) (q0 := 0) (ci := 15) S X (k2_X12_next l dC dI ad kc hq130 H.size) cw_X12_next mG_2479 rfl rfl rfl rfl rfl hl.1 (Nat.le_of_ble_eq_true rfl) dX12_binding_130 ⟨by omega, by omega⟩ (fun H locs X => ?_)
      refine lv_aload_n hx hb dX12_binding_133 rfl (lv_at hl 1 rfl) ?_
      refine lv_iload_n hx hb dX12_binding_134 rfl (lv_at hl 0 rfl) ?_
      refine lv_iconst (v := 0) hx hb dX12_binding_135 (by decide) ?_
      obtain ⟨r136, τ136, hq136, hg⟩ := bd_some hg
      refine gc_Vv (As := [.int r109, .int 0]) (rest := []) (q0 := 0) (ci := 15) S X (k2_X12_parameters l dC dI ad kc hq136 H.size) cw_X12_parameters mG_2546 rfl rfl rfl rfl rfl hl.1 (Nat.le_of_ble_eq_true rfl) dX12_binding_136 ⟨by omega, by omega⟩ (fun H locs X => ?_)
      refine lv_aload_n hx hb dX12_binding_139 rfl (lv_at hl 1 rfl) ?_
      refine lv_aload_n hx hb dX12_binding_140 rfl (lv_at hl 1 rfl) ?_
      refine lv_bipush (v := 61) hx hb dX12_binding_141 (by decide) ?_
      obtain ⟨r143, τ143, hq143, hg⟩ := bd_some hg
      refine gc_Vi (As := [.int 61]) (rest := [.ref (ad 0)]) (q0 := 0) (ci := 15) S X (k2_X12_isSign l dC dI ad kc hq143 H.size) cw_X12_isSign mG_2534 rfl rfl rfl rfl rfl hl.1 (Nat.le_of_ble_eq_true rfl) dX12_binding_143 ⟨by omega, by omega⟩ (fun H locs X => ?_)
      obtain ⟨r146, τ146, hq146, hg⟩ := bd_some hg
      refine gc_Vv (As := [.int r143]) (rest := []) (q0 := 0) (ci := 15) S X (k2_X12_accept l dC dI ad kc hq146 H.size) cw_X12_accept mG_2526 rfl rfl rfl rfl rfl hl.1 (Nat.le_of_ble_eq_true rfl) dX12_binding_146 ⟨by omega, by omega⟩ (fun H locs X => ?_)
      refine lv_aload_n hx hb dX12_binding_149 rfl (lv_at hl 1 rfl) ?_
      refine lv_iconst (v := 2) hx hb dX12_binding_150 (by decide) ?_
      refine lv_iload_n hx hb dX12_binding_151 rfl (lv_at hl 0 rfl) ?_
      refine lv_iconst (v := 0) hx hb dX12_binding_152 (by decide) ?_
      obtain ⟨r153, τ153, hq153, hg⟩ := bd_some hg
      refine gc_Vv (As := [.int 2, .int r109, .int 0]) (rest := []) (q0 := 0) (ci := 15) S X (k2_X12_pile l dC dI ad kc hq153 H.size) cw_X12_pile mG_2566 rfl rfl rfl rfl rfl hl.1 (Nat.le_of_ble_eq_true rfl) dX12_binding_153 ⟨by omega, by omega⟩ (fun H locs X => ?_)
      refine lv_aload_n hx hb dX12_binding_156 rfl (lv_at hl 1 rfl) ?_
      refine lv_iconst (v := 1) hx hb dX12_binding_157 (by decide) ?_
      refine wmpI_19 S X mG_2093 (Or.inr rfl) dX12_binding_158 (fun H locs X => ?_)
      refine lv_aload_n hx hb dX12_binding_161 rfl (lv_at hl 1 rfl) ?_
      refine lv_iconst (v := 1) hx hb dX12_binding_162 (by decide) ?_
      refine wmpI_18 S X mG_2092 (Or.inr rfl) dX12_binding_163 (fun H locs X => ?_)
      obtain ⟨-, rfl⟩ := fin_some hg
      exact gr_v S hr hk X dX12_binding_166
    · have hg := (if_neg c99).symm.trans hg
      exact w_X12_binding_b102 S hr hk hR X (lv_sub hl [0] rfl) hg
set_option maxHeartbeats 4000000 in
set_option maxRecDepth 100000 in
theorem w_X12_binding_b55 {σ : S5} {rec17 : Int32 → Int32 → Int32 → S5 → Option (Unit × S5)} {v1 : Int32} {v2 : Int32} {v3 : Int32} {H : Heap} {locs : List Loc} {ls : Array Slot} (S : CallFix p m c cX12_binding 4 s args uG RX12) (hr : meth.sig.returnType = none) (hk : meth.locks = false) (hR : 6 ≤ R.frames ∧ 138 ≤ R.locals)
    (hrec17 : ∀ (v1 : Int32) (v2 : Int32) (v3 : Int32) (σ : S5) (H : Heap) (locs : List Loc) (ls : Array Slot), gX (dC, dI) (tM kc) (wM ad kc) Z A s σ H locs → lv_has ls 4 [(0, .ref (ad 0)), (1, .int v1), (2, .int v2), (3, .int v3)] → rec17 v1 v2 v3 σ = some (r, τ) → W p l e R s m args below meth c H locs 0 0 (MQ below (gQv (dC, dI) (tM kc) (wM ad kc) A r τ) args s 0 0 A) (F0 m 17 ls []))
    (X : gX (dC, dI) (tM kc) (wM ad kc) Z A s σ H locs) (hl : lv_has ls 4 [(0, .ref (ad 0)), (1, .int v1), (2, .int v2), (3, .int v3)]) (hg : f_X12_binding_b55 rec17 v1 v2 v3 σ = some (r, τ)) : W p l e R s m args below meth c H locs 0 0 (MQ below (gQv (dC, dI) (tM kc) (wM ad kc) A r τ) args s 0 0 A) (F0 m 55 ls []) := by
  have hx := S.1
  have hb := S.2.1
  have hown := S.2.2.2.1
  have hu := S.2.2.2.2
  unfold f_X12_binding_b55 at hg
  refine lv_aload_n hx hb dX12_binding_55 rfl (lv_at hl 0 rfl) ?_
  refine wmgR_0_16 S X mG_2066 dX12_binding_56 ?_
  refine lv_iload_n hx hb dX12_binding_59 rfl (lv_at hl 3 rfl) ?_
  obtain ⟨hi60, hg⟩ := gd_some hg
  refine wmlA_5 (v := (xA σ 5 v3)) S X hi60 rfl dX12_binding_60 ?_
  refine lv_istore_n (lv' := [(3, .int (xA σ 5 v3)), (0, .ref (ad 0)), (1, .int v1), (2, .int v2)]) hx hb dX12_binding_61 rfl hl (by decide) rfl (fun ls hl => ?_)
  refine lv_goto (tgt := 17) hx hb dX12_binding_62 (by decide) ?_
  exact hrec17 _ _ _ _ _ _ _ X (lv_sub hl [1, 2, 3, 0] rfl) hg
set_option maxHeartbeats 4000000 in
set_option maxRecDepth 100000 in
theorem w_X12_binding_B17 {σ : S5} {rec17 : Int32 → Int32 → Int32 → S5 → Option (Unit × S5)} {v1 : Int32} {v2 : Int32} {v3 : Int32} {H : Heap} {locs : List Loc} {ls : Array Slot} (S : CallFix p m c cX12_binding 4 s args uG RX12) (hr : meth.sig.returnType = none) (hk : meth.locks = false) (hR : 6 ≤ R.frames ∧ 138 ≤ R.locals)
    (hrec17 : ∀ (v1 : Int32) (v2 : Int32) (v3 : Int32) (σ : S5) (H : Heap) (locs : List Loc) (ls : Array Slot), gX (dC, dI) (tM kc) (wM ad kc) Z A s σ H locs → lv_has ls 4 [(0, .ref (ad 0)), (1, .int v1), (2, .int v2), (3, .int v3)] → rec17 v1 v2 v3 σ = some (r, τ) → W p l e R s m args below meth c H locs 0 0 (MQ below (gQv (dC, dI) (tM kc) (wM ad kc) A r τ) args s 0 0 A) (F0 m 17 ls []))
    (X : gX (dC, dI) (tM kc) (wM ad kc) Z A s σ H locs) (hl : lv_has ls 4 [(0, .ref (ad 0)), (1, .int v1), (2, .int v2), (3, .int v3)]) (hg : f_X12_binding_B17 rec17 v1 v2 v3 σ = some (r, τ)) : W p l e R s m args below meth c H locs 0 0 (MQ below (gQv (dC, dI) (tM kc) (wM ad kc) A r τ) args s 0 0 A) (F0 m 17 ls []) := by
  have hx := S.1
  have hb := S.2.1
  have hown := S.2.2.2.1
  have hu := S.2.2.2.2
  unfold f_X12_binding_B17 at hg
  refine lv_iload_n hx hb dX12_binding_17 rfl (lv_at hl 3 rfl) ?_
  refine lv_if_lt (tgt := 65) hx hb dX12_binding_18 (by decide) (fun c18 => ?_) (fun c18 => ?_)
  · have hg := (if_pos c18).symm.trans hg
    refine lv_aload_n hx hb dX12_binding_65 rfl (lv_at hl 0 rfl) ?_
    refine wmgI_4 (v := (gI σ 4)) S X mG_2056 rfl dX12_binding_66 ?_
    refine lv_iconst (v := 3) hx hb dX12_binding_69 (by decide) ?_
    refine lv_icmp_ne (tgt := 87) hx hb dX12_binding_70 (by decide) (fun c70 => ?_) (fun c70 => ?_)
    · have hg := (if_neg c70).symm.trans hg
      exact w_X12_binding_b87 S hr hk hR X (lv_sub hl [0, 1] rfl) hg
    · have hg := (if_pos c70).symm.trans hg
      refine lv_iload_n hx hb dX12_binding_73 rfl (lv_at hl 2 rfl) ?_
      refine lv_iconst (v := 5) hx hb dX12_binding_74 (by decide) ?_
      refine lv_icmp_ne (tgt := 87) hx hb dX12_binding_75 (by decide) (fun c75 => ?_) (fun c75 => ?_)
      · have hg := (if_neg c75).symm.trans hg
        exact w_X12_binding_b87 S hr hk hR X (lv_sub hl [0, 1] rfl) hg
      · have hg := (if_pos c75).symm.trans hg
        refine lv_aload_n hx hb dX12_binding_78 rfl (lv_at hl 0 rfl) ?_
        refine lv_iconst (v := 4) hx hb dX12_binding_79 (by decide) ?_
        refine lv_aload_n hx hb dX12_binding_80 rfl (lv_at hl 0 rfl) ?_
        refine wmgI_5 (v := (gI σ 5)) S X mG_2057 rfl dX12_binding_81 ?_
        obtain ⟨r84, τ84, hq84, hg⟩ := bd_some hg
        refine gc_Vv (As := [.int 4, .int (gI σ 5)]) (rest := []) (q0 := 0) (ci := 15) S X (k2_X12_fail l dC dI ad kc hq84 H.size) cw_X12_fail mG_2522 rfl rfl rfl rfl rfl hl.1 (Nat.le_of_ble_eq_true rfl) dX12_binding_84 ⟨by omega, by omega⟩ (fun H locs X => ?_)
        exact w_X12_binding_b87 S hr hk hR X (lv_sub hl [0, 1] rfl) hg
  · have hg := (if_neg c18).symm.trans hg
    refine lv_iinc (v := (v2 + 1)) (lv' := [(2, .int (v2 + 1)), (0, .ref (ad 0)), (1, .int v1), (3, .int v3)]) hx hb dX12_binding_21 hl (k := 2) rfl (by rfl) (by decide) rfl (fun ls hl => ?_)
    refine lv_aload_n hx hb dX12_binding_24 rfl (lv_at hl 1 rfl) ?_
    refine wmgI_4 (v := (gI σ 4)) S X mG_2056 rfl dX12_binding_25 ?_
    refine lv_iconst (v := 3) hx hb dX12_binding_28 (by decide) ?_
    refine lv_icmp_ne (tgt := 55) hx hb dX12_binding_29 (by decide) (fun c29 => ?_) (fun c29 => ?_)
    · have hg := (if_neg c29).symm.trans hg
      exact w_X12_binding_b55 S hr hk hR hrec17 X (lv_sub hl [1, 2, 0, 3] rfl) hg
    · have hg := (if_pos c29).symm.trans hg
      refine lv_aload_n hx hb dX12_binding_32 rfl (lv_at hl 1 rfl) ?_
      refine wmgR_0_20 S X mG_2070 dX12_binding_33 ?_
      refine lv_iload_n hx hb dX12_binding_36 rfl (lv_at hl 3 rfl) ?_
      obtain ⟨hi37, hg⟩ := gd_some hg
      refine wmlB_0 (v := (xB σ 0 v3)) S X hi37 rfl dX12_binding_37 ?_
      refine lv_aload_n hx hb dX12_binding_38 rfl (lv_at hl 1 rfl) ?_
      refine wmgJ_0 (v := (gJ σ 0)) S X mG_2058 rfl dX12_binding_39 ?_
      refine W.lcmp hx hb dX12_binding_42 ?_
      refine lv_if_ne (tgt := 55) hx hb dX12_binding_43 (by decide) (fun c43 => ?_) (fun c43 => ?_)
      · have hg := (if_neg c43).symm.trans hg
        exact w_X12_binding_b55 S hr hk hR hrec17 X (lv_sub hl [1, 2, 0, 3] rfl) hg
      · have hg := (if_pos c43).symm.trans hg
        refine lv_aload_n hx hb dX12_binding_46 rfl (lv_at hl 1 rfl) ?_
        refine lv_iconst (v := 2) hx hb dX12_binding_47 (by decide) ?_
        refine lv_aload_n hx hb dX12_binding_48 rfl (lv_at hl 1 rfl) ?_
        refine wmgI_5 (v := (gI σ 5)) S X mG_2057 rfl dX12_binding_49 ?_
        obtain ⟨r52, τ52, hq52, hg⟩ := bd_some hg
        refine gc_Vv (As := [.int 2, .int (gI σ 5)]) (rest := []) (q0 := 0) (ci := 15) S X (k2_X12_fail l dC dI ad kc hq52 H.size) cw_X12_fail mG_2522 rfl rfl rfl rfl rfl hl.1 (Nat.le_of_ble_eq_true rfl) dX12_binding_52 ⟨by omega, by omega⟩ (fun H locs X => ?_)
        exact w_X12_binding_b55 S hr hk hR hrec17 X (lv_sub hl [1, 2, 0, 3] rfl) hg
set_option maxHeartbeats 4000000 in
set_option maxRecDepth 100000 in
theorem w_X12_binding_L17 (S : CallFix p m c cX12_binding 4 s args uG RX12) (hr : meth.sig.returnType = none) (hk : meth.locks = false) (hR : 6 ≤ R.frames ∧ 138 ≤ R.locals) : ∀ (n : Nat) (v1 : Int32) (v2 : Int32) (v3 : Int32) (σ : S5) (H : Heap) (locs : List Loc) (ls : Array Slot), gX (dC, dI) (tM kc) (wM ad kc) Z A s σ H locs → lv_has ls 4 [(0, .ref (ad 0)), (1, .int v1), (2, .int v2), (3, .int v3)] → f_X12_binding_L17  n v1 v2 v3 σ = some (r, τ) → W p l e R s m args below meth c H locs 0 0 (MQ below (gQv (dC, dI) (tM kc) (wM ad kc) A r τ) args s 0 0 A) (F0 m 17 ls []) := by
  intro n
  induction n with
  | zero => intro v1 v2 v3 σ H locs ls X hl hg; cases hg
  | succ n ih => intro v1 v2 v3 σ H locs ls X hl hg; exact w_X12_binding_B17 S hr hk hR ih X hl hg
set_option maxHeartbeats 4000000 in
set_option maxRecDepth 100000 in
theorem w_X12_binding {σ : S5} {a1 : Int32} {H : Heap} {locs : List Loc} {ls : Array Slot} (S : CallFix p m c cX12_binding 4 s args uG RX12) (hr : meth.sig.returnType = none) (hk : meth.locks = false) (hR : 6 ≤ R.frames ∧ 138 ≤ R.locals)
    (X : gX (dC, dI) (tM kc) (wM ad kc) Z A s σ H locs) (hl : lv_has ls 4 [(0, .ref (ad 0)), (1, .int a1)]) (hg : f_X12_binding a1 σ = some (r, τ)) : W p l e R s m args below meth c H locs 0 0 (MQ below (gQv (dC, dI) (tM kc) (wM ad kc) A r τ) args s 0 0 A) (F0 m 0 ls []) := by
  have hx := S.1
  have hb := S.2.1
  have hown := S.2.2.2.1
  have hu := S.2.2.2.2
  unfold f_X12_binding at hg
  refine lv_aload_n hx hb dX12_binding_0 rfl (lv_at hl 0 rfl) ?_
  refine wmgI_7 (v := (gI σ 7)) S X mG_2060 rfl dX12_binding_1 ?_
  refine lv_if_le (tgt := 8) hx hb dX12_binding_4 (by decide) (fun c4 => ?_) (fun c4 => ?_)
  · have hg := (if_pos c4).symm.trans hg
    refine lv_iconst (v := 0) hx hb dX12_binding_8 (by decide) ?_
    refine lv_istore_n (lv' := [(2, .int 0), (0, .ref (ad 0)), (1, .int a1)]) hx hb dX12_binding_9 rfl hl (by decide) rfl (fun ls hl => ?_)
    refine lv_aload_n hx hb dX12_binding_10 rfl (lv_at hl 1 rfl) ?_
    refine wmgR_0_14 S X mG_2064 dX12_binding_11 ?_
    refine lv_iload_n hx hb dX12_binding_14 rfl (lv_at hl 2 rfl) ?_
    obtain ⟨hi15, hg⟩ := gd_some hg
    refine wmlA_3 (v := (xA σ 3 a1)) S X hi15 rfl dX12_binding_15 ?_
    refine lv_istore_n (lv' := [(3, .int (xA σ 3 a1)), (2, .int 0), (0, .ref (ad 0)), (1, .int a1)]) hx hb dX12_binding_16 rfl hl (by decide) rfl (fun ls hl => ?_)
    exact w_X12_binding_L17 S hr hk hR _ _ _ _ _ _ _ _ X (lv_sub hl [2, 3, 1, 0] rfl) hg
  · have hg := (if_neg c4).symm.trans hg
    obtain ⟨-, rfl⟩ := fin_some hg
    exact gr_v S hr hk X dX12_binding_7
end MX12_binding
set_option maxRecDepth 100000 in
theorem k2_X12_binding (l : Launch) (dC : Nat → ClassId) (dI : Nat → Nat → Nat) {Z : ZZ} (ad : Nat → Nat) (kc : Nat → ClassId) {σ τ : S5} {a1 : Int32} {r : Unit} (hg : f_X12_binding a1 σ = some (r, τ)) (sz : Nat) : Met l yX12_binding (Cond.code yX12_binding cX12_binding 4 none :: uG) { frames := 6, cells := 0, slots := 0, locals := 138 } (gPc (dC, dI) (tM kc) (wM ad kc) Z [.ref (ad 0), .int a1] σ sz) (gQv (dC, dI) (tM kc) (wM ad kc) (va_A (wM ad kc σ) sz) r τ) 0 0 (va_A (wM ad kc σ) sz) :=
  g_start (by decide) (Nat.le_of_ble_eq_true rfl) (fun p e s m below meth c ls S hr hk X hl => w_X12_binding S hr hk ⟨Nat.le_refl _, Nat.le_refl _⟩ X hl hg)
section MX12_begins
variable {p : Program} {l : Launch} {e : Env} {R : Room} {s : State} {m : MethodId} {args : Array Value} {below : List Frame} {meth : Method} {c : Code} {dC : Nat → ClassId} {dI : Nat → Nat → Nat} {Z : ZZ} {A : Nat → Prop} {ad : Nat → Nat} {kc : Nat → ClassId} {r : Int32} {τ : S5}
set_option maxHeartbeats 4000000 in
set_option maxRecDepth 100000 in
theorem w_X12_begins_b175 {σ : S5} {v1 : Int32} {H : Heap} {locs : List Loc} {ls : Array Slot} (S : CallFix p m c cX12_begins 2 s args uG RX12) (hr : meth.sig.returnType = (some .boolean)) (hk : meth.locks = false) (hR : 7 ≤ R.frames ∧ 161 ≤ R.locals)
    (X : gX (dC, dI) (tM kc) (wM ad kc) Z A s σ H locs) (hl : lv_has ls 2 [(0, .ref (ad 0)), (1, .int v1)]) (hg : f_X12_begins_b175 v1 σ = some (r, τ)) : W p l e R s m args below meth c H locs 0 0 (MQ below (gQi (dC, dI) (tM kc) (wM ad kc) A r τ) args s 0 0 A) (F0 m 175 ls []) := by
  have hx := S.1
  have hb := S.2.1
  have hown := S.2.2.2.1
  have hu := S.2.2.2.2
  unfold f_X12_begins_b175 at hg
  refine lv_aload_n hx hb dX12_begins_175 rfl (lv_at hl 0 rfl) ?_
  refine lv_aload_n hx hb dX12_begins_176 rfl (lv_at hl 0 rfl) ?_
  refine lv_bipush (v := 46) hx hb dX12_begins_177 (by decide) ?_
  obtain ⟨r179, τ179, hq179, hg⟩ := bd_some hg
  refine gc_Vi (As := [.int 46]) (rest := [.ref (ad 0)]) (q0 := 0) (ci := 15) S X (k2_X12_isSign l dC dI ad kc hq179 H.size) cw_X12_isSign mG_2534 rfl rfl rfl rfl rfl hl.1 (Nat.le_of_ble_eq_true rfl) dX12_begins_179 ⟨by omega, by omega⟩ (fun H locs X => ?_)
  obtain ⟨r182, τ182, hq182, hg⟩ := bd_some hg
  refine gc_Vv (As := [.int r179]) (rest := []) (q0 := 0) (ci := 15) S X (k2_X12_accept l dC dI ad kc hq182 H.size) cw_X12_accept mG_2526 rfl rfl rfl rfl rfl hl.1 (Nat.le_of_ble_eq_true rfl) dX12_begins_182 ⟨by omega, by omega⟩ (fun H locs X => ?_)
  refine lv_aload_n hx hb dX12_begins_185 rfl (lv_at hl 0 rfl) ?_
  refine lv_iconst (v := 4) hx hb dX12_begins_186 (by decide) ?_
  refine lv_iload_n hx hb dX12_begins_187 rfl (lv_at hl 1 rfl) ?_
  refine lv_iconst (v := 0) hx hb dX12_begins_188 (by decide) ?_
  obtain ⟨r189, τ189, hq189, hg⟩ := bd_some hg
  refine gc_Vv (As := [.int 4, .int v1, .int 0]) (rest := []) (q0 := 0) (ci := 15) S X (k2_X12_pile l dC dI ad kc hq189 H.size) cw_X12_pile mG_2566 rfl rfl rfl rfl rfl hl.1 (Nat.le_of_ble_eq_true rfl) dX12_begins_189 ⟨by omega, by omega⟩ (fun H locs X => ?_)
  refine lv_iconst (v := 1) hx hb dX12_begins_192 (by decide) ?_
  obtain ⟨rfl, rfl⟩ := fin_some hg
  exact gr_z S hr hk X (Or.inr rfl) dX12_begins_193
set_option maxHeartbeats 4000000 in
set_option maxRecDepth 100000 in
theorem w_X12_begins_b156 {σ : S5} {u0 : Int32} {H : Heap} {locs : List Loc} {ls : Array Slot} (S : CallFix p m c cX12_begins 2 s args uG RX12) (hr : meth.sig.returnType = (some .boolean)) (hk : meth.locks = false) (hR : 7 ≤ R.frames ∧ 161 ≤ R.locals)
    (X : gX (dC, dI) (tM kc) (wM ad kc) Z A s σ H locs) (hl : lv_has ls 2 [(0, .ref (ad 0))]) (hg : f_X12_begins_b156 u0 σ = some (r, τ)) : W p l e R s m args below meth c H locs 0 0 (MQ below (gQi (dC, dI) (tM kc) (wM ad kc) A r τ) args s 0 0 A) (F0 m 156 ls [.int u0]) := by
  have hx := S.1
  have hb := S.2.1
  have hown := S.2.2.2.1
  have hu := S.2.2.2.2
  unfold f_X12_begins_b156 at hg
  refine lv_istore_n (lv' := [(1, .int u0), (0, .ref (ad 0))]) hx hb dX12_begins_156 rfl hl (by decide) rfl (fun ls hl => ?_)
  refine lv_aload_n hx hb dX12_begins_157 rfl (lv_at hl 1 rfl) ?_
  refine lv_iconst (v := 1) hx hb dX12_begins_158 (by decide) ?_
  obtain ⟨r159, τ159, hq159, hg⟩ := bd_some hg
  refine gc_Vv (As := [.int 1]) (rest := []) (q0 := 0) (ci := 15) S X (k2_X12_accept l dC dI ad kc hq159 H.size) cw_X12_accept mG_2526 rfl rfl rfl rfl rfl hl.1 (Nat.le_of_ble_eq_true rfl) dX12_begins_159 ⟨by omega, by omega⟩ (fun H locs X => ?_)
  refine lv_aload_n hx hb dX12_begins_162 rfl (lv_at hl 1 rfl) ?_
  refine wmgI_7 (v := (gI τ159 7)) S X mG_2060 rfl dX12_begins_163 ?_
  refine lv_if_ne (tgt := 175) hx hb dX12_begins_166 (by decide) (fun c166 => ?_) (fun c166 => ?_)
  · have hg := (if_neg c166).symm.trans hg
    exact w_X12_begins_b175 S hr hk hR X (lv_sub hl [1, 0] rfl) hg
  · have hg := (if_pos c166).symm.trans hg
    refine lv_aload_n hx hb dX12_begins_169 rfl (lv_at hl 1 rfl) ?_
    refine lv_iload_n hx hb dX12_begins_170 rfl (lv_at hl 0 rfl) ?_
    refine lv_iconst (v := 1) hx hb dX12_begins_171 (by decide) ?_
    obtain ⟨r172, τ172, hq172, hg⟩ := bd_some hg
    refine gc_Vv (As := [.int u0, .int 1]) (rest := []) (q0 := 0) (ci := 15) S X (k2_X12_parameters l dC dI ad kc hq172 H.size) cw_X12_parameters mG_2546 rfl rfl rfl rfl rfl hl.1 (Nat.le_of_ble_eq_true rfl) dX12_begins_172 ⟨by omega, by omega⟩ (fun H locs X => ?_)
    exact w_X12_begins_b175 S hr hk hR X (lv_sub hl [1, 0] rfl) hg
set_option maxHeartbeats 4000000 in
set_option maxRecDepth 100000 in
theorem w_X12_begins_b155 {σ : S5}  {H : Heap} {locs : List Loc} {ls : Array Slot} (S : CallFix p m c cX12_begins 2 s args uG RX12) (hr : meth.sig.returnType = (some .boolean)) (hk : meth.locks = false) (hR : 7 ≤ R.frames ∧ 161 ≤ R.locals)
    (X : gX (dC, dI) (tM kc) (wM ad kc) Z A s σ H locs) (hl : lv_has ls 2 [(0, .ref (ad 0))]) (hg : f_X12_begins_b155  σ = some (r, τ)) : W p l e R s m args below meth c H locs 0 0 (MQ below (gQi (dC, dI) (tM kc) (wM ad kc) A r τ) args s 0 0 A) (F0 m 155 ls []) := by
  have hx := S.1
  have hb := S.2.1
  have hown := S.2.2.2.1
  have hu := S.2.2.2.2
  unfold f_X12_begins_b155 at hg
  refine lv_iconst (v := 0) hx hb dX12_begins_155 (by decide) ?_
  exact w_X12_begins_b156 S hr hk hR X (lv_sub hl [0] rfl) hg
set_option maxHeartbeats 4000000 in
set_option maxRecDepth 100000 in
theorem w_X12_begins_b114 {σ : S5} {u0 : Int32} {H : Heap} {locs : List Loc} {ls : Array Slot} (S : CallFix p m c cX12_begins 2 s args uG RX12) (hr : meth.sig.returnType = (some .boolean)) (hk : meth.locks = false) (hR : 7 ≤ R.frames ∧ 161 ≤ R.locals)
    (X : gX (dC, dI) (tM kc) (wM ad kc) Z A s σ H locs) (hl : lv_has ls 2 [(0, .ref (ad 0))]) (hg : f_X12_begins_b114 u0 σ = some (r, τ)) : W p l e R s m args below meth c H locs 0 0 (MQ below (gQi (dC, dI) (tM kc) (wM ad kc) A r τ) args s 0 0 A) (F0 m 114 ls [.int u0]) := by
  have hx := S.1
  have hb := S.2.1
  have hown := S.2.2.2.1
  have hu := S.2.2.2.2
  unfold f_X12_begins_b114 at hg
  refine lv_istore_n (lv' := [(1, .int u0), (0, .ref (ad 0))]) hx hb dX12_begins_114 rfl hl (by decide) rfl (fun ls hl => ?_)
  refine lv_aload_n hx hb dX12_begins_115 rfl (lv_at hl 1 rfl) ?_
  refine lv_iconst (v := 1) hx hb dX12_begins_116 (by decide) ?_
  obtain ⟨r117, τ117, hq117, hg⟩ := bd_some hg
  refine gc_Vv (As := [.int 1]) (rest := []) (q0 := 0) (ci := 15) S X (k2_X12_accept l dC dI ad kc hq117 H.size) cw_X12_accept mG_2526 rfl rfl rfl rfl rfl hl.1 (Nat.le_of_ble_eq_true rfl) dX12_begins_117 ⟨by omega, by omega⟩ (fun H locs X => ?_)
  refine lv_aload_n hx hb dX12_begins_120 rfl (lv_at hl 1 rfl) ?_
  refine lv_iconst (v := 5) hx hb dX12_begins_121 (by decide) ?_
  refine lv_iload_n hx hb dX12_begins_122 rfl (lv_at hl 0 rfl) ?_
  refine lv_iconst (v := 0) hx hb dX12_begins_123 (by decide) ?_
  obtain ⟨r124, τ124, hq124, hg⟩ := bd_some hg
  refine gc_Vv (As := [.int 5, .int u0, .int 0]) (rest := []) (q0 := 0) (ci := 15) S X (k2_X12_pile l dC dI ad kc hq124 H.size) cw_X12_pile mG_2566 rfl rfl rfl rfl rfl hl.1 (Nat.le_of_ble_eq_true rfl) dX12_begins_124 ⟨by omega, by omega⟩ (fun H locs X => ?_)
  refine lv_iconst (v := 1) hx hb dX12_begins_127 (by decide) ?_
  obtain ⟨rfl, rfl⟩ := fin_some hg
  exact gr_z S hr hk X (Or.inr rfl) dX12_begins_128
set_option maxHeartbeats 4000000 in
set_option maxRecDepth 100000 in
theorem w_X12_begins_b113 {σ : S5}  {H : Heap} {locs : List Loc} {ls : Array Slot} (S : CallFix p m c cX12_begins 2 s args uG RX12) (hr : meth.sig.returnType = (some .boolean)) (hk : meth.locks = false) (hR : 7 ≤ R.frames ∧ 161 ≤ R.locals)
    (X : gX (dC, dI) (tM kc) (wM ad kc) Z A s σ H locs) (hl : lv_has ls 2 [(0, .ref (ad 0))]) (hg : f_X12_begins_b113  σ = some (r, τ)) : W p l e R s m args below meth c H locs 0 0 (MQ below (gQi (dC, dI) (tM kc) (wM ad kc) A r τ) args s 0 0 A) (F0 m 113 ls []) := by
  have hx := S.1
  have hb := S.2.1
  have hown := S.2.2.2.1
  have hu := S.2.2.2.2
  unfold f_X12_begins_b113 at hg
  refine lv_iconst (v := 0) hx hb dX12_begins_113 (by decide) ?_
  exact w_X12_begins_b114 S hr hk hR X (lv_sub hl [0] rfl) hg
set_option maxHeartbeats 4000000 in
set_option maxRecDepth 100000 in
theorem w_X12_begins_b67 {σ : S5} {u0 : Int32} {H : Heap} {locs : List Loc} {ls : Array Slot} (S : CallFix p m c cX12_begins 2 s args uG RX12) (hr : meth.sig.returnType = (some .boolean)) (hk : meth.locks = false) (hR : 7 ≤ R.frames ∧ 161 ≤ R.locals)
    (X : gX (dC, dI) (tM kc) (wM ad kc) Z A s σ H locs) (hl : lv_has ls 2 [(0, .ref (ad 0))]) (hg : f_X12_begins_b67 u0 σ = some (r, τ)) : W p l e R s m args below meth c H locs 0 0 (MQ below (gQi (dC, dI) (tM kc) (wM ad kc) A r τ) args s 0 0 A) (F0 m 67 ls [.int u0]) := by
  have hx := S.1
  have hb := S.2.1
  have hown := S.2.2.2.1
  have hu := S.2.2.2.2
  unfold f_X12_begins_b67 at hg
  refine lv_istore_n (lv' := [(1, .int u0), (0, .ref (ad 0))]) hx hb dX12_begins_67 rfl hl (by decide) rfl (fun ls hl => ?_)
  refine lv_aload_n hx hb dX12_begins_68 rfl (lv_at hl 1 rfl) ?_
  refine lv_iconst (v := 1) hx hb dX12_begins_69 (by decide) ?_
  obtain ⟨r70, τ70, hq70, hg⟩ := bd_some hg
  refine gc_Vv (As := [.int 1]) (rest := []) (q0 := 0) (ci := 15) S X (k2_X12_accept l dC dI ad kc hq70 H.size) cw_X12_accept mG_2526 rfl rfl rfl rfl rfl hl.1 (Nat.le_of_ble_eq_true rfl) dX12_begins_70 ⟨by omega, by omega⟩ (fun H locs X => ?_)
  refine lv_aload_n hx hb dX12_begins_73 rfl (lv_at hl 1 rfl) ?_
  refine lv_iconst (v := 3) hx hb dX12_begins_74 (by decide) ?_
  refine lv_iload_n hx hb dX12_begins_75 rfl (lv_at hl 0 rfl) ?_
  refine lv_iconst (v := 0) hx hb dX12_begins_76 (by decide) ?_
  obtain ⟨r77, τ77, hq77, hg⟩ := bd_some hg
  refine gc_Vv (As := [.int 3, .int u0, .int 0]) (rest := []) (q0 := 0) (ci := 15) S X (k2_X12_pile l dC dI ad kc hq77 H.size) cw_X12_pile mG_2566 rfl rfl rfl rfl rfl hl.1 (Nat.le_of_ble_eq_true rfl) dX12_begins_77 ⟨by omega, by omega⟩ (fun H locs X => ?_)
  refine lv_aload_n hx hb dX12_begins_80 rfl (lv_at hl 1 rfl) ?_
  refine lv_iload_n hx hb dX12_begins_81 rfl (lv_at hl 0 rfl) ?_
  obtain ⟨r82, τ82, hq82, hg⟩ := bd_some hg
  refine gc_Vv (As := [.int u0]) (rest := []) (q0 := 0) (ci := 15) S X (k2_X12_binding l dC dI ad kc hq82 H.size) cw_X12_binding mG_2582 rfl rfl rfl rfl rfl hl.1 (Nat.le_of_ble_eq_true rfl) dX12_begins_82 ⟨by omega, by omega⟩ (fun H locs X => ?_)
  refine lv_iconst (v := 1) hx hb dX12_begins_85 (by decide) ?_
  obtain ⟨rfl, rfl⟩ := fin_some hg
  exact gr_z S hr hk X (Or.inr rfl) dX12_begins_86
set_option maxHeartbeats 4000000 in
set_option maxRecDepth 100000 in
theorem w_X12_begins_b66 {σ : S5}  {H : Heap} {locs : List Loc} {ls : Array Slot} (S : CallFix p m c cX12_begins 2 s args uG RX12) (hr : meth.sig.returnType = (some .boolean)) (hk : meth.locks = false) (hR : 7 ≤ R.frames ∧ 161 ≤ R.locals)
    (X : gX (dC, dI) (tM kc) (wM ad kc) Z A s σ H locs) (hl : lv_has ls 2 [(0, .ref (ad 0))]) (hg : f_X12_begins_b66  σ = some (r, τ)) : W p l e R s m args below meth c H locs 0 0 (MQ below (gQi (dC, dI) (tM kc) (wM ad kc) A r τ) args s 0 0 A) (F0 m 66 ls []) := by
  have hx := S.1
  have hb := S.2.1
  have hown := S.2.2.2.1
  have hu := S.2.2.2.2
  unfold f_X12_begins_b66 at hg
  refine lv_iconst (v := 0) hx hb dX12_begins_66 (by decide) ?_
  exact w_X12_begins_b67 S hr hk hR X (lv_sub hl [0] rfl) hg
set_option maxHeartbeats 4000000 in
set_option maxRecDepth 100000 in
theorem w_X12_begins {σ : S5}  {H : Heap} {locs : List Loc} {ls : Array Slot} (S : CallFix p m c cX12_begins 2 s args uG RX12) (hr : meth.sig.returnType = (some .boolean)) (hk : meth.locks = false) (hR : 7 ≤ R.frames ∧ 161 ≤ R.locals)
    (X : gX (dC, dI) (tM kc) (wM ad kc) Z A s σ H locs) (hl : lv_has ls 2 [(0, .ref (ad 0))]) (hg : f_X12_begins  σ = some (r, τ)) : W p l e R s m args below meth c H locs 0 0 (MQ below (gQi (dC, dI) (tM kc) (wM ad kc) A r τ) args s 0 0 A) (F0 m 0 ls []) := by
  have hx := S.1
  have hb := S.2.1
  have hown := S.2.2.2.1
  have hu := S.2.2.2.2
  unfold f_X12_begins at hg
  refine lv_aload_n hx hb dX12_begins_0 rfl (lv_at hl 0 rfl) ?_
  refine wmgI_4 (v := (gI σ 4)) S X mG_2056 rfl dX12_begins_1 ?_
  by_cases hs0 : (gI σ 4) = 11
  · have hg := (if_pos hs0).symm.trans hg
    refine lv_lookup (off := 36) (tgt := 40) hx hb dX12_begins_4 (by decide) (by rw [hs0]; decide) (by decide) ?_
    refine lv_aload_n hx hb dX12_begins_40 rfl (lv_at hl 0 rfl) ?_
    obtain ⟨r41, τ41, hq41, hg⟩ := bd_some hg
    refine gc_Vv (As := []) (rest := []) (q0 := 0) (ci := 15) S X (k2_X12_opens l dC dI ad kc hq41 H.size) cw_X12_opens mG_2578 rfl rfl rfl rfl rfl hl.1 (Nat.le_of_ble_eq_true rfl) dX12_begins_41 ⟨by omega, by omega⟩ (fun H locs X => ?_)
    refine lv_aload_n hx hb dX12_begins_44 rfl (lv_at hl 0 rfl) ?_
    refine wmgI_7 (v := (gI τ41 7)) S X mG_2060 rfl dX12_begins_45 ?_
    refine lv_if_ne (tgt := 66) hx hb dX12_begins_48 (by decide) (fun c48 => ?_) (fun c48 => ?_)
    · have hg := (if_neg c48).symm.trans hg
      exact w_X12_begins_b66 S hr hk hR X (lv_sub hl [0] rfl) hg
    · have hg := (if_pos c48).symm.trans hg
      refine lv_aload_n hx hb dX12_begins_51 rfl (lv_at hl 0 rfl) ?_
      obtain ⟨r52, τ52, hq52, hg⟩ := bd_some hg
      refine gc_Vi (As := []) (rest := []) (q0 := 0) (ci := 15) S X (k2_X12_part l dC dI ad kc hq52 H.size) cw_X12_part mG_2554 rfl rfl rfl rfl rfl hl.1 (Nat.le_of_ble_eq_true rfl) dX12_begins_52 ⟨by omega, by omega⟩ (fun H locs X => ?_)
      refine lv_if_eq (tgt := 66) hx hb dX12_begins_55 (by decide) (fun c55 => ?_) (fun c55 => ?_)
      · have hg := (if_pos c55).symm.trans hg
        exact w_X12_begins_b66 S hr hk hR X (lv_sub hl [0] rfl) hg
      · have hg := (if_neg c55).symm.trans hg
        refine lv_aload_n hx hb dX12_begins_58 rfl (lv_at hl 0 rfl) ?_
        refine lv_iconst (v := 0) hx hb dX12_begins_59 (by decide) ?_
        obtain ⟨r60, τ60, hq60, hg⟩ := bd_some hg
        refine gc_Vi (As := [.int 0]) (rest := []) (q0 := 0) (ci := 15) S X (k2_X12_node l dC dI ad kc hq60 H.size) cw_X12_node mG_2542 rfl rfl rfl rfl rfl hl.1 (Nat.le_of_ble_eq_true rfl) dX12_begins_60 ⟨by omega, by omega⟩ (fun H locs X => ?_)
        refine lv_goto (tgt := 67) hx hb dX12_begins_63 (by decide) ?_
        exact w_X12_begins_b67 S hr hk hR X (lv_sub hl [0] rfl) hg
  have hg := (if_neg hs0).symm.trans hg
  by_cases hs1 : (gI σ 4) = 13
  · have hg := (if_pos hs1).symm.trans hg
    refine lv_lookup (off := 83) (tgt := 87) hx hb dX12_begins_4 (by decide) (by rw [hs1]; decide) (by decide) ?_
    refine lv_aload_n hx hb dX12_begins_87 rfl (lv_at hl 0 rfl) ?_
    obtain ⟨r88, τ88, hq88, hg⟩ := bd_some hg
    refine gc_Vv (As := []) (rest := []) (q0 := 0) (ci := 15) S X (k2_X12_opens l dC dI ad kc hq88 H.size) cw_X12_opens mG_2578 rfl rfl rfl rfl rfl hl.1 (Nat.le_of_ble_eq_true rfl) dX12_begins_88 ⟨by omega, by omega⟩ (fun H locs X => ?_)
    refine lv_aload_n hx hb dX12_begins_91 rfl (lv_at hl 0 rfl) ?_
    refine wmgI_7 (v := (gI τ88 7)) S X mG_2060 rfl dX12_begins_92 ?_
    refine lv_if_ne (tgt := 113) hx hb dX12_begins_95 (by decide) (fun c95 => ?_) (fun c95 => ?_)
    · have hg := (if_neg c95).symm.trans hg
      exact w_X12_begins_b113 S hr hk hR X (lv_sub hl [0] rfl) hg
    · have hg := (if_pos c95).symm.trans hg
      refine lv_aload_n hx hb dX12_begins_98 rfl (lv_at hl 0 rfl) ?_
      obtain ⟨r99, τ99, hq99, hg⟩ := bd_some hg
      refine gc_Vi (As := []) (rest := []) (q0 := 0) (ci := 15) S X (k2_X12_part l dC dI ad kc hq99 H.size) cw_X12_part mG_2554 rfl rfl rfl rfl rfl hl.1 (Nat.le_of_ble_eq_true rfl) dX12_begins_99 ⟨by omega, by omega⟩ (fun H locs X => ?_)
      refine lv_if_eq (tgt := 113) hx hb dX12_begins_102 (by decide) (fun c102 => ?_) (fun c102 => ?_)
      · have hg := (if_pos c102).symm.trans hg
        exact w_X12_begins_b113 S hr hk hR X (lv_sub hl [0] rfl) hg
      · have hg := (if_neg c102).symm.trans hg
        refine lv_aload_n hx hb dX12_begins_105 rfl (lv_at hl 0 rfl) ?_
        refine lv_iconst (v := 3) hx hb dX12_begins_106 (by decide) ?_
        obtain ⟨r107, τ107, hq107, hg⟩ := bd_some hg
        refine gc_Vi (As := [.int 3]) (rest := []) (q0 := 0) (ci := 15) S X (k2_X12_node l dC dI ad kc hq107 H.size) cw_X12_node mG_2542 rfl rfl rfl rfl rfl hl.1 (Nat.le_of_ble_eq_true rfl) dX12_begins_107 ⟨by omega, by omega⟩ (fun H locs X => ?_)
        refine lv_goto (tgt := 114) hx hb dX12_begins_110 (by decide) ?_
        exact w_X12_begins_b114 S hr hk hR X (lv_sub hl [0] rfl) hg
  have hg := (if_neg hs1).symm.trans hg
  by_cases hs2 : (gI σ 4) = 192
  · have hg := (if_pos hs2).symm.trans hg
    refine lv_lookup (off := 125) (tgt := 129) hx hb dX12_begins_4 (by decide) (by rw [hs2]; decide) (by decide) ?_
    refine lv_aload_n hx hb dX12_begins_129 rfl (lv_at hl 0 rfl) ?_
    obtain ⟨r130, τ130, hq130, hg⟩ := bd_some hg
    refine gc_Vv (As := []) (rest := []) (q0 := 0) (ci := 15) S X (k2_X12_opens l dC dI ad kc hq130 H.size) cw_X12_opens mG_2578 rfl rfl rfl rfl rfl hl.1 (Nat.le_of_ble_eq_true rfl) dX12_begins_130 ⟨by omega, by omega⟩ (fun H locs X => ?_)
    refine lv_aload_n hx hb dX12_begins_133 rfl (lv_at hl 0 rfl) ?_
    refine wmgI_7 (v := (gI τ130 7)) S X mG_2060 rfl dX12_begins_134 ?_
    refine lv_if_ne (tgt := 155) hx hb dX12_begins_137 (by decide) (fun c137 => ?_) (fun c137 => ?_)
    · have hg := (if_neg c137).symm.trans hg
      exact w_X12_begins_b155 S hr hk hR X (lv_sub hl [0] rfl) hg
    · have hg := (if_pos c137).symm.trans hg
      refine lv_aload_n hx hb dX12_begins_140 rfl (lv_at hl 0 rfl) ?_
      obtain ⟨r141, τ141, hq141, hg⟩ := bd_some hg
      refine gc_Vi (As := []) (rest := []) (q0 := 0) (ci := 15) S X (k2_X12_part l dC dI ad kc hq141 H.size) cw_X12_part mG_2554 rfl rfl rfl rfl rfl hl.1 (Nat.le_of_ble_eq_true rfl) dX12_begins_141 ⟨by omega, by omega⟩ (fun H locs X => ?_)
      refine lv_if_eq (tgt := 155) hx hb dX12_begins_144 (by decide) (fun c144 => ?_) (fun c144 => ?_)
      · have hg := (if_pos c144).symm.trans hg
        exact w_X12_begins_b155 S hr hk hR X (lv_sub hl [0] rfl) hg
      · have hg := (if_neg c144).symm.trans hg
        refine lv_aload_n hx hb dX12_begins_147 rfl (lv_at hl 0 rfl) ?_
        refine lv_iconst (v := 2) hx hb dX12_begins_148 (by decide) ?_
        obtain ⟨r149, τ149, hq149, hg⟩ := bd_some hg
        refine gc_Vi (As := [.int 2]) (rest := []) (q0 := 0) (ci := 15) S X (k2_X12_node l dC dI ad kc hq149 H.size) cw_X12_node mG_2542 rfl rfl rfl rfl rfl hl.1 (Nat.le_of_ble_eq_true rfl) dX12_begins_149 ⟨by omega, by omega⟩ (fun H locs X => ?_)
        refine lv_goto (tgt := 156) hx hb dX12_begins_152 (by decide) ?_
        exact w_X12_begins_b156 S hr hk hR X (lv_sub hl [0] rfl) hg
  have hg := (if_neg hs2).symm.trans hg
  refine lv_lookup (off := 190) (tgt := 194) hx hb dX12_begins_4 (by decide) (by show Op.lookupswitch.offset [(11, 36), (13, 83), (192, 125)] 190 ((gI σ 4)).toInt = 190; simp only [Op.lookupswitch.offset, lk_ne (a := 11) hs0 (by decide), lk_ne (a := 13) hs1 (by decide), lk_ne (a := 192) hs2 (by decide), if_false]) (by decide) ?_
  refine lv_iconst (v := 0) hx hb dX12_begins_194 (by decide) ?_
  obtain ⟨rfl, rfl⟩ := fin_some hg
  exact gr_z S hr hk X (Or.inl rfl) dX12_begins_195
end MX12_begins
set_option maxRecDepth 100000 in
theorem k2_X12_begins (l : Launch) (dC : Nat → ClassId) (dI : Nat → Nat → Nat) {Z : ZZ} (ad : Nat → Nat) (kc : Nat → ClassId) {σ τ : S5}  {r : Int32} (hg : f_X12_begins  σ = some (r, τ)) (sz : Nat) : Met l yX12_begins (Cond.code yX12_begins cX12_begins 2 (some .boolean) :: uG) { frames := 7, cells := 0, slots := 0, locals := 161 } (gPc (dC, dI) (tM kc) (wM ad kc) Z [.ref (ad 0)] σ sz) (gQi (dC, dI) (tM kc) (wM ad kc) (va_A (wM ad kc σ) sz) r τ) 0 0 (va_A (wM ad kc σ) sz) :=
  g_start (by decide) (Nat.le_of_ble_eq_true rfl) (fun p e s m below meth c ls S hr hk X hl => w_X12_begins S hr hk ⟨Nat.le_refl _, Nat.le_refl _⟩ X hl hg)
section MX12_isAtom
variable {p : Program} {l : Launch} {e : Env} {R : Room} {s : State} {m : MethodId} {args : Array Value} {below : List Frame} {meth : Method} {c : Code} {dC : Nat → ClassId} {dI : Nat → Nat → Nat} {Z : ZZ} {A : Nat → Prop} {ad : Nat → Nat} {kc : Nat → ClassId} {r : Int32} {τ : S5}
set_option maxHeartbeats 4000000 in
set_option maxRecDepth 100000 in
theorem w_X12_isAtom_b42 {σ : S5}  {H : Heap} {locs : List Loc} {ls : Array Slot} (S : CallFix p m c cX12_isAtom 1 s args uG RX12) (hr : meth.sig.returnType = (some .boolean)) (hk : meth.locks = false) (hR : 1 ≤ R.frames ∧ 21 ≤ R.locals)
    (X : gX (dC, dI) (tM kc) (wM ad kc) Z A s σ H locs) (hl : lv_has ls 1 []) (hg : f_X12_isAtom_b42  σ = some (r, τ)) : W p l e R s m args below meth c H locs 0 0 (MQ below (gQi (dC, dI) (tM kc) (wM ad kc) A r τ) args s 0 0 A) (F0 m 42 ls []) := by
  have hx := S.1
  have hb := S.2.1
  have hown := S.2.2.2.1
  have hu := S.2.2.2.2
  unfold f_X12_isAtom_b42 at hg
  refine lv_iconst (v := 1) hx hb dX12_isAtom_42 (by decide) ?_
  refine lv_goto (tgt := 47) hx hb dX12_isAtom_43 (by decide) ?_
  obtain ⟨rfl, rfl⟩ := fin_some hg
  exact gr_z S hr hk X (Or.inr rfl) dX12_isAtom_47
set_option maxHeartbeats 4000000 in
set_option maxRecDepth 100000 in
theorem w_X12_isAtom {σ : S5}  {H : Heap} {locs : List Loc} {ls : Array Slot} (S : CallFix p m c cX12_isAtom 1 s args uG RX12) (hr : meth.sig.returnType = (some .boolean)) (hk : meth.locks = false) (hR : 1 ≤ R.frames ∧ 21 ≤ R.locals)
    (X : gX (dC, dI) (tM kc) (wM ad kc) Z A s σ H locs) (hl : lv_has ls 1 [(0, .ref (ad 0))]) (hg : f_X12_isAtom  σ = some (r, τ)) : W p l e R s m args below meth c H locs 0 0 (MQ below (gQi (dC, dI) (tM kc) (wM ad kc) A r τ) args s 0 0 A) (F0 m 0 ls []) := by
  have hx := S.1
  have hb := S.2.1
  have hown := S.2.2.2.1
  have hu := S.2.2.2.2
  unfold f_X12_isAtom at hg
  refine lv_aload_n hx hb dX12_isAtom_0 rfl (lv_at hl 0 rfl) ?_
  refine wmgI_4 (v := (gI σ 4)) S X mG_2056 rfl dX12_isAtom_1 ?_
  refine lv_iconst (v := 3) hx hb dX12_isAtom_4 (by decide) ?_
  refine lv_icmp_eq (tgt := 42) hx hb dX12_isAtom_5 (by decide) (fun c5 => ?_) (fun c5 => ?_)
  · have hg := (if_pos c5).symm.trans hg
    exact w_X12_isAtom_b42 S hr hk hR X (lv_sub hl [] rfl) hg
  · have hg := (if_neg c5).symm.trans hg
    refine lv_aload_n hx hb dX12_isAtom_8 rfl (lv_at hl 0 rfl) ?_
    refine wmgI_4 (v := (gI σ 4)) S X mG_2056 rfl dX12_isAtom_9 ?_
    refine lv_iconst (v := 4) hx hb dX12_isAtom_12 (by decide) ?_
    refine lv_icmp_eq (tgt := 42) hx hb dX12_isAtom_13 (by decide) (fun c13 => ?_) (fun c13 => ?_)
    · have hg := (if_pos c13).symm.trans hg
      exact w_X12_isAtom_b42 S hr hk hR X (lv_sub hl [] rfl) hg
    · have hg := (if_neg c13).symm.trans hg
      refine lv_aload_n hx hb dX12_isAtom_16 rfl (lv_at hl 0 rfl) ?_
      refine wmgI_4 (v := (gI σ 4)) S X mG_2056 rfl dX12_isAtom_17 ?_
      refine lv_iconst (v := 2) hx hb dX12_isAtom_20 (by decide) ?_
      refine lv_icmp_eq (tgt := 42) hx hb dX12_isAtom_21 (by decide) (fun c21 => ?_) (fun c21 => ?_)
      · have hg := (if_pos c21).symm.trans hg
        exact w_X12_isAtom_b42 S hr hk hR X (lv_sub hl [] rfl) hg
      · have hg := (if_neg c21).symm.trans hg
        refine lv_aload_n hx hb dX12_isAtom_24 rfl (lv_at hl 0 rfl) ?_
        refine wmgI_4 (v := (gI σ 4)) S X mG_2056 rfl dX12_isAtom_25 ?_
        refine lv_bipush (v := 15) hx hb dX12_isAtom_28 (by decide) ?_
        refine lv_icmp_eq (tgt := 42) hx hb dX12_isAtom_30 (by decide) (fun c30 => ?_) (fun c30 => ?_)
        · have hg := (if_pos c30).symm.trans hg
          exact w_X12_isAtom_b42 S hr hk hR X (lv_sub hl [] rfl) hg
        · have hg := (if_neg c30).symm.trans hg
          refine lv_aload_n hx hb dX12_isAtom_33 rfl (lv_at hl 0 rfl) ?_
          refine lv_bipush (v := 40) hx hb dX12_isAtom_34 (by decide) ?_
          obtain ⟨r36, τ36, hq36, hg⟩ := bd_some hg
          refine gc_Vi (As := [.int 40]) (rest := []) (q0 := 0) (ci := 15) S X (k2_X12_isSign l dC dI ad kc hq36 H.size) cw_X12_isSign mG_2534 rfl rfl rfl rfl rfl hl.1 (Nat.le_of_ble_eq_true rfl) dX12_isAtom_36 ⟨by omega, by omega⟩ (fun H locs X => ?_)
          refine lv_if_eq (tgt := 46) hx hb dX12_isAtom_39 (by decide) (fun c39 => ?_) (fun c39 => ?_)
          · have hg := (if_pos c39).symm.trans hg
            refine lv_iconst (v := 0) hx hb dX12_isAtom_46 (by decide) ?_
            obtain ⟨rfl, rfl⟩ := fin_some hg
            exact gr_z S hr hk X (Or.inl rfl) dX12_isAtom_47
          · have hg := (if_neg c39).symm.trans hg
            exact w_X12_isAtom_b42 S hr hk hR X (lv_sub hl [] rfl) hg
end MX12_isAtom
set_option maxRecDepth 100000 in
theorem k2_X12_isAtom (l : Launch) (dC : Nat → ClassId) (dI : Nat → Nat → Nat) {Z : ZZ} (ad : Nat → Nat) (kc : Nat → ClassId) {σ τ : S5}  {r : Int32} (hg : f_X12_isAtom  σ = some (r, τ)) (sz : Nat) : Met l yX12_isAtom (Cond.code yX12_isAtom cX12_isAtom 1 (some .boolean) :: uG) { frames := 1, cells := 0, slots := 0, locals := 21 } (gPc (dC, dI) (tM kc) (wM ad kc) Z [.ref (ad 0)] σ sz) (gQi (dC, dI) (tM kc) (wM ad kc) (va_A (wM ad kc σ) sz) r τ) 0 0 (va_A (wM ad kc σ) sz) :=
  g_start (by decide) (Nat.le_of_ble_eq_true rfl) (fun p e s m below meth c ls S hr hk X hl => w_X12_isAtom S hr hk ⟨Nat.le_refl _, Nat.le_refl _⟩ X hl hg)
section MX12_atom
variable {p : Program} {l : Launch} {e : Env} {R : Room} {s : State} {m : MethodId} {args : Array Value} {below : List Frame} {meth : Method} {c : Code} {dC : Nat → ClassId} {dI : Nat → Nat → Nat} {Z : ZZ} {A : Nat → Prop} {ad : Nat → Nat} {kc : Nat → ClassId} {r : Int32} {τ : S5}
set_option maxHeartbeats 4000000 in
set_option maxRecDepth 100000 in
theorem w_X12_atom_b189 {σ : S5} {v2 : Int32} {u0 : Int32} {u1 : Int32} {H : Heap} {locs : List Loc} {ls : Array Slot} (S : CallFix p m c cX12_atom 3 s args uG RX12) (hr : meth.sig.returnType = (some .boolean)) (hk : meth.locks = false) (hR : 5 ≤ R.frames ∧ 114 ≤ R.locals)
    (X : gX (dC, dI) (tM kc) (wM ad kc) Z A s σ H locs) (hl : lv_has ls 3 [(0, .ref (ad 0)), (2, .int v2)]) (hg : f_X12_atom_b189 v2 u0 u1 σ = some (r, τ)) : W p l e R s m args below meth c H locs 0 0 (MQ below (gQi (dC, dI) (tM kc) (wM ad kc) A r τ) args s 0 0 A) (F0 m 189 ls [.int u0, .int u1, .ref (ad 8)]) := by
  have hx := S.1
  have hb := S.2.1
  have hown := S.2.2.2.1
  have hu := S.2.2.2.2
  unfold f_X12_atom_b189 at hg
  obtain ⟨hi189, hg⟩ := gd_some hg
  refine wmsA_7 S X hi189 dX12_atom_189 (fun H locs X => ?_)
  refine lv_aload_n hx hb dX12_atom_190 rfl (lv_at hl 0 rfl) ?_
  obtain ⟨r191, τ191, hq191, hg⟩ := bd_some hg
  refine gc_Vv (As := []) (rest := []) (q0 := 0) (ci := 15) S X (k2_X12_next l dC dI ad kc hq191 H.size) cw_X12_next mG_2479 rfl rfl rfl rfl rfl hl.1 (Nat.le_of_ble_eq_true rfl) dX12_atom_191 ⟨by omega, by omega⟩ (fun H locs X => ?_)
  refine lv_aload_n hx hb dX12_atom_194 rfl (lv_at hl 0 rfl) ?_
  refine lv_iload_n hx hb dX12_atom_195 rfl (lv_at hl 1 rfl) ?_
  obtain ⟨r196, τ196, hq196, hg⟩ := bd_some hg
  refine gc_Vv (As := [.int v2]) (rest := []) (q0 := 0) (ci := 15) S X (k2_X12_operand l dC dI ad kc hq196 H.size) cw_X12_operand mG_2614 rfl rfl rfl rfl rfl hl.1 (Nat.le_of_ble_eq_true rfl) dX12_atom_196 ⟨by omega, by omega⟩ (fun H locs X => ?_)
  refine lv_iconst (v := 1) hx hb dX12_atom_199 (by decide) ?_
  obtain ⟨rfl, rfl⟩ := fin_some hg
  exact gr_z S hr hk X (Or.inr rfl) dX12_atom_200
set_option maxHeartbeats 4000000 in
set_option maxRecDepth 100000 in
theorem w_X12_atom_b154 {σ : S5} {v1 : Int32} {u0 : Int32} {H : Heap} {locs : List Loc} {ls : Array Slot} (S : CallFix p m c cX12_atom 3 s args uG RX12) (hr : meth.sig.returnType = (some .boolean)) (hk : meth.locks = false) (hR : 5 ≤ R.frames ∧ 114 ≤ R.locals)
    (X : gX (dC, dI) (tM kc) (wM ad kc) Z A s σ H locs) (hl : lv_has ls 3 [(0, .ref (ad 0)), (1, .int v1)]) (hg : f_X12_atom_b154 v1 u0 σ = some (r, τ)) : W p l e R s m args below meth c H locs 0 0 (MQ below (gQi (dC, dI) (tM kc) (wM ad kc) A r τ) args s 0 0 A) (F0 m 154 ls [.int u0, .ref (ad 0)]) := by
  have hx := S.1
  have hb := S.2.1
  have hown := S.2.2.2.1
  have hu := S.2.2.2.2
  unfold f_X12_atom_b154 at hg
  obtain ⟨r154, τ154, hq154, hg⟩ := bd_some hg
  refine gc_Vi (As := [.int u0]) (rest := []) (q0 := 0) (ci := 15) S X (k2_X12_node l dC dI ad kc hq154 H.size) cw_X12_node mG_2542 rfl rfl rfl rfl rfl hl.1 (Nat.le_of_ble_eq_true rfl) dX12_atom_154 ⟨by omega, by omega⟩ (fun H locs X => ?_)
  refine lv_istore_n (lv' := [(2, .int r154), (0, .ref (ad 0)), (1, .int v1)]) hx hb dX12_atom_157 rfl hl (by decide) rfl (fun ls hl => ?_)
  refine lv_aload_n hx hb dX12_atom_158 rfl (lv_at hl 1 rfl) ?_
  refine wmgR_0_20 S X mG_2070 dX12_atom_159 ?_
  refine lv_iload_n hx hb dX12_atom_162 rfl (lv_at hl 0 rfl) ?_
  refine lv_aload_n hx hb dX12_atom_163 rfl (lv_at hl 1 rfl) ?_
  refine wmgJ_0 (v := (gJ τ154 0)) S X mG_2058 rfl dX12_atom_164 ?_
  obtain ⟨hi167, hg⟩ := gd_some hg
  refine wmsB_0 S X hi167 dX12_atom_167 (fun H locs X => ?_)
  refine lv_aload_n hx hb dX12_atom_168 rfl (lv_at hl 1 rfl) ?_
  refine wmgR_0_18 S X mG_2068 dX12_atom_169 ?_
  refine lv_iload_n hx hb dX12_atom_172 rfl (lv_at hl 0 rfl) ?_
  refine lv_aload_n hx hb dX12_atom_173 rfl (lv_at hl 1 rfl) ?_
  refine wmgI_4 (v := (gI τ154 4)) S X mG_2056 rfl dX12_atom_174 ?_
  refine lv_iconst (v := 4) hx hb dX12_atom_177 (by decide) ?_
  refine lv_icmp_ne (tgt := 185) hx hb dX12_atom_178 (by decide) (fun c178 => ?_) (fun c178 => ?_)
  · have hg := (if_neg c178).symm.trans hg
    refine lv_aload_n hx hb dX12_atom_185 rfl (lv_at hl 1 rfl) ?_
    refine wmgI_6 (v := (gI τ154 6)) S X mG_2059 rfl dX12_atom_186 ?_
    exact w_X12_atom_b189 S hr hk hR X (lv_sub hl [1, 0] rfl) hg
  · have hg := (if_pos c178).symm.trans hg
    refine lv_iload_n hx hb dX12_atom_181 rfl (lv_at hl 2 rfl) ?_
    refine lv_goto (tgt := 189) hx hb dX12_atom_182 (by decide) ?_
    exact w_X12_atom_b189 S hr hk hR X (lv_sub hl [1, 0] rfl) hg
set_option maxHeartbeats 4000000 in
set_option maxRecDepth 100000 in
theorem w_X12_atom_b96 {σ : S5} {v1 : Int32} {H : Heap} {locs : List Loc} {ls : Array Slot} (S : CallFix p m c cX12_atom 3 s args uG RX12) (hr : meth.sig.returnType = (some .boolean)) (hk : meth.locks = false) (hR : 5 ≤ R.frames ∧ 114 ≤ R.locals)
    (X : gX (dC, dI) (tM kc) (wM ad kc) Z A s σ H locs) (hl : lv_has ls 3 [(0, .ref (ad 0)), (1, .int v1)]) (hg : f_X12_atom_b96 v1 σ = some (r, τ)) : W p l e R s m args below meth c H locs 0 0 (MQ below (gQi (dC, dI) (tM kc) (wM ad kc) A r τ) args s 0 0 A) (F0 m 96 ls []) := by
  have hx := S.1
  have hb := S.2.1
  have hown := S.2.2.2.1
  have hu := S.2.2.2.2
  unfold f_X12_atom_b96 at hg
  refine lv_aload_n hx hb dX12_atom_96 rfl (lv_at hl 0 rfl) ?_
  refine wmgI_7 (v := (gI σ 7)) S X mG_2060 rfl dX12_atom_97 ?_
  refine lv_if_gt (tgt := 110) hx hb dX12_atom_100 (by decide) (fun c100 => ?_) (fun c100 => ?_)
  · have hg := (if_pos c100).symm.trans hg
    refine lv_iconst (v := 0) hx hb dX12_atom_110 (by decide) ?_
    obtain ⟨rfl, rfl⟩ := fin_some hg
    exact gr_z S hr hk X (Or.inl rfl) dX12_atom_111
  · have hg := (if_neg c100).symm.trans hg
    refine lv_aload_n hx hb dX12_atom_103 rfl (lv_at hl 0 rfl) ?_
    obtain ⟨r104, τ104, hq104, hg⟩ := bd_some hg
    refine gc_Vi (As := []) (rest := []) (q0 := 0) (ci := 15) S X (k2_X12_part l dC dI ad kc hq104 H.size) cw_X12_part mG_2554 rfl rfl rfl rfl rfl hl.1 (Nat.le_of_ble_eq_true rfl) dX12_atom_104 ⟨by omega, by omega⟩ (fun H locs X => ?_)
    refine lv_if_ne (tgt := 112) hx hb dX12_atom_107 (by decide) (fun c107 => ?_) (fun c107 => ?_)
    · have hg := (if_neg c107).symm.trans hg
      refine lv_aload_n hx hb dX12_atom_112 rfl (lv_at hl 0 rfl) ?_
      refine lv_aload_n hx hb dX12_atom_113 rfl (lv_at hl 0 rfl) ?_
      refine wmgI_4 (v := (gI τ104 4)) S X mG_2056 rfl dX12_atom_114 ?_
      refine lv_iconst (v := 3) hx hb dX12_atom_117 (by decide) ?_
      refine lv_icmp_ne (tgt := 126) hx hb dX12_atom_118 (by decide) (fun c118 => ?_) (fun c118 => ?_)
      · have hg := (if_neg c118).symm.trans hg
        refine lv_aload_n hx hb dX12_atom_126 rfl (lv_at hl 0 rfl) ?_
        refine wmgI_4 (v := (gI τ104 4)) S X mG_2056 rfl dX12_atom_127 ?_
        refine lv_iconst (v := 4) hx hb dX12_atom_130 (by decide) ?_
        refine lv_icmp_ne (tgt := 139) hx hb dX12_atom_131 (by decide) (fun c131 => ?_) (fun c131 => ?_)
        · have hg := (if_neg c131).symm.trans hg
          refine lv_aload_n hx hb dX12_atom_139 rfl (lv_at hl 0 rfl) ?_
          refine wmgI_4 (v := (gI τ104 4)) S X mG_2056 rfl dX12_atom_140 ?_
          refine lv_iconst (v := 2) hx hb dX12_atom_143 (by decide) ?_
          refine lv_icmp_ne (tgt := 152) hx hb dX12_atom_144 (by decide) (fun c144 => ?_) (fun c144 => ?_)
          · have hg := (if_neg c144).symm.trans hg
            refine lv_bipush (v := 11) hx hb dX12_atom_152 (by decide) ?_
            exact w_X12_atom_b154 S hr hk hR X (lv_sub hl [0, 1] rfl) hg
          · have hg := (if_pos c144).symm.trans hg
            refine lv_bipush (v := 10) hx hb dX12_atom_147 (by decide) ?_
            refine lv_goto (tgt := 154) hx hb dX12_atom_149 (by decide) ?_
            exact w_X12_atom_b154 S hr hk hR X (lv_sub hl [0, 1] rfl) hg
        · have hg := (if_pos c131).symm.trans hg
          refine lv_bipush (v := 9) hx hb dX12_atom_134 (by decide) ?_
          refine lv_goto (tgt := 154) hx hb dX12_atom_136 (by decide) ?_
          exact w_X12_atom_b154 S hr hk hR X (lv_sub hl [0, 1] rfl) hg
      · have hg := (if_pos c118).symm.trans hg
        refine lv_bipush (v := 8) hx hb dX12_atom_121 (by decide) ?_
        refine lv_goto (tgt := 154) hx hb dX12_atom_123 (by decide) ?_
        exact w_X12_atom_b154 S hr hk hR X (lv_sub hl [0, 1] rfl) hg
    · have hg := (if_pos c107).symm.trans hg
      refine lv_iconst (v := 0) hx hb dX12_atom_110 (by decide) ?_
      obtain ⟨rfl, rfl⟩ := fin_some hg
      exact gr_z S hr hk X (Or.inl rfl) dX12_atom_111
set_option maxHeartbeats 4000000 in
set_option maxRecDepth 100000 in
theorem w_X12_atom_b76 {σ : S5} {v1 : Int32} {H : Heap} {locs : List Loc} {ls : Array Slot} (S : CallFix p m c cX12_atom 3 s args uG RX12) (hr : meth.sig.returnType = (some .boolean)) (hk : meth.locks = false) (hR : 5 ≤ R.frames ∧ 114 ≤ R.locals)
    (X : gX (dC, dI) (tM kc) (wM ad kc) Z A s σ H locs) (hl : lv_has ls 3 [(0, .ref (ad 0)), (1, .int v1)]) (hg : f_X12_atom_b76 v1 σ = some (r, τ)) : W p l e R s m args below meth c H locs 0 0 (MQ below (gQi (dC, dI) (tM kc) (wM ad kc) A r τ) args s 0 0 A) (F0 m 76 ls []) := by
  have hx := S.1
  have hb := S.2.1
  have hown := S.2.2.2.1
  have hu := S.2.2.2.2
  unfold f_X12_atom_b76 at hg
  refine lv_aload_n hx hb dX12_atom_76 rfl (lv_at hl 0 rfl) ?_
  obtain ⟨r77, τ77, hq77, hg⟩ := bd_some hg
  refine gc_Vv (As := []) (rest := []) (q0 := 0) (ci := 15) S X (k2_X12_wrong l dC dI ad kc hq77 H.size) cw_X12_wrong mG_2530 rfl rfl rfl rfl rfl hl.1 (Nat.le_of_ble_eq_true rfl) dX12_atom_77 ⟨by omega, by omega⟩ (fun H locs X => ?_)
  refine lv_goto (tgt := 96) hx hb dX12_atom_80 (by decide) ?_
  exact w_X12_atom_b96 S hr hk hR X (lv_sub hl [0, 1] rfl) hg
set_option maxHeartbeats 4000000 in
set_option maxRecDepth 100000 in
theorem w_X12_atom_b69 {σ : S5} {v1 : Int32} {H : Heap} {locs : List Loc} {ls : Array Slot} (S : CallFix p m c cX12_atom 3 s args uG RX12) (hr : meth.sig.returnType = (some .boolean)) (hk : meth.locks = false) (hR : 5 ≤ R.frames ∧ 114 ≤ R.locals)
    (X : gX (dC, dI) (tM kc) (wM ad kc) Z A s σ H locs) (hl : lv_has ls 3 [(0, .ref (ad 0)), (1, .int v1)]) (hg : f_X12_atom_b69 v1 σ = some (r, τ)) : W p l e R s m args below meth c H locs 0 0 (MQ below (gQi (dC, dI) (tM kc) (wM ad kc) A r τ) args s 0 0 A) (F0 m 69 ls []) := by
  have hx := S.1
  have hb := S.2.1
  have hown := S.2.2.2.1
  have hu := S.2.2.2.2
  unfold f_X12_atom_b69 at hg
  refine lv_aload_n hx hb dX12_atom_69 rfl (lv_at hl 0 rfl) ?_
  obtain ⟨r70, τ70, hq70, hg⟩ := bd_some hg
  refine gc_Vi (As := []) (rest := []) (q0 := 0) (ci := 15) S X (k2_X12_isAtom l dC dI ad kc hq70 H.size) cw_X12_isAtom mG_2606 rfl rfl rfl rfl rfl hl.1 (Nat.le_of_ble_eq_true rfl) dX12_atom_70 ⟨by omega, by omega⟩ (fun H locs X => ?_)
  refine lv_if_ne (tgt := 83) hx hb dX12_atom_73 (by decide) (fun c73 => ?_) (fun c73 => ?_)
  · have hg := (if_neg c73).symm.trans hg
    refine lv_iload_n hx hb dX12_atom_83 rfl (lv_at hl 1 rfl) ?_
    refine lv_if_ge (tgt := 96) hx hb dX12_atom_84 (by decide) (fun c84 => ?_) (fun c84 => ?_)
    · have hg := (if_pos c84).symm.trans hg
      exact w_X12_atom_b96 S hr hk hR X (lv_sub hl [0, 1] rfl) hg
    · have hg := (if_neg c84).symm.trans hg
      refine lv_aload_n hx hb dX12_atom_87 rfl (lv_at hl 0 rfl) ?_
      refine lv_iconst (v := 3) hx hb dX12_atom_88 (by decide) ?_
      refine lv_aload_n hx hb dX12_atom_89 rfl (lv_at hl 0 rfl) ?_
      refine wmgI_5 (v := (gI τ70 5)) S X mG_2057 rfl dX12_atom_90 ?_
      obtain ⟨r93, τ93, hq93, hg⟩ := bd_some hg
      refine gc_Vv (As := [.int 3, .int (gI τ70 5)]) (rest := []) (q0 := 0) (ci := 15) S X (k2_X12_fail l dC dI ad kc hq93 H.size) cw_X12_fail mG_2522 rfl rfl rfl rfl rfl hl.1 (Nat.le_of_ble_eq_true rfl) dX12_atom_93 ⟨by omega, by omega⟩ (fun H locs X => ?_)
      exact w_X12_atom_b96 S hr hk hR X (lv_sub hl [0, 1] rfl) hg
  · have hg := (if_pos c73).symm.trans hg
    exact w_X12_atom_b76 S hr hk hR X (lv_sub hl [0, 1] rfl) hg
set_option maxHeartbeats 4000000 in
set_option maxRecDepth 100000 in
theorem w_X12_atom_b47 {σ : S5} {u0 : Int32} {H : Heap} {locs : List Loc} {ls : Array Slot} (S : CallFix p m c cX12_atom 3 s args uG RX12) (hr : meth.sig.returnType = (some .boolean)) (hk : meth.locks = false) (hR : 5 ≤ R.frames ∧ 114 ≤ R.locals)
    (X : gX (dC, dI) (tM kc) (wM ad kc) Z A s σ H locs) (hl : lv_has ls 3 [(0, .ref (ad 0))]) (hg : f_X12_atom_b47 u0 σ = some (r, τ)) : W p l e R s m args below meth c H locs 0 0 (MQ below (gQi (dC, dI) (tM kc) (wM ad kc) A r τ) args s 0 0 A) (F0 m 47 ls [.int u0]) := by
  have hx := S.1
  have hb := S.2.1
  have hown := S.2.2.2.1
  have hu := S.2.2.2.2
  unfold f_X12_atom_b47 at hg
  refine lv_istore_n (lv' := [(1, .int u0), (0, .ref (ad 0))]) hx hb dX12_atom_47 rfl hl (by decide) rfl (fun ls hl => ?_)
  refine lv_aload_n hx hb dX12_atom_48 rfl (lv_at hl 1 rfl) ?_
  refine wmgI_4 (v := (gI σ 4)) S X mG_2056 rfl dX12_atom_49 ?_
  refine lv_iconst (v := 4) hx hb dX12_atom_52 (by decide) ?_
  refine lv_icmp_ne (tgt := 69) hx hb dX12_atom_53 (by decide) (fun c53 => ?_) (fun c53 => ?_)
  · have hg := (if_neg c53).symm.trans hg
    exact w_X12_atom_b69 S hr hk hR X (lv_sub hl [1, 0] rfl) hg
  · have hg := (if_pos c53).symm.trans hg
    refine lv_iload_n hx hb dX12_atom_56 rfl (lv_at hl 0 rfl) ?_
    refine lv_if_lt (tgt := 69) hx hb dX12_atom_57 (by decide) (fun c57 => ?_) (fun c57 => ?_)
    · have hg := (if_pos c57).symm.trans hg
      exact w_X12_atom_b69 S hr hk hR X (lv_sub hl [1, 0] rfl) hg
    · have hg := (if_neg c57).symm.trans hg
      refine lv_aload_n hx hb dX12_atom_60 rfl (lv_at hl 1 rfl) ?_
      refine wmgR_0_33 S X mG_2083 dX12_atom_61 ?_
      refine lv_iload_n hx hb dX12_atom_64 rfl (lv_at hl 0 rfl) ?_
      obtain ⟨hi65, hg⟩ := gd_some hg
      refine wmlA_13 (v := (xA σ 13 u0)) S X hi65 rfl dX12_atom_65 ?_
      refine lv_if_gt (tgt := 76) hx hb dX12_atom_66 (by decide) (fun c66 => ?_) (fun c66 => ?_)
      · have hg := (if_pos c66).symm.trans hg
        exact w_X12_atom_b76 S hr hk hR X (lv_sub hl [1, 0] rfl) hg
      · have hg := (if_neg c66).symm.trans hg
        exact w_X12_atom_b69 S hr hk hR X (lv_sub hl [1, 0] rfl) hg
set_option maxHeartbeats 4000000 in
set_option maxRecDepth 100000 in
theorem w_X12_atom {σ : S5}  {H : Heap} {locs : List Loc} {ls : Array Slot} (S : CallFix p m c cX12_atom 3 s args uG RX12) (hr : meth.sig.returnType = (some .boolean)) (hk : meth.locks = false) (hR : 5 ≤ R.frames ∧ 114 ≤ R.locals)
    (X : gX (dC, dI) (tM kc) (wM ad kc) Z A s σ H locs) (hl : lv_has ls 3 [(0, .ref (ad 0))]) (hg : f_X12_atom  σ = some (r, τ)) : W p l e R s m args below meth c H locs 0 0 (MQ below (gQi (dC, dI) (tM kc) (wM ad kc) A r τ) args s 0 0 A) (F0 m 0 ls []) := by
  have hx := S.1
  have hb := S.2.1
  have hown := S.2.2.2.1
  have hu := S.2.2.2.2
  unfold f_X12_atom at hg
  refine lv_aload_n hx hb dX12_atom_0 rfl (lv_at hl 0 rfl) ?_
  refine lv_bipush (v := 40) hx hb dX12_atom_1 (by decide) ?_
  obtain ⟨r3, τ3, hq3, hg⟩ := bd_some hg
  refine gc_Vi (As := [.int 40]) (rest := []) (q0 := 0) (ci := 15) S X (k2_X12_isSign l dC dI ad kc hq3 H.size) cw_X12_isSign mG_2534 rfl rfl rfl rfl rfl hl.1 (Nat.le_of_ble_eq_true rfl) dX12_atom_3 ⟨by omega, by omega⟩ (fun H locs X => ?_)
  refine lv_if_eq (tgt := 27) hx hb dX12_atom_6 (by decide) (fun c6 => ?_) (fun c6 => ?_)
  · have hg := (if_pos c6).symm.trans hg
    refine lv_aload_n hx hb dX12_atom_27 rfl (lv_at hl 0 rfl) ?_
    refine wmgI_4 (v := (gI τ3 4)) S X mG_2056 rfl dX12_atom_28 ?_
    refine lv_iconst (v := 4) hx hb dX12_atom_31 (by decide) ?_
    refine lv_icmp_ne (tgt := 46) hx hb dX12_atom_32 (by decide) (fun c32 => ?_) (fun c32 => ?_)
    · have hg := (if_neg c32).symm.trans hg
      refine lv_iconst (v := 0) hx hb dX12_atom_46 (by decide) ?_
      exact w_X12_atom_b47 S hr hk hR X (lv_sub hl [0] rfl) hg
    · have hg := (if_pos c32).symm.trans hg
      refine lv_aload_n hx hb dX12_atom_35 rfl (lv_at hl 0 rfl) ?_
      refine lv_aload_n hx hb dX12_atom_36 rfl (lv_at hl 0 rfl) ?_
      refine wmgJ_0 (v := (gJ τ3 0)) S X mG_2058 rfl dX12_atom_37 ?_
      obtain ⟨r40, τ40, hq40, hg⟩ := bd_some hg
      refine gc_Vi (As := [.long (gJ τ3 0)]) (rest := []) (q0 := 0) (ci := 15) S X (k2_X12_findConstructor l dC dI ad kc hq40 H.size) cw_X12_findConstructor mG_2518 rfl rfl rfl rfl rfl hl.1 (Nat.le_of_ble_eq_true rfl) dX12_atom_40 ⟨by omega, by omega⟩ (fun H locs X => ?_)
      refine lv_goto (tgt := 47) hx hb dX12_atom_43 (by decide) ?_
      exact w_X12_atom_b47 S hr hk hR X (lv_sub hl [0] rfl) hg
  · have hg := (if_neg c6).symm.trans hg
    refine lv_aload_n hx hb dX12_atom_9 rfl (lv_at hl 0 rfl) ?_
    obtain ⟨r10, τ10, hq10, hg⟩ := bd_some hg
    refine gc_Vv (As := []) (rest := []) (q0 := 0) (ci := 15) S X (k2_X12_opens l dC dI ad kc hq10 H.size) cw_X12_opens mG_2578 rfl rfl rfl rfl rfl hl.1 (Nat.le_of_ble_eq_true rfl) dX12_atom_10 ⟨by omega, by omega⟩ (fun H locs X => ?_)
    refine lv_aload_n hx hb dX12_atom_13 rfl (lv_at hl 0 rfl) ?_
    refine lv_iconst (v := 1) hx hb dX12_atom_14 (by decide) ?_
    obtain ⟨r15, τ15, hq15, hg⟩ := bd_some hg
    refine gc_Vv (As := [.int 1]) (rest := []) (q0 := 0) (ci := 15) S X (k2_X12_accept l dC dI ad kc hq15 H.size) cw_X12_accept mG_2526 rfl rfl rfl rfl rfl hl.1 (Nat.le_of_ble_eq_true rfl) dX12_atom_15 ⟨by omega, by omega⟩ (fun H locs X => ?_)
    refine lv_aload_n hx hb dX12_atom_18 rfl (lv_at hl 0 rfl) ?_
    refine lv_iconst (v := 1) hx hb dX12_atom_19 (by decide) ?_
    refine lv_iconst (v := 0) hx hb dX12_atom_20 (by decide) ?_
    refine lv_iconst (v := 0) hx hb dX12_atom_21 (by decide) ?_
    obtain ⟨r22, τ22, hq22, hg⟩ := bd_some hg
    refine gc_Vv (As := [.int 1, .int 0, .int 0]) (rest := []) (q0 := 0) (ci := 15) S X (k2_X12_pile l dC dI ad kc hq22 H.size) cw_X12_pile mG_2566 rfl rfl rfl rfl rfl hl.1 (Nat.le_of_ble_eq_true rfl) dX12_atom_22 ⟨by omega, by omega⟩ (fun H locs X => ?_)
    refine lv_iconst (v := 0) hx hb dX12_atom_25 (by decide) ?_
    obtain ⟨rfl, rfl⟩ := fin_some hg
    exact gr_z S hr hk X (Or.inl rfl) dX12_atom_26
end MX12_atom
set_option maxRecDepth 100000 in
theorem k2_X12_atom (l : Launch) (dC : Nat → ClassId) (dI : Nat → Nat → Nat) {Z : ZZ} (ad : Nat → Nat) (kc : Nat → ClassId) {σ τ : S5}  {r : Int32} (hg : f_X12_atom  σ = some (r, τ)) (sz : Nat) : Met l yX12_atom (Cond.code yX12_atom cX12_atom 3 (some .boolean) :: uG) { frames := 5, cells := 0, slots := 0, locals := 114 } (gPc (dC, dI) (tM kc) (wM ad kc) Z [.ref (ad 0)] σ sz) (gQi (dC, dI) (tM kc) (wM ad kc) (va_A (wM ad kc σ) sz) r τ) 0 0 (va_A (wM ad kc σ) sz) :=
  g_start (by decide) (Nat.le_of_ble_eq_true rfl) (fun p e s m below meth c ls S hr hk X hl => w_X12_atom S hr hk ⟨Nat.le_refl _, Nat.le_refl _⟩ X hl hg)
section MX12_tooDeep
variable {p : Program} {l : Launch} {e : Env} {R : Room} {s : State} {m : MethodId} {args : Array Value} {below : List Frame} {meth : Method} {c : Code} {dC : Nat → ClassId} {dI : Nat → Nat → Nat} {Z : ZZ} {A : Nat → Prop} {ad : Nat → Nat} {kc : Nat → ClassId} {r : Unit} {τ : S5}
set_option maxHeartbeats 4000000 in
set_option maxRecDepth 100000 in
theorem w_X12_tooDeep {σ : S5}  {H : Heap} {locs : List Loc} {ls : Array Slot} (S : CallFix p m c cX12_tooDeep 1 s args uG RX12) (hr : meth.sig.returnType = none) (hk : meth.locks = false) (hR : 2 ≤ R.frames ∧ 42 ≤ R.locals)
    (X : gX (dC, dI) (tM kc) (wM ad kc) Z A s σ H locs) (hl : lv_has ls 1 [(0, .ref (ad 0))]) (hg : f_X12_tooDeep  σ = some (r, τ)) : W p l e R s m args below meth c H locs 0 0 (MQ below (gQv (dC, dI) (tM kc) (wM ad kc) A r τ) args s 0 0 A) (F0 m 0 ls []) := by
  have hx := S.1
  have hb := S.2.1
  have hown := S.2.2.2.1
  have hu := S.2.2.2.2
  unfold f_X12_tooDeep at hg
  refine lv_aload_n hx hb dX12_tooDeep_0 rfl (lv_at hl 0 rfl) ?_
  refine lv_bipush (v := 40) hx hb dX12_tooDeep_1 (by decide) ?_
  obtain ⟨r3, τ3, hq3, hg⟩ := bd_some hg
  refine gc_Vi (As := [.int 40]) (rest := []) (q0 := 0) (ci := 15) S X (k2_X12_isSign l dC dI ad kc hq3 H.size) cw_X12_isSign mG_2534 rfl rfl rfl rfl rfl hl.1 (Nat.le_of_ble_eq_true rfl) dX12_tooDeep_3 ⟨by omega, by omega⟩ (fun H locs X => ?_)
  refine lv_if_eq (tgt := 22) hx hb dX12_tooDeep_6 (by decide) (fun c6 => ?_) (fun c6 => ?_)
  · have hg := (if_pos c6).symm.trans hg
    obtain ⟨-, rfl⟩ := fin_some hg
    exact gr_v S hr hk X dX12_tooDeep_22
  · have hg := (if_neg c6).symm.trans hg
    refine lv_aload_n hx hb dX12_tooDeep_9 rfl (lv_at hl 0 rfl) ?_
    refine wmgI_15 (v := (gI τ3 15)) S X mG_2084 rfl dX12_tooDeep_10 ?_
    refine lv_bipush (v := 30) hx hb dX12_tooDeep_13 (by decide) ?_
    refine lv_icmp_ne (tgt := 22) hx hb dX12_tooDeep_15 (by decide) (fun c15 => ?_) (fun c15 => ?_)
    · have hg := (if_neg c15).symm.trans hg
      obtain ⟨-, rfl⟩ := fin_some hg
      exact gr_v S hr hk X dX12_tooDeep_22
    · have hg := (if_pos c15).symm.trans hg
      refine lv_aload_n hx hb dX12_tooDeep_18 rfl (lv_at hl 0 rfl) ?_
      obtain ⟨r19, τ19, hq19, hg⟩ := bd_some hg
      refine gc_Vv (As := []) (rest := []) (q0 := 0) (ci := 15) S X (k2_X12_wrong l dC dI ad kc hq19 H.size) cw_X12_wrong mG_2530 rfl rfl rfl rfl rfl hl.1 (Nat.le_of_ble_eq_true rfl) dX12_tooDeep_19 ⟨by omega, by omega⟩ (fun H locs X => ?_)
      obtain ⟨-, rfl⟩ := fin_some hg
      exact gr_v S hr hk X dX12_tooDeep_22
end MX12_tooDeep
set_option maxRecDepth 100000 in
theorem k2_X12_tooDeep (l : Launch) (dC : Nat → ClassId) (dI : Nat → Nat → Nat) {Z : ZZ} (ad : Nat → Nat) (kc : Nat → ClassId) {σ τ : S5}  {r : Unit} (hg : f_X12_tooDeep  σ = some (r, τ)) (sz : Nat) : Met l yX12_tooDeep (Cond.code yX12_tooDeep cX12_tooDeep 1 none :: uG) { frames := 2, cells := 0, slots := 0, locals := 42 } (gPc (dC, dI) (tM kc) (wM ad kc) Z [.ref (ad 0)] σ sz) (gQv (dC, dI) (tM kc) (wM ad kc) (va_A (wM ad kc σ) sz) r τ) 0 0 (va_A (wM ad kc σ) sz) :=
  g_start (by decide) (Nat.le_of_ble_eq_true rfl) (fun p e s m below meth c ls S hr hk X hl => w_X12_tooDeep S hr hk ⟨Nat.le_refl _, Nat.le_refl _⟩ X hl hg)
section MX12_judgeAtom
variable {p : Program} {l : Launch} {e : Env} {R : Room} {s : State} {m : MethodId} {args : Array Value} {below : List Frame} {meth : Method} {c : Code} {dC : Nat → ClassId} {dI : Nat → Nat → Nat} {Z : ZZ} {A : Nat → Prop} {ad : Nat → Nat} {kc : Nat → ClassId} {r : Unit} {τ : S5}
set_option maxHeartbeats 4000000 in
set_option maxRecDepth 100000 in
theorem w_X12_judgeAtom_b53 {σ : S5}  {H : Heap} {locs : List Loc} {ls : Array Slot} (S : CallFix p m c cX12_judgeAtom 2 s args uG RX12) (hr : meth.sig.returnType = none) (hk : meth.locks = false) (hR : 3 ≤ R.frames ∧ 62 ≤ R.locals)
    (X : gX (dC, dI) (tM kc) (wM ad kc) Z A s σ H locs) (hl : lv_has ls 2 [(0, .ref (ad 0))]) (hg : f_X12_judgeAtom_b53  σ = some (r, τ)) : W p l e R s m args below meth c H locs 0 0 (MQ below (gQv (dC, dI) (tM kc) (wM ad kc) A r τ) args s 0 0 A) (F0 m 53 ls []) := by
  have hx := S.1
  have hb := S.2.1
  have hown := S.2.2.2.1
  have hu := S.2.2.2.2
  unfold f_X12_judgeAtom_b53 at hg
  refine lv_aload_n hx hb dX12_judgeAtom_53 rfl (lv_at hl 0 rfl) ?_
  obtain ⟨r54, τ54, hq54, hg⟩ := bd_some hg
  refine gc_Vv (As := []) (rest := []) (q0 := 0) (ci := 15) S X (k2_X12_wrong l dC dI ad kc hq54 H.size) cw_X12_wrong mG_2530 rfl rfl rfl rfl rfl hl.1 (Nat.le_of_ble_eq_true rfl) dX12_judgeAtom_54 ⟨by omega, by omega⟩ (fun H locs X => ?_)
  refine lv_goto (tgt := 73) hx hb dX12_judgeAtom_57 (by decide) ?_
  obtain ⟨-, rfl⟩ := fin_some hg
  exact gr_v S hr hk X dX12_judgeAtom_73
set_option maxHeartbeats 4000000 in
set_option maxRecDepth 100000 in
theorem w_X12_judgeAtom_b46 {σ : S5} {v1 : Int32} {H : Heap} {locs : List Loc} {ls : Array Slot} (S : CallFix p m c cX12_judgeAtom 2 s args uG RX12) (hr : meth.sig.returnType = none) (hk : meth.locks = false) (hR : 3 ≤ R.frames ∧ 62 ≤ R.locals)
    (X : gX (dC, dI) (tM kc) (wM ad kc) Z A s σ H locs) (hl : lv_has ls 2 [(0, .ref (ad 0)), (1, .int v1)]) (hg : f_X12_judgeAtom_b46 v1 σ = some (r, τ)) : W p l e R s m args below meth c H locs 0 0 (MQ below (gQv (dC, dI) (tM kc) (wM ad kc) A r τ) args s 0 0 A) (F0 m 46 ls []) := by
  have hx := S.1
  have hb := S.2.1
  have hown := S.2.2.2.1
  have hu := S.2.2.2.2
  unfold f_X12_judgeAtom_b46 at hg
  refine lv_aload_n hx hb dX12_judgeAtom_46 rfl (lv_at hl 0 rfl) ?_
  obtain ⟨r47, τ47, hq47, hg⟩ := bd_some hg
  refine gc_Vi (As := []) (rest := []) (q0 := 0) (ci := 15) S X (k2_X12_isAtom l dC dI ad kc hq47 H.size) cw_X12_isAtom mG_2606 rfl rfl rfl rfl rfl hl.1 (Nat.le_of_ble_eq_true rfl) dX12_judgeAtom_47 ⟨by omega, by omega⟩ (fun H locs X => ?_)
  refine lv_if_ne (tgt := 60) hx hb dX12_judgeAtom_50 (by decide) (fun c50 => ?_) (fun c50 => ?_)
  · have hg := (if_neg c50).symm.trans hg
    refine lv_iload_n hx hb dX12_judgeAtom_60 rfl (lv_at hl 1 rfl) ?_
    refine lv_if_ge (tgt := 73) hx hb dX12_judgeAtom_61 (by decide) (fun c61 => ?_) (fun c61 => ?_)
    · have hg := (if_pos c61).symm.trans hg
      obtain ⟨-, rfl⟩ := fin_some hg
      exact gr_v S hr hk X dX12_judgeAtom_73
    · have hg := (if_neg c61).symm.trans hg
      refine lv_aload_n hx hb dX12_judgeAtom_64 rfl (lv_at hl 0 rfl) ?_
      refine lv_iconst (v := 3) hx hb dX12_judgeAtom_65 (by decide) ?_
      refine lv_aload_n hx hb dX12_judgeAtom_66 rfl (lv_at hl 0 rfl) ?_
      refine wmgI_5 (v := (gI τ47 5)) S X mG_2057 rfl dX12_judgeAtom_67 ?_
      obtain ⟨r70, τ70, hq70, hg⟩ := bd_some hg
      refine gc_Vv (As := [.int 3, .int (gI τ47 5)]) (rest := []) (q0 := 0) (ci := 15) S X (k2_X12_fail l dC dI ad kc hq70 H.size) cw_X12_fail mG_2522 rfl rfl rfl rfl rfl hl.1 (Nat.le_of_ble_eq_true rfl) dX12_judgeAtom_70 ⟨by omega, by omega⟩ (fun H locs X => ?_)
      obtain ⟨-, rfl⟩ := fin_some hg
      exact gr_v S hr hk X dX12_judgeAtom_73
  · have hg := (if_pos c50).symm.trans hg
    exact w_X12_judgeAtom_b53 S hr hk hR X (lv_sub hl [0] rfl) hg
set_option maxHeartbeats 4000000 in
set_option maxRecDepth 100000 in
theorem w_X12_judgeAtom_b20 {σ : S5} {u0 : Int32} {H : Heap} {locs : List Loc} {ls : Array Slot} (S : CallFix p m c cX12_judgeAtom 2 s args uG RX12) (hr : meth.sig.returnType = none) (hk : meth.locks = false) (hR : 3 ≤ R.frames ∧ 62 ≤ R.locals)
    (X : gX (dC, dI) (tM kc) (wM ad kc) Z A s σ H locs) (hl : lv_has ls 2 [(0, .ref (ad 0))]) (hg : f_X12_judgeAtom_b20 u0 σ = some (r, τ)) : W p l e R s m args below meth c H locs 0 0 (MQ below (gQv (dC, dI) (tM kc) (wM ad kc) A r τ) args s 0 0 A) (F0 m 20 ls [.int u0]) := by
  have hx := S.1
  have hb := S.2.1
  have hown := S.2.2.2.1
  have hu := S.2.2.2.2
  unfold f_X12_judgeAtom_b20 at hg
  refine lv_istore_n (lv' := [(1, .int u0), (0, .ref (ad 0))]) hx hb dX12_judgeAtom_20 rfl hl (by decide) rfl (fun ls hl => ?_)
  refine lv_aload_n hx hb dX12_judgeAtom_21 rfl (lv_at hl 1 rfl) ?_
  obtain ⟨r22, τ22, hq22, hg⟩ := bd_some hg
  refine gc_Vv (As := []) (rest := []) (q0 := 0) (ci := 15) S X (k2_X12_tooDeep l dC dI ad kc hq22 H.size) cw_X12_tooDeep mG_2602 rfl rfl rfl rfl rfl hl.1 (Nat.le_of_ble_eq_true rfl) dX12_judgeAtom_22 ⟨by omega, by omega⟩ (fun H locs X => ?_)
  refine lv_aload_n hx hb dX12_judgeAtom_25 rfl (lv_at hl 1 rfl) ?_
  refine wmgI_4 (v := (gI τ22 4)) S X mG_2056 rfl dX12_judgeAtom_26 ?_
  refine lv_iconst (v := 4) hx hb dX12_judgeAtom_29 (by decide) ?_
  refine lv_icmp_ne (tgt := 46) hx hb dX12_judgeAtom_30 (by decide) (fun c30 => ?_) (fun c30 => ?_)
  · have hg := (if_neg c30).symm.trans hg
    exact w_X12_judgeAtom_b46 S hr hk hR X (lv_sub hl [1, 0] rfl) hg
  · have hg := (if_pos c30).symm.trans hg
    refine lv_iload_n hx hb dX12_judgeAtom_33 rfl (lv_at hl 0 rfl) ?_
    refine lv_if_lt (tgt := 46) hx hb dX12_judgeAtom_34 (by decide) (fun c34 => ?_) (fun c34 => ?_)
    · have hg := (if_pos c34).symm.trans hg
      exact w_X12_judgeAtom_b46 S hr hk hR X (lv_sub hl [1, 0] rfl) hg
    · have hg := (if_neg c34).symm.trans hg
      refine lv_aload_n hx hb dX12_judgeAtom_37 rfl (lv_at hl 1 rfl) ?_
      refine wmgR_0_33 S X mG_2083 dX12_judgeAtom_38 ?_
      refine lv_iload_n hx hb dX12_judgeAtom_41 rfl (lv_at hl 0 rfl) ?_
      obtain ⟨hi42, hg⟩ := gd_some hg
      refine wmlA_13 (v := (xA τ22 13 u0)) S X hi42 rfl dX12_judgeAtom_42 ?_
      refine lv_if_gt (tgt := 53) hx hb dX12_judgeAtom_43 (by decide) (fun c43 => ?_) (fun c43 => ?_)
      · have hg := (if_pos c43).symm.trans hg
        exact w_X12_judgeAtom_b53 S hr hk hR X (lv_sub hl [1] rfl) hg
      · have hg := (if_neg c43).symm.trans hg
        exact w_X12_judgeAtom_b46 S hr hk hR X (lv_sub hl [1, 0] rfl) hg
set_option maxHeartbeats 4000000 in
set_option maxRecDepth 100000 in
theorem w_X12_judgeAtom {σ : S5}  {H : Heap} {locs : List Loc} {ls : Array Slot} (S : CallFix p m c cX12_judgeAtom 2 s args uG RX12) (hr : meth.sig.returnType = none) (hk : meth.locks = false) (hR : 3 ≤ R.frames ∧ 62 ≤ R.locals)
    (X : gX (dC, dI) (tM kc) (wM ad kc) Z A s σ H locs) (hl : lv_has ls 2 [(0, .ref (ad 0))]) (hg : f_X12_judgeAtom  σ = some (r, τ)) : W p l e R s m args below meth c H locs 0 0 (MQ below (gQv (dC, dI) (tM kc) (wM ad kc) A r τ) args s 0 0 A) (F0 m 0 ls []) := by
  have hx := S.1
  have hb := S.2.1
  have hown := S.2.2.2.1
  have hu := S.2.2.2.2
  unfold f_X12_judgeAtom at hg
  refine lv_aload_n hx hb dX12_judgeAtom_0 rfl (lv_at hl 0 rfl) ?_
  refine wmgI_4 (v := (gI σ 4)) S X mG_2056 rfl dX12_judgeAtom_1 ?_
  refine lv_iconst (v := 4) hx hb dX12_judgeAtom_4 (by decide) ?_
  refine lv_icmp_ne (tgt := 19) hx hb dX12_judgeAtom_5 (by decide) (fun c5 => ?_) (fun c5 => ?_)
  · have hg := (if_neg c5).symm.trans hg
    refine lv_iconst (v := 0) hx hb dX12_judgeAtom_19 (by decide) ?_
    exact w_X12_judgeAtom_b20 S hr hk hR X (lv_sub hl [0] rfl) hg
  · have hg := (if_pos c5).symm.trans hg
    refine lv_aload_n hx hb dX12_judgeAtom_8 rfl (lv_at hl 0 rfl) ?_
    refine lv_aload_n hx hb dX12_judgeAtom_9 rfl (lv_at hl 0 rfl) ?_
    refine wmgJ_0 (v := (gJ σ 0)) S X mG_2058 rfl dX12_judgeAtom_10 ?_
    obtain ⟨r13, τ13, hq13, hg⟩ := bd_some hg
    refine gc_Vi (As := [.long (gJ σ 0)]) (rest := []) (q0 := 0) (ci := 15) S X (k2_X12_findConstructor l dC dI ad kc hq13 H.size) cw_X12_findConstructor mG_2518 rfl rfl rfl rfl rfl hl.1 (Nat.le_of_ble_eq_true rfl) dX12_judgeAtom_13 ⟨by omega, by omega⟩ (fun H locs X => ?_)
    refine lv_goto (tgt := 20) hx hb dX12_judgeAtom_16 (by decide) ?_
    exact w_X12_judgeAtom_b20 S hr hk hR X (lv_sub hl [0] rfl) hg
end MX12_judgeAtom
set_option maxRecDepth 100000 in
theorem k2_X12_judgeAtom (l : Launch) (dC : Nat → ClassId) (dI : Nat → Nat → Nat) {Z : ZZ} (ad : Nat → Nat) (kc : Nat → ClassId) {σ τ : S5}  {r : Unit} (hg : f_X12_judgeAtom  σ = some (r, τ)) (sz : Nat) : Met l yX12_judgeAtom (Cond.code yX12_judgeAtom cX12_judgeAtom 2 none :: uG) { frames := 3, cells := 0, slots := 0, locals := 62 } (gPc (dC, dI) (tM kc) (wM ad kc) Z [.ref (ad 0)] σ sz) (gQv (dC, dI) (tM kc) (wM ad kc) (va_A (wM ad kc σ) sz) r τ) 0 0 (va_A (wM ad kc σ) sz) :=
  g_start (by decide) (Nat.le_of_ble_eq_true rfl) (fun p e s m below meth c ls S hr hk X hl => w_X12_judgeAtom S hr hk ⟨Nat.le_refl _, Nat.le_refl _⟩ X hl hg)
section MX12_field
variable {p : Program} {l : Launch} {e : Env} {R : Room} {s : State} {m : MethodId} {args : Array Value} {below : List Frame} {meth : Method} {c : Code} {dC : Nat → ClassId} {dI : Nat → Nat → Nat} {Z : ZZ} {A : Nat → Prop} {ad : Nat → Nat} {kc : Nat → ClassId} {r : Int32} {τ : S5}
set_option maxHeartbeats 4000000 in
set_option maxRecDepth 100000 in
theorem w_X12_field_b25 {σ : S5}  {H : Heap} {locs : List Loc} {ls : Array Slot} (S : CallFix p m c cX12_field 2 s args uG RX12) (hr : meth.sig.returnType = (some .boolean)) (hk : meth.locks = false) (hR : 6 ≤ R.frames ∧ 136 ≤ R.locals)
    (X : gX (dC, dI) (tM kc) (wM ad kc) Z A s σ H locs) (hl : lv_has ls 2 [(0, .ref (ad 0))]) (hg : f_X12_field_b25  σ = some (r, τ)) : W p l e R s m args below meth c H locs 0 0 (MQ below (gQi (dC, dI) (tM kc) (wM ad kc) A r τ) args s 0 0 A) (F0 m 25 ls []) := by
  have hx := S.1
  have hb := S.2.1
  have hown := S.2.2.2.1
  have hu := S.2.2.2.2
  unfold f_X12_field_b25 at hg
  refine lv_aload_n hx hb dX12_field_25 rfl (lv_at hl 0 rfl) ?_
  refine wmgI_7 (v := (gI σ 7)) S X mG_2060 rfl dX12_field_26 ?_
  refine lv_if_ne (tgt := 43) hx hb dX12_field_29 (by decide) (fun c29 => ?_) (fun c29 => ?_)
  · have hg := (if_neg c29).symm.trans hg
    refine lv_iconst (v := 0) hx hb dX12_field_43 (by decide) ?_
    obtain ⟨rfl, rfl⟩ := fin_some hg
    exact gr_z S hr hk X (Or.inl rfl) dX12_field_44
  · have hg := (if_pos c29).symm.trans hg
    refine lv_aload_n hx hb dX12_field_32 rfl (lv_at hl 0 rfl) ?_
    obtain ⟨r33, τ33, hq33, hg⟩ := bd_some hg
    refine gc_Vi (As := []) (rest := []) (q0 := 0) (ci := 15) S X (k2_X12_atom l dC dI ad kc hq33 H.size) cw_X12_atom mG_2610 rfl rfl rfl rfl rfl hl.1 (Nat.le_of_ble_eq_true rfl) dX12_field_33 ⟨by omega, by omega⟩ (fun H locs X => ?_)
    refine lv_if_eq (tgt := 43) hx hb dX12_field_36 (by decide) (fun c36 => ?_) (fun c36 => ?_)
    · have hg := (if_pos c36).symm.trans hg
      refine lv_iconst (v := 0) hx hb dX12_field_43 (by decide) ?_
      obtain ⟨rfl, rfl⟩ := fin_some hg
      exact gr_z S hr hk X (Or.inl rfl) dX12_field_44
    · have hg := (if_neg c36).symm.trans hg
      refine lv_iconst (v := 1) hx hb dX12_field_39 (by decide) ?_
      refine lv_goto (tgt := 44) hx hb dX12_field_40 (by decide) ?_
      obtain ⟨rfl, rfl⟩ := fin_some hg
      exact gr_z S hr hk X (Or.inr rfl) dX12_field_44
set_option maxHeartbeats 4000000 in
set_option maxRecDepth 100000 in
theorem w_X12_field {σ : S5} {a1 : Int32} {H : Heap} {locs : List Loc} {ls : Array Slot} (S : CallFix p m c cX12_field 2 s args uG RX12) (hr : meth.sig.returnType = (some .boolean)) (hk : meth.locks = false) (hR : 6 ≤ R.frames ∧ 136 ≤ R.locals)
    (X : gX (dC, dI) (tM kc) (wM ad kc) Z A s σ H locs) (hl : lv_has ls 2 [(0, .ref (ad 0)), (1, .int a1)]) (hg : f_X12_field a1 σ = some (r, τ)) : W p l e R s m args below meth c H locs 0 0 (MQ below (gQi (dC, dI) (tM kc) (wM ad kc) A r τ) args s 0 0 A) (F0 m 0 ls []) := by
  have hx := S.1
  have hb := S.2.1
  have hown := S.2.2.2.1
  have hu := S.2.2.2.2
  unfold f_X12_field at hg
  refine lv_aload_n hx hb dX12_field_0 rfl (lv_at hl 0 rfl) ?_
  obtain ⟨r1, τ1, hq1, hg⟩ := bd_some hg
  refine gc_Vv (As := []) (rest := []) (q0 := 0) (ci := 15) S X (k2_X12_judgeAtom l dC dI ad kc hq1 H.size) cw_X12_judgeAtom mG_2598 rfl rfl rfl rfl rfl hl.1 (Nat.le_of_ble_eq_true rfl) dX12_field_1 ⟨by omega, by omega⟩ (fun H locs X => ?_)
  refine lv_aload_n hx hb dX12_field_4 rfl (lv_at hl 0 rfl) ?_
  refine wmgI_7 (v := (gI τ1 7)) S X mG_2060 rfl dX12_field_5 ?_
  refine lv_if_ne (tgt := 25) hx hb dX12_field_8 (by decide) (fun c8 => ?_) (fun c8 => ?_)
  · have hg := (if_neg c8).symm.trans hg
    exact w_X12_field_b25 S hr hk hR X (lv_sub hl [0] rfl) hg
  · have hg := (if_pos c8).symm.trans hg
    refine lv_aload_n hx hb dX12_field_11 rfl (lv_at hl 0 rfl) ?_
    refine wmgR_0_39 S X mG_2089 dX12_field_12 ?_
    refine lv_iload_n hx hb dX12_field_15 rfl (lv_at hl 1 rfl) ?_
    obtain ⟨hi16, hg⟩ := gd_some hg
    refine wmlA_17 (v := (xA τ1 17 a1)) S X hi16 rfl dX12_field_16 ?_
    refine lv_if_ne (tgt := 25) hx hb dX12_field_17 (by decide) (fun c17 => ?_) (fun c17 => ?_)
    · have hg := (if_neg c17).symm.trans hg
      exact w_X12_field_b25 S hr hk hR X (lv_sub hl [0] rfl) hg
    · have hg := (if_pos c17).symm.trans hg
      refine lv_aload_n hx hb dX12_field_20 rfl (lv_at hl 0 rfl) ?_
      obtain ⟨r21, τ21, hq21, hg⟩ := bd_some hg
      refine gc_Vi (As := []) (rest := []) (q0 := 0) (ci := 15) S X (k2_X12_part l dC dI ad kc hq21 H.size) cw_X12_part mG_2554 rfl rfl rfl rfl rfl hl.1 (Nat.le_of_ble_eq_true rfl) dX12_field_21 ⟨by omega, by omega⟩ (fun H locs X => ?_)
      refine lv_pop hx hb dX12_field_24 rfl ?_
      exact w_X12_field_b25 S hr hk hR X (lv_sub hl [0] rfl) hg
end MX12_field
set_option maxRecDepth 100000 in
theorem k2_X12_field (l : Launch) (dC : Nat → ClassId) (dI : Nat → Nat → Nat) {Z : ZZ} (ad : Nat → Nat) (kc : Nat → ClassId) {σ τ : S5} {a1 : Int32} {r : Int32} (hg : f_X12_field a1 σ = some (r, τ)) (sz : Nat) : Met l yX12_field (Cond.code yX12_field cX12_field 2 (some .boolean) :: uG) { frames := 6, cells := 0, slots := 0, locals := 136 } (gPc (dC, dI) (tM kc) (wM ad kc) Z [.ref (ad 0), .int a1] σ sz) (gQi (dC, dI) (tM kc) (wM ad kc) (va_A (wM ad kc σ) sz) r τ) 0 0 (va_A (wM ad kc σ) sz) :=
  g_start (by decide) (Nat.le_of_ble_eq_true rfl) (fun p e s m below meth c ls S hr hk X hl => w_X12_field S hr hk ⟨Nat.le_refl _, Nat.le_refl _⟩ X hl hg)
section MX12_application
variable {p : Program} {l : Launch} {e : Env} {R : Room} {s : State} {m : MethodId} {args : Array Value} {below : List Frame} {meth : Method} {c : Code} {dC : Nat → ClassId} {dI : Nat → Nat → Nat} {Z : ZZ} {A : Nat → Prop} {ad : Nat → Nat} {kc : Nat → ClassId} {r : Int32} {τ : S5}
set_option maxHeartbeats 4000000 in
set_option maxRecDepth 100000 in
theorem w_X12_application_b76 {σ : S5}  {H : Heap} {locs : List Loc} {ls : Array Slot} (S : CallFix p m c cX12_application 3 s args uG RX12) (hr : meth.sig.returnType = (some .boolean)) (hk : meth.locks = false) (hR : 7 ≤ R.frames ∧ 157 ≤ R.locals)
    (X : gX (dC, dI) (tM kc) (wM ad kc) Z A s σ H locs) (hl : lv_has ls 3 [(0, .ref (ad 0))]) (hg : f_X12_application_b76  σ = some (r, τ)) : W p l e R s m args below meth c H locs 0 0 (MQ below (gQi (dC, dI) (tM kc) (wM ad kc) A r τ) args s 0 0 A) (F0 m 76 ls []) := by
  have hx := S.1
  have hb := S.2.1
  have hown := S.2.2.2.1
  have hu := S.2.2.2.2
  unfold f_X12_application_b76 at hg
  refine lv_aload_n hx hb dX12_application_76 rfl (lv_at hl 0 rfl) ?_
  refine lv_bipush (v := 8) hx hb dX12_application_77 (by decide) ?_
  refine lv_iconst (v := (-1)) hx hb dX12_application_79 (by decide) ?_
  refine lv_iconst (v := 0) hx hb dX12_application_80 (by decide) ?_
  obtain ⟨r81, τ81, hq81, hg⟩ := bd_some hg
  refine gc_Vv (As := [.int 8, .int (-1), .int 0]) (rest := []) (q0 := 0) (ci := 15) S X (k2_X12_pile l dC dI ad kc hq81 H.size) cw_X12_pile mG_2566 rfl rfl rfl rfl rfl hl.1 (Nat.le_of_ble_eq_true rfl) dX12_application_81 ⟨by omega, by omega⟩ (fun H locs X => ?_)
  refine lv_aload_n hx hb dX12_application_84 rfl (lv_at hl 0 rfl) ?_
  obtain ⟨r85, τ85, hq85, hg⟩ := bd_some hg
  refine gc_Vi (As := []) (rest := []) (q0 := 0) (ci := 15) S X (k2_X12_atom l dC dI ad kc hq85 H.size) cw_X12_atom mG_2610 rfl rfl rfl rfl rfl hl.1 (Nat.le_of_ble_eq_true rfl) dX12_application_85 ⟨by omega, by omega⟩ (fun H locs X => ?_)
  obtain ⟨hn88, hg⟩ := g_t_some hg
  obtain ⟨rfl, rfl⟩ := fin_some hg
  exact gr_z S hr hk X hn88 dX12_application_88
set_option maxHeartbeats 4000000 in
set_option maxRecDepth 100000 in
theorem w_X12_application_b25 {σ : S5} {u0 : Int32} {H : Heap} {locs : List Loc} {ls : Array Slot} (S : CallFix p m c cX12_application 3 s args uG RX12) (hr : meth.sig.returnType = (some .boolean)) (hk : meth.locks = false) (hR : 7 ≤ R.frames ∧ 157 ≤ R.locals)
    (X : gX (dC, dI) (tM kc) (wM ad kc) Z A s σ H locs) (hl : lv_has ls 3 [(0, .ref (ad 0))]) (hg : f_X12_application_b25 u0 σ = some (r, τ)) : W p l e R s m args below meth c H locs 0 0 (MQ below (gQi (dC, dI) (tM kc) (wM ad kc) A r τ) args s 0 0 A) (F0 m 25 ls [.int u0]) := by
  have hx := S.1
  have hb := S.2.1
  have hown := S.2.2.2.1
  have hu := S.2.2.2.2
  unfold f_X12_application_b25 at hg
  refine lv_istore_n (lv' := [(1, .int u0), (0, .ref (ad 0))]) hx hb dX12_application_25 rfl hl (by decide) rfl (fun ls hl => ?_)
  refine lv_iload_n hx hb dX12_application_26 rfl (lv_at hl 0 rfl) ?_
  refine lv_if_lt (tgt := 76) hx hb dX12_application_27 (by decide) (fun c27 => ?_) (fun c27 => ?_)
  · have hg := (if_pos c27).symm.trans hg
    exact w_X12_application_b76 S hr hk hR X (lv_sub hl [1] rfl) hg
  · have hg := (if_neg c27).symm.trans hg
    refine lv_aload_n hx hb dX12_application_30 rfl (lv_at hl 1 rfl) ?_
    refine wmgR_0_33 S X mG_2083 dX12_application_31 ?_
    refine lv_iload_n hx hb dX12_application_34 rfl (lv_at hl 0 rfl) ?_
    obtain ⟨hi35, hg⟩ := gd_some hg
    refine wmlA_13 (v := (xA σ 13 u0)) S X hi35 rfl dX12_application_35 ?_
    refine lv_if_le (tgt := 76) hx hb dX12_application_36 (by decide) (fun c36 => ?_) (fun c36 => ?_)
    · have hg := (if_pos c36).symm.trans hg
      exact w_X12_application_b76 S hr hk hR X (lv_sub hl [1] rfl) hg
    · have hg := (if_neg c36).symm.trans hg
      refine lv_aload_n hx hb dX12_application_39 rfl (lv_at hl 1 rfl) ?_
      refine lv_bipush (v := 7) hx hb dX12_application_40 (by decide) ?_
      obtain ⟨r42, τ42, hq42, hg⟩ := bd_some hg
      refine gc_Vi (As := [.int 7]) (rest := []) (q0 := 0) (ci := 15) S X (k2_X12_node l dC dI ad kc hq42 H.size) cw_X12_node mG_2542 rfl rfl rfl rfl rfl hl.1 (Nat.le_of_ble_eq_true rfl) dX12_application_42 ⟨by omega, by omega⟩ (fun H locs X => ?_)
      refine lv_istore_n (lv' := [(2, .int r42), (1, .int u0), (0, .ref (ad 0))]) hx hb dX12_application_45 rfl hl (by decide) rfl (fun ls hl => ?_)
      refine lv_aload_n hx hb dX12_application_46 rfl (lv_at hl 2 rfl) ?_
      refine wmgR_0_18 S X mG_2068 dX12_application_47 ?_
      refine lv_iload_n hx hb dX12_application_50 rfl (lv_at hl 0 rfl) ?_
      refine lv_iload_n hx hb dX12_application_51 rfl (lv_at hl 1 rfl) ?_
      obtain ⟨hi52, hg⟩ := gd_some hg
      refine wmsA_7 S X hi52 dX12_application_52 (fun H locs X => ?_)
      refine lv_aload_n hx hb dX12_application_53 rfl (lv_at hl 2 rfl) ?_
      obtain ⟨r54, τ54, hq54, hg⟩ := bd_some hg
      refine gc_Vv (As := []) (rest := []) (q0 := 0) (ci := 15) S X (k2_X12_next l dC dI ad kc hq54 H.size) cw_X12_next mG_2479 rfl rfl rfl rfl rfl hl.1 (Nat.le_of_ble_eq_true rfl) dX12_application_54 ⟨by omega, by omega⟩ (fun H locs X => ?_)
      refine lv_aload_n hx hb dX12_application_57 rfl (lv_at hl 2 rfl) ?_
      refine lv_bipush (v := 9) hx hb dX12_application_58 (by decide) ?_
      refine lv_iload_n hx hb dX12_application_60 rfl (lv_at hl 0 rfl) ?_
      refine lv_iconst (v := 0) hx hb dX12_application_61 (by decide) ?_
      obtain ⟨r62, τ62, hq62, hg⟩ := bd_some hg
      refine gc_Vv (As := [.int 9, .int r42, .int 0]) (rest := []) (q0 := 0) (ci := 15) S X (k2_X12_pile l dC dI ad kc hq62 H.size) cw_X12_pile mG_2566 rfl rfl rfl rfl rfl hl.1 (Nat.le_of_ble_eq_true rfl) dX12_application_62 ⟨by omega, by omega⟩ (fun H locs X => ?_)
      refine lv_aload_n hx hb dX12_application_65 rfl (lv_at hl 2 rfl) ?_
      refine lv_aload_n hx hb dX12_application_66 rfl (lv_at hl 2 rfl) ?_
      refine wmgI_16 (v := (gI τ62 16)) S X mG_2085 rfl dX12_application_67 ?_
      refine lv_iconst (v := 1) hx hb dX12_application_70 (by decide) ?_
      refine lv_isub hx hb dX12_application_71 ?_
      obtain ⟨r72, τ72, hq72, hg⟩ := bd_some hg
      refine gc_Vi (As := [.int ((gI τ62 16) - 1)]) (rest := []) (q0 := 0) (ci := 15) S X (k2_X12_field l dC dI ad kc hq72 H.size) cw_X12_field mG_2594 rfl rfl rfl rfl rfl hl.1 (Nat.le_of_ble_eq_true rfl) dX12_application_72 ⟨by omega, by omega⟩ (fun H locs X => ?_)
      obtain ⟨hn75, hg⟩ := g_t_some hg
      obtain ⟨rfl, rfl⟩ := fin_some hg
      exact gr_z S hr hk X hn75 dX12_application_75
set_option maxHeartbeats 4000000 in
set_option maxRecDepth 100000 in
theorem w_X12_application {σ : S5}  {H : Heap} {locs : List Loc} {ls : Array Slot} (S : CallFix p m c cX12_application 3 s args uG RX12) (hr : meth.sig.returnType = (some .boolean)) (hk : meth.locks = false) (hR : 7 ≤ R.frames ∧ 157 ≤ R.locals)
    (X : gX (dC, dI) (tM kc) (wM ad kc) Z A s σ H locs) (hl : lv_has ls 3 [(0, .ref (ad 0))]) (hg : f_X12_application  σ = some (r, τ)) : W p l e R s m args below meth c H locs 0 0 (MQ below (gQi (dC, dI) (tM kc) (wM ad kc) A r τ) args s 0 0 A) (F0 m 0 ls []) := by
  have hx := S.1
  have hb := S.2.1
  have hown := S.2.2.2.1
  have hu := S.2.2.2.2
  unfold f_X12_application at hg
  refine lv_aload_n hx hb dX12_application_0 rfl (lv_at hl 0 rfl) ?_
  refine lv_iconst (v := 0) hx hb dX12_application_1 (by decide) ?_
  refine wmpI_21 S X mG_2095 (Or.inl rfl) dX12_application_2 (fun H locs X => ?_)
  refine lv_aload_n hx hb dX12_application_5 rfl (lv_at hl 0 rfl) ?_
  refine wmgI_4 (v := (gI σ 4)) S X mG_2056 rfl dX12_application_6 ?_
  refine lv_iconst (v := 4) hx hb dX12_application_9 (by decide) ?_
  refine lv_icmp_ne (tgt := 24) hx hb dX12_application_10 (by decide) (fun c10 => ?_) (fun c10 => ?_)
  · have hg := (if_neg c10).symm.trans hg
    refine lv_iconst (v := (-1)) hx hb dX12_application_24 (by decide) ?_
    exact w_X12_application_b25 S hr hk hR X (lv_sub hl [0] rfl) hg
  · have hg := (if_pos c10).symm.trans hg
    refine lv_aload_n hx hb dX12_application_13 rfl (lv_at hl 0 rfl) ?_
    refine lv_aload_n hx hb dX12_application_14 rfl (lv_at hl 0 rfl) ?_
    refine wmgJ_0 (v := (gJ σ 0)) S X mG_2058 rfl dX12_application_15 ?_
    obtain ⟨r18, τ18, hq18, hg⟩ := bd_some hg
    refine gc_Vi (As := [.long (gJ σ 0)]) (rest := []) (q0 := 0) (ci := 15) S X (k2_X12_findConstructor l dC dI ad kc hq18 H.size) cw_X12_findConstructor mG_2518 rfl rfl rfl rfl rfl hl.1 (Nat.le_of_ble_eq_true rfl) dX12_application_18 ⟨by omega, by omega⟩ (fun H locs X => ?_)
    refine lv_goto (tgt := 25) hx hb dX12_application_21 (by decide) ?_
    exact w_X12_application_b25 S hr hk hR X (lv_sub hl [0] rfl) hg
end MX12_application
set_option maxRecDepth 100000 in
theorem k2_X12_application (l : Launch) (dC : Nat → ClassId) (dI : Nat → Nat → Nat) {Z : ZZ} (ad : Nat → Nat) (kc : Nat → ClassId) {σ τ : S5}  {r : Int32} (hg : f_X12_application  σ = some (r, τ)) (sz : Nat) : Met l yX12_application (Cond.code yX12_application cX12_application 3 (some .boolean) :: uG) { frames := 7, cells := 0, slots := 0, locals := 157 } (gPc (dC, dI) (tM kc) (wM ad kc) Z [.ref (ad 0)] σ sz) (gQi (dC, dI) (tM kc) (wM ad kc) (va_A (wM ad kc σ) sz) r τ) 0 0 (va_A (wM ad kc σ) sz) :=
  g_start (by decide) (Nat.le_of_ble_eq_true rfl) (fun p e s m below meth c ls S hr hk X hl => w_X12_application S hr hk ⟨Nat.le_refl _, Nat.le_refl _⟩ X hl hg)
section MX12_atomEnds
variable {p : Program} {l : Launch} {e : Env} {R : Room} {s : State} {m : MethodId} {args : Array Value} {below : List Frame} {meth : Method} {c : Code} {dC : Nat → ClassId} {dI : Nat → Nat → Nat} {Z : ZZ} {A : Nat → Prop} {ad : Nat → Nat} {kc : Nat → ClassId} {r : Unit} {τ : S5}
set_option maxHeartbeats 4000000 in
set_option maxRecDepth 100000 in
theorem w_X12_atomEnds_b323 {σ : S5} {u0 : Int32} {H : Heap} {locs : List Loc} {ls : Array Slot} (S : CallFix p m c cX12_atomEnds 6 s args uG RX12) (hr : meth.sig.returnType = none) (hk : meth.locks = false) (hR : 7 ≤ R.frames ∧ 157 ≤ R.locals)
    (X : gX (dC, dI) (tM kc) (wM ad kc) Z A s σ H locs) (hl : lv_has ls 6 [(0, .ref (ad 0))]) (hg : f_X12_atomEnds_b323 u0 σ = some (r, τ)) : W p l e R s m args below meth c H locs 0 0 (MQ below (gQv (dC, dI) (tM kc) (wM ad kc) A r τ) args s 0 0 A) (F0 m 323 ls [.int u0, .ref (ad 0)]) := by
  have hx := S.1
  have hb := S.2.1
  have hown := S.2.2.2.1
  have hu := S.2.2.2.2
  unfold f_X12_atomEnds_b323 at hg
  obtain ⟨hn323, hg⟩ := g_t_some hg
  refine wmpI_19 S X mG_2093 hn323 dX12_atomEnds_323 (fun H locs X => ?_)
  refine lv_aload_n hx hb dX12_atomEnds_326 rfl (lv_at hl 0 rfl) ?_
  refine lv_iconst (v := 1) hx hb dX12_atomEnds_327 (by decide) ?_
  refine wmpI_18 S X mG_2092 (Or.inr rfl) dX12_atomEnds_328 (fun H locs X => ?_)
  obtain ⟨-, rfl⟩ := fin_some hg
  exact gr_v S hr hk X dX12_atomEnds_331
set_option maxHeartbeats 4000000 in
set_option maxRecDepth 100000 in
theorem w_X12_atomEnds_b322 {σ : S5}  {H : Heap} {locs : List Loc} {ls : Array Slot} (S : CallFix p m c cX12_atomEnds 6 s args uG RX12) (hr : meth.sig.returnType = none) (hk : meth.locks = false) (hR : 7 ≤ R.frames ∧ 157 ≤ R.locals)
    (X : gX (dC, dI) (tM kc) (wM ad kc) Z A s σ H locs) (hl : lv_has ls 6 [(0, .ref (ad 0))]) (hg : f_X12_atomEnds_b322  σ = some (r, τ)) : W p l e R s m args below meth c H locs 0 0 (MQ below (gQv (dC, dI) (tM kc) (wM ad kc) A r τ) args s 0 0 A) (F0 m 322 ls [.ref (ad 0)]) := by
  have hx := S.1
  have hb := S.2.1
  have hown := S.2.2.2.1
  have hu := S.2.2.2.2
  unfold f_X12_atomEnds_b322 at hg
  refine lv_iconst (v := 0) hx hb dX12_atomEnds_322 (by decide) ?_
  exact w_X12_atomEnds_b323 S hr hk hR X (lv_sub hl [0] rfl) hg
set_option maxHeartbeats 4000000 in
set_option maxRecDepth 100000 in
theorem w_X12_atomEnds_b303 {σ : S5}  {H : Heap} {locs : List Loc} {ls : Array Slot} (S : CallFix p m c cX12_atomEnds 6 s args uG RX12) (hr : meth.sig.returnType = none) (hk : meth.locks = false) (hR : 7 ≤ R.frames ∧ 157 ≤ R.locals)
    (X : gX (dC, dI) (tM kc) (wM ad kc) Z A s σ H locs) (hl : lv_has ls 6 [(0, .ref (ad 0))]) (hg : f_X12_atomEnds_b303  σ = some (r, τ)) : W p l e R s m args below meth c H locs 0 0 (MQ below (gQv (dC, dI) (tM kc) (wM ad kc) A r τ) args s 0 0 A) (F0 m 303 ls []) := by
  have hx := S.1
  have hb := S.2.1
  have hown := S.2.2.2.1
  have hu := S.2.2.2.2
  unfold f_X12_atomEnds_b303 at hg
  refine lv_aload_n hx hb dX12_atomEnds_303 rfl (lv_at hl 0 rfl) ?_
  refine lv_aload_n hx hb dX12_atomEnds_304 rfl (lv_at hl 0 rfl) ?_
  refine wmgI_7 (v := (gI σ 7)) S X mG_2060 rfl dX12_atomEnds_305 ?_
  refine lv_if_ne (tgt := 322) hx hb dX12_atomEnds_308 (by decide) (fun c308 => ?_) (fun c308 => ?_)
  · have hg := (if_neg c308).symm.trans hg
    exact w_X12_atomEnds_b322 S hr hk hR X (lv_sub hl [0] rfl) hg
  · have hg := (if_pos c308).symm.trans hg
    refine lv_aload_n hx hb dX12_atomEnds_311 rfl (lv_at hl 0 rfl) ?_
    obtain ⟨r312, τ312, hq312, hg⟩ := bd_some hg
    refine gc_Vi (As := []) (rest := [.ref (ad 0)]) (q0 := 0) (ci := 15) S X (k2_X12_atom l dC dI ad kc hq312 H.size) cw_X12_atom mG_2610 rfl rfl rfl rfl rfl hl.1 (Nat.le_of_ble_eq_true rfl) dX12_atomEnds_312 ⟨by omega, by omega⟩ (fun H locs X => ?_)
    refine lv_if_ne (tgt := 322) hx hb dX12_atomEnds_315 (by decide) (fun c315 => ?_) (fun c315 => ?_)
    · have hg := (if_neg c315).symm.trans hg
      exact w_X12_atomEnds_b322 S hr hk hR X (lv_sub hl [0] rfl) hg
    · have hg := (if_pos c315).symm.trans hg
      refine lv_iconst (v := 1) hx hb dX12_atomEnds_318 (by decide) ?_
      refine lv_goto (tgt := 323) hx hb dX12_atomEnds_319 (by decide) ?_
      exact w_X12_atomEnds_b323 S hr hk hR X (lv_sub hl [0] rfl) hg
set_option maxHeartbeats 4000000 in
set_option maxRecDepth 100000 in
theorem w_X12_atomEnds_b259 {σ : S5} {v1 : Int32} {v2 : Int32} {H : Heap} {locs : List Loc} {ls : Array Slot} (S : CallFix p m c cX12_atomEnds 6 s args uG RX12) (hr : meth.sig.returnType = none) (hk : meth.locks = false) (hR : 7 ≤ R.frames ∧ 157 ≤ R.locals)
    (X : gX (dC, dI) (tM kc) (wM ad kc) Z A s σ H locs) (hl : lv_has ls 6 [(0, .ref (ad 0)), (1, .int v1), (2, .int v2)]) (hg : f_X12_atomEnds_b259 v1 v2 σ = some (r, τ)) : W p l e R s m args below meth c H locs 0 0 (MQ below (gQv (dC, dI) (tM kc) (wM ad kc) A r τ) args s 0 0 A) (F0 m 259 ls []) := by
  have hx := S.1
  have hb := S.2.1
  have hown := S.2.2.2.1
  have hu := S.2.2.2.2
  unfold f_X12_atomEnds_b259 at hg
  refine lv_aload_n hx hb dX12_atomEnds_259 rfl (lv_at hl 0 rfl) ?_
  refine wmgI_7 (v := (gI σ 7)) S X mG_2060 rfl dX12_atomEnds_260 ?_
  refine lv_if_ne (tgt := 303) hx hb dX12_atomEnds_263 (by decide) (fun c263 => ?_) (fun c263 => ?_)
  · have hg := (if_neg c263).symm.trans hg
    exact w_X12_atomEnds_b303 S hr hk hR X (lv_sub hl [0] rfl) hg
  · have hg := (if_pos c263).symm.trans hg
    refine lv_iload_n hx hb dX12_atomEnds_266 rfl (lv_at hl 2 rfl) ?_
    refine lv_if_ge (tgt := 303) hx hb dX12_atomEnds_267 (by decide) (fun c267 => ?_) (fun c267 => ?_)
    · have hg := (if_pos c267).symm.trans hg
      exact w_X12_atomEnds_b303 S hr hk hR X (lv_sub hl [0] rfl) hg
    · have hg := (if_neg c267).symm.trans hg
      refine lv_aload_n hx hb dX12_atomEnds_270 rfl (lv_at hl 0 rfl) ?_
      obtain ⟨r271, τ271, hq271, hg⟩ := bd_some hg
      refine gc_Vi (As := []) (rest := []) (q0 := 0) (ci := 15) S X (k2_X12_part l dC dI ad kc hq271 H.size) cw_X12_part mG_2554 rfl rfl rfl rfl rfl hl.1 (Nat.le_of_ble_eq_true rfl) dX12_atomEnds_271 ⟨by omega, by omega⟩ (fun H locs X => ?_)
      refine lv_if_eq (tgt := 303) hx hb dX12_atomEnds_274 (by decide) (fun c274 => ?_) (fun c274 => ?_)
      · have hg := (if_pos c274).symm.trans hg
        exact w_X12_atomEnds_b303 S hr hk hR X (lv_sub hl [0] rfl) hg
      · have hg := (if_neg c274).symm.trans hg
        refine lv_aload_n hx hb dX12_atomEnds_277 rfl (lv_at hl 0 rfl) ?_
        refine lv_bipush (v := 6) hx hb dX12_atomEnds_278 (by decide) ?_
        obtain ⟨r280, τ280, hq280, hg⟩ := bd_some hg
        refine gc_Vi (As := [.int 6]) (rest := []) (q0 := 0) (ci := 15) S X (k2_X12_node l dC dI ad kc hq280 H.size) cw_X12_node mG_2542 rfl rfl rfl rfl rfl hl.1 (Nat.le_of_ble_eq_true rfl) dX12_atomEnds_280 ⟨by omega, by omega⟩ (fun H locs X => ?_)
        refine lv_istore (lv' := [(5, .int r280), (0, .ref (ad 0)), (1, .int v1), (2, .int v2)]) hx hb dX12_atomEnds_283 hl (by decide) rfl (fun ls hl => ?_)
        refine lv_aload_n hx hb dX12_atomEnds_285 rfl (lv_at hl 1 rfl) ?_
        refine lv_iload hx hb dX12_atomEnds_286 (lv_at hl 0 rfl) ?_
        refine lv_aload_n hx hb dX12_atomEnds_288 rfl (lv_at hl 1 rfl) ?_
        obtain ⟨r289, τ289, hq289, hg⟩ := bd_some hg
        refine gc_Vi (As := []) (rest := [.int r280, .ref (ad 0)]) (q0 := 0) (ci := 15) S X (k2_X12_taken l dC dI ad kc hq289 H.size) cw_X12_taken mG_2622 rfl rfl rfl rfl rfl hl.1 (Nat.le_of_ble_eq_true rfl) dX12_atomEnds_289 ⟨by omega, by omega⟩ (fun H locs X => ?_)
        obtain ⟨r292, τ292, hq292, hg⟩ := bd_some hg
        refine gc_Vv (As := [.int r280, .int r289]) (rest := []) (q0 := 0) (ci := 15) S X (k2_X12_append l dC dI ad kc hq292 H.size) cw_X12_append mG_2586 rfl rfl rfl rfl rfl hl.1 (Nat.le_of_ble_eq_true rfl) dX12_atomEnds_292 ⟨by omega, by omega⟩ (fun H locs X => ?_)
        refine lv_aload_n hx hb dX12_atomEnds_295 rfl (lv_at hl 1 rfl) ?_
        refine wmgR_0_37 S X mG_2087 dX12_atomEnds_296 ?_
        refine lv_iload_n hx hb dX12_atomEnds_299 rfl (lv_at hl 2 rfl) ?_
        refine lv_iload hx hb dX12_atomEnds_300 (lv_at hl 0 rfl) ?_
        obtain ⟨hi302, hg⟩ := gd_some hg
        refine wmsA_15 S X hi302 dX12_atomEnds_302 (fun H locs X => ?_)
        exact w_X12_atomEnds_b303 S hr hk hR X (lv_sub hl [1] rfl) hg
set_option maxHeartbeats 4000000 in
set_option maxRecDepth 100000 in
theorem w_X12_atomEnds_b227 {σ : S5} {v1 : Int32} {v2 : Int32} {v3 : Int32} {v4 : Int32} {H : Heap} {locs : List Loc} {ls : Array Slot} (S : CallFix p m c cX12_atomEnds 6 s args uG RX12) (hr : meth.sig.returnType = none) (hk : meth.locks = false) (hR : 7 ≤ R.frames ∧ 157 ≤ R.locals)
    (X : gX (dC, dI) (tM kc) (wM ad kc) Z A s σ H locs) (hl : lv_has ls 6 [(0, .ref (ad 0)), (1, .int v1), (2, .int v2), (3, .int v3), (4, .int v4)]) (hg : f_X12_atomEnds_b227 v1 v2 v3 v4 σ = some (r, τ)) : W p l e R s m args below meth c H locs 0 0 (MQ below (gQv (dC, dI) (tM kc) (wM ad kc) A r τ) args s 0 0 A) (F0 m 227 ls []) := by
  have hx := S.1
  have hb := S.2.1
  have hown := S.2.2.2.1
  have hu := S.2.2.2.2
  unfold f_X12_atomEnds_b227 at hg
  refine lv_iload hx hb dX12_atomEnds_227 (lv_at hl 4 rfl) ?_
  refine lv_if_ge (tgt := 244) hx hb dX12_atomEnds_229 (by decide) (fun c229 => ?_) (fun c229 => ?_)
  · have hg := (if_pos c229).symm.trans hg
    refine lv_iload_n hx hb dX12_atomEnds_244 rfl (lv_at hl 3 rfl) ?_
    refine lv_bipush (v := 6) hx hb dX12_atomEnds_245 (by decide) ?_
    refine lv_icmp_ne (tgt := 259) hx hb dX12_atomEnds_247 (by decide) (fun c247 => ?_) (fun c247 => ?_)
    · have hg := (if_neg c247).symm.trans hg
      exact w_X12_atomEnds_b259 S hr hk hR X (lv_sub hl [0, 1, 2] rfl) hg
    · have hg := (if_pos c247).symm.trans hg
      refine lv_aload_n hx hb dX12_atomEnds_250 rfl (lv_at hl 0 rfl) ?_
      refine lv_iconst (v := 4) hx hb dX12_atomEnds_251 (by decide) ?_
      refine lv_aload_n hx hb dX12_atomEnds_252 rfl (lv_at hl 0 rfl) ?_
      refine wmgI_5 (v := (gI σ 5)) S X mG_2057 rfl dX12_atomEnds_253 ?_
      obtain ⟨r256, τ256, hq256, hg⟩ := bd_some hg
      refine gc_Vv (As := [.int 4, .int (gI σ 5)]) (rest := []) (q0 := 0) (ci := 15) S X (k2_X12_fail l dC dI ad kc hq256 H.size) cw_X12_fail mG_2522 rfl rfl rfl rfl rfl hl.1 (Nat.le_of_ble_eq_true rfl) dX12_atomEnds_256 ⟨by omega, by omega⟩ (fun H locs X => ?_)
      exact w_X12_atomEnds_b259 S hr hk hR X (lv_sub hl [0, 1, 2] rfl) hg
  · have hg := (if_neg c229).symm.trans hg
    refine lv_aload_n hx hb dX12_atomEnds_232 rfl (lv_at hl 0 rfl) ?_
    refine lv_iconst (v := 3) hx hb dX12_atomEnds_233 (by decide) ?_
    refine lv_aload_n hx hb dX12_atomEnds_234 rfl (lv_at hl 0 rfl) ?_
    refine wmgI_5 (v := (gI σ 5)) S X mG_2057 rfl dX12_atomEnds_235 ?_
    obtain ⟨r238, τ238, hq238, hg⟩ := bd_some hg
    refine gc_Vv (As := [.int 3, .int (gI σ 5)]) (rest := []) (q0 := 0) (ci := 15) S X (k2_X12_fail l dC dI ad kc hq238 H.size) cw_X12_fail mG_2522 rfl rfl rfl rfl rfl hl.1 (Nat.le_of_ble_eq_true rfl) dX12_atomEnds_238 ⟨by omega, by omega⟩ (fun H locs X => ?_)
    refine lv_goto (tgt := 259) hx hb dX12_atomEnds_241 (by decide) ?_
    exact w_X12_atomEnds_b259 S hr hk hR X (lv_sub hl [0, 1, 2] rfl) hg
set_option maxHeartbeats 4000000 in
set_option maxRecDepth 100000 in
theorem w_X12_atomEnds_b191 {σ : S5} {v1 : Int32} {v2 : Int32} {v3 : Int32} {u0 : Int32} {H : Heap} {locs : List Loc} {ls : Array Slot} (S : CallFix p m c cX12_atomEnds 6 s args uG RX12) (hr : meth.sig.returnType = none) (hk : meth.locks = false) (hR : 7 ≤ R.frames ∧ 157 ≤ R.locals)
    (X : gX (dC, dI) (tM kc) (wM ad kc) Z A s σ H locs) (hl : lv_has ls 6 [(0, .ref (ad 0)), (1, .int v1), (2, .int v2), (3, .int v3)]) (hg : f_X12_atomEnds_b191 v1 v2 v3 u0 σ = some (r, τ)) : W p l e R s m args below meth c H locs 0 0 (MQ below (gQv (dC, dI) (tM kc) (wM ad kc) A r τ) args s 0 0 A) (F0 m 191 ls [.int u0]) := by
  have hx := S.1
  have hb := S.2.1
  have hown := S.2.2.2.1
  have hu := S.2.2.2.2
  unfold f_X12_atomEnds_b191 at hg
  refine lv_istore (lv' := [(4, .int u0), (0, .ref (ad 0)), (1, .int v1), (2, .int v2), (3, .int v3)]) hx hb dX12_atomEnds_191 hl (by decide) rfl (fun ls hl => ?_)
  refine lv_aload_n hx hb dX12_atomEnds_193 rfl (lv_at hl 1 rfl) ?_
  obtain ⟨r194, τ194, hq194, hg⟩ := bd_some hg
  refine gc_Vv (As := []) (rest := []) (q0 := 0) (ci := 15) S X (k2_X12_tooDeep l dC dI ad kc hq194 H.size) cw_X12_tooDeep mG_2602 rfl rfl rfl rfl rfl hl.1 (Nat.le_of_ble_eq_true rfl) dX12_atomEnds_194 ⟨by omega, by omega⟩ (fun H locs X => ?_)
  refine lv_aload_n hx hb dX12_atomEnds_197 rfl (lv_at hl 1 rfl) ?_
  refine wmgI_4 (v := (gI τ194 4)) S X mG_2056 rfl dX12_atomEnds_198 ?_
  refine lv_iconst (v := 4) hx hb dX12_atomEnds_201 (by decide) ?_
  refine lv_icmp_ne (tgt := 227) hx hb dX12_atomEnds_202 (by decide) (fun c202 => ?_) (fun c202 => ?_)
  · have hg := (if_neg c202).symm.trans hg
    exact w_X12_atomEnds_b227 S hr hk hR X (lv_sub hl [1, 2, 3, 4, 0] rfl) hg
  · have hg := (if_pos c202).symm.trans hg
    refine lv_iload hx hb dX12_atomEnds_205 (lv_at hl 0 rfl) ?_
    refine lv_if_lt (tgt := 227) hx hb dX12_atomEnds_207 (by decide) (fun c207 => ?_) (fun c207 => ?_)
    · have hg := (if_pos c207).symm.trans hg
      exact w_X12_atomEnds_b227 S hr hk hR X (lv_sub hl [1, 2, 3, 4, 0] rfl) hg
    · have hg := (if_neg c207).symm.trans hg
      refine lv_aload_n hx hb dX12_atomEnds_210 rfl (lv_at hl 1 rfl) ?_
      refine wmgR_0_33 S X mG_2083 dX12_atomEnds_211 ?_
      refine lv_iload hx hb dX12_atomEnds_214 (lv_at hl 0 rfl) ?_
      obtain ⟨hi216, hg⟩ := gd_some hg
      refine wmlA_13 (v := (xA τ194 13 u0)) S X hi216 rfl dX12_atomEnds_216 ?_
      refine lv_if_le (tgt := 227) hx hb dX12_atomEnds_217 (by decide) (fun c217 => ?_) (fun c217 => ?_)
      · have hg := (if_pos c217).symm.trans hg
        exact w_X12_atomEnds_b227 S hr hk hR X (lv_sub hl [1, 2, 3, 4, 0] rfl) hg
      · have hg := (if_neg c217).symm.trans hg
        refine lv_aload_n hx hb dX12_atomEnds_220 rfl (lv_at hl 1 rfl) ?_
        obtain ⟨r221, τ221, hq221, hg⟩ := bd_some hg
        refine gc_Vv (As := []) (rest := []) (q0 := 0) (ci := 15) S X (k2_X12_wrong l dC dI ad kc hq221 H.size) cw_X12_wrong mG_2530 rfl rfl rfl rfl rfl hl.1 (Nat.le_of_ble_eq_true rfl) dX12_atomEnds_221 ⟨by omega, by omega⟩ (fun H locs X => ?_)
        refine lv_goto (tgt := 259) hx hb dX12_atomEnds_224 (by decide) ?_
        exact w_X12_atomEnds_b259 S hr hk hR X (lv_sub hl [1, 2, 3] rfl) hg
set_option maxHeartbeats 4000000 in
set_option maxRecDepth 100000 in
theorem w_X12_atomEnds_b165 {σ : S5}  {H : Heap} {locs : List Loc} {ls : Array Slot} (S : CallFix p m c cX12_atomEnds 6 s args uG RX12) (hr : meth.sig.returnType = none) (hk : meth.locks = false) (hR : 7 ≤ R.frames ∧ 157 ≤ R.locals)
    (X : gX (dC, dI) (tM kc) (wM ad kc) Z A s σ H locs) (hl : lv_has ls 6 [(0, .ref (ad 0))]) (hg : f_X12_atomEnds_b165  σ = some (r, τ)) : W p l e R s m args below meth c H locs 0 0 (MQ below (gQv (dC, dI) (tM kc) (wM ad kc) A r τ) args s 0 0 A) (F0 m 165 ls []) := by
  have hx := S.1
  have hb := S.2.1
  have hown := S.2.2.2.1
  have hu := S.2.2.2.2
  unfold f_X12_atomEnds_b165 at hg
  refine lv_aload_n hx hb dX12_atomEnds_165 rfl (lv_at hl 0 rfl) ?_
  refine lv_iconst (v := 1) hx hb dX12_atomEnds_166 (by decide) ?_
  refine wmpI_20 S X mG_2094 (Or.inr rfl) dX12_atomEnds_167 (fun H locs X => ?_)
  obtain ⟨-, rfl⟩ := fin_some hg
  exact gr_v S hr hk X dX12_atomEnds_170
set_option maxHeartbeats 4000000 in
set_option maxRecDepth 100000 in
theorem w_X12_atomEnds_b139 {σ : S5} {v1 : Int32} {v2 : Int32} {v3 : Int32} {H : Heap} {locs : List Loc} {ls : Array Slot} (S : CallFix p m c cX12_atomEnds 6 s args uG RX12) (hr : meth.sig.returnType = none) (hk : meth.locks = false) (hR : 7 ≤ R.frames ∧ 157 ≤ R.locals)
    (X : gX (dC, dI) (tM kc) (wM ad kc) Z A s σ H locs) (hl : lv_has ls 6 [(0, .ref (ad 0)), (1, .int v1), (2, .int v2), (3, .int v3)]) (hg : f_X12_atomEnds_b139 v1 v2 v3 σ = some (r, τ)) : W p l e R s m args below meth c H locs 0 0 (MQ below (gQv (dC, dI) (tM kc) (wM ad kc) A r τ) args s 0 0 A) (F0 m 139 ls []) := by
  have hx := S.1
  have hb := S.2.1
  have hown := S.2.2.2.1
  have hu := S.2.2.2.2
  unfold f_X12_atomEnds_b139 at hg
  refine lv_aload_n hx hb dX12_atomEnds_139 rfl (lv_at hl 0 rfl) ?_
  obtain ⟨r140, τ140, hq140, hg⟩ := bd_some hg
  refine gc_Vi (As := []) (rest := []) (q0 := 0) (ci := 15) S X (k2_X12_isAtom l dC dI ad kc hq140 H.size) cw_X12_isAtom mG_2606 rfl rfl rfl rfl rfl hl.1 (Nat.le_of_ble_eq_true rfl) dX12_atomEnds_140 ⟨by omega, by omega⟩ (fun H locs X => ?_)
  refine lv_if_ne (tgt := 171) hx hb dX12_atomEnds_143 (by decide) (fun c143 => ?_) (fun c143 => ?_)
  · have hg := (if_neg c143).symm.trans hg
    refine lv_aload_n hx hb dX12_atomEnds_171 rfl (lv_at hl 0 rfl) ?_
    refine wmgI_4 (v := (gI τ140 4)) S X mG_2056 rfl dX12_atomEnds_172 ?_
    refine lv_iconst (v := 4) hx hb dX12_atomEnds_175 (by decide) ?_
    refine lv_icmp_ne (tgt := 190) hx hb dX12_atomEnds_176 (by decide) (fun c176 => ?_) (fun c176 => ?_)
    · have hg := (if_neg c176).symm.trans hg
      refine lv_iconst (v := 0) hx hb dX12_atomEnds_190 (by decide) ?_
      exact w_X12_atomEnds_b191 S hr hk hR X (lv_sub hl [0, 1, 2, 3] rfl) hg
    · have hg := (if_pos c176).symm.trans hg
      refine lv_aload_n hx hb dX12_atomEnds_179 rfl (lv_at hl 0 rfl) ?_
      refine lv_aload_n hx hb dX12_atomEnds_180 rfl (lv_at hl 0 rfl) ?_
      refine wmgJ_0 (v := (gJ τ140 0)) S X mG_2058 rfl dX12_atomEnds_181 ?_
      obtain ⟨r184, τ184, hq184, hg⟩ := bd_some hg
      refine gc_Vi (As := [.long (gJ τ140 0)]) (rest := []) (q0 := 0) (ci := 15) S X (k2_X12_findConstructor l dC dI ad kc hq184 H.size) cw_X12_findConstructor mG_2518 rfl rfl rfl rfl rfl hl.1 (Nat.le_of_ble_eq_true rfl) dX12_atomEnds_184 ⟨by omega, by omega⟩ (fun H locs X => ?_)
      refine lv_goto (tgt := 191) hx hb dX12_atomEnds_187 (by decide) ?_
      exact w_X12_atomEnds_b191 S hr hk hR X (lv_sub hl [0, 1, 2, 3] rfl) hg
  · have hg := (if_pos c143).symm.trans hg
    refine lv_aload_n hx hb dX12_atomEnds_146 rfl (lv_at hl 0 rfl) ?_
    refine lv_dup hx hb dX12_atomEnds_147 rfl ?_
    refine wmgI_16 (v := (gI τ140 16)) S X mG_2085 rfl dX12_atomEnds_148 ?_
    refine lv_iconst (v := 1) hx hb dX12_atomEnds_151 (by decide) ?_
    refine lv_isub hx hb dX12_atomEnds_152 ?_
    refine wmpI_16 S X mG_2085 dX12_atomEnds_153 (fun H locs X => ?_)
    refine lv_iload_n hx hb dX12_atomEnds_156 rfl (lv_at hl 2 rfl) ?_
    refine lv_if_lt (tgt := 165) hx hb dX12_atomEnds_157 (by decide) (fun c157 => ?_) (fun c157 => ?_)
    · have hg := (if_pos c157).symm.trans hg
      exact w_X12_atomEnds_b165 S hr hk hR X (lv_sub hl [0] rfl) hg
    · have hg := (if_neg c157).symm.trans hg
      refine lv_aload_n hx hb dX12_atomEnds_160 rfl (lv_at hl 0 rfl) ?_
      refine lv_iload_n hx hb dX12_atomEnds_161 rfl (lv_at hl 2 rfl) ?_
      obtain ⟨r162, τ162, hq162, hg⟩ := bd_some hg
      refine gc_Vv (As := [.int v2]) (rest := []) (q0 := 0) (ci := 15) S X (k2_X12_operand l dC dI ad kc hq162 H.size) cw_X12_operand mG_2614 rfl rfl rfl rfl rfl hl.1 (Nat.le_of_ble_eq_true rfl) dX12_atomEnds_162 ⟨by omega, by omega⟩ (fun H locs X => ?_)
      exact w_X12_atomEnds_b165 S hr hk hR X (lv_sub hl [0] rfl) hg
set_option maxHeartbeats 4000000 in
set_option maxRecDepth 100000 in
theorem w_X12_atomEnds_b80 {σ : S5} {u0 : Int32} {H : Heap} {locs : List Loc} {ls : Array Slot} (S : CallFix p m c cX12_atomEnds 6 s args uG RX12) (hr : meth.sig.returnType = none) (hk : meth.locks = false) (hR : 7 ≤ R.frames ∧ 157 ≤ R.locals)
    (X : gX (dC, dI) (tM kc) (wM ad kc) Z A s σ H locs) (hl : lv_has ls 6 [(0, .ref (ad 0))]) (hg : f_X12_atomEnds_b80 u0 σ = some (r, τ)) : W p l e R s m args below meth c H locs 0 0 (MQ below (gQv (dC, dI) (tM kc) (wM ad kc) A r τ) args s 0 0 A) (F0 m 80 ls [.int u0, .ref (ad 0)]) := by
  have hx := S.1
  have hb := S.2.1
  have hown := S.2.2.2.1
  have hu := S.2.2.2.2
  unfold f_X12_atomEnds_b80 at hg
  obtain ⟨hn80, hg⟩ := g_t_some hg
  refine wmpI_19 S X mG_2093 hn80 dX12_atomEnds_80 (fun H locs X => ?_)
  refine lv_aload_n hx hb dX12_atomEnds_83 rfl (lv_at hl 0 rfl) ?_
  refine lv_iconst (v := 1) hx hb dX12_atomEnds_84 (by decide) ?_
  refine wmpI_18 S X mG_2092 (Or.inr rfl) dX12_atomEnds_85 (fun H locs X => ?_)
  refine lv_goto (tgt := 125) hx hb dX12_atomEnds_88 (by decide) ?_
  obtain ⟨-, rfl⟩ := fin_some hg
  exact gr_v S hr hk X dX12_atomEnds_125
set_option maxHeartbeats 4000000 in
set_option maxRecDepth 100000 in
theorem w_X12_atomEnds {σ : S5}  {H : Heap} {locs : List Loc} {ls : Array Slot} (S : CallFix p m c cX12_atomEnds 6 s args uG RX12) (hr : meth.sig.returnType = none) (hk : meth.locks = false) (hR : 7 ≤ R.frames ∧ 157 ≤ R.locals)
    (X : gX (dC, dI) (tM kc) (wM ad kc) Z A s σ H locs) (hl : lv_has ls 6 [(0, .ref (ad 0))]) (hg : f_X12_atomEnds  σ = some (r, τ)) : W p l e R s m args below meth c H locs 0 0 (MQ below (gQv (dC, dI) (tM kc) (wM ad kc) A r τ) args s 0 0 A) (F0 m 0 ls []) := by
  have hx := S.1
  have hb := S.2.1
  have hown := S.2.2.2.1
  have hu := S.2.2.2.2
  unfold f_X12_atomEnds at hg
  refine lv_aload_n hx hb dX12_atomEnds_0 rfl (lv_at hl 0 rfl) ?_
  refine wmgI_16 (v := (gI σ 16)) S X mG_2085 rfl dX12_atomEnds_1 ?_
  refine lv_iconst (v := 1) hx hb dX12_atomEnds_4 (by decide) ?_
  refine lv_isub hx hb dX12_atomEnds_5 ?_
  refine lv_istore_n (lv' := [(1, .int ((gI σ 16) - 1)), (0, .ref (ad 0))]) hx hb dX12_atomEnds_6 rfl hl (by decide) rfl (fun ls hl => ?_)
  refine lv_aload_n hx hb dX12_atomEnds_7 rfl (lv_at hl 1 rfl) ?_
  refine wmgR_0_37 S X mG_2087 dX12_atomEnds_8 ?_
  refine lv_iload_n hx hb dX12_atomEnds_11 rfl (lv_at hl 0 rfl) ?_
  obtain ⟨hi12, hg⟩ := gd_some hg
  refine wmlA_15 (v := (xA σ 15 ((gI σ 16) - 1))) S X hi12 rfl dX12_atomEnds_12 ?_
  refine lv_istore_n (lv' := [(2, .int (xA σ 15 ((gI σ 16) - 1))), (1, .int ((gI σ 16) - 1)), (0, .ref (ad 0))]) hx hb dX12_atomEnds_13 rfl hl (by decide) rfl (fun ls hl => ?_)
  refine lv_aload_n hx hb dX12_atomEnds_14 rfl (lv_at hl 2 rfl) ?_
  refine wmgR_0_39 S X mG_2089 dX12_atomEnds_15 ?_
  refine lv_iload_n hx hb dX12_atomEnds_18 rfl (lv_at hl 1 rfl) ?_
  refine lv_dup2_11 hx hb dX12_atomEnds_19 rfl rfl ?_
  obtain ⟨hi20, hg⟩ := gd_some hg
  refine wmlA_17 (v := (xA σ 17 ((gI σ 16) - 1))) S X hi20 rfl dX12_atomEnds_20 ?_
  refine lv_iconst (v := 1) hx hb dX12_atomEnds_21 (by decide) ?_
  refine lv_iadd hx hb dX12_atomEnds_22 ?_
  obtain ⟨hi23, hg⟩ := gd_some hg
  refine wmsA_17 S X hi23 dX12_atomEnds_23 (fun H locs X => ?_)
  refine lv_aload_n hx hb dX12_atomEnds_24 rfl (lv_at hl 2 rfl) ?_
  refine wmgR_0_39 S X mG_2089 dX12_atomEnds_25 ?_
  refine lv_iload_n hx hb dX12_atomEnds_28 rfl (lv_at hl 1 rfl) ?_
  obtain ⟨hi29, hg⟩ := gd_some hg
  refine wmlA_17 (v := (xA (pA σ 17 ((gI σ 16) - 1) ((xA σ 17 ((gI σ 16) - 1)) + 1)) 17 ((gI σ 16) - 1))) S X hi29 rfl dX12_atomEnds_29 ?_
  refine lv_istore_n (lv' := [(3, .int (xA (pA σ 17 ((gI σ 16) - 1) ((xA σ 17 ((gI σ 16) - 1)) + 1)) 17 ((gI σ 16) - 1))), (2, .int (xA σ 15 ((gI σ 16) - 1))), (1, .int ((gI σ 16) - 1)), (0, .ref (ad 0))]) hx hb dX12_atomEnds_30 rfl hl (by decide) rfl (fun ls hl => ?_)
  refine lv_aload_n hx hb dX12_atomEnds_31 rfl (lv_at hl 3 rfl) ?_
  refine wmgR_0_36 S X mG_2086 dX12_atomEnds_32 ?_
  refine lv_iload_n hx hb dX12_atomEnds_35 rfl (lv_at hl 2 rfl) ?_
  obtain ⟨hi36, hg⟩ := gd_some hg
  refine wmlA_14 (v := (xA σ 14 ((gI σ 16) - 1))) S X hi36 rfl dX12_atomEnds_36 ?_
  refine lv_bipush (v := 9) hx hb dX12_atomEnds_37 (by decide) ?_
  refine lv_icmp_ne (tgt := 126) hx hb dX12_atomEnds_39 (by decide) (fun c39 => ?_) (fun c39 => ?_)
  · have hg := (if_neg c39).symm.trans hg
    refine lv_iload_n hx hb dX12_atomEnds_126 rfl (lv_at hl 1 rfl) ?_
    refine lv_if_lt (tgt := 139) hx hb dX12_atomEnds_127 (by decide) (fun c127 => ?_) (fun c127 => ?_)
    · have hg := (if_pos c127).symm.trans hg
      exact w_X12_atomEnds_b139 S hr hk hR X (lv_sub hl [3, 2, 1, 0] rfl) hg
    · have hg := (if_neg c127).symm.trans hg
      refine lv_aload_n hx hb dX12_atomEnds_130 rfl (lv_at hl 3 rfl) ?_
      refine lv_iload_n hx hb dX12_atomEnds_131 rfl (lv_at hl 1 rfl) ?_
      refine lv_aload_n hx hb dX12_atomEnds_132 rfl (lv_at hl 3 rfl) ?_
      obtain ⟨r133, τ133, hq133, hg⟩ := bd_some hg
      refine gc_Vi (As := []) (rest := [.int (xA σ 15 ((gI σ 16) - 1)), .ref (ad 0)]) (q0 := 0) (ci := 15) S X (k2_X12_taken l dC dI ad kc hq133 H.size) cw_X12_taken mG_2622 rfl rfl rfl rfl rfl hl.1 (Nat.le_of_ble_eq_true rfl) dX12_atomEnds_133 ⟨by omega, by omega⟩ (fun H locs X => ?_)
      obtain ⟨r136, τ136, hq136, hg⟩ := bd_some hg
      refine gc_Vv (As := [.int (xA σ 15 ((gI σ 16) - 1)), .int r133]) (rest := []) (q0 := 0) (ci := 15) S X (k2_X12_append l dC dI ad kc hq136 H.size) cw_X12_append mG_2586 rfl rfl rfl rfl rfl hl.1 (Nat.le_of_ble_eq_true rfl) dX12_atomEnds_136 ⟨by omega, by omega⟩ (fun H locs X => ?_)
      exact w_X12_atomEnds_b139 S hr hk hR X (lv_sub hl [3, 2, 1, 0] rfl) hg
  · have hg := (if_pos c39).symm.trans hg
    refine lv_aload_n hx hb dX12_atomEnds_42 rfl (lv_at hl 3 rfl) ?_
    refine lv_iload_n hx hb dX12_atomEnds_43 rfl (lv_at hl 1 rfl) ?_
    refine lv_aload_n hx hb dX12_atomEnds_44 rfl (lv_at hl 3 rfl) ?_
    obtain ⟨r45, τ45, hq45, hg⟩ := bd_some hg
    refine gc_Vi (As := []) (rest := [.int (xA σ 15 ((gI σ 16) - 1)), .ref (ad 0)]) (q0 := 0) (ci := 15) S X (k2_X12_taken l dC dI ad kc hq45 H.size) cw_X12_taken mG_2622 rfl rfl rfl rfl rfl hl.1 (Nat.le_of_ble_eq_true rfl) dX12_atomEnds_45 ⟨by omega, by omega⟩ (fun H locs X => ?_)
    obtain ⟨r48, τ48, hq48, hg⟩ := bd_some hg
    refine gc_Vv (As := [.int (xA σ 15 ((gI σ 16) - 1)), .int r45]) (rest := []) (q0 := 0) (ci := 15) S X (k2_X12_append l dC dI ad kc hq48 H.size) cw_X12_append mG_2586 rfl rfl rfl rfl rfl hl.1 (Nat.le_of_ble_eq_true rfl) dX12_atomEnds_48 ⟨by omega, by omega⟩ (fun H locs X => ?_)
    refine lv_iload_n hx hb dX12_atomEnds_51 rfl (lv_at hl 0 rfl) ?_
    refine lv_aload_n hx hb dX12_atomEnds_52 rfl (lv_at hl 3 rfl) ?_
    refine wmgR_0_33 S X mG_2083 dX12_atomEnds_53 ?_
    refine lv_aload_n hx hb dX12_atomEnds_56 rfl (lv_at hl 3 rfl) ?_
    refine wmgR_0_18 S X mG_2068 dX12_atomEnds_57 ?_
    refine lv_iload_n hx hb dX12_atomEnds_60 rfl (lv_at hl 1 rfl) ?_
    obtain ⟨hi61, hg⟩ := gd_some hg
    refine wmlA_7 (v := (xA τ48 7 (xA σ 15 ((gI σ 16) - 1)))) S X hi61 rfl dX12_atomEnds_61 ?_
    obtain ⟨hi62, hg⟩ := gd_some hg
    refine wmlA_13 (v := (xA τ48 13 (xA τ48 7 (xA σ 15 ((gI σ 16) - 1))))) S X hi62 rfl dX12_atomEnds_62 ?_
    refine lv_icmp_ge (tgt := 91) hx hb dX12_atomEnds_63 (by decide) (fun c63 => ?_) (fun c63 => ?_)
    · have hg := (if_pos c63).symm.trans hg
      refine lv_aload_n hx hb dX12_atomEnds_91 rfl (lv_at hl 3 rfl) ?_
      obtain ⟨r92, τ92, hq92, hg⟩ := bd_some hg
      refine gc_Vi (As := []) (rest := []) (q0 := 0) (ci := 15) S X (k2_X12_isAtom l dC dI ad kc hq92 H.size) cw_X12_isAtom mG_2606 rfl rfl rfl rfl rfl hl.1 (Nat.le_of_ble_eq_true rfl) dX12_atomEnds_92 ⟨by omega, by omega⟩ (fun H locs X => ?_)
      refine lv_if_eq (tgt := 105) hx hb dX12_atomEnds_95 (by decide) (fun c95 => ?_) (fun c95 => ?_)
      · have hg := (if_pos c95).symm.trans hg
        refine lv_aload_n hx hb dX12_atomEnds_105 rfl (lv_at hl 3 rfl) ?_
        refine lv_dup hx hb dX12_atomEnds_106 rfl ?_
        refine wmgI_16 (v := (gI τ92 16)) S X mG_2085 rfl dX12_atomEnds_107 ?_
        refine lv_iconst (v := 1) hx hb dX12_atomEnds_110 (by decide) ?_
        refine lv_isub hx hb dX12_atomEnds_111 ?_
        refine wmpI_16 S X mG_2085 dX12_atomEnds_112 (fun H locs X => ?_)
        refine lv_aload_n hx hb dX12_atomEnds_115 rfl (lv_at hl 3 rfl) ?_
        refine lv_iload_n hx hb dX12_atomEnds_116 rfl (lv_at hl 1 rfl) ?_
        obtain ⟨r117, τ117, hq117, hg⟩ := bd_some hg
        refine gc_Vv (As := [.int (xA σ 15 ((gI σ 16) - 1))]) (rest := []) (q0 := 0) (ci := 15) S X (k2_X12_operand l dC dI ad kc hq117 H.size) cw_X12_operand mG_2614 rfl rfl rfl rfl rfl hl.1 (Nat.le_of_ble_eq_true rfl) dX12_atomEnds_117 ⟨by omega, by omega⟩ (fun H locs X => ?_)
        refine lv_aload_n hx hb dX12_atomEnds_120 rfl (lv_at hl 3 rfl) ?_
        refine lv_iconst (v := 1) hx hb dX12_atomEnds_121 (by decide) ?_
        refine wmpI_20 S X mG_2094 (Or.inr rfl) dX12_atomEnds_122 (fun H locs X => ?_)
        obtain ⟨-, rfl⟩ := fin_some hg
        exact gr_v S hr hk X dX12_atomEnds_125
      · have hg := (if_neg c95).symm.trans hg
        refine lv_aload_n hx hb dX12_atomEnds_98 rfl (lv_at hl 3 rfl) ?_
        obtain ⟨r99, τ99, hq99, hg⟩ := bd_some hg
        refine gc_Vv (As := []) (rest := []) (q0 := 0) (ci := 15) S X (k2_X12_wrong l dC dI ad kc hq99 H.size) cw_X12_wrong mG_2530 rfl rfl rfl rfl rfl hl.1 (Nat.le_of_ble_eq_true rfl) dX12_atomEnds_99 ⟨by omega, by omega⟩ (fun H locs X => ?_)
        refine lv_goto (tgt := 125) hx hb dX12_atomEnds_102 (by decide) ?_
        obtain ⟨-, rfl⟩ := fin_some hg
        exact gr_v S hr hk X dX12_atomEnds_125
    · have hg := (if_neg c63).symm.trans hg
      refine lv_aload_n hx hb dX12_atomEnds_66 rfl (lv_at hl 3 rfl) ?_
      refine lv_aload_n hx hb dX12_atomEnds_67 rfl (lv_at hl 3 rfl) ?_
      refine lv_iload_n hx hb dX12_atomEnds_68 rfl (lv_at hl 2 rfl) ?_
      obtain ⟨r69, τ69, hq69, hg⟩ := bd_some hg
      refine gc_Vi (As := [.int ((gI σ 16) - 1)]) (rest := [.ref (ad 0)]) (q0 := 0) (ci := 15) S X (k2_X12_field l dC dI ad kc hq69 H.size) cw_X12_field mG_2594 rfl rfl rfl rfl rfl hl.1 (Nat.le_of_ble_eq_true rfl) dX12_atomEnds_69 ⟨by omega, by omega⟩ (fun H locs X => ?_)
      refine lv_if_ne (tgt := 79) hx hb dX12_atomEnds_72 (by decide) (fun c72 => ?_) (fun c72 => ?_)
      · have hg := (if_neg c72).symm.trans hg
        refine lv_iconst (v := 0) hx hb dX12_atomEnds_79 (by decide) ?_
        exact w_X12_atomEnds_b80 S hr hk hR X (lv_sub hl [3] rfl) hg
      · have hg := (if_pos c72).symm.trans hg
        refine lv_iconst (v := 1) hx hb dX12_atomEnds_75 (by decide) ?_
        refine lv_goto (tgt := 80) hx hb dX12_atomEnds_76 (by decide) ?_
        exact w_X12_atomEnds_b80 S hr hk hR X (lv_sub hl [3] rfl) hg
end MX12_atomEnds
set_option maxRecDepth 100000 in
theorem k2_X12_atomEnds (l : Launch) (dC : Nat → ClassId) (dI : Nat → Nat → Nat) {Z : ZZ} (ad : Nat → Nat) (kc : Nat → ClassId) {σ τ : S5}  {r : Unit} (hg : f_X12_atomEnds  σ = some (r, τ)) (sz : Nat) : Met l yX12_atomEnds (Cond.code yX12_atomEnds cX12_atomEnds 6 none :: uG) { frames := 7, cells := 0, slots := 0, locals := 157 } (gPc (dC, dI) (tM kc) (wM ad kc) Z [.ref (ad 0)] σ sz) (gQv (dC, dI) (tM kc) (wM ad kc) (va_A (wM ad kc σ) sz) r τ) 0 0 (va_A (wM ad kc σ) sz) :=
  g_start (by decide) (Nat.le_of_ble_eq_true rfl) (fun p e s m below meth c ls S hr hk X hl => w_X12_atomEnds S hr hk ⟨Nat.le_refl _, Nat.le_refl _⟩ X hl hg)
section MX12_rank
variable {p : Program} {l : Launch} {e : Env} {R : Room} {s : State} {m : MethodId} {args : Array Value} {below : List Frame} {meth : Method} {c : Code} {dC : Nat → ClassId} {dI : Nat → Nat → Nat} {Z : ZZ} {A : Nat → Prop} {ad : Nat → Nat} {kc : Nat → ClassId} {r : Int32} {τ : S5}
set_option maxHeartbeats 4000000 in
set_option maxRecDepth 100000 in
theorem w_X12_rank {σ : S5} {a0 : Int32} {H : Heap} {locs : List Loc} {ls : Array Slot} (S : CallFix p m c cX12_rank 1 s args uG RX12) (hr : meth.sig.returnType = (some .int)) (hk : meth.locks = false) (hR : 0 ≤ R.frames ∧ 0 ≤ R.locals)
    (X : gX (dC, dI) (tM kc) (wM ad kc) Z A s σ H locs) (hl : lv_has ls 1 [(0, .int a0)]) (hg : f_X12_rank a0 σ = some (r, τ)) : W p l e R s m args below meth c H locs 0 0 (MQ below (gQi (dC, dI) (tM kc) (wM ad kc) A r τ) args s 0 0 A) (F0 m 0 ls []) := by
  have hx := S.1
  have hb := S.2.1
  have hown := S.2.2.2.1
  have hu := S.2.2.2.2
  unfold f_X12_rank at hg
  refine lv_iload_n hx hb dX12_rank_0 rfl (lv_at hl 0 rfl) ?_
  by_cases hs0 : a0 = 21
  · have hg := (if_pos hs0).symm.trans hg
    refine lv_lookup (off := 75) (tgt := 76) hx hb dX12_rank_1 (by decide) (by rw [hs0]; decide) (by decide) ?_
    refine lv_iconst (v := 1) hx hb dX12_rank_76 (by decide) ?_
    obtain ⟨rfl, rfl⟩ := fin_some hg
    exact gr_i S hr hk X dX12_rank_77
  have hg := (if_neg hs0).symm.trans hg
  by_cases hs1 : a0 = 22
  · have hg := (if_pos hs1).symm.trans hg
    refine lv_lookup (off := 75) (tgt := 76) hx hb dX12_rank_1 (by decide) (by rw [hs1]; decide) (by decide) ?_
    refine lv_iconst (v := 1) hx hb dX12_rank_76 (by decide) ?_
    obtain ⟨rfl, rfl⟩ := fin_some hg
    exact gr_i S hr hk X dX12_rank_77
  have hg := (if_neg hs1).symm.trans hg
  by_cases hs2 : a0 = 137
  · have hg := (if_pos hs2).symm.trans hg
    refine lv_lookup (off := 79) (tgt := 80) hx hb dX12_rank_1 (by decide) (by rw [hs2]; decide) (by decide) ?_
    refine lv_iconst (v := 3) hx hb dX12_rank_80 (by decide) ?_
    obtain ⟨rfl, rfl⟩ := fin_some hg
    exact gr_i S hr hk X dX12_rank_81
  have hg := (if_neg hs2).symm.trans hg
  by_cases hs3 : a0 = 142
  · have hg := (if_pos hs3).symm.trans hg
    refine lv_lookup (off := 79) (tgt := 80) hx hb dX12_rank_1 (by decide) (by rw [hs3]; decide) (by decide) ?_
    refine lv_iconst (v := 3) hx hb dX12_rank_80 (by decide) ?_
    obtain ⟨rfl, rfl⟩ := fin_some hg
    exact gr_i S hr hk X dX12_rank_81
  have hg := (if_neg hs3).symm.trans hg
  by_cases hs4 : a0 = 143
  · have hg := (if_pos hs4).symm.trans hg
    refine lv_lookup (off := 77) (tgt := 78) hx hb dX12_rank_1 (by decide) (by rw [hs4]; decide) (by decide) ?_
    refine lv_iconst (v := 2) hx hb dX12_rank_78 (by decide) ?_
    obtain ⟨rfl, rfl⟩ := fin_some hg
    exact gr_i S hr hk X dX12_rank_79
  have hg := (if_neg hs4).symm.trans hg
  by_cases hs5 : a0 = 145
  · have hg := (if_pos hs5).symm.trans hg
    refine lv_lookup (off := 77) (tgt := 78) hx hb dX12_rank_1 (by decide) (by rw [hs5]; decide) (by decide) ?_
    refine lv_iconst (v := 2) hx hb dX12_rank_78 (by decide) ?_
    obtain ⟨rfl, rfl⟩ := fin_some hg
    exact gr_i S hr hk X dX12_rank_79
  have hg := (if_neg hs5).symm.trans hg
  by_cases hs6 : a0 = 147
  · have hg := (if_pos hs6).symm.trans hg
    refine lv_lookup (off := 79) (tgt := 80) hx hb dX12_rank_1 (by decide) (by rw [hs6]; decide) (by decide) ?_
    refine lv_iconst (v := 3) hx hb dX12_rank_80 (by decide) ?_
    obtain ⟨rfl, rfl⟩ := fin_some hg
    exact gr_i S hr hk X dX12_rank_81
  have hg := (if_neg hs6).symm.trans hg
  by_cases hs7 : a0 = 160
  · have hg := (if_pos hs7).symm.trans hg
    refine lv_lookup (off := 75) (tgt := 76) hx hb dX12_rank_1 (by decide) (by rw [hs7]; decide) (by decide) ?_
    refine lv_iconst (v := 1) hx hb dX12_rank_76 (by decide) ?_
    obtain ⟨rfl, rfl⟩ := fin_some hg
    exact gr_i S hr hk X dX12_rank_77
  have hg := (if_neg hs7).symm.trans hg
  refine lv_lookup (off := 81) (tgt := 82) hx hb dX12_rank_1 (by decide) (by show Op.lookupswitch.offset [(21, 75), (22, 75), (137, 79), (142, 79), (143, 77), (145, 77), (147, 79), (160, 75)] 81 (a0).toInt = 81; simp only [Op.lookupswitch.offset, lk_ne (a := 21) hs0 (by decide), lk_ne (a := 22) hs1 (by decide), lk_ne (a := 137) hs2 (by decide), lk_ne (a := 142) hs3 (by decide), lk_ne (a := 143) hs4 (by decide), lk_ne (a := 145) hs5 (by decide), lk_ne (a := 147) hs6 (by decide), lk_ne (a := 160) hs7 (by decide), if_false]) (by decide) ?_
  refine lv_iconst (v := 0) hx hb dX12_rank_82 (by decide) ?_
  obtain ⟨rfl, rfl⟩ := fin_some hg
  exact gr_i S hr hk X dX12_rank_83
end MX12_rank
set_option maxRecDepth 100000 in
theorem k2_X12_rank (l : Launch) (dC : Nat → ClassId) (dI : Nat → Nat → Nat) {Z : ZZ} (ad : Nat → Nat) (kc : Nat → ClassId) {σ τ : S5} {a0 : Int32} {r : Int32} (hg : f_X12_rank a0 σ = some (r, τ)) (sz : Nat) : Met l yX12_rank (Cond.code yX12_rank cX12_rank 1 (some .int) :: uG) { frames := 0, cells := 0, slots := 0, locals := 0 } (gPc (dC, dI) (tM kc) (wM ad kc) Z [.int a0] σ sz) (gQi (dC, dI) (tM kc) (wM ad kc) (va_A (wM ad kc σ) sz) r τ) 0 0 (va_A (wM ad kc σ) sz) :=
  g_start (by decide) (Nat.le_of_ble_eq_true rfl) (fun p e s m below meth c ls S hr hk X hl => w_X12_rank S hr hk ⟨Nat.le_refl _, Nat.le_refl _⟩ X hl hg)
