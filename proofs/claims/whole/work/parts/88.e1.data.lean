
theorem mG_13 : Cond.selects "LazyForge$Scopes" yX6_variableIn yX6_variableIn ∈ uG := uG_at 13 (by decide +kernel) (by decide +kernel)
theorem mG_290 : Cond.fieldLink "LazyForge$Program" 52 "LazyForge$Program" "constructors" "I" ∈ uG := uG_at 290 (by decide +kernel) (by decide +kernel)
theorem mG_295 : Cond.fieldLink "LazyForge$Program" 64 "LazyForge$Program" "tops" "I" ∈ uG := uG_at 295 (by decide +kernel) (by decide +kernel)
theorem mG_300 : Cond.fieldLink "LazyForge$Program" 67 "LazyForge$Program" "functions" "I" ∈ uG := uG_at 300 (by decide +kernel) (by decide +kernel)
theorem mG_304 : Cond.fieldLink "LazyForge$Program" 70 "LazyForge$Program" "main" "I" ∈ uG := uG_at 304 (by decide +kernel) (by decide +kernel)
theorem mG_413 : Cond.fieldLink "LazyForge$Tree" 37 "LazyForge$Tree" "count" "I" ∈ uG := uG_at 413 (by decide +kernel) (by decide +kernel)
theorem mG_458 : Cond.fieldLink "LazyForge$Scopes" 52 "LazyForge$Scopes" "count" "I" ∈ uG := uG_at 458 (by decide +kernel) (by decide +kernel)
theorem mG_470 : Cond.fieldLink "LazyForge$Scopes" 56 "LazyForge$Scopes" "uses" "I" ∈ uG := uG_at 470 (by decide +kernel) (by decide +kernel)
theorem mG_904 : Cond.constantLong "LazyForge$Program" 56 302282208101 ∈ uG := uG_at 904 (by decide +kernel) (by decide +kernel)
theorem mG_905 : Cond.methodLink "LazyForge$Program" 58 yX4_addConstructor ∈ uG := uG_at 905 (by decide +kernel) (by decide +kernel)
theorem mG_906 : Cond.instanceMethod yX4_addConstructor ∈ uG := uG_at 906 (by decide +kernel) (by decide +kernel)
theorem mG_907 : Cond.selects "LazyForge$Program" yX4_addConstructor yX4_addConstructor ∈ uG := uG_at 907 (by decide +kernel) (by decide +kernel)
theorem mG_908 : Cond.code yX4_addConstructor prog_6_method_3_code 4 none ∈ uG := uG_at 908 (by decide +kernel) (by decide +kernel)
theorem mG_909 : Cond.constantLong "LazyForge$Program" 62 1416787301 ∈ uG := uG_at 909 (by decide +kernel) (by decide +kernel)
theorem mG_1092 : Cond.methodLink "LazyForge$Program" 73 yX4_addFunction ∈ uG := uG_at 1092 (by decide +kernel) (by decide +kernel)
theorem mG_1093 : Cond.instanceMethod yX4_addFunction ∈ uG := uG_at 1093 (by decide +kernel) (by decide +kernel)
theorem mG_1094 : Cond.selects "LazyForge$Program" yX4_addFunction yX4_addFunction ∈ uG := uG_at 1094 (by decide +kernel) (by decide +kernel)
theorem mG_1095 : Cond.code yX4_addFunction prog_6_method_7_code 2 (some .int) ∈ uG := uG_at 1095 (by decide +kernel) (by decide +kernel)
theorem mG_1108 : Cond.methodLink "LazyForge$Scopes" 59 yX6_variableIn ∈ uG := uG_at 1108 (by decide +kernel) (by decide +kernel)
theorem mG_1110 : Cond.instanceMethod yX6_variableIn ∈ uG := uG_at 1110 (by decide +kernel) (by decide +kernel)
theorem mG_1111 : Cond.code yX6_variableIn prog_8_method_7_code 5 (some .int) ∈ uG := uG_at 1111 (by decide +kernel) (by decide +kernel)
theorem mG_1148 : Cond.methodLink "LazyForge$Tree" 41 yX9_add ∈ uG := uG_at 1148 (by decide +kernel) (by decide +kernel)
theorem mG_1149 : Cond.instanceMethod yX9_add ∈ uG := uG_at 1149 (by decide +kernel) (by decide +kernel)
theorem mG_1150 : Cond.selects "LazyForge$Tree" yX9_add yX9_add ∈ uG := uG_at 1150 (by decide +kernel) (by decide +kernel)
theorem mG_1151 : Cond.code yX9_add prog_11_method_3_code 5 (some .int) ∈ uG := uG_at 1151 (by decide +kernel) (by decide +kernel)
theorem mG_1302 : Cond.methodLink "LazyForge$Tree" 45 yJ9_max_7cf53 ∈ uG := uG_at 1302 (by decide +kernel) (by decide +kernel)
theorem mG_1303 : Cond.methodLink "LazyForge$Tree" 51 yX9_span ∈ uG := uG_at 1303 (by decide +kernel) (by decide +kernel)
theorem mG_1304 : Cond.static yX9_span ∈ uG := uG_at 1304 (by decide +kernel) (by decide +kernel)
theorem mG_1305 : Cond.code yX9_span prog_11_method_8_code 2 (some .long) ∈ uG := uG_at 1305 (by decide +kernel) (by decide +kernel)
theorem mG_1306 : Cond.methodLink "LazyForge$Tree" 55 yX9_isPart ∈ uG := uG_at 1306 (by decide +kernel) (by decide +kernel)
theorem mG_1307 : Cond.static yX9_isPart ∈ uG := uG_at 1307 (by decide +kernel) (by decide +kernel)
theorem mG_1308 : Cond.code yX9_isPart prog_11_method_9_code 1 (some .boolean) ∈ uG := uG_at 1308 (by decide +kernel) (by decide +kernel)
theorem mG_1309 : Cond.constantLong "LazyForge$Tree" 59 (-1) ∈ uG := uG_at 1309 (by decide +kernel) (by decide +kernel)
theorem dX4_addConstructor_0 : decode cX4_addConstructor 0 = .ok (.aload_n 0, 1) := by decide +kernel
theorem dX4_addConstructor_1 : decode cX4_addConstructor 1 = .ok (.getfield 52, 3) := by decide +kernel
theorem dX4_addConstructor_4 : decode cX4_addConstructor 4 = .ok (.bipush 30, 2) := by decide +kernel
theorem dX4_addConstructor_6 : decode cX4_addConstructor 6 = .ok (.if_icmp .ge 33, 3) := by decide +kernel
theorem dX4_addConstructor_9 : decode cX4_addConstructor 9 = .ok (.aload_n 0, 1) := by decide +kernel
theorem dX4_addConstructor_10 : decode cX4_addConstructor 10 = .ok (.getfield 9, 3) := by decide +kernel
theorem dX4_addConstructor_13 : decode cX4_addConstructor 13 = .ok (.aload_n 0, 1) := by decide +kernel
theorem dX4_addConstructor_14 : decode cX4_addConstructor 14 = .ok (.getfield 52, 3) := by decide +kernel
theorem dX4_addConstructor_17 : decode cX4_addConstructor 17 = .ok (.lload_n 1, 1) := by decide +kernel
theorem dX4_addConstructor_18 : decode cX4_addConstructor 18 = .ok (.lastore, 1) := by decide +kernel
theorem dX4_addConstructor_19 : decode cX4_addConstructor 19 = .ok (.aload_n 0, 1) := by decide +kernel
theorem dX4_addConstructor_20 : decode cX4_addConstructor 20 = .ok (.getfield 15, 3) := by decide +kernel
theorem dX4_addConstructor_23 : decode cX4_addConstructor 23 = .ok (.aload_n 0, 1) := by decide +kernel
theorem dX4_addConstructor_24 : decode cX4_addConstructor 24 = .ok (.getfield 52, 3) := by decide +kernel
theorem dX4_addConstructor_27 : decode cX4_addConstructor 27 = .ok (.iload_n 3, 1) := by decide +kernel
theorem dX4_addConstructor_28 : decode cX4_addConstructor 28 = .ok (.iastore, 1) := by decide +kernel
theorem dX4_addConstructor_29 : decode cX4_addConstructor 29 = .ok (.aload_n 0, 1) := by decide +kernel
theorem dX4_addConstructor_30 : decode cX4_addConstructor 30 = .ok (.dup, 1) := by decide +kernel
theorem dX4_addConstructor_31 : decode cX4_addConstructor 31 = .ok (.getfield 52, 3) := by decide +kernel
theorem dX4_addConstructor_34 : decode cX4_addConstructor 34 = .ok (.iconst 1, 1) := by decide +kernel
theorem dX4_addConstructor_35 : decode cX4_addConstructor 35 = .ok (.iadd, 1) := by decide +kernel
theorem dX4_addConstructor_36 : decode cX4_addConstructor 36 = .ok (.putfield 52, 3) := by decide +kernel
theorem dX4_addConstructor_39 : decode cX4_addConstructor 39 = .ok (.return_, 1) := by decide +kernel
theorem dX4_addFunction_0 : decode cX4_addFunction 0 = .ok (.aload_n 0, 1) := by decide +kernel
theorem dX4_addFunction_1 : decode cX4_addFunction 1 = .ok (.getfield 67, 3) := by decide +kernel
theorem dX4_addFunction_4 : decode cX4_addFunction 4 = .ok (.sipush 630, 3) := by decide +kernel
theorem dX4_addFunction_7 : decode cX4_addFunction 7 = .ok (.if_icmp .lt 5, 3) := by decide +kernel
theorem dX4_addFunction_10 : decode cX4_addFunction 10 = .ok (.iconst 0, 1) := by decide +kernel
theorem dX4_addFunction_11 : decode cX4_addFunction 11 = .ok (.ireturn, 1) := by decide +kernel
theorem dX4_addFunction_12 : decode cX4_addFunction 12 = .ok (.aload_n 0, 1) := by decide +kernel
theorem dX4_addFunction_13 : decode cX4_addFunction 13 = .ok (.getfield 37, 3) := by decide +kernel
theorem dX4_addFunction_16 : decode cX4_addFunction 16 = .ok (.aload_n 0, 1) := by decide +kernel
theorem dX4_addFunction_17 : decode cX4_addFunction 17 = .ok (.getfield 67, 3) := by decide +kernel
theorem dX4_addFunction_20 : decode cX4_addFunction 20 = .ok (.iload_n 1, 1) := by decide +kernel
theorem dX4_addFunction_21 : decode cX4_addFunction 21 = .ok (.iastore, 1) := by decide +kernel
theorem dX4_addFunction_22 : decode cX4_addFunction 22 = .ok (.aload_n 0, 1) := by decide +kernel
theorem dX4_addFunction_23 : decode cX4_addFunction 23 = .ok (.getfield 25, 3) := by decide +kernel
theorem dX4_addFunction_26 : decode cX4_addFunction 26 = .ok (.aload_n 0, 1) := by decide +kernel
theorem dX4_addFunction_27 : decode cX4_addFunction 27 = .ok (.getfield 67, 3) := by decide +kernel
theorem dX4_addFunction_30 : decode cX4_addFunction 30 = .ok (.iconst 0, 1) := by decide +kernel
theorem dX4_addFunction_31 : decode cX4_addFunction 31 = .ok (.iastore, 1) := by decide +kernel
theorem dX4_addFunction_32 : decode cX4_addFunction 32 = .ok (.aload_n 0, 1) := by decide +kernel
theorem dX4_addFunction_33 : decode cX4_addFunction 33 = .ok (.getfield 46, 3) := by decide +kernel
theorem dX4_addFunction_36 : decode cX4_addFunction 36 = .ok (.aload_n 0, 1) := by decide +kernel
theorem dX4_addFunction_37 : decode cX4_addFunction 37 = .ok (.getfield 67, 3) := by decide +kernel
theorem dX4_addFunction_40 : decode cX4_addFunction 40 = .ok (.iconst 0, 1) := by decide +kernel
theorem dX4_addFunction_41 : decode cX4_addFunction 41 = .ok (.iastore, 1) := by decide +kernel
theorem dX4_addFunction_42 : decode cX4_addFunction 42 = .ok (.aload_n 0, 1) := by decide +kernel
theorem dX4_addFunction_43 : decode cX4_addFunction 43 = .ok (.dup, 1) := by decide +kernel
theorem dX4_addFunction_44 : decode cX4_addFunction 44 = .ok (.getfield 67, 3) := by decide +kernel
theorem dX4_addFunction_47 : decode cX4_addFunction 47 = .ok (.iconst 1, 1) := by decide +kernel
theorem dX4_addFunction_48 : decode cX4_addFunction 48 = .ok (.iadd, 1) := by decide +kernel
theorem dX4_addFunction_49 : decode cX4_addFunction 49 = .ok (.putfield 67, 3) := by decide +kernel
theorem dX4_addFunction_52 : decode cX4_addFunction 52 = .ok (.aload_n 0, 1) := by decide +kernel
theorem dX4_addFunction_53 : decode cX4_addFunction 53 = .ok (.getfield 67, 3) := by decide +kernel
theorem dX4_addFunction_56 : decode cX4_addFunction 56 = .ok (.iconst 1, 1) := by decide +kernel
theorem dX4_addFunction_57 : decode cX4_addFunction 57 = .ok (.isub, 1) := by decide +kernel
theorem dX4_addFunction_58 : decode cX4_addFunction 58 = .ok (.ireturn, 1) := by decide +kernel
theorem dX4_addTop_0 : decode cX4_addTop 0 = .ok (.aload_n 0, 1) := by decide +kernel
theorem dX4_addTop_1 : decode cX4_addTop 1 = .ok (.getfield 64, 3) := by decide +kernel
theorem dX4_addTop_4 : decode cX4_addTop 4 = .ok (.bipush 30, 2) := by decide +kernel
theorem dX4_addTop_6 : decode cX4_addTop 6 = .ok (.if_icmp .ge 29, 3) := by decide +kernel
theorem dX4_addTop_9 : decode cX4_addTop 9 = .ok (.aload_n 0, 1) := by decide +kernel
theorem dX4_addTop_10 : decode cX4_addTop 10 = .ok (.getfield 19, 3) := by decide +kernel
theorem dX4_addTop_13 : decode cX4_addTop 13 = .ok (.aload_n 0, 1) := by decide +kernel
theorem dX4_addTop_14 : decode cX4_addTop 14 = .ok (.getfield 64, 3) := by decide +kernel
theorem dX4_addTop_17 : decode cX4_addTop 17 = .ok (.lload_n 1, 1) := by decide +kernel
theorem dX4_addTop_18 : decode cX4_addTop 18 = .ok (.lastore, 1) := by decide +kernel
theorem dX4_addTop_19 : decode cX4_addTop 19 = .ok (.aload_n 0, 1) := by decide +kernel
theorem dX4_addTop_20 : decode cX4_addTop 20 = .ok (.dup, 1) := by decide +kernel
theorem dX4_addTop_21 : decode cX4_addTop 21 = .ok (.getfield 64, 3) := by decide +kernel
theorem dX4_addTop_24 : decode cX4_addTop 24 = .ok (.iconst 1, 1) := by decide +kernel
theorem dX4_addTop_25 : decode cX4_addTop 25 = .ok (.iadd, 1) := by decide +kernel
theorem dX4_addTop_26 : decode cX4_addTop 26 = .ok (.putfield 64, 3) := by decide +kernel
theorem dX4_addTop_29 : decode cX4_addTop 29 = .ok (.aload_n 0, 1) := by decide +kernel
theorem dX4_addTop_30 : decode cX4_addTop 30 = .ok (.iload_n 3, 1) := by decide +kernel
theorem dX4_addTop_31 : decode cX4_addTop 31 = .ok (.invokevirtual 73, 3) := by decide +kernel
theorem dX4_addTop_34 : decode cX4_addTop 34 = .ok (.pop, 1) := by decide +kernel
theorem dX4_addTop_35 : decode cX4_addTop 35 = .ok (.return_, 1) := by decide +kernel
theorem dX4_clear_0 : decode cX4_clear 0 = .ok (.aload_n 0, 1) := by decide +kernel
theorem dX4_clear_1 : decode cX4_clear 1 = .ok (.iconst 0, 1) := by decide +kernel
theorem dX4_clear_2 : decode cX4_clear 2 = .ok (.putfield 52, 3) := by decide +kernel
theorem dX4_clear_5 : decode cX4_clear 5 = .ok (.aload_n 0, 1) := by decide +kernel
theorem dX4_clear_6 : decode cX4_clear 6 = .ok (.ldc2_w 56, 3) := by decide +kernel
theorem dX4_clear_9 : decode cX4_clear 9 = .ok (.iconst 0, 1) := by decide +kernel
theorem dX4_clear_10 : decode cX4_clear 10 = .ok (.invokevirtual 58, 3) := by decide +kernel
theorem dX4_clear_13 : decode cX4_clear 13 = .ok (.aload_n 0, 1) := by decide +kernel
theorem dX4_clear_14 : decode cX4_clear 14 = .ok (.ldc2_w 62, 3) := by decide +kernel
theorem dX4_clear_17 : decode cX4_clear 17 = .ok (.iconst 0, 1) := by decide +kernel
theorem dX4_clear_18 : decode cX4_clear 18 = .ok (.invokevirtual 58, 3) := by decide +kernel
theorem dX4_clear_21 : decode cX4_clear 21 = .ok (.aload_n 0, 1) := by decide +kernel
theorem dX4_clear_22 : decode cX4_clear 22 = .ok (.iconst 0, 1) := by decide +kernel
theorem dX4_clear_23 : decode cX4_clear 23 = .ok (.putfield 64, 3) := by decide +kernel
theorem dX4_clear_26 : decode cX4_clear 26 = .ok (.aload_n 0, 1) := by decide +kernel
theorem dX4_clear_27 : decode cX4_clear 27 = .ok (.iconst 0, 1) := by decide +kernel
theorem dX4_clear_28 : decode cX4_clear 28 = .ok (.putfield 67, 3) := by decide +kernel
theorem dX4_clear_31 : decode cX4_clear 31 = .ok (.aload_n 0, 1) := by decide +kernel
theorem dX4_clear_32 : decode cX4_clear 32 = .ok (.iconst (-1), 1) := by decide +kernel
theorem dX4_clear_33 : decode cX4_clear 33 = .ok (.putfield 70, 3) := by decide +kernel
theorem dX4_clear_36 : decode cX4_clear 36 = .ok (.return_, 1) := by decide +kernel
theorem dX4_constructorOf_0 : decode cX4_constructorOf 0 = .ok (.iconst 0, 1) := by decide +kernel
theorem dX4_constructorOf_1 : decode cX4_constructorOf 1 = .ok (.istore_n 3, 1) := by decide +kernel
theorem dX4_constructorOf_2 : decode cX4_constructorOf 2 = .ok (.iload_n 3, 1) := by decide +kernel
theorem dX4_constructorOf_3 : decode cX4_constructorOf 3 = .ok (.aload_n 0, 1) := by decide +kernel
theorem dX4_constructorOf_4 : decode cX4_constructorOf 4 = .ok (.getfield 52, 3) := by decide +kernel
theorem dX4_constructorOf_7 : decode cX4_constructorOf 7 = .ok (.if_icmp .ge 22, 3) := by decide +kernel
theorem dX4_constructorOf_10 : decode cX4_constructorOf 10 = .ok (.aload_n 0, 1) := by decide +kernel
theorem dX4_constructorOf_11 : decode cX4_constructorOf 11 = .ok (.getfield 9, 3) := by decide +kernel
theorem dX4_constructorOf_14 : decode cX4_constructorOf 14 = .ok (.iload_n 3, 1) := by decide +kernel
theorem dX4_constructorOf_15 : decode cX4_constructorOf 15 = .ok (.laload, 1) := by decide +kernel
theorem dX4_constructorOf_16 : decode cX4_constructorOf 16 = .ok (.lload_n 1, 1) := by decide +kernel
theorem dX4_constructorOf_17 : decode cX4_constructorOf 17 = .ok (.lcmp, 1) := by decide +kernel
theorem dX4_constructorOf_18 : decode cX4_constructorOf 18 = .ok (.ifCond .ne 5, 3) := by decide +kernel
theorem dX4_constructorOf_21 : decode cX4_constructorOf 21 = .ok (.iload_n 3, 1) := by decide +kernel
theorem dX4_constructorOf_22 : decode cX4_constructorOf 22 = .ok (.ireturn, 1) := by decide +kernel
theorem dX4_constructorOf_23 : decode cX4_constructorOf 23 = .ok (.iinc 3 1, 3) := by decide +kernel
theorem dX4_constructorOf_26 : decode cX4_constructorOf 26 = .ok (.goto (-24), 3) := by decide +kernel
theorem dX4_constructorOf_29 : decode cX4_constructorOf 29 = .ok (.iconst (-1), 1) := by decide +kernel
theorem dX4_constructorOf_30 : decode cX4_constructorOf 30 = .ok (.ireturn, 1) := by decide +kernel
theorem dX4_needsParameter_0 : decode cX4_needsParameter 0 = .ok (.aload_n 0, 1) := by decide +kernel
theorem dX4_needsParameter_1 : decode cX4_needsParameter 1 = .ok (.getfield 49, 3) := by decide +kernel
theorem dX4_needsParameter_4 : decode cX4_needsParameter 4 = .ok (.iload_n 1, 1) := by decide +kernel
theorem dX4_needsParameter_5 : decode cX4_needsParameter 5 = .ok (.iaload, 1) := by decide +kernel
theorem dX4_needsParameter_6 : decode cX4_needsParameter 6 = .ok (.iload_n 2, 1) := by decide +kernel
theorem dX4_needsParameter_7 : decode cX4_needsParameter 7 = .ok (.iushr, 1) := by decide +kernel
theorem dX4_needsParameter_8 : decode cX4_needsParameter 8 = .ok (.iconst 1, 1) := by decide +kernel
theorem dX4_needsParameter_9 : decode cX4_needsParameter 9 = .ok (.iand, 1) := by decide +kernel
theorem dX4_needsParameter_10 : decode cX4_needsParameter 10 = .ok (.ifCond .eq 7, 3) := by decide +kernel
theorem dX4_needsParameter_13 : decode cX4_needsParameter 13 = .ok (.iconst 1, 1) := by decide +kernel
theorem dX4_needsParameter_14 : decode cX4_needsParameter 14 = .ok (.goto 4, 3) := by decide +kernel
theorem dX4_needsParameter_17 : decode cX4_needsParameter 17 = .ok (.iconst 0, 1) := by decide +kernel
theorem dX4_needsParameter_18 : decode cX4_needsParameter 18 = .ok (.ireturn, 1) := by decide +kernel
theorem dX4_topOf_0 : decode cX4_topOf 0 = .ok (.iconst 0, 1) := by decide +kernel
theorem dX4_topOf_1 : decode cX4_topOf 1 = .ok (.istore_n 3, 1) := by decide +kernel
theorem dX4_topOf_2 : decode cX4_topOf 2 = .ok (.iload_n 3, 1) := by decide +kernel
theorem dX4_topOf_3 : decode cX4_topOf 3 = .ok (.aload_n 0, 1) := by decide +kernel
theorem dX4_topOf_4 : decode cX4_topOf 4 = .ok (.getfield 64, 3) := by decide +kernel
theorem dX4_topOf_7 : decode cX4_topOf 7 = .ok (.if_icmp .ge 22, 3) := by decide +kernel
theorem dX4_topOf_10 : decode cX4_topOf 10 = .ok (.aload_n 0, 1) := by decide +kernel
theorem dX4_topOf_11 : decode cX4_topOf 11 = .ok (.getfield 19, 3) := by decide +kernel
theorem dX4_topOf_14 : decode cX4_topOf 14 = .ok (.iload_n 3, 1) := by decide +kernel
theorem dX4_topOf_15 : decode cX4_topOf 15 = .ok (.laload, 1) := by decide +kernel
theorem dX4_topOf_16 : decode cX4_topOf 16 = .ok (.lload_n 1, 1) := by decide +kernel
theorem dX4_topOf_17 : decode cX4_topOf 17 = .ok (.lcmp, 1) := by decide +kernel
theorem dX4_topOf_18 : decode cX4_topOf 18 = .ok (.ifCond .ne 5, 3) := by decide +kernel
theorem dX4_topOf_21 : decode cX4_topOf 21 = .ok (.iload_n 3, 1) := by decide +kernel
theorem dX4_topOf_22 : decode cX4_topOf 22 = .ok (.ireturn, 1) := by decide +kernel
theorem dX4_topOf_23 : decode cX4_topOf 23 = .ok (.iinc 3 1, 3) := by decide +kernel
theorem dX4_topOf_26 : decode cX4_topOf 26 = .ok (.goto (-24), 3) := by decide +kernel
theorem dX4_topOf_29 : decode cX4_topOf 29 = .ok (.iconst (-1), 1) := by decide +kernel
theorem dX4_topOf_30 : decode cX4_topOf 30 = .ok (.ireturn, 1) := by decide +kernel
theorem dX6_add_0 : decode cX6_add 0 = .ok (.aload_n 0, 1) := by decide +kernel
theorem dX6_add_1 : decode cX6_add 1 = .ok (.getfield 52, 3) := by decide +kernel
theorem dX6_add_4 : decode cX6_add 4 = .ok (.sipush 700, 3) := by decide +kernel
theorem dX6_add_7 : decode cX6_add 7 = .ok (.if_icmp .lt 5, 3) := by decide +kernel
theorem dX6_add_10 : decode cX6_add 10 = .ok (.iconst 0, 1) := by decide +kernel
theorem dX6_add_11 : decode cX6_add 11 = .ok (.ireturn, 1) := by decide +kernel
theorem dX6_add_12 : decode cX6_add 12 = .ok (.aload_n 0, 1) := by decide +kernel
theorem dX6_add_13 : decode cX6_add 13 = .ok (.getfield 15, 3) := by decide +kernel
theorem dX6_add_16 : decode cX6_add 16 = .ok (.aload_n 0, 1) := by decide +kernel
theorem dX6_add_17 : decode cX6_add 17 = .ok (.getfield 52, 3) := by decide +kernel
theorem dX6_add_20 : decode cX6_add 20 = .ok (.iconst 0, 1) := by decide +kernel
theorem dX6_add_21 : decode cX6_add 21 = .ok (.iastore, 1) := by decide +kernel
theorem dX6_add_22 : decode cX6_add 22 = .ok (.aload_n 0, 1) := by decide +kernel
theorem dX6_add_23 : decode cX6_add 23 = .ok (.getfield 19, 3) := by decide +kernel
theorem dX6_add_26 : decode cX6_add 26 = .ok (.aload_n 0, 1) := by decide +kernel
theorem dX6_add_27 : decode cX6_add 27 = .ok (.getfield 52, 3) := by decide +kernel
theorem dX6_add_30 : decode cX6_add 30 = .ok (.iload_n 1, 1) := by decide +kernel
theorem dX6_add_31 : decode cX6_add 31 = .ok (.iastore, 1) := by decide +kernel
theorem dX6_add_32 : decode cX6_add 32 = .ok (.aload_n 0, 1) := by decide +kernel
theorem dX6_add_33 : decode cX6_add 33 = .ok (.getfield 28, 3) := by decide +kernel
theorem dX6_add_36 : decode cX6_add 36 = .ok (.aload_n 0, 1) := by decide +kernel
theorem dX6_add_37 : decode cX6_add 37 = .ok (.getfield 52, 3) := by decide +kernel
theorem dX6_add_40 : decode cX6_add 40 = .ok (.iload_n 2, 1) := by decide +kernel
theorem dX6_add_41 : decode cX6_add 41 = .ok (.iastore, 1) := by decide +kernel
theorem dX6_add_42 : decode cX6_add 42 = .ok (.aload_n 0, 1) := by decide +kernel
theorem dX6_add_43 : decode cX6_add 43 = .ok (.getfield 22, 3) := by decide +kernel
theorem dX6_add_46 : decode cX6_add 46 = .ok (.aload_n 0, 1) := by decide +kernel
theorem dX6_add_47 : decode cX6_add 47 = .ok (.getfield 52, 3) := by decide +kernel
theorem dX6_add_50 : decode cX6_add 50 = .ok (.iload_n 3, 1) := by decide +kernel
theorem dX6_add_51 : decode cX6_add 51 = .ok (.ifCond .ne 8, 3) := by decide +kernel
theorem dX6_add_54 : decode cX6_add 54 = .ok (.iload_n 1, 1) := by decide +kernel
theorem dX6_add_55 : decode cX6_add 55 = .ok (.iconst (-1), 1) := by decide +kernel
theorem dX6_add_56 : decode cX6_add 56 = .ok (.if_icmp .ne 10, 3) := by decide +kernel
theorem dX6_add_59 : decode cX6_add 59 = .ok (.aload_n 0, 1) := by decide +kernel
theorem dX6_add_60 : decode cX6_add 60 = .ok (.getfield 52, 3) := by decide +kernel
theorem dX6_add_63 : decode cX6_add 63 = .ok (.goto 9, 3) := by decide +kernel
theorem dX6_add_66 : decode cX6_add 66 = .ok (.aload_n 0, 1) := by decide +kernel
theorem dX6_add_67 : decode cX6_add 67 = .ok (.getfield 22, 3) := by decide +kernel
theorem dX6_add_70 : decode cX6_add 70 = .ok (.iload_n 1, 1) := by decide +kernel
theorem dX6_add_71 : decode cX6_add 71 = .ok (.iaload, 1) := by decide +kernel
theorem dX6_add_72 : decode cX6_add 72 = .ok (.iastore, 1) := by decide +kernel
theorem dX6_add_73 : decode cX6_add 73 = .ok (.aload_n 0, 1) := by decide +kernel
theorem dX6_add_74 : decode cX6_add 74 = .ok (.dup, 1) := by decide +kernel
theorem dX6_add_75 : decode cX6_add 75 = .ok (.getfield 52, 3) := by decide +kernel
theorem dX6_add_78 : decode cX6_add 78 = .ok (.iconst 1, 1) := by decide +kernel
theorem dX6_add_79 : decode cX6_add 79 = .ok (.iadd, 1) := by decide +kernel
theorem dX6_add_80 : decode cX6_add 80 = .ok (.putfield 52, 3) := by decide +kernel
theorem dX6_add_83 : decode cX6_add 83 = .ok (.aload_n 0, 1) := by decide +kernel
theorem dX6_add_84 : decode cX6_add 84 = .ok (.getfield 52, 3) := by decide +kernel
theorem dX6_add_87 : decode cX6_add 87 = .ok (.iconst 1, 1) := by decide +kernel
theorem dX6_add_88 : decode cX6_add 88 = .ok (.isub, 1) := by decide +kernel
theorem dX6_add_89 : decode cX6_add 89 = .ok (.ireturn, 1) := by decide +kernel
theorem dX6_addName_0 : decode cX6_addName 0 = .ok (.iload_n 1, 1) := by decide +kernel
theorem dX6_addName_1 : decode cX6_addName 1 = .ok (.iconst 5, 1) := by decide +kernel
theorem dX6_addName_2 : decode cX6_addName 2 = .ok (.imul, 1) := by decide +kernel
theorem dX6_addName_3 : decode cX6_addName 3 = .ok (.aload_n 0, 1) := by decide +kernel
theorem dX6_addName_4 : decode cX6_addName 4 = .ok (.getfield 15, 3) := by decide +kernel
theorem dX6_addName_7 : decode cX6_addName 7 = .ok (.iload_n 1, 1) := by decide +kernel
theorem dX6_addName_8 : decode cX6_addName 8 = .ok (.iaload, 1) := by decide +kernel
theorem dX6_addName_9 : decode cX6_addName 9 = .ok (.iadd, 1) := by decide +kernel
theorem dX6_addName_10 : decode cX6_addName 10 = .ok (.istore 4, 2) := by decide +kernel
theorem dX6_addName_12 : decode cX6_addName 12 = .ok (.aload_n 0, 1) := by decide +kernel
theorem dX6_addName_13 : decode cX6_addName 13 = .ok (.getfield 9, 3) := by decide +kernel
theorem dX6_addName_16 : decode cX6_addName 16 = .ok (.iload 4, 2) := by decide +kernel
theorem dX6_addName_18 : decode cX6_addName 18 = .ok (.lload_n 2, 1) := by decide +kernel
theorem dX6_addName_19 : decode cX6_addName 19 = .ok (.lastore, 1) := by decide +kernel
theorem dX6_addName_20 : decode cX6_addName 20 = .ok (.aload_n 0, 1) := by decide +kernel
theorem dX6_addName_21 : decode cX6_addName 21 = .ok (.getfield 15, 3) := by decide +kernel
theorem dX6_addName_24 : decode cX6_addName 24 = .ok (.iload_n 1, 1) := by decide +kernel
theorem dX6_addName_25 : decode cX6_addName 25 = .ok (.dup2, 1) := by decide +kernel
theorem dX6_addName_26 : decode cX6_addName 26 = .ok (.iaload, 1) := by decide +kernel
theorem dX6_addName_27 : decode cX6_addName 27 = .ok (.iconst 1, 1) := by decide +kernel
theorem dX6_addName_28 : decode cX6_addName 28 = .ok (.iadd, 1) := by decide +kernel
theorem dX6_addName_29 : decode cX6_addName 29 = .ok (.iastore, 1) := by decide +kernel
theorem dX6_addName_30 : decode cX6_addName 30 = .ok (.iload 4, 2) := by decide +kernel
theorem dX6_addName_32 : decode cX6_addName 32 = .ok (.ireturn, 1) := by decide +kernel
theorem dX6_addUse_0 : decode cX6_addUse 0 = .ok (.aload_n 0, 1) := by decide +kernel
theorem dX6_addUse_1 : decode cX6_addUse 1 = .ok (.getfield 56, 3) := by decide +kernel
theorem dX6_addUse_4 : decode cX6_addUse 4 = .ok (.sipush 600, 3) := by decide +kernel
theorem dX6_addUse_7 : decode cX6_addUse 7 = .ok (.if_icmp .ge 55, 3) := by decide +kernel
theorem dX6_addUse_10 : decode cX6_addUse 10 = .ok (.aload_n 0, 1) := by decide +kernel
theorem dX6_addUse_11 : decode cX6_addUse 11 = .ok (.getfield 37, 3) := by decide +kernel
theorem dX6_addUse_14 : decode cX6_addUse 14 = .ok (.aload_n 0, 1) := by decide +kernel
theorem dX6_addUse_15 : decode cX6_addUse 15 = .ok (.getfield 56, 3) := by decide +kernel
theorem dX6_addUse_18 : decode cX6_addUse 18 = .ok (.lload_n 1, 1) := by decide +kernel
theorem dX6_addUse_19 : decode cX6_addUse 19 = .ok (.lastore, 1) := by decide +kernel
theorem dX6_addUse_20 : decode cX6_addUse 20 = .ok (.aload_n 0, 1) := by decide +kernel
theorem dX6_addUse_21 : decode cX6_addUse 21 = .ok (.getfield 40, 3) := by decide +kernel
theorem dX6_addUse_24 : decode cX6_addUse 24 = .ok (.aload_n 0, 1) := by decide +kernel
theorem dX6_addUse_25 : decode cX6_addUse 25 = .ok (.getfield 56, 3) := by decide +kernel
theorem dX6_addUse_28 : decode cX6_addUse 28 = .ok (.iload_n 3, 1) := by decide +kernel
theorem dX6_addUse_29 : decode cX6_addUse 29 = .ok (.iastore, 1) := by decide +kernel
theorem dX6_addUse_30 : decode cX6_addUse 30 = .ok (.aload_n 0, 1) := by decide +kernel
theorem dX6_addUse_31 : decode cX6_addUse 31 = .ok (.getfield 43, 3) := by decide +kernel
theorem dX6_addUse_34 : decode cX6_addUse 34 = .ok (.aload_n 0, 1) := by decide +kernel
theorem dX6_addUse_35 : decode cX6_addUse 35 = .ok (.getfield 56, 3) := by decide +kernel
theorem dX6_addUse_38 : decode cX6_addUse 38 = .ok (.iload 4, 2) := by decide +kernel
theorem dX6_addUse_40 : decode cX6_addUse 40 = .ok (.iastore, 1) := by decide +kernel
theorem dX6_addUse_41 : decode cX6_addUse 41 = .ok (.aload_n 0, 1) := by decide +kernel
theorem dX6_addUse_42 : decode cX6_addUse 42 = .ok (.getfield 46, 3) := by decide +kernel
theorem dX6_addUse_45 : decode cX6_addUse 45 = .ok (.aload_n 0, 1) := by decide +kernel
theorem dX6_addUse_46 : decode cX6_addUse 46 = .ok (.getfield 56, 3) := by decide +kernel
theorem dX6_addUse_49 : decode cX6_addUse 49 = .ok (.iload 5, 2) := by decide +kernel
theorem dX6_addUse_51 : decode cX6_addUse 51 = .ok (.iastore, 1) := by decide +kernel
theorem dX6_addUse_52 : decode cX6_addUse 52 = .ok (.aload_n 0, 1) := by decide +kernel
theorem dX6_addUse_53 : decode cX6_addUse 53 = .ok (.dup, 1) := by decide +kernel
theorem dX6_addUse_54 : decode cX6_addUse 54 = .ok (.getfield 56, 3) := by decide +kernel
theorem dX6_addUse_57 : decode cX6_addUse 57 = .ok (.iconst 1, 1) := by decide +kernel
theorem dX6_addUse_58 : decode cX6_addUse 58 = .ok (.iadd, 1) := by decide +kernel
theorem dX6_addUse_59 : decode cX6_addUse 59 = .ok (.putfield 56, 3) := by decide +kernel
theorem dX6_addUse_62 : decode cX6_addUse 62 = .ok (.return_, 1) := by decide +kernel
theorem dX6_clear_0 : decode cX6_clear 0 = .ok (.aload_n 0, 1) := by decide +kernel
theorem dX6_clear_1 : decode cX6_clear 1 = .ok (.iconst 0, 1) := by decide +kernel
theorem dX6_clear_2 : decode cX6_clear 2 = .ok (.putfield 52, 3) := by decide +kernel
theorem dX6_clear_5 : decode cX6_clear 5 = .ok (.aload_n 0, 1) := by decide +kernel
theorem dX6_clear_6 : decode cX6_clear 6 = .ok (.iconst 0, 1) := by decide +kernel
theorem dX6_clear_7 : decode cX6_clear 7 = .ok (.putfield 56, 3) := by decide +kernel
theorem dX6_clear_10 : decode cX6_clear 10 = .ok (.return_, 1) := by decide +kernel
theorem dX6_find_0 : decode cX6_find 0 = .ok (.iload_n 1, 1) := by decide +kernel
theorem dX6_find_1 : decode cX6_find 1 = .ok (.istore 4, 2) := by decide +kernel
theorem dX6_find_3 : decode cX6_find 3 = .ok (.iconst 0, 1) := by decide +kernel
theorem dX6_find_4 : decode cX6_find 4 = .ok (.istore 5, 2) := by decide +kernel
theorem dX6_find_6 : decode cX6_find 6 = .ok (.iload 5, 2) := by decide +kernel
theorem dX6_find_8 : decode cX6_find 8 = .ok (.sipush 700, 3) := by decide +kernel
theorem dX6_find_11 : decode cX6_find 11 = .ok (.if_icmp .ge 42, 3) := by decide +kernel
theorem dX6_find_14 : decode cX6_find 14 = .ok (.iload 4, 2) := by decide +kernel
theorem dX6_find_16 : decode cX6_find 16 = .ok (.iconst (-1), 1) := by decide +kernel
theorem dX6_find_17 : decode cX6_find 17 = .ok (.if_icmp .eq 36, 3) := by decide +kernel
theorem dX6_find_20 : decode cX6_find 20 = .ok (.aload_n 0, 1) := by decide +kernel
theorem dX6_find_21 : decode cX6_find 21 = .ok (.iload 4, 2) := by decide +kernel
theorem dX6_find_23 : decode cX6_find 23 = .ok (.lload_n 2, 1) := by decide +kernel
theorem dX6_find_24 : decode cX6_find 24 = .ok (.invokevirtual 59, 3) := by decide +kernel
theorem dX6_find_27 : decode cX6_find 27 = .ok (.istore 6, 2) := by decide +kernel
theorem dX6_find_29 : decode cX6_find 29 = .ok (.iload 6, 2) := by decide +kernel
theorem dX6_find_31 : decode cX6_find 31 = .ok (.iconst (-1), 1) := by decide +kernel
theorem dX6_find_32 : decode cX6_find 32 = .ok (.if_icmp .eq 6, 3) := by decide +kernel
theorem dX6_find_35 : decode cX6_find 35 = .ok (.iload 6, 2) := by decide +kernel
theorem dX6_find_37 : decode cX6_find 37 = .ok (.ireturn, 1) := by decide +kernel
theorem dX6_find_38 : decode cX6_find 38 = .ok (.aload_n 0, 1) := by decide +kernel
theorem dX6_find_39 : decode cX6_find 39 = .ok (.getfield 19, 3) := by decide +kernel
theorem dX6_find_42 : decode cX6_find 42 = .ok (.iload 4, 2) := by decide +kernel
theorem dX6_find_44 : decode cX6_find 44 = .ok (.iaload, 1) := by decide +kernel
theorem dX6_find_45 : decode cX6_find 45 = .ok (.istore 4, 2) := by decide +kernel
theorem dX6_find_47 : decode cX6_find 47 = .ok (.iinc 5 1, 3) := by decide +kernel
theorem dX6_find_50 : decode cX6_find 50 = .ok (.goto (-44), 3) := by decide +kernel
theorem dX6_find_53 : decode cX6_find 53 = .ok (.iconst (-1), 1) := by decide +kernel
theorem dX6_find_54 : decode cX6_find 54 = .ok (.ireturn, 1) := by decide +kernel
theorem dX6_has_0 : decode cX6_has 0 = .ok (.aload_n 0, 1) := by decide +kernel
theorem dX6_has_1 : decode cX6_has 1 = .ok (.iload_n 1, 1) := by decide +kernel
theorem dX6_has_2 : decode cX6_has 2 = .ok (.lload_n 2, 1) := by decide +kernel
theorem dX6_has_3 : decode cX6_has 3 = .ok (.invokevirtual 59, 3) := by decide +kernel
theorem dX6_has_6 : decode cX6_has 6 = .ok (.iconst (-1), 1) := by decide +kernel
theorem dX6_has_7 : decode cX6_has 7 = .ok (.if_icmp .eq 7, 3) := by decide +kernel
theorem dX6_has_10 : decode cX6_has 10 = .ok (.iconst 1, 1) := by decide +kernel
theorem dX6_has_11 : decode cX6_has 11 = .ok (.goto 4, 3) := by decide +kernel
theorem dX6_has_14 : decode cX6_has 14 = .ok (.iconst 0, 1) := by decide +kernel
theorem dX6_has_15 : decode cX6_has 15 = .ok (.ireturn, 1) := by decide +kernel
theorem dX6_owns_0 : decode cX6_owns 0 = .ok (.aload_n 0, 1) := by decide +kernel
theorem dX6_owns_1 : decode cX6_owns 1 = .ok (.getfield 22, 3) := by decide +kernel
theorem dX6_owns_4 : decode cX6_owns 4 = .ok (.iload_n 1, 1) := by decide +kernel
theorem dX6_owns_5 : decode cX6_owns 5 = .ok (.iaload, 1) := by decide +kernel
theorem dX6_owns_6 : decode cX6_owns 6 = .ok (.iload_n 1, 1) := by decide +kernel
theorem dX6_owns_7 : decode cX6_owns 7 = .ok (.if_icmp .ne 7, 3) := by decide +kernel
theorem dX6_owns_10 : decode cX6_owns 10 = .ok (.iconst 1, 1) := by decide +kernel
theorem dX6_owns_11 : decode cX6_owns 11 = .ok (.goto 4, 3) := by decide +kernel
theorem dX6_owns_14 : decode cX6_owns 14 = .ok (.iconst 0, 1) := by decide +kernel
theorem dX6_owns_15 : decode cX6_owns 15 = .ok (.ireturn, 1) := by decide +kernel
theorem dX6_variableIn_0 : decode cX6_variableIn 0 = .ok (.iconst 0, 1) := by decide +kernel
theorem dX6_variableIn_1 : decode cX6_variableIn 1 = .ok (.istore 4, 2) := by decide +kernel
theorem dX6_variableIn_3 : decode cX6_variableIn 3 = .ok (.iload 4, 2) := by decide +kernel
theorem dX6_variableIn_5 : decode cX6_variableIn 5 = .ok (.aload_n 0, 1) := by decide +kernel
theorem dX6_variableIn_6 : decode cX6_variableIn 6 = .ok (.getfield 15, 3) := by decide +kernel
theorem dX6_variableIn_9 : decode cX6_variableIn 9 = .ok (.iload_n 1, 1) := by decide +kernel
theorem dX6_variableIn_10 : decode cX6_variableIn 10 = .ok (.iaload, 1) := by decide +kernel
theorem dX6_variableIn_11 : decode cX6_variableIn 11 = .ok (.if_icmp .ge 32, 3) := by decide +kernel
theorem dX6_variableIn_14 : decode cX6_variableIn 14 = .ok (.aload_n 0, 1) := by decide +kernel
theorem dX6_variableIn_15 : decode cX6_variableIn 15 = .ok (.getfield 9, 3) := by decide +kernel
theorem dX6_variableIn_18 : decode cX6_variableIn 18 = .ok (.iload_n 1, 1) := by decide +kernel
theorem dX6_variableIn_19 : decode cX6_variableIn 19 = .ok (.iconst 5, 1) := by decide +kernel
theorem dX6_variableIn_20 : decode cX6_variableIn 20 = .ok (.imul, 1) := by decide +kernel
theorem dX6_variableIn_21 : decode cX6_variableIn 21 = .ok (.iload 4, 2) := by decide +kernel
theorem dX6_variableIn_23 : decode cX6_variableIn 23 = .ok (.iadd, 1) := by decide +kernel
theorem dX6_variableIn_24 : decode cX6_variableIn 24 = .ok (.laload, 1) := by decide +kernel
theorem dX6_variableIn_25 : decode cX6_variableIn 25 = .ok (.lload_n 2, 1) := by decide +kernel
theorem dX6_variableIn_26 : decode cX6_variableIn 26 = .ok (.lcmp, 1) := by decide +kernel
theorem dX6_variableIn_27 : decode cX6_variableIn 27 = .ok (.ifCond .ne 10, 3) := by decide +kernel
theorem dX6_variableIn_30 : decode cX6_variableIn 30 = .ok (.iload_n 1, 1) := by decide +kernel
theorem dX6_variableIn_31 : decode cX6_variableIn 31 = .ok (.iconst 5, 1) := by decide +kernel
theorem dX6_variableIn_32 : decode cX6_variableIn 32 = .ok (.imul, 1) := by decide +kernel
theorem dX6_variableIn_33 : decode cX6_variableIn 33 = .ok (.iload 4, 2) := by decide +kernel
theorem dX6_variableIn_35 : decode cX6_variableIn 35 = .ok (.iadd, 1) := by decide +kernel
theorem dX6_variableIn_36 : decode cX6_variableIn 36 = .ok (.ireturn, 1) := by decide +kernel
theorem dX6_variableIn_37 : decode cX6_variableIn 37 = .ok (.iinc 4 1, 3) := by decide +kernel
theorem dX6_variableIn_40 : decode cX6_variableIn 40 = .ok (.goto (-37), 3) := by decide +kernel
theorem dX6_variableIn_43 : decode cX6_variableIn 43 = .ok (.iconst (-1), 1) := by decide +kernel
theorem dX6_variableIn_44 : decode cX6_variableIn 44 = .ok (.ireturn, 1) := by decide +kernel
theorem dX9_add_0 : decode cX9_add 0 = .ok (.aload_n 0, 1) := by decide +kernel
theorem dX9_add_1 : decode cX9_add 1 = .ok (.getfield 37, 3) := by decide +kernel
theorem dX9_add_4 : decode cX9_add 4 = .ok (.sipush 6200, 3) := by decide +kernel
theorem dX9_add_7 : decode cX9_add 7 = .ok (.if_icmp .lt 5, 3) := by decide +kernel
theorem dX9_add_10 : decode cX9_add 10 = .ok (.iconst 0, 1) := by decide +kernel
theorem dX9_add_11 : decode cX9_add 11 = .ok (.ireturn, 1) := by decide +kernel
theorem dX9_add_12 : decode cX9_add 12 = .ok (.aload_n 0, 1) := by decide +kernel
theorem dX9_add_13 : decode cX9_add 13 = .ok (.getfield 9, 3) := by decide +kernel
theorem dX9_add_16 : decode cX9_add 16 = .ok (.aload_n 0, 1) := by decide +kernel
theorem dX9_add_17 : decode cX9_add 17 = .ok (.getfield 37, 3) := by decide +kernel
theorem dX9_add_20 : decode cX9_add 20 = .ok (.iload_n 1, 1) := by decide +kernel
theorem dX9_add_21 : decode cX9_add 21 = .ok (.iastore, 1) := by decide +kernel
theorem dX9_add_22 : decode cX9_add 22 = .ok (.aload_n 0, 1) := by decide +kernel
theorem dX9_add_23 : decode cX9_add 23 = .ok (.getfield 15, 3) := by decide +kernel
theorem dX9_add_26 : decode cX9_add 26 = .ok (.aload_n 0, 1) := by decide +kernel
theorem dX9_add_27 : decode cX9_add 27 = .ok (.getfield 37, 3) := by decide +kernel
theorem dX9_add_30 : decode cX9_add 30 = .ok (.iload_n 2, 1) := by decide +kernel
theorem dX9_add_31 : decode cX9_add 31 = .ok (.iastore, 1) := by decide +kernel
theorem dX9_add_32 : decode cX9_add 32 = .ok (.aload_n 0, 1) := by decide +kernel
theorem dX9_add_33 : decode cX9_add 33 = .ok (.getfield 18, 3) := by decide +kernel
theorem dX9_add_36 : decode cX9_add 36 = .ok (.aload_n 0, 1) := by decide +kernel
theorem dX9_add_37 : decode cX9_add 37 = .ok (.getfield 37, 3) := by decide +kernel
theorem dX9_add_40 : decode cX9_add 40 = .ok (.iload_n 3, 1) := by decide +kernel
theorem dX9_add_41 : decode cX9_add 41 = .ok (.iastore, 1) := by decide +kernel
theorem dX9_add_42 : decode cX9_add 42 = .ok (.aload_n 0, 1) := by decide +kernel
theorem dX9_add_43 : decode cX9_add 43 = .ok (.getfield 21, 3) := by decide +kernel
theorem dX9_add_46 : decode cX9_add 46 = .ok (.aload_n 0, 1) := by decide +kernel
theorem dX9_add_47 : decode cX9_add 47 = .ok (.getfield 37, 3) := by decide +kernel
theorem dX9_add_50 : decode cX9_add 50 = .ok (.iload 4, 2) := by decide +kernel
theorem dX9_add_52 : decode cX9_add 52 = .ok (.iastore, 1) := by decide +kernel
theorem dX9_add_53 : decode cX9_add 53 = .ok (.aload_n 0, 1) := by decide +kernel
theorem dX9_add_54 : decode cX9_add 54 = .ok (.getfield 24, 3) := by decide +kernel
theorem dX9_add_57 : decode cX9_add 57 = .ok (.aload_n 0, 1) := by decide +kernel
theorem dX9_add_58 : decode cX9_add 58 = .ok (.getfield 37, 3) := by decide +kernel
theorem dX9_add_61 : decode cX9_add 61 = .ok (.iconst (-1), 1) := by decide +kernel
theorem dX9_add_62 : decode cX9_add 62 = .ok (.iastore, 1) := by decide +kernel
theorem dX9_add_63 : decode cX9_add 63 = .ok (.aload_n 0, 1) := by decide +kernel
theorem dX9_add_64 : decode cX9_add 64 = .ok (.dup, 1) := by decide +kernel
theorem dX9_add_65 : decode cX9_add 65 = .ok (.getfield 37, 3) := by decide +kernel
theorem dX9_add_68 : decode cX9_add 68 = .ok (.iconst 1, 1) := by decide +kernel
theorem dX9_add_69 : decode cX9_add 69 = .ok (.iadd, 1) := by decide +kernel
theorem dX9_add_70 : decode cX9_add 70 = .ok (.putfield 37, 3) := by decide +kernel
theorem dX9_add_73 : decode cX9_add 73 = .ok (.aload_n 0, 1) := by decide +kernel
theorem dX9_add_74 : decode cX9_add 74 = .ok (.getfield 37, 3) := by decide +kernel
theorem dX9_add_77 : decode cX9_add 77 = .ok (.iconst 1, 1) := by decide +kernel
theorem dX9_add_78 : decode cX9_add 78 = .ok (.isub, 1) := by decide +kernel
theorem dX9_add_79 : decode cX9_add 79 = .ok (.ireturn, 1) := by decide +kernel
theorem dX9_addLeaf_0 : decode cX9_addLeaf 0 = .ok (.aload_n 0, 1) := by decide +kernel
theorem dX9_addLeaf_1 : decode cX9_addLeaf 1 = .ok (.iload_n 1, 1) := by decide +kernel
theorem dX9_addLeaf_2 : decode cX9_addLeaf 2 = .ok (.iload_n 2, 1) := by decide +kernel
theorem dX9_addLeaf_3 : decode cX9_addLeaf 3 = .ok (.iconst 0, 1) := by decide +kernel
theorem dX9_addLeaf_4 : decode cX9_addLeaf 4 = .ok (.iconst (-1), 1) := by decide +kernel
theorem dX9_addLeaf_5 : decode cX9_addLeaf 5 = .ok (.invokevirtual 41, 3) := by decide +kernel
theorem dX9_addLeaf_8 : decode cX9_addLeaf 8 = .ok (.ireturn, 1) := by decide +kernel
theorem dX9_change_0 : decode cX9_change 0 = .ok (.aload_n 0, 1) := by decide +kernel
theorem dX9_change_1 : decode cX9_change 1 = .ok (.getfield 9, 3) := by decide +kernel
theorem dX9_change_4 : decode cX9_change 4 = .ok (.iload_n 1, 1) := by decide +kernel
theorem dX9_change_5 : decode cX9_change 5 = .ok (.iload_n 2, 1) := by decide +kernel
theorem dX9_change_6 : decode cX9_change 6 = .ok (.iastore, 1) := by decide +kernel
theorem dX9_change_7 : decode cX9_change 7 = .ok (.aload_n 0, 1) := by decide +kernel
theorem dX9_change_8 : decode cX9_change 8 = .ok (.getfield 15, 3) := by decide +kernel
theorem dX9_change_11 : decode cX9_change 11 = .ok (.iload_n 1, 1) := by decide +kernel
theorem dX9_change_12 : decode cX9_change 12 = .ok (.iload_n 3, 1) := by decide +kernel
theorem dX9_change_13 : decode cX9_change 13 = .ok (.iastore, 1) := by decide +kernel
theorem dX9_change_14 : decode cX9_change 14 = .ok (.return_, 1) := by decide +kernel
theorem dX9_clear_0 : decode cX9_clear 0 = .ok (.aload_n 0, 1) := by decide +kernel
theorem dX9_clear_1 : decode cX9_clear 1 = .ok (.iconst 0, 1) := by decide +kernel
theorem dX9_clear_2 : decode cX9_clear 2 = .ok (.putfield 37, 3) := by decide +kernel
theorem dX9_clear_5 : decode cX9_clear 5 = .ok (.return_, 1) := by decide +kernel
theorem dX9_isPart_0 : decode cX9_isPart 0 = .ok (.iload_n 0, 1) := by decide +kernel
theorem dX9_isPart_1 : decode cX9_isPart 1 = .ok (.bipush 10, 2) := by decide +kernel
theorem dX9_isPart_3 : decode cX9_isPart 3 = .ok (.if_icmp .lt 9, 3) := by decide +kernel
theorem dX9_isPart_6 : decode cX9_isPart 6 = .ok (.iload_n 0, 1) := by decide +kernel
theorem dX9_isPart_7 : decode cX9_isPart 7 = .ok (.bipush 13, 2) := by decide +kernel
theorem dX9_isPart_9 : decode cX9_isPart 9 = .ok (.if_icmp .le 7, 3) := by decide +kernel
theorem dX9_isPart_12 : decode cX9_isPart 12 = .ok (.iconst 1, 1) := by decide +kernel
theorem dX9_isPart_13 : decode cX9_isPart 13 = .ok (.goto 4, 3) := by decide +kernel
theorem dX9_isPart_16 : decode cX9_isPart 16 = .ok (.iconst 0, 1) := by decide +kernel
theorem dX9_isPart_17 : decode cX9_isPart 17 = .ok (.ireturn, 1) := by decide +kernel
theorem dX9_measure_0 : decode cX9_measure 0 = .ok (.iconst 0, 1) := by decide +kernel
theorem dX9_measure_1 : decode cX9_measure 1 = .ok (.istore_n 3, 1) := by decide +kernel
theorem dX9_measure_2 : decode cX9_measure 2 = .ok (.iconst 0, 1) := by decide +kernel
theorem dX9_measure_3 : decode cX9_measure 3 = .ok (.istore 4, 2) := by decide +kernel
theorem dX9_measure_5 : decode cX9_measure 5 = .ok (.lconst 0, 1) := by decide +kernel
theorem dX9_measure_6 : decode cX9_measure 6 = .ok (.lstore 5, 2) := by decide +kernel
theorem dX9_measure_8 : decode cX9_measure 8 = .ok (.lconst 0, 1) := by decide +kernel
theorem dX9_measure_9 : decode cX9_measure 9 = .ok (.lstore 7, 2) := by decide +kernel
theorem dX9_measure_11 : decode cX9_measure 11 = .ok (.iconst 0, 1) := by decide +kernel
theorem dX9_measure_12 : decode cX9_measure 12 = .ok (.istore 9, 2) := by decide +kernel
theorem dX9_measure_14 : decode cX9_measure 14 = .ok (.aload_n 0, 1) := by decide +kernel
theorem dX9_measure_15 : decode cX9_measure 15 = .ok (.getfield 21, 3) := by decide +kernel
theorem dX9_measure_18 : decode cX9_measure 18 = .ok (.iload_n 1, 1) := by decide +kernel
theorem dX9_measure_19 : decode cX9_measure 19 = .ok (.iaload, 1) := by decide +kernel
theorem dX9_measure_20 : decode cX9_measure 20 = .ok (.istore 10, 2) := by decide +kernel
theorem dX9_measure_22 : decode cX9_measure 22 = .ok (.iload 9, 2) := by decide +kernel
theorem dX9_measure_24 : decode cX9_measure 24 = .ok (.bipush 10, 2) := by decide +kernel
theorem dX9_measure_26 : decode cX9_measure 26 = .ok (.if_icmp .ge 92, 3) := by decide +kernel
theorem dX9_measure_29 : decode cX9_measure 29 = .ok (.iload 10, 2) := by decide +kernel
theorem dX9_measure_31 : decode cX9_measure 31 = .ok (.iconst (-1), 1) := by decide +kernel
theorem dX9_measure_32 : decode cX9_measure 32 = .ok (.if_icmp .eq 86, 3) := by decide +kernel
theorem dX9_measure_35 : decode cX9_measure 35 = .ok (.iload_n 3, 1) := by decide +kernel
theorem dX9_measure_36 : decode cX9_measure 36 = .ok (.aload_n 0, 1) := by decide +kernel
theorem dX9_measure_37 : decode cX9_measure 37 = .ok (.getfield 27, 3) := by decide +kernel
theorem dX9_measure_40 : decode cX9_measure 40 = .ok (.iload 10, 2) := by decide +kernel
theorem dX9_measure_42 : decode cX9_measure 42 = .ok (.iaload, 1) := by decide +kernel
theorem dX9_measure_43 : decode cX9_measure 43 = .ok (.invokestatic 45, 3) := by decide +kernel
theorem dX9_measure_46 : decode cX9_measure 46 = .ok (.istore_n 3, 1) := by decide +kernel
theorem dX9_measure_47 : decode cX9_measure 47 = .ok (.iload 4, 2) := by decide +kernel
theorem dX9_measure_49 : decode cX9_measure 49 = .ok (.aload_n 0, 1) := by decide +kernel
theorem dX9_measure_50 : decode cX9_measure 50 = .ok (.getfield 30, 3) := by decide +kernel
theorem dX9_measure_53 : decode cX9_measure 53 = .ok (.iload 10, 2) := by decide +kernel
theorem dX9_measure_55 : decode cX9_measure 55 = .ok (.iaload, 1) := by decide +kernel
theorem dX9_measure_56 : decode cX9_measure 56 = .ok (.iadd, 1) := by decide +kernel
theorem dX9_measure_57 : decode cX9_measure 57 = .ok (.istore 4, 2) := by decide +kernel
theorem dX9_measure_59 : decode cX9_measure 59 = .ok (.lload 5, 2) := by decide +kernel
theorem dX9_measure_61 : decode cX9_measure 61 = .ok (.aload_n 0, 1) := by decide +kernel
theorem dX9_measure_62 : decode cX9_measure 62 = .ok (.getfield 33, 3) := by decide +kernel
theorem dX9_measure_65 : decode cX9_measure 65 = .ok (.iload 10, 2) := by decide +kernel
theorem dX9_measure_67 : decode cX9_measure 67 = .ok (.laload, 1) := by decide +kernel
theorem dX9_measure_68 : decode cX9_measure 68 = .ok (.lor, 1) := by decide +kernel
theorem dX9_measure_69 : decode cX9_measure 69 = .ok (.lstore 5, 2) := by decide +kernel
theorem dX9_measure_71 : decode cX9_measure 71 = .ok (.lload 7, 2) := by decide +kernel
theorem dX9_measure_73 : decode cX9_measure 73 = .ok (.aload_n 0, 1) := by decide +kernel
theorem dX9_measure_74 : decode cX9_measure 74 = .ok (.getfield 9, 3) := by decide +kernel
theorem dX9_measure_77 : decode cX9_measure 77 = .ok (.iload 10, 2) := by decide +kernel
theorem dX9_measure_79 : decode cX9_measure 79 = .ok (.iaload, 1) := by decide +kernel
theorem dX9_measure_80 : decode cX9_measure 80 = .ok (.bipush 10, 2) := by decide +kernel
theorem dX9_measure_82 : decode cX9_measure 82 = .ok (.if_icmp .ne 17, 3) := by decide +kernel
theorem dX9_measure_85 : decode cX9_measure 85 = .ok (.aload_n 0, 1) := by decide +kernel
theorem dX9_measure_86 : decode cX9_measure 86 = .ok (.getfield 15, 3) := by decide +kernel
theorem dX9_measure_89 : decode cX9_measure 89 = .ok (.iload 10, 2) := by decide +kernel
theorem dX9_measure_91 : decode cX9_measure 91 = .ok (.iaload, 1) := by decide +kernel
theorem dX9_measure_92 : decode cX9_measure 92 = .ok (.iconst 1, 1) := by decide +kernel
theorem dX9_measure_93 : decode cX9_measure 93 = .ok (.invokestatic 51, 3) := by decide +kernel
theorem dX9_measure_96 : decode cX9_measure 96 = .ok (.goto 4, 3) := by decide +kernel
theorem dX9_measure_99 : decode cX9_measure 99 = .ok (.lconst 0, 1) := by decide +kernel
theorem dX9_measure_100 : decode cX9_measure 100 = .ok (.lor, 1) := by decide +kernel
theorem dX9_measure_101 : decode cX9_measure 101 = .ok (.lstore 7, 2) := by decide +kernel
theorem dX9_measure_103 : decode cX9_measure 103 = .ok (.iinc 9 1, 3) := by decide +kernel
theorem dX9_measure_106 : decode cX9_measure 106 = .ok (.aload_n 0, 1) := by decide +kernel
theorem dX9_measure_107 : decode cX9_measure 107 = .ok (.getfield 24, 3) := by decide +kernel
theorem dX9_measure_110 : decode cX9_measure 110 = .ok (.iload 10, 2) := by decide +kernel
theorem dX9_measure_112 : decode cX9_measure 112 = .ok (.iaload, 1) := by decide +kernel
theorem dX9_measure_113 : decode cX9_measure 113 = .ok (.istore 10, 2) := by decide +kernel
theorem dX9_measure_115 : decode cX9_measure 115 = .ok (.goto (-93), 3) := by decide +kernel
theorem dX9_measure_118 : decode cX9_measure 118 = .ok (.aload_n 0, 1) := by decide +kernel
theorem dX9_measure_119 : decode cX9_measure 119 = .ok (.getfield 9, 3) := by decide +kernel
theorem dX9_measure_122 : decode cX9_measure 122 = .ok (.iload_n 1, 1) := by decide +kernel
theorem dX9_measure_123 : decode cX9_measure 123 = .ok (.iaload, 1) := by decide +kernel
theorem dX9_measure_124 : decode cX9_measure 124 = .ok (.bipush 11, 2) := by decide +kernel
theorem dX9_measure_126 : decode cX9_measure 126 = .ok (.if_icmp .ne 15, 3) := by decide +kernel
theorem dX9_measure_129 : decode cX9_measure 129 = .ok (.aload_n 0, 1) := by decide +kernel
theorem dX9_measure_130 : decode cX9_measure 130 = .ok (.getfield 18, 3) := by decide +kernel
theorem dX9_measure_133 : decode cX9_measure 133 = .ok (.iload_n 1, 1) := by decide +kernel
theorem dX9_measure_134 : decode cX9_measure 134 = .ok (.iaload, 1) := by decide +kernel
theorem dX9_measure_135 : decode cX9_measure 135 = .ok (.iload_n 2, 1) := by decide +kernel
theorem dX9_measure_136 : decode cX9_measure 136 = .ok (.invokestatic 51, 3) := by decide +kernel
theorem dX9_measure_139 : decode cX9_measure 139 = .ok (.lstore 7, 2) := by decide +kernel
theorem dX9_measure_141 : decode cX9_measure 141 = .ok (.aload_n 0, 1) := by decide +kernel
theorem dX9_measure_142 : decode cX9_measure 142 = .ok (.getfield 9, 3) := by decide +kernel
theorem dX9_measure_145 : decode cX9_measure 145 = .ok (.iload_n 1, 1) := by decide +kernel
theorem dX9_measure_146 : decode cX9_measure 146 = .ok (.iaload, 1) := by decide +kernel
theorem dX9_measure_147 : decode cX9_measure 147 = .ok (.invokestatic 55, 3) := by decide +kernel
theorem dX9_measure_150 : decode cX9_measure 150 = .ok (.ifCond .eq 7, 3) := by decide +kernel
theorem dX9_measure_153 : decode cX9_measure 153 = .ok (.iconst 1, 1) := by decide +kernel
theorem dX9_measure_154 : decode cX9_measure 154 = .ok (.goto 4, 3) := by decide +kernel
theorem dX9_measure_157 : decode cX9_measure 157 = .ok (.iconst 0, 1) := by decide +kernel
theorem dX9_measure_158 : decode cX9_measure 158 = .ok (.istore 9, 2) := by decide +kernel
theorem dX9_measure_160 : decode cX9_measure 160 = .ok (.aload_n 0, 1) := by decide +kernel
theorem dX9_measure_161 : decode cX9_measure 161 = .ok (.getfield 27, 3) := by decide +kernel
theorem dX9_measure_164 : decode cX9_measure 164 = .ok (.iload_n 1, 1) := by decide +kernel
theorem dX9_measure_165 : decode cX9_measure 165 = .ok (.iload_n 3, 1) := by decide +kernel
theorem dX9_measure_166 : decode cX9_measure 166 = .ok (.iload 9, 2) := by decide +kernel
theorem dX9_measure_168 : decode cX9_measure 168 = .ok (.iadd, 1) := by decide +kernel
theorem dX9_measure_169 : decode cX9_measure 169 = .ok (.iastore, 1) := by decide +kernel
theorem dX9_measure_170 : decode cX9_measure 170 = .ok (.aload_n 0, 1) := by decide +kernel
theorem dX9_measure_171 : decode cX9_measure 171 = .ok (.getfield 30, 3) := by decide +kernel
theorem dX9_measure_174 : decode cX9_measure 174 = .ok (.iload_n 1, 1) := by decide +kernel
theorem dX9_measure_175 : decode cX9_measure 175 = .ok (.iload 4, 2) := by decide +kernel
theorem dX9_measure_177 : decode cX9_measure 177 = .ok (.iload 9, 2) := by decide +kernel
theorem dX9_measure_179 : decode cX9_measure 179 = .ok (.iadd, 1) := by decide +kernel
theorem dX9_measure_180 : decode cX9_measure 180 = .ok (.iastore, 1) := by decide +kernel
theorem dX9_measure_181 : decode cX9_measure 181 = .ok (.aload_n 0, 1) := by decide +kernel
theorem dX9_measure_182 : decode cX9_measure 182 = .ok (.getfield 33, 3) := by decide +kernel
theorem dX9_measure_185 : decode cX9_measure 185 = .ok (.iload_n 1, 1) := by decide +kernel
theorem dX9_measure_186 : decode cX9_measure 186 = .ok (.lload 5, 2) := by decide +kernel
theorem dX9_measure_188 : decode cX9_measure 188 = .ok (.lload 7, 2) := by decide +kernel
theorem dX9_measure_190 : decode cX9_measure 190 = .ok (.ldc2_w 59, 3) := by decide +kernel
theorem dX9_measure_193 : decode cX9_measure 193 = .ok (.lxor, 1) := by decide +kernel
theorem dX9_measure_194 : decode cX9_measure 194 = .ok (.land, 1) := by decide +kernel
theorem dX9_measure_195 : decode cX9_measure 195 = .ok (.lastore, 1) := by decide +kernel
theorem dX9_measure_196 : decode cX9_measure 196 = .ok (.return_, 1) := by decide +kernel
theorem dX9_measureLeaf_0 : decode cX9_measureLeaf 0 = .ok (.aload_n 0, 1) := by decide +kernel
theorem dX9_measureLeaf_1 : decode cX9_measureLeaf 1 = .ok (.getfield 27, 3) := by decide +kernel
theorem dX9_measureLeaf_4 : decode cX9_measureLeaf 4 = .ok (.iload_n 1, 1) := by decide +kernel
theorem dX9_measureLeaf_5 : decode cX9_measureLeaf 5 = .ok (.iconst 1, 1) := by decide +kernel
theorem dX9_measureLeaf_6 : decode cX9_measureLeaf 6 = .ok (.iastore, 1) := by decide +kernel
theorem dX9_measureLeaf_7 : decode cX9_measureLeaf 7 = .ok (.aload_n 0, 1) := by decide +kernel
theorem dX9_measureLeaf_8 : decode cX9_measureLeaf 8 = .ok (.getfield 30, 3) := by decide +kernel
theorem dX9_measureLeaf_11 : decode cX9_measureLeaf 11 = .ok (.iload_n 1, 1) := by decide +kernel
theorem dX9_measureLeaf_12 : decode cX9_measureLeaf 12 = .ok (.iconst 1, 1) := by decide +kernel
theorem dX9_measureLeaf_13 : decode cX9_measureLeaf 13 = .ok (.iastore, 1) := by decide +kernel
theorem dX9_measureLeaf_14 : decode cX9_measureLeaf 14 = .ok (.aload_n 0, 1) := by decide +kernel
theorem dX9_measureLeaf_15 : decode cX9_measureLeaf 15 = .ok (.getfield 15, 3) := by decide +kernel
theorem dX9_measureLeaf_18 : decode cX9_measureLeaf 18 = .ok (.iload_n 1, 1) := by decide +kernel
theorem dX9_measureLeaf_19 : decode cX9_measureLeaf 19 = .ok (.iaload, 1) := by decide +kernel
theorem dX9_measureLeaf_20 : decode cX9_measureLeaf 20 = .ok (.istore_n 2, 1) := by decide +kernel
theorem dX9_measureLeaf_21 : decode cX9_measureLeaf 21 = .ok (.aload_n 0, 1) := by decide +kernel
theorem dX9_measureLeaf_22 : decode cX9_measureLeaf 22 = .ok (.getfield 33, 3) := by decide +kernel
theorem dX9_measureLeaf_25 : decode cX9_measureLeaf 25 = .ok (.iload_n 1, 1) := by decide +kernel
theorem dX9_measureLeaf_26 : decode cX9_measureLeaf 26 = .ok (.aload_n 0, 1) := by decide +kernel
theorem dX9_measureLeaf_27 : decode cX9_measureLeaf 27 = .ok (.getfield 9, 3) := by decide +kernel
theorem dX9_measureLeaf_30 : decode cX9_measureLeaf 30 = .ok (.iload_n 1, 1) := by decide +kernel
theorem dX9_measureLeaf_31 : decode cX9_measureLeaf 31 = .ok (.iaload, 1) := by decide +kernel
theorem dX9_measureLeaf_32 : decode cX9_measureLeaf 32 = .ok (.iconst 3, 1) := by decide +kernel
theorem dX9_measureLeaf_33 : decode cX9_measureLeaf 33 = .ok (.if_icmp .ne 15, 3) := by decide +kernel
theorem dX9_measureLeaf_36 : decode cX9_measureLeaf 36 = .ok (.iload_n 2, 1) := by decide +kernel
theorem dX9_measureLeaf_37 : decode cX9_measureLeaf 37 = .ok (.bipush 40, 2) := by decide +kernel
theorem dX9_measureLeaf_39 : decode cX9_measureLeaf 39 = .ok (.if_icmp .ge 9, 3) := by decide +kernel
theorem dX9_measureLeaf_42 : decode cX9_measureLeaf 42 = .ok (.lconst 1, 1) := by decide +kernel
theorem dX9_measureLeaf_43 : decode cX9_measureLeaf 43 = .ok (.iload_n 2, 1) := by decide +kernel
theorem dX9_measureLeaf_44 : decode cX9_measureLeaf 44 = .ok (.lshl, 1) := by decide +kernel
theorem dX9_measureLeaf_45 : decode cX9_measureLeaf 45 = .ok (.goto 4, 3) := by decide +kernel
theorem dX9_measureLeaf_48 : decode cX9_measureLeaf 48 = .ok (.lconst 0, 1) := by decide +kernel
theorem dX9_measureLeaf_49 : decode cX9_measureLeaf 49 = .ok (.lastore, 1) := by decide +kernel
theorem dX9_measureLeaf_50 : decode cX9_measureLeaf 50 = .ok (.return_, 1) := by decide +kernel
theorem dX9_span_0 : decode cX9_span 0 = .ok (.iload_n 0, 1) := by decide +kernel
theorem dX9_span_1 : decode cX9_span 1 = .ok (.bipush 40, 2) := by decide +kernel
theorem dX9_span_3 : decode cX9_span 3 = .ok (.if_icmp .ge 13, 3) := by decide +kernel
theorem dX9_span_6 : decode cX9_span 6 = .ok (.lconst 1, 1) := by decide +kernel
theorem dX9_span_7 : decode cX9_span 7 = .ok (.iload_n 1, 1) := by decide +kernel
theorem dX9_span_8 : decode cX9_span 8 = .ok (.lshl, 1) := by decide +kernel
theorem dX9_span_9 : decode cX9_span 9 = .ok (.lconst 1, 1) := by decide +kernel
theorem dX9_span_10 : decode cX9_span 10 = .ok (.lsub, 1) := by decide +kernel
theorem dX9_span_11 : decode cX9_span 11 = .ok (.iload_n 0, 1) := by decide +kernel
theorem dX9_span_12 : decode cX9_span 12 = .ok (.lshl, 1) := by decide +kernel
theorem dX9_span_13 : decode cX9_span 13 = .ok (.goto 4, 3) := by decide +kernel
theorem dX9_span_16 : decode cX9_span 16 = .ok (.lconst 0, 1) := by decide +kernel
theorem dX9_span_17 : decode cX9_span 17 = .ok (.lreturn, 1) := by decide +kernel
theorem cw_X4_addConstructor : CWV yX4_addConstructor cX4_addConstructor 4 none RX4 2 := ⟨mG_908, mG_906, mG_907, mG_216, by decide +kernel⟩
theorem cw_X4_addFunction : CWV yX4_addFunction cX4_addFunction 2 (some .int) RX4 1 := ⟨mG_1095, mG_1093, mG_1094, mG_216, by decide +kernel⟩
theorem cw_X6_variableIn : CWV yX6_variableIn cX6_variableIn 5 (some .int) RX6 2 := ⟨mG_1111, mG_1110, mG_13, mG_218, by decide +kernel⟩
theorem cw_X9_add : CWV yX9_add cX9_add 5 (some .int) RX9 4 := ⟨mG_1151, mG_1149, mG_1150, mG_217, by decide +kernel⟩
theorem cw_X9_isPart : CWS yX9_isPart cX9_isPart 1 (some .boolean) RX9 1 := ⟨mG_1308, mG_1307, mG_217, by decide +kernel⟩
theorem cw_X9_span : CWS yX9_span cX9_span 2 (some .long) RX9 2 := ⟨mG_1305, mG_1304, mG_217, by decide +kernel⟩
section MX9_span
variable {p : Program} {l : Launch} {e : Env} {R : Room} {s : State} {m : MethodId} {args : Array Value} {below : List Frame} {meth : Method} {c : Code} {dC : Nat → ClassId} {dI : Nat → Nat → Nat} {ak : Nat → Nat} {A : Nat → Prop} {ad : Nat → Nat} {kc : Nat → ClassId} {sv : Value} {r : Int64} {τ : S5}
set_option maxHeartbeats 4000000 in
set_option maxRecDepth 100000 in
theorem w_X9_span {σ : S5} {a0 : Int32} {a1 : Int32} {H : Heap} {locs : List Loc} {ls : Array Slot} (S : CallFix p m c cX9_span 2 s args uG RX9) (hr : meth.sig.returnType = (some .long)) (hk : meth.locks = false) (hR : 0 ≤ R.frames ∧ 0 ≤ R.locals)
    (X : gX (dC, dI) (tC kc) (wC ad kc sv) (zC ak) A s σ H locs) (hl : lv_has ls 2 [(0, .int a0), (1, .int a1)]) (hg : f_X9_span a0 a1 σ = some (r, τ)) : W p l e R s m args below meth c H locs 0 0 (MQ below (gQl (dC, dI) (tC kc) (wC ad kc sv) A r τ) args s 0 0 A) (F0 m 0 ls []) := by
  have hx := S.1
  have hb := S.2.1
  have hown := S.2.2.2.1
  have hu := S.2.2.2.2
  unfold f_X9_span at hg
  refine lv_iload_n hx hb dX9_span_0 rfl (lv_at hl 0 rfl) ?_
  refine lv_bipush (v := 40) hx hb dX9_span_1 (by decide) ?_
  refine lv_icmp_ge (tgt := 16) hx hb dX9_span_3 (by decide) (fun c3 => ?_) (fun c3 => ?_)
  · have hg := (if_pos c3).symm.trans hg
    refine lv_lconst (v := 0) hx hb dX9_span_16 rfl ?_
    obtain ⟨rfl, rfl⟩ := fin_some hg
    exact gr_l S hr hk X dX9_span_17
  · have hg := (if_neg c3).symm.trans hg
    refine lv_lconst (v := 1) hx hb dX9_span_6 rfl ?_
    refine lv_iload_n hx hb dX9_span_7 rfl (lv_at hl 1 rfl) ?_
    refine lv_lshl (v := (j_lshl 1 a1)) hx hb dX9_span_8 rfl ?_
    refine lv_lconst (v := 1) hx hb dX9_span_9 rfl ?_
    refine lv_lsub hx hb dX9_span_10 ?_
    refine lv_iload_n hx hb dX9_span_11 rfl (lv_at hl 0 rfl) ?_
    refine lv_lshl (v := (j_lshl ((j_lshl 1 a1) - 1) a0)) hx hb dX9_span_12 rfl ?_
    refine lv_goto (tgt := 17) hx hb dX9_span_13 (by decide) ?_
    obtain ⟨rfl, rfl⟩ := fin_some hg
    exact gr_l S hr hk X dX9_span_17
end MX9_span
set_option maxRecDepth 100000 in
theorem k2_X9_span (l : Launch) (dC : Nat → ClassId) (dI : Nat → Nat → Nat) {ak : Nat → Nat} (ad : Nat → Nat) (kc : Nat → ClassId) (sv : Value) {σ τ : S5} {a0 : Int32} {a1 : Int32} {r : Int64} (hg : f_X9_span a0 a1 σ = some (r, τ)) (sz : Nat) : Met l yX9_span (Cond.code yX9_span cX9_span 2 (some .long) :: uG) { frames := 0, cells := 0, slots := 0, locals := 0 } (gPc (dC, dI) (tC kc) (wC ad kc sv) (zC ak) [.int a0, .int a1] σ sz) (gQl (dC, dI) (tC kc) (wC ad kc sv) (va_A (wC ad kc sv σ) sz) r τ) 0 0 (va_A (wC ad kc sv σ) sz) :=
  g_start (by decide) (Nat.le_of_ble_eq_true rfl) (fun p e s m below meth c ls S hr hk X hl => w_X9_span S hr hk ⟨Nat.le_refl _, Nat.le_refl _⟩ X hl hg)
section MX9_isPart
variable {p : Program} {l : Launch} {e : Env} {R : Room} {s : State} {m : MethodId} {args : Array Value} {below : List Frame} {meth : Method} {c : Code} {dC : Nat → ClassId} {dI : Nat → Nat → Nat} {ak : Nat → Nat} {A : Nat → Prop} {ad : Nat → Nat} {kc : Nat → ClassId} {sv : Value} {r : Int32} {τ : S5}
set_option maxHeartbeats 4000000 in
set_option maxRecDepth 100000 in
theorem w_X9_isPart_b12 {σ : S5}  {H : Heap} {locs : List Loc} {ls : Array Slot} (S : CallFix p m c cX9_isPart 1 s args uG RX9) (hr : meth.sig.returnType = (some .boolean)) (hk : meth.locks = false) (hR : 0 ≤ R.frames ∧ 0 ≤ R.locals)
    (X : gX (dC, dI) (tC kc) (wC ad kc sv) (zC ak) A s σ H locs) (hl : lv_has ls 1 []) (hg : f_X9_isPart_b12  σ = some (r, τ)) : W p l e R s m args below meth c H locs 0 0 (MQ below (gQi (dC, dI) (tC kc) (wC ad kc sv) A r τ) args s 0 0 A) (F0 m 12 ls []) := by
  have hx := S.1
  have hb := S.2.1
  have hown := S.2.2.2.1
  have hu := S.2.2.2.2
  unfold f_X9_isPart_b12 at hg
  refine lv_iconst (v := 1) hx hb dX9_isPart_12 (by decide) ?_
  refine lv_goto (tgt := 17) hx hb dX9_isPart_13 (by decide) ?_
  obtain ⟨rfl, rfl⟩ := fin_some hg
  exact gr_z S hr hk X (Or.inr rfl) dX9_isPart_17
set_option maxHeartbeats 4000000 in
set_option maxRecDepth 100000 in
theorem w_X9_isPart {σ : S5} {a0 : Int32} {H : Heap} {locs : List Loc} {ls : Array Slot} (S : CallFix p m c cX9_isPart 1 s args uG RX9) (hr : meth.sig.returnType = (some .boolean)) (hk : meth.locks = false) (hR : 0 ≤ R.frames ∧ 0 ≤ R.locals)
    (X : gX (dC, dI) (tC kc) (wC ad kc sv) (zC ak) A s σ H locs) (hl : lv_has ls 1 [(0, .int a0)]) (hg : f_X9_isPart a0 σ = some (r, τ)) : W p l e R s m args below meth c H locs 0 0 (MQ below (gQi (dC, dI) (tC kc) (wC ad kc sv) A r τ) args s 0 0 A) (F0 m 0 ls []) := by
  have hx := S.1
  have hb := S.2.1
  have hown := S.2.2.2.1
  have hu := S.2.2.2.2
  unfold f_X9_isPart at hg
  refine lv_iload_n hx hb dX9_isPart_0 rfl (lv_at hl 0 rfl) ?_
  refine lv_bipush (v := 10) hx hb dX9_isPart_1 (by decide) ?_
  refine lv_icmp_lt (tgt := 12) hx hb dX9_isPart_3 (by decide) (fun c3 => ?_) (fun c3 => ?_)
  · have hg := (if_pos c3).symm.trans hg
    exact w_X9_isPart_b12 S hr hk hR X (lv_sub hl [] rfl) hg
  · have hg := (if_neg c3).symm.trans hg
    refine lv_iload_n hx hb dX9_isPart_6 rfl (lv_at hl 0 rfl) ?_
    refine lv_bipush (v := 13) hx hb dX9_isPart_7 (by decide) ?_
    refine lv_icmp_le (tgt := 16) hx hb dX9_isPart_9 (by decide) (fun c9 => ?_) (fun c9 => ?_)
    · have hg := (if_pos c9).symm.trans hg
      refine lv_iconst (v := 0) hx hb dX9_isPart_16 (by decide) ?_
      obtain ⟨rfl, rfl⟩ := fin_some hg
      exact gr_z S hr hk X (Or.inl rfl) dX9_isPart_17
    · have hg := (if_neg c9).symm.trans hg
      exact w_X9_isPart_b12 S hr hk hR X (lv_sub hl [] rfl) hg
end MX9_isPart
set_option maxRecDepth 100000 in
theorem k2_X9_isPart (l : Launch) (dC : Nat → ClassId) (dI : Nat → Nat → Nat) {ak : Nat → Nat} (ad : Nat → Nat) (kc : Nat → ClassId) (sv : Value) {σ τ : S5} {a0 : Int32} {r : Int32} (hg : f_X9_isPart a0 σ = some (r, τ)) (sz : Nat) : Met l yX9_isPart (Cond.code yX9_isPart cX9_isPart 1 (some .boolean) :: uG) { frames := 0, cells := 0, slots := 0, locals := 0 } (gPc (dC, dI) (tC kc) (wC ad kc sv) (zC ak) [.int a0] σ sz) (gQi (dC, dI) (tC kc) (wC ad kc sv) (va_A (wC ad kc sv σ) sz) r τ) 0 0 (va_A (wC ad kc sv σ) sz) :=
  g_start (by decide) (Nat.le_of_ble_eq_true rfl) (fun p e s m below meth c ls S hr hk X hl => w_X9_isPart S hr hk ⟨Nat.le_refl _, Nat.le_refl _⟩ X hl hg)
section MX9_clear
variable {p : Program} {l : Launch} {e : Env} {R : Room} {s : State} {m : MethodId} {args : Array Value} {below : List Frame} {meth : Method} {c : Code} {dC : Nat → ClassId} {dI : Nat → Nat → Nat} {ak : Nat → Nat} {A : Nat → Prop} {ad : Nat → Nat} {kc : Nat → ClassId} {sv : Value} {r : Unit} {τ : S5}
set_option maxHeartbeats 4000000 in
set_option maxRecDepth 100000 in
theorem w_X9_clear {σ : S5}  {H : Heap} {locs : List Loc} {ls : Array Slot} (S : CallFix p m c cX9_clear 1 s args uG RX9) (hr : meth.sig.returnType = none) (hk : meth.locks = false) (hR : 0 ≤ R.frames ∧ 0 ≤ R.locals)
    (X : gX (dC, dI) (tC kc) (wC ad kc sv) (zC ak) A s σ H locs) (hl : lv_has ls 1 [(0, .ref (ad 3))]) (hg : f_X9_clear  σ = some (r, τ)) : W p l e R s m args below meth c H locs 0 0 (MQ below (gQv (dC, dI) (tC kc) (wC ad kc sv) A r τ) args s 0 0 A) (F0 m 0 ls []) := by
  have hx := S.1
  have hb := S.2.1
  have hown := S.2.2.2.1
  have hu := S.2.2.2.2
  unfold f_X9_clear at hg
  refine lv_aload_n hx hb dX9_clear_0 rfl (lv_at hl 0 rfl) ?_
  refine lv_iconst (v := 0) hx hb dX9_clear_1 (by decide) ?_
  refine wcpI_8 S X mG_413 dX9_clear_2 (fun H locs X => ?_)
  obtain ⟨-, rfl⟩ := fin_some hg
  exact gr_v S hr hk X dX9_clear_5
end MX9_clear
set_option maxRecDepth 100000 in
theorem k2_X9_clear (l : Launch) (dC : Nat → ClassId) (dI : Nat → Nat → Nat) {ak : Nat → Nat} (ad : Nat → Nat) (kc : Nat → ClassId) (sv : Value) {σ τ : S5}  {r : Unit} (hg : f_X9_clear  σ = some (r, τ)) (sz : Nat) : Met l yX9_clear (Cond.code yX9_clear cX9_clear 1 none :: uG) { frames := 0, cells := 0, slots := 0, locals := 0 } (gPc (dC, dI) (tC kc) (wC ad kc sv) (zC ak) [.ref (ad 3)] σ sz) (gQv (dC, dI) (tC kc) (wC ad kc sv) (va_A (wC ad kc sv σ) sz) r τ) 0 0 (va_A (wC ad kc sv σ) sz) :=
  g_start (by decide) (Nat.le_of_ble_eq_true rfl) (fun p e s m below meth c ls S hr hk X hl => w_X9_clear S hr hk ⟨Nat.le_refl _, Nat.le_refl _⟩ X hl hg)
section MX9_add
variable {p : Program} {l : Launch} {e : Env} {R : Room} {s : State} {m : MethodId} {args : Array Value} {below : List Frame} {meth : Method} {c : Code} {dC : Nat → ClassId} {dI : Nat → Nat → Nat} {ak : Nat → Nat} {A : Nat → Prop} {ad : Nat → Nat} {kc : Nat → ClassId} {sv : Value} {r : Int32} {τ : S5}
set_option maxHeartbeats 4000000 in
set_option maxRecDepth 100000 in
theorem w_X9_add {σ : S5} {a1 : Int32} {a2 : Int32} {a3 : Int32} {a4 : Int32} {H : Heap} {locs : List Loc} {ls : Array Slot} (S : CallFix p m c cX9_add 5 s args uG RX9) (hr : meth.sig.returnType = (some .int)) (hk : meth.locks = false) (hR : 0 ≤ R.frames ∧ 0 ≤ R.locals)
    (X : gX (dC, dI) (tC kc) (wC ad kc sv) (zC ak) A s σ H locs) (hl : lv_has ls 5 [(0, .ref (ad 3)), (1, .int a1), (2, .int a2), (3, .int a3), (4, .int a4)]) (hg : f_X9_add a1 a2 a3 a4 σ = some (r, τ)) : W p l e R s m args below meth c H locs 0 0 (MQ below (gQi (dC, dI) (tC kc) (wC ad kc sv) A r τ) args s 0 0 A) (F0 m 0 ls []) := by
  have hx := S.1
  have hb := S.2.1
  have hown := S.2.2.2.1
  have hu := S.2.2.2.2
  unfold f_X9_add at hg
  refine lv_aload_n hx hb dX9_add_0 rfl (lv_at hl 0 rfl) ?_
  refine wcgI_8 (v := (gI σ 8)) S X mG_413 rfl dX9_add_1 ?_
  refine lv_sipush (v := 6200) hx hb dX9_add_4 (by decide) ?_
  refine lv_icmp_lt (tgt := 12) hx hb dX9_add_7 (by decide) (fun c7 => ?_) (fun c7 => ?_)
  · have hg := (if_pos c7).symm.trans hg
    refine lv_aload_n hx hb dX9_add_12 rfl (lv_at hl 0 rfl) ?_
    refine wcgR_3_0 S X mG_380 dX9_add_13 ?_
    refine lv_aload_n hx hb dX9_add_16 rfl (lv_at hl 0 rfl) ?_
    refine wcgI_8 (v := (gI σ 8)) S X mG_413 rfl dX9_add_17 ?_
    refine lv_iload_n hx hb dX9_add_20 rfl (lv_at hl 1 rfl) ?_
    obtain ⟨hi21, hg⟩ := gd_some hg
    refine wcsA_13 S X hi21 dX9_add_21 (fun H locs X => ?_)
    refine lv_aload_n hx hb dX9_add_22 rfl (lv_at hl 0 rfl) ?_
    refine wcgR_3_1 S X mG_385 dX9_add_23 ?_
    refine lv_aload_n hx hb dX9_add_26 rfl (lv_at hl 0 rfl) ?_
    refine wcgI_8 (v := (gI σ 8)) S X mG_413 rfl dX9_add_27 ?_
    refine lv_iload_n hx hb dX9_add_30 rfl (lv_at hl 2 rfl) ?_
    obtain ⟨hi31, hg⟩ := gd_some hg
    refine wcsA_14 S X hi31 dX9_add_31 (fun H locs X => ?_)
    refine lv_aload_n hx hb dX9_add_32 rfl (lv_at hl 0 rfl) ?_
    refine wcgR_3_2 S X mG_390 dX9_add_33 ?_
    refine lv_aload_n hx hb dX9_add_36 rfl (lv_at hl 0 rfl) ?_
    refine wcgI_8 (v := (gI σ 8)) S X mG_413 rfl dX9_add_37 ?_
    refine lv_iload_n hx hb dX9_add_40 rfl (lv_at hl 3 rfl) ?_
    obtain ⟨hi41, hg⟩ := gd_some hg
    refine wcsA_15 S X hi41 dX9_add_41 (fun H locs X => ?_)
    refine lv_aload_n hx hb dX9_add_42 rfl (lv_at hl 0 rfl) ?_
    refine wcgR_3_3 S X mG_395 dX9_add_43 ?_
    refine lv_aload_n hx hb dX9_add_46 rfl (lv_at hl 0 rfl) ?_
    refine wcgI_8 (v := (gI σ 8)) S X mG_413 rfl dX9_add_47 ?_
    refine lv_iload hx hb dX9_add_50 (lv_at hl 4 rfl) ?_
    obtain ⟨hi52, hg⟩ := gd_some hg
    refine wcsA_16 S X hi52 dX9_add_52 (fun H locs X => ?_)
    refine lv_aload_n hx hb dX9_add_53 rfl (lv_at hl 0 rfl) ?_
    refine wcgR_3_4 S X mG_400 dX9_add_54 ?_
    refine lv_aload_n hx hb dX9_add_57 rfl (lv_at hl 0 rfl) ?_
    refine wcgI_8 (v := (gI σ 8)) S X mG_413 rfl dX9_add_58 ?_
    refine lv_iconst (v := (-1)) hx hb dX9_add_61 (by decide) ?_
    obtain ⟨hi62, hg⟩ := gd_some hg
    refine wcsA_17 S X hi62 dX9_add_62 (fun H locs X => ?_)
    refine lv_aload_n hx hb dX9_add_63 rfl (lv_at hl 0 rfl) ?_
    refine lv_dup hx hb dX9_add_64 rfl ?_
    refine wcgI_8 (v := (gI σ 8)) S X mG_413 rfl dX9_add_65 ?_
    refine lv_iconst (v := 1) hx hb dX9_add_68 (by decide) ?_
    refine lv_iadd hx hb dX9_add_69 ?_
    refine wcpI_8 S X mG_413 dX9_add_70 (fun H locs X => ?_)
    refine lv_aload_n hx hb dX9_add_73 rfl (lv_at hl 0 rfl) ?_
    refine wcgI_8 (v := ((gI σ 8) + 1)) S X mG_413 rfl dX9_add_74 ?_
    refine lv_iconst (v := 1) hx hb dX9_add_77 (by decide) ?_
    refine lv_isub hx hb dX9_add_78 ?_
    obtain ⟨rfl, rfl⟩ := fin_some hg
    exact gr_i S hr hk X dX9_add_79
  · have hg := (if_neg c7).symm.trans hg
    refine lv_iconst (v := 0) hx hb dX9_add_10 (by decide) ?_
    obtain ⟨rfl, rfl⟩ := fin_some hg
    exact gr_i S hr hk X dX9_add_11
end MX9_add
set_option maxRecDepth 100000 in
theorem k2_X9_add (l : Launch) (dC : Nat → ClassId) (dI : Nat → Nat → Nat) {ak : Nat → Nat} (ad : Nat → Nat) (kc : Nat → ClassId) (sv : Value) {σ τ : S5} {a1 : Int32} {a2 : Int32} {a3 : Int32} {a4 : Int32} {r : Int32} (hg : f_X9_add a1 a2 a3 a4 σ = some (r, τ)) (sz : Nat) : Met l yX9_add (Cond.code yX9_add cX9_add 5 (some .int) :: uG) { frames := 0, cells := 0, slots := 0, locals := 0 } (gPc (dC, dI) (tC kc) (wC ad kc sv) (zC ak) [.ref (ad 3), .int a1, .int a2, .int a3, .int a4] σ sz) (gQi (dC, dI) (tC kc) (wC ad kc sv) (va_A (wC ad kc sv σ) sz) r τ) 0 0 (va_A (wC ad kc sv σ) sz) :=
  g_start (by decide) (Nat.le_of_ble_eq_true rfl) (fun p e s m below meth c ls S hr hk X hl => w_X9_add S hr hk ⟨Nat.le_refl _, Nat.le_refl _⟩ X hl hg)
section MX9_addLeaf
variable {p : Program} {l : Launch} {e : Env} {R : Room} {s : State} {m : MethodId} {args : Array Value} {below : List Frame} {meth : Method} {c : Code} {dC : Nat → ClassId} {dI : Nat → Nat → Nat} {ak : Nat → Nat} {A : Nat → Prop} {ad : Nat → Nat} {kc : Nat → ClassId} {sv : Value} {r : Int32} {τ : S5}
set_option maxHeartbeats 4000000 in
set_option maxRecDepth 100000 in
theorem w_X9_addLeaf {σ : S5} {a1 : Int32} {a2 : Int32} {H : Heap} {locs : List Loc} {ls : Array Slot} (S : CallFix p m c cX9_addLeaf 3 s args uG RX9) (hr : meth.sig.returnType = (some .int)) (hk : meth.locks = false) (hR : 1 ≤ R.frames ∧ 24 ≤ R.locals)
    (X : gX (dC, dI) (tC kc) (wC ad kc sv) (zC ak) A s σ H locs) (hl : lv_has ls 3 [(0, .ref (ad 3)), (1, .int a1), (2, .int a2)]) (hg : f_X9_addLeaf a1 a2 σ = some (r, τ)) : W p l e R s m args below meth c H locs 0 0 (MQ below (gQi (dC, dI) (tC kc) (wC ad kc sv) A r τ) args s 0 0 A) (F0 m 0 ls []) := by
  have hx := S.1
  have hb := S.2.1
  have hown := S.2.2.2.1
  have hu := S.2.2.2.2
  unfold f_X9_addLeaf at hg
  refine lv_aload_n hx hb dX9_addLeaf_0 rfl (lv_at hl 0 rfl) ?_
  refine lv_iload_n hx hb dX9_addLeaf_1 rfl (lv_at hl 1 rfl) ?_
  refine lv_iload_n hx hb dX9_addLeaf_2 rfl (lv_at hl 2 rfl) ?_
  refine lv_iconst (v := 0) hx hb dX9_addLeaf_3 (by decide) ?_
  refine lv_iconst (v := (-1)) hx hb dX9_addLeaf_4 (by decide) ?_
  obtain ⟨r5, τ5, hq5, hg⟩ := bd_some hg
  refine gc_Vi (As := [.int a1, .int a2, .int 0, .int (-1)]) (rest := []) (q0 := 3) (ci := 12) S X (k2_X9_add l dC dI ad kc sv hq5 H.size) cw_X9_add mG_1148 rfl rfl rfl rfl rfl hl.1 (Nat.le_of_ble_eq_true rfl) dX9_addLeaf_5 ⟨by omega, by omega⟩ (fun H locs X => ?_)
  obtain ⟨rfl, rfl⟩ := fin_some hg
  exact gr_i S hr hk X dX9_addLeaf_8
end MX9_addLeaf
set_option maxRecDepth 100000 in
theorem k2_X9_addLeaf (l : Launch) (dC : Nat → ClassId) (dI : Nat → Nat → Nat) {ak : Nat → Nat} (ad : Nat → Nat) (kc : Nat → ClassId) (sv : Value) {σ τ : S5} {a1 : Int32} {a2 : Int32} {r : Int32} (hg : f_X9_addLeaf a1 a2 σ = some (r, τ)) (sz : Nat) : Met l yX9_addLeaf (Cond.code yX9_addLeaf cX9_addLeaf 3 (some .int) :: uG) { frames := 1, cells := 0, slots := 0, locals := 24 } (gPc (dC, dI) (tC kc) (wC ad kc sv) (zC ak) [.ref (ad 3), .int a1, .int a2] σ sz) (gQi (dC, dI) (tC kc) (wC ad kc sv) (va_A (wC ad kc sv σ) sz) r τ) 0 0 (va_A (wC ad kc sv σ) sz) :=
  g_start (by decide) (Nat.le_of_ble_eq_true rfl) (fun p e s m below meth c ls S hr hk X hl => w_X9_addLeaf S hr hk ⟨Nat.le_refl _, Nat.le_refl _⟩ X hl hg)
section MX9_change
variable {p : Program} {l : Launch} {e : Env} {R : Room} {s : State} {m : MethodId} {args : Array Value} {below : List Frame} {meth : Method} {c : Code} {dC : Nat → ClassId} {dI : Nat → Nat → Nat} {ak : Nat → Nat} {A : Nat → Prop} {ad : Nat → Nat} {kc : Nat → ClassId} {sv : Value} {r : Unit} {τ : S5}
set_option maxHeartbeats 4000000 in
set_option maxRecDepth 100000 in
theorem w_X9_change {σ : S5} {a1 : Int32} {a2 : Int32} {a3 : Int32} {H : Heap} {locs : List Loc} {ls : Array Slot} (S : CallFix p m c cX9_change 4 s args uG RX9) (hr : meth.sig.returnType = none) (hk : meth.locks = false) (hR : 0 ≤ R.frames ∧ 0 ≤ R.locals)
    (X : gX (dC, dI) (tC kc) (wC ad kc sv) (zC ak) A s σ H locs) (hl : lv_has ls 4 [(0, .ref (ad 3)), (1, .int a1), (2, .int a2), (3, .int a3)]) (hg : f_X9_change a1 a2 a3 σ = some (r, τ)) : W p l e R s m args below meth c H locs 0 0 (MQ below (gQv (dC, dI) (tC kc) (wC ad kc sv) A r τ) args s 0 0 A) (F0 m 0 ls []) := by
  have hx := S.1
  have hb := S.2.1
  have hown := S.2.2.2.1
  have hu := S.2.2.2.2
  unfold f_X9_change at hg
  refine lv_aload_n hx hb dX9_change_0 rfl (lv_at hl 0 rfl) ?_
  refine wcgR_3_0 S X mG_380 dX9_change_1 ?_
  refine lv_iload_n hx hb dX9_change_4 rfl (lv_at hl 1 rfl) ?_
  refine lv_iload_n hx hb dX9_change_5 rfl (lv_at hl 2 rfl) ?_
  obtain ⟨hi6, hg⟩ := gd_some hg
  refine wcsA_13 S X hi6 dX9_change_6 (fun H locs X => ?_)
  refine lv_aload_n hx hb dX9_change_7 rfl (lv_at hl 0 rfl) ?_
  refine wcgR_3_1 S X mG_385 dX9_change_8 ?_
  refine lv_iload_n hx hb dX9_change_11 rfl (lv_at hl 1 rfl) ?_
  refine lv_iload_n hx hb dX9_change_12 rfl (lv_at hl 3 rfl) ?_
  obtain ⟨hi13, hg⟩ := gd_some hg
  refine wcsA_14 S X hi13 dX9_change_13 (fun H locs X => ?_)
  obtain ⟨-, rfl⟩ := fin_some hg
  exact gr_v S hr hk X dX9_change_14
end MX9_change
set_option maxRecDepth 100000 in
theorem k2_X9_change (l : Launch) (dC : Nat → ClassId) (dI : Nat → Nat → Nat) {ak : Nat → Nat} (ad : Nat → Nat) (kc : Nat → ClassId) (sv : Value) {σ τ : S5} {a1 : Int32} {a2 : Int32} {a3 : Int32} {r : Unit} (hg : f_X9_change a1 a2 a3 σ = some (r, τ)) (sz : Nat) : Met l yX9_change (Cond.code yX9_change cX9_change 4 none :: uG) { frames := 0, cells := 0, slots := 0, locals := 0 } (gPc (dC, dI) (tC kc) (wC ad kc sv) (zC ak) [.ref (ad 3), .int a1, .int a2, .int a3] σ sz) (gQv (dC, dI) (tC kc) (wC ad kc sv) (va_A (wC ad kc sv σ) sz) r τ) 0 0 (va_A (wC ad kc sv σ) sz) :=
  g_start (by decide) (Nat.le_of_ble_eq_true rfl) (fun p e s m below meth c ls S hr hk X hl => w_X9_change S hr hk ⟨Nat.le_refl _, Nat.le_refl _⟩ X hl hg)
section MX9_measureLeaf
variable {p : Program} {l : Launch} {e : Env} {R : Room} {s : State} {m : MethodId} {args : Array Value} {below : List Frame} {meth : Method} {c : Code} {dC : Nat → ClassId} {dI : Nat → Nat → Nat} {ak : Nat → Nat} {A : Nat → Prop} {ad : Nat → Nat} {kc : Nat → ClassId} {sv : Value} {r : Unit} {τ : S5}
set_option maxHeartbeats 4000000 in
set_option maxRecDepth 100000 in
theorem w_X9_measureLeaf_b49 {σ : S5} {u0 : Int64} {u1 : Int32} {H : Heap} {locs : List Loc} {ls : Array Slot} (S : CallFix p m c cX9_measureLeaf 3 s args uG RX9) (hr : meth.sig.returnType = none) (hk : meth.locks = false) (hR : 0 ≤ R.frames ∧ 0 ≤ R.locals)
    (X : gX (dC, dI) (tC kc) (wC ad kc sv) (zC ak) A s σ H locs) (hl : lv_has ls 3 []) (hg : f_X9_measureLeaf_b49 u0 u1 σ = some (r, τ)) : W p l e R s m args below meth c H locs 0 0 (MQ below (gQv (dC, dI) (tC kc) (wC ad kc sv) A r τ) args s 0 0 A) (F0 m 49 ls [.long u0, .int u1, .ref (ad 32)]) := by
  have hx := S.1
  have hb := S.2.1
  have hown := S.2.2.2.1
  have hu := S.2.2.2.2
  unfold f_X9_measureLeaf_b49 at hg
  obtain ⟨hi49, hg⟩ := gd_some hg
  refine wcsB_2 S X hi49 dX9_measureLeaf_49 (fun H locs X => ?_)
  obtain ⟨-, rfl⟩ := fin_some hg
  exact gr_v S hr hk X dX9_measureLeaf_50
set_option maxHeartbeats 4000000 in
set_option maxRecDepth 100000 in
theorem w_X9_measureLeaf_b48 {σ : S5} {u0 : Int32} {H : Heap} {locs : List Loc} {ls : Array Slot} (S : CallFix p m c cX9_measureLeaf 3 s args uG RX9) (hr : meth.sig.returnType = none) (hk : meth.locks = false) (hR : 0 ≤ R.frames ∧ 0 ≤ R.locals)
    (X : gX (dC, dI) (tC kc) (wC ad kc sv) (zC ak) A s σ H locs) (hl : lv_has ls 3 []) (hg : f_X9_measureLeaf_b48 u0 σ = some (r, τ)) : W p l e R s m args below meth c H locs 0 0 (MQ below (gQv (dC, dI) (tC kc) (wC ad kc sv) A r τ) args s 0 0 A) (F0 m 48 ls [.int u0, .ref (ad 32)]) := by
  have hx := S.1
  have hb := S.2.1
  have hown := S.2.2.2.1
  have hu := S.2.2.2.2
  unfold f_X9_measureLeaf_b48 at hg
  refine lv_lconst (v := 0) hx hb dX9_measureLeaf_48 rfl ?_
  exact w_X9_measureLeaf_b49 S hr hk hR X (lv_sub hl [] rfl) hg
set_option maxHeartbeats 4000000 in
set_option maxRecDepth 100000 in
theorem w_X9_measureLeaf {σ : S5} {a1 : Int32} {H : Heap} {locs : List Loc} {ls : Array Slot} (S : CallFix p m c cX9_measureLeaf 3 s args uG RX9) (hr : meth.sig.returnType = none) (hk : meth.locks = false) (hR : 0 ≤ R.frames ∧ 0 ≤ R.locals)
    (X : gX (dC, dI) (tC kc) (wC ad kc sv) (zC ak) A s σ H locs) (hl : lv_has ls 3 [(0, .ref (ad 3)), (1, .int a1)]) (hg : f_X9_measureLeaf a1 σ = some (r, τ)) : W p l e R s m args below meth c H locs 0 0 (MQ below (gQv (dC, dI) (tC kc) (wC ad kc sv) A r τ) args s 0 0 A) (F0 m 0 ls []) := by
  have hx := S.1
  have hb := S.2.1
  have hown := S.2.2.2.1
  have hu := S.2.2.2.2
  unfold f_X9_measureLeaf at hg
  refine lv_aload_n hx hb dX9_measureLeaf_0 rfl (lv_at hl 0 rfl) ?_
  refine wcgR_3_5 S X mG_406 dX9_measureLeaf_1 ?_
  refine lv_iload_n hx hb dX9_measureLeaf_4 rfl (lv_at hl 1 rfl) ?_
  refine lv_iconst (v := 1) hx hb dX9_measureLeaf_5 (by decide) ?_
  obtain ⟨hi6, hg⟩ := gd_some hg
  refine wcsA_18 S X hi6 dX9_measureLeaf_6 (fun H locs X => ?_)
  refine lv_aload_n hx hb dX9_measureLeaf_7 rfl (lv_at hl 0 rfl) ?_
  refine wcgR_3_6 S X mG_408 dX9_measureLeaf_8 ?_
  refine lv_iload_n hx hb dX9_measureLeaf_11 rfl (lv_at hl 1 rfl) ?_
  refine lv_iconst (v := 1) hx hb dX9_measureLeaf_12 (by decide) ?_
  obtain ⟨hi13, hg⟩ := gd_some hg
  refine wcsA_19 S X hi13 dX9_measureLeaf_13 (fun H locs X => ?_)
  refine lv_aload_n hx hb dX9_measureLeaf_14 rfl (lv_at hl 0 rfl) ?_
  refine wcgR_3_1 S X mG_385 dX9_measureLeaf_15 ?_
  refine lv_iload_n hx hb dX9_measureLeaf_18 rfl (lv_at hl 1 rfl) ?_
  obtain ⟨hi19, hg⟩ := gd_some hg
  refine wclA_14 (v := (xA σ 14 a1)) S X hi19 rfl dX9_measureLeaf_19 ?_
  refine lv_istore_n (lv' := [(2, .int (xA σ 14 a1)), (0, .ref (ad 3)), (1, .int a1)]) hx hb dX9_measureLeaf_20 rfl hl (by decide) rfl (fun ls hl => ?_)
  refine lv_aload_n hx hb dX9_measureLeaf_21 rfl (lv_at hl 1 rfl) ?_
  refine wcgR_3_7 S X mG_410 dX9_measureLeaf_22 ?_
  refine lv_iload_n hx hb dX9_measureLeaf_25 rfl (lv_at hl 2 rfl) ?_
  refine lv_aload_n hx hb dX9_measureLeaf_26 rfl (lv_at hl 1 rfl) ?_
  refine wcgR_3_0 S X mG_380 dX9_measureLeaf_27 ?_
  refine lv_iload_n hx hb dX9_measureLeaf_30 rfl (lv_at hl 2 rfl) ?_
  obtain ⟨hi31, hg⟩ := gd_some hg
  refine wclA_13 (v := (xA σ 13 a1)) S X hi31 rfl dX9_measureLeaf_31 ?_
  refine lv_iconst (v := 3) hx hb dX9_measureLeaf_32 (by decide) ?_
  refine lv_icmp_ne (tgt := 48) hx hb dX9_measureLeaf_33 (by decide) (fun c33 => ?_) (fun c33 => ?_)
  · have hg := (if_neg c33).symm.trans hg
    exact w_X9_measureLeaf_b48 S hr hk hR X (lv_sub hl [] rfl) hg
  · have hg := (if_pos c33).symm.trans hg
    refine lv_iload_n hx hb dX9_measureLeaf_36 rfl (lv_at hl 0 rfl) ?_
    refine lv_bipush (v := 40) hx hb dX9_measureLeaf_37 (by decide) ?_
    refine lv_icmp_ge (tgt := 48) hx hb dX9_measureLeaf_39 (by decide) (fun c39 => ?_) (fun c39 => ?_)
    · have hg := (if_pos c39).symm.trans hg
      exact w_X9_measureLeaf_b48 S hr hk hR X (lv_sub hl [] rfl) hg
    · have hg := (if_neg c39).symm.trans hg
      refine lv_lconst (v := 1) hx hb dX9_measureLeaf_42 rfl ?_
      refine lv_iload_n hx hb dX9_measureLeaf_43 rfl (lv_at hl 0 rfl) ?_
      refine lv_lshl (v := (j_lshl 1 (xA σ 14 a1))) hx hb dX9_measureLeaf_44 rfl ?_
      refine lv_goto (tgt := 49) hx hb dX9_measureLeaf_45 (by decide) ?_
      exact w_X9_measureLeaf_b49 S hr hk hR X (lv_sub hl [] rfl) hg
end MX9_measureLeaf
set_option maxRecDepth 100000 in
theorem k2_X9_measureLeaf (l : Launch) (dC : Nat → ClassId) (dI : Nat → Nat → Nat) {ak : Nat → Nat} (ad : Nat → Nat) (kc : Nat → ClassId) (sv : Value) {σ τ : S5} {a1 : Int32} {r : Unit} (hg : f_X9_measureLeaf a1 σ = some (r, τ)) (sz : Nat) : Met l yX9_measureLeaf (Cond.code yX9_measureLeaf cX9_measureLeaf 3 none :: uG) { frames := 0, cells := 0, slots := 0, locals := 0 } (gPc (dC, dI) (tC kc) (wC ad kc sv) (zC ak) [.ref (ad 3), .int a1] σ sz) (gQv (dC, dI) (tC kc) (wC ad kc sv) (va_A (wC ad kc sv σ) sz) r τ) 0 0 (va_A (wC ad kc sv σ) sz) :=
  g_start (by decide) (Nat.le_of_ble_eq_true rfl) (fun p e s m below meth c ls S hr hk X hl => w_X9_measureLeaf S hr hk ⟨Nat.le_refl _, Nat.le_refl _⟩ X hl hg)
section MX9_measure
variable {p : Program} {l : Launch} {e : Env} {R : Room} {s : State} {m : MethodId} {args : Array Value} {below : List Frame} {meth : Method} {c : Code} {dC : Nat → ClassId} {dI : Nat → Nat → Nat} {ak : Nat → Nat} {A : Nat → Prop} {ad : Nat → Nat} {kc : Nat → ClassId} {sv : Value} {r : Unit} {τ : S5}
set_option maxHeartbeats 4000000 in
set_option maxRecDepth 100000 in
theorem w_X9_measure_b158 {σ : S5} {v1 : Int32} {v3 : Int32} {v4 : Int32} {v5 : Int64} {v7 : Int64} {u0 : Int32} {H : Heap} {locs : List Loc} {ls : Array Slot} (S : CallFix p m c cX9_measure 11 s args uG RX9) (hr : meth.sig.returnType = none) (hk : meth.locks = false) (hR : 1 ≤ R.frames ∧ 21 ≤ R.locals)
    (X : gX (dC, dI) (tC kc) (wC ad kc sv) (zC ak) A s σ H locs) (hl : lv_has ls 11 [(0, .ref (ad 3)), (1, .int v1), (3, .int v3), (4, .int v4), (5, .long v5), (7, .long v7)]) (hg : f_X9_measure_b158 v1 v3 v4 v5 v7 u0 σ = some (r, τ)) : W p l e R s m args below meth c H locs 0 0 (MQ below (gQv (dC, dI) (tC kc) (wC ad kc sv) A r τ) args s 0 0 A) (F0 m 158 ls [.int u0]) := by
  have hx := S.1
  have hb := S.2.1
  have hown := S.2.2.2.1
  have hu := S.2.2.2.2
  unfold f_X9_measure_b158 at hg
  refine lv_istore (lv' := [(9, .int u0), (0, .ref (ad 3)), (1, .int v1), (3, .int v3), (4, .int v4), (5, .long v5), (7, .long v7)]) hx hb dX9_measure_158 hl (by decide) rfl (fun ls hl => ?_)
  refine lv_aload_n hx hb dX9_measure_160 rfl (lv_at hl 1 rfl) ?_
  refine wcgR_3_5 S X mG_406 dX9_measure_161 ?_
  refine lv_iload_n hx hb dX9_measure_164 rfl (lv_at hl 2 rfl) ?_
  refine lv_iload_n hx hb dX9_measure_165 rfl (lv_at hl 3 rfl) ?_
  refine lv_iload hx hb dX9_measure_166 (lv_at hl 0 rfl) ?_
  refine lv_iadd hx hb dX9_measure_168 ?_
  obtain ⟨hi169, hg⟩ := gd_some hg
  refine wcsA_18 S X hi169 dX9_measure_169 (fun H locs X => ?_)
  refine lv_aload_n hx hb dX9_measure_170 rfl (lv_at hl 1 rfl) ?_
  refine wcgR_3_6 S X mG_408 dX9_measure_171 ?_
  refine lv_iload_n hx hb dX9_measure_174 rfl (lv_at hl 2 rfl) ?_
  refine lv_iload hx hb dX9_measure_175 (lv_at hl 4 rfl) ?_
  refine lv_iload hx hb dX9_measure_177 (lv_at hl 0 rfl) ?_
  refine lv_iadd hx hb dX9_measure_179 ?_
  obtain ⟨hi180, hg⟩ := gd_some hg
  refine wcsA_19 S X hi180 dX9_measure_180 (fun H locs X => ?_)
  refine lv_aload_n hx hb dX9_measure_181 rfl (lv_at hl 1 rfl) ?_
  refine wcgR_3_7 S X mG_410 dX9_measure_182 ?_
  refine lv_iload_n hx hb dX9_measure_185 rfl (lv_at hl 2 rfl) ?_
  refine lv_lload hx hb dX9_measure_186 (lv_at hl 5 rfl) ?_
  refine lv_lload hx hb dX9_measure_188 (lv_at hl 6 rfl) ?_
  refine lv_ldc2 (own := RX9) (v := (-1)) hx hb hown (hu _ mG_1309) dX9_measure_190 ?_
  refine lv_lxor hx hb dX9_measure_193 ?_
  refine lv_land hx hb dX9_measure_194 ?_
  obtain ⟨hi195, hg⟩ := gd_some hg
  refine wcsB_2 S X hi195 dX9_measure_195 (fun H locs X => ?_)
  obtain ⟨-, rfl⟩ := fin_some hg
  exact gr_v S hr hk X dX9_measure_196
set_option maxHeartbeats 4000000 in
set_option maxRecDepth 100000 in
theorem w_X9_measure_b141 {σ : S5} {v1 : Int32} {v3 : Int32} {v4 : Int32} {v5 : Int64} {v7 : Int64} {H : Heap} {locs : List Loc} {ls : Array Slot} (S : CallFix p m c cX9_measure 11 s args uG RX9) (hr : meth.sig.returnType = none) (hk : meth.locks = false) (hR : 1 ≤ R.frames ∧ 21 ≤ R.locals)
    (X : gX (dC, dI) (tC kc) (wC ad kc sv) (zC ak) A s σ H locs) (hl : lv_has ls 11 [(0, .ref (ad 3)), (1, .int v1), (3, .int v3), (4, .int v4), (5, .long v5), (7, .long v7)]) (hg : f_X9_measure_b141 v1 v3 v4 v5 v7 σ = some (r, τ)) : W p l e R s m args below meth c H locs 0 0 (MQ below (gQv (dC, dI) (tC kc) (wC ad kc sv) A r τ) args s 0 0 A) (F0 m 141 ls []) := by
  have hx := S.1
  have hb := S.2.1
  have hown := S.2.2.2.1
  have hu := S.2.2.2.2
  unfold f_X9_measure_b141 at hg
  refine lv_aload_n hx hb dX9_measure_141 rfl (lv_at hl 0 rfl) ?_
  refine wcgR_3_0 S X mG_380 dX9_measure_142 ?_
  refine lv_iload_n hx hb dX9_measure_145 rfl (lv_at hl 1 rfl) ?_
  obtain ⟨hi146, hg⟩ := gd_some hg
  refine wclA_13 (v := (xA σ 13 v1)) S X hi146 rfl dX9_measure_146 ?_
  obtain ⟨r147, τ147, hq147, hg⟩ := bd_some hg
  refine gc_Si (As := [.int (xA σ 13 v1)]) (rest := []) S X (k2_X9_isPart l dC dI ad kc sv hq147 H.size) cw_X9_isPart mG_1306 rfl rfl hl.1 (Nat.le_of_ble_eq_true rfl) dX9_measure_147 ⟨by omega, by omega⟩ (fun H locs X => ?_)
  refine lv_if_eq (tgt := 157) hx hb dX9_measure_150 (by decide) (fun c150 => ?_) (fun c150 => ?_)
  · have hg := (if_pos c150).symm.trans hg
    refine lv_iconst (v := 0) hx hb dX9_measure_157 (by decide) ?_
    exact w_X9_measure_b158 S hr hk hR X (lv_sub hl [0, 1, 2, 3, 4, 5] rfl) hg
  · have hg := (if_neg c150).symm.trans hg
    refine lv_iconst (v := 1) hx hb dX9_measure_153 (by decide) ?_
    refine lv_goto (tgt := 158) hx hb dX9_measure_154 (by decide) ?_
    exact w_X9_measure_b158 S hr hk hR X (lv_sub hl [0, 1, 2, 3, 4, 5] rfl) hg
set_option maxHeartbeats 4000000 in
set_option maxRecDepth 100000 in
theorem w_X9_measure_b118 {σ : S5} {v1 : Int32} {v2 : Int32} {v3 : Int32} {v4 : Int32} {v5 : Int64} {v7 : Int64} {H : Heap} {locs : List Loc} {ls : Array Slot} (S : CallFix p m c cX9_measure 11 s args uG RX9) (hr : meth.sig.returnType = none) (hk : meth.locks = false) (hR : 1 ≤ R.frames ∧ 21 ≤ R.locals)
    (X : gX (dC, dI) (tC kc) (wC ad kc sv) (zC ak) A s σ H locs) (hl : lv_has ls 11 [(0, .ref (ad 3)), (1, .int v1), (2, .int v2), (3, .int v3), (4, .int v4), (5, .long v5), (7, .long v7)]) (hg : f_X9_measure_b118 v1 v2 v3 v4 v5 v7 σ = some (r, τ)) : W p l e R s m args below meth c H locs 0 0 (MQ below (gQv (dC, dI) (tC kc) (wC ad kc sv) A r τ) args s 0 0 A) (F0 m 118 ls []) := by
  have hx := S.1
  have hb := S.2.1
  have hown := S.2.2.2.1
  have hu := S.2.2.2.2
  unfold f_X9_measure_b118 at hg
  refine lv_aload_n hx hb dX9_measure_118 rfl (lv_at hl 0 rfl) ?_
  refine wcgR_3_0 S X mG_380 dX9_measure_119 ?_
  refine lv_iload_n hx hb dX9_measure_122 rfl (lv_at hl 1 rfl) ?_
  obtain ⟨hi123, hg⟩ := gd_some hg
  refine wclA_13 (v := (xA σ 13 v1)) S X hi123 rfl dX9_measure_123 ?_
  refine lv_bipush (v := 11) hx hb dX9_measure_124 (by decide) ?_
  refine lv_icmp_ne (tgt := 141) hx hb dX9_measure_126 (by decide) (fun c126 => ?_) (fun c126 => ?_)
  · have hg := (if_neg c126).symm.trans hg
    exact w_X9_measure_b141 S hr hk hR X (lv_sub hl [0, 1, 3, 4, 5, 6] rfl) hg
  · have hg := (if_pos c126).symm.trans hg
    refine lv_aload_n hx hb dX9_measure_129 rfl (lv_at hl 0 rfl) ?_
    refine wcgR_3_2 S X mG_390 dX9_measure_130 ?_
    refine lv_iload_n hx hb dX9_measure_133 rfl (lv_at hl 1 rfl) ?_
    obtain ⟨hi134, hg⟩ := gd_some hg
    refine wclA_15 (v := (xA σ 15 v1)) S X hi134 rfl dX9_measure_134 ?_
    refine lv_iload_n hx hb dX9_measure_135 rfl (lv_at hl 2 rfl) ?_
    obtain ⟨r136, τ136, hq136, hg⟩ := bd_some hg
    refine gc_Sl (As := [.int (xA σ 15 v1), .int v2]) (rest := []) S X (k2_X9_span l dC dI ad kc sv hq136 H.size) cw_X9_span mG_1303 rfl rfl hl.1 (Nat.le_of_ble_eq_true rfl) dX9_measure_136 ⟨by omega, by omega⟩ (fun H locs X => ?_)
    refine lv_lstore (lv' := [(7, .long r136), (0, .ref (ad 3)), (1, .int v1), (2, .int v2), (3, .int v3), (4, .int v4), (5, .long v5)]) hx hb dX9_measure_139 hl (by decide) rfl (fun ls hl => ?_)
    exact w_X9_measure_b141 S hr hk hR X (lv_sub hl [1, 2, 4, 5, 6, 0] rfl) hg
set_option maxHeartbeats 4000000 in
set_option maxRecDepth 100000 in
theorem w_X9_measure_b100 {σ : S5} {rec22 : Int32 → Int32 → Int32 → Int32 → Int64 → Int64 → Int32 → Int32 → S5 → Option (Unit × S5)} {v1 : Int32} {v2 : Int32} {v3 : Int32} {v4 : Int32} {v5 : Int64} {v9 : Int32} {v10 : Int32} {u0 : Int64} {u1 : Int64} {H : Heap} {locs : List Loc} {ls : Array Slot} (S : CallFix p m c cX9_measure 11 s args uG RX9) (hr : meth.sig.returnType = none) (hk : meth.locks = false) (hR : 1 ≤ R.frames ∧ 21 ≤ R.locals)
    (hrec22 : ∀ (v1 : Int32) (v2 : Int32) (v3 : Int32) (v4 : Int32) (v5 : Int64) (v7 : Int64) (v9 : Int32) (v10 : Int32) (σ : S5) (H : Heap) (locs : List Loc) (ls : Array Slot), gX (dC, dI) (tC kc) (wC ad kc sv) (zC ak) A s σ H locs → lv_has ls 11 [(0, .ref (ad 3)), (1, .int v1), (2, .int v2), (3, .int v3), (4, .int v4), (5, .long v5), (7, .long v7), (9, .int v9), (10, .int v10)] → rec22 v1 v2 v3 v4 v5 v7 v9 v10 σ = some (r, τ) → W p l e R s m args below meth c H locs 0 0 (MQ below (gQv (dC, dI) (tC kc) (wC ad kc sv) A r τ) args s 0 0 A) (F0 m 22 ls []))
    (X : gX (dC, dI) (tC kc) (wC ad kc sv) (zC ak) A s σ H locs) (hl : lv_has ls 11 [(0, .ref (ad 3)), (1, .int v1), (2, .int v2), (3, .int v3), (4, .int v4), (5, .long v5), (9, .int v9), (10, .int v10)]) (hg : f_X9_measure_b100 rec22 v1 v2 v3 v4 v5 v9 v10 u0 u1 σ = some (r, τ)) : W p l e R s m args below meth c H locs 0 0 (MQ below (gQv (dC, dI) (tC kc) (wC ad kc sv) A r τ) args s 0 0 A) (F0 m 100 ls [.long u0, .long u1]) := by
  have hx := S.1
  have hb := S.2.1
  have hown := S.2.2.2.1
  have hu := S.2.2.2.2
  unfold f_X9_measure_b100 at hg
  refine lv_lor hx hb dX9_measure_100 ?_
  refine lv_lstore (lv' := [(7, .long (u1 ||| u0)), (0, .ref (ad 3)), (1, .int v1), (2, .int v2), (3, .int v3), (4, .int v4), (5, .long v5), (9, .int v9), (10, .int v10)]) hx hb dX9_measure_101 hl (by decide) rfl (fun ls hl => ?_)
  refine lv_iinc (v := (v9 + 1)) (lv' := [(9, .int (v9 + 1)), (7, .long (u1 ||| u0)), (0, .ref (ad 3)), (1, .int v1), (2, .int v2), (3, .int v3), (4, .int v4), (5, .long v5), (10, .int v10)]) hx hb dX9_measure_103 hl (k := 7) rfl (by rfl) (by decide) rfl (fun ls hl => ?_)
  refine lv_aload_n hx hb dX9_measure_106 rfl (lv_at hl 2 rfl) ?_
  refine wcgR_3_4 S X mG_400 dX9_measure_107 ?_
  refine lv_iload hx hb dX9_measure_110 (lv_at hl 8 rfl) ?_
  obtain ⟨hi112, hg⟩ := gd_some hg
  refine wclA_17 (v := (xA σ 17 v10)) S X hi112 rfl dX9_measure_112 ?_
  refine lv_istore (lv' := [(10, .int (xA σ 17 v10)), (9, .int (v9 + 1)), (7, .long (u1 ||| u0)), (0, .ref (ad 3)), (1, .int v1), (2, .int v2), (3, .int v3), (4, .int v4), (5, .long v5)]) hx hb dX9_measure_113 hl (by decide) rfl (fun ls hl => ?_)
  refine lv_goto (tgt := 22) hx hb dX9_measure_115 (by decide) ?_
  exact hrec22 _ _ _ _ _ _ _ _ _ _ _ _ X (lv_sub hl [3, 4, 5, 6, 7, 8, 2, 1, 0] rfl) hg
set_option maxHeartbeats 4000000 in
set_option maxRecDepth 100000 in
theorem w_X9_measure_B22 {σ : S5} {rec22 : Int32 → Int32 → Int32 → Int32 → Int64 → Int64 → Int32 → Int32 → S5 → Option (Unit × S5)} {v1 : Int32} {v2 : Int32} {v3 : Int32} {v4 : Int32} {v5 : Int64} {v7 : Int64} {v9 : Int32} {v10 : Int32} {H : Heap} {locs : List Loc} {ls : Array Slot} (S : CallFix p m c cX9_measure 11 s args uG RX9) (hr : meth.sig.returnType = none) (hk : meth.locks = false) (hR : 1 ≤ R.frames ∧ 21 ≤ R.locals)
    (hrec22 : ∀ (v1 : Int32) (v2 : Int32) (v3 : Int32) (v4 : Int32) (v5 : Int64) (v7 : Int64) (v9 : Int32) (v10 : Int32) (σ : S5) (H : Heap) (locs : List Loc) (ls : Array Slot), gX (dC, dI) (tC kc) (wC ad kc sv) (zC ak) A s σ H locs → lv_has ls 11 [(0, .ref (ad 3)), (1, .int v1), (2, .int v2), (3, .int v3), (4, .int v4), (5, .long v5), (7, .long v7), (9, .int v9), (10, .int v10)] → rec22 v1 v2 v3 v4 v5 v7 v9 v10 σ = some (r, τ) → W p l e R s m args below meth c H locs 0 0 (MQ below (gQv (dC, dI) (tC kc) (wC ad kc sv) A r τ) args s 0 0 A) (F0 m 22 ls []))
    (X : gX (dC, dI) (tC kc) (wC ad kc sv) (zC ak) A s σ H locs) (hl : lv_has ls 11 [(0, .ref (ad 3)), (1, .int v1), (2, .int v2), (3, .int v3), (4, .int v4), (5, .long v5), (7, .long v7), (9, .int v9), (10, .int v10)]) (hg : f_X9_measure_B22 rec22 v1 v2 v3 v4 v5 v7 v9 v10 σ = some (r, τ)) : W p l e R s m args below meth c H locs 0 0 (MQ below (gQv (dC, dI) (tC kc) (wC ad kc sv) A r τ) args s 0 0 A) (F0 m 22 ls []) := by
  have hx := S.1
  have hb := S.2.1
  have hown := S.2.2.2.1
  have hu := S.2.2.2.2
  unfold f_X9_measure_B22 at hg
  refine lv_iload hx hb dX9_measure_22 (lv_at hl 7 rfl) ?_
  refine lv_bipush (v := 10) hx hb dX9_measure_24 (by decide) ?_
  refine lv_icmp_ge (tgt := 118) hx hb dX9_measure_26 (by decide) (fun c26 => ?_) (fun c26 => ?_)
  · have hg := (if_pos c26).symm.trans hg
    exact w_X9_measure_b118 S hr hk hR X (lv_sub hl [0, 1, 2, 3, 4, 5, 6] rfl) hg
  · have hg := (if_neg c26).symm.trans hg
    refine lv_iload hx hb dX9_measure_29 (lv_at hl 8 rfl) ?_
    refine lv_iconst (v := (-1)) hx hb dX9_measure_31 (by decide) ?_
    refine lv_icmp_eq (tgt := 118) hx hb dX9_measure_32 (by decide) (fun c32 => ?_) (fun c32 => ?_)
    · have hg := (if_pos c32).symm.trans hg
      exact w_X9_measure_b118 S hr hk hR X (lv_sub hl [0, 1, 2, 3, 4, 5, 6] rfl) hg
    · have hg := (if_neg c32).symm.trans hg
      refine lv_iload_n hx hb dX9_measure_35 rfl (lv_at hl 3 rfl) ?_
      refine lv_aload_n hx hb dX9_measure_36 rfl (lv_at hl 0 rfl) ?_
      refine wcgR_3_5 S X mG_406 dX9_measure_37 ?_
      refine lv_iload hx hb dX9_measure_40 (lv_at hl 8 rfl) ?_
      obtain ⟨hi42, hg⟩ := gd_some hg
      refine wclA_18 (v := (xA σ 18 v10)) S X hi42 rfl dX9_measure_42 ?_
      refine va_mmax (R := R) (rest := []) (x := v3) (y := (xA σ 18 v10)) hx hb (S.2.2.1.trans hl.1.symm) hown (hu _ mG_1302) (hu _ mG_993) (hu _ mG_235) (hu _ mG_994) (by omega) (show 0 + 13 ≤ R.locals by omega) (Nat.zero_le _) (Nat.zero_le _) dX9_measure_43 ?_
      refine lv_istore_n (lv' := [(3, .int (if v3 < (xA σ 18 v10) then (xA σ 18 v10) else v3)), (0, .ref (ad 3)), (1, .int v1), (2, .int v2), (4, .int v4), (5, .long v5), (7, .long v7), (9, .int v9), (10, .int v10)]) hx hb dX9_measure_46 rfl hl (by decide) rfl (fun ls hl => ?_)
      refine lv_iload hx hb dX9_measure_47 (lv_at hl 4 rfl) ?_
      refine lv_aload_n hx hb dX9_measure_49 rfl (lv_at hl 1 rfl) ?_
      refine wcgR_3_6 S X mG_408 dX9_measure_50 ?_
      refine lv_iload hx hb dX9_measure_53 (lv_at hl 8 rfl) ?_
      obtain ⟨hi55, hg⟩ := gd_some hg
      refine wclA_19 (v := (xA σ 19 v10)) S X hi55 rfl dX9_measure_55 ?_
      refine lv_iadd hx hb dX9_measure_56 ?_
      refine lv_istore (lv' := [(4, .int (v4 + (xA σ 19 v10))), (3, .int (if v3 < (xA σ 18 v10) then (xA σ 18 v10) else v3)), (0, .ref (ad 3)), (1, .int v1), (2, .int v2), (5, .long v5), (7, .long v7), (9, .int v9), (10, .int v10)]) hx hb dX9_measure_57 hl (by decide) rfl (fun ls hl => ?_)
      refine lv_lload hx hb dX9_measure_59 (lv_at hl 5 rfl) ?_
      refine lv_aload_n hx hb dX9_measure_61 rfl (lv_at hl 2 rfl) ?_
      refine wcgR_3_7 S X mG_410 dX9_measure_62 ?_
      refine lv_iload hx hb dX9_measure_65 (lv_at hl 8 rfl) ?_
      obtain ⟨hi67, hg⟩ := gd_some hg
      refine wclB_2 (v := (xB σ 2 v10)) S X hi67 rfl dX9_measure_67 ?_
      refine lv_lor hx hb dX9_measure_68 ?_
      refine lv_lstore (lv' := [(5, .long (v5 ||| (xB σ 2 v10))), (4, .int (v4 + (xA σ 19 v10))), (3, .int (if v3 < (xA σ 18 v10) then (xA σ 18 v10) else v3)), (0, .ref (ad 3)), (1, .int v1), (2, .int v2), (7, .long v7), (9, .int v9), (10, .int v10)]) hx hb dX9_measure_69 hl (by decide) rfl (fun ls hl => ?_)
      refine lv_lload hx hb dX9_measure_71 (lv_at hl 6 rfl) ?_
      refine lv_aload_n hx hb dX9_measure_73 rfl (lv_at hl 3 rfl) ?_
      refine wcgR_3_0 S X mG_380 dX9_measure_74 ?_
      refine lv_iload hx hb dX9_measure_77 (lv_at hl 8 rfl) ?_
      obtain ⟨hi79, hg⟩ := gd_some hg
      refine wclA_13 (v := (xA σ 13 v10)) S X hi79 rfl dX9_measure_79 ?_
      refine lv_bipush (v := 10) hx hb dX9_measure_80 (by decide) ?_
      refine lv_icmp_ne (tgt := 99) hx hb dX9_measure_82 (by decide) (fun c82 => ?_) (fun c82 => ?_)
      · have hg := (if_neg c82).symm.trans hg
        refine lv_lconst (v := 0) hx hb dX9_measure_99 rfl ?_
        exact w_X9_measure_b100 S hr hk hR hrec22 X (lv_sub hl [3, 4, 5, 2, 1, 0, 7, 8] rfl) hg
      · have hg := (if_pos c82).symm.trans hg
        refine lv_aload_n hx hb dX9_measure_85 rfl (lv_at hl 3 rfl) ?_
        refine wcgR_3_1 S X mG_385 dX9_measure_86 ?_
        refine lv_iload hx hb dX9_measure_89 (lv_at hl 8 rfl) ?_
        obtain ⟨hi91, hg⟩ := gd_some hg
        refine wclA_14 (v := (xA σ 14 v10)) S X hi91 rfl dX9_measure_91 ?_
        refine lv_iconst (v := 1) hx hb dX9_measure_92 (by decide) ?_
        obtain ⟨r93, τ93, hq93, hg⟩ := bd_some hg
        refine gc_Sl (As := [.int (xA σ 14 v10), .int 1]) (rest := [.long v7]) S X (k2_X9_span l dC dI ad kc sv hq93 H.size) cw_X9_span mG_1303 rfl rfl hl.1 (Nat.le_of_ble_eq_true rfl) dX9_measure_93 ⟨by omega, by omega⟩ (fun H locs X => ?_)
        refine lv_goto (tgt := 100) hx hb dX9_measure_96 (by decide) ?_
        exact w_X9_measure_b100 S hr hk hR hrec22 X (lv_sub hl [3, 4, 5, 2, 1, 0, 7, 8] rfl) hg
set_option maxHeartbeats 4000000 in
set_option maxRecDepth 100000 in
theorem w_X9_measure_L22 (S : CallFix p m c cX9_measure 11 s args uG RX9) (hr : meth.sig.returnType = none) (hk : meth.locks = false) (hR : 1 ≤ R.frames ∧ 21 ≤ R.locals) : ∀ (n : Nat) (v1 : Int32) (v2 : Int32) (v3 : Int32) (v4 : Int32) (v5 : Int64) (v7 : Int64) (v9 : Int32) (v10 : Int32) (σ : S5) (H : Heap) (locs : List Loc) (ls : Array Slot), gX (dC, dI) (tC kc) (wC ad kc sv) (zC ak) A s σ H locs → lv_has ls 11 [(0, .ref (ad 3)), (1, .int v1), (2, .int v2), (3, .int v3), (4, .int v4), (5, .long v5), (7, .long v7), (9, .int v9), (10, .int v10)] → f_X9_measure_L22  n v1 v2 v3 v4 v5 v7 v9 v10 σ = some (r, τ) → W p l e R s m args below meth c H locs 0 0 (MQ below (gQv (dC, dI) (tC kc) (wC ad kc sv) A r τ) args s 0 0 A) (F0 m 22 ls []) := by
  intro n
  induction n with
  | zero => intro v1 v2 v3 v4 v5 v7 v9 v10 σ H locs ls X hl hg; cases hg
  | succ n ih => intro v1 v2 v3 v4 v5 v7 v9 v10 σ H locs ls X hl hg; exact w_X9_measure_B22 S hr hk hR ih X hl hg
set_option maxHeartbeats 4000000 in
set_option maxRecDepth 100000 in
theorem w_X9_measure {σ : S5} {a1 : Int32} {a2 : Int32} {H : Heap} {locs : List Loc} {ls : Array Slot} (S : CallFix p m c cX9_measure 11 s args uG RX9) (hr : meth.sig.returnType = none) (hk : meth.locks = false) (hR : 1 ≤ R.frames ∧ 21 ≤ R.locals)
    (X : gX (dC, dI) (tC kc) (wC ad kc sv) (zC ak) A s σ H locs) (hl : lv_has ls 11 [(0, .ref (ad 3)), (1, .int a1), (2, .int a2)]) (hg : f_X9_measure a1 a2 σ = some (r, τ)) : W p l e R s m args below meth c H locs 0 0 (MQ below (gQv (dC, dI) (tC kc) (wC ad kc sv) A r τ) args s 0 0 A) (F0 m 0 ls []) := by
  have hx := S.1
  have hb := S.2.1
  have hown := S.2.2.2.1
  have hu := S.2.2.2.2
  unfold f_X9_measure at hg
  refine lv_iconst (v := 0) hx hb dX9_measure_0 (by decide) ?_
  refine lv_istore_n (lv' := [(3, .int 0), (0, .ref (ad 3)), (1, .int a1), (2, .int a2)]) hx hb dX9_measure_1 rfl hl (by decide) rfl (fun ls hl => ?_)
  refine lv_iconst (v := 0) hx hb dX9_measure_2 (by decide) ?_
  refine lv_istore (lv' := [(4, .int 0), (3, .int 0), (0, .ref (ad 3)), (1, .int a1), (2, .int a2)]) hx hb dX9_measure_3 hl (by decide) rfl (fun ls hl => ?_)
  refine lv_lconst (v := 0) hx hb dX9_measure_5 rfl ?_
  refine lv_lstore (lv' := [(5, .long 0), (4, .int 0), (3, .int 0), (0, .ref (ad 3)), (1, .int a1), (2, .int a2)]) hx hb dX9_measure_6 hl (by decide) rfl (fun ls hl => ?_)
  refine lv_lconst (v := 0) hx hb dX9_measure_8 rfl ?_
  refine lv_lstore (lv' := [(7, .long 0), (5, .long 0), (4, .int 0), (3, .int 0), (0, .ref (ad 3)), (1, .int a1), (2, .int a2)]) hx hb dX9_measure_9 hl (by decide) rfl (fun ls hl => ?_)
  refine lv_iconst (v := 0) hx hb dX9_measure_11 (by decide) ?_
  refine lv_istore (lv' := [(9, .int 0), (7, .long 0), (5, .long 0), (4, .int 0), (3, .int 0), (0, .ref (ad 3)), (1, .int a1), (2, .int a2)]) hx hb dX9_measure_12 hl (by decide) rfl (fun ls hl => ?_)
  refine lv_aload_n hx hb dX9_measure_14 rfl (lv_at hl 5 rfl) ?_
  refine wcgR_3_3 S X mG_395 dX9_measure_15 ?_
  refine lv_iload_n hx hb dX9_measure_18 rfl (lv_at hl 6 rfl) ?_
  obtain ⟨hi19, hg⟩ := gd_some hg
  refine wclA_16 (v := (xA σ 16 a1)) S X hi19 rfl dX9_measure_19 ?_
  refine lv_istore (lv' := [(10, .int (xA σ 16 a1)), (9, .int 0), (7, .long 0), (5, .long 0), (4, .int 0), (3, .int 0), (0, .ref (ad 3)), (1, .int a1), (2, .int a2)]) hx hb dX9_measure_20 hl (by decide) rfl (fun ls hl => ?_)
  exact w_X9_measure_L22 S hr hk hR _ _ _ _ _ _ _ _ _ _ _ _ _ X (lv_sub hl [6, 7, 8, 5, 4, 3, 2, 1, 0] rfl) hg
end MX9_measure
set_option maxRecDepth 100000 in
theorem k2_X9_measure (l : Launch) (dC : Nat → ClassId) (dI : Nat → Nat → Nat) {ak : Nat → Nat} (ad : Nat → Nat) (kc : Nat → ClassId) (sv : Value) {σ τ : S5} {a1 : Int32} {a2 : Int32} {r : Unit} (hg : f_X9_measure a1 a2 σ = some (r, τ)) (sz : Nat) : Met l yX9_measure (Cond.code yX9_measure cX9_measure 11 none :: uG) { frames := 1, cells := 0, slots := 0, locals := 21 } (gPc (dC, dI) (tC kc) (wC ad kc sv) (zC ak) [.ref (ad 3), .int a1, .int a2] σ sz) (gQv (dC, dI) (tC kc) (wC ad kc sv) (va_A (wC ad kc sv σ) sz) r τ) 0 0 (va_A (wC ad kc sv σ) sz) :=
  g_start (by decide) (Nat.le_of_ble_eq_true rfl) (fun p e s m below meth c ls S hr hk X hl => w_X9_measure S hr hk ⟨Nat.le_refl _, Nat.le_refl _⟩ X hl hg)
section MX4_addConstructor
variable {p : Program} {l : Launch} {e : Env} {R : Room} {s : State} {m : MethodId} {args : Array Value} {below : List Frame} {meth : Method} {c : Code} {dC : Nat → ClassId} {dI : Nat → Nat → Nat} {ak : Nat → Nat} {A : Nat → Prop} {ad : Nat → Nat} {kc : Nat → ClassId} {sv : Value} {r : Unit} {τ : S5}
set_option maxHeartbeats 4000000 in
set_option maxRecDepth 100000 in
theorem w_X4_addConstructor {σ : S5} {a1 : Int64} {a3 : Int32} {H : Heap} {locs : List Loc} {ls : Array Slot} (S : CallFix p m c cX4_addConstructor 4 s args uG RX4) (hr : meth.sig.returnType = none) (hk : meth.locks = false) (hR : 0 ≤ R.frames ∧ 0 ≤ R.locals)
    (X : gX (dC, dI) (tC kc) (wC ad kc sv) (zC ak) A s σ H locs) (hl : lv_has ls 4 [(0, .ref (ad 2)), (1, .long a1), (3, .int a3)]) (hg : f_X4_addConstructor a1 a3 σ = some (r, τ)) : W p l e R s m args below meth c H locs 0 0 (MQ below (gQv (dC, dI) (tC kc) (wC ad kc sv) A r τ) args s 0 0 A) (F0 m 0 ls []) := by
  have hx := S.1
  have hb := S.2.1
  have hown := S.2.2.2.1
  have hu := S.2.2.2.2
  unfold f_X4_addConstructor at hg
  refine lv_aload_n hx hb dX4_addConstructor_0 rfl (lv_at hl 0 rfl) ?_
  refine wcgI_4 (v := (gI σ 4)) S X mG_290 rfl dX4_addConstructor_1 ?_
  refine lv_bipush (v := 30) hx hb dX4_addConstructor_4 (by decide) ?_
  refine lv_icmp_ge (tgt := 39) hx hb dX4_addConstructor_6 (by decide) (fun c6 => ?_) (fun c6 => ?_)
  · have hg := (if_pos c6).symm.trans hg
    obtain ⟨-, rfl⟩ := fin_some hg
    exact gr_v S hr hk X dX4_addConstructor_39
  · have hg := (if_neg c6).symm.trans hg
    refine lv_aload_n hx hb dX4_addConstructor_9 rfl (lv_at hl 0 rfl) ?_
    refine wcgR_2_0 S X mG_282 dX4_addConstructor_10 ?_
    refine lv_aload_n hx hb dX4_addConstructor_13 rfl (lv_at hl 0 rfl) ?_
    refine wcgI_4 (v := (gI σ 4)) S X mG_290 rfl dX4_addConstructor_14 ?_
    refine lv_lload_n hx hb dX4_addConstructor_17 rfl (lv_at hl 1 rfl) ?_
    obtain ⟨hi18, hg⟩ := gd_some hg
    refine wcsB_0 S X hi18 dX4_addConstructor_18 (fun H locs X => ?_)
    refine lv_aload_n hx hb dX4_addConstructor_19 rfl (lv_at hl 0 rfl) ?_
    refine wcgR_2_1 S X mG_284 dX4_addConstructor_20 ?_
    refine lv_aload_n hx hb dX4_addConstructor_23 rfl (lv_at hl 0 rfl) ?_
    refine wcgI_4 (v := (gI σ 4)) S X mG_290 rfl dX4_addConstructor_24 ?_
    refine lv_iload_n hx hb dX4_addConstructor_27 rfl (lv_at hl 2 rfl) ?_
    obtain ⟨hi28, hg⟩ := gd_some hg
    refine wcsA_2 S X hi28 dX4_addConstructor_28 (fun H locs X => ?_)
    refine lv_aload_n hx hb dX4_addConstructor_29 rfl (lv_at hl 0 rfl) ?_
    refine lv_dup hx hb dX4_addConstructor_30 rfl ?_
    refine wcgI_4 (v := (gI σ 4)) S X mG_290 rfl dX4_addConstructor_31 ?_
    refine lv_iconst (v := 1) hx hb dX4_addConstructor_34 (by decide) ?_
    refine lv_iadd hx hb dX4_addConstructor_35 ?_
    refine wcpI_4 S X mG_290 dX4_addConstructor_36 (fun H locs X => ?_)
    obtain ⟨-, rfl⟩ := fin_some hg
    exact gr_v S hr hk X dX4_addConstructor_39
end MX4_addConstructor
set_option maxRecDepth 100000 in
theorem k2_X4_addConstructor (l : Launch) (dC : Nat → ClassId) (dI : Nat → Nat → Nat) {ak : Nat → Nat} (ad : Nat → Nat) (kc : Nat → ClassId) (sv : Value) {σ τ : S5} {a1 : Int64} {a3 : Int32} {r : Unit} (hg : f_X4_addConstructor a1 a3 σ = some (r, τ)) (sz : Nat) : Met l yX4_addConstructor (Cond.code yX4_addConstructor cX4_addConstructor 4 none :: uG) { frames := 0, cells := 0, slots := 0, locals := 0 } (gPc (dC, dI) (tC kc) (wC ad kc sv) (zC ak) [.ref (ad 2), .long a1, .int a3] σ sz) (gQv (dC, dI) (tC kc) (wC ad kc sv) (va_A (wC ad kc sv σ) sz) r τ) 0 0 (va_A (wC ad kc sv σ) sz) :=
  g_start (by decide) (Nat.le_of_ble_eq_true rfl) (fun p e s m below meth c ls S hr hk X hl => w_X4_addConstructor S hr hk ⟨Nat.le_refl _, Nat.le_refl _⟩ X hl hg)
section MX4_clear
variable {p : Program} {l : Launch} {e : Env} {R : Room} {s : State} {m : MethodId} {args : Array Value} {below : List Frame} {meth : Method} {c : Code} {dC : Nat → ClassId} {dI : Nat → Nat → Nat} {ak : Nat → Nat} {A : Nat → Prop} {ad : Nat → Nat} {kc : Nat → ClassId} {sv : Value} {r : Unit} {τ : S5}
set_option maxHeartbeats 4000000 in
set_option maxRecDepth 100000 in
theorem w_X4_clear {σ : S5}  {H : Heap} {locs : List Loc} {ls : Array Slot} (S : CallFix p m c cX4_clear 1 s args uG RX4) (hr : meth.sig.returnType = none) (hk : meth.locks = false) (hR : 1 ≤ R.frames ∧ 23 ≤ R.locals)
    (X : gX (dC, dI) (tC kc) (wC ad kc sv) (zC ak) A s σ H locs) (hl : lv_has ls 1 [(0, .ref (ad 2))]) (hg : f_X4_clear  σ = some (r, τ)) : W p l e R s m args below meth c H locs 0 0 (MQ below (gQv (dC, dI) (tC kc) (wC ad kc sv) A r τ) args s 0 0 A) (F0 m 0 ls []) := by
  have hx := S.1
  have hb := S.2.1
  have hown := S.2.2.2.1
  have hu := S.2.2.2.2
  unfold f_X4_clear at hg
  refine lv_aload_n hx hb dX4_clear_0 rfl (lv_at hl 0 rfl) ?_
  refine lv_iconst (v := 0) hx hb dX4_clear_1 (by decide) ?_
  refine wcpI_4 S X mG_290 dX4_clear_2 (fun H locs X => ?_)
  refine lv_aload_n hx hb dX4_clear_5 rfl (lv_at hl 0 rfl) ?_
  refine lv_ldc2 (own := RX4) (v := 302282208101) hx hb hown (hu _ mG_904) dX4_clear_6 ?_
  refine lv_iconst (v := 0) hx hb dX4_clear_9 (by decide) ?_
  obtain ⟨r10, τ10, hq10, hg⟩ := bd_some hg
  refine gc_Vv (As := [.long 302282208101, .int 0]) (rest := []) (q0 := 2) (ci := 7) S X (k2_X4_addConstructor l dC dI ad kc sv hq10 H.size) cw_X4_addConstructor mG_905 rfl rfl rfl rfl rfl hl.1 (Nat.le_of_ble_eq_true rfl) dX4_clear_10 ⟨by omega, by omega⟩ (fun H locs X => ?_)
  refine lv_aload_n hx hb dX4_clear_13 rfl (lv_at hl 0 rfl) ?_
  refine lv_ldc2 (own := RX4) (v := 1416787301) hx hb hown (hu _ mG_909) dX4_clear_14 ?_
  refine lv_iconst (v := 0) hx hb dX4_clear_17 (by decide) ?_
  obtain ⟨r18, τ18, hq18, hg⟩ := bd_some hg
  refine gc_Vv (As := [.long 1416787301, .int 0]) (rest := []) (q0 := 2) (ci := 7) S X (k2_X4_addConstructor l dC dI ad kc sv hq18 H.size) cw_X4_addConstructor mG_905 rfl rfl rfl rfl rfl hl.1 (Nat.le_of_ble_eq_true rfl) dX4_clear_18 ⟨by omega, by omega⟩ (fun H locs X => ?_)
  refine lv_aload_n hx hb dX4_clear_21 rfl (lv_at hl 0 rfl) ?_
  refine lv_iconst (v := 0) hx hb dX4_clear_22 (by decide) ?_
  refine wcpI_5 S X mG_295 dX4_clear_23 (fun H locs X => ?_)
  refine lv_aload_n hx hb dX4_clear_26 rfl (lv_at hl 0 rfl) ?_
  refine lv_iconst (v := 0) hx hb dX4_clear_27 (by decide) ?_
  refine wcpI_6 S X mG_300 dX4_clear_28 (fun H locs X => ?_)
  refine lv_aload_n hx hb dX4_clear_31 rfl (lv_at hl 0 rfl) ?_
  refine lv_iconst (v := (-1)) hx hb dX4_clear_32 (by decide) ?_
  refine wcpI_7 S X mG_304 dX4_clear_33 (fun H locs X => ?_)
  obtain ⟨-, rfl⟩ := fin_some hg
  exact gr_v S hr hk X dX4_clear_36
end MX4_clear
set_option maxRecDepth 100000 in
theorem k2_X4_clear (l : Launch) (dC : Nat → ClassId) (dI : Nat → Nat → Nat) {ak : Nat → Nat} (ad : Nat → Nat) (kc : Nat → ClassId) (sv : Value) {σ τ : S5}  {r : Unit} (hg : f_X4_clear  σ = some (r, τ)) (sz : Nat) : Met l yX4_clear (Cond.code yX4_clear cX4_clear 1 none :: uG) { frames := 1, cells := 0, slots := 0, locals := 23 } (gPc (dC, dI) (tC kc) (wC ad kc sv) (zC ak) [.ref (ad 2)] σ sz) (gQv (dC, dI) (tC kc) (wC ad kc sv) (va_A (wC ad kc sv σ) sz) r τ) 0 0 (va_A (wC ad kc sv σ) sz) :=
  g_start (by decide) (Nat.le_of_ble_eq_true rfl) (fun p e s m below meth c ls S hr hk X hl => w_X4_clear S hr hk ⟨Nat.le_refl _, Nat.le_refl _⟩ X hl hg)
section MX4_constructorOf
variable {p : Program} {l : Launch} {e : Env} {R : Room} {s : State} {m : MethodId} {args : Array Value} {below : List Frame} {meth : Method} {c : Code} {dC : Nat → ClassId} {dI : Nat → Nat → Nat} {ak : Nat → Nat} {A : Nat → Prop} {ad : Nat → Nat} {kc : Nat → ClassId} {sv : Value} {r : Int32} {τ : S5}
set_option maxHeartbeats 4000000 in
set_option maxRecDepth 100000 in
theorem w_X4_constructorOf_B2 {σ : S5} {rec2 : Int64 → Int32 → S5 → Option (Int32 × S5)} {v1 : Int64} {v3 : Int32} {H : Heap} {locs : List Loc} {ls : Array Slot} (S : CallFix p m c cX4_constructorOf 4 s args uG RX4) (hr : meth.sig.returnType = (some .int)) (hk : meth.locks = false) (hR : 0 ≤ R.frames ∧ 0 ≤ R.locals)
    (hrec2 : ∀ (v1 : Int64) (v3 : Int32) (σ : S5) (H : Heap) (locs : List Loc) (ls : Array Slot), gX (dC, dI) (tC kc) (wC ad kc sv) (zC ak) A s σ H locs → lv_has ls 4 [(0, .ref (ad 2)), (1, .long v1), (3, .int v3)] → rec2 v1 v3 σ = some (r, τ) → W p l e R s m args below meth c H locs 0 0 (MQ below (gQi (dC, dI) (tC kc) (wC ad kc sv) A r τ) args s 0 0 A) (F0 m 2 ls []))
    (X : gX (dC, dI) (tC kc) (wC ad kc sv) (zC ak) A s σ H locs) (hl : lv_has ls 4 [(0, .ref (ad 2)), (1, .long v1), (3, .int v3)]) (hg : f_X4_constructorOf_B2 rec2 v1 v3 σ = some (r, τ)) : W p l e R s m args below meth c H locs 0 0 (MQ below (gQi (dC, dI) (tC kc) (wC ad kc sv) A r τ) args s 0 0 A) (F0 m 2 ls []) := by
  have hx := S.1
  have hb := S.2.1
  have hown := S.2.2.2.1
  have hu := S.2.2.2.2
  unfold f_X4_constructorOf_B2 at hg
  refine lv_iload_n hx hb dX4_constructorOf_2 rfl (lv_at hl 2 rfl) ?_
  refine lv_aload_n hx hb dX4_constructorOf_3 rfl (lv_at hl 0 rfl) ?_
  refine wcgI_4 (v := (gI σ 4)) S X mG_290 rfl dX4_constructorOf_4 ?_
  refine lv_icmp_ge (tgt := 29) hx hb dX4_constructorOf_7 (by decide) (fun c7 => ?_) (fun c7 => ?_)
  · have hg := (if_pos c7).symm.trans hg
    refine lv_iconst (v := (-1)) hx hb dX4_constructorOf_29 (by decide) ?_
    obtain ⟨rfl, rfl⟩ := fin_some hg
    exact gr_i S hr hk X dX4_constructorOf_30
  · have hg := (if_neg c7).symm.trans hg
    refine lv_aload_n hx hb dX4_constructorOf_10 rfl (lv_at hl 0 rfl) ?_
    refine wcgR_2_0 S X mG_282 dX4_constructorOf_11 ?_
    refine lv_iload_n hx hb dX4_constructorOf_14 rfl (lv_at hl 2 rfl) ?_
    obtain ⟨hi15, hg⟩ := gd_some hg
    refine wclB_0 (v := (xB σ 0 v3)) S X hi15 rfl dX4_constructorOf_15 ?_
    refine lv_lload_n hx hb dX4_constructorOf_16 rfl (lv_at hl 1 rfl) ?_
    refine W.lcmp hx hb dX4_constructorOf_17 ?_
    refine lv_if_ne (tgt := 23) hx hb dX4_constructorOf_18 (by decide) (fun c18 => ?_) (fun c18 => ?_)
    · have hg := (if_neg c18).symm.trans hg
      refine lv_iinc (v := (v3 + 1)) (lv' := [(3, .int (v3 + 1)), (0, .ref (ad 2)), (1, .long v1)]) hx hb dX4_constructorOf_23 hl (k := 2) rfl (by rfl) (by decide) rfl (fun ls hl => ?_)
      refine lv_goto (tgt := 2) hx hb dX4_constructorOf_26 (by decide) ?_
      exact hrec2 _ _ _ _ _ _ X (lv_sub hl [1, 2, 0] rfl) hg
    · have hg := (if_pos c18).symm.trans hg
      refine lv_iload_n hx hb dX4_constructorOf_21 rfl (lv_at hl 2 rfl) ?_
      obtain ⟨rfl, rfl⟩ := fin_some hg
      exact gr_i S hr hk X dX4_constructorOf_22
set_option maxHeartbeats 4000000 in
set_option maxRecDepth 100000 in
theorem w_X4_constructorOf_L2 (S : CallFix p m c cX4_constructorOf 4 s args uG RX4) (hr : meth.sig.returnType = (some .int)) (hk : meth.locks = false) (hR : 0 ≤ R.frames ∧ 0 ≤ R.locals) : ∀ (n : Nat) (v1 : Int64) (v3 : Int32) (σ : S5) (H : Heap) (locs : List Loc) (ls : Array Slot), gX (dC, dI) (tC kc) (wC ad kc sv) (zC ak) A s σ H locs → lv_has ls 4 [(0, .ref (ad 2)), (1, .long v1), (3, .int v3)] → f_X4_constructorOf_L2  n v1 v3 σ = some (r, τ) → W p l e R s m args below meth c H locs 0 0 (MQ below (gQi (dC, dI) (tC kc) (wC ad kc sv) A r τ) args s 0 0 A) (F0 m 2 ls []) := by
  intro n
  induction n with
  | zero => intro v1 v3 σ H locs ls X hl hg; cases hg
  | succ n ih => intro v1 v3 σ H locs ls X hl hg; exact w_X4_constructorOf_B2 S hr hk hR ih X hl hg
set_option maxHeartbeats 4000000 in
set_option maxRecDepth 100000 in
theorem w_X4_constructorOf {σ : S5} {a1 : Int64} {H : Heap} {locs : List Loc} {ls : Array Slot} (S : CallFix p m c cX4_constructorOf 4 s args uG RX4) (hr : meth.sig.returnType = (some .int)) (hk : meth.locks = false) (hR : 0 ≤ R.frames ∧ 0 ≤ R.locals)
    (X : gX (dC, dI) (tC kc) (wC ad kc sv) (zC ak) A s σ H locs) (hl : lv_has ls 4 [(0, .ref (ad 2)), (1, .long a1)]) (hg : f_X4_constructorOf a1 σ = some (r, τ)) : W p l e R s m args below meth c H locs 0 0 (MQ below (gQi (dC, dI) (tC kc) (wC ad kc sv) A r τ) args s 0 0 A) (F0 m 0 ls []) := by
  have hx := S.1
  have hb := S.2.1
  have hown := S.2.2.2.1
  have hu := S.2.2.2.2
  unfold f_X4_constructorOf at hg
  refine lv_iconst (v := 0) hx hb dX4_constructorOf_0 (by decide) ?_
  refine lv_istore_n (lv' := [(3, .int 0), (0, .ref (ad 2)), (1, .long a1)]) hx hb dX4_constructorOf_1 rfl hl (by decide) rfl (fun ls hl => ?_)
  exact w_X4_constructorOf_L2 S hr hk hR _ _ _ _ _ _ _ X (lv_sub hl [1, 2, 0] rfl) hg
end MX4_constructorOf
set_option maxRecDepth 100000 in
theorem k2_X4_constructorOf (l : Launch) (dC : Nat → ClassId) (dI : Nat → Nat → Nat) {ak : Nat → Nat} (ad : Nat → Nat) (kc : Nat → ClassId) (sv : Value) {σ τ : S5} {a1 : Int64} {r : Int32} (hg : f_X4_constructorOf a1 σ = some (r, τ)) (sz : Nat) : Met l yX4_constructorOf (Cond.code yX4_constructorOf cX4_constructorOf 4 (some .int) :: uG) { frames := 0, cells := 0, slots := 0, locals := 0 } (gPc (dC, dI) (tC kc) (wC ad kc sv) (zC ak) [.ref (ad 2), .long a1] σ sz) (gQi (dC, dI) (tC kc) (wC ad kc sv) (va_A (wC ad kc sv σ) sz) r τ) 0 0 (va_A (wC ad kc sv σ) sz) :=
  g_start (by decide) (Nat.le_of_ble_eq_true rfl) (fun p e s m below meth c ls S hr hk X hl => w_X4_constructorOf S hr hk ⟨Nat.le_refl _, Nat.le_refl _⟩ X hl hg)
section MX4_addFunction
variable {p : Program} {l : Launch} {e : Env} {R : Room} {s : State} {m : MethodId} {args : Array Value} {below : List Frame} {meth : Method} {c : Code} {dC : Nat → ClassId} {dI : Nat → Nat → Nat} {ak : Nat → Nat} {A : Nat → Prop} {ad : Nat → Nat} {kc : Nat → ClassId} {sv : Value} {r : Int32} {τ : S5}
set_option maxHeartbeats 4000000 in
set_option maxRecDepth 100000 in
theorem w_X4_addFunction {σ : S5} {a1 : Int32} {H : Heap} {locs : List Loc} {ls : Array Slot} (S : CallFix p m c cX4_addFunction 2 s args uG RX4) (hr : meth.sig.returnType = (some .int)) (hk : meth.locks = false) (hR : 0 ≤ R.frames ∧ 0 ≤ R.locals)
    (X : gX (dC, dI) (tC kc) (wC ad kc sv) (zC ak) A s σ H locs) (hl : lv_has ls 2 [(0, .ref (ad 2)), (1, .int a1)]) (hg : f_X4_addFunction a1 σ = some (r, τ)) : W p l e R s m args below meth c H locs 0 0 (MQ below (gQi (dC, dI) (tC kc) (wC ad kc sv) A r τ) args s 0 0 A) (F0 m 0 ls []) := by
  have hx := S.1
  have hb := S.2.1
  have hown := S.2.2.2.1
  have hu := S.2.2.2.2
  unfold f_X4_addFunction at hg
  refine lv_aload_n hx hb dX4_addFunction_0 rfl (lv_at hl 0 rfl) ?_
  refine wcgI_6 (v := (gI σ 6)) S X mG_300 rfl dX4_addFunction_1 ?_
  refine lv_sipush (v := 630) hx hb dX4_addFunction_4 (by decide) ?_
  refine lv_icmp_lt (tgt := 12) hx hb dX4_addFunction_7 (by decide) (fun c7 => ?_) (fun c7 => ?_)
  · have hg := (if_pos c7).symm.trans hg
    refine lv_aload_n hx hb dX4_addFunction_12 rfl (lv_at hl 0 rfl) ?_
    refine wcgR_2_12 S X mG_327 dX4_addFunction_13 ?_
    refine lv_aload_n hx hb dX4_addFunction_16 rfl (lv_at hl 0 rfl) ?_
    refine wcgI_6 (v := (gI σ 6)) S X mG_300 rfl dX4_addFunction_17 ?_
    refine lv_iload_n hx hb dX4_addFunction_20 rfl (lv_at hl 1 rfl) ?_
    obtain ⟨hi21, hg⟩ := gd_some hg
    refine wcsA_8 S X hi21 dX4_addFunction_21 (fun H locs X => ?_)
    refine lv_aload_n hx hb dX4_addFunction_22 rfl (lv_at hl 0 rfl) ?_
    refine wcgR_2_8 S X mG_314 dX4_addFunction_23 ?_
    refine lv_aload_n hx hb dX4_addFunction_26 rfl (lv_at hl 0 rfl) ?_
    refine wcgI_6 (v := (gI σ 6)) S X mG_300 rfl dX4_addFunction_27 ?_
    refine lv_iconst (v := 0) hx hb dX4_addFunction_30 (by decide) ?_
    obtain ⟨hi31, hg⟩ := gd_some hg
    refine wcsA_4 S X hi31 dX4_addFunction_31 (fun H locs X => ?_)
    refine lv_aload_n hx hb dX4_addFunction_32 rfl (lv_at hl 0 rfl) ?_
    refine wcgR_2_15 S X mG_333 dX4_addFunction_33 ?_
    refine lv_aload_n hx hb dX4_addFunction_36 rfl (lv_at hl 0 rfl) ?_
    refine wcgI_6 (v := (gI σ 6)) S X mG_300 rfl dX4_addFunction_37 ?_
    refine lv_iconst (v := 0) hx hb dX4_addFunction_40 (by decide) ?_
    obtain ⟨hi41, hg⟩ := gd_some hg
    refine wcsA_11 S X hi41 dX4_addFunction_41 (fun H locs X => ?_)
    refine lv_aload_n hx hb dX4_addFunction_42 rfl (lv_at hl 0 rfl) ?_
    refine lv_dup hx hb dX4_addFunction_43 rfl ?_
    refine wcgI_6 (v := (gI σ 6)) S X mG_300 rfl dX4_addFunction_44 ?_
    refine lv_iconst (v := 1) hx hb dX4_addFunction_47 (by decide) ?_
    refine lv_iadd hx hb dX4_addFunction_48 ?_
    refine wcpI_6 S X mG_300 dX4_addFunction_49 (fun H locs X => ?_)
    refine lv_aload_n hx hb dX4_addFunction_52 rfl (lv_at hl 0 rfl) ?_
    refine wcgI_6 (v := ((gI σ 6) + 1)) S X mG_300 rfl dX4_addFunction_53 ?_
    refine lv_iconst (v := 1) hx hb dX4_addFunction_56 (by decide) ?_
    refine lv_isub hx hb dX4_addFunction_57 ?_
    obtain ⟨rfl, rfl⟩ := fin_some hg
    exact gr_i S hr hk X dX4_addFunction_58
  · have hg := (if_neg c7).symm.trans hg
    refine lv_iconst (v := 0) hx hb dX4_addFunction_10 (by decide) ?_
    obtain ⟨rfl, rfl⟩ := fin_some hg
    exact gr_i S hr hk X dX4_addFunction_11
end MX4_addFunction
set_option maxRecDepth 100000 in
theorem k2_X4_addFunction (l : Launch) (dC : Nat → ClassId) (dI : Nat → Nat → Nat) {ak : Nat → Nat} (ad : Nat → Nat) (kc : Nat → ClassId) (sv : Value) {σ τ : S5} {a1 : Int32} {r : Int32} (hg : f_X4_addFunction a1 σ = some (r, τ)) (sz : Nat) : Met l yX4_addFunction (Cond.code yX4_addFunction cX4_addFunction 2 (some .int) :: uG) { frames := 0, cells := 0, slots := 0, locals := 0 } (gPc (dC, dI) (tC kc) (wC ad kc sv) (zC ak) [.ref (ad 2), .int a1] σ sz) (gQi (dC, dI) (tC kc) (wC ad kc sv) (va_A (wC ad kc sv σ) sz) r τ) 0 0 (va_A (wC ad kc sv σ) sz) :=
  g_start (by decide) (Nat.le_of_ble_eq_true rfl) (fun p e s m below meth c ls S hr hk X hl => w_X4_addFunction S hr hk ⟨Nat.le_refl _, Nat.le_refl _⟩ X hl hg)
section MX4_addTop
variable {p : Program} {l : Launch} {e : Env} {R : Room} {s : State} {m : MethodId} {args : Array Value} {below : List Frame} {meth : Method} {c : Code} {dC : Nat → ClassId} {dI : Nat → Nat → Nat} {ak : Nat → Nat} {A : Nat → Prop} {ad : Nat → Nat} {kc : Nat → ClassId} {sv : Value} {r : Unit} {τ : S5}
set_option maxHeartbeats 4000000 in
set_option maxRecDepth 100000 in
theorem w_X4_addTop {σ : S5} {a1 : Int64} {a3 : Int32} {H : Heap} {locs : List Loc} {ls : Array Slot} (S : CallFix p m c cX4_addTop 4 s args uG RX4) (hr : meth.sig.returnType = none) (hk : meth.locks = false) (hR : 1 ≤ R.frames ∧ 21 ≤ R.locals)
    (X : gX (dC, dI) (tC kc) (wC ad kc sv) (zC ak) A s σ H locs) (hl : lv_has ls 4 [(0, .ref (ad 2)), (1, .long a1), (3, .int a3)]) (hg : f_X4_addTop a1 a3 σ = some (r, τ)) : W p l e R s m args below meth c H locs 0 0 (MQ below (gQv (dC, dI) (tC kc) (wC ad kc sv) A r τ) args s 0 0 A) (F0 m 0 ls []) := by
  have hx := S.1
  have hb := S.2.1
  have hown := S.2.2.2.1
  have hu := S.2.2.2.2
  unfold f_X4_addTop at hg
  refine lv_aload_n hx hb dX4_addTop_0 rfl (lv_at hl 0 rfl) ?_
  refine wcgI_5 (v := (gI σ 5)) S X mG_295 rfl dX4_addTop_1 ?_
  refine lv_bipush (v := 30) hx hb dX4_addTop_4 (by decide) ?_
  refine lv_icmp_ge (tgt := 35) hx hb dX4_addTop_6 (by decide) (fun c6 => ?_) (fun c6 => ?_)
  · have hg := (if_pos c6).symm.trans hg
    obtain ⟨-, rfl⟩ := fin_some hg
    exact gr_v S hr hk X dX4_addTop_35
  · have hg := (if_neg c6).symm.trans hg
    refine lv_aload_n hx hb dX4_addTop_9 rfl (lv_at hl 0 rfl) ?_
    refine wcgR_2_3 S X mG_294 dX4_addTop_10 ?_
    refine lv_aload_n hx hb dX4_addTop_13 rfl (lv_at hl 0 rfl) ?_
    refine wcgI_5 (v := (gI σ 5)) S X mG_295 rfl dX4_addTop_14 ?_
    refine lv_lload_n hx hb dX4_addTop_17 rfl (lv_at hl 1 rfl) ?_
    obtain ⟨hi18, hg⟩ := gd_some hg
    refine wcsB_1 S X hi18 dX4_addTop_18 (fun H locs X => ?_)
    refine lv_aload_n hx hb dX4_addTop_19 rfl (lv_at hl 0 rfl) ?_
    refine lv_dup hx hb dX4_addTop_20 rfl ?_
    refine wcgI_5 (v := (gI σ 5)) S X mG_295 rfl dX4_addTop_21 ?_
    refine lv_iconst (v := 1) hx hb dX4_addTop_24 (by decide) ?_
    refine lv_iadd hx hb dX4_addTop_25 ?_
    refine wcpI_5 S X mG_295 dX4_addTop_26 (fun H locs X => ?_)
    refine lv_aload_n hx hb dX4_addTop_29 rfl (lv_at hl 0 rfl) ?_
    refine lv_iload_n hx hb dX4_addTop_30 rfl (lv_at hl 2 rfl) ?_
    obtain ⟨r31, τ31, hq31, hg⟩ := bd_some hg
    refine gc_Vi (As := [.int a3]) (rest := []) (q0 := 2) (ci := 7) S X (k2_X4_addFunction l dC dI ad kc sv hq31 H.size) cw_X4_addFunction mG_1092 rfl rfl rfl rfl rfl hl.1 (Nat.le_of_ble_eq_true rfl) dX4_addTop_31 ⟨by omega, by omega⟩ (fun H locs X => ?_)
    refine lv_pop hx hb dX4_addTop_34 rfl ?_
    obtain ⟨-, rfl⟩ := fin_some hg
    exact gr_v S hr hk X dX4_addTop_35
end MX4_addTop
set_option maxRecDepth 100000 in
theorem k2_X4_addTop (l : Launch) (dC : Nat → ClassId) (dI : Nat → Nat → Nat) {ak : Nat → Nat} (ad : Nat → Nat) (kc : Nat → ClassId) (sv : Value) {σ τ : S5} {a1 : Int64} {a3 : Int32} {r : Unit} (hg : f_X4_addTop a1 a3 σ = some (r, τ)) (sz : Nat) : Met l yX4_addTop (Cond.code yX4_addTop cX4_addTop 4 none :: uG) { frames := 1, cells := 0, slots := 0, locals := 21 } (gPc (dC, dI) (tC kc) (wC ad kc sv) (zC ak) [.ref (ad 2), .long a1, .int a3] σ sz) (gQv (dC, dI) (tC kc) (wC ad kc sv) (va_A (wC ad kc sv σ) sz) r τ) 0 0 (va_A (wC ad kc sv σ) sz) :=
  g_start (by decide) (Nat.le_of_ble_eq_true rfl) (fun p e s m below meth c ls S hr hk X hl => w_X4_addTop S hr hk ⟨Nat.le_refl _, Nat.le_refl _⟩ X hl hg)
section MX4_topOf
variable {p : Program} {l : Launch} {e : Env} {R : Room} {s : State} {m : MethodId} {args : Array Value} {below : List Frame} {meth : Method} {c : Code} {dC : Nat → ClassId} {dI : Nat → Nat → Nat} {ak : Nat → Nat} {A : Nat → Prop} {ad : Nat → Nat} {kc : Nat → ClassId} {sv : Value} {r : Int32} {τ : S5}
set_option maxHeartbeats 4000000 in
set_option maxRecDepth 100000 in
theorem w_X4_topOf_B2 {σ : S5} {rec2 : Int64 → Int32 → S5 → Option (Int32 × S5)} {v1 : Int64} {v3 : Int32} {H : Heap} {locs : List Loc} {ls : Array Slot} (S : CallFix p m c cX4_topOf 4 s args uG RX4) (hr : meth.sig.returnType = (some .int)) (hk : meth.locks = false) (hR : 0 ≤ R.frames ∧ 0 ≤ R.locals)
    (hrec2 : ∀ (v1 : Int64) (v3 : Int32) (σ : S5) (H : Heap) (locs : List Loc) (ls : Array Slot), gX (dC, dI) (tC kc) (wC ad kc sv) (zC ak) A s σ H locs → lv_has ls 4 [(0, .ref (ad 2)), (1, .long v1), (3, .int v3)] → rec2 v1 v3 σ = some (r, τ) → W p l e R s m args below meth c H locs 0 0 (MQ below (gQi (dC, dI) (tC kc) (wC ad kc sv) A r τ) args s 0 0 A) (F0 m 2 ls []))
    (X : gX (dC, dI) (tC kc) (wC ad kc sv) (zC ak) A s σ H locs) (hl : lv_has ls 4 [(0, .ref (ad 2)), (1, .long v1), (3, .int v3)]) (hg : f_X4_topOf_B2 rec2 v1 v3 σ = some (r, τ)) : W p l e R s m args below meth c H locs 0 0 (MQ below (gQi (dC, dI) (tC kc) (wC ad kc sv) A r τ) args s 0 0 A) (F0 m 2 ls []) := by
  have hx := S.1
  have hb := S.2.1
  have hown := S.2.2.2.1
  have hu := S.2.2.2.2
  unfold f_X4_topOf_B2 at hg
  refine lv_iload_n hx hb dX4_topOf_2 rfl (lv_at hl 2 rfl) ?_
  refine lv_aload_n hx hb dX4_topOf_3 rfl (lv_at hl 0 rfl) ?_
  refine wcgI_5 (v := (gI σ 5)) S X mG_295 rfl dX4_topOf_4 ?_
  refine lv_icmp_ge (tgt := 29) hx hb dX4_topOf_7 (by decide) (fun c7 => ?_) (fun c7 => ?_)
  · have hg := (if_pos c7).symm.trans hg
    refine lv_iconst (v := (-1)) hx hb dX4_topOf_29 (by decide) ?_
    obtain ⟨rfl, rfl⟩ := fin_some hg
    exact gr_i S hr hk X dX4_topOf_30
  · have hg := (if_neg c7).symm.trans hg
    refine lv_aload_n hx hb dX4_topOf_10 rfl (lv_at hl 0 rfl) ?_
    refine wcgR_2_3 S X mG_294 dX4_topOf_11 ?_
    refine lv_iload_n hx hb dX4_topOf_14 rfl (lv_at hl 2 rfl) ?_
    obtain ⟨hi15, hg⟩ := gd_some hg
    refine wclB_1 (v := (xB σ 1 v3)) S X hi15 rfl dX4_topOf_15 ?_
    refine lv_lload_n hx hb dX4_topOf_16 rfl (lv_at hl 1 rfl) ?_
    refine W.lcmp hx hb dX4_topOf_17 ?_
    refine lv_if_ne (tgt := 23) hx hb dX4_topOf_18 (by decide) (fun c18 => ?_) (fun c18 => ?_)
    · have hg := (if_neg c18).symm.trans hg
      refine lv_iinc (v := (v3 + 1)) (lv' := [(3, .int (v3 + 1)), (0, .ref (ad 2)), (1, .long v1)]) hx hb dX4_topOf_23 hl (k := 2) rfl (by rfl) (by decide) rfl (fun ls hl => ?_)
      refine lv_goto (tgt := 2) hx hb dX4_topOf_26 (by decide) ?_
      exact hrec2 _ _ _ _ _ _ X (lv_sub hl [1, 2, 0] rfl) hg
    · have hg := (if_pos c18).symm.trans hg
      refine lv_iload_n hx hb dX4_topOf_21 rfl (lv_at hl 2 rfl) ?_
      obtain ⟨rfl, rfl⟩ := fin_some hg
      exact gr_i S hr hk X dX4_topOf_22
set_option maxHeartbeats 4000000 in
set_option maxRecDepth 100000 in
theorem w_X4_topOf_L2 (S : CallFix p m c cX4_topOf 4 s args uG RX4) (hr : meth.sig.returnType = (some .int)) (hk : meth.locks = false) (hR : 0 ≤ R.frames ∧ 0 ≤ R.locals) : ∀ (n : Nat) (v1 : Int64) (v3 : Int32) (σ : S5) (H : Heap) (locs : List Loc) (ls : Array Slot), gX (dC, dI) (tC kc) (wC ad kc sv) (zC ak) A s σ H locs → lv_has ls 4 [(0, .ref (ad 2)), (1, .long v1), (3, .int v3)] → f_X4_topOf_L2  n v1 v3 σ = some (r, τ) → W p l e R s m args below meth c H locs 0 0 (MQ below (gQi (dC, dI) (tC kc) (wC ad kc sv) A r τ) args s 0 0 A) (F0 m 2 ls []) := by
  intro n
  induction n with
  | zero => intro v1 v3 σ H locs ls X hl hg; cases hg
  | succ n ih => intro v1 v3 σ H locs ls X hl hg; exact w_X4_topOf_B2 S hr hk hR ih X hl hg
set_option maxHeartbeats 4000000 in
set_option maxRecDepth 100000 in
theorem w_X4_topOf {σ : S5} {a1 : Int64} {H : Heap} {locs : List Loc} {ls : Array Slot} (S : CallFix p m c cX4_topOf 4 s args uG RX4) (hr : meth.sig.returnType = (some .int)) (hk : meth.locks = false) (hR : 0 ≤ R.frames ∧ 0 ≤ R.locals)
    (X : gX (dC, dI) (tC kc) (wC ad kc sv) (zC ak) A s σ H locs) (hl : lv_has ls 4 [(0, .ref (ad 2)), (1, .long a1)]) (hg : f_X4_topOf a1 σ = some (r, τ)) : W p l e R s m args below meth c H locs 0 0 (MQ below (gQi (dC, dI) (tC kc) (wC ad kc sv) A r τ) args s 0 0 A) (F0 m 0 ls []) := by
  have hx := S.1
  have hb := S.2.1
  have hown := S.2.2.2.1
  have hu := S.2.2.2.2
  unfold f_X4_topOf at hg
  refine lv_iconst (v := 0) hx hb dX4_topOf_0 (by decide) ?_
  refine lv_istore_n (lv' := [(3, .int 0), (0, .ref (ad 2)), (1, .long a1)]) hx hb dX4_topOf_1 rfl hl (by decide) rfl (fun ls hl => ?_)
  exact w_X4_topOf_L2 S hr hk hR _ _ _ _ _ _ _ X (lv_sub hl [1, 2, 0] rfl) hg
end MX4_topOf
set_option maxRecDepth 100000 in
theorem k2_X4_topOf (l : Launch) (dC : Nat → ClassId) (dI : Nat → Nat → Nat) {ak : Nat → Nat} (ad : Nat → Nat) (kc : Nat → ClassId) (sv : Value) {σ τ : S5} {a1 : Int64} {r : Int32} (hg : f_X4_topOf a1 σ = some (r, τ)) (sz : Nat) : Met l yX4_topOf (Cond.code yX4_topOf cX4_topOf 4 (some .int) :: uG) { frames := 0, cells := 0, slots := 0, locals := 0 } (gPc (dC, dI) (tC kc) (wC ad kc sv) (zC ak) [.ref (ad 2), .long a1] σ sz) (gQi (dC, dI) (tC kc) (wC ad kc sv) (va_A (wC ad kc sv σ) sz) r τ) 0 0 (va_A (wC ad kc sv σ) sz) :=
  g_start (by decide) (Nat.le_of_ble_eq_true rfl) (fun p e s m below meth c ls S hr hk X hl => w_X4_topOf S hr hk ⟨Nat.le_refl _, Nat.le_refl _⟩ X hl hg)
section MX4_needsParameter
variable {p : Program} {l : Launch} {e : Env} {R : Room} {s : State} {m : MethodId} {args : Array Value} {below : List Frame} {meth : Method} {c : Code} {dC : Nat → ClassId} {dI : Nat → Nat → Nat} {ak : Nat → Nat} {A : Nat → Prop} {ad : Nat → Nat} {kc : Nat → ClassId} {sv : Value} {r : Int32} {τ : S5}
set_option maxHeartbeats 4000000 in
set_option maxRecDepth 100000 in
theorem w_X4_needsParameter {σ : S5} {a1 : Int32} {a2 : Int32} {H : Heap} {locs : List Loc} {ls : Array Slot} (S : CallFix p m c cX4_needsParameter 3 s args uG RX4) (hr : meth.sig.returnType = (some .boolean)) (hk : meth.locks = false) (hR : 0 ≤ R.frames ∧ 0 ≤ R.locals)
    (X : gX (dC, dI) (tC kc) (wC ad kc sv) (zC ak) A s σ H locs) (hl : lv_has ls 3 [(0, .ref (ad 2)), (1, .int a1), (2, .int a2)]) (hg : f_X4_needsParameter a1 a2 σ = some (r, τ)) : W p l e R s m args below meth c H locs 0 0 (MQ below (gQi (dC, dI) (tC kc) (wC ad kc sv) A r τ) args s 0 0 A) (F0 m 0 ls []) := by
  have hx := S.1
  have hb := S.2.1
  have hown := S.2.2.2.1
  have hu := S.2.2.2.2
  unfold f_X4_needsParameter at hg
  refine lv_aload_n hx hb dX4_needsParameter_0 rfl (lv_at hl 0 rfl) ?_
  refine wcgR_2_16 S X mG_335 dX4_needsParameter_1 ?_
  refine lv_iload_n hx hb dX4_needsParameter_4 rfl (lv_at hl 1 rfl) ?_
  obtain ⟨hi5, hg⟩ := gd_some hg
  refine wclA_12 (v := (xA σ 12 a1)) S X hi5 rfl dX4_needsParameter_5 ?_
  refine lv_iload_n hx hb dX4_needsParameter_6 rfl (lv_at hl 2 rfl) ?_
  refine lv_iushr (v := (j_iushr (xA σ 12 a1) a2)) hx hb dX4_needsParameter_7 rfl ?_
  refine lv_iconst (v := 1) hx hb dX4_needsParameter_8 (by decide) ?_
  refine lv_iand hx hb dX4_needsParameter_9 ?_
  refine lv_if_eq (tgt := 17) hx hb dX4_needsParameter_10 (by decide) (fun c10 => ?_) (fun c10 => ?_)
  · have hg := (if_pos c10).symm.trans hg
    refine lv_iconst (v := 0) hx hb dX4_needsParameter_17 (by decide) ?_
    obtain ⟨rfl, rfl⟩ := fin_some hg
    exact gr_z S hr hk X (Or.inl rfl) dX4_needsParameter_18
  · have hg := (if_neg c10).symm.trans hg
    refine lv_iconst (v := 1) hx hb dX4_needsParameter_13 (by decide) ?_
    refine lv_goto (tgt := 18) hx hb dX4_needsParameter_14 (by decide) ?_
    obtain ⟨rfl, rfl⟩ := fin_some hg
    exact gr_z S hr hk X (Or.inr rfl) dX4_needsParameter_18
end MX4_needsParameter
set_option maxRecDepth 100000 in
theorem k2_X4_needsParameter (l : Launch) (dC : Nat → ClassId) (dI : Nat → Nat → Nat) {ak : Nat → Nat} (ad : Nat → Nat) (kc : Nat → ClassId) (sv : Value) {σ τ : S5} {a1 : Int32} {a2 : Int32} {r : Int32} (hg : f_X4_needsParameter a1 a2 σ = some (r, τ)) (sz : Nat) : Met l yX4_needsParameter (Cond.code yX4_needsParameter cX4_needsParameter 3 (some .boolean) :: uG) { frames := 0, cells := 0, slots := 0, locals := 0 } (gPc (dC, dI) (tC kc) (wC ad kc sv) (zC ak) [.ref (ad 2), .int a1, .int a2] σ sz) (gQi (dC, dI) (tC kc) (wC ad kc sv) (va_A (wC ad kc sv σ) sz) r τ) 0 0 (va_A (wC ad kc sv σ) sz) :=
  g_start (by decide) (Nat.le_of_ble_eq_true rfl) (fun p e s m below meth c ls S hr hk X hl => w_X4_needsParameter S hr hk ⟨Nat.le_refl _, Nat.le_refl _⟩ X hl hg)
section MX6_clear
variable {p : Program} {l : Launch} {e : Env} {R : Room} {s : State} {m : MethodId} {args : Array Value} {below : List Frame} {meth : Method} {c : Code} {dC : Nat → ClassId} {dI : Nat → Nat → Nat} {ak : Nat → Nat} {A : Nat → Prop} {ad : Nat → Nat} {kc : Nat → ClassId} {sv : Value} {r : Unit} {τ : S5}
set_option maxHeartbeats 4000000 in
set_option maxRecDepth 100000 in
theorem w_X6_clear {σ : S5}  {H : Heap} {locs : List Loc} {ls : Array Slot} (S : CallFix p m c cX6_clear 1 s args uG RX6) (hr : meth.sig.returnType = none) (hk : meth.locks = false) (hR : 0 ≤ R.frames ∧ 0 ≤ R.locals)
    (X : gX (dC, dI) (tC kc) (wC ad kc sv) (zC ak) A s σ H locs) (hl : lv_has ls 1 [(0, .ref (ad 4))]) (hg : f_X6_clear  σ = some (r, τ)) : W p l e R s m args below meth c H locs 0 0 (MQ below (gQv (dC, dI) (tC kc) (wC ad kc sv) A r τ) args s 0 0 A) (F0 m 0 ls []) := by
  have hx := S.1
  have hb := S.2.1
  have hown := S.2.2.2.1
  have hu := S.2.2.2.2
  unfold f_X6_clear at hg
  refine lv_aload_n hx hb dX6_clear_0 rfl (lv_at hl 0 rfl) ?_
  refine lv_iconst (v := 0) hx hb dX6_clear_1 (by decide) ?_
  refine wcpI_9 S X mG_458 dX6_clear_2 (fun H locs X => ?_)
  refine lv_aload_n hx hb dX6_clear_5 rfl (lv_at hl 0 rfl) ?_
  refine lv_iconst (v := 0) hx hb dX6_clear_6 (by decide) ?_
  refine wcpI_10 S X mG_470 dX6_clear_7 (fun H locs X => ?_)
  obtain ⟨-, rfl⟩ := fin_some hg
  exact gr_v S hr hk X dX6_clear_10
end MX6_clear
set_option maxRecDepth 100000 in
theorem k2_X6_clear (l : Launch) (dC : Nat → ClassId) (dI : Nat → Nat → Nat) {ak : Nat → Nat} (ad : Nat → Nat) (kc : Nat → ClassId) (sv : Value) {σ τ : S5}  {r : Unit} (hg : f_X6_clear  σ = some (r, τ)) (sz : Nat) : Met l yX6_clear (Cond.code yX6_clear cX6_clear 1 none :: uG) { frames := 0, cells := 0, slots := 0, locals := 0 } (gPc (dC, dI) (tC kc) (wC ad kc sv) (zC ak) [.ref (ad 4)] σ sz) (gQv (dC, dI) (tC kc) (wC ad kc sv) (va_A (wC ad kc sv σ) sz) r τ) 0 0 (va_A (wC ad kc sv σ) sz) :=
  g_start (by decide) (Nat.le_of_ble_eq_true rfl) (fun p e s m below meth c ls S hr hk X hl => w_X6_clear S hr hk ⟨Nat.le_refl _, Nat.le_refl _⟩ X hl hg)
section MX6_add
variable {p : Program} {l : Launch} {e : Env} {R : Room} {s : State} {m : MethodId} {args : Array Value} {below : List Frame} {meth : Method} {c : Code} {dC : Nat → ClassId} {dI : Nat → Nat → Nat} {ak : Nat → Nat} {A : Nat → Prop} {ad : Nat → Nat} {kc : Nat → ClassId} {sv : Value} {r : Int32} {τ : S5}
set_option maxHeartbeats 4000000 in
set_option maxRecDepth 100000 in
theorem w_X6_add_b72 {σ : S5} {u0 : Int32} {u1 : Int32} {H : Heap} {locs : List Loc} {ls : Array Slot} (S : CallFix p m c cX6_add 4 s args uG RX6) (hr : meth.sig.returnType = (some .int)) (hk : meth.locks = false) (hR : 0 ≤ R.frames ∧ 0 ≤ R.locals)
    (X : gX (dC, dI) (tC kc) (wC ad kc sv) (zC ak) A s σ H locs) (hl : lv_has ls 4 [(0, .ref (ad 4))]) (hg : f_X6_add_b72 u0 u1 σ = some (r, τ)) : W p l e R s m args below meth c H locs 0 0 (MQ below (gQi (dC, dI) (tC kc) (wC ad kc sv) A r τ) args s 0 0 A) (F0 m 72 ls [.int u0, .int u1, .ref (ad 36)]) := by
  have hx := S.1
  have hb := S.2.1
  have hown := S.2.2.2.1
  have hu := S.2.2.2.2
  unfold f_X6_add_b72 at hg
  obtain ⟨hi72, hg⟩ := gd_some hg
  refine wcsA_22 S X hi72 dX6_add_72 (fun H locs X => ?_)
  refine lv_aload_n hx hb dX6_add_73 rfl (lv_at hl 0 rfl) ?_
  refine lv_dup hx hb dX6_add_74 rfl ?_
  refine wcgI_9 (v := (gI σ 9)) S X mG_458 rfl dX6_add_75 ?_
  refine lv_iconst (v := 1) hx hb dX6_add_78 (by decide) ?_
  refine lv_iadd hx hb dX6_add_79 ?_
  refine wcpI_9 S X mG_458 dX6_add_80 (fun H locs X => ?_)
  refine lv_aload_n hx hb dX6_add_83 rfl (lv_at hl 0 rfl) ?_
  refine wcgI_9 (v := ((gI σ 9) + 1)) S X mG_458 rfl dX6_add_84 ?_
  refine lv_iconst (v := 1) hx hb dX6_add_87 (by decide) ?_
  refine lv_isub hx hb dX6_add_88 ?_
  obtain ⟨rfl, rfl⟩ := fin_some hg
  exact gr_i S hr hk X dX6_add_89
set_option maxHeartbeats 4000000 in
set_option maxRecDepth 100000 in
theorem w_X6_add_b59 {σ : S5} {u0 : Int32} {H : Heap} {locs : List Loc} {ls : Array Slot} (S : CallFix p m c cX6_add 4 s args uG RX6) (hr : meth.sig.returnType = (some .int)) (hk : meth.locks = false) (hR : 0 ≤ R.frames ∧ 0 ≤ R.locals)
    (X : gX (dC, dI) (tC kc) (wC ad kc sv) (zC ak) A s σ H locs) (hl : lv_has ls 4 [(0, .ref (ad 4))]) (hg : f_X6_add_b59 u0 σ = some (r, τ)) : W p l e R s m args below meth c H locs 0 0 (MQ below (gQi (dC, dI) (tC kc) (wC ad kc sv) A r τ) args s 0 0 A) (F0 m 59 ls [.int u0, .ref (ad 36)]) := by
  have hx := S.1
  have hb := S.2.1
  have hown := S.2.2.2.1
  have hu := S.2.2.2.2
  unfold f_X6_add_b59 at hg
  refine lv_aload_n hx hb dX6_add_59 rfl (lv_at hl 0 rfl) ?_
  refine wcgI_9 (v := (gI σ 9)) S X mG_458 rfl dX6_add_60 ?_
  refine lv_goto (tgt := 72) hx hb dX6_add_63 (by decide) ?_
  exact w_X6_add_b72 S hr hk hR X (lv_sub hl [0] rfl) hg
set_option maxHeartbeats 4000000 in
set_option maxRecDepth 100000 in
theorem w_X6_add {σ : S5} {a1 : Int32} {a2 : Int32} {a3 : Int32} {H : Heap} {locs : List Loc} {ls : Array Slot} (S : CallFix p m c cX6_add 4 s args uG RX6) (hr : meth.sig.returnType = (some .int)) (hk : meth.locks = false) (hR : 0 ≤ R.frames ∧ 0 ≤ R.locals)
    (X : gX (dC, dI) (tC kc) (wC ad kc sv) (zC ak) A s σ H locs) (hl : lv_has ls 4 [(0, .ref (ad 4)), (1, .int a1), (2, .int a2), (3, .int a3)]) (hg : f_X6_add a1 a2 a3 σ = some (r, τ)) : W p l e R s m args below meth c H locs 0 0 (MQ below (gQi (dC, dI) (tC kc) (wC ad kc sv) A r τ) args s 0 0 A) (F0 m 0 ls []) := by
  have hx := S.1
  have hb := S.2.1
  have hown := S.2.2.2.1
  have hu := S.2.2.2.2
  unfold f_X6_add at hg
  refine lv_aload_n hx hb dX6_add_0 rfl (lv_at hl 0 rfl) ?_
  refine wcgI_9 (v := (gI σ 9)) S X mG_458 rfl dX6_add_1 ?_
  refine lv_sipush (v := 700) hx hb dX6_add_4 (by decide) ?_
  refine lv_icmp_lt (tgt := 12) hx hb dX6_add_7 (by decide) (fun c7 => ?_) (fun c7 => ?_)
  · have hg := (if_pos c7).symm.trans hg
    refine lv_aload_n hx hb dX6_add_12 rfl (lv_at hl 0 rfl) ?_
    refine wcgR_4_1 S X mG_442 dX6_add_13 ?_
    refine lv_aload_n hx hb dX6_add_16 rfl (lv_at hl 0 rfl) ?_
    refine wcgI_9 (v := (gI σ 9)) S X mG_458 rfl dX6_add_17 ?_
    refine lv_iconst (v := 0) hx hb dX6_add_20 (by decide) ?_
    obtain ⟨hi21, hg⟩ := gd_some hg
    refine wcsA_20 S X hi21 dX6_add_21 (fun H locs X => ?_)
    refine lv_aload_n hx hb dX6_add_22 rfl (lv_at hl 0 rfl) ?_
    refine wcgR_4_2 S X mG_445 dX6_add_23 ?_
    refine lv_aload_n hx hb dX6_add_26 rfl (lv_at hl 0 rfl) ?_
    refine wcgI_9 (v := (gI σ 9)) S X mG_458 rfl dX6_add_27 ?_
    refine lv_iload_n hx hb dX6_add_30 rfl (lv_at hl 1 rfl) ?_
    obtain ⟨hi31, hg⟩ := gd_some hg
    refine wcsA_21 S X hi31 dX6_add_31 (fun H locs X => ?_)
    refine lv_aload_n hx hb dX6_add_32 rfl (lv_at hl 0 rfl) ?_
    refine wcgR_4_5 S X mG_452 dX6_add_33 ?_
    refine lv_aload_n hx hb dX6_add_36 rfl (lv_at hl 0 rfl) ?_
    refine wcgI_9 (v := (gI σ 9)) S X mG_458 rfl dX6_add_37 ?_
    refine lv_iload_n hx hb dX6_add_40 rfl (lv_at hl 2 rfl) ?_
    obtain ⟨hi41, hg⟩ := gd_some hg
    refine wcsA_24 S X hi41 dX6_add_41 (fun H locs X => ?_)
    refine lv_aload_n hx hb dX6_add_42 rfl (lv_at hl 0 rfl) ?_
    refine wcgR_4_3 S X mG_447 dX6_add_43 ?_
    refine lv_aload_n hx hb dX6_add_46 rfl (lv_at hl 0 rfl) ?_
    refine wcgI_9 (v := (gI σ 9)) S X mG_458 rfl dX6_add_47 ?_
    refine lv_iload_n hx hb dX6_add_50 rfl (lv_at hl 3 rfl) ?_
    refine lv_if_ne (tgt := 59) hx hb dX6_add_51 (by decide) (fun c51 => ?_) (fun c51 => ?_)
    · have hg := (if_neg c51).symm.trans hg
      exact w_X6_add_b59 S hr hk hR X (lv_sub hl [0] rfl) hg
    · have hg := (if_pos c51).symm.trans hg
      refine lv_iload_n hx hb dX6_add_54 rfl (lv_at hl 1 rfl) ?_
      refine lv_iconst (v := (-1)) hx hb dX6_add_55 (by decide) ?_
      refine lv_icmp_ne (tgt := 66) hx hb dX6_add_56 (by decide) (fun c56 => ?_) (fun c56 => ?_)
      · have hg := (if_neg c56).symm.trans hg
        refine lv_aload_n hx hb dX6_add_66 rfl (lv_at hl 0 rfl) ?_
        refine wcgR_4_3 S X mG_447 dX6_add_67 ?_
        refine lv_iload_n hx hb dX6_add_70 rfl (lv_at hl 1 rfl) ?_
        obtain ⟨hi71, hg⟩ := gd_some hg
        refine wclA_22 (v := (xA σ 22 a1)) S X hi71 rfl dX6_add_71 ?_
        exact w_X6_add_b72 S hr hk hR X (lv_sub hl [0] rfl) hg
      · have hg := (if_pos c56).symm.trans hg
        exact w_X6_add_b59 S hr hk hR X (lv_sub hl [0] rfl) hg
  · have hg := (if_neg c7).symm.trans hg
    refine lv_iconst (v := 0) hx hb dX6_add_10 (by decide) ?_
    obtain ⟨rfl, rfl⟩ := fin_some hg
    exact gr_i S hr hk X dX6_add_11
end MX6_add
set_option maxRecDepth 100000 in
theorem k2_X6_add (l : Launch) (dC : Nat → ClassId) (dI : Nat → Nat → Nat) {ak : Nat → Nat} (ad : Nat → Nat) (kc : Nat → ClassId) (sv : Value) {σ τ : S5} {a1 : Int32} {a2 : Int32} {a3 : Int32} {r : Int32} (hg : f_X6_add a1 a2 a3 σ = some (r, τ)) (sz : Nat) : Met l yX6_add (Cond.code yX6_add cX6_add 4 (some .int) :: uG) { frames := 0, cells := 0, slots := 0, locals := 0 } (gPc (dC, dI) (tC kc) (wC ad kc sv) (zC ak) [.ref (ad 4), .int a1, .int a2, .int a3] σ sz) (gQi (dC, dI) (tC kc) (wC ad kc sv) (va_A (wC ad kc sv σ) sz) r τ) 0 0 (va_A (wC ad kc sv σ) sz) :=
  g_start (by decide) (Nat.le_of_ble_eq_true rfl) (fun p e s m below meth c ls S hr hk X hl => w_X6_add S hr hk ⟨Nat.le_refl _, Nat.le_refl _⟩ X hl hg)
section MX6_owns
variable {p : Program} {l : Launch} {e : Env} {R : Room} {s : State} {m : MethodId} {args : Array Value} {below : List Frame} {meth : Method} {c : Code} {dC : Nat → ClassId} {dI : Nat → Nat → Nat} {ak : Nat → Nat} {A : Nat → Prop} {ad : Nat → Nat} {kc : Nat → ClassId} {sv : Value} {r : Int32} {τ : S5}
set_option maxHeartbeats 4000000 in
set_option maxRecDepth 100000 in
theorem w_X6_owns {σ : S5} {a1 : Int32} {H : Heap} {locs : List Loc} {ls : Array Slot} (S : CallFix p m c cX6_owns 2 s args uG RX6) (hr : meth.sig.returnType = (some .boolean)) (hk : meth.locks = false) (hR : 0 ≤ R.frames ∧ 0 ≤ R.locals)
    (X : gX (dC, dI) (tC kc) (wC ad kc sv) (zC ak) A s σ H locs) (hl : lv_has ls 2 [(0, .ref (ad 4)), (1, .int a1)]) (hg : f_X6_owns a1 σ = some (r, τ)) : W p l e R s m args below meth c H locs 0 0 (MQ below (gQi (dC, dI) (tC kc) (wC ad kc sv) A r τ) args s 0 0 A) (F0 m 0 ls []) := by
  have hx := S.1
  have hb := S.2.1
  have hown := S.2.2.2.1
  have hu := S.2.2.2.2
  unfold f_X6_owns at hg
  refine lv_aload_n hx hb dX6_owns_0 rfl (lv_at hl 0 rfl) ?_
  refine wcgR_4_3 S X mG_447 dX6_owns_1 ?_
  refine lv_iload_n hx hb dX6_owns_4 rfl (lv_at hl 1 rfl) ?_
  obtain ⟨hi5, hg⟩ := gd_some hg
  refine wclA_22 (v := (xA σ 22 a1)) S X hi5 rfl dX6_owns_5 ?_
  refine lv_iload_n hx hb dX6_owns_6 rfl (lv_at hl 1 rfl) ?_
  refine lv_icmp_ne (tgt := 14) hx hb dX6_owns_7 (by decide) (fun c7 => ?_) (fun c7 => ?_)
  · have hg := (if_neg c7).symm.trans hg
    refine lv_iconst (v := 0) hx hb dX6_owns_14 (by decide) ?_
    obtain ⟨rfl, rfl⟩ := fin_some hg
    exact gr_z S hr hk X (Or.inl rfl) dX6_owns_15
  · have hg := (if_pos c7).symm.trans hg
    refine lv_iconst (v := 1) hx hb dX6_owns_10 (by decide) ?_
    refine lv_goto (tgt := 15) hx hb dX6_owns_11 (by decide) ?_
    obtain ⟨rfl, rfl⟩ := fin_some hg
    exact gr_z S hr hk X (Or.inr rfl) dX6_owns_15
end MX6_owns
set_option maxRecDepth 100000 in
theorem k2_X6_owns (l : Launch) (dC : Nat → ClassId) (dI : Nat → Nat → Nat) {ak : Nat → Nat} (ad : Nat → Nat) (kc : Nat → ClassId) (sv : Value) {σ τ : S5} {a1 : Int32} {r : Int32} (hg : f_X6_owns a1 σ = some (r, τ)) (sz : Nat) : Met l yX6_owns (Cond.code yX6_owns cX6_owns 2 (some .boolean) :: uG) { frames := 0, cells := 0, slots := 0, locals := 0 } (gPc (dC, dI) (tC kc) (wC ad kc sv) (zC ak) [.ref (ad 4), .int a1] σ sz) (gQi (dC, dI) (tC kc) (wC ad kc sv) (va_A (wC ad kc sv σ) sz) r τ) 0 0 (va_A (wC ad kc sv σ) sz) :=
  g_start (by decide) (Nat.le_of_ble_eq_true rfl) (fun p e s m below meth c ls S hr hk X hl => w_X6_owns S hr hk ⟨Nat.le_refl _, Nat.le_refl _⟩ X hl hg)
section MX6_addName
variable {p : Program} {l : Launch} {e : Env} {R : Room} {s : State} {m : MethodId} {args : Array Value} {below : List Frame} {meth : Method} {c : Code} {dC : Nat → ClassId} {dI : Nat → Nat → Nat} {ak : Nat → Nat} {A : Nat → Prop} {ad : Nat → Nat} {kc : Nat → ClassId} {sv : Value} {r : Int32} {τ : S5}
set_option maxHeartbeats 4000000 in
set_option maxRecDepth 100000 in
theorem w_X6_addName {σ : S5} {a1 : Int32} {a2 : Int64} {H : Heap} {locs : List Loc} {ls : Array Slot} (S : CallFix p m c cX6_addName 5 s args uG RX6) (hr : meth.sig.returnType = (some .int)) (hk : meth.locks = false) (hR : 0 ≤ R.frames ∧ 0 ≤ R.locals)
    (X : gX (dC, dI) (tC kc) (wC ad kc sv) (zC ak) A s σ H locs) (hl : lv_has ls 5 [(0, .ref (ad 4)), (1, .int a1), (2, .long a2)]) (hg : f_X6_addName a1 a2 σ = some (r, τ)) : W p l e R s m args below meth c H locs 0 0 (MQ below (gQi (dC, dI) (tC kc) (wC ad kc sv) A r τ) args s 0 0 A) (F0 m 0 ls []) := by
  have hx := S.1
  have hb := S.2.1
  have hown := S.2.2.2.1
  have hu := S.2.2.2.2
  unfold f_X6_addName at hg
  refine lv_iload_n hx hb dX6_addName_0 rfl (lv_at hl 1 rfl) ?_
  refine lv_iconst (v := 5) hx hb dX6_addName_1 (by decide) ?_
  refine lv_imul hx hb dX6_addName_2 ?_
  refine lv_aload_n hx hb dX6_addName_3 rfl (lv_at hl 0 rfl) ?_
  refine wcgR_4_1 S X mG_442 dX6_addName_4 ?_
  refine lv_iload_n hx hb dX6_addName_7 rfl (lv_at hl 1 rfl) ?_
  obtain ⟨hi8, hg⟩ := gd_some hg
  refine wclA_20 (v := (xA σ 20 a1)) S X hi8 rfl dX6_addName_8 ?_
  refine lv_iadd hx hb dX6_addName_9 ?_
  refine lv_istore (lv' := [(4, .int ((a1 * 5) + (xA σ 20 a1))), (0, .ref (ad 4)), (1, .int a1), (2, .long a2)]) hx hb dX6_addName_10 hl (by decide) rfl (fun ls hl => ?_)
  refine lv_aload_n hx hb dX6_addName_12 rfl (lv_at hl 1 rfl) ?_
  refine wcgR_4_0 S X mG_441 dX6_addName_13 ?_
  refine lv_iload hx hb dX6_addName_16 (lv_at hl 0 rfl) ?_
  refine lv_lload_n hx hb dX6_addName_18 rfl (lv_at hl 3 rfl) ?_
  obtain ⟨hi19, hg⟩ := gd_some hg
  refine wcsB_3 S X hi19 dX6_addName_19 (fun H locs X => ?_)
  refine lv_aload_n hx hb dX6_addName_20 rfl (lv_at hl 1 rfl) ?_
  refine wcgR_4_1 S X mG_442 dX6_addName_21 ?_
  refine lv_iload_n hx hb dX6_addName_24 rfl (lv_at hl 2 rfl) ?_
  refine lv_dup2_11 hx hb dX6_addName_25 rfl rfl ?_
  obtain ⟨hi26, hg⟩ := gd_some hg
  refine wclA_20 (v := (xA σ 20 a1)) S X hi26 rfl dX6_addName_26 ?_
  refine lv_iconst (v := 1) hx hb dX6_addName_27 (by decide) ?_
  refine lv_iadd hx hb dX6_addName_28 ?_
  obtain ⟨hi29, hg⟩ := gd_some hg
  refine wcsA_20 S X hi29 dX6_addName_29 (fun H locs X => ?_)
  refine lv_iload hx hb dX6_addName_30 (lv_at hl 0 rfl) ?_
  obtain ⟨rfl, rfl⟩ := fin_some hg
  exact gr_i S hr hk X dX6_addName_32
end MX6_addName
set_option maxRecDepth 100000 in
theorem k2_X6_addName (l : Launch) (dC : Nat → ClassId) (dI : Nat → Nat → Nat) {ak : Nat → Nat} (ad : Nat → Nat) (kc : Nat → ClassId) (sv : Value) {σ τ : S5} {a1 : Int32} {a2 : Int64} {r : Int32} (hg : f_X6_addName a1 a2 σ = some (r, τ)) (sz : Nat) : Met l yX6_addName (Cond.code yX6_addName cX6_addName 5 (some .int) :: uG) { frames := 0, cells := 0, slots := 0, locals := 0 } (gPc (dC, dI) (tC kc) (wC ad kc sv) (zC ak) [.ref (ad 4), .int a1, .long a2] σ sz) (gQi (dC, dI) (tC kc) (wC ad kc sv) (va_A (wC ad kc sv σ) sz) r τ) 0 0 (va_A (wC ad kc sv σ) sz) :=
  g_start (by decide) (Nat.le_of_ble_eq_true rfl) (fun p e s m below meth c ls S hr hk X hl => w_X6_addName S hr hk ⟨Nat.le_refl _, Nat.le_refl _⟩ X hl hg)
section MX6_variableIn
variable {p : Program} {l : Launch} {e : Env} {R : Room} {s : State} {m : MethodId} {args : Array Value} {below : List Frame} {meth : Method} {c : Code} {dC : Nat → ClassId} {dI : Nat → Nat → Nat} {ak : Nat → Nat} {A : Nat → Prop} {ad : Nat → Nat} {kc : Nat → ClassId} {sv : Value} {r : Int32} {τ : S5}
set_option maxHeartbeats 4000000 in
set_option maxRecDepth 100000 in
theorem w_X6_variableIn_B3 {σ : S5} {rec3 : Int32 → Int64 → Int32 → S5 → Option (Int32 × S5)} {v1 : Int32} {v2 : Int64} {v4 : Int32} {H : Heap} {locs : List Loc} {ls : Array Slot} (S : CallFix p m c cX6_variableIn 5 s args uG RX6) (hr : meth.sig.returnType = (some .int)) (hk : meth.locks = false) (hR : 0 ≤ R.frames ∧ 0 ≤ R.locals)
    (hrec3 : ∀ (v1 : Int32) (v2 : Int64) (v4 : Int32) (σ : S5) (H : Heap) (locs : List Loc) (ls : Array Slot), gX (dC, dI) (tC kc) (wC ad kc sv) (zC ak) A s σ H locs → lv_has ls 5 [(0, .ref (ad 4)), (1, .int v1), (2, .long v2), (4, .int v4)] → rec3 v1 v2 v4 σ = some (r, τ) → W p l e R s m args below meth c H locs 0 0 (MQ below (gQi (dC, dI) (tC kc) (wC ad kc sv) A r τ) args s 0 0 A) (F0 m 3 ls []))
    (X : gX (dC, dI) (tC kc) (wC ad kc sv) (zC ak) A s σ H locs) (hl : lv_has ls 5 [(0, .ref (ad 4)), (1, .int v1), (2, .long v2), (4, .int v4)]) (hg : f_X6_variableIn_B3 rec3 v1 v2 v4 σ = some (r, τ)) : W p l e R s m args below meth c H locs 0 0 (MQ below (gQi (dC, dI) (tC kc) (wC ad kc sv) A r τ) args s 0 0 A) (F0 m 3 ls []) := by
  have hx := S.1
  have hb := S.2.1
  have hown := S.2.2.2.1
  have hu := S.2.2.2.2
  unfold f_X6_variableIn_B3 at hg
  refine lv_iload hx hb dX6_variableIn_3 (lv_at hl 3 rfl) ?_
  refine lv_aload_n hx hb dX6_variableIn_5 rfl (lv_at hl 0 rfl) ?_
  refine wcgR_4_1 S X mG_442 dX6_variableIn_6 ?_
  refine lv_iload_n hx hb dX6_variableIn_9 rfl (lv_at hl 1 rfl) ?_
  obtain ⟨hi10, hg⟩ := gd_some hg
  refine wclA_20 (v := (xA σ 20 v1)) S X hi10 rfl dX6_variableIn_10 ?_
  refine lv_icmp_ge (tgt := 43) hx hb dX6_variableIn_11 (by decide) (fun c11 => ?_) (fun c11 => ?_)
  · have hg := (if_pos c11).symm.trans hg
    refine lv_iconst (v := (-1)) hx hb dX6_variableIn_43 (by decide) ?_
    obtain ⟨rfl, rfl⟩ := fin_some hg
    exact gr_i S hr hk X dX6_variableIn_44
  · have hg := (if_neg c11).symm.trans hg
    refine lv_aload_n hx hb dX6_variableIn_14 rfl (lv_at hl 0 rfl) ?_
    refine wcgR_4_0 S X mG_441 dX6_variableIn_15 ?_
    refine lv_iload_n hx hb dX6_variableIn_18 rfl (lv_at hl 1 rfl) ?_
    refine lv_iconst (v := 5) hx hb dX6_variableIn_19 (by decide) ?_
    refine lv_imul hx hb dX6_variableIn_20 ?_
    refine lv_iload hx hb dX6_variableIn_21 (lv_at hl 3 rfl) ?_
    refine lv_iadd hx hb dX6_variableIn_23 ?_
    obtain ⟨hi24, hg⟩ := gd_some hg
    refine wclB_3 (v := (xB σ 3 ((v1 * 5) + v4))) S X hi24 rfl dX6_variableIn_24 ?_
    refine lv_lload_n hx hb dX6_variableIn_25 rfl (lv_at hl 2 rfl) ?_
    refine W.lcmp hx hb dX6_variableIn_26 ?_
    refine lv_if_ne (tgt := 37) hx hb dX6_variableIn_27 (by decide) (fun c27 => ?_) (fun c27 => ?_)
    · have hg := (if_neg c27).symm.trans hg
      refine lv_iinc (v := (v4 + 1)) (lv' := [(4, .int (v4 + 1)), (0, .ref (ad 4)), (1, .int v1), (2, .long v2)]) hx hb dX6_variableIn_37 hl (k := 3) rfl (by rfl) (by decide) rfl (fun ls hl => ?_)
      refine lv_goto (tgt := 3) hx hb dX6_variableIn_40 (by decide) ?_
      exact hrec3 _ _ _ _ _ _ _ X (lv_sub hl [1, 2, 3, 0] rfl) hg
    · have hg := (if_pos c27).symm.trans hg
      refine lv_iload_n hx hb dX6_variableIn_30 rfl (lv_at hl 1 rfl) ?_
      refine lv_iconst (v := 5) hx hb dX6_variableIn_31 (by decide) ?_
      refine lv_imul hx hb dX6_variableIn_32 ?_
      refine lv_iload hx hb dX6_variableIn_33 (lv_at hl 3 rfl) ?_
      refine lv_iadd hx hb dX6_variableIn_35 ?_
      obtain ⟨rfl, rfl⟩ := fin_some hg
      exact gr_i S hr hk X dX6_variableIn_36
set_option maxHeartbeats 4000000 in
set_option maxRecDepth 100000 in
theorem w_X6_variableIn_L3 (S : CallFix p m c cX6_variableIn 5 s args uG RX6) (hr : meth.sig.returnType = (some .int)) (hk : meth.locks = false) (hR : 0 ≤ R.frames ∧ 0 ≤ R.locals) : ∀ (n : Nat) (v1 : Int32) (v2 : Int64) (v4 : Int32) (σ : S5) (H : Heap) (locs : List Loc) (ls : Array Slot), gX (dC, dI) (tC kc) (wC ad kc sv) (zC ak) A s σ H locs → lv_has ls 5 [(0, .ref (ad 4)), (1, .int v1), (2, .long v2), (4, .int v4)] → f_X6_variableIn_L3  n v1 v2 v4 σ = some (r, τ) → W p l e R s m args below meth c H locs 0 0 (MQ below (gQi (dC, dI) (tC kc) (wC ad kc sv) A r τ) args s 0 0 A) (F0 m 3 ls []) := by
  intro n
  induction n with
  | zero => intro v1 v2 v4 σ H locs ls X hl hg; cases hg
  | succ n ih => intro v1 v2 v4 σ H locs ls X hl hg; exact w_X6_variableIn_B3 S hr hk hR ih X hl hg
set_option maxHeartbeats 4000000 in
set_option maxRecDepth 100000 in
theorem w_X6_variableIn {σ : S5} {a1 : Int32} {a2 : Int64} {H : Heap} {locs : List Loc} {ls : Array Slot} (S : CallFix p m c cX6_variableIn 5 s args uG RX6) (hr : meth.sig.returnType = (some .int)) (hk : meth.locks = false) (hR : 0 ≤ R.frames ∧ 0 ≤ R.locals)
    (X : gX (dC, dI) (tC kc) (wC ad kc sv) (zC ak) A s σ H locs) (hl : lv_has ls 5 [(0, .ref (ad 4)), (1, .int a1), (2, .long a2)]) (hg : f_X6_variableIn a1 a2 σ = some (r, τ)) : W p l e R s m args below meth c H locs 0 0 (MQ below (gQi (dC, dI) (tC kc) (wC ad kc sv) A r τ) args s 0 0 A) (F0 m 0 ls []) := by
  have hx := S.1
  have hb := S.2.1
  have hown := S.2.2.2.1
  have hu := S.2.2.2.2
  unfold f_X6_variableIn at hg
  refine lv_iconst (v := 0) hx hb dX6_variableIn_0 (by decide) ?_
  refine lv_istore (lv' := [(4, .int 0), (0, .ref (ad 4)), (1, .int a1), (2, .long a2)]) hx hb dX6_variableIn_1 hl (by decide) rfl (fun ls hl => ?_)
  exact w_X6_variableIn_L3 S hr hk hR _ _ _ _ _ _ _ _ X (lv_sub hl [1, 2, 3, 0] rfl) hg
end MX6_variableIn
set_option maxRecDepth 100000 in
theorem k2_X6_variableIn (l : Launch) (dC : Nat → ClassId) (dI : Nat → Nat → Nat) {ak : Nat → Nat} (ad : Nat → Nat) (kc : Nat → ClassId) (sv : Value) {σ τ : S5} {a1 : Int32} {a2 : Int64} {r : Int32} (hg : f_X6_variableIn a1 a2 σ = some (r, τ)) (sz : Nat) : Met l yX6_variableIn (Cond.code yX6_variableIn cX6_variableIn 5 (some .int) :: uG) { frames := 0, cells := 0, slots := 0, locals := 0 } (gPc (dC, dI) (tC kc) (wC ad kc sv) (zC ak) [.ref (ad 4), .int a1, .long a2] σ sz) (gQi (dC, dI) (tC kc) (wC ad kc sv) (va_A (wC ad kc sv σ) sz) r τ) 0 0 (va_A (wC ad kc sv σ) sz) :=
  g_start (by decide) (Nat.le_of_ble_eq_true rfl) (fun p e s m below meth c ls S hr hk X hl => w_X6_variableIn S hr hk ⟨Nat.le_refl _, Nat.le_refl _⟩ X hl hg)
section MX6_has
variable {p : Program} {l : Launch} {e : Env} {R : Room} {s : State} {m : MethodId} {args : Array Value} {below : List Frame} {meth : Method} {c : Code} {dC : Nat → ClassId} {dI : Nat → Nat → Nat} {ak : Nat → Nat} {A : Nat → Prop} {ad : Nat → Nat} {kc : Nat → ClassId} {sv : Value} {r : Int32} {τ : S5}
set_option maxHeartbeats 4000000 in
set_option maxRecDepth 100000 in
theorem w_X6_has {σ : S5} {a1 : Int32} {a2 : Int64} {H : Heap} {locs : List Loc} {ls : Array Slot} (S : CallFix p m c cX6_has 4 s args uG RX6) (hr : meth.sig.returnType = (some .boolean)) (hk : meth.locks = false) (hR : 1 ≤ R.frames ∧ 24 ≤ R.locals)
    (X : gX (dC, dI) (tC kc) (wC ad kc sv) (zC ak) A s σ H locs) (hl : lv_has ls 4 [(0, .ref (ad 4)), (1, .int a1), (2, .long a2)]) (hg : f_X6_has a1 a2 σ = some (r, τ)) : W p l e R s m args below meth c H locs 0 0 (MQ below (gQi (dC, dI) (tC kc) (wC ad kc sv) A r τ) args s 0 0 A) (F0 m 0 ls []) := by
  have hx := S.1
  have hb := S.2.1
  have hown := S.2.2.2.1
  have hu := S.2.2.2.2
  unfold f_X6_has at hg
  refine lv_aload_n hx hb dX6_has_0 rfl (lv_at hl 0 rfl) ?_
  refine lv_iload_n hx hb dX6_has_1 rfl (lv_at hl 1 rfl) ?_
  refine lv_lload_n hx hb dX6_has_2 rfl (lv_at hl 2 rfl) ?_
  obtain ⟨r3, τ3, hq3, hg⟩ := bd_some hg
  refine gc_Vi (As := [.int a1, .long a2]) (rest := []) (q0 := 4) (ci := 9) S X (k2_X6_variableIn l dC dI ad kc sv hq3 H.size) cw_X6_variableIn mG_1108 rfl rfl rfl rfl rfl hl.1 (Nat.le_of_ble_eq_true rfl) dX6_has_3 ⟨by omega, by omega⟩ (fun H locs X => ?_)
  refine lv_iconst (v := (-1)) hx hb dX6_has_6 (by decide) ?_
  refine lv_icmp_eq (tgt := 14) hx hb dX6_has_7 (by decide) (fun c7 => ?_) (fun c7 => ?_)
  · have hg := (if_pos c7).symm.trans hg
    refine lv_iconst (v := 0) hx hb dX6_has_14 (by decide) ?_
    obtain ⟨rfl, rfl⟩ := fin_some hg
    exact gr_z S hr hk X (Or.inl rfl) dX6_has_15
  · have hg := (if_neg c7).symm.trans hg
    refine lv_iconst (v := 1) hx hb dX6_has_10 (by decide) ?_
    refine lv_goto (tgt := 15) hx hb dX6_has_11 (by decide) ?_
    obtain ⟨rfl, rfl⟩ := fin_some hg
    exact gr_z S hr hk X (Or.inr rfl) dX6_has_15
end MX6_has
set_option maxRecDepth 100000 in
theorem k2_X6_has (l : Launch) (dC : Nat → ClassId) (dI : Nat → Nat → Nat) {ak : Nat → Nat} (ad : Nat → Nat) (kc : Nat → ClassId) (sv : Value) {σ τ : S5} {a1 : Int32} {a2 : Int64} {r : Int32} (hg : f_X6_has a1 a2 σ = some (r, τ)) (sz : Nat) : Met l yX6_has (Cond.code yX6_has cX6_has 4 (some .boolean) :: uG) { frames := 1, cells := 0, slots := 0, locals := 24 } (gPc (dC, dI) (tC kc) (wC ad kc sv) (zC ak) [.ref (ad 4), .int a1, .long a2] σ sz) (gQi (dC, dI) (tC kc) (wC ad kc sv) (va_A (wC ad kc sv σ) sz) r τ) 0 0 (va_A (wC ad kc sv σ) sz) :=
  g_start (by decide) (Nat.le_of_ble_eq_true rfl) (fun p e s m below meth c ls S hr hk X hl => w_X6_has S hr hk ⟨Nat.le_refl _, Nat.le_refl _⟩ X hl hg)
section MX6_find
variable {p : Program} {l : Launch} {e : Env} {R : Room} {s : State} {m : MethodId} {args : Array Value} {below : List Frame} {meth : Method} {c : Code} {dC : Nat → ClassId} {dI : Nat → Nat → Nat} {ak : Nat → Nat} {A : Nat → Prop} {ad : Nat → Nat} {kc : Nat → ClassId} {sv : Value} {r : Int32} {τ : S5}
set_option maxHeartbeats 4000000 in
set_option maxRecDepth 100000 in
theorem w_X6_find_B6 {σ : S5} {rec6 : Int64 → Int32 → Int32 → S5 → Option (Int32 × S5)} {v2 : Int64} {v4 : Int32} {v5 : Int32} {H : Heap} {locs : List Loc} {ls : Array Slot} (S : CallFix p m c cX6_find 7 s args uG RX6) (hr : meth.sig.returnType = (some .int)) (hk : meth.locks = false) (hR : 1 ≤ R.frames ∧ 24 ≤ R.locals)
    (hrec6 : ∀ (v2 : Int64) (v4 : Int32) (v5 : Int32) (σ : S5) (H : Heap) (locs : List Loc) (ls : Array Slot), gX (dC, dI) (tC kc) (wC ad kc sv) (zC ak) A s σ H locs → lv_has ls 7 [(0, .ref (ad 4)), (2, .long v2), (4, .int v4), (5, .int v5)] → rec6 v2 v4 v5 σ = some (r, τ) → W p l e R s m args below meth c H locs 0 0 (MQ below (gQi (dC, dI) (tC kc) (wC ad kc sv) A r τ) args s 0 0 A) (F0 m 6 ls []))
    (X : gX (dC, dI) (tC kc) (wC ad kc sv) (zC ak) A s σ H locs) (hl : lv_has ls 7 [(0, .ref (ad 4)), (2, .long v2), (4, .int v4), (5, .int v5)]) (hg : f_X6_find_B6 rec6 v2 v4 v5 σ = some (r, τ)) : W p l e R s m args below meth c H locs 0 0 (MQ below (gQi (dC, dI) (tC kc) (wC ad kc sv) A r τ) args s 0 0 A) (F0 m 6 ls []) := by
  have hx := S.1
  have hb := S.2.1
  have hown := S.2.2.2.1
  have hu := S.2.2.2.2
  unfold f_X6_find_B6 at hg
  refine lv_iload hx hb dX6_find_6 (lv_at hl 3 rfl) ?_
  refine lv_sipush (v := 700) hx hb dX6_find_8 (by decide) ?_
  refine lv_icmp_ge (tgt := 53) hx hb dX6_find_11 (by decide) (fun c11 => ?_) (fun c11 => ?_)
  · have hg := (if_pos c11).symm.trans hg
    refine lv_iconst (v := (-1)) hx hb dX6_find_53 (by decide) ?_
    obtain ⟨rfl, rfl⟩ := fin_some hg
    exact gr_i S hr hk X dX6_find_54
  · have hg := (if_neg c11).symm.trans hg
    refine lv_iload hx hb dX6_find_14 (lv_at hl 2 rfl) ?_
    refine lv_iconst (v := (-1)) hx hb dX6_find_16 (by decide) ?_
    refine lv_icmp_eq (tgt := 53) hx hb dX6_find_17 (by decide) (fun c17 => ?_) (fun c17 => ?_)
    · have hg := (if_pos c17).symm.trans hg
      refine lv_iconst (v := (-1)) hx hb dX6_find_53 (by decide) ?_
      obtain ⟨rfl, rfl⟩ := fin_some hg
      exact gr_i S hr hk X dX6_find_54
    · have hg := (if_neg c17).symm.trans hg
      refine lv_aload_n hx hb dX6_find_20 rfl (lv_at hl 0 rfl) ?_
      refine lv_iload hx hb dX6_find_21 (lv_at hl 2 rfl) ?_
      refine lv_lload_n hx hb dX6_find_23 rfl (lv_at hl 1 rfl) ?_
      obtain ⟨r24, τ24, hq24, hg⟩ := bd_some hg
      refine gc_Vi (As := [.int v4, .long v2]) (rest := []) (q0 := 4) (ci := 9) S X (k2_X6_variableIn l dC dI ad kc sv hq24 H.size) cw_X6_variableIn mG_1108 rfl rfl rfl rfl rfl hl.1 (Nat.le_of_ble_eq_true rfl) dX6_find_24 ⟨by omega, by omega⟩ (fun H locs X => ?_)
      refine lv_istore (lv' := [(6, .int r24), (0, .ref (ad 4)), (2, .long v2), (4, .int v4), (5, .int v5)]) hx hb dX6_find_27 hl (by decide) rfl (fun ls hl => ?_)
      refine lv_iload hx hb dX6_find_29 (lv_at hl 0 rfl) ?_
      refine lv_iconst (v := (-1)) hx hb dX6_find_31 (by decide) ?_
      refine lv_icmp_eq (tgt := 38) hx hb dX6_find_32 (by decide) (fun c32 => ?_) (fun c32 => ?_)
      · have hg := (if_pos c32).symm.trans hg
        refine lv_aload_n hx hb dX6_find_38 rfl (lv_at hl 1 rfl) ?_
        refine wcgR_4_2 S X mG_445 dX6_find_39 ?_
        refine lv_iload hx hb dX6_find_42 (lv_at hl 3 rfl) ?_
        obtain ⟨hi44, hg⟩ := gd_some hg
        refine wclA_21 (v := (xA τ24 21 v4)) S X hi44 rfl dX6_find_44 ?_
        refine lv_istore (lv' := [(4, .int (xA τ24 21 v4)), (6, .int r24), (0, .ref (ad 4)), (2, .long v2), (5, .int v5)]) hx hb dX6_find_45 hl (by decide) rfl (fun ls hl => ?_)
        refine lv_iinc (v := (v5 + 1)) (lv' := [(5, .int (v5 + 1)), (4, .int (xA τ24 21 v4)), (6, .int r24), (0, .ref (ad 4)), (2, .long v2)]) hx hb dX6_find_47 hl (k := 4) rfl (by rfl) (by decide) rfl (fun ls hl => ?_)
        refine lv_goto (tgt := 6) hx hb dX6_find_50 (by decide) ?_
        exact hrec6 _ _ _ _ _ _ _ X (lv_sub hl [3, 4, 1, 0] rfl) hg
      · have hg := (if_neg c32).symm.trans hg
        refine lv_iload hx hb dX6_find_35 (lv_at hl 0 rfl) ?_
        obtain ⟨rfl, rfl⟩ := fin_some hg
        exact gr_i S hr hk X dX6_find_37
set_option maxHeartbeats 4000000 in
set_option maxRecDepth 100000 in
theorem w_X6_find_L6 (S : CallFix p m c cX6_find 7 s args uG RX6) (hr : meth.sig.returnType = (some .int)) (hk : meth.locks = false) (hR : 1 ≤ R.frames ∧ 24 ≤ R.locals) : ∀ (n : Nat) (v2 : Int64) (v4 : Int32) (v5 : Int32) (σ : S5) (H : Heap) (locs : List Loc) (ls : Array Slot), gX (dC, dI) (tC kc) (wC ad kc sv) (zC ak) A s σ H locs → lv_has ls 7 [(0, .ref (ad 4)), (2, .long v2), (4, .int v4), (5, .int v5)] → f_X6_find_L6  n v2 v4 v5 σ = some (r, τ) → W p l e R s m args below meth c H locs 0 0 (MQ below (gQi (dC, dI) (tC kc) (wC ad kc sv) A r τ) args s 0 0 A) (F0 m 6 ls []) := by
  intro n
  induction n with
  | zero => intro v2 v4 v5 σ H locs ls X hl hg; cases hg
  | succ n ih => intro v2 v4 v5 σ H locs ls X hl hg; exact w_X6_find_B6 S hr hk hR ih X hl hg
set_option maxHeartbeats 4000000 in
set_option maxRecDepth 100000 in
theorem w_X6_find {σ : S5} {a1 : Int32} {a2 : Int64} {H : Heap} {locs : List Loc} {ls : Array Slot} (S : CallFix p m c cX6_find 7 s args uG RX6) (hr : meth.sig.returnType = (some .int)) (hk : meth.locks = false) (hR : 1 ≤ R.frames ∧ 24 ≤ R.locals)
    (X : gX (dC, dI) (tC kc) (wC ad kc sv) (zC ak) A s σ H locs) (hl : lv_has ls 7 [(0, .ref (ad 4)), (1, .int a1), (2, .long a2)]) (hg : f_X6_find a1 a2 σ = some (r, τ)) : W p l e R s m args below meth c H locs 0 0 (MQ below (gQi (dC, dI) (tC kc) (wC ad kc sv) A r τ) args s 0 0 A) (F0 m 0 ls []) := by
  have hx := S.1
  have hb := S.2.1
  have hown := S.2.2.2.1
  have hu := S.2.2.2.2
  unfold f_X6_find at hg
  refine lv_iload_n hx hb dX6_find_0 rfl (lv_at hl 1 rfl) ?_
  refine lv_istore (lv' := [(4, .int a1), (0, .ref (ad 4)), (1, .int a1), (2, .long a2)]) hx hb dX6_find_1 hl (by decide) rfl (fun ls hl => ?_)
  refine lv_iconst (v := 0) hx hb dX6_find_3 (by decide) ?_
  refine lv_istore (lv' := [(5, .int 0), (4, .int a1), (0, .ref (ad 4)), (1, .int a1), (2, .long a2)]) hx hb dX6_find_4 hl (by decide) rfl (fun ls hl => ?_)
  exact w_X6_find_L6 S hr hk hR _ _ _ _ _ _ _ _ X (lv_sub hl [2, 4, 1, 0] rfl) hg
end MX6_find
set_option maxRecDepth 100000 in
theorem k2_X6_find (l : Launch) (dC : Nat → ClassId) (dI : Nat → Nat → Nat) {ak : Nat → Nat} (ad : Nat → Nat) (kc : Nat → ClassId) (sv : Value) {σ τ : S5} {a1 : Int32} {a2 : Int64} {r : Int32} (hg : f_X6_find a1 a2 σ = some (r, τ)) (sz : Nat) : Met l yX6_find (Cond.code yX6_find cX6_find 7 (some .int) :: uG) { frames := 1, cells := 0, slots := 0, locals := 24 } (gPc (dC, dI) (tC kc) (wC ad kc sv) (zC ak) [.ref (ad 4), .int a1, .long a2] σ sz) (gQi (dC, dI) (tC kc) (wC ad kc sv) (va_A (wC ad kc sv σ) sz) r τ) 0 0 (va_A (wC ad kc sv σ) sz) :=
  g_start (by decide) (Nat.le_of_ble_eq_true rfl) (fun p e s m below meth c ls S hr hk X hl => w_X6_find S hr hk ⟨Nat.le_refl _, Nat.le_refl _⟩ X hl hg)
section MX6_addUse
variable {p : Program} {l : Launch} {e : Env} {R : Room} {s : State} {m : MethodId} {args : Array Value} {below : List Frame} {meth : Method} {c : Code} {dC : Nat → ClassId} {dI : Nat → Nat → Nat} {ak : Nat → Nat} {A : Nat → Prop} {ad : Nat → Nat} {kc : Nat → ClassId} {sv : Value} {r : Unit} {τ : S5}
set_option maxHeartbeats 4000000 in
set_option maxRecDepth 100000 in
theorem w_X6_addUse {σ : S5} {a1 : Int64} {a3 : Int32} {a4 : Int32} {a5 : Int32} {H : Heap} {locs : List Loc} {ls : Array Slot} (S : CallFix p m c cX6_addUse 6 s args uG RX6) (hr : meth.sig.returnType = none) (hk : meth.locks = false) (hR : 0 ≤ R.frames ∧ 0 ≤ R.locals)
    (X : gX (dC, dI) (tC kc) (wC ad kc sv) (zC ak) A s σ H locs) (hl : lv_has ls 6 [(0, .ref (ad 4)), (1, .long a1), (3, .int a3), (4, .int a4), (5, .int a5)]) (hg : f_X6_addUse a1 a3 a4 a5 σ = some (r, τ)) : W p l e R s m args below meth c H locs 0 0 (MQ below (gQv (dC, dI) (tC kc) (wC ad kc sv) A r τ) args s 0 0 A) (F0 m 0 ls []) := by
  have hx := S.1
  have hb := S.2.1
  have hown := S.2.2.2.1
  have hu := S.2.2.2.2
  unfold f_X6_addUse at hg
  refine lv_aload_n hx hb dX6_addUse_0 rfl (lv_at hl 0 rfl) ?_
  refine wcgI_10 (v := (gI σ 10)) S X mG_470 rfl dX6_addUse_1 ?_
  refine lv_sipush (v := 600) hx hb dX6_addUse_4 (by decide) ?_
  refine lv_icmp_ge (tgt := 62) hx hb dX6_addUse_7 (by decide) (fun c7 => ?_) (fun c7 => ?_)
  · have hg := (if_pos c7).symm.trans hg
    obtain ⟨-, rfl⟩ := fin_some hg
    exact gr_v S hr hk X dX6_addUse_62
  · have hg := (if_neg c7).symm.trans hg
    refine lv_aload_n hx hb dX6_addUse_10 rfl (lv_at hl 0 rfl) ?_
    refine wcgR_4_9 S X mG_460 dX6_addUse_11 ?_
    refine lv_aload_n hx hb dX6_addUse_14 rfl (lv_at hl 0 rfl) ?_
    refine wcgI_10 (v := (gI σ 10)) S X mG_470 rfl dX6_addUse_15 ?_
    refine lv_lload_n hx hb dX6_addUse_18 rfl (lv_at hl 1 rfl) ?_
    obtain ⟨hi19, hg⟩ := gd_some hg
    refine wcsB_4 S X hi19 dX6_addUse_19 (fun H locs X => ?_)
    refine lv_aload_n hx hb dX6_addUse_20 rfl (lv_at hl 0 rfl) ?_
    refine wcgR_4_10 S X mG_462 dX6_addUse_21 ?_
    refine lv_aload_n hx hb dX6_addUse_24 rfl (lv_at hl 0 rfl) ?_
    refine wcgI_10 (v := (gI σ 10)) S X mG_470 rfl dX6_addUse_25 ?_
    refine lv_iload_n hx hb dX6_addUse_28 rfl (lv_at hl 2 rfl) ?_
    obtain ⟨hi29, hg⟩ := gd_some hg
    refine wcsA_27 S X hi29 dX6_addUse_29 (fun H locs X => ?_)
    refine lv_aload_n hx hb dX6_addUse_30 rfl (lv_at hl 0 rfl) ?_
    refine wcgR_4_11 S X mG_464 dX6_addUse_31 ?_
    refine lv_aload_n hx hb dX6_addUse_34 rfl (lv_at hl 0 rfl) ?_
    refine wcgI_10 (v := (gI σ 10)) S X mG_470 rfl dX6_addUse_35 ?_
    refine lv_iload hx hb dX6_addUse_38 (lv_at hl 3 rfl) ?_
    obtain ⟨hi40, hg⟩ := gd_some hg
    refine wcsA_28 S X hi40 dX6_addUse_40 (fun H locs X => ?_)
    refine lv_aload_n hx hb dX6_addUse_41 rfl (lv_at hl 0 rfl) ?_
    refine wcgR_4_12 S X mG_466 dX6_addUse_42 ?_
    refine lv_aload_n hx hb dX6_addUse_45 rfl (lv_at hl 0 rfl) ?_
    refine wcgI_10 (v := (gI σ 10)) S X mG_470 rfl dX6_addUse_46 ?_
    refine lv_iload hx hb dX6_addUse_49 (lv_at hl 4 rfl) ?_
    obtain ⟨hi51, hg⟩ := gd_some hg
    refine wcsA_29 S X hi51 dX6_addUse_51 (fun H locs X => ?_)
    refine lv_aload_n hx hb dX6_addUse_52 rfl (lv_at hl 0 rfl) ?_
    refine lv_dup hx hb dX6_addUse_53 rfl ?_
    refine wcgI_10 (v := (gI σ 10)) S X mG_470 rfl dX6_addUse_54 ?_
    refine lv_iconst (v := 1) hx hb dX6_addUse_57 (by decide) ?_
    refine lv_iadd hx hb dX6_addUse_58 ?_
    refine wcpI_10 S X mG_470 dX6_addUse_59 (fun H locs X => ?_)
    obtain ⟨-, rfl⟩ := fin_some hg
    exact gr_v S hr hk X dX6_addUse_62
end MX6_addUse
set_option maxRecDepth 100000 in
theorem k2_X6_addUse (l : Launch) (dC : Nat → ClassId) (dI : Nat → Nat → Nat) {ak : Nat → Nat} (ad : Nat → Nat) (kc : Nat → ClassId) (sv : Value) {σ τ : S5} {a1 : Int64} {a3 : Int32} {a4 : Int32} {a5 : Int32} {r : Unit} (hg : f_X6_addUse a1 a3 a4 a5 σ = some (r, τ)) (sz : Nat) : Met l yX6_addUse (Cond.code yX6_addUse cX6_addUse 6 none :: uG) { frames := 0, cells := 0, slots := 0, locals := 0 } (gPc (dC, dI) (tC kc) (wC ad kc sv) (zC ak) [.ref (ad 4), .long a1, .int a3, .int a4, .int a5] σ sz) (gQv (dC, dI) (tC kc) (wC ad kc sv) (va_A (wC ad kc sv σ) sz) r τ) 0 0 (va_A (wC ad kc sv σ) sz) :=
  g_start (by decide) (Nat.le_of_ble_eq_true rfl) (fun p e s m below meth c ls S hr hk X hl => w_X6_addUse S hr hk ⟨Nat.le_refl _, Nat.le_refl _⟩ X hl hg)
