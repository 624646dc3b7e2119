
theorem mG_70 : Cond.selects "LazyForge$Cells" yX0_make yX0_make ∈ uG := uG_at 70 (by decide +kernel) (by decide +kernel)
theorem mG_1806 : Cond.methodLink "LazyForge$Cells" 21 yX0_make ∈ uG := uG_at 1806 (by decide +kernel) (by decide +kernel)
theorem mG_1808 : Cond.instanceMethod yX0_make ∈ uG := uG_at 1808 (by decide +kernel) (by decide +kernel)
theorem mG_1809 : Cond.code yX0_make prog_2_method_4_code 4 (some .int) ∈ uG := uG_at 1809 (by decide +kernel) (by decide +kernel)
theorem mG_1810 : Cond.constantLong "LazyForge$Cells" 25 2305843009213693952 ∈ uG := uG_at 1810 (by decide +kernel) (by decide +kernel)
theorem mG_1829 : Cond.constantLong "LazyForge$Cells" 19 4294967295 ∈ uG := uG_at 1829 (by decide +kernel) (by decide +kernel)
theorem mG_1845 : Cond.constantLong "LazyForge$Cells" 27 4611686018427387904 ∈ uG := uG_at 1845 (by decide +kernel) (by decide +kernel)
theorem mG_1858 : Cond.constant "LazyForge$Cells" 29 16777215 ∈ uG := uG_at 1858 (by decide +kernel) (by decide +kernel)
theorem mG_1915 : Cond.constantLong "java/lang/Long" 314 6148914691236517205 ∈ uG := uG_at 1915 (by decide +kernel) (by decide +kernel)
theorem mG_1916 : Cond.constantLong "java/lang/Long" 316 3689348814741910323 ∈ uG := uG_at 1916 (by decide +kernel) (by decide +kernel)
theorem mG_1917 : Cond.constantLong "java/lang/Long" 318 1085102592571150095 ∈ uG := uG_at 1917 (by decide +kernel) (by decide +kernel)
theorem dJ13_bitCount_95d88_0 : decode cJ13_bitCount_95d88 0 = .ok (.lload_n 0, 1) := by decide +kernel
theorem dJ13_bitCount_95d88_1 : decode cJ13_bitCount_95d88 1 = .ok (.lload_n 0, 1) := by decide +kernel
theorem dJ13_bitCount_95d88_2 : decode cJ13_bitCount_95d88 2 = .ok (.iconst 1, 1) := by decide +kernel
theorem dJ13_bitCount_95d88_3 : decode cJ13_bitCount_95d88 3 = .ok (.lushr, 1) := by decide +kernel
theorem dJ13_bitCount_95d88_4 : decode cJ13_bitCount_95d88 4 = .ok (.ldc2_w 314, 3) := by decide +kernel
theorem dJ13_bitCount_95d88_7 : decode cJ13_bitCount_95d88 7 = .ok (.land, 1) := by decide +kernel
theorem dJ13_bitCount_95d88_8 : decode cJ13_bitCount_95d88 8 = .ok (.lsub, 1) := by decide +kernel
theorem dJ13_bitCount_95d88_9 : decode cJ13_bitCount_95d88 9 = .ok (.lstore_n 0, 1) := by decide +kernel
theorem dJ13_bitCount_95d88_10 : decode cJ13_bitCount_95d88 10 = .ok (.lload_n 0, 1) := by decide +kernel
theorem dJ13_bitCount_95d88_11 : decode cJ13_bitCount_95d88 11 = .ok (.ldc2_w 316, 3) := by decide +kernel
theorem dJ13_bitCount_95d88_14 : decode cJ13_bitCount_95d88 14 = .ok (.land, 1) := by decide +kernel
theorem dJ13_bitCount_95d88_15 : decode cJ13_bitCount_95d88 15 = .ok (.lload_n 0, 1) := by decide +kernel
theorem dJ13_bitCount_95d88_16 : decode cJ13_bitCount_95d88 16 = .ok (.iconst 2, 1) := by decide +kernel
theorem dJ13_bitCount_95d88_17 : decode cJ13_bitCount_95d88 17 = .ok (.lushr, 1) := by decide +kernel
theorem dJ13_bitCount_95d88_18 : decode cJ13_bitCount_95d88 18 = .ok (.ldc2_w 316, 3) := by decide +kernel
theorem dJ13_bitCount_95d88_21 : decode cJ13_bitCount_95d88 21 = .ok (.land, 1) := by decide +kernel
theorem dJ13_bitCount_95d88_22 : decode cJ13_bitCount_95d88 22 = .ok (.ladd, 1) := by decide +kernel
theorem dJ13_bitCount_95d88_23 : decode cJ13_bitCount_95d88 23 = .ok (.lstore_n 0, 1) := by decide +kernel
theorem dJ13_bitCount_95d88_24 : decode cJ13_bitCount_95d88 24 = .ok (.lload_n 0, 1) := by decide +kernel
theorem dJ13_bitCount_95d88_25 : decode cJ13_bitCount_95d88 25 = .ok (.lload_n 0, 1) := by decide +kernel
theorem dJ13_bitCount_95d88_26 : decode cJ13_bitCount_95d88 26 = .ok (.iconst 4, 1) := by decide +kernel
theorem dJ13_bitCount_95d88_27 : decode cJ13_bitCount_95d88 27 = .ok (.lushr, 1) := by decide +kernel
theorem dJ13_bitCount_95d88_28 : decode cJ13_bitCount_95d88 28 = .ok (.ladd, 1) := by decide +kernel
theorem dJ13_bitCount_95d88_29 : decode cJ13_bitCount_95d88 29 = .ok (.ldc2_w 318, 3) := by decide +kernel
theorem dJ13_bitCount_95d88_32 : decode cJ13_bitCount_95d88 32 = .ok (.land, 1) := by decide +kernel
theorem dJ13_bitCount_95d88_33 : decode cJ13_bitCount_95d88 33 = .ok (.lstore_n 0, 1) := by decide +kernel
theorem dJ13_bitCount_95d88_34 : decode cJ13_bitCount_95d88 34 = .ok (.lload_n 0, 1) := by decide +kernel
theorem dJ13_bitCount_95d88_35 : decode cJ13_bitCount_95d88 35 = .ok (.lload_n 0, 1) := by decide +kernel
theorem dJ13_bitCount_95d88_36 : decode cJ13_bitCount_95d88 36 = .ok (.bipush 8, 2) := by decide +kernel
theorem dJ13_bitCount_95d88_38 : decode cJ13_bitCount_95d88 38 = .ok (.lushr, 1) := by decide +kernel
theorem dJ13_bitCount_95d88_39 : decode cJ13_bitCount_95d88 39 = .ok (.ladd, 1) := by decide +kernel
theorem dJ13_bitCount_95d88_40 : decode cJ13_bitCount_95d88 40 = .ok (.lstore_n 0, 1) := by decide +kernel
theorem dJ13_bitCount_95d88_41 : decode cJ13_bitCount_95d88 41 = .ok (.lload_n 0, 1) := by decide +kernel
theorem dJ13_bitCount_95d88_42 : decode cJ13_bitCount_95d88 42 = .ok (.lload_n 0, 1) := by decide +kernel
theorem dJ13_bitCount_95d88_43 : decode cJ13_bitCount_95d88 43 = .ok (.bipush 16, 2) := by decide +kernel
theorem dJ13_bitCount_95d88_45 : decode cJ13_bitCount_95d88 45 = .ok (.lushr, 1) := by decide +kernel
theorem dJ13_bitCount_95d88_46 : decode cJ13_bitCount_95d88 46 = .ok (.ladd, 1) := by decide +kernel
theorem dJ13_bitCount_95d88_47 : decode cJ13_bitCount_95d88 47 = .ok (.lstore_n 0, 1) := by decide +kernel
theorem dJ13_bitCount_95d88_48 : decode cJ13_bitCount_95d88 48 = .ok (.lload_n 0, 1) := by decide +kernel
theorem dJ13_bitCount_95d88_49 : decode cJ13_bitCount_95d88 49 = .ok (.lload_n 0, 1) := by decide +kernel
theorem dJ13_bitCount_95d88_50 : decode cJ13_bitCount_95d88 50 = .ok (.bipush 32, 2) := by decide +kernel
theorem dJ13_bitCount_95d88_52 : decode cJ13_bitCount_95d88 52 = .ok (.lushr, 1) := by decide +kernel
theorem dJ13_bitCount_95d88_53 : decode cJ13_bitCount_95d88 53 = .ok (.ladd, 1) := by decide +kernel
theorem dJ13_bitCount_95d88_54 : decode cJ13_bitCount_95d88 54 = .ok (.lstore_n 0, 1) := by decide +kernel
theorem dJ13_bitCount_95d88_55 : decode cJ13_bitCount_95d88 55 = .ok (.lload_n 0, 1) := by decide +kernel
theorem dJ13_bitCount_95d88_56 : decode cJ13_bitCount_95d88 56 = .ok (.l2i, 1) := by decide +kernel
theorem dJ13_bitCount_95d88_57 : decode cJ13_bitCount_95d88 57 = .ok (.bipush 127, 2) := by decide +kernel
theorem dJ13_bitCount_95d88_59 : decode cJ13_bitCount_95d88 59 = .ok (.iand, 1) := by decide +kernel
theorem dJ13_bitCount_95d88_60 : decode cJ13_bitCount_95d88 60 = .ok (.ireturn, 1) := by decide +kernel
theorem dJ7_fill_53178_0 : decode cJ7_fill_53178 0 = .ok (.iconst 0, 1) := by decide +kernel
theorem dJ7_fill_53178_1 : decode cJ7_fill_53178 1 = .ok (.istore_n 2, 1) := by decide +kernel
theorem dJ7_fill_53178_2 : decode cJ7_fill_53178 2 = .ok (.aload_n 0, 1) := by decide +kernel
theorem dJ7_fill_53178_3 : decode cJ7_fill_53178 3 = .ok (.arraylength, 1) := by decide +kernel
theorem dJ7_fill_53178_4 : decode cJ7_fill_53178 4 = .ok (.istore_n 3, 1) := by decide +kernel
theorem dJ7_fill_53178_5 : decode cJ7_fill_53178 5 = .ok (.iload_n 2, 1) := by decide +kernel
theorem dJ7_fill_53178_6 : decode cJ7_fill_53178 6 = .ok (.iload_n 3, 1) := by decide +kernel
theorem dJ7_fill_53178_7 : decode cJ7_fill_53178 7 = .ok (.if_icmp .ge 13, 3) := by decide +kernel
theorem dJ7_fill_53178_10 : decode cJ7_fill_53178 10 = .ok (.aload_n 0, 1) := by decide +kernel
theorem dJ7_fill_53178_11 : decode cJ7_fill_53178 11 = .ok (.iload_n 2, 1) := by decide +kernel
theorem dJ7_fill_53178_12 : decode cJ7_fill_53178 12 = .ok (.iload_n 1, 1) := by decide +kernel
theorem dJ7_fill_53178_13 : decode cJ7_fill_53178 13 = .ok (.iastore, 1) := by decide +kernel
theorem dJ7_fill_53178_14 : decode cJ7_fill_53178 14 = .ok (.iinc 2 1, 3) := by decide +kernel
theorem dJ7_fill_53178_17 : decode cJ7_fill_53178 17 = .ok (.goto (-12), 3) := by decide +kernel
theorem dJ7_fill_53178_20 : decode cJ7_fill_53178 20 = .ok (.return_, 1) := by decide +kernel
theorem dX0_blacken_0 : decode cX0_blacken 0 = .ok (.aload_n 0, 1) := by decide +kernel
theorem dX0_blacken_1 : decode cX0_blacken 1 = .ok (.getfield 11, 3) := by decide +kernel
theorem dX0_blacken_4 : decode cX0_blacken 4 = .ok (.iload_n 1, 1) := by decide +kernel
theorem dX0_blacken_5 : decode cX0_blacken 5 = .ok (.ldc2_w 27, 3) := by decide +kernel
theorem dX0_blacken_8 : decode cX0_blacken 8 = .ok (.lastore, 1) := by decide +kernel
theorem dX0_blacken_9 : decode cX0_blacken 9 = .ok (.return_, 1) := by decide +kernel
theorem dX0_functionOf_0 : decode cX0_functionOf 0 = .ok (.aload_n 0, 1) := by decide +kernel
theorem dX0_functionOf_1 : decode cX0_functionOf 1 = .ok (.getfield 11, 3) := by decide +kernel
theorem dX0_functionOf_4 : decode cX0_functionOf 4 = .ok (.iload_n 1, 1) := by decide +kernel
theorem dX0_functionOf_5 : decode cX0_functionOf 5 = .ok (.laload, 1) := by decide +kernel
theorem dX0_functionOf_6 : decode cX0_functionOf 6 = .ok (.bipush 24, 2) := by decide +kernel
theorem dX0_functionOf_8 : decode cX0_functionOf 8 = .ok (.lushr, 1) := by decide +kernel
theorem dX0_functionOf_9 : decode cX0_functionOf 9 = .ok (.l2i, 1) := by decide +kernel
theorem dX0_functionOf_10 : decode cX0_functionOf 10 = .ok (.ldc 29, 2) := by decide +kernel
theorem dX0_functionOf_12 : decode cX0_functionOf 12 = .ok (.iand, 1) := by decide +kernel
theorem dX0_functionOf_13 : decode cX0_functionOf 13 = .ok (.ireturn, 1) := by decide +kernel
theorem dX0_isBlack_0 : decode cX0_isBlack 0 = .ok (.aload_n 0, 1) := by decide +kernel
theorem dX0_isBlack_1 : decode cX0_isBlack 1 = .ok (.getfield 11, 3) := by decide +kernel
theorem dX0_isBlack_4 : decode cX0_isBlack 4 = .ok (.iload_n 1, 1) := by decide +kernel
theorem dX0_isBlack_5 : decode cX0_isBlack 5 = .ok (.laload, 1) := by decide +kernel
theorem dX0_isBlack_6 : decode cX0_isBlack 6 = .ok (.ldc2_w 27, 3) := by decide +kernel
theorem dX0_isBlack_9 : decode cX0_isBlack 9 = .ok (.lcmp, 1) := by decide +kernel
theorem dX0_isBlack_10 : decode cX0_isBlack 10 = .ok (.ifCond .ne 7, 3) := by decide +kernel
theorem dX0_isBlack_13 : decode cX0_isBlack 13 = .ok (.iconst 1, 1) := by decide +kernel
theorem dX0_isBlack_14 : decode cX0_isBlack 14 = .ok (.goto 4, 3) := by decide +kernel
theorem dX0_isBlack_17 : decode cX0_isBlack 17 = .ok (.iconst 0, 1) := by decide +kernel
theorem dX0_isBlack_18 : decode cX0_isBlack 18 = .ok (.ireturn, 1) := by decide +kernel
theorem dX0_isFresh_0 : decode cX0_isFresh 0 = .ok (.aload_n 0, 1) := by decide +kernel
theorem dX0_isFresh_1 : decode cX0_isFresh 1 = .ok (.getfield 11, 3) := by decide +kernel
theorem dX0_isFresh_4 : decode cX0_isFresh 4 = .ok (.iload_n 1, 1) := by decide +kernel
theorem dX0_isFresh_5 : decode cX0_isFresh 5 = .ok (.laload, 1) := by decide +kernel
theorem dX0_isFresh_6 : decode cX0_isFresh 6 = .ok (.ldc2_w 25, 3) := by decide +kernel
theorem dX0_isFresh_9 : decode cX0_isFresh 9 = .ok (.land, 1) := by decide +kernel
theorem dX0_isFresh_10 : decode cX0_isFresh 10 = .ok (.lconst 0, 1) := by decide +kernel
theorem dX0_isFresh_11 : decode cX0_isFresh 11 = .ok (.lcmp, 1) := by decide +kernel
theorem dX0_isFresh_12 : decode cX0_isFresh 12 = .ok (.ifCond .eq 7, 3) := by decide +kernel
theorem dX0_isFresh_15 : decode cX0_isFresh 15 = .ok (.iconst 1, 1) := by decide +kernel
theorem dX0_isFresh_16 : decode cX0_isFresh 16 = .ok (.goto 4, 3) := by decide +kernel
theorem dX0_isFresh_19 : decode cX0_isFresh 19 = .ok (.iconst 0, 1) := by decide +kernel
theorem dX0_isFresh_20 : decode cX0_isFresh 20 = .ok (.ireturn, 1) := by decide +kernel
theorem dX0_make_0 : decode cX0_make 0 = .ok (.aload_n 0, 1) := by decide +kernel
theorem dX0_make_1 : decode cX0_make 1 = .ok (.getfield 15, 3) := by decide +kernel
theorem dX0_make_4 : decode cX0_make 4 = .ok (.iconst 3, 1) := by decide +kernel
theorem dX0_make_5 : decode cX0_make 5 = .ok (.iaload, 1) := by decide +kernel
theorem dX0_make_6 : decode cX0_make 6 = .ok (.istore_n 3, 1) := by decide +kernel
theorem dX0_make_7 : decode cX0_make 7 = .ok (.iload_n 1, 1) := by decide +kernel
theorem dX0_make_8 : decode cX0_make 8 = .ok (.sipush 4000, 3) := by decide +kernel
theorem dX0_make_11 : decode cX0_make 11 = .ok (.iload_n 3, 1) := by decide +kernel
theorem dX0_make_12 : decode cX0_make 12 = .ok (.isub, 1) := by decide +kernel
theorem dX0_make_13 : decode cX0_make 13 = .ok (.if_icmp .le 5, 3) := by decide +kernel
theorem dX0_make_16 : decode cX0_make 16 = .ok (.iconst (-1), 1) := by decide +kernel
theorem dX0_make_17 : decode cX0_make 17 = .ok (.ireturn, 1) := by decide +kernel
theorem dX0_make_18 : decode cX0_make 18 = .ok (.aload_n 0, 1) := by decide +kernel
theorem dX0_make_19 : decode cX0_make 19 = .ok (.getfield 15, 3) := by decide +kernel
theorem dX0_make_22 : decode cX0_make 22 = .ok (.iconst 3, 1) := by decide +kernel
theorem dX0_make_23 : decode cX0_make 23 = .ok (.dup2, 1) := by decide +kernel
theorem dX0_make_24 : decode cX0_make 24 = .ok (.iaload, 1) := by decide +kernel
theorem dX0_make_25 : decode cX0_make 25 = .ok (.iload_n 1, 1) := by decide +kernel
theorem dX0_make_26 : decode cX0_make 26 = .ok (.iadd, 1) := by decide +kernel
theorem dX0_make_27 : decode cX0_make 27 = .ok (.iastore, 1) := by decide +kernel
theorem dX0_make_28 : decode cX0_make 28 = .ok (.aload_n 0, 1) := by decide +kernel
theorem dX0_make_29 : decode cX0_make 29 = .ok (.getfield 15, 3) := by decide +kernel
theorem dX0_make_32 : decode cX0_make 32 = .ok (.iload_n 2, 1) := by decide +kernel
theorem dX0_make_33 : decode cX0_make 33 = .ok (.dup2, 1) := by decide +kernel
theorem dX0_make_34 : decode cX0_make 34 = .ok (.iaload, 1) := by decide +kernel
theorem dX0_make_35 : decode cX0_make 35 = .ok (.iconst 1, 1) := by decide +kernel
theorem dX0_make_36 : decode cX0_make 36 = .ok (.iadd, 1) := by decide +kernel
theorem dX0_make_37 : decode cX0_make 37 = .ok (.iastore, 1) := by decide +kernel
theorem dX0_make_38 : decode cX0_make 38 = .ok (.iload_n 3, 1) := by decide +kernel
theorem dX0_make_39 : decode cX0_make 39 = .ok (.ireturn, 1) := by decide +kernel
theorem dX0_makeObject_0 : decode cX0_makeObject 0 = .ok (.aload_n 0, 1) := by decide +kernel
theorem dX0_makeObject_1 : decode cX0_makeObject 1 = .ok (.iconst 1, 1) := by decide +kernel
theorem dX0_makeObject_2 : decode cX0_makeObject 2 = .ok (.iload_n 2, 1) := by decide +kernel
theorem dX0_makeObject_3 : decode cX0_makeObject 3 = .ok (.iadd, 1) := by decide +kernel
theorem dX0_makeObject_4 : decode cX0_makeObject 4 = .ok (.bipush 6, 2) := by decide +kernel
theorem dX0_makeObject_6 : decode cX0_makeObject 6 = .ok (.invokevirtual 21, 3) := by decide +kernel
theorem dX0_makeObject_9 : decode cX0_makeObject 9 = .ok (.istore_n 3, 1) := by decide +kernel
theorem dX0_makeObject_10 : decode cX0_makeObject 10 = .ok (.iload_n 3, 1) := by decide +kernel
theorem dX0_makeObject_11 : decode cX0_makeObject 11 = .ok (.iconst (-1), 1) := by decide +kernel
theorem dX0_makeObject_12 : decode cX0_makeObject 12 = .ok (.if_icmp .eq 11, 3) := by decide +kernel
theorem dX0_makeObject_15 : decode cX0_makeObject 15 = .ok (.aload_n 0, 1) := by decide +kernel
theorem dX0_makeObject_16 : decode cX0_makeObject 16 = .ok (.getfield 11, 3) := by decide +kernel
theorem dX0_makeObject_19 : decode cX0_makeObject 19 = .ok (.iload_n 3, 1) := by decide +kernel
theorem dX0_makeObject_20 : decode cX0_makeObject 20 = .ok (.iload_n 1, 1) := by decide +kernel
theorem dX0_makeObject_21 : decode cX0_makeObject 21 = .ok (.i2l, 1) := by decide +kernel
theorem dX0_makeObject_22 : decode cX0_makeObject 22 = .ok (.lastore, 1) := by decide +kernel
theorem dX0_makeObject_23 : decode cX0_makeObject 23 = .ok (.iload_n 3, 1) := by decide +kernel
theorem dX0_makeObject_24 : decode cX0_makeObject 24 = .ok (.ireturn, 1) := by decide +kernel
theorem dX0_makePart_0 : decode cX0_makePart 0 = .ok (.aload_n 0, 1) := by decide +kernel
theorem dX0_makePart_1 : decode cX0_makePart 1 = .ok (.iconst 2, 1) := by decide +kernel
theorem dX0_makePart_2 : decode cX0_makePart 2 = .ok (.iload_n 2, 1) := by decide +kernel
theorem dX0_makePart_3 : decode cX0_makePart 3 = .ok (.iadd, 1) := by decide +kernel
theorem dX0_makePart_4 : decode cX0_makePart 4 = .ok (.iconst 5, 1) := by decide +kernel
theorem dX0_makePart_5 : decode cX0_makePart 5 = .ok (.invokevirtual 21, 3) := by decide +kernel
theorem dX0_makePart_8 : decode cX0_makePart 8 = .ok (.istore_n 3, 1) := by decide +kernel
theorem dX0_makePart_9 : decode cX0_makePart 9 = .ok (.iload_n 3, 1) := by decide +kernel
theorem dX0_makePart_10 : decode cX0_makePart 10 = .ok (.iconst (-1), 1) := by decide +kernel
theorem dX0_makePart_11 : decode cX0_makePart 11 = .ok (.if_icmp .eq 21, 3) := by decide +kernel
theorem dX0_makePart_14 : decode cX0_makePart 14 = .ok (.aload_n 0, 1) := by decide +kernel
theorem dX0_makePart_15 : decode cX0_makePart 15 = .ok (.getfield 11, 3) := by decide +kernel
theorem dX0_makePart_18 : decode cX0_makePart 18 = .ok (.iload_n 3, 1) := by decide +kernel
theorem dX0_makePart_19 : decode cX0_makePart 19 = .ok (.iload_n 1, 1) := by decide +kernel
theorem dX0_makePart_20 : decode cX0_makePart 20 = .ok (.i2l, 1) := by decide +kernel
theorem dX0_makePart_21 : decode cX0_makePart 21 = .ok (.lastore, 1) := by decide +kernel
theorem dX0_makePart_22 : decode cX0_makePart 22 = .ok (.aload_n 0, 1) := by decide +kernel
theorem dX0_makePart_23 : decode cX0_makePart 23 = .ok (.getfield 11, 3) := by decide +kernel
theorem dX0_makePart_26 : decode cX0_makePart 26 = .ok (.iload_n 3, 1) := by decide +kernel
theorem dX0_makePart_27 : decode cX0_makePart 27 = .ok (.iconst 1, 1) := by decide +kernel
theorem dX0_makePart_28 : decode cX0_makePart 28 = .ok (.iadd, 1) := by decide +kernel
theorem dX0_makePart_29 : decode cX0_makePart 29 = .ok (.iload_n 2, 1) := by decide +kernel
theorem dX0_makePart_30 : decode cX0_makePart 30 = .ok (.i2l, 1) := by decide +kernel
theorem dX0_makePart_31 : decode cX0_makePart 31 = .ok (.lastore, 1) := by decide +kernel
theorem dX0_makePart_32 : decode cX0_makePart 32 = .ok (.iload_n 3, 1) := by decide +kernel
theorem dX0_makePart_33 : decode cX0_makePart 33 = .ok (.ireturn, 1) := by decide +kernel
theorem dX0_makeSuspension_0 : decode cX0_makeSuspension 0 = .ok (.aload_n 0, 1) := by decide +kernel
theorem dX0_makeSuspension_1 : decode cX0_makeSuspension 1 = .ok (.iconst 1, 1) := by decide +kernel
theorem dX0_makeSuspension_2 : decode cX0_makeSuspension 2 = .ok (.iload_n 3, 1) := by decide +kernel
theorem dX0_makeSuspension_3 : decode cX0_makeSuspension 3 = .ok (.iadd, 1) := by decide +kernel
theorem dX0_makeSuspension_4 : decode cX0_makeSuspension 4 = .ok (.iconst 4, 1) := by decide +kernel
theorem dX0_makeSuspension_5 : decode cX0_makeSuspension 5 = .ok (.invokevirtual 21, 3) := by decide +kernel
theorem dX0_makeSuspension_8 : decode cX0_makeSuspension 8 = .ok (.istore 4, 2) := by decide +kernel
theorem dX0_makeSuspension_10 : decode cX0_makeSuspension 10 = .ok (.iload 4, 2) := by decide +kernel
theorem dX0_makeSuspension_12 : decode cX0_makeSuspension 12 = .ok (.iconst (-1), 1) := by decide +kernel
theorem dX0_makeSuspension_13 : decode cX0_makeSuspension 13 = .ok (.if_icmp .eq 22, 3) := by decide +kernel
theorem dX0_makeSuspension_16 : decode cX0_makeSuspension 16 = .ok (.aload_n 0, 1) := by decide +kernel
theorem dX0_makeSuspension_17 : decode cX0_makeSuspension 17 = .ok (.getfield 11, 3) := by decide +kernel
theorem dX0_makeSuspension_20 : decode cX0_makeSuspension 20 = .ok (.iload 4, 2) := by decide +kernel
theorem dX0_makeSuspension_22 : decode cX0_makeSuspension 22 = .ok (.ldc2_w 25, 3) := by decide +kernel
theorem dX0_makeSuspension_25 : decode cX0_makeSuspension 25 = .ok (.iload_n 1, 1) := by decide +kernel
theorem dX0_makeSuspension_26 : decode cX0_makeSuspension 26 = .ok (.i2l, 1) := by decide +kernel
theorem dX0_makeSuspension_27 : decode cX0_makeSuspension 27 = .ok (.bipush 24, 2) := by decide +kernel
theorem dX0_makeSuspension_29 : decode cX0_makeSuspension 29 = .ok (.lshl, 1) := by decide +kernel
theorem dX0_makeSuspension_30 : decode cX0_makeSuspension 30 = .ok (.lor, 1) := by decide +kernel
theorem dX0_makeSuspension_31 : decode cX0_makeSuspension 31 = .ok (.iload_n 2, 1) := by decide +kernel
theorem dX0_makeSuspension_32 : decode cX0_makeSuspension 32 = .ok (.i2l, 1) := by decide +kernel
theorem dX0_makeSuspension_33 : decode cX0_makeSuspension 33 = .ok (.lor, 1) := by decide +kernel
theorem dX0_makeSuspension_34 : decode cX0_makeSuspension 34 = .ok (.lastore, 1) := by decide +kernel
theorem dX0_makeSuspension_35 : decode cX0_makeSuspension 35 = .ok (.iload 4, 2) := by decide +kernel
theorem dX0_makeSuspension_37 : decode cX0_makeSuspension 37 = .ok (.ireturn, 1) := by decide +kernel
theorem dX0_nodeOf_0 : decode cX0_nodeOf 0 = .ok (.aload_n 0, 1) := by decide +kernel
theorem dX0_nodeOf_1 : decode cX0_nodeOf 1 = .ok (.getfield 11, 3) := by decide +kernel
theorem dX0_nodeOf_4 : decode cX0_nodeOf 4 = .ok (.iload_n 1, 1) := by decide +kernel
theorem dX0_nodeOf_5 : decode cX0_nodeOf 5 = .ok (.laload, 1) := by decide +kernel
theorem dX0_nodeOf_6 : decode cX0_nodeOf 6 = .ok (.l2i, 1) := by decide +kernel
theorem dX0_nodeOf_7 : decode cX0_nodeOf 7 = .ok (.ldc 29, 2) := by decide +kernel
theorem dX0_nodeOf_9 : decode cX0_nodeOf 9 = .ok (.iand, 1) := by decide +kernel
theorem dX0_nodeOf_10 : decode cX0_nodeOf 10 = .ok (.ireturn, 1) := by decide +kernel
theorem dX0_tag_0 : decode cX0_tag 0 = .ok (.lload_n 0, 1) := by decide +kernel
theorem dX0_tag_1 : decode cX0_tag 1 = .ok (.bipush 32, 2) := by decide +kernel
theorem dX0_tag_3 : decode cX0_tag 3 = .ok (.lushr, 1) := by decide +kernel
theorem dX0_tag_4 : decode cX0_tag 4 = .ok (.l2i, 1) := by decide +kernel
theorem dX0_tag_5 : decode cX0_tag 5 = .ok (.ireturn, 1) := by decide +kernel
theorem dX0_update_0 : decode cX0_update 0 = .ok (.aload_n 0, 1) := by decide +kernel
theorem dX0_update_1 : decode cX0_update 1 = .ok (.getfield 11, 3) := by decide +kernel
theorem dX0_update_4 : decode cX0_update 4 = .ok (.iload_n 1, 1) := by decide +kernel
theorem dX0_update_5 : decode cX0_update 5 = .ok (.lload_n 2, 1) := by decide +kernel
theorem dX0_update_6 : decode cX0_update 6 = .ok (.lastore, 1) := by decide +kernel
theorem dX0_update_7 : decode cX0_update 7 = .ok (.aload_n 0, 1) := by decide +kernel
theorem dX0_update_8 : decode cX0_update 8 = .ok (.getfield 15, 3) := by decide +kernel
theorem dX0_update_11 : decode cX0_update 11 = .ok (.bipush 7, 2) := by decide +kernel
theorem dX0_update_13 : decode cX0_update 13 = .ok (.dup2, 1) := by decide +kernel
theorem dX0_update_14 : decode cX0_update 14 = .ok (.iaload, 1) := by decide +kernel
theorem dX0_update_15 : decode cX0_update 15 = .ok (.iconst 1, 1) := by decide +kernel
theorem dX0_update_16 : decode cX0_update 16 = .ok (.iadd, 1) := by decide +kernel
theorem dX0_update_17 : decode cX0_update 17 = .ok (.iastore, 1) := by decide +kernel
theorem dX0_update_18 : decode cX0_update 18 = .ok (.return_, 1) := by decide +kernel
theorem dX0_value_0 : decode cX0_value 0 = .ok (.iload_n 0, 1) := by decide +kernel
theorem dX0_value_1 : decode cX0_value 1 = .ok (.i2l, 1) := by decide +kernel
theorem dX0_value_2 : decode cX0_value 2 = .ok (.bipush 32, 2) := by decide +kernel
theorem dX0_value_4 : decode cX0_value 4 = .ok (.lshl, 1) := by decide +kernel
theorem dX0_value_5 : decode cX0_value 5 = .ok (.iload_n 1, 1) := by decide +kernel
theorem dX0_value_6 : decode cX0_value 6 = .ok (.i2l, 1) := by decide +kernel
theorem dX0_value_7 : decode cX0_value 7 = .ok (.ldc2_w 19, 3) := by decide +kernel
theorem dX0_value_10 : decode cX0_value 10 = .ok (.land, 1) := by decide +kernel
theorem dX0_value_11 : decode cX0_value 11 = .ok (.lor, 1) := by decide +kernel
theorem dX0_value_12 : decode cX0_value 12 = .ok (.lreturn, 1) := by decide +kernel
theorem cw_X0_make : CWV yX0_make cX0_make 4 (some .int) RX0 2 := ⟨mG_1809, mG_1808, mG_70, mG_225, by decide +kernel⟩
section MX0_value
variable {p : Program} {l : Launch} {e : Env} {R : Room} {s : State} {m : MethodId} {args : Array Value} {below : List Frame} {meth : Method} {c : Code} {dC : Nat → ClassId} {dI : Nat → Nat → Nat} {Z : ZZ} {A : Nat → Prop} {ad : Nat → Nat} {kc : Nat → ClassId} {sa va : Nat} {r : Int64} {τ : S5}
set_option maxHeartbeats 4000000 in
set_option maxRecDepth 100000 in
theorem w_X0_value {σ : S5} {a0 : Int32} {a1 : Int32} {H : Heap} {locs : List Loc} {ls : Array Slot} (S : CallFix p m c cX0_value 2 s args uG RX0) (hr : meth.sig.returnType = (some .long)) (hk : meth.locks = false) (hR : 0 ≤ R.frames ∧ 0 ≤ R.locals)
    (X : gX (dC, dI) (tK kc) (wK ad kc sa va) Z A s σ H locs) (hl : lv_has ls 2 [(0, .int a0), (1, .int a1)]) (hg : f_X0_value a0 a1 σ = some (r, τ)) : W p l e R s m args below meth c H locs 0 0 (MQ below (gQl (dC, dI) (tK kc) (wK ad kc sa va) A r τ) args s 0 0 A) (F0 m 0 ls []) := by
  have hx := S.1
  have hb := S.2.1
  have hown := S.2.2.2.1
  have hu := S.2.2.2.2
  unfold f_X0_value at hg
  refine lv_iload_n hx hb dX0_value_0 rfl (lv_at hl 0 rfl) ?_
  refine lv_i2l (v := ((a0).toInt64)) hx hb dX0_value_1 rfl ?_
  refine lv_bipush (v := 32) hx hb dX0_value_2 (by decide) ?_
  refine lv_lshl (v := (j_lshl ((a0).toInt64) 32)) hx hb dX0_value_4 rfl ?_
  refine lv_iload_n hx hb dX0_value_5 rfl (lv_at hl 1 rfl) ?_
  refine lv_i2l (v := ((a1).toInt64)) hx hb dX0_value_6 rfl ?_
  refine lv_ldc2 (own := RX0) (v := 4294967295) hx hb hown (hu _ mG_1829) dX0_value_7 ?_
  refine lv_land hx hb dX0_value_10 ?_
  refine lv_lor hx hb dX0_value_11 ?_
  obtain ⟨rfl, rfl⟩ := fin_some hg
  exact gr_l S hr hk X dX0_value_12
end MX0_value
set_option maxRecDepth 100000 in
theorem k2_X0_value (l : Launch) (dC : Nat → ClassId) (dI : Nat → Nat → Nat) {Z : ZZ} (ad : Nat → Nat) (kc : Nat → ClassId) (sa va : Nat) {σ τ : S5} {a0 : Int32} {a1 : Int32} {r : Int64} (hg : f_X0_value a0 a1 σ = some (r, τ)) (sz : Nat) : Met l yX0_value (Cond.code yX0_value cX0_value 2 (some .long) :: uG) { frames := 0, cells := 0, slots := 0, locals := 0 } (gPc (dC, dI) (tK kc) (wK ad kc sa va) Z [.int a0, .int a1] σ sz) (gQl (dC, dI) (tK kc) (wK ad kc sa va) (va_A (wK ad kc sa va σ) sz) r τ) 0 0 (va_A (wK ad kc sa va σ) sz) :=
  g_start (by decide) (Nat.le_of_ble_eq_true rfl) (fun p e s m below meth c ls S hr hk X hl => w_X0_value S hr hk ⟨Nat.le_refl _, Nat.le_refl _⟩ X hl hg)
section MX0_tag
variable {p : Program} {l : Launch} {e : Env} {R : Room} {s : State} {m : MethodId} {args : Array Value} {below : List Frame} {meth : Method} {c : Code} {dC : Nat → ClassId} {dI : Nat → Nat → Nat} {Z : ZZ} {A : Nat → Prop} {ad : Nat → Nat} {kc : Nat → ClassId} {sa va : Nat} {r : Int32} {τ : S5}
set_option maxHeartbeats 4000000 in
set_option maxRecDepth 100000 in
theorem w_X0_tag {σ : S5} {a0 : Int64} {H : Heap} {locs : List Loc} {ls : Array Slot} (S : CallFix p m c cX0_tag 2 s args uG RX0) (hr : meth.sig.returnType = (some .int)) (hk : meth.locks = false) (hR : 0 ≤ R.frames ∧ 0 ≤ R.locals)
    (X : gX (dC, dI) (tK kc) (wK ad kc sa va) Z A s σ H locs) (hl : lv_has ls 2 [(0, .long a0)]) (hg : f_X0_tag a0 σ = some (r, τ)) : W p l e R s m args below meth c H locs 0 0 (MQ below (gQi (dC, dI) (tK kc) (wK ad kc sa va) A r τ) args s 0 0 A) (F0 m 0 ls []) := by
  have hx := S.1
  have hb := S.2.1
  have hown := S.2.2.2.1
  have hu := S.2.2.2.2
  unfold f_X0_tag at hg
  refine lv_lload_n hx hb dX0_tag_0 rfl (lv_at hl 0 rfl) ?_
  refine lv_bipush (v := 32) hx hb dX0_tag_1 (by decide) ?_
  refine lv_lushr (v := (j_lushr a0 32)) hx hb dX0_tag_3 rfl ?_
  refine lv_l2i (v := (((j_lushr a0 32) : Int64).toInt32)) hx hb dX0_tag_4 rfl ?_
  obtain ⟨rfl, rfl⟩ := fin_some hg
  exact gr_i S hr hk X dX0_tag_5
end MX0_tag
set_option maxRecDepth 100000 in
theorem k2_X0_tag (l : Launch) (dC : Nat → ClassId) (dI : Nat → Nat → Nat) {Z : ZZ} (ad : Nat → Nat) (kc : Nat → ClassId) (sa va : Nat) {σ τ : S5} {a0 : Int64} {r : Int32} (hg : f_X0_tag a0 σ = some (r, τ)) (sz : Nat) : Met l yX0_tag (Cond.code yX0_tag cX0_tag 2 (some .int) :: uG) { frames := 0, cells := 0, slots := 0, locals := 0 } (gPc (dC, dI) (tK kc) (wK ad kc sa va) Z [.long a0] σ sz) (gQi (dC, dI) (tK kc) (wK ad kc sa va) (va_A (wK ad kc sa va σ) sz) r τ) 0 0 (va_A (wK ad kc sa va σ) sz) :=
  g_start (by decide) (Nat.le_of_ble_eq_true rfl) (fun p e s m below meth c ls S hr hk X hl => w_X0_tag S hr hk ⟨Nat.le_refl _, Nat.le_refl _⟩ X hl hg)
section MX0_make
variable {p : Program} {l : Launch} {e : Env} {R : Room} {s : State} {m : MethodId} {args : Array Value} {below : List Frame} {meth : Method} {c : Code} {dC : Nat → ClassId} {dI : Nat → Nat → Nat} {Z : ZZ} {A : Nat → Prop} {ad : Nat → Nat} {kc : Nat → ClassId} {sa va : Nat} {r : Int32} {τ : S5}
set_option maxHeartbeats 4000000 in
set_option maxRecDepth 100000 in
theorem w_X0_make {σ : S5} {a1 : Int32} {a2 : Int32} {H : Heap} {locs : List Loc} {ls : Array Slot} (S : CallFix p m c cX0_make 4 s args uG RX0) (hr : meth.sig.returnType = (some .int)) (hk : meth.locks = false) (hR : 0 ≤ R.frames ∧ 0 ≤ R.locals)
    (X : gX (dC, dI) (tK kc) (wK ad kc sa va) Z A s σ H locs) (hl : lv_has ls 4 [(0, .ref (ad 1)), (1, .int a1), (2, .int a2)]) (hg : f_X0_make a1 a2 σ = some (r, τ)) : W p l e R s m args below meth c H locs 0 0 (MQ below (gQi (dC, dI) (tK kc) (wK ad kc sa va) A r τ) args s 0 0 A) (F0 m 0 ls []) := by
  have hx := S.1
  have hb := S.2.1
  have hown := S.2.2.2.1
  have hu := S.2.2.2.2
  unfold f_X0_make at hg
  refine lv_aload_n hx hb dX0_make_0 rfl (lv_at hl 0 rfl) ?_
  refine wkgR_1_1 S X mG_654 dX0_make_1 ?_
  refine lv_iconst (v := 3) hx hb dX0_make_4 (by decide) ?_
  refine wklA_40 (v := (xA σ 40 3)) S X (vp_in_iff.mpr (by decide)) rfl dX0_make_5 ?_
  refine lv_istore_n (lv' := [(3, .int (xA σ 40 3)), (0, .ref (ad 1)), (1, .int a1), (2, .int a2)]) hx hb dX0_make_6 rfl hl (by decide) rfl (fun ls hl => ?_)
  refine lv_iload_n hx hb dX0_make_7 rfl (lv_at hl 2 rfl) ?_
  refine lv_sipush (v := 4000) hx hb dX0_make_8 (by decide) ?_
  refine lv_iload_n hx hb dX0_make_11 rfl (lv_at hl 0 rfl) ?_
  refine lv_isub hx hb dX0_make_12 ?_
  refine lv_icmp_le (tgt := 18) hx hb dX0_make_13 (by decide) (fun c13 => ?_) (fun c13 => ?_)
  · have hg := (if_pos c13).symm.trans hg
    refine lv_aload_n hx hb dX0_make_18 rfl (lv_at hl 1 rfl) ?_
    refine wkgR_1_1 S X mG_654 dX0_make_19 ?_
    refine lv_iconst (v := 3) hx hb dX0_make_22 (by decide) ?_
    refine lv_dup2_11 hx hb dX0_make_23 rfl rfl ?_
    refine wklA_40 (v := (xA σ 40 3)) S X (vp_in_iff.mpr (by decide)) rfl dX0_make_24 ?_
    refine lv_iload_n hx hb dX0_make_25 rfl (lv_at hl 2 rfl) ?_
    refine lv_iadd hx hb dX0_make_26 ?_
    refine wksA_40 S X (vp_in_iff.mpr (by decide)) dX0_make_27 (fun H locs X => ?_)
    refine lv_aload_n hx hb dX0_make_28 rfl (lv_at hl 1 rfl) ?_
    refine wkgR_1_1 S X mG_654 dX0_make_29 ?_
    refine lv_iload_n hx hb dX0_make_32 rfl (lv_at hl 3 rfl) ?_
    refine lv_dup2_11 hx hb dX0_make_33 rfl rfl ?_
    obtain ⟨hi34, hg⟩ := gd_some hg
    refine wklA_40 (v := (xA (pA σ 40 3 ((xA σ 40 3) + a1)) 40 a2)) S X hi34 rfl dX0_make_34 ?_
    refine lv_iconst (v := 1) hx hb dX0_make_35 (by decide) ?_
    refine lv_iadd hx hb dX0_make_36 ?_
    obtain ⟨hi37, hg⟩ := gd_some hg
    refine wksA_40 S X hi37 dX0_make_37 (fun H locs X => ?_)
    refine lv_iload_n hx hb dX0_make_38 rfl (lv_at hl 0 rfl) ?_
    obtain ⟨rfl, rfl⟩ := fin_some hg
    exact gr_i S hr hk X dX0_make_39
  · have hg := (if_neg c13).symm.trans hg
    refine lv_iconst (v := (-1)) hx hb dX0_make_16 (by decide) ?_
    obtain ⟨rfl, rfl⟩ := fin_some hg
    exact gr_i S hr hk X dX0_make_17
end MX0_make
set_option maxRecDepth 100000 in
theorem k2_X0_make (l : Launch) (dC : Nat → ClassId) (dI : Nat → Nat → Nat) {Z : ZZ} (ad : Nat → Nat) (kc : Nat → ClassId) (sa va : Nat) {σ τ : S5} {a1 : Int32} {a2 : Int32} {r : Int32} (hg : f_X0_make a1 a2 σ = some (r, τ)) (sz : Nat) : Met l yX0_make (Cond.code yX0_make cX0_make 4 (some .int) :: uG) { frames := 0, cells := 0, slots := 0, locals := 0 } (gPc (dC, dI) (tK kc) (wK ad kc sa va) Z [.ref (ad 1), .int a1, .int a2] σ sz) (gQi (dC, dI) (tK kc) (wK ad kc sa va) (va_A (wK ad kc sa va σ) sz) r τ) 0 0 (va_A (wK ad kc sa va σ) sz) :=
  g_start (by decide) (Nat.le_of_ble_eq_true rfl) (fun p e s m below meth c ls S hr hk X hl => w_X0_make S hr hk ⟨Nat.le_refl _, Nat.le_refl _⟩ X hl hg)
section MX0_makeObject
variable {p : Program} {l : Launch} {e : Env} {R : Room} {s : State} {m : MethodId} {args : Array Value} {below : List Frame} {meth : Method} {c : Code} {dC : Nat → ClassId} {dI : Nat → Nat → Nat} {Z : ZZ} {A : Nat → Prop} {ad : Nat → Nat} {kc : Nat → ClassId} {sa va : Nat} {r : Int32} {τ : S5}
set_option maxHeartbeats 4000000 in
set_option maxRecDepth 100000 in
theorem w_X0_makeObject {σ : S5} {a1 : Int32} {a2 : Int32} {H : Heap} {locs : List Loc} {ls : Array Slot} (S : CallFix p m c cX0_makeObject 4 s args uG RX0) (hr : meth.sig.returnType = (some .int)) (hk : meth.locks = false) (hR : 1 ≤ R.frames ∧ 23 ≤ R.locals)
    (X : gX (dC, dI) (tK kc) (wK ad kc sa va) Z A s σ H locs) (hl : lv_has ls 4 [(0, .ref (ad 1)), (1, .int a1), (2, .int a2)]) (hg : f_X0_makeObject a1 a2 σ = some (r, τ)) : W p l e R s m args below meth c H locs 0 0 (MQ below (gQi (dC, dI) (tK kc) (wK ad kc sa va) A r τ) args s 0 0 A) (F0 m 0 ls []) := by
  have hx := S.1
  have hb := S.2.1
  have hown := S.2.2.2.1
  have hu := S.2.2.2.2
  unfold f_X0_makeObject at hg
  refine lv_aload_n hx hb dX0_makeObject_0 rfl (lv_at hl 0 rfl) ?_
  refine lv_iconst (v := 1) hx hb dX0_makeObject_1 (by decide) ?_
  refine lv_iload_n hx hb dX0_makeObject_2 rfl (lv_at hl 2 rfl) ?_
  refine lv_iadd hx hb dX0_makeObject_3 ?_
  refine lv_bipush (v := 6) hx hb dX0_makeObject_4 (by decide) ?_
  obtain ⟨r6, τ6, hq6, hg⟩ := bd_some hg
  refine gc_Vi (As := [.int (1 + a2), .int 6]) (rest := []) (q0 := 1) (ci := 3) S X (k2_X0_make l dC dI ad kc sa va hq6 H.size) cw_X0_make mG_1806 rfl rfl rfl rfl rfl hl.1 (Nat.le_of_ble_eq_true rfl) dX0_makeObject_6 ⟨by omega, by omega⟩ (fun H locs X => ?_)
  refine lv_istore_n (lv' := [(3, .int r6), (0, .ref (ad 1)), (1, .int a1), (2, .int a2)]) hx hb dX0_makeObject_9 rfl hl (by decide) rfl (fun ls hl => ?_)
  refine lv_iload_n hx hb dX0_makeObject_10 rfl (lv_at hl 0 rfl) ?_
  refine lv_iconst (v := (-1)) hx hb dX0_makeObject_11 (by decide) ?_
  refine lv_icmp_eq (tgt := 23) hx hb dX0_makeObject_12 (by decide) (fun c12 => ?_) (fun c12 => ?_)
  · have hg := (if_pos c12).symm.trans hg
    refine lv_iload_n hx hb dX0_makeObject_23 rfl (lv_at hl 0 rfl) ?_
    obtain ⟨rfl, rfl⟩ := fin_some hg
    exact gr_i S hr hk X dX0_makeObject_24
  · have hg := (if_neg c12).symm.trans hg
    refine lv_aload_n hx hb dX0_makeObject_15 rfl (lv_at hl 1 rfl) ?_
    refine wkgR_1_0 S X mG_652 dX0_makeObject_16 ?_
    refine lv_iload_n hx hb dX0_makeObject_19 rfl (lv_at hl 0 rfl) ?_
    refine lv_iload_n hx hb dX0_makeObject_20 rfl (lv_at hl 2 rfl) ?_
    refine lv_i2l (v := ((a1).toInt64)) hx hb dX0_makeObject_21 rfl ?_
    obtain ⟨hi22, hg⟩ := gd_some hg
    refine wksB_14 S X hi22 dX0_makeObject_22 (fun H locs X => ?_)
    refine lv_iload_n hx hb dX0_makeObject_23 rfl (lv_at hl 0 rfl) ?_
    obtain ⟨rfl, rfl⟩ := fin_some hg
    exact gr_i S hr hk X dX0_makeObject_24
end MX0_makeObject
set_option maxRecDepth 100000 in
theorem k2_X0_makeObject (l : Launch) (dC : Nat → ClassId) (dI : Nat → Nat → Nat) {Z : ZZ} (ad : Nat → Nat) (kc : Nat → ClassId) (sa va : Nat) {σ τ : S5} {a1 : Int32} {a2 : Int32} {r : Int32} (hg : f_X0_makeObject a1 a2 σ = some (r, τ)) (sz : Nat) : Met l yX0_makeObject (Cond.code yX0_makeObject cX0_makeObject 4 (some .int) :: uG) { frames := 1, cells := 0, slots := 0, locals := 23 } (gPc (dC, dI) (tK kc) (wK ad kc sa va) Z [.ref (ad 1), .int a1, .int a2] σ sz) (gQi (dC, dI) (tK kc) (wK ad kc sa va) (va_A (wK ad kc sa va σ) sz) r τ) 0 0 (va_A (wK ad kc sa va σ) sz) :=
  g_start (by decide) (Nat.le_of_ble_eq_true rfl) (fun p e s m below meth c ls S hr hk X hl => w_X0_makeObject S hr hk ⟨Nat.le_refl _, Nat.le_refl _⟩ X hl hg)
section MX0_makePart
variable {p : Program} {l : Launch} {e : Env} {R : Room} {s : State} {m : MethodId} {args : Array Value} {below : List Frame} {meth : Method} {c : Code} {dC : Nat → ClassId} {dI : Nat → Nat → Nat} {Z : ZZ} {A : Nat → Prop} {ad : Nat → Nat} {kc : Nat → ClassId} {sa va : Nat} {r : Int32} {τ : S5}
set_option maxHeartbeats 4000000 in
set_option maxRecDepth 100000 in
theorem w_X0_makePart {σ : S5} {a1 : Int32} {a2 : Int32} {H : Heap} {locs : List Loc} {ls : Array Slot} (S : CallFix p m c cX0_makePart 4 s args uG RX0) (hr : meth.sig.returnType = (some .int)) (hk : meth.locks = false) (hR : 1 ≤ R.frames ∧ 23 ≤ R.locals)
    (X : gX (dC, dI) (tK kc) (wK ad kc sa va) Z A s σ H locs) (hl : lv_has ls 4 [(0, .ref (ad 1)), (1, .int a1), (2, .int a2)]) (hg : f_X0_makePart a1 a2 σ = some (r, τ)) : W p l e R s m args below meth c H locs 0 0 (MQ below (gQi (dC, dI) (tK kc) (wK ad kc sa va) A r τ) args s 0 0 A) (F0 m 0 ls []) := by
  have hx := S.1
  have hb := S.2.1
  have hown := S.2.2.2.1
  have hu := S.2.2.2.2
  unfold f_X0_makePart at hg
  refine lv_aload_n hx hb dX0_makePart_0 rfl (lv_at hl 0 rfl) ?_
  refine lv_iconst (v := 2) hx hb dX0_makePart_1 (by decide) ?_
  refine lv_iload_n hx hb dX0_makePart_2 rfl (lv_at hl 2 rfl) ?_
  refine lv_iadd hx hb dX0_makePart_3 ?_
  refine lv_iconst (v := 5) hx hb dX0_makePart_4 (by decide) ?_
  obtain ⟨r5, τ5, hq5, hg⟩ := bd_some hg
  refine gc_Vi (As := [.int (2 + a2), .int 5]) (rest := []) (q0 := 1) (ci := 3) S X (k2_X0_make l dC dI ad kc sa va hq5 H.size) cw_X0_make mG_1806 rfl rfl rfl rfl rfl hl.1 (Nat.le_of_ble_eq_true rfl) dX0_makePart_5 ⟨by omega, by omega⟩ (fun H locs X => ?_)
  refine lv_istore_n (lv' := [(3, .int r5), (0, .ref (ad 1)), (1, .int a1), (2, .int a2)]) hx hb dX0_makePart_8 rfl hl (by decide) rfl (fun ls hl => ?_)
  refine lv_iload_n hx hb dX0_makePart_9 rfl (lv_at hl 0 rfl) ?_
  refine lv_iconst (v := (-1)) hx hb dX0_makePart_10 (by decide) ?_
  refine lv_icmp_eq (tgt := 32) hx hb dX0_makePart_11 (by decide) (fun c11 => ?_) (fun c11 => ?_)
  · have hg := (if_pos c11).symm.trans hg
    refine lv_iload_n hx hb dX0_makePart_32 rfl (lv_at hl 0 rfl) ?_
    obtain ⟨rfl, rfl⟩ := fin_some hg
    exact gr_i S hr hk X dX0_makePart_33
  · have hg := (if_neg c11).symm.trans hg
    refine lv_aload_n hx hb dX0_makePart_14 rfl (lv_at hl 1 rfl) ?_
    refine wkgR_1_0 S X mG_652 dX0_makePart_15 ?_
    refine lv_iload_n hx hb dX0_makePart_18 rfl (lv_at hl 0 rfl) ?_
    refine lv_iload_n hx hb dX0_makePart_19 rfl (lv_at hl 2 rfl) ?_
    refine lv_i2l (v := ((a1).toInt64)) hx hb dX0_makePart_20 rfl ?_
    obtain ⟨hi21, hg⟩ := gd_some hg
    refine wksB_14 S X hi21 dX0_makePart_21 (fun H locs X => ?_)
    refine lv_aload_n hx hb dX0_makePart_22 rfl (lv_at hl 1 rfl) ?_
    refine wkgR_1_0 S X mG_652 dX0_makePart_23 ?_
    refine lv_iload_n hx hb dX0_makePart_26 rfl (lv_at hl 0 rfl) ?_
    refine lv_iconst (v := 1) hx hb dX0_makePart_27 (by decide) ?_
    refine lv_iadd hx hb dX0_makePart_28 ?_
    refine lv_iload_n hx hb dX0_makePart_29 rfl (lv_at hl 3 rfl) ?_
    refine lv_i2l (v := ((a2).toInt64)) hx hb dX0_makePart_30 rfl ?_
    obtain ⟨hi31, hg⟩ := gd_some hg
    refine wksB_14 S X hi31 dX0_makePart_31 (fun H locs X => ?_)
    refine lv_iload_n hx hb dX0_makePart_32 rfl (lv_at hl 0 rfl) ?_
    obtain ⟨rfl, rfl⟩ := fin_some hg
    exact gr_i S hr hk X dX0_makePart_33
end MX0_makePart
set_option maxRecDepth 100000 in
theorem k2_X0_makePart (l : Launch) (dC : Nat → ClassId) (dI : Nat → Nat → Nat) {Z : ZZ} (ad : Nat → Nat) (kc : Nat → ClassId) (sa va : Nat) {σ τ : S5} {a1 : Int32} {a2 : Int32} {r : Int32} (hg : f_X0_makePart a1 a2 σ = some (r, τ)) (sz : Nat) : Met l yX0_makePart (Cond.code yX0_makePart cX0_makePart 4 (some .int) :: uG) { frames := 1, cells := 0, slots := 0, locals := 23 } (gPc (dC, dI) (tK kc) (wK ad kc sa va) Z [.ref (ad 1), .int a1, .int a2] σ sz) (gQi (dC, dI) (tK kc) (wK ad kc sa va) (va_A (wK ad kc sa va σ) sz) r τ) 0 0 (va_A (wK ad kc sa va σ) sz) :=
  g_start (by decide) (Nat.le_of_ble_eq_true rfl) (fun p e s m below meth c ls S hr hk X hl => w_X0_makePart S hr hk ⟨Nat.le_refl _, Nat.le_refl _⟩ X hl hg)
section MX0_makeSuspension
variable {p : Program} {l : Launch} {e : Env} {R : Room} {s : State} {m : MethodId} {args : Array Value} {below : List Frame} {meth : Method} {c : Code} {dC : Nat → ClassId} {dI : Nat → Nat → Nat} {Z : ZZ} {A : Nat → Prop} {ad : Nat → Nat} {kc : Nat → ClassId} {sa va : Nat} {r : Int32} {τ : S5}
set_option maxHeartbeats 4000000 in
set_option maxRecDepth 100000 in
theorem w_X0_makeSuspension {σ : S5} {a1 : Int32} {a2 : Int32} {a3 : Int32} {H : Heap} {locs : List Loc} {ls : Array Slot} (S : CallFix p m c cX0_makeSuspension 5 s args uG RX0) (hr : meth.sig.returnType = (some .int)) (hk : meth.locks = false) (hR : 1 ≤ R.frames ∧ 23 ≤ R.locals)
    (X : gX (dC, dI) (tK kc) (wK ad kc sa va) Z A s σ H locs) (hl : lv_has ls 5 [(0, .ref (ad 1)), (1, .int a1), (2, .int a2), (3, .int a3)]) (hg : f_X0_makeSuspension a1 a2 a3 σ = some (r, τ)) : W p l e R s m args below meth c H locs 0 0 (MQ below (gQi (dC, dI) (tK kc) (wK ad kc sa va) A r τ) args s 0 0 A) (F0 m 0 ls []) := by
  have hx := S.1
  have hb := S.2.1
  have hown := S.2.2.2.1
  have hu := S.2.2.2.2
  unfold f_X0_makeSuspension at hg
  refine lv_aload_n hx hb dX0_makeSuspension_0 rfl (lv_at hl 0 rfl) ?_
  refine lv_iconst (v := 1) hx hb dX0_makeSuspension_1 (by decide) ?_
  refine lv_iload_n hx hb dX0_makeSuspension_2 rfl (lv_at hl 3 rfl) ?_
  refine lv_iadd hx hb dX0_makeSuspension_3 ?_
  refine lv_iconst (v := 4) hx hb dX0_makeSuspension_4 (by decide) ?_
  obtain ⟨r5, τ5, hq5, hg⟩ := bd_some hg
  refine gc_Vi (As := [.int (1 + a3), .int 4]) (rest := []) (q0 := 1) (ci := 3) S X (k2_X0_make l dC dI ad kc sa va hq5 H.size) cw_X0_make mG_1806 rfl rfl rfl rfl rfl hl.1 (Nat.le_of_ble_eq_true rfl) dX0_makeSuspension_5 ⟨by omega, by omega⟩ (fun H locs X => ?_)
  refine lv_istore (lv' := [(4, .int r5), (0, .ref (ad 1)), (1, .int a1), (2, .int a2), (3, .int a3)]) hx hb dX0_makeSuspension_8 hl (by decide) rfl (fun ls hl => ?_)
  refine lv_iload hx hb dX0_makeSuspension_10 (lv_at hl 0 rfl) ?_
  refine lv_iconst (v := (-1)) hx hb dX0_makeSuspension_12 (by decide) ?_
  refine lv_icmp_eq (tgt := 35) hx hb dX0_makeSuspension_13 (by decide) (fun c13 => ?_) (fun c13 => ?_)
  · have hg := (if_pos c13).symm.trans hg
    refine lv_iload hx hb dX0_makeSuspension_35 (lv_at hl 0 rfl) ?_
    obtain ⟨rfl, rfl⟩ := fin_some hg
    exact gr_i S hr hk X dX0_makeSuspension_37
  · have hg := (if_neg c13).symm.trans hg
    refine lv_aload_n hx hb dX0_makeSuspension_16 rfl (lv_at hl 1 rfl) ?_
    refine wkgR_1_0 S X mG_652 dX0_makeSuspension_17 ?_
    refine lv_iload hx hb dX0_makeSuspension_20 (lv_at hl 0 rfl) ?_
    refine lv_ldc2 (own := RX0) (v := 2305843009213693952) hx hb hown (hu _ mG_1810) dX0_makeSuspension_22 ?_
    refine lv_iload_n hx hb dX0_makeSuspension_25 rfl (lv_at hl 2 rfl) ?_
    refine lv_i2l (v := ((a1).toInt64)) hx hb dX0_makeSuspension_26 rfl ?_
    refine lv_bipush (v := 24) hx hb dX0_makeSuspension_27 (by decide) ?_
    refine lv_lshl (v := (j_lshl ((a1).toInt64) 24)) hx hb dX0_makeSuspension_29 rfl ?_
    refine lv_lor hx hb dX0_makeSuspension_30 ?_
    refine lv_iload_n hx hb dX0_makeSuspension_31 rfl (lv_at hl 3 rfl) ?_
    refine lv_i2l (v := ((a2).toInt64)) hx hb dX0_makeSuspension_32 rfl ?_
    refine lv_lor hx hb dX0_makeSuspension_33 ?_
    obtain ⟨hi34, hg⟩ := gd_some hg
    refine wksB_14 S X hi34 dX0_makeSuspension_34 (fun H locs X => ?_)
    refine lv_iload hx hb dX0_makeSuspension_35 (lv_at hl 0 rfl) ?_
    obtain ⟨rfl, rfl⟩ := fin_some hg
    exact gr_i S hr hk X dX0_makeSuspension_37
end MX0_makeSuspension
set_option maxRecDepth 100000 in
theorem k2_X0_makeSuspension (l : Launch) (dC : Nat → ClassId) (dI : Nat → Nat → Nat) {Z : ZZ} (ad : Nat → Nat) (kc : Nat → ClassId) (sa va : Nat) {σ τ : S5} {a1 : Int32} {a2 : Int32} {a3 : Int32} {r : Int32} (hg : f_X0_makeSuspension a1 a2 a3 σ = some (r, τ)) (sz : Nat) : Met l yX0_makeSuspension (Cond.code yX0_makeSuspension cX0_makeSuspension 5 (some .int) :: uG) { frames := 1, cells := 0, slots := 0, locals := 23 } (gPc (dC, dI) (tK kc) (wK ad kc sa va) Z [.ref (ad 1), .int a1, .int a2, .int a3] σ sz) (gQi (dC, dI) (tK kc) (wK ad kc sa va) (va_A (wK ad kc sa va σ) sz) r τ) 0 0 (va_A (wK ad kc sa va σ) sz) :=
  g_start (by decide) (Nat.le_of_ble_eq_true rfl) (fun p e s m below meth c ls S hr hk X hl => w_X0_makeSuspension S hr hk ⟨Nat.le_refl _, Nat.le_refl _⟩ X hl hg)
section MX0_isBlack
variable {p : Program} {l : Launch} {e : Env} {R : Room} {s : State} {m : MethodId} {args : Array Value} {below : List Frame} {meth : Method} {c : Code} {dC : Nat → ClassId} {dI : Nat → Nat → Nat} {Z : ZZ} {A : Nat → Prop} {ad : Nat → Nat} {kc : Nat → ClassId} {sa va : Nat} {r : Int32} {τ : S5}
set_option maxHeartbeats 4000000 in
set_option maxRecDepth 100000 in
theorem w_X0_isBlack {σ : S5} {a1 : Int32} {H : Heap} {locs : List Loc} {ls : Array Slot} (S : CallFix p m c cX0_isBlack 2 s args uG RX0) (hr : meth.sig.returnType = (some .boolean)) (hk : meth.locks = false) (hR : 0 ≤ R.frames ∧ 0 ≤ R.locals)
    (X : gX (dC, dI) (tK kc) (wK ad kc sa va) Z A s σ H locs) (hl : lv_has ls 2 [(0, .ref (ad 1)), (1, .int a1)]) (hg : f_X0_isBlack a1 σ = some (r, τ)) : W p l e R s m args below meth c H locs 0 0 (MQ below (gQi (dC, dI) (tK kc) (wK ad kc sa va) A r τ) args s 0 0 A) (F0 m 0 ls []) := by
  have hx := S.1
  have hb := S.2.1
  have hown := S.2.2.2.1
  have hu := S.2.2.2.2
  unfold f_X0_isBlack at hg
  refine lv_aload_n hx hb dX0_isBlack_0 rfl (lv_at hl 0 rfl) ?_
  refine wkgR_1_0 S X mG_652 dX0_isBlack_1 ?_
  refine lv_iload_n hx hb dX0_isBlack_4 rfl (lv_at hl 1 rfl) ?_
  obtain ⟨hi5, hg⟩ := gd_some hg
  refine wklB_14 (v := (xB σ 14 a1)) S X hi5 rfl dX0_isBlack_5 ?_
  refine lv_ldc2 (own := RX0) (v := 4611686018427387904) hx hb hown (hu _ mG_1845) dX0_isBlack_6 ?_
  refine W.lcmp hx hb dX0_isBlack_9 ?_
  refine lv_if_ne (tgt := 17) hx hb dX0_isBlack_10 (by decide) (fun c10 => ?_) (fun c10 => ?_)
  · have hg := (if_neg c10).symm.trans hg
    refine lv_iconst (v := 0) hx hb dX0_isBlack_17 (by decide) ?_
    obtain ⟨rfl, rfl⟩ := fin_some hg
    exact gr_z S hr hk X (Or.inl rfl) dX0_isBlack_18
  · have hg := (if_pos c10).symm.trans hg
    refine lv_iconst (v := 1) hx hb dX0_isBlack_13 (by decide) ?_
    refine lv_goto (tgt := 18) hx hb dX0_isBlack_14 (by decide) ?_
    obtain ⟨rfl, rfl⟩ := fin_some hg
    exact gr_z S hr hk X (Or.inr rfl) dX0_isBlack_18
end MX0_isBlack
set_option maxRecDepth 100000 in
theorem k2_X0_isBlack (l : Launch) (dC : Nat → ClassId) (dI : Nat → Nat → Nat) {Z : ZZ} (ad : Nat → Nat) (kc : Nat → ClassId) (sa va : Nat) {σ τ : S5} {a1 : Int32} {r : Int32} (hg : f_X0_isBlack a1 σ = some (r, τ)) (sz : Nat) : Met l yX0_isBlack (Cond.code yX0_isBlack cX0_isBlack 2 (some .boolean) :: uG) { frames := 0, cells := 0, slots := 0, locals := 0 } (gPc (dC, dI) (tK kc) (wK ad kc sa va) Z [.ref (ad 1), .int a1] σ sz) (gQi (dC, dI) (tK kc) (wK ad kc sa va) (va_A (wK ad kc sa va σ) sz) r τ) 0 0 (va_A (wK ad kc sa va σ) sz) :=
  g_start (by decide) (Nat.le_of_ble_eq_true rfl) (fun p e s m below meth c ls S hr hk X hl => w_X0_isBlack S hr hk ⟨Nat.le_refl _, Nat.le_refl _⟩ X hl hg)
section MX0_isFresh
variable {p : Program} {l : Launch} {e : Env} {R : Room} {s : State} {m : MethodId} {args : Array Value} {below : List Frame} {meth : Method} {c : Code} {dC : Nat → ClassId} {dI : Nat → Nat → Nat} {Z : ZZ} {A : Nat → Prop} {ad : Nat → Nat} {kc : Nat → ClassId} {sa va : Nat} {r : Int32} {τ : S5}
set_option maxHeartbeats 4000000 in
set_option maxRecDepth 100000 in
theorem w_X0_isFresh {σ : S5} {a1 : Int32} {H : Heap} {locs : List Loc} {ls : Array Slot} (S : CallFix p m c cX0_isFresh 2 s args uG RX0) (hr : meth.sig.returnType = (some .boolean)) (hk : meth.locks = false) (hR : 0 ≤ R.frames ∧ 0 ≤ R.locals)
    (X : gX (dC, dI) (tK kc) (wK ad kc sa va) Z A s σ H locs) (hl : lv_has ls 2 [(0, .ref (ad 1)), (1, .int a1)]) (hg : f_X0_isFresh a1 σ = some (r, τ)) : W p l e R s m args below meth c H locs 0 0 (MQ below (gQi (dC, dI) (tK kc) (wK ad kc sa va) A r τ) args s 0 0 A) (F0 m 0 ls []) := by
  have hx := S.1
  have hb := S.2.1
  have hown := S.2.2.2.1
  have hu := S.2.2.2.2
  unfold f_X0_isFresh at hg
  refine lv_aload_n hx hb dX0_isFresh_0 rfl (lv_at hl 0 rfl) ?_
  refine wkgR_1_0 S X mG_652 dX0_isFresh_1 ?_
  refine lv_iload_n hx hb dX0_isFresh_4 rfl (lv_at hl 1 rfl) ?_
  obtain ⟨hi5, hg⟩ := gd_some hg
  refine wklB_14 (v := (xB σ 14 a1)) S X hi5 rfl dX0_isFresh_5 ?_
  refine lv_ldc2 (own := RX0) (v := 2305843009213693952) hx hb hown (hu _ mG_1810) dX0_isFresh_6 ?_
  refine lv_land hx hb dX0_isFresh_9 ?_
  refine lv_lconst (v := 0) hx hb dX0_isFresh_10 rfl ?_
  refine W.lcmp hx hb dX0_isFresh_11 ?_
  refine lv_if_eq (tgt := 19) hx hb dX0_isFresh_12 (by decide) (fun c12 => ?_) (fun c12 => ?_)
  · have hg := (if_pos c12).symm.trans hg
    refine lv_iconst (v := 0) hx hb dX0_isFresh_19 (by decide) ?_
    obtain ⟨rfl, rfl⟩ := fin_some hg
    exact gr_z S hr hk X (Or.inl rfl) dX0_isFresh_20
  · have hg := (if_neg c12).symm.trans hg
    refine lv_iconst (v := 1) hx hb dX0_isFresh_15 (by decide) ?_
    refine lv_goto (tgt := 20) hx hb dX0_isFresh_16 (by decide) ?_
    obtain ⟨rfl, rfl⟩ := fin_some hg
    exact gr_z S hr hk X (Or.inr rfl) dX0_isFresh_20
end MX0_isFresh
set_option maxRecDepth 100000 in
theorem k2_X0_isFresh (l : Launch) (dC : Nat → ClassId) (dI : Nat → Nat → Nat) {Z : ZZ} (ad : Nat → Nat) (kc : Nat → ClassId) (sa va : Nat) {σ τ : S5} {a1 : Int32} {r : Int32} (hg : f_X0_isFresh a1 σ = some (r, τ)) (sz : Nat) : Met l yX0_isFresh (Cond.code yX0_isFresh cX0_isFresh 2 (some .boolean) :: uG) { frames := 0, cells := 0, slots := 0, locals := 0 } (gPc (dC, dI) (tK kc) (wK ad kc sa va) Z [.ref (ad 1), .int a1] σ sz) (gQi (dC, dI) (tK kc) (wK ad kc sa va) (va_A (wK ad kc sa va σ) sz) r τ) 0 0 (va_A (wK ad kc sa va σ) sz) :=
  g_start (by decide) (Nat.le_of_ble_eq_true rfl) (fun p e s m below meth c ls S hr hk X hl => w_X0_isFresh S hr hk ⟨Nat.le_refl _, Nat.le_refl _⟩ X hl hg)
section MX0_blacken
variable {p : Program} {l : Launch} {e : Env} {R : Room} {s : State} {m : MethodId} {args : Array Value} {below : List Frame} {meth : Method} {c : Code} {dC : Nat → ClassId} {dI : Nat → Nat → Nat} {Z : ZZ} {A : Nat → Prop} {ad : Nat → Nat} {kc : Nat → ClassId} {sa va : Nat} {r : Unit} {τ : S5}
set_option maxHeartbeats 4000000 in
set_option maxRecDepth 100000 in
theorem w_X0_blacken {σ : S5} {a1 : Int32} {H : Heap} {locs : List Loc} {ls : Array Slot} (S : CallFix p m c cX0_blacken 2 s args uG RX0) (hr : meth.sig.returnType = none) (hk : meth.locks = false) (hR : 0 ≤ R.frames ∧ 0 ≤ R.locals)
    (X : gX (dC, dI) (tK kc) (wK ad kc sa va) Z A s σ H locs) (hl : lv_has ls 2 [(0, .ref (ad 1)), (1, .int a1)]) (hg : f_X0_blacken a1 σ = some (r, τ)) : W p l e R s m args below meth c H locs 0 0 (MQ below (gQv (dC, dI) (tK kc) (wK ad kc sa va) A r τ) args s 0 0 A) (F0 m 0 ls []) := by
  have hx := S.1
  have hb := S.2.1
  have hown := S.2.2.2.1
  have hu := S.2.2.2.2
  unfold f_X0_blacken at hg
  refine lv_aload_n hx hb dX0_blacken_0 rfl (lv_at hl 0 rfl) ?_
  refine wkgR_1_0 S X mG_652 dX0_blacken_1 ?_
  refine lv_iload_n hx hb dX0_blacken_4 rfl (lv_at hl 1 rfl) ?_
  refine lv_ldc2 (own := RX0) (v := 4611686018427387904) hx hb hown (hu _ mG_1845) dX0_blacken_5 ?_
  obtain ⟨hi8, hg⟩ := gd_some hg
  refine wksB_14 S X hi8 dX0_blacken_8 (fun H locs X => ?_)
  obtain ⟨-, rfl⟩ := fin_some hg
  exact gr_v S hr hk X dX0_blacken_9
end MX0_blacken
set_option maxRecDepth 100000 in
theorem k2_X0_blacken (l : Launch) (dC : Nat → ClassId) (dI : Nat → Nat → Nat) {Z : ZZ} (ad : Nat → Nat) (kc : Nat → ClassId) (sa va : Nat) {σ τ : S5} {a1 : Int32} {r : Unit} (hg : f_X0_blacken a1 σ = some (r, τ)) (sz : Nat) : Met l yX0_blacken (Cond.code yX0_blacken cX0_blacken 2 none :: uG) { frames := 0, cells := 0, slots := 0, locals := 0 } (gPc (dC, dI) (tK kc) (wK ad kc sa va) Z [.ref (ad 1), .int a1] σ sz) (gQv (dC, dI) (tK kc) (wK ad kc sa va) (va_A (wK ad kc sa va σ) sz) r τ) 0 0 (va_A (wK ad kc sa va σ) sz) :=
  g_start (by decide) (Nat.le_of_ble_eq_true rfl) (fun p e s m below meth c ls S hr hk X hl => w_X0_blacken S hr hk ⟨Nat.le_refl _, Nat.le_refl _⟩ X hl hg)
section MX0_update
variable {p : Program} {l : Launch} {e : Env} {R : Room} {s : State} {m : MethodId} {args : Array Value} {below : List Frame} {meth : Method} {c : Code} {dC : Nat → ClassId} {dI : Nat → Nat → Nat} {Z : ZZ} {A : Nat → Prop} {ad : Nat → Nat} {kc : Nat → ClassId} {sa va : Nat} {r : Unit} {τ : S5}
set_option maxHeartbeats 4000000 in
set_option maxRecDepth 100000 in
theorem w_X0_update {σ : S5} {a1 : Int32} {a2 : Int64} {H : Heap} {locs : List Loc} {ls : Array Slot} (S : CallFix p m c cX0_update 4 s args uG RX0) (hr : meth.sig.returnType = none) (hk : meth.locks = false) (hR : 0 ≤ R.frames ∧ 0 ≤ R.locals)
    (X : gX (dC, dI) (tK kc) (wK ad kc sa va) Z A s σ H locs) (hl : lv_has ls 4 [(0, .ref (ad 1)), (1, .int a1), (2, .long a2)]) (hg : f_X0_update a1 a2 σ = some (r, τ)) : W p l e R s m args below meth c H locs 0 0 (MQ below (gQv (dC, dI) (tK kc) (wK ad kc sa va) A r τ) args s 0 0 A) (F0 m 0 ls []) := by
  have hx := S.1
  have hb := S.2.1
  have hown := S.2.2.2.1
  have hu := S.2.2.2.2
  unfold f_X0_update at hg
  refine lv_aload_n hx hb dX0_update_0 rfl (lv_at hl 0 rfl) ?_
  refine wkgR_1_0 S X mG_652 dX0_update_1 ?_
  refine lv_iload_n hx hb dX0_update_4 rfl (lv_at hl 1 rfl) ?_
  refine lv_lload_n hx hb dX0_update_5 rfl (lv_at hl 2 rfl) ?_
  obtain ⟨hi6, hg⟩ := gd_some hg
  refine wksB_14 S X hi6 dX0_update_6 (fun H locs X => ?_)
  refine lv_aload_n hx hb dX0_update_7 rfl (lv_at hl 0 rfl) ?_
  refine wkgR_1_1 S X mG_654 dX0_update_8 ?_
  refine lv_bipush (v := 7) hx hb dX0_update_11 (by decide) ?_
  refine lv_dup2_11 hx hb dX0_update_13 rfl rfl ?_
  refine wklA_40 (v := (xA σ 40 7)) S X (vp_in_iff.mpr (by decide)) rfl dX0_update_14 ?_
  refine lv_iconst (v := 1) hx hb dX0_update_15 (by decide) ?_
  refine lv_iadd hx hb dX0_update_16 ?_
  refine wksA_40 S X (vp_in_iff.mpr (by decide)) dX0_update_17 (fun H locs X => ?_)
  obtain ⟨-, rfl⟩ := fin_some hg
  exact gr_v S hr hk X dX0_update_18
end MX0_update
set_option maxRecDepth 100000 in
theorem k2_X0_update (l : Launch) (dC : Nat → ClassId) (dI : Nat → Nat → Nat) {Z : ZZ} (ad : Nat → Nat) (kc : Nat → ClassId) (sa va : Nat) {σ τ : S5} {a1 : Int32} {a2 : Int64} {r : Unit} (hg : f_X0_update a1 a2 σ = some (r, τ)) (sz : Nat) : Met l yX0_update (Cond.code yX0_update cX0_update 4 none :: uG) { frames := 0, cells := 0, slots := 0, locals := 0 } (gPc (dC, dI) (tK kc) (wK ad kc sa va) Z [.ref (ad 1), .int a1, .long a2] σ sz) (gQv (dC, dI) (tK kc) (wK ad kc sa va) (va_A (wK ad kc sa va σ) sz) r τ) 0 0 (va_A (wK ad kc sa va σ) sz) :=
  g_start (by decide) (Nat.le_of_ble_eq_true rfl) (fun p e s m below meth c ls S hr hk X hl => w_X0_update S hr hk ⟨Nat.le_refl _, Nat.le_refl _⟩ X hl hg)
section MX0_functionOf
variable {p : Program} {l : Launch} {e : Env} {R : Room} {s : State} {m : MethodId} {args : Array Value} {below : List Frame} {meth : Method} {c : Code} {dC : Nat → ClassId} {dI : Nat → Nat → Nat} {Z : ZZ} {A : Nat → Prop} {ad : Nat → Nat} {kc : Nat → ClassId} {sa va : Nat} {r : Int32} {τ : S5}
set_option maxHeartbeats 4000000 in
set_option maxRecDepth 100000 in
theorem w_X0_functionOf {σ : S5} {a1 : Int32} {H : Heap} {locs : List Loc} {ls : Array Slot} (S : CallFix p m c cX0_functionOf 2 s args uG RX0) (hr : meth.sig.returnType = (some .int)) (hk : meth.locks = false) (hR : 0 ≤ R.frames ∧ 0 ≤ R.locals)
    (X : gX (dC, dI) (tK kc) (wK ad kc sa va) Z A s σ H locs) (hl : lv_has ls 2 [(0, .ref (ad 1)), (1, .int a1)]) (hg : f_X0_functionOf a1 σ = some (r, τ)) : W p l e R s m args below meth c H locs 0 0 (MQ below (gQi (dC, dI) (tK kc) (wK ad kc sa va) A r τ) args s 0 0 A) (F0 m 0 ls []) := by
  have hx := S.1
  have hb := S.2.1
  have hown := S.2.2.2.1
  have hu := S.2.2.2.2
  unfold f_X0_functionOf at hg
  refine lv_aload_n hx hb dX0_functionOf_0 rfl (lv_at hl 0 rfl) ?_
  refine wkgR_1_0 S X mG_652 dX0_functionOf_1 ?_
  refine lv_iload_n hx hb dX0_functionOf_4 rfl (lv_at hl 1 rfl) ?_
  obtain ⟨hi5, hg⟩ := gd_some hg
  refine wklB_14 (v := (xB σ 14 a1)) S X hi5 rfl dX0_functionOf_5 ?_
  refine lv_bipush (v := 24) hx hb dX0_functionOf_6 (by decide) ?_
  refine lv_lushr (v := (j_lushr (xB σ 14 a1) 24)) hx hb dX0_functionOf_8 rfl ?_
  refine lv_l2i (v := (((j_lushr (xB σ 14 a1) 24) : Int64).toInt32)) hx hb dX0_functionOf_9 rfl ?_
  refine lv_ldc (own := RX0) (v := 16777215) hx hb hown (hu _ mG_1858) dX0_functionOf_10 ?_
  refine lv_iand hx hb dX0_functionOf_12 ?_
  obtain ⟨rfl, rfl⟩ := fin_some hg
  exact gr_i S hr hk X dX0_functionOf_13
end MX0_functionOf
set_option maxRecDepth 100000 in
theorem k2_X0_functionOf (l : Launch) (dC : Nat → ClassId) (dI : Nat → Nat → Nat) {Z : ZZ} (ad : Nat → Nat) (kc : Nat → ClassId) (sa va : Nat) {σ τ : S5} {a1 : Int32} {r : Int32} (hg : f_X0_functionOf a1 σ = some (r, τ)) (sz : Nat) : Met l yX0_functionOf (Cond.code yX0_functionOf cX0_functionOf 2 (some .int) :: uG) { frames := 0, cells := 0, slots := 0, locals := 0 } (gPc (dC, dI) (tK kc) (wK ad kc sa va) Z [.ref (ad 1), .int a1] σ sz) (gQi (dC, dI) (tK kc) (wK ad kc sa va) (va_A (wK ad kc sa va σ) sz) r τ) 0 0 (va_A (wK ad kc sa va σ) sz) :=
  g_start (by decide) (Nat.le_of_ble_eq_true rfl) (fun p e s m below meth c ls S hr hk X hl => w_X0_functionOf S hr hk ⟨Nat.le_refl _, Nat.le_refl _⟩ X hl hg)
section MX0_nodeOf
variable {p : Program} {l : Launch} {e : Env} {R : Room} {s : State} {m : MethodId} {args : Array Value} {below : List Frame} {meth : Method} {c : Code} {dC : Nat → ClassId} {dI : Nat → Nat → Nat} {Z : ZZ} {A : Nat → Prop} {ad : Nat → Nat} {kc : Nat → ClassId} {sa va : Nat} {r : Int32} {τ : S5}
set_option maxHeartbeats 4000000 in
set_option maxRecDepth 100000 in
theorem w_X0_nodeOf {σ : S5} {a1 : Int32} {H : Heap} {locs : List Loc} {ls : Array Slot} (S : CallFix p m c cX0_nodeOf 2 s args uG RX0) (hr : meth.sig.returnType = (some .int)) (hk : meth.locks = false) (hR : 0 ≤ R.frames ∧ 0 ≤ R.locals)
    (X : gX (dC, dI) (tK kc) (wK ad kc sa va) Z A s σ H locs) (hl : lv_has ls 2 [(0, .ref (ad 1)), (1, .int a1)]) (hg : f_X0_nodeOf a1 σ = some (r, τ)) : W p l e R s m args below meth c H locs 0 0 (MQ below (gQi (dC, dI) (tK kc) (wK ad kc sa va) A r τ) args s 0 0 A) (F0 m 0 ls []) := by
  have hx := S.1
  have hb := S.2.1
  have hown := S.2.2.2.1
  have hu := S.2.2.2.2
  unfold f_X0_nodeOf at hg
  refine lv_aload_n hx hb dX0_nodeOf_0 rfl (lv_at hl 0 rfl) ?_
  refine wkgR_1_0 S X mG_652 dX0_nodeOf_1 ?_
  refine lv_iload_n hx hb dX0_nodeOf_4 rfl (lv_at hl 1 rfl) ?_
  obtain ⟨hi5, hg⟩ := gd_some hg
  refine wklB_14 (v := (xB σ 14 a1)) S X hi5 rfl dX0_nodeOf_5 ?_
  refine lv_l2i (v := (((xB σ 14 a1) : Int64).toInt32)) hx hb dX0_nodeOf_6 rfl ?_
  refine lv_ldc (own := RX0) (v := 16777215) hx hb hown (hu _ mG_1858) dX0_nodeOf_7 ?_
  refine lv_iand hx hb dX0_nodeOf_9 ?_
  obtain ⟨rfl, rfl⟩ := fin_some hg
  exact gr_i S hr hk X dX0_nodeOf_10
end MX0_nodeOf
set_option maxRecDepth 100000 in
theorem k2_X0_nodeOf (l : Launch) (dC : Nat → ClassId) (dI : Nat → Nat → Nat) {Z : ZZ} (ad : Nat → Nat) (kc : Nat → ClassId) (sa va : Nat) {σ τ : S5} {a1 : Int32} {r : Int32} (hg : f_X0_nodeOf a1 σ = some (r, τ)) (sz : Nat) : Met l yX0_nodeOf (Cond.code yX0_nodeOf cX0_nodeOf 2 (some .int) :: uG) { frames := 0, cells := 0, slots := 0, locals := 0 } (gPc (dC, dI) (tK kc) (wK ad kc sa va) Z [.ref (ad 1), .int a1] σ sz) (gQi (dC, dI) (tK kc) (wK ad kc sa va) (va_A (wK ad kc sa va σ) sz) r τ) 0 0 (va_A (wK ad kc sa va σ) sz) :=
  g_start (by decide) (Nat.le_of_ble_eq_true rfl) (fun p e s m below meth c ls S hr hk X hl => w_X0_nodeOf S hr hk ⟨Nat.le_refl _, Nat.le_refl _⟩ X hl hg)
section MX4_needsParameter_K
variable {p : Program} {l : Launch} {e : Env} {R : Room} {s : State} {m : MethodId} {args : Array Value} {below : List Frame} {meth : Method} {c : Code} {dC : Nat → ClassId} {dI : Nat → Nat → Nat} {Z : ZZ} {A : Nat → Prop} {ad : Nat → Nat} {kc : Nat → ClassId} {sa va : Nat} {r : Int32} {τ : S5}
set_option maxHeartbeats 4000000 in
set_option maxRecDepth 100000 in
theorem w_X4_needsParameter_K {σ : S5} {a1 : Int32} {a2 : Int32} {H : Heap} {locs : List Loc} {ls : Array Slot} (S : CallFix p m c cX4_needsParameter 3 s args uG RX4) (hr : meth.sig.returnType = (some .boolean)) (hk : meth.locks = false) (hR : 0 ≤ R.frames ∧ 0 ≤ R.locals)
    (X : gX (dC, dI) (tK kc) (wK ad kc sa va) Z A s σ H locs) (hl : lv_has ls 3 [(0, .ref (ad 2)), (1, .int a1), (2, .int a2)]) (hg : f_X4_needsParameter_K a1 a2 σ = some (r, τ)) : W p l e R s m args below meth c H locs 0 0 (MQ below (gQi (dC, dI) (tK kc) (wK ad kc sa va) A r τ) args s 0 0 A) (F0 m 0 ls []) := by
  have hx := S.1
  have hb := S.2.1
  have hown := S.2.2.2.1
  have hu := S.2.2.2.2
  unfold f_X4_needsParameter_K at hg
  refine lv_aload_n hx hb dX4_needsParameter_0 rfl (lv_at hl 0 rfl) ?_
  refine wkgR_2_16 S X mG_335 dX4_needsParameter_1 ?_
  refine lv_iload_n hx hb dX4_needsParameter_4 rfl (lv_at hl 1 rfl) ?_
  obtain ⟨hi5, hg⟩ := gd_some hg
  refine wklA_12 (v := (xA σ 12 a1)) S X hi5 rfl dX4_needsParameter_5 ?_
  refine lv_iload_n hx hb dX4_needsParameter_6 rfl (lv_at hl 2 rfl) ?_
  refine lv_iushr (v := (j_iushr (xA σ 12 a1) a2)) hx hb dX4_needsParameter_7 rfl ?_
  refine lv_iconst (v := 1) hx hb dX4_needsParameter_8 (by decide) ?_
  refine lv_iand hx hb dX4_needsParameter_9 ?_
  refine lv_if_eq (tgt := 17) hx hb dX4_needsParameter_10 (by decide) (fun c10 => ?_) (fun c10 => ?_)
  · have hg := (if_pos c10).symm.trans hg
    refine lv_iconst (v := 0) hx hb dX4_needsParameter_17 (by decide) ?_
    obtain ⟨rfl, rfl⟩ := fin_some hg
    exact gr_z S hr hk X (Or.inl rfl) dX4_needsParameter_18
  · have hg := (if_neg c10).symm.trans hg
    refine lv_iconst (v := 1) hx hb dX4_needsParameter_13 (by decide) ?_
    refine lv_goto (tgt := 18) hx hb dX4_needsParameter_14 (by decide) ?_
    obtain ⟨rfl, rfl⟩ := fin_some hg
    exact gr_z S hr hk X (Or.inr rfl) dX4_needsParameter_18
end MX4_needsParameter_K
set_option maxRecDepth 100000 in
theorem k2_X4_needsParameter_K (l : Launch) (dC : Nat → ClassId) (dI : Nat → Nat → Nat) {Z : ZZ} (ad : Nat → Nat) (kc : Nat → ClassId) (sa va : Nat) {σ τ : S5} {a1 : Int32} {a2 : Int32} {r : Int32} (hg : f_X4_needsParameter_K a1 a2 σ = some (r, τ)) (sz : Nat) : Met l yX4_needsParameter (Cond.code yX4_needsParameter cX4_needsParameter 3 (some .boolean) :: uG) { frames := 0, cells := 0, slots := 0, locals := 0 } (gPc (dC, dI) (tK kc) (wK ad kc sa va) Z [.ref (ad 2), .int a1, .int a2] σ sz) (gQi (dC, dI) (tK kc) (wK ad kc sa va) (va_A (wK ad kc sa va σ) sz) r τ) 0 0 (va_A (wK ad kc sa va σ) sz) :=
  g_start (by decide) (Nat.le_of_ble_eq_true rfl) (fun p e s m below meth c ls S hr hk X hl => w_X4_needsParameter_K S hr hk ⟨Nat.le_refl _, Nat.le_refl _⟩ X hl hg)
section MJ13_bitCount_95d88
variable {p : Program} {l : Launch} {e : Env} {R : Room} {s : State} {m : MethodId} {args : Array Value} {below : List Frame} {meth : Method} {c : Code} {dC : Nat → ClassId} {dI : Nat → Nat → Nat} {Z : ZZ} {A : Nat → Prop} {ad : Nat → Nat} {kc : Nat → ClassId} {sa va : Nat} {r : Int32} {τ : S5}
set_option maxHeartbeats 4000000 in
set_option maxRecDepth 100000 in
theorem w_J13_bitCount_95d88 {σ : S5} {a0 : Int64} {H : Heap} {locs : List Loc} {ls : Array Slot} (S : CallFix p m c cJ13_bitCount_95d88 2 s args uG RJ13) (hr : meth.sig.returnType = (some .int)) (hk : meth.locks = false) (hR : 0 ≤ R.frames ∧ 0 ≤ R.locals)
    (X : gX (dC, dI) (tK kc) (wK ad kc sa va) Z A s σ H locs) (hl : lv_has ls 2 [(0, .long a0)]) (hg : f_J13_bitCount_95d88 a0 σ = some (r, τ)) : W p l e R s m args below meth c H locs 0 0 (MQ below (gQi (dC, dI) (tK kc) (wK ad kc sa va) A r τ) args s 0 0 A) (F0 m 0 ls []) := by
  have hx := S.1
  have hb := S.2.1
  have hown := S.2.2.2.1
  have hu := S.2.2.2.2
  unfold f_J13_bitCount_95d88 at hg
  refine lv_lload_n hx hb dJ13_bitCount_95d88_0 rfl (lv_at hl 0 rfl) ?_
  refine lv_lload_n hx hb dJ13_bitCount_95d88_1 rfl (lv_at hl 0 rfl) ?_
  refine lv_iconst (v := 1) hx hb dJ13_bitCount_95d88_2 (by decide) ?_
  refine lv_lushr (v := (j_lushr a0 1)) hx hb dJ13_bitCount_95d88_3 rfl ?_
  refine lv_ldc2 (own := RJ13) (v := 6148914691236517205) hx hb hown (hu _ mG_1915) dJ13_bitCount_95d88_4 ?_
  refine lv_land hx hb dJ13_bitCount_95d88_7 ?_
  refine lv_lsub hx hb dJ13_bitCount_95d88_8 ?_
  refine lv_lstore_n (lv' := [(0, .long (a0 - ((j_lushr a0 1) &&& 6148914691236517205)))]) hx hb dJ13_bitCount_95d88_9 rfl hl (by decide) rfl (fun ls hl => ?_)
  refine lv_lload_n hx hb dJ13_bitCount_95d88_10 rfl (lv_at hl 0 rfl) ?_
  refine lv_ldc2 (own := RJ13) (v := 3689348814741910323) hx hb hown (hu _ mG_1916) dJ13_bitCount_95d88_11 ?_
  refine lv_land hx hb dJ13_bitCount_95d88_14 ?_
  refine lv_lload_n hx hb dJ13_bitCount_95d88_15 rfl (lv_at hl 0 rfl) ?_
  refine lv_iconst (v := 2) hx hb dJ13_bitCount_95d88_16 (by decide) ?_
  refine lv_lushr (v := (j_lushr (a0 - ((j_lushr a0 1) &&& 6148914691236517205)) 2)) hx hb dJ13_bitCount_95d88_17 rfl ?_
  refine lv_ldc2 (own := RJ13) (v := 3689348814741910323) hx hb hown (hu _ mG_1916) dJ13_bitCount_95d88_18 ?_
  refine lv_land hx hb dJ13_bitCount_95d88_21 ?_
  refine lv_ladd hx hb dJ13_bitCount_95d88_22 ?_
  refine lv_lstore_n (lv' := [(0, .long (((a0 - ((j_lushr a0 1) &&& 6148914691236517205)) &&& 3689348814741910323) + ((j_lushr (a0 - ((j_lushr a0 1) &&& 6148914691236517205)) 2) &&& 3689348814741910323)))]) hx hb dJ13_bitCount_95d88_23 rfl hl (by decide) rfl (fun ls hl => ?_)
  refine lv_lload_n hx hb dJ13_bitCount_95d88_24 rfl (lv_at hl 0 rfl) ?_
  refine lv_lload_n hx hb dJ13_bitCount_95d88_25 rfl (lv_at hl 0 rfl) ?_
  refine lv_iconst (v := 4) hx hb dJ13_bitCount_95d88_26 (by decide) ?_
  refine lv_lushr (v := (j_lushr (((a0 - ((j_lushr a0 1) &&& 6148914691236517205)) &&& 3689348814741910323) + ((j_lushr (a0 - ((j_lushr a0 1) &&& 6148914691236517205)) 2) &&& 3689348814741910323)) 4)) hx hb dJ13_bitCount_95d88_27 rfl ?_
  refine lv_ladd hx hb dJ13_bitCount_95d88_28 ?_
  refine lv_ldc2 (own := RJ13) (v := 1085102592571150095) hx hb hown (hu _ mG_1917) dJ13_bitCount_95d88_29 ?_
  refine lv_land hx hb dJ13_bitCount_95d88_32 ?_
  refine lv_lstore_n (lv' := [(0, .long (((((a0 - ((j_lushr a0 1) &&& 6148914691236517205)) &&& 3689348814741910323) + ((j_lushr (a0 - ((j_lushr a0 1) &&& 6148914691236517205)) 2) &&& 3689348814741910323)) + (j_lushr (((a0 - ((j_lushr a0 1) &&& 6148914691236517205)) &&& 3689348814741910323) + ((j_lushr (a0 - ((j_lushr a0 1) &&& 6148914691236517205)) 2) &&& 3689348814741910323)) 4)) &&& 1085102592571150095))]) hx hb dJ13_bitCount_95d88_33 rfl hl (by decide) rfl (fun ls hl => ?_)
  refine lv_lload_n hx hb dJ13_bitCount_95d88_34 rfl (lv_at hl 0 rfl) ?_
  refine lv_lload_n hx hb dJ13_bitCount_95d88_35 rfl (lv_at hl 0 rfl) ?_
  refine lv_bipush (v := 8) hx hb dJ13_bitCount_95d88_36 (by decide) ?_
  refine lv_lushr (v := (j_lushr (((((a0 - ((j_lushr a0 1) &&& 6148914691236517205)) &&& 3689348814741910323) + ((j_lushr (a0 - ((j_lushr a0 1) &&& 6148914691236517205)) 2) &&& 3689348814741910323)) + (j_lushr (((a0 - ((j_lushr a0 1) &&& 6148914691236517205)) &&& 3689348814741910323) + ((j_lushr (a0 - ((j_lushr a0 1) &&& 6148914691236517205)) 2) &&& 3689348814741910323)) 4)) &&& 1085102592571150095) 8)) hx hb dJ13_bitCount_95d88_38 rfl ?_
  refine lv_ladd hx hb dJ13_bitCount_95d88_39 ?_
  refine lv_lstore_n (lv' := [(0, .long ((((((a0 - ((j_lushr a0 1) &&& 6148914691236517205)) &&& 3689348814741910323) + ((j_lushr (a0 - ((j_lushr a0 1) &&& 6148914691236517205)) 2) &&& 3689348814741910323)) + (j_lushr (((a0 - ((j_lushr a0 1) &&& 6148914691236517205)) &&& 3689348814741910323) + ((j_lushr (a0 - ((j_lushr a0 1) &&& 6148914691236517205)) 2) &&& 3689348814741910323)) 4)) &&& 1085102592571150095) + (j_lushr (((((a0 - ((j_lushr a0 1) &&& 6148914691236517205)) &&& 3689348814741910323) + ((j_lushr (a0 - ((j_lushr a0 1) &&& 6148914691236517205)) 2) &&& 3689348814741910323)) + (j_lushr (((a0 - ((j_lushr a0 1) &&& 6148914691236517205)) &&& 3689348814741910323) + ((j_lushr (a0 - ((j_lushr a0 1) &&& 6148914691236517205)) 2) &&& 3689348814741910323)) 4)) &&& 1085102592571150095) 8)))]) hx hb dJ13_bitCount_95d88_40 rfl hl (by decide) rfl (fun ls hl => ?_)
  refine lv_lload_n hx hb dJ13_bitCount_95d88_41 rfl (lv_at hl 0 rfl) ?_
  refine lv_lload_n hx hb dJ13_bitCount_95d88_42 rfl (lv_at hl 0 rfl) ?_
  refine lv_bipush (v := 16) hx hb dJ13_bitCount_95d88_43 (by decide) ?_
  refine lv_lushr (v := (j_lushr ((((((a0 - ((j_lushr a0 1) &&& 6148914691236517205)) &&& 3689348814741910323) + ((j_lushr (a0 - ((j_lushr a0 1) &&& 6148914691236517205)) 2) &&& 3689348814741910323)) + (j_lushr (((a0 - ((j_lushr a0 1) &&& 6148914691236517205)) &&& 3689348814741910323) + ((j_lushr (a0 - ((j_lushr a0 1) &&& 6148914691236517205)) 2) &&& 3689348814741910323)) 4)) &&& 1085102592571150095) + (j_lushr (((((a0 - ((j_lushr a0 1) &&& 6148914691236517205)) &&& 3689348814741910323) + ((j_lushr (a0 - ((j_lushr a0 1) &&& 6148914691236517205)) 2) &&& 3689348814741910323)) + (j_lushr (((a0 - ((j_lushr a0 1) &&& 6148914691236517205)) &&& 3689348814741910323) + ((j_lushr (a0 - ((j_lushr a0 1) &&& 6148914691236517205)) 2) &&& 3689348814741910323)) 4)) &&& 1085102592571150095) 8)) 16)) hx hb dJ13_bitCount_95d88_45 rfl ?_
  refine lv_ladd hx hb dJ13_bitCount_95d88_46 ?_
  refine lv_lstore_n (lv' := [(0, .long (((((((a0 - ((j_lushr a0 1) &&& 6148914691236517205)) &&& 3689348814741910323) + ((j_lushr (a0 - ((j_lushr a0 1) &&& 6148914691236517205)) 2) &&& 3689348814741910323)) + (j_lushr (((a0 - ((j_lushr a0 1) &&& 6148914691236517205)) &&& 3689348814741910323) + ((j_lushr (a0 - ((j_lushr a0 1) &&& 6148914691236517205)) 2) &&& 3689348814741910323)) 4)) &&& 1085102592571150095) + (j_lushr (((((a0 - ((j_lushr a0 1) &&& 6148914691236517205)) &&& 3689348814741910323) + ((j_lushr (a0 - ((j_lushr a0 1) &&& 6148914691236517205)) 2) &&& 3689348814741910323)) + (j_lushr (((a0 - ((j_lushr a0 1) &&& 6148914691236517205)) &&& 3689348814741910323) + ((j_lushr (a0 - ((j_lushr a0 1) &&& 6148914691236517205)) 2) &&& 3689348814741910323)) 4)) &&& 1085102592571150095) 8)) + (j_lushr ((((((a0 - ((j_lushr a0 1) &&& 6148914691236517205)) &&& 3689348814741910323) + ((j_lushr (a0 - ((j_lushr a0 1) &&& 6148914691236517205)) 2) &&& 3689348814741910323)) + (j_lushr (((a0 - ((j_lushr a0 1) &&& 6148914691236517205)) &&& 3689348814741910323) + ((j_lushr (a0 - ((j_lushr a0 1) &&& 6148914691236517205)) 2) &&& 3689348814741910323)) 4)) &&& 1085102592571150095) + (j_lushr (((((a0 - ((j_lushr a0 1) &&& 6148914691236517205)) &&& 3689348814741910323) + ((j_lushr (a0 - ((j_lushr a0 1) &&& 6148914691236517205)) 2) &&& 3689348814741910323)) + (j_lushr (((a0 - ((j_lushr a0 1) &&& 6148914691236517205)) &&& 3689348814741910323) + ((j_lushr (a0 - ((j_lushr a0 1) &&& 6148914691236517205)) 2) &&& 3689348814741910323)) 4)) &&& 1085102592571150095) 8)) 16)))]) hx hb dJ13_bitCount_95d88_47 rfl hl (by decide) rfl (fun ls hl => ?_)
  refine lv_lload_n hx hb dJ13_bitCount_95d88_48 rfl (lv_at hl 0 rfl) ?_
  refine lv_lload_n hx hb dJ13_bitCount_95d88_49 rfl (lv_at hl 0 rfl) ?_
  refine lv_bipush (v := 32) hx hb dJ13_bitCount_95d88_50 (by decide) ?_
  refine lv_lushr (v := (j_lushr (((((((a0 - ((j_lushr a0 1) &&& 6148914691236517205)) &&& 3689348814741910323) + ((j_lushr (a0 - ((j_lushr a0 1) &&& 6148914691236517205)) 2) &&& 3689348814741910323)) + (j_lushr (((a0 - ((j_lushr a0 1) &&& 6148914691236517205)) &&& 3689348814741910323) + ((j_lushr (a0 - ((j_lushr a0 1) &&& 6148914691236517205)) 2) &&& 3689348814741910323)) 4)) &&& 1085102592571150095) + (j_lushr (((((a0 - ((j_lushr a0 1) &&& 6148914691236517205)) &&& 3689348814741910323) + ((j_lushr (a0 - ((j_lushr a0 1) &&& 6148914691236517205)) 2) &&& 3689348814741910323)) + (j_lushr (((a0 - ((j_lushr a0 1) &&& 6148914691236517205)) &&& 3689348814741910323) + ((j_lushr (a0 - ((j_lushr a0 1) &&& 6148914691236517205)) 2) &&& 3689348814741910323)) 4)) &&& 1085102592571150095) 8)) + (j_lushr ((((((a0 - ((j_lushr a0 1) &&& 6148914691236517205)) &&& 3689348814741910323) + ((j_lushr (a0 - ((j_lushr a0 1) &&& 6148914691236517205)) 2) &&& 3689348814741910323)) + (j_lushr (((a0 - ((j_lushr a0 1) &&& 6148914691236517205)) &&& 3689348814741910323) + ((j_lushr (a0 - ((j_lushr a0 1) &&& 6148914691236517205)) 2) &&& 3689348814741910323)) 4)) &&& 1085102592571150095) + (j_lushr (((((a0 - ((j_lushr a0 1) &&& 6148914691236517205)) &&& 3689348814741910323) + ((j_lushr (a0 - ((j_lushr a0 1) &&& 6148914691236517205)) 2) &&& 3689348814741910323)) + (j_lushr (((a0 - ((j_lushr a0 1) &&& 6148914691236517205)) &&& 3689348814741910323) + ((j_lushr (a0 - ((j_lushr a0 1) &&& 6148914691236517205)) 2) &&& 3689348814741910323)) 4)) &&& 1085102592571150095) 8)) 16)) 32)) hx hb dJ13_bitCount_95d88_52 rfl ?_
  refine lv_ladd hx hb dJ13_bitCount_95d88_53 ?_
  refine lv_lstore_n (lv' := [(0, .long ((((((((a0 - ((j_lushr a0 1) &&& 6148914691236517205)) &&& 3689348814741910323) + ((j_lushr (a0 - ((j_lushr a0 1) &&& 6148914691236517205)) 2) &&& 3689348814741910323)) + (j_lushr (((a0 - ((j_lushr a0 1) &&& 6148914691236517205)) &&& 3689348814741910323) + ((j_lushr (a0 - ((j_lushr a0 1) &&& 6148914691236517205)) 2) &&& 3689348814741910323)) 4)) &&& 1085102592571150095) + (j_lushr (((((a0 - ((j_lushr a0 1) &&& 6148914691236517205)) &&& 3689348814741910323) + ((j_lushr (a0 - ((j_lushr a0 1) &&& 6148914691236517205)) 2) &&& 3689348814741910323)) + (j_lushr (((a0 - ((j_lushr a0 1) &&& 6148914691236517205)) &&& 3689348814741910323) + ((j_lushr (a0 - ((j_lushr a0 1) &&& 6148914691236517205)) 2) &&& 3689348814741910323)) 4)) &&& 1085102592571150095) 8)) + (j_lushr ((((((a0 - ((j_lushr a0 1) &&& 6148914691236517205)) &&& 3689348814741910323) + ((j_lushr (a0 - ((j_lushr a0 1) &&& 6148914691236517205)) 2) &&& 3689348814741910323)) + (j_lushr (((a0 - ((j_lushr a0 1) &&& 6148914691236517205)) &&& 3689348814741910323) + ((j_lushr (a0 - ((j_lushr a0 1) &&& 6148914691236517205)) 2) &&& 3689348814741910323)) 4)) &&& 1085102592571150095) + (j_lushr (((((a0 - ((j_lushr a0 1) &&& 6148914691236517205)) &&& 3689348814741910323) + ((j_lushr (a0 - ((j_lushr a0 1) &&& 6148914691236517205)) 2) &&& 3689348814741910323)) + (j_lushr (((a0 - ((j_lushr a0 1) &&& 6148914691236517205)) &&& 3689348814741910323) + ((j_lushr (a0 - ((j_lushr a0 1) &&& 6148914691236517205)) 2) &&& 3689348814741910323)) 4)) &&& 1085102592571150095) 8)) 16)) + (j_lushr (((((((a0 - ((j_lushr a0 1) &&& 6148914691236517205)) &&& 3689348814741910323) + ((j_lushr (a0 - ((j_lushr a0 1) &&& 6148914691236517205)) 2) &&& 3689348814741910323)) + (j_lushr (((a0 - ((j_lushr a0 1) &&& 6148914691236517205)) &&& 3689348814741910323) + ((j_lushr (a0 - ((j_lushr a0 1) &&& 6148914691236517205)) 2) &&& 3689348814741910323)) 4)) &&& 1085102592571150095) + (j_lushr (((((a0 - ((j_lushr a0 1) &&& 6148914691236517205)) &&& 3689348814741910323) + ((j_lushr (a0 - ((j_lushr a0 1) &&& 6148914691236517205)) 2) &&& 3689348814741910323)) + (j_lushr (((a0 - ((j_lushr a0 1) &&& 6148914691236517205)) &&& 3689348814741910323) + ((j_lushr (a0 - ((j_lushr a0 1) &&& 6148914691236517205)) 2) &&& 3689348814741910323)) 4)) &&& 1085102592571150095) 8)) + (j_lushr ((((((a0 - ((j_lushr a0 1) &&& 6148914691236517205)) &&& 3689348814741910323) + ((j_lushr (a0 - ((j_lushr a0 1) &&& 6148914691236517205)) 2) &&& 3689348814741910323)) + (j_lushr (((a0 - ((j_lushr a0 1) &&& 6148914691236517205)) &&& 3689348814741910323) + ((j_lushr (a0 - ((j_lushr a0 1) &&& 6148914691236517205)) 2) &&& 3689348814741910323)) 4)) &&& 1085102592571150095) + (j_lushr (((((a0 - ((j_lushr a0 1) &&& 6148914691236517205)) &&& 3689348814741910323) + ((j_lushr (a0 - ((j_lushr a0 1) &&& 6148914691236517205)) 2) &&& 3689348814741910323)) + (j_lushr (((a0 - ((j_lushr a0 1) &&& 6148914691236517205)) &&& 3689348814741910323) + ((j_lushr (a0 - ((j_lushr a0 1) &&& 6148914691236517205)) 2) &&& 3689348814741910323)) 4)) &&& 1085102592571150095) 8)) 16)) 32)))]) hx hb dJ13_bitCount_95d88_54 rfl hl (by decide) rfl (fun ls hl => ?_)
  refine lv_lload_n hx hb dJ13_bitCount_95d88_55 rfl (lv_at hl 0 rfl) ?_
  refine lv_l2i (v := ((((((((((a0 - ((j_lushr a0 1) &&& 6148914691236517205)) &&& 3689348814741910323) + ((j_lushr (a0 - ((j_lushr a0 1) &&& 6148914691236517205)) 2) &&& 3689348814741910323)) + (j_lushr (((a0 - ((j_lushr a0 1) &&& 6148914691236517205)) &&& 3689348814741910323) + ((j_lushr (a0 - ((j_lushr a0 1) &&& 6148914691236517205)) 2) &&& 3689348814741910323)) 4)) &&& 1085102592571150095) + (j_lushr (((((a0 - ((j_lushr a0 1) &&& 6148914691236517205)) &&& 3689348814741910323) + ((j_lushr (a0 - ((j_lushr a0 1) &&& 6148914691236517205)) 2) &&& 3689348814741910323)) + (j_lushr (((a0 - ((j_lushr a0 1) &&& 6148914691236517205)) &&& 3689348814741910323) + ((j_lushr (a0 - ((j_lushr a0 1) &&& 6148914691236517205)) 2) &&& 3689348814741910323)) 4)) &&& 1085102592571150095) 8)) + (j_lushr ((((((a0 - ((j_lushr a0 1) &&& 6148914691236517205)) &&& 3689348814741910323) + ((j_lushr (a0 - ((j_lushr a0 1) &&& 6148914691236517205)) 2) &&& 3689348814741910323)) + (j_lushr (((a0 - ((j_lushr a0 1) &&& 6148914691236517205)) &&& 3689348814741910323) + ((j_lushr (a0 - ((j_lushr a0 1) &&& 6148914691236517205)) 2) &&& 3689348814741910323)) 4)) &&& 1085102592571150095) + (j_lushr (((((a0 - ((j_lushr a0 1) &&& 6148914691236517205)) &&& 3689348814741910323) + ((j_lushr (a0 - ((j_lushr a0 1) &&& 6148914691236517205)) 2) &&& 3689348814741910323)) + (j_lushr (((a0 - ((j_lushr a0 1) &&& 6148914691236517205)) &&& 3689348814741910323) + ((j_lushr (a0 - ((j_lushr a0 1) &&& 6148914691236517205)) 2) &&& 3689348814741910323)) 4)) &&& 1085102592571150095) 8)) 16)) + (j_lushr (((((((a0 - ((j_lushr a0 1) &&& 6148914691236517205)) &&& 3689348814741910323) + ((j_lushr (a0 - ((j_lushr a0 1) &&& 6148914691236517205)) 2) &&& 3689348814741910323)) + (j_lushr (((a0 - ((j_lushr a0 1) &&& 6148914691236517205)) &&& 3689348814741910323) + ((j_lushr (a0 - ((j_lushr a0 1) &&& 6148914691236517205)) 2) &&& 3689348814741910323)) 4)) &&& 1085102592571150095) + (j_lushr (((((a0 - ((j_lushr a0 1) &&& 6148914691236517205)) &&& 3689348814741910323) + ((j_lushr (a0 - ((j_lushr a0 1) &&& 6148914691236517205)) 2) &&& 3689348814741910323)) + (j_lushr (((a0 - ((j_lushr a0 1) &&& 6148914691236517205)) &&& 3689348814741910323) + ((j_lushr (a0 - ((j_lushr a0 1) &&& 6148914691236517205)) 2) &&& 3689348814741910323)) 4)) &&& 1085102592571150095) 8)) + (j_lushr ((((((a0 - ((j_lushr a0 1) &&& 6148914691236517205)) &&& 3689348814741910323) + ((j_lushr (a0 - ((j_lushr a0 1) &&& 6148914691236517205)) 2) &&& 3689348814741910323)) + (j_lushr (((a0 - ((j_lushr a0 1) &&& 6148914691236517205)) &&& 3689348814741910323) + ((j_lushr (a0 - ((j_lushr a0 1) &&& 6148914691236517205)) 2) &&& 3689348814741910323)) 4)) &&& 1085102592571150095) + (j_lushr (((((a0 - ((j_lushr a0 1) &&& 6148914691236517205)) &&& 3689348814741910323) + ((j_lushr (a0 - ((j_lushr a0 1) &&& 6148914691236517205)) 2) &&& 3689348814741910323)) + (j_lushr (((a0 - ((j_lushr a0 1) &&& 6148914691236517205)) &&& 3689348814741910323) + ((j_lushr (a0 - ((j_lushr a0 1) &&& 6148914691236517205)) 2) &&& 3689348814741910323)) 4)) &&& 1085102592571150095) 8)) 16)) 32)) : Int64).toInt32)) hx hb dJ13_bitCount_95d88_56 rfl ?_
  refine lv_bipush (v := 127) hx hb dJ13_bitCount_95d88_57 (by decide) ?_
  refine lv_iand hx hb dJ13_bitCount_95d88_59 ?_
  obtain ⟨rfl, rfl⟩ := fin_some hg
  exact gr_i S hr hk X dJ13_bitCount_95d88_60
end MJ13_bitCount_95d88
set_option maxRecDepth 100000 in
theorem k2_J13_bitCount_95d88 (l : Launch) (dC : Nat → ClassId) (dI : Nat → Nat → Nat) {Z : ZZ} (ad : Nat → Nat) (kc : Nat → ClassId) (sa va : Nat) {σ τ : S5} {a0 : Int64} {r : Int32} (hg : f_J13_bitCount_95d88 a0 σ = some (r, τ)) (sz : Nat) : Met l yJ13_bitCount_95d88 (Cond.code yJ13_bitCount_95d88 cJ13_bitCount_95d88 2 (some .int) :: uG) { frames := 0, cells := 0, slots := 0, locals := 0 } (gPc (dC, dI) (tK kc) (wK ad kc sa va) Z [.long a0] σ sz) (gQi (dC, dI) (tK kc) (wK ad kc sa va) (va_A (wK ad kc sa va σ) sz) r τ) 0 0 (va_A (wK ad kc sa va σ) sz) :=
  g_start (by decide) (Nat.le_of_ble_eq_true rfl) (fun p e s m below meth c ls S hr hk X hl => w_J13_bitCount_95d88 S hr hk ⟨Nat.le_refl _, Nat.le_refl _⟩ X hl hg)
section MJ7_fill_53178_mach_counts
variable {p : Program} {l : Launch} {e : Env} {R : Room} {s : State} {m : MethodId} {args : Array Value} {below : List Frame} {meth : Method} {c : Code} {dC : Nat → ClassId} {dI : Nat → Nat → Nat} {Z : ZZ} {A : Nat → Prop} {ad : Nat → Nat} {kc : Nat → ClassId} {sa va : Nat} {r : Unit} {τ : S5}
set_option maxHeartbeats 4000000 in
set_option maxRecDepth 100000 in
theorem w_J7_fill_53178_mach_counts_B5 {σ : S5} {rec5 : Int32 → Int32 → Int32 → S5 → Option (Unit × S5)} {v1 : Int32} {v2 : Int32} {v3 : Int32} {H : Heap} {locs : List Loc} {ls : Array Slot} (S : CallFix p m c cJ7_fill_53178 4 s args uG RJ7) (hr : meth.sig.returnType = none) (hk : meth.locks = false) (hR : 0 ≤ R.frames ∧ 0 ≤ R.locals)
    (hrec5 : ∀ (v1 : Int32) (v2 : Int32) (v3 : Int32) (σ : S5) (H : Heap) (locs : List Loc) (ls : Array Slot), gX (dC, dI) (tK kc) (wK ad kc sa va) Z A s σ H locs → lv_has ls 4 [(0, .ref (ad 4)), (1, .int v1), (2, .int v2), (3, .int v3)] → rec5 v1 v2 v3 σ = some (r, τ) → W p l e R s m args below meth c H locs 0 0 (MQ below (gQv (dC, dI) (tK kc) (wK ad kc sa va) A r τ) args s 0 0 A) (F0 m 5 ls []))
    (X : gX (dC, dI) (tK kc) (wK ad kc sa va) Z A s σ H locs) (hl : lv_has ls 4 [(0, .ref (ad 4)), (1, .int v1), (2, .int v2), (3, .int v3)]) (hg : f_J7_fill_53178_mach_counts_B5 rec5 v1 v2 v3 σ = some (r, τ)) : W p l e R s m args below meth c H locs 0 0 (MQ below (gQv (dC, dI) (tK kc) (wK ad kc sa va) A r τ) args s 0 0 A) (F0 m 5 ls []) := by
  have hx := S.1
  have hb := S.2.1
  have hown := S.2.2.2.1
  have hu := S.2.2.2.2
  unfold f_J7_fill_53178_mach_counts_B5 at hg
  refine lv_iload_n hx hb dJ7_fill_53178_5 rfl (lv_at hl 2 rfl) ?_
  refine lv_iload_n hx hb dJ7_fill_53178_6 rfl (lv_at hl 3 rfl) ?_
  refine lv_icmp_ge (tgt := 20) hx hb dJ7_fill_53178_7 (by decide) (fun c7 => ?_) (fun c7 => ?_)
  · have hg := (if_pos c7).symm.trans hg
    obtain ⟨-, rfl⟩ := fin_some hg
    exact gr_v S hr hk X dJ7_fill_53178_20
  · have hg := (if_neg c7).symm.trans hg
    refine lv_aload_n hx hb dJ7_fill_53178_10 rfl (lv_at hl 0 rfl) ?_
    refine lv_iload_n hx hb dJ7_fill_53178_11 rfl (lv_at hl 2 rfl) ?_
    refine lv_iload_n hx hb dJ7_fill_53178_12 rfl (lv_at hl 1 rfl) ?_
    obtain ⟨hi13, hg⟩ := gd_some hg
    refine wksA_40 S X hi13 dJ7_fill_53178_13 (fun H locs X => ?_)
    refine lv_iinc (v := (v2 + 1)) (lv' := [(2, .int (v2 + 1)), (0, .ref (ad 4)), (1, .int v1), (3, .int v3)]) hx hb dJ7_fill_53178_14 hl (k := 2) rfl (by rfl) (by decide) rfl (fun ls hl => ?_)
    refine lv_goto (tgt := 5) hx hb dJ7_fill_53178_17 (by decide) ?_
    exact hrec5 _ _ _ _ _ _ _ X (lv_sub hl [1, 2, 0, 3] rfl) hg
set_option maxHeartbeats 4000000 in
set_option maxRecDepth 100000 in
theorem w_J7_fill_53178_mach_counts_L5 (S : CallFix p m c cJ7_fill_53178 4 s args uG RJ7) (hr : meth.sig.returnType = none) (hk : meth.locks = false) (hR : 0 ≤ R.frames ∧ 0 ≤ R.locals) : ∀ (n : Nat) (v1 : Int32) (v2 : Int32) (v3 : Int32) (σ : S5) (H : Heap) (locs : List Loc) (ls : Array Slot), gX (dC, dI) (tK kc) (wK ad kc sa va) Z A s σ H locs → lv_has ls 4 [(0, .ref (ad 4)), (1, .int v1), (2, .int v2), (3, .int v3)] → f_J7_fill_53178_mach_counts_L5  n v1 v2 v3 σ = some (r, τ) → W p l e R s m args below meth c H locs 0 0 (MQ below (gQv (dC, dI) (tK kc) (wK ad kc sa va) A r τ) args s 0 0 A) (F0 m 5 ls []) := by
  intro n
  induction n with
  | zero => intro v1 v2 v3 σ H locs ls X hl hg; cases hg
  | succ n ih => intro v1 v2 v3 σ H locs ls X hl hg; exact w_J7_fill_53178_mach_counts_B5 S hr hk hR ih X hl hg
set_option maxHeartbeats 4000000 in
set_option maxRecDepth 100000 in
theorem w_J7_fill_53178_mach_counts {σ : S5} {a1 : Int32} {H : Heap} {locs : List Loc} {ls : Array Slot} (S : CallFix p m c cJ7_fill_53178 4 s args uG RJ7) (hr : meth.sig.returnType = none) (hk : meth.locks = false) (hR : 0 ≤ R.frames ∧ 0 ≤ R.locals)
    (X : gX (dC, dI) (tK kc) (wK ad kc sa va) Z A s σ H locs) (hl : lv_has ls 4 [(0, .ref (ad 4)), (1, .int a1)]) (hg : f_J7_fill_53178_mach_counts a1 σ = some (r, τ)) : W p l e R s m args below meth c H locs 0 0 (MQ below (gQv (dC, dI) (tK kc) (wK ad kc sa va) A r τ) args s 0 0 A) (F0 m 0 ls []) := by
  have hx := S.1
  have hb := S.2.1
  have hown := S.2.2.2.1
  have hu := S.2.2.2.2
  unfold f_J7_fill_53178_mach_counts at hg
  refine lv_iconst (v := 0) hx hb dJ7_fill_53178_0 (by decide) ?_
  refine lv_istore_n (lv' := [(2, .int 0), (0, .ref (ad 4)), (1, .int a1)]) hx hb dJ7_fill_53178_1 rfl hl (by decide) rfl (fun ls hl => ?_)
  refine lv_aload_n hx hb dJ7_fill_53178_2 rfl (lv_at hl 1 rfl) ?_
  refine wknA_40 S X dJ7_fill_53178_3 ?_
  refine lv_istore_n (lv' := [(3, .int 10), (2, .int 0), (0, .ref (ad 4)), (1, .int a1)]) hx hb dJ7_fill_53178_4 rfl hl (by decide) rfl (fun ls hl => ?_)
  exact w_J7_fill_53178_mach_counts_L5 S hr hk hR _ _ _ _ _ _ _ _ X (lv_sub hl [2, 3, 1, 0] rfl) hg
end MJ7_fill_53178_mach_counts
set_option maxRecDepth 100000 in
theorem k2_J7_fill_53178_mach_counts (l : Launch) (dC : Nat → ClassId) (dI : Nat → Nat → Nat) {Z : ZZ} (ad : Nat → Nat) (kc : Nat → ClassId) (sa va : Nat) {σ τ : S5} {a1 : Int32} {r : Unit} (hg : f_J7_fill_53178_mach_counts a1 σ = some (r, τ)) (sz : Nat) : Met l yJ7_fill_53178 (Cond.code yJ7_fill_53178 cJ7_fill_53178 4 none :: uG) { frames := 0, cells := 0, slots := 0, locals := 0 } (gPc (dC, dI) (tK kc) (wK ad kc sa va) Z [.ref (ad 4), .int a1] σ sz) (gQv (dC, dI) (tK kc) (wK ad kc sa va) (va_A (wK ad kc sa va σ) sz) r τ) 0 0 (va_A (wK ad kc sa va σ) sz) :=
  g_start (by decide) (Nat.le_of_ble_eq_true rfl) (fun p e s m below meth c ls S hr hk X hl => w_J7_fill_53178_mach_counts S hr hk ⟨Nat.le_refl _, Nat.le_refl _⟩ X hl hg)
section MJ7_fill_53178_mach_timesCalled
variable {p : Program} {l : Launch} {e : Env} {R : Room} {s : State} {m : MethodId} {args : Array Value} {below : List Frame} {meth : Method} {c : Code} {dC : Nat → ClassId} {dI : Nat → Nat → Nat} {Z : ZZ} {A : Nat → Prop} {ad : Nat → Nat} {kc : Nat → ClassId} {sa va : Nat} {r : Unit} {τ : S5}
set_option maxHeartbeats 4000000 in
set_option maxRecDepth 100000 in
theorem w_J7_fill_53178_mach_timesCalled_B5 {σ : S5} {rec5 : Int32 → Int32 → Int32 → S5 → Option (Unit × S5)} {v1 : Int32} {v2 : Int32} {v3 : Int32} {H : Heap} {locs : List Loc} {ls : Array Slot} (S : CallFix p m c cJ7_fill_53178 4 s args uG RJ7) (hr : meth.sig.returnType = none) (hk : meth.locks = false) (hR : 0 ≤ R.frames ∧ 0 ≤ R.locals)
    (hrec5 : ∀ (v1 : Int32) (v2 : Int32) (v3 : Int32) (σ : S5) (H : Heap) (locs : List Loc) (ls : Array Slot), gX (dC, dI) (tK kc) (wK ad kc sa va) Z A s σ H locs → lv_has ls 4 [(0, .ref (ad 5)), (1, .int v1), (2, .int v2), (3, .int v3)] → rec5 v1 v2 v3 σ = some (r, τ) → W p l e R s m args below meth c H locs 0 0 (MQ below (gQv (dC, dI) (tK kc) (wK ad kc sa va) A r τ) args s 0 0 A) (F0 m 5 ls []))
    (X : gX (dC, dI) (tK kc) (wK ad kc sa va) Z A s σ H locs) (hl : lv_has ls 4 [(0, .ref (ad 5)), (1, .int v1), (2, .int v2), (3, .int v3)]) (hg : f_J7_fill_53178_mach_timesCalled_B5 rec5 v1 v2 v3 σ = some (r, τ)) : W p l e R s m args below meth c H locs 0 0 (MQ below (gQv (dC, dI) (tK kc) (wK ad kc sa va) A r τ) args s 0 0 A) (F0 m 5 ls []) := by
  have hx := S.1
  have hb := S.2.1
  have hown := S.2.2.2.1
  have hu := S.2.2.2.2
  unfold f_J7_fill_53178_mach_timesCalled_B5 at hg
  refine lv_iload_n hx hb dJ7_fill_53178_5 rfl (lv_at hl 2 rfl) ?_
  refine lv_iload_n hx hb dJ7_fill_53178_6 rfl (lv_at hl 3 rfl) ?_
  refine lv_icmp_ge (tgt := 20) hx hb dJ7_fill_53178_7 (by decide) (fun c7 => ?_) (fun c7 => ?_)
  · have hg := (if_pos c7).symm.trans hg
    obtain ⟨-, rfl⟩ := fin_some hg
    exact gr_v S hr hk X dJ7_fill_53178_20
  · have hg := (if_neg c7).symm.trans hg
    refine lv_aload_n hx hb dJ7_fill_53178_10 rfl (lv_at hl 0 rfl) ?_
    refine lv_iload_n hx hb dJ7_fill_53178_11 rfl (lv_at hl 2 rfl) ?_
    refine lv_iload_n hx hb dJ7_fill_53178_12 rfl (lv_at hl 1 rfl) ?_
    obtain ⟨hi13, hg⟩ := gd_some hg
    refine wksA_41 S X hi13 dJ7_fill_53178_13 (fun H locs X => ?_)
    refine lv_iinc (v := (v2 + 1)) (lv' := [(2, .int (v2 + 1)), (0, .ref (ad 5)), (1, .int v1), (3, .int v3)]) hx hb dJ7_fill_53178_14 hl (k := 2) rfl (by rfl) (by decide) rfl (fun ls hl => ?_)
    refine lv_goto (tgt := 5) hx hb dJ7_fill_53178_17 (by decide) ?_
    exact hrec5 _ _ _ _ _ _ _ X (lv_sub hl [1, 2, 0, 3] rfl) hg
set_option maxHeartbeats 4000000 in
set_option maxRecDepth 100000 in
theorem w_J7_fill_53178_mach_timesCalled_L5 (S : CallFix p m c cJ7_fill_53178 4 s args uG RJ7) (hr : meth.sig.returnType = none) (hk : meth.locks = false) (hR : 0 ≤ R.frames ∧ 0 ≤ R.locals) : ∀ (n : Nat) (v1 : Int32) (v2 : Int32) (v3 : Int32) (σ : S5) (H : Heap) (locs : List Loc) (ls : Array Slot), gX (dC, dI) (tK kc) (wK ad kc sa va) Z A s σ H locs → lv_has ls 4 [(0, .ref (ad 5)), (1, .int v1), (2, .int v2), (3, .int v3)] → f_J7_fill_53178_mach_timesCalled_L5  n v1 v2 v3 σ = some (r, τ) → W p l e R s m args below meth c H locs 0 0 (MQ below (gQv (dC, dI) (tK kc) (wK ad kc sa va) A r τ) args s 0 0 A) (F0 m 5 ls []) := by
  intro n
  induction n with
  | zero => intro v1 v2 v3 σ H locs ls X hl hg; cases hg
  | succ n ih => intro v1 v2 v3 σ H locs ls X hl hg; exact w_J7_fill_53178_mach_timesCalled_B5 S hr hk hR ih X hl hg
set_option maxHeartbeats 4000000 in
set_option maxRecDepth 100000 in
theorem w_J7_fill_53178_mach_timesCalled {σ : S5} {a1 : Int32} {H : Heap} {locs : List Loc} {ls : Array Slot} (S : CallFix p m c cJ7_fill_53178 4 s args uG RJ7) (hr : meth.sig.returnType = none) (hk : meth.locks = false) (hR : 0 ≤ R.frames ∧ 0 ≤ R.locals)
    (X : gX (dC, dI) (tK kc) (wK ad kc sa va) Z A s σ H locs) (hl : lv_has ls 4 [(0, .ref (ad 5)), (1, .int a1)]) (hg : f_J7_fill_53178_mach_timesCalled a1 σ = some (r, τ)) : W p l e R s m args below meth c H locs 0 0 (MQ below (gQv (dC, dI) (tK kc) (wK ad kc sa va) A r τ) args s 0 0 A) (F0 m 0 ls []) := by
  have hx := S.1
  have hb := S.2.1
  have hown := S.2.2.2.1
  have hu := S.2.2.2.2
  unfold f_J7_fill_53178_mach_timesCalled at hg
  refine lv_iconst (v := 0) hx hb dJ7_fill_53178_0 (by decide) ?_
  refine lv_istore_n (lv' := [(2, .int 0), (0, .ref (ad 5)), (1, .int a1)]) hx hb dJ7_fill_53178_1 rfl hl (by decide) rfl (fun ls hl => ?_)
  refine lv_aload_n hx hb dJ7_fill_53178_2 rfl (lv_at hl 1 rfl) ?_
  refine wknA_41 S X dJ7_fill_53178_3 ?_
  refine lv_istore_n (lv' := [(3, .int 630), (2, .int 0), (0, .ref (ad 5)), (1, .int a1)]) hx hb dJ7_fill_53178_4 rfl hl (by decide) rfl (fun ls hl => ?_)
  exact w_J7_fill_53178_mach_timesCalled_L5 S hr hk hR _ _ _ _ _ _ _ _ X (lv_sub hl [2, 3, 1, 0] rfl) hg
end MJ7_fill_53178_mach_timesCalled
set_option maxRecDepth 100000 in
theorem k2_J7_fill_53178_mach_timesCalled (l : Launch) (dC : Nat → ClassId) (dI : Nat → Nat → Nat) {Z : ZZ} (ad : Nat → Nat) (kc : Nat → ClassId) (sa va : Nat) {σ τ : S5} {a1 : Int32} {r : Unit} (hg : f_J7_fill_53178_mach_timesCalled a1 σ = some (r, τ)) (sz : Nat) : Met l yJ7_fill_53178 (Cond.code yJ7_fill_53178 cJ7_fill_53178 4 none :: uG) { frames := 0, cells := 0, slots := 0, locals := 0 } (gPc (dC, dI) (tK kc) (wK ad kc sa va) Z [.ref (ad 5), .int a1] σ sz) (gQv (dC, dI) (tK kc) (wK ad kc sa va) (va_A (wK ad kc sa va σ) sz) r τ) 0 0 (va_A (wK ad kc sa va σ) sz) :=
  g_start (by decide) (Nat.le_of_ble_eq_true rfl) (fun p e s m below meth c ls S hr hk X hl => w_J7_fill_53178_mach_timesCalled S hr hk ⟨Nat.le_refl _, Nat.le_refl _⟩ X hl hg)

