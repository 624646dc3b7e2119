
theorem mG_230 : Cond.initialized "java/lang/IllegalArgumentException" ∈ uG := uG_at 230 (by decide +kernel) (by decide +kernel)
theorem mG_231 : Cond.initialized "java/lang/UnsupportedOperationException" ∈ uG := uG_at 231 (by decide +kernel) (by decide +kernel)
theorem mG_244 : Cond.initialized "java/lang/IndexOutOfBoundsException" ∈ uG := uG_at 244 (by decide +kernel) (by decide +kernel)
theorem mG_246 : Cond.initialized "java/lang/IllegalStateException" ∈ uG := uG_at 246 (by decide +kernel) (by decide +kernel)
theorem mG_264 : Cond.fieldLink "LazyForge" 85 "LazyForge$Signs" "count" "I" ∈ uG := uG_at 264 (by decide +kernel) (by decide +kernel)
theorem mG_267 : Cond.fieldLink "LazyForge" 139 "LazyForge$Signs" "lost" "Z" ∈ uG := uG_at 267 (by decide +kernel) (by decide +kernel)
theorem mG_293 : Cond.fieldLink "LazyForge" 186 "LazyForge$Program" "constructors" "I" ∈ uG := uG_at 293 (by decide +kernel) (by decide +kernel)
theorem mG_303 : Cond.fieldLink "LazyForge" 130 "LazyForge$Program" "functions" "I" ∈ uG := uG_at 303 (by decide +kernel) (by decide +kernel)
theorem mG_313 : Cond.fieldLink "LazyForge" 153 "LazyForge$Program" "parameters" "[I" ∈ uG := uG_at 313 (by decide +kernel) (by decide +kernel)
theorem mG_543 : Cond.fieldLink "LazyForge" 113 "LazyForge$Reader" "faultKind" "I" ∈ uG := uG_at 543 (by decide +kernel) (by decide +kernel)
theorem mG_545 : Cond.fieldLink "LazyForge" 117 "LazyForge$Reader" "faultPlace" "I" ∈ uG := uG_at 545 (by decide +kernel) (by decide +kernel)
theorem mG_547 : Cond.fieldLink "LazyForge" 107 "LazyForge$Reader" "parts" "I" ∈ uG := uG_at 547 (by decide +kernel) (by decide +kernel)
theorem mG_579 : Cond.fieldLink "LazyForge" 121 "LazyForge$Lifter" "faultKind" "I" ∈ uG := uG_at 579 (by decide +kernel) (by decide +kernel)
theorem mG_581 : Cond.fieldLink "LazyForge" 122 "LazyForge$Lifter" "faultPlace" "I" ∈ uG := uG_at 581 (by decide +kernel) (by decide +kernel)
theorem mG_663 : Cond.fieldLink "LazyForge" 175 "LazyForge$Machine" "counts" "[I" ∈ uG := uG_at 663 (by decide +kernel) (by decide +kernel)
theorem mG_665 : Cond.fieldLink "LazyForge" 183 "LazyForge$Machine" "timesCalled" "[I" ∈ uG := uG_at 665 (by decide +kernel) (by decide +kernel)
theorem mG_667 : Cond.fieldLink "LazyForge" 180 "LazyForge$Machine" "row" "[I" ∈ uG := uG_at 667 (by decide +kernel) (by decide +kernel)
theorem mG_727 : Cond.fieldLink "LazyForge" 123 "LazyForge" "standing" "Z" ∈ uG := uG_at 727 (by decide +kernel) (by decide +kernel)
theorem mG_728 : Cond.fieldLink "LazyForge" 116 "LazyForge" "faultKind" "I" ∈ uG := uG_at 728 (by decide +kernel) (by decide +kernel)
theorem mG_730 : Cond.fieldLink "LazyForge" 98 "LazyForge" "partsEver" "I" ∈ uG := uG_at 730 (by decide +kernel) (by decide +kernel)
theorem mG_731 : Cond.fieldLink "LazyForge" 164 "LazyForge" "callsEver" "I" ∈ uG := uG_at 731 (by decide +kernel) (by decide +kernel)
theorem mG_732 : Cond.fieldLink "LazyForge" 168 "LazyForge" "cellsEver" "I" ∈ uG := uG_at 732 (by decide +kernel) (by decide +kernel)
theorem mG_768 : Cond.methodLink "LazyForge" 94 yX8_copy ∈ uG := uG_at 768 (by decide +kernel) (by decide +kernel)
theorem mG_769 : Cond.instanceMethod yX8_copy ∈ uG := uG_at 769 (by decide +kernel) (by decide +kernel)
theorem mG_770 : Cond.selects "LazyForge$Signs" yX8_copy yX8_copy ∈ uG := uG_at 770 (by decide +kernel) (by decide +kernel)
theorem mG_771 : Cond.code yX8_copy prog_10_method_8_code 3 none ∈ uG := uG_at 771 (by decide +kernel) (by decide +kernel)
theorem mG_789 : Cond.classLink "LazyForge" 82 "java/lang/IllegalArgumentException" ∈ uG := uG_at 789 (by decide +kernel) (by decide +kernel)
theorem mG_855 : Cond.classLink "LazyForge" 88 "java/lang/UnsupportedOperationException" ∈ uG := uG_at 855 (by decide +kernel) (by decide +kernel)
theorem mG_870 : Cond.methodLink "LazyForge" 91 yX8_add ∈ uG := uG_at 870 (by decide +kernel) (by decide +kernel)
theorem mG_885 : Cond.methodLink "LazyForge" 101 yX3_forget ∈ uG := uG_at 885 (by decide +kernel) (by decide +kernel)
theorem mG_892 : Cond.methodLink "LazyForge" 104 yX5_readText ∈ uG := uG_at 892 (by decide +kernel) (by decide +kernel)
theorem mG_893 : Cond.instanceMethod yX5_readText ∈ uG := uG_at 893 (by decide +kernel) (by decide +kernel)
theorem mG_894 : Cond.selects "LazyForge$Reader" yX5_readText yX5_readText ∈ uG := uG_at 894 (by decide +kernel) (by decide +kernel)
theorem mG_895 : Cond.code yX5_readText prog_7_method_2_code 2 none ∈ uG := uG_at 895 (by decide +kernel) (by decide +kernel)
theorem mG_1208 : Cond.methodLink "LazyForge" 110 yX8_clear ∈ uG := uG_at 1208 (by decide +kernel) (by decide +kernel)
theorem mG_1209 : Cond.methodLink "LazyForge" 118 yX2_lift ∈ uG := uG_at 1209 (by decide +kernel) (by decide +kernel)
theorem mG_1210 : Cond.instanceMethod yX2_lift ∈ uG := uG_at 1210 (by decide +kernel) (by decide +kernel)
theorem mG_1211 : Cond.selects "LazyForge$Lifter" yX2_lift yX2_lift ∈ uG := uG_at 1211 (by decide +kernel) (by decide +kernel)
theorem mG_1212 : Cond.code yX2_lift prog_4_method_2_code 1 none ∈ uG := uG_at 1212 (by decide +kernel) (by decide +kernel)
theorem mG_1314 : Cond.methodLink "LazyForge" 127 yX1_solve ∈ uG := uG_at 1314 (by decide +kernel) (by decide +kernel)
theorem mG_1315 : Cond.instanceMethod yX1_solve ∈ uG := uG_at 1315 (by decide +kernel) (by decide +kernel)
theorem mG_1316 : Cond.selects "LazyForge$Demand" yX1_solve yX1_solve ∈ uG := uG_at 1316 (by decide +kernel) (by decide +kernel)
theorem mG_1317 : Cond.code yX1_solve prog_3_method_3_code 4 none ∈ uG := uG_at 1317 (by decide +kernel) (by decide +kernel)
theorem mG_1627 : Cond.classLink "LazyForge" 133 "java/lang/IllegalStateException" ∈ uG := uG_at 1627 (by decide +kernel) (by decide +kernel)
theorem mG_1642 : Cond.methodLink "LazyForge" 136 yX7_writeProgram ∈ uG := uG_at 1642 (by decide +kernel) (by decide +kernel)
theorem mG_1643 : Cond.instanceMethod yX7_writeProgram ∈ uG := uG_at 1643 (by decide +kernel) (by decide +kernel)
theorem mG_1644 : Cond.selects "LazyForge$Scribe" yX7_writeProgram yX7_writeProgram ∈ uG := uG_at 1644 (by decide +kernel) (by decide +kernel)
theorem mG_1645 : Cond.code yX7_writeProgram prog_9_method_2_code 4 none ∈ uG := uG_at 1645 (by decide +kernel) (by decide +kernel)
theorem mG_1743 : Cond.classLink "LazyForge" 142 "java/lang/IndexOutOfBoundsException" ∈ uG := uG_at 1743 (by decide +kernel) (by decide +kernel)
theorem mG_1758 : Cond.methodLink "LazyForge" 145 yX8_signAt ∈ uG := uG_at 1758 (by decide +kernel) (by decide +kernel)
theorem mG_1766 : Cond.methodLink "LazyForge" 149 yX4_tell ∈ uG := uG_at 1766 (by decide +kernel) (by decide +kernel)
theorem mG_1767 : Cond.instanceMethod yX4_tell ∈ uG := uG_at 1767 (by decide +kernel) (by decide +kernel)
theorem mG_1768 : Cond.selects "LazyForge$Program" yX4_tell yX4_tell ∈ uG := uG_at 1768 (by decide +kernel) (by decide +kernel)
theorem mG_1769 : Cond.code yX4_tell prog_6_method_9_code 3 (some .int) ∈ uG := uG_at 1769 (by decide +kernel) (by decide +kernel)
theorem mG_1777 : Cond.methodLink "LazyForge" 157 yX4_needsParameter ∈ uG := uG_at 1777 (by decide +kernel) (by decide +kernel)
theorem mG_1788 : Cond.methodLink "LazyForge" 161 yX1_look ∈ uG := uG_at 1788 (by decide +kernel) (by decide +kernel)
theorem mG_1796 : Cond.constant "LazyForge" 167 150000 ∈ uG := uG_at 1796 (by decide +kernel) (by decide +kernel)
theorem mG_1797 : Cond.methodLink "LazyForge" 171 yX3_start ∈ uG := uG_at 1797 (by decide +kernel) (by decide +kernel)
theorem mG_1798 : Cond.instanceMethod yX3_start ∈ uG := uG_at 1798 (by decide +kernel) (by decide +kernel)
theorem mG_1799 : Cond.selects "LazyForge$Machine" yX3_start yX3_start ∈ uG := uG_at 1799 (by decide +kernel) (by decide +kernel)
theorem mG_1800 : Cond.code yX3_start prog_5_method_3_code 4 none ∈ uG := uG_at 1800 (by decide +kernel) (by decide +kernel)
theorem dX11_about_0 : decode cX11_about 0 = .ok (.iload_n 1, 1) := by decide +kernel
theorem dX11_about_1 : decode cX11_about 1 = .ok (.tableswitch 126 0 6 #[43, 62, 81, 100, 108, 116, 121], 43) := by decide +kernel
theorem dX11_about_44 : decode cX11_about 44 = .ok (.aload_n 0, 1) := by decide +kernel
theorem dX11_about_45 : decode cX11_about 45 = .ok (.getfield 123, 3) := by decide +kernel
theorem dX11_about_48 : decode cX11_about 48 = .ok (.ifCond .eq 13, 3) := by decide +kernel
theorem dX11_about_51 : decode cX11_about 51 = .ok (.aload_n 0, 1) := by decide +kernel
theorem dX11_about_52 : decode cX11_about 52 = .ok (.getfield 27, 3) := by decide +kernel
theorem dX11_about_55 : decode cX11_about 55 = .ok (.getfield 130, 3) := by decide +kernel
theorem dX11_about_58 : decode cX11_about 58 = .ok (.goto 4, 3) := by decide +kernel
theorem dX11_about_61 : decode cX11_about 61 = .ok (.iconst 0, 1) := by decide +kernel
theorem dX11_about_62 : decode cX11_about 62 = .ok (.ireturn, 1) := by decide +kernel
theorem dX11_about_63 : decode cX11_about 63 = .ok (.aload_n 0, 1) := by decide +kernel
theorem dX11_about_64 : decode cX11_about 64 = .ok (.getfield 123, 3) := by decide +kernel
theorem dX11_about_67 : decode cX11_about 67 = .ok (.ifCond .eq 13, 3) := by decide +kernel
theorem dX11_about_70 : decode cX11_about 70 = .ok (.aload_n 0, 1) := by decide +kernel
theorem dX11_about_71 : decode cX11_about 71 = .ok (.getfield 27, 3) := by decide +kernel
theorem dX11_about_74 : decode cX11_about 74 = .ok (.getfield 186, 3) := by decide +kernel
theorem dX11_about_77 : decode cX11_about 77 = .ok (.goto 4, 3) := by decide +kernel
theorem dX11_about_80 : decode cX11_about 80 = .ok (.iconst 0, 1) := by decide +kernel
theorem dX11_about_81 : decode cX11_about 81 = .ok (.ireturn, 1) := by decide +kernel
theorem dX11_about_82 : decode cX11_about 82 = .ok (.aload_n 0, 1) := by decide +kernel
theorem dX11_about_83 : decode cX11_about 83 = .ok (.getfield 123, 3) := by decide +kernel
theorem dX11_about_86 : decode cX11_about 86 = .ok (.ifCond .eq 13, 3) := by decide +kernel
theorem dX11_about_89 : decode cX11_about 89 = .ok (.aload_n 0, 1) := by decide +kernel
theorem dX11_about_90 : decode cX11_about 90 = .ok (.getfield 42, 3) := by decide +kernel
theorem dX11_about_93 : decode cX11_about 93 = .ok (.getfield 107, 3) := by decide +kernel
theorem dX11_about_96 : decode cX11_about 96 = .ok (.goto 4, 3) := by decide +kernel
theorem dX11_about_99 : decode cX11_about 99 = .ok (.iconst 0, 1) := by decide +kernel
theorem dX11_about_100 : decode cX11_about 100 = .ok (.ireturn, 1) := by decide +kernel
theorem dX11_about_101 : decode cX11_about 101 = .ok (.aload_n 0, 1) := by decide +kernel
theorem dX11_about_102 : decode cX11_about 102 = .ok (.getfield 14, 3) := by decide +kernel
theorem dX11_about_105 : decode cX11_about 105 = .ok (.getfield 85, 3) := by decide +kernel
theorem dX11_about_108 : decode cX11_about 108 = .ok (.ireturn, 1) := by decide +kernel
theorem dX11_about_109 : decode cX11_about 109 = .ok (.aload_n 0, 1) := by decide +kernel
theorem dX11_about_110 : decode cX11_about 110 = .ok (.getfield 18, 3) := by decide +kernel
theorem dX11_about_113 : decode cX11_about 113 = .ok (.getfield 85, 3) := by decide +kernel
theorem dX11_about_116 : decode cX11_about 116 = .ok (.ireturn, 1) := by decide +kernel
theorem dX11_about_117 : decode cX11_about 117 = .ok (.aload_n 0, 1) := by decide +kernel
theorem dX11_about_118 : decode cX11_about 118 = .ok (.getfield 164, 3) := by decide +kernel
theorem dX11_about_121 : decode cX11_about 121 = .ok (.ireturn, 1) := by decide +kernel
theorem dX11_about_122 : decode cX11_about 122 = .ok (.aload_n 0, 1) := by decide +kernel
theorem dX11_about_123 : decode cX11_about 123 = .ok (.getfield 168, 3) := by decide +kernel
theorem dX11_about_126 : decode cX11_about 126 = .ok (.ireturn, 1) := by decide +kernel
theorem dX11_about_127 : decode cX11_about 127 = .ok (.new 82, 3) := by decide +kernel
theorem dX11_about_130 : decode cX11_about 130 = .ok (.dup, 1) := by decide +kernel
theorem dX11_about_131 : decode cX11_about 131 = .ok (.invokespecial 84, 3) := by decide +kernel
theorem dX11_about_134 : decode cX11_about 134 = .ok (.athrow, 1) := by decide +kernel
theorem dX11_bit_0 : decode cX11_bit 0 = .ok (.aload_n 0, 1) := by decide +kernel
theorem dX11_bit_1 : decode cX11_bit 1 = .ok (.getfield 123, 3) := by decide +kernel
theorem dX11_bit_4 : decode cX11_bit 4 = .ok (.ifCond .ne 11, 3) := by decide +kernel
theorem dX11_bit_7 : decode cX11_bit 7 = .ok (.new 133, 3) := by decide +kernel
theorem dX11_bit_10 : decode cX11_bit 10 = .ok (.dup, 1) := by decide +kernel
theorem dX11_bit_11 : decode cX11_bit 11 = .ok (.invokespecial 135, 3) := by decide +kernel
theorem dX11_bit_14 : decode cX11_bit 14 = .ok (.athrow, 1) := by decide +kernel
theorem dX11_bit_15 : decode cX11_bit 15 = .ok (.iload_n 1, 1) := by decide +kernel
theorem dX11_bit_16 : decode cX11_bit 16 = .ok (.ifCond .lt 14, 3) := by decide +kernel
theorem dX11_bit_19 : decode cX11_bit 19 = .ok (.iload_n 1, 1) := by decide +kernel
theorem dX11_bit_20 : decode cX11_bit 20 = .ok (.aload_n 0, 1) := by decide +kernel
theorem dX11_bit_21 : decode cX11_bit 21 = .ok (.getfield 27, 3) := by decide +kernel
theorem dX11_bit_24 : decode cX11_bit 24 = .ok (.getfield 130, 3) := by decide +kernel
theorem dX11_bit_27 : decode cX11_bit 27 = .ok (.if_icmp .lt 11, 3) := by decide +kernel
theorem dX11_bit_30 : decode cX11_bit 30 = .ok (.new 142, 3) := by decide +kernel
theorem dX11_bit_33 : decode cX11_bit 33 = .ok (.dup, 1) := by decide +kernel
theorem dX11_bit_34 : decode cX11_bit 34 = .ok (.invokespecial 144, 3) := by decide +kernel
theorem dX11_bit_37 : decode cX11_bit 37 = .ok (.athrow, 1) := by decide +kernel
theorem dX11_bit_38 : decode cX11_bit 38 = .ok (.iload_n 2, 1) := by decide +kernel
theorem dX11_bit_39 : decode cX11_bit 39 = .ok (.ifCond .lt 18, 3) := by decide +kernel
theorem dX11_bit_42 : decode cX11_bit 42 = .ok (.iload_n 2, 1) := by decide +kernel
theorem dX11_bit_43 : decode cX11_bit 43 = .ok (.iconst 1, 1) := by decide +kernel
theorem dX11_bit_44 : decode cX11_bit 44 = .ok (.aload_n 0, 1) := by decide +kernel
theorem dX11_bit_45 : decode cX11_bit 45 = .ok (.getfield 27, 3) := by decide +kernel
theorem dX11_bit_48 : decode cX11_bit 48 = .ok (.getfield 153, 3) := by decide +kernel
theorem dX11_bit_51 : decode cX11_bit 51 = .ok (.iload_n 1, 1) := by decide +kernel
theorem dX11_bit_52 : decode cX11_bit 52 = .ok (.iaload, 1) := by decide +kernel
theorem dX11_bit_53 : decode cX11_bit 53 = .ok (.ishl, 1) := by decide +kernel
theorem dX11_bit_54 : decode cX11_bit 54 = .ok (.if_icmp .lt 11, 3) := by decide +kernel
theorem dX11_bit_57 : decode cX11_bit 57 = .ok (.new 82, 3) := by decide +kernel
theorem dX11_bit_60 : decode cX11_bit 60 = .ok (.dup, 1) := by decide +kernel
theorem dX11_bit_61 : decode cX11_bit 61 = .ok (.invokespecial 84, 3) := by decide +kernel
theorem dX11_bit_64 : decode cX11_bit 64 = .ok (.athrow, 1) := by decide +kernel
theorem dX11_bit_65 : decode cX11_bit 65 = .ok (.aload_n 0, 1) := by decide +kernel
theorem dX11_bit_66 : decode cX11_bit 66 = .ok (.getfield 60, 3) := by decide +kernel
theorem dX11_bit_69 : decode cX11_bit 69 = .ok (.iload_n 1, 1) := by decide +kernel
theorem dX11_bit_70 : decode cX11_bit 70 = .ok (.iload_n 2, 1) := by decide +kernel
theorem dX11_bit_71 : decode cX11_bit 71 = .ok (.invokevirtual 161, 3) := by decide +kernel
theorem dX11_bit_74 : decode cX11_bit 74 = .ok (.ireturn, 1) := by decide +kernel
theorem dX11_called_0 : decode cX11_called 0 = .ok (.aload_n 0, 1) := by decide +kernel
theorem dX11_called_1 : decode cX11_called 1 = .ok (.getfield 123, 3) := by decide +kernel
theorem dX11_called_4 : decode cX11_called 4 = .ok (.ifCond .ne 11, 3) := by decide +kernel
theorem dX11_called_7 : decode cX11_called 7 = .ok (.new 133, 3) := by decide +kernel
theorem dX11_called_10 : decode cX11_called 10 = .ok (.dup, 1) := by decide +kernel
theorem dX11_called_11 : decode cX11_called 11 = .ok (.invokespecial 135, 3) := by decide +kernel
theorem dX11_called_14 : decode cX11_called 14 = .ok (.athrow, 1) := by decide +kernel
theorem dX11_called_15 : decode cX11_called 15 = .ok (.iload_n 1, 1) := by decide +kernel
theorem dX11_called_16 : decode cX11_called 16 = .ok (.ifCond .lt 14, 3) := by decide +kernel
theorem dX11_called_19 : decode cX11_called 19 = .ok (.iload_n 1, 1) := by decide +kernel
theorem dX11_called_20 : decode cX11_called 20 = .ok (.aload_n 0, 1) := by decide +kernel
theorem dX11_called_21 : decode cX11_called 21 = .ok (.getfield 27, 3) := by decide +kernel
theorem dX11_called_24 : decode cX11_called 24 = .ok (.getfield 130, 3) := by decide +kernel
theorem dX11_called_27 : decode cX11_called 27 = .ok (.if_icmp .lt 11, 3) := by decide +kernel
theorem dX11_called_30 : decode cX11_called 30 = .ok (.new 142, 3) := by decide +kernel
theorem dX11_called_33 : decode cX11_called 33 = .ok (.dup, 1) := by decide +kernel
theorem dX11_called_34 : decode cX11_called 34 = .ok (.invokespecial 144, 3) := by decide +kernel
theorem dX11_called_37 : decode cX11_called 37 = .ok (.athrow, 1) := by decide +kernel
theorem dX11_called_38 : decode cX11_called 38 = .ok (.aload_n 0, 1) := by decide +kernel
theorem dX11_called_39 : decode cX11_called 39 = .ok (.getfield 74, 3) := by decide +kernel
theorem dX11_called_42 : decode cX11_called 42 = .ok (.getfield 183, 3) := by decide +kernel
theorem dX11_called_45 : decode cX11_called 45 = .ok (.iload_n 1, 1) := by decide +kernel
theorem dX11_called_46 : decode cX11_called 46 = .ok (.iaload, 1) := by decide +kernel
theorem dX11_called_47 : decode cX11_called 47 = .ok (.ireturn, 1) := by decide +kernel
theorem dX11_end_0 : decode cX11_end 0 = .ok (.iload_n 1, 1) := by decide +kernel
theorem dX11_end_1 : decode cX11_end 1 = .ok (.ifCond .lt 14, 3) := by decide +kernel
theorem dX11_end_4 : decode cX11_end 4 = .ok (.iload_n 1, 1) := by decide +kernel
theorem dX11_end_5 : decode cX11_end 5 = .ok (.aload_n 0, 1) := by decide +kernel
theorem dX11_end_6 : decode cX11_end 6 = .ok (.getfield 14, 3) := by decide +kernel
theorem dX11_end_9 : decode cX11_end 9 = .ok (.getfield 85, 3) := by decide +kernel
theorem dX11_end_12 : decode cX11_end 12 = .ok (.if_icmp .le 11, 3) := by decide +kernel
theorem dX11_end_15 : decode cX11_end 15 = .ok (.new 82, 3) := by decide +kernel
theorem dX11_end_18 : decode cX11_end 18 = .ok (.dup, 1) := by decide +kernel
theorem dX11_end_19 : decode cX11_end 19 = .ok (.invokespecial 84, 3) := by decide +kernel
theorem dX11_end_22 : decode cX11_end 22 = .ok (.athrow, 1) := by decide +kernel
theorem dX11_end_23 : decode cX11_end 23 = .ok (.aload_n 0, 1) := by decide +kernel
theorem dX11_end_24 : decode cX11_end 24 = .ok (.getfield 14, 3) := by decide +kernel
theorem dX11_end_27 : decode cX11_end 27 = .ok (.iload_n 1, 1) := by decide +kernel
theorem dX11_end_28 : decode cX11_end 28 = .ok (.putfield 85, 3) := by decide +kernel
theorem dX11_end_31 : decode cX11_end 31 = .ok (.return_, 1) := by decide +kernel
theorem dX11_fault_0 : decode cX11_fault 0 = .ok (.iload_n 1, 1) := by decide +kernel
theorem dX11_fault_1 : decode cX11_fault 1 = .ok (.ifCond .lt 8, 3) := by decide +kernel
theorem dX11_fault_4 : decode cX11_fault 4 = .ok (.iload_n 1, 1) := by decide +kernel
theorem dX11_fault_5 : decode cX11_fault 5 = .ok (.iconst 1, 1) := by decide +kernel
theorem dX11_fault_6 : decode cX11_fault 6 = .ok (.if_icmp .le 11, 3) := by decide +kernel
theorem dX11_fault_9 : decode cX11_fault 9 = .ok (.new 82, 3) := by decide +kernel
theorem dX11_fault_12 : decode cX11_fault 12 = .ok (.dup, 1) := by decide +kernel
theorem dX11_fault_13 : decode cX11_fault 13 = .ok (.invokespecial 84, 3) := by decide +kernel
theorem dX11_fault_16 : decode cX11_fault 16 = .ok (.athrow, 1) := by decide +kernel
theorem dX11_fault_17 : decode cX11_fault 17 = .ok (.iload_n 1, 1) := by decide +kernel
theorem dX11_fault_18 : decode cX11_fault 18 = .ok (.ifCond .ne 10, 3) := by decide +kernel
theorem dX11_fault_21 : decode cX11_fault 21 = .ok (.aload_n 0, 1) := by decide +kernel
theorem dX11_fault_22 : decode cX11_fault 22 = .ok (.getfield 116, 3) := by decide +kernel
theorem dX11_fault_25 : decode cX11_fault 25 = .ok (.goto 7, 3) := by decide +kernel
theorem dX11_fault_28 : decode cX11_fault 28 = .ok (.aload_n 0, 1) := by decide +kernel
theorem dX11_fault_29 : decode cX11_fault 29 = .ok (.getfield 78, 3) := by decide +kernel
theorem dX11_fault_32 : decode cX11_fault 32 = .ok (.ireturn, 1) := by decide +kernel
theorem dX11_function_0 : decode cX11_function 0 = .ok (.aload_n 0, 1) := by decide +kernel
theorem dX11_function_1 : decode cX11_function 1 = .ok (.getfield 123, 3) := by decide +kernel
theorem dX11_function_4 : decode cX11_function 4 = .ok (.ifCond .ne 11, 3) := by decide +kernel
theorem dX11_function_7 : decode cX11_function 7 = .ok (.new 133, 3) := by decide +kernel
theorem dX11_function_10 : decode cX11_function 10 = .ok (.dup, 1) := by decide +kernel
theorem dX11_function_11 : decode cX11_function 11 = .ok (.invokespecial 135, 3) := by decide +kernel
theorem dX11_function_14 : decode cX11_function 14 = .ok (.athrow, 1) := by decide +kernel
theorem dX11_function_15 : decode cX11_function 15 = .ok (.iload_n 1, 1) := by decide +kernel
theorem dX11_function_16 : decode cX11_function 16 = .ok (.ifCond .lt 14, 3) := by decide +kernel
theorem dX11_function_19 : decode cX11_function 19 = .ok (.iload_n 1, 1) := by decide +kernel
theorem dX11_function_20 : decode cX11_function 20 = .ok (.aload_n 0, 1) := by decide +kernel
theorem dX11_function_21 : decode cX11_function 21 = .ok (.getfield 27, 3) := by decide +kernel
theorem dX11_function_24 : decode cX11_function 24 = .ok (.getfield 130, 3) := by decide +kernel
theorem dX11_function_27 : decode cX11_function 27 = .ok (.if_icmp .lt 11, 3) := by decide +kernel
theorem dX11_function_30 : decode cX11_function 30 = .ok (.new 142, 3) := by decide +kernel
theorem dX11_function_33 : decode cX11_function 33 = .ok (.dup, 1) := by decide +kernel
theorem dX11_function_34 : decode cX11_function 34 = .ok (.invokespecial 144, 3) := by decide +kernel
theorem dX11_function_37 : decode cX11_function 37 = .ok (.athrow, 1) := by decide +kernel
theorem dX11_function_38 : decode cX11_function 38 = .ok (.iload_n 2, 1) := by decide +kernel
theorem dX11_function_39 : decode cX11_function 39 = .ok (.ifCond .lt 8, 3) := by decide +kernel
theorem dX11_function_42 : decode cX11_function 42 = .ok (.iload_n 2, 1) := by decide +kernel
theorem dX11_function_43 : decode cX11_function 43 = .ok (.iconst 5, 1) := by decide +kernel
theorem dX11_function_44 : decode cX11_function 44 = .ok (.if_icmp .le 11, 3) := by decide +kernel
theorem dX11_function_47 : decode cX11_function 47 = .ok (.new 82, 3) := by decide +kernel
theorem dX11_function_50 : decode cX11_function 50 = .ok (.dup, 1) := by decide +kernel
theorem dX11_function_51 : decode cX11_function 51 = .ok (.invokespecial 84, 3) := by decide +kernel
theorem dX11_function_54 : decode cX11_function 54 = .ok (.athrow, 1) := by decide +kernel
theorem dX11_function_55 : decode cX11_function 55 = .ok (.aload_n 0, 1) := by decide +kernel
theorem dX11_function_56 : decode cX11_function 56 = .ok (.getfield 27, 3) := by decide +kernel
theorem dX11_function_59 : decode cX11_function 59 = .ok (.iload_n 1, 1) := by decide +kernel
theorem dX11_function_60 : decode cX11_function 60 = .ok (.iload_n 2, 1) := by decide +kernel
theorem dX11_function_61 : decode cX11_function 61 = .ok (.invokevirtual 149, 3) := by decide +kernel
theorem dX11_function_64 : decode cX11_function 64 = .ok (.ireturn, 1) := by decide +kernel
theorem dX11_letter_0 : decode cX11_letter 0 = .ok (.iload_n 1, 1) := by decide +kernel
theorem dX11_letter_1 : decode cX11_letter 1 = .ok (.ifCond .ge 11, 3) := by decide +kernel
theorem dX11_letter_4 : decode cX11_letter 4 = .ok (.new 142, 3) := by decide +kernel
theorem dX11_letter_7 : decode cX11_letter 7 = .ok (.dup, 1) := by decide +kernel
theorem dX11_letter_8 : decode cX11_letter 8 = .ok (.invokespecial 144, 3) := by decide +kernel
theorem dX11_letter_11 : decode cX11_letter 11 = .ok (.athrow, 1) := by decide +kernel
theorem dX11_letter_12 : decode cX11_letter 12 = .ok (.aload_n 0, 1) := by decide +kernel
theorem dX11_letter_13 : decode cX11_letter 13 = .ok (.getfield 18, 3) := by decide +kernel
theorem dX11_letter_16 : decode cX11_letter 16 = .ok (.iload_n 1, 1) := by decide +kernel
theorem dX11_letter_17 : decode cX11_letter 17 = .ok (.invokevirtual 145, 3) := by decide +kernel
theorem dX11_letter_20 : decode cX11_letter 20 = .ok (.ireturn, 1) := by decide +kernel
theorem dX11_needs_0 : decode cX11_needs 0 = .ok (.aload_n 0, 1) := by decide +kernel
theorem dX11_needs_1 : decode cX11_needs 1 = .ok (.getfield 123, 3) := by decide +kernel
theorem dX11_needs_4 : decode cX11_needs 4 = .ok (.ifCond .ne 11, 3) := by decide +kernel
theorem dX11_needs_7 : decode cX11_needs 7 = .ok (.new 133, 3) := by decide +kernel
theorem dX11_needs_10 : decode cX11_needs 10 = .ok (.dup, 1) := by decide +kernel
theorem dX11_needs_11 : decode cX11_needs 11 = .ok (.invokespecial 135, 3) := by decide +kernel
theorem dX11_needs_14 : decode cX11_needs 14 = .ok (.athrow, 1) := by decide +kernel
theorem dX11_needs_15 : decode cX11_needs 15 = .ok (.iload_n 1, 1) := by decide +kernel
theorem dX11_needs_16 : decode cX11_needs 16 = .ok (.ifCond .lt 31, 3) := by decide +kernel
theorem dX11_needs_19 : decode cX11_needs 19 = .ok (.iload_n 1, 1) := by decide +kernel
theorem dX11_needs_20 : decode cX11_needs 20 = .ok (.aload_n 0, 1) := by decide +kernel
theorem dX11_needs_21 : decode cX11_needs 21 = .ok (.getfield 27, 3) := by decide +kernel
theorem dX11_needs_24 : decode cX11_needs 24 = .ok (.getfield 130, 3) := by decide +kernel
theorem dX11_needs_27 : decode cX11_needs 27 = .ok (.if_icmp .ge 20, 3) := by decide +kernel
theorem dX11_needs_30 : decode cX11_needs 30 = .ok (.iload_n 2, 1) := by decide +kernel
theorem dX11_needs_31 : decode cX11_needs 31 = .ok (.ifCond .lt 16, 3) := by decide +kernel
theorem dX11_needs_34 : decode cX11_needs 34 = .ok (.iload_n 2, 1) := by decide +kernel
theorem dX11_needs_35 : decode cX11_needs 35 = .ok (.aload_n 0, 1) := by decide +kernel
theorem dX11_needs_36 : decode cX11_needs 36 = .ok (.getfield 27, 3) := by decide +kernel
theorem dX11_needs_39 : decode cX11_needs 39 = .ok (.getfield 153, 3) := by decide +kernel
theorem dX11_needs_42 : decode cX11_needs 42 = .ok (.iload_n 1, 1) := by decide +kernel
theorem dX11_needs_43 : decode cX11_needs 43 = .ok (.iaload, 1) := by decide +kernel
theorem dX11_needs_44 : decode cX11_needs 44 = .ok (.if_icmp .lt 11, 3) := by decide +kernel
theorem dX11_needs_47 : decode cX11_needs 47 = .ok (.new 142, 3) := by decide +kernel
theorem dX11_needs_50 : decode cX11_needs 50 = .ok (.dup, 1) := by decide +kernel
theorem dX11_needs_51 : decode cX11_needs 51 = .ok (.invokespecial 144, 3) := by decide +kernel
theorem dX11_needs_54 : decode cX11_needs 54 = .ok (.athrow, 1) := by decide +kernel
theorem dX11_needs_55 : decode cX11_needs 55 = .ok (.aload_n 0, 1) := by decide +kernel
theorem dX11_needs_56 : decode cX11_needs 56 = .ok (.getfield 27, 3) := by decide +kernel
theorem dX11_needs_59 : decode cX11_needs 59 = .ok (.iload_n 1, 1) := by decide +kernel
theorem dX11_needs_60 : decode cX11_needs 60 = .ok (.iload_n 2, 1) := by decide +kernel
theorem dX11_needs_61 : decode cX11_needs 61 = .ok (.invokevirtual 157, 3) := by decide +kernel
theorem dX11_needs_64 : decode cX11_needs 64 = .ok (.ireturn, 1) := by decide +kernel
theorem dX11_number_0 : decode cX11_number 0 = .ok (.iload_n 1, 1) := by decide +kernel
theorem dX11_number_1 : decode cX11_number 1 = .ok (.ifCond .lt 17, 3) := by decide +kernel
theorem dX11_number_4 : decode cX11_number 4 = .ok (.iload_n 1, 1) := by decide +kernel
theorem dX11_number_5 : decode cX11_number 5 = .ok (.aload_n 0, 1) := by decide +kernel
theorem dX11_number_6 : decode cX11_number 6 = .ok (.getfield 74, 3) := by decide +kernel
theorem dX11_number_9 : decode cX11_number 9 = .ok (.getfield 175, 3) := by decide +kernel
theorem dX11_number_12 : decode cX11_number 12 = .ok (.bipush 9, 2) := by decide +kernel
theorem dX11_number_14 : decode cX11_number 14 = .ok (.iaload, 1) := by decide +kernel
theorem dX11_number_15 : decode cX11_number 15 = .ok (.if_icmp .lt 11, 3) := by decide +kernel
theorem dX11_number_18 : decode cX11_number 18 = .ok (.new 142, 3) := by decide +kernel
theorem dX11_number_21 : decode cX11_number 21 = .ok (.dup, 1) := by decide +kernel
theorem dX11_number_22 : decode cX11_number 22 = .ok (.invokespecial 144, 3) := by decide +kernel
theorem dX11_number_25 : decode cX11_number 25 = .ok (.athrow, 1) := by decide +kernel
theorem dX11_number_26 : decode cX11_number 26 = .ok (.aload_n 0, 1) := by decide +kernel
theorem dX11_number_27 : decode cX11_number 27 = .ok (.getfield 74, 3) := by decide +kernel
theorem dX11_number_30 : decode cX11_number 30 = .ok (.getfield 180, 3) := by decide +kernel
theorem dX11_number_33 : decode cX11_number 33 = .ok (.iload_n 1, 1) := by decide +kernel
theorem dX11_number_34 : decode cX11_number 34 = .ok (.iaload, 1) := by decide +kernel
theorem dX11_number_35 : decode cX11_number 35 = .ok (.ireturn, 1) := by decide +kernel
theorem dX11_program_0 : decode cX11_program 0 = .ok (.aload_n 0, 1) := by decide +kernel
theorem dX11_program_1 : decode cX11_program 1 = .ok (.getfield 98, 3) := by decide +kernel
theorem dX11_program_4 : decode cX11_program 4 = .ok (.sipush 20000, 3) := by decide +kernel
theorem dX11_program_7 : decode cX11_program 7 = .ok (.if_icmp .lt 11, 3) := by decide +kernel
theorem dX11_program_10 : decode cX11_program 10 = .ok (.new 88, 3) := by decide +kernel
theorem dX11_program_13 : decode cX11_program 13 = .ok (.dup, 1) := by decide +kernel
theorem dX11_program_14 : decode cX11_program 14 = .ok (.invokespecial 90, 3) := by decide +kernel
theorem dX11_program_17 : decode cX11_program 17 = .ok (.athrow, 1) := by decide +kernel
theorem dX11_program_18 : decode cX11_program 18 = .ok (.aload_n 0, 1) := by decide +kernel
theorem dX11_program_19 : decode cX11_program 19 = .ok (.getfield 74, 3) := by decide +kernel
theorem dX11_program_22 : decode cX11_program 22 = .ok (.invokevirtual 101, 3) := by decide +kernel
theorem dX11_program_25 : decode cX11_program 25 = .ok (.aload_n 0, 1) := by decide +kernel
theorem dX11_program_26 : decode cX11_program 26 = .ok (.getfield 42, 3) := by decide +kernel
theorem dX11_program_29 : decode cX11_program 29 = .ok (.invokevirtual 104, 3) := by decide +kernel
theorem dX11_program_32 : decode cX11_program 32 = .ok (.aload_n 0, 1) := by decide +kernel
theorem dX11_program_33 : decode cX11_program 33 = .ok (.dup, 1) := by decide +kernel
theorem dX11_program_34 : decode cX11_program 34 = .ok (.getfield 98, 3) := by decide +kernel
theorem dX11_program_37 : decode cX11_program 37 = .ok (.aload_n 0, 1) := by decide +kernel
theorem dX11_program_38 : decode cX11_program 38 = .ok (.getfield 42, 3) := by decide +kernel
theorem dX11_program_41 : decode cX11_program 41 = .ok (.getfield 107, 3) := by decide +kernel
theorem dX11_program_44 : decode cX11_program 44 = .ok (.iadd, 1) := by decide +kernel
theorem dX11_program_45 : decode cX11_program 45 = .ok (.putfield 98, 3) := by decide +kernel
theorem dX11_program_48 : decode cX11_program 48 = .ok (.aload_n 0, 1) := by decide +kernel
theorem dX11_program_49 : decode cX11_program 49 = .ok (.getfield 14, 3) := by decide +kernel
theorem dX11_program_52 : decode cX11_program 52 = .ok (.invokevirtual 110, 3) := by decide +kernel
theorem dX11_program_55 : decode cX11_program 55 = .ok (.aload_n 0, 1) := by decide +kernel
theorem dX11_program_56 : decode cX11_program 56 = .ok (.aload_n 0, 1) := by decide +kernel
theorem dX11_program_57 : decode cX11_program 57 = .ok (.getfield 42, 3) := by decide +kernel
theorem dX11_program_60 : decode cX11_program 60 = .ok (.getfield 113, 3) := by decide +kernel
theorem dX11_program_63 : decode cX11_program 63 = .ok (.putfield 116, 3) := by decide +kernel
theorem dX11_program_66 : decode cX11_program 66 = .ok (.aload_n 0, 1) := by decide +kernel
theorem dX11_program_67 : decode cX11_program 67 = .ok (.aload_n 0, 1) := by decide +kernel
theorem dX11_program_68 : decode cX11_program 68 = .ok (.getfield 42, 3) := by decide +kernel
theorem dX11_program_71 : decode cX11_program 71 = .ok (.getfield 117, 3) := by decide +kernel
theorem dX11_program_74 : decode cX11_program 74 = .ok (.putfield 78, 3) := by decide +kernel
theorem dX11_program_77 : decode cX11_program 77 = .ok (.aload_n 0, 1) := by decide +kernel
theorem dX11_program_78 : decode cX11_program 78 = .ok (.getfield 116, 3) := by decide +kernel
theorem dX11_program_81 : decode cX11_program 81 = .ok (.ifCond .ne 32, 3) := by decide +kernel
theorem dX11_program_84 : decode cX11_program 84 = .ok (.aload_n 0, 1) := by decide +kernel
theorem dX11_program_85 : decode cX11_program 85 = .ok (.getfield 51, 3) := by decide +kernel
theorem dX11_program_88 : decode cX11_program 88 = .ok (.invokevirtual 118, 3) := by decide +kernel
theorem dX11_program_91 : decode cX11_program 91 = .ok (.aload_n 0, 1) := by decide +kernel
theorem dX11_program_92 : decode cX11_program 92 = .ok (.aload_n 0, 1) := by decide +kernel
theorem dX11_program_93 : decode cX11_program 93 = .ok (.getfield 51, 3) := by decide +kernel
theorem dX11_program_96 : decode cX11_program 96 = .ok (.getfield 121, 3) := by decide +kernel
theorem dX11_program_99 : decode cX11_program 99 = .ok (.putfield 116, 3) := by decide +kernel
theorem dX11_program_102 : decode cX11_program 102 = .ok (.aload_n 0, 1) := by decide +kernel
theorem dX11_program_103 : decode cX11_program 103 = .ok (.aload_n 0, 1) := by decide +kernel
theorem dX11_program_104 : decode cX11_program 104 = .ok (.getfield 51, 3) := by decide +kernel
theorem dX11_program_107 : decode cX11_program 107 = .ok (.getfield 122, 3) := by decide +kernel
theorem dX11_program_110 : decode cX11_program 110 = .ok (.putfield 78, 3) := by decide +kernel
theorem dX11_program_113 : decode cX11_program 113 = .ok (.aload_n 0, 1) := by decide +kernel
theorem dX11_program_114 : decode cX11_program 114 = .ok (.aload_n 0, 1) := by decide +kernel
theorem dX11_program_115 : decode cX11_program 115 = .ok (.getfield 116, 3) := by decide +kernel
theorem dX11_program_118 : decode cX11_program 118 = .ok (.ifCond .ne 7, 3) := by decide +kernel
theorem dX11_program_121 : decode cX11_program 121 = .ok (.iconst 1, 1) := by decide +kernel
theorem dX11_program_122 : decode cX11_program 122 = .ok (.goto 4, 3) := by decide +kernel
theorem dX11_program_125 : decode cX11_program 125 = .ok (.iconst 0, 1) := by decide +kernel
theorem dX11_program_126 : decode cX11_program 126 = .ok (.putfield 123, 3) := by decide +kernel
theorem dX11_program_129 : decode cX11_program 129 = .ok (.aload_n 0, 1) := by decide +kernel
theorem dX11_program_130 : decode cX11_program 130 = .ok (.getfield 123, 3) := by decide +kernel
theorem dX11_program_133 : decode cX11_program 133 = .ok (.ifCond .ne 5, 3) := by decide +kernel
theorem dX11_program_136 : decode cX11_program 136 = .ok (.iconst (-1), 1) := by decide +kernel
theorem dX11_program_137 : decode cX11_program 137 = .ok (.ireturn, 1) := by decide +kernel
theorem dX11_program_138 : decode cX11_program 138 = .ok (.aload_n 0, 1) := by decide +kernel
theorem dX11_program_139 : decode cX11_program 139 = .ok (.getfield 60, 3) := by decide +kernel
theorem dX11_program_142 : decode cX11_program 142 = .ok (.invokevirtual 127, 3) := by decide +kernel
theorem dX11_program_145 : decode cX11_program 145 = .ok (.aload_n 0, 1) := by decide +kernel
theorem dX11_program_146 : decode cX11_program 146 = .ok (.getfield 27, 3) := by decide +kernel
theorem dX11_program_149 : decode cX11_program 149 = .ok (.getfield 130, 3) := by decide +kernel
theorem dX11_program_152 : decode cX11_program 152 = .ok (.ireturn, 1) := by decide +kernel
theorem dX11_put_0 : decode cX11_put 0 = .ok (.iconst 0, 1) := by decide +kernel
theorem dX11_put_1 : decode cX11_put 1 = .ok (.istore_n 2, 1) := by decide +kernel
theorem dX11_put_2 : decode cX11_put 2 = .ok (.iconst 0, 1) := by decide +kernel
theorem dX11_put_3 : decode cX11_put 3 = .ok (.istore_n 3, 1) := by decide +kernel
theorem dX11_put_4 : decode cX11_put 4 = .ok (.iload_n 3, 1) := by decide +kernel
theorem dX11_put_5 : decode cX11_put 5 = .ok (.iconst 4, 1) := by decide +kernel
theorem dX11_put_6 : decode cX11_put 6 = .ok (.if_icmp .ge 68, 3) := by decide +kernel
theorem dX11_put_9 : decode cX11_put 9 = .ok (.iload_n 1, 1) := by decide +kernel
theorem dX11_put_10 : decode cX11_put 10 = .ok (.bipush 8, 2) := by decide +kernel
theorem dX11_put_12 : decode cX11_put 12 = .ok (.iload_n 3, 1) := by decide +kernel
theorem dX11_put_13 : decode cX11_put 13 = .ok (.imul, 1) := by decide +kernel
theorem dX11_put_14 : decode cX11_put 14 = .ok (.iushr, 1) := by decide +kernel
theorem dX11_put_15 : decode cX11_put 15 = .ok (.sipush 255, 3) := by decide +kernel
theorem dX11_put_18 : decode cX11_put 18 = .ok (.iand, 1) := by decide +kernel
theorem dX11_put_19 : decode cX11_put 19 = .ok (.istore 4, 2) := by decide +kernel
theorem dX11_put_21 : decode cX11_put 21 = .ok (.iload 4, 2) := by decide +kernel
theorem dX11_put_23 : decode cX11_put 23 = .ok (.ifCond .eq 32, 3) := by decide +kernel
theorem dX11_put_26 : decode cX11_put 26 = .ok (.iload 4, 2) := by decide +kernel
theorem dX11_put_28 : decode cX11_put 28 = .ok (.bipush 10, 2) := by decide +kernel
theorem dX11_put_30 : decode cX11_put 30 = .ok (.if_icmp .eq 25, 3) := by decide +kernel
theorem dX11_put_33 : decode cX11_put 33 = .ok (.iload 4, 2) := by decide +kernel
theorem dX11_put_35 : decode cX11_put 35 = .ok (.bipush 32, 2) := by decide +kernel
theorem dX11_put_37 : decode cX11_put 37 = .ok (.if_icmp .lt 10, 3) := by decide +kernel
theorem dX11_put_40 : decode cX11_put 40 = .ok (.iload 4, 2) := by decide +kernel
theorem dX11_put_42 : decode cX11_put 42 = .ok (.bipush 126, 2) := by decide +kernel
theorem dX11_put_44 : decode cX11_put 44 = .ok (.if_icmp .le 11, 3) := by decide +kernel
theorem dX11_put_47 : decode cX11_put 47 = .ok (.new 82, 3) := by decide +kernel
theorem dX11_put_50 : decode cX11_put 50 = .ok (.dup, 1) := by decide +kernel
theorem dX11_put_51 : decode cX11_put 51 = .ok (.invokespecial 84, 3) := by decide +kernel
theorem dX11_put_54 : decode cX11_put 54 = .ok (.athrow, 1) := by decide +kernel
theorem dX11_put_55 : decode cX11_put 55 = .ok (.iload_n 2, 1) := by decide +kernel
theorem dX11_put_56 : decode cX11_put 56 = .ok (.iload 4, 2) := by decide +kernel
theorem dX11_put_58 : decode cX11_put 58 = .ok (.ifCond .ne 7, 3) := by decide +kernel
theorem dX11_put_61 : decode cX11_put 61 = .ok (.iconst 0, 1) := by decide +kernel
theorem dX11_put_62 : decode cX11_put 62 = .ok (.goto 4, 3) := by decide +kernel
theorem dX11_put_65 : decode cX11_put 65 = .ok (.iconst 1, 1) := by decide +kernel
theorem dX11_put_66 : decode cX11_put 66 = .ok (.iadd, 1) := by decide +kernel
theorem dX11_put_67 : decode cX11_put 67 = .ok (.istore_n 2, 1) := by decide +kernel
theorem dX11_put_68 : decode cX11_put 68 = .ok (.iinc 3 1, 3) := by decide +kernel
theorem dX11_put_71 : decode cX11_put 71 = .ok (.goto (-67), 3) := by decide +kernel
theorem dX11_put_74 : decode cX11_put 74 = .ok (.aload_n 0, 1) := by decide +kernel
theorem dX11_put_75 : decode cX11_put 75 = .ok (.getfield 14, 3) := by decide +kernel
theorem dX11_put_78 : decode cX11_put 78 = .ok (.getfield 85, 3) := by decide +kernel
theorem dX11_put_81 : decode cX11_put 81 = .ok (.iload_n 2, 1) := by decide +kernel
theorem dX11_put_82 : decode cX11_put 82 = .ok (.iadd, 1) := by decide +kernel
theorem dX11_put_83 : decode cX11_put 83 = .ok (.sipush 3000, 3) := by decide +kernel
theorem dX11_put_86 : decode cX11_put 86 = .ok (.if_icmp .le 11, 3) := by decide +kernel
theorem dX11_put_89 : decode cX11_put 89 = .ok (.new 88, 3) := by decide +kernel
theorem dX11_put_92 : decode cX11_put 92 = .ok (.dup, 1) := by decide +kernel
theorem dX11_put_93 : decode cX11_put 93 = .ok (.invokespecial 90, 3) := by decide +kernel
theorem dX11_put_96 : decode cX11_put 96 = .ok (.athrow, 1) := by decide +kernel
theorem dX11_put_97 : decode cX11_put 97 = .ok (.iconst 0, 1) := by decide +kernel
theorem dX11_put_98 : decode cX11_put 98 = .ok (.istore_n 3, 1) := by decide +kernel
theorem dX11_put_99 : decode cX11_put 99 = .ok (.iload_n 3, 1) := by decide +kernel
theorem dX11_put_100 : decode cX11_put 100 = .ok (.iconst 4, 1) := by decide +kernel
theorem dX11_put_101 : decode cX11_put 101 = .ok (.if_icmp .ge 35, 3) := by decide +kernel
theorem dX11_put_104 : decode cX11_put 104 = .ok (.iload_n 1, 1) := by decide +kernel
theorem dX11_put_105 : decode cX11_put 105 = .ok (.bipush 8, 2) := by decide +kernel
theorem dX11_put_107 : decode cX11_put 107 = .ok (.iload_n 3, 1) := by decide +kernel
theorem dX11_put_108 : decode cX11_put 108 = .ok (.imul, 1) := by decide +kernel
theorem dX11_put_109 : decode cX11_put 109 = .ok (.iushr, 1) := by decide +kernel
theorem dX11_put_110 : decode cX11_put 110 = .ok (.sipush 255, 3) := by decide +kernel
theorem dX11_put_113 : decode cX11_put 113 = .ok (.iand, 1) := by decide +kernel
theorem dX11_put_114 : decode cX11_put 114 = .ok (.istore 4, 2) := by decide +kernel
theorem dX11_put_116 : decode cX11_put 116 = .ok (.iload 4, 2) := by decide +kernel
theorem dX11_put_118 : decode cX11_put 118 = .ok (.ifCond .eq 12, 3) := by decide +kernel
theorem dX11_put_121 : decode cX11_put 121 = .ok (.aload_n 0, 1) := by decide +kernel
theorem dX11_put_122 : decode cX11_put 122 = .ok (.getfield 14, 3) := by decide +kernel
theorem dX11_put_125 : decode cX11_put 125 = .ok (.iload 4, 2) := by decide +kernel
theorem dX11_put_127 : decode cX11_put 127 = .ok (.invokevirtual 91, 3) := by decide +kernel
theorem dX11_put_130 : decode cX11_put 130 = .ok (.iinc 3 1, 3) := by decide +kernel
theorem dX11_put_133 : decode cX11_put 133 = .ok (.goto (-34), 3) := by decide +kernel
theorem dX11_put_136 : decode cX11_put 136 = .ok (.aload_n 0, 1) := by decide +kernel
theorem dX11_put_137 : decode cX11_put 137 = .ok (.getfield 14, 3) := by decide +kernel
theorem dX11_put_140 : decode cX11_put 140 = .ok (.getfield 85, 3) := by decide +kernel
theorem dX11_put_143 : decode cX11_put 143 = .ok (.ireturn, 1) := by decide +kernel
theorem dX11_result_0 : decode cX11_result 0 = .ok (.iload_n 1, 1) := by decide +kernel
theorem dX11_result_1 : decode cX11_result 1 = .ok (.ifCond .lt 9, 3) := by decide +kernel
theorem dX11_result_4 : decode cX11_result 4 = .ok (.iload_n 1, 1) := by decide +kernel
theorem dX11_result_5 : decode cX11_result 5 = .ok (.bipush 10, 2) := by decide +kernel
theorem dX11_result_7 : decode cX11_result 7 = .ok (.if_icmp .lt 11, 3) := by decide +kernel
theorem dX11_result_10 : decode cX11_result 10 = .ok (.new 82, 3) := by decide +kernel
theorem dX11_result_13 : decode cX11_result 13 = .ok (.dup, 1) := by decide +kernel
theorem dX11_result_14 : decode cX11_result 14 = .ok (.invokespecial 84, 3) := by decide +kernel
theorem dX11_result_17 : decode cX11_result 17 = .ok (.athrow, 1) := by decide +kernel
theorem dX11_result_18 : decode cX11_result 18 = .ok (.aload_n 0, 1) := by decide +kernel
theorem dX11_result_19 : decode cX11_result 19 = .ok (.getfield 74, 3) := by decide +kernel
theorem dX11_result_22 : decode cX11_result 22 = .ok (.getfield 175, 3) := by decide +kernel
theorem dX11_result_25 : decode cX11_result 25 = .ok (.iload_n 1, 1) := by decide +kernel
theorem dX11_result_26 : decode cX11_result 26 = .ok (.iaload, 1) := by decide +kernel
theorem dX11_result_27 : decode cX11_result 27 = .ok (.ireturn, 1) := by decide +kernel
theorem dX11_run_0 : decode cX11_run 0 = .ok (.aload_n 0, 1) := by decide +kernel
theorem dX11_run_1 : decode cX11_run 1 = .ok (.getfield 123, 3) := by decide +kernel
theorem dX11_run_4 : decode cX11_run 4 = .ok (.ifCond .ne 11, 3) := by decide +kernel
theorem dX11_run_7 : decode cX11_run 7 = .ok (.new 133, 3) := by decide +kernel
theorem dX11_run_10 : decode cX11_run 10 = .ok (.dup, 1) := by decide +kernel
theorem dX11_run_11 : decode cX11_run 11 = .ok (.invokespecial 135, 3) := by decide +kernel
theorem dX11_run_14 : decode cX11_run 14 = .ok (.athrow, 1) := by decide +kernel
theorem dX11_run_15 : decode cX11_run 15 = .ok (.iload_n 2, 1) := by decide +kernel
theorem dX11_run_16 : decode cX11_run 16 = .ok (.ifCond .lt 10, 3) := by decide +kernel
theorem dX11_run_19 : decode cX11_run 19 = .ok (.iload_n 2, 1) := by decide +kernel
theorem dX11_run_20 : decode cX11_run 20 = .ok (.sipush 800, 3) := by decide +kernel
theorem dX11_run_23 : decode cX11_run 23 = .ok (.if_icmp .le 11, 3) := by decide +kernel
theorem dX11_run_26 : decode cX11_run 26 = .ok (.new 82, 3) := by decide +kernel
theorem dX11_run_29 : decode cX11_run 29 = .ok (.dup, 1) := by decide +kernel
theorem dX11_run_30 : decode cX11_run 30 = .ok (.invokespecial 84, 3) := by decide +kernel
theorem dX11_run_33 : decode cX11_run 33 = .ok (.athrow, 1) := by decide +kernel
theorem dX11_run_34 : decode cX11_run 34 = .ok (.aload_n 0, 1) := by decide +kernel
theorem dX11_run_35 : decode cX11_run 35 = .ok (.getfield 164, 3) := by decide +kernel
theorem dX11_run_38 : decode cX11_run 38 = .ok (.ldc 167, 2) := by decide +kernel
theorem dX11_run_40 : decode cX11_run 40 = .ok (.if_icmp .ge 12, 3) := by decide +kernel
theorem dX11_run_43 : decode cX11_run 43 = .ok (.aload_n 0, 1) := by decide +kernel
theorem dX11_run_44 : decode cX11_run 44 = .ok (.getfield 168, 3) := by decide +kernel
theorem dX11_run_47 : decode cX11_run 47 = .ok (.ldc 167, 2) := by decide +kernel
theorem dX11_run_49 : decode cX11_run 49 = .ok (.if_icmp .lt 11, 3) := by decide +kernel
theorem dX11_run_52 : decode cX11_run 52 = .ok (.new 88, 3) := by decide +kernel
theorem dX11_run_55 : decode cX11_run 55 = .ok (.dup, 1) := by decide +kernel
theorem dX11_run_56 : decode cX11_run 56 = .ok (.invokespecial 90, 3) := by decide +kernel
theorem dX11_run_59 : decode cX11_run 59 = .ok (.athrow, 1) := by decide +kernel
theorem dX11_run_60 : decode cX11_run 60 = .ok (.aload_n 0, 1) := by decide +kernel
theorem dX11_run_61 : decode cX11_run 61 = .ok (.getfield 74, 3) := by decide +kernel
theorem dX11_run_64 : decode cX11_run 64 = .ok (.iload_n 1, 1) := by decide +kernel
theorem dX11_run_65 : decode cX11_run 65 = .ok (.iload_n 2, 1) := by decide +kernel
theorem dX11_run_66 : decode cX11_run 66 = .ok (.invokevirtual 171, 3) := by decide +kernel
theorem dX11_run_69 : decode cX11_run 69 = .ok (.aload_n 0, 1) := by decide +kernel
theorem dX11_run_70 : decode cX11_run 70 = .ok (.dup, 1) := by decide +kernel
theorem dX11_run_71 : decode cX11_run 71 = .ok (.getfield 164, 3) := by decide +kernel
theorem dX11_run_74 : decode cX11_run 74 = .ok (.aload_n 0, 1) := by decide +kernel
theorem dX11_run_75 : decode cX11_run 75 = .ok (.getfield 74, 3) := by decide +kernel
theorem dX11_run_78 : decode cX11_run 78 = .ok (.getfield 175, 3) := by decide +kernel
theorem dX11_run_81 : decode cX11_run 81 = .ok (.iconst 2, 1) := by decide +kernel
theorem dX11_run_82 : decode cX11_run 82 = .ok (.iaload, 1) := by decide +kernel
theorem dX11_run_83 : decode cX11_run 83 = .ok (.iadd, 1) := by decide +kernel
theorem dX11_run_84 : decode cX11_run 84 = .ok (.putfield 164, 3) := by decide +kernel
theorem dX11_run_87 : decode cX11_run 87 = .ok (.aload_n 0, 1) := by decide +kernel
theorem dX11_run_88 : decode cX11_run 88 = .ok (.dup, 1) := by decide +kernel
theorem dX11_run_89 : decode cX11_run 89 = .ok (.getfield 168, 3) := by decide +kernel
theorem dX11_run_92 : decode cX11_run 92 = .ok (.aload_n 0, 1) := by decide +kernel
theorem dX11_run_93 : decode cX11_run 93 = .ok (.getfield 74, 3) := by decide +kernel
theorem dX11_run_96 : decode cX11_run 96 = .ok (.getfield 175, 3) := by decide +kernel
theorem dX11_run_99 : decode cX11_run 99 = .ok (.iconst 3, 1) := by decide +kernel
theorem dX11_run_100 : decode cX11_run 100 = .ok (.iaload, 1) := by decide +kernel
theorem dX11_run_101 : decode cX11_run 101 = .ok (.iadd, 1) := by decide +kernel
theorem dX11_run_102 : decode cX11_run 102 = .ok (.putfield 168, 3) := by decide +kernel
theorem dX11_run_105 : decode cX11_run 105 = .ok (.aload_n 0, 1) := by decide +kernel
theorem dX11_run_106 : decode cX11_run 106 = .ok (.getfield 74, 3) := by decide +kernel
theorem dX11_run_109 : decode cX11_run 109 = .ok (.getfield 175, 3) := by decide +kernel
theorem dX11_run_112 : decode cX11_run 112 = .ok (.iconst 0, 1) := by decide +kernel
theorem dX11_run_113 : decode cX11_run 113 = .ok (.iaload, 1) := by decide +kernel
theorem dX11_run_114 : decode cX11_run 114 = .ok (.ireturn, 1) := by decide +kernel
theorem dX11_take_0 : decode cX11_take 0 = .ok (.aload_n 0, 1) := by decide +kernel
theorem dX11_take_1 : decode cX11_take 1 = .ok (.getfield 18, 3) := by decide +kernel
theorem dX11_take_4 : decode cX11_take 4 = .ok (.getfield 85, 3) := by decide +kernel
theorem dX11_take_7 : decode cX11_take 7 = .ok (.sipush 3000, 3) := by decide +kernel
theorem dX11_take_10 : decode cX11_take 10 = .ok (.if_icmp .le 5, 3) := by decide +kernel
theorem dX11_take_13 : decode cX11_take 13 = .ok (.iconst (-1), 1) := by decide +kernel
theorem dX11_take_14 : decode cX11_take 14 = .ok (.ireturn, 1) := by decide +kernel
theorem dX11_take_15 : decode cX11_take 15 = .ok (.aload_n 0, 1) := by decide +kernel
theorem dX11_take_16 : decode cX11_take 16 = .ok (.getfield 14, 3) := by decide +kernel
theorem dX11_take_19 : decode cX11_take 19 = .ok (.aload_n 0, 1) := by decide +kernel
theorem dX11_take_20 : decode cX11_take 20 = .ok (.getfield 18, 3) := by decide +kernel
theorem dX11_take_23 : decode cX11_take 23 = .ok (.invokevirtual 94, 3) := by decide +kernel
theorem dX11_take_26 : decode cX11_take 26 = .ok (.aload_n 0, 1) := by decide +kernel
theorem dX11_take_27 : decode cX11_take 27 = .ok (.getfield 14, 3) := by decide +kernel
theorem dX11_take_30 : decode cX11_take 30 = .ok (.getfield 85, 3) := by decide +kernel
theorem dX11_take_33 : decode cX11_take 33 = .ok (.ireturn, 1) := by decide +kernel
theorem dX11_write_0 : decode cX11_write 0 = .ok (.aload_n 0, 1) := by decide +kernel
theorem dX11_write_1 : decode cX11_write 1 = .ok (.getfield 123, 3) := by decide +kernel
theorem dX11_write_4 : decode cX11_write 4 = .ok (.ifCond .ne 11, 3) := by decide +kernel
theorem dX11_write_7 : decode cX11_write 7 = .ok (.new 133, 3) := by decide +kernel
theorem dX11_write_10 : decode cX11_write 10 = .ok (.dup, 1) := by decide +kernel
theorem dX11_write_11 : decode cX11_write 11 = .ok (.invokespecial 135, 3) := by decide +kernel
theorem dX11_write_14 : decode cX11_write 14 = .ok (.athrow, 1) := by decide +kernel
theorem dX11_write_15 : decode cX11_write 15 = .ok (.aload_n 0, 1) := by decide +kernel
theorem dX11_write_16 : decode cX11_write 16 = .ok (.getfield 21, 3) := by decide +kernel
theorem dX11_write_19 : decode cX11_write 19 = .ok (.invokevirtual 110, 3) := by decide +kernel
theorem dX11_write_22 : decode cX11_write 22 = .ok (.aload_n 0, 1) := by decide +kernel
theorem dX11_write_23 : decode cX11_write 23 = .ok (.getfield 67, 3) := by decide +kernel
theorem dX11_write_26 : decode cX11_write 26 = .ok (.aload_n 0, 1) := by decide +kernel
theorem dX11_write_27 : decode cX11_write 27 = .ok (.getfield 21, 3) := by decide +kernel
theorem dX11_write_30 : decode cX11_write 30 = .ok (.invokevirtual 136, 3) := by decide +kernel
theorem dX11_write_33 : decode cX11_write 33 = .ok (.aload_n 0, 1) := by decide +kernel
theorem dX11_write_34 : decode cX11_write 34 = .ok (.getfield 21, 3) := by decide +kernel
theorem dX11_write_37 : decode cX11_write 37 = .ok (.getfield 139, 3) := by decide +kernel
theorem dX11_write_40 : decode cX11_write 40 = .ok (.ifCond .eq 5, 3) := by decide +kernel
theorem dX11_write_43 : decode cX11_write 43 = .ok (.iconst (-1), 1) := by decide +kernel
theorem dX11_write_44 : decode cX11_write 44 = .ok (.ireturn, 1) := by decide +kernel
theorem dX11_write_45 : decode cX11_write 45 = .ok (.aload_n 0, 1) := by decide +kernel
theorem dX11_write_46 : decode cX11_write 46 = .ok (.getfield 18, 3) := by decide +kernel
theorem dX11_write_49 : decode cX11_write 49 = .ok (.astore_n 1, 1) := by decide +kernel
theorem dX11_write_50 : decode cX11_write 50 = .ok (.aload_n 0, 1) := by decide +kernel
theorem dX11_write_51 : decode cX11_write 51 = .ok (.aload_n 0, 1) := by decide +kernel
theorem dX11_write_52 : decode cX11_write 52 = .ok (.getfield 21, 3) := by decide +kernel
theorem dX11_write_55 : decode cX11_write 55 = .ok (.putfield 18, 3) := by decide +kernel
theorem dX11_write_58 : decode cX11_write 58 = .ok (.aload_n 0, 1) := by decide +kernel
theorem dX11_write_59 : decode cX11_write 59 = .ok (.aload_n 1, 1) := by decide +kernel
theorem dX11_write_60 : decode cX11_write 60 = .ok (.putfield 21, 3) := by decide +kernel
theorem dX11_write_63 : decode cX11_write 63 = .ok (.aload_n 0, 1) := by decide +kernel
theorem dX11_write_64 : decode cX11_write 64 = .ok (.getfield 18, 3) := by decide +kernel
theorem dX11_write_67 : decode cX11_write 67 = .ok (.getfield 85, 3) := by decide +kernel
theorem dX11_write_70 : decode cX11_write 70 = .ok (.ireturn, 1) := by decide +kernel
theorem cw_X1_solve : CWV yX1_solve cX1_solve 4 none RX1 0 := ⟨mG_1317, mG_1315, mG_1316, mG_222, by decide +kernel⟩
theorem cw_X2_lift : CWV yX2_lift cX2_lift 1 none RX2 0 := ⟨mG_1212, mG_1210, mG_1211, mG_221, by decide +kernel⟩
theorem cw_X3_start : CWV yX3_start cX3_start 4 none RX3 2 := ⟨mG_1800, mG_1798, mG_1799, mG_224, by decide +kernel⟩
theorem cw_X4_tell : CWV yX4_tell cX4_tell 3 (some .int) RX4 2 := ⟨mG_1769, mG_1767, mG_1768, mG_216, by decide +kernel⟩
theorem cw_X5_readText : CWV yX5_readText cX5_readText 2 none RX5 0 := ⟨mG_895, mG_893, mG_894, mG_219, by decide +kernel⟩
theorem cw_X7_writeProgram : CWV yX7_writeProgram cX7_writeProgram 4 none RX7 1 := ⟨mG_1645, mG_1643, mG_1644, mG_223, by decide +kernel⟩
theorem cw_X8_copy : CWV yX8_copy cX8_copy 3 none RX8 1 := ⟨mG_771, mG_769, mG_770, mG_215, by decide +kernel⟩
section MX11_put
variable {p : Program} {l : Launch} {e : Env} {R : Room} {s : State} {m : MethodId} {args : Array Value} {below : List Frame} {meth : Method} {c : Code} {dC : Nat → ClassId} {dI : Nat → Nat → Nat} {ak : Nat → Nat} {A : Nat → Prop} {x q9 : Nat} {ad : Nat → Nat} {kc : Nat → ClassId} {sv : Value} {sa va : Nat} {cells slots mc ms : Nat} {r : Int32 × Int32} {τ : S5}
set_option maxHeartbeats 4000000 in
set_option maxRecDepth 100000 in
theorem w_X11_put_b130 {σ : S5} {rec99 : Int32 → Int32 → S5 → Option ((Int32 × Int32) × S5)} {v1 : Int32} {v3 : Int32} {H : Heap} {locs : List Loc} {ls : Array Slot} (hlt : l.stackTraces = false) (S : CallFix p m c cX11_put 5 s args uG RX11) (hr : meth.sig.returnType = (some .int)) (hk : meth.locks = false) (hno : ∀ x ∈ c.exceptionTable.toList, False) (hR : 6 ≤ R.frames ∧ 90 ≤ R.locals) (hRc : mc ≤ R.cells ∧ ms ≤ R.slots) (hcs : cells + 1 ≤ mc ∧ slots + 6 ≤ ms)
    (hrec99 : ∀ (v1 : Int32) (v3 : Int32) (σ : S5) (H : Heap) (locs : List Loc) (ls : Array Slot), gX (dC, dI) (tF kc) (wF x q9 ad kc sv sa va) (zF ak) A s σ H locs → lv_has ls 5 [(0, .ref x), (1, .int v1), (3, .int v3)] → rec99 v1 v3 σ = some (r, τ) → W p l e R s m args below meth c H locs cells slots (vx_MQ below (gQx (dC, dI) x q9 A r τ) (uXB dC dI (wF x q9 ad kc sv sa va τ) (tF kc) A (cE r.1)) args s mc ms A) (F0 m 99 ls []))
    (X : gX (dC, dI) (tF kc) (wF x q9 ad kc sv sa va) (zF ak) A s σ H locs) (hl : lv_has ls 5 [(0, .ref x), (1, .int v1), (3, .int v3)]) (hg : f_X11_put_b130 rec99 v1 v3 σ = some (r, τ)) : W p l e R s m args below meth c H locs cells slots (vx_MQ below (gQx (dC, dI) x q9 A r τ) (uXB dC dI (wF x q9 ad kc sv sa va τ) (tF kc) A (cE r.1)) args s mc ms A) (F0 m 130 ls []) := by
  have hx := S.1
  have hb := S.2.1
  have hown := S.2.2.2.1
  have hu := S.2.2.2.2
  unfold f_X11_put_b130 at hg
  refine lv_iinc (v := (v3 + 1)) (lv' := [(3, .int (v3 + 1)), (0, .ref x), (1, .int v1)]) hx hb dX11_put_130 hl (k := 2) rfl (by rfl) (by decide) rfl (fun ls hl => ?_)
  refine lv_goto (tgt := 99) hx hb dX11_put_133 (by decide) ?_
  exact hrec99 _ _ _ _ _ _ X (lv_sub hl [1, 2, 0] rfl) hg
set_option maxHeartbeats 4000000 in
set_option maxRecDepth 100000 in
theorem w_X11_put_B99 {σ : S5} {rec99 : Int32 → Int32 → S5 → Option ((Int32 × Int32) × S5)} {v1 : Int32} {v3 : Int32} {H : Heap} {locs : List Loc} {ls : Array Slot} (hlt : l.stackTraces = false) (S : CallFix p m c cX11_put 5 s args uG RX11) (hr : meth.sig.returnType = (some .int)) (hk : meth.locks = false) (hno : ∀ x ∈ c.exceptionTable.toList, False) (hR : 6 ≤ R.frames ∧ 90 ≤ R.locals) (hRc : mc ≤ R.cells ∧ ms ≤ R.slots) (hcs : cells + 1 ≤ mc ∧ slots + 6 ≤ ms)
    (hrec99 : ∀ (v1 : Int32) (v3 : Int32) (σ : S5) (H : Heap) (locs : List Loc) (ls : Array Slot), gX (dC, dI) (tF kc) (wF x q9 ad kc sv sa va) (zF ak) A s σ H locs → lv_has ls 5 [(0, .ref x), (1, .int v1), (3, .int v3)] → rec99 v1 v3 σ = some (r, τ) → W p l e R s m args below meth c H locs cells slots (vx_MQ below (gQx (dC, dI) x q9 A r τ) (uXB dC dI (wF x q9 ad kc sv sa va τ) (tF kc) A (cE r.1)) args s mc ms A) (F0 m 99 ls []))
    (X : gX (dC, dI) (tF kc) (wF x q9 ad kc sv sa va) (zF ak) A s σ H locs) (hl : lv_has ls 5 [(0, .ref x), (1, .int v1), (3, .int v3)]) (hg : f_X11_put_B99 rec99 v1 v3 σ = some (r, τ)) : W p l e R s m args below meth c H locs cells slots (vx_MQ below (gQx (dC, dI) x q9 A r τ) (uXB dC dI (wF x q9 ad kc sv sa va τ) (tF kc) A (cE r.1)) args s mc ms A) (F0 m 99 ls []) := by
  have hx := S.1
  have hb := S.2.1
  have hown := S.2.2.2.1
  have hu := S.2.2.2.2
  unfold f_X11_put_B99 at hg
  refine lv_iload_n hx hb dX11_put_99 rfl (lv_at hl 2 rfl) ?_
  refine lv_iconst (v := 4) hx hb dX11_put_100 (by decide) ?_
  refine lv_icmp_ge (tgt := 136) hx hb dX11_put_101 (by decide) (fun c101 => ?_) (fun c101 => ?_)
  · have hg := (if_pos c101).symm.trans hg
    refine lv_aload_n hx hb dX11_put_136 rfl (lv_at hl 0 rfl) ?_
    refine wfgR_0_0 S X mG_718 dX11_put_137 ?_
    refine wfgI_0 (v := (gI σ 0)) S X mG_264 rfl dX11_put_140 ?_
    obtain ⟨rfl, rfl⟩ := fin_some hg
    exact grx_i S hr hk X (by omega) (by omega) dX11_put_143
  · have hg := (if_neg c101).symm.trans hg
    refine lv_iload_n hx hb dX11_put_104 rfl (lv_at hl 1 rfl) ?_
    refine lv_bipush (v := 8) hx hb dX11_put_105 (by decide) ?_
    refine lv_iload_n hx hb dX11_put_107 rfl (lv_at hl 2 rfl) ?_
    refine lv_imul hx hb dX11_put_108 ?_
    refine lv_iushr (v := (j_iushr v1 (8 * v3))) hx hb dX11_put_109 rfl ?_
    refine lv_sipush (v := 255) hx hb dX11_put_110 (by decide) ?_
    refine lv_iand hx hb dX11_put_113 ?_
    refine lv_istore (lv' := [(4, .int ((j_iushr v1 (8 * v3)) &&& 255)), (0, .ref x), (1, .int v1), (3, .int v3)]) hx hb dX11_put_114 hl (by decide) rfl (fun ls hl => ?_)
    refine lv_iload hx hb dX11_put_116 (lv_at hl 0 rfl) ?_
    refine lv_if_eq (tgt := 130) hx hb dX11_put_118 (by decide) (fun c118 => ?_) (fun c118 => ?_)
    · have hg := (if_pos c118).symm.trans hg
      exact w_X11_put_b130 hlt S hr hk hno hR hRc hcs hrec99 X (lv_sub hl [1, 2, 3] rfl) hg
    · have hg := (if_neg c118).symm.trans hg
      refine lv_aload_n hx hb dX11_put_121 rfl (lv_at hl 1 rfl) ?_
      refine wfgR_0_0 S X mG_718 dX11_put_122 ?_
      refine lv_iload hx hb dX11_put_125 (lv_at hl 0 rfl) ?_
      obtain ⟨r127, τ127, hq127, hg⟩ := bd_some hg
      refine gck_Vv (As := [.int ((j_iushr v1 (8 * v3)) &&& 255)]) (rest := []) (q0 := 4) (ci := 11) S X (k2_X8_add_text_F l dC dI x q9 ad kc sv sa va hq127 H.size) cw_X8_add mG_870 rfl rfl rfl rfl rfl hl.1 (Nat.le_of_ble_eq_true rfl) dX11_put_127 ⟨by omega, by omega⟩ ⟨by omega, by omega⟩ (fun H locs X => ?_)
      exact w_X11_put_b130 hlt S hr hk hno hR hRc hcs hrec99 X (lv_sub hl [1, 2, 3] rfl) hg
set_option maxHeartbeats 4000000 in
set_option maxRecDepth 100000 in
theorem w_X11_put_L99 (hlt : l.stackTraces = false) (S : CallFix p m c cX11_put 5 s args uG RX11) (hr : meth.sig.returnType = (some .int)) (hk : meth.locks = false) (hno : ∀ x ∈ c.exceptionTable.toList, False) (hR : 6 ≤ R.frames ∧ 90 ≤ R.locals) (hRc : mc ≤ R.cells ∧ ms ≤ R.slots) (hcs : cells + 1 ≤ mc ∧ slots + 6 ≤ ms) : ∀ (n : Nat) (v1 : Int32) (v3 : Int32) (σ : S5) (H : Heap) (locs : List Loc) (ls : Array Slot), gX (dC, dI) (tF kc) (wF x q9 ad kc sv sa va) (zF ak) A s σ H locs → lv_has ls 5 [(0, .ref x), (1, .int v1), (3, .int v3)] → f_X11_put_L99  n v1 v3 σ = some (r, τ) → W p l e R s m args below meth c H locs cells slots (vx_MQ below (gQx (dC, dI) x q9 A r τ) (uXB dC dI (wF x q9 ad kc sv sa va τ) (tF kc) A (cE r.1)) args s mc ms A) (F0 m 99 ls []) := by
  intro n
  induction n with
  | zero => intro v1 v3 σ H locs ls X hl hg; cases hg
  | succ n ih => intro v1 v3 σ H locs ls X hl hg; exact w_X11_put_B99 hlt S hr hk hno hR hRc hcs ih X hl hg
set_option maxHeartbeats 4000000 in
set_option maxRecDepth 100000 in
theorem w_X11_put_b66 {σ : S5} {rec4 : Int32 → Int32 → Int32 → S5 → Option ((Int32 × Int32) × S5)} {v1 : Int32} {v3 : Int32} {u0 : Int32} {u1 : Int32} {H : Heap} {locs : List Loc} {ls : Array Slot} (hlt : l.stackTraces = false) (S : CallFix p m c cX11_put 5 s args uG RX11) (hr : meth.sig.returnType = (some .int)) (hk : meth.locks = false) (hno : ∀ x ∈ c.exceptionTable.toList, False) (hR : 6 ≤ R.frames ∧ 90 ≤ R.locals) (hRc : mc ≤ R.cells ∧ ms ≤ R.slots) (hcs : cells + 1 ≤ mc ∧ slots + 6 ≤ ms)
    (hrec4 : ∀ (v1 : Int32) (v2 : Int32) (v3 : Int32) (σ : S5) (H : Heap) (locs : List Loc) (ls : Array Slot), gX (dC, dI) (tF kc) (wF x q9 ad kc sv sa va) (zF ak) A s σ H locs → lv_has ls 5 [(0, .ref x), (1, .int v1), (2, .int v2), (3, .int v3)] → rec4 v1 v2 v3 σ = some (r, τ) → W p l e R s m args below meth c H locs cells slots (vx_MQ below (gQx (dC, dI) x q9 A r τ) (uXB dC dI (wF x q9 ad kc sv sa va τ) (tF kc) A (cE r.1)) args s mc ms A) (F0 m 4 ls []))
    (X : gX (dC, dI) (tF kc) (wF x q9 ad kc sv sa va) (zF ak) A s σ H locs) (hl : lv_has ls 5 [(0, .ref x), (1, .int v1), (3, .int v3)]) (hg : f_X11_put_b66 rec4 v1 v3 u0 u1 σ = some (r, τ)) : W p l e R s m args below meth c H locs cells slots (vx_MQ below (gQx (dC, dI) x q9 A r τ) (uXB dC dI (wF x q9 ad kc sv sa va τ) (tF kc) A (cE r.1)) args s mc ms A) (F0 m 66 ls [.int u0, .int u1]) := by
  have hx := S.1
  have hb := S.2.1
  have hown := S.2.2.2.1
  have hu := S.2.2.2.2
  unfold f_X11_put_b66 at hg
  refine lv_iadd hx hb dX11_put_66 ?_
  refine lv_istore_n (lv' := [(2, .int (u1 + u0)), (0, .ref x), (1, .int v1), (3, .int v3)]) hx hb dX11_put_67 rfl hl (by decide) rfl (fun ls hl => ?_)
  refine lv_iinc (v := (v3 + 1)) (lv' := [(3, .int (v3 + 1)), (2, .int (u1 + u0)), (0, .ref x), (1, .int v1)]) hx hb dX11_put_68 hl (k := 3) rfl (by rfl) (by decide) rfl (fun ls hl => ?_)
  refine lv_goto (tgt := 4) hx hb dX11_put_71 (by decide) ?_
  exact hrec4 _ _ _ _ _ _ _ X (lv_sub hl [2, 3, 1, 0] rfl) hg
set_option maxHeartbeats 4000000 in
set_option maxRecDepth 100000 in
theorem w_X11_put_b55 {σ : S5} {rec4 : Int32 → Int32 → Int32 → S5 → Option ((Int32 × Int32) × S5)} {v1 : Int32} {v2 : Int32} {v3 : Int32} {v4 : Int32} {H : Heap} {locs : List Loc} {ls : Array Slot} (hlt : l.stackTraces = false) (S : CallFix p m c cX11_put 5 s args uG RX11) (hr : meth.sig.returnType = (some .int)) (hk : meth.locks = false) (hno : ∀ x ∈ c.exceptionTable.toList, False) (hR : 6 ≤ R.frames ∧ 90 ≤ R.locals) (hRc : mc ≤ R.cells ∧ ms ≤ R.slots) (hcs : cells + 1 ≤ mc ∧ slots + 6 ≤ ms)
    (hrec4 : ∀ (v1 : Int32) (v2 : Int32) (v3 : Int32) (σ : S5) (H : Heap) (locs : List Loc) (ls : Array Slot), gX (dC, dI) (tF kc) (wF x q9 ad kc sv sa va) (zF ak) A s σ H locs → lv_has ls 5 [(0, .ref x), (1, .int v1), (2, .int v2), (3, .int v3)] → rec4 v1 v2 v3 σ = some (r, τ) → W p l e R s m args below meth c H locs cells slots (vx_MQ below (gQx (dC, dI) x q9 A r τ) (uXB dC dI (wF x q9 ad kc sv sa va τ) (tF kc) A (cE r.1)) args s mc ms A) (F0 m 4 ls []))
    (X : gX (dC, dI) (tF kc) (wF x q9 ad kc sv sa va) (zF ak) A s σ H locs) (hl : lv_has ls 5 [(0, .ref x), (1, .int v1), (2, .int v2), (3, .int v3), (4, .int v4)]) (hg : f_X11_put_b55 rec4 v1 v2 v3 v4 σ = some (r, τ)) : W p l e R s m args below meth c H locs cells slots (vx_MQ below (gQx (dC, dI) x q9 A r τ) (uXB dC dI (wF x q9 ad kc sv sa va τ) (tF kc) A (cE r.1)) args s mc ms A) (F0 m 55 ls []) := by
  have hx := S.1
  have hb := S.2.1
  have hown := S.2.2.2.1
  have hu := S.2.2.2.2
  unfold f_X11_put_b55 at hg
  refine lv_iload_n hx hb dX11_put_55 rfl (lv_at hl 2 rfl) ?_
  refine lv_iload hx hb dX11_put_56 (lv_at hl 4 rfl) ?_
  refine lv_if_ne (tgt := 65) hx hb dX11_put_58 (by decide) (fun c58 => ?_) (fun c58 => ?_)
  · have hg := (if_neg c58).symm.trans hg
    refine lv_iconst (v := 1) hx hb dX11_put_65 (by decide) ?_
    exact w_X11_put_b66 hlt S hr hk hno hR hRc hcs hrec4 X (lv_sub hl [0, 1, 3] rfl) hg
  · have hg := (if_pos c58).symm.trans hg
    refine lv_iconst (v := 0) hx hb dX11_put_61 (by decide) ?_
    refine lv_goto (tgt := 66) hx hb dX11_put_62 (by decide) ?_
    exact w_X11_put_b66 hlt S hr hk hno hR hRc hcs hrec4 X (lv_sub hl [0, 1, 3] rfl) hg
set_option maxHeartbeats 4000000 in
set_option maxRecDepth 100000 in
theorem w_X11_put_B4 {σ : S5} {rec4 : Int32 → Int32 → Int32 → S5 → Option ((Int32 × Int32) × S5)} {v1 : Int32} {v2 : Int32} {v3 : Int32} {H : Heap} {locs : List Loc} {ls : Array Slot} (hlt : l.stackTraces = false) (S : CallFix p m c cX11_put 5 s args uG RX11) (hr : meth.sig.returnType = (some .int)) (hk : meth.locks = false) (hno : ∀ x ∈ c.exceptionTable.toList, False) (hR : 6 ≤ R.frames ∧ 90 ≤ R.locals) (hRc : mc ≤ R.cells ∧ ms ≤ R.slots) (hcs : cells + 1 ≤ mc ∧ slots + 6 ≤ ms)
    (hrec4 : ∀ (v1 : Int32) (v2 : Int32) (v3 : Int32) (σ : S5) (H : Heap) (locs : List Loc) (ls : Array Slot), gX (dC, dI) (tF kc) (wF x q9 ad kc sv sa va) (zF ak) A s σ H locs → lv_has ls 5 [(0, .ref x), (1, .int v1), (2, .int v2), (3, .int v3)] → rec4 v1 v2 v3 σ = some (r, τ) → W p l e R s m args below meth c H locs cells slots (vx_MQ below (gQx (dC, dI) x q9 A r τ) (uXB dC dI (wF x q9 ad kc sv sa va τ) (tF kc) A (cE r.1)) args s mc ms A) (F0 m 4 ls []))
    (X : gX (dC, dI) (tF kc) (wF x q9 ad kc sv sa va) (zF ak) A s σ H locs) (hl : lv_has ls 5 [(0, .ref x), (1, .int v1), (2, .int v2), (3, .int v3)]) (hg : f_X11_put_B4 rec4 v1 v2 v3 σ = some (r, τ)) : W p l e R s m args below meth c H locs cells slots (vx_MQ below (gQx (dC, dI) x q9 A r τ) (uXB dC dI (wF x q9 ad kc sv sa va τ) (tF kc) A (cE r.1)) args s mc ms A) (F0 m 4 ls []) := by
  have hx := S.1
  have hb := S.2.1
  have hown := S.2.2.2.1
  have hu := S.2.2.2.2
  unfold f_X11_put_B4 at hg
  refine lv_iload_n hx hb dX11_put_4 rfl (lv_at hl 3 rfl) ?_
  refine lv_iconst (v := 4) hx hb dX11_put_5 (by decide) ?_
  refine lv_icmp_ge (tgt := 74) hx hb dX11_put_6 (by decide) (fun c6 => ?_) (fun c6 => ?_)
  · have hg := (if_pos c6).symm.trans hg
    refine lv_aload_n hx hb dX11_put_74 rfl (lv_at hl 0 rfl) ?_
    refine wfgR_0_0 S X mG_718 dX11_put_75 ?_
    refine wfgI_0 (v := (gI σ 0)) S X mG_264 rfl dX11_put_78 ?_
    refine lv_iload_n hx hb dX11_put_81 rfl (lv_at hl 2 rfl) ?_
    refine lv_iadd hx hb dX11_put_82 ?_
    refine lv_sipush (v := 3000) hx hb dX11_put_83 (by decide) ?_
    refine lv_icmp_le (tgt := 97) hx hb dX11_put_86 (by decide) (fun c86 => ?_) (fun c86 => ?_)
    · have hg := (if_pos c86).symm.trans hg
      refine lv_iconst (v := 0) hx hb dX11_put_97 (by decide) ?_
      refine lv_istore_n (lv' := [(3, .int 0), (0, .ref x), (1, .int v1), (2, .int v2)]) hx hb dX11_put_98 rfl hl (by decide) rfl (fun ls hl => ?_)
      exact w_X11_put_L99 hlt S hr hk hno hR hRc hcs _ _ _ _ _ _ _ X (lv_sub hl [1, 2, 0] rfl) hg
    · have hg := (if_neg c86).symm.trans hg
      obtain ⟨rfl, rfl⟩ := fin_some hg
      exact ut_throw hx hb hlt hown (by decide +kernel) hu X.2.2.2.2.2.1.2.1 X.2.2.2.2.2.1.2.2.1 mG_855 mG_231 ul_UOE uo_UOE X.2.1 X.1 X.2.2.1 X.2.2.2.1 (hl.1.trans S.2.2.1.symm) hno dX11_put_89 dX11_put_92 dX11_put_93 dX11_put_96 (by omega) (show 0 + 81 ≤ R.locals by omega) (by omega) (by omega) hk (by omega) (by omega) (Or.inr (Or.inl ⟨rfl, rfl⟩))
  · have hg := (if_neg c6).symm.trans hg
    refine lv_iload_n hx hb dX11_put_9 rfl (lv_at hl 1 rfl) ?_
    refine lv_bipush (v := 8) hx hb dX11_put_10 (by decide) ?_
    refine lv_iload_n hx hb dX11_put_12 rfl (lv_at hl 3 rfl) ?_
    refine lv_imul hx hb dX11_put_13 ?_
    refine lv_iushr (v := (j_iushr v1 (8 * v3))) hx hb dX11_put_14 rfl ?_
    refine lv_sipush (v := 255) hx hb dX11_put_15 (by decide) ?_
    refine lv_iand hx hb dX11_put_18 ?_
    refine lv_istore (lv' := [(4, .int ((j_iushr v1 (8 * v3)) &&& 255)), (0, .ref x), (1, .int v1), (2, .int v2), (3, .int v3)]) hx hb dX11_put_19 hl (by decide) rfl (fun ls hl => ?_)
    refine lv_iload hx hb dX11_put_21 (lv_at hl 0 rfl) ?_
    refine lv_if_eq (tgt := 55) hx hb dX11_put_23 (by decide) (fun c23 => ?_) (fun c23 => ?_)
    · have hg := (if_pos c23).symm.trans hg
      exact w_X11_put_b55 hlt S hr hk hno hR hRc hcs hrec4 X (lv_sub hl [1, 2, 3, 4, 0] rfl) hg
    · have hg := (if_neg c23).symm.trans hg
      refine lv_iload hx hb dX11_put_26 (lv_at hl 0 rfl) ?_
      refine lv_bipush (v := 10) hx hb dX11_put_28 (by decide) ?_
      refine lv_icmp_eq (tgt := 55) hx hb dX11_put_30 (by decide) (fun c30 => ?_) (fun c30 => ?_)
      · have hg := (if_pos c30).symm.trans hg
        exact w_X11_put_b55 hlt S hr hk hno hR hRc hcs hrec4 X (lv_sub hl [1, 2, 3, 4, 0] rfl) hg
      · have hg := (if_neg c30).symm.trans hg
        refine lv_iload hx hb dX11_put_33 (lv_at hl 0 rfl) ?_
        refine lv_bipush (v := 32) hx hb dX11_put_35 (by decide) ?_
        refine lv_icmp_lt (tgt := 47) hx hb dX11_put_37 (by decide) (fun c37 => ?_) (fun c37 => ?_)
        · have hg := (if_pos c37).symm.trans hg
          obtain ⟨rfl, rfl⟩ := fin_some hg
          exact ut_throw hx hb hlt hown (by decide +kernel) hu X.2.2.2.2.2.1.2.1 X.2.2.2.2.2.1.2.2.1 mG_789 mG_230 ul_IAE uo_IAE X.2.1 X.1 X.2.2.1 X.2.2.2.1 (hl.1.trans S.2.2.1.symm) hno dX11_put_47 dX11_put_50 dX11_put_51 dX11_put_54 (by omega) (show 0 + 81 ≤ R.locals by omega) (by omega) (by omega) hk (by omega) (by omega) (Or.inl ⟨rfl, rfl⟩)
        · have hg := (if_neg c37).symm.trans hg
          refine lv_iload hx hb dX11_put_40 (lv_at hl 0 rfl) ?_
          refine lv_bipush (v := 126) hx hb dX11_put_42 (by decide) ?_
          refine lv_icmp_le (tgt := 55) hx hb dX11_put_44 (by decide) (fun c44 => ?_) (fun c44 => ?_)
          · have hg := (if_pos c44).symm.trans hg
            exact w_X11_put_b55 hlt S hr hk hno hR hRc hcs hrec4 X (lv_sub hl [1, 2, 3, 4, 0] rfl) hg
          · have hg := (if_neg c44).symm.trans hg
            obtain ⟨rfl, rfl⟩ := fin_some hg
            exact ut_throw hx hb hlt hown (by decide +kernel) hu X.2.2.2.2.2.1.2.1 X.2.2.2.2.2.1.2.2.1 mG_789 mG_230 ul_IAE uo_IAE X.2.1 X.1 X.2.2.1 X.2.2.2.1 (hl.1.trans S.2.2.1.symm) hno dX11_put_47 dX11_put_50 dX11_put_51 dX11_put_54 (by omega) (show 0 + 81 ≤ R.locals by omega) (by omega) (by omega) hk (by omega) (by omega) (Or.inl ⟨rfl, rfl⟩)
set_option maxHeartbeats 4000000 in
set_option maxRecDepth 100000 in
theorem w_X11_put_L4 (hlt : l.stackTraces = false) (S : CallFix p m c cX11_put 5 s args uG RX11) (hr : meth.sig.returnType = (some .int)) (hk : meth.locks = false) (hno : ∀ x ∈ c.exceptionTable.toList, False) (hR : 6 ≤ R.frames ∧ 90 ≤ R.locals) (hRc : mc ≤ R.cells ∧ ms ≤ R.slots) (hcs : cells + 1 ≤ mc ∧ slots + 6 ≤ ms) : ∀ (n : Nat) (v1 : Int32) (v2 : Int32) (v3 : Int32) (σ : S5) (H : Heap) (locs : List Loc) (ls : Array Slot), gX (dC, dI) (tF kc) (wF x q9 ad kc sv sa va) (zF ak) A s σ H locs → lv_has ls 5 [(0, .ref x), (1, .int v1), (2, .int v2), (3, .int v3)] → f_X11_put_L4  n v1 v2 v3 σ = some (r, τ) → W p l e R s m args below meth c H locs cells slots (vx_MQ below (gQx (dC, dI) x q9 A r τ) (uXB dC dI (wF x q9 ad kc sv sa va τ) (tF kc) A (cE r.1)) args s mc ms A) (F0 m 4 ls []) := by
  intro n
  induction n with
  | zero => intro v1 v2 v3 σ H locs ls X hl hg; cases hg
  | succ n ih => intro v1 v2 v3 σ H locs ls X hl hg; exact w_X11_put_B4 hlt S hr hk hno hR hRc hcs ih X hl hg
set_option maxHeartbeats 4000000 in
set_option maxRecDepth 100000 in
theorem w_X11_put {σ : S5} {a1 : Int32} {H : Heap} {locs : List Loc} {ls : Array Slot} (hlt : l.stackTraces = false) (S : CallFix p m c cX11_put 5 s args uG RX11) (hr : meth.sig.returnType = (some .int)) (hk : meth.locks = false) (hno : ∀ x ∈ c.exceptionTable.toList, False) (hR : 6 ≤ R.frames ∧ 90 ≤ R.locals) (hRc : mc ≤ R.cells ∧ ms ≤ R.slots) (hcs : cells + 1 ≤ mc ∧ slots + 6 ≤ ms)
    (X : gX (dC, dI) (tF kc) (wF x q9 ad kc sv sa va) (zF ak) A s σ H locs) (hl : lv_has ls 5 [(0, .ref x), (1, .int a1)]) (hg : f_X11_put a1 σ = some (r, τ)) : W p l e R s m args below meth c H locs cells slots (vx_MQ below (gQx (dC, dI) x q9 A r τ) (uXB dC dI (wF x q9 ad kc sv sa va τ) (tF kc) A (cE r.1)) args s mc ms A) (F0 m 0 ls []) := by
  have hx := S.1
  have hb := S.2.1
  have hown := S.2.2.2.1
  have hu := S.2.2.2.2
  unfold f_X11_put at hg
  refine lv_iconst (v := 0) hx hb dX11_put_0 (by decide) ?_
  refine lv_istore_n (lv' := [(2, .int 0), (0, .ref x), (1, .int a1)]) hx hb dX11_put_1 rfl hl (by decide) rfl (fun ls hl => ?_)
  refine lv_iconst (v := 0) hx hb dX11_put_2 (by decide) ?_
  refine lv_istore_n (lv' := [(3, .int 0), (2, .int 0), (0, .ref x), (1, .int a1)]) hx hb dX11_put_3 rfl hl (by decide) rfl (fun ls hl => ?_)
  exact w_X11_put_L4 hlt S hr hk hno hR hRc hcs _ _ _ _ _ _ _ _ X (lv_sub hl [2, 3, 1, 0] rfl) hg
end MX11_put
set_option maxRecDepth 100000 in
theorem k2_X11_put (l : Launch) (hlt : l.stackTraces = false) (dC : Nat → ClassId) (dI : Nat → Nat → Nat) {ak : Nat → Nat} (x q9 : Nat) (ad : Nat → Nat) (kc : Nat → ClassId) (sv : Value) (sa va : Nat) {σ τ : S5} {a1 : Int32} {r : Int32 × Int32} (hg : f_X11_put a1 σ = some (r, τ)) (sz : Nat) : vx_Met l yX11_put (Cond.code yX11_put cX11_put 5 (some .int) :: uG) { frames := 6, cells := 1, slots := 6, locals := 90 } (gPc (dC, dI) (tF kc) (wF x q9 ad kc sv sa va) (zF ak) [.ref x, .int a1] σ sz) (gQx (dC, dI) x q9 (va_A (wF x q9 ad kc sv sa va σ) sz) r τ) (uXB dC dI (wF x q9 ad kc sv sa va τ) (tF kc) (va_A (wF x q9 ad kc sv sa va σ) sz) (cE r.1)) 1 6 (va_A (wF x q9 ad kc sv sa va σ) sz) :=
  gx_start (by decide) (Nat.le_of_ble_eq_true rfl) (fun p e s m below meth c ls S hr hk hno X hl => w_X11_put hlt S hr hk hno ⟨Nat.le_refl _, Nat.le_refl _⟩ ⟨Nat.le_refl _, Nat.le_refl _⟩ ⟨by omega, by omega⟩ X hl hg)
section MX11_end
variable {p : Program} {l : Launch} {e : Env} {R : Room} {s : State} {m : MethodId} {args : Array Value} {below : List Frame} {meth : Method} {c : Code} {dC : Nat → ClassId} {dI : Nat → Nat → Nat} {ak : Nat → Nat} {A : Nat → Prop} {x q9 : Nat} {ad : Nat → Nat} {kc : Nat → ClassId} {sv : Value} {sa va : Nat} {cells slots mc ms : Nat} {r : Int32 × Int32} {τ : S5}
set_option maxHeartbeats 4000000 in
set_option maxRecDepth 100000 in
theorem w_X11_end {σ : S5} {a1 : Int32} {H : Heap} {locs : List Loc} {ls : Array Slot} (hlt : l.stackTraces = false) (S : CallFix p m c cX11_end 2 s args uG RX11) (hr : meth.sig.returnType = none) (hk : meth.locks = false) (hno : ∀ x ∈ c.exceptionTable.toList, False) (hR : 6 ≤ R.frames ∧ 90 ≤ R.locals) (hRc : mc ≤ R.cells ∧ ms ≤ R.slots) (hcs : cells + 1 ≤ mc ∧ slots + 6 ≤ ms)
    (X : gX (dC, dI) (tF kc) (wF x q9 ad kc sv sa va) (zF ak) A s σ H locs) (hl : lv_has ls 2 [(0, .ref x), (1, .int a1)]) (hg : f_X11_end a1 σ = some (r, τ)) : W p l e R s m args below meth c H locs cells slots (vx_MQ below (gQw (dC, dI) x q9 A r τ) (uXB dC dI (wF x q9 ad kc sv sa va τ) (tF kc) A (cE r.1)) args s mc ms A) (F0 m 0 ls []) := by
  have hx := S.1
  have hb := S.2.1
  have hown := S.2.2.2.1
  have hu := S.2.2.2.2
  unfold f_X11_end at hg
  refine lv_iload_n hx hb dX11_end_0 rfl (lv_at hl 1 rfl) ?_
  refine lv_if_lt (tgt := 15) hx hb dX11_end_1 (by decide) (fun c1 => ?_) (fun c1 => ?_)
  · have hg := (if_pos c1).symm.trans hg
    obtain ⟨rfl, rfl⟩ := fin_some hg
    exact ut_throw hx hb hlt hown (by decide +kernel) hu X.2.2.2.2.2.1.2.1 X.2.2.2.2.2.1.2.2.1 mG_789 mG_230 ul_IAE uo_IAE X.2.1 X.1 X.2.2.1 X.2.2.2.1 (hl.1.trans S.2.2.1.symm) hno dX11_end_15 dX11_end_18 dX11_end_19 dX11_end_22 (by omega) (show 0 + 81 ≤ R.locals by omega) (by omega) (by omega) hk (by omega) (by omega) (Or.inl ⟨rfl, rfl⟩)
  · have hg := (if_neg c1).symm.trans hg
    refine lv_iload_n hx hb dX11_end_4 rfl (lv_at hl 1 rfl) ?_
    refine lv_aload_n hx hb dX11_end_5 rfl (lv_at hl 0 rfl) ?_
    refine wfgR_0_0 S X mG_718 dX11_end_6 ?_
    refine wfgI_0 (v := (gI σ 0)) S X mG_264 rfl dX11_end_9 ?_
    refine lv_icmp_le (tgt := 23) hx hb dX11_end_12 (by decide) (fun c12 => ?_) (fun c12 => ?_)
    · have hg := (if_pos c12).symm.trans hg
      refine lv_aload_n hx hb dX11_end_23 rfl (lv_at hl 0 rfl) ?_
      refine wfgR_0_0 S X mG_718 dX11_end_24 ?_
      refine lv_iload_n hx hb dX11_end_27 rfl (lv_at hl 1 rfl) ?_
      refine wfpI_0 S X mG_264 dX11_end_28 (fun H locs X => ?_)
      obtain ⟨rfl, rfl⟩ := fin_some hg
      exact grx_v S hr hk X (by omega) (by omega) dX11_end_31
    · have hg := (if_neg c12).symm.trans hg
      obtain ⟨rfl, rfl⟩ := fin_some hg
      exact ut_throw hx hb hlt hown (by decide +kernel) hu X.2.2.2.2.2.1.2.1 X.2.2.2.2.2.1.2.2.1 mG_789 mG_230 ul_IAE uo_IAE X.2.1 X.1 X.2.2.1 X.2.2.2.1 (hl.1.trans S.2.2.1.symm) hno dX11_end_15 dX11_end_18 dX11_end_19 dX11_end_22 (by omega) (show 0 + 81 ≤ R.locals by omega) (by omega) (by omega) hk (by omega) (by omega) (Or.inl ⟨rfl, rfl⟩)
end MX11_end
set_option maxRecDepth 100000 in
theorem k2_X11_end (l : Launch) (hlt : l.stackTraces = false) (dC : Nat → ClassId) (dI : Nat → Nat → Nat) {ak : Nat → Nat} (x q9 : Nat) (ad : Nat → Nat) (kc : Nat → ClassId) (sv : Value) (sa va : Nat) {σ τ : S5} {a1 : Int32} {r : Int32 × Int32} (hg : f_X11_end a1 σ = some (r, τ)) (sz : Nat) : vx_Met l yX11_end (Cond.code yX11_end cX11_end 2 none :: uG) { frames := 6, cells := 1, slots := 6, locals := 90 } (gPc (dC, dI) (tF kc) (wF x q9 ad kc sv sa va) (zF ak) [.ref x, .int a1] σ sz) (gQw (dC, dI) x q9 (va_A (wF x q9 ad kc sv sa va σ) sz) r τ) (uXB dC dI (wF x q9 ad kc sv sa va τ) (tF kc) (va_A (wF x q9 ad kc sv sa va σ) sz) (cE r.1)) 1 6 (va_A (wF x q9 ad kc sv sa va σ) sz) :=
  gx_start (by decide) (Nat.le_of_ble_eq_true rfl) (fun p e s m below meth c ls S hr hk hno X hl => w_X11_end hlt S hr hk hno ⟨Nat.le_refl _, Nat.le_refl _⟩ ⟨Nat.le_refl _, Nat.le_refl _⟩ ⟨by omega, by omega⟩ X hl hg)
section MX11_take
variable {p : Program} {l : Launch} {e : Env} {R : Room} {s : State} {m : MethodId} {args : Array Value} {below : List Frame} {meth : Method} {c : Code} {dC : Nat → ClassId} {dI : Nat → Nat → Nat} {ak : Nat → Nat} {A : Nat → Prop} {x q9 : Nat} {ad : Nat → Nat} {kc : Nat → ClassId} {sv : Value} {sa va : Nat} {cells slots mc ms : Nat} {r : Int32 × Int32} {τ : S5}
set_option maxHeartbeats 4000000 in
set_option maxRecDepth 100000 in
theorem w_X11_take {σ : S5}  {H : Heap} {locs : List Loc} {ls : Array Slot} (hlt : l.stackTraces = false) (S : CallFix p m c cX11_take 1 s args uG RX11) (hr : meth.sig.returnType = (some .int)) (hk : meth.locks = false) (hno : ∀ x ∈ c.exceptionTable.toList, False) (hR : 6 ≤ R.frames ∧ 90 ≤ R.locals) (hRc : mc ≤ R.cells ∧ ms ≤ R.slots) (hcs : cells + 1 ≤ mc ∧ slots + 6 ≤ ms)
    (X : gX (dC, dI) (tF kc) (wF x q9 ad kc sv sa va) (zF ak) A s σ H locs) (hl : lv_has ls 1 [(0, .ref x)]) (hg : f_X11_take  σ = some (r, τ)) : W p l e R s m args below meth c H locs cells slots (vx_MQ below (gQx (dC, dI) x q9 A r τ) (uXB dC dI (wF x q9 ad kc sv sa va τ) (tF kc) A (cE r.1)) args s mc ms A) (F0 m 0 ls []) := by
  have hx := S.1
  have hb := S.2.1
  have hown := S.2.2.2.1
  have hu := S.2.2.2.2
  unfold f_X11_take at hg
  refine lv_aload_n hx hb dX11_take_0 rfl (lv_at hl 0 rfl) ?_
  refine wfgR_0_7 S X mG_725 dX11_take_1 ?_
  refine wfgI_66 (v := (gI σ 66)) S X mG_264 rfl dX11_take_4 ?_
  refine lv_sipush (v := 3000) hx hb dX11_take_7 (by decide) ?_
  refine lv_icmp_le (tgt := 15) hx hb dX11_take_10 (by decide) (fun c10 => ?_) (fun c10 => ?_)
  · have hg := (if_pos c10).symm.trans hg
    refine lv_aload_n hx hb dX11_take_15 rfl (lv_at hl 0 rfl) ?_
    refine wfgR_0_0 S X mG_718 dX11_take_16 ?_
    refine lv_aload_n hx hb dX11_take_19 rfl (lv_at hl 0 rfl) ?_
    refine wfgR_0_7 S X mG_725 dX11_take_20 ?_
    obtain ⟨r23, τ23, hq23, hg⟩ := bd_some hg
    refine gck_Vv (As := [.ref (ad 1)]) (rest := []) (q0 := 4) (ci := 11) S X (k2_X8_copy_text_out_F l dC dI x q9 ad kc sv sa va hq23 H.size) cw_X8_copy mG_768 rfl rfl rfl rfl rfl hl.1 (Nat.le_of_ble_eq_true rfl) dX11_take_23 ⟨by omega, by omega⟩ ⟨by omega, by omega⟩ (fun H locs X => ?_)
    refine lv_aload_n hx hb dX11_take_26 rfl (lv_at hl 0 rfl) ?_
    refine wfgR_0_0 S X mG_718 dX11_take_27 ?_
    refine wfgI_0 (v := (gI τ23 0)) S X mG_264 rfl dX11_take_30 ?_
    obtain ⟨rfl, rfl⟩ := fin_some hg
    exact grx_i S hr hk X (by omega) (by omega) dX11_take_33
  · have hg := (if_neg c10).symm.trans hg
    refine lv_iconst (v := (-1)) hx hb dX11_take_13 (by decide) ?_
    obtain ⟨rfl, rfl⟩ := fin_some hg
    exact grx_i S hr hk X (by omega) (by omega) dX11_take_14
end MX11_take
set_option maxRecDepth 100000 in
theorem k2_X11_take (l : Launch) (hlt : l.stackTraces = false) (dC : Nat → ClassId) (dI : Nat → Nat → Nat) {ak : Nat → Nat} (x q9 : Nat) (ad : Nat → Nat) (kc : Nat → ClassId) (sv : Value) (sa va : Nat) {σ τ : S5}  {r : Int32 × Int32} (hg : f_X11_take  σ = some (r, τ)) (sz : Nat) : vx_Met l yX11_take (Cond.code yX11_take cX11_take 1 (some .int) :: uG) { frames := 6, cells := 1, slots := 6, locals := 90 } (gPc (dC, dI) (tF kc) (wF x q9 ad kc sv sa va) (zF ak) [.ref x] σ sz) (gQx (dC, dI) x q9 (va_A (wF x q9 ad kc sv sa va σ) sz) r τ) (uXB dC dI (wF x q9 ad kc sv sa va τ) (tF kc) (va_A (wF x q9 ad kc sv sa va σ) sz) (cE r.1)) 1 6 (va_A (wF x q9 ad kc sv sa va σ) sz) :=
  gx_start (by decide) (Nat.le_of_ble_eq_true rfl) (fun p e s m below meth c ls S hr hk hno X hl => w_X11_take hlt S hr hk hno ⟨Nat.le_refl _, Nat.le_refl _⟩ ⟨Nat.le_refl _, Nat.le_refl _⟩ ⟨by omega, by omega⟩ X hl hg)
section MX11_fault
variable {p : Program} {l : Launch} {e : Env} {R : Room} {s : State} {m : MethodId} {args : Array Value} {below : List Frame} {meth : Method} {c : Code} {dC : Nat → ClassId} {dI : Nat → Nat → Nat} {ak : Nat → Nat} {A : Nat → Prop} {x q9 : Nat} {ad : Nat → Nat} {kc : Nat → ClassId} {sv : Value} {sa va : Nat} {cells slots mc ms : Nat} {r : Int32 × Int32} {τ : S5}
set_option maxHeartbeats 4000000 in
set_option maxRecDepth 100000 in
theorem w_X11_fault {σ : S5} {a1 : Int32} {H : Heap} {locs : List Loc} {ls : Array Slot} (hlt : l.stackTraces = false) (S : CallFix p m c cX11_fault 2 s args uG RX11) (hr : meth.sig.returnType = (some .int)) (hk : meth.locks = false) (hno : ∀ x ∈ c.exceptionTable.toList, False) (hR : 6 ≤ R.frames ∧ 90 ≤ R.locals) (hRc : mc ≤ R.cells ∧ ms ≤ R.slots) (hcs : cells + 1 ≤ mc ∧ slots + 6 ≤ ms)
    (X : gX (dC, dI) (tF kc) (wF x q9 ad kc sv sa va) (zF ak) A s σ H locs) (hl : lv_has ls 2 [(0, .ref x), (1, .int a1)]) (hg : f_X11_fault a1 σ = some (r, τ)) : W p l e R s m args below meth c H locs cells slots (vx_MQ below (gQx (dC, dI) x q9 A r τ) (uXB dC dI (wF x q9 ad kc sv sa va τ) (tF kc) A (cE r.1)) args s mc ms A) (F0 m 0 ls []) := by
  have hx := S.1
  have hb := S.2.1
  have hown := S.2.2.2.1
  have hu := S.2.2.2.2
  unfold f_X11_fault at hg
  refine lv_iload_n hx hb dX11_fault_0 rfl (lv_at hl 1 rfl) ?_
  refine lv_if_lt (tgt := 9) hx hb dX11_fault_1 (by decide) (fun c1 => ?_) (fun c1 => ?_)
  · have hg := (if_pos c1).symm.trans hg
    obtain ⟨rfl, rfl⟩ := fin_some hg
    exact ut_throw hx hb hlt hown (by decide +kernel) hu X.2.2.2.2.2.1.2.1 X.2.2.2.2.2.1.2.2.1 mG_789 mG_230 ul_IAE uo_IAE X.2.1 X.1 X.2.2.1 X.2.2.2.1 (hl.1.trans S.2.2.1.symm) hno dX11_fault_9 dX11_fault_12 dX11_fault_13 dX11_fault_16 (by omega) (show 0 + 81 ≤ R.locals by omega) (by omega) (by omega) hk (by omega) (by omega) (Or.inl ⟨rfl, rfl⟩)
  · have hg := (if_neg c1).symm.trans hg
    refine lv_iload_n hx hb dX11_fault_4 rfl (lv_at hl 1 rfl) ?_
    refine lv_iconst (v := 1) hx hb dX11_fault_5 (by decide) ?_
    refine lv_icmp_le (tgt := 17) hx hb dX11_fault_6 (by decide) (fun c6 => ?_) (fun c6 => ?_)
    · have hg := (if_pos c6).symm.trans hg
      refine lv_iload_n hx hb dX11_fault_17 rfl (lv_at hl 1 rfl) ?_
      refine lv_if_ne (tgt := 28) hx hb dX11_fault_18 (by decide) (fun c18 => ?_) (fun c18 => ?_)
      · have hg := (if_neg c18).symm.trans hg
        refine lv_aload_n hx hb dX11_fault_28 rfl (lv_at hl 0 rfl) ?_
        refine wfgI_62 (v := (gI σ 62)) S X mG_729 rfl dX11_fault_29 ?_
        obtain ⟨rfl, rfl⟩ := fin_some hg
        exact grx_i S hr hk X (by omega) (by omega) dX11_fault_32
      · have hg := (if_pos c18).symm.trans hg
        refine lv_aload_n hx hb dX11_fault_21 rfl (lv_at hl 0 rfl) ?_
        refine wfgI_61 (v := (gI σ 61)) S X mG_728 rfl dX11_fault_22 ?_
        refine lv_goto (tgt := 32) hx hb dX11_fault_25 (by decide) ?_
        obtain ⟨rfl, rfl⟩ := fin_some hg
        exact grx_i S hr hk X (by omega) (by omega) dX11_fault_32
    · have hg := (if_neg c6).symm.trans hg
      obtain ⟨rfl, rfl⟩ := fin_some hg
      exact ut_throw hx hb hlt hown (by decide +kernel) hu X.2.2.2.2.2.1.2.1 X.2.2.2.2.2.1.2.2.1 mG_789 mG_230 ul_IAE uo_IAE X.2.1 X.1 X.2.2.1 X.2.2.2.1 (hl.1.trans S.2.2.1.symm) hno dX11_fault_9 dX11_fault_12 dX11_fault_13 dX11_fault_16 (by omega) (show 0 + 81 ≤ R.locals by omega) (by omega) (by omega) hk (by omega) (by omega) (Or.inl ⟨rfl, rfl⟩)
end MX11_fault
set_option maxRecDepth 100000 in
theorem k2_X11_fault (l : Launch) (hlt : l.stackTraces = false) (dC : Nat → ClassId) (dI : Nat → Nat → Nat) {ak : Nat → Nat} (x q9 : Nat) (ad : Nat → Nat) (kc : Nat → ClassId) (sv : Value) (sa va : Nat) {σ τ : S5} {a1 : Int32} {r : Int32 × Int32} (hg : f_X11_fault a1 σ = some (r, τ)) (sz : Nat) : vx_Met l yX11_fault (Cond.code yX11_fault cX11_fault 2 (some .int) :: uG) { frames := 6, cells := 1, slots := 6, locals := 90 } (gPc (dC, dI) (tF kc) (wF x q9 ad kc sv sa va) (zF ak) [.ref x, .int a1] σ sz) (gQx (dC, dI) x q9 (va_A (wF x q9 ad kc sv sa va σ) sz) r τ) (uXB dC dI (wF x q9 ad kc sv sa va τ) (tF kc) (va_A (wF x q9 ad kc sv sa va σ) sz) (cE r.1)) 1 6 (va_A (wF x q9 ad kc sv sa va σ) sz) :=
  gx_start (by decide) (Nat.le_of_ble_eq_true rfl) (fun p e s m below meth c ls S hr hk hno X hl => w_X11_fault hlt S hr hk hno ⟨Nat.le_refl _, Nat.le_refl _⟩ ⟨Nat.le_refl _, Nat.le_refl _⟩ ⟨by omega, by omega⟩ X hl hg)
section MX11_letter
variable {p : Program} {l : Launch} {e : Env} {R : Room} {s : State} {m : MethodId} {args : Array Value} {below : List Frame} {meth : Method} {c : Code} {dC : Nat → ClassId} {dI : Nat → Nat → Nat} {ak : Nat → Nat} {A : Nat → Prop} {x q9 : Nat} {ad : Nat → Nat} {kc : Nat → ClassId} {sv : Value} {sa va : Nat} {cells slots mc ms : Nat} {r : Int32 × Int32} {τ : S5}
set_option maxHeartbeats 4000000 in
set_option maxRecDepth 100000 in
theorem w_X11_letter {σ : S5} {a1 : Int32} {H : Heap} {locs : List Loc} {ls : Array Slot} (hlt : l.stackTraces = false) (S : CallFix p m c cX11_letter 2 s args uG RX11) (hr : meth.sig.returnType = (some .int)) (hk : meth.locks = false) (hno : ∀ x ∈ c.exceptionTable.toList, False) (hR : 6 ≤ R.frames ∧ 90 ≤ R.locals) (hRc : mc ≤ R.cells ∧ ms ≤ R.slots) (hcs : cells + 1 ≤ mc ∧ slots + 6 ≤ ms)
    (X : gX (dC, dI) (tF kc) (wF x q9 ad kc sv sa va) (zF ak) A s σ H locs) (hl : lv_has ls 2 [(0, .ref x), (1, .int a1)]) (hg : f_X11_letter a1 σ = some (r, τ)) : W p l e R s m args below meth c H locs cells slots (vx_MQ below (gQx (dC, dI) x q9 A r τ) (uXB dC dI (wF x q9 ad kc sv sa va τ) (tF kc) A (cE r.1)) args s mc ms A) (F0 m 0 ls []) := by
  have hx := S.1
  have hb := S.2.1
  have hown := S.2.2.2.1
  have hu := S.2.2.2.2
  unfold f_X11_letter at hg
  refine lv_iload_n hx hb dX11_letter_0 rfl (lv_at hl 1 rfl) ?_
  refine lv_if_ge (tgt := 12) hx hb dX11_letter_1 (by decide) (fun c1 => ?_) (fun c1 => ?_)
  · have hg := (if_pos c1).symm.trans hg
    refine lv_aload_n hx hb dX11_letter_12 rfl (lv_at hl 0 rfl) ?_
    refine wfgR_0_7 S X mG_725 dX11_letter_13 ?_
    refine lv_iload_n hx hb dX11_letter_16 rfl (lv_at hl 1 rfl) ?_
    obtain ⟨r17, τ17, hq17, hg⟩ := bd_some hg
    refine gck_Vi (As := [.int a1]) (rest := []) (q0 := 1) (ci := 11) S X (k2_X8_signAt_out_F l dC dI x q9 ad kc sv sa va hq17 H.size) cw_X8_signAt mG_1758 rfl rfl rfl rfl rfl hl.1 (Nat.le_of_ble_eq_true rfl) dX11_letter_17 ⟨by omega, by omega⟩ ⟨by omega, by omega⟩ (fun H locs X => ?_)
    obtain ⟨rfl, rfl⟩ := fin_some hg
    exact grx_i S hr hk X (by omega) (by omega) dX11_letter_20
  · have hg := (if_neg c1).symm.trans hg
    obtain ⟨rfl, rfl⟩ := fin_some hg
    exact ut_throw hx hb hlt hown (by decide +kernel) hu X.2.2.2.2.2.1.2.1 X.2.2.2.2.2.1.2.2.1 mG_1743 mG_244 ul_IOB uo_IOB X.2.1 X.1 X.2.2.1 X.2.2.2.1 (hl.1.trans S.2.2.1.symm) hno dX11_letter_4 dX11_letter_7 dX11_letter_8 dX11_letter_11 (by omega) (show 0 + 81 ≤ R.locals by omega) (by omega) (by omega) hk (by omega) (by omega) (Or.inr (Or.inr (Or.inr ⟨rfl, rfl⟩)))
end MX11_letter
set_option maxRecDepth 100000 in
theorem k2_X11_letter (l : Launch) (hlt : l.stackTraces = false) (dC : Nat → ClassId) (dI : Nat → Nat → Nat) {ak : Nat → Nat} (x q9 : Nat) (ad : Nat → Nat) (kc : Nat → ClassId) (sv : Value) (sa va : Nat) {σ τ : S5} {a1 : Int32} {r : Int32 × Int32} (hg : f_X11_letter a1 σ = some (r, τ)) (sz : Nat) : vx_Met l yX11_letter (Cond.code yX11_letter cX11_letter 2 (some .int) :: uG) { frames := 6, cells := 1, slots := 6, locals := 90 } (gPc (dC, dI) (tF kc) (wF x q9 ad kc sv sa va) (zF ak) [.ref x, .int a1] σ sz) (gQx (dC, dI) x q9 (va_A (wF x q9 ad kc sv sa va σ) sz) r τ) (uXB dC dI (wF x q9 ad kc sv sa va τ) (tF kc) (va_A (wF x q9 ad kc sv sa va σ) sz) (cE r.1)) 1 6 (va_A (wF x q9 ad kc sv sa va σ) sz) :=
  gx_start (by decide) (Nat.le_of_ble_eq_true rfl) (fun p e s m below meth c ls S hr hk hno X hl => w_X11_letter hlt S hr hk hno ⟨Nat.le_refl _, Nat.le_refl _⟩ ⟨Nat.le_refl _, Nat.le_refl _⟩ ⟨by omega, by omega⟩ X hl hg)
section MX11_function
variable {p : Program} {l : Launch} {e : Env} {R : Room} {s : State} {m : MethodId} {args : Array Value} {below : List Frame} {meth : Method} {c : Code} {dC : Nat → ClassId} {dI : Nat → Nat → Nat} {ak : Nat → Nat} {A : Nat → Prop} {x q9 : Nat} {ad : Nat → Nat} {kc : Nat → ClassId} {sv : Value} {sa va : Nat} {cells slots mc ms : Nat} {r : Int32 × Int32} {τ : S5}
set_option maxHeartbeats 4000000 in
set_option maxRecDepth 100000 in
theorem w_X11_function {σ : S5} {a1 : Int32} {a2 : Int32} {H : Heap} {locs : List Loc} {ls : Array Slot} (hlt : l.stackTraces = false) (S : CallFix p m c cX11_function 3 s args uG RX11) (hr : meth.sig.returnType = (some .int)) (hk : meth.locks = false) (hno : ∀ x ∈ c.exceptionTable.toList, False) (hR : 6 ≤ R.frames ∧ 90 ≤ R.locals) (hRc : mc ≤ R.cells ∧ ms ≤ R.slots) (hcs : cells + 1 ≤ mc ∧ slots + 6 ≤ ms)
    (X : gX (dC, dI) (tF kc) (wF x q9 ad kc sv sa va) (zF ak) A s σ H locs) (hl : lv_has ls 3 [(0, .ref x), (1, .int a1), (2, .int a2)]) (hg : f_X11_function a1 a2 σ = some (r, τ)) : W p l e R s m args below meth c H locs cells slots (vx_MQ below (gQx (dC, dI) x q9 A r τ) (uXB dC dI (wF x q9 ad kc sv sa va τ) (tF kc) A (cE r.1)) args s mc ms A) (F0 m 0 ls []) := by
  have hx := S.1
  have hb := S.2.1
  have hown := S.2.2.2.1
  have hu := S.2.2.2.2
  unfold f_X11_function at hg
  refine lv_aload_n hx hb dX11_function_0 rfl (lv_at hl 0 rfl) ?_
  refine wfgI_60 (v := (gI σ 60)) S X mG_727 rfl dX11_function_1 ?_
  refine lv_if_ne (tgt := 15) hx hb dX11_function_4 (by decide) (fun c4 => ?_) (fun c4 => ?_)
  · have hg := (if_neg c4).symm.trans hg
    refine lv_iload_n hx hb dX11_function_15 rfl (lv_at hl 1 rfl) ?_
    refine lv_if_lt (tgt := 30) hx hb dX11_function_16 (by decide) (fun c16 => ?_) (fun c16 => ?_)
    · have hg := (if_pos c16).symm.trans hg
      obtain ⟨rfl, rfl⟩ := fin_some hg
      exact ut_throw hx hb hlt hown (by decide +kernel) hu X.2.2.2.2.2.1.2.1 X.2.2.2.2.2.1.2.2.1 mG_1743 mG_244 ul_IOB uo_IOB X.2.1 X.1 X.2.2.1 X.2.2.2.1 (hl.1.trans S.2.2.1.symm) hno dX11_function_30 dX11_function_33 dX11_function_34 dX11_function_37 (by omega) (show 0 + 81 ≤ R.locals by omega) (by omega) (by omega) hk (by omega) (by omega) (Or.inr (Or.inr (Or.inr ⟨rfl, rfl⟩)))
    · have hg := (if_neg c16).symm.trans hg
      refine lv_iload_n hx hb dX11_function_19 rfl (lv_at hl 1 rfl) ?_
      refine lv_aload_n hx hb dX11_function_20 rfl (lv_at hl 0 rfl) ?_
      refine wfgR_0_1 S X mG_719 dX11_function_21 ?_
      refine wfgI_6 (v := (gI σ 6)) S X mG_303 rfl dX11_function_24 ?_
      refine lv_icmp_lt (tgt := 38) hx hb dX11_function_27 (by decide) (fun c27 => ?_) (fun c27 => ?_)
      · have hg := (if_pos c27).symm.trans hg
        refine lv_iload_n hx hb dX11_function_38 rfl (lv_at hl 2 rfl) ?_
        refine lv_if_lt (tgt := 47) hx hb dX11_function_39 (by decide) (fun c39 => ?_) (fun c39 => ?_)
        · have hg := (if_pos c39).symm.trans hg
          obtain ⟨rfl, rfl⟩ := fin_some hg
          exact ut_throw hx hb hlt hown (by decide +kernel) hu X.2.2.2.2.2.1.2.1 X.2.2.2.2.2.1.2.2.1 mG_789 mG_230 ul_IAE uo_IAE X.2.1 X.1 X.2.2.1 X.2.2.2.1 (hl.1.trans S.2.2.1.symm) hno dX11_function_47 dX11_function_50 dX11_function_51 dX11_function_54 (by omega) (show 0 + 81 ≤ R.locals by omega) (by omega) (by omega) hk (by omega) (by omega) (Or.inl ⟨rfl, rfl⟩)
        · have hg := (if_neg c39).symm.trans hg
          refine lv_iload_n hx hb dX11_function_42 rfl (lv_at hl 2 rfl) ?_
          refine lv_iconst (v := 5) hx hb dX11_function_43 (by decide) ?_
          refine lv_icmp_le (tgt := 55) hx hb dX11_function_44 (by decide) (fun c44 => ?_) (fun c44 => ?_)
          · have hg := (if_pos c44).symm.trans hg
            refine lv_aload_n hx hb dX11_function_55 rfl (lv_at hl 0 rfl) ?_
            refine wfgR_0_1 S X mG_719 dX11_function_56 ?_
            refine lv_iload_n hx hb dX11_function_59 rfl (lv_at hl 1 rfl) ?_
            refine lv_iload_n hx hb dX11_function_60 rfl (lv_at hl 2 rfl) ?_
            obtain ⟨r61, τ61, hq61, hg⟩ := bd_some hg
            refine gck_Vi (As := [.int a1, .int a2]) (rest := []) (q0 := 6) (ci := 7) S X (k2_X4_tell_F l dC dI x q9 ad kc sv sa va hq61 H.size) cw_X4_tell mG_1766 rfl rfl rfl rfl rfl hl.1 (Nat.le_of_ble_eq_true rfl) dX11_function_61 ⟨by omega, by omega⟩ ⟨by omega, by omega⟩ (fun H locs X => ?_)
            obtain ⟨rfl, rfl⟩ := fin_some hg
            exact grx_i S hr hk X (by omega) (by omega) dX11_function_64
          · have hg := (if_neg c44).symm.trans hg
            obtain ⟨rfl, rfl⟩ := fin_some hg
            exact ut_throw hx hb hlt hown (by decide +kernel) hu X.2.2.2.2.2.1.2.1 X.2.2.2.2.2.1.2.2.1 mG_789 mG_230 ul_IAE uo_IAE X.2.1 X.1 X.2.2.1 X.2.2.2.1 (hl.1.trans S.2.2.1.symm) hno dX11_function_47 dX11_function_50 dX11_function_51 dX11_function_54 (by omega) (show 0 + 81 ≤ R.locals by omega) (by omega) (by omega) hk (by omega) (by omega) (Or.inl ⟨rfl, rfl⟩)
      · have hg := (if_neg c27).symm.trans hg
        obtain ⟨rfl, rfl⟩ := fin_some hg
        exact ut_throw hx hb hlt hown (by decide +kernel) hu X.2.2.2.2.2.1.2.1 X.2.2.2.2.2.1.2.2.1 mG_1743 mG_244 ul_IOB uo_IOB X.2.1 X.1 X.2.2.1 X.2.2.2.1 (hl.1.trans S.2.2.1.symm) hno dX11_function_30 dX11_function_33 dX11_function_34 dX11_function_37 (by omega) (show 0 + 81 ≤ R.locals by omega) (by omega) (by omega) hk (by omega) (by omega) (Or.inr (Or.inr (Or.inr ⟨rfl, rfl⟩)))
  · have hg := (if_pos c4).symm.trans hg
    obtain ⟨rfl, rfl⟩ := fin_some hg
    exact ut_throw hx hb hlt hown (by decide +kernel) hu X.2.2.2.2.2.1.2.1 X.2.2.2.2.2.1.2.2.1 mG_1627 mG_246 ul_ISE uo_ISE X.2.1 X.1 X.2.2.1 X.2.2.2.1 (hl.1.trans S.2.2.1.symm) hno dX11_function_7 dX11_function_10 dX11_function_11 dX11_function_14 (by omega) (show 0 + 81 ≤ R.locals by omega) (by omega) (by omega) hk (by omega) (by omega) (Or.inr (Or.inr (Or.inl ⟨rfl, rfl⟩)))
end MX11_function
set_option maxRecDepth 100000 in
theorem k2_X11_function (l : Launch) (hlt : l.stackTraces = false) (dC : Nat → ClassId) (dI : Nat → Nat → Nat) {ak : Nat → Nat} (x q9 : Nat) (ad : Nat → Nat) (kc : Nat → ClassId) (sv : Value) (sa va : Nat) {σ τ : S5} {a1 : Int32} {a2 : Int32} {r : Int32 × Int32} (hg : f_X11_function a1 a2 σ = some (r, τ)) (sz : Nat) : vx_Met l yX11_function (Cond.code yX11_function cX11_function 3 (some .int) :: uG) { frames := 6, cells := 1, slots := 6, locals := 90 } (gPc (dC, dI) (tF kc) (wF x q9 ad kc sv sa va) (zF ak) [.ref x, .int a1, .int a2] σ sz) (gQx (dC, dI) x q9 (va_A (wF x q9 ad kc sv sa va σ) sz) r τ) (uXB dC dI (wF x q9 ad kc sv sa va τ) (tF kc) (va_A (wF x q9 ad kc sv sa va σ) sz) (cE r.1)) 1 6 (va_A (wF x q9 ad kc sv sa va σ) sz) :=
  gx_start (by decide) (Nat.le_of_ble_eq_true rfl) (fun p e s m below meth c ls S hr hk hno X hl => w_X11_function hlt S hr hk hno ⟨Nat.le_refl _, Nat.le_refl _⟩ ⟨Nat.le_refl _, Nat.le_refl _⟩ ⟨by omega, by omega⟩ X hl hg)
section MX11_needs
variable {p : Program} {l : Launch} {e : Env} {R : Room} {s : State} {m : MethodId} {args : Array Value} {below : List Frame} {meth : Method} {c : Code} {dC : Nat → ClassId} {dI : Nat → Nat → Nat} {ak : Nat → Nat} {A : Nat → Prop} {x q9 : Nat} {ad : Nat → Nat} {kc : Nat → ClassId} {sv : Value} {sa va : Nat} {cells slots mc ms : Nat} {r : Int32 × Int32} {τ : S5}
set_option maxHeartbeats 4000000 in
set_option maxRecDepth 100000 in
theorem w_X11_needs {σ : S5} {a1 : Int32} {a2 : Int32} {H : Heap} {locs : List Loc} {ls : Array Slot} (hlt : l.stackTraces = false) (S : CallFix p m c cX11_needs 3 s args uG RX11) (hr : meth.sig.returnType = (some .boolean)) (hk : meth.locks = false) (hno : ∀ x ∈ c.exceptionTable.toList, False) (hR : 6 ≤ R.frames ∧ 90 ≤ R.locals) (hRc : mc ≤ R.cells ∧ ms ≤ R.slots) (hcs : cells + 1 ≤ mc ∧ slots + 6 ≤ ms)
    (X : gX (dC, dI) (tF kc) (wF x q9 ad kc sv sa va) (zF ak) A s σ H locs) (hl : lv_has ls 3 [(0, .ref x), (1, .int a1), (2, .int a2)]) (hg : f_X11_needs a1 a2 σ = some (r, τ)) : W p l e R s m args below meth c H locs cells slots (vx_MQ below (gQx (dC, dI) x q9 A r τ) (uXB dC dI (wF x q9 ad kc sv sa va τ) (tF kc) A (cE r.1)) args s mc ms A) (F0 m 0 ls []) := by
  have hx := S.1
  have hb := S.2.1
  have hown := S.2.2.2.1
  have hu := S.2.2.2.2
  unfold f_X11_needs at hg
  refine lv_aload_n hx hb dX11_needs_0 rfl (lv_at hl 0 rfl) ?_
  refine wfgI_60 (v := (gI σ 60)) S X mG_727 rfl dX11_needs_1 ?_
  refine lv_if_ne (tgt := 15) hx hb dX11_needs_4 (by decide) (fun c4 => ?_) (fun c4 => ?_)
  · have hg := (if_neg c4).symm.trans hg
    refine lv_iload_n hx hb dX11_needs_15 rfl (lv_at hl 1 rfl) ?_
    refine lv_if_lt (tgt := 47) hx hb dX11_needs_16 (by decide) (fun c16 => ?_) (fun c16 => ?_)
    · have hg := (if_pos c16).symm.trans hg
      obtain ⟨rfl, rfl⟩ := fin_some hg
      exact ut_throw hx hb hlt hown (by decide +kernel) hu X.2.2.2.2.2.1.2.1 X.2.2.2.2.2.1.2.2.1 mG_1743 mG_244 ul_IOB uo_IOB X.2.1 X.1 X.2.2.1 X.2.2.2.1 (hl.1.trans S.2.2.1.symm) hno dX11_needs_47 dX11_needs_50 dX11_needs_51 dX11_needs_54 (by omega) (show 0 + 81 ≤ R.locals by omega) (by omega) (by omega) hk (by omega) (by omega) (Or.inr (Or.inr (Or.inr ⟨rfl, rfl⟩)))
    · have hg := (if_neg c16).symm.trans hg
      refine lv_iload_n hx hb dX11_needs_19 rfl (lv_at hl 1 rfl) ?_
      refine lv_aload_n hx hb dX11_needs_20 rfl (lv_at hl 0 rfl) ?_
      refine wfgR_0_1 S X mG_719 dX11_needs_21 ?_
      refine wfgI_6 (v := (gI σ 6)) S X mG_303 rfl dX11_needs_24 ?_
      refine lv_icmp_ge (tgt := 47) hx hb dX11_needs_27 (by decide) (fun c27 => ?_) (fun c27 => ?_)
      · have hg := (if_pos c27).symm.trans hg
        obtain ⟨rfl, rfl⟩ := fin_some hg
        exact ut_throw hx hb hlt hown (by decide +kernel) hu X.2.2.2.2.2.1.2.1 X.2.2.2.2.2.1.2.2.1 mG_1743 mG_244 ul_IOB uo_IOB X.2.1 X.1 X.2.2.1 X.2.2.2.1 (hl.1.trans S.2.2.1.symm) hno dX11_needs_47 dX11_needs_50 dX11_needs_51 dX11_needs_54 (by omega) (show 0 + 81 ≤ R.locals by omega) (by omega) (by omega) hk (by omega) (by omega) (Or.inr (Or.inr (Or.inr ⟨rfl, rfl⟩)))
      · have hg := (if_neg c27).symm.trans hg
        refine lv_iload_n hx hb dX11_needs_30 rfl (lv_at hl 2 rfl) ?_
        refine lv_if_lt (tgt := 47) hx hb dX11_needs_31 (by decide) (fun c31 => ?_) (fun c31 => ?_)
        · have hg := (if_pos c31).symm.trans hg
          obtain ⟨rfl, rfl⟩ := fin_some hg
          exact ut_throw hx hb hlt hown (by decide +kernel) hu X.2.2.2.2.2.1.2.1 X.2.2.2.2.2.1.2.2.1 mG_1743 mG_244 ul_IOB uo_IOB X.2.1 X.1 X.2.2.1 X.2.2.2.1 (hl.1.trans S.2.2.1.symm) hno dX11_needs_47 dX11_needs_50 dX11_needs_51 dX11_needs_54 (by omega) (show 0 + 81 ≤ R.locals by omega) (by omega) (by omega) hk (by omega) (by omega) (Or.inr (Or.inr (Or.inr ⟨rfl, rfl⟩)))
        · have hg := (if_neg c31).symm.trans hg
          refine lv_iload_n hx hb dX11_needs_34 rfl (lv_at hl 2 rfl) ?_
          refine lv_aload_n hx hb dX11_needs_35 rfl (lv_at hl 0 rfl) ?_
          refine wfgR_0_1 S X mG_719 dX11_needs_36 ?_
          refine wfgR_6_7 S X mG_313 dX11_needs_39 ?_
          refine lv_iload_n hx hb dX11_needs_42 rfl (lv_at hl 1 rfl) ?_
          obtain ⟨hi43, hg⟩ := gd_some hg
          refine wflA_3 (v := (xA σ 3 a1)) S X hi43 rfl dX11_needs_43 ?_
          refine lv_icmp_lt (tgt := 55) hx hb dX11_needs_44 (by decide) (fun c44 => ?_) (fun c44 => ?_)
          · have hg := (if_pos c44).symm.trans hg
            refine lv_aload_n hx hb dX11_needs_55 rfl (lv_at hl 0 rfl) ?_
            refine wfgR_0_1 S X mG_719 dX11_needs_56 ?_
            refine lv_iload_n hx hb dX11_needs_59 rfl (lv_at hl 1 rfl) ?_
            refine lv_iload_n hx hb dX11_needs_60 rfl (lv_at hl 2 rfl) ?_
            obtain ⟨r61, τ61, hq61, hg⟩ := bd_some hg
            refine gck_Vi (As := [.int a1, .int a2]) (rest := []) (q0 := 6) (ci := 7) S X (k2_X4_needsParameter_F l dC dI x q9 ad kc sv sa va hq61 H.size) cw_X4_needsParameter mG_1777 rfl rfl rfl rfl rfl hl.1 (Nat.le_of_ble_eq_true rfl) dX11_needs_61 ⟨by omega, by omega⟩ ⟨by omega, by omega⟩ (fun H locs X => ?_)
            obtain ⟨hn64, hg⟩ := g_t_some hg
            obtain ⟨rfl, rfl⟩ := fin_some hg
            exact grx_z S hr hk X hn64 (by omega) (by omega) dX11_needs_64
          · have hg := (if_neg c44).symm.trans hg
            obtain ⟨rfl, rfl⟩ := fin_some hg
            exact ut_throw hx hb hlt hown (by decide +kernel) hu X.2.2.2.2.2.1.2.1 X.2.2.2.2.2.1.2.2.1 mG_1743 mG_244 ul_IOB uo_IOB X.2.1 X.1 X.2.2.1 X.2.2.2.1 (hl.1.trans S.2.2.1.symm) hno dX11_needs_47 dX11_needs_50 dX11_needs_51 dX11_needs_54 (by omega) (show 0 + 81 ≤ R.locals by omega) (by omega) (by omega) hk (by omega) (by omega) (Or.inr (Or.inr (Or.inr ⟨rfl, rfl⟩)))
  · have hg := (if_pos c4).symm.trans hg
    obtain ⟨rfl, rfl⟩ := fin_some hg
    exact ut_throw hx hb hlt hown (by decide +kernel) hu X.2.2.2.2.2.1.2.1 X.2.2.2.2.2.1.2.2.1 mG_1627 mG_246 ul_ISE uo_ISE X.2.1 X.1 X.2.2.1 X.2.2.2.1 (hl.1.trans S.2.2.1.symm) hno dX11_needs_7 dX11_needs_10 dX11_needs_11 dX11_needs_14 (by omega) (show 0 + 81 ≤ R.locals by omega) (by omega) (by omega) hk (by omega) (by omega) (Or.inr (Or.inr (Or.inl ⟨rfl, rfl⟩)))
end MX11_needs
set_option maxRecDepth 100000 in
theorem k2_X11_needs (l : Launch) (hlt : l.stackTraces = false) (dC : Nat → ClassId) (dI : Nat → Nat → Nat) {ak : Nat → Nat} (x q9 : Nat) (ad : Nat → Nat) (kc : Nat → ClassId) (sv : Value) (sa va : Nat) {σ τ : S5} {a1 : Int32} {a2 : Int32} {r : Int32 × Int32} (hg : f_X11_needs a1 a2 σ = some (r, τ)) (sz : Nat) : vx_Met l yX11_needs (Cond.code yX11_needs cX11_needs 3 (some .boolean) :: uG) { frames := 6, cells := 1, slots := 6, locals := 90 } (gPc (dC, dI) (tF kc) (wF x q9 ad kc sv sa va) (zF ak) [.ref x, .int a1, .int a2] σ sz) (gQx (dC, dI) x q9 (va_A (wF x q9 ad kc sv sa va σ) sz) r τ) (uXB dC dI (wF x q9 ad kc sv sa va τ) (tF kc) (va_A (wF x q9 ad kc sv sa va σ) sz) (cE r.1)) 1 6 (va_A (wF x q9 ad kc sv sa va σ) sz) :=
  gx_start (by decide) (Nat.le_of_ble_eq_true rfl) (fun p e s m below meth c ls S hr hk hno X hl => w_X11_needs hlt S hr hk hno ⟨Nat.le_refl _, Nat.le_refl _⟩ ⟨Nat.le_refl _, Nat.le_refl _⟩ ⟨by omega, by omega⟩ X hl hg)
section MX11_bit
variable {p : Program} {l : Launch} {e : Env} {R : Room} {s : State} {m : MethodId} {args : Array Value} {below : List Frame} {meth : Method} {c : Code} {dC : Nat → ClassId} {dI : Nat → Nat → Nat} {ak : Nat → Nat} {A : Nat → Prop} {x q9 : Nat} {ad : Nat → Nat} {kc : Nat → ClassId} {sv : Value} {sa va : Nat} {cells slots mc ms : Nat} {r : Int32 × Int32} {τ : S5}
set_option maxHeartbeats 4000000 in
set_option maxRecDepth 100000 in
theorem w_X11_bit {σ : S5} {a1 : Int32} {a2 : Int32} {H : Heap} {locs : List Loc} {ls : Array Slot} (hlt : l.stackTraces = false) (S : CallFix p m c cX11_bit 3 s args uG RX11) (hr : meth.sig.returnType = (some .int)) (hk : meth.locks = false) (hno : ∀ x ∈ c.exceptionTable.toList, False) (hR : 6 ≤ R.frames ∧ 90 ≤ R.locals) (hRc : mc ≤ R.cells ∧ ms ≤ R.slots) (hcs : cells + 1 ≤ mc ∧ slots + 6 ≤ ms)
    (X : gX (dC, dI) (tF kc) (wF x q9 ad kc sv sa va) (zF ak) A s σ H locs) (hl : lv_has ls 3 [(0, .ref x), (1, .int a1), (2, .int a2)]) (hg : f_X11_bit a1 a2 σ = some (r, τ)) : W p l e R s m args below meth c H locs cells slots (vx_MQ below (gQx (dC, dI) x q9 A r τ) (uXB dC dI (wF x q9 ad kc sv sa va τ) (tF kc) A (cE r.1)) args s mc ms A) (F0 m 0 ls []) := by
  have hx := S.1
  have hb := S.2.1
  have hown := S.2.2.2.1
  have hu := S.2.2.2.2
  unfold f_X11_bit at hg
  refine lv_aload_n hx hb dX11_bit_0 rfl (lv_at hl 0 rfl) ?_
  refine wfgI_60 (v := (gI σ 60)) S X mG_727 rfl dX11_bit_1 ?_
  refine lv_if_ne (tgt := 15) hx hb dX11_bit_4 (by decide) (fun c4 => ?_) (fun c4 => ?_)
  · have hg := (if_neg c4).symm.trans hg
    refine lv_iload_n hx hb dX11_bit_15 rfl (lv_at hl 1 rfl) ?_
    refine lv_if_lt (tgt := 30) hx hb dX11_bit_16 (by decide) (fun c16 => ?_) (fun c16 => ?_)
    · have hg := (if_pos c16).symm.trans hg
      obtain ⟨rfl, rfl⟩ := fin_some hg
      exact ut_throw hx hb hlt hown (by decide +kernel) hu X.2.2.2.2.2.1.2.1 X.2.2.2.2.2.1.2.2.1 mG_1743 mG_244 ul_IOB uo_IOB X.2.1 X.1 X.2.2.1 X.2.2.2.1 (hl.1.trans S.2.2.1.symm) hno dX11_bit_30 dX11_bit_33 dX11_bit_34 dX11_bit_37 (by omega) (show 0 + 81 ≤ R.locals by omega) (by omega) (by omega) hk (by omega) (by omega) (Or.inr (Or.inr (Or.inr ⟨rfl, rfl⟩)))
    · have hg := (if_neg c16).symm.trans hg
      refine lv_iload_n hx hb dX11_bit_19 rfl (lv_at hl 1 rfl) ?_
      refine lv_aload_n hx hb dX11_bit_20 rfl (lv_at hl 0 rfl) ?_
      refine wfgR_0_1 S X mG_719 dX11_bit_21 ?_
      refine wfgI_6 (v := (gI σ 6)) S X mG_303 rfl dX11_bit_24 ?_
      refine lv_icmp_lt (tgt := 38) hx hb dX11_bit_27 (by decide) (fun c27 => ?_) (fun c27 => ?_)
      · have hg := (if_pos c27).symm.trans hg
        refine lv_iload_n hx hb dX11_bit_38 rfl (lv_at hl 2 rfl) ?_
        refine lv_if_lt (tgt := 57) hx hb dX11_bit_39 (by decide) (fun c39 => ?_) (fun c39 => ?_)
        · have hg := (if_pos c39).symm.trans hg
          obtain ⟨rfl, rfl⟩ := fin_some hg
          exact ut_throw hx hb hlt hown (by decide +kernel) hu X.2.2.2.2.2.1.2.1 X.2.2.2.2.2.1.2.2.1 mG_789 mG_230 ul_IAE uo_IAE X.2.1 X.1 X.2.2.1 X.2.2.2.1 (hl.1.trans S.2.2.1.symm) hno dX11_bit_57 dX11_bit_60 dX11_bit_61 dX11_bit_64 (by omega) (show 0 + 81 ≤ R.locals by omega) (by omega) (by omega) hk (by omega) (by omega) (Or.inl ⟨rfl, rfl⟩)
        · have hg := (if_neg c39).symm.trans hg
          refine lv_iload_n hx hb dX11_bit_42 rfl (lv_at hl 2 rfl) ?_
          refine lv_iconst (v := 1) hx hb dX11_bit_43 (by decide) ?_
          refine lv_aload_n hx hb dX11_bit_44 rfl (lv_at hl 0 rfl) ?_
          refine wfgR_0_1 S X mG_719 dX11_bit_45 ?_
          refine wfgR_6_7 S X mG_313 dX11_bit_48 ?_
          refine lv_iload_n hx hb dX11_bit_51 rfl (lv_at hl 1 rfl) ?_
          obtain ⟨hi52, hg⟩ := gd_some hg
          refine wflA_3 (v := (xA σ 3 a1)) S X hi52 rfl dX11_bit_52 ?_
          refine lv_ishl hx hb dX11_bit_53 ?_
          refine lv_icmp_lt (tgt := 65) hx hb dX11_bit_54 (by decide) (fun c54 => ?_) (fun c54 => ?_)
          · have hg := (if_pos c54).symm.trans hg
            refine lv_aload_n hx hb dX11_bit_65 rfl (lv_at hl 0 rfl) ?_
            refine wfgR_0_4 S X mG_722 dX11_bit_66 ?_
            refine lv_iload_n hx hb dX11_bit_69 rfl (lv_at hl 1 rfl) ?_
            refine lv_iload_n hx hb dX11_bit_70 rfl (lv_at hl 2 rfl) ?_
            obtain ⟨r71, τ71, hq71, hg⟩ := bd_some hg
            refine gck_Vi (As := [.int a1, .int a2]) (rest := []) (q0 := 12) (ci := 4) S X (k2_X1_look_F l dC dI x q9 ad kc sv sa va hq71 H.size) cw_X1_look mG_1788 rfl rfl rfl rfl rfl hl.1 (Nat.le_of_ble_eq_true rfl) dX11_bit_71 ⟨by omega, by omega⟩ ⟨by omega, by omega⟩ (fun H locs X => ?_)
            obtain ⟨rfl, rfl⟩ := fin_some hg
            exact grx_i S hr hk X (by omega) (by omega) dX11_bit_74
          · have hg := (if_neg c54).symm.trans hg
            obtain ⟨rfl, rfl⟩ := fin_some hg
            exact ut_throw hx hb hlt hown (by decide +kernel) hu X.2.2.2.2.2.1.2.1 X.2.2.2.2.2.1.2.2.1 mG_789 mG_230 ul_IAE uo_IAE X.2.1 X.1 X.2.2.1 X.2.2.2.1 (hl.1.trans S.2.2.1.symm) hno dX11_bit_57 dX11_bit_60 dX11_bit_61 dX11_bit_64 (by omega) (show 0 + 81 ≤ R.locals by omega) (by omega) (by omega) hk (by omega) (by omega) (Or.inl ⟨rfl, rfl⟩)
      · have hg := (if_neg c27).symm.trans hg
        obtain ⟨rfl, rfl⟩ := fin_some hg
        exact ut_throw hx hb hlt hown (by decide +kernel) hu X.2.2.2.2.2.1.2.1 X.2.2.2.2.2.1.2.2.1 mG_1743 mG_244 ul_IOB uo_IOB X.2.1 X.1 X.2.2.1 X.2.2.2.1 (hl.1.trans S.2.2.1.symm) hno dX11_bit_30 dX11_bit_33 dX11_bit_34 dX11_bit_37 (by omega) (show 0 + 81 ≤ R.locals by omega) (by omega) (by omega) hk (by omega) (by omega) (Or.inr (Or.inr (Or.inr ⟨rfl, rfl⟩)))
  · have hg := (if_pos c4).symm.trans hg
    obtain ⟨rfl, rfl⟩ := fin_some hg
    exact ut_throw hx hb hlt hown (by decide +kernel) hu X.2.2.2.2.2.1.2.1 X.2.2.2.2.2.1.2.2.1 mG_1627 mG_246 ul_ISE uo_ISE X.2.1 X.1 X.2.2.1 X.2.2.2.1 (hl.1.trans S.2.2.1.symm) hno dX11_bit_7 dX11_bit_10 dX11_bit_11 dX11_bit_14 (by omega) (show 0 + 81 ≤ R.locals by omega) (by omega) (by omega) hk (by omega) (by omega) (Or.inr (Or.inr (Or.inl ⟨rfl, rfl⟩)))
end MX11_bit
set_option maxRecDepth 100000 in
theorem k2_X11_bit (l : Launch) (hlt : l.stackTraces = false) (dC : Nat → ClassId) (dI : Nat → Nat → Nat) {ak : Nat → Nat} (x q9 : Nat) (ad : Nat → Nat) (kc : Nat → ClassId) (sv : Value) (sa va : Nat) {σ τ : S5} {a1 : Int32} {a2 : Int32} {r : Int32 × Int32} (hg : f_X11_bit a1 a2 σ = some (r, τ)) (sz : Nat) : vx_Met l yX11_bit (Cond.code yX11_bit cX11_bit 3 (some .int) :: uG) { frames := 6, cells := 1, slots := 6, locals := 90 } (gPc (dC, dI) (tF kc) (wF x q9 ad kc sv sa va) (zF ak) [.ref x, .int a1, .int a2] σ sz) (gQx (dC, dI) x q9 (va_A (wF x q9 ad kc sv sa va σ) sz) r τ) (uXB dC dI (wF x q9 ad kc sv sa va τ) (tF kc) (va_A (wF x q9 ad kc sv sa va σ) sz) (cE r.1)) 1 6 (va_A (wF x q9 ad kc sv sa va σ) sz) :=
  gx_start (by decide) (Nat.le_of_ble_eq_true rfl) (fun p e s m below meth c ls S hr hk hno X hl => w_X11_bit hlt S hr hk hno ⟨Nat.le_refl _, Nat.le_refl _⟩ ⟨Nat.le_refl _, Nat.le_refl _⟩ ⟨by omega, by omega⟩ X hl hg)
section MX11_result
variable {p : Program} {l : Launch} {e : Env} {R : Room} {s : State} {m : MethodId} {args : Array Value} {below : List Frame} {meth : Method} {c : Code} {dC : Nat → ClassId} {dI : Nat → Nat → Nat} {ak : Nat → Nat} {A : Nat → Prop} {x q9 : Nat} {ad : Nat → Nat} {kc : Nat → ClassId} {sv : Value} {sa va : Nat} {cells slots mc ms : Nat} {r : Int32 × Int32} {τ : S5}
set_option maxHeartbeats 4000000 in
set_option maxRecDepth 100000 in
theorem w_X11_result {σ : S5} {a1 : Int32} {H : Heap} {locs : List Loc} {ls : Array Slot} (hlt : l.stackTraces = false) (S : CallFix p m c cX11_result 2 s args uG RX11) (hr : meth.sig.returnType = (some .int)) (hk : meth.locks = false) (hno : ∀ x ∈ c.exceptionTable.toList, False) (hR : 6 ≤ R.frames ∧ 90 ≤ R.locals) (hRc : mc ≤ R.cells ∧ ms ≤ R.slots) (hcs : cells + 1 ≤ mc ∧ slots + 6 ≤ ms)
    (X : gX (dC, dI) (tF kc) (wF x q9 ad kc sv sa va) (zF ak) A s σ H locs) (hl : lv_has ls 2 [(0, .ref x), (1, .int a1)]) (hg : f_X11_result a1 σ = some (r, τ)) : W p l e R s m args below meth c H locs cells slots (vx_MQ below (gQx (dC, dI) x q9 A r τ) (uXB dC dI (wF x q9 ad kc sv sa va τ) (tF kc) A (cE r.1)) args s mc ms A) (F0 m 0 ls []) := by
  have hx := S.1
  have hb := S.2.1
  have hown := S.2.2.2.1
  have hu := S.2.2.2.2
  unfold f_X11_result at hg
  refine lv_iload_n hx hb dX11_result_0 rfl (lv_at hl 1 rfl) ?_
  refine lv_if_lt (tgt := 10) hx hb dX11_result_1 (by decide) (fun c1 => ?_) (fun c1 => ?_)
  · have hg := (if_pos c1).symm.trans hg
    obtain ⟨rfl, rfl⟩ := fin_some hg
    exact ut_throw hx hb hlt hown (by decide +kernel) hu X.2.2.2.2.2.1.2.1 X.2.2.2.2.2.1.2.2.1 mG_789 mG_230 ul_IAE uo_IAE X.2.1 X.1 X.2.2.1 X.2.2.2.1 (hl.1.trans S.2.2.1.symm) hno dX11_result_10 dX11_result_13 dX11_result_14 dX11_result_17 (by omega) (show 0 + 81 ≤ R.locals by omega) (by omega) (by omega) hk (by omega) (by omega) (Or.inl ⟨rfl, rfl⟩)
  · have hg := (if_neg c1).symm.trans hg
    refine lv_iload_n hx hb dX11_result_4 rfl (lv_at hl 1 rfl) ?_
    refine lv_bipush (v := 10) hx hb dX11_result_5 (by decide) ?_
    refine lv_icmp_lt (tgt := 18) hx hb dX11_result_7 (by decide) (fun c7 => ?_) (fun c7 => ?_)
    · have hg := (if_pos c7).symm.trans hg
      refine lv_aload_n hx hb dX11_result_18 rfl (lv_at hl 0 rfl) ?_
      refine wfgR_0_6 S X mG_724 dX11_result_19 ?_
      refine wfgR_53_2 S X mG_663 dX11_result_22 ?_
      refine lv_iload_n hx hb dX11_result_25 rfl (lv_at hl 1 rfl) ?_
      obtain ⟨hi26, hg⟩ := gd_some hg
      refine wflA_40 (v := (xA σ 40 a1)) S X hi26 rfl dX11_result_26 ?_
      obtain ⟨rfl, rfl⟩ := fin_some hg
      exact grx_i S hr hk X (by omega) (by omega) dX11_result_27
    · have hg := (if_neg c7).symm.trans hg
      obtain ⟨rfl, rfl⟩ := fin_some hg
      exact ut_throw hx hb hlt hown (by decide +kernel) hu X.2.2.2.2.2.1.2.1 X.2.2.2.2.2.1.2.2.1 mG_789 mG_230 ul_IAE uo_IAE X.2.1 X.1 X.2.2.1 X.2.2.2.1 (hl.1.trans S.2.2.1.symm) hno dX11_result_10 dX11_result_13 dX11_result_14 dX11_result_17 (by omega) (show 0 + 81 ≤ R.locals by omega) (by omega) (by omega) hk (by omega) (by omega) (Or.inl ⟨rfl, rfl⟩)
end MX11_result
set_option maxRecDepth 100000 in
theorem k2_X11_result (l : Launch) (hlt : l.stackTraces = false) (dC : Nat → ClassId) (dI : Nat → Nat → Nat) {ak : Nat → Nat} (x q9 : Nat) (ad : Nat → Nat) (kc : Nat → ClassId) (sv : Value) (sa va : Nat) {σ τ : S5} {a1 : Int32} {r : Int32 × Int32} (hg : f_X11_result a1 σ = some (r, τ)) (sz : Nat) : vx_Met l yX11_result (Cond.code yX11_result cX11_result 2 (some .int) :: uG) { frames := 6, cells := 1, slots := 6, locals := 90 } (gPc (dC, dI) (tF kc) (wF x q9 ad kc sv sa va) (zF ak) [.ref x, .int a1] σ sz) (gQx (dC, dI) x q9 (va_A (wF x q9 ad kc sv sa va σ) sz) r τ) (uXB dC dI (wF x q9 ad kc sv sa va τ) (tF kc) (va_A (wF x q9 ad kc sv sa va σ) sz) (cE r.1)) 1 6 (va_A (wF x q9 ad kc sv sa va σ) sz) :=
  gx_start (by decide) (Nat.le_of_ble_eq_true rfl) (fun p e s m below meth c ls S hr hk hno X hl => w_X11_result hlt S hr hk hno ⟨Nat.le_refl _, Nat.le_refl _⟩ ⟨Nat.le_refl _, Nat.le_refl _⟩ ⟨by omega, by omega⟩ X hl hg)
section MX11_number
variable {p : Program} {l : Launch} {e : Env} {R : Room} {s : State} {m : MethodId} {args : Array Value} {below : List Frame} {meth : Method} {c : Code} {dC : Nat → ClassId} {dI : Nat → Nat → Nat} {ak : Nat → Nat} {A : Nat → Prop} {x q9 : Nat} {ad : Nat → Nat} {kc : Nat → ClassId} {sv : Value} {sa va : Nat} {cells slots mc ms : Nat} {r : Int32 × Int32} {τ : S5}
set_option maxHeartbeats 4000000 in
set_option maxRecDepth 100000 in
theorem w_X11_number {σ : S5} {a1 : Int32} {H : Heap} {locs : List Loc} {ls : Array Slot} (hlt : l.stackTraces = false) (S : CallFix p m c cX11_number 2 s args uG RX11) (hr : meth.sig.returnType = (some .int)) (hk : meth.locks = false) (hno : ∀ x ∈ c.exceptionTable.toList, False) (hR : 6 ≤ R.frames ∧ 90 ≤ R.locals) (hRc : mc ≤ R.cells ∧ ms ≤ R.slots) (hcs : cells + 1 ≤ mc ∧ slots + 6 ≤ ms)
    (X : gX (dC, dI) (tF kc) (wF x q9 ad kc sv sa va) (zF ak) A s σ H locs) (hl : lv_has ls 2 [(0, .ref x), (1, .int a1)]) (hg : f_X11_number a1 σ = some (r, τ)) : W p l e R s m args below meth c H locs cells slots (vx_MQ below (gQx (dC, dI) x q9 A r τ) (uXB dC dI (wF x q9 ad kc sv sa va τ) (tF kc) A (cE r.1)) args s mc ms A) (F0 m 0 ls []) := by
  have hx := S.1
  have hb := S.2.1
  have hown := S.2.2.2.1
  have hu := S.2.2.2.2
  unfold f_X11_number at hg
  refine lv_iload_n hx hb dX11_number_0 rfl (lv_at hl 1 rfl) ?_
  refine lv_if_lt (tgt := 18) hx hb dX11_number_1 (by decide) (fun c1 => ?_) (fun c1 => ?_)
  · have hg := (if_pos c1).symm.trans hg
    obtain ⟨rfl, rfl⟩ := fin_some hg
    exact ut_throw hx hb hlt hown (by decide +kernel) hu X.2.2.2.2.2.1.2.1 X.2.2.2.2.2.1.2.2.1 mG_1743 mG_244 ul_IOB uo_IOB X.2.1 X.1 X.2.2.1 X.2.2.2.1 (hl.1.trans S.2.2.1.symm) hno dX11_number_18 dX11_number_21 dX11_number_22 dX11_number_25 (by omega) (show 0 + 81 ≤ R.locals by omega) (by omega) (by omega) hk (by omega) (by omega) (Or.inr (Or.inr (Or.inr ⟨rfl, rfl⟩)))
  · have hg := (if_neg c1).symm.trans hg
    refine lv_iload_n hx hb dX11_number_4 rfl (lv_at hl 1 rfl) ?_
    refine lv_aload_n hx hb dX11_number_5 rfl (lv_at hl 0 rfl) ?_
    refine wfgR_0_6 S X mG_724 dX11_number_6 ?_
    refine wfgR_53_2 S X mG_663 dX11_number_9 ?_
    refine lv_bipush (v := 9) hx hb dX11_number_12 (by decide) ?_
    refine wflA_40 (v := (xA σ 40 9)) S X (vp_in_iff.mpr (by decide)) rfl dX11_number_14 ?_
    refine lv_icmp_lt (tgt := 26) hx hb dX11_number_15 (by decide) (fun c15 => ?_) (fun c15 => ?_)
    · have hg := (if_pos c15).symm.trans hg
      refine lv_aload_n hx hb dX11_number_26 rfl (lv_at hl 0 rfl) ?_
      refine wfgR_0_6 S X mG_724 dX11_number_27 ?_
      refine wfgR_53_4 S X mG_667 dX11_number_30 ?_
      refine lv_iload_n hx hb dX11_number_33 rfl (lv_at hl 1 rfl) ?_
      obtain ⟨hi34, hg⟩ := gd_some hg
      refine wflA_42 (v := (xA σ 42 a1)) S X hi34 rfl dX11_number_34 ?_
      obtain ⟨rfl, rfl⟩ := fin_some hg
      exact grx_i S hr hk X (by omega) (by omega) dX11_number_35
    · have hg := (if_neg c15).symm.trans hg
      obtain ⟨rfl, rfl⟩ := fin_some hg
      exact ut_throw hx hb hlt hown (by decide +kernel) hu X.2.2.2.2.2.1.2.1 X.2.2.2.2.2.1.2.2.1 mG_1743 mG_244 ul_IOB uo_IOB X.2.1 X.1 X.2.2.1 X.2.2.2.1 (hl.1.trans S.2.2.1.symm) hno dX11_number_18 dX11_number_21 dX11_number_22 dX11_number_25 (by omega) (show 0 + 81 ≤ R.locals by omega) (by omega) (by omega) hk (by omega) (by omega) (Or.inr (Or.inr (Or.inr ⟨rfl, rfl⟩)))
end MX11_number
set_option maxRecDepth 100000 in
theorem k2_X11_number (l : Launch) (hlt : l.stackTraces = false) (dC : Nat → ClassId) (dI : Nat → Nat → Nat) {ak : Nat → Nat} (x q9 : Nat) (ad : Nat → Nat) (kc : Nat → ClassId) (sv : Value) (sa va : Nat) {σ τ : S5} {a1 : Int32} {r : Int32 × Int32} (hg : f_X11_number a1 σ = some (r, τ)) (sz : Nat) : vx_Met l yX11_number (Cond.code yX11_number cX11_number 2 (some .int) :: uG) { frames := 6, cells := 1, slots := 6, locals := 90 } (gPc (dC, dI) (tF kc) (wF x q9 ad kc sv sa va) (zF ak) [.ref x, .int a1] σ sz) (gQx (dC, dI) x q9 (va_A (wF x q9 ad kc sv sa va σ) sz) r τ) (uXB dC dI (wF x q9 ad kc sv sa va τ) (tF kc) (va_A (wF x q9 ad kc sv sa va σ) sz) (cE r.1)) 1 6 (va_A (wF x q9 ad kc sv sa va σ) sz) :=
  gx_start (by decide) (Nat.le_of_ble_eq_true rfl) (fun p e s m below meth c ls S hr hk hno X hl => w_X11_number hlt S hr hk hno ⟨Nat.le_refl _, Nat.le_refl _⟩ ⟨Nat.le_refl _, Nat.le_refl _⟩ ⟨by omega, by omega⟩ X hl hg)
section MX11_called
variable {p : Program} {l : Launch} {e : Env} {R : Room} {s : State} {m : MethodId} {args : Array Value} {below : List Frame} {meth : Method} {c : Code} {dC : Nat → ClassId} {dI : Nat → Nat → Nat} {ak : Nat → Nat} {A : Nat → Prop} {x q9 : Nat} {ad : Nat → Nat} {kc : Nat → ClassId} {sv : Value} {sa va : Nat} {cells slots mc ms : Nat} {r : Int32 × Int32} {τ : S5}
set_option maxHeartbeats 4000000 in
set_option maxRecDepth 100000 in
theorem w_X11_called {σ : S5} {a1 : Int32} {H : Heap} {locs : List Loc} {ls : Array Slot} (hlt : l.stackTraces = false) (S : CallFix p m c cX11_called 2 s args uG RX11) (hr : meth.sig.returnType = (some .int)) (hk : meth.locks = false) (hno : ∀ x ∈ c.exceptionTable.toList, False) (hR : 6 ≤ R.frames ∧ 90 ≤ R.locals) (hRc : mc ≤ R.cells ∧ ms ≤ R.slots) (hcs : cells + 1 ≤ mc ∧ slots + 6 ≤ ms)
    (X : gX (dC, dI) (tF kc) (wF x q9 ad kc sv sa va) (zF ak) A s σ H locs) (hl : lv_has ls 2 [(0, .ref x), (1, .int a1)]) (hg : f_X11_called a1 σ = some (r, τ)) : W p l e R s m args below meth c H locs cells slots (vx_MQ below (gQx (dC, dI) x q9 A r τ) (uXB dC dI (wF x q9 ad kc sv sa va τ) (tF kc) A (cE r.1)) args s mc ms A) (F0 m 0 ls []) := by
  have hx := S.1
  have hb := S.2.1
  have hown := S.2.2.2.1
  have hu := S.2.2.2.2
  unfold f_X11_called at hg
  refine lv_aload_n hx hb dX11_called_0 rfl (lv_at hl 0 rfl) ?_
  refine wfgI_60 (v := (gI σ 60)) S X mG_727 rfl dX11_called_1 ?_
  refine lv_if_ne (tgt := 15) hx hb dX11_called_4 (by decide) (fun c4 => ?_) (fun c4 => ?_)
  · have hg := (if_neg c4).symm.trans hg
    refine lv_iload_n hx hb dX11_called_15 rfl (lv_at hl 1 rfl) ?_
    refine lv_if_lt (tgt := 30) hx hb dX11_called_16 (by decide) (fun c16 => ?_) (fun c16 => ?_)
    · have hg := (if_pos c16).symm.trans hg
      obtain ⟨rfl, rfl⟩ := fin_some hg
      exact ut_throw hx hb hlt hown (by decide +kernel) hu X.2.2.2.2.2.1.2.1 X.2.2.2.2.2.1.2.2.1 mG_1743 mG_244 ul_IOB uo_IOB X.2.1 X.1 X.2.2.1 X.2.2.2.1 (hl.1.trans S.2.2.1.symm) hno dX11_called_30 dX11_called_33 dX11_called_34 dX11_called_37 (by omega) (show 0 + 81 ≤ R.locals by omega) (by omega) (by omega) hk (by omega) (by omega) (Or.inr (Or.inr (Or.inr ⟨rfl, rfl⟩)))
    · have hg := (if_neg c16).symm.trans hg
      refine lv_iload_n hx hb dX11_called_19 rfl (lv_at hl 1 rfl) ?_
      refine lv_aload_n hx hb dX11_called_20 rfl (lv_at hl 0 rfl) ?_
      refine wfgR_0_1 S X mG_719 dX11_called_21 ?_
      refine wfgI_6 (v := (gI σ 6)) S X mG_303 rfl dX11_called_24 ?_
      refine lv_icmp_lt (tgt := 38) hx hb dX11_called_27 (by decide) (fun c27 => ?_) (fun c27 => ?_)
      · have hg := (if_pos c27).symm.trans hg
        refine lv_aload_n hx hb dX11_called_38 rfl (lv_at hl 0 rfl) ?_
        refine wfgR_0_6 S X mG_724 dX11_called_39 ?_
        refine wfgR_53_3 S X mG_665 dX11_called_42 ?_
        refine lv_iload_n hx hb dX11_called_45 rfl (lv_at hl 1 rfl) ?_
        obtain ⟨hi46, hg⟩ := gd_some hg
        refine wflA_41 (v := (xA σ 41 a1)) S X hi46 rfl dX11_called_46 ?_
        obtain ⟨rfl, rfl⟩ := fin_some hg
        exact grx_i S hr hk X (by omega) (by omega) dX11_called_47
      · have hg := (if_neg c27).symm.trans hg
        obtain ⟨rfl, rfl⟩ := fin_some hg
        exact ut_throw hx hb hlt hown (by decide +kernel) hu X.2.2.2.2.2.1.2.1 X.2.2.2.2.2.1.2.2.1 mG_1743 mG_244 ul_IOB uo_IOB X.2.1 X.1 X.2.2.1 X.2.2.2.1 (hl.1.trans S.2.2.1.symm) hno dX11_called_30 dX11_called_33 dX11_called_34 dX11_called_37 (by omega) (show 0 + 81 ≤ R.locals by omega) (by omega) (by omega) hk (by omega) (by omega) (Or.inr (Or.inr (Or.inr ⟨rfl, rfl⟩)))
  · have hg := (if_pos c4).symm.trans hg
    obtain ⟨rfl, rfl⟩ := fin_some hg
    exact ut_throw hx hb hlt hown (by decide +kernel) hu X.2.2.2.2.2.1.2.1 X.2.2.2.2.2.1.2.2.1 mG_1627 mG_246 ul_ISE uo_ISE X.2.1 X.1 X.2.2.1 X.2.2.2.1 (hl.1.trans S.2.2.1.symm) hno dX11_called_7 dX11_called_10 dX11_called_11 dX11_called_14 (by omega) (show 0 + 81 ≤ R.locals by omega) (by omega) (by omega) hk (by omega) (by omega) (Or.inr (Or.inr (Or.inl ⟨rfl, rfl⟩)))
end MX11_called
set_option maxRecDepth 100000 in
theorem k2_X11_called (l : Launch) (hlt : l.stackTraces = false) (dC : Nat → ClassId) (dI : Nat → Nat → Nat) {ak : Nat → Nat} (x q9 : Nat) (ad : Nat → Nat) (kc : Nat → ClassId) (sv : Value) (sa va : Nat) {σ τ : S5} {a1 : Int32} {r : Int32 × Int32} (hg : f_X11_called a1 σ = some (r, τ)) (sz : Nat) : vx_Met l yX11_called (Cond.code yX11_called cX11_called 2 (some .int) :: uG) { frames := 6, cells := 1, slots := 6, locals := 90 } (gPc (dC, dI) (tF kc) (wF x q9 ad kc sv sa va) (zF ak) [.ref x, .int a1] σ sz) (gQx (dC, dI) x q9 (va_A (wF x q9 ad kc sv sa va σ) sz) r τ) (uXB dC dI (wF x q9 ad kc sv sa va τ) (tF kc) (va_A (wF x q9 ad kc sv sa va σ) sz) (cE r.1)) 1 6 (va_A (wF x q9 ad kc sv sa va σ) sz) :=
  gx_start (by decide) (Nat.le_of_ble_eq_true rfl) (fun p e s m below meth c ls S hr hk hno X hl => w_X11_called hlt S hr hk hno ⟨Nat.le_refl _, Nat.le_refl _⟩ ⟨Nat.le_refl _, Nat.le_refl _⟩ ⟨by omega, by omega⟩ X hl hg)
section MX11_about
variable {p : Program} {l : Launch} {e : Env} {R : Room} {s : State} {m : MethodId} {args : Array Value} {below : List Frame} {meth : Method} {c : Code} {dC : Nat → ClassId} {dI : Nat → Nat → Nat} {ak : Nat → Nat} {A : Nat → Prop} {x q9 : Nat} {ad : Nat → Nat} {kc : Nat → ClassId} {sv : Value} {sa va : Nat} {cells slots mc ms : Nat} {r : Int32 × Int32} {τ : S5}
set_option maxHeartbeats 4000000 in
set_option maxRecDepth 100000 in
theorem w_X11_about {σ : S5} {a1 : Int32} {H : Heap} {locs : List Loc} {ls : Array Slot} (hlt : l.stackTraces = false) (S : CallFix p m c cX11_about 2 s args uG RX11) (hr : meth.sig.returnType = (some .int)) (hk : meth.locks = false) (hno : ∀ x ∈ c.exceptionTable.toList, False) (hR : 6 ≤ R.frames ∧ 90 ≤ R.locals) (hRc : mc ≤ R.cells ∧ ms ≤ R.slots) (hcs : cells + 1 ≤ mc ∧ slots + 6 ≤ ms)
    (X : gX (dC, dI) (tF kc) (wF x q9 ad kc sv sa va) (zF ak) A s σ H locs) (hl : lv_has ls 2 [(0, .ref x), (1, .int a1)]) (hg : f_X11_about a1 σ = some (r, τ)) : W p l e R s m args below meth c H locs cells slots (vx_MQ below (gQx (dC, dI) x q9 A r τ) (uXB dC dI (wF x q9 ad kc sv sa va τ) (tF kc) A (cE r.1)) args s mc ms A) (F0 m 0 ls []) := by
  have hx := S.1
  have hb := S.2.1
  have hown := S.2.2.2.1
  have hu := S.2.2.2.2
  unfold f_X11_about at hg
  refine lv_iload_n hx hb dX11_about_0 rfl (lv_at hl 1 rfl) ?_
  rcases sw_0_6 (a1) with hsw | hsw | hsw | hsw | hsw | hsw | hsw | hsw
  · refine lv_tableOut (tgt := 127) hx hb dX11_about_1 hsw (by decide) ?_
    obtain ⟨hs0, hs1, hs2, hs3, hs4, hs5, hs6⟩ := swo_0_6 hsw
    have hg := (if_neg hs0).symm.trans hg
    have hg := (if_neg hs1).symm.trans hg
    have hg := (if_neg hs2).symm.trans hg
    have hg := (if_neg hs3).symm.trans hg
    have hg := (if_neg hs4).symm.trans hg
    have hg := (if_neg hs5).symm.trans hg
    have hg := (if_neg hs6).symm.trans hg
    obtain ⟨rfl, rfl⟩ := fin_some hg
    exact ut_throw hx hb hlt hown (by decide +kernel) hu X.2.2.2.2.2.1.2.1 X.2.2.2.2.2.1.2.2.1 mG_789 mG_230 ul_IAE uo_IAE X.2.1 X.1 X.2.2.1 X.2.2.2.1 (hl.1.trans S.2.2.1.symm) hno dX11_about_127 dX11_about_130 dX11_about_131 dX11_about_134 (by omega) (show 0 + 81 ≤ R.locals by omega) (by omega) (by omega) hk (by omega) (by omega) (Or.inl ⟨rfl, rfl⟩)
  · refine lv_tableIn (off := 43) (tgt := 44) hx hb dX11_about_1 (by rw [hsw]; decide) (by rw [hsw]; decide) (by rw [hsw]; decide) (by decide) ?_
    have hg := (if_pos hsw).symm.trans hg
    refine lv_aload_n hx hb dX11_about_44 rfl (lv_at hl 0 rfl) ?_
    refine wfgI_60 (v := (gI σ 60)) S X mG_727 rfl dX11_about_45 ?_
    refine lv_if_eq (tgt := 61) hx hb dX11_about_48 (by decide) (fun c48 => ?_) (fun c48 => ?_)
    · have hg := (if_pos c48).symm.trans hg
      refine lv_iconst (v := 0) hx hb dX11_about_61 (by decide) ?_
      obtain ⟨rfl, rfl⟩ := fin_some hg
      exact grx_i S hr hk X (by omega) (by omega) dX11_about_62
    · have hg := (if_neg c48).symm.trans hg
      refine lv_aload_n hx hb dX11_about_51 rfl (lv_at hl 0 rfl) ?_
      refine wfgR_0_1 S X mG_719 dX11_about_52 ?_
      refine wfgI_6 (v := (gI σ 6)) S X mG_303 rfl dX11_about_55 ?_
      refine lv_goto (tgt := 62) hx hb dX11_about_58 (by decide) ?_
      obtain ⟨rfl, rfl⟩ := fin_some hg
      exact grx_i S hr hk X (by omega) (by omega) dX11_about_62
  · refine lv_tableIn (off := 62) (tgt := 63) hx hb dX11_about_1 (by rw [hsw]; decide) (by rw [hsw]; decide) (by rw [hsw]; decide) (by decide) ?_
    have hg := (if_neg (by rw [hsw]; decide)).symm.trans hg
    have hg := (if_pos hsw).symm.trans hg
    refine lv_aload_n hx hb dX11_about_63 rfl (lv_at hl 0 rfl) ?_
    refine wfgI_60 (v := (gI σ 60)) S X mG_727 rfl dX11_about_64 ?_
    refine lv_if_eq (tgt := 80) hx hb dX11_about_67 (by decide) (fun c67 => ?_) (fun c67 => ?_)
    · have hg := (if_pos c67).symm.trans hg
      refine lv_iconst (v := 0) hx hb dX11_about_80 (by decide) ?_
      obtain ⟨rfl, rfl⟩ := fin_some hg
      exact grx_i S hr hk X (by omega) (by omega) dX11_about_81
    · have hg := (if_neg c67).symm.trans hg
      refine lv_aload_n hx hb dX11_about_70 rfl (lv_at hl 0 rfl) ?_
      refine wfgR_0_1 S X mG_719 dX11_about_71 ?_
      refine wfgI_4 (v := (gI σ 4)) S X mG_293 rfl dX11_about_74 ?_
      refine lv_goto (tgt := 81) hx hb dX11_about_77 (by decide) ?_
      obtain ⟨rfl, rfl⟩ := fin_some hg
      exact grx_i S hr hk X (by omega) (by omega) dX11_about_81
  · refine lv_tableIn (off := 81) (tgt := 82) hx hb dX11_about_1 (by rw [hsw]; decide) (by rw [hsw]; decide) (by rw [hsw]; decide) (by decide) ?_
    have hg := (if_neg (by rw [hsw]; decide)).symm.trans hg
    have hg := (if_neg (by rw [hsw]; decide)).symm.trans hg
    have hg := (if_pos hsw).symm.trans hg
    refine lv_aload_n hx hb dX11_about_82 rfl (lv_at hl 0 rfl) ?_
    refine wfgI_60 (v := (gI σ 60)) S X mG_727 rfl dX11_about_83 ?_
    refine lv_if_eq (tgt := 99) hx hb dX11_about_86 (by decide) (fun c86 => ?_) (fun c86 => ?_)
    · have hg := (if_pos c86).symm.trans hg
      refine lv_iconst (v := 0) hx hb dX11_about_99 (by decide) ?_
      obtain ⟨rfl, rfl⟩ := fin_some hg
      exact grx_i S hr hk X (by omega) (by omega) dX11_about_100
    · have hg := (if_neg c86).symm.trans hg
      refine lv_aload_n hx hb dX11_about_89 rfl (lv_at hl 0 rfl) ?_
      refine wfgR_0_2 S X mG_720 dX11_about_90 ?_
      refine wfgI_13 (v := (gI σ 13)) S X mG_547 rfl dX11_about_93 ?_
      refine lv_goto (tgt := 100) hx hb dX11_about_96 (by decide) ?_
      obtain ⟨rfl, rfl⟩ := fin_some hg
      exact grx_i S hr hk X (by omega) (by omega) dX11_about_100
  · refine lv_tableIn (off := 100) (tgt := 101) hx hb dX11_about_1 (by rw [hsw]; decide) (by rw [hsw]; decide) (by rw [hsw]; decide) (by decide) ?_
    have hg := (if_neg (by rw [hsw]; decide)).symm.trans hg
    have hg := (if_neg (by rw [hsw]; decide)).symm.trans hg
    have hg := (if_neg (by rw [hsw]; decide)).symm.trans hg
    have hg := (if_pos hsw).symm.trans hg
    refine lv_aload_n hx hb dX11_about_101 rfl (lv_at hl 0 rfl) ?_
    refine wfgR_0_0 S X mG_718 dX11_about_102 ?_
    refine wfgI_0 (v := (gI σ 0)) S X mG_264 rfl dX11_about_105 ?_
    obtain ⟨rfl, rfl⟩ := fin_some hg
    exact grx_i S hr hk X (by omega) (by omega) dX11_about_108
  · refine lv_tableIn (off := 108) (tgt := 109) hx hb dX11_about_1 (by rw [hsw]; decide) (by rw [hsw]; decide) (by rw [hsw]; decide) (by decide) ?_
    have hg := (if_neg (by rw [hsw]; decide)).symm.trans hg
    have hg := (if_neg (by rw [hsw]; decide)).symm.trans hg
    have hg := (if_neg (by rw [hsw]; decide)).symm.trans hg
    have hg := (if_neg (by rw [hsw]; decide)).symm.trans hg
    have hg := (if_pos hsw).symm.trans hg
    refine lv_aload_n hx hb dX11_about_109 rfl (lv_at hl 0 rfl) ?_
    refine wfgR_0_7 S X mG_725 dX11_about_110 ?_
    refine wfgI_66 (v := (gI σ 66)) S X mG_264 rfl dX11_about_113 ?_
    obtain ⟨rfl, rfl⟩ := fin_some hg
    exact grx_i S hr hk X (by omega) (by omega) dX11_about_116
  · refine lv_tableIn (off := 116) (tgt := 117) hx hb dX11_about_1 (by rw [hsw]; decide) (by rw [hsw]; decide) (by rw [hsw]; decide) (by decide) ?_
    have hg := (if_neg (by rw [hsw]; decide)).symm.trans hg
    have hg := (if_neg (by rw [hsw]; decide)).symm.trans hg
    have hg := (if_neg (by rw [hsw]; decide)).symm.trans hg
    have hg := (if_neg (by rw [hsw]; decide)).symm.trans hg
    have hg := (if_neg (by rw [hsw]; decide)).symm.trans hg
    have hg := (if_pos hsw).symm.trans hg
    refine lv_aload_n hx hb dX11_about_117 rfl (lv_at hl 0 rfl) ?_
    refine wfgI_64 (v := (gI σ 64)) S X mG_731 rfl dX11_about_118 ?_
    obtain ⟨rfl, rfl⟩ := fin_some hg
    exact grx_i S hr hk X (by omega) (by omega) dX11_about_121
  · refine lv_tableIn (off := 121) (tgt := 122) hx hb dX11_about_1 (by rw [hsw]; decide) (by rw [hsw]; decide) (by rw [hsw]; decide) (by decide) ?_
    have hg := (if_neg (by rw [hsw]; decide)).symm.trans hg
    have hg := (if_neg (by rw [hsw]; decide)).symm.trans hg
    have hg := (if_neg (by rw [hsw]; decide)).symm.trans hg
    have hg := (if_neg (by rw [hsw]; decide)).symm.trans hg
    have hg := (if_neg (by rw [hsw]; decide)).symm.trans hg
    have hg := (if_neg (by rw [hsw]; decide)).symm.trans hg
    have hg := (if_pos hsw).symm.trans hg
    refine lv_aload_n hx hb dX11_about_122 rfl (lv_at hl 0 rfl) ?_
    refine wfgI_65 (v := (gI σ 65)) S X mG_732 rfl dX11_about_123 ?_
    obtain ⟨rfl, rfl⟩ := fin_some hg
    exact grx_i S hr hk X (by omega) (by omega) dX11_about_126
end MX11_about
set_option maxRecDepth 100000 in
theorem k2_X11_about (l : Launch) (hlt : l.stackTraces = false) (dC : Nat → ClassId) (dI : Nat → Nat → Nat) {ak : Nat → Nat} (x q9 : Nat) (ad : Nat → Nat) (kc : Nat → ClassId) (sv : Value) (sa va : Nat) {σ τ : S5} {a1 : Int32} {r : Int32 × Int32} (hg : f_X11_about a1 σ = some (r, τ)) (sz : Nat) : vx_Met l yX11_about (Cond.code yX11_about cX11_about 2 (some .int) :: uG) { frames := 6, cells := 1, slots := 6, locals := 90 } (gPc (dC, dI) (tF kc) (wF x q9 ad kc sv sa va) (zF ak) [.ref x, .int a1] σ sz) (gQx (dC, dI) x q9 (va_A (wF x q9 ad kc sv sa va σ) sz) r τ) (uXB dC dI (wF x q9 ad kc sv sa va τ) (tF kc) (va_A (wF x q9 ad kc sv sa va σ) sz) (cE r.1)) 1 6 (va_A (wF x q9 ad kc sv sa va σ) sz) :=
  gx_start (by decide) (Nat.le_of_ble_eq_true rfl) (fun p e s m below meth c ls S hr hk hno X hl => w_X11_about hlt S hr hk hno ⟨Nat.le_refl _, Nat.le_refl _⟩ ⟨Nat.le_refl _, Nat.le_refl _⟩ ⟨by omega, by omega⟩ X hl hg)
section MX11_program
variable {p : Program} {l : Launch} {e : Env} {R : Room} {s : State} {m : MethodId} {args : Array Value} {below : List Frame} {meth : Method} {c : Code} {dC : Nat → ClassId} {dI : Nat → Nat → Nat} {ak : Nat → Nat} {A : Nat → Prop} {x q9 : Nat} {ad : Nat → Nat} {kc : Nat → ClassId} {sv : Value} {sa va : Nat} {cells slots mc ms : Nat} {r : Int32 × Int32} {τ : S5}
set_option maxHeartbeats 4000000 in
set_option maxRecDepth 100000 in
theorem w_X11_program_b126 {σ : S5} {u0 : Int32} {H : Heap} {locs : List Loc} {ls : Array Slot} (hlt : l.stackTraces = false) (S : CallFix p m c cX11_program 1 s args uG RX11) (hr : meth.sig.returnType = (some .int)) (hk : meth.locks = false) (hno : ∀ x ∈ c.exceptionTable.toList, False) (hR : 842 ≤ R.frames ∧ 19036 ≤ R.locals) (hRc : mc ≤ R.cells ∧ ms ≤ R.slots) (hcs : cells + 1 ≤ mc ∧ slots + 6 ≤ ms)
    (X : gX (dC, dI) (tF kc) (wF x q9 ad kc sv sa va) (zF ak) A s σ H locs) (hl : lv_has ls 1 [(0, .ref x)]) (hg : f_X11_program_b126 u0 σ = some (r, τ)) : W p l e R s m args below meth c H locs cells slots (vx_MQ below (gQx (dC, dI) x q9 A r τ) (uXB dC dI (wF x q9 ad kc sv sa va τ) (tF kc) A (cE r.1)) args s mc ms A) (F0 m 126 ls [.int u0, .ref x]) := by
  have hx := S.1
  have hb := S.2.1
  have hown := S.2.2.2.1
  have hu := S.2.2.2.2
  unfold f_X11_program_b126 at hg
  obtain ⟨hn126, hg⟩ := g_t_some hg
  refine wfpI_60 S X mG_727 hn126 dX11_program_126 (fun H locs X => ?_)
  refine lv_aload_n hx hb dX11_program_129 rfl (lv_at hl 0 rfl) ?_
  refine wfgI_60 (v := u0) S X mG_727 rfl dX11_program_130 ?_
  refine lv_if_ne (tgt := 138) hx hb dX11_program_133 (by decide) (fun c133 => ?_) (fun c133 => ?_)
  · have hg := (if_neg c133).symm.trans hg
    refine lv_aload_n hx hb dX11_program_138 rfl (lv_at hl 0 rfl) ?_
    refine wfgR_0_4 S X mG_722 dX11_program_139 ?_
    obtain ⟨r142, τ142, hq142, hg⟩ := bd_some hg
    refine gf_Vv (wb := wF x q9 ad kc sv sa va) (As := []) (rest := []) (q0 := 8) (ci := 4) (ρ := mC (pI σ 60 u0) τ142) S X (k2_X1_solve l dC dI (fun i => ad (i + 4)) (fun i => kc (i + 4)) sv (k3_X1_wordOf l dC dI (fun i => ad (i + 4)) (fun i => kc (i + 4)) sv 64) hq142 H.size) (fr_C x q9 ad kc sv sa va _ _) (fun _ _ _ h => h.1) (zC_ok ak) cw_X1_solve mG_1314 rfl rfl rfl rfl rfl hl.1 (Nat.le_of_ble_eq_true rfl) dX11_program_142 ⟨by omega, by omega⟩ ⟨by omega, by omega⟩ (fun H locs X => ?_)
    refine lv_aload_n hx hb dX11_program_145 rfl (lv_at hl 0 rfl) ?_
    refine wfgR_0_1 S X mG_719 dX11_program_146 ?_
    refine wfgI_6 (v := (gI (mC (pI σ 60 u0) τ142) 6)) S X mG_303 rfl dX11_program_149 ?_
    obtain ⟨rfl, rfl⟩ := fin_some hg
    exact grx_i S hr hk X (by omega) (by omega) dX11_program_152
  · have hg := (if_pos c133).symm.trans hg
    refine lv_iconst (v := (-1)) hx hb dX11_program_136 (by decide) ?_
    obtain ⟨rfl, rfl⟩ := fin_some hg
    exact grx_i S hr hk X (by omega) (by omega) dX11_program_137
set_option maxHeartbeats 4000000 in
set_option maxRecDepth 100000 in
theorem w_X11_program_b113 {σ : S5}  {H : Heap} {locs : List Loc} {ls : Array Slot} (hlt : l.stackTraces = false) (S : CallFix p m c cX11_program 1 s args uG RX11) (hr : meth.sig.returnType = (some .int)) (hk : meth.locks = false) (hno : ∀ x ∈ c.exceptionTable.toList, False) (hR : 842 ≤ R.frames ∧ 19036 ≤ R.locals) (hRc : mc ≤ R.cells ∧ ms ≤ R.slots) (hcs : cells + 1 ≤ mc ∧ slots + 6 ≤ ms)
    (X : gX (dC, dI) (tF kc) (wF x q9 ad kc sv sa va) (zF ak) A s σ H locs) (hl : lv_has ls 1 [(0, .ref x)]) (hg : f_X11_program_b113  σ = some (r, τ)) : W p l e R s m args below meth c H locs cells slots (vx_MQ below (gQx (dC, dI) x q9 A r τ) (uXB dC dI (wF x q9 ad kc sv sa va τ) (tF kc) A (cE r.1)) args s mc ms A) (F0 m 113 ls []) := by
  have hx := S.1
  have hb := S.2.1
  have hown := S.2.2.2.1
  have hu := S.2.2.2.2
  unfold f_X11_program_b113 at hg
  refine lv_aload_n hx hb dX11_program_113 rfl (lv_at hl 0 rfl) ?_
  refine lv_aload_n hx hb dX11_program_114 rfl (lv_at hl 0 rfl) ?_
  refine wfgI_61 (v := (gI σ 61)) S X mG_728 rfl dX11_program_115 ?_
  refine lv_if_ne (tgt := 125) hx hb dX11_program_118 (by decide) (fun c118 => ?_) (fun c118 => ?_)
  · have hg := (if_neg c118).symm.trans hg
    refine lv_iconst (v := 0) hx hb dX11_program_125 (by decide) ?_
    exact w_X11_program_b126 hlt S hr hk hno hR hRc hcs X (lv_sub hl [0] rfl) hg
  · have hg := (if_pos c118).symm.trans hg
    refine lv_iconst (v := 1) hx hb dX11_program_121 (by decide) ?_
    refine lv_goto (tgt := 126) hx hb dX11_program_122 (by decide) ?_
    exact w_X11_program_b126 hlt S hr hk hno hR hRc hcs X (lv_sub hl [0] rfl) hg
set_option maxHeartbeats 4000000 in
set_option maxRecDepth 100000 in
theorem w_X11_program {σ : S5}  {H : Heap} {locs : List Loc} {ls : Array Slot} (hlt : l.stackTraces = false) (S : CallFix p m c cX11_program 1 s args uG RX11) (hr : meth.sig.returnType = (some .int)) (hk : meth.locks = false) (hno : ∀ x ∈ c.exceptionTable.toList, False) (hR : 842 ≤ R.frames ∧ 19036 ≤ R.locals) (hRc : mc ≤ R.cells ∧ ms ≤ R.slots) (hcs : cells + 1 ≤ mc ∧ slots + 6 ≤ ms)
    (X : gX (dC, dI) (tF kc) (wF x q9 ad kc sv sa va) (zF ak) A s σ H locs) (hl : lv_has ls 1 [(0, .ref x)]) (hg : f_X11_program  σ = some (r, τ)) : W p l e R s m args below meth c H locs cells slots (vx_MQ below (gQx (dC, dI) x q9 A r τ) (uXB dC dI (wF x q9 ad kc sv sa va τ) (tF kc) A (cE r.1)) args s mc ms A) (F0 m 0 ls []) := by
  have hx := S.1
  have hb := S.2.1
  have hown := S.2.2.2.1
  have hu := S.2.2.2.2
  unfold f_X11_program at hg
  refine lv_aload_n hx hb dX11_program_0 rfl (lv_at hl 0 rfl) ?_
  refine wfgI_63 (v := (gI σ 63)) S X mG_730 rfl dX11_program_1 ?_
  refine lv_sipush (v := 20000) hx hb dX11_program_4 (by decide) ?_
  refine lv_icmp_lt (tgt := 18) hx hb dX11_program_7 (by decide) (fun c7 => ?_) (fun c7 => ?_)
  · have hg := (if_pos c7).symm.trans hg
    refine lv_aload_n hx hb dX11_program_18 rfl (lv_at hl 0 rfl) ?_
    refine wfgR_0_6 S X mG_724 dX11_program_19 ?_
    obtain ⟨r22, τ22, hq22, hg⟩ := bd_some hg
    refine gf_Vv (wb := wF x q9 ad kc sv sa va) (As := []) (rest := []) (q0 := 0) (ci := 6) (ρ := mK σ τ22) S X (k2_X3_forget l dC dI (kM ad) (kN kc) sa va hq22 H.size) (fr_K x q9 ad kc sv sa va sa va _ _) (fun _ _ _ h => h) (zF_ok ak) cw_X3_forget mG_885 rfl rfl rfl rfl rfl hl.1 (Nat.le_of_ble_eq_true rfl) dX11_program_22 ⟨by omega, by omega⟩ ⟨by omega, by omega⟩ (fun H locs X => ?_)
    refine lv_aload_n hx hb dX11_program_25 rfl (lv_at hl 0 rfl) ?_
    refine wfgR_0_2 S X mG_720 dX11_program_26 ?_
    obtain ⟨r29, τ29, hq29, hg⟩ := bd_some hg
    refine gf_Vv (wb := wF x q9 ad kc sv sa va) (As := []) (rest := []) (q0 := 5) (ci := 8) (ρ := mC (mK σ τ22) τ29) S X (k2_X5_readText l dC dI (fun i => ad (i + 4)) (fun i => kc (i + 4)) sv (k3_X5_readExpression l dC dI (fun i => ad (i + 4)) (fun i => kc (i + 4)) sv 64) hq29 H.size) (fr_C x q9 ad kc sv sa va _ _) (fun _ _ _ h => h.1) (zC_ok ak) cw_X5_readText mG_892 rfl rfl rfl rfl rfl hl.1 (Nat.le_of_ble_eq_true rfl) dX11_program_29 ⟨by omega, by omega⟩ ⟨by omega, by omega⟩ (fun H locs X => ?_)
    refine lv_aload_n hx hb dX11_program_32 rfl (lv_at hl 0 rfl) ?_
    refine lv_dup hx hb dX11_program_33 rfl ?_
    refine wfgI_63 (v := (gI (mC (mK σ τ22) τ29) 63)) S X mG_730 rfl dX11_program_34 ?_
    refine lv_aload_n hx hb dX11_program_37 rfl (lv_at hl 0 rfl) ?_
    refine wfgR_0_2 S X mG_720 dX11_program_38 ?_
    refine wfgI_13 (v := (gI (mC (mK σ τ22) τ29) 13)) S X mG_547 rfl dX11_program_41 ?_
    refine lv_iadd hx hb dX11_program_44 ?_
    refine wfpI_63 S X mG_730 dX11_program_45 (fun H locs X => ?_)
    refine lv_aload_n hx hb dX11_program_48 rfl (lv_at hl 0 rfl) ?_
    refine wfgR_0_0 S X mG_718 dX11_program_49 ?_
    obtain ⟨r52, τ52, hq52, hg⟩ := bd_some hg
    refine gck_Vv (As := []) (rest := []) (q0 := 4) (ci := 11) S X (k2_X8_clear_text_F l dC dI x q9 ad kc sv sa va hq52 H.size) cw_X8_clear mG_1208 rfl rfl rfl rfl rfl hl.1 (Nat.le_of_ble_eq_true rfl) dX11_program_52 ⟨by omega, by omega⟩ ⟨by omega, by omega⟩ (fun H locs X => ?_)
    refine lv_aload_n hx hb dX11_program_55 rfl (lv_at hl 0 rfl) ?_
    refine lv_aload_n hx hb dX11_program_56 rfl (lv_at hl 0 rfl) ?_
    refine wfgR_0_2 S X mG_720 dX11_program_57 ?_
    refine wfgI_11 (v := (gI τ52 11)) S X mG_543 rfl dX11_program_60 ?_
    refine wfpI_61 S X mG_728 dX11_program_63 (fun H locs X => ?_)
    refine lv_aload_n hx hb dX11_program_66 rfl (lv_at hl 0 rfl) ?_
    refine lv_aload_n hx hb dX11_program_67 rfl (lv_at hl 0 rfl) ?_
    refine wfgR_0_2 S X mG_720 dX11_program_68 ?_
    refine wfgI_12 (v := (gI τ52 12)) S X mG_545 rfl dX11_program_71 ?_
    refine wfpI_62 S X mG_729 dX11_program_74 (fun H locs X => ?_)
    refine lv_aload_n hx hb dX11_program_77 rfl (lv_at hl 0 rfl) ?_
    refine wfgI_61 (v := (gI τ52 11)) S X mG_728 rfl dX11_program_78 ?_
    refine lv_if_ne (tgt := 113) hx hb dX11_program_81 (by decide) (fun c81 => ?_) (fun c81 => ?_)
    · have hg := (if_neg c81).symm.trans hg
      exact w_X11_program_b113 hlt S hr hk hno hR hRc hcs X (lv_sub hl [0] rfl) hg
    · have hg := (if_pos c81).symm.trans hg
      refine lv_aload_n hx hb dX11_program_84 rfl (lv_at hl 0 rfl) ?_
      refine wfgR_0_3 S X mG_721 dX11_program_85 ?_
      obtain ⟨r88, τ88, hq88, hg⟩ := bd_some hg
      refine gf_Vv (wb := wF x q9 ad kc sv sa va) (As := []) (rest := []) (q0 := 7) (ci := 5) (ρ := mC (pI (pI τ52 61 (gI τ52 11)) 62 (gI τ52 12)) τ88) S X (k2_X2_lift l dC dI (fun i => ad (i + 4)) (fun i => kc (i + 4)) sv hq88 H.size) (fr_C x q9 ad kc sv sa va _ _) (fun _ _ _ h => h.1) (zC_ok ak) cw_X2_lift mG_1209 rfl rfl rfl rfl rfl hl.1 (Nat.le_of_ble_eq_true rfl) dX11_program_88 ⟨by omega, by omega⟩ ⟨by omega, by omega⟩ (fun H locs X => ?_)
      refine lv_aload_n hx hb dX11_program_91 rfl (lv_at hl 0 rfl) ?_
      refine lv_aload_n hx hb dX11_program_92 rfl (lv_at hl 0 rfl) ?_
      refine wfgR_0_3 S X mG_721 dX11_program_93 ?_
      refine wfgI_20 (v := (gI (mC (pI (pI τ52 61 (gI τ52 11)) 62 (gI τ52 12)) τ88) 20)) S X mG_579 rfl dX11_program_96 ?_
      refine wfpI_61 S X mG_728 dX11_program_99 (fun H locs X => ?_)
      refine lv_aload_n hx hb dX11_program_102 rfl (lv_at hl 0 rfl) ?_
      refine lv_aload_n hx hb dX11_program_103 rfl (lv_at hl 0 rfl) ?_
      refine wfgR_0_3 S X mG_721 dX11_program_104 ?_
      refine wfgI_21 (v := (gI (mC (pI (pI τ52 61 (gI τ52 11)) 62 (gI τ52 12)) τ88) 21)) S X mG_581 rfl dX11_program_107 ?_
      refine wfpI_62 S X mG_729 dX11_program_110 (fun H locs X => ?_)
      exact w_X11_program_b113 hlt S hr hk hno hR hRc hcs X (lv_sub hl [0] rfl) hg
  · have hg := (if_neg c7).symm.trans hg
    obtain ⟨rfl, rfl⟩ := fin_some hg
    exact ut_throw hx hb hlt hown (by decide +kernel) hu X.2.2.2.2.2.1.2.1 X.2.2.2.2.2.1.2.2.1 mG_855 mG_231 ul_UOE uo_UOE X.2.1 X.1 X.2.2.1 X.2.2.2.1 (hl.1.trans S.2.2.1.symm) hno dX11_program_10 dX11_program_13 dX11_program_14 dX11_program_17 (by omega) (show 0 + 81 ≤ R.locals by omega) (by omega) (by omega) hk (by omega) (by omega) (Or.inr (Or.inl ⟨rfl, rfl⟩))
end MX11_program
set_option maxRecDepth 100000 in
theorem k2_X11_program (l : Launch) (hlt : l.stackTraces = false) (dC : Nat → ClassId) (dI : Nat → Nat → Nat) {ak : Nat → Nat} (x q9 : Nat) (ad : Nat → Nat) (kc : Nat → ClassId) (sv : Value) (sa va : Nat) {σ τ : S5}  {r : Int32 × Int32} (hg : f_X11_program  σ = some (r, τ)) (sz : Nat) : vx_Met l yX11_program (Cond.code yX11_program cX11_program 1 (some .int) :: uG) { frames := 842, cells := 1, slots := 6, locals := 19036 } (gPc (dC, dI) (tF kc) (wF x q9 ad kc sv sa va) (zF ak) [.ref x] σ sz) (gQx (dC, dI) x q9 (va_A (wF x q9 ad kc sv sa va σ) sz) r τ) (uXB dC dI (wF x q9 ad kc sv sa va τ) (tF kc) (va_A (wF x q9 ad kc sv sa va σ) sz) (cE r.1)) 1 6 (va_A (wF x q9 ad kc sv sa va σ) sz) :=
  gx_start (by decide) (Nat.le_of_ble_eq_true rfl) (fun p e s m below meth c ls S hr hk hno X hl => w_X11_program hlt S hr hk hno ⟨Nat.le_refl _, Nat.le_refl _⟩ ⟨Nat.le_refl _, Nat.le_refl _⟩ ⟨by omega, by omega⟩ X hl hg)
section MX11_run
variable {p : Program} {l : Launch} {e : Env} {R : Room} {s : State} {m : MethodId} {args : Array Value} {below : List Frame} {meth : Method} {c : Code} {dC : Nat → ClassId} {dI : Nat → Nat → Nat} {ak : Nat → Nat} {A : Nat → Prop} {x q9 : Nat} {ad : Nat → Nat} {kc : Nat → ClassId} {sv : Value} {sa va : Nat} {cells slots mc ms : Nat} {r : Int32 × Int32} {τ : S5}
set_option maxHeartbeats 4000000 in
set_option maxRecDepth 100000 in
theorem w_X11_run {σ : S5} {a1 : Int32} {a2 : Int32} {H : Heap} {locs : List Loc} {ls : Array Slot} (hlt : l.stackTraces = false) (S : CallFix p m c cX11_run 3 s args uG RX11) (hr : meth.sig.returnType = (some .int)) (hk : meth.locks = false) (hno : ∀ x ∈ c.exceptionTable.toList, False) (hR : 198 ≤ R.frames ∧ 4815 ≤ R.locals) (hRc : mc ≤ R.cells ∧ ms ≤ R.slots) (hcs : cells + 1 + (ka τ - ka σ) ≤ mc ∧ slots + 6 + (sl τ - sl σ) ≤ ms)
    (X : gX (dC, dI) (tF kc) (wF x q9 ad kc sv sa va) (zF ak) A s σ H locs) (hl : lv_has ls 3 [(0, .ref x), (1, .int a1), (2, .int a2)]) (hg : f_X11_run a1 a2 σ = some (r, τ)) : W p l e R s m args below meth c H locs cells slots (vx_MQ below (gQx (dC, dI) x q9 A r τ) (uXB dC dI (wF x q9 ad kc sv sa va τ) (tF kc) A (cE r.1)) args s mc ms A) (F0 m 0 ls []) := by
  have hx := S.1
  have hb := S.2.1
  have hown := S.2.2.2.1
  have hu := S.2.2.2.2
  unfold f_X11_run at hg
  refine lv_aload_n hx hb dX11_run_0 rfl (lv_at hl 0 rfl) ?_
  refine wfgI_60 (v := (gI σ 60)) S X mG_727 rfl dX11_run_1 ?_
  refine lv_if_ne (tgt := 15) hx hb dX11_run_4 (by decide) (fun c4 => ?_) (fun c4 => ?_)
  · have hg := (if_neg c4).symm.trans hg
    refine lv_iload_n hx hb dX11_run_15 rfl (lv_at hl 2 rfl) ?_
    refine lv_if_lt (tgt := 26) hx hb dX11_run_16 (by decide) (fun c16 => ?_) (fun c16 => ?_)
    · have hg := (if_pos c16).symm.trans hg
      obtain ⟨rfl, rfl⟩ := fin_some hg
      exact ut_throw hx hb hlt hown (by decide +kernel) hu X.2.2.2.2.2.1.2.1 X.2.2.2.2.2.1.2.2.1 mG_789 mG_230 ul_IAE uo_IAE X.2.1 X.1 X.2.2.1 X.2.2.2.1 (hl.1.trans S.2.2.1.symm) hno dX11_run_26 dX11_run_29 dX11_run_30 dX11_run_33 (by omega) (show 0 + 81 ≤ R.locals by omega) (by omega) (by omega) hk (by omega) (by omega) (Or.inl ⟨rfl, rfl⟩)
    · have hg := (if_neg c16).symm.trans hg
      refine lv_iload_n hx hb dX11_run_19 rfl (lv_at hl 2 rfl) ?_
      refine lv_sipush (v := 800) hx hb dX11_run_20 (by decide) ?_
      refine lv_icmp_le (tgt := 34) hx hb dX11_run_23 (by decide) (fun c23 => ?_) (fun c23 => ?_)
      · have hg := (if_pos c23).symm.trans hg
        refine lv_aload_n hx hb dX11_run_34 rfl (lv_at hl 0 rfl) ?_
        refine wfgI_64 (v := (gI σ 64)) S X mG_731 rfl dX11_run_35 ?_
        refine lv_ldc (own := RX11) (v := 150000) hx hb hown (hu _ mG_1796) dX11_run_38 ?_
        refine lv_icmp_ge (tgt := 52) hx hb dX11_run_40 (by decide) (fun c40 => ?_) (fun c40 => ?_)
        · have hg := (if_pos c40).symm.trans hg
          obtain ⟨rfl, rfl⟩ := fin_some hg
          exact ut_throw hx hb hlt hown (by decide +kernel) hu X.2.2.2.2.2.1.2.1 X.2.2.2.2.2.1.2.2.1 mG_855 mG_231 ul_UOE uo_UOE X.2.1 X.1 X.2.2.1 X.2.2.2.1 (hl.1.trans S.2.2.1.symm) hno dX11_run_52 dX11_run_55 dX11_run_56 dX11_run_59 (by omega) (show 0 + 81 ≤ R.locals by omega) (by omega) (by omega) hk (by omega) (by omega) (Or.inr (Or.inl ⟨rfl, rfl⟩))
        · have hg := (if_neg c40).symm.trans hg
          refine lv_aload_n hx hb dX11_run_43 rfl (lv_at hl 0 rfl) ?_
          refine wfgI_65 (v := (gI σ 65)) S X mG_732 rfl dX11_run_44 ?_
          refine lv_ldc (own := RX11) (v := 150000) hx hb hown (hu _ mG_1796) dX11_run_47 ?_
          refine lv_icmp_lt (tgt := 60) hx hb dX11_run_49 (by decide) (fun c49 => ?_) (fun c49 => ?_)
          · have hg := (if_pos c49).symm.trans hg
            refine lv_aload_n hx hb dX11_run_60 rfl (lv_at hl 0 rfl) ?_
            refine wfgR_0_6 S X mG_724 dX11_run_61 ?_
            refine lv_iload_n hx hb dX11_run_64 rfl (lv_at hl 1 rfl) ?_
            refine lv_iload_n hx hb dX11_run_65 rfl (lv_at hl 2 rfl) ?_
            obtain ⟨r66, τ66, hq66, hg⟩ := bd_some hg
            obtain ⟨rfl, rfl⟩ := fin_some hg
            have hcs : cells + 1 + (ka τ66 - ka σ) ≤ mc ∧ slots + 6 + (sl τ66 - sl σ) ≤ ms := hcs
            refine gfy_V (wy := fun sa va => wF x q9 ad kc sv sa va) (wz := fun sa va => wK (kM ad) (kN kc) sa va) (As := [.int a1, .int a2]) (rest := []) (q0 := 0) (ci := 6) (ρ := mK σ τ66) (m1 := ka τ66 - ka σ) (m2 := sl τ66 - sl σ) S X (k2_X3_start l dC dI (kM ad) (kN kc) sa va hq66 H.size) (fun sa1 va1 => fr_K x q9 ad kc sv sa va sa1 va1 _ _) (fun _ _ _ h => h) (zF_ok ak) cw_X3_start mG_1797 rfl rfl rfl rfl rfl hl.1 (Nat.le_of_ble_eq_true rfl) dX11_run_66 ⟨by omega, by omega⟩ ⟨by omega, by omega⟩ (fun sa va H locs X => ?_)
            refine lv_aload_n hx hb dX11_run_69 rfl (lv_at hl 0 rfl) ?_
            refine lv_dup hx hb dX11_run_70 rfl ?_
            refine wfgI_64 (v := (gI (mK σ τ66) 64)) S X mG_731 rfl dX11_run_71 ?_
            refine lv_aload_n hx hb dX11_run_74 rfl (lv_at hl 0 rfl) ?_
            refine wfgR_0_6 S X mG_724 dX11_run_75 ?_
            refine wfgR_53_2 S X mG_663 dX11_run_78 ?_
            refine lv_iconst (v := 2) hx hb dX11_run_81 (by decide) ?_
            refine wflA_40 (v := (xA (mK σ τ66) 40 2)) S X (vp_in_iff.mpr (by decide)) rfl dX11_run_82 ?_
            refine lv_iadd hx hb dX11_run_83 ?_
            refine wfpI_64 S X mG_731 dX11_run_84 (fun H locs X => ?_)
            refine lv_aload_n hx hb dX11_run_87 rfl (lv_at hl 0 rfl) ?_
            refine lv_dup hx hb dX11_run_88 rfl ?_
            refine wfgI_65 (v := (gI (mK σ τ66) 65)) S X mG_732 rfl dX11_run_89 ?_
            refine lv_aload_n hx hb dX11_run_92 rfl (lv_at hl 0 rfl) ?_
            refine wfgR_0_6 S X mG_724 dX11_run_93 ?_
            refine wfgR_53_2 S X mG_663 dX11_run_96 ?_
            refine lv_iconst (v := 3) hx hb dX11_run_99 (by decide) ?_
            refine wflA_40 (v := (xA (mK σ τ66) 40 3)) S X (vp_in_iff.mpr (by decide)) rfl dX11_run_100 ?_
            refine lv_iadd hx hb dX11_run_101 ?_
            refine wfpI_65 S X mG_732 dX11_run_102 (fun H locs X => ?_)
            refine lv_aload_n hx hb dX11_run_105 rfl (lv_at hl 0 rfl) ?_
            refine wfgR_0_6 S X mG_724 dX11_run_106 ?_
            refine wfgR_53_2 S X mG_663 dX11_run_109 ?_
            refine lv_iconst (v := 0) hx hb dX11_run_112 (by decide) ?_
            refine wflA_40 (v := (xA (mK σ τ66) 40 0)) S X (vp_in_iff.mpr (by decide)) rfl dX11_run_113 ?_
            exact grx_i S hr hk X (by omega) (by omega) dX11_run_114
          · have hg := (if_neg c49).symm.trans hg
            obtain ⟨rfl, rfl⟩ := fin_some hg
            exact ut_throw hx hb hlt hown (by decide +kernel) hu X.2.2.2.2.2.1.2.1 X.2.2.2.2.2.1.2.2.1 mG_855 mG_231 ul_UOE uo_UOE X.2.1 X.1 X.2.2.1 X.2.2.2.1 (hl.1.trans S.2.2.1.symm) hno dX11_run_52 dX11_run_55 dX11_run_56 dX11_run_59 (by omega) (show 0 + 81 ≤ R.locals by omega) (by omega) (by omega) hk (by omega) (by omega) (Or.inr (Or.inl ⟨rfl, rfl⟩))
      · have hg := (if_neg c23).symm.trans hg
        obtain ⟨rfl, rfl⟩ := fin_some hg
        exact ut_throw hx hb hlt hown (by decide +kernel) hu X.2.2.2.2.2.1.2.1 X.2.2.2.2.2.1.2.2.1 mG_789 mG_230 ul_IAE uo_IAE X.2.1 X.1 X.2.2.1 X.2.2.2.1 (hl.1.trans S.2.2.1.symm) hno dX11_run_26 dX11_run_29 dX11_run_30 dX11_run_33 (by omega) (show 0 + 81 ≤ R.locals by omega) (by omega) (by omega) hk (by omega) (by omega) (Or.inl ⟨rfl, rfl⟩)
  · have hg := (if_pos c4).symm.trans hg
    obtain ⟨rfl, rfl⟩ := fin_some hg
    exact ut_throw hx hb hlt hown (by decide +kernel) hu X.2.2.2.2.2.1.2.1 X.2.2.2.2.2.1.2.2.1 mG_1627 mG_246 ul_ISE uo_ISE X.2.1 X.1 X.2.2.1 X.2.2.2.1 (hl.1.trans S.2.2.1.symm) hno dX11_run_7 dX11_run_10 dX11_run_11 dX11_run_14 (by omega) (show 0 + 81 ≤ R.locals by omega) (by omega) (by omega) hk (by omega) (by omega) (Or.inr (Or.inr (Or.inl ⟨rfl, rfl⟩)))
end MX11_run
set_option maxRecDepth 100000 in
theorem k2_X11_run (l : Launch) (hlt : l.stackTraces = false) (dC : Nat → ClassId) (dI : Nat → Nat → Nat) {ak : Nat → Nat} (x q9 : Nat) (ad : Nat → Nat) (kc : Nat → ClassId) (sv : Value) (sa va : Nat) {σ τ : S5} {a1 : Int32} {a2 : Int32} {r : Int32 × Int32} (hg : f_X11_run a1 a2 σ = some (r, τ)) (sz : Nat) : vx_Met l yX11_run (Cond.code yX11_run cX11_run 3 (some .int) :: uG) { frames := 198, cells := (1 + (ka τ - ka σ)), slots := (6 + (sl τ - sl σ)), locals := 4815 } (gPc (dC, dI) (tF kc) (wF x q9 ad kc sv sa va) (zF ak) [.ref x, .int a1, .int a2] σ sz) (gQx (dC, dI) x q9 (va_A (wF x q9 ad kc sv sa va σ) sz) r τ) (uXB dC dI (wF x q9 ad kc sv sa va τ) (tF kc) (va_A (wF x q9 ad kc sv sa va σ) sz) (cE r.1)) (1 + (ka τ - ka σ)) (6 + (sl τ - sl σ)) (va_A (wF x q9 ad kc sv sa va σ) sz) :=
  gx_start (by decide) (Nat.le_of_ble_eq_true rfl) (fun p e s m below meth c ls S hr hk hno X hl => w_X11_run hlt S hr hk hno ⟨Nat.le_refl _, Nat.le_refl _⟩ ⟨Nat.le_refl _, Nat.le_refl _⟩ ⟨by omega, by omega⟩ X hl hg)
section MX11_write
variable {p : Program} {l : Launch} {e : Env} {R : Room} {s : State} {m : MethodId} {args : Array Value} {below : List Frame} {meth : Method} {c : Code} {dC : Nat → ClassId} {dI : Nat → Nat → Nat} {ak : Nat → Nat} {A : Nat → Prop} {x q9 : Nat} {ad : Nat → Nat} {kc : Nat → ClassId} {sv : Value} {sa va : Nat} {cells slots mc ms : Nat} {r : Int32 × Int32} {τ : S5}
set_option maxHeartbeats 4000000 in
set_option maxRecDepth 100000 in
theorem w_X11_write {σ : S5}  {H : Heap} {locs : List Loc} {ls : Array Slot} (hlt : l.stackTraces = false) (S : CallFix p m c cX11_write 2 s args uG RX11) (hr : meth.sig.returnType = (some .int)) (hk : meth.locks = false) (hno : ∀ x ∈ c.exceptionTable.toList, False) (hR : 455 ≤ R.frames ∧ 9879 ≤ R.locals) (hRc : mc ≤ R.cells ∧ ms ≤ R.slots) (hcs : cells + 1 ≤ mc ∧ slots + 6 ≤ ms)
    (X : gX (dC, dI) (tF kc) (wF x q9 ad kc sv sa va) (zF ak) A s σ H locs) (hl : lv_has ls 2 [(0, .ref x)]) (hg : f_X11_write  σ = some (r, τ)) : W p l e R s m args below meth c H locs cells slots (vx_MQ below (gQx (dC, dI) x q9 A r τ) (uXB dC dI (wF x q9 ad kc sv sa va τ) (tF kc) A (cE r.1)) args s mc ms A) (F0 m 0 ls []) := by
  have hx := S.1
  have hb := S.2.1
  have hown := S.2.2.2.1
  have hu := S.2.2.2.2
  unfold f_X11_write at hg
  refine lv_aload_n hx hb dX11_write_0 rfl (lv_at hl 0 rfl) ?_
  refine wfgI_60 (v := (gI σ 60)) S X mG_727 rfl dX11_write_1 ?_
  refine lv_if_ne (tgt := 15) hx hb dX11_write_4 (by decide) (fun c4 => ?_) (fun c4 => ?_)
  · have hg := (if_neg c4).symm.trans hg
    refine lv_aload_n hx hb dX11_write_15 rfl (lv_at hl 0 rfl) ?_
    refine wfgR_0_8 S X mG_726 dX11_write_16 ?_
    obtain ⟨r19, τ19, hq19, hg⟩ := bd_some hg
    refine gf_Vv (wb := wF x q9 ad kc sv sa va) (As := []) (rest := []) (q0 := 1) (ci := 11) (ρ := mC σ τ19) S X (k2_X8_clear_draft l dC dI (fun i => ad (i + 4)) (fun i => kc (i + 4)) sv hq19 H.size) (fr_C x q9 ad kc sv sa va _ _) (fun _ _ _ h => h.1) (zC_ok ak) cw_X8_clear mG_1208 rfl rfl rfl rfl rfl hl.1 (Nat.le_of_ble_eq_true rfl) dX11_write_19 ⟨by omega, by omega⟩ ⟨by omega, by omega⟩ (fun H locs X => ?_)
    refine lv_aload_n hx hb dX11_write_22 rfl (lv_at hl 0 rfl) ?_
    refine wfgR_0_5 S X mG_723 dX11_write_23 ?_
    refine lv_aload_n hx hb dX11_write_26 rfl (lv_at hl 0 rfl) ?_
    refine wfgR_0_8 S X mG_726 dX11_write_27 ?_
    obtain ⟨r30, τ30, hq30, hg⟩ := bd_some hg
    refine gf_Vv (wb := wF x q9 ad kc sv sa va) (As := [.ref (ad 5)]) (rest := []) (q0 := 9) (ci := 10) (ρ := mC (mC σ τ19) τ30) S X (k2_X7_writeProgram l dC dI (fun i => ad (i + 4)) (fun i => kc (i + 4)) sv (k3_X7_writePart l dC dI (fun i => ad (i + 4)) (fun i => kc (i + 4)) sv 64) hq30 H.size) (fr_C x q9 ad kc sv sa va _ _) (fun _ _ _ h => h.1) (zC_ok ak) cw_X7_writeProgram mG_1642 rfl rfl rfl rfl rfl hl.1 (Nat.le_of_ble_eq_true rfl) dX11_write_30 ⟨by omega, by omega⟩ ⟨by omega, by omega⟩ (fun H locs X => ?_)
    refine lv_aload_n hx hb dX11_write_33 rfl (lv_at hl 0 rfl) ?_
    refine wfgR_0_8 S X mG_726 dX11_write_34 ?_
    refine wfgI_3 (v := (gI (mC (mC σ τ19) τ30) 3)) S X mG_267 rfl dX11_write_37 ?_
    refine lv_if_eq (tgt := 45) hx hb dX11_write_40 (by decide) (fun c40 => ?_) (fun c40 => ?_)
    · have hg := (if_pos c40).symm.trans hg
      refine lv_aload_n hx hb dX11_write_45 rfl (lv_at hl 0 rfl) ?_
      refine wfgR_0_7 S X mG_725 dX11_write_46 ?_
      refine lv_astore_n (lv' := [(1, .ref (ad 1)), (0, .ref x)]) hx hb dX11_write_49 rfl hl (by decide) rfl (fun ls hl => ?_)
      refine lv_aload_n hx hb dX11_write_50 rfl (lv_at hl 1 rfl) ?_
      refine lv_aload_n hx hb dX11_write_51 rfl (lv_at hl 1 rfl) ?_
      refine wfgR_0_8 S X mG_726 dX11_write_52 ?_
      refine gw_swap S X mG_725 mG_726 dX11_write_55 dX11_write_58 dX11_write_59 dX11_write_60 (lv_at hl 1 rfl) (lv_at hl 0 rfl) (fun H locs X => ?_)
      refine lv_aload_n hx hb dX11_write_63 rfl (lv_at hl 1 rfl) ?_
      refine wfgR_0_7 S X mG_725 dX11_write_64 ?_
      refine wfgI_66 (v := (gI (swS (mC (mC σ τ19) τ30)) 66)) S X mG_264 rfl dX11_write_67 ?_
      obtain ⟨rfl, rfl⟩ := fin_some hg
      exact grx_i S hr hk X (by omega) (by omega) dX11_write_70
    · have hg := (if_neg c40).symm.trans hg
      refine lv_iconst (v := (-1)) hx hb dX11_write_43 (by decide) ?_
      obtain ⟨rfl, rfl⟩ := fin_some hg
      exact grx_i S hr hk X (by omega) (by omega) dX11_write_44
  · have hg := (if_pos c4).symm.trans hg
    obtain ⟨rfl, rfl⟩ := fin_some hg
    exact ut_throw hx hb hlt hown (by decide +kernel) hu X.2.2.2.2.2.1.2.1 X.2.2.2.2.2.1.2.2.1 mG_1627 mG_246 ul_ISE uo_ISE X.2.1 X.1 X.2.2.1 X.2.2.2.1 (hl.1.trans S.2.2.1.symm) hno dX11_write_7 dX11_write_10 dX11_write_11 dX11_write_14 (by omega) (show 0 + 81 ≤ R.locals by omega) (by omega) (by omega) hk (by omega) (by omega) (Or.inr (Or.inr (Or.inl ⟨rfl, rfl⟩)))
end MX11_write
set_option maxRecDepth 100000 in
theorem k2_X11_write (l : Launch) (hlt : l.stackTraces = false) (dC : Nat → ClassId) (dI : Nat → Nat → Nat) {ak : Nat → Nat} (x q9 : Nat) (ad : Nat → Nat) (kc : Nat → ClassId) (sv : Value) (sa va : Nat) {σ τ : S5}  {r : Int32 × Int32} (hg : f_X11_write  σ = some (r, τ)) (sz : Nat) : vx_Met l yX11_write (Cond.code yX11_write cX11_write 2 (some .int) :: uG) { frames := 455, cells := 1, slots := 6, locals := 9879 } (gPc (dC, dI) (tF kc) (wF x q9 ad kc sv sa va) (zF ak) [.ref x] σ sz) (gQx (dC, dI) x q9 (va_A (wF x q9 ad kc sv sa va σ) sz) r τ) (uXB dC dI (wF x q9 ad kc sv sa va τ) (tF kc) (va_A (wF x q9 ad kc sv sa va σ) sz) (cE r.1)) 1 6 (va_A (wF x q9 ad kc sv sa va σ) sz) :=
  gx_start (by decide) (Nat.le_of_ble_eq_true rfl) (fun p e s m below meth c ls S hr hk hno X hl => w_X11_write hlt S hr hk hno ⟨Nat.le_refl _, Nat.le_refl _⟩ ⟨Nat.le_refl _, Nat.le_refl _⟩ ⟨by omega, by omega⟩ X hl hg)

