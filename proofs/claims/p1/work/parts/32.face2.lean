theorem sw_0_4 (x : Int32) : (x.toInt < 0 ∨ 4 < x.toInt) ∨ x = 0 ∨ x = 1 ∨ x = 2 ∨ x = 3 ∨ x = 4 := by
  by_cases h : x.toInt < 0 ∨ 4 < x.toInt
  · exact Or.inl h
  · have h2 : x.toInt = 0 ∨ x.toInt = 1 ∨ x.toInt = 2 ∨ x.toInt = 3 ∨ x.toInt = 4 := by omega
    refine Or.inr ?_
    rcases h2 with h | h | h | h | h
    · exact Or.inl (Int32.toInt_inj.mp (h.trans (by decide)))
    · exact Or.inr (Or.inl (Int32.toInt_inj.mp (h.trans (by decide))))
    · exact Or.inr (Or.inr (Or.inl (Int32.toInt_inj.mp (h.trans (by decide)))))
    · exact Or.inr (Or.inr (Or.inr (Or.inl (Int32.toInt_inj.mp (h.trans (by decide))))))
    · exact Or.inr (Or.inr (Or.inr (Or.inr (Int32.toInt_inj.mp (h.trans (by decide))))))

theorem sw_0_6 (x : Int32) : (x.toInt < 0 ∨ 6 < x.toInt) ∨ x = 0 ∨ x = 1 ∨ x = 2 ∨ x = 3 ∨ x = 4 ∨ x = 5 ∨ x = 6 := by
  by_cases h : x.toInt < 0 ∨ 6 < x.toInt
  · exact Or.inl h
  · have h2 : x.toInt = 0 ∨ x.toInt = 1 ∨ x.toInt = 2 ∨ x.toInt = 3 ∨ x.toInt = 4 ∨ x.toInt = 5 ∨ x.toInt = 6 := by omega
    refine Or.inr ?_
    rcases h2 with h | h | h | h | h | h | h
    · exact Or.inl (Int32.toInt_inj.mp (h.trans (by decide)))
    · exact Or.inr (Or.inl (Int32.toInt_inj.mp (h.trans (by decide))))
    · exact Or.inr (Or.inr (Or.inl (Int32.toInt_inj.mp (h.trans (by decide)))))
    · exact Or.inr (Or.inr (Or.inr (Or.inl (Int32.toInt_inj.mp (h.trans (by decide))))))
    · exact Or.inr (Or.inr (Or.inr (Or.inr (Or.inl (Int32.toInt_inj.mp (h.trans (by decide)))))))
    · exact Or.inr (Or.inr (Or.inr (Or.inr (Or.inr (Or.inl (Int32.toInt_inj.mp (h.trans (by decide))))))))
    · exact Or.inr (Or.inr (Or.inr (Or.inr (Or.inr (Or.inr (Int32.toInt_inj.mp (h.trans (by decide))))))))

theorem mG_244 : Cond.initialized "java/lang/IndexOutOfBoundsException" ∈ uG := uG_at 244 (by decide +kernel) (by decide +kernel)
theorem mG_246 : Cond.initialized "java/lang/IllegalStateException" ∈ uG := uG_at 246 (by decide +kernel) (by decide +kernel)
theorem mG_293 : Cond.fieldLink "LazyForge" 186 "LazyForge$Program" "constructors" "I" ∈ uG := uG_at 293 (by decide +kernel) (by decide +kernel)
theorem mG_303 : Cond.fieldLink "LazyForge" 130 "LazyForge$Program" "functions" "I" ∈ uG := uG_at 303 (by decide +kernel) (by decide +kernel)
theorem mG_547 : Cond.fieldLink "LazyForge" 107 "LazyForge$Reader" "parts" "I" ∈ uG := uG_at 547 (by decide +kernel) (by decide +kernel)
theorem mG_663 : Cond.fieldLink "LazyForge" 175 "LazyForge$Machine" "counts" "[I" ∈ uG := uG_at 663 (by decide +kernel) (by decide +kernel)
theorem mG_665 : Cond.fieldLink "LazyForge" 183 "LazyForge$Machine" "timesCalled" "[I" ∈ uG := uG_at 665 (by decide +kernel) (by decide +kernel)
theorem mG_667 : Cond.fieldLink "LazyForge" 180 "LazyForge$Machine" "row" "[I" ∈ uG := uG_at 667 (by decide +kernel) (by decide +kernel)
theorem mG_727 : Cond.fieldLink "LazyForge" 123 "LazyForge" "standing" "Z" ∈ uG := uG_at 727 (by decide +kernel) (by decide +kernel)
theorem mG_731 : Cond.fieldLink "LazyForge" 164 "LazyForge" "callsEver" "I" ∈ uG := uG_at 731 (by decide +kernel) (by decide +kernel)
theorem mG_732 : Cond.fieldLink "LazyForge" 168 "LazyForge" "cellsEver" "I" ∈ uG := uG_at 732 (by decide +kernel) (by decide +kernel)
theorem mG_927 : Cond.instanceMethod yX8_signAt ∈ uG := uG_at 927 (by decide +kernel) (by decide +kernel)
theorem mG_928 : Cond.selects "LazyForge$Signs" yX8_signAt yX8_signAt ∈ uG := uG_at 928 (by decide +kernel) (by decide +kernel)
theorem mG_929 : Cond.code yX8_signAt prog_10_method_7_code 2 (some .int) ∈ uG := uG_at 929 (by decide +kernel) (by decide +kernel)
theorem mG_1627 : Cond.classLink "LazyForge" 133 "java/lang/IllegalStateException" ∈ uG := uG_at 1627 (by decide +kernel) (by decide +kernel)
theorem mG_1743 : Cond.classLink "LazyForge" 142 "java/lang/IndexOutOfBoundsException" ∈ uG := uG_at 1743 (by decide +kernel) (by decide +kernel)
theorem mG_1758 : Cond.methodLink "LazyForge" 145 yX8_signAt ∈ uG := uG_at 1758 (by decide +kernel) (by decide +kernel)
theorem mG_1766 : Cond.methodLink "LazyForge" 149 yX4_tell ∈ uG := uG_at 1766 (by decide +kernel) (by decide +kernel)
theorem mG_1767 : Cond.instanceMethod yX4_tell ∈ uG := uG_at 1767 (by decide +kernel) (by decide +kernel)
theorem mG_1768 : Cond.selects "LazyForge$Program" yX4_tell yX4_tell ∈ uG := uG_at 1768 (by decide +kernel) (by decide +kernel)
theorem mG_1769 : Cond.code yX4_tell prog_6_method_9_code 3 (some .int) ∈ uG := uG_at 1769 (by decide +kernel) (by decide +kernel)
theorem dX11_about_0 : decode cX11_about 0 = .ok (.iload_n 1, 1) := by decide +kernel
theorem dX11_about_1 : decode cX11_about 1 = .ok (.tableswitch 126 0 6 #[43, 62, 81, 100, 108, 116, 121], 43) := by decide +kernel
theorem dX11_about_44 : decode cX11_about 44 = .ok (.aload_n 0, 1) := by decide +kernel
theorem dX11_about_45 : decode cX11_about 45 = .ok (.getfield 123, 3) := by decide +kernel
theorem dX11_about_48 : decode cX11_about 48 = .ok (.ifCond .eq 13, 3) := by decide +kernel
theorem dX11_about_51 : decode cX11_about 51 = .ok (.aload_n 0, 1) := by decide +kernel
theorem dX11_about_52 : decode cX11_about 52 = .ok (.getfield 27, 3) := by decide +kernel
theorem dX11_about_55 : decode cX11_about 55 = .ok (.getfield 130, 3) := by decide +kernel
theorem dX11_about_58 : decode cX11_about 58 = .ok (.goto 4, 3) := by decide +kernel
theorem dX11_about_61 : decode cX11_about 61 = .ok (.iconst 0, 1) := by decide +kernel
theorem dX11_about_62 : decode cX11_about 62 = .ok (.ireturn, 1) := by decide +kernel
theorem dX11_about_63 : decode cX11_about 63 = .ok (.aload_n 0, 1) := by decide +kernel
theorem dX11_about_64 : decode cX11_about 64 = .ok (.getfield 123, 3) := by decide +kernel
theorem dX11_about_67 : decode cX11_about 67 = .ok (.ifCond .eq 13, 3) := by decide +kernel
theorem dX11_about_70 : decode cX11_about 70 = .ok (.aload_n 0, 1) := by decide +kernel
theorem dX11_about_71 : decode cX11_about 71 = .ok (.getfield 27, 3) := by decide +kernel
theorem dX11_about_74 : decode cX11_about 74 = .ok (.getfield 186, 3) := by decide +kernel
theorem dX11_about_77 : decode cX11_about 77 = .ok (.goto 4, 3) := by decide +kernel
theorem dX11_about_80 : decode cX11_about 80 = .ok (.iconst 0, 1) := by decide +kernel
theorem dX11_about_81 : decode cX11_about 81 = .ok (.ireturn, 1) := by decide +kernel
theorem dX11_about_82 : decode cX11_about 82 = .ok (.aload_n 0, 1) := by decide +kernel
theorem dX11_about_83 : decode cX11_about 83 = .ok (.getfield 123, 3) := by decide +kernel
theorem dX11_about_86 : decode cX11_about 86 = .ok (.ifCond .eq 13, 3) := by decide +kernel
theorem dX11_about_89 : decode cX11_about 89 = .ok (.aload_n 0, 1) := by decide +kernel
theorem dX11_about_90 : decode cX11_about 90 = .ok (.getfield 42, 3) := by decide +kernel
theorem dX11_about_93 : decode cX11_about 93 = .ok (.getfield 107, 3) := by decide +kernel
theorem dX11_about_96 : decode cX11_about 96 = .ok (.goto 4, 3) := by decide +kernel
theorem dX11_about_99 : decode cX11_about 99 = .ok (.iconst 0, 1) := by decide +kernel
theorem dX11_about_100 : decode cX11_about 100 = .ok (.ireturn, 1) := by decide +kernel
theorem dX11_about_101 : decode cX11_about 101 = .ok (.aload_n 0, 1) := by decide +kernel
theorem dX11_about_102 : decode cX11_about 102 = .ok (.getfield 14, 3) := by decide +kernel
theorem dX11_about_105 : decode cX11_about 105 = .ok (.getfield 85, 3) := by decide +kernel
theorem dX11_about_108 : decode cX11_about 108 = .ok (.ireturn, 1) := by decide +kernel
theorem dX11_about_109 : decode cX11_about 109 = .ok (.aload_n 0, 1) := by decide +kernel
theorem dX11_about_110 : decode cX11_about 110 = .ok (.getfield 18, 3) := by decide +kernel
theorem dX11_about_113 : decode cX11_about 113 = .ok (.getfield 85, 3) := by decide +kernel
theorem dX11_about_116 : decode cX11_about 116 = .ok (.ireturn, 1) := by decide +kernel
theorem dX11_about_117 : decode cX11_about 117 = .ok (.aload_n 0, 1) := by decide +kernel
theorem dX11_about_118 : decode cX11_about 118 = .ok (.getfield 164, 3) := by decide +kernel
theorem dX11_about_121 : decode cX11_about 121 = .ok (.ireturn, 1) := by decide +kernel
theorem dX11_about_122 : decode cX11_about 122 = .ok (.aload_n 0, 1) := by decide +kernel
theorem dX11_about_123 : decode cX11_about 123 = .ok (.getfield 168, 3) := by decide +kernel
theorem dX11_about_126 : decode cX11_about 126 = .ok (.ireturn, 1) := by decide +kernel
theorem dX11_about_127 : decode cX11_about 127 = .ok (.new 82, 3) := by decide +kernel
theorem dX11_about_130 : decode cX11_about 130 = .ok (.dup, 1) := by decide +kernel
theorem dX11_about_131 : decode cX11_about 131 = .ok (.invokespecial 84, 3) := by decide +kernel
theorem dX11_about_134 : decode cX11_about 134 = .ok (.athrow, 1) := by decide +kernel
theorem dX11_called_0 : decode cX11_called 0 = .ok (.aload_n 0, 1) := by decide +kernel
theorem dX11_called_1 : decode cX11_called 1 = .ok (.getfield 123, 3) := by decide +kernel
theorem dX11_called_4 : decode cX11_called 4 = .ok (.ifCond .ne 11, 3) := by decide +kernel
theorem dX11_called_7 : decode cX11_called 7 = .ok (.new 133, 3) := by decide +kernel
theorem dX11_called_10 : decode cX11_called 10 = .ok (.dup, 1) := by decide +kernel
theorem dX11_called_11 : decode cX11_called 11 = .ok (.invokespecial 135, 3) := by decide +kernel
theorem dX11_called_14 : decode cX11_called 14 = .ok (.athrow, 1) := by decide +kernel
theorem dX11_called_15 : decode cX11_called 15 = .ok (.iload_n 1, 1) := by decide +kernel
theorem dX11_called_16 : decode cX11_called 16 = .ok (.ifCond .lt 14, 3) := by decide +kernel
theorem dX11_called_19 : decode cX11_called 19 = .ok (.iload_n 1, 1) := by decide +kernel
theorem dX11_called_20 : decode cX11_called 20 = .ok (.aload_n 0, 1) := by decide +kernel
theorem dX11_called_21 : decode cX11_called 21 = .ok (.getfield 27, 3) := by decide +kernel
theorem dX11_called_24 : decode cX11_called 24 = .ok (.getfield 130, 3) := by decide +kernel
theorem dX11_called_27 : decode cX11_called 27 = .ok (.if_icmp .lt 11, 3) := by decide +kernel
theorem dX11_called_30 : decode cX11_called 30 = .ok (.new 142, 3) := by decide +kernel
theorem dX11_called_33 : decode cX11_called 33 = .ok (.dup, 1) := by decide +kernel
theorem dX11_called_34 : decode cX11_called 34 = .ok (.invokespecial 144, 3) := by decide +kernel
theorem dX11_called_37 : decode cX11_called 37 = .ok (.athrow, 1) := by decide +kernel
theorem dX11_called_38 : decode cX11_called 38 = .ok (.aload_n 0, 1) := by decide +kernel
theorem dX11_called_39 : decode cX11_called 39 = .ok (.getfield 74, 3) := by decide +kernel
theorem dX11_called_42 : decode cX11_called 42 = .ok (.getfield 183, 3) := by decide +kernel
theorem dX11_called_45 : decode cX11_called 45 = .ok (.iload_n 1, 1) := by decide +kernel
theorem dX11_called_46 : decode cX11_called 46 = .ok (.iaload, 1) := by decide +kernel
theorem dX11_called_47 : decode cX11_called 47 = .ok (.ireturn, 1) := by decide +kernel
theorem dX11_function_0 : decode cX11_function 0 = .ok (.aload_n 0, 1) := by decide +kernel
theorem dX11_function_1 : decode cX11_function 1 = .ok (.getfield 123, 3) := by decide +kernel
theorem dX11_function_4 : decode cX11_function 4 = .ok (.ifCond .ne 11, 3) := by decide +kernel
theorem dX11_function_7 : decode cX11_function 7 = .ok (.new 133, 3) := by decide +kernel
theorem dX11_function_10 : decode cX11_function 10 = .ok (.dup, 1) := by decide +kernel
theorem dX11_function_11 : decode cX11_function 11 = .ok (.invokespecial 135, 3) := by decide +kernel
theorem dX11_function_14 : decode cX11_function 14 = .ok (.athrow, 1) := by decide +kernel
theorem dX11_function_15 : decode cX11_function 15 = .ok (.iload_n 1, 1) := by decide +kernel
theorem dX11_function_16 : decode cX11_function 16 = .ok (.ifCond .lt 14, 3) := by decide +kernel
theorem dX11_function_19 : decode cX11_function 19 = .ok (.iload_n 1, 1) := by decide +kernel
theorem dX11_function_20 : decode cX11_function 20 = .ok (.aload_n 0, 1) := by decide +kernel
theorem dX11_function_21 : decode cX11_function 21 = .ok (.getfield 27, 3) := by decide +kernel
theorem dX11_function_24 : decode cX11_function 24 = .ok (.getfield 130, 3) := by decide +kernel
theorem dX11_function_27 : decode cX11_function 27 = .ok (.if_icmp .lt 11, 3) := by decide +kernel
theorem dX11_function_30 : decode cX11_function 30 = .ok (.new 142, 3) := by decide +kernel
theorem dX11_function_33 : decode cX11_function 33 = .ok (.dup, 1) := by decide +kernel
theorem dX11_function_34 : decode cX11_function 34 = .ok (.invokespecial 144, 3) := by decide +kernel
theorem dX11_function_37 : decode cX11_function 37 = .ok (.athrow, 1) := by decide +kernel
theorem dX11_function_38 : decode cX11_function 38 = .ok (.iload_n 2, 1) := by decide +kernel
theorem dX11_function_39 : decode cX11_function 39 = .ok (.ifCond .lt 8, 3) := by decide +kernel
theorem dX11_function_42 : decode cX11_function 42 = .ok (.iload_n 2, 1) := by decide +kernel
theorem dX11_function_43 : decode cX11_function 43 = .ok (.iconst 5, 1) := by decide +kernel
theorem dX11_function_44 : decode cX11_function 44 = .ok (.if_icmp .le 11, 3) := by decide +kernel
theorem dX11_function_47 : decode cX11_function 47 = .ok (.new 82, 3) := by decide +kernel
theorem dX11_function_50 : decode cX11_function 50 = .ok (.dup, 1) := by decide +kernel
theorem dX11_function_51 : decode cX11_function 51 = .ok (.invokespecial 84, 3) := by decide +kernel
theorem dX11_function_54 : decode cX11_function 54 = .ok (.athrow, 1) := by decide +kernel
theorem dX11_function_55 : decode cX11_function 55 = .ok (.aload_n 0, 1) := by decide +kernel
theorem dX11_function_56 : decode cX11_function 56 = .ok (.getfield 27, 3) := by decide +kernel
theorem dX11_function_59 : decode cX11_function 59 = .ok (.iload_n 1, 1) := by decide +kernel
theorem dX11_function_60 : decode cX11_function 60 = .ok (.iload_n 2, 1) := by decide +kernel
theorem dX11_function_61 : decode cX11_function 61 = .ok (.invokevirtual 149, 3) := by decide +kernel
theorem dX11_function_64 : decode cX11_function 64 = .ok (.ireturn, 1) := by decide +kernel
theorem dX11_letter_0 : decode cX11_letter 0 = .ok (.iload_n 1, 1) := by decide +kernel
theorem dX11_letter_1 : decode cX11_letter 1 = .ok (.ifCond .ge 11, 3) := by decide +kernel
theorem dX11_letter_4 : decode cX11_letter 4 = .ok (.new 142, 3) := by decide +kernel
theorem dX11_letter_7 : decode cX11_letter 7 = .ok (.dup, 1) := by decide +kernel
theorem dX11_letter_8 : decode cX11_letter 8 = .ok (.invokespecial 144, 3) := by decide +kernel
theorem dX11_letter_11 : decode cX11_letter 11 = .ok (.athrow, 1) := by decide +kernel
theorem dX11_letter_12 : decode cX11_letter 12 = .ok (.aload_n 0, 1) := by decide +kernel
theorem dX11_letter_13 : decode cX11_letter 13 = .ok (.getfield 18, 3) := by decide +kernel
theorem dX11_letter_16 : decode cX11_letter 16 = .ok (.iload_n 1, 1) := by decide +kernel
theorem dX11_letter_17 : decode cX11_letter 17 = .ok (.invokevirtual 145, 3) := by decide +kernel
theorem dX11_letter_20 : decode cX11_letter 20 = .ok (.ireturn, 1) := by decide +kernel
theorem dX11_number_0 : decode cX11_number 0 = .ok (.iload_n 1, 1) := by decide +kernel
theorem dX11_number_1 : decode cX11_number 1 = .ok (.ifCond .lt 17, 3) := by decide +kernel
theorem dX11_number_4 : decode cX11_number 4 = .ok (.iload_n 1, 1) := by decide +kernel
theorem dX11_number_5 : decode cX11_number 5 = .ok (.aload_n 0, 1) := by decide +kernel
theorem dX11_number_6 : decode cX11_number 6 = .ok (.getfield 74, 3) := by decide +kernel
theorem dX11_number_9 : decode cX11_number 9 = .ok (.getfield 175, 3) := by decide +kernel
theorem dX11_number_12 : decode cX11_number 12 = .ok (.bipush 9, 2) := by decide +kernel
theorem dX11_number_14 : decode cX11_number 14 = .ok (.iaload, 1) := by decide +kernel
theorem dX11_number_15 : decode cX11_number 15 = .ok (.if_icmp .lt 11, 3) := by decide +kernel
theorem dX11_number_18 : decode cX11_number 18 = .ok (.new 142, 3) := by decide +kernel
theorem dX11_number_21 : decode cX11_number 21 = .ok (.dup, 1) := by decide +kernel
theorem dX11_number_22 : decode cX11_number 22 = .ok (.invokespecial 144, 3) := by decide +kernel
theorem dX11_number_25 : decode cX11_number 25 = .ok (.athrow, 1) := by decide +kernel
theorem dX11_number_26 : decode cX11_number 26 = .ok (.aload_n 0, 1) := by decide +kernel
theorem dX11_number_27 : decode cX11_number 27 = .ok (.getfield 74, 3) := by decide +kernel
theorem dX11_number_30 : decode cX11_number 30 = .ok (.getfield 180, 3) := by decide +kernel
theorem dX11_number_33 : decode cX11_number 33 = .ok (.iload_n 1, 1) := by decide +kernel
theorem dX11_number_34 : decode cX11_number 34 = .ok (.iaload, 1) := by decide +kernel
theorem dX11_number_35 : decode cX11_number 35 = .ok (.ireturn, 1) := by decide +kernel
theorem dX11_result_0 : decode cX11_result 0 = .ok (.iload_n 1, 1) := by decide +kernel
theorem dX11_result_1 : decode cX11_result 1 = .ok (.ifCond .lt 9, 3) := by decide +kernel
theorem dX11_result_4 : decode cX11_result 4 = .ok (.iload_n 1, 1) := by decide +kernel
theorem dX11_result_5 : decode cX11_result 5 = .ok (.bipush 10, 2) := by decide +kernel
theorem dX11_result_7 : decode cX11_result 7 = .ok (.if_icmp .lt 11, 3) := by decide +kernel
theorem dX11_result_10 : decode cX11_result 10 = .ok (.new 82, 3) := by decide +kernel
theorem dX11_result_13 : decode cX11_result 13 = .ok (.dup, 1) := by decide +kernel
theorem dX11_result_14 : decode cX11_result 14 = .ok (.invokespecial 84, 3) := by decide +kernel
theorem dX11_result_17 : decode cX11_result 17 = .ok (.athrow, 1) := by decide +kernel
theorem dX11_result_18 : decode cX11_result 18 = .ok (.aload_n 0, 1) := by decide +kernel
theorem dX11_result_19 : decode cX11_result 19 = .ok (.getfield 74, 3) := by decide +kernel
theorem dX11_result_22 : decode cX11_result 22 = .ok (.getfield 175, 3) := by decide +kernel
theorem dX11_result_25 : decode cX11_result 25 = .ok (.iload_n 1, 1) := by decide +kernel
theorem dX11_result_26 : decode cX11_result 26 = .ok (.iaload, 1) := by decide +kernel
theorem dX11_result_27 : decode cX11_result 27 = .ok (.ireturn, 1) := by decide +kernel
theorem dX1_look_0 : decode cX1_look 0 = .ok (.aload_n 0, 1) := by decide +kernel
theorem dX1_look_1 : decode cX1_look 1 = .ok (.getfield 11, 3) := by decide +kernel
theorem dX1_look_4 : decode cX1_look 4 = .ok (.iload_n 1, 1) := by decide +kernel
theorem dX1_look_5 : decode cX1_look 5 = .ok (.iconst 4, 1) := by decide +kernel
theorem dX1_look_6 : decode cX1_look 6 = .ok (.imul, 1) := by decide +kernel
theorem dX1_look_7 : decode cX1_look 7 = .ok (.iload_n 2, 1) := by decide +kernel
theorem dX1_look_8 : decode cX1_look 8 = .ok (.bipush 6, 2) := by decide +kernel
theorem dX1_look_10 : decode cX1_look 10 = .ok (.iushr, 1) := by decide +kernel
theorem dX1_look_11 : decode cX1_look 11 = .ok (.iconst 3, 1) := by decide +kernel
theorem dX1_look_12 : decode cX1_look 12 = .ok (.iand, 1) := by decide +kernel
theorem dX1_look_13 : decode cX1_look 13 = .ok (.iadd, 1) := by decide +kernel
theorem dX1_look_14 : decode cX1_look 14 = .ok (.laload, 1) := by decide +kernel
theorem dX1_look_15 : decode cX1_look 15 = .ok (.iload_n 2, 1) := by decide +kernel
theorem dX1_look_16 : decode cX1_look 16 = .ok (.bipush 63, 2) := by decide +kernel
theorem dX1_look_18 : decode cX1_look 18 = .ok (.iand, 1) := by decide +kernel
theorem dX1_look_19 : decode cX1_look 19 = .ok (.lushr, 1) := by decide +kernel
theorem dX1_look_20 : decode cX1_look 20 = .ok (.l2i, 1) := by decide +kernel
theorem dX1_look_21 : decode cX1_look 21 = .ok (.iconst 1, 1) := by decide +kernel
theorem dX1_look_22 : decode cX1_look 22 = .ok (.iand, 1) := by decide +kernel
theorem dX1_look_23 : decode cX1_look 23 = .ok (.ireturn, 1) := by decide +kernel
theorem dX4_needsParameter_0 : decode cX4_needsParameter 0 = .ok (.aload_n 0, 1) := by decide +kernel
theorem dX4_needsParameter_1 : decode cX4_needsParameter 1 = .ok (.getfield 49, 3) := by decide +kernel
theorem dX4_needsParameter_4 : decode cX4_needsParameter 4 = .ok (.iload_n 1, 1) := by decide +kernel
theorem dX4_needsParameter_5 : decode cX4_needsParameter 5 = .ok (.iaload, 1) := by decide +kernel
theorem dX4_needsParameter_6 : decode cX4_needsParameter 6 = .ok (.iload_n 2, 1) := by decide +kernel
theorem dX4_needsParameter_7 : decode cX4_needsParameter 7 = .ok (.iushr, 1) := by decide +kernel
theorem dX4_needsParameter_8 : decode cX4_needsParameter 8 = .ok (.iconst 1, 1) := by decide +kernel
theorem dX4_needsParameter_9 : decode cX4_needsParameter 9 = .ok (.iand, 1) := by decide +kernel
theorem dX4_needsParameter_10 : decode cX4_needsParameter 10 = .ok (.ifCond .eq 7, 3) := by decide +kernel
theorem dX4_needsParameter_13 : decode cX4_needsParameter 13 = .ok (.iconst 1, 1) := by decide +kernel
theorem dX4_needsParameter_14 : decode cX4_needsParameter 14 = .ok (.goto 4, 3) := by decide +kernel
theorem dX4_needsParameter_17 : decode cX4_needsParameter 17 = .ok (.iconst 0, 1) := by decide +kernel
theorem dX4_needsParameter_18 : decode cX4_needsParameter 18 = .ok (.ireturn, 1) := by decide +kernel
theorem dX4_tell_0 : decode cX4_tell 0 = .ok (.iload_n 2, 1) := by decide +kernel
theorem dX4_tell_1 : decode cX4_tell 1 = .ok (.tableswitch 70 0 4 #[35, 42, 49, 56, 63], 35) := by decide +kernel
theorem dX4_tell_36 : decode cX4_tell 36 = .ok (.aload_n 0, 1) := by decide +kernel
theorem dX4_tell_37 : decode cX4_tell 37 = .ok (.getfield 22, 3) := by decide +kernel
theorem dX4_tell_40 : decode cX4_tell 40 = .ok (.iload_n 1, 1) := by decide +kernel
theorem dX4_tell_41 : decode cX4_tell 41 = .ok (.iaload, 1) := by decide +kernel
theorem dX4_tell_42 : decode cX4_tell 42 = .ok (.ireturn, 1) := by decide +kernel
theorem dX4_tell_43 : decode cX4_tell 43 = .ok (.aload_n 0, 1) := by decide +kernel
theorem dX4_tell_44 : decode cX4_tell 44 = .ok (.getfield 25, 3) := by decide +kernel
theorem dX4_tell_47 : decode cX4_tell 47 = .ok (.iload_n 1, 1) := by decide +kernel
theorem dX4_tell_48 : decode cX4_tell 48 = .ok (.iaload, 1) := by decide +kernel
theorem dX4_tell_49 : decode cX4_tell 49 = .ok (.ireturn, 1) := by decide +kernel
theorem dX4_tell_50 : decode cX4_tell 50 = .ok (.aload_n 0, 1) := by decide +kernel
theorem dX4_tell_51 : decode cX4_tell 51 = .ok (.getfield 31, 3) := by decide +kernel
theorem dX4_tell_54 : decode cX4_tell 54 = .ok (.iload_n 1, 1) := by decide +kernel
theorem dX4_tell_55 : decode cX4_tell 55 = .ok (.iaload, 1) := by decide +kernel
theorem dX4_tell_56 : decode cX4_tell 56 = .ok (.ireturn, 1) := by decide +kernel
theorem dX4_tell_57 : decode cX4_tell 57 = .ok (.aload_n 0, 1) := by decide +kernel
theorem dX4_tell_58 : decode cX4_tell 58 = .ok (.getfield 40, 3) := by decide +kernel
theorem dX4_tell_61 : decode cX4_tell 61 = .ok (.iload_n 1, 1) := by decide +kernel
theorem dX4_tell_62 : decode cX4_tell 62 = .ok (.iaload, 1) := by decide +kernel
theorem dX4_tell_63 : decode cX4_tell 63 = .ok (.ireturn, 1) := by decide +kernel
theorem dX4_tell_64 : decode cX4_tell 64 = .ok (.aload_n 0, 1) := by decide +kernel
theorem dX4_tell_65 : decode cX4_tell 65 = .ok (.getfield 46, 3) := by decide +kernel
theorem dX4_tell_68 : decode cX4_tell 68 = .ok (.iload_n 1, 1) := by decide +kernel
theorem dX4_tell_69 : decode cX4_tell 69 = .ok (.iaload, 1) := by decide +kernel
theorem dX4_tell_70 : decode cX4_tell 70 = .ok (.ireturn, 1) := by decide +kernel
theorem dX4_tell_71 : decode cX4_tell 71 = .ok (.aload_n 0, 1) := by decide +kernel
theorem dX4_tell_72 : decode cX4_tell 72 = .ok (.getfield 43, 3) := by decide +kernel
theorem dX4_tell_75 : decode cX4_tell 75 = .ok (.iload_n 1, 1) := by decide +kernel
theorem dX4_tell_76 : decode cX4_tell 76 = .ok (.iaload, 1) := by decide +kernel
theorem dX4_tell_77 : decode cX4_tell 77 = .ok (.ireturn, 1) := by decide +kernel
set_option maxHeartbeats 4000000 in
set_option maxRecDepth 100000 in
/-- LazyForge.letter(k) -/
theorem kX11_letter (l : Launch) (dC : Nat → ClassId) (dI : Nat → Nat → Nat) (sz : Nat) (hlt : l.stackTraces = false) (x tx pr rd li de sc ma ou dr : Nat) (st fk fp pe ce le : Int32) (r cap n : Nat) (lo k : Int32) (f : Nat → Int32) (cB : ClassId) (hn : n ≤ cap) (hc : cap < 2 ^ 31) : vx_Met l yX11_letter (Cond.code yX11_letter cX11_letter 2 (some .int) :: uG) ({ frames := 6, cells := 1, slots := 6, locals := 90 }) (va_Pc [.ref x, .int k] (fun U => U.heap.size = sz ∧ va_P (dC, dI) vwCl [(x, .inr (14, [.ref tx, .ref pr, .ref rd, .ref li, .ref de, .ref sc, .ref ma, .ref ou, .ref dr, .int st, .int fk, .int fp, .int pe, .int ce, .int le])), (ou, .inr (11, [.ref r, .int (nI n), .int lo])), (r, .inl (cB, cap, .inl f))] U.heap ∧ va_K (dC, dI) vwCl [(cB, .byte)] U ∧ va_D (fun _ => True) [(x, .inr (14, [.ref tx, .ref pr, .ref rd, .ref li, .ref de, .ref sc, .ref ma, .ref ou, .ref dr, .int st, .int fk, .int fp, .int pe, .int ce, .int le])), (ou, .inr (11, [.ref r, .int (nI n), .int lo])), (r, .inl (cB, cap, .inl f))] ∧ uXw U ∧ uZ (va_A [(x, .inr (14, [.ref tx, .ref pr, .ref rd, .ref li, .ref de, .ref sc, .ref ma, .ref ou, .ref dr, .int st, .int fk, .int fp, .int pe, .int ce, .int le])), (ou, .inr (11, [.ref r, .int (nI n), .int lo])), (r, .inl (cB, cap, .inl f))] sz) U U.heap)) (va_Qi (S := Unit) (fun r _ => ¬ k < 0 ∧ r = if k < nI n then f k.toNatClampNeg else (-1)) (fun _ t => va_P (dC, dI) vwCl [(x, .inr (14, [.ref tx, .ref pr, .ref rd, .ref li, .ref de, .ref sc, .ref ma, .ref ou, .ref dr, .int st, .int fk, .int fp, .int pe, .int ce, .int le])), (ou, .inr (11, [.ref r, .int (nI n), .int lo])), (r, .inl (cB, cap, .inl f))] t.heap ∧ va_K (dC, dI) vwCl [(cB, .byte)] t ∧ va_D (va_A [(x, .inr (14, [.ref tx, .ref pr, .ref rd, .ref li, .ref de, .ref sc, .ref ma, .ref ou, .ref dr, .int st, .int fk, .int fp, .int pe, .int ce, .int le])), (ou, .inr (11, [.ref r, .int (nI n), .int lo])), (r, .inl (cB, cap, .inl f))] sz) [(x, .inr (14, [.ref tx, .ref pr, .ref rd, .ref li, .ref de, .ref sc, .ref ma, .ref ou, .ref dr, .int st, .int fk, .int fp, .int pe, .int ce, .int le])), (ou, .inr (11, [.ref r, .int (nI n), .int lo])), (r, .inl (cB, cap, .inl f))]) (va_A [(x, .inr (14, [.ref tx, .ref pr, .ref rd, .ref li, .ref de, .ref sc, .ref ma, .ref ou, .ref dr, .int st, .int fk, .int fp, .int pe, .int ce, .int le])), (ou, .inr (11, [.ref r, .int (nI n), .int lo])), (r, .inl (cB, cap, .inl f))] sz)) (uXB dC dI [(x, .inr (14, [.ref tx, .ref pr, .ref rd, .ref li, .ref de, .ref sc, .ref ma, .ref ou, .ref dr, .int st, .int fk, .int fp, .int pe, .int ce, .int le])), (ou, .inr (11, [.ref r, .int (nI n), .int lo])), (r, .inl (cB, cap, .inl f))] [(cB, .byte)] (va_A [(x, .inr (14, [.ref tx, .ref pr, .ref rd, .ref li, .ref de, .ref sc, .ref ma, .ref ou, .ref dr, .int st, .int fk, .int fp, .int pe, .int ce, .int le])), (ou, .inr (11, [.ref r, .int (nI n), .int lo])), (r, .inl (cB, cap, .inl f))] sz) (fun E => E = "java/lang/IndexOutOfBoundsException" ∧ k < 0)) 1 6 (va_A [(x, .inr (14, [.ref tx, .ref pr, .ref rd, .ref li, .ref de, .ref sc, .ref ma, .ref ou, .ref dr, .int st, .int fk, .int fp, .int pe, .int ce, .int le])), (ou, .inr (11, [.ref r, .int (nI n), .int lo])), (r, .inl (cB, cap, .inl f))] sz) := by
  refine vx_ofW (cc := cX11_letter) (maxL := 2) (ret := (some .int)) (by decide) rfl ?_
  intro p e s m args below meth c s₁ B hml hno hv
  obtain ⟨rfl, hsz, hP, hK, hD0, hXw, hZ⟩ := hv
  have hx := B.exec
  have hb := B.bytes
  have hr := B.returns
  have hts := atoms_spec (ws := Cond.code yX11_letter cX11_letter 2 (some .int) :: uG) B.pre
  have hu := fun (w : Cond) (h : w ∈ uG) => hts w (List.mem_cons_of_mem _ h)
  have hown : s.vm.findClass RX11 = some m.cls := findClass_of_methodNamed B.named
  have hlocks := B.notSynchronized
  subst hsz
  have hD := hD0.self (sz := s.heap.size)
  generalize hAe : va_A [(x, .inr (14, [.ref tx, .ref pr, .ref rd, .ref li, .ref de, .ref sc, .ref ma, .ref ou, .ref dr, .int st, .int fk, .int fp, .int pe, .int ce, .int le])), (ou, .inr (11, [.ref r, .int (nI n), .int lo])), (r, .inl (cB, cap, .inl f))] s.heap.size = A at hD hZ ⊢
  have hA : ∀ q : Nat, s.heap.size ≤ q → A q := fun q h => by rw [← hAe]; exact Or.inr h
  have hS : va_S A s.heap s.heap [] := va_S.rf
  have hP : va_P (dC, dI) vwCl [(x, .inr (14, [.ref tx, .ref pr, .ref rd, .ref li, .ref de, .ref sc, .ref ma, .ref ou, .ref dr, .int st, .int fk, .int fp, .int pe, .int ce, .int le])), (ou, .inr (11, [.ref r, .int (nI n), .int lo])), (r, .inl (cB, cap, .inl f))] s.heap := hP
  have hD : va_D A [(x, .inr (14, [.ref tx, .ref pr, .ref rd, .ref li, .ref de, .ref sc, .ref ma, .ref ou, .ref dr, .int st, .int fk, .int fp, .int pe, .int ce, .int le])), (ou, .inr (11, [.ref r, .int (nI n), .int lo])), (r, .inl (cB, cap, .inl f))] := hD
  have hl := lv_entry ([.ref x, .int k]) (n := 2) (Nat.le_of_ble_eq_true rfl)
  rw [lg_entry_eq]
  generalize (lg_sl ([.ref x, .int k]) ++ List.replicate (2 - (lg_sl ([.ref x, .int k])).length) Slot.unset).toArray = ls at hl ⊢
  have hl : lv_has ls 2 [(0, .ref x), (1, .int k)] := hl
  refine lv_iload_n hx hb dX11_letter_0 rfl (lv_at hl 1 rfl) ?_
  refine lv_if_ge (tgt := 12) hx hb dX11_letter_1 (by decide) (fun c1 => ?_) (fun c1 => ?_)
  · refine lv_aload_n hx hb dX11_letter_12 rfl (lv_at hl 0 rfl) ?_
    refine va_get (D := (dC, dI)) (ci := 14) (v := .ref ou) (C := RX11) (T := TX11) (N := 15) hx hb hu iuX11 hown hK hP 0 rfl rfl 7 (by decide) (hu _ mG_725) (fun _ h9 => h9) rfl dX11_letter_13 ?_
    refine lv_iload_n hx hb dX11_letter_16 rfl (lv_at hl 1 rfl) ?_
    have hPc := hP.sub (ws' := [(ou, .inr (11, [.ref r, .int (nI n), .int lo])), (r, .inl (cB, cap, .inl f))]) [1, 2] rfl
    have hDc := hD.sub (ws' := [(ou, .inr (11, [.ref r, .int (nI n), .int lo])), (r, .inl (cB, cap, .inl f))]) [1, 2] (by decide) rfl
    have hKc := hK.sub (tys' := [(cB, .byte)]) [0] rfl
    have hFc := va_free (wc := [(ou, .inr (11, [.ref r, .int (nI n), .int lo])), (r, .inl (cB, cap, .inl f))]) hD hS hA [1, 2] rfl
    refine va_calli (va_runV (As := [.int k]) (rest := []) ⟨hx, hb, hml, hown, hu⟩ (kX8_signAt l dC dI s.heap.size ou r cap n lo f cB k hn hc) (cwV 1 hu (uG_V (fun _ h => h) mG_929 mG_1758 mG_927 mG_928 mG_215) rfl rfl rfl (by decide +kernel) ⟨Nat.le_of_ble_eq_true rfl, Nat.le_of_ble_eq_true rfl⟩) ⟨fun a U g mk q => by obtain ⟨q0, q1, qP, qK, qD⟩ := q; exact ⟨q0, q1, qP, va_K.moved (u := U) (U := U.calling g mk a) (Vm.Alike.refl U.vm) qK, qD⟩, va_recv hKc hPc (ci := 11) (q0 := 0) rfl rfl, fun U hU hW => ⟨rfl, by rw [hU], by rw [hU]; exact hPc, va_K.moved hW.alike hKc, hDc.weaken (fun _ _ _ _ => trivial)⟩⟩ rfl rfl hl.1 rfl (lv_room (Nat.le_of_ble_eq_true rfl)) dX11_letter_17 ⟨Nat.le_of_ble_eq_true rfl, Nat.le_of_ble_eq_true rfl⟩) hS (fun q _ h => hFc q h) hFc (fun r17 u t H1 locs ht hvm hw hB hz1 hk1 hS => ?_)
    obtain ⟨hP1, hK1, hD1⟩ := hB
    rw [ht] at hP1
    obtain ⟨hP, hD⟩ := va_join (wr := [(x, .inr (14, [.ref tx, .ref pr, .ref rd, .ref li, .ref de, .ref sc, .ref ma, .ref ou, .ref dr, .int st, .int fk, .int fp, .int pe, .int ce, .int le]))]) (w1 := [(ou, .inr (11, [.ref r, .int (nI n), .int lo])), (r, .inl (cB, cap, .inl f))]) hP hD [1, 2] [0] rfl rfl (by decide) (by decide) hk1 hFc hP1 hD1
    generalize H1 = H at hP hS ⊢
    have hP : va_P (dC, dI) vwCl [(x, .inr (14, [.ref tx, .ref pr, .ref rd, .ref li, .ref de, .ref sc, .ref ma, .ref ou, .ref dr, .int st, .int fk, .int fp, .int pe, .int ce, .int le])), (ou, .inr (11, [.ref r, .int (nI n), .int lo])), (r, .inl (cB, cap, .inl f))] H := hP
    have hD : va_D A [(x, .inr (14, [.ref tx, .ref pr, .ref rd, .ref li, .ref de, .ref sc, .ref ma, .ref ou, .ref dr, .int st, .int fk, .int fp, .int pe, .int ce, .int le])), (ou, .inr (11, [.ref r, .int (nI n), .int lo])), (r, .inl (cB, cap, .inl f))] := hD
    have er17 : r17 = (if ¬ k < 0 ∧ k < nI n then f k.toNatClampNeg else (-1)) := hw
    subst er17
    have hP9 : va_P (dC, dI) vwCl [(x, .inr (14, [.ref tx, .ref pr, .ref rd, .ref li, .ref de, .ref sc, .ref ma, .ref ou, .ref dr, .int st, .int fk, .int fp, .int pe, .int ce, .int le])), (ou, .inr (11, [.ref r, .int (nI n), .int lo])), (r, .inl (cB, cap, .inl f))] H := by exact hP
    have hD9 : va_D A [(x, .inr (14, [.ref tx, .ref pr, .ref rd, .ref li, .ref de, .ref sc, .ref ma, .ref ou, .ref dr, .int st, .int fk, .int fp, .int pe, .int ce, .int le])), (ou, .inr (11, [.ref r, .int (nI n), .int lo])), (r, .inl (cB, cap, .inl f))] := by exact hD
    have hK9 := hK.sub (tys' := [(cB, .byte)]) [0] rfl
    refine vx_ret ?_
    refine W.widen (k := 1) (n := 6) (Nat.le_of_ble_eq_true rfl) (Nat.le_of_ble_eq_true rfl) ?_
    exact W.iret (v := (if ¬ k < 0 ∧ k < nI n then f k.toNatClampNeg else (-1))) hx hb hr (fun t ht hW => ⟨⟨(if ¬ k < 0 ∧ k < nI n then f k.toNatClampNeg else (-1)), (), rfl, ⟨Int32.not_lt.mpr c1, by simp [Int32.not_lt.mpr c1]⟩, by rw [ht]; exact hP9, va_K.moved hW.alike hK9, hD9⟩, hS.F ht⟩) hS.2.2 dX11_letter_20
  · exact ut_throw hx hb hlt hown (by decide +kernel) hu hXw hZ mG_1743 mG_244 ul_IOB uo_IOB hP hK hD hS (by rw [hml]; exact hl.1) hno dX11_letter_4 dX11_letter_7 dX11_letter_8 dX11_letter_11 (Nat.le_of_ble_eq_true rfl) (Nat.le_of_ble_eq_true rfl) (Nat.le_of_ble_eq_true rfl) (Nat.le_of_ble_eq_true rfl) hlocks (Nat.le_of_ble_eq_true rfl) (Nat.le_of_ble_eq_true rfl) (⟨rfl, Int32.not_le.mp c1⟩)
set_option maxHeartbeats 4000000 in
set_option maxRecDepth 100000 in
/-- LazyForge.result(k) -/
theorem kX11_result (l : Launch) (dC : Nat → ClassId) (dI : Nat → Nat → Nat) (sz : Nat) (hlt : l.stackTraces = false) (x tx pr rd li de sc ma ou dr : Nat) (st fk fp pe ce le : Int32) (m0 m1 m2 m3 m4 m5 m6 m7 m9 : Nat) (m8 m10 m11 m12 m13 m15 m16 m17 : Int32) (m14 : Int64) (f : Nat → Int32) (cI : ClassId) (k : Int32) : vx_Met l yX11_result (Cond.code yX11_result cX11_result 2 (some .int) :: uG) ({ frames := 6, cells := 1, slots := 6, locals := 90 }) (va_Pc [.ref x, .int k] (fun U => U.heap.size = sz ∧ va_P (dC, dI) vwCl [(x, .inr (14, [.ref tx, .ref pr, .ref rd, .ref li, .ref de, .ref sc, .ref ma, .ref ou, .ref dr, .int st, .int fk, .int fp, .int pe, .int ce, .int le])), (ma, .inr (6, [.ref m0, .ref m1, .ref m2, .ref m3, .ref m4, .ref m5, .ref m6, .ref m7, .int m8, .ref m9, .int m10, .int m11, .int m12, .int m13, .long m14, .int m15, .int m16, .int m17])), (m2, .inl (cI, 10, .inl f))] U.heap ∧ va_K (dC, dI) vwCl [(cI, .int)] U ∧ va_D (fun _ => True) [(x, .inr (14, [.ref tx, .ref pr, .ref rd, .ref li, .ref de, .ref sc, .ref ma, .ref ou, .ref dr, .int st, .int fk, .int fp, .int pe, .int ce, .int le])), (ma, .inr (6, [.ref m0, .ref m1, .ref m2, .ref m3, .ref m4, .ref m5, .ref m6, .ref m7, .int m8, .ref m9, .int m10, .int m11, .int m12, .int m13, .long m14, .int m15, .int m16, .int m17])), (m2, .inl (cI, 10, .inl f))] ∧ uXw U ∧ uZ (va_A [(x, .inr (14, [.ref tx, .ref pr, .ref rd, .ref li, .ref de, .ref sc, .ref ma, .ref ou, .ref dr, .int st, .int fk, .int fp, .int pe, .int ce, .int le])), (ma, .inr (6, [.ref m0, .ref m1, .ref m2, .ref m3, .ref m4, .ref m5, .ref m6, .ref m7, .int m8, .ref m9, .int m10, .int m11, .int m12, .int m13, .long m14, .int m15, .int m16, .int m17])), (m2, .inl (cI, 10, .inl f))] sz) U U.heap)) (va_Qi (S := Unit) (fun r _ => (¬ k < 0 ∧ k < 10) ∧ r = f k.toNatClampNeg) (fun _ t => va_P (dC, dI) vwCl [(x, .inr (14, [.ref tx, .ref pr, .ref rd, .ref li, .ref de, .ref sc, .ref ma, .ref ou, .ref dr, .int st, .int fk, .int fp, .int pe, .int ce, .int le])), (ma, .inr (6, [.ref m0, .ref m1, .ref m2, .ref m3, .ref m4, .ref m5, .ref m6, .ref m7, .int m8, .ref m9, .int m10, .int m11, .int m12, .int m13, .long m14, .int m15, .int m16, .int m17])), (m2, .inl (cI, 10, .inl f))] t.heap ∧ va_K (dC, dI) vwCl [(cI, .int)] t ∧ va_D (va_A [(x, .inr (14, [.ref tx, .ref pr, .ref rd, .ref li, .ref de, .ref sc, .ref ma, .ref ou, .ref dr, .int st, .int fk, .int fp, .int pe, .int ce, .int le])), (ma, .inr (6, [.ref m0, .ref m1, .ref m2, .ref m3, .ref m4, .ref m5, .ref m6, .ref m7, .int m8, .ref m9, .int m10, .int m11, .int m12, .int m13, .long m14, .int m15, .int m16, .int m17])), (m2, .inl (cI, 10, .inl f))] sz) [(x, .inr (14, [.ref tx, .ref pr, .ref rd, .ref li, .ref de, .ref sc, .ref ma, .ref ou, .ref dr, .int st, .int fk, .int fp, .int pe, .int ce, .int le])), (ma, .inr (6, [.ref m0, .ref m1, .ref m2, .ref m3, .ref m4, .ref m5, .ref m6, .ref m7, .int m8, .ref m9, .int m10, .int m11, .int m12, .int m13, .long m14, .int m15, .int m16, .int m17])), (m2, .inl (cI, 10, .inl f))]) (va_A [(x, .inr (14, [.ref tx, .ref pr, .ref rd, .ref li, .ref de, .ref sc, .ref ma, .ref ou, .ref dr, .int st, .int fk, .int fp, .int pe, .int ce, .int le])), (ma, .inr (6, [.ref m0, .ref m1, .ref m2, .ref m3, .ref m4, .ref m5, .ref m6, .ref m7, .int m8, .ref m9, .int m10, .int m11, .int m12, .int m13, .long m14, .int m15, .int m16, .int m17])), (m2, .inl (cI, 10, .inl f))] sz)) (uXB dC dI [(x, .inr (14, [.ref tx, .ref pr, .ref rd, .ref li, .ref de, .ref sc, .ref ma, .ref ou, .ref dr, .int st, .int fk, .int fp, .int pe, .int ce, .int le])), (ma, .inr (6, [.ref m0, .ref m1, .ref m2, .ref m3, .ref m4, .ref m5, .ref m6, .ref m7, .int m8, .ref m9, .int m10, .int m11, .int m12, .int m13, .long m14, .int m15, .int m16, .int m17])), (m2, .inl (cI, 10, .inl f))] [(cI, .int)] (va_A [(x, .inr (14, [.ref tx, .ref pr, .ref rd, .ref li, .ref de, .ref sc, .ref ma, .ref ou, .ref dr, .int st, .int fk, .int fp, .int pe, .int ce, .int le])), (ma, .inr (6, [.ref m0, .ref m1, .ref m2, .ref m3, .ref m4, .ref m5, .ref m6, .ref m7, .int m8, .ref m9, .int m10, .int m11, .int m12, .int m13, .long m14, .int m15, .int m16, .int m17])), (m2, .inl (cI, 10, .inl f))] sz) (fun E => E = "java/lang/IllegalArgumentException" ∧ (k < 0 ∨ ¬ k < 10))) 1 6 (va_A [(x, .inr (14, [.ref tx, .ref pr, .ref rd, .ref li, .ref de, .ref sc, .ref ma, .ref ou, .ref dr, .int st, .int fk, .int fp, .int pe, .int ce, .int le])), (ma, .inr (6, [.ref m0, .ref m1, .ref m2, .ref m3, .ref m4, .ref m5, .ref m6, .ref m7, .int m8, .ref m9, .int m10, .int m11, .int m12, .int m13, .long m14, .int m15, .int m16, .int m17])), (m2, .inl (cI, 10, .inl f))] sz) := by
  refine vx_ofW (cc := cX11_result) (maxL := 2) (ret := (some .int)) (by decide) rfl ?_
  intro p e s m args below meth c s₁ B hml hno hv
  obtain ⟨rfl, hsz, hP, hK, hD0, hXw, hZ⟩ := hv
  have hx := B.exec
  have hb := B.bytes
  have hr := B.returns
  have hts := atoms_spec (ws := Cond.code yX11_result cX11_result 2 (some .int) :: uG) B.pre
  have hu := fun (w : Cond) (h : w ∈ uG) => hts w (List.mem_cons_of_mem _ h)
  have hown : s.vm.findClass RX11 = some m.cls := findClass_of_methodNamed B.named
  have hlocks := B.notSynchronized
  subst hsz
  have hD := hD0.self (sz := s.heap.size)
  generalize hAe : va_A [(x, .inr (14, [.ref tx, .ref pr, .ref rd, .ref li, .ref de, .ref sc, .ref ma, .ref ou, .ref dr, .int st, .int fk, .int fp, .int pe, .int ce, .int le])), (ma, .inr (6, [.ref m0, .ref m1, .ref m2, .ref m3, .ref m4, .ref m5, .ref m6, .ref m7, .int m8, .ref m9, .int m10, .int m11, .int m12, .int m13, .long m14, .int m15, .int m16, .int m17])), (m2, .inl (cI, 10, .inl f))] s.heap.size = A at hD hZ ⊢
  have hA : ∀ q : Nat, s.heap.size ≤ q → A q := fun q h => by rw [← hAe]; exact Or.inr h
  have hS : va_S A s.heap s.heap [] := va_S.rf
  have hP : va_P (dC, dI) vwCl [(x, .inr (14, [.ref tx, .ref pr, .ref rd, .ref li, .ref de, .ref sc, .ref ma, .ref ou, .ref dr, .int st, .int fk, .int fp, .int pe, .int ce, .int le])), (ma, .inr (6, [.ref m0, .ref m1, .ref m2, .ref m3, .ref m4, .ref m5, .ref m6, .ref m7, .int m8, .ref m9, .int m10, .int m11, .int m12, .int m13, .long m14, .int m15, .int m16, .int m17])), (m2, .inl (cI, 10, .inl f))] s.heap := hP
  have hD : va_D A [(x, .inr (14, [.ref tx, .ref pr, .ref rd, .ref li, .ref de, .ref sc, .ref ma, .ref ou, .ref dr, .int st, .int fk, .int fp, .int pe, .int ce, .int le])), (ma, .inr (6, [.ref m0, .ref m1, .ref m2, .ref m3, .ref m4, .ref m5, .ref m6, .ref m7, .int m8, .ref m9, .int m10, .int m11, .int m12, .int m13, .long m14, .int m15, .int m16, .int m17])), (m2, .inl (cI, 10, .inl f))] := hD
  have hl := lv_entry ([.ref x, .int k]) (n := 2) (Nat.le_of_ble_eq_true rfl)
  rw [lg_entry_eq]
  generalize (lg_sl ([.ref x, .int k]) ++ List.replicate (2 - (lg_sl ([.ref x, .int k])).length) Slot.unset).toArray = ls at hl ⊢
  have hl : lv_has ls 2 [(0, .ref x), (1, .int k)] := hl
  refine lv_iload_n hx hb dX11_result_0 rfl (lv_at hl 1 rfl) ?_
  refine lv_if_lt (tgt := 10) hx hb dX11_result_1 (by decide) (fun c1 => ?_) (fun c1 => ?_)
  · exact ut_throw hx hb hlt hown (by decide +kernel) hu hXw hZ mG_789 mG_230 ul_IAE uo_IAE hP hK hD hS (by rw [hml]; exact hl.1) hno dX11_result_10 dX11_result_13 dX11_result_14 dX11_result_17 (Nat.le_of_ble_eq_true rfl) (Nat.le_of_ble_eq_true rfl) (Nat.le_of_ble_eq_true rfl) (Nat.le_of_ble_eq_true rfl) hlocks (Nat.le_of_ble_eq_true rfl) (Nat.le_of_ble_eq_true rfl) (⟨rfl, Or.inl c1⟩)
  · refine lv_iload_n hx hb dX11_result_4 rfl (lv_at hl 1 rfl) ?_
    refine lv_bipush (v := 10) hx hb dX11_result_5 (by decide) ?_
    refine lv_icmp_lt (tgt := 18) hx hb dX11_result_7 (by decide) (fun c7 => ?_) (fun c7 => ?_)
    · refine lv_aload_n hx hb dX11_result_18 rfl (lv_at hl 0 rfl) ?_
      refine va_get (D := (dC, dI)) (ci := 14) (v := .ref ma) (C := RX11) (T := TX11) (N := 15) hx hb hu iuX11 hown hK hP 0 rfl rfl 6 (by decide) (hu _ mG_724) (fun _ h9 => h9) rfl dX11_result_19 ?_
      refine va_get (D := (dC, dI)) (ci := 6) (v := .ref m2) (C := RX3) (T := TX3) (N := 18) hx hb hu iuX3 hown hK hP 1 rfl rfl 2 (by decide) (hu _ mG_663) (fun _ h9 => h9) rfl dX11_result_22 ?_
      refine lv_iload_n hx hb dX11_result_25 rfl (lv_at hl 1 rfl) ?_
      refine va_iald hx hb hK hP 2 0 rfl rfl (vp_in_iff.mpr ⟨Int32.le_iff_toInt_le.mp (Int32.not_lt.mp c1), by have h9 := Int32.lt_iff_toInt_lt.mp c7; exact h9⟩) dX11_result_26 ?_
      have hP9 : va_P (dC, dI) vwCl [(x, .inr (14, [.ref tx, .ref pr, .ref rd, .ref li, .ref de, .ref sc, .ref ma, .ref ou, .ref dr, .int st, .int fk, .int fp, .int pe, .int ce, .int le])), (ma, .inr (6, [.ref m0, .ref m1, .ref m2, .ref m3, .ref m4, .ref m5, .ref m6, .ref m7, .int m8, .ref m9, .int m10, .int m11, .int m12, .int m13, .long m14, .int m15, .int m16, .int m17])), (m2, .inl (cI, 10, .inl f))] s.heap := by exact hP
      have hD9 : va_D A [(x, .inr (14, [.ref tx, .ref pr, .ref rd, .ref li, .ref de, .ref sc, .ref ma, .ref ou, .ref dr, .int st, .int fk, .int fp, .int pe, .int ce, .int le])), (ma, .inr (6, [.ref m0, .ref m1, .ref m2, .ref m3, .ref m4, .ref m5, .ref m6, .ref m7, .int m8, .ref m9, .int m10, .int m11, .int m12, .int m13, .long m14, .int m15, .int m16, .int m17])), (m2, .inl (cI, 10, .inl f))] := by exact hD
      have hK9 := hK.sub (tys' := [(cI, .int)]) [0] rfl
      refine vx_ret ?_
      refine W.widen (k := 1) (n := 6) (Nat.le_of_ble_eq_true rfl) (Nat.le_of_ble_eq_true rfl) ?_
      exact W.iret (v := (f (k).toNatClampNeg)) hx hb hr (fun t ht hW => ⟨⟨(f (k).toNatClampNeg), (), rfl, ⟨⟨c1, c7⟩, rfl⟩, by rw [ht]; exact hP9, va_K.moved hW.alike hK9, hD9⟩, hS.F ht⟩) hS.2.2 dX11_result_27
    · exact ut_throw hx hb hlt hown (by decide +kernel) hu hXw hZ mG_789 mG_230 ul_IAE uo_IAE hP hK hD hS (by rw [hml]; exact hl.1) hno dX11_result_10 dX11_result_13 dX11_result_14 dX11_result_17 (Nat.le_of_ble_eq_true rfl) (Nat.le_of_ble_eq_true rfl) (Nat.le_of_ble_eq_true rfl) (Nat.le_of_ble_eq_true rfl) hlocks (Nat.le_of_ble_eq_true rfl) (Nat.le_of_ble_eq_true rfl) (⟨rfl, Or.inr c7⟩)
set_option maxHeartbeats 4000000 in
set_option maxRecDepth 100000 in
/-- LazyForge.number(k) -/
theorem kX11_number (l : Launch) (dC : Nat → ClassId) (dI : Nat → Nat → Nat) (sz : Nat) (hlt : l.stackTraces = false) (x tx pr rd li de sc ma ou dr : Nat) (st fk fp pe ce le : Int32) (m0 m1 m2 m3 m4 m5 m6 m7 m9 : Nat) (m8 m10 m11 m12 m13 m15 m16 m17 : Int32) (m14 : Int64) (f g : Nat → Int32) (cI cR : ClassId) (k : Int32) (h9 : (f 9).toInt ≤ 1000) : vx_Met l yX11_number (Cond.code yX11_number cX11_number 2 (some .int) :: uG) ({ frames := 6, cells := 1, slots := 6, locals := 90 }) (va_Pc [.ref x, .int k] (fun U => U.heap.size = sz ∧ va_P (dC, dI) vwCl [(x, .inr (14, [.ref tx, .ref pr, .ref rd, .ref li, .ref de, .ref sc, .ref ma, .ref ou, .ref dr, .int st, .int fk, .int fp, .int pe, .int ce, .int le])), (ma, .inr (6, [.ref m0, .ref m1, .ref m2, .ref m3, .ref m4, .ref m5, .ref m6, .ref m7, .int m8, .ref m9, .int m10, .int m11, .int m12, .int m13, .long m14, .int m15, .int m16, .int m17])), (m2, .inl (cI, 10, .inl f)), (m4, .inl (cR, 1000, .inl g))] U.heap ∧ va_K (dC, dI) vwCl [(cI, .int), (cR, .int)] U ∧ va_D (fun _ => True) [(x, .inr (14, [.ref tx, .ref pr, .ref rd, .ref li, .ref de, .ref sc, .ref ma, .ref ou, .ref dr, .int st, .int fk, .int fp, .int pe, .int ce, .int le])), (ma, .inr (6, [.ref m0, .ref m1, .ref m2, .ref m3, .ref m4, .ref m5, .ref m6, .ref m7, .int m8, .ref m9, .int m10, .int m11, .int m12, .int m13, .long m14, .int m15, .int m16, .int m17])), (m2, .inl (cI, 10, .inl f)), (m4, .inl (cR, 1000, .inl g))] ∧ uXw U ∧ uZ (va_A [(x, .inr (14, [.ref tx, .ref pr, .ref rd, .ref li, .ref de, .ref sc, .ref ma, .ref ou, .ref dr, .int st, .int fk, .int fp, .int pe, .int ce, .int le])), (ma, .inr (6, [.ref m0, .ref m1, .ref m2, .ref m3, .ref m4, .ref m5, .ref m6, .ref m7, .int m8, .ref m9, .int m10, .int m11, .int m12, .int m13, .long m14, .int m15, .int m16, .int m17])), (m2, .inl (cI, 10, .inl f)), (m4, .inl (cR, 1000, .inl g))] sz) U U.heap)) (va_Qi (S := Unit) (fun r _ => (¬ k < 0 ∧ k < f 9) ∧ r = g k.toNatClampNeg) (fun _ t => va_P (dC, dI) vwCl [(x, .inr (14, [.ref tx, .ref pr, .ref rd, .ref li, .ref de, .ref sc, .ref ma, .ref ou, .ref dr, .int st, .int fk, .int fp, .int pe, .int ce, .int le])), (ma, .inr (6, [.ref m0, .ref m1, .ref m2, .ref m3, .ref m4, .ref m5, .ref m6, .ref m7, .int m8, .ref m9, .int m10, .int m11, .int m12, .int m13, .long m14, .int m15, .int m16, .int m17])), (m2, .inl (cI, 10, .inl f)), (m4, .inl (cR, 1000, .inl g))] t.heap ∧ va_K (dC, dI) vwCl [(cI, .int), (cR, .int)] t ∧ va_D (va_A [(x, .inr (14, [.ref tx, .ref pr, .ref rd, .ref li, .ref de, .ref sc, .ref ma, .ref ou, .ref dr, .int st, .int fk, .int fp, .int pe, .int ce, .int le])), (ma, .inr (6, [.ref m0, .ref m1, .ref m2, .ref m3, .ref m4, .ref m5, .ref m6, .ref m7, .int m8, .ref m9, .int m10, .int m11, .int m12, .int m13, .long m14, .int m15, .int m16, .int m17])), (m2, .inl (cI, 10, .inl f)), (m4, .inl (cR, 1000, .inl g))] sz) [(x, .inr (14, [.ref tx, .ref pr, .ref rd, .ref li, .ref de, .ref sc, .ref ma, .ref ou, .ref dr, .int st, .int fk, .int fp, .int pe, .int ce, .int le])), (ma, .inr (6, [.ref m0, .ref m1, .ref m2, .ref m3, .ref m4, .ref m5, .ref m6, .ref m7, .int m8, .ref m9, .int m10, .int m11, .int m12, .int m13, .long m14, .int m15, .int m16, .int m17])), (m2, .inl (cI, 10, .inl f)), (m4, .inl (cR, 1000, .inl g))]) (va_A [(x, .inr (14, [.ref tx, .ref pr, .ref rd, .ref li, .ref de, .ref sc, .ref ma, .ref ou, .ref dr, .int st, .int fk, .int fp, .int pe, .int ce, .int le])), (ma, .inr (6, [.ref m0, .ref m1, .ref m2, .ref m3, .ref m4, .ref m5, .ref m6, .ref m7, .int m8, .ref m9, .int m10, .int m11, .int m12, .int m13, .long m14, .int m15, .int m16, .int m17])), (m2, .inl (cI, 10, .inl f)), (m4, .inl (cR, 1000, .inl g))] sz)) (uXB dC dI [(x, .inr (14, [.ref tx, .ref pr, .ref rd, .ref li, .ref de, .ref sc, .ref ma, .ref ou, .ref dr, .int st, .int fk, .int fp, .int pe, .int ce, .int le])), (ma, .inr (6, [.ref m0, .ref m1, .ref m2, .ref m3, .ref m4, .ref m5, .ref m6, .ref m7, .int m8, .ref m9, .int m10, .int m11, .int m12, .int m13, .long m14, .int m15, .int m16, .int m17])), (m2, .inl (cI, 10, .inl f)), (m4, .inl (cR, 1000, .inl g))] [(cI, .int), (cR, .int)] (va_A [(x, .inr (14, [.ref tx, .ref pr, .ref rd, .ref li, .ref de, .ref sc, .ref ma, .ref ou, .ref dr, .int st, .int fk, .int fp, .int pe, .int ce, .int le])), (ma, .inr (6, [.ref m0, .ref m1, .ref m2, .ref m3, .ref m4, .ref m5, .ref m6, .ref m7, .int m8, .ref m9, .int m10, .int m11, .int m12, .int m13, .long m14, .int m15, .int m16, .int m17])), (m2, .inl (cI, 10, .inl f)), (m4, .inl (cR, 1000, .inl g))] sz) (fun E => E = "java/lang/IndexOutOfBoundsException" ∧ (k < 0 ∨ ¬ k < f 9))) 1 6 (va_A [(x, .inr (14, [.ref tx, .ref pr, .ref rd, .ref li, .ref de, .ref sc, .ref ma, .ref ou, .ref dr, .int st, .int fk, .int fp, .int pe, .int ce, .int le])), (ma, .inr (6, [.ref m0, .ref m1, .ref m2, .ref m3, .ref m4, .ref m5, .ref m6, .ref m7, .int m8, .ref m9, .int m10, .int m11, .int m12, .int m13, .long m14, .int m15, .int m16, .int m17])), (m2, .inl (cI, 10, .inl f)), (m4, .inl (cR, 1000, .inl g))] sz) := by
  refine vx_ofW (cc := cX11_number) (maxL := 2) (ret := (some .int)) (by decide) rfl ?_
  intro p e s m args below meth c s₁ B hml hno hv
  obtain ⟨rfl, hsz, hP, hK, hD0, hXw, hZ⟩ := hv
  have hx := B.exec
  have hb := B.bytes
  have hr := B.returns
  have hts := atoms_spec (ws := Cond.code yX11_number cX11_number 2 (some .int) :: uG) B.pre
  have hu := fun (w : Cond) (h : w ∈ uG) => hts w (List.mem_cons_of_mem _ h)
  have hown : s.vm.findClass RX11 = some m.cls := findClass_of_methodNamed B.named
  have hlocks := B.notSynchronized
  subst hsz
  have hD := hD0.self (sz := s.heap.size)
  generalize hAe : va_A [(x, .inr (14, [.ref tx, .ref pr, .ref rd, .ref li, .ref de, .ref sc, .ref ma, .ref ou, .ref dr, .int st, .int fk, .int fp, .int pe, .int ce, .int le])), (ma, .inr (6, [.ref m0, .ref m1, .ref m2, .ref m3, .ref m4, .ref m5, .ref m6, .ref m7, .int m8, .ref m9, .int m10, .int m11, .int m12, .int m13, .long m14, .int m15, .int m16, .int m17])), (m2, .inl (cI, 10, .inl f)), (m4, .inl (cR, 1000, .inl g))] s.heap.size = A at hD hZ ⊢
  have hA : ∀ q : Nat, s.heap.size ≤ q → A q := fun q h => by rw [← hAe]; exact Or.inr h
  have hS : va_S A s.heap s.heap [] := va_S.rf
  have hP : va_P (dC, dI) vwCl [(x, .inr (14, [.ref tx, .ref pr, .ref rd, .ref li, .ref de, .ref sc, .ref ma, .ref ou, .ref dr, .int st, .int fk, .int fp, .int pe, .int ce, .int le])), (ma, .inr (6, [.ref m0, .ref m1, .ref m2, .ref m3, .ref m4, .ref m5, .ref m6, .ref m7, .int m8, .ref m9, .int m10, .int m11, .int m12, .int m13, .long m14, .int m15, .int m16, .int m17])), (m2, .inl (cI, 10, .inl f)), (m4, .inl (cR, 1000, .inl g))] s.heap := hP
  have hD : va_D A [(x, .inr (14, [.ref tx, .ref pr, .ref rd, .ref li, .ref de, .ref sc, .ref ma, .ref ou, .ref dr, .int st, .int fk, .int fp, .int pe, .int ce, .int le])), (ma, .inr (6, [.ref m0, .ref m1, .ref m2, .ref m3, .ref m4, .ref m5, .ref m6, .ref m7, .int m8, .ref m9, .int m10, .int m11, .int m12, .int m13, .long m14, .int m15, .int m16, .int m17])), (m2, .inl (cI, 10, .inl f)), (m4, .inl (cR, 1000, .inl g))] := hD
  have hl := lv_entry ([.ref x, .int k]) (n := 2) (Nat.le_of_ble_eq_true rfl)
  rw [lg_entry_eq]
  generalize (lg_sl ([.ref x, .int k]) ++ List.replicate (2 - (lg_sl ([.ref x, .int k])).length) Slot.unset).toArray = ls at hl ⊢
  have hl : lv_has ls 2 [(0, .ref x), (1, .int k)] := hl
  refine lv_iload_n hx hb dX11_number_0 rfl (lv_at hl 1 rfl) ?_
  refine lv_if_lt (tgt := 18) hx hb dX11_number_1 (by decide) (fun c1 => ?_) (fun c1 => ?_)
  · exact ut_throw hx hb hlt hown (by decide +kernel) hu hXw hZ mG_1743 mG_244 ul_IOB uo_IOB hP hK hD hS (by rw [hml]; exact hl.1) hno dX11_number_18 dX11_number_21 dX11_number_22 dX11_number_25 (Nat.le_of_ble_eq_true rfl) (Nat.le_of_ble_eq_true rfl) (Nat.le_of_ble_eq_true rfl) (Nat.le_of_ble_eq_true rfl) hlocks (Nat.le_of_ble_eq_true rfl) (Nat.le_of_ble_eq_true rfl) (⟨rfl, Or.inl c1⟩)
  · refine lv_iload_n hx hb dX11_number_4 rfl (lv_at hl 1 rfl) ?_
    refine lv_aload_n hx hb dX11_number_5 rfl (lv_at hl 0 rfl) ?_
    refine va_get (D := (dC, dI)) (ci := 14) (v := .ref ma) (C := RX11) (T := TX11) (N := 15) hx hb hu iuX11 hown hK hP 0 rfl rfl 6 (by decide) (hu _ mG_724) (fun _ h9 => h9) rfl dX11_number_6 ?_
    refine va_get (D := (dC, dI)) (ci := 6) (v := .ref m2) (C := RX3) (T := TX3) (N := 18) hx hb hu iuX3 hown hK hP 1 rfl rfl 2 (by decide) (hu _ mG_663) (fun _ h9 => h9) rfl dX11_number_9 ?_
    refine lv_bipush (v := 9) hx hb dX11_number_12 (by decide) ?_
    refine va_iald hx hb hK hP 2 0 rfl rfl (vp_in_iff.mpr (by decide)) dX11_number_14 ?_
    rw [show (f (9 : Int32).toNatClampNeg) = (f 9) from rfl]
    refine lv_icmp_lt (tgt := 26) hx hb dX11_number_15 (by decide) (fun c15 => ?_) (fun c15 => ?_)
    · refine lv_aload_n hx hb dX11_number_26 rfl (lv_at hl 0 rfl) ?_
      refine va_get (D := (dC, dI)) (ci := 14) (v := .ref ma) (C := RX11) (T := TX11) (N := 15) hx hb hu iuX11 hown hK hP 0 rfl rfl 6 (by decide) (hu _ mG_724) (fun _ h9 => h9) rfl dX11_number_27 ?_
      refine va_get (D := (dC, dI)) (ci := 6) (v := .ref m4) (C := RX3) (T := TX3) (N := 18) hx hb hu iuX3 hown hK hP 1 rfl rfl 4 (by decide) (hu _ mG_667) (fun _ h9 => h9) rfl dX11_number_30 ?_
      refine lv_iload_n hx hb dX11_number_33 rfl (lv_at hl 1 rfl) ?_
      refine va_iald hx hb hK hP 3 1 rfl rfl (vp_in_iff.mpr ⟨Int32.le_iff_toInt_le.mp (Int32.not_lt.mp c1), by have h8 := Int32.lt_iff_toInt_lt.mp c15; omega⟩) dX11_number_34 ?_
      have hP9 : va_P (dC, dI) vwCl [(x, .inr (14, [.ref tx, .ref pr, .ref rd, .ref li, .ref de, .ref sc, .ref ma, .ref ou, .ref dr, .int st, .int fk, .int fp, .int pe, .int ce, .int le])), (ma, .inr (6, [.ref m0, .ref m1, .ref m2, .ref m3, .ref m4, .ref m5, .ref m6, .ref m7, .int m8, .ref m9, .int m10, .int m11, .int m12, .int m13, .long m14, .int m15, .int m16, .int m17])), (m2, .inl (cI, 10, .inl f)), (m4, .inl (cR, 1000, .inl g))] s.heap := by exact hP
      have hD9 : va_D A [(x, .inr (14, [.ref tx, .ref pr, .ref rd, .ref li, .ref de, .ref sc, .ref ma, .ref ou, .ref dr, .int st, .int fk, .int fp, .int pe, .int ce, .int le])), (ma, .inr (6, [.ref m0, .ref m1, .ref m2, .ref m3, .ref m4, .ref m5, .ref m6, .ref m7, .int m8, .ref m9, .int m10, .int m11, .int m12, .int m13, .long m14, .int m15, .int m16, .int m17])), (m2, .inl (cI, 10, .inl f)), (m4, .inl (cR, 1000, .inl g))] := by exact hD
      have hK9 := hK.sub (tys' := [(cI, .int), (cR, .int)]) [0, 1] rfl
      refine vx_ret ?_
      refine W.widen (k := 1) (n := 6) (Nat.le_of_ble_eq_true rfl) (Nat.le_of_ble_eq_true rfl) ?_
      exact W.iret (v := (g (k).toNatClampNeg)) hx hb hr (fun t ht hW => ⟨⟨(g (k).toNatClampNeg), (), rfl, ⟨⟨c1, c15⟩, rfl⟩, by rw [ht]; exact hP9, va_K.moved hW.alike hK9, hD9⟩, hS.F ht⟩) hS.2.2 dX11_number_35
    · exact ut_throw hx hb hlt hown (by decide +kernel) hu hXw hZ mG_1743 mG_244 ul_IOB uo_IOB hP hK hD hS (by rw [hml]; exact hl.1) hno dX11_number_18 dX11_number_21 dX11_number_22 dX11_number_25 (Nat.le_of_ble_eq_true rfl) (Nat.le_of_ble_eq_true rfl) (Nat.le_of_ble_eq_true rfl) (Nat.le_of_ble_eq_true rfl) hlocks (Nat.le_of_ble_eq_true rfl) (Nat.le_of_ble_eq_true rfl) (⟨rfl, Or.inr c15⟩)
set_option maxHeartbeats 4000000 in
set_option maxRecDepth 100000 in
/-- LazyForge.called(k) -/
theorem kX11_called (l : Launch) (dC : Nat → ClassId) (dI : Nat → Nat → Nat) (sz : Nat) (hlt : l.stackTraces = false) (x tx pr rd li de sc ma ou dr : Nat) (st fk fp pe ce le : Int32) (p0 p1 p3 p7 p8 p9 p10 p11 p12 p13 p14 p15 p16 : Nat) (cn tp fn mn : Int32) (m0 m1 m2 m3 m4 m5 m6 m7 m9 : Nat) (m8 m10 m11 m12 m13 m15 m16 m17 : Int32) (m14 : Int64) (f : Nat → Int32) (cI : ClassId) (k : Int32) (hf : fn.toInt ≤ 630) : vx_Met l yX11_called (Cond.code yX11_called cX11_called 2 (some .int) :: uG) ({ frames := 6, cells := 1, slots := 6, locals := 90 }) (va_Pc [.ref x, .int k] (fun U => U.heap.size = sz ∧ va_P (dC, dI) vwCl [(x, .inr (14, [.ref tx, .ref pr, .ref rd, .ref li, .ref de, .ref sc, .ref ma, .ref ou, .ref dr, .int st, .int fk, .int fp, .int pe, .int ce, .int le])), (pr, .inr (7, [.ref p0, .ref p1, .int cn, .ref p3, .int tp, .int fn, .int mn, .ref p7, .ref p8, .ref p9, .ref p10, .ref p11, .ref p12, .ref p13, .ref p14, .ref p15, .ref p16])), (ma, .inr (6, [.ref m0, .ref m1, .ref m2, .ref m3, .ref m4, .ref m5, .ref m6, .ref m7, .int m8, .ref m9, .int m10, .int m11, .int m12, .int m13, .long m14, .int m15, .int m16, .int m17])), (m3, .inl (cI, 630, .inl f))] U.heap ∧ va_K (dC, dI) vwCl [(cI, .int)] U ∧ va_D (fun _ => True) [(x, .inr (14, [.ref tx, .ref pr, .ref rd, .ref li, .ref de, .ref sc, .ref ma, .ref ou, .ref dr, .int st, .int fk, .int fp, .int pe, .int ce, .int le])), (pr, .inr (7, [.ref p0, .ref p1, .int cn, .ref p3, .int tp, .int fn, .int mn, .ref p7, .ref p8, .ref p9, .ref p10, .ref p11, .ref p12, .ref p13, .ref p14, .ref p15, .ref p16])), (ma, .inr (6, [.ref m0, .ref m1, .ref m2, .ref m3, .ref m4, .ref m5, .ref m6, .ref m7, .int m8, .ref m9, .int m10, .int m11, .int m12, .int m13, .long m14, .int m15, .int m16, .int m17])), (m3, .inl (cI, 630, .inl f))] ∧ uXw U ∧ uZ (va_A [(x, .inr (14, [.ref tx, .ref pr, .ref rd, .ref li, .ref de, .ref sc, .ref ma, .ref ou, .ref dr, .int st, .int fk, .int fp, .int pe, .int ce, .int le])), (pr, .inr (7, [.ref p0, .ref p1, .int cn, .ref p3, .int tp, .int fn, .int mn, .ref p7, .ref p8, .ref p9, .ref p10, .ref p11, .ref p12, .ref p13, .ref p14, .ref p15, .ref p16])), (ma, .inr (6, [.ref m0, .ref m1, .ref m2, .ref m3, .ref m4, .ref m5, .ref m6, .ref m7, .int m8, .ref m9, .int m10, .int m11, .int m12, .int m13, .long m14, .int m15, .int m16, .int m17])), (m3, .inl (cI, 630, .inl f))] sz) U U.heap)) (va_Qi (S := Unit) (fun r _ => (¬ st = 0 ∧ ¬ k < 0 ∧ k < fn) ∧ r = f k.toNatClampNeg) (fun _ t => va_P (dC, dI) vwCl [(x, .inr (14, [.ref tx, .ref pr, .ref rd, .ref li, .ref de, .ref sc, .ref ma, .ref ou, .ref dr, .int st, .int fk, .int fp, .int pe, .int ce, .int le])), (pr, .inr (7, [.ref p0, .ref p1, .int cn, .ref p3, .int tp, .int fn, .int mn, .ref p7, .ref p8, .ref p9, .ref p10, .ref p11, .ref p12, .ref p13, .ref p14, .ref p15, .ref p16])), (ma, .inr (6, [.ref m0, .ref m1, .ref m2, .ref m3, .ref m4, .ref m5, .ref m6, .ref m7, .int m8, .ref m9, .int m10, .int m11, .int m12, .int m13, .long m14, .int m15, .int m16, .int m17])), (m3, .inl (cI, 630, .inl f))] t.heap ∧ va_K (dC, dI) vwCl [(cI, .int)] t ∧ va_D (va_A [(x, .inr (14, [.ref tx, .ref pr, .ref rd, .ref li, .ref de, .ref sc, .ref ma, .ref ou, .ref dr, .int st, .int fk, .int fp, .int pe, .int ce, .int le])), (pr, .inr (7, [.ref p0, .ref p1, .int cn, .ref p3, .int tp, .int fn, .int mn, .ref p7, .ref p8, .ref p9, .ref p10, .ref p11, .ref p12, .ref p13, .ref p14, .ref p15, .ref p16])), (ma, .inr (6, [.ref m0, .ref m1, .ref m2, .ref m3, .ref m4, .ref m5, .ref m6, .ref m7, .int m8, .ref m9, .int m10, .int m11, .int m12, .int m13, .long m14, .int m15, .int m16, .int m17])), (m3, .inl (cI, 630, .inl f))] sz) [(x, .inr (14, [.ref tx, .ref pr, .ref rd, .ref li, .ref de, .ref sc, .ref ma, .ref ou, .ref dr, .int st, .int fk, .int fp, .int pe, .int ce, .int le])), (pr, .inr (7, [.ref p0, .ref p1, .int cn, .ref p3, .int tp, .int fn, .int mn, .ref p7, .ref p8, .ref p9, .ref p10, .ref p11, .ref p12, .ref p13, .ref p14, .ref p15, .ref p16])), (ma, .inr (6, [.ref m0, .ref m1, .ref m2, .ref m3, .ref m4, .ref m5, .ref m6, .ref m7, .int m8, .ref m9, .int m10, .int m11, .int m12, .int m13, .long m14, .int m15, .int m16, .int m17])), (m3, .inl (cI, 630, .inl f))]) (va_A [(x, .inr (14, [.ref tx, .ref pr, .ref rd, .ref li, .ref de, .ref sc, .ref ma, .ref ou, .ref dr, .int st, .int fk, .int fp, .int pe, .int ce, .int le])), (pr, .inr (7, [.ref p0, .ref p1, .int cn, .ref p3, .int tp, .int fn, .int mn, .ref p7, .ref p8, .ref p9, .ref p10, .ref p11, .ref p12, .ref p13, .ref p14, .ref p15, .ref p16])), (ma, .inr (6, [.ref m0, .ref m1, .ref m2, .ref m3, .ref m4, .ref m5, .ref m6, .ref m7, .int m8, .ref m9, .int m10, .int m11, .int m12, .int m13, .long m14, .int m15, .int m16, .int m17])), (m3, .inl (cI, 630, .inl f))] sz)) (uXB dC dI [(x, .inr (14, [.ref tx, .ref pr, .ref rd, .ref li, .ref de, .ref sc, .ref ma, .ref ou, .ref dr, .int st, .int fk, .int fp, .int pe, .int ce, .int le])), (pr, .inr (7, [.ref p0, .ref p1, .int cn, .ref p3, .int tp, .int fn, .int mn, .ref p7, .ref p8, .ref p9, .ref p10, .ref p11, .ref p12, .ref p13, .ref p14, .ref p15, .ref p16])), (ma, .inr (6, [.ref m0, .ref m1, .ref m2, .ref m3, .ref m4, .ref m5, .ref m6, .ref m7, .int m8, .ref m9, .int m10, .int m11, .int m12, .int m13, .long m14, .int m15, .int m16, .int m17])), (m3, .inl (cI, 630, .inl f))] [(cI, .int)] (va_A [(x, .inr (14, [.ref tx, .ref pr, .ref rd, .ref li, .ref de, .ref sc, .ref ma, .ref ou, .ref dr, .int st, .int fk, .int fp, .int pe, .int ce, .int le])), (pr, .inr (7, [.ref p0, .ref p1, .int cn, .ref p3, .int tp, .int fn, .int mn, .ref p7, .ref p8, .ref p9, .ref p10, .ref p11, .ref p12, .ref p13, .ref p14, .ref p15, .ref p16])), (ma, .inr (6, [.ref m0, .ref m1, .ref m2, .ref m3, .ref m4, .ref m5, .ref m6, .ref m7, .int m8, .ref m9, .int m10, .int m11, .int m12, .int m13, .long m14, .int m15, .int m16, .int m17])), (m3, .inl (cI, 630, .inl f))] sz) (fun E => (E = "java/lang/IllegalStateException" ∧ st = 0) ∨ (E = "java/lang/IndexOutOfBoundsException" ∧ ¬ st = 0 ∧ (k < 0 ∨ ¬ k < fn)) ∨ False)) 1 6 (va_A [(x, .inr (14, [.ref tx, .ref pr, .ref rd, .ref li, .ref de, .ref sc, .ref ma, .ref ou, .ref dr, .int st, .int fk, .int fp, .int pe, .int ce, .int le])), (pr, .inr (7, [.ref p0, .ref p1, .int cn, .ref p3, .int tp, .int fn, .int mn, .ref p7, .ref p8, .ref p9, .ref p10, .ref p11, .ref p12, .ref p13, .ref p14, .ref p15, .ref p16])), (ma, .inr (6, [.ref m0, .ref m1, .ref m2, .ref m3, .ref m4, .ref m5, .ref m6, .ref m7, .int m8, .ref m9, .int m10, .int m11, .int m12, .int m13, .long m14, .int m15, .int m16, .int m17])), (m3, .inl (cI, 630, .inl f))] sz) := by
  refine vx_ofW (cc := cX11_called) (maxL := 2) (ret := (some .int)) (by decide) rfl ?_
  intro p e s m args below meth c s₁ B hml hno hv
  obtain ⟨rfl, hsz, hP, hK, hD0, hXw, hZ⟩ := hv
  have hx := B.exec
  have hb := B.bytes
  have hr := B.returns
  have hts := atoms_spec (ws := Cond.code yX11_called cX11_called 2 (some .int) :: uG) B.pre
  have hu := fun (w : Cond) (h : w ∈ uG) => hts w (List.mem_cons_of_mem _ h)
  have hown : s.vm.findClass RX11 = some m.cls := findClass_of_methodNamed B.named
  have hlocks := B.notSynchronized
  subst hsz
  have hD := hD0.self (sz := s.heap.size)
  generalize hAe : va_A [(x, .inr (14, [.ref tx, .ref pr, .ref rd, .ref li, .ref de, .ref sc, .ref ma, .ref ou, .ref dr, .int st, .int fk, .int fp, .int pe, .int ce, .int le])), (pr, .inr (7, [.ref p0, .ref p1, .int cn, .ref p3, .int tp, .int fn, .int mn, .ref p7, .ref p8, .ref p9, .ref p10, .ref p11, .ref p12, .ref p13, .ref p14, .ref p15, .ref p16])), (ma, .inr (6, [.ref m0, .ref m1, .ref m2, .ref m3, .ref m4, .ref m5, .ref m6, .ref m7, .int m8, .ref m9, .int m10, .int m11, .int m12, .int m13, .long m14, .int m15, .int m16, .int m17])), (m3, .inl (cI, 630, .inl f))] s.heap.size = A at hD hZ ⊢
  have hA : ∀ q : Nat, s.heap.size ≤ q → A q := fun q h => by rw [← hAe]; exact Or.inr h
  have hS : va_S A s.heap s.heap [] := va_S.rf
  have hP : va_P (dC, dI) vwCl [(x, .inr (14, [.ref tx, .ref pr, .ref rd, .ref li, .ref de, .ref sc, .ref ma, .ref ou, .ref dr, .int st, .int fk, .int fp, .int pe, .int ce, .int le])), (pr, .inr (7, [.ref p0, .ref p1, .int cn, .ref p3, .int tp, .int fn, .int mn, .ref p7, .ref p8, .ref p9, .ref p10, .ref p11, .ref p12, .ref p13, .ref p14, .ref p15, .ref p16])), (ma, .inr (6, [.ref m0, .ref m1, .ref m2, .ref m3, .ref m4, .ref m5, .ref m6, .ref m7, .int m8, .ref m9, .int m10, .int m11, .int m12, .int m13, .long m14, .int m15, .int m16, .int m17])), (m3, .inl (cI, 630, .inl f))] s.heap := hP
  have hD : va_D A [(x, .inr (14, [.ref tx, .ref pr, .ref rd, .ref li, .ref de, .ref sc, .ref ma, .ref ou, .ref dr, .int st, .int fk, .int fp, .int pe, .int ce, .int le])), (pr, .inr (7, [.ref p0, .ref p1, .int cn, .ref p3, .int tp, .int fn, .int mn, .ref p7, .ref p8, .ref p9, .ref p10, .ref p11, .ref p12, .ref p13, .ref p14, .ref p15, .ref p16])), (ma, .inr (6, [.ref m0, .ref m1, .ref m2, .ref m3, .ref m4, .ref m5, .ref m6, .ref m7, .int m8, .ref m9, .int m10, .int m11, .int m12, .int m13, .long m14, .int m15, .int m16, .int m17])), (m3, .inl (cI, 630, .inl f))] := hD
  have hl := lv_entry ([.ref x, .int k]) (n := 2) (Nat.le_of_ble_eq_true rfl)
  rw [lg_entry_eq]
  generalize (lg_sl ([.ref x, .int k]) ++ List.replicate (2 - (lg_sl ([.ref x, .int k])).length) Slot.unset).toArray = ls at hl ⊢
  have hl : lv_has ls 2 [(0, .ref x), (1, .int k)] := hl
  refine lv_aload_n hx hb dX11_called_0 rfl (lv_at hl 0 rfl) ?_
  refine va_get (D := (dC, dI)) (ci := 14) (v := .int st) (C := RX11) (T := TX11) (N := 15) hx hb hu iuX11 hown hK hP 0 rfl rfl 9 (by decide) (hu _ mG_727) (fun _ h9 => h9) rfl dX11_called_1 ?_
  refine lv_if_ne (tgt := 15) hx hb dX11_called_4 (by decide) (fun c4 => ?_) (fun c4 => ?_)
  · refine lv_iload_n hx hb dX11_called_15 rfl (lv_at hl 1 rfl) ?_
    refine lv_if_lt (tgt := 30) hx hb dX11_called_16 (by decide) (fun c16 => ?_) (fun c16 => ?_)
    · exact ut_throw hx hb hlt hown (by decide +kernel) hu hXw hZ mG_1743 mG_244 ul_IOB uo_IOB hP hK hD hS (by rw [hml]; exact hl.1) hno dX11_called_30 dX11_called_33 dX11_called_34 dX11_called_37 (Nat.le_of_ble_eq_true rfl) (Nat.le_of_ble_eq_true rfl) (Nat.le_of_ble_eq_true rfl) (Nat.le_of_ble_eq_true rfl) hlocks (Nat.le_of_ble_eq_true rfl) (Nat.le_of_ble_eq_true rfl) (Or.inr (Or.inl ⟨rfl, c4, Or.inl c16⟩))
    · refine lv_iload_n hx hb dX11_called_19 rfl (lv_at hl 1 rfl) ?_
      refine lv_aload_n hx hb dX11_called_20 rfl (lv_at hl 0 rfl) ?_
      refine va_get (D := (dC, dI)) (ci := 14) (v := .ref pr) (C := RX11) (T := TX11) (N := 15) hx hb hu iuX11 hown hK hP 0 rfl rfl 1 (by decide) (hu _ mG_719) (fun _ h9 => h9) rfl dX11_called_21 ?_
      refine va_get (D := (dC, dI)) (ci := 7) (v := .int fn) (C := RX4) (T := TX4) (N := 17) hx hb hu iuX4 hown hK hP 1 rfl rfl 5 (by decide) (hu _ mG_303) (fun _ h9 => h9) rfl dX11_called_24 ?_
      refine lv_icmp_lt (tgt := 38) hx hb dX11_called_27 (by decide) (fun c27 => ?_) (fun c27 => ?_)
      · refine lv_aload_n hx hb dX11_called_38 rfl (lv_at hl 0 rfl) ?_
        refine va_get (D := (dC, dI)) (ci := 14) (v := .ref ma) (C := RX11) (T := TX11) (N := 15) hx hb hu iuX11 hown hK hP 0 rfl rfl 6 (by decide) (hu _ mG_724) (fun _ h9 => h9) rfl dX11_called_39 ?_
        refine va_get (D := (dC, dI)) (ci := 6) (v := .ref m3) (C := RX3) (T := TX3) (N := 18) hx hb hu iuX3 hown hK hP 2 rfl rfl 3 (by decide) (hu _ mG_665) (fun _ h9 => h9) rfl dX11_called_42 ?_
        refine lv_iload_n hx hb dX11_called_45 rfl (lv_at hl 1 rfl) ?_
        refine va_iald hx hb hK hP 3 0 rfl rfl (vp_in_iff.mpr ⟨Int32.le_iff_toInt_le.mp (Int32.not_lt.mp c16), by have h9 := Int32.lt_iff_toInt_lt.mp c27; omega⟩) dX11_called_46 ?_
        have hP9 : va_P (dC, dI) vwCl [(x, .inr (14, [.ref tx, .ref pr, .ref rd, .ref li, .ref de, .ref sc, .ref ma, .ref ou, .ref dr, .int st, .int fk, .int fp, .int pe, .int ce, .int le])), (pr, .inr (7, [.ref p0, .ref p1, .int cn, .ref p3, .int tp, .int fn, .int mn, .ref p7, .ref p8, .ref p9, .ref p10, .ref p11, .ref p12, .ref p13, .ref p14, .ref p15, .ref p16])), (ma, .inr (6, [.ref m0, .ref m1, .ref m2, .ref m3, .ref m4, .ref m5, .ref m6, .ref m7, .int m8, .ref m9, .int m10, .int m11, .int m12, .int m13, .long m14, .int m15, .int m16, .int m17])), (m3, .inl (cI, 630, .inl f))] s.heap := by exact hP
        have hD9 : va_D A [(x, .inr (14, [.ref tx, .ref pr, .ref rd, .ref li, .ref de, .ref sc, .ref ma, .ref ou, .ref dr, .int st, .int fk, .int fp, .int pe, .int ce, .int le])), (pr, .inr (7, [.ref p0, .ref p1, .int cn, .ref p3, .int tp, .int fn, .int mn, .ref p7, .ref p8, .ref p9, .ref p10, .ref p11, .ref p12, .ref p13, .ref p14, .ref p15, .ref p16])), (ma, .inr (6, [.ref m0, .ref m1, .ref m2, .ref m3, .ref m4, .ref m5, .ref m6, .ref m7, .int m8, .ref m9, .int m10, .int m11, .int m12, .int m13, .long m14, .int m15, .int m16, .int m17])), (m3, .inl (cI, 630, .inl f))] := by exact hD
        have hK9 := hK.sub (tys' := [(cI, .int)]) [0] rfl
        refine vx_ret ?_
        refine W.widen (k := 1) (n := 6) (Nat.le_of_ble_eq_true rfl) (Nat.le_of_ble_eq_true rfl) ?_
        exact W.iret (v := (f (k).toNatClampNeg)) hx hb hr (fun t ht hW => ⟨⟨(f (k).toNatClampNeg), (), rfl, ⟨⟨c4, c16, c27⟩, rfl⟩, by rw [ht]; exact hP9, va_K.moved hW.alike hK9, hD9⟩, hS.F ht⟩) hS.2.2 dX11_called_47
      · exact ut_throw hx hb hlt hown (by decide +kernel) hu hXw hZ mG_1743 mG_244 ul_IOB uo_IOB hP hK hD hS (by rw [hml]; exact hl.1) hno dX11_called_30 dX11_called_33 dX11_called_34 dX11_called_37 (Nat.le_of_ble_eq_true rfl) (Nat.le_of_ble_eq_true rfl) (Nat.le_of_ble_eq_true rfl) (Nat.le_of_ble_eq_true rfl) hlocks (Nat.le_of_ble_eq_true rfl) (Nat.le_of_ble_eq_true rfl) (Or.inr (Or.inl ⟨rfl, c4, Or.inr c27⟩))
  · exact ut_throw hx hb hlt hown (by decide +kernel) hu hXw hZ mG_1627 mG_246 ul_ISE uo_ISE hP hK hD hS (by rw [hml]; exact hl.1) hno dX11_called_7 dX11_called_10 dX11_called_11 dX11_called_14 (Nat.le_of_ble_eq_true rfl) (Nat.le_of_ble_eq_true rfl) (Nat.le_of_ble_eq_true rfl) (Nat.le_of_ble_eq_true rfl) hlocks (Nat.le_of_ble_eq_true rfl) (Nat.le_of_ble_eq_true rfl) (Or.inl ⟨rfl, c4⟩)
def a_about (st fn cn ra tn on ce le k : Int32) : Int32 := if k = 0 then (if st = 0 then 0 else fn) else if k = 1 then (if st = 0 then 0 else cn) else if k = 2 then (if st = 0 then 0 else ra) else if k = 3 then tn else if k = 4 then on else if k = 5 then ce else le
set_option maxHeartbeats 4000000 in
set_option maxRecDepth 100000 in
/-- LazyForge.about(k) -/
theorem kX11_about (l : Launch) (dC : Nat → ClassId) (dI : Nat → Nat → Nat) (sz : Nat) (hlt : l.stackTraces = false) (x tx pr rd li de sc ma ou dr : Nat) (st fk fp pe ce le : Int32) (p0 p1 p3 p7 p8 p9 p10 p11 p12 p13 p14 p15 p16 : Nat) (cn tp fn mn : Int32) (rw rt rp rs : Nat) (rk rl ra ro rh : Int32) (r1 r2 : Nat) (tn l1 on l2 k : Int32) : vx_Met l yX11_about (Cond.code yX11_about cX11_about 2 (some .int) :: uG) ({ frames := 6, cells := 1, slots := 6, locals := 90 }) (va_Pc [.ref x, .int k] (fun U => U.heap.size = sz ∧ va_P (dC, dI) vwCl [(x, .inr (14, [.ref tx, .ref pr, .ref rd, .ref li, .ref de, .ref sc, .ref ma, .ref ou, .ref dr, .int st, .int fk, .int fp, .int pe, .int ce, .int le])), (pr, .inr (7, [.ref p0, .ref p1, .int cn, .ref p3, .int tp, .int fn, .int mn, .ref p7, .ref p8, .ref p9, .ref p10, .ref p11, .ref p12, .ref p13, .ref p14, .ref p15, .ref p16])), (rd, .inr (8, [.ref rw, .ref rt, .ref rp, .ref rs, .int rk, .int rl, .int ra, .int ro, .int rh])), (tx, .inr (11, [.ref r1, .int tn, .int l1])), (ou, .inr (11, [.ref r2, .int on, .int l2]))] U.heap ∧ va_K (dC, dI) vwCl [] U ∧ va_D (fun _ => True) [(x, .inr (14, [.ref tx, .ref pr, .ref rd, .ref li, .ref de, .ref sc, .ref ma, .ref ou, .ref dr, .int st, .int fk, .int fp, .int pe, .int ce, .int le])), (pr, .inr (7, [.ref p0, .ref p1, .int cn, .ref p3, .int tp, .int fn, .int mn, .ref p7, .ref p8, .ref p9, .ref p10, .ref p11, .ref p12, .ref p13, .ref p14, .ref p15, .ref p16])), (rd, .inr (8, [.ref rw, .ref rt, .ref rp, .ref rs, .int rk, .int rl, .int ra, .int ro, .int rh])), (tx, .inr (11, [.ref r1, .int tn, .int l1])), (ou, .inr (11, [.ref r2, .int on, .int l2]))] ∧ uXw U ∧ uZ (va_A [(x, .inr (14, [.ref tx, .ref pr, .ref rd, .ref li, .ref de, .ref sc, .ref ma, .ref ou, .ref dr, .int st, .int fk, .int fp, .int pe, .int ce, .int le])), (pr, .inr (7, [.ref p0, .ref p1, .int cn, .ref p3, .int tp, .int fn, .int mn, .ref p7, .ref p8, .ref p9, .ref p10, .ref p11, .ref p12, .ref p13, .ref p14, .ref p15, .ref p16])), (rd, .inr (8, [.ref rw, .ref rt, .ref rp, .ref rs, .int rk, .int rl, .int ra, .int ro, .int rh])), (tx, .inr (11, [.ref r1, .int tn, .int l1])), (ou, .inr (11, [.ref r2, .int on, .int l2]))] sz) U U.heap)) (va_Qi (S := Unit) (fun r _ => ¬ (k.toInt < 0 ∨ 6 < k.toInt) ∧ r = a_about st fn cn ra tn on ce le k) (fun _ t => va_P (dC, dI) vwCl [(x, .inr (14, [.ref tx, .ref pr, .ref rd, .ref li, .ref de, .ref sc, .ref ma, .ref ou, .ref dr, .int st, .int fk, .int fp, .int pe, .int ce, .int le])), (pr, .inr (7, [.ref p0, .ref p1, .int cn, .ref p3, .int tp, .int fn, .int mn, .ref p7, .ref p8, .ref p9, .ref p10, .ref p11, .ref p12, .ref p13, .ref p14, .ref p15, .ref p16])), (rd, .inr (8, [.ref rw, .ref rt, .ref rp, .ref rs, .int rk, .int rl, .int ra, .int ro, .int rh])), (tx, .inr (11, [.ref r1, .int tn, .int l1])), (ou, .inr (11, [.ref r2, .int on, .int l2]))] t.heap ∧ va_K (dC, dI) vwCl [] t ∧ va_D (va_A [(x, .inr (14, [.ref tx, .ref pr, .ref rd, .ref li, .ref de, .ref sc, .ref ma, .ref ou, .ref dr, .int st, .int fk, .int fp, .int pe, .int ce, .int le])), (pr, .inr (7, [.ref p0, .ref p1, .int cn, .ref p3, .int tp, .int fn, .int mn, .ref p7, .ref p8, .ref p9, .ref p10, .ref p11, .ref p12, .ref p13, .ref p14, .ref p15, .ref p16])), (rd, .inr (8, [.ref rw, .ref rt, .ref rp, .ref rs, .int rk, .int rl, .int ra, .int ro, .int rh])), (tx, .inr (11, [.ref r1, .int tn, .int l1])), (ou, .inr (11, [.ref r2, .int on, .int l2]))] sz) [(x, .inr (14, [.ref tx, .ref pr, .ref rd, .ref li, .ref de, .ref sc, .ref ma, .ref ou, .ref dr, .int st, .int fk, .int fp, .int pe, .int ce, .int le])), (pr, .inr (7, [.ref p0, .ref p1, .int cn, .ref p3, .int tp, .int fn, .int mn, .ref p7, .ref p8, .ref p9, .ref p10, .ref p11, .ref p12, .ref p13, .ref p14, .ref p15, .ref p16])), (rd, .inr (8, [.ref rw, .ref rt, .ref rp, .ref rs, .int rk, .int rl, .int ra, .int ro, .int rh])), (tx, .inr (11, [.ref r1, .int tn, .int l1])), (ou, .inr (11, [.ref r2, .int on, .int l2]))]) (va_A [(x, .inr (14, [.ref tx, .ref pr, .ref rd, .ref li, .ref de, .ref sc, .ref ma, .ref ou, .ref dr, .int st, .int fk, .int fp, .int pe, .int ce, .int le])), (pr, .inr (7, [.ref p0, .ref p1, .int cn, .ref p3, .int tp, .int fn, .int mn, .ref p7, .ref p8, .ref p9, .ref p10, .ref p11, .ref p12, .ref p13, .ref p14, .ref p15, .ref p16])), (rd, .inr (8, [.ref rw, .ref rt, .ref rp, .ref rs, .int rk, .int rl, .int ra, .int ro, .int rh])), (tx, .inr (11, [.ref r1, .int tn, .int l1])), (ou, .inr (11, [.ref r2, .int on, .int l2]))] sz)) (uXB dC dI [(x, .inr (14, [.ref tx, .ref pr, .ref rd, .ref li, .ref de, .ref sc, .ref ma, .ref ou, .ref dr, .int st, .int fk, .int fp, .int pe, .int ce, .int le])), (pr, .inr (7, [.ref p0, .ref p1, .int cn, .ref p3, .int tp, .int fn, .int mn, .ref p7, .ref p8, .ref p9, .ref p10, .ref p11, .ref p12, .ref p13, .ref p14, .ref p15, .ref p16])), (rd, .inr (8, [.ref rw, .ref rt, .ref rp, .ref rs, .int rk, .int rl, .int ra, .int ro, .int rh])), (tx, .inr (11, [.ref r1, .int tn, .int l1])), (ou, .inr (11, [.ref r2, .int on, .int l2]))] [] (va_A [(x, .inr (14, [.ref tx, .ref pr, .ref rd, .ref li, .ref de, .ref sc, .ref ma, .ref ou, .ref dr, .int st, .int fk, .int fp, .int pe, .int ce, .int le])), (pr, .inr (7, [.ref p0, .ref p1, .int cn, .ref p3, .int tp, .int fn, .int mn, .ref p7, .ref p8, .ref p9, .ref p10, .ref p11, .ref p12, .ref p13, .ref p14, .ref p15, .ref p16])), (rd, .inr (8, [.ref rw, .ref rt, .ref rp, .ref rs, .int rk, .int rl, .int ra, .int ro, .int rh])), (tx, .inr (11, [.ref r1, .int tn, .int l1])), (ou, .inr (11, [.ref r2, .int on, .int l2]))] sz) (fun E => E = "java/lang/IllegalArgumentException" ∧ (k.toInt < 0 ∨ 6 < k.toInt))) 1 6 (va_A [(x, .inr (14, [.ref tx, .ref pr, .ref rd, .ref li, .ref de, .ref sc, .ref ma, .ref ou, .ref dr, .int st, .int fk, .int fp, .int pe, .int ce, .int le])), (pr, .inr (7, [.ref p0, .ref p1, .int cn, .ref p3, .int tp, .int fn, .int mn, .ref p7, .ref p8, .ref p9, .ref p10, .ref p11, .ref p12, .ref p13, .ref p14, .ref p15, .ref p16])), (rd, .inr (8, [.ref rw, .ref rt, .ref rp, .ref rs, .int rk, .int rl, .int ra, .int ro, .int rh])), (tx, .inr (11, [.ref r1, .int tn, .int l1])), (ou, .inr (11, [.ref r2, .int on, .int l2]))] sz) := by
  refine vx_ofW (cc := cX11_about) (maxL := 2) (ret := (some .int)) (by decide) rfl ?_
  intro p e s m args below meth c s₁ B hml hno hv
  obtain ⟨rfl, hsz, hP, hK, hD0, hXw, hZ⟩ := hv
  have hx := B.exec
  have hb := B.bytes
  have hr := B.returns
  have hts := atoms_spec (ws := Cond.code yX11_about cX11_about 2 (some .int) :: uG) B.pre
  have hu := fun (w : Cond) (h : w ∈ uG) => hts w (List.mem_cons_of_mem _ h)
  have hown : s.vm.findClass RX11 = some m.cls := findClass_of_methodNamed B.named
  have hlocks := B.notSynchronized
  subst hsz
  have hD := hD0.self (sz := s.heap.size)
  generalize hAe : va_A [(x, .inr (14, [.ref tx, .ref pr, .ref rd, .ref li, .ref de, .ref sc, .ref ma, .ref ou, .ref dr, .int st, .int fk, .int fp, .int pe, .int ce, .int le])), (pr, .inr (7, [.ref p0, .ref p1, .int cn, .ref p3, .int tp, .int fn, .int mn, .ref p7, .ref p8, .ref p9, .ref p10, .ref p11, .ref p12, .ref p13, .ref p14, .ref p15, .ref p16])), (rd, .inr (8, [.ref rw, .ref rt, .ref rp, .ref rs, .int rk, .int rl, .int ra, .int ro, .int rh])), (tx, .inr (11, [.ref r1, .int tn, .int l1])), (ou, .inr (11, [.ref r2, .int on, .int l2]))] s.heap.size = A at hD hZ ⊢
  have hA : ∀ q : Nat, s.heap.size ≤ q → A q := fun q h => by rw [← hAe]; exact Or.inr h
  have hS : va_S A s.heap s.heap [] := va_S.rf
  have hP : va_P (dC, dI) vwCl [(x, .inr (14, [.ref tx, .ref pr, .ref rd, .ref li, .ref de, .ref sc, .ref ma, .ref ou, .ref dr, .int st, .int fk, .int fp, .int pe, .int ce, .int le])), (pr, .inr (7, [.ref p0, .ref p1, .int cn, .ref p3, .int tp, .int fn, .int mn, .ref p7, .ref p8, .ref p9, .ref p10, .ref p11, .ref p12, .ref p13, .ref p14, .ref p15, .ref p16])), (rd, .inr (8, [.ref rw, .ref rt, .ref rp, .ref rs, .int rk, .int rl, .int ra, .int ro, .int rh])), (tx, .inr (11, [.ref r1, .int tn, .int l1])), (ou, .inr (11, [.ref r2, .int on, .int l2]))] s.heap := hP
  have hD : va_D A [(x, .inr (14, [.ref tx, .ref pr, .ref rd, .ref li, .ref de, .ref sc, .ref ma, .ref ou, .ref dr, .int st, .int fk, .int fp, .int pe, .int ce, .int le])), (pr, .inr (7, [.ref p0, .ref p1, .int cn, .ref p3, .int tp, .int fn, .int mn, .ref p7, .ref p8, .ref p9, .ref p10, .ref p11, .ref p12, .ref p13, .ref p14, .ref p15, .ref p16])), (rd, .inr (8, [.ref rw, .ref rt, .ref rp, .ref rs, .int rk, .int rl, .int ra, .int ro, .int rh])), (tx, .inr (11, [.ref r1, .int tn, .int l1])), (ou, .inr (11, [.ref r2, .int on, .int l2]))] := hD
  have hl := lv_entry ([.ref x, .int k]) (n := 2) (Nat.le_of_ble_eq_true rfl)
  rw [lg_entry_eq]
  generalize (lg_sl ([.ref x, .int k]) ++ List.replicate (2 - (lg_sl ([.ref x, .int k])).length) Slot.unset).toArray = ls at hl ⊢
  have hl : lv_has ls 2 [(0, .ref x), (1, .int k)] := hl
  refine lv_iload_n hx hb dX11_about_0 rfl (lv_at hl 1 rfl) ?_
  rcases sw_0_6 (k) with hsw | hsw | hsw | hsw | hsw | hsw | hsw | hsw
  · refine lv_tableOut (tgt := 127) hx hb dX11_about_1 hsw (by decide) ?_
    exact ut_throw hx hb hlt hown (by decide +kernel) hu hXw hZ mG_789 mG_230 ul_IAE uo_IAE hP hK hD hS (by rw [hml]; exact hl.1) hno dX11_about_127 dX11_about_130 dX11_about_131 dX11_about_134 (Nat.le_of_ble_eq_true rfl) (Nat.le_of_ble_eq_true rfl) (Nat.le_of_ble_eq_true rfl) (Nat.le_of_ble_eq_true rfl) hlocks (Nat.le_of_ble_eq_true rfl) (Nat.le_of_ble_eq_true rfl) (⟨rfl, hsw⟩)
  · refine lv_tableIn (off := 43) (tgt := 44) hx hb dX11_about_1 (by rw [hsw]; decide) (by rw [hsw]; decide) (by rw [hsw]; decide) (by decide) ?_
    refine lv_aload_n hx hb dX11_about_44 rfl (lv_at hl 0 rfl) ?_
    refine va_get (D := (dC, dI)) (ci := 14) (v := .int st) (C := RX11) (T := TX11) (N := 15) hx hb hu iuX11 hown hK hP 0 rfl rfl 9 (by decide) (hu _ mG_727) (fun _ h9 => h9) rfl dX11_about_45 ?_
    refine lv_if_eq (tgt := 61) hx hb dX11_about_48 (by decide) (fun c48 => ?_) (fun c48 => ?_)
    · refine lv_iconst (v := 0) hx hb dX11_about_61 (by decide) ?_
      have hP9 : va_P (dC, dI) vwCl [(x, .inr (14, [.ref tx, .ref pr, .ref rd, .ref li, .ref de, .ref sc, .ref ma, .ref ou, .ref dr, .int st, .int fk, .int fp, .int pe, .int ce, .int le])), (pr, .inr (7, [.ref p0, .ref p1, .int cn, .ref p3, .int tp, .int fn, .int mn, .ref p7, .ref p8, .ref p9, .ref p10, .ref p11, .ref p12, .ref p13, .ref p14, .ref p15, .ref p16])), (rd, .inr (8, [.ref rw, .ref rt, .ref rp, .ref rs, .int rk, .int rl, .int ra, .int ro, .int rh])), (tx, .inr (11, [.ref r1, .int tn, .int l1])), (ou, .inr (11, [.ref r2, .int on, .int l2]))] s.heap := by exact hP
      have hD9 : va_D A [(x, .inr (14, [.ref tx, .ref pr, .ref rd, .ref li, .ref de, .ref sc, .ref ma, .ref ou, .ref dr, .int st, .int fk, .int fp, .int pe, .int ce, .int le])), (pr, .inr (7, [.ref p0, .ref p1, .int cn, .ref p3, .int tp, .int fn, .int mn, .ref p7, .ref p8, .ref p9, .ref p10, .ref p11, .ref p12, .ref p13, .ref p14, .ref p15, .ref p16])), (rd, .inr (8, [.ref rw, .ref rt, .ref rp, .ref rs, .int rk, .int rl, .int ra, .int ro, .int rh])), (tx, .inr (11, [.ref r1, .int tn, .int l1])), (ou, .inr (11, [.ref r2, .int on, .int l2]))] := by exact hD
      have hK9 := hK.sub (tys' := []) [] rfl
      refine vx_ret ?_
      refine W.widen (k := 1) (n := 6) (Nat.le_of_ble_eq_true rfl) (Nat.le_of_ble_eq_true rfl) ?_
      exact W.iret (v := 0) hx hb hr (fun t ht hW => ⟨⟨0, (), rfl, ⟨by rw [hsw]; decide, by simp [a_about, hsw, c48]⟩, by rw [ht]; exact hP9, va_K.moved hW.alike hK9, hD9⟩, hS.F ht⟩) hS.2.2 dX11_about_62
    · refine lv_aload_n hx hb dX11_about_51 rfl (lv_at hl 0 rfl) ?_
      refine va_get (D := (dC, dI)) (ci := 14) (v := .ref pr) (C := RX11) (T := TX11) (N := 15) hx hb hu iuX11 hown hK hP 0 rfl rfl 1 (by decide) (hu _ mG_719) (fun _ h9 => h9) rfl dX11_about_52 ?_
      refine va_get (D := (dC, dI)) (ci := 7) (v := .int fn) (C := RX4) (T := TX4) (N := 17) hx hb hu iuX4 hown hK hP 1 rfl rfl 5 (by decide) (hu _ mG_303) (fun _ h9 => h9) rfl dX11_about_55 ?_
      refine lv_goto (tgt := 62) hx hb dX11_about_58 (by decide) ?_
      have hP9 : va_P (dC, dI) vwCl [(x, .inr (14, [.ref tx, .ref pr, .ref rd, .ref li, .ref de, .ref sc, .ref ma, .ref ou, .ref dr, .int st, .int fk, .int fp, .int pe, .int ce, .int le])), (pr, .inr (7, [.ref p0, .ref p1, .int cn, .ref p3, .int tp, .int fn, .int mn, .ref p7, .ref p8, .ref p9, .ref p10, .ref p11, .ref p12, .ref p13, .ref p14, .ref p15, .ref p16])), (rd, .inr (8, [.ref rw, .ref rt, .ref rp, .ref rs, .int rk, .int rl, .int ra, .int ro, .int rh])), (tx, .inr (11, [.ref r1, .int tn, .int l1])), (ou, .inr (11, [.ref r2, .int on, .int l2]))] s.heap := by exact hP
      have hD9 : va_D A [(x, .inr (14, [.ref tx, .ref pr, .ref rd, .ref li, .ref de, .ref sc, .ref ma, .ref ou, .ref dr, .int st, .int fk, .int fp, .int pe, .int ce, .int le])), (pr, .inr (7, [.ref p0, .ref p1, .int cn, .ref p3, .int tp, .int fn, .int mn, .ref p7, .ref p8, .ref p9, .ref p10, .ref p11, .ref p12, .ref p13, .ref p14, .ref p15, .ref p16])), (rd, .inr (8, [.ref rw, .ref rt, .ref rp, .ref rs, .int rk, .int rl, .int ra, .int ro, .int rh])), (tx, .inr (11, [.ref r1, .int tn, .int l1])), (ou, .inr (11, [.ref r2, .int on, .int l2]))] := by exact hD
      have hK9 := hK.sub (tys' := []) [] rfl
      refine vx_ret ?_
      refine W.widen (k := 1) (n := 6) (Nat.le_of_ble_eq_true rfl) (Nat.le_of_ble_eq_true rfl) ?_
      exact W.iret (v := fn) hx hb hr (fun t ht hW => ⟨⟨fn, (), rfl, ⟨by rw [hsw]; decide, by simp [a_about, hsw, c48]⟩, by rw [ht]; exact hP9, va_K.moved hW.alike hK9, hD9⟩, hS.F ht⟩) hS.2.2 dX11_about_62
  · refine lv_tableIn (off := 62) (tgt := 63) hx hb dX11_about_1 (by rw [hsw]; decide) (by rw [hsw]; decide) (by rw [hsw]; decide) (by decide) ?_
    refine lv_aload_n hx hb dX11_about_63 rfl (lv_at hl 0 rfl) ?_
    refine va_get (D := (dC, dI)) (ci := 14) (v := .int st) (C := RX11) (T := TX11) (N := 15) hx hb hu iuX11 hown hK hP 0 rfl rfl 9 (by decide) (hu _ mG_727) (fun _ h9 => h9) rfl dX11_about_64 ?_
    refine lv_if_eq (tgt := 80) hx hb dX11_about_67 (by decide) (fun c67 => ?_) (fun c67 => ?_)
    · refine lv_iconst (v := 0) hx hb dX11_about_80 (by decide) ?_
      have hP9 : va_P (dC, dI) vwCl [(x, .inr (14, [.ref tx, .ref pr, .ref rd, .ref li, .ref de, .ref sc, .ref ma, .ref ou, .ref dr, .int st, .int fk, .int fp, .int pe, .int ce, .int le])), (pr, .inr (7, [.ref p0, .ref p1, .int cn, .ref p3, .int tp, .int fn, .int mn, .ref p7, .ref p8, .ref p9, .ref p10, .ref p11, .ref p12, .ref p13, .ref p14, .ref p15, .ref p16])), (rd, .inr (8, [.ref rw, .ref rt, .ref rp, .ref rs, .int rk, .int rl, .int ra, .int ro, .int rh])), (tx, .inr (11, [.ref r1, .int tn, .int l1])), (ou, .inr (11, [.ref r2, .int on, .int l2]))] s.heap := by exact hP
      have hD9 : va_D A [(x, .inr (14, [.ref tx, .ref pr, .ref rd, .ref li, .ref de, .ref sc, .ref ma, .ref ou, .ref dr, .int st, .int fk, .int fp, .int pe, .int ce, .int le])), (pr, .inr (7, [.ref p0, .ref p1, .int cn, .ref p3, .int tp, .int fn, .int mn, .ref p7, .ref p8, .ref p9, .ref p10, .ref p11, .ref p12, .ref p13, .ref p14, .ref p15, .ref p16])), (rd, .inr (8, [.ref rw, .ref rt, .ref rp, .ref rs, .int rk, .int rl, .int ra, .int ro, .int rh])), (tx, .inr (11, [.ref r1, .int tn, .int l1])), (ou, .inr (11, [.ref r2, .int on, .int l2]))] := by exact hD
      have hK9 := hK.sub (tys' := []) [] rfl
      refine vx_ret ?_
      refine W.widen (k := 1) (n := 6) (Nat.le_of_ble_eq_true rfl) (Nat.le_of_ble_eq_true rfl) ?_
      exact W.iret (v := 0) hx hb hr (fun t ht hW => ⟨⟨0, (), rfl, ⟨by rw [hsw]; decide, by simp [a_about, hsw, c67]⟩, by rw [ht]; exact hP9, va_K.moved hW.alike hK9, hD9⟩, hS.F ht⟩) hS.2.2 dX11_about_81
    · refine lv_aload_n hx hb dX11_about_70 rfl (lv_at hl 0 rfl) ?_
      refine va_get (D := (dC, dI)) (ci := 14) (v := .ref pr) (C := RX11) (T := TX11) (N := 15) hx hb hu iuX11 hown hK hP 0 rfl rfl 1 (by decide) (hu _ mG_719) (fun _ h9 => h9) rfl dX11_about_71 ?_
      refine va_get (D := (dC, dI)) (ci := 7) (v := .int cn) (C := RX4) (T := TX4) (N := 17) hx hb hu iuX4 hown hK hP 1 rfl rfl 2 (by decide) (hu _ mG_293) (fun _ h9 => h9) rfl dX11_about_74 ?_
      refine lv_goto (tgt := 81) hx hb dX11_about_77 (by decide) ?_
      have hP9 : va_P (dC, dI) vwCl [(x, .inr (14, [.ref tx, .ref pr, .ref rd, .ref li, .ref de, .ref sc, .ref ma, .ref ou, .ref dr, .int st, .int fk, .int fp, .int pe, .int ce, .int le])), (pr, .inr (7, [.ref p0, .ref p1, .int cn, .ref p3, .int tp, .int fn, .int mn, .ref p7, .ref p8, .ref p9, .ref p10, .ref p11, .ref p12, .ref p13, .ref p14, .ref p15, .ref p16])), (rd, .inr (8, [.ref rw, .ref rt, .ref rp, .ref rs, .int rk, .int rl, .int ra, .int ro, .int rh])), (tx, .inr (11, [.ref r1, .int tn, .int l1])), (ou, .inr (11, [.ref r2, .int on, .int l2]))] s.heap := by exact hP
      have hD9 : va_D A [(x, .inr (14, [.ref tx, .ref pr, .ref rd, .ref li, .ref de, .ref sc, .ref ma, .ref ou, .ref dr, .int st, .int fk, .int fp, .int pe, .int ce, .int le])), (pr, .inr (7, [.ref p0, .ref p1, .int cn, .ref p3, .int tp, .int fn, .int mn, .ref p7, .ref p8, .ref p9, .ref p10, .ref p11, .ref p12, .ref p13, .ref p14, .ref p15, .ref p16])), (rd, .inr (8, [.ref rw, .ref rt, .ref rp, .ref rs, .int rk, .int rl, .int ra, .int ro, .int rh])), (tx, .inr (11, [.ref r1, .int tn, .int l1])), (ou, .inr (11, [.ref r2, .int on, .int l2]))] := by exact hD
      have hK9 := hK.sub (tys' := []) [] rfl
      refine vx_ret ?_
      refine W.widen (k := 1) (n := 6) (Nat.le_of_ble_eq_true rfl) (Nat.le_of_ble_eq_true rfl) ?_
      exact W.iret (v := cn) hx hb hr (fun t ht hW => ⟨⟨cn, (), rfl, ⟨by rw [hsw]; decide, by simp [a_about, hsw, c67]⟩, by rw [ht]; exact hP9, va_K.moved hW.alike hK9, hD9⟩, hS.F ht⟩) hS.2.2 dX11_about_81
  · refine lv_tableIn (off := 81) (tgt := 82) hx hb dX11_about_1 (by rw [hsw]; decide) (by rw [hsw]; decide) (by rw [hsw]; decide) (by decide) ?_
    refine lv_aload_n hx hb dX11_about_82 rfl (lv_at hl 0 rfl) ?_
    refine va_get (D := (dC, dI)) (ci := 14) (v := .int st) (C := RX11) (T := TX11) (N := 15) hx hb hu iuX11 hown hK hP 0 rfl rfl 9 (by decide) (hu _ mG_727) (fun _ h9 => h9) rfl dX11_about_83 ?_
    refine lv_if_eq (tgt := 99) hx hb dX11_about_86 (by decide) (fun c86 => ?_) (fun c86 => ?_)
    · refine lv_iconst (v := 0) hx hb dX11_about_99 (by decide) ?_
      have hP9 : va_P (dC, dI) vwCl [(x, .inr (14, [.ref tx, .ref pr, .ref rd, .ref li, .ref de, .ref sc, .ref ma, .ref ou, .ref dr, .int st, .int fk, .int fp, .int pe, .int ce, .int le])), (pr, .inr (7, [.ref p0, .ref p1, .int cn, .ref p3, .int tp, .int fn, .int mn, .ref p7, .ref p8, .ref p9, .ref p10, .ref p11, .ref p12, .ref p13, .ref p14, .ref p15, .ref p16])), (rd, .inr (8, [.ref rw, .ref rt, .ref rp, .ref rs, .int rk, .int rl, .int ra, .int ro, .int rh])), (tx, .inr (11, [.ref r1, .int tn, .int l1])), (ou, .inr (11, [.ref r2, .int on, .int l2]))] s.heap := by exact hP
      have hD9 : va_D A [(x, .inr (14, [.ref tx, .ref pr, .ref rd, .ref li, .ref de, .ref sc, .ref ma, .ref ou, .ref dr, .int st, .int fk, .int fp, .int pe, .int ce, .int le])), (pr, .inr (7, [.ref p0, .ref p1, .int cn, .ref p3, .int tp, .int fn, .int mn, .ref p7, .ref p8, .ref p9, .ref p10, .ref p11, .ref p12, .ref p13, .ref p14, .ref p15, .ref p16])), (rd, .inr (8, [.ref rw, .ref rt, .ref rp, .ref rs, .int rk, .int rl, .int ra, .int ro, .int rh])), (tx, .inr (11, [.ref r1, .int tn, .int l1])), (ou, .inr (11, [.ref r2, .int on, .int l2]))] := by exact hD
      have hK9 := hK.sub (tys' := []) [] rfl
      refine vx_ret ?_
      refine W.widen (k := 1) (n := 6) (Nat.le_of_ble_eq_true rfl) (Nat.le_of_ble_eq_true rfl) ?_
      exact W.iret (v := 0) hx hb hr (fun t ht hW => ⟨⟨0, (), rfl, ⟨by rw [hsw]; decide, by simp [a_about, hsw, c86]⟩, by rw [ht]; exact hP9, va_K.moved hW.alike hK9, hD9⟩, hS.F ht⟩) hS.2.2 dX11_about_100
    · refine lv_aload_n hx hb dX11_about_89 rfl (lv_at hl 0 rfl) ?_
      refine va_get (D := (dC, dI)) (ci := 14) (v := .ref rd) (C := RX11) (T := TX11) (N := 15) hx hb hu iuX11 hown hK hP 0 rfl rfl 2 (by decide) (hu _ mG_720) (fun _ h9 => h9) rfl dX11_about_90 ?_
      refine va_get (D := (dC, dI)) (ci := 8) (v := .int ra) (C := RX5) (T := TX5) (N := 9) hx hb hu iuX5 hown hK hP 2 rfl rfl 6 (by decide) (hu _ mG_547) (fun _ h9 => h9) rfl dX11_about_93 ?_
      refine lv_goto (tgt := 100) hx hb dX11_about_96 (by decide) ?_
      have hP9 : va_P (dC, dI) vwCl [(x, .inr (14, [.ref tx, .ref pr, .ref rd, .ref li, .ref de, .ref sc, .ref ma, .ref ou, .ref dr, .int st, .int fk, .int fp, .int pe, .int ce, .int le])), (pr, .inr (7, [.ref p0, .ref p1, .int cn, .ref p3, .int tp, .int fn, .int mn, .ref p7, .ref p8, .ref p9, .ref p10, .ref p11, .ref p12, .ref p13, .ref p14, .ref p15, .ref p16])), (rd, .inr (8, [.ref rw, .ref rt, .ref rp, .ref rs, .int rk, .int rl, .int ra, .int ro, .int rh])), (tx, .inr (11, [.ref r1, .int tn, .int l1])), (ou, .inr (11, [.ref r2, .int on, .int l2]))] s.heap := by exact hP
      have hD9 : va_D A [(x, .inr (14, [.ref tx, .ref pr, .ref rd, .ref li, .ref de, .ref sc, .ref ma, .ref ou, .ref dr, .int st, .int fk, .int fp, .int pe, .int ce, .int le])), (pr, .inr (7, [.ref p0, .ref p1, .int cn, .ref p3, .int tp, .int fn, .int mn, .ref p7, .ref p8, .ref p9, .ref p10, .ref p11, .ref p12, .ref p13, .ref p14, .ref p15, .ref p16])), (rd, .inr (8, [.ref rw, .ref rt, .ref rp, .ref rs, .int rk, .int rl, .int ra, .int ro, .int rh])), (tx, .inr (11, [.ref r1, .int tn, .int l1])), (ou, .inr (11, [.ref r2, .int on, .int l2]))] := by exact hD
      have hK9 := hK.sub (tys' := []) [] rfl
      refine vx_ret ?_
      refine W.widen (k := 1) (n := 6) (Nat.le_of_ble_eq_true rfl) (Nat.le_of_ble_eq_true rfl) ?_
      exact W.iret (v := ra) hx hb hr (fun t ht hW => ⟨⟨ra, (), rfl, ⟨by rw [hsw]; decide, by simp [a_about, hsw, c86]⟩, by rw [ht]; exact hP9, va_K.moved hW.alike hK9, hD9⟩, hS.F ht⟩) hS.2.2 dX11_about_100
  · refine lv_tableIn (off := 100) (tgt := 101) hx hb dX11_about_1 (by rw [hsw]; decide) (by rw [hsw]; decide) (by rw [hsw]; decide) (by decide) ?_
    refine lv_aload_n hx hb dX11_about_101 rfl (lv_at hl 0 rfl) ?_
    refine va_get (D := (dC, dI)) (ci := 14) (v := .ref tx) (C := RX11) (T := TX11) (N := 15) hx hb hu iuX11 hown hK hP 0 rfl rfl 0 (by decide) (hu _ mG_718) (fun _ h9 => h9) rfl dX11_about_102 ?_
    refine va_get (D := (dC, dI)) (ci := 11) (v := .int tn) (C := RX8) (T := TX8) (N := 3) hx hb hu iuX8 hown hK hP 3 rfl rfl 1 (by decide) (hu _ mG_264) (fun _ h9 => h9) rfl dX11_about_105 ?_
    have hP9 : va_P (dC, dI) vwCl [(x, .inr (14, [.ref tx, .ref pr, .ref rd, .ref li, .ref de, .ref sc, .ref ma, .ref ou, .ref dr, .int st, .int fk, .int fp, .int pe, .int ce, .int le])), (pr, .inr (7, [.ref p0, .ref p1, .int cn, .ref p3, .int tp, .int fn, .int mn, .ref p7, .ref p8, .ref p9, .ref p10, .ref p11, .ref p12, .ref p13, .ref p14, .ref p15, .ref p16])), (rd, .inr (8, [.ref rw, .ref rt, .ref rp, .ref rs, .int rk, .int rl, .int ra, .int ro, .int rh])), (tx, .inr (11, [.ref r1, .int tn, .int l1])), (ou, .inr (11, [.ref r2, .int on, .int l2]))] s.heap := by exact hP
    have hD9 : va_D A [(x, .inr (14, [.ref tx, .ref pr, .ref rd, .ref li, .ref de, .ref sc, .ref ma, .ref ou, .ref dr, .int st, .int fk, .int fp, .int pe, .int ce, .int le])), (pr, .inr (7, [.ref p0, .ref p1, .int cn, .ref p3, .int tp, .int fn, .int mn, .ref p7, .ref p8, .ref p9, .ref p10, .ref p11, .ref p12, .ref p13, .ref p14, .ref p15, .ref p16])), (rd, .inr (8, [.ref rw, .ref rt, .ref rp, .ref rs, .int rk, .int rl, .int ra, .int ro, .int rh])), (tx, .inr (11, [.ref r1, .int tn, .int l1])), (ou, .inr (11, [.ref r2, .int on, .int l2]))] := by exact hD
    have hK9 := hK.sub (tys' := []) [] rfl
    refine vx_ret ?_
    refine W.widen (k := 1) (n := 6) (Nat.le_of_ble_eq_true rfl) (Nat.le_of_ble_eq_true rfl) ?_
    exact W.iret (v := tn) hx hb hr (fun t ht hW => ⟨⟨tn, (), rfl, ⟨by rw [hsw]; decide, by simp [a_about, hsw]⟩, by rw [ht]; exact hP9, va_K.moved hW.alike hK9, hD9⟩, hS.F ht⟩) hS.2.2 dX11_about_108
  · refine lv_tableIn (off := 108) (tgt := 109) hx hb dX11_about_1 (by rw [hsw]; decide) (by rw [hsw]; decide) (by rw [hsw]; decide) (by decide) ?_
    refine lv_aload_n hx hb dX11_about_109 rfl (lv_at hl 0 rfl) ?_
    refine va_get (D := (dC, dI)) (ci := 14) (v := .ref ou) (C := RX11) (T := TX11) (N := 15) hx hb hu iuX11 hown hK hP 0 rfl rfl 7 (by decide) (hu _ mG_725) (fun _ h9 => h9) rfl dX11_about_110 ?_
    refine va_get (D := (dC, dI)) (ci := 11) (v := .int on) (C := RX8) (T := TX8) (N := 3) hx hb hu iuX8 hown hK hP 4 rfl rfl 1 (by decide) (hu _ mG_264) (fun _ h9 => h9) rfl dX11_about_113 ?_
    have hP9 : va_P (dC, dI) vwCl [(x, .inr (14, [.ref tx, .ref pr, .ref rd, .ref li, .ref de, .ref sc, .ref ma, .ref ou, .ref dr, .int st, .int fk, .int fp, .int pe, .int ce, .int le])), (pr, .inr (7, [.ref p0, .ref p1, .int cn, .ref p3, .int tp, .int fn, .int mn, .ref p7, .ref p8, .ref p9, .ref p10, .ref p11, .ref p12, .ref p13, .ref p14, .ref p15, .ref p16])), (rd, .inr (8, [.ref rw, .ref rt, .ref rp, .ref rs, .int rk, .int rl, .int ra, .int ro, .int rh])), (tx, .inr (11, [.ref r1, .int tn, .int l1])), (ou, .inr (11, [.ref r2, .int on, .int l2]))] s.heap := by exact hP
    have hD9 : va_D A [(x, .inr (14, [.ref tx, .ref pr, .ref rd, .ref li, .ref de, .ref sc, .ref ma, .ref ou, .ref dr, .int st, .int fk, .int fp, .int pe, .int ce, .int le])), (pr, .inr (7, [.ref p0, .ref p1, .int cn, .ref p3, .int tp, .int fn, .int mn, .ref p7, .ref p8, .ref p9, .ref p10, .ref p11, .ref p12, .ref p13, .ref p14, .ref p15, .ref p16])), (rd, .inr (8, [.ref rw, .ref rt, .ref rp, .ref rs, .int rk, .int rl, .int ra, .int ro, .int rh])), (tx, .inr (11, [.ref r1, .int tn, .int l1])), (ou, .inr (11, [.ref r2, .int on, .int l2]))] := by exact hD
    have hK9 := hK.sub (tys' := []) [] rfl
    refine vx_ret ?_
    refine W.widen (k := 1) (n := 6) (Nat.le_of_ble_eq_true rfl) (Nat.le_of_ble_eq_true rfl) ?_
    exact W.iret (v := on) hx hb hr (fun t ht hW => ⟨⟨on, (), rfl, ⟨by rw [hsw]; decide, by simp [a_about, hsw]⟩, by rw [ht]; exact hP9, va_K.moved hW.alike hK9, hD9⟩, hS.F ht⟩) hS.2.2 dX11_about_116
  · refine lv_tableIn (off := 116) (tgt := 117) hx hb dX11_about_1 (by rw [hsw]; decide) (by rw [hsw]; decide) (by rw [hsw]; decide) (by decide) ?_
    refine lv_aload_n hx hb dX11_about_117 rfl (lv_at hl 0 rfl) ?_
    refine va_get (D := (dC, dI)) (ci := 14) (v := .int ce) (C := RX11) (T := TX11) (N := 15) hx hb hu iuX11 hown hK hP 0 rfl rfl 13 (by decide) (hu _ mG_731) (fun _ h9 => h9) rfl dX11_about_118 ?_
    have hP9 : va_P (dC, dI) vwCl [(x, .inr (14, [.ref tx, .ref pr, .ref rd, .ref li, .ref de, .ref sc, .ref ma, .ref ou, .ref dr, .int st, .int fk, .int fp, .int pe, .int ce, .int le])), (pr, .inr (7, [.ref p0, .ref p1, .int cn, .ref p3, .int tp, .int fn, .int mn, .ref p7, .ref p8, .ref p9, .ref p10, .ref p11, .ref p12, .ref p13, .ref p14, .ref p15, .ref p16])), (rd, .inr (8, [.ref rw, .ref rt, .ref rp, .ref rs, .int rk, .int rl, .int ra, .int ro, .int rh])), (tx, .inr (11, [.ref r1, .int tn, .int l1])), (ou, .inr (11, [.ref r2, .int on, .int l2]))] s.heap := by exact hP
    have hD9 : va_D A [(x, .inr (14, [.ref tx, .ref pr, .ref rd, .ref li, .ref de, .ref sc, .ref ma, .ref ou, .ref dr, .int st, .int fk, .int fp, .int pe, .int ce, .int le])), (pr, .inr (7, [.ref p0, .ref p1, .int cn, .ref p3, .int tp, .int fn, .int mn, .ref p7, .ref p8, .ref p9, .ref p10, .ref p11, .ref p12, .ref p13, .ref p14, .ref p15, .ref p16])), (rd, .inr (8, [.ref rw, .ref rt, .ref rp, .ref rs, .int rk, .int rl, .int ra, .int ro, .int rh])), (tx, .inr (11, [.ref r1, .int tn, .int l1])), (ou, .inr (11, [.ref r2, .int on, .int l2]))] := by exact hD
    have hK9 := hK.sub (tys' := []) [] rfl
    refine vx_ret ?_
    refine W.widen (k := 1) (n := 6) (Nat.le_of_ble_eq_true rfl) (Nat.le_of_ble_eq_true rfl) ?_
    exact W.iret (v := ce) hx hb hr (fun t ht hW => ⟨⟨ce, (), rfl, ⟨by rw [hsw]; decide, by simp [a_about, hsw]⟩, by rw [ht]; exact hP9, va_K.moved hW.alike hK9, hD9⟩, hS.F ht⟩) hS.2.2 dX11_about_121
  · refine lv_tableIn (off := 121) (tgt := 122) hx hb dX11_about_1 (by rw [hsw]; decide) (by rw [hsw]; decide) (by rw [hsw]; decide) (by decide) ?_
    refine lv_aload_n hx hb dX11_about_122 rfl (lv_at hl 0 rfl) ?_
    refine va_get (D := (dC, dI)) (ci := 14) (v := .int le) (C := RX11) (T := TX11) (N := 15) hx hb hu iuX11 hown hK hP 0 rfl rfl 14 (by decide) (hu _ mG_732) (fun _ h9 => h9) rfl dX11_about_123 ?_
    have hP9 : va_P (dC, dI) vwCl [(x, .inr (14, [.ref tx, .ref pr, .ref rd, .ref li, .ref de, .ref sc, .ref ma, .ref ou, .ref dr, .int st, .int fk, .int fp, .int pe, .int ce, .int le])), (pr, .inr (7, [.ref p0, .ref p1, .int cn, .ref p3, .int tp, .int fn, .int mn, .ref p7, .ref p8, .ref p9, .ref p10, .ref p11, .ref p12, .ref p13, .ref p14, .ref p15, .ref p16])), (rd, .inr (8, [.ref rw, .ref rt, .ref rp, .ref rs, .int rk, .int rl, .int ra, .int ro, .int rh])), (tx, .inr (11, [.ref r1, .int tn, .int l1])), (ou, .inr (11, [.ref r2, .int on, .int l2]))] s.heap := by exact hP
    have hD9 : va_D A [(x, .inr (14, [.ref tx, .ref pr, .ref rd, .ref li, .ref de, .ref sc, .ref ma, .ref ou, .ref dr, .int st, .int fk, .int fp, .int pe, .int ce, .int le])), (pr, .inr (7, [.ref p0, .ref p1, .int cn, .ref p3, .int tp, .int fn, .int mn, .ref p7, .ref p8, .ref p9, .ref p10, .ref p11, .ref p12, .ref p13, .ref p14, .ref p15, .ref p16])), (rd, .inr (8, [.ref rw, .ref rt, .ref rp, .ref rs, .int rk, .int rl, .int ra, .int ro, .int rh])), (tx, .inr (11, [.ref r1, .int tn, .int l1])), (ou, .inr (11, [.ref r2, .int on, .int l2]))] := by exact hD
    have hK9 := hK.sub (tys' := []) [] rfl
    refine vx_ret ?_
    refine W.widen (k := 1) (n := 6) (Nat.le_of_ble_eq_true rfl) (Nat.le_of_ble_eq_true rfl) ?_
    exact W.iret (v := le) hx hb hr (fun t ht hW => ⟨⟨le, (), rfl, ⟨by rw [hsw]; decide, by simp [a_about, hsw]⟩, by rw [ht]; exact hP9, va_K.moved hW.alike hK9, hD9⟩, hS.F ht⟩) hS.2.2 dX11_about_126
def a_tell (f7 f8 f10 f13 f15 f14 : Int32) (w : Int32) : Int32 := if w = 0 then f7 else if w = 1 then f8 else if w = 2 then f10 else if w = 3 then f13 else if w = 4 then f15 else f14
set_option maxHeartbeats 4000000 in
set_option maxRecDepth 100000 in
/-- Program.tell(k, w) -/
theorem kX4_tell (l : Launch) (dC : Nat → ClassId) (dI : Nat → Nat → Nat) (sz : Nat) (pr : Nat) (p0 p1 p3 p7 p8 p9 p10 p11 p12 p13 p14 p15 p16 : Nat) (cn tp fn mn : Int32) (f7 f8 f10 f13 f14 f15 : Nat → Int32) (c7 c8 c10 c13 c14 c15 : ClassId) (k w : Int32) (hk : vp_in k 630) : Met l yX4_tell (Cond.code yX4_tell cX4_tell 3 (some .int) :: uG) ({ frames := 0, cells := 0, slots := 0, locals := 0 }) (va_Pc [.ref pr, .int k, .int w] (fun U => U.heap.size = sz ∧ va_P (dC, dI) vwCl [(pr, .inr (7, [.ref p0, .ref p1, .int cn, .ref p3, .int tp, .int fn, .int mn, .ref p7, .ref p8, .ref p9, .ref p10, .ref p11, .ref p12, .ref p13, .ref p14, .ref p15, .ref p16])), (p7, .inl (c7, 630, .inl f7)), (p8, .inl (c8, 630, .inl f8)), (p10, .inl (c10, 630, .inl f10)), (p13, .inl (c13, 630, .inl f13)), (p14, .inl (c14, 630, .inl f14)), (p15, .inl (c15, 630, .inl f15))] U.heap ∧ va_K (dC, dI) vwCl [(c7, .int), (c8, .int), (c10, .int), (c13, .int), (c14, .int), (c15, .int)] U ∧ va_D (fun _ => True) [(pr, .inr (7, [.ref p0, .ref p1, .int cn, .ref p3, .int tp, .int fn, .int mn, .ref p7, .ref p8, .ref p9, .ref p10, .ref p11, .ref p12, .ref p13, .ref p14, .ref p15, .ref p16])), (p7, .inl (c7, 630, .inl f7)), (p8, .inl (c8, 630, .inl f8)), (p10, .inl (c10, 630, .inl f10)), (p13, .inl (c13, 630, .inl f13)), (p14, .inl (c14, 630, .inl f14)), (p15, .inl (c15, 630, .inl f15))])) (va_Qi (S := Unit) (fun r _ => r = a_tell (f7 k.toNatClampNeg) (f8 k.toNatClampNeg) (f10 k.toNatClampNeg) (f13 k.toNatClampNeg) (f15 k.toNatClampNeg) (f14 k.toNatClampNeg) w) (fun _ t => va_P (dC, dI) vwCl [(pr, .inr (7, [.ref p0, .ref p1, .int cn, .ref p3, .int tp, .int fn, .int mn, .ref p7, .ref p8, .ref p9, .ref p10, .ref p11, .ref p12, .ref p13, .ref p14, .ref p15, .ref p16])), (p7, .inl (c7, 630, .inl f7)), (p8, .inl (c8, 630, .inl f8)), (p10, .inl (c10, 630, .inl f10)), (p13, .inl (c13, 630, .inl f13)), (p14, .inl (c14, 630, .inl f14)), (p15, .inl (c15, 630, .inl f15))] t.heap ∧ va_K (dC, dI) vwCl [(c7, .int), (c8, .int), (c10, .int), (c13, .int), (c14, .int), (c15, .int)] t ∧ va_D (va_A [(pr, .inr (7, [.ref p0, .ref p1, .int cn, .ref p3, .int tp, .int fn, .int mn, .ref p7, .ref p8, .ref p9, .ref p10, .ref p11, .ref p12, .ref p13, .ref p14, .ref p15, .ref p16])), (p7, .inl (c7, 630, .inl f7)), (p8, .inl (c8, 630, .inl f8)), (p10, .inl (c10, 630, .inl f10)), (p13, .inl (c13, 630, .inl f13)), (p14, .inl (c14, 630, .inl f14)), (p15, .inl (c15, 630, .inl f15))] sz) [(pr, .inr (7, [.ref p0, .ref p1, .int cn, .ref p3, .int tp, .int fn, .int mn, .ref p7, .ref p8, .ref p9, .ref p10, .ref p11, .ref p12, .ref p13, .ref p14, .ref p15, .ref p16])), (p7, .inl (c7, 630, .inl f7)), (p8, .inl (c8, 630, .inl f8)), (p10, .inl (c10, 630, .inl f10)), (p13, .inl (c13, 630, .inl f13)), (p14, .inl (c14, 630, .inl f14)), (p15, .inl (c15, 630, .inl f15))]) (va_A [(pr, .inr (7, [.ref p0, .ref p1, .int cn, .ref p3, .int tp, .int fn, .int mn, .ref p7, .ref p8, .ref p9, .ref p10, .ref p11, .ref p12, .ref p13, .ref p14, .ref p15, .ref p16])), (p7, .inl (c7, 630, .inl f7)), (p8, .inl (c8, 630, .inl f8)), (p10, .inl (c10, 630, .inl f10)), (p13, .inl (c13, 630, .inl f13)), (p14, .inl (c14, 630, .inl f14)), (p15, .inl (c15, 630, .inl f15))] sz)) 0 0 (va_A [(pr, .inr (7, [.ref p0, .ref p1, .int cn, .ref p3, .int tp, .int fn, .int mn, .ref p7, .ref p8, .ref p9, .ref p10, .ref p11, .ref p12, .ref p13, .ref p14, .ref p15, .ref p16])), (p7, .inl (c7, 630, .inl f7)), (p8, .inl (c8, 630, .inl f8)), (p10, .inl (c10, 630, .inl f10)), (p13, .inl (c13, 630, .inl f13)), (p14, .inl (c14, 630, .inl f14)), (p15, .inl (c15, 630, .inl f15))] sz) := by
  refine Met.ofW (cc := cX4_tell) (maxL := 3) (ret := (some .int)) (by decide) rfl ?_
  intro p e s m args below meth c s₁ B hml hv
  obtain ⟨rfl, hsz, hP, hK, hD0⟩ := hv
  have hx := B.exec
  have hb := B.bytes
  have hr := B.returns
  have hts := atoms_spec (ws := Cond.code yX4_tell cX4_tell 3 (some .int) :: uG) B.pre
  have hu := fun (w : Cond) (h : w ∈ uG) => hts w (List.mem_cons_of_mem _ h)
  have hown : s.vm.findClass RX4 = some m.cls := findClass_of_methodNamed B.named
  have hlocks := B.notSynchronized
  subst hsz
  have hD := hD0.self (sz := s.heap.size)
  generalize hAe : va_A [(pr, .inr (7, [.ref p0, .ref p1, .int cn, .ref p3, .int tp, .int fn, .int mn, .ref p7, .ref p8, .ref p9, .ref p10, .ref p11, .ref p12, .ref p13, .ref p14, .ref p15, .ref p16])), (p7, .inl (c7, 630, .inl f7)), (p8, .inl (c8, 630, .inl f8)), (p10, .inl (c10, 630, .inl f10)), (p13, .inl (c13, 630, .inl f13)), (p14, .inl (c14, 630, .inl f14)), (p15, .inl (c15, 630, .inl f15))] s.heap.size = A at hD ⊢
  have hA : ∀ q : Nat, s.heap.size ≤ q → A q := fun q h => by rw [← hAe]; exact Or.inr h
  have hS : va_S A s.heap s.heap [] := va_S.rf
  have hP : va_P (dC, dI) vwCl [(pr, .inr (7, [.ref p0, .ref p1, .int cn, .ref p3, .int tp, .int fn, .int mn, .ref p7, .ref p8, .ref p9, .ref p10, .ref p11, .ref p12, .ref p13, .ref p14, .ref p15, .ref p16])), (p7, .inl (c7, 630, .inl f7)), (p8, .inl (c8, 630, .inl f8)), (p10, .inl (c10, 630, .inl f10)), (p13, .inl (c13, 630, .inl f13)), (p14, .inl (c14, 630, .inl f14)), (p15, .inl (c15, 630, .inl f15))] s.heap := hP
  have hD : va_D A [(pr, .inr (7, [.ref p0, .ref p1, .int cn, .ref p3, .int tp, .int fn, .int mn, .ref p7, .ref p8, .ref p9, .ref p10, .ref p11, .ref p12, .ref p13, .ref p14, .ref p15, .ref p16])), (p7, .inl (c7, 630, .inl f7)), (p8, .inl (c8, 630, .inl f8)), (p10, .inl (c10, 630, .inl f10)), (p13, .inl (c13, 630, .inl f13)), (p14, .inl (c14, 630, .inl f14)), (p15, .inl (c15, 630, .inl f15))] := hD
  have hl := lv_entry ([.ref pr, .int k, .int w]) (n := 3) (Nat.le_of_ble_eq_true rfl)
  rw [lg_entry_eq]
  generalize (lg_sl ([.ref pr, .int k, .int w]) ++ List.replicate (3 - (lg_sl ([.ref pr, .int k, .int w])).length) Slot.unset).toArray = ls at hl ⊢
  have hl : lv_has ls 3 [(0, .ref pr), (1, .int k), (2, .int w)] := hl
  refine lv_iload_n hx hb dX4_tell_0 rfl (lv_at hl 2 rfl) ?_
  rcases sw_0_4 (w) with hsw | hsw | hsw | hsw | hsw | hsw
  · refine lv_tableOut (tgt := 71) hx hb dX4_tell_1 hsw (by decide) ?_
    refine lv_aload_n hx hb dX4_tell_71 rfl (lv_at hl 0 rfl) ?_
    refine va_get (D := (dC, dI)) (ci := 7) (v := .ref p14) (C := RX4) (T := TX4) (N := 17) hx hb hu iuX4 hown hK hP 0 rfl rfl 14 (by decide) (hu _ mG_331) (fun _ h9 => h9) rfl dX4_tell_72 ?_
    refine lv_iload_n hx hb dX4_tell_75 rfl (lv_at hl 1 rfl) ?_
    refine va_iald hx hb hK hP 5 4 rfl rfl (hk) dX4_tell_76 ?_
    have hP9 : va_P (dC, dI) vwCl [(pr, .inr (7, [.ref p0, .ref p1, .int cn, .ref p3, .int tp, .int fn, .int mn, .ref p7, .ref p8, .ref p9, .ref p10, .ref p11, .ref p12, .ref p13, .ref p14, .ref p15, .ref p16])), (p7, .inl (c7, 630, .inl f7)), (p8, .inl (c8, 630, .inl f8)), (p10, .inl (c10, 630, .inl f10)), (p13, .inl (c13, 630, .inl f13)), (p14, .inl (c14, 630, .inl f14)), (p15, .inl (c15, 630, .inl f15))] s.heap := by exact hP
    have hD9 : va_D A [(pr, .inr (7, [.ref p0, .ref p1, .int cn, .ref p3, .int tp, .int fn, .int mn, .ref p7, .ref p8, .ref p9, .ref p10, .ref p11, .ref p12, .ref p13, .ref p14, .ref p15, .ref p16])), (p7, .inl (c7, 630, .inl f7)), (p8, .inl (c8, 630, .inl f8)), (p10, .inl (c10, 630, .inl f10)), (p13, .inl (c13, 630, .inl f13)), (p14, .inl (c14, 630, .inl f14)), (p15, .inl (c15, 630, .inl f15))] := by exact hD
    have hK9 := hK.sub (tys' := [(c7, .int), (c8, .int), (c10, .int), (c13, .int), (c14, .int), (c15, .int)]) [0, 1, 2, 3, 4, 5] rfl
    exact W.iret (v := (f14 (k).toNatClampNeg)) hx hb hr (fun t ht hW => ⟨⟨(f14 (k).toNatClampNeg), (), rfl, by
      have hw : ∀ j : Int32, (j.toInt = 0 ∨ j.toInt = 1 ∨ j.toInt = 2 ∨ j.toInt = 3 ∨ j.toInt = 4) → ¬ w = j := fun j hj hz => by rw [hz] at hsw; omega
      simp [a_tell, hw 0 (by decide), hw 1 (by decide), hw 2 (by decide), hw 3 (by decide), hw 4 (by decide)], by rw [ht]; exact hP9, va_K.moved hW.alike hK9, hD9⟩, hS.F ht⟩) hS.2.2 dX4_tell_77
  · refine lv_tableIn (off := 35) (tgt := 36) hx hb dX4_tell_1 (by rw [hsw]; decide) (by rw [hsw]; decide) (by rw [hsw]; decide) (by decide) ?_
    refine lv_aload_n hx hb dX4_tell_36 rfl (lv_at hl 0 rfl) ?_
    refine va_get (D := (dC, dI)) (ci := 7) (v := .ref p7) (C := RX4) (T := TX4) (N := 17) hx hb hu iuX4 hown hK hP 0 rfl rfl 7 (by decide) (hu _ mG_308) (fun _ h9 => h9) rfl dX4_tell_37 ?_
    refine lv_iload_n hx hb dX4_tell_40 rfl (lv_at hl 1 rfl) ?_
    refine va_iald hx hb hK hP 1 0 rfl rfl (hk) dX4_tell_41 ?_
    have hP9 : va_P (dC, dI) vwCl [(pr, .inr (7, [.ref p0, .ref p1, .int cn, .ref p3, .int tp, .int fn, .int mn, .ref p7, .ref p8, .ref p9, .ref p10, .ref p11, .ref p12, .ref p13, .ref p14, .ref p15, .ref p16])), (p7, .inl (c7, 630, .inl f7)), (p8, .inl (c8, 630, .inl f8)), (p10, .inl (c10, 630, .inl f10)), (p13, .inl (c13, 630, .inl f13)), (p14, .inl (c14, 630, .inl f14)), (p15, .inl (c15, 630, .inl f15))] s.heap := by exact hP
    have hD9 : va_D A [(pr, .inr (7, [.ref p0, .ref p1, .int cn, .ref p3, .int tp, .int fn, .int mn, .ref p7, .ref p8, .ref p9, .ref p10, .ref p11, .ref p12, .ref p13, .ref p14, .ref p15, .ref p16])), (p7, .inl (c7, 630, .inl f7)), (p8, .inl (c8, 630, .inl f8)), (p10, .inl (c10, 630, .inl f10)), (p13, .inl (c13, 630, .inl f13)), (p14, .inl (c14, 630, .inl f14)), (p15, .inl (c15, 630, .inl f15))] := by exact hD
    have hK9 := hK.sub (tys' := [(c7, .int), (c8, .int), (c10, .int), (c13, .int), (c14, .int), (c15, .int)]) [0, 1, 2, 3, 4, 5] rfl
    exact W.iret (v := (f7 (k).toNatClampNeg)) hx hb hr (fun t ht hW => ⟨⟨(f7 (k).toNatClampNeg), (), rfl, by simp [a_tell, hsw], by rw [ht]; exact hP9, va_K.moved hW.alike hK9, hD9⟩, hS.F ht⟩) hS.2.2 dX4_tell_42
  · refine lv_tableIn (off := 42) (tgt := 43) hx hb dX4_tell_1 (by rw [hsw]; decide) (by rw [hsw]; decide) (by rw [hsw]; decide) (by decide) ?_
    refine lv_aload_n hx hb dX4_tell_43 rfl (lv_at hl 0 rfl) ?_
    refine va_get (D := (dC, dI)) (ci := 7) (v := .ref p8) (C := RX4) (T := TX4) (N := 17) hx hb hu iuX4 hown hK hP 0 rfl rfl 8 (by decide) (hu _ mG_314) (fun _ h9 => h9) rfl dX4_tell_44 ?_
    refine lv_iload_n hx hb dX4_tell_47 rfl (lv_at hl 1 rfl) ?_
    refine va_iald hx hb hK hP 2 1 rfl rfl (hk) dX4_tell_48 ?_
    have hP9 : va_P (dC, dI) vwCl [(pr, .inr (7, [.ref p0, .ref p1, .int cn, .ref p3, .int tp, .int fn, .int mn, .ref p7, .ref p8, .ref p9, .ref p10, .ref p11, .ref p12, .ref p13, .ref p14, .ref p15, .ref p16])), (p7, .inl (c7, 630, .inl f7)), (p8, .inl (c8, 630, .inl f8)), (p10, .inl (c10, 630, .inl f10)), (p13, .inl (c13, 630, .inl f13)), (p14, .inl (c14, 630, .inl f14)), (p15, .inl (c15, 630, .inl f15))] s.heap := by exact hP
    have hD9 : va_D A [(pr, .inr (7, [.ref p0, .ref p1, .int cn, .ref p3, .int tp, .int fn, .int mn, .ref p7, .ref p8, .ref p9, .ref p10, .ref p11, .ref p12, .ref p13, .ref p14, .ref p15, .ref p16])), (p7, .inl (c7, 630, .inl f7)), (p8, .inl (c8, 630, .inl f8)), (p10, .inl (c10, 630, .inl f10)), (p13, .inl (c13, 630, .inl f13)), (p14, .inl (c14, 630, .inl f14)), (p15, .inl (c15, 630, .inl f15))] := by exact hD
    have hK9 := hK.sub (tys' := [(c7, .int), (c8, .int), (c10, .int), (c13, .int), (c14, .int), (c15, .int)]) [0, 1, 2, 3, 4, 5] rfl
    exact W.iret (v := (f8 (k).toNatClampNeg)) hx hb hr (fun t ht hW => ⟨⟨(f8 (k).toNatClampNeg), (), rfl, by simp [a_tell, hsw], by rw [ht]; exact hP9, va_K.moved hW.alike hK9, hD9⟩, hS.F ht⟩) hS.2.2 dX4_tell_49
  · refine lv_tableIn (off := 49) (tgt := 50) hx hb dX4_tell_1 (by rw [hsw]; decide) (by rw [hsw]; decide) (by rw [hsw]; decide) (by decide) ?_
    refine lv_aload_n hx hb dX4_tell_50 rfl (lv_at hl 0 rfl) ?_
    refine va_get (D := (dC, dI)) (ci := 7) (v := .ref p10) (C := RX4) (T := TX4) (N := 17) hx hb hu iuX4 hown hK hP 0 rfl rfl 10 (by decide) (hu _ mG_318) (fun _ h9 => h9) rfl dX4_tell_51 ?_
    refine lv_iload_n hx hb dX4_tell_54 rfl (lv_at hl 1 rfl) ?_
    refine va_iald hx hb hK hP 3 2 rfl rfl (hk) dX4_tell_55 ?_
    have hP9 : va_P (dC, dI) vwCl [(pr, .inr (7, [.ref p0, .ref p1, .int cn, .ref p3, .int tp, .int fn, .int mn, .ref p7, .ref p8, .ref p9, .ref p10, .ref p11, .ref p12, .ref p13, .ref p14, .ref p15, .ref p16])), (p7, .inl (c7, 630, .inl f7)), (p8, .inl (c8, 630, .inl f8)), (p10, .inl (c10, 630, .inl f10)), (p13, .inl (c13, 630, .inl f13)), (p14, .inl (c14, 630, .inl f14)), (p15, .inl (c15, 630, .inl f15))] s.heap := by exact hP
    have hD9 : va_D A [(pr, .inr (7, [.ref p0, .ref p1, .int cn, .ref p3, .int tp, .int fn, .int mn, .ref p7, .ref p8, .ref p9, .ref p10, .ref p11, .ref p12, .ref p13, .ref p14, .ref p15, .ref p16])), (p7, .inl (c7, 630, .inl f7)), (p8, .inl (c8, 630, .inl f8)), (p10, .inl (c10, 630, .inl f10)), (p13, .inl (c13, 630, .inl f13)), (p14, .inl (c14, 630, .inl f14)), (p15, .inl (c15, 630, .inl f15))] := by exact hD
    have hK9 := hK.sub (tys' := [(c7, .int), (c8, .int), (c10, .int), (c13, .int), (c14, .int), (c15, .int)]) [0, 1, 2, 3, 4, 5] rfl
    exact W.iret (v := (f10 (k).toNatClampNeg)) hx hb hr (fun t ht hW => ⟨⟨(f10 (k).toNatClampNeg), (), rfl, by simp [a_tell, hsw], by rw [ht]; exact hP9, va_K.moved hW.alike hK9, hD9⟩, hS.F ht⟩) hS.2.2 dX4_tell_56
  · refine lv_tableIn (off := 56) (tgt := 57) hx hb dX4_tell_1 (by rw [hsw]; decide) (by rw [hsw]; decide) (by rw [hsw]; decide) (by decide) ?_
    refine lv_aload_n hx hb dX4_tell_57 rfl (lv_at hl 0 rfl) ?_
    refine va_get (D := (dC, dI)) (ci := 7) (v := .ref p13) (C := RX4) (T := TX4) (N := 17) hx hb hu iuX4 hown hK hP 0 rfl rfl 13 (by decide) (hu _ mG_329) (fun _ h9 => h9) rfl dX4_tell_58 ?_
    refine lv_iload_n hx hb dX4_tell_61 rfl (lv_at hl 1 rfl) ?_
    refine va_iald hx hb hK hP 4 3 rfl rfl (hk) dX4_tell_62 ?_
    have hP9 : va_P (dC, dI) vwCl [(pr, .inr (7, [.ref p0, .ref p1, .int cn, .ref p3, .int tp, .int fn, .int mn, .ref p7, .ref p8, .ref p9, .ref p10, .ref p11, .ref p12, .ref p13, .ref p14, .ref p15, .ref p16])), (p7, .inl (c7, 630, .inl f7)), (p8, .inl (c8, 630, .inl f8)), (p10, .inl (c10, 630, .inl f10)), (p13, .inl (c13, 630, .inl f13)), (p14, .inl (c14, 630, .inl f14)), (p15, .inl (c15, 630, .inl f15))] s.heap := by exact hP
    have hD9 : va_D A [(pr, .inr (7, [.ref p0, .ref p1, .int cn, .ref p3, .int tp, .int fn, .int mn, .ref p7, .ref p8, .ref p9, .ref p10, .ref p11, .ref p12, .ref p13, .ref p14, .ref p15, .ref p16])), (p7, .inl (c7, 630, .inl f7)), (p8, .inl (c8, 630, .inl f8)), (p10, .inl (c10, 630, .inl f10)), (p13, .inl (c13, 630, .inl f13)), (p14, .inl (c14, 630, .inl f14)), (p15, .inl (c15, 630, .inl f15))] := by exact hD
    have hK9 := hK.sub (tys' := [(c7, .int), (c8, .int), (c10, .int), (c13, .int), (c14, .int), (c15, .int)]) [0, 1, 2, 3, 4, 5] rfl
    exact W.iret (v := (f13 (k).toNatClampNeg)) hx hb hr (fun t ht hW => ⟨⟨(f13 (k).toNatClampNeg), (), rfl, by simp [a_tell, hsw], by rw [ht]; exact hP9, va_K.moved hW.alike hK9, hD9⟩, hS.F ht⟩) hS.2.2 dX4_tell_63
  · refine lv_tableIn (off := 63) (tgt := 64) hx hb dX4_tell_1 (by rw [hsw]; decide) (by rw [hsw]; decide) (by rw [hsw]; decide) (by decide) ?_
    refine lv_aload_n hx hb dX4_tell_64 rfl (lv_at hl 0 rfl) ?_
    refine va_get (D := (dC, dI)) (ci := 7) (v := .ref p15) (C := RX4) (T := TX4) (N := 17) hx hb hu iuX4 hown hK hP 0 rfl rfl 15 (by decide) (hu _ mG_333) (fun _ h9 => h9) rfl dX4_tell_65 ?_
    refine lv_iload_n hx hb dX4_tell_68 rfl (lv_at hl 1 rfl) ?_
    refine va_iald hx hb hK hP 6 5 rfl rfl (hk) dX4_tell_69 ?_
    have hP9 : va_P (dC, dI) vwCl [(pr, .inr (7, [.ref p0, .ref p1, .int cn, .ref p3, .int tp, .int fn, .int mn, .ref p7, .ref p8, .ref p9, .ref p10, .ref p11, .ref p12, .ref p13, .ref p14, .ref p15, .ref p16])), (p7, .inl (c7, 630, .inl f7)), (p8, .inl (c8, 630, .inl f8)), (p10, .inl (c10, 630, .inl f10)), (p13, .inl (c13, 630, .inl f13)), (p14, .inl (c14, 630, .inl f14)), (p15, .inl (c15, 630, .inl f15))] s.heap := by exact hP
    have hD9 : va_D A [(pr, .inr (7, [.ref p0, .ref p1, .int cn, .ref p3, .int tp, .int fn, .int mn, .ref p7, .ref p8, .ref p9, .ref p10, .ref p11, .ref p12, .ref p13, .ref p14, .ref p15, .ref p16])), (p7, .inl (c7, 630, .inl f7)), (p8, .inl (c8, 630, .inl f8)), (p10, .inl (c10, 630, .inl f10)), (p13, .inl (c13, 630, .inl f13)), (p14, .inl (c14, 630, .inl f14)), (p15, .inl (c15, 630, .inl f15))] := by exact hD
    have hK9 := hK.sub (tys' := [(c7, .int), (c8, .int), (c10, .int), (c13, .int), (c14, .int), (c15, .int)]) [0, 1, 2, 3, 4, 5] rfl
    exact W.iret (v := (f15 (k).toNatClampNeg)) hx hb hr (fun t ht hW => ⟨⟨(f15 (k).toNatClampNeg), (), rfl, by simp [a_tell, hsw], by rw [ht]; exact hP9, va_K.moved hW.alike hK9, hD9⟩, hS.F ht⟩) hS.2.2 dX4_tell_70
set_option maxHeartbeats 4000000 in
set_option maxRecDepth 100000 in
/-- Program.needsParameter(k, i) -/
theorem kX4_needsParameter (l : Launch) (dC : Nat → ClassId) (dI : Nat → Nat → Nat) (sz : Nat) (pr : Nat) (p0 p1 p3 p7 p8 p9 p10 p11 p12 p13 p14 p15 p16 : Nat) (cn tp fn mn : Int32) (f : Nat → Int32) (cI : ClassId) (k i : Int32) (hk : vp_in k 630) : Met l yX4_needsParameter (Cond.code yX4_needsParameter cX4_needsParameter 3 (some .boolean) :: uG) ({ frames := 0, cells := 0, slots := 0, locals := 0 }) (va_Pc [.ref pr, .int k, .int i] (fun U => U.heap.size = sz ∧ va_P (dC, dI) vwCl [(pr, .inr (7, [.ref p0, .ref p1, .int cn, .ref p3, .int tp, .int fn, .int mn, .ref p7, .ref p8, .ref p9, .ref p10, .ref p11, .ref p12, .ref p13, .ref p14, .ref p15, .ref p16])), (p16, .inl (cI, 630, .inl f))] U.heap ∧ va_K (dC, dI) vwCl [(cI, .int)] U ∧ va_D (fun _ => True) [(pr, .inr (7, [.ref p0, .ref p1, .int cn, .ref p3, .int tp, .int fn, .int mn, .ref p7, .ref p8, .ref p9, .ref p10, .ref p11, .ref p12, .ref p13, .ref p14, .ref p15, .ref p16])), (p16, .inl (cI, 630, .inl f))])) (va_Qi (S := Unit) (fun r _ => r = (if ((f k.toNatClampNeg).toUInt32 >>> (i.toUInt32 &&& Int32.toUInt32 31)).toInt32 &&& 1 = 0 then 0 else 1)) (fun _ t => va_P (dC, dI) vwCl [(pr, .inr (7, [.ref p0, .ref p1, .int cn, .ref p3, .int tp, .int fn, .int mn, .ref p7, .ref p8, .ref p9, .ref p10, .ref p11, .ref p12, .ref p13, .ref p14, .ref p15, .ref p16])), (p16, .inl (cI, 630, .inl f))] t.heap ∧ va_K (dC, dI) vwCl [(cI, .int)] t ∧ va_D (va_A [(pr, .inr (7, [.ref p0, .ref p1, .int cn, .ref p3, .int tp, .int fn, .int mn, .ref p7, .ref p8, .ref p9, .ref p10, .ref p11, .ref p12, .ref p13, .ref p14, .ref p15, .ref p16])), (p16, .inl (cI, 630, .inl f))] sz) [(pr, .inr (7, [.ref p0, .ref p1, .int cn, .ref p3, .int tp, .int fn, .int mn, .ref p7, .ref p8, .ref p9, .ref p10, .ref p11, .ref p12, .ref p13, .ref p14, .ref p15, .ref p16])), (p16, .inl (cI, 630, .inl f))]) (va_A [(pr, .inr (7, [.ref p0, .ref p1, .int cn, .ref p3, .int tp, .int fn, .int mn, .ref p7, .ref p8, .ref p9, .ref p10, .ref p11, .ref p12, .ref p13, .ref p14, .ref p15, .ref p16])), (p16, .inl (cI, 630, .inl f))] sz)) 0 0 (va_A [(pr, .inr (7, [.ref p0, .ref p1, .int cn, .ref p3, .int tp, .int fn, .int mn, .ref p7, .ref p8, .ref p9, .ref p10, .ref p11, .ref p12, .ref p13, .ref p14, .ref p15, .ref p16])), (p16, .inl (cI, 630, .inl f))] sz) := by
  refine Met.ofW (cc := cX4_needsParameter) (maxL := 3) (ret := (some .boolean)) (by decide) rfl ?_
  intro p e s m args below meth c s₁ B hml hv
  obtain ⟨rfl, hsz, hP, hK, hD0⟩ := hv
  have hx := B.exec
  have hb := B.bytes
  have hr := B.returns
  have hts := atoms_spec (ws := Cond.code yX4_needsParameter cX4_needsParameter 3 (some .boolean) :: uG) B.pre
  have hu := fun (w : Cond) (h : w ∈ uG) => hts w (List.mem_cons_of_mem _ h)
  have hown : s.vm.findClass RX4 = some m.cls := findClass_of_methodNamed B.named
  have hlocks := B.notSynchronized
  subst hsz
  have hD := hD0.self (sz := s.heap.size)
  generalize hAe : va_A [(pr, .inr (7, [.ref p0, .ref p1, .int cn, .ref p3, .int tp, .int fn, .int mn, .ref p7, .ref p8, .ref p9, .ref p10, .ref p11, .ref p12, .ref p13, .ref p14, .ref p15, .ref p16])), (p16, .inl (cI, 630, .inl f))] s.heap.size = A at hD ⊢
  have hA : ∀ q : Nat, s.heap.size ≤ q → A q := fun q h => by rw [← hAe]; exact Or.inr h
  have hS : va_S A s.heap s.heap [] := va_S.rf
  have hP : va_P (dC, dI) vwCl [(pr, .inr (7, [.ref p0, .ref p1, .int cn, .ref p3, .int tp, .int fn, .int mn, .ref p7, .ref p8, .ref p9, .ref p10, .ref p11, .ref p12, .ref p13, .ref p14, .ref p15, .ref p16])), (p16, .inl (cI, 630, .inl f))] s.heap := hP
  have hD : va_D A [(pr, .inr (7, [.ref p0, .ref p1, .int cn, .ref p3, .int tp, .int fn, .int mn, .ref p7, .ref p8, .ref p9, .ref p10, .ref p11, .ref p12, .ref p13, .ref p14, .ref p15, .ref p16])), (p16, .inl (cI, 630, .inl f))] := hD
  have hl := lv_entry ([.ref pr, .int k, .int i]) (n := 3) (Nat.le_of_ble_eq_true rfl)
  rw [lg_entry_eq]
  generalize (lg_sl ([.ref pr, .int k, .int i]) ++ List.replicate (3 - (lg_sl ([.ref pr, .int k, .int i])).length) Slot.unset).toArray = ls at hl ⊢
  have hl : lv_has ls 3 [(0, .ref pr), (1, .int k), (2, .int i)] := hl
  refine lv_aload_n hx hb dX4_needsParameter_0 rfl (lv_at hl 0 rfl) ?_
  refine va_get (D := (dC, dI)) (ci := 7) (v := .ref p16) (C := RX4) (T := TX4) (N := 17) hx hb hu iuX4 hown hK hP 0 rfl rfl 16 (by decide) (hu _ mG_335) (fun _ h9 => h9) rfl dX4_needsParameter_1 ?_
  refine lv_iload_n hx hb dX4_needsParameter_4 rfl (lv_at hl 1 rfl) ?_
  refine va_iald hx hb hK hP 1 0 rfl rfl (hk) dX4_needsParameter_5 ?_
  refine lv_iload_n hx hb dX4_needsParameter_6 rfl (lv_at hl 2 rfl) ?_
  refine lv_iushr hx hb dX4_needsParameter_7 rfl ?_
  refine lv_topi (fun x7 ex7 => ?_)
  refine lv_iconst (v := 1) hx hb dX4_needsParameter_8 (by decide) ?_
  refine lv_iand hx hb dX4_needsParameter_9 ?_
  refine lv_topi (fun x9 ex9 => ?_)
  refine lv_if_eq (tgt := 17) hx hb dX4_needsParameter_10 (by decide) (fun c10 => ?_) (fun c10 => ?_)
  · refine lv_iconst (v := 0) hx hb dX4_needsParameter_17 (by decide) ?_
    have hP9 : va_P (dC, dI) vwCl [(pr, .inr (7, [.ref p0, .ref p1, .int cn, .ref p3, .int tp, .int fn, .int mn, .ref p7, .ref p8, .ref p9, .ref p10, .ref p11, .ref p12, .ref p13, .ref p14, .ref p15, .ref p16])), (p16, .inl (cI, 630, .inl f))] s.heap := by exact hP
    have hD9 : va_D A [(pr, .inr (7, [.ref p0, .ref p1, .int cn, .ref p3, .int tp, .int fn, .int mn, .ref p7, .ref p8, .ref p9, .ref p10, .ref p11, .ref p12, .ref p13, .ref p14, .ref p15, .ref p16])), (p16, .inl (cI, 630, .inl f))] := by exact hD
    have hK9 := hK.sub (tys' := [(cI, .int)]) [0] rfl
    exact W.zret (v := 0) hx hb hr (by decide) (fun t ht hW => ⟨⟨0, (), rfl, by rw [if_pos (by rw [← ex7, ← ex9]; exact c10)], by rw [ht]; exact hP9, va_K.moved hW.alike hK9, hD9⟩, hS.F ht⟩) hS.2.2 dX4_needsParameter_18
  · refine lv_iconst (v := 1) hx hb dX4_needsParameter_13 (by decide) ?_
    refine lv_goto (tgt := 18) hx hb dX4_needsParameter_14 (by decide) ?_
    have hP9 : va_P (dC, dI) vwCl [(pr, .inr (7, [.ref p0, .ref p1, .int cn, .ref p3, .int tp, .int fn, .int mn, .ref p7, .ref p8, .ref p9, .ref p10, .ref p11, .ref p12, .ref p13, .ref p14, .ref p15, .ref p16])), (p16, .inl (cI, 630, .inl f))] s.heap := by exact hP
    have hD9 : va_D A [(pr, .inr (7, [.ref p0, .ref p1, .int cn, .ref p3, .int tp, .int fn, .int mn, .ref p7, .ref p8, .ref p9, .ref p10, .ref p11, .ref p12, .ref p13, .ref p14, .ref p15, .ref p16])), (p16, .inl (cI, 630, .inl f))] := by exact hD
    have hK9 := hK.sub (tys' := [(cI, .int)]) [0] rfl
    exact W.zret (v := 1) hx hb hr (by decide) (fun t ht hW => ⟨⟨1, (), rfl, by rw [if_neg (by rw [← ex7, ← ex9]; exact c10)], by rw [ht]; exact hP9, va_K.moved hW.alike hK9, hD9⟩, hS.F ht⟩) hS.2.2 dX4_needsParameter_18
def a_look (f : Nat → Int64) (k b : Int32) : Int32 := ((f (k * 4 + ((b.toUInt32 >>> ((6 : Int32).toUInt32 &&& Int32.toUInt32 31)).toInt32 &&& 3)).toNatClampNeg).toUInt64 >>> ((b &&& 63).toInt64.toUInt64 &&& Int64.toUInt64 63)).toInt64.toInt32 &&& 1
set_option maxHeartbeats 4000000 in
set_option maxRecDepth 100000 in
/-- Demand.look(k, b) -/
theorem kX1_look (l : Launch) (dC : Nat → ClassId) (dI : Nat → Nat → Nat) (sz : Nat) (de : Nat) (d0 d1 d2 d3 d4 : Nat) (d5 d6 d7 : Int32) (f : Nat → Int64) (cL : ClassId) (k b : Int32) (hk : vp_in (k * 4 + ((b.toUInt32 >>> ((6 : Int32).toUInt32 &&& Int32.toUInt32 31)).toInt32 &&& 3)) 2520) : Met l yX1_look (Cond.code yX1_look cX1_look 3 (some .int) :: uG) ({ frames := 0, cells := 0, slots := 0, locals := 0 }) (va_Pc [.ref de, .int k, .int b] (fun U => U.heap.size = sz ∧ va_P (dC, dI) vwCl [(de, .inr (4, [.ref d0, .ref d1, .ref d2, .ref d3, .ref d4, .int d5, .int d6, .int d7])), (d2, .inl (cL, 2520, .inr (.inl f)))] U.heap ∧ va_K (dC, dI) vwCl [(cL, .long)] U ∧ va_D (fun _ => True) [(de, .inr (4, [.ref d0, .ref d1, .ref d2, .ref d3, .ref d4, .int d5, .int d6, .int d7])), (d2, .inl (cL, 2520, .inr (.inl f)))])) (va_Qi (S := Unit) (fun r _ => r = a_look f k b) (fun _ t => va_P (dC, dI) vwCl [(de, .inr (4, [.ref d0, .ref d1, .ref d2, .ref d3, .ref d4, .int d5, .int d6, .int d7])), (d2, .inl (cL, 2520, .inr (.inl f)))] t.heap ∧ va_K (dC, dI) vwCl [(cL, .long)] t ∧ va_D (va_A [(de, .inr (4, [.ref d0, .ref d1, .ref d2, .ref d3, .ref d4, .int d5, .int d6, .int d7])), (d2, .inl (cL, 2520, .inr (.inl f)))] sz) [(de, .inr (4, [.ref d0, .ref d1, .ref d2, .ref d3, .ref d4, .int d5, .int d6, .int d7])), (d2, .inl (cL, 2520, .inr (.inl f)))]) (va_A [(de, .inr (4, [.ref d0, .ref d1, .ref d2, .ref d3, .ref d4, .int d5, .int d6, .int d7])), (d2, .inl (cL, 2520, .inr (.inl f)))] sz)) 0 0 (va_A [(de, .inr (4, [.ref d0, .ref d1, .ref d2, .ref d3, .ref d4, .int d5, .int d6, .int d7])), (d2, .inl (cL, 2520, .inr (.inl f)))] sz) := by
  refine Met.ofW (cc := cX1_look) (maxL := 3) (ret := (some .int)) (by decide) rfl ?_
  intro p e s m args below meth c s₁ B hml hv
  obtain ⟨rfl, hsz, hP, hK, hD0⟩ := hv
  have hx := B.exec
  have hb := B.bytes
  have hr := B.returns
  have hts := atoms_spec (ws := Cond.code yX1_look cX1_look 3 (some .int) :: uG) B.pre
  have hu := fun (w : Cond) (h : w ∈ uG) => hts w (List.mem_cons_of_mem _ h)
  have hown : s.vm.findClass RX1 = some m.cls := findClass_of_methodNamed B.named
  have hlocks := B.notSynchronized
  subst hsz
  have hD := hD0.self (sz := s.heap.size)
  generalize hAe : va_A [(de, .inr (4, [.ref d0, .ref d1, .ref d2, .ref d3, .ref d4, .int d5, .int d6, .int d7])), (d2, .inl (cL, 2520, .inr (.inl f)))] s.heap.size = A at hD ⊢
  have hA : ∀ q : Nat, s.heap.size ≤ q → A q := fun q h => by rw [← hAe]; exact Or.inr h
  have hS : va_S A s.heap s.heap [] := va_S.rf
  have hP : va_P (dC, dI) vwCl [(de, .inr (4, [.ref d0, .ref d1, .ref d2, .ref d3, .ref d4, .int d5, .int d6, .int d7])), (d2, .inl (cL, 2520, .inr (.inl f)))] s.heap := hP
  have hD : va_D A [(de, .inr (4, [.ref d0, .ref d1, .ref d2, .ref d3, .ref d4, .int d5, .int d6, .int d7])), (d2, .inl (cL, 2520, .inr (.inl f)))] := hD
  have hl := lv_entry ([.ref de, .int k, .int b]) (n := 3) (Nat.le_of_ble_eq_true rfl)
  rw [lg_entry_eq]
  generalize (lg_sl ([.ref de, .int k, .int b]) ++ List.replicate (3 - (lg_sl ([.ref de, .int k, .int b])).length) Slot.unset).toArray = ls at hl ⊢
  have hl : lv_has ls 3 [(0, .ref de), (1, .int k), (2, .int b)] := hl
  refine lv_aload_n hx hb dX1_look_0 rfl (lv_at hl 0 rfl) ?_
  refine va_get (D := (dC, dI)) (ci := 4) (v := .ref d2) (C := RX1) (T := TX1) (N := 8) hx hb hu iuX1 hown hK hP 0 rfl rfl 2 (by decide) (hu _ mG_601) (fun _ h9 => h9) rfl dX1_look_1 ?_
  refine lv_iload_n hx hb dX1_look_4 rfl (lv_at hl 1 rfl) ?_
  refine lv_iconst (v := 4) hx hb dX1_look_5 (by decide) ?_
  refine lv_imul hx hb dX1_look_6 ?_
  refine lv_topi (fun x6 ex6 => ?_)
  refine lv_iload_n hx hb dX1_look_7 rfl (lv_at hl 2 rfl) ?_
  refine lv_bipush (v := 6) hx hb dX1_look_8 (by decide) ?_
  refine lv_iushr hx hb dX1_look_10 rfl ?_
  refine lv_topi (fun x10 ex10 => ?_)
  refine lv_iconst (v := 3) hx hb dX1_look_11 (by decide) ?_
  refine lv_iand hx hb dX1_look_12 ?_
  refine lv_topi (fun x12 ex12 => ?_)
  refine lv_iadd hx hb dX1_look_13 ?_
  refine lv_topi (fun x13 ex13 => ?_)
  refine va_lald hx hb hK hP 1 0 rfl rfl (by rw [ex13, ex6, ex12, ex10]; exact hk) dX1_look_14 ?_
  refine lv_iload_n hx hb dX1_look_15 rfl (lv_at hl 2 rfl) ?_
  refine lv_bipush (v := 63) hx hb dX1_look_16 (by decide) ?_
  refine lv_iand hx hb dX1_look_18 ?_
  refine lv_topi (fun x18 ex18 => ?_)
  refine lv_lushr hx hb dX1_look_19 rfl ?_
  refine lv_topl (fun x19 ex19 => ?_)
  refine lv_l2i hx hb dX1_look_20 rfl ?_
  refine lv_topi (fun x20 ex20 => ?_)
  refine lv_iconst (v := 1) hx hb dX1_look_21 (by decide) ?_
  refine lv_iand hx hb dX1_look_22 ?_
  refine lv_topi (fun x22 ex22 => ?_)
  have hP9 : va_P (dC, dI) vwCl [(de, .inr (4, [.ref d0, .ref d1, .ref d2, .ref d3, .ref d4, .int d5, .int d6, .int d7])), (d2, .inl (cL, 2520, .inr (.inl f)))] s.heap := by exact hP
  have hD9 : va_D A [(de, .inr (4, [.ref d0, .ref d1, .ref d2, .ref d3, .ref d4, .int d5, .int d6, .int d7])), (d2, .inl (cL, 2520, .inr (.inl f)))] := by exact hD
  have hK9 := hK.sub (tys' := [(cL, .long)]) [0] rfl
  exact W.iret (v := x22) hx hb hr (fun t ht hW => ⟨⟨x22, (), rfl, by rw [ex22, ex20, ex19, ex18, ex13, ex6, ex12, ex10]; rfl, by rw [ht]; exact hP9, va_K.moved hW.alike hK9, hD9⟩, hS.F ht⟩) hS.2.2 dX1_look_23
set_option maxHeartbeats 4000000 in
set_option maxRecDepth 100000 in
/-- LazyForge.function(k, w) -/
theorem kX11_function (l : Launch) (dC : Nat → ClassId) (dI : Nat → Nat → Nat) (sz : Nat) (hlt : l.stackTraces = false) (x tx pr rd li de sc ma ou dr : Nat) (st fk fp pe ce le : Int32) (p0 p1 p3 p7 p8 p9 p10 p11 p12 p13 p14 p15 p16 : Nat) (cn tp fn mn : Int32) (f7 f8 f10 f13 f14 f15 : Nat → Int32) (c7 c8 c10 c13 c14 c15 : ClassId) (k w : Int32) (hf : fn.toInt ≤ 630) : vx_Met l yX11_function (Cond.code yX11_function cX11_function 3 (some .int) :: uG) ({ frames := 6, cells := 1, slots := 6, locals := 90 }) (va_Pc [.ref x, .int k, .int w] (fun U => U.heap.size = sz ∧ va_P (dC, dI) vwCl [(x, .inr (14, [.ref tx, .ref pr, .ref rd, .ref li, .ref de, .ref sc, .ref ma, .ref ou, .ref dr, .int st, .int fk, .int fp, .int pe, .int ce, .int le])), (pr, .inr (7, [.ref p0, .ref p1, .int cn, .ref p3, .int tp, .int fn, .int mn, .ref p7, .ref p8, .ref p9, .ref p10, .ref p11, .ref p12, .ref p13, .ref p14, .ref p15, .ref p16])), (p7, .inl (c7, 630, .inl f7)), (p8, .inl (c8, 630, .inl f8)), (p10, .inl (c10, 630, .inl f10)), (p13, .inl (c13, 630, .inl f13)), (p14, .inl (c14, 630, .inl f14)), (p15, .inl (c15, 630, .inl f15))] U.heap ∧ va_K (dC, dI) vwCl [(c7, .int), (c8, .int), (c10, .int), (c13, .int), (c14, .int), (c15, .int)] U ∧ va_D (fun _ => True) [(x, .inr (14, [.ref tx, .ref pr, .ref rd, .ref li, .ref de, .ref sc, .ref ma, .ref ou, .ref dr, .int st, .int fk, .int fp, .int pe, .int ce, .int le])), (pr, .inr (7, [.ref p0, .ref p1, .int cn, .ref p3, .int tp, .int fn, .int mn, .ref p7, .ref p8, .ref p9, .ref p10, .ref p11, .ref p12, .ref p13, .ref p14, .ref p15, .ref p16])), (p7, .inl (c7, 630, .inl f7)), (p8, .inl (c8, 630, .inl f8)), (p10, .inl (c10, 630, .inl f10)), (p13, .inl (c13, 630, .inl f13)), (p14, .inl (c14, 630, .inl f14)), (p15, .inl (c15, 630, .inl f15))] ∧ uXw U ∧ uZ (va_A [(x, .inr (14, [.ref tx, .ref pr, .ref rd, .ref li, .ref de, .ref sc, .ref ma, .ref ou, .ref dr, .int st, .int fk, .int fp, .int pe, .int ce, .int le])), (pr, .inr (7, [.ref p0, .ref p1, .int cn, .ref p3, .int tp, .int fn, .int mn, .ref p7, .ref p8, .ref p9, .ref p10, .ref p11, .ref p12, .ref p13, .ref p14, .ref p15, .ref p16])), (p7, .inl (c7, 630, .inl f7)), (p8, .inl (c8, 630, .inl f8)), (p10, .inl (c10, 630, .inl f10)), (p13, .inl (c13, 630, .inl f13)), (p14, .inl (c14, 630, .inl f14)), (p15, .inl (c15, 630, .inl f15))] sz) U U.heap)) (va_Qi (S := Unit) (fun r _ => (¬ st = 0 ∧ (¬ k < 0 ∧ k < fn) ∧ ¬ w < 0 ∧ w ≤ 5) ∧ r = a_tell (f7 k.toNatClampNeg) (f8 k.toNatClampNeg) (f10 k.toNatClampNeg) (f13 k.toNatClampNeg) (f15 k.toNatClampNeg) (f14 k.toNatClampNeg) w) (fun _ t => va_P (dC, dI) vwCl [(x, .inr (14, [.ref tx, .ref pr, .ref rd, .ref li, .ref de, .ref sc, .ref ma, .ref ou, .ref dr, .int st, .int fk, .int fp, .int pe, .int ce, .int le])), (pr, .inr (7, [.ref p0, .ref p1, .int cn, .ref p3, .int tp, .int fn, .int mn, .ref p7, .ref p8, .ref p9, .ref p10, .ref p11, .ref p12, .ref p13, .ref p14, .ref p15, .ref p16])), (p7, .inl (c7, 630, .inl f7)), (p8, .inl (c8, 630, .inl f8)), (p10, .inl (c10, 630, .inl f10)), (p13, .inl (c13, 630, .inl f13)), (p14, .inl (c14, 630, .inl f14)), (p15, .inl (c15, 630, .inl f15))] t.heap ∧ va_K (dC, dI) vwCl [(c7, .int), (c8, .int), (c10, .int), (c13, .int), (c14, .int), (c15, .int)] t ∧ va_D (va_A [(x, .inr (14, [.ref tx, .ref pr, .ref rd, .ref li, .ref de, .ref sc, .ref ma, .ref ou, .ref dr, .int st, .int fk, .int fp, .int pe, .int ce, .int le])), (pr, .inr (7, [.ref p0, .ref p1, .int cn, .ref p3, .int tp, .int fn, .int mn, .ref p7, .ref p8, .ref p9, .ref p10, .ref p11, .ref p12, .ref p13, .ref p14, .ref p15, .ref p16])), (p7, .inl (c7, 630, .inl f7)), (p8, .inl (c8, 630, .inl f8)), (p10, .inl (c10, 630, .inl f10)), (p13, .inl (c13, 630, .inl f13)), (p14, .inl (c14, 630, .inl f14)), (p15, .inl (c15, 630, .inl f15))] sz) [(x, .inr (14, [.ref tx, .ref pr, .ref rd, .ref li, .ref de, .ref sc, .ref ma, .ref ou, .ref dr, .int st, .int fk, .int fp, .int pe, .int ce, .int le])), (pr, .inr (7, [.ref p0, .ref p1, .int cn, .ref p3, .int tp, .int fn, .int mn, .ref p7, .ref p8, .ref p9, .ref p10, .ref p11, .ref p12, .ref p13, .ref p14, .ref p15, .ref p16])), (p7, .inl (c7, 630, .inl f7)), (p8, .inl (c8, 630, .inl f8)), (p10, .inl (c10, 630, .inl f10)), (p13, .inl (c13, 630, .inl f13)), (p14, .inl (c14, 630, .inl f14)), (p15, .inl (c15, 630, .inl f15))]) (va_A [(x, .inr (14, [.ref tx, .ref pr, .ref rd, .ref li, .ref de, .ref sc, .ref ma, .ref ou, .ref dr, .int st, .int fk, .int fp, .int pe, .int ce, .int le])), (pr, .inr (7, [.ref p0, .ref p1, .int cn, .ref p3, .int tp, .int fn, .int mn, .ref p7, .ref p8, .ref p9, .ref p10, .ref p11, .ref p12, .ref p13, .ref p14, .ref p15, .ref p16])), (p7, .inl (c7, 630, .inl f7)), (p8, .inl (c8, 630, .inl f8)), (p10, .inl (c10, 630, .inl f10)), (p13, .inl (c13, 630, .inl f13)), (p14, .inl (c14, 630, .inl f14)), (p15, .inl (c15, 630, .inl f15))] sz)) (uXB dC dI [(x, .inr (14, [.ref tx, .ref pr, .ref rd, .ref li, .ref de, .ref sc, .ref ma, .ref ou, .ref dr, .int st, .int fk, .int fp, .int pe, .int ce, .int le])), (pr, .inr (7, [.ref p0, .ref p1, .int cn, .ref p3, .int tp, .int fn, .int mn, .ref p7, .ref p8, .ref p9, .ref p10, .ref p11, .ref p12, .ref p13, .ref p14, .ref p15, .ref p16])), (p7, .inl (c7, 630, .inl f7)), (p8, .inl (c8, 630, .inl f8)), (p10, .inl (c10, 630, .inl f10)), (p13, .inl (c13, 630, .inl f13)), (p14, .inl (c14, 630, .inl f14)), (p15, .inl (c15, 630, .inl f15))] [(c7, .int), (c8, .int), (c10, .int), (c13, .int), (c14, .int), (c15, .int)] (va_A [(x, .inr (14, [.ref tx, .ref pr, .ref rd, .ref li, .ref de, .ref sc, .ref ma, .ref ou, .ref dr, .int st, .int fk, .int fp, .int pe, .int ce, .int le])), (pr, .inr (7, [.ref p0, .ref p1, .int cn, .ref p3, .int tp, .int fn, .int mn, .ref p7, .ref p8, .ref p9, .ref p10, .ref p11, .ref p12, .ref p13, .ref p14, .ref p15, .ref p16])), (p7, .inl (c7, 630, .inl f7)), (p8, .inl (c8, 630, .inl f8)), (p10, .inl (c10, 630, .inl f10)), (p13, .inl (c13, 630, .inl f13)), (p14, .inl (c14, 630, .inl f14)), (p15, .inl (c15, 630, .inl f15))] sz) (fun E => (E = "java/lang/IllegalStateException" ∧ st = 0) ∨ (E = "java/lang/IndexOutOfBoundsException" ∧ ¬ st = 0 ∧ (k < 0 ∨ ¬ k < fn)) ∨ (E = "java/lang/IllegalArgumentException" ∧ ¬ st = 0 ∧ (¬ k < 0 ∧ k < fn) ∧ (w < 0 ∨ ¬ w ≤ 5)))) 1 6 (va_A [(x, .inr (14, [.ref tx, .ref pr, .ref rd, .ref li, .ref de, .ref sc, .ref ma, .ref ou, .ref dr, .int st, .int fk, .int fp, .int pe, .int ce, .int le])), (pr, .inr (7, [.ref p0, .ref p1, .int cn, .ref p3, .int tp, .int fn, .int mn, .ref p7, .ref p8, .ref p9, .ref p10, .ref p11, .ref p12, .ref p13, .ref p14, .ref p15, .ref p16])), (p7, .inl (c7, 630, .inl f7)), (p8, .inl (c8, 630, .inl f8)), (p10, .inl (c10, 630, .inl f10)), (p13, .inl (c13, 630, .inl f13)), (p14, .inl (c14, 630, .inl f14)), (p15, .inl (c15, 630, .inl f15))] sz) := by
  refine vx_ofW (cc := cX11_function) (maxL := 3) (ret := (some .int)) (by decide) rfl ?_
  intro p e s m args below meth c s₁ B hml hno hv
  obtain ⟨rfl, hsz, hP, hK, hD0, hXw, hZ⟩ := hv
  have hx := B.exec
  have hb := B.bytes
  have hr := B.returns
  have hts := atoms_spec (ws := Cond.code yX11_function cX11_function 3 (some .int) :: uG) B.pre
  have hu := fun (w : Cond) (h : w ∈ uG) => hts w (List.mem_cons_of_mem _ h)
  have hown : s.vm.findClass RX11 = some m.cls := findClass_of_methodNamed B.named
  have hlocks := B.notSynchronized
  subst hsz
  have hD := hD0.self (sz := s.heap.size)
  generalize hAe : va_A [(x, .inr (14, [.ref tx, .ref pr, .ref rd, .ref li, .ref de, .ref sc, .ref ma, .ref ou, .ref dr, .int st, .int fk, .int fp, .int pe, .int ce, .int le])), (pr, .inr (7, [.ref p0, .ref p1, .int cn, .ref p3, .int tp, .int fn, .int mn, .ref p7, .ref p8, .ref p9, .ref p10, .ref p11, .ref p12, .ref p13, .ref p14, .ref p15, .ref p16])), (p7, .inl (c7, 630, .inl f7)), (p8, .inl (c8, 630, .inl f8)), (p10, .inl (c10, 630, .inl f10)), (p13, .inl (c13, 630, .inl f13)), (p14, .inl (c14, 630, .inl f14)), (p15, .inl (c15, 630, .inl f15))] s.heap.size = A at hD hZ ⊢
  have hA : ∀ q : Nat, s.heap.size ≤ q → A q := fun q h => by rw [← hAe]; exact Or.inr h
  have hS : va_S A s.heap s.heap [] := va_S.rf
  have hP : va_P (dC, dI) vwCl [(x, .inr (14, [.ref tx, .ref pr, .ref rd, .ref li, .ref de, .ref sc, .ref ma, .ref ou, .ref dr, .int st, .int fk, .int fp, .int pe, .int ce, .int le])), (pr, .inr (7, [.ref p0, .ref p1, .int cn, .ref p3, .int tp, .int fn, .int mn, .ref p7, .ref p8, .ref p9, .ref p10, .ref p11, .ref p12, .ref p13, .ref p14, .ref p15, .ref p16])), (p7, .inl (c7, 630, .inl f7)), (p8, .inl (c8, 630, .inl f8)), (p10, .inl (c10, 630, .inl f10)), (p13, .inl (c13, 630, .inl f13)), (p14, .inl (c14, 630, .inl f14)), (p15, .inl (c15, 630, .inl f15))] s.heap := hP
  have hD : va_D A [(x, .inr (14, [.ref tx, .ref pr, .ref rd, .ref li, .ref de, .ref sc, .ref ma, .ref ou, .ref dr, .int st, .int fk, .int fp, .int pe, .int ce, .int le])), (pr, .inr (7, [.ref p0, .ref p1, .int cn, .ref p3, .int tp, .int fn, .int mn, .ref p7, .ref p8, .ref p9, .ref p10, .ref p11, .ref p12, .ref p13, .ref p14, .ref p15, .ref p16])), (p7, .inl (c7, 630, .inl f7)), (p8, .inl (c8, 630, .inl f8)), (p10, .inl (c10, 630, .inl f10)), (p13, .inl (c13, 630, .inl f13)), (p14, .inl (c14, 630, .inl f14)), (p15, .inl (c15, 630, .inl f15))] := hD
  have hl := lv_entry ([.ref x, .int k, .int w]) (n := 3) (Nat.le_of_ble_eq_true rfl)
  rw [lg_entry_eq]
  generalize (lg_sl ([.ref x, .int k, .int w]) ++ List.replicate (3 - (lg_sl ([.ref x, .int k, .int w])).length) Slot.unset).toArray = ls at hl ⊢
  have hl : lv_has ls 3 [(0, .ref x), (1, .int k), (2, .int w)] := hl
  refine lv_aload_n hx hb dX11_function_0 rfl (lv_at hl 0 rfl) ?_
  refine va_get (D := (dC, dI)) (ci := 14) (v := .int st) (C := RX11) (T := TX11) (N := 15) hx hb hu iuX11 hown hK hP 0 rfl rfl 9 (by decide) (hu _ mG_727) (fun _ h9 => h9) rfl dX11_function_1 ?_
  refine lv_if_ne (tgt := 15) hx hb dX11_function_4 (by decide) (fun c4 => ?_) (fun c4 => ?_)
  · refine lv_iload_n hx hb dX11_function_15 rfl (lv_at hl 1 rfl) ?_
    refine lv_if_lt (tgt := 30) hx hb dX11_function_16 (by decide) (fun c16 => ?_) (fun c16 => ?_)
    · exact ut_throw hx hb hlt hown (by decide +kernel) hu hXw hZ mG_1743 mG_244 ul_IOB uo_IOB hP hK hD hS (by rw [hml]; exact hl.1) hno dX11_function_30 dX11_function_33 dX11_function_34 dX11_function_37 (Nat.le_of_ble_eq_true rfl) (Nat.le_of_ble_eq_true rfl) (Nat.le_of_ble_eq_true rfl) (Nat.le_of_ble_eq_true rfl) hlocks (Nat.le_of_ble_eq_true rfl) (Nat.le_of_ble_eq_true rfl) (Or.inr (Or.inl ⟨rfl, c4, Or.inl c16⟩))
    · refine lv_iload_n hx hb dX11_function_19 rfl (lv_at hl 1 rfl) ?_
      refine lv_aload_n hx hb dX11_function_20 rfl (lv_at hl 0 rfl) ?_
      refine va_get (D := (dC, dI)) (ci := 14) (v := .ref pr) (C := RX11) (T := TX11) (N := 15) hx hb hu iuX11 hown hK hP 0 rfl rfl 1 (by decide) (hu _ mG_719) (fun _ h9 => h9) rfl dX11_function_21 ?_
      refine va_get (D := (dC, dI)) (ci := 7) (v := .int fn) (C := RX4) (T := TX4) (N := 17) hx hb hu iuX4 hown hK hP 1 rfl rfl 5 (by decide) (hu _ mG_303) (fun _ h9 => h9) rfl dX11_function_24 ?_
      refine lv_icmp_lt (tgt := 38) hx hb dX11_function_27 (by decide) (fun c27 => ?_) (fun c27 => ?_)
      · refine lv_iload_n hx hb dX11_function_38 rfl (lv_at hl 2 rfl) ?_
        refine lv_if_lt (tgt := 47) hx hb dX11_function_39 (by decide) (fun c39 => ?_) (fun c39 => ?_)
        · exact ut_throw hx hb hlt hown (by decide +kernel) hu hXw hZ mG_789 mG_230 ul_IAE uo_IAE hP hK hD hS (by rw [hml]; exact hl.1) hno dX11_function_47 dX11_function_50 dX11_function_51 dX11_function_54 (Nat.le_of_ble_eq_true rfl) (Nat.le_of_ble_eq_true rfl) (Nat.le_of_ble_eq_true rfl) (Nat.le_of_ble_eq_true rfl) hlocks (Nat.le_of_ble_eq_true rfl) (Nat.le_of_ble_eq_true rfl) (Or.inr (Or.inr ⟨rfl, c4, ⟨c16, c27⟩, Or.inl c39⟩))
        · refine lv_iload_n hx hb dX11_function_42 rfl (lv_at hl 2 rfl) ?_
          refine lv_iconst (v := 5) hx hb dX11_function_43 (by decide) ?_
          refine lv_icmp_le (tgt := 55) hx hb dX11_function_44 (by decide) (fun c44 => ?_) (fun c44 => ?_)
          · refine lv_aload_n hx hb dX11_function_55 rfl (lv_at hl 0 rfl) ?_
            refine va_get (D := (dC, dI)) (ci := 14) (v := .ref pr) (C := RX11) (T := TX11) (N := 15) hx hb hu iuX11 hown hK hP 0 rfl rfl 1 (by decide) (hu _ mG_719) (fun _ h9 => h9) rfl dX11_function_56 ?_
            refine lv_iload_n hx hb dX11_function_59 rfl (lv_at hl 1 rfl) ?_
            refine lv_iload_n hx hb dX11_function_60 rfl (lv_at hl 2 rfl) ?_
            have hPc := hP.sub (ws' := [(pr, .inr (7, [.ref p0, .ref p1, .int cn, .ref p3, .int tp, .int fn, .int mn, .ref p7, .ref p8, .ref p9, .ref p10, .ref p11, .ref p12, .ref p13, .ref p14, .ref p15, .ref p16])), (p7, .inl (c7, 630, .inl f7)), (p8, .inl (c8, 630, .inl f8)), (p10, .inl (c10, 630, .inl f10)), (p13, .inl (c13, 630, .inl f13)), (p14, .inl (c14, 630, .inl f14)), (p15, .inl (c15, 630, .inl f15))]) [1, 2, 3, 4, 5, 6, 7] rfl
            have hDc := hD.sub (ws' := [(pr, .inr (7, [.ref p0, .ref p1, .int cn, .ref p3, .int tp, .int fn, .int mn, .ref p7, .ref p8, .ref p9, .ref p10, .ref p11, .ref p12, .ref p13, .ref p14, .ref p15, .ref p16])), (p7, .inl (c7, 630, .inl f7)), (p8, .inl (c8, 630, .inl f8)), (p10, .inl (c10, 630, .inl f10)), (p13, .inl (c13, 630, .inl f13)), (p14, .inl (c14, 630, .inl f14)), (p15, .inl (c15, 630, .inl f15))]) [1, 2, 3, 4, 5, 6, 7] (by decide) rfl
            have hKc := hK.sub (tys' := [(c7, .int), (c8, .int), (c10, .int), (c13, .int), (c14, .int), (c15, .int)]) [0, 1, 2, 3, 4, 5] rfl
            have hFc := va_free (wc := [(pr, .inr (7, [.ref p0, .ref p1, .int cn, .ref p3, .int tp, .int fn, .int mn, .ref p7, .ref p8, .ref p9, .ref p10, .ref p11, .ref p12, .ref p13, .ref p14, .ref p15, .ref p16])), (p7, .inl (c7, 630, .inl f7)), (p8, .inl (c8, 630, .inl f8)), (p10, .inl (c10, 630, .inl f10)), (p13, .inl (c13, 630, .inl f13)), (p14, .inl (c14, 630, .inl f14)), (p15, .inl (c15, 630, .inl f15))]) hD hS hA [1, 2, 3, 4, 5, 6, 7] rfl
            refine va_calli (va_runV (As := [.int k, .int w]) (rest := []) ⟨hx, hb, hml, hown, hu⟩ (kX4_tell l dC dI s.heap.size pr p0 p1 p3 p7 p8 p9 p10 p11 p12 p13 p14 p15 p16 cn tp fn mn f7 f8 f10 f13 f14 f15 c7 c8 c10 c13 c14 c15 k w (vp_in_iff.mpr ⟨Int32.le_iff_toInt_le.mp (Int32.not_lt.mp c16), by have h9 := Int32.lt_iff_toInt_lt.mp c27; omega⟩)) (cwV 2 hu (uG_V (fun _ h => h) mG_1769 mG_1766 mG_1767 mG_1768 mG_216) rfl rfl rfl (by decide +kernel) ⟨Nat.le_of_ble_eq_true rfl, Nat.le_of_ble_eq_true rfl⟩) ⟨fun a U g mk q => by obtain ⟨q0, q1, qP, qK, qD⟩ := q; exact ⟨q0, q1, qP, va_K.moved (u := U) (U := U.calling g mk a) (Vm.Alike.refl U.vm) qK, qD⟩, va_recv hKc hPc (ci := 7) (q0 := 0) rfl rfl, fun U hU hW => ⟨rfl, by rw [hU], by rw [hU]; exact hPc, va_K.moved hW.alike hKc, hDc.weaken (fun _ _ _ _ => trivial)⟩⟩ rfl rfl hl.1 rfl (lv_room (Nat.le_of_ble_eq_true rfl)) dX11_function_61 ⟨Nat.le_of_ble_eq_true rfl, Nat.le_of_ble_eq_true rfl⟩) hS (fun q _ h => hFc q h) hFc (fun r61 u t H1 locs ht hvm hw hB hz1 hk1 hS => ?_)
            obtain ⟨hP1, hK1, hD1⟩ := hB
            rw [ht] at hP1
            obtain ⟨hP, hD⟩ := va_join (wr := [(x, .inr (14, [.ref tx, .ref pr, .ref rd, .ref li, .ref de, .ref sc, .ref ma, .ref ou, .ref dr, .int st, .int fk, .int fp, .int pe, .int ce, .int le]))]) (w1 := [(pr, .inr (7, [.ref p0, .ref p1, .int cn, .ref p3, .int tp, .int fn, .int mn, .ref p7, .ref p8, .ref p9, .ref p10, .ref p11, .ref p12, .ref p13, .ref p14, .ref p15, .ref p16])), (p7, .inl (c7, 630, .inl f7)), (p8, .inl (c8, 630, .inl f8)), (p10, .inl (c10, 630, .inl f10)), (p13, .inl (c13, 630, .inl f13)), (p14, .inl (c14, 630, .inl f14)), (p15, .inl (c15, 630, .inl f15))]) hP hD [1, 2, 3, 4, 5, 6, 7] [0] rfl rfl (by decide) (by decide) hk1 hFc hP1 hD1
            generalize H1 = H at hP hS ⊢
            have hP : va_P (dC, dI) vwCl [(x, .inr (14, [.ref tx, .ref pr, .ref rd, .ref li, .ref de, .ref sc, .ref ma, .ref ou, .ref dr, .int st, .int fk, .int fp, .int pe, .int ce, .int le])), (pr, .inr (7, [.ref p0, .ref p1, .int cn, .ref p3, .int tp, .int fn, .int mn, .ref p7, .ref p8, .ref p9, .ref p10, .ref p11, .ref p12, .ref p13, .ref p14, .ref p15, .ref p16])), (p7, .inl (c7, 630, .inl f7)), (p8, .inl (c8, 630, .inl f8)), (p10, .inl (c10, 630, .inl f10)), (p13, .inl (c13, 630, .inl f13)), (p14, .inl (c14, 630, .inl f14)), (p15, .inl (c15, 630, .inl f15))] H := hP
            have hD : va_D A [(x, .inr (14, [.ref tx, .ref pr, .ref rd, .ref li, .ref de, .ref sc, .ref ma, .ref ou, .ref dr, .int st, .int fk, .int fp, .int pe, .int ce, .int le])), (pr, .inr (7, [.ref p0, .ref p1, .int cn, .ref p3, .int tp, .int fn, .int mn, .ref p7, .ref p8, .ref p9, .ref p10, .ref p11, .ref p12, .ref p13, .ref p14, .ref p15, .ref p16])), (p7, .inl (c7, 630, .inl f7)), (p8, .inl (c8, 630, .inl f8)), (p10, .inl (c10, 630, .inl f10)), (p13, .inl (c13, 630, .inl f13)), (p14, .inl (c14, 630, .inl f14)), (p15, .inl (c15, 630, .inl f15))] := hD
            have er61 : r61 = (a_tell (f7 k.toNatClampNeg) (f8 k.toNatClampNeg) (f10 k.toNatClampNeg) (f13 k.toNatClampNeg) (f15 k.toNatClampNeg) (f14 k.toNatClampNeg) w) := hw
            subst er61
            have hP9 : va_P (dC, dI) vwCl [(x, .inr (14, [.ref tx, .ref pr, .ref rd, .ref li, .ref de, .ref sc, .ref ma, .ref ou, .ref dr, .int st, .int fk, .int fp, .int pe, .int ce, .int le])), (pr, .inr (7, [.ref p0, .ref p1, .int cn, .ref p3, .int tp, .int fn, .int mn, .ref p7, .ref p8, .ref p9, .ref p10, .ref p11, .ref p12, .ref p13, .ref p14, .ref p15, .ref p16])), (p7, .inl (c7, 630, .inl f7)), (p8, .inl (c8, 630, .inl f8)), (p10, .inl (c10, 630, .inl f10)), (p13, .inl (c13, 630, .inl f13)), (p14, .inl (c14, 630, .inl f14)), (p15, .inl (c15, 630, .inl f15))] H := by exact hP
            have hD9 : va_D A [(x, .inr (14, [.ref tx, .ref pr, .ref rd, .ref li, .ref de, .ref sc, .ref ma, .ref ou, .ref dr, .int st, .int fk, .int fp, .int pe, .int ce, .int le])), (pr, .inr (7, [.ref p0, .ref p1, .int cn, .ref p3, .int tp, .int fn, .int mn, .ref p7, .ref p8, .ref p9, .ref p10, .ref p11, .ref p12, .ref p13, .ref p14, .ref p15, .ref p16])), (p7, .inl (c7, 630, .inl f7)), (p8, .inl (c8, 630, .inl f8)), (p10, .inl (c10, 630, .inl f10)), (p13, .inl (c13, 630, .inl f13)), (p14, .inl (c14, 630, .inl f14)), (p15, .inl (c15, 630, .inl f15))] := by exact hD
            have hK9 := hK.sub (tys' := [(c7, .int), (c8, .int), (c10, .int), (c13, .int), (c14, .int), (c15, .int)]) [0, 1, 2, 3, 4, 5] rfl
            refine vx_ret ?_
            refine W.widen (k := 1) (n := 6) (Nat.le_of_ble_eq_true rfl) (Nat.le_of_ble_eq_true rfl) ?_
            exact W.iret (v := (a_tell (f7 k.toNatClampNeg) (f8 k.toNatClampNeg) (f10 k.toNatClampNeg) (f13 k.toNatClampNeg) (f15 k.toNatClampNeg) (f14 k.toNatClampNeg) w)) hx hb hr (fun t ht hW => ⟨⟨(a_tell (f7 k.toNatClampNeg) (f8 k.toNatClampNeg) (f10 k.toNatClampNeg) (f13 k.toNatClampNeg) (f15 k.toNatClampNeg) (f14 k.toNatClampNeg) w), (), rfl, ⟨⟨c4, ⟨c16, c27⟩, c39, c44⟩, rfl⟩, by rw [ht]; exact hP9, va_K.moved hW.alike hK9, hD9⟩, hS.F ht⟩) hS.2.2 dX11_function_64
          · exact ut_throw hx hb hlt hown (by decide +kernel) hu hXw hZ mG_789 mG_230 ul_IAE uo_IAE hP hK hD hS (by rw [hml]; exact hl.1) hno dX11_function_47 dX11_function_50 dX11_function_51 dX11_function_54 (Nat.le_of_ble_eq_true rfl) (Nat.le_of_ble_eq_true rfl) (Nat.le_of_ble_eq_true rfl) (Nat.le_of_ble_eq_true rfl) hlocks (Nat.le_of_ble_eq_true rfl) (Nat.le_of_ble_eq_true rfl) (Or.inr (Or.inr ⟨rfl, c4, ⟨c16, c27⟩, Or.inr c44⟩))
      · exact ut_throw hx hb hlt hown (by decide +kernel) hu hXw hZ mG_1743 mG_244 ul_IOB uo_IOB hP hK hD hS (by rw [hml]; exact hl.1) hno dX11_function_30 dX11_function_33 dX11_function_34 dX11_function_37 (Nat.le_of_ble_eq_true rfl) (Nat.le_of_ble_eq_true rfl) (Nat.le_of_ble_eq_true rfl) (Nat.le_of_ble_eq_true rfl) hlocks (Nat.le_of_ble_eq_true rfl) (Nat.le_of_ble_eq_true rfl) (Or.inr (Or.inl ⟨rfl, c4, Or.inr c27⟩))
  · exact ut_throw hx hb hlt hown (by decide +kernel) hu hXw hZ mG_1627 mG_246 ul_ISE uo_ISE hP hK hD hS (by rw [hml]; exact hl.1) hno dX11_function_7 dX11_function_10 dX11_function_11 dX11_function_14 (Nat.le_of_ble_eq_true rfl) (Nat.le_of_ble_eq_true rfl) (Nat.le_of_ble_eq_true rfl) (Nat.le_of_ble_eq_true rfl) hlocks (Nat.le_of_ble_eq_true rfl) (Nat.le_of_ble_eq_true rfl) (Or.inl ⟨rfl, c4⟩)
