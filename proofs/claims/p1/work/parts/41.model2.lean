theorem swo_0_6 {x : Int32} (h : x.toInt < 0 ∨ 6 < x.toInt) : ¬ x = 0 ∧ ¬ x = 1 ∧ ¬ x = 2 ∧ ¬ x = 3 ∧ ¬ x = 4 ∧ ¬ x = 5 ∧ ¬ x = 6 := by
  refine ⟨?_, ?_, ?_, ?_, ?_, ?_, ?_⟩ <;> (intro e; rw [e] at h; revert h; decide)

theorem sw_0_8 (x : Int32) : (x.toInt < 0 ∨ 8 < x.toInt) ∨ x = 0 ∨ x = 1 ∨ x = 2 ∨ x = 3 ∨ x = 4 ∨ x = 5 ∨ x = 6 ∨ x = 7 ∨ x = 8 := by
  by_cases h : x.toInt < 0 ∨ 8 < x.toInt
  · exact Or.inl h
  · have h2 : x.toInt = 0 ∨ x.toInt = 1 ∨ x.toInt = 2 ∨ x.toInt = 3 ∨ x.toInt = 4 ∨ x.toInt = 5 ∨ x.toInt = 6 ∨ x.toInt = 7 ∨ x.toInt = 8 := by omega
    refine Or.inr ?_
    rcases h2 with h | h | h | h | h | h | h | h | h
    · exact Or.inl (Int32.toInt_inj.mp (h.trans (by decide)))
    · exact Or.inr (Or.inl (Int32.toInt_inj.mp (h.trans (by decide))))
    · exact Or.inr (Or.inr (Or.inl (Int32.toInt_inj.mp (h.trans (by decide)))))
    · exact Or.inr (Or.inr (Or.inr (Or.inl (Int32.toInt_inj.mp (h.trans (by decide))))))
    · exact Or.inr (Or.inr (Or.inr (Or.inr (Or.inl (Int32.toInt_inj.mp (h.trans (by decide)))))))
    · exact Or.inr (Or.inr (Or.inr (Or.inr (Or.inr (Or.inl (Int32.toInt_inj.mp (h.trans (by decide))))))))
    · exact Or.inr (Or.inr (Or.inr (Or.inr (Or.inr (Or.inr (Or.inl (Int32.toInt_inj.mp (h.trans (by decide)))))))))
    · exact Or.inr (Or.inr (Or.inr (Or.inr (Or.inr (Or.inr (Or.inr (Or.inl (Int32.toInt_inj.mp (h.trans (by decide))))))))))
    · exact Or.inr (Or.inr (Or.inr (Or.inr (Or.inr (Or.inr (Or.inr (Or.inr (Int32.toInt_inj.mp (h.trans (by decide))))))))))
theorem swo_0_8 {x : Int32} (h : x.toInt < 0 ∨ 8 < x.toInt) : ¬ x = 0 ∧ ¬ x = 1 ∧ ¬ x = 2 ∧ ¬ x = 3 ∧ ¬ x = 4 ∧ ¬ x = 5 ∧ ¬ x = 6 ∧ ¬ x = 7 ∧ ¬ x = 8 := by
  refine ⟨?_, ?_, ?_, ?_, ?_, ?_, ?_, ?_, ?_⟩ <;> (intro e; rw [e] at h; revert h; decide)

theorem mG_212 : Cond.selects "LazyForgeModel" yX12_codeOf yX12_codeOf ∈ uG := uG_at 212 (by decide +kernel) (by decide +kernel)
theorem mG_226 : Cond.initialized "LazyForgeModel" ∈ uG := uG_at 226 (by decide +kernel) (by decide +kernel)
theorem mG_2075 : Cond.fieldLink "LazyForgeModel" 333 "LazyForgeModel" "parts" "I" ∈ uG := uG_at 2075 (by decide +kernel) (by decide +kernel)
theorem mG_2081 : Cond.fieldLink "LazyForgeModel" 348 "LazyForgeModel" "constructors" "I" ∈ uG := uG_at 2081 (by decide +kernel) (by decide +kernel)
theorem mG_2150 : Cond.fieldLink "LazyForgeModel" 626 "LazyForgeModel" "cells" "I" ∈ uG := uG_at 2150 (by decide +kernel) (by decide +kernel)
theorem mG_2151 : Cond.fieldLink "LazyForgeModel" 632 "LazyForgeModel" "allCells" "I" ∈ uG := uG_at 2151 (by decide +kernel) (by decide +kernel)
theorem mG_2152 : Cond.fieldLink "LazyForgeModel" 736 "LazyForgeModel" "allCalls" "I" ∈ uG := uG_at 2152 (by decide +kernel) (by decide +kernel)
theorem mG_2154 : Cond.fieldLink "LazyForgeModel" 733 "LazyForgeModel" "calls" "I" ∈ uG := uG_at 2154 (by decide +kernel) (by decide +kernel)
theorem mG_2155 : Cond.fieldLink "LazyForgeModel" 641 "LazyForgeModel" "suspensions" "I" ∈ uG := uG_at 2155 (by decide +kernel) (by decide +kernel)
theorem mG_2156 : Cond.fieldLink "LazyForgeModel" 644 "LazyForgeModel" "partials" "I" ∈ uG := uG_at 2156 (by decide +kernel) (by decide +kernel)
theorem mG_2157 : Cond.fieldLink "LazyForgeModel" 647 "LazyForgeModel" "objects" "I" ∈ uG := uG_at 2157 (by decide +kernel) (by decide +kernel)
theorem mG_2158 : Cond.fieldLink "LazyForgeModel" 740 "LazyForgeModel" "updates" "I" ∈ uG := uG_at 2158 (by decide +kernel) (by decide +kernel)
theorem mG_2159 : Cond.fieldLink "LazyForgeModel" 709 "LazyForgeModel" "atOnce" "I" ∈ uG := uG_at 2159 (by decide +kernel) (by decide +kernel)
theorem mG_2161 : Cond.fieldLink "LazyForgeModel" 605 "LazyForgeModel" "how" "I" ∈ uG := uG_at 2161 (by decide +kernel) (by decide +kernel)
theorem mG_2162 : Cond.fieldLink "LazyForgeModel" 608 "LazyForgeModel" "why" "I" ∈ uG := uG_at 2162 (by decide +kernel) (by decide +kernel)
theorem mG_2967 : Cond.methodLink "LazyForgeModel" 811 yX12_codeOf ∈ uG := uG_at 2967 (by decide +kernel) (by decide +kernel)
theorem mG_2969 : Cond.instanceMethod yX12_codeOf ∈ uG := uG_at 2969 (by decide +kernel) (by decide +kernel)
theorem mG_2970 : Cond.code yX12_codeOf prog_14_method_129_code 2 (some .int) ∈ uG := uG_at 2970 (by decide +kernel) (by decide +kernel)
theorem dX12_about_0 : decode cX12_about 0 = .ok (.aload_n 0, 1) := by decide +kernel
theorem dX12_about_1 : decode cX12_about 1 = .ok (.iload_n 1, 1) := by decide +kernel
theorem dX12_about_2 : decode cX12_about 2 = .ok (.ifCond .lt 9, 3) := by decide +kernel
theorem dX12_about_5 : decode cX12_about 5 = .ok (.iload_n 1, 1) := by decide +kernel
theorem dX12_about_6 : decode cX12_about 6 = .ok (.bipush 6, 2) := by decide +kernel
theorem dX12_about_8 : decode cX12_about 8 = .ok (.if_icmp .le 7, 3) := by decide +kernel
theorem dX12_about_11 : decode cX12_about 11 = .ok (.iconst 1, 1) := by decide +kernel
theorem dX12_about_12 : decode cX12_about 12 = .ok (.goto 4, 3) := by decide +kernel
theorem dX12_about_15 : decode cX12_about 15 = .ok (.iconst 0, 1) := by decide +kernel
theorem dX12_about_16 : decode cX12_about 16 = .ok (.putfield 251, 3) := by decide +kernel
theorem dX12_about_19 : decode cX12_about 19 = .ok (.iload_n 1, 1) := by decide +kernel
theorem dX12_about_20 : decode cX12_about 20 = .ok (.tableswitch 112 0 6 #[44, 60, 76, 92, 97, 102, 107], 44) := by decide +kernel
theorem dX12_about_64 : decode cX12_about 64 = .ok (.aload_n 0, 1) := by decide +kernel
theorem dX12_about_65 : decode cX12_about 65 = .ok (.getfield 570, 3) := by decide +kernel
theorem dX12_about_68 : decode cX12_about 68 = .ok (.ifCond .eq 10, 3) := by decide +kernel
theorem dX12_about_71 : decode cX12_about 71 = .ok (.aload_n 0, 1) := by decide +kernel
theorem dX12_about_72 : decode cX12_about 72 = .ok (.getfield 486, 3) := by decide +kernel
theorem dX12_about_75 : decode cX12_about 75 = .ok (.goto 4, 3) := by decide +kernel
theorem dX12_about_78 : decode cX12_about 78 = .ok (.iconst 0, 1) := by decide +kernel
theorem dX12_about_79 : decode cX12_about 79 = .ok (.ireturn, 1) := by decide +kernel
theorem dX12_about_80 : decode cX12_about 80 = .ok (.aload_n 0, 1) := by decide +kernel
theorem dX12_about_81 : decode cX12_about 81 = .ok (.getfield 570, 3) := by decide +kernel
theorem dX12_about_84 : decode cX12_about 84 = .ok (.ifCond .eq 10, 3) := by decide +kernel
theorem dX12_about_87 : decode cX12_about 87 = .ok (.aload_n 0, 1) := by decide +kernel
theorem dX12_about_88 : decode cX12_about 88 = .ok (.getfield 348, 3) := by decide +kernel
theorem dX12_about_91 : decode cX12_about 91 = .ok (.goto 4, 3) := by decide +kernel
theorem dX12_about_94 : decode cX12_about 94 = .ok (.iconst 0, 1) := by decide +kernel
theorem dX12_about_95 : decode cX12_about 95 = .ok (.ireturn, 1) := by decide +kernel
theorem dX12_about_96 : decode cX12_about 96 = .ok (.aload_n 0, 1) := by decide +kernel
theorem dX12_about_97 : decode cX12_about 97 = .ok (.getfield 570, 3) := by decide +kernel
theorem dX12_about_100 : decode cX12_about 100 = .ok (.ifCond .eq 10, 3) := by decide +kernel
theorem dX12_about_103 : decode cX12_about 103 = .ok (.aload_n 0, 1) := by decide +kernel
theorem dX12_about_104 : decode cX12_about 104 = .ok (.getfield 333, 3) := by decide +kernel
theorem dX12_about_107 : decode cX12_about 107 = .ok (.goto 4, 3) := by decide +kernel
theorem dX12_about_110 : decode cX12_about 110 = .ok (.iconst 0, 1) := by decide +kernel
theorem dX12_about_111 : decode cX12_about 111 = .ok (.ireturn, 1) := by decide +kernel
theorem dX12_about_112 : decode cX12_about 112 = .ok (.aload_n 0, 1) := by decide +kernel
theorem dX12_about_113 : decode cX12_about 113 = .ok (.getfield 254, 3) := by decide +kernel
theorem dX12_about_116 : decode cX12_about 116 = .ok (.ireturn, 1) := by decide +kernel
theorem dX12_about_117 : decode cX12_about 117 = .ok (.aload_n 0, 1) := by decide +kernel
theorem dX12_about_118 : decode cX12_about 118 = .ok (.getfield 777, 3) := by decide +kernel
theorem dX12_about_121 : decode cX12_about 121 = .ok (.ireturn, 1) := by decide +kernel
theorem dX12_about_122 : decode cX12_about 122 = .ok (.aload_n 0, 1) := by decide +kernel
theorem dX12_about_123 : decode cX12_about 123 = .ok (.getfield 736, 3) := by decide +kernel
theorem dX12_about_126 : decode cX12_about 126 = .ok (.ireturn, 1) := by decide +kernel
theorem dX12_about_127 : decode cX12_about 127 = .ok (.aload_n 0, 1) := by decide +kernel
theorem dX12_about_128 : decode cX12_about 128 = .ok (.getfield 632, 3) := by decide +kernel
theorem dX12_about_131 : decode cX12_about 131 = .ok (.ireturn, 1) := by decide +kernel
theorem dX12_about_132 : decode cX12_about 132 = .ok (.iconst 0, 1) := by decide +kernel
theorem dX12_about_133 : decode cX12_about 133 = .ok (.ireturn, 1) := by decide +kernel
theorem dX12_called_0 : decode cX12_called 0 = .ok (.aload_n 0, 1) := by decide +kernel
theorem dX12_called_1 : decode cX12_called 1 = .ok (.aload_n 0, 1) := by decide +kernel
theorem dX12_called_2 : decode cX12_called 2 = .ok (.iload_n 1, 1) := by decide +kernel
theorem dX12_called_3 : decode cX12_called 3 = .ok (.invokevirtual 811, 3) := by decide +kernel
theorem dX12_called_6 : decode cX12_called 6 = .ok (.putfield 251, 3) := by decide +kernel
theorem dX12_called_9 : decode cX12_called 9 = .ok (.aload_n 0, 1) := by decide +kernel
theorem dX12_called_10 : decode cX12_called 10 = .ok (.getfield 251, 3) := by decide +kernel
theorem dX12_called_13 : decode cX12_called 13 = .ok (.ifCond .le 7, 3) := by decide +kernel
theorem dX12_called_16 : decode cX12_called 16 = .ok (.iconst 0, 1) := by decide +kernel
theorem dX12_called_17 : decode cX12_called 17 = .ok (.goto 9, 3) := by decide +kernel
theorem dX12_called_20 : decode cX12_called 20 = .ok (.aload_n 0, 1) := by decide +kernel
theorem dX12_called_21 : decode cX12_called 21 = .ok (.getfield 212, 3) := by decide +kernel
theorem dX12_called_24 : decode cX12_called 24 = .ok (.iload_n 1, 1) := by decide +kernel
theorem dX12_called_25 : decode cX12_called 25 = .ok (.iaload, 1) := by decide +kernel
theorem dX12_called_26 : decode cX12_called 26 = .ok (.ireturn, 1) := by decide +kernel
theorem dX12_needs_0 : decode cX12_needs 0 = .ok (.aload_n 0, 1) := by decide +kernel
theorem dX12_needs_1 : decode cX12_needs 1 = .ok (.aload_n 0, 1) := by decide +kernel
theorem dX12_needs_2 : decode cX12_needs 2 = .ok (.iload_n 1, 1) := by decide +kernel
theorem dX12_needs_3 : decode cX12_needs 3 = .ok (.invokevirtual 811, 3) := by decide +kernel
theorem dX12_needs_6 : decode cX12_needs 6 = .ok (.putfield 251, 3) := by decide +kernel
theorem dX12_needs_9 : decode cX12_needs 9 = .ok (.aload_n 0, 1) := by decide +kernel
theorem dX12_needs_10 : decode cX12_needs 10 = .ok (.aload_n 0, 1) := by decide +kernel
theorem dX12_needs_11 : decode cX12_needs 11 = .ok (.getfield 251, 3) := by decide +kernel
theorem dX12_needs_14 : decode cX12_needs 14 = .ok (.ifCond .le 10, 3) := by decide +kernel
theorem dX12_needs_17 : decode cX12_needs 17 = .ok (.aload_n 0, 1) := by decide +kernel
theorem dX12_needs_18 : decode cX12_needs 18 = .ok (.getfield 251, 3) := by decide +kernel
theorem dX12_needs_21 : decode cX12_needs 21 = .ok (.goto 22, 3) := by decide +kernel
theorem dX12_needs_24 : decode cX12_needs 24 = .ok (.iload_n 2, 1) := by decide +kernel
theorem dX12_needs_25 : decode cX12_needs 25 = .ok (.ifCond .lt 13, 3) := by decide +kernel
theorem dX12_needs_28 : decode cX12_needs 28 = .ok (.iload_n 2, 1) := by decide +kernel
theorem dX12_needs_29 : decode cX12_needs 29 = .ok (.aload_n 0, 1) := by decide +kernel
theorem dX12_needs_30 : decode cX12_needs 30 = .ok (.getfield 171, 3) := by decide +kernel
theorem dX12_needs_33 : decode cX12_needs 33 = .ok (.iload_n 1, 1) := by decide +kernel
theorem dX12_needs_34 : decode cX12_needs 34 = .ok (.iaload, 1) := by decide +kernel
theorem dX12_needs_35 : decode cX12_needs 35 = .ok (.if_icmp .lt 7, 3) := by decide +kernel
theorem dX12_needs_38 : decode cX12_needs 38 = .ok (.iconst 2, 1) := by decide +kernel
theorem dX12_needs_39 : decode cX12_needs 39 = .ok (.goto 4, 3) := by decide +kernel
theorem dX12_needs_42 : decode cX12_needs 42 = .ok (.iconst 0, 1) := by decide +kernel
theorem dX12_needs_43 : decode cX12_needs 43 = .ok (.putfield 251, 3) := by decide +kernel
theorem dX12_needs_46 : decode cX12_needs 46 = .ok (.aload_n 0, 1) := by decide +kernel
theorem dX12_needs_47 : decode cX12_needs 47 = .ok (.getfield 251, 3) := by decide +kernel
theorem dX12_needs_50 : decode cX12_needs 50 = .ok (.ifCond .ne 21, 3) := by decide +kernel
theorem dX12_needs_53 : decode cX12_needs 53 = .ok (.aload_n 0, 1) := by decide +kernel
theorem dX12_needs_54 : decode cX12_needs 54 = .ok (.getfield 191, 3) := by decide +kernel
theorem dX12_needs_57 : decode cX12_needs 57 = .ok (.bipush 8, 2) := by decide +kernel
theorem dX12_needs_59 : decode cX12_needs 59 = .ok (.iload_n 1, 1) := by decide +kernel
theorem dX12_needs_60 : decode cX12_needs 60 = .ok (.imul, 1) := by decide +kernel
theorem dX12_needs_61 : decode cX12_needs 61 = .ok (.iload_n 2, 1) := by decide +kernel
theorem dX12_needs_62 : decode cX12_needs 62 = .ok (.iadd, 1) := by decide +kernel
theorem dX12_needs_63 : decode cX12_needs 63 = .ok (.baload, 1) := by decide +kernel
theorem dX12_needs_64 : decode cX12_needs 64 = .ok (.ifCond .eq 7, 3) := by decide +kernel
theorem dX12_needs_67 : decode cX12_needs 67 = .ok (.iconst 1, 1) := by decide +kernel
theorem dX12_needs_68 : decode cX12_needs 68 = .ok (.goto 4, 3) := by decide +kernel
theorem dX12_needs_71 : decode cX12_needs 71 = .ok (.iconst 0, 1) := by decide +kernel
theorem dX12_needs_72 : decode cX12_needs 72 = .ok (.ireturn, 1) := by decide +kernel
theorem dX12_result_0 : decode cX12_result 0 = .ok (.aload_n 0, 1) := by decide +kernel
theorem dX12_result_1 : decode cX12_result 1 = .ok (.iload_n 1, 1) := by decide +kernel
theorem dX12_result_2 : decode cX12_result 2 = .ok (.ifCond .lt 9, 3) := by decide +kernel
theorem dX12_result_5 : decode cX12_result 5 = .ok (.iload_n 1, 1) := by decide +kernel
theorem dX12_result_6 : decode cX12_result 6 = .ok (.bipush 9, 2) := by decide +kernel
theorem dX12_result_8 : decode cX12_result 8 = .ok (.if_icmp .le 7, 3) := by decide +kernel
theorem dX12_result_11 : decode cX12_result 11 = .ok (.iconst 1, 1) := by decide +kernel
theorem dX12_result_12 : decode cX12_result 12 = .ok (.goto 4, 3) := by decide +kernel
theorem dX12_result_15 : decode cX12_result 15 = .ok (.iconst 0, 1) := by decide +kernel
theorem dX12_result_16 : decode cX12_result 16 = .ok (.putfield 251, 3) := by decide +kernel
theorem dX12_result_19 : decode cX12_result 19 = .ok (.iload_n 1, 1) := by decide +kernel
theorem dX12_result_20 : decode cX12_result 20 = .ok (.tableswitch 97 0 8 #[52, 57, 62, 67, 72, 77, 82, 87, 92], 52) := by decide +kernel
theorem dX12_result_72 : decode cX12_result 72 = .ok (.aload_n 0, 1) := by decide +kernel
theorem dX12_result_73 : decode cX12_result 73 = .ok (.getfield 605, 3) := by decide +kernel
theorem dX12_result_76 : decode cX12_result 76 = .ok (.ireturn, 1) := by decide +kernel
theorem dX12_result_77 : decode cX12_result 77 = .ok (.aload_n 0, 1) := by decide +kernel
theorem dX12_result_78 : decode cX12_result 78 = .ok (.getfield 608, 3) := by decide +kernel
theorem dX12_result_81 : decode cX12_result 81 = .ok (.ireturn, 1) := by decide +kernel
theorem dX12_result_82 : decode cX12_result 82 = .ok (.aload_n 0, 1) := by decide +kernel
theorem dX12_result_83 : decode cX12_result 83 = .ok (.getfield 733, 3) := by decide +kernel
theorem dX12_result_86 : decode cX12_result 86 = .ok (.ireturn, 1) := by decide +kernel
theorem dX12_result_87 : decode cX12_result 87 = .ok (.aload_n 0, 1) := by decide +kernel
theorem dX12_result_88 : decode cX12_result 88 = .ok (.getfield 626, 3) := by decide +kernel
theorem dX12_result_91 : decode cX12_result 91 = .ok (.ireturn, 1) := by decide +kernel
theorem dX12_result_92 : decode cX12_result 92 = .ok (.aload_n 0, 1) := by decide +kernel
theorem dX12_result_93 : decode cX12_result 93 = .ok (.getfield 641, 3) := by decide +kernel
theorem dX12_result_96 : decode cX12_result 96 = .ok (.ireturn, 1) := by decide +kernel
theorem dX12_result_97 : decode cX12_result 97 = .ok (.aload_n 0, 1) := by decide +kernel
theorem dX12_result_98 : decode cX12_result 98 = .ok (.getfield 644, 3) := by decide +kernel
theorem dX12_result_101 : decode cX12_result 101 = .ok (.ireturn, 1) := by decide +kernel
theorem dX12_result_102 : decode cX12_result 102 = .ok (.aload_n 0, 1) := by decide +kernel
theorem dX12_result_103 : decode cX12_result 103 = .ok (.getfield 647, 3) := by decide +kernel
theorem dX12_result_106 : decode cX12_result 106 = .ok (.ireturn, 1) := by decide +kernel
theorem dX12_result_107 : decode cX12_result 107 = .ok (.aload_n 0, 1) := by decide +kernel
theorem dX12_result_108 : decode cX12_result 108 = .ok (.getfield 740, 3) := by decide +kernel
theorem dX12_result_111 : decode cX12_result 111 = .ok (.ireturn, 1) := by decide +kernel
theorem dX12_result_112 : decode cX12_result 112 = .ok (.aload_n 0, 1) := by decide +kernel
theorem dX12_result_113 : decode cX12_result 113 = .ok (.getfield 709, 3) := by decide +kernel
theorem dX12_result_116 : decode cX12_result 116 = .ok (.ireturn, 1) := by decide +kernel
theorem dX12_result_117 : decode cX12_result 117 = .ok (.aload_n 0, 1) := by decide +kernel
theorem dX12_result_118 : decode cX12_result 118 = .ok (.getfield 251, 3) := by decide +kernel
theorem dX12_result_121 : decode cX12_result 121 = .ok (.ifCond .le 7, 3) := by decide +kernel
theorem dX12_result_124 : decode cX12_result 124 = .ok (.iconst 0, 1) := by decide +kernel
theorem dX12_result_125 : decode cX12_result 125 = .ok (.goto 7, 3) := by decide +kernel
theorem dX12_result_128 : decode cX12_result 128 = .ok (.aload_n 0, 1) := by decide +kernel
theorem dX12_result_129 : decode cX12_result 129 = .ok (.getfield 760, 3) := by decide +kernel
theorem dX12_result_132 : decode cX12_result 132 = .ok (.ireturn, 1) := by decide +kernel
theorem dX12_table_0 : decode cX12_table 0 = .ok (.aload_n 0, 1) := by decide +kernel
theorem dX12_table_1 : decode cX12_table 1 = .ok (.getfield 178, 3) := by decide +kernel
theorem dX12_table_4 : decode cX12_table 4 = .ok (.sipush 256, 3) := by decide +kernel
theorem dX12_table_7 : decode cX12_table 7 = .ok (.iload_n 1, 1) := by decide +kernel
theorem dX12_table_8 : decode cX12_table 8 = .ok (.imul, 1) := by decide +kernel
theorem dX12_table_9 : decode cX12_table 9 = .ok (.iload_n 2, 1) := by decide +kernel
theorem dX12_table_10 : decode cX12_table 10 = .ok (.iadd, 1) := by decide +kernel
theorem dX12_table_11 : decode cX12_table 11 = .ok (.baload, 1) := by decide +kernel
theorem dX12_table_12 : decode cX12_table 12 = .ok (.ireturn, 1) := by decide +kernel
theorem th_code_le {hp nm k : Int32} (h : th_code hp nm k ≤ 0) : ¬ hp = 0 ∧ ¬ k < 0 ∧ k < nm := by
  unfold th_code at h
  by_cases h1 : hp = 0
  · rw [if_pos h1] at h; exact absurd h (by decide)
  · rw [if_neg h1] at h
    by_cases h2 : k < 0 ∨ ¬ k < nm
    · rw [if_pos h2] at h; exact absurd h (by decide)
    · exact ⟨h1, fun a => h2 (Or.inl a), Decidable.not_not.mp fun a => h2 (Or.inr a)⟩
theorem th_code_0 {hp nm k : Int32} (h : th_code hp nm k ≤ 0) : th_code hp nm k = 0 := by
  have h2 := th_code_le h
  simp [th_code, h2.1, h2.2.1, h2.2.2]
theorem in_code {hp nm k : Int32} {N : Nat} (hn : nm.toInt ≤ N) (h : th_code hp nm k ≤ 0) : vp_in k N := by
  have h2 := th_code_le h
  exact vp_in_iff.mpr ⟨Int32.le_iff_toInt_le.mp (Int32.not_lt.mp h2.2.1), by have h9 := Int32.lt_iff_toInt_lt.mp h2.2.2; omega⟩
set_option maxHeartbeats 4000000 in
set_option maxRecDepth 100000 in
/-- Model.called(k) -/
theorem kX12_called (l : Launch) (dC : Nat → ClassId) (dI : Nat → Nat → Nat) (sz : Nat) (o : Nat) (f : Nat → Value) (hp nm k : Int32) (h88 : f 88 = .int hp) (h46 : f 46 = .int nm) (ca : Nat) (g : Nat → Int32) (cO : ClassId) (h110 : f 110 = .ref ca) (hnm : nm.toInt ≤ 640) : Met l yX12_called (Cond.code yX12_called cX12_called 2 (some .int) :: uG) ({ frames := 1, cells := 0, slots := 0, locals := 21 }) (va_Pc [.ref o, .int k] (fun U => U.heap.size = sz ∧ va_P (dC, dI) vwCl [(o, .inr (15, bF f)), (ca, .inl (cO, 640, .inl g))] U.heap ∧ va_K (dC, dI) vwCl [(cO, .int)] U ∧ va_D (fun _ => True) [(o, .inr (15, bF f)), (ca, .inl (cO, 640, .inl g))])) (va_Qi (S := Unit) (fun r _ => r = (if th_code hp nm k ≤ 0 then g k.toNatClampNeg else 0)) (fun _ t => va_P (dC, dI) vwCl [(o, .inr (15, bF (va_up f 0 (.int (th_code hp nm k))))), (ca, .inl (cO, 640, .inl g))] t.heap ∧ va_K (dC, dI) vwCl [(cO, .int)] t ∧ va_D (va_A [(o, .inr (15, bF f)), (ca, .inl (cO, 640, .inl g))] sz) [(o, .inr (15, bF (va_up f 0 (.int (th_code hp nm k))))), (ca, .inl (cO, 640, .inl g))]) (va_A [(o, .inr (15, bF f)), (ca, .inl (cO, 640, .inl g))] sz)) 0 0 (va_A [(o, .inr (15, bF f)), (ca, .inl (cO, 640, .inl g))] sz) := by
  refine Met.ofW (cc := cX12_called) (maxL := 2) (ret := (some .int)) (by decide) rfl ?_
  intro p e s m args below meth c s₁ B hml hv
  obtain ⟨rfl, hsz, hP, hK, hD0⟩ := hv
  have hx := B.exec
  have hb := B.bytes
  have hr := B.returns
  have hts := atoms_spec (ws := Cond.code yX12_called cX12_called 2 (some .int) :: uG) B.pre
  have hu := fun (w : Cond) (h : w ∈ uG) => hts w (List.mem_cons_of_mem _ h)
  have hown : s.vm.findClass RX12 = some m.cls := findClass_of_methodNamed B.named
  have hlocks := B.notSynchronized
  subst hsz
  have hD := hD0.self (sz := s.heap.size)
  generalize hAe : va_A [(o, .inr (15, bF f)), (ca, .inl (cO, 640, .inl g))] s.heap.size = A at hD ⊢
  have hA : ∀ q : Nat, s.heap.size ≤ q → A q := fun q h => by rw [← hAe]; exact Or.inr h
  have hS : va_S A s.heap s.heap [] := va_S.rf
  have hP : va_P (dC, dI) vwCl [(o, .inr (15, bF f)), (ca, .inl (cO, 640, .inl g))] s.heap := hP
  have hD : va_D A [(o, .inr (15, bF f)), (ca, .inl (cO, 640, .inl g))] := hD
  have hl := lv_entry ([.ref o, .int k]) (n := 2) (Nat.le_of_ble_eq_true rfl)
  rw [lg_entry_eq]
  generalize (lg_sl ([.ref o, .int k]) ++ List.replicate (2 - (lg_sl ([.ref o, .int k])).length) Slot.unset).toArray = ls at hl ⊢
  have hl : lv_has ls 2 [(0, .ref o), (1, .int k)] := hl
  refine lv_aload_n hx hb dX12_called_0 rfl (lv_at hl 0 rfl) ?_
  refine lv_aload_n hx hb dX12_called_1 rfl (lv_at hl 0 rfl) ?_
  refine lv_iload_n hx hb dX12_called_2 rfl (lv_at hl 1 rfl) ?_
  have hPc := hP.sub (ws' := [(o, .inr (15, bF f))]) [0] rfl
  have hDc := hD.sub (ws' := [(o, .inr (15, bF f))]) [0] (by decide) rfl
  have hKc := hK.sub (tys' := []) [] rfl
  have hFc := va_free (wc := [(o, .inr (15, bF f))]) hD hS hA [0] rfl
  refine va_calli (va_runV (As := [.int k]) (rest := [.ref o]) ⟨hx, hb, hml, hown, hu⟩ (kX12_codeOf l dC dI s.heap.size o f hp nm k h88 h46) (cwV 1 hu (uG_V (fun _ h => h) mG_2970 mG_2967 mG_2969 mG_212 mG_226) rfl rfl rfl (by decide +kernel) ⟨Nat.le_of_ble_eq_true rfl, Nat.le_of_ble_eq_true rfl⟩) ⟨fun a U g mk q => by obtain ⟨q0, q1, qP, qK, qD⟩ := q; exact ⟨q0, q1, qP, va_K.moved (u := U) (U := U.calling g mk a) (Vm.Alike.refl U.vm) qK, qD⟩, va_recv hKc hPc (ci := 15) (q0 := 0) rfl rfl, fun U hU hW => ⟨rfl, by rw [hU], by rw [hU]; exact hPc, va_K.moved hW.alike hKc, hDc.weaken (fun _ _ _ _ => trivial)⟩⟩ rfl rfl hl.1 rfl (lv_room (Nat.le_of_ble_eq_true rfl)) dX12_called_3 ⟨Nat.le_of_ble_eq_true rfl, Nat.le_of_ble_eq_true rfl⟩) hS (fun q _ h => hFc q h) hFc (fun r3 u t H1 locs ht hvm hw hB hz1 hk1 hS => ?_)
  obtain ⟨hP1, hK1, hD1⟩ := hB
  rw [ht] at hP1
  obtain ⟨hP, hD⟩ := va_join (wr := [(ca, .inl (cO, 640, .inl g))]) (w1 := [(o, .inr (15, bF f))]) hP hD [0] [1] rfl rfl (by decide) (by decide) hk1 hFc hP1 hD1
  generalize H1 = H at hP hS ⊢
  have hP : va_P (dC, dI) vwCl [(ca, .inl (cO, 640, .inl g)), (o, .inr (15, bF f))] H := hP
  have hD : va_D A [(ca, .inl (cO, 640, .inl g)), (o, .inr (15, bF f))] := hD
  have er3 : r3 = (th_code hp nm k) := hw
  subst er3
  refine va_put (D := (dC, dI)) (ci := 15) (v := .int (th_code hp nm k)) (ty := (tyX12 0)) (C := RX12) (T := TX12) (N := 136) hx hb hu iuX12 tyX12 tyX12_ok nmX12 hown hK hP hD hS 1 rfl rfl 0 (by decide) (hu _ mG_2050) (fun _ h9 => h9) rfl (by decide +kernel) (rfl) (rfl) (by rw [bF_len]; decide) dX12_called_6 (fun H locs hP hD hS => ?_)
  rw [show (bF f).set 0 (.int (th_code hp nm k)) = bF (va_up f 0 (.int (th_code hp nm k))) from bF_set (by decide)] at hP hD
  have hP : va_P (dC, dI) vwCl [(ca, .inl (cO, 640, .inl g)), (o, .inr (15, bF (va_up f 0 (.int (th_code hp nm k)))))] H := hP
  have hD : va_D A [(ca, .inl (cO, 640, .inl g)), (o, .inr (15, bF (va_up f 0 (.int (th_code hp nm k)))))] := hD
  refine lv_aload_n hx hb dX12_called_9 rfl (lv_at hl 0 rfl) ?_
  refine va_get (D := (dC, dI)) (ci := 15) (v := .int (th_code hp nm k)) (C := RX12) (T := TX12) (N := 136) hx hb hu iuX12 hown hK hP 1 rfl rfl 0 (by decide) (hu _ mG_2050) (fun _ h9 => h9) ((bF_get (by decide)).trans (congrArg some (rfl))) dX12_called_10 ?_
  refine lv_if_le (tgt := 20) hx hb dX12_called_13 (by decide) (fun c13 => ?_) (fun c13 => ?_)
  · refine lv_aload_n hx hb dX12_called_20 rfl (lv_at hl 0 rfl) ?_
    refine va_get (D := (dC, dI)) (ci := 15) (v := .ref ca) (C := RX12) (T := TX12) (N := 136) hx hb hu iuX12 hown hK hP 1 rfl rfl 110 (by decide) (hu _ mG_2160) (fun _ h9 => h9) ((bF_get (by decide)).trans (congrArg some (h110))) dX12_called_21 ?_
    refine lv_iload_n hx hb dX12_called_24 rfl (lv_at hl 1 rfl) ?_
    refine va_iald hx hb hK hP 0 0 rfl rfl (in_code hnm c13) dX12_called_25 ?_
    have hP9 : va_P (dC, dI) vwCl [(o, .inr (15, bF (va_up f 0 (.int (th_code hp nm k))))), (ca, .inl (cO, 640, .inl g))] H := by exact hP.sub [1, 0] rfl
    have hD9 : va_D A [(o, .inr (15, bF (va_up f 0 (.int (th_code hp nm k))))), (ca, .inl (cO, 640, .inl g))] := by exact hD.sub [1, 0] (by decide) rfl
    have hK9 := hK.sub (tys' := [(cO, .int)]) [0] rfl
    exact W.iret (v := (g (k).toNatClampNeg)) hx hb hr (fun t ht hW => ⟨⟨(g (k).toNatClampNeg), (), rfl, by simp [c13], by rw [ht]; exact hP9, va_K.moved hW.alike hK9, hD9⟩, hS.F ht⟩) hS.2.2 dX12_called_26
  · refine lv_iconst (v := 0) hx hb dX12_called_16 (by decide) ?_
    refine lv_goto (tgt := 26) hx hb dX12_called_17 (by decide) ?_
    have hP9 : va_P (dC, dI) vwCl [(o, .inr (15, bF (va_up f 0 (.int (th_code hp nm k))))), (ca, .inl (cO, 640, .inl g))] H := by exact hP.sub [1, 0] rfl
    have hD9 : va_D A [(o, .inr (15, bF (va_up f 0 (.int (th_code hp nm k))))), (ca, .inl (cO, 640, .inl g))] := by exact hD.sub [1, 0] (by decide) rfl
    have hK9 := hK.sub (tys' := [(cO, .int)]) [0] rfl
    exact W.iret (v := 0) hx hb hr (fun t ht hW => ⟨⟨0, (), rfl, by simp [c13], by rw [ht]; exact hP9, va_K.moved hW.alike hK9, hD9⟩, hS.F ht⟩) hS.2.2 dX12_called_26
set_option maxHeartbeats 4000000 in
set_option maxRecDepth 100000 in
/-- Model.table(k, b) -/
theorem kX12_table (l : Launch) (dC : Nat → ClassId) (dI : Nat → Nat → Nat) (sz : Nat) (o ta : Nat) (f : Nat → Value) (g : Nat → Int32) (cZ : ClassId) (k b : Int32) (h85 : f 85 = .ref ta) (hk : vp_in (256 * k + b) 163840) (hz : g (256 * k + b).toNatClampNeg = 0 ∨ g (256 * k + b).toNatClampNeg = 1) : Met l yX12_table (Cond.code yX12_table cX12_table 3 (some .boolean) :: uG) ({ frames := 0, cells := 0, slots := 0, locals := 0 }) (va_Pc [.ref o, .int k, .int b] (fun U => U.heap.size = sz ∧ va_P (dC, dI) vwCl [(o, .inr (15, bF f)), (ta, .inl (cZ, 163840, .inl g))] U.heap ∧ va_K (dC, dI) vwCl [(cZ, .boolean)] U ∧ va_D (fun _ => True) [(o, .inr (15, bF f)), (ta, .inl (cZ, 163840, .inl g))])) (va_Qi (S := Unit) (fun r _ => r = (g (256 * k + b).toNatClampNeg)) (fun _ t => va_P (dC, dI) vwCl [(o, .inr (15, bF f)), (ta, .inl (cZ, 163840, .inl g))] t.heap ∧ va_K (dC, dI) vwCl [(cZ, .boolean)] t ∧ va_D (va_A [(o, .inr (15, bF f)), (ta, .inl (cZ, 163840, .inl g))] sz) [(o, .inr (15, bF f)), (ta, .inl (cZ, 163840, .inl g))]) (va_A [(o, .inr (15, bF f)), (ta, .inl (cZ, 163840, .inl g))] sz)) 0 0 (va_A [(o, .inr (15, bF f)), (ta, .inl (cZ, 163840, .inl g))] sz) := by
  refine Met.ofW (cc := cX12_table) (maxL := 3) (ret := (some .boolean)) (by decide) rfl ?_
  intro p e s m args below meth c s₁ B hml hv
  obtain ⟨rfl, hsz, hP, hK, hD0⟩ := hv
  have hx := B.exec
  have hb := B.bytes
  have hr := B.returns
  have hts := atoms_spec (ws := Cond.code yX12_table cX12_table 3 (some .boolean) :: uG) B.pre
  have hu := fun (w : Cond) (h : w ∈ uG) => hts w (List.mem_cons_of_mem _ h)
  have hown : s.vm.findClass RX12 = some m.cls := findClass_of_methodNamed B.named
  have hlocks := B.notSynchronized
  subst hsz
  have hD := hD0.self (sz := s.heap.size)
  generalize hAe : va_A [(o, .inr (15, bF f)), (ta, .inl (cZ, 163840, .inl g))] s.heap.size = A at hD ⊢
  have hA : ∀ q : Nat, s.heap.size ≤ q → A q := fun q h => by rw [← hAe]; exact Or.inr h
  have hS : va_S A s.heap s.heap [] := va_S.rf
  have hP : va_P (dC, dI) vwCl [(o, .inr (15, bF f)), (ta, .inl (cZ, 163840, .inl g))] s.heap := hP
  have hD : va_D A [(o, .inr (15, bF f)), (ta, .inl (cZ, 163840, .inl g))] := hD
  have hl := lv_entry ([.ref o, .int k, .int b]) (n := 3) (Nat.le_of_ble_eq_true rfl)
  rw [lg_entry_eq]
  generalize (lg_sl ([.ref o, .int k, .int b]) ++ List.replicate (3 - (lg_sl ([.ref o, .int k, .int b])).length) Slot.unset).toArray = ls at hl ⊢
  have hl : lv_has ls 3 [(0, .ref o), (1, .int k), (2, .int b)] := hl
  refine lv_aload_n hx hb dX12_table_0 rfl (lv_at hl 0 rfl) ?_
  refine va_get (D := (dC, dI)) (ci := 15) (v := .ref ta) (C := RX12) (T := TX12) (N := 136) hx hb hu iuX12 hown hK hP 0 rfl rfl 85 (by decide) (hu _ mG_2135) (fun _ h9 => h9) ((bF_get (by decide)).trans (congrArg some (h85))) dX12_table_1 ?_
  refine lv_sipush (v := 256) hx hb dX12_table_4 (by decide) ?_
  refine lv_iload_n hx hb dX12_table_7 rfl (lv_at hl 1 rfl) ?_
  refine lv_imul hx hb dX12_table_8 ?_
  refine lv_topi (fun x8 ex8 => ?_)
  refine lv_iload_n hx hb dX12_table_9 rfl (lv_at hl 2 rfl) ?_
  refine lv_iadd hx hb dX12_table_10 ?_
  refine lv_topi (fun x10 ex10 => ?_)
  refine va_zald hx hb hK hP 1 0 rfl rfl (by rw [ex10, ex8]; exact hk) dX12_table_11 ?_
  rw [show (g (x10).toNatClampNeg) = (g (256 * k + b).toNatClampNeg) from by rw [ex10, ex8]]
  have hP9 : va_P (dC, dI) vwCl [(o, .inr (15, bF f)), (ta, .inl (cZ, 163840, .inl g))] s.heap := by exact hP
  have hD9 : va_D A [(o, .inr (15, bF f)), (ta, .inl (cZ, 163840, .inl g))] := by exact hD
  have hK9 := hK.sub (tys' := [(cZ, .boolean)]) [0] rfl
  exact W.zret (v := (g (256 * k + b).toNatClampNeg)) hx hb hr (by rcases hz with h | h <;> rw [h] <;> decide) (fun t ht hW => ⟨⟨(g (256 * k + b).toNatClampNeg), (), rfl, rfl, by rw [ht]; exact hP9, va_K.moved hW.alike hK9, hD9⟩, hS.F ht⟩) hS.2.2 dX12_table_12
def th_res (k : Int32) : Int32 := if k < 0 ∨ ¬ k ≤ 9 then 1 else 0
set_option maxHeartbeats 4000000 in
set_option maxRecDepth 100000 in
/-- Model.result(k) -/
theorem kX12_result (l : Launch) (dC : Nat → ClassId) (dI : Nat → Nat → Nat) (sz : Nat) (o : Nat) (f : Nat → Value) (k v0 v1 v2 v3 v4 v5 v6 v7 v8 v9 : Int32) (h111 : f 111 = .int v0) (h112 : f 112 = .int v1) (h104 : f 104 = .int v2) (h100 : f 100 = .int v3) (h105 : f 105 = .int v4) (h106 : f 106 = .int v5) (h107 : f 107 = .int v6) (h108 : f 108 = .int v7) (h109 : f 109 = .int v8) (h113 : f 113 = .int v9) : Met l yX12_result (Cond.code yX12_result cX12_result 2 (some .int) :: uG) ({ frames := 0, cells := 0, slots := 0, locals := 0 }) (va_Pc [.ref o, .int k] (fun U => U.heap.size = sz ∧ va_P (dC, dI) vwCl [(o, .inr (15, bF f))] U.heap ∧ va_K (dC, dI) vwCl [] U ∧ va_D (fun _ => True) [(o, .inr (15, bF f))])) (va_Qi (S := Unit) (fun r _ => r = (if k = 0 then v0 else if k = 1 then v1 else if k = 2 then v2 else if k = 3 then v3 else if k = 4 then v4 else if k = 5 then v5 else if k = 6 then v6 else if k = 7 then v7 else if k = 8 then v8 else if th_res k = 0 then v9 else 0)) (fun _ t => va_P (dC, dI) vwCl [(o, .inr (15, bF (va_up f 0 (.int (th_res k)))))] t.heap ∧ va_K (dC, dI) vwCl [] t ∧ va_D (va_A [(o, .inr (15, bF f))] sz) [(o, .inr (15, bF (va_up f 0 (.int (th_res k)))))]) (va_A [(o, .inr (15, bF f))] sz)) 0 0 (va_A [(o, .inr (15, bF f))] sz) := by
  refine Met.ofW (cc := cX12_result) (maxL := 2) (ret := (some .int)) (by decide) rfl ?_
  intro p e s m args below meth c s₁ B hml hv
  obtain ⟨rfl, hsz, hP, hK, hD0⟩ := hv
  have hx := B.exec
  have hb := B.bytes
  have hr := B.returns
  have hts := atoms_spec (ws := Cond.code yX12_result cX12_result 2 (some .int) :: uG) B.pre
  have hu := fun (w : Cond) (h : w ∈ uG) => hts w (List.mem_cons_of_mem _ h)
  have hown : s.vm.findClass RX12 = some m.cls := findClass_of_methodNamed B.named
  have hlocks := B.notSynchronized
  subst hsz
  have hD := hD0.self (sz := s.heap.size)
  generalize hAe : va_A [(o, .inr (15, bF f))] s.heap.size = A at hD ⊢
  have hA : ∀ q : Nat, s.heap.size ≤ q → A q := fun q h => by rw [← hAe]; exact Or.inr h
  have hS : va_S A s.heap s.heap [] := va_S.rf
  have hP : va_P (dC, dI) vwCl [(o, .inr (15, bF f))] s.heap := hP
  have hD : va_D A [(o, .inr (15, bF f))] := hD
  have hl := lv_entry ([.ref o, .int k]) (n := 2) (Nat.le_of_ble_eq_true rfl)
  rw [lg_entry_eq]
  generalize (lg_sl ([.ref o, .int k]) ++ List.replicate (2 - (lg_sl ([.ref o, .int k])).length) Slot.unset).toArray = ls at hl ⊢
  have hl : lv_has ls 2 [(0, .ref o), (1, .int k)] := hl
  refine lv_aload_n hx hb dX12_result_0 rfl (lv_at hl 0 rfl) ?_
  refine lv_iload_n hx hb dX12_result_1 rfl (lv_at hl 1 rfl) ?_
  refine lv_if_lt (tgt := 11) hx hb dX12_result_2 (by decide) (fun c2 => ?_) (fun c2 => ?_)
  · refine lv_iconst (v := 1) hx hb dX12_result_11 (by decide) ?_
    refine lv_goto (tgt := 16) hx hb dX12_result_12 (by decide) ?_
    refine va_put (D := (dC, dI)) (ci := 15) (v := .int 1) (ty := (tyX12 0)) (C := RX12) (T := TX12) (N := 136) hx hb hu iuX12 tyX12 tyX12_ok nmX12 hown hK hP hD hS 0 rfl rfl 0 (by decide) (hu _ mG_2050) (fun _ h9 => h9) rfl (by decide +kernel) (rfl) (rfl) (by rw [bF_len]; decide) dX12_result_16 (fun H locs hP hD hS => ?_)
    rw [show (bF f).set 0 (.int 1) = bF (va_up f 0 (.int 1)) from bF_set (by decide)] at hP hD
    have hP : va_P (dC, dI) vwCl [(o, .inr (15, bF (va_up f 0 (.int 1))))] H := hP
    have hD : va_D A [(o, .inr (15, bF (va_up f 0 (.int 1))))] := hD
    refine lv_iload_n hx hb dX12_result_19 rfl (lv_at hl 1 rfl) ?_
    rcases sw_0_8 (k) with hsw | hsw | hsw | hsw | hsw | hsw | hsw | hsw | hsw | hsw
    · refine lv_tableOut (tgt := 117) hx hb dX12_result_20 hsw (by decide) ?_
      refine lv_aload_n hx hb dX12_result_117 rfl (lv_at hl 0 rfl) ?_
      refine va_get (D := (dC, dI)) (ci := 15) (v := .int 1) (C := RX12) (T := TX12) (N := 136) hx hb hu iuX12 hown hK hP 0 rfl rfl 0 (by decide) (hu _ mG_2050) (fun _ h9 => h9) ((bF_get (by decide)).trans (congrArg some (rfl))) dX12_result_118 ?_
      refine lv_if_le (tgt := 128) hx hb dX12_result_121 (by decide) (fun c121 => ?_) (fun c121 => ?_)
      · exact absurd c121 (by decide)
      · refine lv_iconst (v := 0) hx hb dX12_result_124 (by decide) ?_
        refine lv_goto (tgt := 132) hx hb dX12_result_125 (by decide) ?_
        have e9 : (th_res k : Int32) = 1 := by simp [th_res, c2, c121]
        have hP9 : va_P (dC, dI) vwCl [(o, .inr (15, bF (va_up f 0 (.int (th_res k)))))] H := by rw [e9]; exact hP
        have hD9 : va_D A [(o, .inr (15, bF (va_up f 0 (.int (th_res k)))))] := by rw [e9]; exact hD
        have hK9 := hK.sub (tys' := []) [] rfl
        exact W.iret (v := 0) hx hb hr (fun t ht hW => ⟨⟨0, (), rfl, by simp [th_res, c2, c121, swo_0_8 hsw], by rw [ht]; exact hP9, va_K.moved hW.alike hK9, hD9⟩, hS.F ht⟩) hS.2.2 dX12_result_132
    · refine lv_tableIn (off := 52) (tgt := 72) hx hb dX12_result_20 (by rw [hsw]; decide) (by rw [hsw]; decide) (by rw [hsw]; decide) (by decide) ?_
      refine lv_aload_n hx hb dX12_result_72 rfl (lv_at hl 0 rfl) ?_
      refine va_get (D := (dC, dI)) (ci := 15) (v := .int v0) (C := RX12) (T := TX12) (N := 136) hx hb hu iuX12 hown hK hP 0 rfl rfl 111 (by decide) (hu _ mG_2161) (fun _ h9 => h9) ((bF_get (by decide)).trans (congrArg some (h111))) dX12_result_73 ?_
      have e9 : (th_res k : Int32) = 1 := by simp [th_res, c2]
      have hP9 : va_P (dC, dI) vwCl [(o, .inr (15, bF (va_up f 0 (.int (th_res k)))))] H := by rw [e9]; exact hP
      have hD9 : va_D A [(o, .inr (15, bF (va_up f 0 (.int (th_res k)))))] := by rw [e9]; exact hD
      have hK9 := hK.sub (tys' := []) [] rfl
      exact W.iret (v := v0) hx hb hr (fun t ht hW => ⟨⟨v0, (), rfl, by simp [th_res, c2, hsw], by rw [ht]; exact hP9, va_K.moved hW.alike hK9, hD9⟩, hS.F ht⟩) hS.2.2 dX12_result_76
    · refine lv_tableIn (off := 57) (tgt := 77) hx hb dX12_result_20 (by rw [hsw]; decide) (by rw [hsw]; decide) (by rw [hsw]; decide) (by decide) ?_
      refine lv_aload_n hx hb dX12_result_77 rfl (lv_at hl 0 rfl) ?_
      refine va_get (D := (dC, dI)) (ci := 15) (v := .int v1) (C := RX12) (T := TX12) (N := 136) hx hb hu iuX12 hown hK hP 0 rfl rfl 112 (by decide) (hu _ mG_2162) (fun _ h9 => h9) ((bF_get (by decide)).trans (congrArg some (h112))) dX12_result_78 ?_
      have e9 : (th_res k : Int32) = 1 := by simp [th_res, c2]
      have hP9 : va_P (dC, dI) vwCl [(o, .inr (15, bF (va_up f 0 (.int (th_res k)))))] H := by rw [e9]; exact hP
      have hD9 : va_D A [(o, .inr (15, bF (va_up f 0 (.int (th_res k)))))] := by rw [e9]; exact hD
      have hK9 := hK.sub (tys' := []) [] rfl
      exact W.iret (v := v1) hx hb hr (fun t ht hW => ⟨⟨v1, (), rfl, by simp [th_res, c2, hsw], by rw [ht]; exact hP9, va_K.moved hW.alike hK9, hD9⟩, hS.F ht⟩) hS.2.2 dX12_result_81
    · refine lv_tableIn (off := 62) (tgt := 82) hx hb dX12_result_20 (by rw [hsw]; decide) (by rw [hsw]; decide) (by rw [hsw]; decide) (by decide) ?_
      refine lv_aload_n hx hb dX12_result_82 rfl (lv_at hl 0 rfl) ?_
      refine va_get (D := (dC, dI)) (ci := 15) (v := .int v2) (C := RX12) (T := TX12) (N := 136) hx hb hu iuX12 hown hK hP 0 rfl rfl 104 (by decide) (hu _ mG_2154) (fun _ h9 => h9) ((bF_get (by decide)).trans (congrArg some (h104))) dX12_result_83 ?_
      have e9 : (th_res k : Int32) = 1 := by simp [th_res, c2]
      have hP9 : va_P (dC, dI) vwCl [(o, .inr (15, bF (va_up f 0 (.int (th_res k)))))] H := by rw [e9]; exact hP
      have hD9 : va_D A [(o, .inr (15, bF (va_up f 0 (.int (th_res k)))))] := by rw [e9]; exact hD
      have hK9 := hK.sub (tys' := []) [] rfl
      exact W.iret (v := v2) hx hb hr (fun t ht hW => ⟨⟨v2, (), rfl, by simp [th_res, c2, hsw], by rw [ht]; exact hP9, va_K.moved hW.alike hK9, hD9⟩, hS.F ht⟩) hS.2.2 dX12_result_86
    · refine lv_tableIn (off := 67) (tgt := 87) hx hb dX12_result_20 (by rw [hsw]; decide) (by rw [hsw]; decide) (by rw [hsw]; decide) (by decide) ?_
      refine lv_aload_n hx hb dX12_result_87 rfl (lv_at hl 0 rfl) ?_
      refine va_get (D := (dC, dI)) (ci := 15) (v := .int v3) (C := RX12) (T := TX12) (N := 136) hx hb hu iuX12 hown hK hP 0 rfl rfl 100 (by decide) (hu _ mG_2150) (fun _ h9 => h9) ((bF_get (by decide)).trans (congrArg some (h100))) dX12_result_88 ?_
      have e9 : (th_res k : Int32) = 1 := by simp [th_res, c2]
      have hP9 : va_P (dC, dI) vwCl [(o, .inr (15, bF (va_up f 0 (.int (th_res k)))))] H := by rw [e9]; exact hP
      have hD9 : va_D A [(o, .inr (15, bF (va_up f 0 (.int (th_res k)))))] := by rw [e9]; exact hD
      have hK9 := hK.sub (tys' := []) [] rfl
      exact W.iret (v := v3) hx hb hr (fun t ht hW => ⟨⟨v3, (), rfl, by simp [th_res, c2, hsw], by rw [ht]; exact hP9, va_K.moved hW.alike hK9, hD9⟩, hS.F ht⟩) hS.2.2 dX12_result_91
    · refine lv_tableIn (off := 72) (tgt := 92) hx hb dX12_result_20 (by rw [hsw]; decide) (by rw [hsw]; decide) (by rw [hsw]; decide) (by decide) ?_
      refine lv_aload_n hx hb dX12_result_92 rfl (lv_at hl 0 rfl) ?_
      refine va_get (D := (dC, dI)) (ci := 15) (v := .int v4) (C := RX12) (T := TX12) (N := 136) hx hb hu iuX12 hown hK hP 0 rfl rfl 105 (by decide) (hu _ mG_2155) (fun _ h9 => h9) ((bF_get (by decide)).trans (congrArg some (h105))) dX12_result_93 ?_
      have e9 : (th_res k : Int32) = 1 := by simp [th_res, c2]
      have hP9 : va_P (dC, dI) vwCl [(o, .inr (15, bF (va_up f 0 (.int (th_res k)))))] H := by rw [e9]; exact hP
      have hD9 : va_D A [(o, .inr (15, bF (va_up f 0 (.int (th_res k)))))] := by rw [e9]; exact hD
      have hK9 := hK.sub (tys' := []) [] rfl
      exact W.iret (v := v4) hx hb hr (fun t ht hW => ⟨⟨v4, (), rfl, by simp [th_res, c2, hsw], by rw [ht]; exact hP9, va_K.moved hW.alike hK9, hD9⟩, hS.F ht⟩) hS.2.2 dX12_result_96
    · refine lv_tableIn (off := 77) (tgt := 97) hx hb dX12_result_20 (by rw [hsw]; decide) (by rw [hsw]; decide) (by rw [hsw]; decide) (by decide) ?_
      refine lv_aload_n hx hb dX12_result_97 rfl (lv_at hl 0 rfl) ?_
      refine va_get (D := (dC, dI)) (ci := 15) (v := .int v5) (C := RX12) (T := TX12) (N := 136) hx hb hu iuX12 hown hK hP 0 rfl rfl 106 (by decide) (hu _ mG_2156) (fun _ h9 => h9) ((bF_get (by decide)).trans (congrArg some (h106))) dX12_result_98 ?_
      have e9 : (th_res k : Int32) = 1 := by simp [th_res, c2]
      have hP9 : va_P (dC, dI) vwCl [(o, .inr (15, bF (va_up f 0 (.int (th_res k)))))] H := by rw [e9]; exact hP
      have hD9 : va_D A [(o, .inr (15, bF (va_up f 0 (.int (th_res k)))))] := by rw [e9]; exact hD
      have hK9 := hK.sub (tys' := []) [] rfl
      exact W.iret (v := v5) hx hb hr (fun t ht hW => ⟨⟨v5, (), rfl, by simp [th_res, c2, hsw], by rw [ht]; exact hP9, va_K.moved hW.alike hK9, hD9⟩, hS.F ht⟩) hS.2.2 dX12_result_101
    · refine lv_tableIn (off := 82) (tgt := 102) hx hb dX12_result_20 (by rw [hsw]; decide) (by rw [hsw]; decide) (by rw [hsw]; decide) (by decide) ?_
      refine lv_aload_n hx hb dX12_result_102 rfl (lv_at hl 0 rfl) ?_
      refine va_get (D := (dC, dI)) (ci := 15) (v := .int v6) (C := RX12) (T := TX12) (N := 136) hx hb hu iuX12 hown hK hP 0 rfl rfl 107 (by decide) (hu _ mG_2157) (fun _ h9 => h9) ((bF_get (by decide)).trans (congrArg some (h107))) dX12_result_103 ?_
      have e9 : (th_res k : Int32) = 1 := by simp [th_res, c2]
      have hP9 : va_P (dC, dI) vwCl [(o, .inr (15, bF (va_up f 0 (.int (th_res k)))))] H := by rw [e9]; exact hP
      have hD9 : va_D A [(o, .inr (15, bF (va_up f 0 (.int (th_res k)))))] := by rw [e9]; exact hD
      have hK9 := hK.sub (tys' := []) [] rfl
      exact W.iret (v := v6) hx hb hr (fun t ht hW => ⟨⟨v6, (), rfl, by simp [th_res, c2, hsw], by rw [ht]; exact hP9, va_K.moved hW.alike hK9, hD9⟩, hS.F ht⟩) hS.2.2 dX12_result_106
    · refine lv_tableIn (off := 87) (tgt := 107) hx hb dX12_result_20 (by rw [hsw]; decide) (by rw [hsw]; decide) (by rw [hsw]; decide) (by decide) ?_
      refine lv_aload_n hx hb dX12_result_107 rfl (lv_at hl 0 rfl) ?_
      refine va_get (D := (dC, dI)) (ci := 15) (v := .int v7) (C := RX12) (T := TX12) (N := 136) hx hb hu iuX12 hown hK hP 0 rfl rfl 108 (by decide) (hu _ mG_2158) (fun _ h9 => h9) ((bF_get (by decide)).trans (congrArg some (h108))) dX12_result_108 ?_
      have e9 : (th_res k : Int32) = 1 := by simp [th_res, c2]
      have hP9 : va_P (dC, dI) vwCl [(o, .inr (15, bF (va_up f 0 (.int (th_res k)))))] H := by rw [e9]; exact hP
      have hD9 : va_D A [(o, .inr (15, bF (va_up f 0 (.int (th_res k)))))] := by rw [e9]; exact hD
      have hK9 := hK.sub (tys' := []) [] rfl
      exact W.iret (v := v7) hx hb hr (fun t ht hW => ⟨⟨v7, (), rfl, by simp [th_res, c2, hsw], by rw [ht]; exact hP9, va_K.moved hW.alike hK9, hD9⟩, hS.F ht⟩) hS.2.2 dX12_result_111
    · refine lv_tableIn (off := 92) (tgt := 112) hx hb dX12_result_20 (by rw [hsw]; decide) (by rw [hsw]; decide) (by rw [hsw]; decide) (by decide) ?_
      refine lv_aload_n hx hb dX12_result_112 rfl (lv_at hl 0 rfl) ?_
      refine va_get (D := (dC, dI)) (ci := 15) (v := .int v8) (C := RX12) (T := TX12) (N := 136) hx hb hu iuX12 hown hK hP 0 rfl rfl 109 (by decide) (hu _ mG_2159) (fun _ h9 => h9) ((bF_get (by decide)).trans (congrArg some (h109))) dX12_result_113 ?_
      have e9 : (th_res k : Int32) = 1 := by simp [th_res, c2]
      have hP9 : va_P (dC, dI) vwCl [(o, .inr (15, bF (va_up f 0 (.int (th_res k)))))] H := by rw [e9]; exact hP
      have hD9 : va_D A [(o, .inr (15, bF (va_up f 0 (.int (th_res k)))))] := by rw [e9]; exact hD
      have hK9 := hK.sub (tys' := []) [] rfl
      exact W.iret (v := v8) hx hb hr (fun t ht hW => ⟨⟨v8, (), rfl, by simp [th_res, c2, hsw], by rw [ht]; exact hP9, va_K.moved hW.alike hK9, hD9⟩, hS.F ht⟩) hS.2.2 dX12_result_116
  · refine lv_iload_n hx hb dX12_result_5 rfl (lv_at hl 1 rfl) ?_
    refine lv_bipush (v := 9) hx hb dX12_result_6 (by decide) ?_
    refine lv_icmp_le (tgt := 15) hx hb dX12_result_8 (by decide) (fun c8 => ?_) (fun c8 => ?_)
    · refine lv_iconst (v := 0) hx hb dX12_result_15 (by decide) ?_
      refine va_put (D := (dC, dI)) (ci := 15) (v := .int 0) (ty := (tyX12 0)) (C := RX12) (T := TX12) (N := 136) hx hb hu iuX12 tyX12 tyX12_ok nmX12 hown hK hP hD hS 0 rfl rfl 0 (by decide) (hu _ mG_2050) (fun _ h9 => h9) rfl (by decide +kernel) (rfl) (rfl) (by rw [bF_len]; decide) dX12_result_16 (fun H locs hP hD hS => ?_)
      rw [show (bF f).set 0 (.int 0) = bF (va_up f 0 (.int 0)) from bF_set (by decide)] at hP hD
      have hP : va_P (dC, dI) vwCl [(o, .inr (15, bF (va_up f 0 (.int 0))))] H := hP
      have hD : va_D A [(o, .inr (15, bF (va_up f 0 (.int 0))))] := hD
      refine lv_iload_n hx hb dX12_result_19 rfl (lv_at hl 1 rfl) ?_
      rcases sw_0_8 (k) with hsw | hsw | hsw | hsw | hsw | hsw | hsw | hsw | hsw | hsw
      · refine lv_tableOut (tgt := 117) hx hb dX12_result_20 hsw (by decide) ?_
        refine lv_aload_n hx hb dX12_result_117 rfl (lv_at hl 0 rfl) ?_
        refine va_get (D := (dC, dI)) (ci := 15) (v := .int 0) (C := RX12) (T := TX12) (N := 136) hx hb hu iuX12 hown hK hP 0 rfl rfl 0 (by decide) (hu _ mG_2050) (fun _ h9 => h9) ((bF_get (by decide)).trans (congrArg some (rfl))) dX12_result_118 ?_
        refine lv_if_le (tgt := 128) hx hb dX12_result_121 (by decide) (fun c121 => ?_) (fun c121 => ?_)
        · refine lv_aload_n hx hb dX12_result_128 rfl (lv_at hl 0 rfl) ?_
          refine va_get (D := (dC, dI)) (ci := 15) (v := .int v9) (C := RX12) (T := TX12) (N := 136) hx hb hu iuX12 hown hK hP 0 rfl rfl 113 (by decide) (hu _ mG_2163) (fun _ h9 => h9) ((bF_get (by decide)).trans (congrArg some (h113))) dX12_result_129 ?_
          have e9 : (th_res k : Int32) = 0 := by simp [th_res, c2, c8, c121]
          have hP9 : va_P (dC, dI) vwCl [(o, .inr (15, bF (va_up f 0 (.int (th_res k)))))] H := by rw [e9]; exact hP
          have hD9 : va_D A [(o, .inr (15, bF (va_up f 0 (.int (th_res k)))))] := by rw [e9]; exact hD
          have hK9 := hK.sub (tys' := []) [] rfl
          exact W.iret (v := v9) hx hb hr (fun t ht hW => ⟨⟨v9, (), rfl, by simp [th_res, c2, c8, c121, swo_0_8 hsw], by rw [ht]; exact hP9, va_K.moved hW.alike hK9, hD9⟩, hS.F ht⟩) hS.2.2 dX12_result_132
        · exact absurd (by decide) c121
      · refine lv_tableIn (off := 52) (tgt := 72) hx hb dX12_result_20 (by rw [hsw]; decide) (by rw [hsw]; decide) (by rw [hsw]; decide) (by decide) ?_
        refine lv_aload_n hx hb dX12_result_72 rfl (lv_at hl 0 rfl) ?_
        refine va_get (D := (dC, dI)) (ci := 15) (v := .int v0) (C := RX12) (T := TX12) (N := 136) hx hb hu iuX12 hown hK hP 0 rfl rfl 111 (by decide) (hu _ mG_2161) (fun _ h9 => h9) ((bF_get (by decide)).trans (congrArg some (h111))) dX12_result_73 ?_
        have e9 : (th_res k : Int32) = 0 := by simp [th_res, c2, c8]
        have hP9 : va_P (dC, dI) vwCl [(o, .inr (15, bF (va_up f 0 (.int (th_res k)))))] H := by rw [e9]; exact hP
        have hD9 : va_D A [(o, .inr (15, bF (va_up f 0 (.int (th_res k)))))] := by rw [e9]; exact hD
        have hK9 := hK.sub (tys' := []) [] rfl
        exact W.iret (v := v0) hx hb hr (fun t ht hW => ⟨⟨v0, (), rfl, by simp [th_res, c2, c8, hsw], by rw [ht]; exact hP9, va_K.moved hW.alike hK9, hD9⟩, hS.F ht⟩) hS.2.2 dX12_result_76
      · refine lv_tableIn (off := 57) (tgt := 77) hx hb dX12_result_20 (by rw [hsw]; decide) (by rw [hsw]; decide) (by rw [hsw]; decide) (by decide) ?_
        refine lv_aload_n hx hb dX12_result_77 rfl (lv_at hl 0 rfl) ?_
        refine va_get (D := (dC, dI)) (ci := 15) (v := .int v1) (C := RX12) (T := TX12) (N := 136) hx hb hu iuX12 hown hK hP 0 rfl rfl 112 (by decide) (hu _ mG_2162) (fun _ h9 => h9) ((bF_get (by decide)).trans (congrArg some (h112))) dX12_result_78 ?_
        have e9 : (th_res k : Int32) = 0 := by simp [th_res, c2, c8]
        have hP9 : va_P (dC, dI) vwCl [(o, .inr (15, bF (va_up f 0 (.int (th_res k)))))] H := by rw [e9]; exact hP
        have hD9 : va_D A [(o, .inr (15, bF (va_up f 0 (.int (th_res k)))))] := by rw [e9]; exact hD
        have hK9 := hK.sub (tys' := []) [] rfl
        exact W.iret (v := v1) hx hb hr (fun t ht hW => ⟨⟨v1, (), rfl, by simp [th_res, c2, c8, hsw], by rw [ht]; exact hP9, va_K.moved hW.alike hK9, hD9⟩, hS.F ht⟩) hS.2.2 dX12_result_81
      · refine lv_tableIn (off := 62) (tgt := 82) hx hb dX12_result_20 (by rw [hsw]; decide) (by rw [hsw]; decide) (by rw [hsw]; decide) (by decide) ?_
        refine lv_aload_n hx hb dX12_result_82 rfl (lv_at hl 0 rfl) ?_
        refine va_get (D := (dC, dI)) (ci := 15) (v := .int v2) (C := RX12) (T := TX12) (N := 136) hx hb hu iuX12 hown hK hP 0 rfl rfl 104 (by decide) (hu _ mG_2154) (fun _ h9 => h9) ((bF_get (by decide)).trans (congrArg some (h104))) dX12_result_83 ?_
        have e9 : (th_res k : Int32) = 0 := by simp [th_res, c2, c8]
        have hP9 : va_P (dC, dI) vwCl [(o, .inr (15, bF (va_up f 0 (.int (th_res k)))))] H := by rw [e9]; exact hP
        have hD9 : va_D A [(o, .inr (15, bF (va_up f 0 (.int (th_res k)))))] := by rw [e9]; exact hD
        have hK9 := hK.sub (tys' := []) [] rfl
        exact W.iret (v := v2) hx hb hr (fun t ht hW => ⟨⟨v2, (), rfl, by simp [th_res, c2, c8, hsw], by rw [ht]; exact hP9, va_K.moved hW.alike hK9, hD9⟩, hS.F ht⟩) hS.2.2 dX12_result_86
      · refine lv_tableIn (off := 67) (tgt := 87) hx hb dX12_result_20 (by rw [hsw]; decide) (by rw [hsw]; decide) (by rw [hsw]; decide) (by decide) ?_
        refine lv_aload_n hx hb dX12_result_87 rfl (lv_at hl 0 rfl) ?_
        refine va_get (D := (dC, dI)) (ci := 15) (v := .int v3) (C := RX12) (T := TX12) (N := 136) hx hb hu iuX12 hown hK hP 0 rfl rfl 100 (by decide) (hu _ mG_2150) (fun _ h9 => h9) ((bF_get (by decide)).trans (congrArg some (h100))) dX12_result_88 ?_
        have e9 : (th_res k : Int32) = 0 := by simp [th_res, c2, c8]
        have hP9 : va_P (dC, dI) vwCl [(o, .inr (15, bF (va_up f 0 (.int (th_res k)))))] H := by rw [e9]; exact hP
        have hD9 : va_D A [(o, .inr (15, bF (va_up f 0 (.int (th_res k)))))] := by rw [e9]; exact hD
        have hK9 := hK.sub (tys' := []) [] rfl
        exact W.iret (v := v3) hx hb hr (fun t ht hW => ⟨⟨v3, (), rfl, by simp [th_res, c2, c8, hsw], by rw [ht]; exact hP9, va_K.moved hW.alike hK9, hD9⟩, hS.F ht⟩) hS.2.2 dX12_result_91
      · refine lv_tableIn (off := 72) (tgt := 92) hx hb dX12_result_20 (by rw [hsw]; decide) (by rw [hsw]; decide) (by rw [hsw]; decide) (by decide) ?_
        refine lv_aload_n hx hb dX12_result_92 rfl (lv_at hl 0 rfl) ?_
        refine va_get (D := (dC, dI)) (ci := 15) (v := .int v4) (C := RX12) (T := TX12) (N := 136) hx hb hu iuX12 hown hK hP 0 rfl rfl 105 (by decide) (hu _ mG_2155) (fun _ h9 => h9) ((bF_get (by decide)).trans (congrArg some (h105))) dX12_result_93 ?_
        have e9 : (th_res k : Int32) = 0 := by simp [th_res, c2, c8]
        have hP9 : va_P (dC, dI) vwCl [(o, .inr (15, bF (va_up f 0 (.int (th_res k)))))] H := by rw [e9]; exact hP
        have hD9 : va_D A [(o, .inr (15, bF (va_up f 0 (.int (th_res k)))))] := by rw [e9]; exact hD
        have hK9 := hK.sub (tys' := []) [] rfl
        exact W.iret (v := v4) hx hb hr (fun t ht hW => ⟨⟨v4, (), rfl, by simp [th_res, c2, c8, hsw], by rw [ht]; exact hP9, va_K.moved hW.alike hK9, hD9⟩, hS.F ht⟩) hS.2.2 dX12_result_96
      · refine lv_tableIn (off := 77) (tgt := 97) hx hb dX12_result_20 (by rw [hsw]; decide) (by rw [hsw]; decide) (by rw [hsw]; decide) (by decide) ?_
        refine lv_aload_n hx hb dX12_result_97 rfl (lv_at hl 0 rfl) ?_
        refine va_get (D := (dC, dI)) (ci := 15) (v := .int v5) (C := RX12) (T := TX12) (N := 136) hx hb hu iuX12 hown hK hP 0 rfl rfl 106 (by decide) (hu _ mG_2156) (fun _ h9 => h9) ((bF_get (by decide)).trans (congrArg some (h106))) dX12_result_98 ?_
        have e9 : (th_res k : Int32) = 0 := by simp [th_res, c2, c8]
        have hP9 : va_P (dC, dI) vwCl [(o, .inr (15, bF (va_up f 0 (.int (th_res k)))))] H := by rw [e9]; exact hP
        have hD9 : va_D A [(o, .inr (15, bF (va_up f 0 (.int (th_res k)))))] := by rw [e9]; exact hD
        have hK9 := hK.sub (tys' := []) [] rfl
        exact W.iret (v := v5) hx hb hr (fun t ht hW => ⟨⟨v5, (), rfl, by simp [th_res, c2, c8, hsw], by rw [ht]; exact hP9, va_K.moved hW.alike hK9, hD9⟩, hS.F ht⟩) hS.2.2 dX12_result_101
      · refine lv_tableIn (off := 82) (tgt := 102) hx hb dX12_result_20 (by rw [hsw]; decide) (by rw [hsw]; decide) (by rw [hsw]; decide) (by decide) ?_
        refine lv_aload_n hx hb dX12_result_102 rfl (lv_at hl 0 rfl) ?_
        refine va_get (D := (dC, dI)) (ci := 15) (v := .int v6) (C := RX12) (T := TX12) (N := 136) hx hb hu iuX12 hown hK hP 0 rfl rfl 107 (by decide) (hu _ mG_2157) (fun _ h9 => h9) ((bF_get (by decide)).trans (congrArg some (h107))) dX12_result_103 ?_
        have e9 : (th_res k : Int32) = 0 := by simp [th_res, c2, c8]
        have hP9 : va_P (dC, dI) vwCl [(o, .inr (15, bF (va_up f 0 (.int (th_res k)))))] H := by rw [e9]; exact hP
        have hD9 : va_D A [(o, .inr (15, bF (va_up f 0 (.int (th_res k)))))] := by rw [e9]; exact hD
        have hK9 := hK.sub (tys' := []) [] rfl
        exact W.iret (v := v6) hx hb hr (fun t ht hW => ⟨⟨v6, (), rfl, by simp [th_res, c2, c8, hsw], by rw [ht]; exact hP9, va_K.moved hW.alike hK9, hD9⟩, hS.F ht⟩) hS.2.2 dX12_result_106
      · refine lv_tableIn (off := 87) (tgt := 107) hx hb dX12_result_20 (by rw [hsw]; decide) (by rw [hsw]; decide) (by rw [hsw]; decide) (by decide) ?_
        refine lv_aload_n hx hb dX12_result_107 rfl (lv_at hl 0 rfl) ?_
        refine va_get (D := (dC, dI)) (ci := 15) (v := .int v7) (C := RX12) (T := TX12) (N := 136) hx hb hu iuX12 hown hK hP 0 rfl rfl 108 (by decide) (hu _ mG_2158) (fun _ h9 => h9) ((bF_get (by decide)).trans (congrArg some (h108))) dX12_result_108 ?_
        have e9 : (th_res k : Int32) = 0 := by simp [th_res, c2, c8]
        have hP9 : va_P (dC, dI) vwCl [(o, .inr (15, bF (va_up f 0 (.int (th_res k)))))] H := by rw [e9]; exact hP
        have hD9 : va_D A [(o, .inr (15, bF (va_up f 0 (.int (th_res k)))))] := by rw [e9]; exact hD
        have hK9 := hK.sub (tys' := []) [] rfl
        exact W.iret (v := v7) hx hb hr (fun t ht hW => ⟨⟨v7, (), rfl, by simp [th_res, c2, c8, hsw], by rw [ht]; exact hP9, va_K.moved hW.alike hK9, hD9⟩, hS.F ht⟩) hS.2.2 dX12_result_111
      · refine lv_tableIn (off := 92) (tgt := 112) hx hb dX12_result_20 (by rw [hsw]; decide) (by rw [hsw]; decide) (by rw [hsw]; decide) (by decide) ?_
        refine lv_aload_n hx hb dX12_result_112 rfl (lv_at hl 0 rfl) ?_
        refine va_get (D := (dC, dI)) (ci := 15) (v := .int v8) (C := RX12) (T := TX12) (N := 136) hx hb hu iuX12 hown hK hP 0 rfl rfl 109 (by decide) (hu _ mG_2159) (fun _ h9 => h9) ((bF_get (by decide)).trans (congrArg some (h109))) dX12_result_113 ?_
        have e9 : (th_res k : Int32) = 0 := by simp [th_res, c2, c8]
        have hP9 : va_P (dC, dI) vwCl [(o, .inr (15, bF (va_up f 0 (.int (th_res k)))))] H := by rw [e9]; exact hP
        have hD9 : va_D A [(o, .inr (15, bF (va_up f 0 (.int (th_res k)))))] := by rw [e9]; exact hD
        have hK9 := hK.sub (tys' := []) [] rfl
        exact W.iret (v := v8) hx hb hr (fun t ht hW => ⟨⟨v8, (), rfl, by simp [th_res, c2, c8, hsw], by rw [ht]; exact hP9, va_K.moved hW.alike hK9, hD9⟩, hS.F ht⟩) hS.2.2 dX12_result_116
    · refine lv_iconst (v := 1) hx hb dX12_result_11 (by decide) ?_
      refine lv_goto (tgt := 16) hx hb dX12_result_12 (by decide) ?_
      refine va_put (D := (dC, dI)) (ci := 15) (v := .int 1) (ty := (tyX12 0)) (C := RX12) (T := TX12) (N := 136) hx hb hu iuX12 tyX12 tyX12_ok nmX12 hown hK hP hD hS 0 rfl rfl 0 (by decide) (hu _ mG_2050) (fun _ h9 => h9) rfl (by decide +kernel) (rfl) (rfl) (by rw [bF_len]; decide) dX12_result_16 (fun H locs hP hD hS => ?_)
      rw [show (bF f).set 0 (.int 1) = bF (va_up f 0 (.int 1)) from bF_set (by decide)] at hP hD
      have hP : va_P (dC, dI) vwCl [(o, .inr (15, bF (va_up f 0 (.int 1))))] H := hP
      have hD : va_D A [(o, .inr (15, bF (va_up f 0 (.int 1))))] := hD
      refine lv_iload_n hx hb dX12_result_19 rfl (lv_at hl 1 rfl) ?_
      rcases sw_0_8 (k) with hsw | hsw | hsw | hsw | hsw | hsw | hsw | hsw | hsw | hsw
      · refine lv_tableOut (tgt := 117) hx hb dX12_result_20 hsw (by decide) ?_
        refine lv_aload_n hx hb dX12_result_117 rfl (lv_at hl 0 rfl) ?_
        refine va_get (D := (dC, dI)) (ci := 15) (v := .int 1) (C := RX12) (T := TX12) (N := 136) hx hb hu iuX12 hown hK hP 0 rfl rfl 0 (by decide) (hu _ mG_2050) (fun _ h9 => h9) ((bF_get (by decide)).trans (congrArg some (rfl))) dX12_result_118 ?_
        refine lv_if_le (tgt := 128) hx hb dX12_result_121 (by decide) (fun c121 => ?_) (fun c121 => ?_)
        · exact absurd c121 (by decide)
        · refine lv_iconst (v := 0) hx hb dX12_result_124 (by decide) ?_
          refine lv_goto (tgt := 132) hx hb dX12_result_125 (by decide) ?_
          have e9 : (th_res k : Int32) = 1 := by simp [th_res, c2, c8, c121]
          have hP9 : va_P (dC, dI) vwCl [(o, .inr (15, bF (va_up f 0 (.int (th_res k)))))] H := by rw [e9]; exact hP
          have hD9 : va_D A [(o, .inr (15, bF (va_up f 0 (.int (th_res k)))))] := by rw [e9]; exact hD
          have hK9 := hK.sub (tys' := []) [] rfl
          exact W.iret (v := 0) hx hb hr (fun t ht hW => ⟨⟨0, (), rfl, by simp [th_res, c2, c8, c121, swo_0_8 hsw], by rw [ht]; exact hP9, va_K.moved hW.alike hK9, hD9⟩, hS.F ht⟩) hS.2.2 dX12_result_132
      · refine lv_tableIn (off := 52) (tgt := 72) hx hb dX12_result_20 (by rw [hsw]; decide) (by rw [hsw]; decide) (by rw [hsw]; decide) (by decide) ?_
        refine lv_aload_n hx hb dX12_result_72 rfl (lv_at hl 0 rfl) ?_
        refine va_get (D := (dC, dI)) (ci := 15) (v := .int v0) (C := RX12) (T := TX12) (N := 136) hx hb hu iuX12 hown hK hP 0 rfl rfl 111 (by decide) (hu _ mG_2161) (fun _ h9 => h9) ((bF_get (by decide)).trans (congrArg some (h111))) dX12_result_73 ?_
        have e9 : (th_res k : Int32) = 1 := by simp [th_res, c2, c8]
        have hP9 : va_P (dC, dI) vwCl [(o, .inr (15, bF (va_up f 0 (.int (th_res k)))))] H := by rw [e9]; exact hP
        have hD9 : va_D A [(o, .inr (15, bF (va_up f 0 (.int (th_res k)))))] := by rw [e9]; exact hD
        have hK9 := hK.sub (tys' := []) [] rfl
        exact W.iret (v := v0) hx hb hr (fun t ht hW => ⟨⟨v0, (), rfl, by simp [th_res, c2, c8, hsw], by rw [ht]; exact hP9, va_K.moved hW.alike hK9, hD9⟩, hS.F ht⟩) hS.2.2 dX12_result_76
      · refine lv_tableIn (off := 57) (tgt := 77) hx hb dX12_result_20 (by rw [hsw]; decide) (by rw [hsw]; decide) (by rw [hsw]; decide) (by decide) ?_
        refine lv_aload_n hx hb dX12_result_77 rfl (lv_at hl 0 rfl) ?_
        refine va_get (D := (dC, dI)) (ci := 15) (v := .int v1) (C := RX12) (T := TX12) (N := 136) hx hb hu iuX12 hown hK hP 0 rfl rfl 112 (by decide) (hu _ mG_2162) (fun _ h9 => h9) ((bF_get (by decide)).trans (congrArg some (h112))) dX12_result_78 ?_
        have e9 : (th_res k : Int32) = 1 := by simp [th_res, c2, c8]
        have hP9 : va_P (dC, dI) vwCl [(o, .inr (15, bF (va_up f 0 (.int (th_res k)))))] H := by rw [e9]; exact hP
        have hD9 : va_D A [(o, .inr (15, bF (va_up f 0 (.int (th_res k)))))] := by rw [e9]; exact hD
        have hK9 := hK.sub (tys' := []) [] rfl
        exact W.iret (v := v1) hx hb hr (fun t ht hW => ⟨⟨v1, (), rfl, by simp [th_res, c2, c8, hsw], by rw [ht]; exact hP9, va_K.moved hW.alike hK9, hD9⟩, hS.F ht⟩) hS.2.2 dX12_result_81
      · refine lv_tableIn (off := 62) (tgt := 82) hx hb dX12_result_20 (by rw [hsw]; decide) (by rw [hsw]; decide) (by rw [hsw]; decide) (by decide) ?_
        refine lv_aload_n hx hb dX12_result_82 rfl (lv_at hl 0 rfl) ?_
        refine va_get (D := (dC, dI)) (ci := 15) (v := .int v2) (C := RX12) (T := TX12) (N := 136) hx hb hu iuX12 hown hK hP 0 rfl rfl 104 (by decide) (hu _ mG_2154) (fun _ h9 => h9) ((bF_get (by decide)).trans (congrArg some (h104))) dX12_result_83 ?_
        have e9 : (th_res k : Int32) = 1 := by simp [th_res, c2, c8]
        have hP9 : va_P (dC, dI) vwCl [(o, .inr (15, bF (va_up f 0 (.int (th_res k)))))] H := by rw [e9]; exact hP
        have hD9 : va_D A [(o, .inr (15, bF (va_up f 0 (.int (th_res k)))))] := by rw [e9]; exact hD
        have hK9 := hK.sub (tys' := []) [] rfl
        exact W.iret (v := v2) hx hb hr (fun t ht hW => ⟨⟨v2, (), rfl, by simp [th_res, c2, c8, hsw], by rw [ht]; exact hP9, va_K.moved hW.alike hK9, hD9⟩, hS.F ht⟩) hS.2.2 dX12_result_86
      · refine lv_tableIn (off := 67) (tgt := 87) hx hb dX12_result_20 (by rw [hsw]; decide) (by rw [hsw]; decide) (by rw [hsw]; decide) (by decide) ?_
        refine lv_aload_n hx hb dX12_result_87 rfl (lv_at hl 0 rfl) ?_
        refine va_get (D := (dC, dI)) (ci := 15) (v := .int v3) (C := RX12) (T := TX12) (N := 136) hx hb hu iuX12 hown hK hP 0 rfl rfl 100 (by decide) (hu _ mG_2150) (fun _ h9 => h9) ((bF_get (by decide)).trans (congrArg some (h100))) dX12_result_88 ?_
        have e9 : (th_res k : Int32) = 1 := by simp [th_res, c2, c8]
        have hP9 : va_P (dC, dI) vwCl [(o, .inr (15, bF (va_up f 0 (.int (th_res k)))))] H := by rw [e9]; exact hP
        have hD9 : va_D A [(o, .inr (15, bF (va_up f 0 (.int (th_res k)))))] := by rw [e9]; exact hD
        have hK9 := hK.sub (tys' := []) [] rfl
        exact W.iret (v := v3) hx hb hr (fun t ht hW => ⟨⟨v3, (), rfl, by simp [th_res, c2, c8, hsw], by rw [ht]; exact hP9, va_K.moved hW.alike hK9, hD9⟩, hS.F ht⟩) hS.2.2 dX12_result_91
      · refine lv_tableIn (off := 72) (tgt := 92) hx hb dX12_result_20 (by rw [hsw]; decide) (by rw [hsw]; decide) (by rw [hsw]; decide) (by decide) ?_
        refine lv_aload_n hx hb dX12_result_92 rfl (lv_at hl 0 rfl) ?_
        refine va_get (D := (dC, dI)) (ci := 15) (v := .int v4) (C := RX12) (T := TX12) (N := 136) hx hb hu iuX12 hown hK hP 0 rfl rfl 105 (by decide) (hu _ mG_2155) (fun _ h9 => h9) ((bF_get (by decide)).trans (congrArg some (h105))) dX12_result_93 ?_
        have e9 : (th_res k : Int32) = 1 := by simp [th_res, c2, c8]
        have hP9 : va_P (dC, dI) vwCl [(o, .inr (15, bF (va_up f 0 (.int (th_res k)))))] H := by rw [e9]; exact hP
        have hD9 : va_D A [(o, .inr (15, bF (va_up f 0 (.int (th_res k)))))] := by rw [e9]; exact hD
        have hK9 := hK.sub (tys' := []) [] rfl
        exact W.iret (v := v4) hx hb hr (fun t ht hW => ⟨⟨v4, (), rfl, by simp [th_res, c2, c8, hsw], by rw [ht]; exact hP9, va_K.moved hW.alike hK9, hD9⟩, hS.F ht⟩) hS.2.2 dX12_result_96
      · refine lv_tableIn (off := 77) (tgt := 97) hx hb dX12_result_20 (by rw [hsw]; decide) (by rw [hsw]; decide) (by rw [hsw]; decide) (by decide) ?_
        refine lv_aload_n hx hb dX12_result_97 rfl (lv_at hl 0 rfl) ?_
        refine va_get (D := (dC, dI)) (ci := 15) (v := .int v5) (C := RX12) (T := TX12) (N := 136) hx hb hu iuX12 hown hK hP 0 rfl rfl 106 (by decide) (hu _ mG_2156) (fun _ h9 => h9) ((bF_get (by decide)).trans (congrArg some (h106))) dX12_result_98 ?_
        have e9 : (th_res k : Int32) = 1 := by simp [th_res, c2, c8]
        have hP9 : va_P (dC, dI) vwCl [(o, .inr (15, bF (va_up f 0 (.int (th_res k)))))] H := by rw [e9]; exact hP
        have hD9 : va_D A [(o, .inr (15, bF (va_up f 0 (.int (th_res k)))))] := by rw [e9]; exact hD
        have hK9 := hK.sub (tys' := []) [] rfl
        exact W.iret (v := v5) hx hb hr (fun t ht hW => ⟨⟨v5, (), rfl, by simp [th_res, c2, c8, hsw], by rw [ht]; exact hP9, va_K.moved hW.alike hK9, hD9⟩, hS.F ht⟩) hS.2.2 dX12_result_101
      · refine lv_tableIn (off := 82) (tgt := 102) hx hb dX12_result_20 (by rw [hsw]; decide) (by rw [hsw]; decide) (by rw [hsw]; decide) (by decide) ?_
        refine lv_aload_n hx hb dX12_result_102 rfl (lv_at hl 0 rfl) ?_
        refine va_get (D := (dC, dI)) (ci := 15) (v := .int v6) (C := RX12) (T := TX12) (N := 136) hx hb hu iuX12 hown hK hP 0 rfl rfl 107 (by decide) (hu _ mG_2157) (fun _ h9 => h9) ((bF_get (by decide)).trans (congrArg some (h107))) dX12_result_103 ?_
        have e9 : (th_res k : Int32) = 1 := by simp [th_res, c2, c8]
        have hP9 : va_P (dC, dI) vwCl [(o, .inr (15, bF (va_up f 0 (.int (th_res k)))))] H := by rw [e9]; exact hP
        have hD9 : va_D A [(o, .inr (15, bF (va_up f 0 (.int (th_res k)))))] := by rw [e9]; exact hD
        have hK9 := hK.sub (tys' := []) [] rfl
        exact W.iret (v := v6) hx hb hr (fun t ht hW => ⟨⟨v6, (), rfl, by simp [th_res, c2, c8, hsw], by rw [ht]; exact hP9, va_K.moved hW.alike hK9, hD9⟩, hS.F ht⟩) hS.2.2 dX12_result_106
      · refine lv_tableIn (off := 87) (tgt := 107) hx hb dX12_result_20 (by rw [hsw]; decide) (by rw [hsw]; decide) (by rw [hsw]; decide) (by decide) ?_
        refine lv_aload_n hx hb dX12_result_107 rfl (lv_at hl 0 rfl) ?_
        refine va_get (D := (dC, dI)) (ci := 15) (v := .int v7) (C := RX12) (T := TX12) (N := 136) hx hb hu iuX12 hown hK hP 0 rfl rfl 108 (by decide) (hu _ mG_2158) (fun _ h9 => h9) ((bF_get (by decide)).trans (congrArg some (h108))) dX12_result_108 ?_
        have e9 : (th_res k : Int32) = 1 := by simp [th_res, c2, c8]
        have hP9 : va_P (dC, dI) vwCl [(o, .inr (15, bF (va_up f 0 (.int (th_res k)))))] H := by rw [e9]; exact hP
        have hD9 : va_D A [(o, .inr (15, bF (va_up f 0 (.int (th_res k)))))] := by rw [e9]; exact hD
        have hK9 := hK.sub (tys' := []) [] rfl
        exact W.iret (v := v7) hx hb hr (fun t ht hW => ⟨⟨v7, (), rfl, by simp [th_res, c2, c8, hsw], by rw [ht]; exact hP9, va_K.moved hW.alike hK9, hD9⟩, hS.F ht⟩) hS.2.2 dX12_result_111
      · refine lv_tableIn (off := 92) (tgt := 112) hx hb dX12_result_20 (by rw [hsw]; decide) (by rw [hsw]; decide) (by rw [hsw]; decide) (by decide) ?_
        refine lv_aload_n hx hb dX12_result_112 rfl (lv_at hl 0 rfl) ?_
        refine va_get (D := (dC, dI)) (ci := 15) (v := .int v8) (C := RX12) (T := TX12) (N := 136) hx hb hu iuX12 hown hK hP 0 rfl rfl 109 (by decide) (hu _ mG_2159) (fun _ h9 => h9) ((bF_get (by decide)).trans (congrArg some (h109))) dX12_result_113 ?_
        have e9 : (th_res k : Int32) = 1 := by simp [th_res, c2, c8]
        have hP9 : va_P (dC, dI) vwCl [(o, .inr (15, bF (va_up f 0 (.int (th_res k)))))] H := by rw [e9]; exact hP
        have hD9 : va_D A [(o, .inr (15, bF (va_up f 0 (.int (th_res k)))))] := by rw [e9]; exact hD
        have hK9 := hK.sub (tys' := []) [] rfl
        exact W.iret (v := v8) hx hb hr (fun t ht hW => ⟨⟨v8, (), rfl, by simp [th_res, c2, c8, hsw], by rw [ht]; exact hP9, va_K.moved hW.alike hK9, hD9⟩, hS.F ht⟩) hS.2.2 dX12_result_116
def th_abt (k : Int32) : Int32 := if k < 0 ∨ ¬ k ≤ 6 then 1 else 0
set_option maxHeartbeats 4000000 in
set_option maxRecDepth 100000 in
/-- Model.about(k) -/
theorem kX12_about (l : Launch) (dC : Nat → ClassId) (dI : Nat → Nat → Nat) (sz : Nat) (o : Nat) (f : Nat → Value) (k hp v0 v1 v2 v3 v4 v5 v6 : Int32) (h88 : f 88 = .int hp) (h46 : f 46 = .int v0) (h31 : f 31 = .int v1) (h25 : f 25 = .int v2) (h2 : f 2 = .int v3) (h4 : f 4 = .int v4) (h102 : f 102 = .int v5) (h101 : f 101 = .int v6) : Met l yX12_about (Cond.code yX12_about cX12_about 2 (some .int) :: uG) ({ frames := 0, cells := 0, slots := 0, locals := 0 }) (va_Pc [.ref o, .int k] (fun U => U.heap.size = sz ∧ va_P (dC, dI) vwCl [(o, .inr (15, bF f))] U.heap ∧ va_K (dC, dI) vwCl [] U ∧ va_D (fun _ => True) [(o, .inr (15, bF f))])) (va_Qi (S := Unit) (fun r _ => r = (if k = 0 then (if hp = 0 then 0 else v0) else if k = 1 then (if hp = 0 then 0 else v1) else if k = 2 then (if hp = 0 then 0 else v2) else if k = 3 then v3 else if k = 4 then v4 else if k = 5 then v5 else if k = 6 then v6 else 0)) (fun _ t => va_P (dC, dI) vwCl [(o, .inr (15, bF (va_up f 0 (.int (th_abt k)))))] t.heap ∧ va_K (dC, dI) vwCl [] t ∧ va_D (va_A [(o, .inr (15, bF f))] sz) [(o, .inr (15, bF (va_up f 0 (.int (th_abt k)))))]) (va_A [(o, .inr (15, bF f))] sz)) 0 0 (va_A [(o, .inr (15, bF f))] sz) := by
  refine Met.ofW (cc := cX12_about) (maxL := 2) (ret := (some .int)) (by decide) rfl ?_
  intro p e s m args below meth c s₁ B hml hv
  obtain ⟨rfl, hsz, hP, hK, hD0⟩ := hv
  have hx := B.exec
  have hb := B.bytes
  have hr := B.returns
  have hts := atoms_spec (ws := Cond.code yX12_about cX12_about 2 (some .int) :: uG) B.pre
  have hu := fun (w : Cond) (h : w ∈ uG) => hts w (List.mem_cons_of_mem _ h)
  have hown : s.vm.findClass RX12 = some m.cls := findClass_of_methodNamed B.named
  have hlocks := B.notSynchronized
  subst hsz
  have hD := hD0.self (sz := s.heap.size)
  generalize hAe : va_A [(o, .inr (15, bF f))] s.heap.size = A at hD ⊢
  have hA : ∀ q : Nat, s.heap.size ≤ q → A q := fun q h => by rw [← hAe]; exact Or.inr h
  have hS : va_S A s.heap s.heap [] := va_S.rf
  have hP : va_P (dC, dI) vwCl [(o, .inr (15, bF f))] s.heap := hP
  have hD : va_D A [(o, .inr (15, bF f))] := hD
  have hl := lv_entry ([.ref o, .int k]) (n := 2) (Nat.le_of_ble_eq_true rfl)
  rw [lg_entry_eq]
  generalize (lg_sl ([.ref o, .int k]) ++ List.replicate (2 - (lg_sl ([.ref o, .int k])).length) Slot.unset).toArray = ls at hl ⊢
  have hl : lv_has ls 2 [(0, .ref o), (1, .int k)] := hl
  refine lv_aload_n hx hb dX12_about_0 rfl (lv_at hl 0 rfl) ?_
  refine lv_iload_n hx hb dX12_about_1 rfl (lv_at hl 1 rfl) ?_
  refine lv_if_lt (tgt := 11) hx hb dX12_about_2 (by decide) (fun c2 => ?_) (fun c2 => ?_)
  · refine lv_iconst (v := 1) hx hb dX12_about_11 (by decide) ?_
    refine lv_goto (tgt := 16) hx hb dX12_about_12 (by decide) ?_
    refine va_put (D := (dC, dI)) (ci := 15) (v := .int 1) (ty := (tyX12 0)) (C := RX12) (T := TX12) (N := 136) hx hb hu iuX12 tyX12 tyX12_ok nmX12 hown hK hP hD hS 0 rfl rfl 0 (by decide) (hu _ mG_2050) (fun _ h9 => h9) rfl (by decide +kernel) (rfl) (rfl) (by rw [bF_len]; decide) dX12_about_16 (fun H locs hP hD hS => ?_)
    rw [show (bF f).set 0 (.int 1) = bF (va_up f 0 (.int 1)) from bF_set (by decide)] at hP hD
    have hP : va_P (dC, dI) vwCl [(o, .inr (15, bF (va_up f 0 (.int 1))))] H := hP
    have hD : va_D A [(o, .inr (15, bF (va_up f 0 (.int 1))))] := hD
    refine lv_iload_n hx hb dX12_about_19 rfl (lv_at hl 1 rfl) ?_
    rcases sw_0_6 (k) with hsw | hsw | hsw | hsw | hsw | hsw | hsw | hsw
    · refine lv_tableOut (tgt := 132) hx hb dX12_about_20 hsw (by decide) ?_
      refine lv_iconst (v := 0) hx hb dX12_about_132 (by decide) ?_
      have e9 : (th_abt k : Int32) = 1 := by simp [th_abt, c2]
      have hP9 : va_P (dC, dI) vwCl [(o, .inr (15, bF (va_up f 0 (.int (th_abt k)))))] H := by rw [e9]; exact hP
      have hD9 : va_D A [(o, .inr (15, bF (va_up f 0 (.int (th_abt k)))))] := by rw [e9]; exact hD
      have hK9 := hK.sub (tys' := []) [] rfl
      exact W.iret (v := 0) hx hb hr (fun t ht hW => ⟨⟨0, (), rfl, by simp [th_abt, c2, swo_0_6 hsw], by rw [ht]; exact hP9, va_K.moved hW.alike hK9, hD9⟩, hS.F ht⟩) hS.2.2 dX12_about_133
    · refine lv_tableIn (off := 44) (tgt := 64) hx hb dX12_about_20 (by rw [hsw]; decide) (by rw [hsw]; decide) (by rw [hsw]; decide) (by decide) ?_
      refine lv_aload_n hx hb dX12_about_64 rfl (lv_at hl 0 rfl) ?_
      refine va_get (D := (dC, dI)) (ci := 15) (v := .int hp) (C := RX12) (T := TX12) (N := 136) hx hb hu iuX12 hown hK hP 0 rfl rfl 88 (by decide) (hu _ mG_2138) (fun _ h9 => h9) ((bF_get (by decide)).trans (congrArg some (h88))) dX12_about_65 ?_
      refine lv_if_eq (tgt := 78) hx hb dX12_about_68 (by decide) (fun c68 => ?_) (fun c68 => ?_)
      · refine lv_iconst (v := 0) hx hb dX12_about_78 (by decide) ?_
        have e9 : (th_abt k : Int32) = 1 := by simp [th_abt, c2, c68]
        have hP9 : va_P (dC, dI) vwCl [(o, .inr (15, bF (va_up f 0 (.int (th_abt k)))))] H := by rw [e9]; exact hP
        have hD9 : va_D A [(o, .inr (15, bF (va_up f 0 (.int (th_abt k)))))] := by rw [e9]; exact hD
        have hK9 := hK.sub (tys' := []) [] rfl
        exact W.iret (v := 0) hx hb hr (fun t ht hW => ⟨⟨0, (), rfl, by simp [th_abt, c2, c68, hsw], by rw [ht]; exact hP9, va_K.moved hW.alike hK9, hD9⟩, hS.F ht⟩) hS.2.2 dX12_about_79
      · refine lv_aload_n hx hb dX12_about_71 rfl (lv_at hl 0 rfl) ?_
        refine va_get (D := (dC, dI)) (ci := 15) (v := .int v0) (C := RX12) (T := TX12) (N := 136) hx hb hu iuX12 hown hK hP 0 rfl rfl 46 (by decide) (hu _ mG_2096) (fun _ h9 => h9) ((bF_get (by decide)).trans (congrArg some (h46))) dX12_about_72 ?_
        refine lv_goto (tgt := 79) hx hb dX12_about_75 (by decide) ?_
        have e9 : (th_abt k : Int32) = 1 := by simp [th_abt, c2, c68]
        have hP9 : va_P (dC, dI) vwCl [(o, .inr (15, bF (va_up f 0 (.int (th_abt k)))))] H := by rw [e9]; exact hP
        have hD9 : va_D A [(o, .inr (15, bF (va_up f 0 (.int (th_abt k)))))] := by rw [e9]; exact hD
        have hK9 := hK.sub (tys' := []) [] rfl
        exact W.iret (v := v0) hx hb hr (fun t ht hW => ⟨⟨v0, (), rfl, by simp [th_abt, c2, c68, hsw], by rw [ht]; exact hP9, va_K.moved hW.alike hK9, hD9⟩, hS.F ht⟩) hS.2.2 dX12_about_79
    · refine lv_tableIn (off := 60) (tgt := 80) hx hb dX12_about_20 (by rw [hsw]; decide) (by rw [hsw]; decide) (by rw [hsw]; decide) (by decide) ?_
      refine lv_aload_n hx hb dX12_about_80 rfl (lv_at hl 0 rfl) ?_
      refine va_get (D := (dC, dI)) (ci := 15) (v := .int hp) (C := RX12) (T := TX12) (N := 136) hx hb hu iuX12 hown hK hP 0 rfl rfl 88 (by decide) (hu _ mG_2138) (fun _ h9 => h9) ((bF_get (by decide)).trans (congrArg some (h88))) dX12_about_81 ?_
      refine lv_if_eq (tgt := 94) hx hb dX12_about_84 (by decide) (fun c84 => ?_) (fun c84 => ?_)
      · refine lv_iconst (v := 0) hx hb dX12_about_94 (by decide) ?_
        have e9 : (th_abt k : Int32) = 1 := by simp [th_abt, c2, c84]
        have hP9 : va_P (dC, dI) vwCl [(o, .inr (15, bF (va_up f 0 (.int (th_abt k)))))] H := by rw [e9]; exact hP
        have hD9 : va_D A [(o, .inr (15, bF (va_up f 0 (.int (th_abt k)))))] := by rw [e9]; exact hD
        have hK9 := hK.sub (tys' := []) [] rfl
        exact W.iret (v := 0) hx hb hr (fun t ht hW => ⟨⟨0, (), rfl, by simp [th_abt, c2, c84, hsw], by rw [ht]; exact hP9, va_K.moved hW.alike hK9, hD9⟩, hS.F ht⟩) hS.2.2 dX12_about_95
      · refine lv_aload_n hx hb dX12_about_87 rfl (lv_at hl 0 rfl) ?_
        refine va_get (D := (dC, dI)) (ci := 15) (v := .int v1) (C := RX12) (T := TX12) (N := 136) hx hb hu iuX12 hown hK hP 0 rfl rfl 31 (by decide) (hu _ mG_2081) (fun _ h9 => h9) ((bF_get (by decide)).trans (congrArg some (h31))) dX12_about_88 ?_
        refine lv_goto (tgt := 95) hx hb dX12_about_91 (by decide) ?_
        have e9 : (th_abt k : Int32) = 1 := by simp [th_abt, c2, c84]
        have hP9 : va_P (dC, dI) vwCl [(o, .inr (15, bF (va_up f 0 (.int (th_abt k)))))] H := by rw [e9]; exact hP
        have hD9 : va_D A [(o, .inr (15, bF (va_up f 0 (.int (th_abt k)))))] := by rw [e9]; exact hD
        have hK9 := hK.sub (tys' := []) [] rfl
        exact W.iret (v := v1) hx hb hr (fun t ht hW => ⟨⟨v1, (), rfl, by simp [th_abt, c2, c84, hsw], by rw [ht]; exact hP9, va_K.moved hW.alike hK9, hD9⟩, hS.F ht⟩) hS.2.2 dX12_about_95
    · refine lv_tableIn (off := 76) (tgt := 96) hx hb dX12_about_20 (by rw [hsw]; decide) (by rw [hsw]; decide) (by rw [hsw]; decide) (by decide) ?_
      refine lv_aload_n hx hb dX12_about_96 rfl (lv_at hl 0 rfl) ?_
      refine va_get (D := (dC, dI)) (ci := 15) (v := .int hp) (C := RX12) (T := TX12) (N := 136) hx hb hu iuX12 hown hK hP 0 rfl rfl 88 (by decide) (hu _ mG_2138) (fun _ h9 => h9) ((bF_get (by decide)).trans (congrArg some (h88))) dX12_about_97 ?_
      refine lv_if_eq (tgt := 110) hx hb dX12_about_100 (by decide) (fun c100 => ?_) (fun c100 => ?_)
      · refine lv_iconst (v := 0) hx hb dX12_about_110 (by decide) ?_
        have e9 : (th_abt k : Int32) = 1 := by simp [th_abt, c2, c100]
        have hP9 : va_P (dC, dI) vwCl [(o, .inr (15, bF (va_up f 0 (.int (th_abt k)))))] H := by rw [e9]; exact hP
        have hD9 : va_D A [(o, .inr (15, bF (va_up f 0 (.int (th_abt k)))))] := by rw [e9]; exact hD
        have hK9 := hK.sub (tys' := []) [] rfl
        exact W.iret (v := 0) hx hb hr (fun t ht hW => ⟨⟨0, (), rfl, by simp [th_abt, c2, c100, hsw], by rw [ht]; exact hP9, va_K.moved hW.alike hK9, hD9⟩, hS.F ht⟩) hS.2.2 dX12_about_111
      · refine lv_aload_n hx hb dX12_about_103 rfl (lv_at hl 0 rfl) ?_
        refine va_get (D := (dC, dI)) (ci := 15) (v := .int v2) (C := RX12) (T := TX12) (N := 136) hx hb hu iuX12 hown hK hP 0 rfl rfl 25 (by decide) (hu _ mG_2075) (fun _ h9 => h9) ((bF_get (by decide)).trans (congrArg some (h25))) dX12_about_104 ?_
        refine lv_goto (tgt := 111) hx hb dX12_about_107 (by decide) ?_
        have e9 : (th_abt k : Int32) = 1 := by simp [th_abt, c2, c100]
        have hP9 : va_P (dC, dI) vwCl [(o, .inr (15, bF (va_up f 0 (.int (th_abt k)))))] H := by rw [e9]; exact hP
        have hD9 : va_D A [(o, .inr (15, bF (va_up f 0 (.int (th_abt k)))))] := by rw [e9]; exact hD
        have hK9 := hK.sub (tys' := []) [] rfl
        exact W.iret (v := v2) hx hb hr (fun t ht hW => ⟨⟨v2, (), rfl, by simp [th_abt, c2, c100, hsw], by rw [ht]; exact hP9, va_K.moved hW.alike hK9, hD9⟩, hS.F ht⟩) hS.2.2 dX12_about_111
    · refine lv_tableIn (off := 92) (tgt := 112) hx hb dX12_about_20 (by rw [hsw]; decide) (by rw [hsw]; decide) (by rw [hsw]; decide) (by decide) ?_
      refine lv_aload_n hx hb dX12_about_112 rfl (lv_at hl 0 rfl) ?_
      refine va_get (D := (dC, dI)) (ci := 15) (v := .int v3) (C := RX12) (T := TX12) (N := 136) hx hb hu iuX12 hown hK hP 0 rfl rfl 2 (by decide) (hu _ mG_2052) (fun _ h9 => h9) ((bF_get (by decide)).trans (congrArg some (h2))) dX12_about_113 ?_
      have e9 : (th_abt k : Int32) = 1 := by simp [th_abt, c2]
      have hP9 : va_P (dC, dI) vwCl [(o, .inr (15, bF (va_up f 0 (.int (th_abt k)))))] H := by rw [e9]; exact hP
      have hD9 : va_D A [(o, .inr (15, bF (va_up f 0 (.int (th_abt k)))))] := by rw [e9]; exact hD
      have hK9 := hK.sub (tys' := []) [] rfl
      exact W.iret (v := v3) hx hb hr (fun t ht hW => ⟨⟨v3, (), rfl, by simp [th_abt, c2, hsw], by rw [ht]; exact hP9, va_K.moved hW.alike hK9, hD9⟩, hS.F ht⟩) hS.2.2 dX12_about_116
    · refine lv_tableIn (off := 97) (tgt := 117) hx hb dX12_about_20 (by rw [hsw]; decide) (by rw [hsw]; decide) (by rw [hsw]; decide) (by decide) ?_
      refine lv_aload_n hx hb dX12_about_117 rfl (lv_at hl 0 rfl) ?_
      refine va_get (D := (dC, dI)) (ci := 15) (v := .int v4) (C := RX12) (T := TX12) (N := 136) hx hb hu iuX12 hown hK hP 0 rfl rfl 4 (by decide) (hu _ mG_2054) (fun _ h9 => h9) ((bF_get (by decide)).trans (congrArg some (h4))) dX12_about_118 ?_
      have e9 : (th_abt k : Int32) = 1 := by simp [th_abt, c2]
      have hP9 : va_P (dC, dI) vwCl [(o, .inr (15, bF (va_up f 0 (.int (th_abt k)))))] H := by rw [e9]; exact hP
      have hD9 : va_D A [(o, .inr (15, bF (va_up f 0 (.int (th_abt k)))))] := by rw [e9]; exact hD
      have hK9 := hK.sub (tys' := []) [] rfl
      exact W.iret (v := v4) hx hb hr (fun t ht hW => ⟨⟨v4, (), rfl, by simp [th_abt, c2, hsw], by rw [ht]; exact hP9, va_K.moved hW.alike hK9, hD9⟩, hS.F ht⟩) hS.2.2 dX12_about_121
    · refine lv_tableIn (off := 102) (tgt := 122) hx hb dX12_about_20 (by rw [hsw]; decide) (by rw [hsw]; decide) (by rw [hsw]; decide) (by decide) ?_
      refine lv_aload_n hx hb dX12_about_122 rfl (lv_at hl 0 rfl) ?_
      refine va_get (D := (dC, dI)) (ci := 15) (v := .int v5) (C := RX12) (T := TX12) (N := 136) hx hb hu iuX12 hown hK hP 0 rfl rfl 102 (by decide) (hu _ mG_2152) (fun _ h9 => h9) ((bF_get (by decide)).trans (congrArg some (h102))) dX12_about_123 ?_
      have e9 : (th_abt k : Int32) = 1 := by simp [th_abt, c2]
      have hP9 : va_P (dC, dI) vwCl [(o, .inr (15, bF (va_up f 0 (.int (th_abt k)))))] H := by rw [e9]; exact hP
      have hD9 : va_D A [(o, .inr (15, bF (va_up f 0 (.int (th_abt k)))))] := by rw [e9]; exact hD
      have hK9 := hK.sub (tys' := []) [] rfl
      exact W.iret (v := v5) hx hb hr (fun t ht hW => ⟨⟨v5, (), rfl, by simp [th_abt, c2, hsw], by rw [ht]; exact hP9, va_K.moved hW.alike hK9, hD9⟩, hS.F ht⟩) hS.2.2 dX12_about_126
    · refine lv_tableIn (off := 107) (tgt := 127) hx hb dX12_about_20 (by rw [hsw]; decide) (by rw [hsw]; decide) (by rw [hsw]; decide) (by decide) ?_
      refine lv_aload_n hx hb dX12_about_127 rfl (lv_at hl 0 rfl) ?_
      refine va_get (D := (dC, dI)) (ci := 15) (v := .int v6) (C := RX12) (T := TX12) (N := 136) hx hb hu iuX12 hown hK hP 0 rfl rfl 101 (by decide) (hu _ mG_2151) (fun _ h9 => h9) ((bF_get (by decide)).trans (congrArg some (h101))) dX12_about_128 ?_
      have e9 : (th_abt k : Int32) = 1 := by simp [th_abt, c2]
      have hP9 : va_P (dC, dI) vwCl [(o, .inr (15, bF (va_up f 0 (.int (th_abt k)))))] H := by rw [e9]; exact hP
      have hD9 : va_D A [(o, .inr (15, bF (va_up f 0 (.int (th_abt k)))))] := by rw [e9]; exact hD
      have hK9 := hK.sub (tys' := []) [] rfl
      exact W.iret (v := v6) hx hb hr (fun t ht hW => ⟨⟨v6, (), rfl, by simp [th_abt, c2, hsw], by rw [ht]; exact hP9, va_K.moved hW.alike hK9, hD9⟩, hS.F ht⟩) hS.2.2 dX12_about_131
  · refine lv_iload_n hx hb dX12_about_5 rfl (lv_at hl 1 rfl) ?_
    refine lv_bipush (v := 6) hx hb dX12_about_6 (by decide) ?_
    refine lv_icmp_le (tgt := 15) hx hb dX12_about_8 (by decide) (fun c8 => ?_) (fun c8 => ?_)
    · refine lv_iconst (v := 0) hx hb dX12_about_15 (by decide) ?_
      refine va_put (D := (dC, dI)) (ci := 15) (v := .int 0) (ty := (tyX12 0)) (C := RX12) (T := TX12) (N := 136) hx hb hu iuX12 tyX12 tyX12_ok nmX12 hown hK hP hD hS 0 rfl rfl 0 (by decide) (hu _ mG_2050) (fun _ h9 => h9) rfl (by decide +kernel) (rfl) (rfl) (by rw [bF_len]; decide) dX12_about_16 (fun H locs hP hD hS => ?_)
      rw [show (bF f).set 0 (.int 0) = bF (va_up f 0 (.int 0)) from bF_set (by decide)] at hP hD
      have hP : va_P (dC, dI) vwCl [(o, .inr (15, bF (va_up f 0 (.int 0))))] H := hP
      have hD : va_D A [(o, .inr (15, bF (va_up f 0 (.int 0))))] := hD
      refine lv_iload_n hx hb dX12_about_19 rfl (lv_at hl 1 rfl) ?_
      rcases sw_0_6 (k) with hsw | hsw | hsw | hsw | hsw | hsw | hsw | hsw
      · refine lv_tableOut (tgt := 132) hx hb dX12_about_20 hsw (by decide) ?_
        refine lv_iconst (v := 0) hx hb dX12_about_132 (by decide) ?_
        have e9 : (th_abt k : Int32) = 0 := by simp [th_abt, c2, c8]
        have hP9 : va_P (dC, dI) vwCl [(o, .inr (15, bF (va_up f 0 (.int (th_abt k)))))] H := by rw [e9]; exact hP
        have hD9 : va_D A [(o, .inr (15, bF (va_up f 0 (.int (th_abt k)))))] := by rw [e9]; exact hD
        have hK9 := hK.sub (tys' := []) [] rfl
        exact W.iret (v := 0) hx hb hr (fun t ht hW => ⟨⟨0, (), rfl, by simp [th_abt, c2, c8, swo_0_6 hsw], by rw [ht]; exact hP9, va_K.moved hW.alike hK9, hD9⟩, hS.F ht⟩) hS.2.2 dX12_about_133
      · refine lv_tableIn (off := 44) (tgt := 64) hx hb dX12_about_20 (by rw [hsw]; decide) (by rw [hsw]; decide) (by rw [hsw]; decide) (by decide) ?_
        refine lv_aload_n hx hb dX12_about_64 rfl (lv_at hl 0 rfl) ?_
        refine va_get (D := (dC, dI)) (ci := 15) (v := .int hp) (C := RX12) (T := TX12) (N := 136) hx hb hu iuX12 hown hK hP 0 rfl rfl 88 (by decide) (hu _ mG_2138) (fun _ h9 => h9) ((bF_get (by decide)).trans (congrArg some (h88))) dX12_about_65 ?_
        refine lv_if_eq (tgt := 78) hx hb dX12_about_68 (by decide) (fun c68 => ?_) (fun c68 => ?_)
        · refine lv_iconst (v := 0) hx hb dX12_about_78 (by decide) ?_
          have e9 : (th_abt k : Int32) = 0 := by simp [th_abt, c2, c8, c68]
          have hP9 : va_P (dC, dI) vwCl [(o, .inr (15, bF (va_up f 0 (.int (th_abt k)))))] H := by rw [e9]; exact hP
          have hD9 : va_D A [(o, .inr (15, bF (va_up f 0 (.int (th_abt k)))))] := by rw [e9]; exact hD
          have hK9 := hK.sub (tys' := []) [] rfl
          exact W.iret (v := 0) hx hb hr (fun t ht hW => ⟨⟨0, (), rfl, by simp [th_abt, c2, c8, c68, hsw], by rw [ht]; exact hP9, va_K.moved hW.alike hK9, hD9⟩, hS.F ht⟩) hS.2.2 dX12_about_79
        · refine lv_aload_n hx hb dX12_about_71 rfl (lv_at hl 0 rfl) ?_
          refine va_get (D := (dC, dI)) (ci := 15) (v := .int v0) (C := RX12) (T := TX12) (N := 136) hx hb hu iuX12 hown hK hP 0 rfl rfl 46 (by decide) (hu _ mG_2096) (fun _ h9 => h9) ((bF_get (by decide)).trans (congrArg some (h46))) dX12_about_72 ?_
          refine lv_goto (tgt := 79) hx hb dX12_about_75 (by decide) ?_
          have e9 : (th_abt k : Int32) = 0 := by simp [th_abt, c2, c8, c68]
          have hP9 : va_P (dC, dI) vwCl [(o, .inr (15, bF (va_up f 0 (.int (th_abt k)))))] H := by rw [e9]; exact hP
          have hD9 : va_D A [(o, .inr (15, bF (va_up f 0 (.int (th_abt k)))))] := by rw [e9]; exact hD
          have hK9 := hK.sub (tys' := []) [] rfl
          exact W.iret (v := v0) hx hb hr (fun t ht hW => ⟨⟨v0, (), rfl, by simp [th_abt, c2, c8, c68, hsw], by rw [ht]; exact hP9, va_K.moved hW.alike hK9, hD9⟩, hS.F ht⟩) hS.2.2 dX12_about_79
      · refine lv_tableIn (off := 60) (tgt := 80) hx hb dX12_about_20 (by rw [hsw]; decide) (by rw [hsw]; decide) (by rw [hsw]; decide) (by decide) ?_
        refine lv_aload_n hx hb dX12_about_80 rfl (lv_at hl 0 rfl) ?_
        refine va_get (D := (dC, dI)) (ci := 15) (v := .int hp) (C := RX12) (T := TX12) (N := 136) hx hb hu iuX12 hown hK hP 0 rfl rfl 88 (by decide) (hu _ mG_2138) (fun _ h9 => h9) ((bF_get (by decide)).trans (congrArg some (h88))) dX12_about_81 ?_
        refine lv_if_eq (tgt := 94) hx hb dX12_about_84 (by decide) (fun c84 => ?_) (fun c84 => ?_)
        · refine lv_iconst (v := 0) hx hb dX12_about_94 (by decide) ?_
          have e9 : (th_abt k : Int32) = 0 := by simp [th_abt, c2, c8, c84]
          have hP9 : va_P (dC, dI) vwCl [(o, .inr (15, bF (va_up f 0 (.int (th_abt k)))))] H := by rw [e9]; exact hP
          have hD9 : va_D A [(o, .inr (15, bF (va_up f 0 (.int (th_abt k)))))] := by rw [e9]; exact hD
          have hK9 := hK.sub (tys' := []) [] rfl
          exact W.iret (v := 0) hx hb hr (fun t ht hW => ⟨⟨0, (), rfl, by simp [th_abt, c2, c8, c84, hsw], by rw [ht]; exact hP9, va_K.moved hW.alike hK9, hD9⟩, hS.F ht⟩) hS.2.2 dX12_about_95
        · refine lv_aload_n hx hb dX12_about_87 rfl (lv_at hl 0 rfl) ?_
          refine va_get (D := (dC, dI)) (ci := 15) (v := .int v1) (C := RX12) (T := TX12) (N := 136) hx hb hu iuX12 hown hK hP 0 rfl rfl 31 (by decide) (hu _ mG_2081) (fun _ h9 => h9) ((bF_get (by decide)).trans (congrArg some (h31))) dX12_about_88 ?_
          refine lv_goto (tgt := 95) hx hb dX12_about_91 (by decide) ?_
          have e9 : (th_abt k : Int32) = 0 := by simp [th_abt, c2, c8, c84]
          have hP9 : va_P (dC, dI) vwCl [(o, .inr (15, bF (va_up f 0 (.int (th_abt k)))))] H := by rw [e9]; exact hP
          have hD9 : va_D A [(o, .inr (15, bF (va_up f 0 (.int (th_abt k)))))] := by rw [e9]; exact hD
          have hK9 := hK.sub (tys' := []) [] rfl
          exact W.iret (v := v1) hx hb hr (fun t ht hW => ⟨⟨v1, (), rfl, by simp [th_abt, c2, c8, c84, hsw], by rw [ht]; exact hP9, va_K.moved hW.alike hK9, hD9⟩, hS.F ht⟩) hS.2.2 dX12_about_95
      · refine lv_tableIn (off := 76) (tgt := 96) hx hb dX12_about_20 (by rw [hsw]; decide) (by rw [hsw]; decide) (by rw [hsw]; decide) (by decide) ?_
        refine lv_aload_n hx hb dX12_about_96 rfl (lv_at hl 0 rfl) ?_
        refine va_get (D := (dC, dI)) (ci := 15) (v := .int hp) (C := RX12) (T := TX12) (N := 136) hx hb hu iuX12 hown hK hP 0 rfl rfl 88 (by decide) (hu _ mG_2138) (fun _ h9 => h9) ((bF_get (by decide)).trans (congrArg some (h88))) dX12_about_97 ?_
        refine lv_if_eq (tgt := 110) hx hb dX12_about_100 (by decide) (fun c100 => ?_) (fun c100 => ?_)
        · refine lv_iconst (v := 0) hx hb dX12_about_110 (by decide) ?_
          have e9 : (th_abt k : Int32) = 0 := by simp [th_abt, c2, c8, c100]
          have hP9 : va_P (dC, dI) vwCl [(o, .inr (15, bF (va_up f 0 (.int (th_abt k)))))] H := by rw [e9]; exact hP
          have hD9 : va_D A [(o, .inr (15, bF (va_up f 0 (.int (th_abt k)))))] := by rw [e9]; exact hD
          have hK9 := hK.sub (tys' := []) [] rfl
          exact W.iret (v := 0) hx hb hr (fun t ht hW => ⟨⟨0, (), rfl, by simp [th_abt, c2, c8, c100, hsw], by rw [ht]; exact hP9, va_K.moved hW.alike hK9, hD9⟩, hS.F ht⟩) hS.2.2 dX12_about_111
        · refine lv_aload_n hx hb dX12_about_103 rfl (lv_at hl 0 rfl) ?_
          refine va_get (D := (dC, dI)) (ci := 15) (v := .int v2) (C := RX12) (T := TX12) (N := 136) hx hb hu iuX12 hown hK hP 0 rfl rfl 25 (by decide) (hu _ mG_2075) (fun _ h9 => h9) ((bF_get (by decide)).trans (congrArg some (h25))) dX12_about_104 ?_
          refine lv_goto (tgt := 111) hx hb dX12_about_107 (by decide) ?_
          have e9 : (th_abt k : Int32) = 0 := by simp [th_abt, c2, c8, c100]
          have hP9 : va_P (dC, dI) vwCl [(o, .inr (15, bF (va_up f 0 (.int (th_abt k)))))] H := by rw [e9]; exact hP
          have hD9 : va_D A [(o, .inr (15, bF (va_up f 0 (.int (th_abt k)))))] := by rw [e9]; exact hD
          have hK9 := hK.sub (tys' := []) [] rfl
          exact W.iret (v := v2) hx hb hr (fun t ht hW => ⟨⟨v2, (), rfl, by simp [th_abt, c2, c8, c100, hsw], by rw [ht]; exact hP9, va_K.moved hW.alike hK9, hD9⟩, hS.F ht⟩) hS.2.2 dX12_about_111
      · refine lv_tableIn (off := 92) (tgt := 112) hx hb dX12_about_20 (by rw [hsw]; decide) (by rw [hsw]; decide) (by rw [hsw]; decide) (by decide) ?_
        refine lv_aload_n hx hb dX12_about_112 rfl (lv_at hl 0 rfl) ?_
        refine va_get (D := (dC, dI)) (ci := 15) (v := .int v3) (C := RX12) (T := TX12) (N := 136) hx hb hu iuX12 hown hK hP 0 rfl rfl 2 (by decide) (hu _ mG_2052) (fun _ h9 => h9) ((bF_get (by decide)).trans (congrArg some (h2))) dX12_about_113 ?_
        have e9 : (th_abt k : Int32) = 0 := by simp [th_abt, c2, c8]
        have hP9 : va_P (dC, dI) vwCl [(o, .inr (15, bF (va_up f 0 (.int (th_abt k)))))] H := by rw [e9]; exact hP
        have hD9 : va_D A [(o, .inr (15, bF (va_up f 0 (.int (th_abt k)))))] := by rw [e9]; exact hD
        have hK9 := hK.sub (tys' := []) [] rfl
        exact W.iret (v := v3) hx hb hr (fun t ht hW => ⟨⟨v3, (), rfl, by simp [th_abt, c2, c8, hsw], by rw [ht]; exact hP9, va_K.moved hW.alike hK9, hD9⟩, hS.F ht⟩) hS.2.2 dX12_about_116
      · refine lv_tableIn (off := 97) (tgt := 117) hx hb dX12_about_20 (by rw [hsw]; decide) (by rw [hsw]; decide) (by rw [hsw]; decide) (by decide) ?_
        refine lv_aload_n hx hb dX12_about_117 rfl (lv_at hl 0 rfl) ?_
        refine va_get (D := (dC, dI)) (ci := 15) (v := .int v4) (C := RX12) (T := TX12) (N := 136) hx hb hu iuX12 hown hK hP 0 rfl rfl 4 (by decide) (hu _ mG_2054) (fun _ h9 => h9) ((bF_get (by decide)).trans (congrArg some (h4))) dX12_about_118 ?_
        have e9 : (th_abt k : Int32) = 0 := by simp [th_abt, c2, c8]
        have hP9 : va_P (dC, dI) vwCl [(o, .inr (15, bF (va_up f 0 (.int (th_abt k)))))] H := by rw [e9]; exact hP
        have hD9 : va_D A [(o, .inr (15, bF (va_up f 0 (.int (th_abt k)))))] := by rw [e9]; exact hD
        have hK9 := hK.sub (tys' := []) [] rfl
        exact W.iret (v := v4) hx hb hr (fun t ht hW => ⟨⟨v4, (), rfl, by simp [th_abt, c2, c8, hsw], by rw [ht]; exact hP9, va_K.moved hW.alike hK9, hD9⟩, hS.F ht⟩) hS.2.2 dX12_about_121
      · refine lv_tableIn (off := 102) (tgt := 122) hx hb dX12_about_20 (by rw [hsw]; decide) (by rw [hsw]; decide) (by rw [hsw]; decide) (by decide) ?_
        refine lv_aload_n hx hb dX12_about_122 rfl (lv_at hl 0 rfl) ?_
        refine va_get (D := (dC, dI)) (ci := 15) (v := .int v5) (C := RX12) (T := TX12) (N := 136) hx hb hu iuX12 hown hK hP 0 rfl rfl 102 (by decide) (hu _ mG_2152) (fun _ h9 => h9) ((bF_get (by decide)).trans (congrArg some (h102))) dX12_about_123 ?_
        have e9 : (th_abt k : Int32) = 0 := by simp [th_abt, c2, c8]
        have hP9 : va_P (dC, dI) vwCl [(o, .inr (15, bF (va_up f 0 (.int (th_abt k)))))] H := by rw [e9]; exact hP
        have hD9 : va_D A [(o, .inr (15, bF (va_up f 0 (.int (th_abt k)))))] := by rw [e9]; exact hD
        have hK9 := hK.sub (tys' := []) [] rfl
        exact W.iret (v := v5) hx hb hr (fun t ht hW => ⟨⟨v5, (), rfl, by simp [th_abt, c2, c8, hsw], by rw [ht]; exact hP9, va_K.moved hW.alike hK9, hD9⟩, hS.F ht⟩) hS.2.2 dX12_about_126
      · refine lv_tableIn (off := 107) (tgt := 127) hx hb dX12_about_20 (by rw [hsw]; decide) (by rw [hsw]; decide) (by rw [hsw]; decide) (by decide) ?_
        refine lv_aload_n hx hb dX12_about_127 rfl (lv_at hl 0 rfl) ?_
        refine va_get (D := (dC, dI)) (ci := 15) (v := .int v6) (C := RX12) (T := TX12) (N := 136) hx hb hu iuX12 hown hK hP 0 rfl rfl 101 (by decide) (hu _ mG_2151) (fun _ h9 => h9) ((bF_get (by decide)).trans (congrArg some (h101))) dX12_about_128 ?_
        have e9 : (th_abt k : Int32) = 0 := by simp [th_abt, c2, c8]
        have hP9 : va_P (dC, dI) vwCl [(o, .inr (15, bF (va_up f 0 (.int (th_abt k)))))] H := by rw [e9]; exact hP
        have hD9 : va_D A [(o, .inr (15, bF (va_up f 0 (.int (th_abt k)))))] := by rw [e9]; exact hD
        have hK9 := hK.sub (tys' := []) [] rfl
        exact W.iret (v := v6) hx hb hr (fun t ht hW => ⟨⟨v6, (), rfl, by simp [th_abt, c2, c8, hsw], by rw [ht]; exact hP9, va_K.moved hW.alike hK9, hD9⟩, hS.F ht⟩) hS.2.2 dX12_about_131
    · refine lv_iconst (v := 1) hx hb dX12_about_11 (by decide) ?_
      refine lv_goto (tgt := 16) hx hb dX12_about_12 (by decide) ?_
      refine va_put (D := (dC, dI)) (ci := 15) (v := .int 1) (ty := (tyX12 0)) (C := RX12) (T := TX12) (N := 136) hx hb hu iuX12 tyX12 tyX12_ok nmX12 hown hK hP hD hS 0 rfl rfl 0 (by decide) (hu _ mG_2050) (fun _ h9 => h9) rfl (by decide +kernel) (rfl) (rfl) (by rw [bF_len]; decide) dX12_about_16 (fun H locs hP hD hS => ?_)
      rw [show (bF f).set 0 (.int 1) = bF (va_up f 0 (.int 1)) from bF_set (by decide)] at hP hD
      have hP : va_P (dC, dI) vwCl [(o, .inr (15, bF (va_up f 0 (.int 1))))] H := hP
      have hD : va_D A [(o, .inr (15, bF (va_up f 0 (.int 1))))] := hD
      refine lv_iload_n hx hb dX12_about_19 rfl (lv_at hl 1 rfl) ?_
      rcases sw_0_6 (k) with hsw | hsw | hsw | hsw | hsw | hsw | hsw | hsw
      · refine lv_tableOut (tgt := 132) hx hb dX12_about_20 hsw (by decide) ?_
        refine lv_iconst (v := 0) hx hb dX12_about_132 (by decide) ?_
        have e9 : (th_abt k : Int32) = 1 := by simp [th_abt, c2, c8]
        have hP9 : va_P (dC, dI) vwCl [(o, .inr (15, bF (va_up f 0 (.int (th_abt k)))))] H := by rw [e9]; exact hP
        have hD9 : va_D A [(o, .inr (15, bF (va_up f 0 (.int (th_abt k)))))] := by rw [e9]; exact hD
        have hK9 := hK.sub (tys' := []) [] rfl
        exact W.iret (v := 0) hx hb hr (fun t ht hW => ⟨⟨0, (), rfl, by simp [th_abt, c2, c8, swo_0_6 hsw], by rw [ht]; exact hP9, va_K.moved hW.alike hK9, hD9⟩, hS.F ht⟩) hS.2.2 dX12_about_133
      · refine lv_tableIn (off := 44) (tgt := 64) hx hb dX12_about_20 (by rw [hsw]; decide) (by rw [hsw]; decide) (by rw [hsw]; decide) (by decide) ?_
        refine lv_aload_n hx hb dX12_about_64 rfl (lv_at hl 0 rfl) ?_
        refine va_get (D := (dC, dI)) (ci := 15) (v := .int hp) (C := RX12) (T := TX12) (N := 136) hx hb hu iuX12 hown hK hP 0 rfl rfl 88 (by decide) (hu _ mG_2138) (fun _ h9 => h9) ((bF_get (by decide)).trans (congrArg some (h88))) dX12_about_65 ?_
        refine lv_if_eq (tgt := 78) hx hb dX12_about_68 (by decide) (fun c68 => ?_) (fun c68 => ?_)
        · refine lv_iconst (v := 0) hx hb dX12_about_78 (by decide) ?_
          have e9 : (th_abt k : Int32) = 1 := by simp [th_abt, c2, c8, c68]
          have hP9 : va_P (dC, dI) vwCl [(o, .inr (15, bF (va_up f 0 (.int (th_abt k)))))] H := by rw [e9]; exact hP
          have hD9 : va_D A [(o, .inr (15, bF (va_up f 0 (.int (th_abt k)))))] := by rw [e9]; exact hD
          have hK9 := hK.sub (tys' := []) [] rfl
          exact W.iret (v := 0) hx hb hr (fun t ht hW => ⟨⟨0, (), rfl, by simp [th_abt, c2, c8, c68, hsw], by rw [ht]; exact hP9, va_K.moved hW.alike hK9, hD9⟩, hS.F ht⟩) hS.2.2 dX12_about_79
        · refine lv_aload_n hx hb dX12_about_71 rfl (lv_at hl 0 rfl) ?_
          refine va_get (D := (dC, dI)) (ci := 15) (v := .int v0) (C := RX12) (T := TX12) (N := 136) hx hb hu iuX12 hown hK hP 0 rfl rfl 46 (by decide) (hu _ mG_2096) (fun _ h9 => h9) ((bF_get (by decide)).trans (congrArg some (h46))) dX12_about_72 ?_
          refine lv_goto (tgt := 79) hx hb dX12_about_75 (by decide) ?_
          have e9 : (th_abt k : Int32) = 1 := by simp [th_abt, c2, c8, c68]
          have hP9 : va_P (dC, dI) vwCl [(o, .inr (15, bF (va_up f 0 (.int (th_abt k)))))] H := by rw [e9]; exact hP
          have hD9 : va_D A [(o, .inr (15, bF (va_up f 0 (.int (th_abt k)))))] := by rw [e9]; exact hD
          have hK9 := hK.sub (tys' := []) [] rfl
          exact W.iret (v := v0) hx hb hr (fun t ht hW => ⟨⟨v0, (), rfl, by simp [th_abt, c2, c8, c68, hsw], by rw [ht]; exact hP9, va_K.moved hW.alike hK9, hD9⟩, hS.F ht⟩) hS.2.2 dX12_about_79
      · refine lv_tableIn (off := 60) (tgt := 80) hx hb dX12_about_20 (by rw [hsw]; decide) (by rw [hsw]; decide) (by rw [hsw]; decide) (by decide) ?_
        refine lv_aload_n hx hb dX12_about_80 rfl (lv_at hl 0 rfl) ?_
        refine va_get (D := (dC, dI)) (ci := 15) (v := .int hp) (C := RX12) (T := TX12) (N := 136) hx hb hu iuX12 hown hK hP 0 rfl rfl 88 (by decide) (hu _ mG_2138) (fun _ h9 => h9) ((bF_get (by decide)).trans (congrArg some (h88))) dX12_about_81 ?_
        refine lv_if_eq (tgt := 94) hx hb dX12_about_84 (by decide) (fun c84 => ?_) (fun c84 => ?_)
        · refine lv_iconst (v := 0) hx hb dX12_about_94 (by decide) ?_
          have e9 : (th_abt k : Int32) = 1 := by simp [th_abt, c2, c8, c84]
          have hP9 : va_P (dC, dI) vwCl [(o, .inr (15, bF (va_up f 0 (.int (th_abt k)))))] H := by rw [e9]; exact hP
          have hD9 : va_D A [(o, .inr (15, bF (va_up f 0 (.int (th_abt k)))))] := by rw [e9]; exact hD
          have hK9 := hK.sub (tys' := []) [] rfl
          exact W.iret (v := 0) hx hb hr (fun t ht hW => ⟨⟨0, (), rfl, by simp [th_abt, c2, c8, c84, hsw], by rw [ht]; exact hP9, va_K.moved hW.alike hK9, hD9⟩, hS.F ht⟩) hS.2.2 dX12_about_95
        · refine lv_aload_n hx hb dX12_about_87 rfl (lv_at hl 0 rfl) ?_
          refine va_get (D := (dC, dI)) (ci := 15) (v := .int v1) (C := RX12) (T := TX12) (N := 136) hx hb hu iuX12 hown hK hP 0 rfl rfl 31 (by decide) (hu _ mG_2081) (fun _ h9 => h9) ((bF_get (by decide)).trans (congrArg some (h31))) dX12_about_88 ?_
          refine lv_goto (tgt := 95) hx hb dX12_about_91 (by decide) ?_
          have e9 : (th_abt k : Int32) = 1 := by simp [th_abt, c2, c8, c84]
          have hP9 : va_P (dC, dI) vwCl [(o, .inr (15, bF (va_up f 0 (.int (th_abt k)))))] H := by rw [e9]; exact hP
          have hD9 : va_D A [(o, .inr (15, bF (va_up f 0 (.int (th_abt k)))))] := by rw [e9]; exact hD
          have hK9 := hK.sub (tys' := []) [] rfl
          exact W.iret (v := v1) hx hb hr (fun t ht hW => ⟨⟨v1, (), rfl, by simp [th_abt, c2, c8, c84, hsw], by rw [ht]; exact hP9, va_K.moved hW.alike hK9, hD9⟩, hS.F ht⟩) hS.2.2 dX12_about_95
      · refine lv_tableIn (off := 76) (tgt := 96) hx hb dX12_about_20 (by rw [hsw]; decide) (by rw [hsw]; decide) (by rw [hsw]; decide) (by decide) ?_
        refine lv_aload_n hx hb dX12_about_96 rfl (lv_at hl 0 rfl) ?_
        refine va_get (D := (dC, dI)) (ci := 15) (v := .int hp) (C := RX12) (T := TX12) (N := 136) hx hb hu iuX12 hown hK hP 0 rfl rfl 88 (by decide) (hu _ mG_2138) (fun _ h9 => h9) ((bF_get (by decide)).trans (congrArg some (h88))) dX12_about_97 ?_
        refine lv_if_eq (tgt := 110) hx hb dX12_about_100 (by decide) (fun c100 => ?_) (fun c100 => ?_)
        · refine lv_iconst (v := 0) hx hb dX12_about_110 (by decide) ?_
          have e9 : (th_abt k : Int32) = 1 := by simp [th_abt, c2, c8, c100]
          have hP9 : va_P (dC, dI) vwCl [(o, .inr (15, bF (va_up f 0 (.int (th_abt k)))))] H := by rw [e9]; exact hP
          have hD9 : va_D A [(o, .inr (15, bF (va_up f 0 (.int (th_abt k)))))] := by rw [e9]; exact hD
          have hK9 := hK.sub (tys' := []) [] rfl
          exact W.iret (v := 0) hx hb hr (fun t ht hW => ⟨⟨0, (), rfl, by simp [th_abt, c2, c8, c100, hsw], by rw [ht]; exact hP9, va_K.moved hW.alike hK9, hD9⟩, hS.F ht⟩) hS.2.2 dX12_about_111
        · refine lv_aload_n hx hb dX12_about_103 rfl (lv_at hl 0 rfl) ?_
          refine va_get (D := (dC, dI)) (ci := 15) (v := .int v2) (C := RX12) (T := TX12) (N := 136) hx hb hu iuX12 hown hK hP 0 rfl rfl 25 (by decide) (hu _ mG_2075) (fun _ h9 => h9) ((bF_get (by decide)).trans (congrArg some (h25))) dX12_about_104 ?_
          refine lv_goto (tgt := 111) hx hb dX12_about_107 (by decide) ?_
          have e9 : (th_abt k : Int32) = 1 := by simp [th_abt, c2, c8, c100]
          have hP9 : va_P (dC, dI) vwCl [(o, .inr (15, bF (va_up f 0 (.int (th_abt k)))))] H := by rw [e9]; exact hP
          have hD9 : va_D A [(o, .inr (15, bF (va_up f 0 (.int (th_abt k)))))] := by rw [e9]; exact hD
          have hK9 := hK.sub (tys' := []) [] rfl
          exact W.iret (v := v2) hx hb hr (fun t ht hW => ⟨⟨v2, (), rfl, by simp [th_abt, c2, c8, c100, hsw], by rw [ht]; exact hP9, va_K.moved hW.alike hK9, hD9⟩, hS.F ht⟩) hS.2.2 dX12_about_111
      · refine lv_tableIn (off := 92) (tgt := 112) hx hb dX12_about_20 (by rw [hsw]; decide) (by rw [hsw]; decide) (by rw [hsw]; decide) (by decide) ?_
        refine lv_aload_n hx hb dX12_about_112 rfl (lv_at hl 0 rfl) ?_
        refine va_get (D := (dC, dI)) (ci := 15) (v := .int v3) (C := RX12) (T := TX12) (N := 136) hx hb hu iuX12 hown hK hP 0 rfl rfl 2 (by decide) (hu _ mG_2052) (fun _ h9 => h9) ((bF_get (by decide)).trans (congrArg some (h2))) dX12_about_113 ?_
        have e9 : (th_abt k : Int32) = 1 := by simp [th_abt, c2, c8]
        have hP9 : va_P (dC, dI) vwCl [(o, .inr (15, bF (va_up f 0 (.int (th_abt k)))))] H := by rw [e9]; exact hP
        have hD9 : va_D A [(o, .inr (15, bF (va_up f 0 (.int (th_abt k)))))] := by rw [e9]; exact hD
        have hK9 := hK.sub (tys' := []) [] rfl
        exact W.iret (v := v3) hx hb hr (fun t ht hW => ⟨⟨v3, (), rfl, by simp [th_abt, c2, c8, hsw], by rw [ht]; exact hP9, va_K.moved hW.alike hK9, hD9⟩, hS.F ht⟩) hS.2.2 dX12_about_116
      · refine lv_tableIn (off := 97) (tgt := 117) hx hb dX12_about_20 (by rw [hsw]; decide) (by rw [hsw]; decide) (by rw [hsw]; decide) (by decide) ?_
        refine lv_aload_n hx hb dX12_about_117 rfl (lv_at hl 0 rfl) ?_
        refine va_get (D := (dC, dI)) (ci := 15) (v := .int v4) (C := RX12) (T := TX12) (N := 136) hx hb hu iuX12 hown hK hP 0 rfl rfl 4 (by decide) (hu _ mG_2054) (fun _ h9 => h9) ((bF_get (by decide)).trans (congrArg some (h4))) dX12_about_118 ?_
        have e9 : (th_abt k : Int32) = 1 := by simp [th_abt, c2, c8]
        have hP9 : va_P (dC, dI) vwCl [(o, .inr (15, bF (va_up f 0 (.int (th_abt k)))))] H := by rw [e9]; exact hP
        have hD9 : va_D A [(o, .inr (15, bF (va_up f 0 (.int (th_abt k)))))] := by rw [e9]; exact hD
        have hK9 := hK.sub (tys' := []) [] rfl
        exact W.iret (v := v4) hx hb hr (fun t ht hW => ⟨⟨v4, (), rfl, by simp [th_abt, c2, c8, hsw], by rw [ht]; exact hP9, va_K.moved hW.alike hK9, hD9⟩, hS.F ht⟩) hS.2.2 dX12_about_121
      · refine lv_tableIn (off := 102) (tgt := 122) hx hb dX12_about_20 (by rw [hsw]; decide) (by rw [hsw]; decide) (by rw [hsw]; decide) (by decide) ?_
        refine lv_aload_n hx hb dX12_about_122 rfl (lv_at hl 0 rfl) ?_
        refine va_get (D := (dC, dI)) (ci := 15) (v := .int v5) (C := RX12) (T := TX12) (N := 136) hx hb hu iuX12 hown hK hP 0 rfl rfl 102 (by decide) (hu _ mG_2152) (fun _ h9 => h9) ((bF_get (by decide)).trans (congrArg some (h102))) dX12_about_123 ?_
        have e9 : (th_abt k : Int32) = 1 := by simp [th_abt, c2, c8]
        have hP9 : va_P (dC, dI) vwCl [(o, .inr (15, bF (va_up f 0 (.int (th_abt k)))))] H := by rw [e9]; exact hP
        have hD9 : va_D A [(o, .inr (15, bF (va_up f 0 (.int (th_abt k)))))] := by rw [e9]; exact hD
        have hK9 := hK.sub (tys' := []) [] rfl
        exact W.iret (v := v5) hx hb hr (fun t ht hW => ⟨⟨v5, (), rfl, by simp [th_abt, c2, c8, hsw], by rw [ht]; exact hP9, va_K.moved hW.alike hK9, hD9⟩, hS.F ht⟩) hS.2.2 dX12_about_126
      · refine lv_tableIn (off := 107) (tgt := 127) hx hb dX12_about_20 (by rw [hsw]; decide) (by rw [hsw]; decide) (by rw [hsw]; decide) (by decide) ?_
        refine lv_aload_n hx hb dX12_about_127 rfl (lv_at hl 0 rfl) ?_
        refine va_get (D := (dC, dI)) (ci := 15) (v := .int v6) (C := RX12) (T := TX12) (N := 136) hx hb hu iuX12 hown hK hP 0 rfl rfl 101 (by decide) (hu _ mG_2151) (fun _ h9 => h9) ((bF_get (by decide)).trans (congrArg some (h101))) dX12_about_128 ?_
        have e9 : (th_abt k : Int32) = 1 := by simp [th_abt, c2, c8]
        have hP9 : va_P (dC, dI) vwCl [(o, .inr (15, bF (va_up f 0 (.int (th_abt k)))))] H := by rw [e9]; exact hP
        have hD9 : va_D A [(o, .inr (15, bF (va_up f 0 (.int (th_abt k)))))] := by rw [e9]; exact hD
        have hK9 := hK.sub (tys' := []) [] rfl
        exact W.iret (v := v6) hx hb hr (fun t ht hW => ⟨⟨v6, (), rfl, by simp [th_abt, c2, c8, hsw], by rw [ht]; exact hP9, va_K.moved hW.alike hK9, hD9⟩, hS.F ht⟩) hS.2.2 dX12_about_131
def th_needs (hp nm k i pc : Int32) : Int32 := if th_code hp nm k ≤ 0 then (if i < 0 ∨ ¬ i < pc then 2 else 0) else th_code hp nm k
set_option maxHeartbeats 4000000 in
set_option maxRecDepth 100000 in
/-- Model.needs(k, i) -/
theorem kX12_needs (l : Launch) (dC : Nat → ClassId) (dI : Nat → Nat → Nat) (sz : Nat) (o : Nat) (f : Nat → Value) (hp nm k : Int32) (h88 : f 88 = .int hp) (h46 : f 46 = .int nm) (i : Int32) (pa ne : Nat) (g nd : Nat → Int32) (cP cN : ClassId) (h82 : f 82 = .ref pa) (h91 : f 91 = .ref ne) (hnm : nm.toInt ≤ 640) (hin : th_needs hp nm k i (g k.toNatClampNeg) = 0 → vp_in (8 * k + i) 5120) : Met l yX12_needs (Cond.code yX12_needs cX12_needs 3 (some .boolean) :: uG) ({ frames := 1, cells := 0, slots := 0, locals := 21 }) (va_Pc [.ref o, .int k, .int i] (fun U => U.heap.size = sz ∧ va_P (dC, dI) vwCl [(o, .inr (15, bF f)), (pa, .inl (cP, 640, .inl g)), (ne, .inl (cN, 5120, .inl nd))] U.heap ∧ va_K (dC, dI) vwCl [(cP, .int), (cN, .boolean)] U ∧ va_D (fun _ => True) [(o, .inr (15, bF f)), (pa, .inl (cP, 640, .inl g)), (ne, .inl (cN, 5120, .inl nd))])) (va_Qi (S := Unit) (fun r _ => r = (if th_needs hp nm k i (g k.toNatClampNeg) = 0 then (if nd (8 * k + i).toNatClampNeg = 0 then 0 else 1) else 0)) (fun _ t => va_P (dC, dI) vwCl [(o, .inr (15, bF (va_up (va_up f 0 (.int (th_code hp nm k))) 0 (.int (th_needs hp nm k i (g k.toNatClampNeg)))))), (pa, .inl (cP, 640, .inl g)), (ne, .inl (cN, 5120, .inl nd))] t.heap ∧ va_K (dC, dI) vwCl [(cP, .int), (cN, .boolean)] t ∧ va_D (va_A [(o, .inr (15, bF f)), (pa, .inl (cP, 640, .inl g)), (ne, .inl (cN, 5120, .inl nd))] sz) [(o, .inr (15, bF (va_up (va_up f 0 (.int (th_code hp nm k))) 0 (.int (th_needs hp nm k i (g k.toNatClampNeg)))))), (pa, .inl (cP, 640, .inl g)), (ne, .inl (cN, 5120, .inl nd))]) (va_A [(o, .inr (15, bF f)), (pa, .inl (cP, 640, .inl g)), (ne, .inl (cN, 5120, .inl nd))] sz)) 0 0 (va_A [(o, .inr (15, bF f)), (pa, .inl (cP, 640, .inl g)), (ne, .inl (cN, 5120, .inl nd))] sz) := by
  refine Met.ofW (cc := cX12_needs) (maxL := 3) (ret := (some .boolean)) (by decide) rfl ?_
  intro p e s m args below meth c s₁ B hml hv
  obtain ⟨rfl, hsz, hP, hK, hD0⟩ := hv
  have hx := B.exec
  have hb := B.bytes
  have hr := B.returns
  have hts := atoms_spec (ws := Cond.code yX12_needs cX12_needs 3 (some .boolean) :: uG) B.pre
  have hu := fun (w : Cond) (h : w ∈ uG) => hts w (List.mem_cons_of_mem _ h)
  have hown : s.vm.findClass RX12 = some m.cls := findClass_of_methodNamed B.named
  have hlocks := B.notSynchronized
  subst hsz
  have hD := hD0.self (sz := s.heap.size)
  generalize hAe : va_A [(o, .inr (15, bF f)), (pa, .inl (cP, 640, .inl g)), (ne, .inl (cN, 5120, .inl nd))] s.heap.size = A at hD ⊢
  have hA : ∀ q : Nat, s.heap.size ≤ q → A q := fun q h => by rw [← hAe]; exact Or.inr h
  have hS : va_S A s.heap s.heap [] := va_S.rf
  have hP : va_P (dC, dI) vwCl [(o, .inr (15, bF f)), (pa, .inl (cP, 640, .inl g)), (ne, .inl (cN, 5120, .inl nd))] s.heap := hP
  have hD : va_D A [(o, .inr (15, bF f)), (pa, .inl (cP, 640, .inl g)), (ne, .inl (cN, 5120, .inl nd))] := hD
  have hl := lv_entry ([.ref o, .int k, .int i]) (n := 3) (Nat.le_of_ble_eq_true rfl)
  rw [lg_entry_eq]
  generalize (lg_sl ([.ref o, .int k, .int i]) ++ List.replicate (3 - (lg_sl ([.ref o, .int k, .int i])).length) Slot.unset).toArray = ls at hl ⊢
  have hl : lv_has ls 3 [(0, .ref o), (1, .int k), (2, .int i)] := hl
  refine lv_aload_n hx hb dX12_needs_0 rfl (lv_at hl 0 rfl) ?_
  refine lv_aload_n hx hb dX12_needs_1 rfl (lv_at hl 0 rfl) ?_
  refine lv_iload_n hx hb dX12_needs_2 rfl (lv_at hl 1 rfl) ?_
  have hPc := hP.sub (ws' := [(o, .inr (15, bF f))]) [0] rfl
  have hDc := hD.sub (ws' := [(o, .inr (15, bF f))]) [0] (by decide) rfl
  have hKc := hK.sub (tys' := []) [] rfl
  have hFc := va_free (wc := [(o, .inr (15, bF f))]) hD hS hA [0] rfl
  refine va_calli (va_runV (As := [.int k]) (rest := [.ref o]) ⟨hx, hb, hml, hown, hu⟩ (kX12_codeOf l dC dI s.heap.size o f hp nm k h88 h46) (cwV 1 hu (uG_V (fun _ h => h) mG_2970 mG_2967 mG_2969 mG_212 mG_226) rfl rfl rfl (by decide +kernel) ⟨Nat.le_of_ble_eq_true rfl, Nat.le_of_ble_eq_true rfl⟩) ⟨fun a U g mk q => by obtain ⟨q0, q1, qP, qK, qD⟩ := q; exact ⟨q0, q1, qP, va_K.moved (u := U) (U := U.calling g mk a) (Vm.Alike.refl U.vm) qK, qD⟩, va_recv hKc hPc (ci := 15) (q0 := 0) rfl rfl, fun U hU hW => ⟨rfl, by rw [hU], by rw [hU]; exact hPc, va_K.moved hW.alike hKc, hDc.weaken (fun _ _ _ _ => trivial)⟩⟩ rfl rfl hl.1 rfl (lv_room (Nat.le_of_ble_eq_true rfl)) dX12_needs_3 ⟨Nat.le_of_ble_eq_true rfl, Nat.le_of_ble_eq_true rfl⟩) hS (fun q _ h => hFc q h) hFc (fun r3 u t H1 locs ht hvm hw hB hz1 hk1 hS => ?_)
  obtain ⟨hP1, hK1, hD1⟩ := hB
  rw [ht] at hP1
  obtain ⟨hP, hD⟩ := va_join (wr := [(pa, .inl (cP, 640, .inl g)), (ne, .inl (cN, 5120, .inl nd))]) (w1 := [(o, .inr (15, bF f))]) hP hD [0] [1, 2] rfl rfl (by decide) (by decide) hk1 hFc hP1 hD1
  generalize H1 = H at hP hS ⊢
  have hP : va_P (dC, dI) vwCl [(pa, .inl (cP, 640, .inl g)), (ne, .inl (cN, 5120, .inl nd)), (o, .inr (15, bF f))] H := hP
  have hD : va_D A [(pa, .inl (cP, 640, .inl g)), (ne, .inl (cN, 5120, .inl nd)), (o, .inr (15, bF f))] := hD
  have er3 : r3 = (th_code hp nm k) := hw
  subst er3
  refine va_put (D := (dC, dI)) (ci := 15) (v := .int (th_code hp nm k)) (ty := (tyX12 0)) (C := RX12) (T := TX12) (N := 136) hx hb hu iuX12 tyX12 tyX12_ok nmX12 hown hK hP hD hS 2 rfl rfl 0 (by decide) (hu _ mG_2050) (fun _ h9 => h9) rfl (by decide +kernel) (rfl) (rfl) (by rw [bF_len]; decide) dX12_needs_6 (fun H locs hP hD hS => ?_)
  rw [show (bF f).set 0 (.int (th_code hp nm k)) = bF (va_up f 0 (.int (th_code hp nm k))) from bF_set (by decide)] at hP hD
  have hP : va_P (dC, dI) vwCl [(pa, .inl (cP, 640, .inl g)), (ne, .inl (cN, 5120, .inl nd)), (o, .inr (15, bF (va_up f 0 (.int (th_code hp nm k)))))] H := hP
  have hD : va_D A [(pa, .inl (cP, 640, .inl g)), (ne, .inl (cN, 5120, .inl nd)), (o, .inr (15, bF (va_up f 0 (.int (th_code hp nm k)))))] := hD
  refine lv_aload_n hx hb dX12_needs_9 rfl (lv_at hl 0 rfl) ?_
  refine lv_aload_n hx hb dX12_needs_10 rfl (lv_at hl 0 rfl) ?_
  refine va_get (D := (dC, dI)) (ci := 15) (v := .int (th_code hp nm k)) (C := RX12) (T := TX12) (N := 136) hx hb hu iuX12 hown hK hP 2 rfl rfl 0 (by decide) (hu _ mG_2050) (fun _ h9 => h9) ((bF_get (by decide)).trans (congrArg some (rfl))) dX12_needs_11 ?_
  refine lv_if_le (tgt := 24) hx hb dX12_needs_14 (by decide) (fun c14 => ?_) (fun c14 => ?_)
  · refine lv_iload_n hx hb dX12_needs_24 rfl (lv_at hl 2 rfl) ?_
    refine lv_if_lt (tgt := 38) hx hb dX12_needs_25 (by decide) (fun c25 => ?_) (fun c25 => ?_)
    · refine lv_iconst (v := 2) hx hb dX12_needs_38 (by decide) ?_
      refine lv_goto (tgt := 43) hx hb dX12_needs_39 (by decide) ?_
      refine va_put (D := (dC, dI)) (ci := 15) (v := .int 2) (ty := (tyX12 0)) (C := RX12) (T := TX12) (N := 136) hx hb hu iuX12 tyX12 tyX12_ok nmX12 hown hK hP hD hS 2 rfl rfl 0 (by decide) (hu _ mG_2050) (fun _ h9 => h9) rfl (by decide +kernel) (rfl) (rfl) (by rw [bF_len]; decide) dX12_needs_43 (fun H locs hP hD hS => ?_)
      rw [show (bF (va_up f 0 (.int (th_code hp nm k)))).set 0 (.int 2) = bF (va_up (va_up f 0 (.int (th_code hp nm k))) 0 (.int 2)) from bF_set (by decide)] at hP hD
      have hP : va_P (dC, dI) vwCl [(pa, .inl (cP, 640, .inl g)), (ne, .inl (cN, 5120, .inl nd)), (o, .inr (15, bF (va_up (va_up f 0 (.int (th_code hp nm k))) 0 (.int 2))))] H := hP
      have hD : va_D A [(pa, .inl (cP, 640, .inl g)), (ne, .inl (cN, 5120, .inl nd)), (o, .inr (15, bF (va_up (va_up f 0 (.int (th_code hp nm k))) 0 (.int 2))))] := hD
      refine lv_aload_n hx hb dX12_needs_46 rfl (lv_at hl 0 rfl) ?_
      refine va_get (D := (dC, dI)) (ci := 15) (v := .int 2) (C := RX12) (T := TX12) (N := 136) hx hb hu iuX12 hown hK hP 2 rfl rfl 0 (by decide) (hu _ mG_2050) (fun _ h9 => h9) ((bF_get (by decide)).trans (congrArg some (rfl))) dX12_needs_47 ?_
      refine lv_if_ne (tgt := 71) hx hb dX12_needs_50 (by decide) (fun c50 => ?_) (fun c50 => ?_)
      · refine lv_iconst (v := 0) hx hb dX12_needs_71 (by decide) ?_
        have e9 : (th_needs hp nm k i (g k.toNatClampNeg) : Int32) = 2 := by simp [th_needs, c14, c25, c50]
        have hP9 : va_P (dC, dI) vwCl [(o, .inr (15, bF (va_up (va_up f 0 (.int (th_code hp nm k))) 0 (.int (th_needs hp nm k i (g k.toNatClampNeg)))))), (pa, .inl (cP, 640, .inl g)), (ne, .inl (cN, 5120, .inl nd))] H := by rw [e9]; exact hP.sub [2, 0, 1] rfl
        have hD9 : va_D A [(o, .inr (15, bF (va_up (va_up f 0 (.int (th_code hp nm k))) 0 (.int (th_needs hp nm k i (g k.toNatClampNeg)))))), (pa, .inl (cP, 640, .inl g)), (ne, .inl (cN, 5120, .inl nd))] := by rw [e9]; exact hD.sub [2, 0, 1] (by decide) rfl
        have hK9 := hK.sub (tys' := [(cP, .int), (cN, .boolean)]) [0, 1] rfl
        exact W.zret (v := 0) hx hb hr (by decide) (fun t ht hW => ⟨⟨0, (), rfl, by simp [th_needs, c14, c25, c50], by rw [ht]; exact hP9, va_K.moved hW.alike hK9, hD9⟩, hS.F ht⟩) hS.2.2 dX12_needs_72
      · exact absurd c50 (by decide)
    · refine lv_iload_n hx hb dX12_needs_28 rfl (lv_at hl 2 rfl) ?_
      refine lv_aload_n hx hb dX12_needs_29 rfl (lv_at hl 0 rfl) ?_
      refine va_get (D := (dC, dI)) (ci := 15) (v := .ref pa) (C := RX12) (T := TX12) (N := 136) hx hb hu iuX12 hown hK hP 2 rfl rfl 82 (by decide) (hu _ mG_2132) (fun _ h9 => h9) ((bF_get (by decide)).trans (congrArg some (h82))) dX12_needs_30 ?_
      refine lv_iload_n hx hb dX12_needs_33 rfl (lv_at hl 1 rfl) ?_
      refine va_iald hx hb hK hP 0 0 rfl rfl (in_code hnm c14) dX12_needs_34 ?_
      refine lv_icmp_lt (tgt := 42) hx hb dX12_needs_35 (by decide) (fun c35 => ?_) (fun c35 => ?_)
      · refine lv_iconst (v := 0) hx hb dX12_needs_42 (by decide) ?_
        refine va_put (D := (dC, dI)) (ci := 15) (v := .int 0) (ty := (tyX12 0)) (C := RX12) (T := TX12) (N := 136) hx hb hu iuX12 tyX12 tyX12_ok nmX12 hown hK hP hD hS 2 rfl rfl 0 (by decide) (hu _ mG_2050) (fun _ h9 => h9) rfl (by decide +kernel) (rfl) (rfl) (by rw [bF_len]; decide) dX12_needs_43 (fun H locs hP hD hS => ?_)
        rw [show (bF (va_up f 0 (.int (th_code hp nm k)))).set 0 (.int 0) = bF (va_up (va_up f 0 (.int (th_code hp nm k))) 0 (.int 0)) from bF_set (by decide)] at hP hD
        have hP : va_P (dC, dI) vwCl [(pa, .inl (cP, 640, .inl g)), (ne, .inl (cN, 5120, .inl nd)), (o, .inr (15, bF (va_up (va_up f 0 (.int (th_code hp nm k))) 0 (.int 0))))] H := hP
        have hD : va_D A [(pa, .inl (cP, 640, .inl g)), (ne, .inl (cN, 5120, .inl nd)), (o, .inr (15, bF (va_up (va_up f 0 (.int (th_code hp nm k))) 0 (.int 0))))] := hD
        refine lv_aload_n hx hb dX12_needs_46 rfl (lv_at hl 0 rfl) ?_
        refine va_get (D := (dC, dI)) (ci := 15) (v := .int 0) (C := RX12) (T := TX12) (N := 136) hx hb hu iuX12 hown hK hP 2 rfl rfl 0 (by decide) (hu _ mG_2050) (fun _ h9 => h9) ((bF_get (by decide)).trans (congrArg some (rfl))) dX12_needs_47 ?_
        refine lv_if_ne (tgt := 71) hx hb dX12_needs_50 (by decide) (fun c50 => ?_) (fun c50 => ?_)
        · exact absurd (by decide) c50
        · refine lv_aload_n hx hb dX12_needs_53 rfl (lv_at hl 0 rfl) ?_
          refine va_get (D := (dC, dI)) (ci := 15) (v := .ref ne) (C := RX12) (T := TX12) (N := 136) hx hb hu iuX12 hown hK hP 2 rfl rfl 91 (by decide) (hu _ mG_2141) (fun _ h9 => h9) ((bF_get (by decide)).trans (congrArg some (h91))) dX12_needs_54 ?_
          refine lv_bipush (v := 8) hx hb dX12_needs_57 (by decide) ?_
          refine lv_iload_n hx hb dX12_needs_59 rfl (lv_at hl 1 rfl) ?_
          refine lv_imul hx hb dX12_needs_60 ?_
          refine lv_topi (fun x60 ex60 => ?_)
          refine lv_iload_n hx hb dX12_needs_61 rfl (lv_at hl 2 rfl) ?_
          refine lv_iadd hx hb dX12_needs_62 ?_
          refine lv_topi (fun x62 ex62 => ?_)
          refine va_zald hx hb hK hP 1 1 rfl rfl (by rw [ex62, ex60]; exact hin (by simp [th_needs, c14, c25, c35])) dX12_needs_63 ?_
          rw [show (nd (x62).toNatClampNeg) = (nd (8 * k + i).toNatClampNeg) from by rw [ex62, ex60]]
          refine lv_if_eq (tgt := 71) hx hb dX12_needs_64 (by decide) (fun c64 => ?_) (fun c64 => ?_)
          · refine lv_iconst (v := 0) hx hb dX12_needs_71 (by decide) ?_
            have e9 : (th_needs hp nm k i (g k.toNatClampNeg) : Int32) = 0 := by simp [th_needs, c14, c25, c35, c50, c64]
            have hP9 : va_P (dC, dI) vwCl [(o, .inr (15, bF (va_up (va_up f 0 (.int (th_code hp nm k))) 0 (.int (th_needs hp nm k i (g k.toNatClampNeg)))))), (pa, .inl (cP, 640, .inl g)), (ne, .inl (cN, 5120, .inl nd))] H := by rw [e9]; exact hP.sub [2, 0, 1] rfl
            have hD9 : va_D A [(o, .inr (15, bF (va_up (va_up f 0 (.int (th_code hp nm k))) 0 (.int (th_needs hp nm k i (g k.toNatClampNeg)))))), (pa, .inl (cP, 640, .inl g)), (ne, .inl (cN, 5120, .inl nd))] := by rw [e9]; exact hD.sub [2, 0, 1] (by decide) rfl
            have hK9 := hK.sub (tys' := [(cP, .int), (cN, .boolean)]) [0, 1] rfl
            exact W.zret (v := 0) hx hb hr (by decide) (fun t ht hW => ⟨⟨0, (), rfl, by simp [th_needs, c14, c25, c35, c50, c64], by rw [ht]; exact hP9, va_K.moved hW.alike hK9, hD9⟩, hS.F ht⟩) hS.2.2 dX12_needs_72
          · refine lv_iconst (v := 1) hx hb dX12_needs_67 (by decide) ?_
            refine lv_goto (tgt := 72) hx hb dX12_needs_68 (by decide) ?_
            have e9 : (th_needs hp nm k i (g k.toNatClampNeg) : Int32) = 0 := by simp [th_needs, c14, c25, c35, c50, c64]
            have hP9 : va_P (dC, dI) vwCl [(o, .inr (15, bF (va_up (va_up f 0 (.int (th_code hp nm k))) 0 (.int (th_needs hp nm k i (g k.toNatClampNeg)))))), (pa, .inl (cP, 640, .inl g)), (ne, .inl (cN, 5120, .inl nd))] H := by rw [e9]; exact hP.sub [2, 0, 1] rfl
            have hD9 : va_D A [(o, .inr (15, bF (va_up (va_up f 0 (.int (th_code hp nm k))) 0 (.int (th_needs hp nm k i (g k.toNatClampNeg)))))), (pa, .inl (cP, 640, .inl g)), (ne, .inl (cN, 5120, .inl nd))] := by rw [e9]; exact hD.sub [2, 0, 1] (by decide) rfl
            have hK9 := hK.sub (tys' := [(cP, .int), (cN, .boolean)]) [0, 1] rfl
            exact W.zret (v := 1) hx hb hr (by decide) (fun t ht hW => ⟨⟨1, (), rfl, by simp [th_needs, c14, c25, c35, c50, c64], by rw [ht]; exact hP9, va_K.moved hW.alike hK9, hD9⟩, hS.F ht⟩) hS.2.2 dX12_needs_72
      · refine lv_iconst (v := 2) hx hb dX12_needs_38 (by decide) ?_
        refine lv_goto (tgt := 43) hx hb dX12_needs_39 (by decide) ?_
        refine va_put (D := (dC, dI)) (ci := 15) (v := .int 2) (ty := (tyX12 0)) (C := RX12) (T := TX12) (N := 136) hx hb hu iuX12 tyX12 tyX12_ok nmX12 hown hK hP hD hS 2 rfl rfl 0 (by decide) (hu _ mG_2050) (fun _ h9 => h9) rfl (by decide +kernel) (rfl) (rfl) (by rw [bF_len]; decide) dX12_needs_43 (fun H locs hP hD hS => ?_)
        rw [show (bF (va_up f 0 (.int (th_code hp nm k)))).set 0 (.int 2) = bF (va_up (va_up f 0 (.int (th_code hp nm k))) 0 (.int 2)) from bF_set (by decide)] at hP hD
        have hP : va_P (dC, dI) vwCl [(pa, .inl (cP, 640, .inl g)), (ne, .inl (cN, 5120, .inl nd)), (o, .inr (15, bF (va_up (va_up f 0 (.int (th_code hp nm k))) 0 (.int 2))))] H := hP
        have hD : va_D A [(pa, .inl (cP, 640, .inl g)), (ne, .inl (cN, 5120, .inl nd)), (o, .inr (15, bF (va_up (va_up f 0 (.int (th_code hp nm k))) 0 (.int 2))))] := hD
        refine lv_aload_n hx hb dX12_needs_46 rfl (lv_at hl 0 rfl) ?_
        refine va_get (D := (dC, dI)) (ci := 15) (v := .int 2) (C := RX12) (T := TX12) (N := 136) hx hb hu iuX12 hown hK hP 2 rfl rfl 0 (by decide) (hu _ mG_2050) (fun _ h9 => h9) ((bF_get (by decide)).trans (congrArg some (rfl))) dX12_needs_47 ?_
        refine lv_if_ne (tgt := 71) hx hb dX12_needs_50 (by decide) (fun c50 => ?_) (fun c50 => ?_)
        · refine lv_iconst (v := 0) hx hb dX12_needs_71 (by decide) ?_
          have e9 : (th_needs hp nm k i (g k.toNatClampNeg) : Int32) = 2 := by simp [th_needs, c14, c25, c35, c50]
          have hP9 : va_P (dC, dI) vwCl [(o, .inr (15, bF (va_up (va_up f 0 (.int (th_code hp nm k))) 0 (.int (th_needs hp nm k i (g k.toNatClampNeg)))))), (pa, .inl (cP, 640, .inl g)), (ne, .inl (cN, 5120, .inl nd))] H := by rw [e9]; exact hP.sub [2, 0, 1] rfl
          have hD9 : va_D A [(o, .inr (15, bF (va_up (va_up f 0 (.int (th_code hp nm k))) 0 (.int (th_needs hp nm k i (g k.toNatClampNeg)))))), (pa, .inl (cP, 640, .inl g)), (ne, .inl (cN, 5120, .inl nd))] := by rw [e9]; exact hD.sub [2, 0, 1] (by decide) rfl
          have hK9 := hK.sub (tys' := [(cP, .int), (cN, .boolean)]) [0, 1] rfl
          exact W.zret (v := 0) hx hb hr (by decide) (fun t ht hW => ⟨⟨0, (), rfl, by simp [th_needs, c14, c25, c35, c50], by rw [ht]; exact hP9, va_K.moved hW.alike hK9, hD9⟩, hS.F ht⟩) hS.2.2 dX12_needs_72
        · exact absurd c50 (by decide)
  · refine lv_aload_n hx hb dX12_needs_17 rfl (lv_at hl 0 rfl) ?_
    refine va_get (D := (dC, dI)) (ci := 15) (v := .int (th_code hp nm k)) (C := RX12) (T := TX12) (N := 136) hx hb hu iuX12 hown hK hP 2 rfl rfl 0 (by decide) (hu _ mG_2050) (fun _ h9 => h9) ((bF_get (by decide)).trans (congrArg some (rfl))) dX12_needs_18 ?_
    refine lv_goto (tgt := 43) hx hb dX12_needs_21 (by decide) ?_
    refine va_put (D := (dC, dI)) (ci := 15) (v := .int (th_code hp nm k)) (ty := (tyX12 0)) (C := RX12) (T := TX12) (N := 136) hx hb hu iuX12 tyX12 tyX12_ok nmX12 hown hK hP hD hS 2 rfl rfl 0 (by decide) (hu _ mG_2050) (fun _ h9 => h9) rfl (by decide +kernel) (rfl) (rfl) (by rw [bF_len]; decide) dX12_needs_43 (fun H locs hP hD hS => ?_)
    rw [show (bF (va_up f 0 (.int (th_code hp nm k)))).set 0 (.int (th_code hp nm k)) = bF (va_up (va_up f 0 (.int (th_code hp nm k))) 0 (.int (th_code hp nm k))) from bF_set (by decide)] at hP hD
    have hP : va_P (dC, dI) vwCl [(pa, .inl (cP, 640, .inl g)), (ne, .inl (cN, 5120, .inl nd)), (o, .inr (15, bF (va_up (va_up f 0 (.int (th_code hp nm k))) 0 (.int (th_code hp nm k)))))] H := hP
    have hD : va_D A [(pa, .inl (cP, 640, .inl g)), (ne, .inl (cN, 5120, .inl nd)), (o, .inr (15, bF (va_up (va_up f 0 (.int (th_code hp nm k))) 0 (.int (th_code hp nm k)))))] := hD
    refine lv_aload_n hx hb dX12_needs_46 rfl (lv_at hl 0 rfl) ?_
    refine va_get (D := (dC, dI)) (ci := 15) (v := .int (th_code hp nm k)) (C := RX12) (T := TX12) (N := 136) hx hb hu iuX12 hown hK hP 2 rfl rfl 0 (by decide) (hu _ mG_2050) (fun _ h9 => h9) ((bF_get (by decide)).trans (congrArg some (rfl))) dX12_needs_47 ?_
    refine lv_if_ne (tgt := 71) hx hb dX12_needs_50 (by decide) (fun c50 => ?_) (fun c50 => ?_)
    · have c50 := c50
      refine lv_iconst (v := 0) hx hb dX12_needs_71 (by decide) ?_
      have e9 : (th_needs hp nm k i (g k.toNatClampNeg) : Int32) = (th_code hp nm k) := by simp [th_needs, c14, c50]
      have hP9 : va_P (dC, dI) vwCl [(o, .inr (15, bF (va_up (va_up f 0 (.int (th_code hp nm k))) 0 (.int (th_needs hp nm k i (g k.toNatClampNeg)))))), (pa, .inl (cP, 640, .inl g)), (ne, .inl (cN, 5120, .inl nd))] H := by rw [e9]; exact hP.sub [2, 0, 1] rfl
      have hD9 : va_D A [(o, .inr (15, bF (va_up (va_up f 0 (.int (th_code hp nm k))) 0 (.int (th_needs hp nm k i (g k.toNatClampNeg)))))), (pa, .inl (cP, 640, .inl g)), (ne, .inl (cN, 5120, .inl nd))] := by rw [e9]; exact hD.sub [2, 0, 1] (by decide) rfl
      have hK9 := hK.sub (tys' := [(cP, .int), (cN, .boolean)]) [0, 1] rfl
      exact W.zret (v := 0) hx hb hr (by decide) (fun t ht hW => ⟨⟨0, (), rfl, by simp [th_needs, c14, c50], by rw [ht]; exact hP9, va_K.moved hW.alike hK9, hD9⟩, hS.F ht⟩) hS.2.2 dX12_needs_72
    · exact absurd c14 (by rw [show th_code hp nm k = 0 from c50]; decide)
