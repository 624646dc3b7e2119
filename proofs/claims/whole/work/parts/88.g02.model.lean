theorem sw_1_6 (x : Int32) : (x.toInt < 1 ∨ 6 < x.toInt) ∨ x = 1 ∨ x = 2 ∨ x = 3 ∨ x = 4 ∨ x = 5 ∨ x = 6 := by
  by_cases h : x.toInt < 1 ∨ 6 < x.toInt
  · exact Or.inl h
  · have h2 : x.toInt = 1 ∨ x.toInt = 2 ∨ x.toInt = 3 ∨ x.toInt = 4 ∨ x.toInt = 5 ∨ x.toInt = 6 := by omega
    refine Or.inr ?_
    rcases h2 with h | h | h | h | h | h
    · exact Or.inl (Int32.toInt_inj.mp (h.trans (by decide)))
    · exact Or.inr (Or.inl (Int32.toInt_inj.mp (h.trans (by decide))))
    · exact Or.inr (Or.inr (Or.inl (Int32.toInt_inj.mp (h.trans (by decide)))))
    · exact Or.inr (Or.inr (Or.inr (Or.inl (Int32.toInt_inj.mp (h.trans (by decide))))))
    · exact Or.inr (Or.inr (Or.inr (Or.inr (Or.inl (Int32.toInt_inj.mp (h.trans (by decide)))))))
    · exact Or.inr (Or.inr (Or.inr (Or.inr (Or.inr (Int32.toInt_inj.mp (h.trans (by decide)))))))
theorem swo_1_6 {x : Int32} (h : x.toInt < 1 ∨ 6 < x.toInt) : ¬ x = 1 ∧ ¬ x = 2 ∧ ¬ x = 3 ∧ ¬ x = 4 ∧ ¬ x = 5 ∧ ¬ x = 6 := by
  refine ⟨?_, ?_, ?_, ?_, ?_, ?_⟩ <;> (intro e; rw [e] at h; revert h; decide)


theorem mG_125 : Cond.selects "LazyForgeModel" yX12_readE yX12_readE ∈ uG := uG_at 125 (by decide +kernel) (by decide +kernel)
theorem mG_127 : Cond.selects "LazyForgeModel" yX12_wantE yX12_wantE ∈ uG := uG_at 127 (by decide +kernel) (by decide +kernel)
theorem mG_128 : Cond.selects "LazyForgeModel" yX12_begins yX12_begins ∈ uG := uG_at 128 (by decide +kernel) (by decide +kernel)
theorem mG_132 : Cond.selects "LazyForgeModel" yX12_application yX12_application ∈ uG := uG_at 132 (by decide +kernel) (by decide +kernel)
theorem mG_139 : Cond.selects "LazyForgeModel" yX12_atomEnds yX12_atomEnds ∈ uG := uG_at 139 (by decide +kernel) (by decide +kernel)
theorem mG_141 : Cond.selects "LazyForgeModel" yX12_signE yX12_signE ∈ uG := uG_at 141 (by decide +kernel) (by decide +kernel)
theorem mG_142 : Cond.selects "LazyForgeModel" yX12_reduce yX12_reduce ∈ uG := uG_at 142 (by decide +kernel) (by decide +kernel)
theorem mG_143 : Cond.selects "LazyForgeModel" yX12_endE yX12_endE ∈ uG := uG_at 143 (by decide +kernel) (by decide +kernel)
theorem mG_144 : Cond.selects "LazyForgeModel" yX12_endBinding yX12_endBinding ∈ uG := uG_at 144 (by decide +kernel) (by decide +kernel)
theorem mG_145 : Cond.selects "LazyForgeModel" yX12_close yX12_close ∈ uG := uG_at 145 (by decide +kernel) (by decide +kernel)
theorem mG_146 : Cond.selects "LazyForgeModel" yX12_branch yX12_branch ∈ uG := uG_at 146 (by decide +kernel) (by decide +kernel)
theorem mG_147 : Cond.selects "LazyForgeModel" yX12_endBranch yX12_endBranch ∈ uG := uG_at 147 (by decide +kernel) (by decide +kernel)
theorem mG_2077 : Cond.fieldLink "LazyForgeModel" 462 "LazyForgeModel" "functions" "I" ∈ uG := uG_at 2077 (by decide +kernel) (by decide +kernel)
theorem mG_2562 : Cond.methodLink "LazyForgeModel" 465 yX12_readE ∈ uG := uG_at 2562 (by decide +kernel) (by decide +kernel)
theorem mG_2564 : Cond.instanceMethod yX12_readE ∈ uG := uG_at 2564 (by decide +kernel) (by decide +kernel)
theorem mG_2565 : Cond.code yX12_readE prog_14_method_45_code 2 none ∈ uG := uG_at 2565 (by decide +kernel) (by decide +kernel)
theorem mG_2570 : Cond.methodLink "LazyForgeModel" 445 yX12_wantE ∈ uG := uG_at 2570 (by decide +kernel) (by decide +kernel)
theorem mG_2572 : Cond.instanceMethod yX12_wantE ∈ uG := uG_at 2572 (by decide +kernel) (by decide +kernel)
theorem mG_2573 : Cond.code yX12_wantE prog_14_method_46_code 2 none ∈ uG := uG_at 2573 (by decide +kernel) (by decide +kernel)
theorem mG_2574 : Cond.methodLink "LazyForgeModel" 457 yX12_begins ∈ uG := uG_at 2574 (by decide +kernel) (by decide +kernel)
theorem mG_2576 : Cond.instanceMethod yX12_begins ∈ uG := uG_at 2576 (by decide +kernel) (by decide +kernel)
theorem mG_2577 : Cond.code yX12_begins prog_14_method_28_code 2 (some .boolean) ∈ uG := uG_at 2577 (by decide +kernel) (by decide +kernel)
theorem mG_2590 : Cond.methodLink "LazyForgeModel" 459 yX12_application ∈ uG := uG_at 2590 (by decide +kernel) (by decide +kernel)
theorem mG_2592 : Cond.instanceMethod yX12_application ∈ uG := uG_at 2592 (by decide +kernel) (by decide +kernel)
theorem mG_2593 : Cond.code yX12_application prog_14_method_32_code 3 (some .boolean) ∈ uG := uG_at 2593 (by decide +kernel) (by decide +kernel)
theorem mG_2618 : Cond.methodLink "LazyForgeModel" 448 yX12_atomEnds ∈ uG := uG_at 2618 (by decide +kernel) (by decide +kernel)
theorem mG_2620 : Cond.instanceMethod yX12_atomEnds ∈ uG := uG_at 2620 (by decide +kernel) (by decide +kernel)
theorem mG_2621 : Cond.code yX12_atomEnds prog_14_method_36_code 6 none ∈ uG := uG_at 2621 (by decide +kernel) (by decide +kernel)
theorem mG_2626 : Cond.methodLink "LazyForgeModel" 427 yX12_rank ∈ uG := uG_at 2626 (by decide +kernel) (by decide +kernel)
theorem mG_2627 : Cond.static yX12_rank ∈ uG := uG_at 2627 (by decide +kernel) (by decide +kernel)
theorem mG_2628 : Cond.code yX12_rank prog_14_method_37_code 1 (some .int) ∈ uG := uG_at 2628 (by decide +kernel) (by decide +kernel)
theorem mG_2629 : Cond.methodLink "LazyForgeModel" 451 yX12_signE ∈ uG := uG_at 2629 (by decide +kernel) (by decide +kernel)
theorem mG_2631 : Cond.instanceMethod yX12_signE ∈ uG := uG_at 2631 (by decide +kernel) (by decide +kernel)
theorem mG_2632 : Cond.code yX12_signE prog_14_method_39_code 3 none ∈ uG := uG_at 2632 (by decide +kernel) (by decide +kernel)
theorem mG_2633 : Cond.methodLink "LazyForgeModel" 430 yX12_reduce ∈ uG := uG_at 2633 (by decide +kernel) (by decide +kernel)
theorem mG_2635 : Cond.instanceMethod yX12_reduce ∈ uG := uG_at 2635 (by decide +kernel) (by decide +kernel)
theorem mG_2636 : Cond.code yX12_reduce prog_14_method_38_code 3 none ∈ uG := uG_at 2636 (by decide +kernel) (by decide +kernel)
theorem mG_2637 : Cond.methodLink "LazyForgeModel" 454 yX12_endE ∈ uG := uG_at 2637 (by decide +kernel) (by decide +kernel)
theorem mG_2639 : Cond.instanceMethod yX12_endE ∈ uG := uG_at 2639 (by decide +kernel) (by decide +kernel)
theorem mG_2640 : Cond.code yX12_endE prog_14_method_40_code 3 none ∈ uG := uG_at 2640 (by decide +kernel) (by decide +kernel)
theorem mG_2641 : Cond.methodLink "LazyForgeModel" 433 yX12_endBinding ∈ uG := uG_at 2641 (by decide +kernel) (by decide +kernel)
theorem mG_2643 : Cond.instanceMethod yX12_endBinding ∈ uG := uG_at 2643 (by decide +kernel) (by decide +kernel)
theorem mG_2644 : Cond.code yX12_endBinding prog_14_method_42_code 3 none ∈ uG := uG_at 2644 (by decide +kernel) (by decide +kernel)
theorem mG_2645 : Cond.methodLink "LazyForgeModel" 436 yX12_close ∈ uG := uG_at 2645 (by decide +kernel) (by decide +kernel)
theorem mG_2647 : Cond.instanceMethod yX12_close ∈ uG := uG_at 2647 (by decide +kernel) (by decide +kernel)
theorem mG_2648 : Cond.code yX12_close prog_14_method_41_code 2 none ∈ uG := uG_at 2648 (by decide +kernel) (by decide +kernel)
theorem mG_2649 : Cond.methodLink "LazyForgeModel" 439 yX12_branch ∈ uG := uG_at 2649 (by decide +kernel) (by decide +kernel)
theorem mG_2651 : Cond.instanceMethod yX12_branch ∈ uG := uG_at 2651 (by decide +kernel) (by decide +kernel)
theorem mG_2652 : Cond.code yX12_branch prog_14_method_43_code 9 none ∈ uG := uG_at 2652 (by decide +kernel) (by decide +kernel)
theorem mG_2653 : Cond.methodLink "LazyForgeModel" 442 yX12_endBranch ∈ uG := uG_at 2653 (by decide +kernel) (by decide +kernel)
theorem mG_2655 : Cond.instanceMethod yX12_endBranch ∈ uG := uG_at 2655 (by decide +kernel) (by decide +kernel)
theorem mG_2656 : Cond.code yX12_endBranch prog_14_method_44_code 3 none ∈ uG := uG_at 2656 (by decide +kernel) (by decide +kernel)
theorem dX12_branch_0 : decode cX12_branch 0 = .ok (.aload_n 0, 1) := by decide +kernel
theorem dX12_branch_1 : decode cX12_branch 1 = .ok (.getfield 311, 3) := by decide +kernel
theorem dX12_branch_4 : decode cX12_branch 4 = .ok (.ifCond .le 4, 3) := by decide +kernel
theorem dX12_branch_7 : decode cX12_branch 7 = .ok (.return_, 1) := by decide +kernel
theorem dX12_branch_8 : decode cX12_branch 8 = .ok (.iconst 0, 1) := by decide +kernel
theorem dX12_branch_9 : decode cX12_branch 9 = .ok (.istore_n 2, 1) := by decide +kernel
theorem dX12_branch_10 : decode cX12_branch 10 = .ok (.aload_n 0, 1) := by decide +kernel
theorem dX12_branch_11 : decode cX12_branch 11 = .ok (.getfield 19, 3) := by decide +kernel
theorem dX12_branch_14 : decode cX12_branch 14 = .ok (.iload_n 1, 1) := by decide +kernel
theorem dX12_branch_15 : decode cX12_branch 15 = .ok (.iaload, 1) := by decide +kernel
theorem dX12_branch_16 : decode cX12_branch 16 = .ok (.istore_n 3, 1) := by decide +kernel
theorem dX12_branch_17 : decode cX12_branch 17 = .ok (.iload_n 3, 1) := by decide +kernel
theorem dX12_branch_18 : decode cX12_branch 18 = .ok (.ifCond .lt 16, 3) := by decide +kernel
theorem dX12_branch_21 : decode cX12_branch 21 = .ok (.iinc 2 1, 3) := by decide +kernel
theorem dX12_branch_24 : decode cX12_branch 24 = .ok (.aload_n 0, 1) := by decide +kernel
theorem dX12_branch_25 : decode cX12_branch 25 = .ok (.getfield 25, 3) := by decide +kernel
theorem dX12_branch_28 : decode cX12_branch 28 = .ok (.iload_n 3, 1) := by decide +kernel
theorem dX12_branch_29 : decode cX12_branch 29 = .ok (.iaload, 1) := by decide +kernel
theorem dX12_branch_30 : decode cX12_branch 30 = .ok (.istore_n 3, 1) := by decide +kernel
theorem dX12_branch_31 : decode cX12_branch 31 = .ok (.goto (-14), 3) := by decide +kernel
theorem dX12_branch_34 : decode cX12_branch 34 = .ok (.aload_n 0, 1) := by decide +kernel
theorem dX12_branch_35 : decode cX12_branch 35 = .ok (.getfield 286, 3) := by decide +kernel
theorem dX12_branch_38 : decode cX12_branch 38 = .ok (.iconst 4, 1) := by decide +kernel
theorem dX12_branch_39 : decode cX12_branch 39 = .ok (.if_icmp .eq 20, 3) := by decide +kernel
theorem dX12_branch_42 : decode cX12_branch 42 = .ok (.aload_n 0, 1) := by decide +kernel
theorem dX12_branch_43 : decode cX12_branch 43 = .ok (.getfield 286, 3) := by decide +kernel
theorem dX12_branch_46 : decode cX12_branch 46 = .ok (.iconst 2, 1) := by decide +kernel
theorem dX12_branch_47 : decode cX12_branch 47 = .ok (.if_icmp .eq 12, 3) := by decide +kernel
theorem dX12_branch_50 : decode cX12_branch 50 = .ok (.aload_n 0, 1) := by decide +kernel
theorem dX12_branch_51 : decode cX12_branch 51 = .ok (.bipush 95, 2) := by decide +kernel
theorem dX12_branch_53 : decode cX12_branch 53 = .ok (.invokevirtual 383, 3) := by decide +kernel
theorem dX12_branch_56 : decode cX12_branch 56 = .ok (.ifCond .eq 7, 3) := by decide +kernel
theorem dX12_branch_59 : decode cX12_branch 59 = .ok (.iconst 1, 1) := by decide +kernel
theorem dX12_branch_60 : decode cX12_branch 60 = .ok (.goto 4, 3) := by decide +kernel
theorem dX12_branch_63 : decode cX12_branch 63 = .ok (.iconst 0, 1) := by decide +kernel
theorem dX12_branch_64 : decode cX12_branch 64 = .ok (.istore_n 3, 1) := by decide +kernel
theorem dX12_branch_65 : decode cX12_branch 65 = .ok (.aload_n 0, 1) := by decide +kernel
theorem dX12_branch_66 : decode cX12_branch 66 = .ok (.getfield 286, 3) := by decide +kernel
theorem dX12_branch_69 : decode cX12_branch 69 = .ok (.iconst 4, 1) := by decide +kernel
theorem dX12_branch_70 : decode cX12_branch 70 = .ok (.if_icmp .ne 14, 3) := by decide +kernel
theorem dX12_branch_73 : decode cX12_branch 73 = .ok (.aload_n 0, 1) := by decide +kernel
theorem dX12_branch_74 : decode cX12_branch 74 = .ok (.aload_n 0, 1) := by decide +kernel
theorem dX12_branch_75 : decode cX12_branch 75 = .ok (.getfield 278, 3) := by decide +kernel
theorem dX12_branch_78 : decode cX12_branch 78 = .ok (.invokevirtual 396, 3) := by decide +kernel
theorem dX12_branch_81 : decode cX12_branch 81 = .ok (.goto 4, 3) := by decide +kernel
theorem dX12_branch_84 : decode cX12_branch 84 = .ok (.iconst 0, 1) := by decide +kernel
theorem dX12_branch_85 : decode cX12_branch 85 = .ok (.istore 4, 2) := by decide +kernel
theorem dX12_branch_87 : decode cX12_branch 87 = .ok (.iload_n 3, 1) := by decide +kernel
theorem dX12_branch_88 : decode cX12_branch 88 = .ok (.ifCond .ne 10, 3) := by decide +kernel
theorem dX12_branch_91 : decode cX12_branch 91 = .ok (.aload_n 0, 1) := by decide +kernel
theorem dX12_branch_92 : decode cX12_branch 92 = .ok (.invokevirtual 324, 3) := by decide +kernel
theorem dX12_branch_95 : decode cX12_branch 95 = .ok (.goto 35, 3) := by decide +kernel
theorem dX12_branch_98 : decode cX12_branch 98 = .ok (.iload 4, 2) := by decide +kernel
theorem dX12_branch_100 : decode cX12_branch 100 = .ok (.ifCond .ge 15, 3) := by decide +kernel
theorem dX12_branch_103 : decode cX12_branch 103 = .ok (.aload_n 0, 1) := by decide +kernel
theorem dX12_branch_104 : decode cX12_branch 104 = .ok (.iconst 3, 1) := by decide +kernel
theorem dX12_branch_105 : decode cX12_branch 105 = .ok (.aload_n 0, 1) := by decide +kernel
theorem dX12_branch_106 : decode cX12_branch 106 = .ok (.getfield 275, 3) := by decide +kernel
theorem dX12_branch_109 : decode cX12_branch 109 = .ok (.invokevirtual 317, 3) := by decide +kernel
theorem dX12_branch_112 : decode cX12_branch 112 = .ok (.goto 18, 3) := by decide +kernel
theorem dX12_branch_115 : decode cX12_branch 115 = .ok (.iload_n 2, 1) := by decide +kernel
theorem dX12_branch_116 : decode cX12_branch 116 = .ok (.bipush 8, 2) := by decide +kernel
theorem dX12_branch_118 : decode cX12_branch 118 = .ok (.if_icmp .ne 12, 3) := by decide +kernel
theorem dX12_branch_121 : decode cX12_branch 121 = .ok (.aload_n 0, 1) := by decide +kernel
theorem dX12_branch_122 : decode cX12_branch 122 = .ok (.iconst 4, 1) := by decide +kernel
theorem dX12_branch_123 : decode cX12_branch 123 = .ok (.aload_n 0, 1) := by decide +kernel
theorem dX12_branch_124 : decode cX12_branch 124 = .ok (.getfield 275, 3) := by decide +kernel
theorem dX12_branch_127 : decode cX12_branch 127 = .ok (.invokevirtual 317, 3) := by decide +kernel
theorem dX12_branch_130 : decode cX12_branch 130 = .ok (.aload_n 0, 1) := by decide +kernel
theorem dX12_branch_131 : decode cX12_branch 131 = .ok (.getfield 311, 3) := by decide +kernel
theorem dX12_branch_134 : decode cX12_branch 134 = .ok (.ifCond .le 4, 3) := by decide +kernel
theorem dX12_branch_137 : decode cX12_branch 137 = .ok (.return_, 1) := by decide +kernel
theorem dX12_branch_138 : decode cX12_branch 138 = .ok (.aload_n 0, 1) := by decide +kernel
theorem dX12_branch_139 : decode cX12_branch 139 = .ok (.iconst 4, 1) := by decide +kernel
theorem dX12_branch_140 : decode cX12_branch 140 = .ok (.invokevirtual 369, 3) := by decide +kernel
theorem dX12_branch_143 : decode cX12_branch 143 = .ok (.istore 5, 2) := by decide +kernel
theorem dX12_branch_145 : decode cX12_branch 145 = .ok (.aload_n 0, 1) := by decide +kernel
theorem dX12_branch_146 : decode cX12_branch 146 = .ok (.iload_n 1, 1) := by decide +kernel
theorem dX12_branch_147 : decode cX12_branch 147 = .ok (.iload 5, 2) := by decide +kernel
theorem dX12_branch_149 : decode cX12_branch 149 = .ok (.invokevirtual 386, 3) := by decide +kernel
theorem dX12_branch_152 : decode cX12_branch 152 = .ok (.aload_n 0, 1) := by decide +kernel
theorem dX12_branch_153 : decode cX12_branch 153 = .ok (.getfield 34, 3) := by decide +kernel
theorem dX12_branch_156 : decode cX12_branch 156 = .ok (.iload 5, 2) := by decide +kernel
theorem dX12_branch_158 : decode cX12_branch 158 = .ok (.aload_n 0, 1) := by decide +kernel
theorem dX12_branch_159 : decode cX12_branch 159 = .ok (.getfield 286, 3) := by decide +kernel
theorem dX12_branch_162 : decode cX12_branch 162 = .ok (.iconst 4, 1) := by decide +kernel
theorem dX12_branch_163 : decode cX12_branch 163 = .ok (.if_icmp .ne 7, 3) := by decide +kernel
theorem dX12_branch_166 : decode cX12_branch 166 = .ok (.iconst 0, 1) := by decide +kernel
theorem dX12_branch_167 : decode cX12_branch 167 = .ok (.goto 16, 3) := by decide +kernel
theorem dX12_branch_170 : decode cX12_branch 170 = .ok (.aload_n 0, 1) := by decide +kernel
theorem dX12_branch_171 : decode cX12_branch 171 = .ok (.getfield 286, 3) := by decide +kernel
theorem dX12_branch_174 : decode cX12_branch 174 = .ok (.iconst 2, 1) := by decide +kernel
theorem dX12_branch_175 : decode cX12_branch 175 = .ok (.if_icmp .ne 7, 3) := by decide +kernel
theorem dX12_branch_178 : decode cX12_branch 178 = .ok (.iconst 1, 1) := by decide +kernel
theorem dX12_branch_179 : decode cX12_branch 179 = .ok (.goto 4, 3) := by decide +kernel
theorem dX12_branch_182 : decode cX12_branch 182 = .ok (.iconst 2, 1) := by decide +kernel
theorem dX12_branch_183 : decode cX12_branch 183 = .ok (.iastore, 1) := by decide +kernel
theorem dX12_branch_184 : decode cX12_branch 184 = .ok (.aload_n 0, 1) := by decide +kernel
theorem dX12_branch_185 : decode cX12_branch 185 = .ok (.getfield 31, 3) := by decide +kernel
theorem dX12_branch_188 : decode cX12_branch 188 = .ok (.iload 5, 2) := by decide +kernel
theorem dX12_branch_190 : decode cX12_branch 190 = .ok (.aload_n 0, 1) := by decide +kernel
theorem dX12_branch_191 : decode cX12_branch 191 = .ok (.getfield 286, 3) := by decide +kernel
theorem dX12_branch_194 : decode cX12_branch 194 = .ok (.iconst 4, 1) := by decide +kernel
theorem dX12_branch_195 : decode cX12_branch 195 = .ok (.if_icmp .ne 8, 3) := by decide +kernel
theorem dX12_branch_198 : decode cX12_branch 198 = .ok (.iload 4, 2) := by decide +kernel
theorem dX12_branch_200 : decode cX12_branch 200 = .ok (.goto 7, 3) := by decide +kernel
theorem dX12_branch_203 : decode cX12_branch 203 = .ok (.aload_n 0, 1) := by decide +kernel
theorem dX12_branch_204 : decode cX12_branch 204 = .ok (.getfield 295, 3) := by decide +kernel
theorem dX12_branch_207 : decode cX12_branch 207 = .ok (.iastore, 1) := by decide +kernel
theorem dX12_branch_208 : decode cX12_branch 208 = .ok (.aload_n 0, 1) := by decide +kernel
theorem dX12_branch_209 : decode cX12_branch 209 = .ok (.invokevirtual 321, 3) := by decide +kernel
theorem dX12_branch_212 : decode cX12_branch 212 = .ok (.iconst 0, 1) := by decide +kernel
theorem dX12_branch_213 : decode cX12_branch 213 = .ok (.istore 6, 2) := by decide +kernel
theorem dX12_branch_215 : decode cX12_branch 215 = .ok (.aload_n 0, 1) := by decide +kernel
theorem dX12_branch_216 : decode cX12_branch 216 = .ok (.getfield 34, 3) := by decide +kernel
theorem dX12_branch_219 : decode cX12_branch 219 = .ok (.iload 5, 2) := by decide +kernel
theorem dX12_branch_221 : decode cX12_branch 221 = .ok (.iaload, 1) := by decide +kernel
theorem dX12_branch_222 : decode cX12_branch 222 = .ok (.ifCond .ne 94, 3) := by decide +kernel
theorem dX12_branch_225 : decode cX12_branch 225 = .ok (.iload 6, 2) := by decide +kernel
theorem dX12_branch_227 : decode cX12_branch 227 = .ok (.aload_n 0, 1) := by decide +kernel
theorem dX12_branch_228 : decode cX12_branch 228 = .ok (.getfield 62, 3) := by decide +kernel
theorem dX12_branch_231 : decode cX12_branch 231 = .ok (.iload 4, 2) := by decide +kernel
theorem dX12_branch_233 : decode cX12_branch 233 = .ok (.iaload, 1) := by decide +kernel
theorem dX12_branch_234 : decode cX12_branch 234 = .ok (.if_icmp .ge 82, 3) := by decide +kernel
theorem dX12_branch_237 : decode cX12_branch 237 = .ok (.aload_n 0, 1) := by decide +kernel
theorem dX12_branch_238 : decode cX12_branch 238 = .ok (.getfield 311, 3) := by decide +kernel
theorem dX12_branch_241 : decode cX12_branch 241 = .ok (.ifCond .ne 75, 3) := by decide +kernel
theorem dX12_branch_244 : decode cX12_branch 244 = .ok (.aload_n 0, 1) := by decide +kernel
theorem dX12_branch_245 : decode cX12_branch 245 = .ok (.getfield 278, 3) := by decide +kernel
theorem dX12_branch_248 : decode cX12_branch 248 = .ok (.lstore 7, 2) := by decide +kernel
theorem dX12_branch_250 : decode cX12_branch 250 = .ok (.aload_n 0, 1) := by decide +kernel
theorem dX12_branch_251 : decode cX12_branch 251 = .ok (.getfield 286, 3) := by decide +kernel
theorem dX12_branch_254 : decode cX12_branch 254 = .ok (.iconst 3, 1) := by decide +kernel
theorem dX12_branch_255 : decode cX12_branch 255 = .ok (.if_icmp .ne 23, 3) := by decide +kernel
theorem dX12_branch_258 : decode cX12_branch 258 = .ok (.aload_n 0, 1) := by decide +kernel
theorem dX12_branch_259 : decode cX12_branch 259 = .ok (.iload 5, 2) := by decide +kernel
theorem dX12_branch_261 : decode cX12_branch 261 = .ok (.lload 7, 2) := by decide +kernel
theorem dX12_branch_263 : decode cX12_branch 263 = .ok (.invokevirtual 351, 3) := by decide +kernel
theorem dX12_branch_266 : decode cX12_branch 266 = .ok (.ifCond .eq 12, 3) := by decide +kernel
theorem dX12_branch_269 : decode cX12_branch 269 = .ok (.aload_n 0, 1) := by decide +kernel
theorem dX12_branch_270 : decode cX12_branch 270 = .ok (.iconst 2, 1) := by decide +kernel
theorem dX12_branch_271 : decode cX12_branch 271 = .ok (.aload_n 0, 1) := by decide +kernel
theorem dX12_branch_272 : decode cX12_branch 272 = .ok (.getfield 275, 3) := by decide +kernel
theorem dX12_branch_275 : decode cX12_branch 275 = .ok (.invokevirtual 317, 3) := by decide +kernel
theorem dX12_branch_278 : decode cX12_branch 278 = .ok (.aload_n 0, 1) := by decide +kernel
theorem dX12_branch_279 : decode cX12_branch 279 = .ok (.aload_n 0, 1) := by decide +kernel
theorem dX12_branch_280 : decode cX12_branch 280 = .ok (.getfield 286, 3) := by decide +kernel
theorem dX12_branch_283 : decode cX12_branch 283 = .ok (.iconst 3, 1) := by decide +kernel
theorem dX12_branch_284 : decode cX12_branch 284 = .ok (.if_icmp .ne 7, 3) := by decide +kernel
theorem dX12_branch_287 : decode cX12_branch 287 = .ok (.iconst 1, 1) := by decide +kernel
theorem dX12_branch_288 : decode cX12_branch 288 = .ok (.goto 4, 3) := by decide +kernel
theorem dX12_branch_291 : decode cX12_branch 291 = .ok (.iconst 0, 1) := by decide +kernel
theorem dX12_branch_292 : decode cX12_branch 292 = .ok (.invokevirtual 359, 3) := by decide +kernel
theorem dX12_branch_295 : decode cX12_branch 295 = .ok (.aload_n 0, 1) := by decide +kernel
theorem dX12_branch_296 : decode cX12_branch 296 = .ok (.getfield 311, 3) := by decide +kernel
theorem dX12_branch_299 : decode cX12_branch 299 = .ok (.ifCond .ne 11, 3) := by decide +kernel
theorem dX12_branch_302 : decode cX12_branch 302 = .ok (.aload_n 0, 1) := by decide +kernel
theorem dX12_branch_303 : decode cX12_branch 303 = .ok (.iload 5, 2) := by decide +kernel
theorem dX12_branch_305 : decode cX12_branch 305 = .ok (.lload 7, 2) := by decide +kernel
theorem dX12_branch_307 : decode cX12_branch 307 = .ok (.invokevirtual 362, 3) := by decide +kernel
theorem dX12_branch_310 : decode cX12_branch 310 = .ok (.iinc 6 1, 3) := by decide +kernel
theorem dX12_branch_313 : decode cX12_branch 313 = .ok (.goto (-98), 3) := by decide +kernel
theorem dX12_branch_316 : decode cX12_branch 316 = .ok (.aload_n 0, 1) := by decide +kernel
theorem dX12_branch_317 : decode cX12_branch 317 = .ok (.aload_n 0, 1) := by decide +kernel
theorem dX12_branch_318 : decode cX12_branch 318 = .ok (.getfield 286, 3) := by decide +kernel
theorem dX12_branch_321 : decode cX12_branch 321 = .ok (.bipush 20, 2) := by decide +kernel
theorem dX12_branch_323 : decode cX12_branch 323 = .ok (.if_icmp .ne 7, 3) := by decide +kernel
theorem dX12_branch_326 : decode cX12_branch 326 = .ok (.iconst 1, 1) := by decide +kernel
theorem dX12_branch_327 : decode cX12_branch 327 = .ok (.goto 4, 3) := by decide +kernel
theorem dX12_branch_330 : decode cX12_branch 330 = .ok (.iconst 0, 1) := by decide +kernel
theorem dX12_branch_331 : decode cX12_branch 331 = .ok (.invokevirtual 359, 3) := by decide +kernel
theorem dX12_branch_334 : decode cX12_branch 334 = .ok (.aload_n 0, 1) := by decide +kernel
theorem dX12_branch_335 : decode cX12_branch 335 = .ok (.bipush 6, 2) := by decide +kernel
theorem dX12_branch_337 : decode cX12_branch 337 = .ok (.iload 5, 2) := by decide +kernel
theorem dX12_branch_339 : decode cX12_branch 339 = .ok (.iconst 0, 1) := by decide +kernel
theorem dX12_branch_340 : decode cX12_branch 340 = .ok (.invokevirtual 372, 3) := by decide +kernel
theorem dX12_branch_343 : decode cX12_branch 343 = .ok (.aload_n 0, 1) := by decide +kernel
theorem dX12_branch_344 : decode cX12_branch 344 = .ok (.iconst 1, 1) := by decide +kernel
theorem dX12_branch_345 : decode cX12_branch 345 = .ok (.putfield 389, 3) := by decide +kernel
theorem dX12_branch_348 : decode cX12_branch 348 = .ok (.aload_n 0, 1) := by decide +kernel
theorem dX12_branch_349 : decode cX12_branch 349 = .ok (.iconst 1, 1) := by decide +kernel
theorem dX12_branch_350 : decode cX12_branch 350 = .ok (.putfield 393, 3) := by decide +kernel
theorem dX12_branch_353 : decode cX12_branch 353 = .ok (.return_, 1) := by decide +kernel
theorem dX12_close_0 : decode cX12_close 0 = .ok (.aload_n 0, 1) := by decide +kernel
theorem dX12_close_1 : decode cX12_close 1 = .ok (.dup, 1) := by decide +kernel
theorem dX12_close_2 : decode cX12_close 2 = .ok (.getfield 342, 3) := by decide +kernel
theorem dX12_close_5 : decode cX12_close 5 = .ok (.iconst 1, 1) := by decide +kernel
theorem dX12_close_6 : decode cX12_close 6 = .ok (.isub, 1) := by decide +kernel
theorem dX12_close_7 : decode cX12_close 7 = .ok (.putfield 342, 3) := by decide +kernel
theorem dX12_close_10 : decode cX12_close 10 = .ok (.aload_n 0, 1) := by decide +kernel
theorem dX12_close_11 : decode cX12_close 11 = .ok (.dup, 1) := by decide +kernel
theorem dX12_close_12 : decode cX12_close 12 = .ok (.getfield 339, 3) := by decide +kernel
theorem dX12_close_15 : decode cX12_close 15 = .ok (.iconst 1, 1) := by decide +kernel
theorem dX12_close_16 : decode cX12_close 16 = .ok (.isub, 1) := by decide +kernel
theorem dX12_close_17 : decode cX12_close 17 = .ok (.putfield 339, 3) := by decide +kernel
theorem dX12_close_20 : decode cX12_close 20 = .ok (.aload_n 0, 1) := by decide +kernel
theorem dX12_close_21 : decode cX12_close 21 = .ok (.iload_n 1, 1) := by decide +kernel
theorem dX12_close_22 : decode cX12_close 22 = .ok (.invokevirtual 402, 3) := by decide +kernel
theorem dX12_close_25 : decode cX12_close 25 = .ok (.aload_n 0, 1) := by decide +kernel
theorem dX12_close_26 : decode cX12_close 26 = .ok (.iconst 1, 1) := by decide +kernel
theorem dX12_close_27 : decode cX12_close 27 = .ok (.putfield 405, 3) := by decide +kernel
theorem dX12_close_30 : decode cX12_close 30 = .ok (.return_, 1) := by decide +kernel
theorem dX12_endBinding_0 : decode cX12_endBinding 0 = .ok (.aload_n 0, 1) := by decide +kernel
theorem dX12_endBinding_1 : decode cX12_endBinding 1 = .ok (.getfield 19, 3) := by decide +kernel
theorem dX12_endBinding_4 : decode cX12_endBinding 4 = .ok (.iload_n 1, 1) := by decide +kernel
theorem dX12_endBinding_5 : decode cX12_endBinding 5 = .ok (.aload_n 0, 1) := by decide +kernel
theorem dX12_endBinding_6 : decode cX12_endBinding 6 = .ok (.invokevirtual 420, 3) := by decide +kernel
theorem dX12_endBinding_9 : decode cX12_endBinding 9 = .ok (.iastore, 1) := by decide +kernel
theorem dX12_endBinding_10 : decode cX12_endBinding 10 = .ok (.aload_n 0, 1) := by decide +kernel
theorem dX12_endBinding_11 : decode cX12_endBinding 11 = .ok (.dup, 1) := by decide +kernel
theorem dX12_endBinding_12 : decode cX12_endBinding 12 = .ok (.getfield 342, 3) := by decide +kernel
theorem dX12_endBinding_15 : decode cX12_endBinding 15 = .ok (.iconst 1, 1) := by decide +kernel
theorem dX12_endBinding_16 : decode cX12_endBinding 16 = .ok (.isub, 1) := by decide +kernel
theorem dX12_endBinding_17 : decode cX12_endBinding 17 = .ok (.putfield 342, 3) := by decide +kernel
theorem dX12_endBinding_20 : decode cX12_endBinding 20 = .ok (.aload_n 0, 1) := by decide +kernel
theorem dX12_endBinding_21 : decode cX12_endBinding 21 = .ok (.getfield 68, 3) := by decide +kernel
theorem dX12_endBinding_24 : decode cX12_endBinding 24 = .ok (.aload_n 0, 1) := by decide +kernel
theorem dX12_endBinding_25 : decode cX12_endBinding 25 = .ok (.getfield 342, 3) := by decide +kernel
theorem dX12_endBinding_28 : decode cX12_endBinding 28 = .ok (.iconst 1, 1) := by decide +kernel
theorem dX12_endBinding_29 : decode cX12_endBinding 29 = .ok (.isub, 1) := by decide +kernel
theorem dX12_endBinding_30 : decode cX12_endBinding 30 = .ok (.iaload, 1) := by decide +kernel
theorem dX12_endBinding_31 : decode cX12_endBinding 31 = .ok (.istore_n 2, 1) := by decide +kernel
theorem dX12_endBinding_32 : decode cX12_endBinding 32 = .ok (.aload_n 0, 1) := by decide +kernel
theorem dX12_endBinding_33 : decode cX12_endBinding 33 = .ok (.bipush 44, 2) := by decide +kernel
theorem dX12_endBinding_35 : decode cX12_endBinding 35 = .ok (.invokevirtual 383, 3) := by decide +kernel
theorem dX12_endBinding_38 : decode cX12_endBinding 38 = .ok (.ifCond .eq 15, 3) := by decide +kernel
theorem dX12_endBinding_41 : decode cX12_endBinding 41 = .ok (.aload_n 0, 1) := by decide +kernel
theorem dX12_endBinding_42 : decode cX12_endBinding 42 = .ok (.invokevirtual 321, 3) := by decide +kernel
theorem dX12_endBinding_45 : decode cX12_endBinding 45 = .ok (.aload_n 0, 1) := by decide +kernel
theorem dX12_endBinding_46 : decode cX12_endBinding 46 = .ok (.iload_n 2, 1) := by decide +kernel
theorem dX12_endBinding_47 : decode cX12_endBinding 47 = .ok (.invokevirtual 376, 3) := by decide +kernel
theorem dX12_endBinding_50 : decode cX12_endBinding 50 = .ok (.goto 31, 3) := by decide +kernel
theorem dX12_endBinding_53 : decode cX12_endBinding 53 = .ok (.aload_n 0, 1) := by decide +kernel
theorem dX12_endBinding_54 : decode cX12_endBinding 54 = .ok (.aload_n 0, 1) := by decide +kernel
theorem dX12_endBinding_55 : decode cX12_endBinding 55 = .ok (.getfield 286, 3) := by decide +kernel
theorem dX12_endBinding_58 : decode cX12_endBinding 58 = .ok (.bipush 12, 2) := by decide +kernel
theorem dX12_endBinding_60 : decode cX12_endBinding 60 = .ok (.if_icmp .ne 7, 3) := by decide +kernel
theorem dX12_endBinding_63 : decode cX12_endBinding 63 = .ok (.iconst 1, 1) := by decide +kernel
theorem dX12_endBinding_64 : decode cX12_endBinding 64 = .ok (.goto 4, 3) := by decide +kernel
theorem dX12_endBinding_67 : decode cX12_endBinding 67 = .ok (.iconst 0, 1) := by decide +kernel
theorem dX12_endBinding_68 : decode cX12_endBinding 68 = .ok (.invokevirtual 359, 3) := by decide +kernel
theorem dX12_endBinding_71 : decode cX12_endBinding 71 = .ok (.aload_n 0, 1) := by decide +kernel
theorem dX12_endBinding_72 : decode cX12_endBinding 72 = .ok (.iconst 1, 1) := by decide +kernel
theorem dX12_endBinding_73 : decode cX12_endBinding 73 = .ok (.putfield 389, 3) := by decide +kernel
theorem dX12_endBinding_76 : decode cX12_endBinding 76 = .ok (.aload_n 0, 1) := by decide +kernel
theorem dX12_endBinding_77 : decode cX12_endBinding 77 = .ok (.iconst 1, 1) := by decide +kernel
theorem dX12_endBinding_78 : decode cX12_endBinding 78 = .ok (.putfield 393, 3) := by decide +kernel
theorem dX12_endBinding_81 : decode cX12_endBinding 81 = .ok (.return_, 1) := by decide +kernel
theorem dX12_endBranch_0 : decode cX12_endBranch 0 = .ok (.aload_n 0, 1) := by decide +kernel
theorem dX12_endBranch_1 : decode cX12_endBranch 1 = .ok (.getfield 19, 3) := by decide +kernel
theorem dX12_endBranch_4 : decode cX12_endBranch 4 = .ok (.iload_n 1, 1) := by decide +kernel
theorem dX12_endBranch_5 : decode cX12_endBranch 5 = .ok (.aload_n 0, 1) := by decide +kernel
theorem dX12_endBranch_6 : decode cX12_endBranch 6 = .ok (.invokevirtual 420, 3) := by decide +kernel
theorem dX12_endBranch_9 : decode cX12_endBranch 9 = .ok (.iastore, 1) := by decide +kernel
theorem dX12_endBranch_10 : decode cX12_endBranch 10 = .ok (.aload_n 0, 1) := by decide +kernel
theorem dX12_endBranch_11 : decode cX12_endBranch 11 = .ok (.dup, 1) := by decide +kernel
theorem dX12_endBranch_12 : decode cX12_endBranch 12 = .ok (.getfield 342, 3) := by decide +kernel
theorem dX12_endBranch_15 : decode cX12_endBranch 15 = .ok (.iconst 1, 1) := by decide +kernel
theorem dX12_endBranch_16 : decode cX12_endBranch 16 = .ok (.isub, 1) := by decide +kernel
theorem dX12_endBranch_17 : decode cX12_endBranch 17 = .ok (.putfield 342, 3) := by decide +kernel
theorem dX12_endBranch_20 : decode cX12_endBranch 20 = .ok (.aload_n 0, 1) := by decide +kernel
theorem dX12_endBranch_21 : decode cX12_endBranch 21 = .ok (.getfield 68, 3) := by decide +kernel
theorem dX12_endBranch_24 : decode cX12_endBranch 24 = .ok (.aload_n 0, 1) := by decide +kernel
theorem dX12_endBranch_25 : decode cX12_endBranch 25 = .ok (.getfield 342, 3) := by decide +kernel
theorem dX12_endBranch_28 : decode cX12_endBranch 28 = .ok (.iconst 1, 1) := by decide +kernel
theorem dX12_endBranch_29 : decode cX12_endBranch 29 = .ok (.isub, 1) := by decide +kernel
theorem dX12_endBranch_30 : decode cX12_endBranch 30 = .ok (.iaload, 1) := by decide +kernel
theorem dX12_endBranch_31 : decode cX12_endBranch 31 = .ok (.istore_n 2, 1) := by decide +kernel
theorem dX12_endBranch_32 : decode cX12_endBranch 32 = .ok (.aload_n 0, 1) := by decide +kernel
theorem dX12_endBranch_33 : decode cX12_endBranch 33 = .ok (.bipush 59, 2) := by decide +kernel
theorem dX12_endBranch_35 : decode cX12_endBranch 35 = .ok (.invokevirtual 383, 3) := by decide +kernel
theorem dX12_endBranch_38 : decode cX12_endBranch 38 = .ok (.ifCond .eq 15, 3) := by decide +kernel
theorem dX12_endBranch_41 : decode cX12_endBranch 41 = .ok (.aload_n 0, 1) := by decide +kernel
theorem dX12_endBranch_42 : decode cX12_endBranch 42 = .ok (.invokevirtual 321, 3) := by decide +kernel
theorem dX12_endBranch_45 : decode cX12_endBranch 45 = .ok (.aload_n 0, 1) := by decide +kernel
theorem dX12_endBranch_46 : decode cX12_endBranch 46 = .ok (.iload_n 2, 1) := by decide +kernel
theorem dX12_endBranch_47 : decode cX12_endBranch 47 = .ok (.invokevirtual 439, 3) := by decide +kernel
theorem dX12_endBranch_50 : decode cX12_endBranch 50 = .ok (.goto 18, 3) := by decide +kernel
theorem dX12_endBranch_53 : decode cX12_endBranch 53 = .ok (.aload_n 0, 1) := by decide +kernel
theorem dX12_endBranch_54 : decode cX12_endBranch 54 = .ok (.aload_n 0, 1) := by decide +kernel
theorem dX12_endBranch_55 : decode cX12_endBranch 55 = .ok (.bipush 125, 2) := by decide +kernel
theorem dX12_endBranch_57 : decode cX12_endBranch 57 = .ok (.invokevirtual 383, 3) := by decide +kernel
theorem dX12_endBranch_60 : decode cX12_endBranch 60 = .ok (.invokevirtual 359, 3) := by decide +kernel
theorem dX12_endBranch_63 : decode cX12_endBranch 63 = .ok (.aload_n 0, 1) := by decide +kernel
theorem dX12_endBranch_64 : decode cX12_endBranch 64 = .ok (.iload_n 2, 1) := by decide +kernel
theorem dX12_endBranch_65 : decode cX12_endBranch 65 = .ok (.invokevirtual 436, 3) := by decide +kernel
theorem dX12_endBranch_68 : decode cX12_endBranch 68 = .ok (.return_, 1) := by decide +kernel
theorem dX12_endE_0 : decode cX12_endE 0 = .ok (.aload_n 0, 1) := by decide +kernel
theorem dX12_endE_1 : decode cX12_endE 1 = .ok (.iconst 1, 1) := by decide +kernel
theorem dX12_endE_2 : decode cX12_endE 2 = .ok (.invokevirtual 430, 3) := by decide +kernel
theorem dX12_endE_5 : decode cX12_endE 5 = .ok (.aload_n 0, 1) := by decide +kernel
theorem dX12_endE_6 : decode cX12_endE 6 = .ok (.getfield 342, 3) := by decide +kernel
theorem dX12_endE_9 : decode cX12_endE 9 = .ok (.iconst 1, 1) := by decide +kernel
theorem dX12_endE_10 : decode cX12_endE 10 = .ok (.isub, 1) := by decide +kernel
theorem dX12_endE_11 : decode cX12_endE 11 = .ok (.istore_n 1, 1) := by decide +kernel
theorem dX12_endE_12 : decode cX12_endE 12 = .ok (.aload_n 0, 1) := by decide +kernel
theorem dX12_endE_13 : decode cX12_endE 13 = .ok (.getfield 68, 3) := by decide +kernel
theorem dX12_endE_16 : decode cX12_endE 16 = .ok (.iload_n 1, 1) := by decide +kernel
theorem dX12_endE_17 : decode cX12_endE 17 = .ok (.iaload, 1) := by decide +kernel
theorem dX12_endE_18 : decode cX12_endE 18 = .ok (.istore_n 2, 1) := by decide +kernel
theorem dX12_endE_19 : decode cX12_endE 19 = .ok (.aload_n 0, 1) := by decide +kernel
theorem dX12_endE_20 : decode cX12_endE 20 = .ok (.getfield 65, 3) := by decide +kernel
theorem dX12_endE_23 : decode cX12_endE 23 = .ok (.iload_n 1, 1) := by decide +kernel
theorem dX12_endE_24 : decode cX12_endE 24 = .ok (.iaload, 1) := by decide +kernel
theorem dX12_endE_25 : decode cX12_endE 25 = .ok (.tableswitch 180 1 6 #[39, 82, 90, 108, 126, 172], 39) := by decide +kernel
theorem dX12_endE_64 : decode cX12_endE 64 = .ok (.aload_n 0, 1) := by decide +kernel
theorem dX12_endE_65 : decode cX12_endE 65 = .ok (.aload_n 0, 1) := by decide +kernel
theorem dX12_endE_66 : decode cX12_endE 66 = .ok (.bipush 41, 2) := by decide +kernel
theorem dX12_endE_68 : decode cX12_endE 68 = .ok (.invokevirtual 383, 3) := by decide +kernel
theorem dX12_endE_71 : decode cX12_endE 71 = .ok (.invokevirtual 359, 3) := by decide +kernel
theorem dX12_endE_74 : decode cX12_endE 74 = .ok (.aload_n 0, 1) := by decide +kernel
theorem dX12_endE_75 : decode cX12_endE 75 = .ok (.dup, 1) := by decide +kernel
theorem dX12_endE_76 : decode cX12_endE 76 = .ok (.getfield 342, 3) := by decide +kernel
theorem dX12_endE_79 : decode cX12_endE 79 = .ok (.iconst 1, 1) := by decide +kernel
theorem dX12_endE_80 : decode cX12_endE 80 = .ok (.isub, 1) := by decide +kernel
theorem dX12_endE_81 : decode cX12_endE 81 = .ok (.putfield 342, 3) := by decide +kernel
theorem dX12_endE_84 : decode cX12_endE 84 = .ok (.aload_n 0, 1) := by decide +kernel
theorem dX12_endE_85 : decode cX12_endE 85 = .ok (.dup, 1) := by decide +kernel
theorem dX12_endE_86 : decode cX12_endE 86 = .ok (.getfield 339, 3) := by decide +kernel
theorem dX12_endE_89 : decode cX12_endE 89 = .ok (.iconst 1, 1) := by decide +kernel
theorem dX12_endE_90 : decode cX12_endE 90 = .ok (.isub, 1) := by decide +kernel
theorem dX12_endE_91 : decode cX12_endE 91 = .ok (.putfield 339, 3) := by decide +kernel
theorem dX12_endE_94 : decode cX12_endE 94 = .ok (.aload_n 0, 1) := by decide +kernel
theorem dX12_endE_95 : decode cX12_endE 95 = .ok (.iconst 0, 1) := by decide +kernel
theorem dX12_endE_96 : decode cX12_endE 96 = .ok (.putfield 424, 3) := by decide +kernel
theorem dX12_endE_99 : decode cX12_endE 99 = .ok (.aload_n 0, 1) := by decide +kernel
theorem dX12_endE_100 : decode cX12_endE 100 = .ok (.iconst 0, 1) := by decide +kernel
theorem dX12_endE_101 : decode cX12_endE 101 = .ok (.putfield 405, 3) := by decide +kernel
theorem dX12_endE_104 : decode cX12_endE 104 = .ok (.goto 131, 3) := by decide +kernel
theorem dX12_endE_107 : decode cX12_endE 107 = .ok (.aload_n 0, 1) := by decide +kernel
theorem dX12_endE_108 : decode cX12_endE 108 = .ok (.iload_n 2, 1) := by decide +kernel
theorem dX12_endE_109 : decode cX12_endE 109 = .ok (.invokevirtual 433, 3) := by decide +kernel
theorem dX12_endE_112 : decode cX12_endE 112 = .ok (.goto 123, 3) := by decide +kernel
theorem dX12_endE_115 : decode cX12_endE 115 = .ok (.aload_n 0, 1) := by decide +kernel
theorem dX12_endE_116 : decode cX12_endE 116 = .ok (.getfield 31, 3) := by decide +kernel
theorem dX12_endE_119 : decode cX12_endE 119 = .ok (.iload_n 2, 1) := by decide +kernel
theorem dX12_endE_120 : decode cX12_endE 120 = .ok (.aload_n 0, 1) := by decide +kernel
theorem dX12_endE_121 : decode cX12_endE 121 = .ok (.invokevirtual 420, 3) := by decide +kernel
theorem dX12_endE_124 : decode cX12_endE 124 = .ok (.iastore, 1) := by decide +kernel
theorem dX12_endE_125 : decode cX12_endE 125 = .ok (.aload_n 0, 1) := by decide +kernel
theorem dX12_endE_126 : decode cX12_endE 126 = .ok (.iload_n 2, 1) := by decide +kernel
theorem dX12_endE_127 : decode cX12_endE 127 = .ok (.invokevirtual 436, 3) := by decide +kernel
theorem dX12_endE_130 : decode cX12_endE 130 = .ok (.goto 105, 3) := by decide +kernel
theorem dX12_endE_133 : decode cX12_endE 133 = .ok (.aload_n 0, 1) := by decide +kernel
theorem dX12_endE_134 : decode cX12_endE 134 = .ok (.getfield 19, 3) := by decide +kernel
theorem dX12_endE_137 : decode cX12_endE 137 = .ok (.iload_n 2, 1) := by decide +kernel
theorem dX12_endE_138 : decode cX12_endE 138 = .ok (.aload_n 0, 1) := by decide +kernel
theorem dX12_endE_139 : decode cX12_endE 139 = .ok (.invokevirtual 420, 3) := by decide +kernel
theorem dX12_endE_142 : decode cX12_endE 142 = .ok (.iastore, 1) := by decide +kernel
theorem dX12_endE_143 : decode cX12_endE 143 = .ok (.aload_n 0, 1) := by decide +kernel
theorem dX12_endE_144 : decode cX12_endE 144 = .ok (.iload_n 2, 1) := by decide +kernel
theorem dX12_endE_145 : decode cX12_endE 145 = .ok (.invokevirtual 436, 3) := by decide +kernel
theorem dX12_endE_148 : decode cX12_endE 148 = .ok (.goto 87, 3) := by decide +kernel
theorem dX12_endE_151 : decode cX12_endE 151 = .ok (.aload_n 0, 1) := by decide +kernel
theorem dX12_endE_152 : decode cX12_endE 152 = .ok (.getfield 31, 3) := by decide +kernel
theorem dX12_endE_155 : decode cX12_endE 155 = .ok (.iload_n 2, 1) := by decide +kernel
theorem dX12_endE_156 : decode cX12_endE 156 = .ok (.aload_n 0, 1) := by decide +kernel
theorem dX12_endE_157 : decode cX12_endE 157 = .ok (.invokevirtual 420, 3) := by decide +kernel
theorem dX12_endE_160 : decode cX12_endE 160 = .ok (.iastore, 1) := by decide +kernel
theorem dX12_endE_161 : decode cX12_endE 161 = .ok (.aload_n 0, 1) := by decide +kernel
theorem dX12_endE_162 : decode cX12_endE 162 = .ok (.aload_n 0, 1) := by decide +kernel
theorem dX12_endE_163 : decode cX12_endE 163 = .ok (.getfield 286, 3) := by decide +kernel
theorem dX12_endE_166 : decode cX12_endE 166 = .ok (.bipush 14, 2) := by decide +kernel
theorem dX12_endE_168 : decode cX12_endE 168 = .ok (.if_icmp .ne 7, 3) := by decide +kernel
theorem dX12_endE_171 : decode cX12_endE 171 = .ok (.iconst 1, 1) := by decide +kernel
theorem dX12_endE_172 : decode cX12_endE 172 = .ok (.goto 4, 3) := by decide +kernel
theorem dX12_endE_175 : decode cX12_endE 175 = .ok (.iconst 0, 1) := by decide +kernel
theorem dX12_endE_176 : decode cX12_endE 176 = .ok (.invokevirtual 359, 3) := by decide +kernel
theorem dX12_endE_179 : decode cX12_endE 179 = .ok (.aload_n 0, 1) := by decide +kernel
theorem dX12_endE_180 : decode cX12_endE 180 = .ok (.aload_n 0, 1) := by decide +kernel
theorem dX12_endE_181 : decode cX12_endE 181 = .ok (.bipush 123, 2) := by decide +kernel
theorem dX12_endE_183 : decode cX12_endE 183 = .ok (.invokevirtual 383, 3) := by decide +kernel
theorem dX12_endE_186 : decode cX12_endE 186 = .ok (.invokevirtual 359, 3) := by decide +kernel
theorem dX12_endE_189 : decode cX12_endE 189 = .ok (.aload_n 0, 1) := by decide +kernel
theorem dX12_endE_190 : decode cX12_endE 190 = .ok (.iload_n 2, 1) := by decide +kernel
theorem dX12_endE_191 : decode cX12_endE 191 = .ok (.invokevirtual 439, 3) := by decide +kernel
theorem dX12_endE_194 : decode cX12_endE 194 = .ok (.goto 41, 3) := by decide +kernel
theorem dX12_endE_197 : decode cX12_endE 197 = .ok (.aload_n 0, 1) := by decide +kernel
theorem dX12_endE_198 : decode cX12_endE 198 = .ok (.iload_n 2, 1) := by decide +kernel
theorem dX12_endE_199 : decode cX12_endE 199 = .ok (.invokevirtual 442, 3) := by decide +kernel
theorem dX12_endE_202 : decode cX12_endE 202 = .ok (.goto 33, 3) := by decide +kernel
theorem dX12_endE_205 : decode cX12_endE 205 = .ok (.aload_n 0, 1) := by decide +kernel
theorem dX12_endE_206 : decode cX12_endE 206 = .ok (.getfield 19, 3) := by decide +kernel
theorem dX12_endE_209 : decode cX12_endE 209 = .ok (.iload_n 2, 1) := by decide +kernel
theorem dX12_endE_210 : decode cX12_endE 210 = .ok (.aload_n 0, 1) := by decide +kernel
theorem dX12_endE_211 : decode cX12_endE 211 = .ok (.invokevirtual 420, 3) := by decide +kernel
theorem dX12_endE_214 : decode cX12_endE 214 = .ok (.iastore, 1) := by decide +kernel
theorem dX12_endE_215 : decode cX12_endE 215 = .ok (.aload_n 0, 1) := by decide +kernel
theorem dX12_endE_216 : decode cX12_endE 216 = .ok (.aload_n 0, 1) := by decide +kernel
theorem dX12_endE_217 : decode cX12_endE 217 = .ok (.bipush 59, 2) := by decide +kernel
theorem dX12_endE_219 : decode cX12_endE 219 = .ok (.invokevirtual 383, 3) := by decide +kernel
theorem dX12_endE_222 : decode cX12_endE 222 = .ok (.invokevirtual 359, 3) := by decide +kernel
theorem dX12_endE_225 : decode cX12_endE 225 = .ok (.aload_n 0, 1) := by decide +kernel
theorem dX12_endE_226 : decode cX12_endE 226 = .ok (.dup, 1) := by decide +kernel
theorem dX12_endE_227 : decode cX12_endE 227 = .ok (.getfield 342, 3) := by decide +kernel
theorem dX12_endE_230 : decode cX12_endE 230 = .ok (.iconst 1, 1) := by decide +kernel
theorem dX12_endE_231 : decode cX12_endE 231 = .ok (.isub, 1) := by decide +kernel
theorem dX12_endE_232 : decode cX12_endE 232 = .ok (.putfield 342, 3) := by decide +kernel
theorem dX12_endE_235 : decode cX12_endE 235 = .ok (.return_, 1) := by decide +kernel
theorem dX12_readData_0 : decode cX12_readData 0 = .ok (.iconst 1, 1) := by decide +kernel
theorem dX12_readData_1 : decode cX12_readData 1 = .ok (.istore_n 1, 1) := by decide +kernel
theorem dX12_readData_2 : decode cX12_readData 2 = .ok (.iload_n 1, 1) := by decide +kernel
theorem dX12_readData_3 : decode cX12_readData 3 = .ok (.ifCond .eq 182, 3) := by decide +kernel
theorem dX12_readData_6 : decode cX12_readData 6 = .ok (.aload_n 0, 1) := by decide +kernel
theorem dX12_readData_7 : decode cX12_readData 7 = .ok (.getfield 286, 3) := by decide +kernel
theorem dX12_readData_10 : decode cX12_readData 10 = .ok (.iconst 4, 1) := by decide +kernel
theorem dX12_readData_11 : decode cX12_readData 11 = .ok (.if_icmp .ne 26, 3) := by decide +kernel
theorem dX12_readData_14 : decode cX12_readData 14 = .ok (.aload_n 0, 1) := by decide +kernel
theorem dX12_readData_15 : decode cX12_readData 15 = .ok (.aload_n 0, 1) := by decide +kernel
theorem dX12_readData_16 : decode cX12_readData 16 = .ok (.getfield 278, 3) := by decide +kernel
theorem dX12_readData_19 : decode cX12_readData 19 = .ok (.invokevirtual 396, 3) := by decide +kernel
theorem dX12_readData_22 : decode cX12_readData 22 = .ok (.ifCond .lt 15, 3) := by decide +kernel
theorem dX12_readData_25 : decode cX12_readData 25 = .ok (.aload_n 0, 1) := by decide +kernel
theorem dX12_readData_26 : decode cX12_readData 26 = .ok (.iconst 2, 1) := by decide +kernel
theorem dX12_readData_27 : decode cX12_readData 27 = .ok (.aload_n 0, 1) := by decide +kernel
theorem dX12_readData_28 : decode cX12_readData 28 = .ok (.getfield 275, 3) := by decide +kernel
theorem dX12_readData_31 : decode cX12_readData 31 = .ok (.invokevirtual 317, 3) := by decide +kernel
theorem dX12_readData_34 : decode cX12_readData 34 = .ok (.goto 29, 3) := by decide +kernel
theorem dX12_readData_37 : decode cX12_readData 37 = .ok (.aload_n 0, 1) := by decide +kernel
theorem dX12_readData_38 : decode cX12_readData 38 = .ok (.getfield 286, 3) := by decide +kernel
theorem dX12_readData_41 : decode cX12_readData 41 = .ok (.iconst 4, 1) := by decide +kernel
theorem dX12_readData_42 : decode cX12_readData 42 = .ok (.if_icmp .ne 21, 3) := by decide +kernel
theorem dX12_readData_45 : decode cX12_readData 45 = .ok (.aload_n 0, 1) := by decide +kernel
theorem dX12_readData_46 : decode cX12_readData 46 = .ok (.getfield 348, 3) := by decide +kernel
theorem dX12_readData_49 : decode cX12_readData 49 = .ok (.bipush 30, 2) := by decide +kernel
theorem dX12_readData_51 : decode cX12_readData 51 = .ok (.if_icmp .ne 12, 3) := by decide +kernel
theorem dX12_readData_54 : decode cX12_readData 54 = .ok (.aload_n 0, 1) := by decide +kernel
theorem dX12_readData_55 : decode cX12_readData 55 = .ok (.iconst 4, 1) := by decide +kernel
theorem dX12_readData_56 : decode cX12_readData 56 = .ok (.aload_n 0, 1) := by decide +kernel
theorem dX12_readData_57 : decode cX12_readData 57 = .ok (.getfield 275, 3) := by decide +kernel
theorem dX12_readData_60 : decode cX12_readData 60 = .ok (.invokevirtual 317, 3) := by decide +kernel
theorem dX12_readData_63 : decode cX12_readData 63 = .ok (.aload_n 0, 1) := by decide +kernel
theorem dX12_readData_64 : decode cX12_readData 64 = .ok (.getfield 278, 3) := by decide +kernel
theorem dX12_readData_67 : decode cX12_readData 67 = .ok (.lstore_n 2, 1) := by decide +kernel
theorem dX12_readData_68 : decode cX12_readData 68 = .ok (.aload_n 0, 1) := by decide +kernel
theorem dX12_readData_69 : decode cX12_readData 69 = .ok (.aload_n 0, 1) := by decide +kernel
theorem dX12_readData_70 : decode cX12_readData 70 = .ok (.getfield 286, 3) := by decide +kernel
theorem dX12_readData_73 : decode cX12_readData 73 = .ok (.iconst 4, 1) := by decide +kernel
theorem dX12_readData_74 : decode cX12_readData 74 = .ok (.if_icmp .ne 7, 3) := by decide +kernel
theorem dX12_readData_77 : decode cX12_readData 77 = .ok (.iconst 1, 1) := by decide +kernel
theorem dX12_readData_78 : decode cX12_readData 78 = .ok (.goto 4, 3) := by decide +kernel
theorem dX12_readData_81 : decode cX12_readData 81 = .ok (.iconst 0, 1) := by decide +kernel
theorem dX12_readData_82 : decode cX12_readData 82 = .ok (.invokevirtual 359, 3) := by decide +kernel
theorem dX12_readData_85 : decode cX12_readData 85 = .ok (.aload_n 0, 1) := by decide +kernel
theorem dX12_readData_86 : decode cX12_readData 86 = .ok (.getfield 295, 3) := by decide +kernel
theorem dX12_readData_89 : decode cX12_readData 89 = .ok (.istore 4, 2) := by decide +kernel
theorem dX12_readData_91 : decode cX12_readData 91 = .ok (.aload_n 0, 1) := by decide +kernel
theorem dX12_readData_92 : decode cX12_readData 92 = .ok (.aload_n 0, 1) := by decide +kernel
theorem dX12_readData_93 : decode cX12_readData 93 = .ok (.getfield 286, 3) := by decide +kernel
theorem dX12_readData_96 : decode cX12_readData 96 = .ok (.iconst 2, 1) := by decide +kernel
theorem dX12_readData_97 : decode cX12_readData 97 = .ok (.if_icmp .ne 13, 3) := by decide +kernel
theorem dX12_readData_100 : decode cX12_readData 100 = .ok (.iload 4, 2) := by decide +kernel
theorem dX12_readData_102 : decode cX12_readData 102 = .ok (.iconst 4, 1) := by decide +kernel
theorem dX12_readData_103 : decode cX12_readData 103 = .ok (.if_icmp .gt 7, 3) := by decide +kernel
theorem dX12_readData_106 : decode cX12_readData 106 = .ok (.iconst 1, 1) := by decide +kernel
theorem dX12_readData_107 : decode cX12_readData 107 = .ok (.goto 4, 3) := by decide +kernel
theorem dX12_readData_110 : decode cX12_readData 110 = .ok (.iconst 0, 1) := by decide +kernel
theorem dX12_readData_111 : decode cX12_readData 111 = .ok (.invokevirtual 359, 3) := by decide +kernel
theorem dX12_readData_114 : decode cX12_readData 114 = .ok (.aload_n 0, 1) := by decide +kernel
theorem dX12_readData_115 : decode cX12_readData 115 = .ok (.getfield 311, 3) := by decide +kernel
theorem dX12_readData_118 : decode cX12_readData 118 = .ok (.ifCond .ne 34, 3) := by decide +kernel
theorem dX12_readData_121 : decode cX12_readData 121 = .ok (.aload_n 0, 1) := by decide +kernel
theorem dX12_readData_122 : decode cX12_readData 122 = .ok (.getfield 59, 3) := by decide +kernel
theorem dX12_readData_125 : decode cX12_readData 125 = .ok (.aload_n 0, 1) := by decide +kernel
theorem dX12_readData_126 : decode cX12_readData 126 = .ok (.getfield 348, 3) := by decide +kernel
theorem dX12_readData_129 : decode cX12_readData 129 = .ok (.lload_n 2, 1) := by decide +kernel
theorem dX12_readData_130 : decode cX12_readData 130 = .ok (.lastore, 1) := by decide +kernel
theorem dX12_readData_131 : decode cX12_readData 131 = .ok (.aload_n 0, 1) := by decide +kernel
theorem dX12_readData_132 : decode cX12_readData 132 = .ok (.getfield 62, 3) := by decide +kernel
theorem dX12_readData_135 : decode cX12_readData 135 = .ok (.aload_n 0, 1) := by decide +kernel
theorem dX12_readData_136 : decode cX12_readData 136 = .ok (.getfield 348, 3) := by decide +kernel
theorem dX12_readData_139 : decode cX12_readData 139 = .ok (.iload 4, 2) := by decide +kernel
theorem dX12_readData_141 : decode cX12_readData 141 = .ok (.iastore, 1) := by decide +kernel
theorem dX12_readData_142 : decode cX12_readData 142 = .ok (.aload_n 0, 1) := by decide +kernel
theorem dX12_readData_143 : decode cX12_readData 143 = .ok (.dup, 1) := by decide +kernel
theorem dX12_readData_144 : decode cX12_readData 144 = .ok (.getfield 348, 3) := by decide +kernel
theorem dX12_readData_147 : decode cX12_readData 147 = .ok (.iconst 1, 1) := by decide +kernel
theorem dX12_readData_148 : decode cX12_readData 148 = .ok (.iadd, 1) := by decide +kernel
theorem dX12_readData_149 : decode cX12_readData 149 = .ok (.putfield 348, 3) := by decide +kernel
theorem dX12_readData_152 : decode cX12_readData 152 = .ok (.aload_n 0, 1) := by decide +kernel
theorem dX12_readData_153 : decode cX12_readData 153 = .ok (.getfield 311, 3) := by decide +kernel
theorem dX12_readData_156 : decode cX12_readData 156 = .ok (.ifCond .ne 16, 3) := by decide +kernel
theorem dX12_readData_159 : decode cX12_readData 159 = .ok (.aload_n 0, 1) := by decide +kernel
theorem dX12_readData_160 : decode cX12_readData 160 = .ok (.bipush 124, 2) := by decide +kernel
theorem dX12_readData_162 : decode cX12_readData 162 = .ok (.invokevirtual 383, 3) := by decide +kernel
theorem dX12_readData_165 : decode cX12_readData 165 = .ok (.ifCond .eq 7, 3) := by decide +kernel
theorem dX12_readData_168 : decode cX12_readData 168 = .ok (.iconst 1, 1) := by decide +kernel
theorem dX12_readData_169 : decode cX12_readData 169 = .ok (.goto 4, 3) := by decide +kernel
theorem dX12_readData_172 : decode cX12_readData 172 = .ok (.iconst 0, 1) := by decide +kernel
theorem dX12_readData_173 : decode cX12_readData 173 = .ok (.istore_n 1, 1) := by decide +kernel
theorem dX12_readData_174 : decode cX12_readData 174 = .ok (.iload_n 1, 1) := by decide +kernel
theorem dX12_readData_175 : decode cX12_readData 175 = .ok (.ifCond .eq 7, 3) := by decide +kernel
theorem dX12_readData_178 : decode cX12_readData 178 = .ok (.aload_n 0, 1) := by decide +kernel
theorem dX12_readData_179 : decode cX12_readData 179 = .ok (.invokevirtual 321, 3) := by decide +kernel
theorem dX12_readData_182 : decode cX12_readData 182 = .ok (.goto (-180), 3) := by decide +kernel
theorem dX12_readData_185 : decode cX12_readData 185 = .ok (.aload_n 0, 1) := by decide +kernel
theorem dX12_readData_186 : decode cX12_readData 186 = .ok (.aload_n 0, 1) := by decide +kernel
theorem dX12_readData_187 : decode cX12_readData 187 = .ok (.bipush 59, 2) := by decide +kernel
theorem dX12_readData_189 : decode cX12_readData 189 = .ok (.invokevirtual 383, 3) := by decide +kernel
theorem dX12_readData_192 : decode cX12_readData 192 = .ok (.invokevirtual 359, 3) := by decide +kernel
theorem dX12_readData_195 : decode cX12_readData 195 = .ok (.return_, 1) := by decide +kernel
theorem dX12_readE_0 : decode cX12_readE 0 = .ok (.aload_n 0, 1) := by decide +kernel
theorem dX12_readE_1 : decode cX12_readE 1 = .ok (.iconst 0, 1) := by decide +kernel
theorem dX12_readE_2 : decode cX12_readE 2 = .ok (.iload_n 1, 1) := by decide +kernel
theorem dX12_readE_3 : decode cX12_readE 3 = .ok (.iconst 0, 1) := by decide +kernel
theorem dX12_readE_4 : decode cX12_readE 4 = .ok (.invokevirtual 372, 3) := by decide +kernel
theorem dX12_readE_7 : decode cX12_readE 7 = .ok (.aload_n 0, 1) := by decide +kernel
theorem dX12_readE_8 : decode cX12_readE 8 = .ok (.iconst 1, 1) := by decide +kernel
theorem dX12_readE_9 : decode cX12_readE 9 = .ok (.putfield 389, 3) := by decide +kernel
theorem dX12_readE_12 : decode cX12_readE 12 = .ok (.aload_n 0, 1) := by decide +kernel
theorem dX12_readE_13 : decode cX12_readE 13 = .ok (.iconst 1, 1) := by decide +kernel
theorem dX12_readE_14 : decode cX12_readE 14 = .ok (.putfield 393, 3) := by decide +kernel
theorem dX12_readE_17 : decode cX12_readE 17 = .ok (.aload_n 0, 1) := by decide +kernel
theorem dX12_readE_18 : decode cX12_readE 18 = .ok (.iconst 1, 1) := by decide +kernel
theorem dX12_readE_19 : decode cX12_readE 19 = .ok (.putfield 424, 3) := by decide +kernel
theorem dX12_readE_22 : decode cX12_readE 22 = .ok (.aload_n 0, 1) := by decide +kernel
theorem dX12_readE_23 : decode cX12_readE 23 = .ok (.getfield 311, 3) := by decide +kernel
theorem dX12_readE_26 : decode cX12_readE 26 = .ok (.ifCond .ne 91, 3) := by decide +kernel
theorem dX12_readE_29 : decode cX12_readE 29 = .ok (.aload_n 0, 1) := by decide +kernel
theorem dX12_readE_30 : decode cX12_readE 30 = .ok (.getfield 342, 3) := by decide +kernel
theorem dX12_readE_33 : decode cX12_readE 33 = .ok (.ifCond .le 84, 3) := by decide +kernel
theorem dX12_readE_36 : decode cX12_readE 36 = .ok (.aload_n 0, 1) := by decide +kernel
theorem dX12_readE_37 : decode cX12_readE 37 = .ok (.getfield 389, 3) := by decide +kernel
theorem dX12_readE_40 : decode cX12_readE 40 = .ok (.ifCond .eq 10, 3) := by decide +kernel
theorem dX12_readE_43 : decode cX12_readE 43 = .ok (.aload_n 0, 1) := by decide +kernel
theorem dX12_readE_44 : decode cX12_readE 44 = .ok (.invokevirtual 445, 3) := by decide +kernel
theorem dX12_readE_47 : decode cX12_readE 47 = .ok (.goto (-25), 3) := by decide +kernel
theorem dX12_readE_50 : decode cX12_readE 50 = .ok (.aload_n 0, 1) := by decide +kernel
theorem dX12_readE_51 : decode cX12_readE 51 = .ok (.getfield 424, 3) := by decide +kernel
theorem dX12_readE_54 : decode cX12_readE 54 = .ok (.ifCond .ne 10, 3) := by decide +kernel
theorem dX12_readE_57 : decode cX12_readE 57 = .ok (.aload_n 0, 1) := by decide +kernel
theorem dX12_readE_58 : decode cX12_readE 58 = .ok (.invokevirtual 448, 3) := by decide +kernel
theorem dX12_readE_61 : decode cX12_readE 61 = .ok (.goto (-39), 3) := by decide +kernel
theorem dX12_readE_64 : decode cX12_readE 64 = .ok (.aload_n 0, 1) := by decide +kernel
theorem dX12_readE_65 : decode cX12_readE 65 = .ok (.getfield 286, 3) := by decide +kernel
theorem dX12_readE_68 : decode cX12_readE 68 = .ok (.invokestatic 427, 3) := by decide +kernel
theorem dX12_readE_71 : decode cX12_readE 71 = .ok (.ifCond .le 17, 3) := by decide +kernel
theorem dX12_readE_74 : decode cX12_readE 74 = .ok (.aload_n 0, 1) := by decide +kernel
theorem dX12_readE_75 : decode cX12_readE 75 = .ok (.getfield 405, 3) := by decide +kernel
theorem dX12_readE_78 : decode cX12_readE 78 = .ok (.ifCond .eq 10, 3) := by decide +kernel
theorem dX12_readE_81 : decode cX12_readE 81 = .ok (.aload_n 0, 1) := by decide +kernel
theorem dX12_readE_82 : decode cX12_readE 82 = .ok (.invokevirtual 324, 3) := by decide +kernel
theorem dX12_readE_85 : decode cX12_readE 85 = .ok (.goto (-63), 3) := by decide +kernel
theorem dX12_readE_88 : decode cX12_readE 88 = .ok (.aload_n 0, 1) := by decide +kernel
theorem dX12_readE_89 : decode cX12_readE 89 = .ok (.getfield 286, 3) := by decide +kernel
theorem dX12_readE_92 : decode cX12_readE 92 = .ok (.invokestatic 427, 3) := by decide +kernel
theorem dX12_readE_95 : decode cX12_readE 95 = .ok (.ifCond .le 10, 3) := by decide +kernel
theorem dX12_readE_98 : decode cX12_readE 98 = .ok (.aload_n 0, 1) := by decide +kernel
theorem dX12_readE_99 : decode cX12_readE 99 = .ok (.invokevirtual 451, 3) := by decide +kernel
theorem dX12_readE_102 : decode cX12_readE 102 = .ok (.goto (-80), 3) := by decide +kernel
theorem dX12_readE_105 : decode cX12_readE 105 = .ok (.aload_n 0, 1) := by decide +kernel
theorem dX12_readE_106 : decode cX12_readE 106 = .ok (.iconst 1, 1) := by decide +kernel
theorem dX12_readE_107 : decode cX12_readE 107 = .ok (.putfield 424, 3) := by decide +kernel
theorem dX12_readE_110 : decode cX12_readE 110 = .ok (.aload_n 0, 1) := by decide +kernel
theorem dX12_readE_111 : decode cX12_readE 111 = .ok (.invokevirtual 454, 3) := by decide +kernel
theorem dX12_readE_114 : decode cX12_readE 114 = .ok (.goto (-92), 3) := by decide +kernel
theorem dX12_readE_117 : decode cX12_readE 117 = .ok (.return_, 1) := by decide +kernel
theorem dX12_readFunction_0 : decode cX12_readFunction 0 = .ok (.iconst 0, 1) := by decide +kernel
theorem dX12_readFunction_1 : decode cX12_readFunction 1 = .ok (.istore_n 1, 1) := by decide +kernel
theorem dX12_readFunction_2 : decode cX12_readFunction 2 = .ok (.iload_n 1, 1) := by decide +kernel
theorem dX12_readFunction_3 : decode cX12_readFunction 3 = .ok (.aload_n 0, 1) := by decide +kernel
theorem dX12_readFunction_4 : decode cX12_readFunction 4 = .ok (.getfield 462, 3) := by decide +kernel
theorem dX12_readFunction_7 : decode cX12_readFunction 7 = .ok (.if_icmp .ge 40, 3) := by decide +kernel
theorem dX12_readFunction_10 : decode cX12_readFunction 10 = .ok (.aload_n 0, 1) := by decide +kernel
theorem dX12_readFunction_11 : decode cX12_readFunction 11 = .ok (.getfield 286, 3) := by decide +kernel
theorem dX12_readFunction_14 : decode cX12_readFunction 14 = .ok (.iconst 3, 1) := by decide +kernel
theorem dX12_readFunction_15 : decode cX12_readFunction 15 = .ok (.if_icmp .ne 26, 3) := by decide +kernel
theorem dX12_readFunction_18 : decode cX12_readFunction 18 = .ok (.aload_n 0, 1) := by decide +kernel
theorem dX12_readFunction_19 : decode cX12_readFunction 19 = .ok (.getfield 50, 3) := by decide +kernel
theorem dX12_readFunction_22 : decode cX12_readFunction 22 = .ok (.iload_n 1, 1) := by decide +kernel
theorem dX12_readFunction_23 : decode cX12_readFunction 23 = .ok (.laload, 1) := by decide +kernel
theorem dX12_readFunction_24 : decode cX12_readFunction 24 = .ok (.aload_n 0, 1) := by decide +kernel
theorem dX12_readFunction_25 : decode cX12_readFunction 25 = .ok (.getfield 278, 3) := by decide +kernel
theorem dX12_readFunction_28 : decode cX12_readFunction 28 = .ok (.lcmp, 1) := by decide +kernel
theorem dX12_readFunction_29 : decode cX12_readFunction 29 = .ok (.ifCond .ne 12, 3) := by decide +kernel
theorem dX12_readFunction_32 : decode cX12_readFunction 32 = .ok (.aload_n 0, 1) := by decide +kernel
theorem dX12_readFunction_33 : decode cX12_readFunction 33 = .ok (.iconst 2, 1) := by decide +kernel
theorem dX12_readFunction_34 : decode cX12_readFunction 34 = .ok (.aload_n 0, 1) := by decide +kernel
theorem dX12_readFunction_35 : decode cX12_readFunction 35 = .ok (.getfield 275, 3) := by decide +kernel
theorem dX12_readFunction_38 : decode cX12_readFunction 38 = .ok (.invokevirtual 317, 3) := by decide +kernel
theorem dX12_readFunction_41 : decode cX12_readFunction 41 = .ok (.iinc 1 1, 3) := by decide +kernel
theorem dX12_readFunction_44 : decode cX12_readFunction 44 = .ok (.goto (-42), 3) := by decide +kernel
theorem dX12_readFunction_47 : decode cX12_readFunction 47 = .ok (.aload_n 0, 1) := by decide +kernel
theorem dX12_readFunction_48 : decode cX12_readFunction 48 = .ok (.getfield 286, 3) := by decide +kernel
theorem dX12_readFunction_51 : decode cX12_readFunction 51 = .ok (.iconst 3, 1) := by decide +kernel
theorem dX12_readFunction_52 : decode cX12_readFunction 52 = .ok (.if_icmp .ne 21, 3) := by decide +kernel
theorem dX12_readFunction_55 : decode cX12_readFunction 55 = .ok (.aload_n 0, 1) := by decide +kernel
theorem dX12_readFunction_56 : decode cX12_readFunction 56 = .ok (.getfield 462, 3) := by decide +kernel
theorem dX12_readFunction_59 : decode cX12_readFunction 59 = .ok (.bipush 30, 2) := by decide +kernel
theorem dX12_readFunction_61 : decode cX12_readFunction 61 = .ok (.if_icmp .ne 12, 3) := by decide +kernel
theorem dX12_readFunction_64 : decode cX12_readFunction 64 = .ok (.aload_n 0, 1) := by decide +kernel
theorem dX12_readFunction_65 : decode cX12_readFunction 65 = .ok (.iconst 4, 1) := by decide +kernel
theorem dX12_readFunction_66 : decode cX12_readFunction 66 = .ok (.aload_n 0, 1) := by decide +kernel
theorem dX12_readFunction_67 : decode cX12_readFunction 67 = .ok (.getfield 275, 3) := by decide +kernel
theorem dX12_readFunction_70 : decode cX12_readFunction 70 = .ok (.invokevirtual 317, 3) := by decide +kernel
theorem dX12_readFunction_73 : decode cX12_readFunction 73 = .ok (.aload_n 0, 1) := by decide +kernel
theorem dX12_readFunction_74 : decode cX12_readFunction 74 = .ok (.getfield 327, 3) := by decide +kernel
theorem dX12_readFunction_77 : decode cX12_readFunction 77 = .ok (.sipush 3200, 3) := by decide +kernel
theorem dX12_readFunction_80 : decode cX12_readFunction 80 = .ok (.if_icmp .ge 12, 3) := by decide +kernel
theorem dX12_readFunction_83 : decode cX12_readFunction 83 = .ok (.aload_n 0, 1) := by decide +kernel
theorem dX12_readFunction_84 : decode cX12_readFunction 84 = .ok (.bipush 12, 2) := by decide +kernel
theorem dX12_readFunction_86 : decode cX12_readFunction 86 = .ok (.invokevirtual 369, 3) := by decide +kernel
theorem dX12_readFunction_89 : decode cX12_readFunction 89 = .ok (.goto 4, 3) := by decide +kernel
theorem dX12_readFunction_92 : decode cX12_readFunction 92 = .ok (.iconst 0, 1) := by decide +kernel
theorem dX12_readFunction_93 : decode cX12_readFunction 93 = .ok (.istore_n 1, 1) := by decide +kernel
theorem dX12_readFunction_94 : decode cX12_readFunction 94 = .ok (.aload_n 0, 1) := by decide +kernel
theorem dX12_readFunction_95 : decode cX12_readFunction 95 = .ok (.getfield 462, 3) := by decide +kernel
theorem dX12_readFunction_98 : decode cX12_readFunction 98 = .ok (.istore_n 2, 1) := by decide +kernel
theorem dX12_readFunction_99 : decode cX12_readFunction 99 = .ok (.aload_n 0, 1) := by decide +kernel
theorem dX12_readFunction_100 : decode cX12_readFunction 100 = .ok (.getfield 37, 3) := by decide +kernel
theorem dX12_readFunction_103 : decode cX12_readFunction 103 = .ok (.iload_n 1, 1) := by decide +kernel
theorem dX12_readFunction_104 : decode cX12_readFunction 104 = .ok (.aload_n 0, 1) := by decide +kernel
theorem dX12_readFunction_105 : decode cX12_readFunction 105 = .ok (.getfield 278, 3) := by decide +kernel
theorem dX12_readFunction_108 : decode cX12_readFunction 108 = .ok (.lastore, 1) := by decide +kernel
theorem dX12_readFunction_109 : decode cX12_readFunction 109 = .ok (.aload_n 0, 1) := by decide +kernel
theorem dX12_readFunction_110 : decode cX12_readFunction 110 = .ok (.aload_n 0, 1) := by decide +kernel
theorem dX12_readFunction_111 : decode cX12_readFunction 111 = .ok (.getfield 286, 3) := by decide +kernel
theorem dX12_readFunction_114 : decode cX12_readFunction 114 = .ok (.iconst 3, 1) := by decide +kernel
theorem dX12_readFunction_115 : decode cX12_readFunction 115 = .ok (.if_icmp .ne 7, 3) := by decide +kernel
theorem dX12_readFunction_118 : decode cX12_readFunction 118 = .ok (.iconst 1, 1) := by decide +kernel
theorem dX12_readFunction_119 : decode cX12_readFunction 119 = .ok (.goto 4, 3) := by decide +kernel
theorem dX12_readFunction_122 : decode cX12_readFunction 122 = .ok (.iconst 0, 1) := by decide +kernel
theorem dX12_readFunction_123 : decode cX12_readFunction 123 = .ok (.invokevirtual 359, 3) := by decide +kernel
theorem dX12_readFunction_126 : decode cX12_readFunction 126 = .ok (.aload_n 0, 1) := by decide +kernel
theorem dX12_readFunction_127 : decode cX12_readFunction 127 = .ok (.getfield 311, 3) := by decide +kernel
theorem dX12_readFunction_130 : decode cX12_readFunction 130 = .ok (.ifCond .ne 50, 3) := by decide +kernel
theorem dX12_readFunction_133 : decode cX12_readFunction 133 = .ok (.aload_n 0, 1) := by decide +kernel
theorem dX12_readFunction_134 : decode cX12_readFunction 134 = .ok (.getfield 50, 3) := by decide +kernel
theorem dX12_readFunction_137 : decode cX12_readFunction 137 = .ok (.iload_n 2, 1) := by decide +kernel
theorem dX12_readFunction_138 : decode cX12_readFunction 138 = .ok (.aload_n 0, 1) := by decide +kernel
theorem dX12_readFunction_139 : decode cX12_readFunction 139 = .ok (.getfield 37, 3) := by decide +kernel
theorem dX12_readFunction_142 : decode cX12_readFunction 142 = .ok (.iload_n 1, 1) := by decide +kernel
theorem dX12_readFunction_143 : decode cX12_readFunction 143 = .ok (.laload, 1) := by decide +kernel
theorem dX12_readFunction_144 : decode cX12_readFunction 144 = .ok (.lastore, 1) := by decide +kernel
theorem dX12_readFunction_145 : decode cX12_readFunction 145 = .ok (.aload_n 0, 1) := by decide +kernel
theorem dX12_readFunction_146 : decode cX12_readFunction 146 = .ok (.getfield 53, 3) := by decide +kernel
theorem dX12_readFunction_149 : decode cX12_readFunction 149 = .ok (.iload_n 2, 1) := by decide +kernel
theorem dX12_readFunction_150 : decode cX12_readFunction 150 = .ok (.aload_n 0, 1) := by decide +kernel
theorem dX12_readFunction_151 : decode cX12_readFunction 151 = .ok (.getfield 28, 3) := by decide +kernel
theorem dX12_readFunction_154 : decode cX12_readFunction 154 = .ok (.iload_n 1, 1) := by decide +kernel
theorem dX12_readFunction_155 : decode cX12_readFunction 155 = .ok (.iaload, 1) := by decide +kernel
theorem dX12_readFunction_156 : decode cX12_readFunction 156 = .ok (.iastore, 1) := by decide +kernel
theorem dX12_readFunction_157 : decode cX12_readFunction 157 = .ok (.aload_n 0, 1) := by decide +kernel
theorem dX12_readFunction_158 : decode cX12_readFunction 158 = .ok (.getfield 56, 3) := by decide +kernel
theorem dX12_readFunction_161 : decode cX12_readFunction 161 = .ok (.iload_n 2, 1) := by decide +kernel
theorem dX12_readFunction_162 : decode cX12_readFunction 162 = .ok (.iload_n 1, 1) := by decide +kernel
theorem dX12_readFunction_163 : decode cX12_readFunction 163 = .ok (.iastore, 1) := by decide +kernel
theorem dX12_readFunction_164 : decode cX12_readFunction 164 = .ok (.aload_n 0, 1) := by decide +kernel
theorem dX12_readFunction_165 : decode cX12_readFunction 165 = .ok (.dup, 1) := by decide +kernel
theorem dX12_readFunction_166 : decode cX12_readFunction 166 = .ok (.getfield 462, 3) := by decide +kernel
theorem dX12_readFunction_169 : decode cX12_readFunction 169 = .ok (.iconst 1, 1) := by decide +kernel
theorem dX12_readFunction_170 : decode cX12_readFunction 170 = .ok (.iadd, 1) := by decide +kernel
theorem dX12_readFunction_171 : decode cX12_readFunction 171 = .ok (.putfield 462, 3) := by decide +kernel
theorem dX12_readFunction_174 : decode cX12_readFunction 174 = .ok (.aload_n 0, 1) := by decide +kernel
theorem dX12_readFunction_175 : decode cX12_readFunction 175 = .ok (.iload_n 1, 1) := by decide +kernel
theorem dX12_readFunction_176 : decode cX12_readFunction 176 = .ok (.iconst 0, 1) := by decide +kernel
theorem dX12_readFunction_177 : decode cX12_readFunction 177 = .ok (.invokevirtual 380, 3) := by decide +kernel
theorem dX12_readFunction_180 : decode cX12_readFunction 180 = .ok (.aload_n 0, 1) := by decide +kernel
theorem dX12_readFunction_181 : decode cX12_readFunction 181 = .ok (.aload_n 0, 1) := by decide +kernel
theorem dX12_readFunction_182 : decode cX12_readFunction 182 = .ok (.bipush 61, 2) := by decide +kernel
theorem dX12_readFunction_184 : decode cX12_readFunction 184 = .ok (.invokevirtual 383, 3) := by decide +kernel
theorem dX12_readFunction_187 : decode cX12_readFunction 187 = .ok (.invokevirtual 359, 3) := by decide +kernel
theorem dX12_readFunction_190 : decode cX12_readFunction 190 = .ok (.aload_n 0, 1) := by decide +kernel
theorem dX12_readFunction_191 : decode cX12_readFunction 191 = .ok (.getfield 311, 3) := by decide +kernel
theorem dX12_readFunction_194 : decode cX12_readFunction 194 = .ok (.ifCond .ne 8, 3) := by decide +kernel
theorem dX12_readFunction_197 : decode cX12_readFunction 197 = .ok (.aload_n 0, 1) := by decide +kernel
theorem dX12_readFunction_198 : decode cX12_readFunction 198 = .ok (.iload_n 1, 1) := by decide +kernel
theorem dX12_readFunction_199 : decode cX12_readFunction 199 = .ok (.invokevirtual 465, 3) := by decide +kernel
theorem dX12_readFunction_202 : decode cX12_readFunction 202 = .ok (.return_, 1) := by decide +kernel
theorem dX12_reduce_0 : decode cX12_reduce 0 = .ok (.aload_n 0, 1) := by decide +kernel
theorem dX12_reduce_1 : decode cX12_reduce 1 = .ok (.getfield 342, 3) := by decide +kernel
theorem dX12_reduce_4 : decode cX12_reduce 4 = .ok (.ifCond .le 82, 3) := by decide +kernel
theorem dX12_reduce_7 : decode cX12_reduce 7 = .ok (.aload_n 0, 1) := by decide +kernel
theorem dX12_reduce_8 : decode cX12_reduce 8 = .ok (.getfield 65, 3) := by decide +kernel
theorem dX12_reduce_11 : decode cX12_reduce 11 = .ok (.aload_n 0, 1) := by decide +kernel
theorem dX12_reduce_12 : decode cX12_reduce 12 = .ok (.getfield 342, 3) := by decide +kernel
theorem dX12_reduce_15 : decode cX12_reduce 15 = .ok (.iconst 1, 1) := by decide +kernel
theorem dX12_reduce_16 : decode cX12_reduce 16 = .ok (.isub, 1) := by decide +kernel
theorem dX12_reduce_17 : decode cX12_reduce 17 = .ok (.iaload, 1) := by decide +kernel
theorem dX12_reduce_18 : decode cX12_reduce 18 = .ok (.bipush 7, 2) := by decide +kernel
theorem dX12_reduce_20 : decode cX12_reduce 20 = .ok (.if_icmp .ne 66, 3) := by decide +kernel
theorem dX12_reduce_23 : decode cX12_reduce 23 = .ok (.aload_n 0, 1) := by decide +kernel
theorem dX12_reduce_24 : decode cX12_reduce 24 = .ok (.getfield 71, 3) := by decide +kernel
theorem dX12_reduce_27 : decode cX12_reduce 27 = .ok (.aload_n 0, 1) := by decide +kernel
theorem dX12_reduce_28 : decode cX12_reduce 28 = .ok (.getfield 342, 3) := by decide +kernel
theorem dX12_reduce_31 : decode cX12_reduce 31 = .ok (.iconst 1, 1) := by decide +kernel
theorem dX12_reduce_32 : decode cX12_reduce 32 = .ok (.isub, 1) := by decide +kernel
theorem dX12_reduce_33 : decode cX12_reduce 33 = .ok (.iaload, 1) := by decide +kernel
theorem dX12_reduce_34 : decode cX12_reduce 34 = .ok (.iload_n 1, 1) := by decide +kernel
theorem dX12_reduce_35 : decode cX12_reduce 35 = .ok (.if_icmp .lt 51, 3) := by decide +kernel
theorem dX12_reduce_38 : decode cX12_reduce 38 = .ok (.aload_n 0, 1) := by decide +kernel
theorem dX12_reduce_39 : decode cX12_reduce 39 = .ok (.dup, 1) := by decide +kernel
theorem dX12_reduce_40 : decode cX12_reduce 40 = .ok (.getfield 342, 3) := by decide +kernel
theorem dX12_reduce_43 : decode cX12_reduce 43 = .ok (.iconst 1, 1) := by decide +kernel
theorem dX12_reduce_44 : decode cX12_reduce 44 = .ok (.isub, 1) := by decide +kernel
theorem dX12_reduce_45 : decode cX12_reduce 45 = .ok (.putfield 342, 3) := by decide +kernel
theorem dX12_reduce_48 : decode cX12_reduce 48 = .ok (.aload_n 0, 1) := by decide +kernel
theorem dX12_reduce_49 : decode cX12_reduce 49 = .ok (.getfield 68, 3) := by decide +kernel
theorem dX12_reduce_52 : decode cX12_reduce 52 = .ok (.aload_n 0, 1) := by decide +kernel
theorem dX12_reduce_53 : decode cX12_reduce 53 = .ok (.getfield 342, 3) := by decide +kernel
theorem dX12_reduce_56 : decode cX12_reduce 56 = .ok (.iaload, 1) := by decide +kernel
theorem dX12_reduce_57 : decode cX12_reduce 57 = .ok (.istore_n 2, 1) := by decide +kernel
theorem dX12_reduce_58 : decode cX12_reduce 58 = .ok (.aload_n 0, 1) := by decide +kernel
theorem dX12_reduce_59 : decode cX12_reduce 59 = .ok (.getfield 22, 3) := by decide +kernel
theorem dX12_reduce_62 : decode cX12_reduce 62 = .ok (.iload_n 2, 1) := by decide +kernel
theorem dX12_reduce_63 : decode cX12_reduce 63 = .ok (.aload_n 0, 1) := by decide +kernel
theorem dX12_reduce_64 : decode cX12_reduce 64 = .ok (.invokevirtual 420, 3) := by decide +kernel
theorem dX12_reduce_67 : decode cX12_reduce 67 = .ok (.iastore, 1) := by decide +kernel
theorem dX12_reduce_68 : decode cX12_reduce 68 = .ok (.aload_n 0, 1) := by decide +kernel
theorem dX12_reduce_69 : decode cX12_reduce 69 = .ok (.getfield 19, 3) := by decide +kernel
theorem dX12_reduce_72 : decode cX12_reduce 72 = .ok (.iload_n 2, 1) := by decide +kernel
theorem dX12_reduce_73 : decode cX12_reduce 73 = .ok (.aload_n 0, 1) := by decide +kernel
theorem dX12_reduce_74 : decode cX12_reduce 74 = .ok (.invokevirtual 420, 3) := by decide +kernel
theorem dX12_reduce_77 : decode cX12_reduce 77 = .ok (.iastore, 1) := by decide +kernel
theorem dX12_reduce_78 : decode cX12_reduce 78 = .ok (.aload_n 0, 1) := by decide +kernel
theorem dX12_reduce_79 : decode cX12_reduce 79 = .ok (.iload_n 2, 1) := by decide +kernel
theorem dX12_reduce_80 : decode cX12_reduce 80 = .ok (.invokevirtual 402, 3) := by decide +kernel
theorem dX12_reduce_83 : decode cX12_reduce 83 = .ok (.goto (-83), 3) := by decide +kernel
theorem dX12_reduce_86 : decode cX12_reduce 86 = .ok (.return_, 1) := by decide +kernel
theorem dX12_signE_0 : decode cX12_signE 0 = .ok (.aload_n 0, 1) := by decide +kernel
theorem dX12_signE_1 : decode cX12_signE 1 = .ok (.getfield 286, 3) := by decide +kernel
theorem dX12_signE_4 : decode cX12_signE 4 = .ok (.invokestatic 427, 3) := by decide +kernel
theorem dX12_signE_7 : decode cX12_signE 7 = .ok (.istore_n 1, 1) := by decide +kernel
theorem dX12_signE_8 : decode cX12_signE 8 = .ok (.aload_n 0, 1) := by decide +kernel
theorem dX12_signE_9 : decode cX12_signE 9 = .ok (.iload_n 1, 1) := by decide +kernel
theorem dX12_signE_10 : decode cX12_signE 10 = .ok (.iconst 1, 1) := by decide +kernel
theorem dX12_signE_11 : decode cX12_signE 11 = .ok (.if_icmp .ne 7, 3) := by decide +kernel
theorem dX12_signE_14 : decode cX12_signE 14 = .ok (.iconst 2, 1) := by decide +kernel
theorem dX12_signE_15 : decode cX12_signE 15 = .ok (.goto 4, 3) := by decide +kernel
theorem dX12_signE_18 : decode cX12_signE 18 = .ok (.iload_n 1, 1) := by decide +kernel
theorem dX12_signE_19 : decode cX12_signE 19 = .ok (.invokevirtual 430, 3) := by decide +kernel
theorem dX12_signE_22 : decode cX12_signE 22 = .ok (.iload_n 1, 1) := by decide +kernel
theorem dX12_signE_23 : decode cX12_signE 23 = .ok (.iconst 1, 1) := by decide +kernel
theorem dX12_signE_24 : decode cX12_signE 24 = .ok (.if_icmp .ne 24, 3) := by decide +kernel
theorem dX12_signE_27 : decode cX12_signE 27 = .ok (.aload_n 0, 1) := by decide +kernel
theorem dX12_signE_28 : decode cX12_signE 28 = .ok (.getfield 65, 3) := by decide +kernel
theorem dX12_signE_31 : decode cX12_signE 31 = .ok (.aload_n 0, 1) := by decide +kernel
theorem dX12_signE_32 : decode cX12_signE 32 = .ok (.getfield 342, 3) := by decide +kernel
theorem dX12_signE_35 : decode cX12_signE 35 = .ok (.iconst 1, 1) := by decide +kernel
theorem dX12_signE_36 : decode cX12_signE 36 = .ok (.isub, 1) := by decide +kernel
theorem dX12_signE_37 : decode cX12_signE 37 = .ok (.iaload, 1) := by decide +kernel
theorem dX12_signE_38 : decode cX12_signE 38 = .ok (.bipush 7, 2) := by decide +kernel
theorem dX12_signE_40 : decode cX12_signE 40 = .ok (.if_icmp .ne 8, 3) := by decide +kernel
theorem dX12_signE_43 : decode cX12_signE 43 = .ok (.aload_n 0, 1) := by decide +kernel
theorem dX12_signE_44 : decode cX12_signE 44 = .ok (.invokevirtual 324, 3) := by decide +kernel
theorem dX12_signE_47 : decode cX12_signE 47 = .ok (.return_, 1) := by decide +kernel
theorem dX12_signE_48 : decode cX12_signE 48 = .ok (.aload_n 0, 1) := by decide +kernel
theorem dX12_signE_49 : decode cX12_signE 49 = .ok (.invokevirtual 355, 3) := by decide +kernel
theorem dX12_signE_52 : decode cX12_signE 52 = .ok (.ifCond .eq 11, 3) := by decide +kernel
theorem dX12_signE_55 : decode cX12_signE 55 = .ok (.aload_n 0, 1) := by decide +kernel
theorem dX12_signE_56 : decode cX12_signE 56 = .ok (.iconst 5, 1) := by decide +kernel
theorem dX12_signE_57 : decode cX12_signE 57 = .ok (.invokevirtual 369, 3) := by decide +kernel
theorem dX12_signE_60 : decode cX12_signE 60 = .ok (.goto 4, 3) := by decide +kernel
theorem dX12_signE_63 : decode cX12_signE 63 = .ok (.iconst 0, 1) := by decide +kernel
theorem dX12_signE_64 : decode cX12_signE 64 = .ok (.istore_n 2, 1) := by decide +kernel
theorem dX12_signE_65 : decode cX12_signE 65 = .ok (.aload_n 0, 1) := by decide +kernel
theorem dX12_signE_66 : decode cX12_signE 66 = .ok (.getfield 31, 3) := by decide +kernel
theorem dX12_signE_69 : decode cX12_signE 69 = .ok (.iload_n 2, 1) := by decide +kernel
theorem dX12_signE_70 : decode cX12_signE 70 = .ok (.aload_n 0, 1) := by decide +kernel
theorem dX12_signE_71 : decode cX12_signE 71 = .ok (.getfield 286, 3) := by decide +kernel
theorem dX12_signE_74 : decode cX12_signE 74 = .ok (.iastore, 1) := by decide +kernel
theorem dX12_signE_75 : decode cX12_signE 75 = .ok (.aload_n 0, 1) := by decide +kernel
theorem dX12_signE_76 : decode cX12_signE 76 = .ok (.iconst 1, 1) := by decide +kernel
theorem dX12_signE_77 : decode cX12_signE 77 = .ok (.invokevirtual 359, 3) := by decide +kernel
theorem dX12_signE_80 : decode cX12_signE 80 = .ok (.aload_n 0, 1) := by decide +kernel
theorem dX12_signE_81 : decode cX12_signE 81 = .ok (.bipush 7, 2) := by decide +kernel
theorem dX12_signE_83 : decode cX12_signE 83 = .ok (.iload_n 2, 1) := by decide +kernel
theorem dX12_signE_84 : decode cX12_signE 84 = .ok (.iload_n 1, 1) := by decide +kernel
theorem dX12_signE_85 : decode cX12_signE 85 = .ok (.invokevirtual 372, 3) := by decide +kernel
theorem dX12_signE_88 : decode cX12_signE 88 = .ok (.aload_n 0, 1) := by decide +kernel
theorem dX12_signE_89 : decode cX12_signE 89 = .ok (.iconst 1, 1) := by decide +kernel
theorem dX12_signE_90 : decode cX12_signE 90 = .ok (.putfield 389, 3) := by decide +kernel
theorem dX12_signE_93 : decode cX12_signE 93 = .ok (.aload_n 0, 1) := by decide +kernel
theorem dX12_signE_94 : decode cX12_signE 94 = .ok (.iconst 0, 1) := by decide +kernel
theorem dX12_signE_95 : decode cX12_signE 95 = .ok (.putfield 393, 3) := by decide +kernel
theorem dX12_signE_98 : decode cX12_signE 98 = .ok (.return_, 1) := by decide +kernel
theorem dX12_wantE_0 : decode cX12_wantE 0 = .ok (.aload_n 0, 1) := by decide +kernel
theorem dX12_wantE_1 : decode cX12_wantE 1 = .ok (.getfield 393, 3) := by decide +kernel
theorem dX12_wantE_4 : decode cX12_wantE 4 = .ok (.ifCond .eq 21, 3) := by decide +kernel
theorem dX12_wantE_7 : decode cX12_wantE 7 = .ok (.aload_n 0, 1) := by decide +kernel
theorem dX12_wantE_8 : decode cX12_wantE 8 = .ok (.invokevirtual 457, 3) := by decide +kernel
theorem dX12_wantE_11 : decode cX12_wantE 11 = .ok (.ifCond .eq 14, 3) := by decide +kernel
theorem dX12_wantE_14 : decode cX12_wantE 14 = .ok (.aload_n 0, 1) := by decide +kernel
theorem dX12_wantE_15 : decode cX12_wantE 15 = .ok (.iconst 1, 1) := by decide +kernel
theorem dX12_wantE_16 : decode cX12_wantE 16 = .ok (.putfield 389, 3) := by decide +kernel
theorem dX12_wantE_19 : decode cX12_wantE 19 = .ok (.aload_n 0, 1) := by decide +kernel
theorem dX12_wantE_20 : decode cX12_wantE 20 = .ok (.iconst 1, 1) := by decide +kernel
theorem dX12_wantE_21 : decode cX12_wantE 21 = .ok (.putfield 393, 3) := by decide +kernel
theorem dX12_wantE_24 : decode cX12_wantE 24 = .ok (.return_, 1) := by decide +kernel
theorem dX12_wantE_25 : decode cX12_wantE 25 = .ok (.aload_n 0, 1) := by decide +kernel
theorem dX12_wantE_26 : decode cX12_wantE 26 = .ok (.getfield 311, 3) := by decide +kernel
theorem dX12_wantE_29 : decode cX12_wantE 29 = .ok (.ifCond .ne 14, 3) := by decide +kernel
theorem dX12_wantE_32 : decode cX12_wantE 32 = .ok (.aload_n 0, 1) := by decide +kernel
theorem dX12_wantE_33 : decode cX12_wantE 33 = .ok (.invokevirtual 459, 3) := by decide +kernel
theorem dX12_wantE_36 : decode cX12_wantE 36 = .ok (.ifCond .eq 7, 3) := by decide +kernel
theorem dX12_wantE_39 : decode cX12_wantE 39 = .ok (.iconst 1, 1) := by decide +kernel
theorem dX12_wantE_40 : decode cX12_wantE 40 = .ok (.goto 4, 3) := by decide +kernel
theorem dX12_wantE_43 : decode cX12_wantE 43 = .ok (.iconst 0, 1) := by decide +kernel
theorem dX12_wantE_44 : decode cX12_wantE 44 = .ok (.istore_n 1, 1) := by decide +kernel
theorem dX12_wantE_45 : decode cX12_wantE 45 = .ok (.aload_n 0, 1) := by decide +kernel
theorem dX12_wantE_46 : decode cX12_wantE 46 = .ok (.iconst 0, 1) := by decide +kernel
theorem dX12_wantE_47 : decode cX12_wantE 47 = .ok (.putfield 424, 3) := by decide +kernel
theorem dX12_wantE_50 : decode cX12_wantE 50 = .ok (.aload_n 0, 1) := by decide +kernel
theorem dX12_wantE_51 : decode cX12_wantE 51 = .ok (.iload_n 1, 1) := by decide +kernel
theorem dX12_wantE_52 : decode cX12_wantE 52 = .ok (.ifCond .ne 7, 3) := by decide +kernel
theorem dX12_wantE_55 : decode cX12_wantE 55 = .ok (.iconst 1, 1) := by decide +kernel
theorem dX12_wantE_56 : decode cX12_wantE 56 = .ok (.goto 4, 3) := by decide +kernel
theorem dX12_wantE_59 : decode cX12_wantE 59 = .ok (.iconst 0, 1) := by decide +kernel
theorem dX12_wantE_60 : decode cX12_wantE 60 = .ok (.putfield 389, 3) := by decide +kernel
theorem dX12_wantE_63 : decode cX12_wantE 63 = .ok (.aload_n 0, 1) := by decide +kernel
theorem dX12_wantE_64 : decode cX12_wantE 64 = .ok (.iconst 1, 1) := by decide +kernel
theorem dX12_wantE_65 : decode cX12_wantE 65 = .ok (.putfield 393, 3) := by decide +kernel
theorem dX12_wantE_68 : decode cX12_wantE 68 = .ok (.return_, 1) := by decide +kernel
theorem cw_X12_application : CWV yX12_application cX12_application 3 (some .boolean) RX12 0 := ⟨mG_2593, mG_2592, mG_132, mG_226, by decide +kernel⟩
theorem cw_X12_atomEnds : CWV yX12_atomEnds cX12_atomEnds 6 none RX12 0 := ⟨mG_2621, mG_2620, mG_139, mG_226, by decide +kernel⟩
theorem cw_X12_begins : CWV yX12_begins cX12_begins 2 (some .boolean) RX12 0 := ⟨mG_2577, mG_2576, mG_128, mG_226, by decide +kernel⟩
theorem cw_X12_branch : CWV yX12_branch cX12_branch 9 none RX12 1 := ⟨mG_2652, mG_2651, mG_146, mG_226, by decide +kernel⟩
theorem cw_X12_close : CWV yX12_close cX12_close 2 none RX12 1 := ⟨mG_2648, mG_2647, mG_145, mG_226, by decide +kernel⟩
theorem cw_X12_endBinding : CWV yX12_endBinding cX12_endBinding 3 none RX12 1 := ⟨mG_2644, mG_2643, mG_144, mG_226, by decide +kernel⟩
theorem cw_X12_endBranch : CWV yX12_endBranch cX12_endBranch 3 none RX12 1 := ⟨mG_2656, mG_2655, mG_147, mG_226, by decide +kernel⟩
theorem cw_X12_endE : CWV yX12_endE cX12_endE 3 none RX12 0 := ⟨mG_2640, mG_2639, mG_143, mG_226, by decide +kernel⟩
theorem cw_X12_rank : CWS yX12_rank cX12_rank 1 (some .int) RX12 1 := ⟨mG_2628, mG_2627, mG_226, by decide +kernel⟩
theorem cw_X12_readE : CWV yX12_readE cX12_readE 2 none RX12 1 := ⟨mG_2565, mG_2564, mG_125, mG_226, by decide +kernel⟩
theorem cw_X12_reduce : CWV yX12_reduce cX12_reduce 3 none RX12 1 := ⟨mG_2636, mG_2635, mG_142, mG_226, by decide +kernel⟩
theorem cw_X12_signE : CWV yX12_signE cX12_signE 3 none RX12 0 := ⟨mG_2632, mG_2631, mG_141, mG_226, by decide +kernel⟩
theorem cw_X12_wantE : CWV yX12_wantE cX12_wantE 2 none RX12 0 := ⟨mG_2573, mG_2572, mG_127, mG_226, by decide +kernel⟩
section MX12_reduce
variable {p : Program} {l : Launch} {e : Env} {R : Room} {s : State} {m : MethodId} {args : Array Value} {below : List Frame} {meth : Method} {c : Code} {dC : Nat → ClassId} {dI : Nat → Nat → Nat} {Z : ZZ} {A : Nat → Prop} {ad : Nat → Nat} {kc : Nat → ClassId} {r : Unit} {τ : S5}
set_option maxHeartbeats 4000000 in
set_option maxRecDepth 100000 in
theorem w_X12_reduce_B0 {σ : S5} {rec0 : Int32 → S5 → Option (Unit × S5)} {v1 : Int32} {H : Heap} {locs : List Loc} {ls : Array Slot} (S : CallFix p m c cX12_reduce 3 s args uG RX12) (hr : meth.sig.returnType = none) (hk : meth.locks = false) (hR : 1 ≤ R.frames ∧ 21 ≤ R.locals)
    (hrec0 : ∀ (v1 : Int32) (σ : S5) (H : Heap) (locs : List Loc) (ls : Array Slot), gX (dC, dI) (tM kc) (wM ad kc) Z A s σ H locs → lv_has ls 3 [(0, .ref (ad 0)), (1, .int v1)] → rec0 v1 σ = some (r, τ) → W p l e R s m args below meth c H locs 0 0 (MQ below (gQv (dC, dI) (tM kc) (wM ad kc) A r τ) args s 0 0 A) (F0 m 0 ls []))
    (X : gX (dC, dI) (tM kc) (wM ad kc) Z A s σ H locs) (hl : lv_has ls 3 [(0, .ref (ad 0)), (1, .int v1)]) (hg : f_X12_reduce_B0 rec0 v1 σ = some (r, τ)) : W p l e R s m args below meth c H locs 0 0 (MQ below (gQv (dC, dI) (tM kc) (wM ad kc) A r τ) args s 0 0 A) (F0 m 0 ls []) := by
  have hx := S.1
  have hb := S.2.1
  have hown := S.2.2.2.1
  have hu := S.2.2.2.2
  unfold f_X12_reduce_B0 at hg
  refine lv_aload_n hx hb dX12_reduce_0 rfl (lv_at hl 0 rfl) ?_
  refine wmgI_16 (v := (gI σ 16)) S X mG_2085 rfl dX12_reduce_1 ?_
  refine lv_if_le (tgt := 86) hx hb dX12_reduce_4 (by decide) (fun c4 => ?_) (fun c4 => ?_)
  · have hg := (if_pos c4).symm.trans hg
    obtain ⟨-, rfl⟩ := fin_some hg
    exact gr_v S hr hk X dX12_reduce_86
  · have hg := (if_neg c4).symm.trans hg
    refine lv_aload_n hx hb dX12_reduce_7 rfl (lv_at hl 0 rfl) ?_
    refine wmgR_0_36 S X mG_2086 dX12_reduce_8 ?_
    refine lv_aload_n hx hb dX12_reduce_11 rfl (lv_at hl 0 rfl) ?_
    refine wmgI_16 (v := (gI σ 16)) S X mG_2085 rfl dX12_reduce_12 ?_
    refine lv_iconst (v := 1) hx hb dX12_reduce_15 (by decide) ?_
    refine lv_isub hx hb dX12_reduce_16 ?_
    obtain ⟨hi17, hg⟩ := gd_some hg
    refine wmlA_14 (v := (xA σ 14 ((gI σ 16) - 1))) S X hi17 rfl dX12_reduce_17 ?_
    refine lv_bipush (v := 7) hx hb dX12_reduce_18 (by decide) ?_
    refine lv_icmp_ne (tgt := 86) hx hb dX12_reduce_20 (by decide) (fun c20 => ?_) (fun c20 => ?_)
    · have hg := (if_neg c20).symm.trans hg
      obtain ⟨-, rfl⟩ := fin_some hg
      exact gr_v S hr hk X dX12_reduce_86
    · have hg := (if_pos c20).symm.trans hg
      refine lv_aload_n hx hb dX12_reduce_23 rfl (lv_at hl 0 rfl) ?_
      refine wmgR_0_38 S X mG_2088 dX12_reduce_24 ?_
      refine lv_aload_n hx hb dX12_reduce_27 rfl (lv_at hl 0 rfl) ?_
      refine wmgI_16 (v := (gI σ 16)) S X mG_2085 rfl dX12_reduce_28 ?_
      refine lv_iconst (v := 1) hx hb dX12_reduce_31 (by decide) ?_
      refine lv_isub hx hb dX12_reduce_32 ?_
      obtain ⟨hi33, hg⟩ := gd_some hg
      refine wmlA_16 (v := (xA σ 16 ((gI σ 16) - 1))) S X hi33 rfl dX12_reduce_33 ?_
      refine lv_iload_n hx hb dX12_reduce_34 rfl (lv_at hl 1 rfl) ?_
      refine lv_icmp_lt (tgt := 86) hx hb dX12_reduce_35 (by decide) (fun c35 => ?_) (fun c35 => ?_)
      · have hg := (if_pos c35).symm.trans hg
        obtain ⟨-, rfl⟩ := fin_some hg
        exact gr_v S hr hk X dX12_reduce_86
      · have hg := (if_neg c35).symm.trans hg
        refine lv_aload_n hx hb dX12_reduce_38 rfl (lv_at hl 0 rfl) ?_
        refine lv_dup hx hb dX12_reduce_39 rfl ?_
        refine wmgI_16 (v := (gI σ 16)) S X mG_2085 rfl dX12_reduce_40 ?_
        refine lv_iconst (v := 1) hx hb dX12_reduce_43 (by decide) ?_
        refine lv_isub hx hb dX12_reduce_44 ?_
        refine wmpI_16 S X mG_2085 dX12_reduce_45 (fun H locs X => ?_)
        refine lv_aload_n hx hb dX12_reduce_48 rfl (lv_at hl 0 rfl) ?_
        refine wmgR_0_37 S X mG_2087 dX12_reduce_49 ?_
        refine lv_aload_n hx hb dX12_reduce_52 rfl (lv_at hl 0 rfl) ?_
        refine wmgI_16 (v := ((gI σ 16) - 1)) S X mG_2085 rfl dX12_reduce_53 ?_
        obtain ⟨hi56, hg⟩ := gd_some hg
        refine wmlA_15 (v := (xA σ 15 ((gI σ 16) - 1))) S X hi56 rfl dX12_reduce_56 ?_
        refine lv_istore_n (lv' := [(2, .int (xA σ 15 ((gI σ 16) - 1))), (0, .ref (ad 0)), (1, .int v1)]) hx hb dX12_reduce_57 rfl hl (by decide) rfl (fun ls hl => ?_)
        refine lv_aload_n hx hb dX12_reduce_58 rfl (lv_at hl 1 rfl) ?_
        refine wmgR_0_15 S X mG_2065 dX12_reduce_59 ?_
        refine lv_iload_n hx hb dX12_reduce_62 rfl (lv_at hl 0 rfl) ?_
        refine lv_aload_n hx hb dX12_reduce_63 rfl (lv_at hl 1 rfl) ?_
        obtain ⟨r64, τ64, hq64, hg⟩ := bd_some hg
        refine gc_Vi (As := []) (rest := [.int (xA σ 15 ((gI σ 16) - 1)), .ref (ad 5)]) (q0 := 0) (ci := 15) S X (k2_X12_taken l dC dI ad kc hq64 H.size) cw_X12_taken mG_2622 rfl rfl rfl rfl rfl hl.1 (Nat.le_of_ble_eq_true rfl) dX12_reduce_64 ⟨by omega, by omega⟩ (fun H locs X => ?_)
        obtain ⟨hi67, hg⟩ := gd_some hg
        refine wmsA_4 S X hi67 dX12_reduce_67 (fun H locs X => ?_)
        refine lv_aload_n hx hb dX12_reduce_68 rfl (lv_at hl 1 rfl) ?_
        refine wmgR_0_14 S X mG_2064 dX12_reduce_69 ?_
        refine lv_iload_n hx hb dX12_reduce_72 rfl (lv_at hl 0 rfl) ?_
        refine lv_aload_n hx hb dX12_reduce_73 rfl (lv_at hl 1 rfl) ?_
        obtain ⟨r74, τ74, hq74, hg⟩ := bd_some hg
        refine gc_Vi (As := []) (rest := [.int (xA σ 15 ((gI σ 16) - 1)), .ref (ad 4)]) (q0 := 0) (ci := 15) S X (k2_X12_taken l dC dI ad kc hq74 H.size) cw_X12_taken mG_2622 rfl rfl rfl rfl rfl hl.1 (Nat.le_of_ble_eq_true rfl) dX12_reduce_74 ⟨by omega, by omega⟩ (fun H locs X => ?_)
        obtain ⟨hi77, hg⟩ := gd_some hg
        refine wmsA_3 S X hi77 dX12_reduce_77 (fun H locs X => ?_)
        refine lv_aload_n hx hb dX12_reduce_78 rfl (lv_at hl 1 rfl) ?_
        refine lv_iload_n hx hb dX12_reduce_79 rfl (lv_at hl 0 rfl) ?_
        obtain ⟨r80, τ80, hq80, hg⟩ := bd_some hg
        refine gc_Vv (As := [.int (xA σ 15 ((gI σ 16) - 1))]) (rest := []) (q0 := 0) (ci := 15) S X (k2_X12_operand l dC dI ad kc hq80 H.size) cw_X12_operand mG_2614 rfl rfl rfl rfl rfl hl.1 (Nat.le_of_ble_eq_true rfl) dX12_reduce_80 ⟨by omega, by omega⟩ (fun H locs X => ?_)
        refine lv_goto (tgt := 0) hx hb dX12_reduce_83 (by decide) ?_
        exact hrec0 _ _ _ _ _ X (lv_sub hl [1, 2] rfl) hg
set_option maxHeartbeats 4000000 in
set_option maxRecDepth 100000 in
theorem w_X12_reduce_L0 (S : CallFix p m c cX12_reduce 3 s args uG RX12) (hr : meth.sig.returnType = none) (hk : meth.locks = false) (hR : 1 ≤ R.frames ∧ 21 ≤ R.locals) : ∀ (n : Nat) (v1 : Int32) (σ : S5) (H : Heap) (locs : List Loc) (ls : Array Slot), gX (dC, dI) (tM kc) (wM ad kc) Z A s σ H locs → lv_has ls 3 [(0, .ref (ad 0)), (1, .int v1)] → f_X12_reduce_L0  n v1 σ = some (r, τ) → W p l e R s m args below meth c H locs 0 0 (MQ below (gQv (dC, dI) (tM kc) (wM ad kc) A r τ) args s 0 0 A) (F0 m 0 ls []) := by
  intro n
  induction n with
  | zero => intro v1 σ H locs ls X hl hg; cases hg
  | succ n ih => intro v1 σ H locs ls X hl hg; exact w_X12_reduce_B0 S hr hk hR ih X hl hg
set_option maxHeartbeats 4000000 in
set_option maxRecDepth 100000 in
theorem w_X12_reduce {σ : S5} {a1 : Int32} {H : Heap} {locs : List Loc} {ls : Array Slot} (S : CallFix p m c cX12_reduce 3 s args uG RX12) (hr : meth.sig.returnType = none) (hk : meth.locks = false) (hR : 1 ≤ R.frames ∧ 21 ≤ R.locals)
    (X : gX (dC, dI) (tM kc) (wM ad kc) Z A s σ H locs) (hl : lv_has ls 3 [(0, .ref (ad 0)), (1, .int a1)]) (hg : f_X12_reduce a1 σ = some (r, τ)) : W p l e R s m args below meth c H locs 0 0 (MQ below (gQv (dC, dI) (tM kc) (wM ad kc) A r τ) args s 0 0 A) (F0 m 0 ls []) := by
  have hx := S.1
  have hb := S.2.1
  have hown := S.2.2.2.1
  have hu := S.2.2.2.2
  unfold f_X12_reduce at hg
  exact w_X12_reduce_L0 S hr hk hR _ _ _ _ _ _ X (lv_sub hl [0, 1] rfl) hg
end MX12_reduce
set_option maxRecDepth 100000 in
theorem k2_X12_reduce (l : Launch) (dC : Nat → ClassId) (dI : Nat → Nat → Nat) {Z : ZZ} (ad : Nat → Nat) (kc : Nat → ClassId) {σ τ : S5} {a1 : Int32} {r : Unit} (hg : f_X12_reduce a1 σ = some (r, τ)) (sz : Nat) : Met l yX12_reduce (Cond.code yX12_reduce cX12_reduce 3 none :: uG) { frames := 1, cells := 0, slots := 0, locals := 21 } (gPc (dC, dI) (tM kc) (wM ad kc) Z [.ref (ad 0), .int a1] σ sz) (gQv (dC, dI) (tM kc) (wM ad kc) (va_A (wM ad kc σ) sz) r τ) 0 0 (va_A (wM ad kc σ) sz) :=
  g_start (by decide) (Nat.le_of_ble_eq_true rfl) (fun p e s m below meth c ls S hr hk X hl => w_X12_reduce S hr hk ⟨Nat.le_refl _, Nat.le_refl _⟩ X hl hg)
section MX12_signE
variable {p : Program} {l : Launch} {e : Env} {R : Room} {s : State} {m : MethodId} {args : Array Value} {below : List Frame} {meth : Method} {c : Code} {dC : Nat → ClassId} {dI : Nat → Nat → Nat} {Z : ZZ} {A : Nat → Prop} {ad : Nat → Nat} {kc : Nat → ClassId} {r : Unit} {τ : S5}
set_option maxHeartbeats 4000000 in
set_option maxRecDepth 100000 in
theorem w_X12_signE_b64 {σ : S5} {v1 : Int32} {u0 : Int32} {H : Heap} {locs : List Loc} {ls : Array Slot} (S : CallFix p m c cX12_signE 3 s args uG RX12) (hr : meth.sig.returnType = none) (hk : meth.locks = false) (hR : 5 ≤ R.frames ∧ 114 ≤ R.locals)
    (X : gX (dC, dI) (tM kc) (wM ad kc) Z A s σ H locs) (hl : lv_has ls 3 [(0, .ref (ad 0)), (1, .int v1)]) (hg : f_X12_signE_b64 v1 u0 σ = some (r, τ)) : W p l e R s m args below meth c H locs 0 0 (MQ below (gQv (dC, dI) (tM kc) (wM ad kc) A r τ) args s 0 0 A) (F0 m 64 ls [.int u0]) := by
  have hx := S.1
  have hb := S.2.1
  have hown := S.2.2.2.1
  have hu := S.2.2.2.2
  unfold f_X12_signE_b64 at hg
  refine lv_istore_n (lv' := [(2, .int u0), (0, .ref (ad 0)), (1, .int v1)]) hx hb dX12_signE_64 rfl hl (by decide) rfl (fun ls hl => ?_)
  refine lv_aload_n hx hb dX12_signE_65 rfl (lv_at hl 1 rfl) ?_
  refine wmgR_0_18 S X mG_2068 dX12_signE_66 ?_
  refine lv_iload_n hx hb dX12_signE_69 rfl (lv_at hl 0 rfl) ?_
  refine lv_aload_n hx hb dX12_signE_70 rfl (lv_at hl 1 rfl) ?_
  refine wmgI_4 (v := (gI σ 4)) S X mG_2056 rfl dX12_signE_71 ?_
  obtain ⟨hi74, hg⟩ := gd_some hg
  refine wmsA_7 S X hi74 dX12_signE_74 (fun H locs X => ?_)
  refine lv_aload_n hx hb dX12_signE_75 rfl (lv_at hl 1 rfl) ?_
  refine lv_iconst (v := 1) hx hb dX12_signE_76 (by decide) ?_
  obtain ⟨r77, τ77, hq77, hg⟩ := bd_some hg
  refine gc_Vv (As := [.int 1]) (rest := []) (q0 := 0) (ci := 15) S X (k2_X12_accept l dC dI ad kc hq77 H.size) cw_X12_accept mG_2526 rfl rfl rfl rfl rfl hl.1 (Nat.le_of_ble_eq_true rfl) dX12_signE_77 ⟨by omega, by omega⟩ (fun H locs X => ?_)
  refine lv_aload_n hx hb dX12_signE_80 rfl (lv_at hl 1 rfl) ?_
  refine lv_bipush (v := 7) hx hb dX12_signE_81 (by decide) ?_
  refine lv_iload_n hx hb dX12_signE_83 rfl (lv_at hl 0 rfl) ?_
  refine lv_iload_n hx hb dX12_signE_84 rfl (lv_at hl 2 rfl) ?_
  obtain ⟨r85, τ85, hq85, hg⟩ := bd_some hg
  refine gc_Vv (As := [.int 7, .int u0, .int v1]) (rest := []) (q0 := 0) (ci := 15) S X (k2_X12_pile l dC dI ad kc hq85 H.size) cw_X12_pile mG_2566 rfl rfl rfl rfl rfl hl.1 (Nat.le_of_ble_eq_true rfl) dX12_signE_85 ⟨by omega, by omega⟩ (fun H locs X => ?_)
  refine lv_aload_n hx hb dX12_signE_88 rfl (lv_at hl 1 rfl) ?_
  refine lv_iconst (v := 1) hx hb dX12_signE_89 (by decide) ?_
  refine wmpI_19 S X mG_2093 (Or.inr rfl) dX12_signE_90 (fun H locs X => ?_)
  refine lv_aload_n hx hb dX12_signE_93 rfl (lv_at hl 1 rfl) ?_
  refine lv_iconst (v := 0) hx hb dX12_signE_94 (by decide) ?_
  refine wmpI_18 S X mG_2092 (Or.inl rfl) dX12_signE_95 (fun H locs X => ?_)
  obtain ⟨-, rfl⟩ := fin_some hg
  exact gr_v S hr hk X dX12_signE_98
set_option maxHeartbeats 4000000 in
set_option maxRecDepth 100000 in
theorem w_X12_signE_b48 {σ : S5} {v1 : Int32} {H : Heap} {locs : List Loc} {ls : Array Slot} (S : CallFix p m c cX12_signE 3 s args uG RX12) (hr : meth.sig.returnType = none) (hk : meth.locks = false) (hR : 5 ≤ R.frames ∧ 114 ≤ R.locals)
    (X : gX (dC, dI) (tM kc) (wM ad kc) Z A s σ H locs) (hl : lv_has ls 3 [(0, .ref (ad 0)), (1, .int v1)]) (hg : f_X12_signE_b48 v1 σ = some (r, τ)) : W p l e R s m args below meth c H locs 0 0 (MQ below (gQv (dC, dI) (tM kc) (wM ad kc) A r τ) args s 0 0 A) (F0 m 48 ls []) := by
  have hx := S.1
  have hb := S.2.1
  have hown := S.2.2.2.1
  have hu := S.2.2.2.2
  unfold f_X12_signE_b48 at hg
  refine lv_aload_n hx hb dX12_signE_48 rfl (lv_at hl 0 rfl) ?_
  obtain ⟨r49, τ49, hq49, hg⟩ := bd_some hg
  refine gc_Vi (As := []) (rest := []) (q0 := 0) (ci := 15) S X (k2_X12_part l dC dI ad kc hq49 H.size) cw_X12_part mG_2554 rfl rfl rfl rfl rfl hl.1 (Nat.le_of_ble_eq_true rfl) dX12_signE_49 ⟨by omega, by omega⟩ (fun H locs X => ?_)
  refine lv_if_eq (tgt := 63) hx hb dX12_signE_52 (by decide) (fun c52 => ?_) (fun c52 => ?_)
  · have hg := (if_pos c52).symm.trans hg
    refine lv_iconst (v := 0) hx hb dX12_signE_63 (by decide) ?_
    exact w_X12_signE_b64 S hr hk hR X (lv_sub hl [0, 1] rfl) hg
  · have hg := (if_neg c52).symm.trans hg
    refine lv_aload_n hx hb dX12_signE_55 rfl (lv_at hl 0 rfl) ?_
    refine lv_iconst (v := 5) hx hb dX12_signE_56 (by decide) ?_
    obtain ⟨r57, τ57, hq57, hg⟩ := bd_some hg
    refine gc_Vi (As := [.int 5]) (rest := []) (q0 := 0) (ci := 15) S X (k2_X12_node l dC dI ad kc hq57 H.size) cw_X12_node mG_2542 rfl rfl rfl rfl rfl hl.1 (Nat.le_of_ble_eq_true rfl) dX12_signE_57 ⟨by omega, by omega⟩ (fun H locs X => ?_)
    refine lv_goto (tgt := 64) hx hb dX12_signE_60 (by decide) ?_
    exact w_X12_signE_b64 S hr hk hR X (lv_sub hl [0, 1] rfl) hg
set_option maxHeartbeats 4000000 in
set_option maxRecDepth 100000 in
theorem w_X12_signE_b19 {σ : S5} {v1 : Int32} {u0 : Int32} {H : Heap} {locs : List Loc} {ls : Array Slot} (S : CallFix p m c cX12_signE 3 s args uG RX12) (hr : meth.sig.returnType = none) (hk : meth.locks = false) (hR : 5 ≤ R.frames ∧ 114 ≤ R.locals)
    (X : gX (dC, dI) (tM kc) (wM ad kc) Z A s σ H locs) (hl : lv_has ls 3 [(0, .ref (ad 0)), (1, .int v1)]) (hg : f_X12_signE_b19 v1 u0 σ = some (r, τ)) : W p l e R s m args below meth c H locs 0 0 (MQ below (gQv (dC, dI) (tM kc) (wM ad kc) A r τ) args s 0 0 A) (F0 m 19 ls [.int u0, .ref (ad 0)]) := by
  have hx := S.1
  have hb := S.2.1
  have hown := S.2.2.2.1
  have hu := S.2.2.2.2
  unfold f_X12_signE_b19 at hg
  obtain ⟨r19, τ19, hq19, hg⟩ := bd_some hg
  refine gc_Vv (As := [.int u0]) (rest := []) (q0 := 0) (ci := 15) S X (k2_X12_reduce l dC dI ad kc hq19 H.size) cw_X12_reduce mG_2633 rfl rfl rfl rfl rfl hl.1 (Nat.le_of_ble_eq_true rfl) dX12_signE_19 ⟨by omega, by omega⟩ (fun H locs X => ?_)
  refine lv_iload_n hx hb dX12_signE_22 rfl (lv_at hl 1 rfl) ?_
  refine lv_iconst (v := 1) hx hb dX12_signE_23 (by decide) ?_
  refine lv_icmp_ne (tgt := 48) hx hb dX12_signE_24 (by decide) (fun c24 => ?_) (fun c24 => ?_)
  · have hg := (if_neg c24).symm.trans hg
    exact w_X12_signE_b48 S hr hk hR X (lv_sub hl [0, 1] rfl) hg
  · have hg := (if_pos c24).symm.trans hg
    refine lv_aload_n hx hb dX12_signE_27 rfl (lv_at hl 0 rfl) ?_
    refine wmgR_0_36 S X mG_2086 dX12_signE_28 ?_
    refine lv_aload_n hx hb dX12_signE_31 rfl (lv_at hl 0 rfl) ?_
    refine wmgI_16 (v := (gI τ19 16)) S X mG_2085 rfl dX12_signE_32 ?_
    refine lv_iconst (v := 1) hx hb dX12_signE_35 (by decide) ?_
    refine lv_isub hx hb dX12_signE_36 ?_
    obtain ⟨hi37, hg⟩ := gd_some hg
    refine wmlA_14 (v := (xA τ19 14 ((gI τ19 16) - 1))) S X hi37 rfl dX12_signE_37 ?_
    refine lv_bipush (v := 7) hx hb dX12_signE_38 (by decide) ?_
    refine lv_icmp_ne (tgt := 48) hx hb dX12_signE_40 (by decide) (fun c40 => ?_) (fun c40 => ?_)
    · have hg := (if_neg c40).symm.trans hg
      exact w_X12_signE_b48 S hr hk hR X (lv_sub hl [0, 1] rfl) hg
    · have hg := (if_pos c40).symm.trans hg
      refine lv_aload_n hx hb dX12_signE_43 rfl (lv_at hl 0 rfl) ?_
      obtain ⟨r44, τ44, hq44, hg⟩ := bd_some hg
      refine gc_Vv (As := []) (rest := []) (q0 := 0) (ci := 15) S X (k2_X12_wrong l dC dI ad kc hq44 H.size) cw_X12_wrong mG_2530 rfl rfl rfl rfl rfl hl.1 (Nat.le_of_ble_eq_true rfl) dX12_signE_44 ⟨by omega, by omega⟩ (fun H locs X => ?_)
      obtain ⟨-, rfl⟩ := fin_some hg
      exact gr_v S hr hk X dX12_signE_47
set_option maxHeartbeats 4000000 in
set_option maxRecDepth 100000 in
theorem w_X12_signE {σ : S5}  {H : Heap} {locs : List Loc} {ls : Array Slot} (S : CallFix p m c cX12_signE 3 s args uG RX12) (hr : meth.sig.returnType = none) (hk : meth.locks = false) (hR : 5 ≤ R.frames ∧ 114 ≤ R.locals)
    (X : gX (dC, dI) (tM kc) (wM ad kc) Z A s σ H locs) (hl : lv_has ls 3 [(0, .ref (ad 0))]) (hg : f_X12_signE  σ = some (r, τ)) : W p l e R s m args below meth c H locs 0 0 (MQ below (gQv (dC, dI) (tM kc) (wM ad kc) A r τ) args s 0 0 A) (F0 m 0 ls []) := by
  have hx := S.1
  have hb := S.2.1
  have hown := S.2.2.2.1
  have hu := S.2.2.2.2
  unfold f_X12_signE at hg
  refine lv_aload_n hx hb dX12_signE_0 rfl (lv_at hl 0 rfl) ?_
  refine wmgI_4 (v := (gI σ 4)) S X mG_2056 rfl dX12_signE_1 ?_
  obtain ⟨r4, τ4, hq4, hg⟩ := bd_some hg
  refine gc_Si (As := [.int (gI σ 4)]) (rest := []) S X (k2_X12_rank l dC dI ad kc hq4 H.size) cw_X12_rank mG_2626 rfl rfl hl.1 (Nat.le_of_ble_eq_true rfl) dX12_signE_4 ⟨by omega, by omega⟩ (fun H locs X => ?_)
  refine lv_istore_n (lv' := [(1, .int r4), (0, .ref (ad 0))]) hx hb dX12_signE_7 rfl hl (by decide) rfl (fun ls hl => ?_)
  refine lv_aload_n hx hb dX12_signE_8 rfl (lv_at hl 1 rfl) ?_
  refine lv_iload_n hx hb dX12_signE_9 rfl (lv_at hl 0 rfl) ?_
  refine lv_iconst (v := 1) hx hb dX12_signE_10 (by decide) ?_
  refine lv_icmp_ne (tgt := 18) hx hb dX12_signE_11 (by decide) (fun c11 => ?_) (fun c11 => ?_)
  · have hg := (if_neg c11).symm.trans hg
    refine lv_iload_n hx hb dX12_signE_18 rfl (lv_at hl 0 rfl) ?_
    exact w_X12_signE_b19 S hr hk hR X (lv_sub hl [1, 0] rfl) hg
  · have hg := (if_pos c11).symm.trans hg
    refine lv_iconst (v := 2) hx hb dX12_signE_14 (by decide) ?_
    refine lv_goto (tgt := 19) hx hb dX12_signE_15 (by decide) ?_
    exact w_X12_signE_b19 S hr hk hR X (lv_sub hl [1, 0] rfl) hg
end MX12_signE
set_option maxRecDepth 100000 in
theorem k2_X12_signE (l : Launch) (dC : Nat → ClassId) (dI : Nat → Nat → Nat) {Z : ZZ} (ad : Nat → Nat) (kc : Nat → ClassId) {σ τ : S5}  {r : Unit} (hg : f_X12_signE  σ = some (r, τ)) (sz : Nat) : Met l yX12_signE (Cond.code yX12_signE cX12_signE 3 none :: uG) { frames := 5, cells := 0, slots := 0, locals := 114 } (gPc (dC, dI) (tM kc) (wM ad kc) Z [.ref (ad 0)] σ sz) (gQv (dC, dI) (tM kc) (wM ad kc) (va_A (wM ad kc σ) sz) r τ) 0 0 (va_A (wM ad kc σ) sz) :=
  g_start (by decide) (Nat.le_of_ble_eq_true rfl) (fun p e s m below meth c ls S hr hk X hl => w_X12_signE S hr hk ⟨Nat.le_refl _, Nat.le_refl _⟩ X hl hg)
section MX12_branch
variable {p : Program} {l : Launch} {e : Env} {R : Room} {s : State} {m : MethodId} {args : Array Value} {below : List Frame} {meth : Method} {c : Code} {dC : Nat → ClassId} {dI : Nat → Nat → Nat} {Z : ZZ} {A : Nat → Prop} {ad : Nat → Nat} {kc : Nat → ClassId} {r : Unit} {τ : S5}
set_option maxHeartbeats 4000000 in
set_option maxRecDepth 100000 in
theorem w_X12_branch_b331 {σ : S5} {v5 : Int32} {u0 : Int32} {H : Heap} {locs : List Loc} {ls : Array Slot} (S : CallFix p m c cX12_branch 9 s args uG RX12) (hr : meth.sig.returnType = none) (hk : meth.locks = false) (hR : 5 ≤ R.frames ∧ 114 ≤ R.locals)
    (X : gX (dC, dI) (tM kc) (wM ad kc) Z A s σ H locs) (hl : lv_has ls 9 [(0, .ref (ad 0)), (5, .int v5)]) (hg : f_X12_branch_b331 v5 u0 σ = some (r, τ)) : W p l e R s m args below meth c H locs 0 0 (MQ below (gQv (dC, dI) (tM kc) (wM ad kc) A r τ) args s 0 0 A) (F0 m 331 ls [.int u0, .ref (ad 0)]) := by
  have hx := S.1
  have hb := S.2.1
  have hown := S.2.2.2.1
  have hu := S.2.2.2.2
  unfold f_X12_branch_b331 at hg
  obtain ⟨r331, τ331, hq331, hg⟩ := bd_some hg
  refine gc_Vv (As := [.int u0]) (rest := []) (q0 := 0) (ci := 15) S X (k2_X12_accept l dC dI ad kc hq331 H.size) cw_X12_accept mG_2526 rfl rfl rfl rfl rfl hl.1 (Nat.le_of_ble_eq_true rfl) dX12_branch_331 ⟨by omega, by omega⟩ (fun H locs X => ?_)
  refine lv_aload_n hx hb dX12_branch_334 rfl (lv_at hl 0 rfl) ?_
  refine lv_bipush (v := 6) hx hb dX12_branch_335 (by decide) ?_
  refine lv_iload hx hb dX12_branch_337 (lv_at hl 1 rfl) ?_
  refine lv_iconst (v := 0) hx hb dX12_branch_339 (by decide) ?_
  obtain ⟨r340, τ340, hq340, hg⟩ := bd_some hg
  refine gc_Vv (As := [.int 6, .int v5, .int 0]) (rest := []) (q0 := 0) (ci := 15) S X (k2_X12_pile l dC dI ad kc hq340 H.size) cw_X12_pile mG_2566 rfl rfl rfl rfl rfl hl.1 (Nat.le_of_ble_eq_true rfl) dX12_branch_340 ⟨by omega, by omega⟩ (fun H locs X => ?_)
  refine lv_aload_n hx hb dX12_branch_343 rfl (lv_at hl 0 rfl) ?_
  refine lv_iconst (v := 1) hx hb dX12_branch_344 (by decide) ?_
  refine wmpI_19 S X mG_2093 (Or.inr rfl) dX12_branch_345 (fun H locs X => ?_)
  refine lv_aload_n hx hb dX12_branch_348 rfl (lv_at hl 0 rfl) ?_
  refine lv_iconst (v := 1) hx hb dX12_branch_349 (by decide) ?_
  refine wmpI_18 S X mG_2092 (Or.inr rfl) dX12_branch_350 (fun H locs X => ?_)
  obtain ⟨-, rfl⟩ := fin_some hg
  exact gr_v S hr hk X dX12_branch_353
set_option maxHeartbeats 4000000 in
set_option maxRecDepth 100000 in
theorem w_X12_branch_b316 {σ : S5} {v5 : Int32} {H : Heap} {locs : List Loc} {ls : Array Slot} (S : CallFix p m c cX12_branch 9 s args uG RX12) (hr : meth.sig.returnType = none) (hk : meth.locks = false) (hR : 5 ≤ R.frames ∧ 114 ≤ R.locals)
    (X : gX (dC, dI) (tM kc) (wM ad kc) Z A s σ H locs) (hl : lv_has ls 9 [(0, .ref (ad 0)), (5, .int v5)]) (hg : f_X12_branch_b316 v5 σ = some (r, τ)) : W p l e R s m args below meth c H locs 0 0 (MQ below (gQv (dC, dI) (tM kc) (wM ad kc) A r τ) args s 0 0 A) (F0 m 316 ls []) := by
  have hx := S.1
  have hb := S.2.1
  have hown := S.2.2.2.1
  have hu := S.2.2.2.2
  unfold f_X12_branch_b316 at hg
  refine lv_aload_n hx hb dX12_branch_316 rfl (lv_at hl 0 rfl) ?_
  refine lv_aload_n hx hb dX12_branch_317 rfl (lv_at hl 0 rfl) ?_
  refine wmgI_4 (v := (gI σ 4)) S X mG_2056 rfl dX12_branch_318 ?_
  refine lv_bipush (v := 20) hx hb dX12_branch_321 (by decide) ?_
  refine lv_icmp_ne (tgt := 330) hx hb dX12_branch_323 (by decide) (fun c323 => ?_) (fun c323 => ?_)
  · have hg := (if_neg c323).symm.trans hg
    refine lv_iconst (v := 0) hx hb dX12_branch_330 (by decide) ?_
    exact w_X12_branch_b331 S hr hk hR X (lv_sub hl [0, 1] rfl) hg
  · have hg := (if_pos c323).symm.trans hg
    refine lv_iconst (v := 1) hx hb dX12_branch_326 (by decide) ?_
    refine lv_goto (tgt := 331) hx hb dX12_branch_327 (by decide) ?_
    exact w_X12_branch_b331 S hr hk hR X (lv_sub hl [0, 1] rfl) hg
set_option maxHeartbeats 4000000 in
set_option maxRecDepth 100000 in
theorem w_X12_branch_b310 {σ : S5} {rec215 : Int32 → Int32 → Int32 → S5 → Option (Unit × S5)} {v4 : Int32} {v5 : Int32} {v6 : Int32} {H : Heap} {locs : List Loc} {ls : Array Slot} (S : CallFix p m c cX12_branch 9 s args uG RX12) (hr : meth.sig.returnType = none) (hk : meth.locks = false) (hR : 5 ≤ R.frames ∧ 114 ≤ R.locals)
    (hrec215 : ∀ (v4 : Int32) (v5 : Int32) (v6 : Int32) (σ : S5) (H : Heap) (locs : List Loc) (ls : Array Slot), gX (dC, dI) (tM kc) (wM ad kc) Z A s σ H locs → lv_has ls 9 [(0, .ref (ad 0)), (4, .int v4), (5, .int v5), (6, .int v6)] → rec215 v4 v5 v6 σ = some (r, τ) → W p l e R s m args below meth c H locs 0 0 (MQ below (gQv (dC, dI) (tM kc) (wM ad kc) A r τ) args s 0 0 A) (F0 m 215 ls []))
    (X : gX (dC, dI) (tM kc) (wM ad kc) Z A s σ H locs) (hl : lv_has ls 9 [(0, .ref (ad 0)), (4, .int v4), (5, .int v5), (6, .int v6)]) (hg : f_X12_branch_b310 rec215 v4 v5 v6 σ = some (r, τ)) : W p l e R s m args below meth c H locs 0 0 (MQ below (gQv (dC, dI) (tM kc) (wM ad kc) A r τ) args s 0 0 A) (F0 m 310 ls []) := by
  have hx := S.1
  have hb := S.2.1
  have hown := S.2.2.2.1
  have hu := S.2.2.2.2
  unfold f_X12_branch_b310 at hg
  refine lv_iinc (v := (v6 + 1)) (lv' := [(6, .int (v6 + 1)), (0, .ref (ad 0)), (4, .int v4), (5, .int v5)]) hx hb dX12_branch_310 hl (k := 3) rfl (by rfl) (by decide) rfl (fun ls hl => ?_)
  refine lv_goto (tgt := 215) hx hb dX12_branch_313 (by decide) ?_
  exact hrec215 _ _ _ _ _ _ _ X (lv_sub hl [1, 2, 3, 0] rfl) hg
set_option maxHeartbeats 4000000 in
set_option maxRecDepth 100000 in
theorem w_X12_branch_b292 {σ : S5} {rec215 : Int32 → Int32 → Int32 → S5 → Option (Unit × S5)} {v4 : Int32} {v5 : Int32} {v6 : Int32} {v7 : Int64} {u0 : Int32} {H : Heap} {locs : List Loc} {ls : Array Slot} (S : CallFix p m c cX12_branch 9 s args uG RX12) (hr : meth.sig.returnType = none) (hk : meth.locks = false) (hR : 5 ≤ R.frames ∧ 114 ≤ R.locals)
    (hrec215 : ∀ (v4 : Int32) (v5 : Int32) (v6 : Int32) (σ : S5) (H : Heap) (locs : List Loc) (ls : Array Slot), gX (dC, dI) (tM kc) (wM ad kc) Z A s σ H locs → lv_has ls 9 [(0, .ref (ad 0)), (4, .int v4), (5, .int v5), (6, .int v6)] → rec215 v4 v5 v6 σ = some (r, τ) → W p l e R s m args below meth c H locs 0 0 (MQ below (gQv (dC, dI) (tM kc) (wM ad kc) A r τ) args s 0 0 A) (F0 m 215 ls []))
    (X : gX (dC, dI) (tM kc) (wM ad kc) Z A s σ H locs) (hl : lv_has ls 9 [(0, .ref (ad 0)), (4, .int v4), (5, .int v5), (6, .int v6), (7, .long v7)]) (hg : f_X12_branch_b292 rec215 v4 v5 v6 v7 u0 σ = some (r, τ)) : W p l e R s m args below meth c H locs 0 0 (MQ below (gQv (dC, dI) (tM kc) (wM ad kc) A r τ) args s 0 0 A) (F0 m 292 ls [.int u0, .ref (ad 0)]) := by
  have hx := S.1
  have hb := S.2.1
  have hown := S.2.2.2.1
  have hu := S.2.2.2.2
  unfold f_X12_branch_b292 at hg
  obtain ⟨r292, τ292, hq292, hg⟩ := bd_some hg
  refine gc_Vv (As := [.int u0]) (rest := []) (q0 := 0) (ci := 15) S X (k2_X12_accept l dC dI ad kc hq292 H.size) cw_X12_accept mG_2526 rfl rfl rfl rfl rfl hl.1 (Nat.le_of_ble_eq_true rfl) dX12_branch_292 ⟨by omega, by omega⟩ (fun H locs X => ?_)
  refine lv_aload_n hx hb dX12_branch_295 rfl (lv_at hl 0 rfl) ?_
  refine wmgI_7 (v := (gI τ292 7)) S X mG_2060 rfl dX12_branch_296 ?_
  refine lv_if_ne (tgt := 310) hx hb dX12_branch_299 (by decide) (fun c299 => ?_) (fun c299 => ?_)
  · have hg := (if_neg c299).symm.trans hg
    exact w_X12_branch_b310 S hr hk hR hrec215 X (lv_sub hl [0, 1, 2, 3] rfl) hg
  · have hg := (if_pos c299).symm.trans hg
    refine lv_aload_n hx hb dX12_branch_302 rfl (lv_at hl 0 rfl) ?_
    refine lv_iload hx hb dX12_branch_303 (lv_at hl 2 rfl) ?_
    refine lv_lload hx hb dX12_branch_305 (lv_at hl 4 rfl) ?_
    obtain ⟨r307, τ307, hq307, hg⟩ := bd_some hg
    refine gc_Vv (As := [.int v5, .long v7]) (rest := []) (q0 := 0) (ci := 15) S X (k2_X12_giveName l dC dI ad kc hq307 H.size) cw_X12_giveName mG_2558 rfl rfl rfl rfl rfl hl.1 (Nat.le_of_ble_eq_true rfl) dX12_branch_307 ⟨by omega, by omega⟩ (fun H locs X => ?_)
    exact w_X12_branch_b310 S hr hk hR hrec215 X (lv_sub hl [0, 1, 2, 3] rfl) hg
set_option maxHeartbeats 4000000 in
set_option maxRecDepth 100000 in
theorem w_X12_branch_b278 {σ : S5} {rec215 : Int32 → Int32 → Int32 → S5 → Option (Unit × S5)} {v4 : Int32} {v5 : Int32} {v6 : Int32} {v7 : Int64} {H : Heap} {locs : List Loc} {ls : Array Slot} (S : CallFix p m c cX12_branch 9 s args uG RX12) (hr : meth.sig.returnType = none) (hk : meth.locks = false) (hR : 5 ≤ R.frames ∧ 114 ≤ R.locals)
    (hrec215 : ∀ (v4 : Int32) (v5 : Int32) (v6 : Int32) (σ : S5) (H : Heap) (locs : List Loc) (ls : Array Slot), gX (dC, dI) (tM kc) (wM ad kc) Z A s σ H locs → lv_has ls 9 [(0, .ref (ad 0)), (4, .int v4), (5, .int v5), (6, .int v6)] → rec215 v4 v5 v6 σ = some (r, τ) → W p l e R s m args below meth c H locs 0 0 (MQ below (gQv (dC, dI) (tM kc) (wM ad kc) A r τ) args s 0 0 A) (F0 m 215 ls []))
    (X : gX (dC, dI) (tM kc) (wM ad kc) Z A s σ H locs) (hl : lv_has ls 9 [(0, .ref (ad 0)), (4, .int v4), (5, .int v5), (6, .int v6), (7, .long v7)]) (hg : f_X12_branch_b278 rec215 v4 v5 v6 v7 σ = some (r, τ)) : W p l e R s m args below meth c H locs 0 0 (MQ below (gQv (dC, dI) (tM kc) (wM ad kc) A r τ) args s 0 0 A) (F0 m 278 ls []) := by
  have hx := S.1
  have hb := S.2.1
  have hown := S.2.2.2.1
  have hu := S.2.2.2.2
  unfold f_X12_branch_b278 at hg
  refine lv_aload_n hx hb dX12_branch_278 rfl (lv_at hl 0 rfl) ?_
  refine lv_aload_n hx hb dX12_branch_279 rfl (lv_at hl 0 rfl) ?_
  refine wmgI_4 (v := (gI σ 4)) S X mG_2056 rfl dX12_branch_280 ?_
  refine lv_iconst (v := 3) hx hb dX12_branch_283 (by decide) ?_
  refine lv_icmp_ne (tgt := 291) hx hb dX12_branch_284 (by decide) (fun c284 => ?_) (fun c284 => ?_)
  · have hg := (if_neg c284).symm.trans hg
    refine lv_iconst (v := 0) hx hb dX12_branch_291 (by decide) ?_
    exact w_X12_branch_b292 S hr hk hR hrec215 X (lv_sub hl [0, 1, 2, 3, 4] rfl) hg
  · have hg := (if_pos c284).symm.trans hg
    refine lv_iconst (v := 1) hx hb dX12_branch_287 (by decide) ?_
    refine lv_goto (tgt := 292) hx hb dX12_branch_288 (by decide) ?_
    exact w_X12_branch_b292 S hr hk hR hrec215 X (lv_sub hl [0, 1, 2, 3, 4] rfl) hg
set_option maxHeartbeats 4000000 in
set_option maxRecDepth 100000 in
theorem w_X12_branch_B215 {σ : S5} {rec215 : Int32 → Int32 → Int32 → S5 → Option (Unit × S5)} {v4 : Int32} {v5 : Int32} {v6 : Int32} {H : Heap} {locs : List Loc} {ls : Array Slot} (S : CallFix p m c cX12_branch 9 s args uG RX12) (hr : meth.sig.returnType = none) (hk : meth.locks = false) (hR : 5 ≤ R.frames ∧ 114 ≤ R.locals)
    (hrec215 : ∀ (v4 : Int32) (v5 : Int32) (v6 : Int32) (σ : S5) (H : Heap) (locs : List Loc) (ls : Array Slot), gX (dC, dI) (tM kc) (wM ad kc) Z A s σ H locs → lv_has ls 9 [(0, .ref (ad 0)), (4, .int v4), (5, .int v5), (6, .int v6)] → rec215 v4 v5 v6 σ = some (r, τ) → W p l e R s m args below meth c H locs 0 0 (MQ below (gQv (dC, dI) (tM kc) (wM ad kc) A r τ) args s 0 0 A) (F0 m 215 ls []))
    (X : gX (dC, dI) (tM kc) (wM ad kc) Z A s σ H locs) (hl : lv_has ls 9 [(0, .ref (ad 0)), (4, .int v4), (5, .int v5), (6, .int v6)]) (hg : f_X12_branch_B215 rec215 v4 v5 v6 σ = some (r, τ)) : W p l e R s m args below meth c H locs 0 0 (MQ below (gQv (dC, dI) (tM kc) (wM ad kc) A r τ) args s 0 0 A) (F0 m 215 ls []) := by
  have hx := S.1
  have hb := S.2.1
  have hown := S.2.2.2.1
  have hu := S.2.2.2.2
  unfold f_X12_branch_B215 at hg
  refine lv_aload_n hx hb dX12_branch_215 rfl (lv_at hl 0 rfl) ?_
  refine wmgR_0_19 S X mG_2069 dX12_branch_216 ?_
  refine lv_iload hx hb dX12_branch_219 (lv_at hl 2 rfl) ?_
  obtain ⟨hi221, hg⟩ := gd_some hg
  refine wmlA_8 (v := (xA σ 8 v5)) S X hi221 rfl dX12_branch_221 ?_
  refine lv_if_ne (tgt := 316) hx hb dX12_branch_222 (by decide) (fun c222 => ?_) (fun c222 => ?_)
  · have hg := (if_neg c222).symm.trans hg
    exact w_X12_branch_b316 S hr hk hR X (lv_sub hl [0, 2] rfl) hg
  · have hg := (if_pos c222).symm.trans hg
    refine lv_iload hx hb dX12_branch_225 (lv_at hl 3 rfl) ?_
    refine lv_aload_n hx hb dX12_branch_227 rfl (lv_at hl 0 rfl) ?_
    refine wmgR_0_33 S X mG_2083 dX12_branch_228 ?_
    refine lv_iload hx hb dX12_branch_231 (lv_at hl 1 rfl) ?_
    obtain ⟨hi233, hg⟩ := gd_some hg
    refine wmlA_13 (v := (xA σ 13 v4)) S X hi233 rfl dX12_branch_233 ?_
    refine lv_icmp_ge (tgt := 316) hx hb dX12_branch_234 (by decide) (fun c234 => ?_) (fun c234 => ?_)
    · have hg := (if_pos c234).symm.trans hg
      exact w_X12_branch_b316 S hr hk hR X (lv_sub hl [0, 2] rfl) hg
    · have hg := (if_neg c234).symm.trans hg
      refine lv_aload_n hx hb dX12_branch_237 rfl (lv_at hl 0 rfl) ?_
      refine wmgI_7 (v := (gI σ 7)) S X mG_2060 rfl dX12_branch_238 ?_
      refine lv_if_ne (tgt := 316) hx hb dX12_branch_241 (by decide) (fun c241 => ?_) (fun c241 => ?_)
      · have hg := (if_neg c241).symm.trans hg
        exact w_X12_branch_b316 S hr hk hR X (lv_sub hl [0, 2] rfl) hg
      · have hg := (if_pos c241).symm.trans hg
        refine lv_aload_n hx hb dX12_branch_244 rfl (lv_at hl 0 rfl) ?_
        refine wmgJ_0 (v := (gJ σ 0)) S X mG_2058 rfl dX12_branch_245 ?_
        refine lv_lstore (lv' := [(7, .long (gJ σ 0)), (0, .ref (ad 0)), (4, .int v4), (5, .int v5), (6, .int v6)]) hx hb dX12_branch_248 hl (by decide) rfl (fun ls hl => ?_)
        refine lv_aload_n hx hb dX12_branch_250 rfl (lv_at hl 1 rfl) ?_
        refine wmgI_4 (v := (gI σ 4)) S X mG_2056 rfl dX12_branch_251 ?_
        refine lv_iconst (v := 3) hx hb dX12_branch_254 (by decide) ?_
        refine lv_icmp_ne (tgt := 278) hx hb dX12_branch_255 (by decide) (fun c255 => ?_) (fun c255 => ?_)
        · have hg := (if_neg c255).symm.trans hg
          exact w_X12_branch_b278 S hr hk hR hrec215 X (lv_sub hl [1, 2, 3, 4, 0] rfl) hg
        · have hg := (if_pos c255).symm.trans hg
          refine lv_aload_n hx hb dX12_branch_258 rfl (lv_at hl 1 rfl) ?_
          refine lv_iload hx hb dX12_branch_259 (lv_at hl 3 rfl) ?_
          refine lv_lload hx hb dX12_branch_261 (lv_at hl 0 rfl) ?_
          obtain ⟨r263, τ263, hq263, hg⟩ := bd_some hg
          refine gc_Vi (As := [.int v5, .long (gJ σ 0)]) (rest := []) (q0 := 0) (ci := 15) S X (k2_X12_isGiven l dC dI ad kc hq263 H.size) cw_X12_isGiven mG_2550 rfl rfl rfl rfl rfl hl.1 (Nat.le_of_ble_eq_true rfl) dX12_branch_263 ⟨by omega, by omega⟩ (fun H locs X => ?_)
          refine lv_if_eq (tgt := 278) hx hb dX12_branch_266 (by decide) (fun c266 => ?_) (fun c266 => ?_)
          · have hg := (if_pos c266).symm.trans hg
            exact w_X12_branch_b278 S hr hk hR hrec215 X (lv_sub hl [1, 2, 3, 4, 0] rfl) hg
          · have hg := (if_neg c266).symm.trans hg
            refine lv_aload_n hx hb dX12_branch_269 rfl (lv_at hl 1 rfl) ?_
            refine lv_iconst (v := 2) hx hb dX12_branch_270 (by decide) ?_
            refine lv_aload_n hx hb dX12_branch_271 rfl (lv_at hl 1 rfl) ?_
            refine wmgI_5 (v := (gI τ263 5)) S X mG_2057 rfl dX12_branch_272 ?_
            obtain ⟨r275, τ275, hq275, hg⟩ := bd_some hg
            refine gc_Vv (As := [.int 2, .int (gI τ263 5)]) (rest := []) (q0 := 0) (ci := 15) S X (k2_X12_fail l dC dI ad kc hq275 H.size) cw_X12_fail mG_2522 rfl rfl rfl rfl rfl hl.1 (Nat.le_of_ble_eq_true rfl) dX12_branch_275 ⟨by omega, by omega⟩ (fun H locs X => ?_)
            exact w_X12_branch_b278 S hr hk hR hrec215 X (lv_sub hl [1, 2, 3, 4, 0] rfl) hg
set_option maxHeartbeats 4000000 in
set_option maxRecDepth 100000 in
theorem w_X12_branch_L215 (S : CallFix p m c cX12_branch 9 s args uG RX12) (hr : meth.sig.returnType = none) (hk : meth.locks = false) (hR : 5 ≤ R.frames ∧ 114 ≤ R.locals) : ∀ (n : Nat) (v4 : Int32) (v5 : Int32) (v6 : Int32) (σ : S5) (H : Heap) (locs : List Loc) (ls : Array Slot), gX (dC, dI) (tM kc) (wM ad kc) Z A s σ H locs → lv_has ls 9 [(0, .ref (ad 0)), (4, .int v4), (5, .int v5), (6, .int v6)] → f_X12_branch_L215  n v4 v5 v6 σ = some (r, τ) → W p l e R s m args below meth c H locs 0 0 (MQ below (gQv (dC, dI) (tM kc) (wM ad kc) A r τ) args s 0 0 A) (F0 m 215 ls []) := by
  intro n
  induction n with
  | zero => intro v4 v5 v6 σ H locs ls X hl hg; cases hg
  | succ n ih => intro v4 v5 v6 σ H locs ls X hl hg; exact w_X12_branch_B215 S hr hk hR ih X hl hg
set_option maxHeartbeats 4000000 in
set_option maxRecDepth 100000 in
theorem w_X12_branch_b207 {σ : S5} {v4 : Int32} {v5 : Int32} {u0 : Int32} {u1 : Int32} {H : Heap} {locs : List Loc} {ls : Array Slot} (S : CallFix p m c cX12_branch 9 s args uG RX12) (hr : meth.sig.returnType = none) (hk : meth.locks = false) (hR : 5 ≤ R.frames ∧ 114 ≤ R.locals)
    (X : gX (dC, dI) (tM kc) (wM ad kc) Z A s σ H locs) (hl : lv_has ls 9 [(0, .ref (ad 0)), (4, .int v4), (5, .int v5)]) (hg : f_X12_branch_b207 v4 v5 u0 u1 σ = some (r, τ)) : W p l e R s m args below meth c H locs 0 0 (MQ below (gQv (dC, dI) (tM kc) (wM ad kc) A r τ) args s 0 0 A) (F0 m 207 ls [.int u0, .int u1, .ref (ad 8)]) := by
  have hx := S.1
  have hb := S.2.1
  have hown := S.2.2.2.1
  have hu := S.2.2.2.2
  unfold f_X12_branch_b207 at hg
  obtain ⟨hi207, hg⟩ := gd_some hg
  refine wmsA_7 S X hi207 dX12_branch_207 (fun H locs X => ?_)
  refine lv_aload_n hx hb dX12_branch_208 rfl (lv_at hl 0 rfl) ?_
  obtain ⟨r209, τ209, hq209, hg⟩ := bd_some hg
  refine gc_Vv (As := []) (rest := []) (q0 := 0) (ci := 15) S X (k2_X12_next l dC dI ad kc hq209 H.size) cw_X12_next mG_2479 rfl rfl rfl rfl rfl hl.1 (Nat.le_of_ble_eq_true rfl) dX12_branch_209 ⟨by omega, by omega⟩ (fun H locs X => ?_)
  refine lv_iconst (v := 0) hx hb dX12_branch_212 (by decide) ?_
  refine lv_istore (lv' := [(6, .int 0), (0, .ref (ad 0)), (4, .int v4), (5, .int v5)]) hx hb dX12_branch_213 hl (by decide) rfl (fun ls hl => ?_)
  exact w_X12_branch_L215 S hr hk hR _ _ _ _ _ _ _ _ X (lv_sub hl [1, 2, 3, 0] rfl) hg
set_option maxHeartbeats 4000000 in
set_option maxRecDepth 100000 in
theorem w_X12_branch_b183 {σ : S5} {v4 : Int32} {v5 : Int32} {u0 : Int32} {u1 : Int32} {H : Heap} {locs : List Loc} {ls : Array Slot} (S : CallFix p m c cX12_branch 9 s args uG RX12) (hr : meth.sig.returnType = none) (hk : meth.locks = false) (hR : 5 ≤ R.frames ∧ 114 ≤ R.locals)
    (X : gX (dC, dI) (tM kc) (wM ad kc) Z A s σ H locs) (hl : lv_has ls 9 [(0, .ref (ad 0)), (4, .int v4), (5, .int v5)]) (hg : f_X12_branch_b183 v4 v5 u0 u1 σ = some (r, τ)) : W p l e R s m args below meth c H locs 0 0 (MQ below (gQv (dC, dI) (tM kc) (wM ad kc) A r τ) args s 0 0 A) (F0 m 183 ls [.int u0, .int u1, .ref (ad 9)]) := by
  have hx := S.1
  have hb := S.2.1
  have hown := S.2.2.2.1
  have hu := S.2.2.2.2
  unfold f_X12_branch_b183 at hg
  obtain ⟨hi183, hg⟩ := gd_some hg
  refine wmsA_8 S X hi183 dX12_branch_183 (fun H locs X => ?_)
  refine lv_aload_n hx hb dX12_branch_184 rfl (lv_at hl 0 rfl) ?_
  refine wmgR_0_18 S X mG_2068 dX12_branch_185 ?_
  refine lv_iload hx hb dX12_branch_188 (lv_at hl 2 rfl) ?_
  refine lv_aload_n hx hb dX12_branch_190 rfl (lv_at hl 0 rfl) ?_
  refine wmgI_4 (v := (gI σ 4)) S X mG_2056 rfl dX12_branch_191 ?_
  refine lv_iconst (v := 4) hx hb dX12_branch_194 (by decide) ?_
  refine lv_icmp_ne (tgt := 203) hx hb dX12_branch_195 (by decide) (fun c195 => ?_) (fun c195 => ?_)
  · have hg := (if_neg c195).symm.trans hg
    refine lv_aload_n hx hb dX12_branch_203 rfl (lv_at hl 0 rfl) ?_
    refine wmgI_6 (v := (gI σ 6)) S X mG_2059 rfl dX12_branch_204 ?_
    exact w_X12_branch_b207 S hr hk hR X (lv_sub hl [0, 1, 2] rfl) hg
  · have hg := (if_pos c195).symm.trans hg
    refine lv_iload hx hb dX12_branch_198 (lv_at hl 1 rfl) ?_
    refine lv_goto (tgt := 207) hx hb dX12_branch_200 (by decide) ?_
    exact w_X12_branch_b207 S hr hk hR X (lv_sub hl [0, 1, 2] rfl) hg
set_option maxHeartbeats 4000000 in
set_option maxRecDepth 100000 in
theorem w_X12_branch_b130 {σ : S5} {v1 : Int32} {v4 : Int32} {H : Heap} {locs : List Loc} {ls : Array Slot} (S : CallFix p m c cX12_branch 9 s args uG RX12) (hr : meth.sig.returnType = none) (hk : meth.locks = false) (hR : 5 ≤ R.frames ∧ 114 ≤ R.locals)
    (X : gX (dC, dI) (tM kc) (wM ad kc) Z A s σ H locs) (hl : lv_has ls 9 [(0, .ref (ad 0)), (1, .int v1), (4, .int v4)]) (hg : f_X12_branch_b130 v1 v4 σ = some (r, τ)) : W p l e R s m args below meth c H locs 0 0 (MQ below (gQv (dC, dI) (tM kc) (wM ad kc) A r τ) args s 0 0 A) (F0 m 130 ls []) := by
  have hx := S.1
  have hb := S.2.1
  have hown := S.2.2.2.1
  have hu := S.2.2.2.2
  unfold f_X12_branch_b130 at hg
  refine lv_aload_n hx hb dX12_branch_130 rfl (lv_at hl 0 rfl) ?_
  refine wmgI_7 (v := (gI σ 7)) S X mG_2060 rfl dX12_branch_131 ?_
  refine lv_if_le (tgt := 138) hx hb dX12_branch_134 (by decide) (fun c134 => ?_) (fun c134 => ?_)
  · have hg := (if_pos c134).symm.trans hg
    refine lv_aload_n hx hb dX12_branch_138 rfl (lv_at hl 0 rfl) ?_
    refine lv_iconst (v := 4) hx hb dX12_branch_139 (by decide) ?_
    obtain ⟨r140, τ140, hq140, hg⟩ := bd_some hg
    refine gc_Vi (As := [.int 4]) (rest := []) (q0 := 0) (ci := 15) S X (k2_X12_node l dC dI ad kc hq140 H.size) cw_X12_node mG_2542 rfl rfl rfl rfl rfl hl.1 (Nat.le_of_ble_eq_true rfl) dX12_branch_140 ⟨by omega, by omega⟩ (fun H locs X => ?_)
    refine lv_istore (lv' := [(5, .int r140), (0, .ref (ad 0)), (1, .int v1), (4, .int v4)]) hx hb dX12_branch_143 hl (by decide) rfl (fun ls hl => ?_)
    refine lv_aload_n hx hb dX12_branch_145 rfl (lv_at hl 1 rfl) ?_
    refine lv_iload_n hx hb dX12_branch_146 rfl (lv_at hl 2 rfl) ?_
    refine lv_iload hx hb dX12_branch_147 (lv_at hl 0 rfl) ?_
    obtain ⟨r149, τ149, hq149, hg⟩ := bd_some hg
    refine gc_Vv (As := [.int v1, .int r140]) (rest := []) (q0 := 0) (ci := 15) S X (k2_X12_append l dC dI ad kc hq149 H.size) cw_X12_append mG_2586 rfl rfl rfl rfl rfl hl.1 (Nat.le_of_ble_eq_true rfl) dX12_branch_149 ⟨by omega, by omega⟩ (fun H locs X => ?_)
    refine lv_aload_n hx hb dX12_branch_152 rfl (lv_at hl 1 rfl) ?_
    refine wmgR_0_19 S X mG_2069 dX12_branch_153 ?_
    refine lv_iload hx hb dX12_branch_156 (lv_at hl 0 rfl) ?_
    refine lv_aload_n hx hb dX12_branch_158 rfl (lv_at hl 1 rfl) ?_
    refine wmgI_4 (v := (gI τ149 4)) S X mG_2056 rfl dX12_branch_159 ?_
    refine lv_iconst (v := 4) hx hb dX12_branch_162 (by decide) ?_
    refine lv_icmp_ne (tgt := 170) hx hb dX12_branch_163 (by decide) (fun c163 => ?_) (fun c163 => ?_)
    · have hg := (if_neg c163).symm.trans hg
      refine lv_aload_n hx hb dX12_branch_170 rfl (lv_at hl 1 rfl) ?_
      refine wmgI_4 (v := (gI τ149 4)) S X mG_2056 rfl dX12_branch_171 ?_
      refine lv_iconst (v := 2) hx hb dX12_branch_174 (by decide) ?_
      refine lv_icmp_ne (tgt := 182) hx hb dX12_branch_175 (by decide) (fun c175 => ?_) (fun c175 => ?_)
      · have hg := (if_neg c175).symm.trans hg
        refine lv_iconst (v := 2) hx hb dX12_branch_182 (by decide) ?_
        exact w_X12_branch_b183 S hr hk hR X (lv_sub hl [1, 3, 0] rfl) hg
      · have hg := (if_pos c175).symm.trans hg
        refine lv_iconst (v := 1) hx hb dX12_branch_178 (by decide) ?_
        refine lv_goto (tgt := 183) hx hb dX12_branch_179 (by decide) ?_
        exact w_X12_branch_b183 S hr hk hR X (lv_sub hl [1, 3, 0] rfl) hg
    · have hg := (if_pos c163).symm.trans hg
      refine lv_iconst (v := 0) hx hb dX12_branch_166 (by decide) ?_
      refine lv_goto (tgt := 183) hx hb dX12_branch_167 (by decide) ?_
      exact w_X12_branch_b183 S hr hk hR X (lv_sub hl [1, 3, 0] rfl) hg
  · have hg := (if_neg c134).symm.trans hg
    obtain ⟨-, rfl⟩ := fin_some hg
    exact gr_v S hr hk X dX12_branch_137
set_option maxHeartbeats 4000000 in
set_option maxRecDepth 100000 in
theorem w_X12_branch_b85 {σ : S5} {v1 : Int32} {v2 : Int32} {v3 : Int32} {u0 : Int32} {H : Heap} {locs : List Loc} {ls : Array Slot} (S : CallFix p m c cX12_branch 9 s args uG RX12) (hr : meth.sig.returnType = none) (hk : meth.locks = false) (hR : 5 ≤ R.frames ∧ 114 ≤ R.locals)
    (X : gX (dC, dI) (tM kc) (wM ad kc) Z A s σ H locs) (hl : lv_has ls 9 [(0, .ref (ad 0)), (1, .int v1), (2, .int v2), (3, .int v3)]) (hg : f_X12_branch_b85 v1 v2 v3 u0 σ = some (r, τ)) : W p l e R s m args below meth c H locs 0 0 (MQ below (gQv (dC, dI) (tM kc) (wM ad kc) A r τ) args s 0 0 A) (F0 m 85 ls [.int u0]) := by
  have hx := S.1
  have hb := S.2.1
  have hown := S.2.2.2.1
  have hu := S.2.2.2.2
  unfold f_X12_branch_b85 at hg
  refine lv_istore (lv' := [(4, .int u0), (0, .ref (ad 0)), (1, .int v1), (2, .int v2), (3, .int v3)]) hx hb dX12_branch_85 hl (by decide) rfl (fun ls hl => ?_)
  refine lv_iload_n hx hb dX12_branch_87 rfl (lv_at hl 4 rfl) ?_
  refine lv_if_ne (tgt := 98) hx hb dX12_branch_88 (by decide) (fun c88 => ?_) (fun c88 => ?_)
  · have hg := (if_neg c88).symm.trans hg
    refine lv_iload hx hb dX12_branch_98 (lv_at hl 0 rfl) ?_
    refine lv_if_ge (tgt := 115) hx hb dX12_branch_100 (by decide) (fun c100 => ?_) (fun c100 => ?_)
    · have hg := (if_pos c100).symm.trans hg
      refine lv_iload_n hx hb dX12_branch_115 rfl (lv_at hl 3 rfl) ?_
      refine lv_bipush (v := 8) hx hb dX12_branch_116 (by decide) ?_
      refine lv_icmp_ne (tgt := 130) hx hb dX12_branch_118 (by decide) (fun c118 => ?_) (fun c118 => ?_)
      · have hg := (if_neg c118).symm.trans hg
        exact w_X12_branch_b130 S hr hk hR X (lv_sub hl [1, 2, 0] rfl) hg
      · have hg := (if_pos c118).symm.trans hg
        refine lv_aload_n hx hb dX12_branch_121 rfl (lv_at hl 1 rfl) ?_
        refine lv_iconst (v := 4) hx hb dX12_branch_122 (by decide) ?_
        refine lv_aload_n hx hb dX12_branch_123 rfl (lv_at hl 1 rfl) ?_
        refine wmgI_5 (v := (gI σ 5)) S X mG_2057 rfl dX12_branch_124 ?_
        obtain ⟨r127, τ127, hq127, hg⟩ := bd_some hg
        refine gc_Vv (As := [.int 4, .int (gI σ 5)]) (rest := []) (q0 := 0) (ci := 15) S X (k2_X12_fail l dC dI ad kc hq127 H.size) cw_X12_fail mG_2522 rfl rfl rfl rfl rfl hl.1 (Nat.le_of_ble_eq_true rfl) dX12_branch_127 ⟨by omega, by omega⟩ (fun H locs X => ?_)
        exact w_X12_branch_b130 S hr hk hR X (lv_sub hl [1, 2, 0] rfl) hg
    · have hg := (if_neg c100).symm.trans hg
      refine lv_aload_n hx hb dX12_branch_103 rfl (lv_at hl 1 rfl) ?_
      refine lv_iconst (v := 3) hx hb dX12_branch_104 (by decide) ?_
      refine lv_aload_n hx hb dX12_branch_105 rfl (lv_at hl 1 rfl) ?_
      refine wmgI_5 (v := (gI σ 5)) S X mG_2057 rfl dX12_branch_106 ?_
      obtain ⟨r109, τ109, hq109, hg⟩ := bd_some hg
      refine gc_Vv (As := [.int 3, .int (gI σ 5)]) (rest := []) (q0 := 0) (ci := 15) S X (k2_X12_fail l dC dI ad kc hq109 H.size) cw_X12_fail mG_2522 rfl rfl rfl rfl rfl hl.1 (Nat.le_of_ble_eq_true rfl) dX12_branch_109 ⟨by omega, by omega⟩ (fun H locs X => ?_)
      refine lv_goto (tgt := 130) hx hb dX12_branch_112 (by decide) ?_
      exact w_X12_branch_b130 S hr hk hR X (lv_sub hl [1, 2, 0] rfl) hg
  · have hg := (if_pos c88).symm.trans hg
    refine lv_aload_n hx hb dX12_branch_91 rfl (lv_at hl 1 rfl) ?_
    obtain ⟨r92, τ92, hq92, hg⟩ := bd_some hg
    refine gc_Vv (As := []) (rest := []) (q0 := 0) (ci := 15) S X (k2_X12_wrong l dC dI ad kc hq92 H.size) cw_X12_wrong mG_2530 rfl rfl rfl rfl rfl hl.1 (Nat.le_of_ble_eq_true rfl) dX12_branch_92 ⟨by omega, by omega⟩ (fun H locs X => ?_)
    refine lv_goto (tgt := 130) hx hb dX12_branch_95 (by decide) ?_
    exact w_X12_branch_b130 S hr hk hR X (lv_sub hl [1, 2, 0] rfl) hg
set_option maxHeartbeats 4000000 in
set_option maxRecDepth 100000 in
theorem w_X12_branch_b64 {σ : S5} {v1 : Int32} {v2 : Int32} {u0 : Int32} {H : Heap} {locs : List Loc} {ls : Array Slot} (S : CallFix p m c cX12_branch 9 s args uG RX12) (hr : meth.sig.returnType = none) (hk : meth.locks = false) (hR : 5 ≤ R.frames ∧ 114 ≤ R.locals)
    (X : gX (dC, dI) (tM kc) (wM ad kc) Z A s σ H locs) (hl : lv_has ls 9 [(0, .ref (ad 0)), (1, .int v1), (2, .int v2)]) (hg : f_X12_branch_b64 v1 v2 u0 σ = some (r, τ)) : W p l e R s m args below meth c H locs 0 0 (MQ below (gQv (dC, dI) (tM kc) (wM ad kc) A r τ) args s 0 0 A) (F0 m 64 ls [.int u0]) := by
  have hx := S.1
  have hb := S.2.1
  have hown := S.2.2.2.1
  have hu := S.2.2.2.2
  unfold f_X12_branch_b64 at hg
  refine lv_istore_n (lv' := [(3, .int u0), (0, .ref (ad 0)), (1, .int v1), (2, .int v2)]) hx hb dX12_branch_64 rfl hl (by decide) rfl (fun ls hl => ?_)
  refine lv_aload_n hx hb dX12_branch_65 rfl (lv_at hl 1 rfl) ?_
  refine wmgI_4 (v := (gI σ 4)) S X mG_2056 rfl dX12_branch_66 ?_
  refine lv_iconst (v := 4) hx hb dX12_branch_69 (by decide) ?_
  refine lv_icmp_ne (tgt := 84) hx hb dX12_branch_70 (by decide) (fun c70 => ?_) (fun c70 => ?_)
  · have hg := (if_neg c70).symm.trans hg
    refine lv_iconst (v := 0) hx hb dX12_branch_84 (by decide) ?_
    exact w_X12_branch_b85 S hr hk hR X (lv_sub hl [1, 2, 3, 0] rfl) hg
  · have hg := (if_pos c70).symm.trans hg
    refine lv_aload_n hx hb dX12_branch_73 rfl (lv_at hl 1 rfl) ?_
    refine lv_aload_n hx hb dX12_branch_74 rfl (lv_at hl 1 rfl) ?_
    refine wmgJ_0 (v := (gJ σ 0)) S X mG_2058 rfl dX12_branch_75 ?_
    obtain ⟨r78, τ78, hq78, hg⟩ := bd_some hg
    refine gc_Vi (As := [.long (gJ σ 0)]) (rest := []) (q0 := 0) (ci := 15) S X (k2_X12_findConstructor l dC dI ad kc hq78 H.size) cw_X12_findConstructor mG_2518 rfl rfl rfl rfl rfl hl.1 (Nat.le_of_ble_eq_true rfl) dX12_branch_78 ⟨by omega, by omega⟩ (fun H locs X => ?_)
    refine lv_goto (tgt := 85) hx hb dX12_branch_81 (by decide) ?_
    exact w_X12_branch_b85 S hr hk hR X (lv_sub hl [1, 2, 3, 0] rfl) hg
set_option maxHeartbeats 4000000 in
set_option maxRecDepth 100000 in
theorem w_X12_branch_b59 {σ : S5} {v1 : Int32} {v2 : Int32} {H : Heap} {locs : List Loc} {ls : Array Slot} (S : CallFix p m c cX12_branch 9 s args uG RX12) (hr : meth.sig.returnType = none) (hk : meth.locks = false) (hR : 5 ≤ R.frames ∧ 114 ≤ R.locals)
    (X : gX (dC, dI) (tM kc) (wM ad kc) Z A s σ H locs) (hl : lv_has ls 9 [(0, .ref (ad 0)), (1, .int v1), (2, .int v2)]) (hg : f_X12_branch_b59 v1 v2 σ = some (r, τ)) : W p l e R s m args below meth c H locs 0 0 (MQ below (gQv (dC, dI) (tM kc) (wM ad kc) A r τ) args s 0 0 A) (F0 m 59 ls []) := by
  have hx := S.1
  have hb := S.2.1
  have hown := S.2.2.2.1
  have hu := S.2.2.2.2
  unfold f_X12_branch_b59 at hg
  refine lv_iconst (v := 1) hx hb dX12_branch_59 (by decide) ?_
  refine lv_goto (tgt := 64) hx hb dX12_branch_60 (by decide) ?_
  exact w_X12_branch_b64 S hr hk hR X (lv_sub hl [0, 1, 2] rfl) hg
set_option maxHeartbeats 4000000 in
set_option maxRecDepth 100000 in
theorem w_X12_branch_B17 {σ : S5} {rec17 : Int32 → Int32 → Int32 → S5 → Option (Unit × S5)} {v1 : Int32} {v2 : Int32} {v3 : Int32} {H : Heap} {locs : List Loc} {ls : Array Slot} (S : CallFix p m c cX12_branch 9 s args uG RX12) (hr : meth.sig.returnType = none) (hk : meth.locks = false) (hR : 5 ≤ R.frames ∧ 114 ≤ R.locals)
    (hrec17 : ∀ (v1 : Int32) (v2 : Int32) (v3 : Int32) (σ : S5) (H : Heap) (locs : List Loc) (ls : Array Slot), gX (dC, dI) (tM kc) (wM ad kc) Z A s σ H locs → lv_has ls 9 [(0, .ref (ad 0)), (1, .int v1), (2, .int v2), (3, .int v3)] → rec17 v1 v2 v3 σ = some (r, τ) → W p l e R s m args below meth c H locs 0 0 (MQ below (gQv (dC, dI) (tM kc) (wM ad kc) A r τ) args s 0 0 A) (F0 m 17 ls []))
    (X : gX (dC, dI) (tM kc) (wM ad kc) Z A s σ H locs) (hl : lv_has ls 9 [(0, .ref (ad 0)), (1, .int v1), (2, .int v2), (3, .int v3)]) (hg : f_X12_branch_B17 rec17 v1 v2 v3 σ = some (r, τ)) : W p l e R s m args below meth c H locs 0 0 (MQ below (gQv (dC, dI) (tM kc) (wM ad kc) A r τ) args s 0 0 A) (F0 m 17 ls []) := by
  have hx := S.1
  have hb := S.2.1
  have hown := S.2.2.2.1
  have hu := S.2.2.2.2
  unfold f_X12_branch_B17 at hg
  refine lv_iload_n hx hb dX12_branch_17 rfl (lv_at hl 3 rfl) ?_
  refine lv_if_lt (tgt := 34) hx hb dX12_branch_18 (by decide) (fun c18 => ?_) (fun c18 => ?_)
  · have hg := (if_pos c18).symm.trans hg
    refine lv_aload_n hx hb dX12_branch_34 rfl (lv_at hl 0 rfl) ?_
    refine wmgI_4 (v := (gI σ 4)) S X mG_2056 rfl dX12_branch_35 ?_
    refine lv_iconst (v := 4) hx hb dX12_branch_38 (by decide) ?_
    refine lv_icmp_eq (tgt := 59) hx hb dX12_branch_39 (by decide) (fun c39 => ?_) (fun c39 => ?_)
    · have hg := (if_pos c39).symm.trans hg
      exact w_X12_branch_b59 S hr hk hR X (lv_sub hl [0, 1, 2] rfl) hg
    · have hg := (if_neg c39).symm.trans hg
      refine lv_aload_n hx hb dX12_branch_42 rfl (lv_at hl 0 rfl) ?_
      refine wmgI_4 (v := (gI σ 4)) S X mG_2056 rfl dX12_branch_43 ?_
      refine lv_iconst (v := 2) hx hb dX12_branch_46 (by decide) ?_
      refine lv_icmp_eq (tgt := 59) hx hb dX12_branch_47 (by decide) (fun c47 => ?_) (fun c47 => ?_)
      · have hg := (if_pos c47).symm.trans hg
        exact w_X12_branch_b59 S hr hk hR X (lv_sub hl [0, 1, 2] rfl) hg
      · have hg := (if_neg c47).symm.trans hg
        refine lv_aload_n hx hb dX12_branch_50 rfl (lv_at hl 0 rfl) ?_
        refine lv_bipush (v := 95) hx hb dX12_branch_51 (by decide) ?_
        obtain ⟨r53, τ53, hq53, hg⟩ := bd_some hg
        refine gc_Vi (As := [.int 95]) (rest := []) (q0 := 0) (ci := 15) S X (k2_X12_isSign l dC dI ad kc hq53 H.size) cw_X12_isSign mG_2534 rfl rfl rfl rfl rfl hl.1 (Nat.le_of_ble_eq_true rfl) dX12_branch_53 ⟨by omega, by omega⟩ (fun H locs X => ?_)
        refine lv_if_eq (tgt := 63) hx hb dX12_branch_56 (by decide) (fun c56 => ?_) (fun c56 => ?_)
        · have hg := (if_pos c56).symm.trans hg
          refine lv_iconst (v := 0) hx hb dX12_branch_63 (by decide) ?_
          exact w_X12_branch_b64 S hr hk hR X (lv_sub hl [0, 1, 2] rfl) hg
        · have hg := (if_neg c56).symm.trans hg
          exact w_X12_branch_b59 S hr hk hR X (lv_sub hl [0, 1, 2] rfl) hg
  · have hg := (if_neg c18).symm.trans hg
    refine lv_iinc (v := (v2 + 1)) (lv' := [(2, .int (v2 + 1)), (0, .ref (ad 0)), (1, .int v1), (3, .int v3)]) hx hb dX12_branch_21 hl (k := 2) rfl (by rfl) (by decide) rfl (fun ls hl => ?_)
    refine lv_aload_n hx hb dX12_branch_24 rfl (lv_at hl 1 rfl) ?_
    refine wmgR_0_16 S X mG_2066 dX12_branch_25 ?_
    refine lv_iload_n hx hb dX12_branch_28 rfl (lv_at hl 3 rfl) ?_
    obtain ⟨hi29, hg⟩ := gd_some hg
    refine wmlA_5 (v := (xA σ 5 v3)) S X hi29 rfl dX12_branch_29 ?_
    refine lv_istore_n (lv' := [(3, .int (xA σ 5 v3)), (2, .int (v2 + 1)), (0, .ref (ad 0)), (1, .int v1)]) hx hb dX12_branch_30 rfl hl (by decide) rfl (fun ls hl => ?_)
    refine lv_goto (tgt := 17) hx hb dX12_branch_31 (by decide) ?_
    exact hrec17 _ _ _ _ _ _ _ X (lv_sub hl [2, 3, 1, 0] rfl) hg
set_option maxHeartbeats 4000000 in
set_option maxRecDepth 100000 in
theorem w_X12_branch_L17 (S : CallFix p m c cX12_branch 9 s args uG RX12) (hr : meth.sig.returnType = none) (hk : meth.locks = false) (hR : 5 ≤ R.frames ∧ 114 ≤ R.locals) : ∀ (n : Nat) (v1 : Int32) (v2 : Int32) (v3 : Int32) (σ : S5) (H : Heap) (locs : List Loc) (ls : Array Slot), gX (dC, dI) (tM kc) (wM ad kc) Z A s σ H locs → lv_has ls 9 [(0, .ref (ad 0)), (1, .int v1), (2, .int v2), (3, .int v3)] → f_X12_branch_L17  n v1 v2 v3 σ = some (r, τ) → W p l e R s m args below meth c H locs 0 0 (MQ below (gQv (dC, dI) (tM kc) (wM ad kc) A r τ) args s 0 0 A) (F0 m 17 ls []) := by
  intro n
  induction n with
  | zero => intro v1 v2 v3 σ H locs ls X hl hg; cases hg
  | succ n ih => intro v1 v2 v3 σ H locs ls X hl hg; exact w_X12_branch_B17 S hr hk hR ih X hl hg
set_option maxHeartbeats 4000000 in
set_option maxRecDepth 100000 in
theorem w_X12_branch {σ : S5} {a1 : Int32} {H : Heap} {locs : List Loc} {ls : Array Slot} (S : CallFix p m c cX12_branch 9 s args uG RX12) (hr : meth.sig.returnType = none) (hk : meth.locks = false) (hR : 5 ≤ R.frames ∧ 114 ≤ R.locals)
    (X : gX (dC, dI) (tM kc) (wM ad kc) Z A s σ H locs) (hl : lv_has ls 9 [(0, .ref (ad 0)), (1, .int a1)]) (hg : f_X12_branch a1 σ = some (r, τ)) : W p l e R s m args below meth c H locs 0 0 (MQ below (gQv (dC, dI) (tM kc) (wM ad kc) A r τ) args s 0 0 A) (F0 m 0 ls []) := by
  have hx := S.1
  have hb := S.2.1
  have hown := S.2.2.2.1
  have hu := S.2.2.2.2
  unfold f_X12_branch at hg
  refine lv_aload_n hx hb dX12_branch_0 rfl (lv_at hl 0 rfl) ?_
  refine wmgI_7 (v := (gI σ 7)) S X mG_2060 rfl dX12_branch_1 ?_
  refine lv_if_le (tgt := 8) hx hb dX12_branch_4 (by decide) (fun c4 => ?_) (fun c4 => ?_)
  · have hg := (if_pos c4).symm.trans hg
    refine lv_iconst (v := 0) hx hb dX12_branch_8 (by decide) ?_
    refine lv_istore_n (lv' := [(2, .int 0), (0, .ref (ad 0)), (1, .int a1)]) hx hb dX12_branch_9 rfl hl (by decide) rfl (fun ls hl => ?_)
    refine lv_aload_n hx hb dX12_branch_10 rfl (lv_at hl 1 rfl) ?_
    refine wmgR_0_14 S X mG_2064 dX12_branch_11 ?_
    refine lv_iload_n hx hb dX12_branch_14 rfl (lv_at hl 2 rfl) ?_
    obtain ⟨hi15, hg⟩ := gd_some hg
    refine wmlA_3 (v := (xA σ 3 a1)) S X hi15 rfl dX12_branch_15 ?_
    refine lv_istore_n (lv' := [(3, .int (xA σ 3 a1)), (2, .int 0), (0, .ref (ad 0)), (1, .int a1)]) hx hb dX12_branch_16 rfl hl (by decide) rfl (fun ls hl => ?_)
    exact w_X12_branch_L17 S hr hk hR _ _ _ _ _ _ _ _ X (lv_sub hl [2, 3, 1, 0] rfl) hg
  · have hg := (if_neg c4).symm.trans hg
    obtain ⟨-, rfl⟩ := fin_some hg
    exact gr_v S hr hk X dX12_branch_7
end MX12_branch
set_option maxRecDepth 100000 in
theorem k2_X12_branch (l : Launch) (dC : Nat → ClassId) (dI : Nat → Nat → Nat) {Z : ZZ} (ad : Nat → Nat) (kc : Nat → ClassId) {σ τ : S5} {a1 : Int32} {r : Unit} (hg : f_X12_branch a1 σ = some (r, τ)) (sz : Nat) : Met l yX12_branch (Cond.code yX12_branch cX12_branch 9 none :: uG) { frames := 5, cells := 0, slots := 0, locals := 114 } (gPc (dC, dI) (tM kc) (wM ad kc) Z [.ref (ad 0), .int a1] σ sz) (gQv (dC, dI) (tM kc) (wM ad kc) (va_A (wM ad kc σ) sz) r τ) 0 0 (va_A (wM ad kc σ) sz) :=
  g_start (by decide) (Nat.le_of_ble_eq_true rfl) (fun p e s m below meth c ls S hr hk X hl => w_X12_branch S hr hk ⟨Nat.le_refl _, Nat.le_refl _⟩ X hl hg)
section MX12_close
variable {p : Program} {l : Launch} {e : Env} {R : Room} {s : State} {m : MethodId} {args : Array Value} {below : List Frame} {meth : Method} {c : Code} {dC : Nat → ClassId} {dI : Nat → Nat → Nat} {Z : ZZ} {A : Nat → Prop} {ad : Nat → Nat} {kc : Nat → ClassId} {r : Unit} {τ : S5}
set_option maxHeartbeats 4000000 in
set_option maxRecDepth 100000 in
theorem w_X12_close {σ : S5} {a1 : Int32} {H : Heap} {locs : List Loc} {ls : Array Slot} (S : CallFix p m c cX12_close 2 s args uG RX12) (hr : meth.sig.returnType = none) (hk : meth.locks = false) (hR : 1 ≤ R.frames ∧ 21 ≤ R.locals)
    (X : gX (dC, dI) (tM kc) (wM ad kc) Z A s σ H locs) (hl : lv_has ls 2 [(0, .ref (ad 0)), (1, .int a1)]) (hg : f_X12_close a1 σ = some (r, τ)) : W p l e R s m args below meth c H locs 0 0 (MQ below (gQv (dC, dI) (tM kc) (wM ad kc) A r τ) args s 0 0 A) (F0 m 0 ls []) := by
  have hx := S.1
  have hb := S.2.1
  have hown := S.2.2.2.1
  have hu := S.2.2.2.2
  unfold f_X12_close at hg
  refine lv_aload_n hx hb dX12_close_0 rfl (lv_at hl 0 rfl) ?_
  refine lv_dup hx hb dX12_close_1 rfl ?_
  refine wmgI_16 (v := (gI σ 16)) S X mG_2085 rfl dX12_close_2 ?_
  refine lv_iconst (v := 1) hx hb dX12_close_5 (by decide) ?_
  refine lv_isub hx hb dX12_close_6 ?_
  refine wmpI_16 S X mG_2085 dX12_close_7 (fun H locs X => ?_)
  refine lv_aload_n hx hb dX12_close_10 rfl (lv_at hl 0 rfl) ?_
  refine lv_dup hx hb dX12_close_11 rfl ?_
  refine wmgI_15 (v := (gI σ 15)) S X mG_2084 rfl dX12_close_12 ?_
  refine lv_iconst (v := 1) hx hb dX12_close_15 (by decide) ?_
  refine lv_isub hx hb dX12_close_16 ?_
  refine wmpI_15 S X mG_2084 dX12_close_17 (fun H locs X => ?_)
  refine lv_aload_n hx hb dX12_close_20 rfl (lv_at hl 0 rfl) ?_
  refine lv_iload_n hx hb dX12_close_21 rfl (lv_at hl 1 rfl) ?_
  obtain ⟨r22, τ22, hq22, hg⟩ := bd_some hg
  refine gc_Vv (As := [.int a1]) (rest := []) (q0 := 0) (ci := 15) S X (k2_X12_operand l dC dI ad kc hq22 H.size) cw_X12_operand mG_2614 rfl rfl rfl rfl rfl hl.1 (Nat.le_of_ble_eq_true rfl) dX12_close_22 ⟨by omega, by omega⟩ (fun H locs X => ?_)
  refine lv_aload_n hx hb dX12_close_25 rfl (lv_at hl 0 rfl) ?_
  refine lv_iconst (v := 1) hx hb dX12_close_26 (by decide) ?_
  refine wmpI_21 S X mG_2095 (Or.inr rfl) dX12_close_27 (fun H locs X => ?_)
  obtain ⟨-, rfl⟩ := fin_some hg
  exact gr_v S hr hk X dX12_close_30
end MX12_close
set_option maxRecDepth 100000 in
theorem k2_X12_close (l : Launch) (dC : Nat → ClassId) (dI : Nat → Nat → Nat) {Z : ZZ} (ad : Nat → Nat) (kc : Nat → ClassId) {σ τ : S5} {a1 : Int32} {r : Unit} (hg : f_X12_close a1 σ = some (r, τ)) (sz : Nat) : Met l yX12_close (Cond.code yX12_close cX12_close 2 none :: uG) { frames := 1, cells := 0, slots := 0, locals := 21 } (gPc (dC, dI) (tM kc) (wM ad kc) Z [.ref (ad 0), .int a1] σ sz) (gQv (dC, dI) (tM kc) (wM ad kc) (va_A (wM ad kc σ) sz) r τ) 0 0 (va_A (wM ad kc σ) sz) :=
  g_start (by decide) (Nat.le_of_ble_eq_true rfl) (fun p e s m below meth c ls S hr hk X hl => w_X12_close S hr hk ⟨Nat.le_refl _, Nat.le_refl _⟩ X hl hg)
section MX12_endBinding
variable {p : Program} {l : Launch} {e : Env} {R : Room} {s : State} {m : MethodId} {args : Array Value} {below : List Frame} {meth : Method} {c : Code} {dC : Nat → ClassId} {dI : Nat → Nat → Nat} {Z : ZZ} {A : Nat → Prop} {ad : Nat → Nat} {kc : Nat → ClassId} {r : Unit} {τ : S5}
set_option maxHeartbeats 4000000 in
set_option maxRecDepth 100000 in
theorem w_X12_endBinding_b68 {σ : S5} {u0 : Int32} {H : Heap} {locs : List Loc} {ls : Array Slot} (S : CallFix p m c cX12_endBinding 3 s args uG RX12) (hr : meth.sig.returnType = none) (hk : meth.locks = false) (hR : 7 ≤ R.frames ∧ 161 ≤ R.locals)
    (X : gX (dC, dI) (tM kc) (wM ad kc) Z A s σ H locs) (hl : lv_has ls 3 [(0, .ref (ad 0))]) (hg : f_X12_endBinding_b68 u0 σ = some (r, τ)) : W p l e R s m args below meth c H locs 0 0 (MQ below (gQv (dC, dI) (tM kc) (wM ad kc) A r τ) args s 0 0 A) (F0 m 68 ls [.int u0, .ref (ad 0)]) := by
  have hx := S.1
  have hb := S.2.1
  have hown := S.2.2.2.1
  have hu := S.2.2.2.2
  unfold f_X12_endBinding_b68 at hg
  obtain ⟨r68, τ68, hq68, hg⟩ := bd_some hg
  refine gc_Vv (As := [.int u0]) (rest := []) (q0 := 0) (ci := 15) S X (k2_X12_accept l dC dI ad kc hq68 H.size) cw_X12_accept mG_2526 rfl rfl rfl rfl rfl hl.1 (Nat.le_of_ble_eq_true rfl) dX12_endBinding_68 ⟨by omega, by omega⟩ (fun H locs X => ?_)
  refine lv_aload_n hx hb dX12_endBinding_71 rfl (lv_at hl 0 rfl) ?_
  refine lv_iconst (v := 1) hx hb dX12_endBinding_72 (by decide) ?_
  refine wmpI_19 S X mG_2093 (Or.inr rfl) dX12_endBinding_73 (fun H locs X => ?_)
  refine lv_aload_n hx hb dX12_endBinding_76 rfl (lv_at hl 0 rfl) ?_
  refine lv_iconst (v := 1) hx hb dX12_endBinding_77 (by decide) ?_
  refine wmpI_18 S X mG_2092 (Or.inr rfl) dX12_endBinding_78 (fun H locs X => ?_)
  obtain ⟨-, rfl⟩ := fin_some hg
  exact gr_v S hr hk X dX12_endBinding_81
set_option maxHeartbeats 4000000 in
set_option maxRecDepth 100000 in
theorem w_X12_endBinding {σ : S5} {a1 : Int32} {H : Heap} {locs : List Loc} {ls : Array Slot} (S : CallFix p m c cX12_endBinding 3 s args uG RX12) (hr : meth.sig.returnType = none) (hk : meth.locks = false) (hR : 7 ≤ R.frames ∧ 161 ≤ R.locals)
    (X : gX (dC, dI) (tM kc) (wM ad kc) Z A s σ H locs) (hl : lv_has ls 3 [(0, .ref (ad 0)), (1, .int a1)]) (hg : f_X12_endBinding a1 σ = some (r, τ)) : W p l e R s m args below meth c H locs 0 0 (MQ below (gQv (dC, dI) (tM kc) (wM ad kc) A r τ) args s 0 0 A) (F0 m 0 ls []) := by
  have hx := S.1
  have hb := S.2.1
  have hown := S.2.2.2.1
  have hu := S.2.2.2.2
  unfold f_X12_endBinding at hg
  refine lv_aload_n hx hb dX12_endBinding_0 rfl (lv_at hl 0 rfl) ?_
  refine wmgR_0_14 S X mG_2064 dX12_endBinding_1 ?_
  refine lv_iload_n hx hb dX12_endBinding_4 rfl (lv_at hl 1 rfl) ?_
  refine lv_aload_n hx hb dX12_endBinding_5 rfl (lv_at hl 0 rfl) ?_
  obtain ⟨r6, τ6, hq6, hg⟩ := bd_some hg
  refine gc_Vi (As := []) (rest := [.int a1, .ref (ad 4)]) (q0 := 0) (ci := 15) S X (k2_X12_taken l dC dI ad kc hq6 H.size) cw_X12_taken mG_2622 rfl rfl rfl rfl rfl hl.1 (Nat.le_of_ble_eq_true rfl) dX12_endBinding_6 ⟨by omega, by omega⟩ (fun H locs X => ?_)
  obtain ⟨hi9, hg⟩ := gd_some hg
  refine wmsA_3 S X hi9 dX12_endBinding_9 (fun H locs X => ?_)
  refine lv_aload_n hx hb dX12_endBinding_10 rfl (lv_at hl 0 rfl) ?_
  refine lv_dup hx hb dX12_endBinding_11 rfl ?_
  refine wmgI_16 (v := (gI τ6 16)) S X mG_2085 rfl dX12_endBinding_12 ?_
  refine lv_iconst (v := 1) hx hb dX12_endBinding_15 (by decide) ?_
  refine lv_isub hx hb dX12_endBinding_16 ?_
  refine wmpI_16 S X mG_2085 dX12_endBinding_17 (fun H locs X => ?_)
  refine lv_aload_n hx hb dX12_endBinding_20 rfl (lv_at hl 0 rfl) ?_
  refine wmgR_0_37 S X mG_2087 dX12_endBinding_21 ?_
  refine lv_aload_n hx hb dX12_endBinding_24 rfl (lv_at hl 0 rfl) ?_
  refine wmgI_16 (v := ((gI τ6 16) - 1)) S X mG_2085 rfl dX12_endBinding_25 ?_
  refine lv_iconst (v := 1) hx hb dX12_endBinding_28 (by decide) ?_
  refine lv_isub hx hb dX12_endBinding_29 ?_
  obtain ⟨hi30, hg⟩ := gd_some hg
  refine wmlA_15 (v := (xA τ6 15 (((gI τ6 16) - 1) - 1))) S X hi30 rfl dX12_endBinding_30 ?_
  refine lv_istore_n (lv' := [(2, .int (xA τ6 15 (((gI τ6 16) - 1) - 1))), (0, .ref (ad 0)), (1, .int a1)]) hx hb dX12_endBinding_31 rfl hl (by decide) rfl (fun ls hl => ?_)
  refine lv_aload_n hx hb dX12_endBinding_32 rfl (lv_at hl 1 rfl) ?_
  refine lv_bipush (v := 44) hx hb dX12_endBinding_33 (by decide) ?_
  obtain ⟨r35, τ35, hq35, hg⟩ := bd_some hg
  refine gc_Vi (As := [.int 44]) (rest := []) (q0 := 0) (ci := 15) S X (k2_X12_isSign l dC dI ad kc hq35 H.size) cw_X12_isSign mG_2534 rfl rfl rfl rfl rfl hl.1 (Nat.le_of_ble_eq_true rfl) dX12_endBinding_35 ⟨by omega, by omega⟩ (fun H locs X => ?_)
  refine lv_if_eq (tgt := 53) hx hb dX12_endBinding_38 (by decide) (fun c38 => ?_) (fun c38 => ?_)
  · have hg := (if_pos c38).symm.trans hg
    refine lv_aload_n hx hb dX12_endBinding_53 rfl (lv_at hl 1 rfl) ?_
    refine lv_aload_n hx hb dX12_endBinding_54 rfl (lv_at hl 1 rfl) ?_
    refine wmgI_4 (v := (gI τ35 4)) S X mG_2056 rfl dX12_endBinding_55 ?_
    refine lv_bipush (v := 12) hx hb dX12_endBinding_58 (by decide) ?_
    refine lv_icmp_ne (tgt := 67) hx hb dX12_endBinding_60 (by decide) (fun c60 => ?_) (fun c60 => ?_)
    · have hg := (if_neg c60).symm.trans hg
      refine lv_iconst (v := 0) hx hb dX12_endBinding_67 (by decide) ?_
      exact w_X12_endBinding_b68 S hr hk hR X (lv_sub hl [1] rfl) hg
    · have hg := (if_pos c60).symm.trans hg
      refine lv_iconst (v := 1) hx hb dX12_endBinding_63 (by decide) ?_
      refine lv_goto (tgt := 68) hx hb dX12_endBinding_64 (by decide) ?_
      exact w_X12_endBinding_b68 S hr hk hR X (lv_sub hl [1] rfl) hg
  · have hg := (if_neg c38).symm.trans hg
    refine lv_aload_n hx hb dX12_endBinding_41 rfl (lv_at hl 1 rfl) ?_
    obtain ⟨r42, τ42, hq42, hg⟩ := bd_some hg
    refine gc_Vv (As := []) (rest := []) (q0 := 0) (ci := 15) S X (k2_X12_next l dC dI ad kc hq42 H.size) cw_X12_next mG_2479 rfl rfl rfl rfl rfl hl.1 (Nat.le_of_ble_eq_true rfl) dX12_endBinding_42 ⟨by omega, by omega⟩ (fun H locs X => ?_)
    refine lv_aload_n hx hb dX12_endBinding_45 rfl (lv_at hl 1 rfl) ?_
    refine lv_iload_n hx hb dX12_endBinding_46 rfl (lv_at hl 0 rfl) ?_
    obtain ⟨r47, τ47, hq47, hg⟩ := bd_some hg
    refine gc_Vv (As := [.int (xA τ6 15 (((gI τ6 16) - 1) - 1))]) (rest := []) (q0 := 0) (ci := 15) S X (k2_X12_binding l dC dI ad kc hq47 H.size) cw_X12_binding mG_2582 rfl rfl rfl rfl rfl hl.1 (Nat.le_of_ble_eq_true rfl) dX12_endBinding_47 ⟨by omega, by omega⟩ (fun H locs X => ?_)
    refine lv_goto (tgt := 81) hx hb dX12_endBinding_50 (by decide) ?_
    obtain ⟨-, rfl⟩ := fin_some hg
    exact gr_v S hr hk X dX12_endBinding_81
end MX12_endBinding
set_option maxRecDepth 100000 in
theorem k2_X12_endBinding (l : Launch) (dC : Nat → ClassId) (dI : Nat → Nat → Nat) {Z : ZZ} (ad : Nat → Nat) (kc : Nat → ClassId) {σ τ : S5} {a1 : Int32} {r : Unit} (hg : f_X12_endBinding a1 σ = some (r, τ)) (sz : Nat) : Met l yX12_endBinding (Cond.code yX12_endBinding cX12_endBinding 3 none :: uG) { frames := 7, cells := 0, slots := 0, locals := 161 } (gPc (dC, dI) (tM kc) (wM ad kc) Z [.ref (ad 0), .int a1] σ sz) (gQv (dC, dI) (tM kc) (wM ad kc) (va_A (wM ad kc σ) sz) r τ) 0 0 (va_A (wM ad kc σ) sz) :=
  g_start (by decide) (Nat.le_of_ble_eq_true rfl) (fun p e s m below meth c ls S hr hk X hl => w_X12_endBinding S hr hk ⟨Nat.le_refl _, Nat.le_refl _⟩ X hl hg)
section MX12_endBranch
variable {p : Program} {l : Launch} {e : Env} {R : Room} {s : State} {m : MethodId} {args : Array Value} {below : List Frame} {meth : Method} {c : Code} {dC : Nat → ClassId} {dI : Nat → Nat → Nat} {Z : ZZ} {A : Nat → Prop} {ad : Nat → Nat} {kc : Nat → ClassId} {r : Unit} {τ : S5}
set_option maxHeartbeats 4000000 in
set_option maxRecDepth 100000 in
theorem w_X12_endBranch {σ : S5} {a1 : Int32} {H : Heap} {locs : List Loc} {ls : Array Slot} (S : CallFix p m c cX12_endBranch 3 s args uG RX12) (hr : meth.sig.returnType = none) (hk : meth.locks = false) (hR : 6 ≤ R.frames ∧ 142 ≤ R.locals)
    (X : gX (dC, dI) (tM kc) (wM ad kc) Z A s σ H locs) (hl : lv_has ls 3 [(0, .ref (ad 0)), (1, .int a1)]) (hg : f_X12_endBranch a1 σ = some (r, τ)) : W p l e R s m args below meth c H locs 0 0 (MQ below (gQv (dC, dI) (tM kc) (wM ad kc) A r τ) args s 0 0 A) (F0 m 0 ls []) := by
  have hx := S.1
  have hb := S.2.1
  have hown := S.2.2.2.1
  have hu := S.2.2.2.2
  unfold f_X12_endBranch at hg
  refine lv_aload_n hx hb dX12_endBranch_0 rfl (lv_at hl 0 rfl) ?_
  refine wmgR_0_14 S X mG_2064 dX12_endBranch_1 ?_
  refine lv_iload_n hx hb dX12_endBranch_4 rfl (lv_at hl 1 rfl) ?_
  refine lv_aload_n hx hb dX12_endBranch_5 rfl (lv_at hl 0 rfl) ?_
  obtain ⟨r6, τ6, hq6, hg⟩ := bd_some hg
  refine gc_Vi (As := []) (rest := [.int a1, .ref (ad 4)]) (q0 := 0) (ci := 15) S X (k2_X12_taken l dC dI ad kc hq6 H.size) cw_X12_taken mG_2622 rfl rfl rfl rfl rfl hl.1 (Nat.le_of_ble_eq_true rfl) dX12_endBranch_6 ⟨by omega, by omega⟩ (fun H locs X => ?_)
  obtain ⟨hi9, hg⟩ := gd_some hg
  refine wmsA_3 S X hi9 dX12_endBranch_9 (fun H locs X => ?_)
  refine lv_aload_n hx hb dX12_endBranch_10 rfl (lv_at hl 0 rfl) ?_
  refine lv_dup hx hb dX12_endBranch_11 rfl ?_
  refine wmgI_16 (v := (gI τ6 16)) S X mG_2085 rfl dX12_endBranch_12 ?_
  refine lv_iconst (v := 1) hx hb dX12_endBranch_15 (by decide) ?_
  refine lv_isub hx hb dX12_endBranch_16 ?_
  refine wmpI_16 S X mG_2085 dX12_endBranch_17 (fun H locs X => ?_)
  refine lv_aload_n hx hb dX12_endBranch_20 rfl (lv_at hl 0 rfl) ?_
  refine wmgR_0_37 S X mG_2087 dX12_endBranch_21 ?_
  refine lv_aload_n hx hb dX12_endBranch_24 rfl (lv_at hl 0 rfl) ?_
  refine wmgI_16 (v := ((gI τ6 16) - 1)) S X mG_2085 rfl dX12_endBranch_25 ?_
  refine lv_iconst (v := 1) hx hb dX12_endBranch_28 (by decide) ?_
  refine lv_isub hx hb dX12_endBranch_29 ?_
  obtain ⟨hi30, hg⟩ := gd_some hg
  refine wmlA_15 (v := (xA τ6 15 (((gI τ6 16) - 1) - 1))) S X hi30 rfl dX12_endBranch_30 ?_
  refine lv_istore_n (lv' := [(2, .int (xA τ6 15 (((gI τ6 16) - 1) - 1))), (0, .ref (ad 0)), (1, .int a1)]) hx hb dX12_endBranch_31 rfl hl (by decide) rfl (fun ls hl => ?_)
  refine lv_aload_n hx hb dX12_endBranch_32 rfl (lv_at hl 1 rfl) ?_
  refine lv_bipush (v := 59) hx hb dX12_endBranch_33 (by decide) ?_
  obtain ⟨r35, τ35, hq35, hg⟩ := bd_some hg
  refine gc_Vi (As := [.int 59]) (rest := []) (q0 := 0) (ci := 15) S X (k2_X12_isSign l dC dI ad kc hq35 H.size) cw_X12_isSign mG_2534 rfl rfl rfl rfl rfl hl.1 (Nat.le_of_ble_eq_true rfl) dX12_endBranch_35 ⟨by omega, by omega⟩ (fun H locs X => ?_)
  refine lv_if_eq (tgt := 53) hx hb dX12_endBranch_38 (by decide) (fun c38 => ?_) (fun c38 => ?_)
  · have hg := (if_pos c38).symm.trans hg
    refine lv_aload_n hx hb dX12_endBranch_53 rfl (lv_at hl 1 rfl) ?_
    refine lv_aload_n hx hb dX12_endBranch_54 rfl (lv_at hl 1 rfl) ?_
    refine lv_bipush (v := 125) hx hb dX12_endBranch_55 (by decide) ?_
    obtain ⟨r57, τ57, hq57, hg⟩ := bd_some hg
    refine gc_Vi (As := [.int 125]) (rest := [.ref (ad 0)]) (q0 := 0) (ci := 15) S X (k2_X12_isSign l dC dI ad kc hq57 H.size) cw_X12_isSign mG_2534 rfl rfl rfl rfl rfl hl.1 (Nat.le_of_ble_eq_true rfl) dX12_endBranch_57 ⟨by omega, by omega⟩ (fun H locs X => ?_)
    obtain ⟨r60, τ60, hq60, hg⟩ := bd_some hg
    refine gc_Vv (As := [.int r57]) (rest := []) (q0 := 0) (ci := 15) S X (k2_X12_accept l dC dI ad kc hq60 H.size) cw_X12_accept mG_2526 rfl rfl rfl rfl rfl hl.1 (Nat.le_of_ble_eq_true rfl) dX12_endBranch_60 ⟨by omega, by omega⟩ (fun H locs X => ?_)
    refine lv_aload_n hx hb dX12_endBranch_63 rfl (lv_at hl 1 rfl) ?_
    refine lv_iload_n hx hb dX12_endBranch_64 rfl (lv_at hl 0 rfl) ?_
    obtain ⟨r65, τ65, hq65, hg⟩ := bd_some hg
    refine gc_Vv (As := [.int (xA τ6 15 (((gI τ6 16) - 1) - 1))]) (rest := []) (q0 := 0) (ci := 15) S X (k2_X12_close l dC dI ad kc hq65 H.size) cw_X12_close mG_2645 rfl rfl rfl rfl rfl hl.1 (Nat.le_of_ble_eq_true rfl) dX12_endBranch_65 ⟨by omega, by omega⟩ (fun H locs X => ?_)
    obtain ⟨-, rfl⟩ := fin_some hg
    exact gr_v S hr hk X dX12_endBranch_68
  · have hg := (if_neg c38).symm.trans hg
    refine lv_aload_n hx hb dX12_endBranch_41 rfl (lv_at hl 1 rfl) ?_
    obtain ⟨r42, τ42, hq42, hg⟩ := bd_some hg
    refine gc_Vv (As := []) (rest := []) (q0 := 0) (ci := 15) S X (k2_X12_next l dC dI ad kc hq42 H.size) cw_X12_next mG_2479 rfl rfl rfl rfl rfl hl.1 (Nat.le_of_ble_eq_true rfl) dX12_endBranch_42 ⟨by omega, by omega⟩ (fun H locs X => ?_)
    refine lv_aload_n hx hb dX12_endBranch_45 rfl (lv_at hl 1 rfl) ?_
    refine lv_iload_n hx hb dX12_endBranch_46 rfl (lv_at hl 0 rfl) ?_
    obtain ⟨r47, τ47, hq47, hg⟩ := bd_some hg
    refine gc_Vv (As := [.int (xA τ6 15 (((gI τ6 16) - 1) - 1))]) (rest := []) (q0 := 0) (ci := 15) S X (k2_X12_branch l dC dI ad kc hq47 H.size) cw_X12_branch mG_2649 rfl rfl rfl rfl rfl hl.1 (Nat.le_of_ble_eq_true rfl) dX12_endBranch_47 ⟨by omega, by omega⟩ (fun H locs X => ?_)
    refine lv_goto (tgt := 68) hx hb dX12_endBranch_50 (by decide) ?_
    obtain ⟨-, rfl⟩ := fin_some hg
    exact gr_v S hr hk X dX12_endBranch_68
end MX12_endBranch
set_option maxRecDepth 100000 in
theorem k2_X12_endBranch (l : Launch) (dC : Nat → ClassId) (dI : Nat → Nat → Nat) {Z : ZZ} (ad : Nat → Nat) (kc : Nat → ClassId) {σ τ : S5} {a1 : Int32} {r : Unit} (hg : f_X12_endBranch a1 σ = some (r, τ)) (sz : Nat) : Met l yX12_endBranch (Cond.code yX12_endBranch cX12_endBranch 3 none :: uG) { frames := 6, cells := 0, slots := 0, locals := 142 } (gPc (dC, dI) (tM kc) (wM ad kc) Z [.ref (ad 0), .int a1] σ sz) (gQv (dC, dI) (tM kc) (wM ad kc) (va_A (wM ad kc σ) sz) r τ) 0 0 (va_A (wM ad kc σ) sz) :=
  g_start (by decide) (Nat.le_of_ble_eq_true rfl) (fun p e s m below meth c ls S hr hk X hl => w_X12_endBranch S hr hk ⟨Nat.le_refl _, Nat.le_refl _⟩ X hl hg)
section MX12_endE
variable {p : Program} {l : Launch} {e : Env} {R : Room} {s : State} {m : MethodId} {args : Array Value} {below : List Frame} {meth : Method} {c : Code} {dC : Nat → ClassId} {dI : Nat → Nat → Nat} {Z : ZZ} {A : Nat → Prop} {ad : Nat → Nat} {kc : Nat → ClassId} {r : Unit} {τ : S5}
set_option maxHeartbeats 4000000 in
set_option maxRecDepth 100000 in
theorem w_X12_endE_b176 {σ : S5} {v2 : Int32} {u0 : Int32} {H : Heap} {locs : List Loc} {ls : Array Slot} (S : CallFix p m c cX12_endE 3 s args uG RX12) (hr : meth.sig.returnType = none) (hk : meth.locks = false) (hR : 8 ≤ R.frames ∧ 183 ≤ R.locals)
    (X : gX (dC, dI) (tM kc) (wM ad kc) Z A s σ H locs) (hl : lv_has ls 3 [(0, .ref (ad 0)), (2, .int v2)]) (hg : f_X12_endE_b176 v2 u0 σ = some (r, τ)) : W p l e R s m args below meth c H locs 0 0 (MQ below (gQv (dC, dI) (tM kc) (wM ad kc) A r τ) args s 0 0 A) (F0 m 176 ls [.int u0, .ref (ad 0)]) := by
  have hx := S.1
  have hb := S.2.1
  have hown := S.2.2.2.1
  have hu := S.2.2.2.2
  unfold f_X12_endE_b176 at hg
  obtain ⟨r176, τ176, hq176, hg⟩ := bd_some hg
  refine gc_Vv (As := [.int u0]) (rest := []) (q0 := 0) (ci := 15) S X (k2_X12_accept l dC dI ad kc hq176 H.size) cw_X12_accept mG_2526 rfl rfl rfl rfl rfl hl.1 (Nat.le_of_ble_eq_true rfl) dX12_endE_176 ⟨by omega, by omega⟩ (fun H locs X => ?_)
  refine lv_aload_n hx hb dX12_endE_179 rfl (lv_at hl 0 rfl) ?_
  refine lv_aload_n hx hb dX12_endE_180 rfl (lv_at hl 0 rfl) ?_
  refine lv_bipush (v := 123) hx hb dX12_endE_181 (by decide) ?_
  obtain ⟨r183, τ183, hq183, hg⟩ := bd_some hg
  refine gc_Vi (As := [.int 123]) (rest := [.ref (ad 0)]) (q0 := 0) (ci := 15) S X (k2_X12_isSign l dC dI ad kc hq183 H.size) cw_X12_isSign mG_2534 rfl rfl rfl rfl rfl hl.1 (Nat.le_of_ble_eq_true rfl) dX12_endE_183 ⟨by omega, by omega⟩ (fun H locs X => ?_)
  obtain ⟨r186, τ186, hq186, hg⟩ := bd_some hg
  refine gc_Vv (As := [.int r183]) (rest := []) (q0 := 0) (ci := 15) S X (k2_X12_accept l dC dI ad kc hq186 H.size) cw_X12_accept mG_2526 rfl rfl rfl rfl rfl hl.1 (Nat.le_of_ble_eq_true rfl) dX12_endE_186 ⟨by omega, by omega⟩ (fun H locs X => ?_)
  refine lv_aload_n hx hb dX12_endE_189 rfl (lv_at hl 0 rfl) ?_
  refine lv_iload_n hx hb dX12_endE_190 rfl (lv_at hl 1 rfl) ?_
  obtain ⟨r191, τ191, hq191, hg⟩ := bd_some hg
  refine gc_Vv (As := [.int v2]) (rest := []) (q0 := 0) (ci := 15) S X (k2_X12_branch l dC dI ad kc hq191 H.size) cw_X12_branch mG_2649 rfl rfl rfl rfl rfl hl.1 (Nat.le_of_ble_eq_true rfl) dX12_endE_191 ⟨by omega, by omega⟩ (fun H locs X => ?_)
  refine lv_goto (tgt := 235) hx hb dX12_endE_194 (by decide) ?_
  obtain ⟨-, rfl⟩ := fin_some hg
  exact gr_v S hr hk X dX12_endE_235
set_option maxHeartbeats 4000000 in
set_option maxRecDepth 100000 in
theorem w_X12_endE {σ : S5}  {H : Heap} {locs : List Loc} {ls : Array Slot} (S : CallFix p m c cX12_endE 3 s args uG RX12) (hr : meth.sig.returnType = none) (hk : meth.locks = false) (hR : 8 ≤ R.frames ∧ 183 ≤ R.locals)
    (X : gX (dC, dI) (tM kc) (wM ad kc) Z A s σ H locs) (hl : lv_has ls 3 [(0, .ref (ad 0))]) (hg : f_X12_endE  σ = some (r, τ)) : W p l e R s m args below meth c H locs 0 0 (MQ below (gQv (dC, dI) (tM kc) (wM ad kc) A r τ) args s 0 0 A) (F0 m 0 ls []) := by
  have hx := S.1
  have hb := S.2.1
  have hown := S.2.2.2.1
  have hu := S.2.2.2.2
  unfold f_X12_endE at hg
  refine lv_aload_n hx hb dX12_endE_0 rfl (lv_at hl 0 rfl) ?_
  refine lv_iconst (v := 1) hx hb dX12_endE_1 (by decide) ?_
  obtain ⟨r2, τ2, hq2, hg⟩ := bd_some hg
  refine gc_Vv (As := [.int 1]) (rest := []) (q0 := 0) (ci := 15) S X (k2_X12_reduce l dC dI ad kc hq2 H.size) cw_X12_reduce mG_2633 rfl rfl rfl rfl rfl hl.1 (Nat.le_of_ble_eq_true rfl) dX12_endE_2 ⟨by omega, by omega⟩ (fun H locs X => ?_)
  refine lv_aload_n hx hb dX12_endE_5 rfl (lv_at hl 0 rfl) ?_
  refine wmgI_16 (v := (gI τ2 16)) S X mG_2085 rfl dX12_endE_6 ?_
  refine lv_iconst (v := 1) hx hb dX12_endE_9 (by decide) ?_
  refine lv_isub hx hb dX12_endE_10 ?_
  refine lv_istore_n (lv' := [(1, .int ((gI τ2 16) - 1)), (0, .ref (ad 0))]) hx hb dX12_endE_11 rfl hl (by decide) rfl (fun ls hl => ?_)
  refine lv_aload_n hx hb dX12_endE_12 rfl (lv_at hl 1 rfl) ?_
  refine wmgR_0_37 S X mG_2087 dX12_endE_13 ?_
  refine lv_iload_n hx hb dX12_endE_16 rfl (lv_at hl 0 rfl) ?_
  obtain ⟨hi17, hg⟩ := gd_some hg
  refine wmlA_15 (v := (xA τ2 15 ((gI τ2 16) - 1))) S X hi17 rfl dX12_endE_17 ?_
  refine lv_istore_n (lv' := [(2, .int (xA τ2 15 ((gI τ2 16) - 1))), (1, .int ((gI τ2 16) - 1)), (0, .ref (ad 0))]) hx hb dX12_endE_18 rfl hl (by decide) rfl (fun ls hl => ?_)
  refine lv_aload_n hx hb dX12_endE_19 rfl (lv_at hl 2 rfl) ?_
  refine wmgR_0_36 S X mG_2086 dX12_endE_20 ?_
  refine lv_iload_n hx hb dX12_endE_23 rfl (lv_at hl 1 rfl) ?_
  obtain ⟨hi24, hg⟩ := gd_some hg
  refine wmlA_14 (v := (xA τ2 14 ((gI τ2 16) - 1))) S X hi24 rfl dX12_endE_24 ?_
  rcases sw_1_6 ((xA τ2 14 ((gI τ2 16) - 1))) with hsw | hsw | hsw | hsw | hsw | hsw | hsw
  · refine lv_tableOut (tgt := 205) hx hb dX12_endE_25 hsw (by decide) ?_
    obtain ⟨hs0, hs1, hs2, hs3, hs4, hs5⟩ := swo_1_6 hsw
    have hg := (if_neg hs0).symm.trans hg
    have hg := (if_neg hs1).symm.trans hg
    have hg := (if_neg hs2).symm.trans hg
    have hg := (if_neg hs3).symm.trans hg
    have hg := (if_neg hs4).symm.trans hg
    have hg := (if_neg hs5).symm.trans hg
    refine lv_aload_n hx hb dX12_endE_205 rfl (lv_at hl 2 rfl) ?_
    refine wmgR_0_14 S X mG_2064 dX12_endE_206 ?_
    refine lv_iload_n hx hb dX12_endE_209 rfl (lv_at hl 0 rfl) ?_
    refine lv_aload_n hx hb dX12_endE_210 rfl (lv_at hl 2 rfl) ?_
    obtain ⟨r211, τ211, hq211, hg⟩ := bd_some hg
    refine gc_Vi (As := []) (rest := [.int (xA τ2 15 ((gI τ2 16) - 1)), .ref (ad 4)]) (q0 := 0) (ci := 15) S X (k2_X12_taken l dC dI ad kc hq211 H.size) cw_X12_taken mG_2622 rfl rfl rfl rfl rfl hl.1 (Nat.le_of_ble_eq_true rfl) dX12_endE_211 ⟨by omega, by omega⟩ (fun H locs X => ?_)
    obtain ⟨hi214, hg⟩ := gd_some hg
    refine wmsA_3 S X hi214 dX12_endE_214 (fun H locs X => ?_)
    refine lv_aload_n hx hb dX12_endE_215 rfl (lv_at hl 2 rfl) ?_
    refine lv_aload_n hx hb dX12_endE_216 rfl (lv_at hl 2 rfl) ?_
    refine lv_bipush (v := 59) hx hb dX12_endE_217 (by decide) ?_
    obtain ⟨r219, τ219, hq219, hg⟩ := bd_some hg
    refine gc_Vi (As := [.int 59]) (rest := [.ref (ad 0)]) (q0 := 0) (ci := 15) S X (k2_X12_isSign l dC dI ad kc hq219 H.size) cw_X12_isSign mG_2534 rfl rfl rfl rfl rfl hl.1 (Nat.le_of_ble_eq_true rfl) dX12_endE_219 ⟨by omega, by omega⟩ (fun H locs X => ?_)
    obtain ⟨r222, τ222, hq222, hg⟩ := bd_some hg
    refine gc_Vv (As := [.int r219]) (rest := []) (q0 := 0) (ci := 15) S X (k2_X12_accept l dC dI ad kc hq222 H.size) cw_X12_accept mG_2526 rfl rfl rfl rfl rfl hl.1 (Nat.le_of_ble_eq_true rfl) dX12_endE_222 ⟨by omega, by omega⟩ (fun H locs X => ?_)
    refine lv_aload_n hx hb dX12_endE_225 rfl (lv_at hl 2 rfl) ?_
    refine lv_dup hx hb dX12_endE_226 rfl ?_
    refine wmgI_16 (v := (gI τ222 16)) S X mG_2085 rfl dX12_endE_227 ?_
    refine lv_iconst (v := 1) hx hb dX12_endE_230 (by decide) ?_
    refine lv_isub hx hb dX12_endE_231 ?_
    refine wmpI_16 S X mG_2085 dX12_endE_232 (fun H locs X => ?_)
    obtain ⟨-, rfl⟩ := fin_some hg
    exact gr_v S hr hk X dX12_endE_235
  · refine lv_tableIn (off := 39) (tgt := 64) hx hb dX12_endE_25 (by rw [hsw]; decide) (by rw [hsw]; decide) (by rw [hsw]; decide) (by decide) ?_
    have hg := (if_pos hsw).symm.trans hg
    refine lv_aload_n hx hb dX12_endE_64 rfl (lv_at hl 2 rfl) ?_
    refine lv_aload_n hx hb dX12_endE_65 rfl (lv_at hl 2 rfl) ?_
    refine lv_bipush (v := 41) hx hb dX12_endE_66 (by decide) ?_
    obtain ⟨r68, τ68, hq68, hg⟩ := bd_some hg
    refine gc_Vi (As := [.int 41]) (rest := [.ref (ad 0)]) (q0 := 0) (ci := 15) S X (k2_X12_isSign l dC dI ad kc hq68 H.size) cw_X12_isSign mG_2534 rfl rfl rfl rfl rfl hl.1 (Nat.le_of_ble_eq_true rfl) dX12_endE_68 ⟨by omega, by omega⟩ (fun H locs X => ?_)
    obtain ⟨r71, τ71, hq71, hg⟩ := bd_some hg
    refine gc_Vv (As := [.int r68]) (rest := []) (q0 := 0) (ci := 15) S X (k2_X12_accept l dC dI ad kc hq71 H.size) cw_X12_accept mG_2526 rfl rfl rfl rfl rfl hl.1 (Nat.le_of_ble_eq_true rfl) dX12_endE_71 ⟨by omega, by omega⟩ (fun H locs X => ?_)
    refine lv_aload_n hx hb dX12_endE_74 rfl (lv_at hl 2 rfl) ?_
    refine lv_dup hx hb dX12_endE_75 rfl ?_
    refine wmgI_16 (v := (gI τ71 16)) S X mG_2085 rfl dX12_endE_76 ?_
    refine lv_iconst (v := 1) hx hb dX12_endE_79 (by decide) ?_
    refine lv_isub hx hb dX12_endE_80 ?_
    refine wmpI_16 S X mG_2085 dX12_endE_81 (fun H locs X => ?_)
    refine lv_aload_n hx hb dX12_endE_84 rfl (lv_at hl 2 rfl) ?_
    refine lv_dup hx hb dX12_endE_85 rfl ?_
    refine wmgI_15 (v := (gI τ71 15)) S X mG_2084 rfl dX12_endE_86 ?_
    refine lv_iconst (v := 1) hx hb dX12_endE_89 (by decide) ?_
    refine lv_isub hx hb dX12_endE_90 ?_
    refine wmpI_15 S X mG_2084 dX12_endE_91 (fun H locs X => ?_)
    refine lv_aload_n hx hb dX12_endE_94 rfl (lv_at hl 2 rfl) ?_
    refine lv_iconst (v := 0) hx hb dX12_endE_95 (by decide) ?_
    refine wmpI_20 S X mG_2094 (Or.inl rfl) dX12_endE_96 (fun H locs X => ?_)
    refine lv_aload_n hx hb dX12_endE_99 rfl (lv_at hl 2 rfl) ?_
    refine lv_iconst (v := 0) hx hb dX12_endE_100 (by decide) ?_
    refine wmpI_21 S X mG_2095 (Or.inl rfl) dX12_endE_101 (fun H locs X => ?_)
    refine lv_goto (tgt := 235) hx hb dX12_endE_104 (by decide) ?_
    obtain ⟨-, rfl⟩ := fin_some hg
    exact gr_v S hr hk X dX12_endE_235
  · refine lv_tableIn (off := 82) (tgt := 107) hx hb dX12_endE_25 (by rw [hsw]; decide) (by rw [hsw]; decide) (by rw [hsw]; decide) (by decide) ?_
    have hg := (if_neg (by rw [hsw]; decide)).symm.trans hg
    have hg := (if_pos hsw).symm.trans hg
    refine lv_aload_n hx hb dX12_endE_107 rfl (lv_at hl 2 rfl) ?_
    refine lv_iload_n hx hb dX12_endE_108 rfl (lv_at hl 0 rfl) ?_
    obtain ⟨r109, τ109, hq109, hg⟩ := bd_some hg
    refine gc_Vv (As := [.int (xA τ2 15 ((gI τ2 16) - 1))]) (rest := []) (q0 := 0) (ci := 15) S X (k2_X12_endBinding l dC dI ad kc hq109 H.size) cw_X12_endBinding mG_2641 rfl rfl rfl rfl rfl hl.1 (Nat.le_of_ble_eq_true rfl) dX12_endE_109 ⟨by omega, by omega⟩ (fun H locs X => ?_)
    refine lv_goto (tgt := 235) hx hb dX12_endE_112 (by decide) ?_
    obtain ⟨-, rfl⟩ := fin_some hg
    exact gr_v S hr hk X dX12_endE_235
  · refine lv_tableIn (off := 90) (tgt := 115) hx hb dX12_endE_25 (by rw [hsw]; decide) (by rw [hsw]; decide) (by rw [hsw]; decide) (by decide) ?_
    have hg := (if_neg (by rw [hsw]; decide)).symm.trans hg
    have hg := (if_neg (by rw [hsw]; decide)).symm.trans hg
    have hg := (if_pos hsw).symm.trans hg
    refine lv_aload_n hx hb dX12_endE_115 rfl (lv_at hl 2 rfl) ?_
    refine wmgR_0_18 S X mG_2068 dX12_endE_116 ?_
    refine lv_iload_n hx hb dX12_endE_119 rfl (lv_at hl 0 rfl) ?_
    refine lv_aload_n hx hb dX12_endE_120 rfl (lv_at hl 2 rfl) ?_
    obtain ⟨r121, τ121, hq121, hg⟩ := bd_some hg
    refine gc_Vi (As := []) (rest := [.int (xA τ2 15 ((gI τ2 16) - 1)), .ref (ad 8)]) (q0 := 0) (ci := 15) S X (k2_X12_taken l dC dI ad kc hq121 H.size) cw_X12_taken mG_2622 rfl rfl rfl rfl rfl hl.1 (Nat.le_of_ble_eq_true rfl) dX12_endE_121 ⟨by omega, by omega⟩ (fun H locs X => ?_)
    obtain ⟨hi124, hg⟩ := gd_some hg
    refine wmsA_7 S X hi124 dX12_endE_124 (fun H locs X => ?_)
    refine lv_aload_n hx hb dX12_endE_125 rfl (lv_at hl 2 rfl) ?_
    refine lv_iload_n hx hb dX12_endE_126 rfl (lv_at hl 0 rfl) ?_
    obtain ⟨r127, τ127, hq127, hg⟩ := bd_some hg
    refine gc_Vv (As := [.int (xA τ2 15 ((gI τ2 16) - 1))]) (rest := []) (q0 := 0) (ci := 15) S X (k2_X12_close l dC dI ad kc hq127 H.size) cw_X12_close mG_2645 rfl rfl rfl rfl rfl hl.1 (Nat.le_of_ble_eq_true rfl) dX12_endE_127 ⟨by omega, by omega⟩ (fun H locs X => ?_)
    refine lv_goto (tgt := 235) hx hb dX12_endE_130 (by decide) ?_
    obtain ⟨-, rfl⟩ := fin_some hg
    exact gr_v S hr hk X dX12_endE_235
  · refine lv_tableIn (off := 108) (tgt := 133) hx hb dX12_endE_25 (by rw [hsw]; decide) (by rw [hsw]; decide) (by rw [hsw]; decide) (by decide) ?_
    have hg := (if_neg (by rw [hsw]; decide)).symm.trans hg
    have hg := (if_neg (by rw [hsw]; decide)).symm.trans hg
    have hg := (if_neg (by rw [hsw]; decide)).symm.trans hg
    have hg := (if_pos hsw).symm.trans hg
    refine lv_aload_n hx hb dX12_endE_133 rfl (lv_at hl 2 rfl) ?_
    refine wmgR_0_14 S X mG_2064 dX12_endE_134 ?_
    refine lv_iload_n hx hb dX12_endE_137 rfl (lv_at hl 0 rfl) ?_
    refine lv_aload_n hx hb dX12_endE_138 rfl (lv_at hl 2 rfl) ?_
    obtain ⟨r139, τ139, hq139, hg⟩ := bd_some hg
    refine gc_Vi (As := []) (rest := [.int (xA τ2 15 ((gI τ2 16) - 1)), .ref (ad 4)]) (q0 := 0) (ci := 15) S X (k2_X12_taken l dC dI ad kc hq139 H.size) cw_X12_taken mG_2622 rfl rfl rfl rfl rfl hl.1 (Nat.le_of_ble_eq_true rfl) dX12_endE_139 ⟨by omega, by omega⟩ (fun H locs X => ?_)
    obtain ⟨hi142, hg⟩ := gd_some hg
    refine wmsA_3 S X hi142 dX12_endE_142 (fun H locs X => ?_)
    refine lv_aload_n hx hb dX12_endE_143 rfl (lv_at hl 2 rfl) ?_
    refine lv_iload_n hx hb dX12_endE_144 rfl (lv_at hl 0 rfl) ?_
    obtain ⟨r145, τ145, hq145, hg⟩ := bd_some hg
    refine gc_Vv (As := [.int (xA τ2 15 ((gI τ2 16) - 1))]) (rest := []) (q0 := 0) (ci := 15) S X (k2_X12_close l dC dI ad kc hq145 H.size) cw_X12_close mG_2645 rfl rfl rfl rfl rfl hl.1 (Nat.le_of_ble_eq_true rfl) dX12_endE_145 ⟨by omega, by omega⟩ (fun H locs X => ?_)
    refine lv_goto (tgt := 235) hx hb dX12_endE_148 (by decide) ?_
    obtain ⟨-, rfl⟩ := fin_some hg
    exact gr_v S hr hk X dX12_endE_235
  · refine lv_tableIn (off := 126) (tgt := 151) hx hb dX12_endE_25 (by rw [hsw]; decide) (by rw [hsw]; decide) (by rw [hsw]; decide) (by decide) ?_
    have hg := (if_neg (by rw [hsw]; decide)).symm.trans hg
    have hg := (if_neg (by rw [hsw]; decide)).symm.trans hg
    have hg := (if_neg (by rw [hsw]; decide)).symm.trans hg
    have hg := (if_neg (by rw [hsw]; decide)).symm.trans hg
    have hg := (if_pos hsw).symm.trans hg
    refine lv_aload_n hx hb dX12_endE_151 rfl (lv_at hl 2 rfl) ?_
    refine wmgR_0_18 S X mG_2068 dX12_endE_152 ?_
    refine lv_iload_n hx hb dX12_endE_155 rfl (lv_at hl 0 rfl) ?_
    refine lv_aload_n hx hb dX12_endE_156 rfl (lv_at hl 2 rfl) ?_
    obtain ⟨r157, τ157, hq157, hg⟩ := bd_some hg
    refine gc_Vi (As := []) (rest := [.int (xA τ2 15 ((gI τ2 16) - 1)), .ref (ad 8)]) (q0 := 0) (ci := 15) S X (k2_X12_taken l dC dI ad kc hq157 H.size) cw_X12_taken mG_2622 rfl rfl rfl rfl rfl hl.1 (Nat.le_of_ble_eq_true rfl) dX12_endE_157 ⟨by omega, by omega⟩ (fun H locs X => ?_)
    obtain ⟨hi160, hg⟩ := gd_some hg
    refine wmsA_7 S X hi160 dX12_endE_160 (fun H locs X => ?_)
    refine lv_aload_n hx hb dX12_endE_161 rfl (lv_at hl 2 rfl) ?_
    refine lv_aload_n hx hb dX12_endE_162 rfl (lv_at hl 2 rfl) ?_
    refine wmgI_4 (v := (gI τ157 4)) S X mG_2056 rfl dX12_endE_163 ?_
    refine lv_bipush (v := 14) hx hb dX12_endE_166 (by decide) ?_
    refine lv_icmp_ne (tgt := 175) hx hb dX12_endE_168 (by decide) (fun c168 => ?_) (fun c168 => ?_)
    · have hg := (if_neg c168).symm.trans hg
      refine lv_iconst (v := 0) hx hb dX12_endE_175 (by decide) ?_
      exact w_X12_endE_b176 S hr hk hR X (lv_sub hl [2, 0] rfl) hg
    · have hg := (if_pos c168).symm.trans hg
      refine lv_iconst (v := 1) hx hb dX12_endE_171 (by decide) ?_
      refine lv_goto (tgt := 176) hx hb dX12_endE_172 (by decide) ?_
      exact w_X12_endE_b176 S hr hk hR X (lv_sub hl [2, 0] rfl) hg
  · refine lv_tableIn (off := 172) (tgt := 197) hx hb dX12_endE_25 (by rw [hsw]; decide) (by rw [hsw]; decide) (by rw [hsw]; decide) (by decide) ?_
    have hg := (if_neg (by rw [hsw]; decide)).symm.trans hg
    have hg := (if_neg (by rw [hsw]; decide)).symm.trans hg
    have hg := (if_neg (by rw [hsw]; decide)).symm.trans hg
    have hg := (if_neg (by rw [hsw]; decide)).symm.trans hg
    have hg := (if_neg (by rw [hsw]; decide)).symm.trans hg
    have hg := (if_pos hsw).symm.trans hg
    refine lv_aload_n hx hb dX12_endE_197 rfl (lv_at hl 2 rfl) ?_
    refine lv_iload_n hx hb dX12_endE_198 rfl (lv_at hl 0 rfl) ?_
    obtain ⟨r199, τ199, hq199, hg⟩ := bd_some hg
    refine gc_Vv (As := [.int (xA τ2 15 ((gI τ2 16) - 1))]) (rest := []) (q0 := 0) (ci := 15) S X (k2_X12_endBranch l dC dI ad kc hq199 H.size) cw_X12_endBranch mG_2653 rfl rfl rfl rfl rfl hl.1 (Nat.le_of_ble_eq_true rfl) dX12_endE_199 ⟨by omega, by omega⟩ (fun H locs X => ?_)
    refine lv_goto (tgt := 235) hx hb dX12_endE_202 (by decide) ?_
    obtain ⟨-, rfl⟩ := fin_some hg
    exact gr_v S hr hk X dX12_endE_235
end MX12_endE
set_option maxRecDepth 100000 in
theorem k2_X12_endE (l : Launch) (dC : Nat → ClassId) (dI : Nat → Nat → Nat) {Z : ZZ} (ad : Nat → Nat) (kc : Nat → ClassId) {σ τ : S5}  {r : Unit} (hg : f_X12_endE  σ = some (r, τ)) (sz : Nat) : Met l yX12_endE (Cond.code yX12_endE cX12_endE 3 none :: uG) { frames := 8, cells := 0, slots := 0, locals := 183 } (gPc (dC, dI) (tM kc) (wM ad kc) Z [.ref (ad 0)] σ sz) (gQv (dC, dI) (tM kc) (wM ad kc) (va_A (wM ad kc σ) sz) r τ) 0 0 (va_A (wM ad kc σ) sz) :=
  g_start (by decide) (Nat.le_of_ble_eq_true rfl) (fun p e s m below meth c ls S hr hk X hl => w_X12_endE S hr hk ⟨Nat.le_refl _, Nat.le_refl _⟩ X hl hg)
section MX12_wantE
variable {p : Program} {l : Launch} {e : Env} {R : Room} {s : State} {m : MethodId} {args : Array Value} {below : List Frame} {meth : Method} {c : Code} {dC : Nat → ClassId} {dI : Nat → Nat → Nat} {Z : ZZ} {A : Nat → Prop} {ad : Nat → Nat} {kc : Nat → ClassId} {r : Unit} {τ : S5}
set_option maxHeartbeats 4000000 in
set_option maxRecDepth 100000 in
theorem w_X12_wantE_b60 {σ : S5} {u0 : Int32} {H : Heap} {locs : List Loc} {ls : Array Slot} (S : CallFix p m c cX12_wantE 2 s args uG RX12) (hr : meth.sig.returnType = none) (hk : meth.locks = false) (hR : 8 ≤ R.frames ∧ 182 ≤ R.locals)
    (X : gX (dC, dI) (tM kc) (wM ad kc) Z A s σ H locs) (hl : lv_has ls 2 [(0, .ref (ad 0))]) (hg : f_X12_wantE_b60 u0 σ = some (r, τ)) : W p l e R s m args below meth c H locs 0 0 (MQ below (gQv (dC, dI) (tM kc) (wM ad kc) A r τ) args s 0 0 A) (F0 m 60 ls [.int u0, .ref (ad 0)]) := by
  have hx := S.1
  have hb := S.2.1
  have hown := S.2.2.2.1
  have hu := S.2.2.2.2
  unfold f_X12_wantE_b60 at hg
  obtain ⟨hn60, hg⟩ := g_t_some hg
  refine wmpI_19 S X mG_2093 hn60 dX12_wantE_60 (fun H locs X => ?_)
  refine lv_aload_n hx hb dX12_wantE_63 rfl (lv_at hl 0 rfl) ?_
  refine lv_iconst (v := 1) hx hb dX12_wantE_64 (by decide) ?_
  refine wmpI_18 S X mG_2092 (Or.inr rfl) dX12_wantE_65 (fun H locs X => ?_)
  obtain ⟨-, rfl⟩ := fin_some hg
  exact gr_v S hr hk X dX12_wantE_68
set_option maxHeartbeats 4000000 in
set_option maxRecDepth 100000 in
theorem w_X12_wantE_b44 {σ : S5} {u0 : Int32} {H : Heap} {locs : List Loc} {ls : Array Slot} (S : CallFix p m c cX12_wantE 2 s args uG RX12) (hr : meth.sig.returnType = none) (hk : meth.locks = false) (hR : 8 ≤ R.frames ∧ 182 ≤ R.locals)
    (X : gX (dC, dI) (tM kc) (wM ad kc) Z A s σ H locs) (hl : lv_has ls 2 [(0, .ref (ad 0))]) (hg : f_X12_wantE_b44 u0 σ = some (r, τ)) : W p l e R s m args below meth c H locs 0 0 (MQ below (gQv (dC, dI) (tM kc) (wM ad kc) A r τ) args s 0 0 A) (F0 m 44 ls [.int u0]) := by
  have hx := S.1
  have hb := S.2.1
  have hown := S.2.2.2.1
  have hu := S.2.2.2.2
  unfold f_X12_wantE_b44 at hg
  refine lv_istore_n (lv' := [(1, .int u0), (0, .ref (ad 0))]) hx hb dX12_wantE_44 rfl hl (by decide) rfl (fun ls hl => ?_)
  refine lv_aload_n hx hb dX12_wantE_45 rfl (lv_at hl 1 rfl) ?_
  refine lv_iconst (v := 0) hx hb dX12_wantE_46 (by decide) ?_
  refine wmpI_20 S X mG_2094 (Or.inl rfl) dX12_wantE_47 (fun H locs X => ?_)
  refine lv_aload_n hx hb dX12_wantE_50 rfl (lv_at hl 1 rfl) ?_
  refine lv_iload_n hx hb dX12_wantE_51 rfl (lv_at hl 0 rfl) ?_
  refine lv_if_ne (tgt := 59) hx hb dX12_wantE_52 (by decide) (fun c52 => ?_) (fun c52 => ?_)
  · have hg := (if_neg c52).symm.trans hg
    refine lv_iconst (v := 0) hx hb dX12_wantE_59 (by decide) ?_
    exact w_X12_wantE_b60 S hr hk hR X (lv_sub hl [1] rfl) hg
  · have hg := (if_pos c52).symm.trans hg
    refine lv_iconst (v := 1) hx hb dX12_wantE_55 (by decide) ?_
    refine lv_goto (tgt := 60) hx hb dX12_wantE_56 (by decide) ?_
    exact w_X12_wantE_b60 S hr hk hR X (lv_sub hl [1] rfl) hg
set_option maxHeartbeats 4000000 in
set_option maxRecDepth 100000 in
theorem w_X12_wantE_b43 {σ : S5}  {H : Heap} {locs : List Loc} {ls : Array Slot} (S : CallFix p m c cX12_wantE 2 s args uG RX12) (hr : meth.sig.returnType = none) (hk : meth.locks = false) (hR : 8 ≤ R.frames ∧ 182 ≤ R.locals)
    (X : gX (dC, dI) (tM kc) (wM ad kc) Z A s σ H locs) (hl : lv_has ls 2 [(0, .ref (ad 0))]) (hg : f_X12_wantE_b43  σ = some (r, τ)) : W p l e R s m args below meth c H locs 0 0 (MQ below (gQv (dC, dI) (tM kc) (wM ad kc) A r τ) args s 0 0 A) (F0 m 43 ls []) := by
  have hx := S.1
  have hb := S.2.1
  have hown := S.2.2.2.1
  have hu := S.2.2.2.2
  unfold f_X12_wantE_b43 at hg
  refine lv_iconst (v := 0) hx hb dX12_wantE_43 (by decide) ?_
  exact w_X12_wantE_b44 S hr hk hR X (lv_sub hl [0] rfl) hg
set_option maxHeartbeats 4000000 in
set_option maxRecDepth 100000 in
theorem w_X12_wantE_b25 {σ : S5}  {H : Heap} {locs : List Loc} {ls : Array Slot} (S : CallFix p m c cX12_wantE 2 s args uG RX12) (hr : meth.sig.returnType = none) (hk : meth.locks = false) (hR : 8 ≤ R.frames ∧ 182 ≤ R.locals)
    (X : gX (dC, dI) (tM kc) (wM ad kc) Z A s σ H locs) (hl : lv_has ls 2 [(0, .ref (ad 0))]) (hg : f_X12_wantE_b25  σ = some (r, τ)) : W p l e R s m args below meth c H locs 0 0 (MQ below (gQv (dC, dI) (tM kc) (wM ad kc) A r τ) args s 0 0 A) (F0 m 25 ls []) := by
  have hx := S.1
  have hb := S.2.1
  have hown := S.2.2.2.1
  have hu := S.2.2.2.2
  unfold f_X12_wantE_b25 at hg
  refine lv_aload_n hx hb dX12_wantE_25 rfl (lv_at hl 0 rfl) ?_
  refine wmgI_7 (v := (gI σ 7)) S X mG_2060 rfl dX12_wantE_26 ?_
  refine lv_if_ne (tgt := 43) hx hb dX12_wantE_29 (by decide) (fun c29 => ?_) (fun c29 => ?_)
  · have hg := (if_neg c29).symm.trans hg
    exact w_X12_wantE_b43 S hr hk hR X (lv_sub hl [0] rfl) hg
  · have hg := (if_pos c29).symm.trans hg
    refine lv_aload_n hx hb dX12_wantE_32 rfl (lv_at hl 0 rfl) ?_
    obtain ⟨r33, τ33, hq33, hg⟩ := bd_some hg
    refine gc_Vi (As := []) (rest := []) (q0 := 0) (ci := 15) S X (k2_X12_application l dC dI ad kc hq33 H.size) cw_X12_application mG_2590 rfl rfl rfl rfl rfl hl.1 (Nat.le_of_ble_eq_true rfl) dX12_wantE_33 ⟨by omega, by omega⟩ (fun H locs X => ?_)
    refine lv_if_eq (tgt := 43) hx hb dX12_wantE_36 (by decide) (fun c36 => ?_) (fun c36 => ?_)
    · have hg := (if_pos c36).symm.trans hg
      exact w_X12_wantE_b43 S hr hk hR X (lv_sub hl [0] rfl) hg
    · have hg := (if_neg c36).symm.trans hg
      refine lv_iconst (v := 1) hx hb dX12_wantE_39 (by decide) ?_
      refine lv_goto (tgt := 44) hx hb dX12_wantE_40 (by decide) ?_
      exact w_X12_wantE_b44 S hr hk hR X (lv_sub hl [0] rfl) hg
set_option maxHeartbeats 4000000 in
set_option maxRecDepth 100000 in
theorem w_X12_wantE {σ : S5}  {H : Heap} {locs : List Loc} {ls : Array Slot} (S : CallFix p m c cX12_wantE 2 s args uG RX12) (hr : meth.sig.returnType = none) (hk : meth.locks = false) (hR : 8 ≤ R.frames ∧ 182 ≤ R.locals)
    (X : gX (dC, dI) (tM kc) (wM ad kc) Z A s σ H locs) (hl : lv_has ls 2 [(0, .ref (ad 0))]) (hg : f_X12_wantE  σ = some (r, τ)) : W p l e R s m args below meth c H locs 0 0 (MQ below (gQv (dC, dI) (tM kc) (wM ad kc) A r τ) args s 0 0 A) (F0 m 0 ls []) := by
  have hx := S.1
  have hb := S.2.1
  have hown := S.2.2.2.1
  have hu := S.2.2.2.2
  unfold f_X12_wantE at hg
  refine lv_aload_n hx hb dX12_wantE_0 rfl (lv_at hl 0 rfl) ?_
  refine wmgI_18 (v := (gI σ 18)) S X mG_2092 rfl dX12_wantE_1 ?_
  refine lv_if_eq (tgt := 25) hx hb dX12_wantE_4 (by decide) (fun c4 => ?_) (fun c4 => ?_)
  · have hg := (if_pos c4).symm.trans hg
    exact w_X12_wantE_b25 S hr hk hR X (lv_sub hl [0] rfl) hg
  · have hg := (if_neg c4).symm.trans hg
    refine lv_aload_n hx hb dX12_wantE_7 rfl (lv_at hl 0 rfl) ?_
    obtain ⟨r8, τ8, hq8, hg⟩ := bd_some hg
    refine gc_Vi (As := []) (rest := []) (q0 := 0) (ci := 15) S X (k2_X12_begins l dC dI ad kc hq8 H.size) cw_X12_begins mG_2574 rfl rfl rfl rfl rfl hl.1 (Nat.le_of_ble_eq_true rfl) dX12_wantE_8 ⟨by omega, by omega⟩ (fun H locs X => ?_)
    refine lv_if_eq (tgt := 25) hx hb dX12_wantE_11 (by decide) (fun c11 => ?_) (fun c11 => ?_)
    · have hg := (if_pos c11).symm.trans hg
      exact w_X12_wantE_b25 S hr hk hR X (lv_sub hl [0] rfl) hg
    · have hg := (if_neg c11).symm.trans hg
      refine lv_aload_n hx hb dX12_wantE_14 rfl (lv_at hl 0 rfl) ?_
      refine lv_iconst (v := 1) hx hb dX12_wantE_15 (by decide) ?_
      refine wmpI_19 S X mG_2093 (Or.inr rfl) dX12_wantE_16 (fun H locs X => ?_)
      refine lv_aload_n hx hb dX12_wantE_19 rfl (lv_at hl 0 rfl) ?_
      refine lv_iconst (v := 1) hx hb dX12_wantE_20 (by decide) ?_
      refine wmpI_18 S X mG_2092 (Or.inr rfl) dX12_wantE_21 (fun H locs X => ?_)
      obtain ⟨-, rfl⟩ := fin_some hg
      exact gr_v S hr hk X dX12_wantE_24
end MX12_wantE
set_option maxRecDepth 100000 in
theorem k2_X12_wantE (l : Launch) (dC : Nat → ClassId) (dI : Nat → Nat → Nat) {Z : ZZ} (ad : Nat → Nat) (kc : Nat → ClassId) {σ τ : S5}  {r : Unit} (hg : f_X12_wantE  σ = some (r, τ)) (sz : Nat) : Met l yX12_wantE (Cond.code yX12_wantE cX12_wantE 2 none :: uG) { frames := 8, cells := 0, slots := 0, locals := 182 } (gPc (dC, dI) (tM kc) (wM ad kc) Z [.ref (ad 0)] σ sz) (gQv (dC, dI) (tM kc) (wM ad kc) (va_A (wM ad kc σ) sz) r τ) 0 0 (va_A (wM ad kc σ) sz) :=
  g_start (by decide) (Nat.le_of_ble_eq_true rfl) (fun p e s m below meth c ls S hr hk X hl => w_X12_wantE S hr hk ⟨Nat.le_refl _, Nat.le_refl _⟩ X hl hg)
section MX12_readE
variable {p : Program} {l : Launch} {e : Env} {R : Room} {s : State} {m : MethodId} {args : Array Value} {below : List Frame} {meth : Method} {c : Code} {dC : Nat → ClassId} {dI : Nat → Nat → Nat} {Z : ZZ} {A : Nat → Prop} {ad : Nat → Nat} {kc : Nat → ClassId} {r : Unit} {τ : S5}
set_option maxHeartbeats 4000000 in
set_option maxRecDepth 100000 in
theorem w_X12_readE_b88 {σ : S5} {rec22 : S5 → Option (Unit × S5)}  {H : Heap} {locs : List Loc} {ls : Array Slot} (S : CallFix p m c cX12_readE 2 s args uG RX12) (hr : meth.sig.returnType = none) (hk : meth.locks = false) (hR : 9 ≤ R.frames ∧ 205 ≤ R.locals)
    (hrec22 : ∀ (σ : S5) (H : Heap) (locs : List Loc) (ls : Array Slot), gX (dC, dI) (tM kc) (wM ad kc) Z A s σ H locs → lv_has ls 2 [(0, .ref (ad 0))] → rec22 σ = some (r, τ) → W p l e R s m args below meth c H locs 0 0 (MQ below (gQv (dC, dI) (tM kc) (wM ad kc) A r τ) args s 0 0 A) (F0 m 22 ls []))
    (X : gX (dC, dI) (tM kc) (wM ad kc) Z A s σ H locs) (hl : lv_has ls 2 [(0, .ref (ad 0))]) (hg : f_X12_readE_b88 rec22 σ = some (r, τ)) : W p l e R s m args below meth c H locs 0 0 (MQ below (gQv (dC, dI) (tM kc) (wM ad kc) A r τ) args s 0 0 A) (F0 m 88 ls []) := by
  have hx := S.1
  have hb := S.2.1
  have hown := S.2.2.2.1
  have hu := S.2.2.2.2
  unfold f_X12_readE_b88 at hg
  refine lv_aload_n hx hb dX12_readE_88 rfl (lv_at hl 0 rfl) ?_
  refine wmgI_4 (v := (gI σ 4)) S X mG_2056 rfl dX12_readE_89 ?_
  obtain ⟨r92, τ92, hq92, hg⟩ := bd_some hg
  refine gc_Si (As := [.int (gI σ 4)]) (rest := []) S X (k2_X12_rank l dC dI ad kc hq92 H.size) cw_X12_rank mG_2626 rfl rfl hl.1 (Nat.le_of_ble_eq_true rfl) dX12_readE_92 ⟨by omega, by omega⟩ (fun H locs X => ?_)
  refine lv_if_le (tgt := 105) hx hb dX12_readE_95 (by decide) (fun c95 => ?_) (fun c95 => ?_)
  · have hg := (if_pos c95).symm.trans hg
    refine lv_aload_n hx hb dX12_readE_105 rfl (lv_at hl 0 rfl) ?_
    refine lv_iconst (v := 1) hx hb dX12_readE_106 (by decide) ?_
    refine wmpI_20 S X mG_2094 (Or.inr rfl) dX12_readE_107 (fun H locs X => ?_)
    refine lv_aload_n hx hb dX12_readE_110 rfl (lv_at hl 0 rfl) ?_
    obtain ⟨r111, τ111, hq111, hg⟩ := bd_some hg
    refine gc_Vv (As := []) (rest := []) (q0 := 0) (ci := 15) S X (k2_X12_endE l dC dI ad kc hq111 H.size) cw_X12_endE mG_2637 rfl rfl rfl rfl rfl hl.1 (Nat.le_of_ble_eq_true rfl) dX12_readE_111 ⟨by omega, by omega⟩ (fun H locs X => ?_)
    refine lv_goto (tgt := 22) hx hb dX12_readE_114 (by decide) ?_
    exact hrec22  _ _ _ _ X (lv_sub hl [0] rfl) hg
  · have hg := (if_neg c95).symm.trans hg
    refine lv_aload_n hx hb dX12_readE_98 rfl (lv_at hl 0 rfl) ?_
    obtain ⟨r99, τ99, hq99, hg⟩ := bd_some hg
    refine gc_Vv (As := []) (rest := []) (q0 := 0) (ci := 15) S X (k2_X12_signE l dC dI ad kc hq99 H.size) cw_X12_signE mG_2629 rfl rfl rfl rfl rfl hl.1 (Nat.le_of_ble_eq_true rfl) dX12_readE_99 ⟨by omega, by omega⟩ (fun H locs X => ?_)
    refine lv_goto (tgt := 22) hx hb dX12_readE_102 (by decide) ?_
    exact hrec22  _ _ _ _ X (lv_sub hl [0] rfl) hg
set_option maxHeartbeats 4000000 in
set_option maxRecDepth 100000 in
theorem w_X12_readE_B22 {σ : S5} {rec22 : S5 → Option (Unit × S5)}  {H : Heap} {locs : List Loc} {ls : Array Slot} (S : CallFix p m c cX12_readE 2 s args uG RX12) (hr : meth.sig.returnType = none) (hk : meth.locks = false) (hR : 9 ≤ R.frames ∧ 205 ≤ R.locals)
    (hrec22 : ∀ (σ : S5) (H : Heap) (locs : List Loc) (ls : Array Slot), gX (dC, dI) (tM kc) (wM ad kc) Z A s σ H locs → lv_has ls 2 [(0, .ref (ad 0))] → rec22 σ = some (r, τ) → W p l e R s m args below meth c H locs 0 0 (MQ below (gQv (dC, dI) (tM kc) (wM ad kc) A r τ) args s 0 0 A) (F0 m 22 ls []))
    (X : gX (dC, dI) (tM kc) (wM ad kc) Z A s σ H locs) (hl : lv_has ls 2 [(0, .ref (ad 0))]) (hg : f_X12_readE_B22 rec22 σ = some (r, τ)) : W p l e R s m args below meth c H locs 0 0 (MQ below (gQv (dC, dI) (tM kc) (wM ad kc) A r τ) args s 0 0 A) (F0 m 22 ls []) := by
  have hx := S.1
  have hb := S.2.1
  have hown := S.2.2.2.1
  have hu := S.2.2.2.2
  unfold f_X12_readE_B22 at hg
  refine lv_aload_n hx hb dX12_readE_22 rfl (lv_at hl 0 rfl) ?_
  refine wmgI_7 (v := (gI σ 7)) S X mG_2060 rfl dX12_readE_23 ?_
  refine lv_if_ne (tgt := 117) hx hb dX12_readE_26 (by decide) (fun c26 => ?_) (fun c26 => ?_)
  · have hg := (if_neg c26).symm.trans hg
    obtain ⟨-, rfl⟩ := fin_some hg
    exact gr_v S hr hk X dX12_readE_117
  · have hg := (if_pos c26).symm.trans hg
    refine lv_aload_n hx hb dX12_readE_29 rfl (lv_at hl 0 rfl) ?_
    refine wmgI_16 (v := (gI σ 16)) S X mG_2085 rfl dX12_readE_30 ?_
    refine lv_if_le (tgt := 117) hx hb dX12_readE_33 (by decide) (fun c33 => ?_) (fun c33 => ?_)
    · have hg := (if_pos c33).symm.trans hg
      obtain ⟨-, rfl⟩ := fin_some hg
      exact gr_v S hr hk X dX12_readE_117
    · have hg := (if_neg c33).symm.trans hg
      refine lv_aload_n hx hb dX12_readE_36 rfl (lv_at hl 0 rfl) ?_
      refine wmgI_19 (v := (gI σ 19)) S X mG_2093 rfl dX12_readE_37 ?_
      refine lv_if_eq (tgt := 50) hx hb dX12_readE_40 (by decide) (fun c40 => ?_) (fun c40 => ?_)
      · have hg := (if_pos c40).symm.trans hg
        refine lv_aload_n hx hb dX12_readE_50 rfl (lv_at hl 0 rfl) ?_
        refine wmgI_20 (v := (gI σ 20)) S X mG_2094 rfl dX12_readE_51 ?_
        refine lv_if_ne (tgt := 64) hx hb dX12_readE_54 (by decide) (fun c54 => ?_) (fun c54 => ?_)
        · have hg := (if_neg c54).symm.trans hg
          refine lv_aload_n hx hb dX12_readE_64 rfl (lv_at hl 0 rfl) ?_
          refine wmgI_4 (v := (gI σ 4)) S X mG_2056 rfl dX12_readE_65 ?_
          obtain ⟨r68, τ68, hq68, hg⟩ := bd_some hg
          refine gc_Si (As := [.int (gI σ 4)]) (rest := []) S X (k2_X12_rank l dC dI ad kc hq68 H.size) cw_X12_rank mG_2626 rfl rfl hl.1 (Nat.le_of_ble_eq_true rfl) dX12_readE_68 ⟨by omega, by omega⟩ (fun H locs X => ?_)
          refine lv_if_le (tgt := 88) hx hb dX12_readE_71 (by decide) (fun c71 => ?_) (fun c71 => ?_)
          · have hg := (if_pos c71).symm.trans hg
            exact w_X12_readE_b88 S hr hk hR hrec22 X (lv_sub hl [0] rfl) hg
          · have hg := (if_neg c71).symm.trans hg
            refine lv_aload_n hx hb dX12_readE_74 rfl (lv_at hl 0 rfl) ?_
            refine wmgI_21 (v := (gI τ68 21)) S X mG_2095 rfl dX12_readE_75 ?_
            refine lv_if_eq (tgt := 88) hx hb dX12_readE_78 (by decide) (fun c78 => ?_) (fun c78 => ?_)
            · have hg := (if_pos c78).symm.trans hg
              exact w_X12_readE_b88 S hr hk hR hrec22 X (lv_sub hl [0] rfl) hg
            · have hg := (if_neg c78).symm.trans hg
              refine lv_aload_n hx hb dX12_readE_81 rfl (lv_at hl 0 rfl) ?_
              obtain ⟨r82, τ82, hq82, hg⟩ := bd_some hg
              refine gc_Vv (As := []) (rest := []) (q0 := 0) (ci := 15) S X (k2_X12_wrong l dC dI ad kc hq82 H.size) cw_X12_wrong mG_2530 rfl rfl rfl rfl rfl hl.1 (Nat.le_of_ble_eq_true rfl) dX12_readE_82 ⟨by omega, by omega⟩ (fun H locs X => ?_)
              refine lv_goto (tgt := 22) hx hb dX12_readE_85 (by decide) ?_
              exact hrec22  _ _ _ _ X (lv_sub hl [0] rfl) hg
        · have hg := (if_pos c54).symm.trans hg
          refine lv_aload_n hx hb dX12_readE_57 rfl (lv_at hl 0 rfl) ?_
          obtain ⟨r58, τ58, hq58, hg⟩ := bd_some hg
          refine gc_Vv (As := []) (rest := []) (q0 := 0) (ci := 15) S X (k2_X12_atomEnds l dC dI ad kc hq58 H.size) cw_X12_atomEnds mG_2618 rfl rfl rfl rfl rfl hl.1 (Nat.le_of_ble_eq_true rfl) dX12_readE_58 ⟨by omega, by omega⟩ (fun H locs X => ?_)
          refine lv_goto (tgt := 22) hx hb dX12_readE_61 (by decide) ?_
          exact hrec22  _ _ _ _ X (lv_sub hl [0] rfl) hg
      · have hg := (if_neg c40).symm.trans hg
        refine lv_aload_n hx hb dX12_readE_43 rfl (lv_at hl 0 rfl) ?_
        obtain ⟨r44, τ44, hq44, hg⟩ := bd_some hg
        refine gc_Vv (As := []) (rest := []) (q0 := 0) (ci := 15) S X (k2_X12_wantE l dC dI ad kc hq44 H.size) cw_X12_wantE mG_2570 rfl rfl rfl rfl rfl hl.1 (Nat.le_of_ble_eq_true rfl) dX12_readE_44 ⟨by omega, by omega⟩ (fun H locs X => ?_)
        refine lv_goto (tgt := 22) hx hb dX12_readE_47 (by decide) ?_
        exact hrec22  _ _ _ _ X (lv_sub hl [0] rfl) hg
set_option maxHeartbeats 4000000 in
set_option maxRecDepth 100000 in
theorem w_X12_readE_L22 (S : CallFix p m c cX12_readE 2 s args uG RX12) (hr : meth.sig.returnType = none) (hk : meth.locks = false) (hR : 9 ≤ R.frames ∧ 205 ≤ R.locals) : ∀ (n : Nat) (σ : S5) (H : Heap) (locs : List Loc) (ls : Array Slot), gX (dC, dI) (tM kc) (wM ad kc) Z A s σ H locs → lv_has ls 2 [(0, .ref (ad 0))] → f_X12_readE_L22  n σ = some (r, τ) → W p l e R s m args below meth c H locs 0 0 (MQ below (gQv (dC, dI) (tM kc) (wM ad kc) A r τ) args s 0 0 A) (F0 m 22 ls []) := by
  intro n
  induction n with
  | zero => intro σ H locs ls X hl hg; cases hg
  | succ n ih => intro σ H locs ls X hl hg; exact w_X12_readE_B22 S hr hk hR ih X hl hg
set_option maxHeartbeats 4000000 in
set_option maxRecDepth 100000 in
theorem w_X12_readE {σ : S5} {a1 : Int32} {H : Heap} {locs : List Loc} {ls : Array Slot} (S : CallFix p m c cX12_readE 2 s args uG RX12) (hr : meth.sig.returnType = none) (hk : meth.locks = false) (hR : 9 ≤ R.frames ∧ 205 ≤ R.locals)
    (X : gX (dC, dI) (tM kc) (wM ad kc) Z A s σ H locs) (hl : lv_has ls 2 [(0, .ref (ad 0)), (1, .int a1)]) (hg : f_X12_readE a1 σ = some (r, τ)) : W p l e R s m args below meth c H locs 0 0 (MQ below (gQv (dC, dI) (tM kc) (wM ad kc) A r τ) args s 0 0 A) (F0 m 0 ls []) := by
  have hx := S.1
  have hb := S.2.1
  have hown := S.2.2.2.1
  have hu := S.2.2.2.2
  unfold f_X12_readE at hg
  refine lv_aload_n hx hb dX12_readE_0 rfl (lv_at hl 0 rfl) ?_
  refine lv_iconst (v := 0) hx hb dX12_readE_1 (by decide) ?_
  refine lv_iload_n hx hb dX12_readE_2 rfl (lv_at hl 1 rfl) ?_
  refine lv_iconst (v := 0) hx hb dX12_readE_3 (by decide) ?_
  obtain ⟨r4, τ4, hq4, hg⟩ := bd_some hg
  refine gc_Vv (As := [.int 0, .int a1, .int 0]) (rest := []) (q0 := 0) (ci := 15) S X (k2_X12_pile l dC dI ad kc hq4 H.size) cw_X12_pile mG_2566 rfl rfl rfl rfl rfl hl.1 (Nat.le_of_ble_eq_true rfl) dX12_readE_4 ⟨by omega, by omega⟩ (fun H locs X => ?_)
  refine lv_aload_n hx hb dX12_readE_7 rfl (lv_at hl 0 rfl) ?_
  refine lv_iconst (v := 1) hx hb dX12_readE_8 (by decide) ?_
  refine wmpI_19 S X mG_2093 (Or.inr rfl) dX12_readE_9 (fun H locs X => ?_)
  refine lv_aload_n hx hb dX12_readE_12 rfl (lv_at hl 0 rfl) ?_
  refine lv_iconst (v := 1) hx hb dX12_readE_13 (by decide) ?_
  refine wmpI_18 S X mG_2092 (Or.inr rfl) dX12_readE_14 (fun H locs X => ?_)
  refine lv_aload_n hx hb dX12_readE_17 rfl (lv_at hl 0 rfl) ?_
  refine lv_iconst (v := 1) hx hb dX12_readE_18 (by decide) ?_
  refine wmpI_20 S X mG_2094 (Or.inr rfl) dX12_readE_19 (fun H locs X => ?_)
  exact w_X12_readE_L22 S hr hk hR _  _ _ _ _ X (lv_sub hl [0] rfl) hg
end MX12_readE
set_option maxRecDepth 100000 in
theorem k2_X12_readE (l : Launch) (dC : Nat → ClassId) (dI : Nat → Nat → Nat) {Z : ZZ} (ad : Nat → Nat) (kc : Nat → ClassId) {σ τ : S5} {a1 : Int32} {r : Unit} (hg : f_X12_readE a1 σ = some (r, τ)) (sz : Nat) : Met l yX12_readE (Cond.code yX12_readE cX12_readE 2 none :: uG) { frames := 9, cells := 0, slots := 0, locals := 205 } (gPc (dC, dI) (tM kc) (wM ad kc) Z [.ref (ad 0), .int a1] σ sz) (gQv (dC, dI) (tM kc) (wM ad kc) (va_A (wM ad kc σ) sz) r τ) 0 0 (va_A (wM ad kc σ) sz) :=
  g_start (by decide) (Nat.le_of_ble_eq_true rfl) (fun p e s m below meth c ls S hr hk X hl => w_X12_readE S hr hk ⟨Nat.le_refl _, Nat.le_refl _⟩ X hl hg)
section MX12_readData
variable {p : Program} {l : Launch} {e : Env} {R : Room} {s : State} {m : MethodId} {args : Array Value} {below : List Frame} {meth : Method} {c : Code} {dC : Nat → ClassId} {dI : Nat → Nat → Nat} {Z : ZZ} {A : Nat → Prop} {ad : Nat → Nat} {kc : Nat → ClassId} {r : Unit} {τ : S5}
set_option maxHeartbeats 4000000 in
set_option maxRecDepth 100000 in
theorem w_X12_readData_b182 {σ : S5} {rec2 : Int32 → S5 → Option (Unit × S5)} {v1 : Int32} {H : Heap} {locs : List Loc} {ls : Array Slot} (S : CallFix p m c cX12_readData 5 s args uG RX12) (hr : meth.sig.returnType = none) (hk : meth.locks = false) (hR : 5 ≤ R.frames ∧ 114 ≤ R.locals)
    (hrec2 : ∀ (v1 : Int32) (σ : S5) (H : Heap) (locs : List Loc) (ls : Array Slot), gX (dC, dI) (tM kc) (wM ad kc) Z A s σ H locs → lv_has ls 5 [(0, .ref (ad 0)), (1, .int v1)] → rec2 v1 σ = some (r, τ) → W p l e R s m args below meth c H locs 0 0 (MQ below (gQv (dC, dI) (tM kc) (wM ad kc) A r τ) args s 0 0 A) (F0 m 2 ls []))
    (X : gX (dC, dI) (tM kc) (wM ad kc) Z A s σ H locs) (hl : lv_has ls 5 [(0, .ref (ad 0)), (1, .int v1)]) (hg : f_X12_readData_b182 rec2 v1 σ = some (r, τ)) : W p l e R s m args below meth c H locs 0 0 (MQ below (gQv (dC, dI) (tM kc) (wM ad kc) A r τ) args s 0 0 A) (F0 m 182 ls []) := by
  have hx := S.1
  have hb := S.2.1
  have hown := S.2.2.2.1
  have hu := S.2.2.2.2
  unfold f_X12_readData_b182 at hg
  refine lv_goto (tgt := 2) hx hb dX12_readData_182 (by decide) ?_
  exact hrec2 _ _ _ _ _ X (lv_sub hl [0, 1] rfl) hg
set_option maxHeartbeats 4000000 in
set_option maxRecDepth 100000 in
theorem w_X12_readData_b173 {σ : S5} {rec2 : Int32 → S5 → Option (Unit × S5)} {u0 : Int32} {H : Heap} {locs : List Loc} {ls : Array Slot} (S : CallFix p m c cX12_readData 5 s args uG RX12) (hr : meth.sig.returnType = none) (hk : meth.locks = false) (hR : 5 ≤ R.frames ∧ 114 ≤ R.locals)
    (hrec2 : ∀ (v1 : Int32) (σ : S5) (H : Heap) (locs : List Loc) (ls : Array Slot), gX (dC, dI) (tM kc) (wM ad kc) Z A s σ H locs → lv_has ls 5 [(0, .ref (ad 0)), (1, .int v1)] → rec2 v1 σ = some (r, τ) → W p l e R s m args below meth c H locs 0 0 (MQ below (gQv (dC, dI) (tM kc) (wM ad kc) A r τ) args s 0 0 A) (F0 m 2 ls []))
    (X : gX (dC, dI) (tM kc) (wM ad kc) Z A s σ H locs) (hl : lv_has ls 5 [(0, .ref (ad 0))]) (hg : f_X12_readData_b173 rec2 u0 σ = some (r, τ)) : W p l e R s m args below meth c H locs 0 0 (MQ below (gQv (dC, dI) (tM kc) (wM ad kc) A r τ) args s 0 0 A) (F0 m 173 ls [.int u0]) := by
  have hx := S.1
  have hb := S.2.1
  have hown := S.2.2.2.1
  have hu := S.2.2.2.2
  unfold f_X12_readData_b173 at hg
  refine lv_istore_n (lv' := [(1, .int u0), (0, .ref (ad 0))]) hx hb dX12_readData_173 rfl hl (by decide) rfl (fun ls hl => ?_)
  refine lv_iload_n hx hb dX12_readData_174 rfl (lv_at hl 0 rfl) ?_
  refine lv_if_eq (tgt := 182) hx hb dX12_readData_175 (by decide) (fun c175 => ?_) (fun c175 => ?_)
  · have hg := (if_pos c175).symm.trans hg
    exact w_X12_readData_b182 S hr hk hR hrec2 X (lv_sub hl [1, 0] rfl) hg
  · have hg := (if_neg c175).symm.trans hg
    refine lv_aload_n hx hb dX12_readData_178 rfl (lv_at hl 1 rfl) ?_
    obtain ⟨r179, τ179, hq179, hg⟩ := bd_some hg
    refine gc_Vv (As := []) (rest := []) (q0 := 0) (ci := 15) S X (k2_X12_next l dC dI ad kc hq179 H.size) cw_X12_next mG_2479 rfl rfl rfl rfl rfl hl.1 (Nat.le_of_ble_eq_true rfl) dX12_readData_179 ⟨by omega, by omega⟩ (fun H locs X => ?_)
    exact w_X12_readData_b182 S hr hk hR hrec2 X (lv_sub hl [1, 0] rfl) hg
set_option maxHeartbeats 4000000 in
set_option maxRecDepth 100000 in
theorem w_X12_readData_b172 {σ : S5} {rec2 : Int32 → S5 → Option (Unit × S5)}  {H : Heap} {locs : List Loc} {ls : Array Slot} (S : CallFix p m c cX12_readData 5 s args uG RX12) (hr : meth.sig.returnType = none) (hk : meth.locks = false) (hR : 5 ≤ R.frames ∧ 114 ≤ R.locals)
    (hrec2 : ∀ (v1 : Int32) (σ : S5) (H : Heap) (locs : List Loc) (ls : Array Slot), gX (dC, dI) (tM kc) (wM ad kc) Z A s σ H locs → lv_has ls 5 [(0, .ref (ad 0)), (1, .int v1)] → rec2 v1 σ = some (r, τ) → W p l e R s m args below meth c H locs 0 0 (MQ below (gQv (dC, dI) (tM kc) (wM ad kc) A r τ) args s 0 0 A) (F0 m 2 ls []))
    (X : gX (dC, dI) (tM kc) (wM ad kc) Z A s σ H locs) (hl : lv_has ls 5 [(0, .ref (ad 0))]) (hg : f_X12_readData_b172 rec2 σ = some (r, τ)) : W p l e R s m args below meth c H locs 0 0 (MQ below (gQv (dC, dI) (tM kc) (wM ad kc) A r τ) args s 0 0 A) (F0 m 172 ls []) := by
  have hx := S.1
  have hb := S.2.1
  have hown := S.2.2.2.1
  have hu := S.2.2.2.2
  unfold f_X12_readData_b172 at hg
  refine lv_iconst (v := 0) hx hb dX12_readData_172 (by decide) ?_
  exact w_X12_readData_b173 S hr hk hR hrec2 X (lv_sub hl [0] rfl) hg
set_option maxHeartbeats 4000000 in
set_option maxRecDepth 100000 in
theorem w_X12_readData_b152 {σ : S5} {rec2 : Int32 → S5 → Option (Unit × S5)}  {H : Heap} {locs : List Loc} {ls : Array Slot} (S : CallFix p m c cX12_readData 5 s args uG RX12) (hr : meth.sig.returnType = none) (hk : meth.locks = false) (hR : 5 ≤ R.frames ∧ 114 ≤ R.locals)
    (hrec2 : ∀ (v1 : Int32) (σ : S5) (H : Heap) (locs : List Loc) (ls : Array Slot), gX (dC, dI) (tM kc) (wM ad kc) Z A s σ H locs → lv_has ls 5 [(0, .ref (ad 0)), (1, .int v1)] → rec2 v1 σ = some (r, τ) → W p l e R s m args below meth c H locs 0 0 (MQ below (gQv (dC, dI) (tM kc) (wM ad kc) A r τ) args s 0 0 A) (F0 m 2 ls []))
    (X : gX (dC, dI) (tM kc) (wM ad kc) Z A s σ H locs) (hl : lv_has ls 5 [(0, .ref (ad 0))]) (hg : f_X12_readData_b152 rec2 σ = some (r, τ)) : W p l e R s m args below meth c H locs 0 0 (MQ below (gQv (dC, dI) (tM kc) (wM ad kc) A r τ) args s 0 0 A) (F0 m 152 ls []) := by
  have hx := S.1
  have hb := S.2.1
  have hown := S.2.2.2.1
  have hu := S.2.2.2.2
  unfold f_X12_readData_b152 at hg
  refine lv_aload_n hx hb dX12_readData_152 rfl (lv_at hl 0 rfl) ?_
  refine wmgI_7 (v := (gI σ 7)) S X mG_2060 rfl dX12_readData_153 ?_
  refine lv_if_ne (tgt := 172) hx hb dX12_readData_156 (by decide) (fun c156 => ?_) (fun c156 => ?_)
  · have hg := (if_neg c156).symm.trans hg
    exact w_X12_readData_b172 S hr hk hR hrec2 X (lv_sub hl [0] rfl) hg
  · have hg := (if_pos c156).symm.trans hg
    refine lv_aload_n hx hb dX12_readData_159 rfl (lv_at hl 0 rfl) ?_
    refine lv_bipush (v := 124) hx hb dX12_readData_160 (by decide) ?_
    obtain ⟨r162, τ162, hq162, hg⟩ := bd_some hg
    refine gc_Vi (As := [.int 124]) (rest := []) (q0 := 0) (ci := 15) S X (k2_X12_isSign l dC dI ad kc hq162 H.size) cw_X12_isSign mG_2534 rfl rfl rfl rfl rfl hl.1 (Nat.le_of_ble_eq_true rfl) dX12_readData_162 ⟨by omega, by omega⟩ (fun H locs X => ?_)
    refine lv_if_eq (tgt := 172) hx hb dX12_readData_165 (by decide) (fun c165 => ?_) (fun c165 => ?_)
    · have hg := (if_pos c165).symm.trans hg
      exact w_X12_readData_b172 S hr hk hR hrec2 X (lv_sub hl [0] rfl) hg
    · have hg := (if_neg c165).symm.trans hg
      refine lv_iconst (v := 1) hx hb dX12_readData_168 (by decide) ?_
      refine lv_goto (tgt := 173) hx hb dX12_readData_169 (by decide) ?_
      exact w_X12_readData_b173 S hr hk hR hrec2 X (lv_sub hl [0] rfl) hg
set_option maxHeartbeats 4000000 in
set_option maxRecDepth 100000 in
theorem w_X12_readData_b111 {σ : S5} {rec2 : Int32 → S5 → Option (Unit × S5)} {v2 : Int64} {v4 : Int32} {u0 : Int32} {H : Heap} {locs : List Loc} {ls : Array Slot} (S : CallFix p m c cX12_readData 5 s args uG RX12) (hr : meth.sig.returnType = none) (hk : meth.locks = false) (hR : 5 ≤ R.frames ∧ 114 ≤ R.locals)
    (hrec2 : ∀ (v1 : Int32) (σ : S5) (H : Heap) (locs : List Loc) (ls : Array Slot), gX (dC, dI) (tM kc) (wM ad kc) Z A s σ H locs → lv_has ls 5 [(0, .ref (ad 0)), (1, .int v1)] → rec2 v1 σ = some (r, τ) → W p l e R s m args below meth c H locs 0 0 (MQ below (gQv (dC, dI) (tM kc) (wM ad kc) A r τ) args s 0 0 A) (F0 m 2 ls []))
    (X : gX (dC, dI) (tM kc) (wM ad kc) Z A s σ H locs) (hl : lv_has ls 5 [(0, .ref (ad 0)), (2, .long v2), (4, .int v4)]) (hg : f_X12_readData_b111 rec2 v2 v4 u0 σ = some (r, τ)) : W p l e R s m args below meth c H locs 0 0 (MQ below (gQv (dC, dI) (tM kc) (wM ad kc) A r τ) args s 0 0 A) (F0 m 111 ls [.int u0, .ref (ad 0)]) := by
  have hx := S.1
  have hb := S.2.1
  have hown := S.2.2.2.1
  have hu := S.2.2.2.2
  unfold f_X12_readData_b111 at hg
  obtain ⟨r111, τ111, hq111, hg⟩ := bd_some hg
  refine gc_Vv (As := [.int u0]) (rest := []) (q0 := 0) (ci := 15) S X (k2_X12_accept l dC dI ad kc hq111 H.size) cw_X12_accept mG_2526 rfl rfl rfl rfl rfl hl.1 (Nat.le_of_ble_eq_true rfl) dX12_readData_111 ⟨by omega, by omega⟩ (fun H locs X => ?_)
  refine lv_aload_n hx hb dX12_readData_114 rfl (lv_at hl 0 rfl) ?_
  refine wmgI_7 (v := (gI τ111 7)) S X mG_2060 rfl dX12_readData_115 ?_
  refine lv_if_ne (tgt := 152) hx hb dX12_readData_118 (by decide) (fun c118 => ?_) (fun c118 => ?_)
  · have hg := (if_neg c118).symm.trans hg
    exact w_X12_readData_b152 S hr hk hR hrec2 X (lv_sub hl [0] rfl) hg
  · have hg := (if_pos c118).symm.trans hg
    refine lv_aload_n hx hb dX12_readData_121 rfl (lv_at hl 0 rfl) ?_
    refine wmgR_0_32 S X mG_2082 dX12_readData_122 ?_
    refine lv_aload_n hx hb dX12_readData_125 rfl (lv_at hl 0 rfl) ?_
    refine wmgI_14 (v := (gI τ111 14)) S X mG_2081 rfl dX12_readData_126 ?_
    refine lv_lload_n hx hb dX12_readData_129 rfl (lv_at hl 1 rfl) ?_
    obtain ⟨hi130, hg⟩ := gd_some hg
    refine wmsB_3 S X hi130 dX12_readData_130 (fun H locs X => ?_)
    refine lv_aload_n hx hb dX12_readData_131 rfl (lv_at hl 0 rfl) ?_
    refine wmgR_0_33 S X mG_2083 dX12_readData_132 ?_
    refine lv_aload_n hx hb dX12_readData_135 rfl (lv_at hl 0 rfl) ?_
    refine wmgI_14 (v := (gI τ111 14)) S X mG_2081 rfl dX12_readData_136 ?_
    refine lv_iload hx hb dX12_readData_139 (lv_at hl 2 rfl) ?_
    obtain ⟨hi141, hg⟩ := gd_some hg
    refine wmsA_13 S X hi141 dX12_readData_141 (fun H locs X => ?_)
    refine lv_aload_n hx hb dX12_readData_142 rfl (lv_at hl 0 rfl) ?_
    refine lv_dup hx hb dX12_readData_143 rfl ?_
    refine wmgI_14 (v := (gI τ111 14)) S X mG_2081 rfl dX12_readData_144 ?_
    refine lv_iconst (v := 1) hx hb dX12_readData_147 (by decide) ?_
    refine lv_iadd hx hb dX12_readData_148 ?_
    refine wmpI_14 S X mG_2081 dX12_readData_149 (fun H locs X => ?_)
    exact w_X12_readData_b152 S hr hk hR hrec2 X (lv_sub hl [0] rfl) hg
set_option maxHeartbeats 4000000 in
set_option maxRecDepth 100000 in
theorem w_X12_readData_b110 {σ : S5} {rec2 : Int32 → S5 → Option (Unit × S5)} {v2 : Int64} {v4 : Int32} {H : Heap} {locs : List Loc} {ls : Array Slot} (S : CallFix p m c cX12_readData 5 s args uG RX12) (hr : meth.sig.returnType = none) (hk : meth.locks = false) (hR : 5 ≤ R.frames ∧ 114 ≤ R.locals)
    (hrec2 : ∀ (v1 : Int32) (σ : S5) (H : Heap) (locs : List Loc) (ls : Array Slot), gX (dC, dI) (tM kc) (wM ad kc) Z A s σ H locs → lv_has ls 5 [(0, .ref (ad 0)), (1, .int v1)] → rec2 v1 σ = some (r, τ) → W p l e R s m args below meth c H locs 0 0 (MQ below (gQv (dC, dI) (tM kc) (wM ad kc) A r τ) args s 0 0 A) (F0 m 2 ls []))
    (X : gX (dC, dI) (tM kc) (wM ad kc) Z A s σ H locs) (hl : lv_has ls 5 [(0, .ref (ad 0)), (2, .long v2), (4, .int v4)]) (hg : f_X12_readData_b110 rec2 v2 v4 σ = some (r, τ)) : W p l e R s m args below meth c H locs 0 0 (MQ below (gQv (dC, dI) (tM kc) (wM ad kc) A r τ) args s 0 0 A) (F0 m 110 ls [.ref (ad 0)]) := by
  have hx := S.1
  have hb := S.2.1
  have hown := S.2.2.2.1
  have hu := S.2.2.2.2
  unfold f_X12_readData_b110 at hg
  refine lv_iconst (v := 0) hx hb dX12_readData_110 (by decide) ?_
  exact w_X12_readData_b111 S hr hk hR hrec2 X (lv_sub hl [0, 1, 2] rfl) hg
set_option maxHeartbeats 4000000 in
set_option maxRecDepth 100000 in
theorem w_X12_readData_b82 {σ : S5} {rec2 : Int32 → S5 → Option (Unit × S5)} {v2 : Int64} {u0 : Int32} {H : Heap} {locs : List Loc} {ls : Array Slot} (S : CallFix p m c cX12_readData 5 s args uG RX12) (hr : meth.sig.returnType = none) (hk : meth.locks = false) (hR : 5 ≤ R.frames ∧ 114 ≤ R.locals)
    (hrec2 : ∀ (v1 : Int32) (σ : S5) (H : Heap) (locs : List Loc) (ls : Array Slot), gX (dC, dI) (tM kc) (wM ad kc) Z A s σ H locs → lv_has ls 5 [(0, .ref (ad 0)), (1, .int v1)] → rec2 v1 σ = some (r, τ) → W p l e R s m args below meth c H locs 0 0 (MQ below (gQv (dC, dI) (tM kc) (wM ad kc) A r τ) args s 0 0 A) (F0 m 2 ls []))
    (X : gX (dC, dI) (tM kc) (wM ad kc) Z A s σ H locs) (hl : lv_has ls 5 [(0, .ref (ad 0)), (2, .long v2)]) (hg : f_X12_readData_b82 rec2 v2 u0 σ = some (r, τ)) : W p l e R s m args below meth c H locs 0 0 (MQ below (gQv (dC, dI) (tM kc) (wM ad kc) A r τ) args s 0 0 A) (F0 m 82 ls [.int u0, .ref (ad 0)]) := by
  have hx := S.1
  have hb := S.2.1
  have hown := S.2.2.2.1
  have hu := S.2.2.2.2
  unfold f_X12_readData_b82 at hg
  obtain ⟨r82, τ82, hq82, hg⟩ := bd_some hg
  refine gc_Vv (As := [.int u0]) (rest := []) (q0 := 0) (ci := 15) S X (k2_X12_accept l dC dI ad kc hq82 H.size) cw_X12_accept mG_2526 rfl rfl rfl rfl rfl hl.1 (Nat.le_of_ble_eq_true rfl) dX12_readData_82 ⟨by omega, by omega⟩ (fun H locs X => ?_)
  refine lv_aload_n hx hb dX12_readData_85 rfl (lv_at hl 0 rfl) ?_
  refine wmgI_6 (v := (gI τ82 6)) S X mG_2059 rfl dX12_readData_86 ?_
  refine lv_istore (lv' := [(4, .int (gI τ82 6)), (0, .ref (ad 0)), (2, .long v2)]) hx hb dX12_readData_89 hl (by decide) rfl (fun ls hl => ?_)
  refine lv_aload_n hx hb dX12_readData_91 rfl (lv_at hl 1 rfl) ?_
  refine lv_aload_n hx hb dX12_readData_92 rfl (lv_at hl 1 rfl) ?_
  refine wmgI_4 (v := (gI τ82 4)) S X mG_2056 rfl dX12_readData_93 ?_
  refine lv_iconst (v := 2) hx hb dX12_readData_96 (by decide) ?_
  refine lv_icmp_ne (tgt := 110) hx hb dX12_readData_97 (by decide) (fun c97 => ?_) (fun c97 => ?_)
  · have hg := (if_neg c97).symm.trans hg
    exact w_X12_readData_b110 S hr hk hR hrec2 X (lv_sub hl [1, 2, 0] rfl) hg
  · have hg := (if_pos c97).symm.trans hg
    refine lv_iload hx hb dX12_readData_100 (lv_at hl 0 rfl) ?_
    refine lv_iconst (v := 4) hx hb dX12_readData_102 (by decide) ?_
    refine lv_icmp_gt (tgt := 110) hx hb dX12_readData_103 (by decide) (fun c103 => ?_) (fun c103 => ?_)
    · have hg := (if_pos c103).symm.trans hg
      exact w_X12_readData_b110 S hr hk hR hrec2 X (lv_sub hl [1, 2, 0] rfl) hg
    · have hg := (if_neg c103).symm.trans hg
      refine lv_iconst (v := 1) hx hb dX12_readData_106 (by decide) ?_
      refine lv_goto (tgt := 111) hx hb dX12_readData_107 (by decide) ?_
      exact w_X12_readData_b111 S hr hk hR hrec2 X (lv_sub hl [1, 2, 0] rfl) hg
set_option maxHeartbeats 4000000 in
set_option maxRecDepth 100000 in
theorem w_X12_readData_b63 {σ : S5} {rec2 : Int32 → S5 → Option (Unit × S5)}  {H : Heap} {locs : List Loc} {ls : Array Slot} (S : CallFix p m c cX12_readData 5 s args uG RX12) (hr : meth.sig.returnType = none) (hk : meth.locks = false) (hR : 5 ≤ R.frames ∧ 114 ≤ R.locals)
    (hrec2 : ∀ (v1 : Int32) (σ : S5) (H : Heap) (locs : List Loc) (ls : Array Slot), gX (dC, dI) (tM kc) (wM ad kc) Z A s σ H locs → lv_has ls 5 [(0, .ref (ad 0)), (1, .int v1)] → rec2 v1 σ = some (r, τ) → W p l e R s m args below meth c H locs 0 0 (MQ below (gQv (dC, dI) (tM kc) (wM ad kc) A r τ) args s 0 0 A) (F0 m 2 ls []))
    (X : gX (dC, dI) (tM kc) (wM ad kc) Z A s σ H locs) (hl : lv_has ls 5 [(0, .ref (ad 0))]) (hg : f_X12_readData_b63 rec2 σ = some (r, τ)) : W p l e R s m args below meth c H locs 0 0 (MQ below (gQv (dC, dI) (tM kc) (wM ad kc) A r τ) args s 0 0 A) (F0 m 63 ls []) := by
  have hx := S.1
  have hb := S.2.1
  have hown := S.2.2.2.1
  have hu := S.2.2.2.2
  unfold f_X12_readData_b63 at hg
  refine lv_aload_n hx hb dX12_readData_63 rfl (lv_at hl 0 rfl) ?_
  refine wmgJ_0 (v := (gJ σ 0)) S X mG_2058 rfl dX12_readData_64 ?_
  refine lv_lstore_n (lv' := [(2, .long (gJ σ 0)), (0, .ref (ad 0))]) hx hb dX12_readData_67 rfl hl (by decide) rfl (fun ls hl => ?_)
  refine lv_aload_n hx hb dX12_readData_68 rfl (lv_at hl 1 rfl) ?_
  refine lv_aload_n hx hb dX12_readData_69 rfl (lv_at hl 1 rfl) ?_
  refine wmgI_4 (v := (gI σ 4)) S X mG_2056 rfl dX12_readData_70 ?_
  refine lv_iconst (v := 4) hx hb dX12_readData_73 (by decide) ?_
  refine lv_icmp_ne (tgt := 81) hx hb dX12_readData_74 (by decide) (fun c74 => ?_) (fun c74 => ?_)
  · have hg := (if_neg c74).symm.trans hg
    refine lv_iconst (v := 0) hx hb dX12_readData_81 (by decide) ?_
    exact w_X12_readData_b82 S hr hk hR hrec2 X (lv_sub hl [1, 0] rfl) hg
  · have hg := (if_pos c74).symm.trans hg
    refine lv_iconst (v := 1) hx hb dX12_readData_77 (by decide) ?_
    refine lv_goto (tgt := 82) hx hb dX12_readData_78 (by decide) ?_
    exact w_X12_readData_b82 S hr hk hR hrec2 X (lv_sub hl [1, 0] rfl) hg
set_option maxHeartbeats 4000000 in
set_option maxRecDepth 100000 in
theorem w_X12_readData_b37 {σ : S5} {rec2 : Int32 → S5 → Option (Unit × S5)}  {H : Heap} {locs : List Loc} {ls : Array Slot} (S : CallFix p m c cX12_readData 5 s args uG RX12) (hr : meth.sig.returnType = none) (hk : meth.locks = false) (hR : 5 ≤ R.frames ∧ 114 ≤ R.locals)
    (hrec2 : ∀ (v1 : Int32) (σ : S5) (H : Heap) (locs : List Loc) (ls : Array Slot), gX (dC, dI) (tM kc) (wM ad kc) Z A s σ H locs → lv_has ls 5 [(0, .ref (ad 0)), (1, .int v1)] → rec2 v1 σ = some (r, τ) → W p l e R s m args below meth c H locs 0 0 (MQ below (gQv (dC, dI) (tM kc) (wM ad kc) A r τ) args s 0 0 A) (F0 m 2 ls []))
    (X : gX (dC, dI) (tM kc) (wM ad kc) Z A s σ H locs) (hl : lv_has ls 5 [(0, .ref (ad 0))]) (hg : f_X12_readData_b37 rec2 σ = some (r, τ)) : W p l e R s m args below meth c H locs 0 0 (MQ below (gQv (dC, dI) (tM kc) (wM ad kc) A r τ) args s 0 0 A) (F0 m 37 ls []) := by
  have hx := S.1
  have hb := S.2.1
  have hown := S.2.2.2.1
  have hu := S.2.2.2.2
  unfold f_X12_readData_b37 at hg
  refine lv_aload_n hx hb dX12_readData_37 rfl (lv_at hl 0 rfl) ?_
  refine wmgI_4 (v := (gI σ 4)) S X mG_2056 rfl dX12_readData_38 ?_
  refine lv_iconst (v := 4) hx hb dX12_readData_41 (by decide) ?_
  refine lv_icmp_ne (tgt := 63) hx hb dX12_readData_42 (by decide) (fun c42 => ?_) (fun c42 => ?_)
  · have hg := (if_neg c42).symm.trans hg
    exact w_X12_readData_b63 S hr hk hR hrec2 X (lv_sub hl [0] rfl) hg
  · have hg := (if_pos c42).symm.trans hg
    refine lv_aload_n hx hb dX12_readData_45 rfl (lv_at hl 0 rfl) ?_
    refine wmgI_14 (v := (gI σ 14)) S X mG_2081 rfl dX12_readData_46 ?_
    refine lv_bipush (v := 30) hx hb dX12_readData_49 (by decide) ?_
    refine lv_icmp_ne (tgt := 63) hx hb dX12_readData_51 (by decide) (fun c51 => ?_) (fun c51 => ?_)
    · have hg := (if_neg c51).symm.trans hg
      exact w_X12_readData_b63 S hr hk hR hrec2 X (lv_sub hl [0] rfl) hg
    · have hg := (if_pos c51).symm.trans hg
      refine lv_aload_n hx hb dX12_readData_54 rfl (lv_at hl 0 rfl) ?_
      refine lv_iconst (v := 4) hx hb dX12_readData_55 (by decide) ?_
      refine lv_aload_n hx hb dX12_readData_56 rfl (lv_at hl 0 rfl) ?_
      refine wmgI_5 (v := (gI σ 5)) S X mG_2057 rfl dX12_readData_57 ?_
      obtain ⟨r60, τ60, hq60, hg⟩ := bd_some hg
      refine gc_Vv (As := [.int 4, .int (gI σ 5)]) (rest := []) (q0 := 0) (ci := 15) S X (k2_X12_fail l dC dI ad kc hq60 H.size) cw_X12_fail mG_2522 rfl rfl rfl rfl rfl hl.1 (Nat.le_of_ble_eq_true rfl) dX12_readData_60 ⟨by omega, by omega⟩ (fun H locs X => ?_)
      exact w_X12_readData_b63 S hr hk hR hrec2 X (lv_sub hl [0] rfl) hg
set_option maxHeartbeats 4000000 in
set_option maxRecDepth 100000 in
theorem w_X12_readData_B2 {σ : S5} {rec2 : Int32 → S5 → Option (Unit × S5)} {v1 : Int32} {H : Heap} {locs : List Loc} {ls : Array Slot} (S : CallFix p m c cX12_readData 5 s args uG RX12) (hr : meth.sig.returnType = none) (hk : meth.locks = false) (hR : 5 ≤ R.frames ∧ 114 ≤ R.locals)
    (hrec2 : ∀ (v1 : Int32) (σ : S5) (H : Heap) (locs : List Loc) (ls : Array Slot), gX (dC, dI) (tM kc) (wM ad kc) Z A s σ H locs → lv_has ls 5 [(0, .ref (ad 0)), (1, .int v1)] → rec2 v1 σ = some (r, τ) → W p l e R s m args below meth c H locs 0 0 (MQ below (gQv (dC, dI) (tM kc) (wM ad kc) A r τ) args s 0 0 A) (F0 m 2 ls []))
    (X : gX (dC, dI) (tM kc) (wM ad kc) Z A s σ H locs) (hl : lv_has ls 5 [(0, .ref (ad 0)), (1, .int v1)]) (hg : f_X12_readData_B2 rec2 v1 σ = some (r, τ)) : W p l e R s m args below meth c H locs 0 0 (MQ below (gQv (dC, dI) (tM kc) (wM ad kc) A r τ) args s 0 0 A) (F0 m 2 ls []) := by
  have hx := S.1
  have hb := S.2.1
  have hown := S.2.2.2.1
  have hu := S.2.2.2.2
  unfold f_X12_readData_B2 at hg
  refine lv_iload_n hx hb dX12_readData_2 rfl (lv_at hl 1 rfl) ?_
  refine lv_if_eq (tgt := 185) hx hb dX12_readData_3 (by decide) (fun c3 => ?_) (fun c3 => ?_)
  · have hg := (if_pos c3).symm.trans hg
    refine lv_aload_n hx hb dX12_readData_185 rfl (lv_at hl 0 rfl) ?_
    refine lv_aload_n hx hb dX12_readData_186 rfl (lv_at hl 0 rfl) ?_
    refine lv_bipush (v := 59) hx hb dX12_readData_187 (by decide) ?_
    obtain ⟨r189, τ189, hq189, hg⟩ := bd_some hg
    refine gc_Vi (As := [.int 59]) (rest := [.ref (ad 0)]) (q0 := 0) (ci := 15) S X (k2_X12_isSign l dC dI ad kc hq189 H.size) cw_X12_isSign mG_2534 rfl rfl rfl rfl rfl hl.1 (Nat.le_of_ble_eq_true rfl) dX12_readData_189 ⟨by omega, by omega⟩ (fun H locs X => ?_)
    obtain ⟨r192, τ192, hq192, hg⟩ := bd_some hg
    refine gc_Vv (As := [.int r189]) (rest := []) (q0 := 0) (ci := 15) S X (k2_X12_accept l dC dI ad kc hq192 H.size) cw_X12_accept mG_2526 rfl rfl rfl rfl rfl hl.1 (Nat.le_of_ble_eq_true rfl) dX12_readData_192 ⟨by omega, by omega⟩ (fun H locs X => ?_)
    obtain ⟨-, rfl⟩ := fin_some hg
    exact gr_v S hr hk X dX12_readData_195
  · have hg := (if_neg c3).symm.trans hg
    refine lv_aload_n hx hb dX12_readData_6 rfl (lv_at hl 0 rfl) ?_
    refine wmgI_4 (v := (gI σ 4)) S X mG_2056 rfl dX12_readData_7 ?_
    refine lv_iconst (v := 4) hx hb dX12_readData_10 (by decide) ?_
    refine lv_icmp_ne (tgt := 37) hx hb dX12_readData_11 (by decide) (fun c11 => ?_) (fun c11 => ?_)
    · have hg := (if_neg c11).symm.trans hg
      exact w_X12_readData_b37 S hr hk hR hrec2 X (lv_sub hl [0] rfl) hg
    · have hg := (if_pos c11).symm.trans hg
      refine lv_aload_n hx hb dX12_readData_14 rfl (lv_at hl 0 rfl) ?_
      refine lv_aload_n hx hb dX12_readData_15 rfl (lv_at hl 0 rfl) ?_
      refine wmgJ_0 (v := (gJ σ 0)) S X mG_2058 rfl dX12_readData_16 ?_
      obtain ⟨r19, τ19, hq19, hg⟩ := bd_some hg
      refine gc_Vi (As := [.long (gJ σ 0)]) (rest := []) (q0 := 0) (ci := 15) S X (k2_X12_findConstructor l dC dI ad kc hq19 H.size) cw_X12_findConstructor mG_2518 rfl rfl rfl rfl rfl hl.1 (Nat.le_of_ble_eq_true rfl) dX12_readData_19 ⟨by omega, by omega⟩ (fun H locs X => ?_)
      refine lv_if_lt (tgt := 37) hx hb dX12_readData_22 (by decide) (fun c22 => ?_) (fun c22 => ?_)
      · have hg := (if_pos c22).symm.trans hg
        exact w_X12_readData_b37 S hr hk hR hrec2 X (lv_sub hl [0] rfl) hg
      · have hg := (if_neg c22).symm.trans hg
        refine lv_aload_n hx hb dX12_readData_25 rfl (lv_at hl 0 rfl) ?_
        refine lv_iconst (v := 2) hx hb dX12_readData_26 (by decide) ?_
        refine lv_aload_n hx hb dX12_readData_27 rfl (lv_at hl 0 rfl) ?_
        refine wmgI_5 (v := (gI τ19 5)) S X mG_2057 rfl dX12_readData_28 ?_
        obtain ⟨r31, τ31, hq31, hg⟩ := bd_some hg
        refine gc_Vv (As := [.int 2, .int (gI τ19 5)]) (rest := []) (q0 := 0) (ci := 15) S X (k2_X12_fail l dC dI ad kc hq31 H.size) cw_X12_fail mG_2522 rfl rfl rfl rfl rfl hl.1 (Nat.le_of_ble_eq_true rfl) dX12_readData_31 ⟨by omega, by omega⟩ (fun H locs X => ?_)
        refine lv_goto (tgt := 63) hx hb dX12_readData_34 (by decide) ?_
        exact w_X12_readData_b63 S hr hk hR hrec2 X (lv_sub hl [0] rfl) hg
set_option maxHeartbeats 4000000 in
set_option maxRecDepth 100000 in
theorem w_X12_readData_L2 (S : CallFix p m c cX12_readData 5 s args uG RX12) (hr : meth.sig.returnType = none) (hk : meth.locks = false) (hR : 5 ≤ R.frames ∧ 114 ≤ R.locals) : ∀ (n : Nat) (v1 : Int32) (σ : S5) (H : Heap) (locs : List Loc) (ls : Array Slot), gX (dC, dI) (tM kc) (wM ad kc) Z A s σ H locs → lv_has ls 5 [(0, .ref (ad 0)), (1, .int v1)] → f_X12_readData_L2  n v1 σ = some (r, τ) → W p l e R s m args below meth c H locs 0 0 (MQ below (gQv (dC, dI) (tM kc) (wM ad kc) A r τ) args s 0 0 A) (F0 m 2 ls []) := by
  intro n
  induction n with
  | zero => intro v1 σ H locs ls X hl hg; cases hg
  | succ n ih => intro v1 σ H locs ls X hl hg; exact w_X12_readData_B2 S hr hk hR ih X hl hg
set_option maxHeartbeats 4000000 in
set_option maxRecDepth 100000 in
theorem w_X12_readData {σ : S5}  {H : Heap} {locs : List Loc} {ls : Array Slot} (S : CallFix p m c cX12_readData 5 s args uG RX12) (hr : meth.sig.returnType = none) (hk : meth.locks = false) (hR : 5 ≤ R.frames ∧ 114 ≤ R.locals)
    (X : gX (dC, dI) (tM kc) (wM ad kc) Z A s σ H locs) (hl : lv_has ls 5 [(0, .ref (ad 0))]) (hg : f_X12_readData  σ = some (r, τ)) : W p l e R s m args below meth c H locs 0 0 (MQ below (gQv (dC, dI) (tM kc) (wM ad kc) A r τ) args s 0 0 A) (F0 m 0 ls []) := by
  have hx := S.1
  have hb := S.2.1
  have hown := S.2.2.2.1
  have hu := S.2.2.2.2
  unfold f_X12_readData at hg
  refine lv_iconst (v := 1) hx hb dX12_readData_0 (by decide) ?_
  refine lv_istore_n (lv' := [(1, .int 1), (0, .ref (ad 0))]) hx hb dX12_readData_1 rfl hl (by decide) rfl (fun ls hl => ?_)
  exact w_X12_readData_L2 S hr hk hR _ _ _ _ _ _ X (lv_sub hl [1, 0] rfl) hg
end MX12_readData
set_option maxRecDepth 100000 in
theorem k2_X12_readData (l : Launch) (dC : Nat → ClassId) (dI : Nat → Nat → Nat) {Z : ZZ} (ad : Nat → Nat) (kc : Nat → ClassId) {σ τ : S5}  {r : Unit} (hg : f_X12_readData  σ = some (r, τ)) (sz : Nat) : Met l yX12_readData (Cond.code yX12_readData cX12_readData 5 none :: uG) { frames := 5, cells := 0, slots := 0, locals := 114 } (gPc (dC, dI) (tM kc) (wM ad kc) Z [.ref (ad 0)] σ sz) (gQv (dC, dI) (tM kc) (wM ad kc) (va_A (wM ad kc σ) sz) r τ) 0 0 (va_A (wM ad kc σ) sz) :=
  g_start (by decide) (Nat.le_of_ble_eq_true rfl) (fun p e s m below meth c ls S hr hk X hl => w_X12_readData S hr hk ⟨Nat.le_refl _, Nat.le_refl _⟩ X hl hg)
section MX12_readFunction
variable {p : Program} {l : Launch} {e : Env} {R : Room} {s : State} {m : MethodId} {args : Array Value} {below : List Frame} {meth : Method} {c : Code} {dC : Nat → ClassId} {dI : Nat → Nat → Nat} {Z : ZZ} {A : Nat → Prop} {ad : Nat → Nat} {kc : Nat → ClassId} {r : Unit} {τ : S5}
set_option maxHeartbeats 4000000 in
set_option maxRecDepth 100000 in
theorem w_X12_readFunction_b180 {σ : S5} {v1 : Int32} {H : Heap} {locs : List Loc} {ls : Array Slot} (S : CallFix p m c cX12_readFunction 3 s args uG RX12) (hr : meth.sig.returnType = none) (hk : meth.locks = false) (hR : 10 ≤ R.frames ∧ 226 ≤ R.locals)
    (X : gX (dC, dI) (tM kc) (wM ad kc) Z A s σ H locs) (hl : lv_has ls 3 [(0, .ref (ad 0)), (1, .int v1)]) (hg : f_X12_readFunction_b180 v1 σ = some (r, τ)) : W p l e R s m args below meth c H locs 0 0 (MQ below (gQv (dC, dI) (tM kc) (wM ad kc) A r τ) args s 0 0 A) (F0 m 180 ls []) := by
  have hx := S.1
  have hb := S.2.1
  have hown := S.2.2.2.1
  have hu := S.2.2.2.2
  unfold f_X12_readFunction_b180 at hg
  refine lv_aload_n hx hb dX12_readFunction_180 rfl (lv_at hl 0 rfl) ?_
  refine lv_aload_n hx hb dX12_readFunction_181 rfl (lv_at hl 0 rfl) ?_
  refine lv_bipush (v := 61) hx hb dX12_readFunction_182 (by decide) ?_
  obtain ⟨r184, τ184, hq184, hg⟩ := bd_some hg
  refine gc_Vi (As := [.int 61]) (rest := [.ref (ad 0)]) (q0 := 0) (ci := 15) S X (k2_X12_isSign l dC dI ad kc hq184 H.size) cw_X12_isSign mG_2534 rfl rfl rfl rfl rfl hl.1 (Nat.le_of_ble_eq_true rfl) dX12_readFunction_184 ⟨by omega, by omega⟩ (fun H locs X => ?_)
  obtain ⟨r187, τ187, hq187, hg⟩ := bd_some hg
  refine gc_Vv (As := [.int r184]) (rest := []) (q0 := 0) (ci := 15) S X (k2_X12_accept l dC dI ad kc hq187 H.size) cw_X12_accept mG_2526 rfl rfl rfl rfl rfl hl.1 (Nat.le_of_ble_eq_true rfl) dX12_readFunction_187 ⟨by omega, by omega⟩ (fun H locs X => ?_)
  refine lv_aload_n hx hb dX12_readFunction_190 rfl (lv_at hl 0 rfl) ?_
  refine wmgI_7 (v := (gI τ187 7)) S X mG_2060 rfl dX12_readFunction_191 ?_
  refine lv_if_ne (tgt := 202) hx hb dX12_readFunction_194 (by decide) (fun c194 => ?_) (fun c194 => ?_)
  · have hg := (if_neg c194).symm.trans hg
    obtain ⟨-, rfl⟩ := fin_some hg
    exact gr_v S hr hk X dX12_readFunction_202
  · have hg := (if_pos c194).symm.trans hg
    refine lv_aload_n hx hb dX12_readFunction_197 rfl (lv_at hl 0 rfl) ?_
    refine lv_iload_n hx hb dX12_readFunction_198 rfl (lv_at hl 1 rfl) ?_
    obtain ⟨r199, τ199, hq199, hg⟩ := bd_some hg
    refine gc_Vv (As := [.int v1]) (rest := []) (q0 := 0) (ci := 15) S X (k2_X12_readE l dC dI ad kc hq199 H.size) cw_X12_readE mG_2562 rfl rfl rfl rfl rfl hl.1 (Nat.le_of_ble_eq_true rfl) dX12_readFunction_199 ⟨by omega, by omega⟩ (fun H locs X => ?_)
    obtain ⟨-, rfl⟩ := fin_some hg
    exact gr_v S hr hk X dX12_readFunction_202
set_option maxHeartbeats 4000000 in
set_option maxRecDepth 100000 in
theorem w_X12_readFunction_b123 {σ : S5} {v1 : Int32} {v2 : Int32} {u0 : Int32} {H : Heap} {locs : List Loc} {ls : Array Slot} (S : CallFix p m c cX12_readFunction 3 s args uG RX12) (hr : meth.sig.returnType = none) (hk : meth.locks = false) (hR : 10 ≤ R.frames ∧ 226 ≤ R.locals)
    (X : gX (dC, dI) (tM kc) (wM ad kc) Z A s σ H locs) (hl : lv_has ls 3 [(0, .ref (ad 0)), (1, .int v1), (2, .int v2)]) (hg : f_X12_readFunction_b123 v1 v2 u0 σ = some (r, τ)) : W p l e R s m args below meth c H locs 0 0 (MQ below (gQv (dC, dI) (tM kc) (wM ad kc) A r τ) args s 0 0 A) (F0 m 123 ls [.int u0, .ref (ad 0)]) := by
  have hx := S.1
  have hb := S.2.1
  have hown := S.2.2.2.1
  have hu := S.2.2.2.2
  unfold f_X12_readFunction_b123 at hg
  obtain ⟨r123, τ123, hq123, hg⟩ := bd_some hg
  refine gc_Vv (As := [.int u0]) (rest := []) (q0 := 0) (ci := 15) S X (k2_X12_accept l dC dI ad kc hq123 H.size) cw_X12_accept mG_2526 rfl rfl rfl rfl rfl hl.1 (Nat.le_of_ble_eq_true rfl) dX12_readFunction_123 ⟨by omega, by omega⟩ (fun H locs X => ?_)
  refine lv_aload_n hx hb dX12_readFunction_126 rfl (lv_at hl 0 rfl) ?_
  refine wmgI_7 (v := (gI τ123 7)) S X mG_2060 rfl dX12_readFunction_127 ?_
  refine lv_if_ne (tgt := 180) hx hb dX12_readFunction_130 (by decide) (fun c130 => ?_) (fun c130 => ?_)
  · have hg := (if_neg c130).symm.trans hg
    exact w_X12_readFunction_b180 S hr hk hR X (lv_sub hl [0, 1] rfl) hg
  · have hg := (if_pos c130).symm.trans hg
    refine lv_aload_n hx hb dX12_readFunction_133 rfl (lv_at hl 0 rfl) ?_
    refine wmgR_0_28 S X mG_2078 dX12_readFunction_134 ?_
    refine lv_iload_n hx hb dX12_readFunction_137 rfl (lv_at hl 2 rfl) ?_
    refine lv_aload_n hx hb dX12_readFunction_138 rfl (lv_at hl 0 rfl) ?_
    refine wmgR_0_20 S X mG_2070 dX12_readFunction_139 ?_
    refine lv_iload_n hx hb dX12_readFunction_142 rfl (lv_at hl 1 rfl) ?_
    obtain ⟨hi143, hg⟩ := gd_some hg
    refine wmlB_0 (v := (xB τ123 0 v1)) S X hi143 rfl dX12_readFunction_143 ?_
    obtain ⟨hi144, hg⟩ := gd_some hg
    refine wmsB_2 S X hi144 dX12_readFunction_144 (fun H locs X => ?_)
    refine lv_aload_n hx hb dX12_readFunction_145 rfl (lv_at hl 0 rfl) ?_
    refine wmgR_0_29 S X mG_2079 dX12_readFunction_146 ?_
    refine lv_iload_n hx hb dX12_readFunction_149 rfl (lv_at hl 2 rfl) ?_
    refine lv_aload_n hx hb dX12_readFunction_150 rfl (lv_at hl 0 rfl) ?_
    refine wmgR_0_17 S X mG_2067 dX12_readFunction_151 ?_
    refine lv_iload_n hx hb dX12_readFunction_154 rfl (lv_at hl 1 rfl) ?_
    obtain ⟨hi155, hg⟩ := gd_some hg
    refine wmlA_6 (v := (xA τ123 6 v1)) S X hi155 rfl dX12_readFunction_155 ?_
    obtain ⟨hi156, hg⟩ := gd_some hg
    refine wmsA_11 S X hi156 dX12_readFunction_156 (fun H locs X => ?_)
    refine lv_aload_n hx hb dX12_readFunction_157 rfl (lv_at hl 0 rfl) ?_
    refine wmgR_0_30 S X mG_2080 dX12_readFunction_158 ?_
    refine lv_iload_n hx hb dX12_readFunction_161 rfl (lv_at hl 2 rfl) ?_
    refine lv_iload_n hx hb dX12_readFunction_162 rfl (lv_at hl 1 rfl) ?_
    obtain ⟨hi163, hg⟩ := gd_some hg
    refine wmsA_12 S X hi163 dX12_readFunction_163 (fun H locs X => ?_)
    refine lv_aload_n hx hb dX12_readFunction_164 rfl (lv_at hl 0 rfl) ?_
    refine lv_dup hx hb dX12_readFunction_165 rfl ?_
    refine wmgI_13 (v := (gI τ123 13)) S X mG_2077 rfl dX12_readFunction_166 ?_
    refine lv_iconst (v := 1) hx hb dX12_readFunction_169 (by decide) ?_
    refine lv_iadd hx hb dX12_readFunction_170 ?_
    refine wmpI_13 S X mG_2077 dX12_readFunction_171 (fun H locs X => ?_)
    refine lv_aload_n hx hb dX12_readFunction_174 rfl (lv_at hl 0 rfl) ?_
    refine lv_iload_n hx hb dX12_readFunction_175 rfl (lv_at hl 1 rfl) ?_
    refine lv_iconst (v := 0) hx hb dX12_readFunction_176 (by decide) ?_
    obtain ⟨r177, τ177, hq177, hg⟩ := bd_some hg
    refine gc_Vv (As := [.int v1, .int 0]) (rest := []) (q0 := 0) (ci := 15) S X (k2_X12_parameters l dC dI ad kc hq177 H.size) cw_X12_parameters mG_2546 rfl rfl rfl rfl rfl hl.1 (Nat.le_of_ble_eq_true rfl) dX12_readFunction_177 ⟨by omega, by omega⟩ (fun H locs X => ?_)
    exact w_X12_readFunction_b180 S hr hk hR X (lv_sub hl [0, 1] rfl) hg
set_option maxHeartbeats 4000000 in
set_option maxRecDepth 100000 in
theorem w_X12_readFunction_b93 {σ : S5} {u0 : Int32} {H : Heap} {locs : List Loc} {ls : Array Slot} (S : CallFix p m c cX12_readFunction 3 s args uG RX12) (hr : meth.sig.returnType = none) (hk : meth.locks = false) (hR : 10 ≤ R.frames ∧ 226 ≤ R.locals)
    (X : gX (dC, dI) (tM kc) (wM ad kc) Z A s σ H locs) (hl : lv_has ls 3 [(0, .ref (ad 0))]) (hg : f_X12_readFunction_b93 u0 σ = some (r, τ)) : W p l e R s m args below meth c H locs 0 0 (MQ below (gQv (dC, dI) (tM kc) (wM ad kc) A r τ) args s 0 0 A) (F0 m 93 ls [.int u0]) := by
  have hx := S.1
  have hb := S.2.1
  have hown := S.2.2.2.1
  have hu := S.2.2.2.2
  unfold f_X12_readFunction_b93 at hg
  refine lv_istore_n (lv' := [(1, .int u0), (0, .ref (ad 0))]) hx hb dX12_readFunction_93 rfl hl (by decide) rfl (fun ls hl => ?_)
  refine lv_aload_n hx hb dX12_readFunction_94 rfl (lv_at hl 1 rfl) ?_
  refine wmgI_13 (v := (gI σ 13)) S X mG_2077 rfl dX12_readFunction_95 ?_
  refine lv_istore_n (lv' := [(2, .int (gI σ 13)), (1, .int u0), (0, .ref (ad 0))]) hx hb dX12_readFunction_98 rfl hl (by decide) rfl (fun ls hl => ?_)
  refine lv_aload_n hx hb dX12_readFunction_99 rfl (lv_at hl 2 rfl) ?_
  refine wmgR_0_20 S X mG_2070 dX12_readFunction_100 ?_
  refine lv_iload_n hx hb dX12_readFunction_103 rfl (lv_at hl 1 rfl) ?_
  refine lv_aload_n hx hb dX12_readFunction_104 rfl (lv_at hl 2 rfl) ?_
  refine wmgJ_0 (v := (gJ σ 0)) S X mG_2058 rfl dX12_readFunction_105 ?_
  obtain ⟨hi108, hg⟩ := gd_some hg
  refine wmsB_0 S X hi108 dX12_readFunction_108 (fun H locs X => ?_)
  refine lv_aload_n hx hb dX12_readFunction_109 rfl (lv_at hl 2 rfl) ?_
  refine lv_aload_n hx hb dX12_readFunction_110 rfl (lv_at hl 2 rfl) ?_
  refine wmgI_4 (v := (gI σ 4)) S X mG_2056 rfl dX12_readFunction_111 ?_
  refine lv_iconst (v := 3) hx hb dX12_readFunction_114 (by decide) ?_
  refine lv_icmp_ne (tgt := 122) hx hb dX12_readFunction_115 (by decide) (fun c115 => ?_) (fun c115 => ?_)
  · have hg := (if_neg c115).symm.trans hg
    refine lv_iconst (v := 0) hx hb dX12_readFunction_122 (by decide) ?_
    exact w_X12_readFunction_b123 S hr hk hR X (lv_sub hl [2, 1, 0] rfl) hg
  · have hg := (if_pos c115).symm.trans hg
    refine lv_iconst (v := 1) hx hb dX12_readFunction_118 (by decide) ?_
    refine lv_goto (tgt := 123) hx hb dX12_readFunction_119 (by decide) ?_
    exact w_X12_readFunction_b123 S hr hk hR X (lv_sub hl [2, 1, 0] rfl) hg
set_option maxHeartbeats 4000000 in
set_option maxRecDepth 100000 in
theorem w_X12_readFunction_b73 {σ : S5}  {H : Heap} {locs : List Loc} {ls : Array Slot} (S : CallFix p m c cX12_readFunction 3 s args uG RX12) (hr : meth.sig.returnType = none) (hk : meth.locks = false) (hR : 10 ≤ R.frames ∧ 226 ≤ R.locals)
    (X : gX (dC, dI) (tM kc) (wM ad kc) Z A s σ H locs) (hl : lv_has ls 3 [(0, .ref (ad 0))]) (hg : f_X12_readFunction_b73  σ = some (r, τ)) : W p l e R s m args below meth c H locs 0 0 (MQ below (gQv (dC, dI) (tM kc) (wM ad kc) A r τ) args s 0 0 A) (F0 m 73 ls []) := by
  have hx := S.1
  have hb := S.2.1
  have hown := S.2.2.2.1
  have hu := S.2.2.2.2
  unfold f_X12_readFunction_b73 at hg
  refine lv_aload_n hx hb dX12_readFunction_73 rfl (lv_at hl 0 rfl) ?_
  refine wmgI_9 (v := (gI σ 9)) S X mG_2062 rfl dX12_readFunction_74 ?_
  refine lv_sipush (v := 3200) hx hb dX12_readFunction_77 (by decide) ?_
  refine lv_icmp_ge (tgt := 92) hx hb dX12_readFunction_80 (by decide) (fun c80 => ?_) (fun c80 => ?_)
  · have hg := (if_pos c80).symm.trans hg
    refine lv_iconst (v := 0) hx hb dX12_readFunction_92 (by decide) ?_
    exact w_X12_readFunction_b93 S hr hk hR X (lv_sub hl [0] rfl) hg
  · have hg := (if_neg c80).symm.trans hg
    refine lv_aload_n hx hb dX12_readFunction_83 rfl (lv_at hl 0 rfl) ?_
    refine lv_bipush (v := 12) hx hb dX12_readFunction_84 (by decide) ?_
    obtain ⟨r86, τ86, hq86, hg⟩ := bd_some hg
    refine gc_Vi (As := [.int 12]) (rest := []) (q0 := 0) (ci := 15) S X (k2_X12_node l dC dI ad kc hq86 H.size) cw_X12_node mG_2542 rfl rfl rfl rfl rfl hl.1 (Nat.le_of_ble_eq_true rfl) dX12_readFunction_86 ⟨by omega, by omega⟩ (fun H locs X => ?_)
    refine lv_goto (tgt := 93) hx hb dX12_readFunction_89 (by decide) ?_
    exact w_X12_readFunction_b93 S hr hk hR X (lv_sub hl [0] rfl) hg
set_option maxHeartbeats 4000000 in
set_option maxRecDepth 100000 in
theorem w_X12_readFunction_b41 {σ : S5} {rec2 : Int32 → S5 → Option (Unit × S5)} {v1 : Int32} {H : Heap} {locs : List Loc} {ls : Array Slot} (S : CallFix p m c cX12_readFunction 3 s args uG RX12) (hr : meth.sig.returnType = none) (hk : meth.locks = false) (hR : 10 ≤ R.frames ∧ 226 ≤ R.locals)
    (hrec2 : ∀ (v1 : Int32) (σ : S5) (H : Heap) (locs : List Loc) (ls : Array Slot), gX (dC, dI) (tM kc) (wM ad kc) Z A s σ H locs → lv_has ls 3 [(0, .ref (ad 0)), (1, .int v1)] → rec2 v1 σ = some (r, τ) → W p l e R s m args below meth c H locs 0 0 (MQ below (gQv (dC, dI) (tM kc) (wM ad kc) A r τ) args s 0 0 A) (F0 m 2 ls []))
    (X : gX (dC, dI) (tM kc) (wM ad kc) Z A s σ H locs) (hl : lv_has ls 3 [(0, .ref (ad 0)), (1, .int v1)]) (hg : f_X12_readFunction_b41 rec2 v1 σ = some (r, τ)) : W p l e R s m args below meth c H locs 0 0 (MQ below (gQv (dC, dI) (tM kc) (wM ad kc) A r τ) args s 0 0 A) (F0 m 41 ls []) := by
  have hx := S.1
  have hb := S.2.1
  have hown := S.2.2.2.1
  have hu := S.2.2.2.2
  unfold f_X12_readFunction_b41 at hg
  refine lv_iinc (v := (v1 + 1)) (lv' := [(1, .int (v1 + 1)), (0, .ref (ad 0))]) hx hb dX12_readFunction_41 hl (k := 1) rfl (by rfl) (by decide) rfl (fun ls hl => ?_)
  refine lv_goto (tgt := 2) hx hb dX12_readFunction_44 (by decide) ?_
  exact hrec2 _ _ _ _ _ X (lv_sub hl [1, 0] rfl) hg
set_option maxHeartbeats 4000000 in
set_option maxRecDepth 100000 in
theorem w_X12_readFunction_B2 {σ : S5} {rec2 : Int32 → S5 → Option (Unit × S5)} {v1 : Int32} {H : Heap} {locs : List Loc} {ls : Array Slot} (S : CallFix p m c cX12_readFunction 3 s args uG RX12) (hr : meth.sig.returnType = none) (hk : meth.locks = false) (hR : 10 ≤ R.frames ∧ 226 ≤ R.locals)
    (hrec2 : ∀ (v1 : Int32) (σ : S5) (H : Heap) (locs : List Loc) (ls : Array Slot), gX (dC, dI) (tM kc) (wM ad kc) Z A s σ H locs → lv_has ls 3 [(0, .ref (ad 0)), (1, .int v1)] → rec2 v1 σ = some (r, τ) → W p l e R s m args below meth c H locs 0 0 (MQ below (gQv (dC, dI) (tM kc) (wM ad kc) A r τ) args s 0 0 A) (F0 m 2 ls []))
    (X : gX (dC, dI) (tM kc) (wM ad kc) Z A s σ H locs) (hl : lv_has ls 3 [(0, .ref (ad 0)), (1, .int v1)]) (hg : f_X12_readFunction_B2 rec2 v1 σ = some (r, τ)) : W p l e R s m args below meth c H locs 0 0 (MQ below (gQv (dC, dI) (tM kc) (wM ad kc) A r τ) args s 0 0 A) (F0 m 2 ls []) := by
  have hx := S.1
  have hb := S.2.1
  have hown := S.2.2.2.1
  have hu := S.2.2.2.2
  unfold f_X12_readFunction_B2 at hg
  refine lv_iload_n hx hb dX12_readFunction_2 rfl (lv_at hl 1 rfl) ?_
  refine lv_aload_n hx hb dX12_readFunction_3 rfl (lv_at hl 0 rfl) ?_
  refine wmgI_13 (v := (gI σ 13)) S X mG_2077 rfl dX12_readFunction_4 ?_
  refine lv_icmp_ge (tgt := 47) hx hb dX12_readFunction_7 (by decide) (fun c7 => ?_) (fun c7 => ?_)
  · have hg := (if_pos c7).symm.trans hg
    refine lv_aload_n hx hb dX12_readFunction_47 rfl (lv_at hl 0 rfl) ?_
    refine wmgI_4 (v := (gI σ 4)) S X mG_2056 rfl dX12_readFunction_48 ?_
    refine lv_iconst (v := 3) hx hb dX12_readFunction_51 (by decide) ?_
    refine lv_icmp_ne (tgt := 73) hx hb dX12_readFunction_52 (by decide) (fun c52 => ?_) (fun c52 => ?_)
    · have hg := (if_neg c52).symm.trans hg
      exact w_X12_readFunction_b73 S hr hk hR X (lv_sub hl [0] rfl) hg
    · have hg := (if_pos c52).symm.trans hg
      refine lv_aload_n hx hb dX12_readFunction_55 rfl (lv_at hl 0 rfl) ?_
      refine wmgI_13 (v := (gI σ 13)) S X mG_2077 rfl dX12_readFunction_56 ?_
      refine lv_bipush (v := 30) hx hb dX12_readFunction_59 (by decide) ?_
      refine lv_icmp_ne (tgt := 73) hx hb dX12_readFunction_61 (by decide) (fun c61 => ?_) (fun c61 => ?_)
      · have hg := (if_neg c61).symm.trans hg
        exact w_X12_readFunction_b73 S hr hk hR X (lv_sub hl [0] rfl) hg
      · have hg := (if_pos c61).symm.trans hg
        refine lv_aload_n hx hb dX12_readFunction_64 rfl (lv_at hl 0 rfl) ?_
        refine lv_iconst (v := 4) hx hb dX12_readFunction_65 (by decide) ?_
        refine lv_aload_n hx hb dX12_readFunction_66 rfl (lv_at hl 0 rfl) ?_
        refine wmgI_5 (v := (gI σ 5)) S X mG_2057 rfl dX12_readFunction_67 ?_
        obtain ⟨r70, τ70, hq70, hg⟩ := bd_some hg
        refine gc_Vv (As := [.int 4, .int (gI σ 5)]) (rest := []) (q0 := 0) (ci := 15) S X (k2_X12_fail l dC dI ad kc hq70 H.size) cw_X12_fail mG_2522 rfl rfl rfl rfl rfl hl.1 (Nat.le_of_ble_eq_true rfl) dX12_readFunction_70 ⟨by omega, by omega⟩ (fun H locs X => ?_)
        exact w_X12_readFunction_b73 S hr hk hR X (lv_sub hl [0] rfl) hg
  · have hg := (if_neg c7).symm.trans hg
    refine lv_aload_n hx hb dX12_readFunction_10 rfl (lv_at hl 0 rfl) ?_
    refine wmgI_4 (v := (gI σ 4)) S X mG_2056 rfl dX12_readFunction_11 ?_
    refine lv_iconst (v := 3) hx hb dX12_readFunction_14 (by decide) ?_
    refine lv_icmp_ne (tgt := 41) hx hb dX12_readFunction_15 (by decide) (fun c15 => ?_) (fun c15 => ?_)
    · have hg := (if_neg c15).symm.trans hg
      exact w_X12_readFunction_b41 S hr hk hR hrec2 X (lv_sub hl [0, 1] rfl) hg
    · have hg := (if_pos c15).symm.trans hg
      refine lv_aload_n hx hb dX12_readFunction_18 rfl (lv_at hl 0 rfl) ?_
      refine wmgR_0_28 S X mG_2078 dX12_readFunction_19 ?_
      refine lv_iload_n hx hb dX12_readFunction_22 rfl (lv_at hl 1 rfl) ?_
      obtain ⟨hi23, hg⟩ := gd_some hg
      refine wmlB_2 (v := (xB σ 2 v1)) S X hi23 rfl dX12_readFunction_23 ?_
      refine lv_aload_n hx hb dX12_readFunction_24 rfl (lv_at hl 0 rfl) ?_
      refine wmgJ_0 (v := (gJ σ 0)) S X mG_2058 rfl dX12_readFunction_25 ?_
      refine W.lcmp hx hb dX12_readFunction_28 ?_
      refine lv_if_ne (tgt := 41) hx hb dX12_readFunction_29 (by decide) (fun c29 => ?_) (fun c29 => ?_)
      · have hg := (if_neg c29).symm.trans hg
        exact w_X12_readFunction_b41 S hr hk hR hrec2 X (lv_sub hl [0, 1] rfl) hg
      · have hg := (if_pos c29).symm.trans hg
        refine lv_aload_n hx hb dX12_readFunction_32 rfl (lv_at hl 0 rfl) ?_
        refine lv_iconst (v := 2) hx hb dX12_readFunction_33 (by decide) ?_
        refine lv_aload_n hx hb dX12_readFunction_34 rfl (lv_at hl 0 rfl) ?_
        refine wmgI_5 (v := (gI σ 5)) S X mG_2057 rfl dX12_readFunction_35 ?_
        obtain ⟨r38, τ38, hq38, hg⟩ := bd_some hg
        refine gc_Vv (As := [.int 2, .int (gI σ 5)]) (rest := []) (q0 := 0) (ci := 15) S X (k2_X12_fail l dC dI ad kc hq38 H.size) cw_X12_fail mG_2522 rfl rfl rfl rfl rfl hl.1 (Nat.le_of_ble_eq_true rfl) dX12_readFunction_38 ⟨by omega, by omega⟩ (fun H locs X => ?_)
        exact w_X12_readFunction_b41 S hr hk hR hrec2 X (lv_sub hl [0, 1] rfl) hg
set_option maxHeartbeats 4000000 in
set_option maxRecDepth 100000 in
theorem w_X12_readFunction_L2 (S : CallFix p m c cX12_readFunction 3 s args uG RX12) (hr : meth.sig.returnType = none) (hk : meth.locks = false) (hR : 10 ≤ R.frames ∧ 226 ≤ R.locals) : ∀ (n : Nat) (v1 : Int32) (σ : S5) (H : Heap) (locs : List Loc) (ls : Array Slot), gX (dC, dI) (tM kc) (wM ad kc) Z A s σ H locs → lv_has ls 3 [(0, .ref (ad 0)), (1, .int v1)] → f_X12_readFunction_L2  n v1 σ = some (r, τ) → W p l e R s m args below meth c H locs 0 0 (MQ below (gQv (dC, dI) (tM kc) (wM ad kc) A r τ) args s 0 0 A) (F0 m 2 ls []) := by
  intro n
  induction n with
  | zero => intro v1 σ H locs ls X hl hg; cases hg
  | succ n ih => intro v1 σ H locs ls X hl hg; exact w_X12_readFunction_B2 S hr hk hR ih X hl hg
set_option maxHeartbeats 4000000 in
set_option maxRecDepth 100000 in
theorem w_X12_readFunction {σ : S5}  {H : Heap} {locs : List Loc} {ls : Array Slot} (S : CallFix p m c cX12_readFunction 3 s args uG RX12) (hr : meth.sig.returnType = none) (hk : meth.locks = false) (hR : 10 ≤ R.frames ∧ 226 ≤ R.locals)
    (X : gX (dC, dI) (tM kc) (wM ad kc) Z A s σ H locs) (hl : lv_has ls 3 [(0, .ref (ad 0))]) (hg : f_X12_readFunction  σ = some (r, τ)) : W p l e R s m args below meth c H locs 0 0 (MQ below (gQv (dC, dI) (tM kc) (wM ad kc) A r τ) args s 0 0 A) (F0 m 0 ls []) := by
  have hx := S.1
  have hb := S.2.1
  have hown := S.2.2.2.1
  have hu := S.2.2.2.2
  unfold f_X12_readFunction at hg
  refine lv_iconst (v := 0) hx hb dX12_readFunction_0 (by decide) ?_
  refine lv_istore_n (lv' := [(1, .int 0), (0, .ref (ad 0))]) hx hb dX12_readFunction_1 rfl hl (by decide) rfl (fun ls hl => ?_)
  exact w_X12_readFunction_L2 S hr hk hR _ _ _ _ _ _ X (lv_sub hl [1, 0] rfl) hg
end MX12_readFunction
set_option maxRecDepth 100000 in
theorem k2_X12_readFunction (l : Launch) (dC : Nat → ClassId) (dI : Nat → Nat → Nat) {Z : ZZ} (ad : Nat → Nat) (kc : Nat → ClassId) {σ τ : S5}  {r : Unit} (hg : f_X12_readFunction  σ = some (r, τ)) (sz : Nat) : Met l yX12_readFunction (Cond.code yX12_readFunction cX12_readFunction 3 none :: uG) { frames := 10, cells := 0, slots := 0, locals := 226 } (gPc (dC, dI) (tM kc) (wM ad kc) Z [.ref (ad 0)] σ sz) (gQv (dC, dI) (tM kc) (wM ad kc) (va_A (wM ad kc σ) sz) r τ) 0 0 (va_A (wM ad kc σ) sz) :=
  g_start (by decide) (Nat.le_of_ble_eq_true rfl) (fun p e s m below meth c ls S hr hk X hl => w_X12_readFunction S hr hk ⟨Nat.le_refl _, Nat.le_refl _⟩ X hl hg)
