theorem sw_0_7 (x : Int32) : (x.toInt < 0 ∨ 7 < x.toInt) ∨ x = 0 ∨ x = 1 ∨ x = 2 ∨ x = 3 ∨ x = 4 ∨ x = 5 ∨ x = 6 ∨ x = 7 := by
  by_cases h : x.toInt < 0 ∨ 7 < x.toInt
  · exact Or.inl h
  · have h2 : x.toInt = 0 ∨ x.toInt = 1 ∨ x.toInt = 2 ∨ x.toInt = 3 ∨ x.toInt = 4 ∨ x.toInt = 5 ∨ x.toInt = 6 ∨ x.toInt = 7 := by omega
    refine Or.inr ?_
    rcases h2 with h | h | h | h | h | h | h | h
    · exact Or.inl (Int32.toInt_inj.mp (h.trans (by decide)))
    · exact Or.inr (Or.inl (Int32.toInt_inj.mp (h.trans (by decide))))
    · exact Or.inr (Or.inr (Or.inl (Int32.toInt_inj.mp (h.trans (by decide)))))
    · exact Or.inr (Or.inr (Or.inr (Or.inl (Int32.toInt_inj.mp (h.trans (by decide))))))
    · exact Or.inr (Or.inr (Or.inr (Or.inr (Or.inl (Int32.toInt_inj.mp (h.trans (by decide)))))))
    · exact Or.inr (Or.inr (Or.inr (Or.inr (Or.inr (Or.inl (Int32.toInt_inj.mp (h.trans (by decide))))))))
    · exact Or.inr (Or.inr (Or.inr (Or.inr (Or.inr (Or.inr (Or.inl (Int32.toInt_inj.mp (h.trans (by decide)))))))))
    · exact Or.inr (Or.inr (Or.inr (Or.inr (Or.inr (Or.inr (Or.inr (Int32.toInt_inj.mp (h.trans (by decide)))))))))
theorem swo_0_7 {x : Int32} (h : x.toInt < 0 ∨ 7 < x.toInt) : ¬ x = 0 ∧ ¬ x = 1 ∧ ¬ x = 2 ∧ ¬ x = 3 ∧ ¬ x = 4 ∧ ¬ x = 5 ∧ ¬ x = 6 ∧ ¬ x = 7 := by
  refine ⟨?_, ?_, ?_, ?_, ?_, ?_, ?_, ?_⟩ <;> (intro e; rw [e] at h; revert h; decide)

theorem sw_0_8 (x : Int32) : (x.toInt < 0 ∨ 8 < x.toInt) ∨ x = 0 ∨ x = 1 ∨ x = 2 ∨ x = 3 ∨ x = 4 ∨ x = 5 ∨ x = 6 ∨ x = 7 ∨ x = 8 := by
  by_cases h : x.toInt < 0 ∨ 8 < x.toInt
  · exact Or.inl h
  · have h2 : x.toInt = 0 ∨ x.toInt = 1 ∨ x.toInt = 2 ∨ x.toInt = 3 ∨ x.toInt = 4 ∨ x.toInt = 5 ∨ x.toInt = 6 ∨ x.toInt = 7 ∨ x.toInt = 8 := by omega
    refine Or.inr ?_
    rcases h2 with h | h | h | h | h | h | h | h | h
    · exact Or.inl (Int32.toInt_inj.mp (h.trans (by decide)))
    · exact Or.inr (Or.inl (Int32.toInt_inj.mp (h.trans (by decide))))
    · exact Or.inr (Or.inr (Or.inl (Int32.toInt_inj.mp (h.trans (by decide)))))
    · exact Or.inr (Or.inr (Or.inr (Or.inl (Int32.toInt_inj.mp (h.trans (by decide))))))
    · exact Or.inr (Or.inr (Or.inr (Or.inr (Or.inl (Int32.toInt_inj.mp (h.trans (by decide)))))))
    · exact Or.inr (Or.inr (Or.inr (Or.inr (Or.inr (Or.inl (Int32.toInt_inj.mp (h.trans (by decide))))))))
    · exact Or.inr (Or.inr (Or.inr (Or.inr (Or.inr (Or.inr (Or.inl (Int32.toInt_inj.mp (h.trans (by decide)))))))))
    · exact Or.inr (Or.inr (Or.inr (Or.inr (Or.inr (Or.inr (Or.inr (Or.inl (Int32.toInt_inj.mp (h.trans (by decide))))))))))
    · exact Or.inr (Or.inr (Or.inr (Or.inr (Or.inr (Or.inr (Or.inr (Or.inr (Int32.toInt_inj.mp (h.trans (by decide))))))))))
theorem swo_0_8 {x : Int32} (h : x.toInt < 0 ∨ 8 < x.toInt) : ¬ x = 0 ∧ ¬ x = 1 ∧ ¬ x = 2 ∧ ¬ x = 3 ∧ ¬ x = 4 ∧ ¬ x = 5 ∧ ¬ x = 6 ∧ ¬ x = 7 ∧ ¬ x = 8 := by
  refine ⟨?_, ?_, ?_, ?_, ?_, ?_, ?_, ?_, ?_⟩ <;> (intro e; rw [e] at h; revert h; decide)


theorem mG_205 : Cond.selects "LazyForgeModel" yX12_functionName yX12_functionName ∈ uG := uG_at 205 (by decide +kernel) (by decide +kernel)
theorem mG_207 : Cond.selects "LazyForgeModel" yX12_writeE yX12_writeE ∈ uG := uG_at 207 (by decide +kernel) (by decide +kernel)
theorem mG_208 : Cond.selects "LazyForgeModel" yX12_atom_ yX12_atom_ ∈ uG := uG_at 208 (by decide +kernel) (by decide +kernel)
theorem mG_209 : Cond.selects "LazyForgeModel" yX12_around yX12_around ∈ uG := uG_at 209 (by decide +kernel) (by decide +kernel)
theorem mG_210 : Cond.selects "LazyForgeModel" yX12_pattern yX12_pattern ∈ uG := uG_at 210 (by decide +kernel) (by decide +kernel)
theorem mG_211 : Cond.selects "LazyForgeModel" yX12_operation yX12_operation ∈ uG := uG_at 211 (by decide +kernel) (by decide +kernel)
theorem mG_212 : Cond.selects "LazyForgeModel" yX12_codeOf yX12_codeOf ∈ uG := uG_at 212 (by decide +kernel) (by decide +kernel)
theorem mG_2931 : Cond.methodLink "LazyForgeModel" 801 yX12_functionName ∈ uG := uG_at 2931 (by decide +kernel) (by decide +kernel)
theorem mG_2933 : Cond.instanceMethod yX12_functionName ∈ uG := uG_at 2933 (by decide +kernel) (by decide +kernel)
theorem mG_2934 : Cond.code yX12_functionName prog_14_method_121_code 2 none ∈ uG := uG_at 2934 (by decide +kernel) (by decide +kernel)
theorem mG_2939 : Cond.methodLink "LazyForgeModel" 808 yX12_writeE ∈ uG := uG_at 2939 (by decide +kernel) (by decide +kernel)
theorem mG_2941 : Cond.instanceMethod yX12_writeE ∈ uG := uG_at 2941 (by decide +kernel) (by decide +kernel)
theorem mG_2942 : Cond.code yX12_writeE prog_14_method_126_code 5 none ∈ uG := uG_at 2942 (by decide +kernel) (by decide +kernel)
theorem mG_2943 : Cond.methodLink "LazyForgeModel" 804 yX12_atom_ ∈ uG := uG_at 2943 (by decide +kernel) (by decide +kernel)
theorem mG_2945 : Cond.instanceMethod yX12_atom_ ∈ uG := uG_at 2945 (by decide +kernel) (by decide +kernel)
theorem mG_2946 : Cond.code yX12_atom_ prog_14_method_125_code 2 none ∈ uG := uG_at 2946 (by decide +kernel) (by decide +kernel)
theorem mG_2947 : Cond.methodLink "LazyForgeModel" 806 yX12_around ∈ uG := uG_at 2947 (by decide +kernel) (by decide +kernel)
theorem mG_2949 : Cond.instanceMethod yX12_around ∈ uG := uG_at 2949 (by decide +kernel) (by decide +kernel)
theorem mG_2950 : Cond.code yX12_around prog_14_method_124_code 4 none ∈ uG := uG_at 2950 (by decide +kernel) (by decide +kernel)
theorem mG_2951 : Cond.methodLink "LazyForgeModel" 795 yX12_pattern ∈ uG := uG_at 2951 (by decide +kernel) (by decide +kernel)
theorem mG_2953 : Cond.instanceMethod yX12_pattern ∈ uG := uG_at 2953 (by decide +kernel) (by decide +kernel)
theorem mG_2954 : Cond.code yX12_pattern prog_14_method_123_code 3 none ∈ uG := uG_at 2954 (by decide +kernel) (by decide +kernel)
theorem mG_2955 : Cond.methodLink "LazyForgeModel" 798 yX12_operation ∈ uG := uG_at 2955 (by decide +kernel) (by decide +kernel)
theorem mG_2957 : Cond.instanceMethod yX12_operation ∈ uG := uG_at 2957 (by decide +kernel) (by decide +kernel)
theorem mG_2958 : Cond.code yX12_operation prog_14_method_122_code 2 none ∈ uG := uG_at 2958 (by decide +kernel) (by decide +kernel)
theorem mG_2967 : Cond.methodLink "LazyForgeModel" 811 yX12_codeOf ∈ uG := uG_at 2967 (by decide +kernel) (by decide +kernel)
theorem mG_2969 : Cond.instanceMethod yX12_codeOf ∈ uG := uG_at 2969 (by decide +kernel) (by decide +kernel)
theorem mG_2970 : Cond.code yX12_codeOf prog_14_method_129_code 2 (some .int) ∈ uG := uG_at 2970 (by decide +kernel) (by decide +kernel)
theorem dX12_about_0 : decode cX12_about 0 = .ok (.aload_n 0, 1) := by decide +kernel
theorem dX12_about_1 : decode cX12_about 1 = .ok (.iload_n 1, 1) := by decide +kernel
theorem dX12_about_2 : decode cX12_about 2 = .ok (.ifCond .lt 9, 3) := by decide +kernel
theorem dX12_about_5 : decode cX12_about 5 = .ok (.iload_n 1, 1) := by decide +kernel
theorem dX12_about_6 : decode cX12_about 6 = .ok (.bipush 6, 2) := by decide +kernel
theorem dX12_about_8 : decode cX12_about 8 = .ok (.if_icmp .le 7, 3) := by decide +kernel
theorem dX12_about_11 : decode cX12_about 11 = .ok (.iconst 1, 1) := by decide +kernel
theorem dX12_about_12 : decode cX12_about 12 = .ok (.goto 4, 3) := by decide +kernel
theorem dX12_about_15 : decode cX12_about 15 = .ok (.iconst 0, 1) := by decide +kernel
theorem dX12_about_16 : decode cX12_about 16 = .ok (.putfield 251, 3) := by decide +kernel
theorem dX12_about_19 : decode cX12_about 19 = .ok (.iload_n 1, 1) := by decide +kernel
theorem dX12_about_20 : decode cX12_about 20 = .ok (.tableswitch 112 0 6 #[44, 60, 76, 92, 97, 102, 107], 44) := by decide +kernel
theorem dX12_about_64 : decode cX12_about 64 = .ok (.aload_n 0, 1) := by decide +kernel
theorem dX12_about_65 : decode cX12_about 65 = .ok (.getfield 570, 3) := by decide +kernel
theorem dX12_about_68 : decode cX12_about 68 = .ok (.ifCond .eq 10, 3) := by decide +kernel
theorem dX12_about_71 : decode cX12_about 71 = .ok (.aload_n 0, 1) := by decide +kernel
theorem dX12_about_72 : decode cX12_about 72 = .ok (.getfield 486, 3) := by decide +kernel
theorem dX12_about_75 : decode cX12_about 75 = .ok (.goto 4, 3) := by decide +kernel
theorem dX12_about_78 : decode cX12_about 78 = .ok (.iconst 0, 1) := by decide +kernel
theorem dX12_about_79 : decode cX12_about 79 = .ok (.ireturn, 1) := by decide +kernel
theorem dX12_about_80 : decode cX12_about 80 = .ok (.aload_n 0, 1) := by decide +kernel
theorem dX12_about_81 : decode cX12_about 81 = .ok (.getfield 570, 3) := by decide +kernel
theorem dX12_about_84 : decode cX12_about 84 = .ok (.ifCond .eq 10, 3) := by decide +kernel
theorem dX12_about_87 : decode cX12_about 87 = .ok (.aload_n 0, 1) := by decide +kernel
theorem dX12_about_88 : decode cX12_about 88 = .ok (.getfield 348, 3) := by decide +kernel
theorem dX12_about_91 : decode cX12_about 91 = .ok (.goto 4, 3) := by decide +kernel
theorem dX12_about_94 : decode cX12_about 94 = .ok (.iconst 0, 1) := by decide +kernel
theorem dX12_about_95 : decode cX12_about 95 = .ok (.ireturn, 1) := by decide +kernel
theorem dX12_about_96 : decode cX12_about 96 = .ok (.aload_n 0, 1) := by decide +kernel
theorem dX12_about_97 : decode cX12_about 97 = .ok (.getfield 570, 3) := by decide +kernel
theorem dX12_about_100 : decode cX12_about 100 = .ok (.ifCond .eq 10, 3) := by decide +kernel
theorem dX12_about_103 : decode cX12_about 103 = .ok (.aload_n 0, 1) := by decide +kernel
theorem dX12_about_104 : decode cX12_about 104 = .ok (.getfield 333, 3) := by decide +kernel
theorem dX12_about_107 : decode cX12_about 107 = .ok (.goto 4, 3) := by decide +kernel
theorem dX12_about_110 : decode cX12_about 110 = .ok (.iconst 0, 1) := by decide +kernel
theorem dX12_about_111 : decode cX12_about 111 = .ok (.ireturn, 1) := by decide +kernel
theorem dX12_about_112 : decode cX12_about 112 = .ok (.aload_n 0, 1) := by decide +kernel
theorem dX12_about_113 : decode cX12_about 113 = .ok (.getfield 254, 3) := by decide +kernel
theorem dX12_about_116 : decode cX12_about 116 = .ok (.ireturn, 1) := by decide +kernel
theorem dX12_about_117 : decode cX12_about 117 = .ok (.aload_n 0, 1) := by decide +kernel
theorem dX12_about_118 : decode cX12_about 118 = .ok (.getfield 777, 3) := by decide +kernel
theorem dX12_about_121 : decode cX12_about 121 = .ok (.ireturn, 1) := by decide +kernel
theorem dX12_about_122 : decode cX12_about 122 = .ok (.aload_n 0, 1) := by decide +kernel
theorem dX12_about_123 : decode cX12_about 123 = .ok (.getfield 736, 3) := by decide +kernel
theorem dX12_about_126 : decode cX12_about 126 = .ok (.ireturn, 1) := by decide +kernel
theorem dX12_about_127 : decode cX12_about 127 = .ok (.aload_n 0, 1) := by decide +kernel
theorem dX12_about_128 : decode cX12_about 128 = .ok (.getfield 632, 3) := by decide +kernel
theorem dX12_about_131 : decode cX12_about 131 = .ok (.ireturn, 1) := by decide +kernel
theorem dX12_about_132 : decode cX12_about 132 = .ok (.iconst 0, 1) := by decide +kernel
theorem dX12_about_133 : decode cX12_about 133 = .ok (.ireturn, 1) := by decide +kernel
theorem dX12_around_0 : decode cX12_around 0 = .ok (.iload_n 2, 1) := by decide +kernel
theorem dX12_around_1 : decode cX12_around 1 = .ok (.aload_n 0, 1) := by decide +kernel
theorem dX12_around_2 : decode cX12_around 2 = .ok (.getfield 128, 3) := by decide +kernel
theorem dX12_around_5 : decode cX12_around 5 = .ok (.iload_n 1, 1) := by decide +kernel
theorem dX12_around_6 : decode cX12_around 6 = .ok (.iaload, 1) := by decide +kernel
theorem dX12_around_7 : decode cX12_around 7 = .ok (.if_icmp .ne 7, 3) := by decide +kernel
theorem dX12_around_10 : decode cX12_around 10 = .ok (.iconst 1, 1) := by decide +kernel
theorem dX12_around_11 : decode cX12_around 11 = .ok (.goto 4, 3) := by decide +kernel
theorem dX12_around_14 : decode cX12_around 14 = .ok (.iconst 0, 1) := by decide +kernel
theorem dX12_around_15 : decode cX12_around 15 = .ok (.istore_n 3, 1) := by decide +kernel
theorem dX12_around_16 : decode cX12_around 16 = .ok (.aload_n 0, 1) := by decide +kernel
theorem dX12_around_17 : decode cX12_around 17 = .ok (.getfield 119, 3) := by decide +kernel
theorem dX12_around_20 : decode cX12_around 20 = .ok (.iload_n 1, 1) := by decide +kernel
theorem dX12_around_21 : decode cX12_around 21 = .ok (.iaload, 1) := by decide +kernel
theorem dX12_around_22 : decode cX12_around 22 = .ok (.tableswitch 332 0 7 #[46, 332, 332, 152, 332, 253, 332, 289], 46) := by decide +kernel
theorem dX12_around_68 : decode cX12_around 68 = .ok (.iload_n 3, 1) := by decide +kernel
theorem dX12_around_69 : decode cX12_around 69 = .ok (.ifCond .eq 12, 3) := by decide +kernel
theorem dX12_around_72 : decode cX12_around 72 = .ok (.aload_n 0, 1) := by decide +kernel
theorem dX12_around_73 : decode cX12_around 73 = .ok (.bipush 41, 2) := by decide +kernel
theorem dX12_around_75 : decode cX12_around 75 = .ok (.invokevirtual 783, 3) := by decide +kernel
theorem dX12_around_78 : decode cX12_around 78 = .ok (.goto 300, 3) := by decide +kernel
theorem dX12_around_81 : decode cX12_around 81 = .ok (.iload_n 2, 1) := by decide +kernel
theorem dX12_around_82 : decode cX12_around 82 = .ok (.aload_n 0, 1) := by decide +kernel
theorem dX12_around_83 : decode cX12_around 83 = .ok (.getfield 122, 3) := by decide +kernel
theorem dX12_around_86 : decode cX12_around 86 = .ok (.iload_n 1, 1) := by decide +kernel
theorem dX12_around_87 : decode cX12_around 87 = .ok (.iaload, 1) := by decide +kernel
theorem dX12_around_88 : decode cX12_around 88 = .ok (.if_icmp .ne 22, 3) := by decide +kernel
theorem dX12_around_91 : decode cX12_around 91 = .ok (.aload_n 0, 1) := by decide +kernel
theorem dX12_around_92 : decode cX12_around 92 = .ok (.bipush 32, 2) := by decide +kernel
theorem dX12_around_94 : decode cX12_around 94 = .ok (.bipush 105, 2) := by decide +kernel
theorem dX12_around_96 : decode cX12_around 96 = .ok (.bipush 110, 2) := by decide +kernel
theorem dX12_around_98 : decode cX12_around 98 = .ok (.bipush 32, 2) := by decide +kernel
theorem dX12_around_100 : decode cX12_around 100 = .ok (.iconst 0, 1) := by decide +kernel
theorem dX12_around_101 : decode cX12_around 101 = .ok (.invokestatic 257, 3) := by decide +kernel
theorem dX12_around_104 : decode cX12_around 104 = .ok (.invokevirtual 789, 3) := by decide +kernel
theorem dX12_around_107 : decode cX12_around 107 = .ok (.goto 271, 3) := by decide +kernel
theorem dX12_around_110 : decode cX12_around 110 = .ok (.aload_n 0, 1) := by decide +kernel
theorem dX12_around_111 : decode cX12_around 111 = .ok (.iload_n 2, 1) := by decide +kernel
theorem dX12_around_112 : decode cX12_around 112 = .ok (.ifCond .ne 19, 3) := by decide +kernel
theorem dX12_around_115 : decode cX12_around 115 = .ok (.bipush 40, 2) := by decide +kernel
theorem dX12_around_117 : decode cX12_around 117 = .ok (.bipush 108, 2) := by decide +kernel
theorem dX12_around_119 : decode cX12_around 119 = .ok (.bipush 101, 2) := by decide +kernel
theorem dX12_around_121 : decode cX12_around 121 = .ok (.bipush 116, 2) := by decide +kernel
theorem dX12_around_123 : decode cX12_around 123 = .ok (.bipush 32, 2) := by decide +kernel
theorem dX12_around_125 : decode cX12_around 125 = .ok (.invokestatic 257, 3) := by decide +kernel
theorem dX12_around_128 : decode cX12_around 128 = .ok (.goto 13, 3) := by decide +kernel
theorem dX12_around_131 : decode cX12_around 131 = .ok (.bipush 44, 2) := by decide +kernel
theorem dX12_around_133 : decode cX12_around 133 = .ok (.bipush 32, 2) := by decide +kernel
theorem dX12_around_135 : decode cX12_around 135 = .ok (.iconst 0, 1) := by decide +kernel
theorem dX12_around_136 : decode cX12_around 136 = .ok (.iconst 0, 1) := by decide +kernel
theorem dX12_around_137 : decode cX12_around 137 = .ok (.iconst 0, 1) := by decide +kernel
theorem dX12_around_138 : decode cX12_around 138 = .ok (.invokestatic 257, 3) := by decide +kernel
theorem dX12_around_141 : decode cX12_around 141 = .ok (.invokevirtual 789, 3) := by decide +kernel
theorem dX12_around_144 : decode cX12_around 144 = .ok (.aload_n 0, 1) := by decide +kernel
theorem dX12_around_145 : decode cX12_around 145 = .ok (.aload_n 0, 1) := by decide +kernel
theorem dX12_around_146 : decode cX12_around 146 = .ok (.getfield 131, 3) := by decide +kernel
theorem dX12_around_149 : decode cX12_around 149 = .ok (.iload_n 1, 1) := by decide +kernel
theorem dX12_around_150 : decode cX12_around 150 = .ok (.iaload, 1) := by decide +kernel
theorem dX12_around_151 : decode cX12_around 151 = .ok (.iload_n 2, 1) := by decide +kernel
theorem dX12_around_152 : decode cX12_around 152 = .ok (.iadd, 1) := by decide +kernel
theorem dX12_around_153 : decode cX12_around 153 = .ok (.invokevirtual 792, 3) := by decide +kernel
theorem dX12_around_156 : decode cX12_around 156 = .ok (.aload_n 0, 1) := by decide +kernel
theorem dX12_around_157 : decode cX12_around 157 = .ok (.bipush 32, 2) := by decide +kernel
theorem dX12_around_159 : decode cX12_around 159 = .ok (.bipush 61, 2) := by decide +kernel
theorem dX12_around_161 : decode cX12_around 161 = .ok (.bipush 32, 2) := by decide +kernel
theorem dX12_around_163 : decode cX12_around 163 = .ok (.iconst 0, 1) := by decide +kernel
theorem dX12_around_164 : decode cX12_around 164 = .ok (.iconst 0, 1) := by decide +kernel
theorem dX12_around_165 : decode cX12_around 165 = .ok (.invokestatic 257, 3) := by decide +kernel
theorem dX12_around_168 : decode cX12_around 168 = .ok (.invokevirtual 789, 3) := by decide +kernel
theorem dX12_around_171 : decode cX12_around 171 = .ok (.goto 207, 3) := by decide +kernel
theorem dX12_around_174 : decode cX12_around 174 = .ok (.iload_n 3, 1) := by decide +kernel
theorem dX12_around_175 : decode cX12_around 175 = .ok (.ifCond .eq 20, 3) := by decide +kernel
theorem dX12_around_178 : decode cX12_around 178 = .ok (.aload_n 0, 1) := by decide +kernel
theorem dX12_around_179 : decode cX12_around 179 = .ok (.bipush 125, 2) := by decide +kernel
theorem dX12_around_181 : decode cX12_around 181 = .ok (.bipush 41, 2) := by decide +kernel
theorem dX12_around_183 : decode cX12_around 183 = .ok (.iconst 0, 1) := by decide +kernel
theorem dX12_around_184 : decode cX12_around 184 = .ok (.iconst 0, 1) := by decide +kernel
theorem dX12_around_185 : decode cX12_around 185 = .ok (.iconst 0, 1) := by decide +kernel
theorem dX12_around_186 : decode cX12_around 186 = .ok (.invokestatic 257, 3) := by decide +kernel
theorem dX12_around_189 : decode cX12_around 189 = .ok (.invokevirtual 789, 3) := by decide +kernel
theorem dX12_around_192 : decode cX12_around 192 = .ok (.goto 186, 3) := by decide +kernel
theorem dX12_around_195 : decode cX12_around 195 = .ok (.iload_n 2, 1) := by decide +kernel
theorem dX12_around_196 : decode cX12_around 196 = .ok (.ifCond .ne 29, 3) := by decide +kernel
theorem dX12_around_199 : decode cX12_around 199 = .ok (.aload_n 0, 1) := by decide +kernel
theorem dX12_around_200 : decode cX12_around 200 = .ok (.bipush 40, 2) := by decide +kernel
theorem dX12_around_202 : decode cX12_around 202 = .ok (.bipush 99, 2) := by decide +kernel
theorem dX12_around_204 : decode cX12_around 204 = .ok (.bipush 97, 2) := by decide +kernel
theorem dX12_around_206 : decode cX12_around 206 = .ok (.bipush 115, 2) := by decide +kernel
theorem dX12_around_208 : decode cX12_around 208 = .ok (.bipush 101, 2) := by decide +kernel
theorem dX12_around_210 : decode cX12_around 210 = .ok (.invokestatic 257, 3) := by decide +kernel
theorem dX12_around_213 : decode cX12_around 213 = .ok (.invokevirtual 789, 3) := by decide +kernel
theorem dX12_around_216 : decode cX12_around 216 = .ok (.aload_n 0, 1) := by decide +kernel
theorem dX12_around_217 : decode cX12_around 217 = .ok (.bipush 32, 2) := by decide +kernel
theorem dX12_around_219 : decode cX12_around 219 = .ok (.invokevirtual 783, 3) := by decide +kernel
theorem dX12_around_222 : decode cX12_around 222 = .ok (.goto 156, 3) := by decide +kernel
theorem dX12_around_225 : decode cX12_around 225 = .ok (.aload_n 0, 1) := by decide +kernel
theorem dX12_around_226 : decode cX12_around 226 = .ok (.iload_n 2, 1) := by decide +kernel
theorem dX12_around_227 : decode cX12_around 227 = .ok (.iconst 1, 1) := by decide +kernel
theorem dX12_around_228 : decode cX12_around 228 = .ok (.if_icmp .ne 19, 3) := by decide +kernel
theorem dX12_around_231 : decode cX12_around 231 = .ok (.bipush 32, 2) := by decide +kernel
theorem dX12_around_233 : decode cX12_around 233 = .ok (.bipush 111, 2) := by decide +kernel
theorem dX12_around_235 : decode cX12_around 235 = .ok (.bipush 102, 2) := by decide +kernel
theorem dX12_around_237 : decode cX12_around 237 = .ok (.bipush 32, 2) := by decide +kernel
theorem dX12_around_239 : decode cX12_around 239 = .ok (.bipush 123, 2) := by decide +kernel
theorem dX12_around_241 : decode cX12_around 241 = .ok (.invokestatic 257, 3) := by decide +kernel
theorem dX12_around_244 : decode cX12_around 244 = .ok (.goto 13, 3) := by decide +kernel
theorem dX12_around_247 : decode cX12_around 247 = .ok (.bipush 59, 2) := by decide +kernel
theorem dX12_around_249 : decode cX12_around 249 = .ok (.bipush 32, 2) := by decide +kernel
theorem dX12_around_251 : decode cX12_around 251 = .ok (.iconst 0, 1) := by decide +kernel
theorem dX12_around_252 : decode cX12_around 252 = .ok (.iconst 0, 1) := by decide +kernel
theorem dX12_around_253 : decode cX12_around 253 = .ok (.iconst 0, 1) := by decide +kernel
theorem dX12_around_254 : decode cX12_around 254 = .ok (.invokestatic 257, 3) := by decide +kernel
theorem dX12_around_257 : decode cX12_around 257 = .ok (.invokevirtual 789, 3) := by decide +kernel
theorem dX12_around_260 : decode cX12_around 260 = .ok (.aload_n 0, 1) := by decide +kernel
theorem dX12_around_261 : decode cX12_around 261 = .ok (.aload_n 0, 1) := by decide +kernel
theorem dX12_around_262 : decode cX12_around 262 = .ok (.getfield 125, 3) := by decide +kernel
theorem dX12_around_265 : decode cX12_around 265 = .ok (.iload_n 1, 1) := by decide +kernel
theorem dX12_around_266 : decode cX12_around 266 = .ok (.iaload, 1) := by decide +kernel
theorem dX12_around_267 : decode cX12_around 267 = .ok (.iload_n 2, 1) := by decide +kernel
theorem dX12_around_268 : decode cX12_around 268 = .ok (.iadd, 1) := by decide +kernel
theorem dX12_around_269 : decode cX12_around 269 = .ok (.invokevirtual 795, 3) := by decide +kernel
theorem dX12_around_272 : decode cX12_around 272 = .ok (.goto 106, 3) := by decide +kernel
theorem dX12_around_275 : decode cX12_around 275 = .ok (.iload_n 2, 1) := by decide +kernel
theorem dX12_around_276 : decode cX12_around 276 = .ok (.iconst 1, 1) := by decide +kernel
theorem dX12_around_277 : decode cX12_around 277 = .ok (.if_icmp .ne 16, 3) := by decide +kernel
theorem dX12_around_280 : decode cX12_around 280 = .ok (.aload_n 0, 1) := by decide +kernel
theorem dX12_around_281 : decode cX12_around 281 = .ok (.aload_n 0, 1) := by decide +kernel
theorem dX12_around_282 : decode cX12_around 282 = .ok (.getfield 122, 3) := by decide +kernel
theorem dX12_around_285 : decode cX12_around 285 = .ok (.iload_n 1, 1) := by decide +kernel
theorem dX12_around_286 : decode cX12_around 286 = .ok (.iaload, 1) := by decide +kernel
theorem dX12_around_287 : decode cX12_around 287 = .ok (.invokevirtual 798, 3) := by decide +kernel
theorem dX12_around_290 : decode cX12_around 290 = .ok (.goto 88, 3) := by decide +kernel
theorem dX12_around_293 : decode cX12_around 293 = .ok (.aload_n 0, 1) := by decide +kernel
theorem dX12_around_294 : decode cX12_around 294 = .ok (.iload_n 3, 1) := by decide +kernel
theorem dX12_around_295 : decode cX12_around 295 = .ok (.ifCond .eq 8, 3) := by decide +kernel
theorem dX12_around_298 : decode cX12_around 298 = .ok (.bipush 41, 2) := by decide +kernel
theorem dX12_around_300 : decode cX12_around 300 = .ok (.goto 5, 3) := by decide +kernel
theorem dX12_around_303 : decode cX12_around 303 = .ok (.bipush 40, 2) := by decide +kernel
theorem dX12_around_305 : decode cX12_around 305 = .ok (.invokevirtual 783, 3) := by decide +kernel
theorem dX12_around_308 : decode cX12_around 308 = .ok (.goto 70, 3) := by decide +kernel
theorem dX12_around_311 : decode cX12_around 311 = .ok (.iload_n 2, 1) := by decide +kernel
theorem dX12_around_312 : decode cX12_around 312 = .ok (.ifCond .ne 24, 3) := by decide +kernel
theorem dX12_around_315 : decode cX12_around 315 = .ok (.aload_n 0, 1) := by decide +kernel
theorem dX12_around_316 : decode cX12_around 316 = .ok (.bipush 40, 2) := by decide +kernel
theorem dX12_around_318 : decode cX12_around 318 = .ok (.invokevirtual 783, 3) := by decide +kernel
theorem dX12_around_321 : decode cX12_around 321 = .ok (.aload_n 0, 1) := by decide +kernel
theorem dX12_around_322 : decode cX12_around 322 = .ok (.aload_n 0, 1) := by decide +kernel
theorem dX12_around_323 : decode cX12_around 323 = .ok (.getfield 59, 3) := by decide +kernel
theorem dX12_around_326 : decode cX12_around 326 = .ok (.aload_n 0, 1) := by decide +kernel
theorem dX12_around_327 : decode cX12_around 327 = .ok (.getfield 122, 3) := by decide +kernel
theorem dX12_around_330 : decode cX12_around 330 = .ok (.iload_n 1, 1) := by decide +kernel
theorem dX12_around_331 : decode cX12_around 331 = .ok (.iaload, 1) := by decide +kernel
theorem dX12_around_332 : decode cX12_around 332 = .ok (.laload, 1) := by decide +kernel
theorem dX12_around_333 : decode cX12_around 333 = .ok (.invokevirtual 789, 3) := by decide +kernel
theorem dX12_around_336 : decode cX12_around 336 = .ok (.aload_n 0, 1) := by decide +kernel
theorem dX12_around_337 : decode cX12_around 337 = .ok (.iload_n 3, 1) := by decide +kernel
theorem dX12_around_338 : decode cX12_around 338 = .ok (.ifCond .eq 8, 3) := by decide +kernel
theorem dX12_around_341 : decode cX12_around 341 = .ok (.bipush 41, 2) := by decide +kernel
theorem dX12_around_343 : decode cX12_around 343 = .ok (.goto 5, 3) := by decide +kernel
theorem dX12_around_346 : decode cX12_around 346 = .ok (.bipush 32, 2) := by decide +kernel
theorem dX12_around_348 : decode cX12_around 348 = .ok (.invokevirtual 783, 3) := by decide +kernel
theorem dX12_around_351 : decode cX12_around 351 = .ok (.goto 27, 3) := by decide +kernel
theorem dX12_around_354 : decode cX12_around 354 = .ok (.aload_n 0, 1) := by decide +kernel
theorem dX12_around_355 : decode cX12_around 355 = .ok (.iload_n 3, 1) := by decide +kernel
theorem dX12_around_356 : decode cX12_around 356 = .ok (.ifCond .eq 8, 3) := by decide +kernel
theorem dX12_around_359 : decode cX12_around 359 = .ok (.bipush 41, 2) := by decide +kernel
theorem dX12_around_361 : decode cX12_around 361 = .ok (.goto 14, 3) := by decide +kernel
theorem dX12_around_364 : decode cX12_around 364 = .ok (.iload_n 2, 1) := by decide +kernel
theorem dX12_around_365 : decode cX12_around 365 = .ok (.ifCond .ne 8, 3) := by decide +kernel
theorem dX12_around_368 : decode cX12_around 368 = .ok (.bipush 40, 2) := by decide +kernel
theorem dX12_around_370 : decode cX12_around 370 = .ok (.goto 5, 3) := by decide +kernel
theorem dX12_around_373 : decode cX12_around 373 = .ok (.bipush 32, 2) := by decide +kernel
theorem dX12_around_375 : decode cX12_around 375 = .ok (.invokevirtual 783, 3) := by decide +kernel
theorem dX12_around_378 : decode cX12_around 378 = .ok (.return_, 1) := by decide +kernel
theorem dX12_atom__0 : decode cX12_atom_ 0 = .ok (.aload_n 0, 1) := by decide +kernel
theorem dX12_atom__1 : decode cX12_atom_ 1 = .ok (.getfield 119, 3) := by decide +kernel
theorem dX12_atom__4 : decode cX12_atom_ 4 = .ok (.iload_n 1, 1) := by decide +kernel
theorem dX12_atom__5 : decode cX12_atom_ 5 = .ok (.iaload, 1) := by decide +kernel
theorem dX12_atom__6 : decode cX12_atom_ 6 = .ok (.tableswitch 91 9 13 #[73, 60, 91, 47, 34], 34) := by decide +kernel
theorem dX12_atom__40 : decode cX12_atom_ 40 = .ok (.aload_n 0, 1) := by decide +kernel
theorem dX12_atom__41 : decode cX12_atom_ 41 = .ok (.aload_n 0, 1) := by decide +kernel
theorem dX12_atom__42 : decode cX12_atom_ 42 = .ok (.getfield 122, 3) := by decide +kernel
theorem dX12_atom__45 : decode cX12_atom_ 45 = .ok (.iload_n 1, 1) := by decide +kernel
theorem dX12_atom__46 : decode cX12_atom_ 46 = .ok (.iaload, 1) := by decide +kernel
theorem dX12_atom__47 : decode cX12_atom_ 47 = .ok (.invokevirtual 792, 3) := by decide +kernel
theorem dX12_atom__50 : decode cX12_atom_ 50 = .ok (.goto 63, 3) := by decide +kernel
theorem dX12_atom__53 : decode cX12_atom_ 53 = .ok (.aload_n 0, 1) := by decide +kernel
theorem dX12_atom__54 : decode cX12_atom_ 54 = .ok (.aload_n 0, 1) := by decide +kernel
theorem dX12_atom__55 : decode cX12_atom_ 55 = .ok (.getfield 122, 3) := by decide +kernel
theorem dX12_atom__58 : decode cX12_atom_ 58 = .ok (.iload_n 1, 1) := by decide +kernel
theorem dX12_atom__59 : decode cX12_atom_ 59 = .ok (.iaload, 1) := by decide +kernel
theorem dX12_atom__60 : decode cX12_atom_ 60 = .ok (.invokevirtual 801, 3) := by decide +kernel
theorem dX12_atom__63 : decode cX12_atom_ 63 = .ok (.goto 50, 3) := by decide +kernel
theorem dX12_atom__66 : decode cX12_atom_ 66 = .ok (.aload_n 0, 1) := by decide +kernel
theorem dX12_atom__67 : decode cX12_atom_ 67 = .ok (.aload_n 0, 1) := by decide +kernel
theorem dX12_atom__68 : decode cX12_atom_ 68 = .ok (.getfield 122, 3) := by decide +kernel
theorem dX12_atom__71 : decode cX12_atom_ 71 = .ok (.iload_n 1, 1) := by decide +kernel
theorem dX12_atom__72 : decode cX12_atom_ 72 = .ok (.iaload, 1) := by decide +kernel
theorem dX12_atom__73 : decode cX12_atom_ 73 = .ok (.invokevirtual 786, 3) := by decide +kernel
theorem dX12_atom__76 : decode cX12_atom_ 76 = .ok (.goto 37, 3) := by decide +kernel
theorem dX12_atom__79 : decode cX12_atom_ 79 = .ok (.aload_n 0, 1) := by decide +kernel
theorem dX12_atom__80 : decode cX12_atom_ 80 = .ok (.aload_n 0, 1) := by decide +kernel
theorem dX12_atom__81 : decode cX12_atom_ 81 = .ok (.getfield 59, 3) := by decide +kernel
theorem dX12_atom__84 : decode cX12_atom_ 84 = .ok (.aload_n 0, 1) := by decide +kernel
theorem dX12_atom__85 : decode cX12_atom_ 85 = .ok (.getfield 122, 3) := by decide +kernel
theorem dX12_atom__88 : decode cX12_atom_ 88 = .ok (.iload_n 1, 1) := by decide +kernel
theorem dX12_atom__89 : decode cX12_atom_ 89 = .ok (.iaload, 1) := by decide +kernel
theorem dX12_atom__90 : decode cX12_atom_ 90 = .ok (.laload, 1) := by decide +kernel
theorem dX12_atom__91 : decode cX12_atom_ 91 = .ok (.invokevirtual 789, 3) := by decide +kernel
theorem dX12_atom__94 : decode cX12_atom_ 94 = .ok (.goto 19, 3) := by decide +kernel
theorem dX12_atom__97 : decode cX12_atom_ 97 = .ok (.aload_n 0, 1) := by decide +kernel
theorem dX12_atom__98 : decode cX12_atom_ 98 = .ok (.bipush 102, 2) := by decide +kernel
theorem dX12_atom__100 : decode cX12_atom_ 100 = .ok (.bipush 97, 2) := by decide +kernel
theorem dX12_atom__102 : decode cX12_atom_ 102 = .ok (.bipush 105, 2) := by decide +kernel
theorem dX12_atom__104 : decode cX12_atom_ 104 = .ok (.bipush 108, 2) := by decide +kernel
theorem dX12_atom__106 : decode cX12_atom_ 106 = .ok (.iconst 0, 1) := by decide +kernel
theorem dX12_atom__107 : decode cX12_atom_ 107 = .ok (.invokestatic 257, 3) := by decide +kernel
theorem dX12_atom__110 : decode cX12_atom_ 110 = .ok (.invokevirtual 789, 3) := by decide +kernel
theorem dX12_atom__113 : decode cX12_atom_ 113 = .ok (.return_, 1) := by decide +kernel
theorem dX12_bit_0 : decode cX12_bit 0 = .ok (.aload_n 0, 1) := by decide +kernel
theorem dX12_bit_1 : decode cX12_bit 1 = .ok (.aload_n 0, 1) := by decide +kernel
theorem dX12_bit_2 : decode cX12_bit 2 = .ok (.iload_n 1, 1) := by decide +kernel
theorem dX12_bit_3 : decode cX12_bit 3 = .ok (.invokevirtual 811, 3) := by decide +kernel
theorem dX12_bit_6 : decode cX12_bit 6 = .ok (.putfield 251, 3) := by decide +kernel
theorem dX12_bit_9 : decode cX12_bit 9 = .ok (.aload_n 0, 1) := by decide +kernel
theorem dX12_bit_10 : decode cX12_bit 10 = .ok (.aload_n 0, 1) := by decide +kernel
theorem dX12_bit_11 : decode cX12_bit 11 = .ok (.getfield 251, 3) := by decide +kernel
theorem dX12_bit_14 : decode cX12_bit 14 = .ok (.ifCond .le 10, 3) := by decide +kernel
theorem dX12_bit_17 : decode cX12_bit 17 = .ok (.aload_n 0, 1) := by decide +kernel
theorem dX12_bit_18 : decode cX12_bit 18 = .ok (.getfield 251, 3) := by decide +kernel
theorem dX12_bit_21 : decode cX12_bit 21 = .ok (.goto 24, 3) := by decide +kernel
theorem dX12_bit_24 : decode cX12_bit 24 = .ok (.iload_n 2, 1) := by decide +kernel
theorem dX12_bit_25 : decode cX12_bit 25 = .ok (.ifCond .lt 15, 3) := by decide +kernel
theorem dX12_bit_28 : decode cX12_bit 28 = .ok (.iload_n 2, 1) := by decide +kernel
theorem dX12_bit_29 : decode cX12_bit 29 = .ok (.iconst 1, 1) := by decide +kernel
theorem dX12_bit_30 : decode cX12_bit 30 = .ok (.aload_n 0, 1) := by decide +kernel
theorem dX12_bit_31 : decode cX12_bit 31 = .ok (.getfield 171, 3) := by decide +kernel
theorem dX12_bit_34 : decode cX12_bit 34 = .ok (.iload_n 1, 1) := by decide +kernel
theorem dX12_bit_35 : decode cX12_bit 35 = .ok (.iaload, 1) := by decide +kernel
theorem dX12_bit_36 : decode cX12_bit 36 = .ok (.ishl, 1) := by decide +kernel
theorem dX12_bit_37 : decode cX12_bit 37 = .ok (.if_icmp .lt 7, 3) := by decide +kernel
theorem dX12_bit_40 : decode cX12_bit 40 = .ok (.iconst 3, 1) := by decide +kernel
theorem dX12_bit_41 : decode cX12_bit 41 = .ok (.goto 4, 3) := by decide +kernel
theorem dX12_bit_44 : decode cX12_bit 44 = .ok (.iconst 0, 1) := by decide +kernel
theorem dX12_bit_45 : decode cX12_bit 45 = .ok (.putfield 251, 3) := by decide +kernel
theorem dX12_bit_48 : decode cX12_bit 48 = .ok (.aload_n 0, 1) := by decide +kernel
theorem dX12_bit_49 : decode cX12_bit 49 = .ok (.getfield 251, 3) := by decide +kernel
theorem dX12_bit_52 : decode cX12_bit 52 = .ok (.ifCond .ne 16, 3) := by decide +kernel
theorem dX12_bit_55 : decode cX12_bit 55 = .ok (.aload_n 0, 1) := by decide +kernel
theorem dX12_bit_56 : decode cX12_bit 56 = .ok (.iload_n 1, 1) := by decide +kernel
theorem dX12_bit_57 : decode cX12_bit 57 = .ok (.iload_n 2, 1) := by decide +kernel
theorem dX12_bit_58 : decode cX12_bit 58 = .ok (.invokevirtual 554, 3) := by decide +kernel
theorem dX12_bit_61 : decode cX12_bit 61 = .ok (.ifCond .eq 7, 3) := by decide +kernel
theorem dX12_bit_64 : decode cX12_bit 64 = .ok (.iconst 1, 1) := by decide +kernel
theorem dX12_bit_65 : decode cX12_bit 65 = .ok (.goto 4, 3) := by decide +kernel
theorem dX12_bit_68 : decode cX12_bit 68 = .ok (.iconst 0, 1) := by decide +kernel
theorem dX12_bit_69 : decode cX12_bit 69 = .ok (.ireturn, 1) := by decide +kernel
theorem dX12_called_0 : decode cX12_called 0 = .ok (.aload_n 0, 1) := by decide +kernel
theorem dX12_called_1 : decode cX12_called 1 = .ok (.aload_n 0, 1) := by decide +kernel
theorem dX12_called_2 : decode cX12_called 2 = .ok (.iload_n 1, 1) := by decide +kernel
theorem dX12_called_3 : decode cX12_called 3 = .ok (.invokevirtual 811, 3) := by decide +kernel
theorem dX12_called_6 : decode cX12_called 6 = .ok (.putfield 251, 3) := by decide +kernel
theorem dX12_called_9 : decode cX12_called 9 = .ok (.aload_n 0, 1) := by decide +kernel
theorem dX12_called_10 : decode cX12_called 10 = .ok (.getfield 251, 3) := by decide +kernel
theorem dX12_called_13 : decode cX12_called 13 = .ok (.ifCond .le 7, 3) := by decide +kernel
theorem dX12_called_16 : decode cX12_called 16 = .ok (.iconst 0, 1) := by decide +kernel
theorem dX12_called_17 : decode cX12_called 17 = .ok (.goto 9, 3) := by decide +kernel
theorem dX12_called_20 : decode cX12_called 20 = .ok (.aload_n 0, 1) := by decide +kernel
theorem dX12_called_21 : decode cX12_called 21 = .ok (.getfield 212, 3) := by decide +kernel
theorem dX12_called_24 : decode cX12_called 24 = .ok (.iload_n 1, 1) := by decide +kernel
theorem dX12_called_25 : decode cX12_called 25 = .ok (.iaload, 1) := by decide +kernel
theorem dX12_called_26 : decode cX12_called 26 = .ok (.ireturn, 1) := by decide +kernel
theorem dX12_codeOf_0 : decode cX12_codeOf 0 = .ok (.aload_n 0, 1) := by decide +kernel
theorem dX12_codeOf_1 : decode cX12_codeOf 1 = .ok (.getfield 570, 3) := by decide +kernel
theorem dX12_codeOf_4 : decode cX12_codeOf 4 = .ok (.ifCond .ne 7, 3) := by decide +kernel
theorem dX12_codeOf_7 : decode cX12_codeOf 7 = .ok (.iconst 1, 1) := by decide +kernel
theorem dX12_codeOf_8 : decode cX12_codeOf 8 = .ok (.goto 20, 3) := by decide +kernel
theorem dX12_codeOf_11 : decode cX12_codeOf 11 = .ok (.iload_n 1, 1) := by decide +kernel
theorem dX12_codeOf_12 : decode cX12_codeOf 12 = .ok (.ifCond .lt 11, 3) := by decide +kernel
theorem dX12_codeOf_15 : decode cX12_codeOf 15 = .ok (.iload_n 1, 1) := by decide +kernel
theorem dX12_codeOf_16 : decode cX12_codeOf 16 = .ok (.aload_n 0, 1) := by decide +kernel
theorem dX12_codeOf_17 : decode cX12_codeOf 17 = .ok (.getfield 486, 3) := by decide +kernel
theorem dX12_codeOf_20 : decode cX12_codeOf 20 = .ok (.if_icmp .lt 7, 3) := by decide +kernel
theorem dX12_codeOf_23 : decode cX12_codeOf 23 = .ok (.iconst 2, 1) := by decide +kernel
theorem dX12_codeOf_24 : decode cX12_codeOf 24 = .ok (.goto 4, 3) := by decide +kernel
theorem dX12_codeOf_27 : decode cX12_codeOf 27 = .ok (.iconst 0, 1) := by decide +kernel
theorem dX12_codeOf_28 : decode cX12_codeOf 28 = .ok (.ireturn, 1) := by decide +kernel
theorem dX12_function_0 : decode cX12_function 0 = .ok (.aload_n 0, 1) := by decide +kernel
theorem dX12_function_1 : decode cX12_function 1 = .ok (.aload_n 0, 1) := by decide +kernel
theorem dX12_function_2 : decode cX12_function 2 = .ok (.iload_n 1, 1) := by decide +kernel
theorem dX12_function_3 : decode cX12_function 3 = .ok (.invokevirtual 811, 3) := by decide +kernel
theorem dX12_function_6 : decode cX12_function 6 = .ok (.putfield 251, 3) := by decide +kernel
theorem dX12_function_9 : decode cX12_function 9 = .ok (.aload_n 0, 1) := by decide +kernel
theorem dX12_function_10 : decode cX12_function 10 = .ok (.aload_n 0, 1) := by decide +kernel
theorem dX12_function_11 : decode cX12_function 11 = .ok (.getfield 251, 3) := by decide +kernel
theorem dX12_function_14 : decode cX12_function 14 = .ok (.ifCond .le 10, 3) := by decide +kernel
theorem dX12_function_17 : decode cX12_function 17 = .ok (.aload_n 0, 1) := by decide +kernel
theorem dX12_function_18 : decode cX12_function 18 = .ok (.getfield 251, 3) := by decide +kernel
theorem dX12_function_21 : decode cX12_function 21 = .ok (.goto 17, 3) := by decide +kernel
theorem dX12_function_24 : decode cX12_function 24 = .ok (.iload_n 2, 1) := by decide +kernel
theorem dX12_function_25 : decode cX12_function 25 = .ok (.ifCond .lt 8, 3) := by decide +kernel
theorem dX12_function_28 : decode cX12_function 28 = .ok (.iload_n 2, 1) := by decide +kernel
theorem dX12_function_29 : decode cX12_function 29 = .ok (.iconst 5, 1) := by decide +kernel
theorem dX12_function_30 : decode cX12_function 30 = .ok (.if_icmp .le 7, 3) := by decide +kernel
theorem dX12_function_33 : decode cX12_function 33 = .ok (.iconst 3, 1) := by decide +kernel
theorem dX12_function_34 : decode cX12_function 34 = .ok (.goto 4, 3) := by decide +kernel
theorem dX12_function_37 : decode cX12_function 37 = .ok (.iconst 0, 1) := by decide +kernel
theorem dX12_function_38 : decode cX12_function 38 = .ok (.putfield 251, 3) := by decide +kernel
theorem dX12_function_41 : decode cX12_function 41 = .ok (.aload_n 0, 1) := by decide +kernel
theorem dX12_function_42 : decode cX12_function 42 = .ok (.getfield 251, 3) := by decide +kernel
theorem dX12_function_45 : decode cX12_function 45 = .ok (.ifCond .le 5, 3) := by decide +kernel
theorem dX12_function_48 : decode cX12_function 48 = .ok (.iconst 0, 1) := by decide +kernel
theorem dX12_function_49 : decode cX12_function 49 = .ok (.ireturn, 1) := by decide +kernel
theorem dX12_function_50 : decode cX12_function 50 = .ok (.iload_n 2, 1) := by decide +kernel
theorem dX12_function_51 : decode cX12_function 51 = .ok (.tableswitch 117 0 4 #[33, 40, 47, 54, 70], 33) := by decide +kernel
theorem dX12_function_84 : decode cX12_function 84 = .ok (.aload_n 0, 1) := by decide +kernel
theorem dX12_function_85 : decode cX12_function 85 = .ok (.getfield 171, 3) := by decide +kernel
theorem dX12_function_88 : decode cX12_function 88 = .ok (.iload_n 1, 1) := by decide +kernel
theorem dX12_function_89 : decode cX12_function 89 = .ok (.iaload, 1) := by decide +kernel
theorem dX12_function_90 : decode cX12_function 90 = .ok (.ireturn, 1) := by decide +kernel
theorem dX12_function_91 : decode cX12_function 91 = .ok (.aload_n 0, 1) := by decide +kernel
theorem dX12_function_92 : decode cX12_function 92 = .ok (.getfield 83, 3) := by decide +kernel
theorem dX12_function_95 : decode cX12_function 95 = .ok (.iload_n 1, 1) := by decide +kernel
theorem dX12_function_96 : decode cX12_function 96 = .ok (.iaload, 1) := by decide +kernel
theorem dX12_function_97 : decode cX12_function 97 = .ok (.ireturn, 1) := by decide +kernel
theorem dX12_function_98 : decode cX12_function 98 = .ok (.aload_n 0, 1) := by decide +kernel
theorem dX12_function_99 : decode cX12_function 99 = .ok (.getfield 168, 3) := by decide +kernel
theorem dX12_function_102 : decode cX12_function 102 = .ok (.iload_n 1, 1) := by decide +kernel
theorem dX12_function_103 : decode cX12_function 103 = .ok (.iaload, 1) := by decide +kernel
theorem dX12_function_104 : decode cX12_function 104 = .ok (.ireturn, 1) := by decide +kernel
theorem dX12_function_105 : decode cX12_function 105 = .ok (.aload_n 0, 1) := by decide +kernel
theorem dX12_function_106 : decode cX12_function 106 = .ok (.getfield 165, 3) := by decide +kernel
theorem dX12_function_109 : decode cX12_function 109 = .ok (.iload_n 1, 1) := by decide +kernel
theorem dX12_function_110 : decode cX12_function 110 = .ok (.iaload, 1) := by decide +kernel
theorem dX12_function_111 : decode cX12_function 111 = .ok (.aload_n 0, 1) := by decide +kernel
theorem dX12_function_112 : decode cX12_function 112 = .ok (.getfield 162, 3) := by decide +kernel
theorem dX12_function_115 : decode cX12_function 115 = .ok (.iload_n 1, 1) := by decide +kernel
theorem dX12_function_116 : decode cX12_function 116 = .ok (.iaload, 1) := by decide +kernel
theorem dX12_function_117 : decode cX12_function 117 = .ok (.isub, 1) := by decide +kernel
theorem dX12_function_118 : decode cX12_function 118 = .ok (.iconst 1, 1) := by decide +kernel
theorem dX12_function_119 : decode cX12_function 119 = .ok (.iadd, 1) := by decide +kernel
theorem dX12_function_120 : decode cX12_function 120 = .ok (.ireturn, 1) := by decide +kernel
theorem dX12_function_121 : decode cX12_function 121 = .ok (.iconst 0, 1) := by decide +kernel
theorem dX12_function_122 : decode cX12_function 122 = .ok (.istore_n 3, 1) := by decide +kernel
theorem dX12_function_123 : decode cX12_function 123 = .ok (.aload_n 0, 1) := by decide +kernel
theorem dX12_function_124 : decode cX12_function 124 = .ok (.getfield 162, 3) := by decide +kernel
theorem dX12_function_127 : decode cX12_function 127 = .ok (.iload_n 1, 1) := by decide +kernel
theorem dX12_function_128 : decode cX12_function 128 = .ok (.iaload, 1) := by decide +kernel
theorem dX12_function_129 : decode cX12_function 129 = .ok (.istore 4, 2) := by decide +kernel
theorem dX12_function_131 : decode cX12_function 131 = .ok (.iload 4, 2) := by decide +kernel
theorem dX12_function_133 : decode cX12_function 133 = .ok (.aload_n 0, 1) := by decide +kernel
theorem dX12_function_134 : decode cX12_function 134 = .ok (.getfield 165, 3) := by decide +kernel
theorem dX12_function_137 : decode cX12_function 137 = .ok (.iload_n 1, 1) := by decide +kernel
theorem dX12_function_138 : decode cX12_function 138 = .ok (.iaload, 1) := by decide +kernel
theorem dX12_function_139 : decode cX12_function 139 = .ok (.if_icmp .gt 27, 3) := by decide +kernel
theorem dX12_function_142 : decode cX12_function 142 = .ok (.iload_n 3, 1) := by decide +kernel
theorem dX12_function_143 : decode cX12_function 143 = .ok (.aload_n 0, 1) := by decide +kernel
theorem dX12_function_144 : decode cX12_function 144 = .ok (.getfield 134, 3) := by decide +kernel
theorem dX12_function_147 : decode cX12_function 147 = .ok (.iload 4, 2) := by decide +kernel
theorem dX12_function_149 : decode cX12_function 149 = .ok (.baload, 1) := by decide +kernel
theorem dX12_function_150 : decode cX12_function 150 = .ok (.ifCond .eq 7, 3) := by decide +kernel
theorem dX12_function_153 : decode cX12_function 153 = .ok (.iconst 1, 1) := by decide +kernel
theorem dX12_function_154 : decode cX12_function 154 = .ok (.goto 4, 3) := by decide +kernel
theorem dX12_function_157 : decode cX12_function 157 = .ok (.iconst 0, 1) := by decide +kernel
theorem dX12_function_158 : decode cX12_function 158 = .ok (.iadd, 1) := by decide +kernel
theorem dX12_function_159 : decode cX12_function 159 = .ok (.istore_n 3, 1) := by decide +kernel
theorem dX12_function_160 : decode cX12_function 160 = .ok (.iinc 4 1, 3) := by decide +kernel
theorem dX12_function_163 : decode cX12_function 163 = .ok (.goto (-32), 3) := by decide +kernel
theorem dX12_function_166 : decode cX12_function 166 = .ok (.iload_n 3, 1) := by decide +kernel
theorem dX12_function_167 : decode cX12_function 167 = .ok (.ireturn, 1) := by decide +kernel
theorem dX12_function_168 : decode cX12_function 168 = .ok (.aload_n 0, 1) := by decide +kernel
theorem dX12_function_169 : decode cX12_function 169 = .ok (.getfield 138, 3) := by decide +kernel
theorem dX12_function_172 : decode cX12_function 172 = .ok (.aload_n 0, 1) := by decide +kernel
theorem dX12_function_173 : decode cX12_function 173 = .ok (.getfield 165, 3) := by decide +kernel
theorem dX12_function_176 : decode cX12_function 176 = .ok (.iload_n 1, 1) := by decide +kernel
theorem dX12_function_177 : decode cX12_function 177 = .ok (.iaload, 1) := by decide +kernel
theorem dX12_function_178 : decode cX12_function 178 = .ok (.iaload, 1) := by decide +kernel
theorem dX12_function_179 : decode cX12_function 179 = .ok (.ireturn, 1) := by decide +kernel
theorem dX12_letter_0 : decode cX12_letter 0 = .ok (.aload_n 0, 1) := by decide +kernel
theorem dX12_letter_1 : decode cX12_letter 1 = .ok (.iload_n 1, 1) := by decide +kernel
theorem dX12_letter_2 : decode cX12_letter 2 = .ok (.ifCond .ge 7, 3) := by decide +kernel
theorem dX12_letter_5 : decode cX12_letter 5 = .ok (.iconst 1, 1) := by decide +kernel
theorem dX12_letter_6 : decode cX12_letter 6 = .ok (.goto 4, 3) := by decide +kernel
theorem dX12_letter_9 : decode cX12_letter 9 = .ok (.iconst 0, 1) := by decide +kernel
theorem dX12_letter_10 : decode cX12_letter 10 = .ok (.putfield 251, 3) := by decide +kernel
theorem dX12_letter_13 : decode cX12_letter 13 = .ok (.aload_n 0, 1) := by decide +kernel
theorem dX12_letter_14 : decode cX12_letter 14 = .ok (.getfield 251, 3) := by decide +kernel
theorem dX12_letter_17 : decode cX12_letter 17 = .ok (.ifCond .le 7, 3) := by decide +kernel
theorem dX12_letter_20 : decode cX12_letter 20 = .ok (.iconst 0, 1) := by decide +kernel
theorem dX12_letter_21 : decode cX12_letter 21 = .ok (.goto 21, 3) := by decide +kernel
theorem dX12_letter_24 : decode cX12_letter 24 = .ok (.iload_n 1, 1) := by decide +kernel
theorem dX12_letter_25 : decode cX12_letter 25 = .ok (.aload_n 0, 1) := by decide +kernel
theorem dX12_letter_26 : decode cX12_letter 26 = .ok (.getfield 777, 3) := by decide +kernel
theorem dX12_letter_29 : decode cX12_letter 29 = .ok (.if_icmp .ge 12, 3) := by decide +kernel
theorem dX12_letter_32 : decode cX12_letter 32 = .ok (.aload_n 0, 1) := by decide +kernel
theorem dX12_letter_33 : decode cX12_letter 33 = .ok (.getfield 13, 3) := by decide +kernel
theorem dX12_letter_36 : decode cX12_letter 36 = .ok (.iload_n 1, 1) := by decide +kernel
theorem dX12_letter_37 : decode cX12_letter 37 = .ok (.iaload, 1) := by decide +kernel
theorem dX12_letter_38 : decode cX12_letter 38 = .ok (.goto 4, 3) := by decide +kernel
theorem dX12_letter_41 : decode cX12_letter 41 = .ok (.iconst (-1), 1) := by decide +kernel
theorem dX12_letter_42 : decode cX12_letter 42 = .ok (.ireturn, 1) := by decide +kernel
theorem dX12_needs_0 : decode cX12_needs 0 = .ok (.aload_n 0, 1) := by decide +kernel
theorem dX12_needs_1 : decode cX12_needs 1 = .ok (.aload_n 0, 1) := by decide +kernel
theorem dX12_needs_2 : decode cX12_needs 2 = .ok (.iload_n 1, 1) := by decide +kernel
theorem dX12_needs_3 : decode cX12_needs 3 = .ok (.invokevirtual 811, 3) := by decide +kernel
theorem dX12_needs_6 : decode cX12_needs 6 = .ok (.putfield 251, 3) := by decide +kernel
theorem dX12_needs_9 : decode cX12_needs 9 = .ok (.aload_n 0, 1) := by decide +kernel
theorem dX12_needs_10 : decode cX12_needs 10 = .ok (.aload_n 0, 1) := by decide +kernel
theorem dX12_needs_11 : decode cX12_needs 11 = .ok (.getfield 251, 3) := by decide +kernel
theorem dX12_needs_14 : decode cX12_needs 14 = .ok (.ifCond .le 10, 3) := by decide +kernel
theorem dX12_needs_17 : decode cX12_needs 17 = .ok (.aload_n 0, 1) := by decide +kernel
theorem dX12_needs_18 : decode cX12_needs 18 = .ok (.getfield 251, 3) := by decide +kernel
theorem dX12_needs_21 : decode cX12_needs 21 = .ok (.goto 22, 3) := by decide +kernel
theorem dX12_needs_24 : decode cX12_needs 24 = .ok (.iload_n 2, 1) := by decide +kernel
theorem dX12_needs_25 : decode cX12_needs 25 = .ok (.ifCond .lt 13, 3) := by decide +kernel
theorem dX12_needs_28 : decode cX12_needs 28 = .ok (.iload_n 2, 1) := by decide +kernel
theorem dX12_needs_29 : decode cX12_needs 29 = .ok (.aload_n 0, 1) := by decide +kernel
theorem dX12_needs_30 : decode cX12_needs 30 = .ok (.getfield 171, 3) := by decide +kernel
theorem dX12_needs_33 : decode cX12_needs 33 = .ok (.iload_n 1, 1) := by decide +kernel
theorem dX12_needs_34 : decode cX12_needs 34 = .ok (.iaload, 1) := by decide +kernel
theorem dX12_needs_35 : decode cX12_needs 35 = .ok (.if_icmp .lt 7, 3) := by decide +kernel
theorem dX12_needs_38 : decode cX12_needs 38 = .ok (.iconst 2, 1) := by decide +kernel
theorem dX12_needs_39 : decode cX12_needs 39 = .ok (.goto 4, 3) := by decide +kernel
theorem dX12_needs_42 : decode cX12_needs 42 = .ok (.iconst 0, 1) := by decide +kernel
theorem dX12_needs_43 : decode cX12_needs 43 = .ok (.putfield 251, 3) := by decide +kernel
theorem dX12_needs_46 : decode cX12_needs 46 = .ok (.aload_n 0, 1) := by decide +kernel
theorem dX12_needs_47 : decode cX12_needs 47 = .ok (.getfield 251, 3) := by decide +kernel
theorem dX12_needs_50 : decode cX12_needs 50 = .ok (.ifCond .ne 21, 3) := by decide +kernel
theorem dX12_needs_53 : decode cX12_needs 53 = .ok (.aload_n 0, 1) := by decide +kernel
theorem dX12_needs_54 : decode cX12_needs 54 = .ok (.getfield 191, 3) := by decide +kernel
theorem dX12_needs_57 : decode cX12_needs 57 = .ok (.bipush 8, 2) := by decide +kernel
theorem dX12_needs_59 : decode cX12_needs 59 = .ok (.iload_n 1, 1) := by decide +kernel
theorem dX12_needs_60 : decode cX12_needs 60 = .ok (.imul, 1) := by decide +kernel
theorem dX12_needs_61 : decode cX12_needs 61 = .ok (.iload_n 2, 1) := by decide +kernel
theorem dX12_needs_62 : decode cX12_needs 62 = .ok (.iadd, 1) := by decide +kernel
theorem dX12_needs_63 : decode cX12_needs 63 = .ok (.baload, 1) := by decide +kernel
theorem dX12_needs_64 : decode cX12_needs 64 = .ok (.ifCond .eq 7, 3) := by decide +kernel
theorem dX12_needs_67 : decode cX12_needs 67 = .ok (.iconst 1, 1) := by decide +kernel
theorem dX12_needs_68 : decode cX12_needs 68 = .ok (.goto 4, 3) := by decide +kernel
theorem dX12_needs_71 : decode cX12_needs 71 = .ok (.iconst 0, 1) := by decide +kernel
theorem dX12_needs_72 : decode cX12_needs 72 = .ok (.ireturn, 1) := by decide +kernel
theorem dX12_number_0 : decode cX12_number 0 = .ok (.aload_n 0, 1) := by decide +kernel
theorem dX12_number_1 : decode cX12_number 1 = .ok (.iload_n 1, 1) := by decide +kernel
theorem dX12_number_2 : decode cX12_number 2 = .ok (.ifCond .lt 11, 3) := by decide +kernel
theorem dX12_number_5 : decode cX12_number 5 = .ok (.iload_n 1, 1) := by decide +kernel
theorem dX12_number_6 : decode cX12_number 6 = .ok (.aload_n 0, 1) := by decide +kernel
theorem dX12_number_7 : decode cX12_number 7 = .ok (.getfield 760, 3) := by decide +kernel
theorem dX12_number_10 : decode cX12_number 10 = .ok (.if_icmp .lt 7, 3) := by decide +kernel
theorem dX12_number_13 : decode cX12_number 13 = .ok (.iconst 1, 1) := by decide +kernel
theorem dX12_number_14 : decode cX12_number 14 = .ok (.goto 4, 3) := by decide +kernel
theorem dX12_number_17 : decode cX12_number 17 = .ok (.iconst 0, 1) := by decide +kernel
theorem dX12_number_18 : decode cX12_number 18 = .ok (.putfield 251, 3) := by decide +kernel
theorem dX12_number_21 : decode cX12_number 21 = .ok (.aload_n 0, 1) := by decide +kernel
theorem dX12_number_22 : decode cX12_number 22 = .ok (.getfield 251, 3) := by decide +kernel
theorem dX12_number_25 : decode cX12_number 25 = .ok (.ifCond .le 7, 3) := by decide +kernel
theorem dX12_number_28 : decode cX12_number 28 = .ok (.iconst 0, 1) := by decide +kernel
theorem dX12_number_29 : decode cX12_number 29 = .ok (.goto 9, 3) := by decide +kernel
theorem dX12_number_32 : decode cX12_number 32 = .ok (.aload_n 0, 1) := by decide +kernel
theorem dX12_number_33 : decode cX12_number 33 = .ok (.getfield 215, 3) := by decide +kernel
theorem dX12_number_36 : decode cX12_number 36 = .ok (.iload_n 1, 1) := by decide +kernel
theorem dX12_number_37 : decode cX12_number 37 = .ok (.iaload, 1) := by decide +kernel
theorem dX12_number_38 : decode cX12_number 38 = .ok (.ireturn, 1) := by decide +kernel
theorem dX12_result_0 : decode cX12_result 0 = .ok (.aload_n 0, 1) := by decide +kernel
theorem dX12_result_1 : decode cX12_result 1 = .ok (.iload_n 1, 1) := by decide +kernel
theorem dX12_result_2 : decode cX12_result 2 = .ok (.ifCond .lt 9, 3) := by decide +kernel
theorem dX12_result_5 : decode cX12_result 5 = .ok (.iload_n 1, 1) := by decide +kernel
theorem dX12_result_6 : decode cX12_result 6 = .ok (.bipush 9, 2) := by decide +kernel
theorem dX12_result_8 : decode cX12_result 8 = .ok (.if_icmp .le 7, 3) := by decide +kernel
theorem dX12_result_11 : decode cX12_result 11 = .ok (.iconst 1, 1) := by decide +kernel
theorem dX12_result_12 : decode cX12_result 12 = .ok (.goto 4, 3) := by decide +kernel
theorem dX12_result_15 : decode cX12_result 15 = .ok (.iconst 0, 1) := by decide +kernel
theorem dX12_result_16 : decode cX12_result 16 = .ok (.putfield 251, 3) := by decide +kernel
theorem dX12_result_19 : decode cX12_result 19 = .ok (.iload_n 1, 1) := by decide +kernel
theorem dX12_result_20 : decode cX12_result 20 = .ok (.tableswitch 97 0 8 #[52, 57, 62, 67, 72, 77, 82, 87, 92], 52) := by decide +kernel
theorem dX12_result_72 : decode cX12_result 72 = .ok (.aload_n 0, 1) := by decide +kernel
theorem dX12_result_73 : decode cX12_result 73 = .ok (.getfield 605, 3) := by decide +kernel
theorem dX12_result_76 : decode cX12_result 76 = .ok (.ireturn, 1) := by decide +kernel
theorem dX12_result_77 : decode cX12_result 77 = .ok (.aload_n 0, 1) := by decide +kernel
theorem dX12_result_78 : decode cX12_result 78 = .ok (.getfield 608, 3) := by decide +kernel
theorem dX12_result_81 : decode cX12_result 81 = .ok (.ireturn, 1) := by decide +kernel
theorem dX12_result_82 : decode cX12_result 82 = .ok (.aload_n 0, 1) := by decide +kernel
theorem dX12_result_83 : decode cX12_result 83 = .ok (.getfield 733, 3) := by decide +kernel
theorem dX12_result_86 : decode cX12_result 86 = .ok (.ireturn, 1) := by decide +kernel
theorem dX12_result_87 : decode cX12_result 87 = .ok (.aload_n 0, 1) := by decide +kernel
theorem dX12_result_88 : decode cX12_result 88 = .ok (.getfield 626, 3) := by decide +kernel
theorem dX12_result_91 : decode cX12_result 91 = .ok (.ireturn, 1) := by decide +kernel
theorem dX12_result_92 : decode cX12_result 92 = .ok (.aload_n 0, 1) := by decide +kernel
theorem dX12_result_93 : decode cX12_result 93 = .ok (.getfield 641, 3) := by decide +kernel
theorem dX12_result_96 : decode cX12_result 96 = .ok (.ireturn, 1) := by decide +kernel
theorem dX12_result_97 : decode cX12_result 97 = .ok (.aload_n 0, 1) := by decide +kernel
theorem dX12_result_98 : decode cX12_result 98 = .ok (.getfield 644, 3) := by decide +kernel
theorem dX12_result_101 : decode cX12_result 101 = .ok (.ireturn, 1) := by decide +kernel
theorem dX12_result_102 : decode cX12_result 102 = .ok (.aload_n 0, 1) := by decide +kernel
theorem dX12_result_103 : decode cX12_result 103 = .ok (.getfield 647, 3) := by decide +kernel
theorem dX12_result_106 : decode cX12_result 106 = .ok (.ireturn, 1) := by decide +kernel
theorem dX12_result_107 : decode cX12_result 107 = .ok (.aload_n 0, 1) := by decide +kernel
theorem dX12_result_108 : decode cX12_result 108 = .ok (.getfield 740, 3) := by decide +kernel
theorem dX12_result_111 : decode cX12_result 111 = .ok (.ireturn, 1) := by decide +kernel
theorem dX12_result_112 : decode cX12_result 112 = .ok (.aload_n 0, 1) := by decide +kernel
theorem dX12_result_113 : decode cX12_result 113 = .ok (.getfield 709, 3) := by decide +kernel
theorem dX12_result_116 : decode cX12_result 116 = .ok (.ireturn, 1) := by decide +kernel
theorem dX12_result_117 : decode cX12_result 117 = .ok (.aload_n 0, 1) := by decide +kernel
theorem dX12_result_118 : decode cX12_result 118 = .ok (.getfield 251, 3) := by decide +kernel
theorem dX12_result_121 : decode cX12_result 121 = .ok (.ifCond .le 7, 3) := by decide +kernel
theorem dX12_result_124 : decode cX12_result 124 = .ok (.iconst 0, 1) := by decide +kernel
theorem dX12_result_125 : decode cX12_result 125 = .ok (.goto 7, 3) := by decide +kernel
theorem dX12_result_128 : decode cX12_result 128 = .ok (.aload_n 0, 1) := by decide +kernel
theorem dX12_result_129 : decode cX12_result 129 = .ok (.getfield 760, 3) := by decide +kernel
theorem dX12_result_132 : decode cX12_result 132 = .ok (.ireturn, 1) := by decide +kernel
theorem dX12_write_0 : decode cX12_write 0 = .ok (.aload_n 0, 1) := by decide +kernel
theorem dX12_write_1 : decode cX12_write 1 = .ok (.aload_n 0, 1) := by decide +kernel
theorem dX12_write_2 : decode cX12_write 2 = .ok (.getfield 570, 3) := by decide +kernel
theorem dX12_write_5 : decode cX12_write 5 = .ok (.ifCond .eq 7, 3) := by decide +kernel
theorem dX12_write_8 : decode cX12_write 8 = .ok (.iconst 0, 1) := by decide +kernel
theorem dX12_write_9 : decode cX12_write 9 = .ok (.goto 4, 3) := by decide +kernel
theorem dX12_write_12 : decode cX12_write 12 = .ok (.iconst 1, 1) := by decide +kernel
theorem dX12_write_13 : decode cX12_write 13 = .ok (.putfield 251, 3) := by decide +kernel
theorem dX12_write_16 : decode cX12_write 16 = .ok (.aload_n 0, 1) := by decide +kernel
theorem dX12_write_17 : decode cX12_write 17 = .ok (.getfield 251, 3) := by decide +kernel
theorem dX12_write_20 : decode cX12_write 20 = .ok (.ifCond .le 5, 3) := by decide +kernel
theorem dX12_write_23 : decode cX12_write 23 = .ok (.iconst 0, 1) := by decide +kernel
theorem dX12_write_24 : decode cX12_write 24 = .ok (.ireturn, 1) := by decide +kernel
theorem dX12_write_25 : decode cX12_write 25 = .ok (.aload_n 0, 1) := by decide +kernel
theorem dX12_write_26 : decode cX12_write 26 = .ok (.iconst 0, 1) := by decide +kernel
theorem dX12_write_27 : decode cX12_write 27 = .ok (.putfield 780, 3) := by decide +kernel
theorem dX12_write_30 : decode cX12_write 30 = .ok (.iconst 2, 1) := by decide +kernel
theorem dX12_write_31 : decode cX12_write 31 = .ok (.istore_n 1, 1) := by decide +kernel
theorem dX12_write_32 : decode cX12_write 32 = .ok (.iload_n 1, 1) := by decide +kernel
theorem dX12_write_33 : decode cX12_write 33 = .ok (.aload_n 0, 1) := by decide +kernel
theorem dX12_write_34 : decode cX12_write 34 = .ok (.getfield 348, 3) := by decide +kernel
theorem dX12_write_37 : decode cX12_write 37 = .ok (.if_icmp .ge 71, 3) := by decide +kernel
theorem dX12_write_40 : decode cX12_write 40 = .ok (.aload_n 0, 1) := by decide +kernel
theorem dX12_write_41 : decode cX12_write 41 = .ok (.iload_n 1, 1) := by decide +kernel
theorem dX12_write_42 : decode cX12_write 42 = .ok (.iconst 2, 1) := by decide +kernel
theorem dX12_write_43 : decode cX12_write 43 = .ok (.if_icmp .ne 19, 3) := by decide +kernel
theorem dX12_write_46 : decode cX12_write 46 = .ok (.bipush 100, 2) := by decide +kernel
theorem dX12_write_48 : decode cX12_write 48 = .ok (.bipush 97, 2) := by decide +kernel
theorem dX12_write_50 : decode cX12_write 50 = .ok (.bipush 116, 2) := by decide +kernel
theorem dX12_write_52 : decode cX12_write 52 = .ok (.bipush 97, 2) := by decide +kernel
theorem dX12_write_54 : decode cX12_write 54 = .ok (.bipush 32, 2) := by decide +kernel
theorem dX12_write_56 : decode cX12_write 56 = .ok (.invokestatic 257, 3) := by decide +kernel
theorem dX12_write_59 : decode cX12_write 59 = .ok (.goto 14, 3) := by decide +kernel
theorem dX12_write_62 : decode cX12_write 62 = .ok (.bipush 32, 2) := by decide +kernel
theorem dX12_write_64 : decode cX12_write 64 = .ok (.bipush 124, 2) := by decide +kernel
theorem dX12_write_66 : decode cX12_write 66 = .ok (.bipush 32, 2) := by decide +kernel
theorem dX12_write_68 : decode cX12_write 68 = .ok (.iconst 0, 1) := by decide +kernel
theorem dX12_write_69 : decode cX12_write 69 = .ok (.iconst 0, 1) := by decide +kernel
theorem dX12_write_70 : decode cX12_write 70 = .ok (.invokestatic 257, 3) := by decide +kernel
theorem dX12_write_73 : decode cX12_write 73 = .ok (.invokevirtual 789, 3) := by decide +kernel
theorem dX12_write_76 : decode cX12_write 76 = .ok (.aload_n 0, 1) := by decide +kernel
theorem dX12_write_77 : decode cX12_write 77 = .ok (.aload_n 0, 1) := by decide +kernel
theorem dX12_write_78 : decode cX12_write 78 = .ok (.getfield 59, 3) := by decide +kernel
theorem dX12_write_81 : decode cX12_write 81 = .ok (.iload_n 1, 1) := by decide +kernel
theorem dX12_write_82 : decode cX12_write 82 = .ok (.laload, 1) := by decide +kernel
theorem dX12_write_83 : decode cX12_write 83 = .ok (.invokevirtual 789, 3) := by decide +kernel
theorem dX12_write_86 : decode cX12_write 86 = .ok (.aload_n 0, 1) := by decide +kernel
theorem dX12_write_87 : decode cX12_write 87 = .ok (.bipush 32, 2) := by decide +kernel
theorem dX12_write_89 : decode cX12_write 89 = .ok (.invokevirtual 783, 3) := by decide +kernel
theorem dX12_write_92 : decode cX12_write 92 = .ok (.aload_n 0, 1) := by decide +kernel
theorem dX12_write_93 : decode cX12_write 93 = .ok (.aload_n 0, 1) := by decide +kernel
theorem dX12_write_94 : decode cX12_write 94 = .ok (.getfield 62, 3) := by decide +kernel
theorem dX12_write_97 : decode cX12_write 97 = .ok (.iload_n 1, 1) := by decide +kernel
theorem dX12_write_98 : decode cX12_write 98 = .ok (.iaload, 1) := by decide +kernel
theorem dX12_write_99 : decode cX12_write 99 = .ok (.invokevirtual 786, 3) := by decide +kernel
theorem dX12_write_102 : decode cX12_write 102 = .ok (.iinc 1 1, 3) := by decide +kernel
theorem dX12_write_105 : decode cX12_write 105 = .ok (.goto (-73), 3) := by decide +kernel
theorem dX12_write_108 : decode cX12_write 108 = .ok (.aload_n 0, 1) := by decide +kernel
theorem dX12_write_109 : decode cX12_write 109 = .ok (.getfield 348, 3) := by decide +kernel
theorem dX12_write_112 : decode cX12_write 112 = .ok (.iconst 2, 1) := by decide +kernel
theorem dX12_write_113 : decode cX12_write 113 = .ok (.if_icmp .le 15, 3) := by decide +kernel
theorem dX12_write_116 : decode cX12_write 116 = .ok (.aload_n 0, 1) := by decide +kernel
theorem dX12_write_117 : decode cX12_write 117 = .ok (.bipush 59, 2) := by decide +kernel
theorem dX12_write_119 : decode cX12_write 119 = .ok (.invokevirtual 783, 3) := by decide +kernel
theorem dX12_write_122 : decode cX12_write 122 = .ok (.aload_n 0, 1) := by decide +kernel
theorem dX12_write_123 : decode cX12_write 123 = .ok (.bipush 10, 2) := by decide +kernel
theorem dX12_write_125 : decode cX12_write 125 = .ok (.invokevirtual 783, 3) := by decide +kernel
theorem dX12_write_128 : decode cX12_write 128 = .ok (.iconst 0, 1) := by decide +kernel
theorem dX12_write_129 : decode cX12_write 129 = .ok (.istore_n 1, 1) := by decide +kernel
theorem dX12_write_130 : decode cX12_write 130 = .ok (.iload_n 1, 1) := by decide +kernel
theorem dX12_write_131 : decode cX12_write 131 = .ok (.aload_n 0, 1) := by decide +kernel
theorem dX12_write_132 : decode cX12_write 132 = .ok (.getfield 486, 3) := by decide +kernel
theorem dX12_write_135 : decode cX12_write 135 = .ok (.if_icmp .ge 80, 3) := by decide +kernel
theorem dX12_write_138 : decode cX12_write 138 = .ok (.aload_n 0, 1) := by decide +kernel
theorem dX12_write_139 : decode cX12_write 139 = .ok (.iload_n 1, 1) := by decide +kernel
theorem dX12_write_140 : decode cX12_write 140 = .ok (.invokevirtual 801, 3) := by decide +kernel
theorem dX12_write_143 : decode cX12_write 143 = .ok (.iconst 0, 1) := by decide +kernel
theorem dX12_write_144 : decode cX12_write 144 = .ok (.istore_n 2, 1) := by decide +kernel
theorem dX12_write_145 : decode cX12_write 145 = .ok (.iload_n 2, 1) := by decide +kernel
theorem dX12_write_146 : decode cX12_write 146 = .ok (.aload_n 0, 1) := by decide +kernel
theorem dX12_write_147 : decode cX12_write 147 = .ok (.getfield 171, 3) := by decide +kernel
theorem dX12_write_150 : decode cX12_write 150 = .ok (.iload_n 1, 1) := by decide +kernel
theorem dX12_write_151 : decode cX12_write 151 = .ok (.iaload, 1) := by decide +kernel
theorem dX12_write_152 : decode cX12_write 152 = .ok (.if_icmp .ge 20, 3) := by decide +kernel
theorem dX12_write_155 : decode cX12_write 155 = .ok (.aload_n 0, 1) := by decide +kernel
theorem dX12_write_156 : decode cX12_write 156 = .ok (.bipush 32, 2) := by decide +kernel
theorem dX12_write_158 : decode cX12_write 158 = .ok (.invokevirtual 783, 3) := by decide +kernel
theorem dX12_write_161 : decode cX12_write 161 = .ok (.aload_n 0, 1) := by decide +kernel
theorem dX12_write_162 : decode cX12_write 162 = .ok (.iload_n 2, 1) := by decide +kernel
theorem dX12_write_163 : decode cX12_write 163 = .ok (.invokevirtual 792, 3) := by decide +kernel
theorem dX12_write_166 : decode cX12_write 166 = .ok (.iinc 2 1, 3) := by decide +kernel
theorem dX12_write_169 : decode cX12_write 169 = .ok (.goto (-24), 3) := by decide +kernel
theorem dX12_write_172 : decode cX12_write 172 = .ok (.aload_n 0, 1) := by decide +kernel
theorem dX12_write_173 : decode cX12_write 173 = .ok (.bipush 32, 2) := by decide +kernel
theorem dX12_write_175 : decode cX12_write 175 = .ok (.bipush 61, 2) := by decide +kernel
theorem dX12_write_177 : decode cX12_write 177 = .ok (.bipush 32, 2) := by decide +kernel
theorem dX12_write_179 : decode cX12_write 179 = .ok (.iconst 0, 1) := by decide +kernel
theorem dX12_write_180 : decode cX12_write 180 = .ok (.iconst 0, 1) := by decide +kernel
theorem dX12_write_181 : decode cX12_write 181 = .ok (.invokestatic 257, 3) := by decide +kernel
theorem dX12_write_184 : decode cX12_write 184 = .ok (.invokevirtual 789, 3) := by decide +kernel
theorem dX12_write_187 : decode cX12_write 187 = .ok (.aload_n 0, 1) := by decide +kernel
theorem dX12_write_188 : decode cX12_write 188 = .ok (.aload_n 0, 1) := by decide +kernel
theorem dX12_write_189 : decode cX12_write 189 = .ok (.getfield 165, 3) := by decide +kernel
theorem dX12_write_192 : decode cX12_write 192 = .ok (.iload_n 1, 1) := by decide +kernel
theorem dX12_write_193 : decode cX12_write 193 = .ok (.iaload, 1) := by decide +kernel
theorem dX12_write_194 : decode cX12_write 194 = .ok (.invokevirtual 808, 3) := by decide +kernel
theorem dX12_write_197 : decode cX12_write 197 = .ok (.aload_n 0, 1) := by decide +kernel
theorem dX12_write_198 : decode cX12_write 198 = .ok (.bipush 59, 2) := by decide +kernel
theorem dX12_write_200 : decode cX12_write 200 = .ok (.invokevirtual 783, 3) := by decide +kernel
theorem dX12_write_203 : decode cX12_write 203 = .ok (.aload_n 0, 1) := by decide +kernel
theorem dX12_write_204 : decode cX12_write 204 = .ok (.bipush 10, 2) := by decide +kernel
theorem dX12_write_206 : decode cX12_write 206 = .ok (.invokevirtual 783, 3) := by decide +kernel
theorem dX12_write_209 : decode cX12_write 209 = .ok (.iinc 1 1, 3) := by decide +kernel
theorem dX12_write_212 : decode cX12_write 212 = .ok (.goto (-82), 3) := by decide +kernel
theorem dX12_write_215 : decode cX12_write 215 = .ok (.aload_n 0, 1) := by decide +kernel
theorem dX12_write_216 : decode cX12_write 216 = .ok (.getfield 780, 3) := by decide +kernel
theorem dX12_write_219 : decode cX12_write 219 = .ok (.sipush 12000, 3) := by decide +kernel
theorem dX12_write_222 : decode cX12_write 222 = .ok (.if_icmp .le 5, 3) := by decide +kernel
theorem dX12_write_225 : decode cX12_write 225 = .ok (.iconst (-1), 1) := by decide +kernel
theorem dX12_write_226 : decode cX12_write 226 = .ok (.ireturn, 1) := by decide +kernel
theorem dX12_write_227 : decode cX12_write 227 = .ok (.iconst 0, 1) := by decide +kernel
theorem dX12_write_228 : decode cX12_write 228 = .ok (.istore_n 1, 1) := by decide +kernel
theorem dX12_write_229 : decode cX12_write 229 = .ok (.iload_n 1, 1) := by decide +kernel
theorem dX12_write_230 : decode cX12_write 230 = .ok (.aload_n 0, 1) := by decide +kernel
theorem dX12_write_231 : decode cX12_write 231 = .ok (.getfield 780, 3) := by decide +kernel
theorem dX12_write_234 : decode cX12_write 234 = .ok (.if_icmp .ge 21, 3) := by decide +kernel
theorem dX12_write_237 : decode cX12_write 237 = .ok (.aload_n 0, 1) := by decide +kernel
theorem dX12_write_238 : decode cX12_write 238 = .ok (.getfield 13, 3) := by decide +kernel
theorem dX12_write_241 : decode cX12_write 241 = .ok (.iload_n 1, 1) := by decide +kernel
theorem dX12_write_242 : decode cX12_write 242 = .ok (.aload_n 0, 1) := by decide +kernel
theorem dX12_write_243 : decode cX12_write 243 = .ok (.getfield 248, 3) := by decide +kernel
theorem dX12_write_246 : decode cX12_write 246 = .ok (.iload_n 1, 1) := by decide +kernel
theorem dX12_write_247 : decode cX12_write 247 = .ok (.iaload, 1) := by decide +kernel
theorem dX12_write_248 : decode cX12_write 248 = .ok (.iastore, 1) := by decide +kernel
theorem dX12_write_249 : decode cX12_write 249 = .ok (.iinc 1 1, 3) := by decide +kernel
theorem dX12_write_252 : decode cX12_write 252 = .ok (.goto (-23), 3) := by decide +kernel
theorem dX12_write_255 : decode cX12_write 255 = .ok (.aload_n 0, 1) := by decide +kernel
theorem dX12_write_256 : decode cX12_write 256 = .ok (.aload_n 0, 1) := by decide +kernel
theorem dX12_write_257 : decode cX12_write 257 = .ok (.getfield 780, 3) := by decide +kernel
theorem dX12_write_260 : decode cX12_write 260 = .ok (.putfield 777, 3) := by decide +kernel
theorem dX12_write_263 : decode cX12_write 263 = .ok (.aload_n 0, 1) := by decide +kernel
theorem dX12_write_264 : decode cX12_write 264 = .ok (.getfield 777, 3) := by decide +kernel
theorem dX12_write_267 : decode cX12_write 267 = .ok (.ireturn, 1) := by decide +kernel
theorem dX12_writeE_0 : decode cX12_writeE 0 = .ok (.iconst 1, 1) := by decide +kernel
theorem dX12_writeE_1 : decode cX12_writeE 1 = .ok (.istore_n 2, 1) := by decide +kernel
theorem dX12_writeE_2 : decode cX12_writeE 2 = .ok (.aload_n 0, 1) := by decide +kernel
theorem dX12_writeE_3 : decode cX12_writeE 3 = .ok (.getfield 110, 3) := by decide +kernel
theorem dX12_writeE_6 : decode cX12_writeE 6 = .ok (.iconst 0, 1) := by decide +kernel
theorem dX12_writeE_7 : decode cX12_writeE 7 = .ok (.iload_n 1, 1) := by decide +kernel
theorem dX12_writeE_8 : decode cX12_writeE 8 = .ok (.iastore, 1) := by decide +kernel
theorem dX12_writeE_9 : decode cX12_writeE 9 = .ok (.aload_n 0, 1) := by decide +kernel
theorem dX12_writeE_10 : decode cX12_writeE 10 = .ok (.getfield 113, 3) := by decide +kernel
theorem dX12_writeE_13 : decode cX12_writeE 13 = .ok (.iconst 0, 1) := by decide +kernel
theorem dX12_writeE_14 : decode cX12_writeE 14 = .ok (.iconst 0, 1) := by decide +kernel
theorem dX12_writeE_15 : decode cX12_writeE 15 = .ok (.iastore, 1) := by decide +kernel
theorem dX12_writeE_16 : decode cX12_writeE 16 = .ok (.iload_n 2, 1) := by decide +kernel
theorem dX12_writeE_17 : decode cX12_writeE 17 = .ok (.ifCond .le 104, 3) := by decide +kernel
theorem dX12_writeE_20 : decode cX12_writeE 20 = .ok (.aload_n 0, 1) := by decide +kernel
theorem dX12_writeE_21 : decode cX12_writeE 21 = .ok (.getfield 110, 3) := by decide +kernel
theorem dX12_writeE_24 : decode cX12_writeE 24 = .ok (.iload_n 2, 1) := by decide +kernel
theorem dX12_writeE_25 : decode cX12_writeE 25 = .ok (.iconst 1, 1) := by decide +kernel
theorem dX12_writeE_26 : decode cX12_writeE 26 = .ok (.isub, 1) := by decide +kernel
theorem dX12_writeE_27 : decode cX12_writeE 27 = .ok (.iaload, 1) := by decide +kernel
theorem dX12_writeE_28 : decode cX12_writeE 28 = .ok (.istore_n 3, 1) := by decide +kernel
theorem dX12_writeE_29 : decode cX12_writeE 29 = .ok (.aload_n 0, 1) := by decide +kernel
theorem dX12_writeE_30 : decode cX12_writeE 30 = .ok (.getfield 113, 3) := by decide +kernel
theorem dX12_writeE_33 : decode cX12_writeE 33 = .ok (.iload_n 2, 1) := by decide +kernel
theorem dX12_writeE_34 : decode cX12_writeE 34 = .ok (.iconst 1, 1) := by decide +kernel
theorem dX12_writeE_35 : decode cX12_writeE 35 = .ok (.isub, 1) := by decide +kernel
theorem dX12_writeE_36 : decode cX12_writeE 36 = .ok (.iaload, 1) := by decide +kernel
theorem dX12_writeE_37 : decode cX12_writeE 37 = .ok (.istore 4, 2) := by decide +kernel
theorem dX12_writeE_39 : decode cX12_writeE 39 = .ok (.aload_n 0, 1) := by decide +kernel
theorem dX12_writeE_40 : decode cX12_writeE 40 = .ok (.getfield 128, 3) := by decide +kernel
theorem dX12_writeE_43 : decode cX12_writeE 43 = .ok (.iload_n 3, 1) := by decide +kernel
theorem dX12_writeE_44 : decode cX12_writeE 44 = .ok (.iaload, 1) := by decide +kernel
theorem dX12_writeE_45 : decode cX12_writeE 45 = .ok (.ifCond .ne 14, 3) := by decide +kernel
theorem dX12_writeE_48 : decode cX12_writeE 48 = .ok (.aload_n 0, 1) := by decide +kernel
theorem dX12_writeE_49 : decode cX12_writeE 49 = .ok (.iload_n 3, 1) := by decide +kernel
theorem dX12_writeE_50 : decode cX12_writeE 50 = .ok (.invokevirtual 804, 3) := by decide +kernel
theorem dX12_writeE_53 : decode cX12_writeE 53 = .ok (.iinc 2 (-1), 3) := by decide +kernel
theorem dX12_writeE_56 : decode cX12_writeE 56 = .ok (.goto 62, 3) := by decide +kernel
theorem dX12_writeE_59 : decode cX12_writeE 59 = .ok (.aload_n 0, 1) := by decide +kernel
theorem dX12_writeE_60 : decode cX12_writeE 60 = .ok (.iload_n 3, 1) := by decide +kernel
theorem dX12_writeE_61 : decode cX12_writeE 61 = .ok (.iload 4, 2) := by decide +kernel
theorem dX12_writeE_63 : decode cX12_writeE 63 = .ok (.invokevirtual 806, 3) := by decide +kernel
theorem dX12_writeE_66 : decode cX12_writeE 66 = .ok (.aload_n 0, 1) := by decide +kernel
theorem dX12_writeE_67 : decode cX12_writeE 67 = .ok (.getfield 113, 3) := by decide +kernel
theorem dX12_writeE_70 : decode cX12_writeE 70 = .ok (.iload_n 2, 1) := by decide +kernel
theorem dX12_writeE_71 : decode cX12_writeE 71 = .ok (.iconst 1, 1) := by decide +kernel
theorem dX12_writeE_72 : decode cX12_writeE 72 = .ok (.isub, 1) := by decide +kernel
theorem dX12_writeE_73 : decode cX12_writeE 73 = .ok (.dup2, 1) := by decide +kernel
theorem dX12_writeE_74 : decode cX12_writeE 74 = .ok (.iaload, 1) := by decide +kernel
theorem dX12_writeE_75 : decode cX12_writeE 75 = .ok (.iconst 1, 1) := by decide +kernel
theorem dX12_writeE_76 : decode cX12_writeE 76 = .ok (.iadd, 1) := by decide +kernel
theorem dX12_writeE_77 : decode cX12_writeE 77 = .ok (.iastore, 1) := by decide +kernel
theorem dX12_writeE_78 : decode cX12_writeE 78 = .ok (.iload 4, 2) := by decide +kernel
theorem dX12_writeE_80 : decode cX12_writeE 80 = .ok (.aload_n 0, 1) := by decide +kernel
theorem dX12_writeE_81 : decode cX12_writeE 81 = .ok (.getfield 128, 3) := by decide +kernel
theorem dX12_writeE_84 : decode cX12_writeE 84 = .ok (.iload_n 3, 1) := by decide +kernel
theorem dX12_writeE_85 : decode cX12_writeE 85 = .ok (.iaload, 1) := by decide +kernel
theorem dX12_writeE_86 : decode cX12_writeE 86 = .ok (.if_icmp .ge 29, 3) := by decide +kernel
theorem dX12_writeE_89 : decode cX12_writeE 89 = .ok (.aload_n 0, 1) := by decide +kernel
theorem dX12_writeE_90 : decode cX12_writeE 90 = .ok (.getfield 110, 3) := by decide +kernel
theorem dX12_writeE_93 : decode cX12_writeE 93 = .ok (.iload_n 2, 1) := by decide +kernel
theorem dX12_writeE_94 : decode cX12_writeE 94 = .ok (.aload_n 0, 1) := by decide +kernel
theorem dX12_writeE_95 : decode cX12_writeE 95 = .ok (.iload_n 3, 1) := by decide +kernel
theorem dX12_writeE_96 : decode cX12_writeE 96 = .ok (.iload 4, 2) := by decide +kernel
theorem dX12_writeE_98 : decode cX12_writeE 98 = .ok (.invokevirtual 545, 3) := by decide +kernel
theorem dX12_writeE_101 : decode cX12_writeE 101 = .ok (.iastore, 1) := by decide +kernel
theorem dX12_writeE_102 : decode cX12_writeE 102 = .ok (.aload_n 0, 1) := by decide +kernel
theorem dX12_writeE_103 : decode cX12_writeE 103 = .ok (.getfield 113, 3) := by decide +kernel
theorem dX12_writeE_106 : decode cX12_writeE 106 = .ok (.iload_n 2, 1) := by decide +kernel
theorem dX12_writeE_107 : decode cX12_writeE 107 = .ok (.iconst 0, 1) := by decide +kernel
theorem dX12_writeE_108 : decode cX12_writeE 108 = .ok (.iastore, 1) := by decide +kernel
theorem dX12_writeE_109 : decode cX12_writeE 109 = .ok (.iinc 2 1, 3) := by decide +kernel
theorem dX12_writeE_112 : decode cX12_writeE 112 = .ok (.goto 6, 3) := by decide +kernel
theorem dX12_writeE_115 : decode cX12_writeE 115 = .ok (.iinc 2 (-1), 3) := by decide +kernel
theorem dX12_writeE_118 : decode cX12_writeE 118 = .ok (.goto (-102), 3) := by decide +kernel
theorem dX12_writeE_121 : decode cX12_writeE 121 = .ok (.return_, 1) := by decide +kernel
theorem cw_X12_around : CWV yX12_around cX12_around 4 none RX12 2 := ⟨mG_2950, mG_2949, mG_209, mG_226, by decide +kernel⟩
theorem cw_X12_atom_ : CWV yX12_atom_ cX12_atom_ 2 none RX12 1 := ⟨mG_2946, mG_2945, mG_208, mG_226, by decide +kernel⟩
theorem cw_X12_codeOf : CWV yX12_codeOf cX12_codeOf 2 (some .int) RX12 1 := ⟨mG_2970, mG_2969, mG_212, mG_226, by decide +kernel⟩
theorem cw_X12_functionName : CWV yX12_functionName cX12_functionName 2 none RX12 1 := ⟨mG_2934, mG_2933, mG_205, mG_226, by decide +kernel⟩
theorem cw_X12_operation : CWV yX12_operation cX12_operation 2 none RX12 1 := ⟨mG_2958, mG_2957, mG_211, mG_226, by decide +kernel⟩
theorem cw_X12_pattern : CWV yX12_pattern cX12_pattern 3 none RX12 1 := ⟨mG_2954, mG_2953, mG_210, mG_226, by decide +kernel⟩
theorem cw_X12_writeE : CWV yX12_writeE cX12_writeE 5 none RX12 1 := ⟨mG_2942, mG_2941, mG_207, mG_226, by decide +kernel⟩
section MX12_around
variable {p : Program} {l : Launch} {e : Env} {R : Room} {s : State} {m : MethodId} {args : Array Value} {below : List Frame} {meth : Method} {c : Code} {dC : Nat → ClassId} {dI : Nat → Nat → Nat} {Z : ZZ} {A : Nat → Prop} {ad : Nat → Nat} {kc : Nat → ClassId} {r : Unit} {τ : S5}
set_option maxHeartbeats 4000000 in
set_option maxRecDepth 100000 in
theorem w_X12_around_b375 {σ : S5} {u0 : Int32} {H : Heap} {locs : List Loc} {ls : Array Slot} (S : CallFix p m c cX12_around 4 s args uG RX12) (hr : meth.sig.returnType = none) (hk : meth.locks = false) (hR : 4 ≤ R.frames ∧ 87 ≤ R.locals)
    (X : gX (dC, dI) (tM kc) (wM ad kc) Z A s σ H locs) (hl : lv_has ls 4 []) (hg : f_X12_around_b375 u0 σ = some (r, τ)) : W p l e R s m args below meth c H locs 0 0 (MQ below (gQv (dC, dI) (tM kc) (wM ad kc) A r τ) args s 0 0 A) (F0 m 375 ls [.int u0, .ref (ad 0)]) := by
  have hx := S.1
  have hb := S.2.1
  have hown := S.2.2.2.1
  have hu := S.2.2.2.2
  unfold f_X12_around_b375 at hg
  obtain ⟨r375, τ375, hq375, hg⟩ := bd_some hg
  refine gc_Vv (As := [.int u0]) (rest := []) (q0 := 0) (ci := 15) S X (k2_X12_letters l dC dI ad kc hq375 H.size) cw_X12_letters mG_2923 rfl rfl rfl rfl rfl hl.1 (Nat.le_of_ble_eq_true rfl) dX12_around_375 ⟨by omega, by omega⟩ (fun H locs X => ?_)
  obtain ⟨-, rfl⟩ := fin_some hg
  exact gr_v S hr hk X dX12_around_378
set_option maxHeartbeats 4000000 in
set_option maxRecDepth 100000 in
theorem w_X12_around_b348 {σ : S5} {u0 : Int32} {H : Heap} {locs : List Loc} {ls : Array Slot} (S : CallFix p m c cX12_around 4 s args uG RX12) (hr : meth.sig.returnType = none) (hk : meth.locks = false) (hR : 4 ≤ R.frames ∧ 87 ≤ R.locals)
    (X : gX (dC, dI) (tM kc) (wM ad kc) Z A s σ H locs) (hl : lv_has ls 4 []) (hg : f_X12_around_b348 u0 σ = some (r, τ)) : W p l e R s m args below meth c H locs 0 0 (MQ below (gQv (dC, dI) (tM kc) (wM ad kc) A r τ) args s 0 0 A) (F0 m 348 ls [.int u0, .ref (ad 0)]) := by
  have hx := S.1
  have hb := S.2.1
  have hown := S.2.2.2.1
  have hu := S.2.2.2.2
  unfold f_X12_around_b348 at hg
  obtain ⟨r348, τ348, hq348, hg⟩ := bd_some hg
  refine gc_Vv (As := [.int u0]) (rest := []) (q0 := 0) (ci := 15) S X (k2_X12_letters l dC dI ad kc hq348 H.size) cw_X12_letters mG_2923 rfl rfl rfl rfl rfl hl.1 (Nat.le_of_ble_eq_true rfl) dX12_around_348 ⟨by omega, by omega⟩ (fun H locs X => ?_)
  refine lv_goto (tgt := 378) hx hb dX12_around_351 (by decide) ?_
  obtain ⟨-, rfl⟩ := fin_some hg
  exact gr_v S hr hk X dX12_around_378
set_option maxHeartbeats 4000000 in
set_option maxRecDepth 100000 in
theorem w_X12_around_b336 {σ : S5} {v3 : Int32} {H : Heap} {locs : List Loc} {ls : Array Slot} (S : CallFix p m c cX12_around 4 s args uG RX12) (hr : meth.sig.returnType = none) (hk : meth.locks = false) (hR : 4 ≤ R.frames ∧ 87 ≤ R.locals)
    (X : gX (dC, dI) (tM kc) (wM ad kc) Z A s σ H locs) (hl : lv_has ls 4 [(0, .ref (ad 0)), (3, .int v3)]) (hg : f_X12_around_b336 v3 σ = some (r, τ)) : W p l e R s m args below meth c H locs 0 0 (MQ below (gQv (dC, dI) (tM kc) (wM ad kc) A r τ) args s 0 0 A) (F0 m 336 ls []) := by
  have hx := S.1
  have hb := S.2.1
  have hown := S.2.2.2.1
  have hu := S.2.2.2.2
  unfold f_X12_around_b336 at hg
  refine lv_aload_n hx hb dX12_around_336 rfl (lv_at hl 0 rfl) ?_
  refine lv_iload_n hx hb dX12_around_337 rfl (lv_at hl 1 rfl) ?_
  refine lv_if_eq (tgt := 346) hx hb dX12_around_338 (by decide) (fun c338 => ?_) (fun c338 => ?_)
  · have hg := (if_pos c338).symm.trans hg
    refine lv_bipush (v := 32) hx hb dX12_around_346 (by decide) ?_
    exact w_X12_around_b348 S hr hk hR X (lv_sub hl [] rfl) hg
  · have hg := (if_neg c338).symm.trans hg
    refine lv_bipush (v := 41) hx hb dX12_around_341 (by decide) ?_
    refine lv_goto (tgt := 348) hx hb dX12_around_343 (by decide) ?_
    exact w_X12_around_b348 S hr hk hR X (lv_sub hl [] rfl) hg
set_option maxHeartbeats 4000000 in
set_option maxRecDepth 100000 in
theorem w_X12_around_b305 {σ : S5} {u0 : Int32} {H : Heap} {locs : List Loc} {ls : Array Slot} (S : CallFix p m c cX12_around 4 s args uG RX12) (hr : meth.sig.returnType = none) (hk : meth.locks = false) (hR : 4 ≤ R.frames ∧ 87 ≤ R.locals)
    (X : gX (dC, dI) (tM kc) (wM ad kc) Z A s σ H locs) (hl : lv_has ls 4 []) (hg : f_X12_around_b305 u0 σ = some (r, τ)) : W p l e R s m args below meth c H locs 0 0 (MQ below (gQv (dC, dI) (tM kc) (wM ad kc) A r τ) args s 0 0 A) (F0 m 305 ls [.int u0, .ref (ad 0)]) := by
  have hx := S.1
  have hb := S.2.1
  have hown := S.2.2.2.1
  have hu := S.2.2.2.2
  unfold f_X12_around_b305 at hg
  obtain ⟨r305, τ305, hq305, hg⟩ := bd_some hg
  refine gc_Vv (As := [.int u0]) (rest := []) (q0 := 0) (ci := 15) S X (k2_X12_letters l dC dI ad kc hq305 H.size) cw_X12_letters mG_2923 rfl rfl rfl rfl rfl hl.1 (Nat.le_of_ble_eq_true rfl) dX12_around_305 ⟨by omega, by omega⟩ (fun H locs X => ?_)
  refine lv_goto (tgt := 378) hx hb dX12_around_308 (by decide) ?_
  obtain ⟨-, rfl⟩ := fin_some hg
  exact gr_v S hr hk X dX12_around_378
set_option maxHeartbeats 4000000 in
set_option maxRecDepth 100000 in
theorem w_X12_around_b257 {σ : S5} {v1 : Int32} {v2 : Int32} {u0 : Int64} {H : Heap} {locs : List Loc} {ls : Array Slot} (S : CallFix p m c cX12_around 4 s args uG RX12) (hr : meth.sig.returnType = none) (hk : meth.locks = false) (hR : 4 ≤ R.frames ∧ 87 ≤ R.locals)
    (X : gX (dC, dI) (tM kc) (wM ad kc) Z A s σ H locs) (hl : lv_has ls 4 [(0, .ref (ad 0)), (1, .int v1), (2, .int v2)]) (hg : f_X12_around_b257 v1 v2 u0 σ = some (r, τ)) : W p l e R s m args below meth c H locs 0 0 (MQ below (gQv (dC, dI) (tM kc) (wM ad kc) A r τ) args s 0 0 A) (F0 m 257 ls [.long u0, .ref (ad 0)]) := by
  have hx := S.1
  have hb := S.2.1
  have hown := S.2.2.2.1
  have hu := S.2.2.2.2
  unfold f_X12_around_b257 at hg
  obtain ⟨r257, τ257, hq257, hg⟩ := bd_some hg
  refine gc_Vv (As := [.long u0]) (rest := []) (q0 := 0) (ci := 15) S X (k2_X12_signs l dC dI ad kc hq257 H.size) cw_X12_signs mG_2919 rfl rfl rfl rfl rfl hl.1 (Nat.le_of_ble_eq_true rfl) dX12_around_257 ⟨by omega, by omega⟩ (fun H locs X => ?_)
  refine lv_aload_n hx hb dX12_around_260 rfl (lv_at hl 0 rfl) ?_
  refine lv_aload_n hx hb dX12_around_261 rfl (lv_at hl 0 rfl) ?_
  refine wmgR_0_66 S X mG_2116 dX12_around_262 ?_
  refine lv_iload_n hx hb dX12_around_265 rfl (lv_at hl 1 rfl) ?_
  obtain ⟨hi266, hg⟩ := gd_some hg
  refine wmlA_33 (v := (xA τ257 33 v1)) S X hi266 rfl dX12_around_266 ?_
  refine lv_iload_n hx hb dX12_around_267 rfl (lv_at hl 2 rfl) ?_
  refine lv_iadd hx hb dX12_around_268 ?_
  obtain ⟨r269, τ269, hq269, hg⟩ := bd_some hg
  refine gc_Vv (As := [.int ((xA τ257 33 v1) + v2)]) (rest := []) (q0 := 0) (ci := 15) S X (k2_X12_pattern l dC dI ad kc hq269 H.size) cw_X12_pattern mG_2951 rfl rfl rfl rfl rfl hl.1 (Nat.le_of_ble_eq_true rfl) dX12_around_269 ⟨by omega, by omega⟩ (fun H locs X => ?_)
  refine lv_goto (tgt := 378) hx hb dX12_around_272 (by decide) ?_
  obtain ⟨-, rfl⟩ := fin_some hg
  exact gr_v S hr hk X dX12_around_378
set_option maxHeartbeats 4000000 in
set_option maxRecDepth 100000 in
theorem w_X12_around_b141 {σ : S5} {v1 : Int32} {v2 : Int32} {u0 : Int64} {H : Heap} {locs : List Loc} {ls : Array Slot} (S : CallFix p m c cX12_around 4 s args uG RX12) (hr : meth.sig.returnType = none) (hk : meth.locks = false) (hR : 4 ≤ R.frames ∧ 87 ≤ R.locals)
    (X : gX (dC, dI) (tM kc) (wM ad kc) Z A s σ H locs) (hl : lv_has ls 4 [(0, .ref (ad 0)), (1, .int v1), (2, .int v2)]) (hg : f_X12_around_b141 v1 v2 u0 σ = some (r, τ)) : W p l e R s m args below meth c H locs 0 0 (MQ below (gQv (dC, dI) (tM kc) (wM ad kc) A r τ) args s 0 0 A) (F0 m 141 ls [.long u0, .ref (ad 0)]) := by
  have hx := S.1
  have hb := S.2.1
  have hown := S.2.2.2.1
  have hu := S.2.2.2.2
  unfold f_X12_around_b141 at hg
  obtain ⟨r141, τ141, hq141, hg⟩ := bd_some hg
  refine gc_Vv (As := [.long u0]) (rest := []) (q0 := 0) (ci := 15) S X (k2_X12_signs l dC dI ad kc hq141 H.size) cw_X12_signs mG_2919 rfl rfl rfl rfl rfl hl.1 (Nat.le_of_ble_eq_true rfl) dX12_around_141 ⟨by omega, by omega⟩ (fun H locs X => ?_)
  refine lv_aload_n hx hb dX12_around_144 rfl (lv_at hl 0 rfl) ?_
  refine lv_aload_n hx hb dX12_around_145 rfl (lv_at hl 0 rfl) ?_
  refine wmgR_0_68 S X mG_2118 dX12_around_146 ?_
  refine lv_iload_n hx hb dX12_around_149 rfl (lv_at hl 1 rfl) ?_
  obtain ⟨hi150, hg⟩ := gd_some hg
  refine wmlA_35 (v := (xA τ141 35 v1)) S X hi150 rfl dX12_around_150 ?_
  refine lv_iload_n hx hb dX12_around_151 rfl (lv_at hl 2 rfl) ?_
  refine lv_iadd hx hb dX12_around_152 ?_
  obtain ⟨r153, τ153, hq153, hg⟩ := bd_some hg
  refine gc_Vv (As := [.int ((xA τ141 35 v1) + v2)]) (rest := []) (q0 := 0) (ci := 15) S X (k2_X12_variable l dC dI ad kc hq153 H.size) cw_X12_variable mG_2935 rfl rfl rfl rfl rfl hl.1 (Nat.le_of_ble_eq_true rfl) dX12_around_153 ⟨by omega, by omega⟩ (fun H locs X => ?_)
  refine lv_aload_n hx hb dX12_around_156 rfl (lv_at hl 0 rfl) ?_
  refine lv_bipush (v := 32) hx hb dX12_around_157 (by decide) ?_
  refine lv_bipush (v := 61) hx hb dX12_around_159 (by decide) ?_
  refine lv_bipush (v := 32) hx hb dX12_around_161 (by decide) ?_
  refine lv_iconst (v := 0) hx hb dX12_around_163 (by decide) ?_
  refine lv_iconst (v := 0) hx hb dX12_around_164 (by decide) ?_
  obtain ⟨r165, τ165, hq165, hg⟩ := bd_some hg
  refine gc_Sl (As := [.int 32, .int 61, .int 32, .int 0, .int 0]) (rest := [.ref (ad 0)]) S X (k2_X12_pack l dC dI ad kc hq165 H.size) cw_X12_pack mG_2476 rfl rfl hl.1 (Nat.le_of_ble_eq_true rfl) dX12_around_165 ⟨by omega, by omega⟩ (fun H locs X => ?_)
  obtain ⟨r168, τ168, hq168, hg⟩ := bd_some hg
  refine gc_Vv (As := [.long r165]) (rest := []) (q0 := 0) (ci := 15) S X (k2_X12_signs l dC dI ad kc hq168 H.size) cw_X12_signs mG_2919 rfl rfl rfl rfl rfl hl.1 (Nat.le_of_ble_eq_true rfl) dX12_around_168 ⟨by omega, by omega⟩ (fun H locs X => ?_)
  refine lv_goto (tgt := 378) hx hb dX12_around_171 (by decide) ?_
  obtain ⟨-, rfl⟩ := fin_some hg
  exact gr_v S hr hk X dX12_around_378
set_option maxHeartbeats 4000000 in
set_option maxRecDepth 100000 in
theorem w_X12_around_b15 {σ : S5} {v1 : Int32} {v2 : Int32} {u0 : Int32} {H : Heap} {locs : List Loc} {ls : Array Slot} (S : CallFix p m c cX12_around 4 s args uG RX12) (hr : meth.sig.returnType = none) (hk : meth.locks = false) (hR : 4 ≤ R.frames ∧ 87 ≤ R.locals)
    (X : gX (dC, dI) (tM kc) (wM ad kc) Z A s σ H locs) (hl : lv_has ls 4 [(0, .ref (ad 0)), (1, .int v1), (2, .int v2)]) (hg : f_X12_around_b15 v1 v2 u0 σ = some (r, τ)) : W p l e R s m args below meth c H locs 0 0 (MQ below (gQv (dC, dI) (tM kc) (wM ad kc) A r τ) args s 0 0 A) (F0 m 15 ls [.int u0]) := by
  have hx := S.1
  have hb := S.2.1
  have hown := S.2.2.2.1
  have hu := S.2.2.2.2
  unfold f_X12_around_b15 at hg
  refine lv_istore_n (lv' := [(3, .int u0), (0, .ref (ad 0)), (1, .int v1), (2, .int v2)]) hx hb dX12_around_15 rfl hl (by decide) rfl (fun ls hl => ?_)
  refine lv_aload_n hx hb dX12_around_16 rfl (lv_at hl 1 rfl) ?_
  refine wmgR_0_64 S X mG_2114 dX12_around_17 ?_
  refine lv_iload_n hx hb dX12_around_20 rfl (lv_at hl 2 rfl) ?_
  obtain ⟨hi21, hg⟩ := gd_some hg
  refine wmlA_31 (v := (xA σ 31 v1)) S X hi21 rfl dX12_around_21 ?_
  rcases sw_0_7 ((xA σ 31 v1)) with hsw | hsw | hsw | hsw | hsw | hsw | hsw | hsw | hsw
  · refine lv_tableOut (tgt := 354) hx hb dX12_around_22 hsw (by decide) ?_
    obtain ⟨hs0, hs1, hs2, hs3, hs4, hs5, hs6, hs7⟩ := swo_0_7 hsw
    have hg := (if_neg hs0).symm.trans hg
    have hg := (if_neg hs1).symm.trans hg
    have hg := (if_neg hs2).symm.trans hg
    have hg := (if_neg hs3).symm.trans hg
    have hg := (if_neg hs4).symm.trans hg
    have hg := (if_neg hs5).symm.trans hg
    have hg := (if_neg hs6).symm.trans hg
    have hg := (if_neg hs7).symm.trans hg
    refine lv_aload_n hx hb dX12_around_354 rfl (lv_at hl 1 rfl) ?_
    refine lv_iload_n hx hb dX12_around_355 rfl (lv_at hl 0 rfl) ?_
    refine lv_if_eq (tgt := 364) hx hb dX12_around_356 (by decide) (fun c356 => ?_) (fun c356 => ?_)
    · have hg := (if_pos c356).symm.trans hg
      refine lv_iload_n hx hb dX12_around_364 rfl (lv_at hl 3 rfl) ?_
      refine lv_if_ne (tgt := 373) hx hb dX12_around_365 (by decide) (fun c365 => ?_) (fun c365 => ?_)
      · have hg := (if_neg c365).symm.trans hg
        refine lv_bipush (v := 32) hx hb dX12_around_373 (by decide) ?_
        exact w_X12_around_b375 S hr hk hR X (lv_sub hl [] rfl) hg
      · have hg := (if_pos c365).symm.trans hg
        refine lv_bipush (v := 40) hx hb dX12_around_368 (by decide) ?_
        refine lv_goto (tgt := 375) hx hb dX12_around_370 (by decide) ?_
        exact w_X12_around_b375 S hr hk hR X (lv_sub hl [] rfl) hg
    · have hg := (if_neg c356).symm.trans hg
      refine lv_bipush (v := 41) hx hb dX12_around_359 (by decide) ?_
      refine lv_goto (tgt := 375) hx hb dX12_around_361 (by decide) ?_
      exact w_X12_around_b375 S hr hk hR X (lv_sub hl [] rfl) hg
  · refine lv_tableIn (off := 46) (tgt := 68) hx hb dX12_around_22 (by rw [hsw]; decide) (by rw [hsw]; decide) (by rw [hsw]; decide) (by decide) ?_
    have hg := (if_pos hsw).symm.trans hg
    refine lv_iload_n hx hb dX12_around_68 rfl (lv_at hl 0 rfl) ?_
    refine lv_if_eq (tgt := 81) hx hb dX12_around_69 (by decide) (fun c69 => ?_) (fun c69 => ?_)
    · have hg := (if_pos c69).symm.trans hg
      refine lv_iload_n hx hb dX12_around_81 rfl (lv_at hl 3 rfl) ?_
      refine lv_aload_n hx hb dX12_around_82 rfl (lv_at hl 1 rfl) ?_
      refine wmgR_0_65 S X mG_2115 dX12_around_83 ?_
      refine lv_iload_n hx hb dX12_around_86 rfl (lv_at hl 2 rfl) ?_
      obtain ⟨hi87, hg⟩ := gd_some hg
      refine wmlA_32 (v := (xA σ 32 v1)) S X hi87 rfl dX12_around_87 ?_
      refine lv_icmp_ne (tgt := 110) hx hb dX12_around_88 (by decide) (fun c88 => ?_) (fun c88 => ?_)
      · have hg := (if_neg c88).symm.trans hg
        refine lv_aload_n hx hb dX12_around_110 rfl (lv_at hl 1 rfl) ?_
        refine lv_iload_n hx hb dX12_around_111 rfl (lv_at hl 3 rfl) ?_
        refine lv_if_ne (tgt := 131) hx hb dX12_around_112 (by decide) (fun c112 => ?_) (fun c112 => ?_)
        · have hg := (if_neg c112).symm.trans hg
          refine lv_bipush (v := 44) hx hb dX12_around_131 (by decide) ?_
          refine lv_bipush (v := 32) hx hb dX12_around_133 (by decide) ?_
          refine lv_iconst (v := 0) hx hb dX12_around_135 (by decide) ?_
          refine lv_iconst (v := 0) hx hb dX12_around_136 (by decide) ?_
          refine lv_iconst (v := 0) hx hb dX12_around_137 (by decide) ?_
          obtain ⟨r138, τ138, hq138, hg⟩ := bd_some hg
          refine gc_Sl (As := [.int 44, .int 32, .int 0, .int 0, .int 0]) (rest := [.ref (ad 0)]) S X (k2_X12_pack l dC dI ad kc hq138 H.size) cw_X12_pack mG_2476 rfl rfl hl.1 (Nat.le_of_ble_eq_true rfl) dX12_around_138 ⟨by omega, by omega⟩ (fun H locs X => ?_)
          exact w_X12_around_b141 S hr hk hR X (lv_sub hl [1, 2, 3] rfl) hg
        · have hg := (if_pos c112).symm.trans hg
          refine lv_bipush (v := 40) hx hb dX12_around_115 (by decide) ?_
          refine lv_bipush (v := 108) hx hb dX12_around_117 (by decide) ?_
          refine lv_bipush (v := 101) hx hb dX12_around_119 (by decide) ?_
          refine lv_bipush (v := 116) hx hb dX12_around_121 (by decide) ?_
          refine lv_bipush (v := 32) hx hb dX12_around_123 (by decide) ?_
          obtain ⟨r125, τ125, hq125, hg⟩ := bd_some hg
          refine gc_Sl (As := [.int 40, .int 108, .int 101, .int 116, .int 32]) (rest := [.ref (ad 0)]) S X (k2_X12_pack l dC dI ad kc hq125 H.size) cw_X12_pack mG_2476 rfl rfl hl.1 (Nat.le_of_ble_eq_true rfl) dX12_around_125 ⟨by omega, by omega⟩ (fun H locs X => ?_)
          refine lv_goto (tgt := 141) hx hb dX12_around_128 (by decide) ?_
          exact w_X12_around_b141 S hr hk hR X (lv_sub hl [1, 2, 3] rfl) hg
      · have hg := (if_pos c88).symm.trans hg
        refine lv_aload_n hx hb dX12_around_91 rfl (lv_at hl 1 rfl) ?_
        refine lv_bipush (v := 32) hx hb dX12_around_92 (by decide) ?_
        refine lv_bipush (v := 105) hx hb dX12_around_94 (by decide) ?_
        refine lv_bipush (v := 110) hx hb dX12_around_96 (by decide) ?_
        refine lv_bipush (v := 32) hx hb dX12_around_98 (by decide) ?_
        refine lv_iconst (v := 0) hx hb dX12_around_100 (by decide) ?_
        obtain ⟨r101, τ101, hq101, hg⟩ := bd_some hg
        refine gc_Sl (As := [.int 32, .int 105, .int 110, .int 32, .int 0]) (rest := [.ref (ad 0)]) S X (k2_X12_pack l dC dI ad kc hq101 H.size) cw_X12_pack mG_2476 rfl rfl hl.1 (Nat.le_of_ble_eq_true rfl) dX12_around_101 ⟨by omega, by omega⟩ (fun H locs X => ?_)
        obtain ⟨r104, τ104, hq104, hg⟩ := bd_some hg
        refine gc_Vv (As := [.long r101]) (rest := []) (q0 := 0) (ci := 15) S X (k2_X12_signs l dC dI ad kc hq104 H.size) cw_X12_signs mG_2919 rfl rfl rfl rfl rfl hl.1 (Nat.le_of_ble_eq_true rfl) dX12_around_104 ⟨by omega, by omega⟩ (fun H locs X => ?_)
        refine lv_goto (tgt := 378) hx hb dX12_around_107 (by decide) ?_
        obtain ⟨-, rfl⟩ := fin_some hg
        exact gr_v S hr hk X dX12_around_378
    · have hg := (if_neg c69).symm.trans hg
      refine lv_aload_n hx hb dX12_around_72 rfl (lv_at hl 1 rfl) ?_
      refine lv_bipush (v := 41) hx hb dX12_around_73 (by decide) ?_
      obtain ⟨r75, τ75, hq75, hg⟩ := bd_some hg
      refine gc_Vv (As := [.int 41]) (rest := []) (q0 := 0) (ci := 15) S X (k2_X12_letters l dC dI ad kc hq75 H.size) cw_X12_letters mG_2923 rfl rfl rfl rfl rfl hl.1 (Nat.le_of_ble_eq_true rfl) dX12_around_75 ⟨by omega, by omega⟩ (fun H locs X => ?_)
      refine lv_goto (tgt := 378) hx hb dX12_around_78 (by decide) ?_
      obtain ⟨-, rfl⟩ := fin_some hg
      exact gr_v S hr hk X dX12_around_378
  · refine lv_tableIn (off := 332) (tgt := 354) hx hb dX12_around_22 (by rw [hsw]; decide) (by rw [hsw]; decide) (by rw [hsw]; decide) (by decide) ?_
    have hg := (if_neg (by rw [hsw]; decide)).symm.trans hg
    have hg := (if_pos hsw).symm.trans hg
    refine lv_aload_n hx hb dX12_around_354 rfl (lv_at hl 1 rfl) ?_
    refine lv_iload_n hx hb dX12_around_355 rfl (lv_at hl 0 rfl) ?_
    refine lv_if_eq (tgt := 364) hx hb dX12_around_356 (by decide) (fun c356 => ?_) (fun c356 => ?_)
    · have hg := (if_pos c356).symm.trans hg
      refine lv_iload_n hx hb dX12_around_364 rfl (lv_at hl 3 rfl) ?_
      refine lv_if_ne (tgt := 373) hx hb dX12_around_365 (by decide) (fun c365 => ?_) (fun c365 => ?_)
      · have hg := (if_neg c365).symm.trans hg
        refine lv_bipush (v := 32) hx hb dX12_around_373 (by decide) ?_
        exact w_X12_around_b375 S hr hk hR X (lv_sub hl [] rfl) hg
      · have hg := (if_pos c365).symm.trans hg
        refine lv_bipush (v := 40) hx hb dX12_around_368 (by decide) ?_
        refine lv_goto (tgt := 375) hx hb dX12_around_370 (by decide) ?_
        exact w_X12_around_b375 S hr hk hR X (lv_sub hl [] rfl) hg
    · have hg := (if_neg c356).symm.trans hg
      refine lv_bipush (v := 41) hx hb dX12_around_359 (by decide) ?_
      refine lv_goto (tgt := 375) hx hb dX12_around_361 (by decide) ?_
      exact w_X12_around_b375 S hr hk hR X (lv_sub hl [] rfl) hg
  · refine lv_tableIn (off := 332) (tgt := 354) hx hb dX12_around_22 (by rw [hsw]; decide) (by rw [hsw]; decide) (by rw [hsw]; decide) (by decide) ?_
    have hg := (if_neg (by rw [hsw]; decide)).symm.trans hg
    have hg := (if_neg (by rw [hsw]; decide)).symm.trans hg
    have hg := (if_pos hsw).symm.trans hg
    refine lv_aload_n hx hb dX12_around_354 rfl (lv_at hl 1 rfl) ?_
    refine lv_iload_n hx hb dX12_around_355 rfl (lv_at hl 0 rfl) ?_
    refine lv_if_eq (tgt := 364) hx hb dX12_around_356 (by decide) (fun c356 => ?_) (fun c356 => ?_)
    · have hg := (if_pos c356).symm.trans hg
      refine lv_iload_n hx hb dX12_around_364 rfl (lv_at hl 3 rfl) ?_
      refine lv_if_ne (tgt := 373) hx hb dX12_around_365 (by decide) (fun c365 => ?_) (fun c365 => ?_)
      · have hg := (if_neg c365).symm.trans hg
        refine lv_bipush (v := 32) hx hb dX12_around_373 (by decide) ?_
        exact w_X12_around_b375 S hr hk hR X (lv_sub hl [] rfl) hg
      · have hg := (if_pos c365).symm.trans hg
        refine lv_bipush (v := 40) hx hb dX12_around_368 (by decide) ?_
        refine lv_goto (tgt := 375) hx hb dX12_around_370 (by decide) ?_
        exact w_X12_around_b375 S hr hk hR X (lv_sub hl [] rfl) hg
    · have hg := (if_neg c356).symm.trans hg
      refine lv_bipush (v := 41) hx hb dX12_around_359 (by decide) ?_
      refine lv_goto (tgt := 375) hx hb dX12_around_361 (by decide) ?_
      exact w_X12_around_b375 S hr hk hR X (lv_sub hl [] rfl) hg
  · refine lv_tableIn (off := 152) (tgt := 174) hx hb dX12_around_22 (by rw [hsw]; decide) (by rw [hsw]; decide) (by rw [hsw]; decide) (by decide) ?_
    have hg := (if_neg (by rw [hsw]; decide)).symm.trans hg
    have hg := (if_neg (by rw [hsw]; decide)).symm.trans hg
    have hg := (if_neg (by rw [hsw]; decide)).symm.trans hg
    have hg := (if_pos hsw).symm.trans hg
    refine lv_iload_n hx hb dX12_around_174 rfl (lv_at hl 0 rfl) ?_
    refine lv_if_eq (tgt := 195) hx hb dX12_around_175 (by decide) (fun c175 => ?_) (fun c175 => ?_)
    · have hg := (if_pos c175).symm.trans hg
      refine lv_iload_n hx hb dX12_around_195 rfl (lv_at hl 3 rfl) ?_
      refine lv_if_ne (tgt := 225) hx hb dX12_around_196 (by decide) (fun c196 => ?_) (fun c196 => ?_)
      · have hg := (if_neg c196).symm.trans hg
        refine lv_aload_n hx hb dX12_around_225 rfl (lv_at hl 1 rfl) ?_
        refine lv_iload_n hx hb dX12_around_226 rfl (lv_at hl 3 rfl) ?_
        refine lv_iconst (v := 1) hx hb dX12_around_227 (by decide) ?_
        refine lv_icmp_ne (tgt := 247) hx hb dX12_around_228 (by decide) (fun c228 => ?_) (fun c228 => ?_)
        · have hg := (if_neg c228).symm.trans hg
          refine lv_bipush (v := 59) hx hb dX12_around_247 (by decide) ?_
          refine lv_bipush (v := 32) hx hb dX12_around_249 (by decide) ?_
          refine lv_iconst (v := 0) hx hb dX12_around_251 (by decide) ?_
          refine lv_iconst (v := 0) hx hb dX12_around_252 (by decide) ?_
          refine lv_iconst (v := 0) hx hb dX12_around_253 (by decide) ?_
          obtain ⟨r254, τ254, hq254, hg⟩ := bd_some hg
          refine gc_Sl (As := [.int 59, .int 32, .int 0, .int 0, .int 0]) (rest := [.ref (ad 0)]) S X (k2_X12_pack l dC dI ad kc hq254 H.size) cw_X12_pack mG_2476 rfl rfl hl.1 (Nat.le_of_ble_eq_true rfl) dX12_around_254 ⟨by omega, by omega⟩ (fun H locs X => ?_)
          exact w_X12_around_b257 S hr hk hR X (lv_sub hl [1, 2, 3] rfl) hg
        · have hg := (if_pos c228).symm.trans hg
          refine lv_bipush (v := 32) hx hb dX12_around_231 (by decide) ?_
          refine lv_bipush (v := 111) hx hb dX12_around_233 (by decide) ?_
          refine lv_bipush (v := 102) hx hb dX12_around_235 (by decide) ?_
          refine lv_bipush (v := 32) hx hb dX12_around_237 (by decide) ?_
          refine lv_bipush (v := 123) hx hb dX12_around_239 (by decide) ?_
          obtain ⟨r241, τ241, hq241, hg⟩ := bd_some hg
          refine gc_Sl (As := [.int 32, .int 111, .int 102, .int 32, .int 123]) (rest := [.ref (ad 0)]) S X (k2_X12_pack l dC dI ad kc hq241 H.size) cw_X12_pack mG_2476 rfl rfl hl.1 (Nat.le_of_ble_eq_true rfl) dX12_around_241 ⟨by omega, by omega⟩ (fun H locs X => ?_)
          refine lv_goto (tgt := 257) hx hb dX12_around_244 (by decide) ?_
          exact w_X12_around_b257 S hr hk hR X (lv_sub hl [1, 2, 3] rfl) hg
      · have hg := (if_pos c196).symm.trans hg
        refine lv_aload_n hx hb dX12_around_199 rfl (lv_at hl 1 rfl) ?_
        refine lv_bipush (v := 40) hx hb dX12_around_200 (by decide) ?_
        refine lv_bipush (v := 99) hx hb dX12_around_202 (by decide) ?_
        refine lv_bipush (v := 97) hx hb dX12_around_204 (by decide) ?_
        refine lv_bipush (v := 115) hx hb dX12_around_206 (by decide) ?_
        refine lv_bipush (v := 101) hx hb dX12_around_208 (by decide) ?_
        obtain ⟨r210, τ210, hq210, hg⟩ := bd_some hg
        refine gc_Sl (As := [.int 40, .int 99, .int 97, .int 115, .int 101]) (rest := [.ref (ad 0)]) S X (k2_X12_pack l dC dI ad kc hq210 H.size) cw_X12_pack mG_2476 rfl rfl hl.1 (Nat.le_of_ble_eq_true rfl) dX12_around_210 ⟨by omega, by omega⟩ (fun H locs X => ?_)
        obtain ⟨r213, τ213, hq213, hg⟩ := bd_some hg
        refine gc_Vv (As := [.long r210]) (rest := []) (q0 := 0) (ci := 15) S X (k2_X12_signs l dC dI ad kc hq213 H.size) cw_X12_signs mG_2919 rfl rfl rfl rfl rfl hl.1 (Nat.le_of_ble_eq_true rfl) dX12_around_213 ⟨by omega, by omega⟩ (fun H locs X => ?_)
        refine lv_aload_n hx hb dX12_around_216 rfl (lv_at hl 1 rfl) ?_
        refine lv_bipush (v := 32) hx hb dX12_around_217 (by decide) ?_
        obtain ⟨r219, τ219, hq219, hg⟩ := bd_some hg
        refine gc_Vv (As := [.int 32]) (rest := []) (q0 := 0) (ci := 15) S X (k2_X12_letters l dC dI ad kc hq219 H.size) cw_X12_letters mG_2923 rfl rfl rfl rfl rfl hl.1 (Nat.le_of_ble_eq_true rfl) dX12_around_219 ⟨by omega, by omega⟩ (fun H locs X => ?_)
        refine lv_goto (tgt := 378) hx hb dX12_around_222 (by decide) ?_
        obtain ⟨-, rfl⟩ := fin_some hg
        exact gr_v S hr hk X dX12_around_378
    · have hg := (if_neg c175).symm.trans hg
      refine lv_aload_n hx hb dX12_around_178 rfl (lv_at hl 1 rfl) ?_
      refine lv_bipush (v := 125) hx hb dX12_around_179 (by decide) ?_
      refine lv_bipush (v := 41) hx hb dX12_around_181 (by decide) ?_
      refine lv_iconst (v := 0) hx hb dX12_around_183 (by decide) ?_
      refine lv_iconst (v := 0) hx hb dX12_around_184 (by decide) ?_
      refine lv_iconst (v := 0) hx hb dX12_around_185 (by decide) ?_
      obtain ⟨r186, τ186, hq186, hg⟩ := bd_some hg
      refine gc_Sl (As := [.int 125, .int 41, .int 0, .int 0, .int 0]) (rest := [.ref (ad 0)]) S X (k2_X12_pack l dC dI ad kc hq186 H.size) cw_X12_pack mG_2476 rfl rfl hl.1 (Nat.le_of_ble_eq_true rfl) dX12_around_186 ⟨by omega, by omega⟩ (fun H locs X => ?_)
      obtain ⟨r189, τ189, hq189, hg⟩ := bd_some hg
      refine gc_Vv (As := [.long r186]) (rest := []) (q0 := 0) (ci := 15) S X (k2_X12_signs l dC dI ad kc hq189 H.size) cw_X12_signs mG_2919 rfl rfl rfl rfl rfl hl.1 (Nat.le_of_ble_eq_true rfl) dX12_around_189 ⟨by omega, by omega⟩ (fun H locs X => ?_)
      refine lv_goto (tgt := 378) hx hb dX12_around_192 (by decide) ?_
      obtain ⟨-, rfl⟩ := fin_some hg
      exact gr_v S hr hk X dX12_around_378
  · refine lv_tableIn (off := 332) (tgt := 354) hx hb dX12_around_22 (by rw [hsw]; decide) (by rw [hsw]; decide) (by rw [hsw]; decide) (by decide) ?_
    have hg := (if_neg (by rw [hsw]; decide)).symm.trans hg
    have hg := (if_neg (by rw [hsw]; decide)).symm.trans hg
    have hg := (if_neg (by rw [hsw]; decide)).symm.trans hg
    have hg := (if_neg (by rw [hsw]; decide)).symm.trans hg
    have hg := (if_pos hsw).symm.trans hg
    refine lv_aload_n hx hb dX12_around_354 rfl (lv_at hl 1 rfl) ?_
    refine lv_iload_n hx hb dX12_around_355 rfl (lv_at hl 0 rfl) ?_
    refine lv_if_eq (tgt := 364) hx hb dX12_around_356 (by decide) (fun c356 => ?_) (fun c356 => ?_)
    · have hg := (if_pos c356).symm.trans hg
      refine lv_iload_n hx hb dX12_around_364 rfl (lv_at hl 3 rfl) ?_
      refine lv_if_ne (tgt := 373) hx hb dX12_around_365 (by decide) (fun c365 => ?_) (fun c365 => ?_)
      · have hg := (if_neg c365).symm.trans hg
        refine lv_bipush (v := 32) hx hb dX12_around_373 (by decide) ?_
        exact w_X12_around_b375 S hr hk hR X (lv_sub hl [] rfl) hg
      · have hg := (if_pos c365).symm.trans hg
        refine lv_bipush (v := 40) hx hb dX12_around_368 (by decide) ?_
        refine lv_goto (tgt := 375) hx hb dX12_around_370 (by decide) ?_
        exact w_X12_around_b375 S hr hk hR X (lv_sub hl [] rfl) hg
    · have hg := (if_neg c356).symm.trans hg
      refine lv_bipush (v := 41) hx hb dX12_around_359 (by decide) ?_
      refine lv_goto (tgt := 375) hx hb dX12_around_361 (by decide) ?_
      exact w_X12_around_b375 S hr hk hR X (lv_sub hl [] rfl) hg
  · refine lv_tableIn (off := 253) (tgt := 275) hx hb dX12_around_22 (by rw [hsw]; decide) (by rw [hsw]; decide) (by rw [hsw]; decide) (by decide) ?_
    have hg := (if_neg (by rw [hsw]; decide)).symm.trans hg
    have hg := (if_neg (by rw [hsw]; decide)).symm.trans hg
    have hg := (if_neg (by rw [hsw]; decide)).symm.trans hg
    have hg := (if_neg (by rw [hsw]; decide)).symm.trans hg
    have hg := (if_neg (by rw [hsw]; decide)).symm.trans hg
    have hg := (if_pos hsw).symm.trans hg
    refine lv_iload_n hx hb dX12_around_275 rfl (lv_at hl 3 rfl) ?_
    refine lv_iconst (v := 1) hx hb dX12_around_276 (by decide) ?_
    refine lv_icmp_ne (tgt := 293) hx hb dX12_around_277 (by decide) (fun c277 => ?_) (fun c277 => ?_)
    · have hg := (if_neg c277).symm.trans hg
      refine lv_aload_n hx hb dX12_around_293 rfl (lv_at hl 1 rfl) ?_
      refine lv_iload_n hx hb dX12_around_294 rfl (lv_at hl 0 rfl) ?_
      refine lv_if_eq (tgt := 303) hx hb dX12_around_295 (by decide) (fun c295 => ?_) (fun c295 => ?_)
      · have hg := (if_pos c295).symm.trans hg
        refine lv_bipush (v := 40) hx hb dX12_around_303 (by decide) ?_
        exact w_X12_around_b305 S hr hk hR X (lv_sub hl [] rfl) hg
      · have hg := (if_neg c295).symm.trans hg
        refine lv_bipush (v := 41) hx hb dX12_around_298 (by decide) ?_
        refine lv_goto (tgt := 305) hx hb dX12_around_300 (by decide) ?_
        exact w_X12_around_b305 S hr hk hR X (lv_sub hl [] rfl) hg
    · have hg := (if_pos c277).symm.trans hg
      refine lv_aload_n hx hb dX12_around_280 rfl (lv_at hl 1 rfl) ?_
      refine lv_aload_n hx hb dX12_around_281 rfl (lv_at hl 1 rfl) ?_
      refine wmgR_0_65 S X mG_2115 dX12_around_282 ?_
      refine lv_iload_n hx hb dX12_around_285 rfl (lv_at hl 2 rfl) ?_
      obtain ⟨hi286, hg⟩ := gd_some hg
      refine wmlA_32 (v := (xA σ 32 v1)) S X hi286 rfl dX12_around_286 ?_
      obtain ⟨r287, τ287, hq287, hg⟩ := bd_some hg
      refine gc_Vv (As := [.int (xA σ 32 v1)]) (rest := []) (q0 := 0) (ci := 15) S X (k2_X12_operation l dC dI ad kc hq287 H.size) cw_X12_operation mG_2955 rfl rfl rfl rfl rfl hl.1 (Nat.le_of_ble_eq_true rfl) dX12_around_287 ⟨by omega, by omega⟩ (fun H locs X => ?_)
      refine lv_goto (tgt := 378) hx hb dX12_around_290 (by decide) ?_
      obtain ⟨-, rfl⟩ := fin_some hg
      exact gr_v S hr hk X dX12_around_378
  · refine lv_tableIn (off := 332) (tgt := 354) hx hb dX12_around_22 (by rw [hsw]; decide) (by rw [hsw]; decide) (by rw [hsw]; decide) (by decide) ?_
    have hg := (if_neg (by rw [hsw]; decide)).symm.trans hg
    have hg := (if_neg (by rw [hsw]; decide)).symm.trans hg
    have hg := (if_neg (by rw [hsw]; decide)).symm.trans hg
    have hg := (if_neg (by rw [hsw]; decide)).symm.trans hg
    have hg := (if_neg (by rw [hsw]; decide)).symm.trans hg
    have hg := (if_neg (by rw [hsw]; decide)).symm.trans hg
    have hg := (if_pos hsw).symm.trans hg
    refine lv_aload_n hx hb dX12_around_354 rfl (lv_at hl 1 rfl) ?_
    refine lv_iload_n hx hb dX12_around_355 rfl (lv_at hl 0 rfl) ?_
    refine lv_if_eq (tgt := 364) hx hb dX12_around_356 (by decide) (fun c356 => ?_) (fun c356 => ?_)
    · have hg := (if_pos c356).symm.trans hg
      refine lv_iload_n hx hb dX12_around_364 rfl (lv_at hl 3 rfl) ?_
      refine lv_if_ne (tgt := 373) hx hb dX12_around_365 (by decide) (fun c365 => ?_) (fun c365 => ?_)
      · have hg := (if_neg c365).symm.trans hg
        refine lv_bipush (v := 32) hx hb dX12_around_373 (by decide) ?_
        exact w_X12_around_b375 S hr hk hR X (lv_sub hl [] rfl) hg
      · have hg := (if_pos c365).symm.trans hg
        refine lv_bipush (v := 40) hx hb dX12_around_368 (by decide) ?_
        refine lv_goto (tgt := 375) hx hb dX12_around_370 (by decide) ?_
        exact w_X12_around_b375 S hr hk hR X (lv_sub hl [] rfl) hg
    · have hg := (if_neg c356).symm.trans hg
      refine lv_bipush (v := 41) hx hb dX12_around_359 (by decide) ?_
      refine lv_goto (tgt := 375) hx hb dX12_around_361 (by decide) ?_
      exact w_X12_around_b375 S hr hk hR X (lv_sub hl [] rfl) hg
  · refine lv_tableIn (off := 289) (tgt := 311) hx hb dX12_around_22 (by rw [hsw]; decide) (by rw [hsw]; decide) (by rw [hsw]; decide) (by decide) ?_
    have hg := (if_neg (by rw [hsw]; decide)).symm.trans hg
    have hg := (if_neg (by rw [hsw]; decide)).symm.trans hg
    have hg := (if_neg (by rw [hsw]; decide)).symm.trans hg
    have hg := (if_neg (by rw [hsw]; decide)).symm.trans hg
    have hg := (if_neg (by rw [hsw]; decide)).symm.trans hg
    have hg := (if_neg (by rw [hsw]; decide)).symm.trans hg
    have hg := (if_neg (by rw [hsw]; decide)).symm.trans hg
    have hg := (if_pos hsw).symm.trans hg
    refine lv_iload_n hx hb dX12_around_311 rfl (lv_at hl 3 rfl) ?_
    refine lv_if_ne (tgt := 336) hx hb dX12_around_312 (by decide) (fun c312 => ?_) (fun c312 => ?_)
    · have hg := (if_neg c312).symm.trans hg
      exact w_X12_around_b336 S hr hk hR X (lv_sub hl [1, 0] rfl) hg
    · have hg := (if_pos c312).symm.trans hg
      refine lv_aload_n hx hb dX12_around_315 rfl (lv_at hl 1 rfl) ?_
      refine lv_bipush (v := 40) hx hb dX12_around_316 (by decide) ?_
      obtain ⟨r318, τ318, hq318, hg⟩ := bd_some hg
      refine gc_Vv (As := [.int 40]) (rest := []) (q0 := 0) (ci := 15) S X (k2_X12_letters l dC dI ad kc hq318 H.size) cw_X12_letters mG_2923 rfl rfl rfl rfl rfl hl.1 (Nat.le_of_ble_eq_true rfl) dX12_around_318 ⟨by omega, by omega⟩ (fun H locs X => ?_)
      refine lv_aload_n hx hb dX12_around_321 rfl (lv_at hl 1 rfl) ?_
      refine lv_aload_n hx hb dX12_around_322 rfl (lv_at hl 1 rfl) ?_
      refine wmgR_0_32 S X mG_2082 dX12_around_323 ?_
      refine lv_aload_n hx hb dX12_around_326 rfl (lv_at hl 1 rfl) ?_
      refine wmgR_0_65 S X mG_2115 dX12_around_327 ?_
      refine lv_iload_n hx hb dX12_around_330 rfl (lv_at hl 2 rfl) ?_
      obtain ⟨hi331, hg⟩ := gd_some hg
      refine wmlA_32 (v := (xA τ318 32 v1)) S X hi331 rfl dX12_around_331 ?_
      obtain ⟨hi332, hg⟩ := gd_some hg
      refine wmlB_3 (v := (xB τ318 3 (xA τ318 32 v1))) S X hi332 rfl dX12_around_332 ?_
      obtain ⟨r333, τ333, hq333, hg⟩ := bd_some hg
      refine gc_Vv (As := [.long (xB τ318 3 (xA τ318 32 v1))]) (rest := []) (q0 := 0) (ci := 15) S X (k2_X12_signs l dC dI ad kc hq333 H.size) cw_X12_signs mG_2919 rfl rfl rfl rfl rfl hl.1 (Nat.le_of_ble_eq_true rfl) dX12_around_333 ⟨by omega, by omega⟩ (fun H locs X => ?_)
      exact w_X12_around_b336 S hr hk hR X (lv_sub hl [1, 0] rfl) hg
set_option maxHeartbeats 4000000 in
set_option maxRecDepth 100000 in
theorem w_X12_around {σ : S5} {a1 : Int32} {a2 : Int32} {H : Heap} {locs : List Loc} {ls : Array Slot} (S : CallFix p m c cX12_around 4 s args uG RX12) (hr : meth.sig.returnType = none) (hk : meth.locks = false) (hR : 4 ≤ R.frames ∧ 87 ≤ R.locals)
    (X : gX (dC, dI) (tM kc) (wM ad kc) Z A s σ H locs) (hl : lv_has ls 4 [(0, .ref (ad 0)), (1, .int a1), (2, .int a2)]) (hg : f_X12_around a1 a2 σ = some (r, τ)) : W p l e R s m args below meth c H locs 0 0 (MQ below (gQv (dC, dI) (tM kc) (wM ad kc) A r τ) args s 0 0 A) (F0 m 0 ls []) := by
  have hx := S.1
  have hb := S.2.1
  have hown := S.2.2.2.1
  have hu := S.2.2.2.2
  unfold f_X12_around at hg
  refine lv_iload_n hx hb dX12_around_0 rfl (lv_at hl 2 rfl) ?_
  refine lv_aload_n hx hb dX12_around_1 rfl (lv_at hl 0 rfl) ?_
  refine wmgR_0_67 S X mG_2117 dX12_around_2 ?_
  refine lv_iload_n hx hb dX12_around_5 rfl (lv_at hl 1 rfl) ?_
  obtain ⟨hi6, hg⟩ := gd_some hg
  refine wmlA_34 (v := (xA σ 34 a1)) S X hi6 rfl dX12_around_6 ?_
  refine lv_icmp_ne (tgt := 14) hx hb dX12_around_7 (by decide) (fun c7 => ?_) (fun c7 => ?_)
  · have hg := (if_neg c7).symm.trans hg
    refine lv_iconst (v := 0) hx hb dX12_around_14 (by decide) ?_
    exact w_X12_around_b15 S hr hk hR X (lv_sub hl [0, 1, 2] rfl) hg
  · have hg := (if_pos c7).symm.trans hg
    refine lv_iconst (v := 1) hx hb dX12_around_10 (by decide) ?_
    refine lv_goto (tgt := 15) hx hb dX12_around_11 (by decide) ?_
    exact w_X12_around_b15 S hr hk hR X (lv_sub hl [0, 1, 2] rfl) hg
end MX12_around
set_option maxRecDepth 100000 in
theorem k2_X12_around (l : Launch) (dC : Nat → ClassId) (dI : Nat → Nat → Nat) {Z : ZZ} (ad : Nat → Nat) (kc : Nat → ClassId) {σ τ : S5} {a1 : Int32} {a2 : Int32} {r : Unit} (hg : f_X12_around a1 a2 σ = some (r, τ)) (sz : Nat) : Met l yX12_around (Cond.code yX12_around cX12_around 4 none :: uG) { frames := 4, cells := 0, slots := 0, locals := 87 } (gPc (dC, dI) (tM kc) (wM ad kc) Z [.ref (ad 0), .int a1, .int a2] σ sz) (gQv (dC, dI) (tM kc) (wM ad kc) (va_A (wM ad kc σ) sz) r τ) 0 0 (va_A (wM ad kc σ) sz) :=
  g_start (by decide) (Nat.le_of_ble_eq_true rfl) (fun p e s m below meth c ls S hr hk X hl => w_X12_around S hr hk ⟨Nat.le_refl _, Nat.le_refl _⟩ X hl hg)
section MX12_atom_
variable {p : Program} {l : Launch} {e : Env} {R : Room} {s : State} {m : MethodId} {args : Array Value} {below : List Frame} {meth : Method} {c : Code} {dC : Nat → ClassId} {dI : Nat → Nat → Nat} {Z : ZZ} {A : Nat → Prop} {ad : Nat → Nat} {kc : Nat → ClassId} {r : Unit} {τ : S5}
set_option maxHeartbeats 4000000 in
set_option maxRecDepth 100000 in
theorem w_X12_atom_ {σ : S5} {a1 : Int32} {H : Heap} {locs : List Loc} {ls : Array Slot} (S : CallFix p m c cX12_atom_ 2 s args uG RX12) (hr : meth.sig.returnType = none) (hk : meth.locks = false) (hR : 3 ≤ R.frames ∧ 69 ≤ R.locals)
    (X : gX (dC, dI) (tM kc) (wM ad kc) Z A s σ H locs) (hl : lv_has ls 2 [(0, .ref (ad 0)), (1, .int a1)]) (hg : f_X12_atom_ a1 σ = some (r, τ)) : W p l e R s m args below meth c H locs 0 0 (MQ below (gQv (dC, dI) (tM kc) (wM ad kc) A r τ) args s 0 0 A) (F0 m 0 ls []) := by
  have hx := S.1
  have hb := S.2.1
  have hown := S.2.2.2.1
  have hu := S.2.2.2.2
  unfold f_X12_atom_ at hg
  refine lv_aload_n hx hb dX12_atom__0 rfl (lv_at hl 0 rfl) ?_
  refine wmgR_0_64 S X mG_2114 dX12_atom__1 ?_
  refine lv_iload_n hx hb dX12_atom__4 rfl (lv_at hl 1 rfl) ?_
  obtain ⟨hi5, hg⟩ := gd_some hg
  refine wmlA_31 (v := (xA σ 31 a1)) S X hi5 rfl dX12_atom__5 ?_
  rcases sw_9_13 ((xA σ 31 a1)) with hsw | hsw | hsw | hsw | hsw | hsw
  · refine lv_tableOut (tgt := 97) hx hb dX12_atom__6 hsw (by decide) ?_
    obtain ⟨hs0, hs1, hs2, hs3, hs4⟩ := swo_9_13 hsw
    have hg := (if_neg hs0).symm.trans hg
    have hg := (if_neg hs1).symm.trans hg
    have hg := (if_neg hs2).symm.trans hg
    have hg := (if_neg hs3).symm.trans hg
    have hg := (if_neg hs4).symm.trans hg
    refine lv_aload_n hx hb dX12_atom__97 rfl (lv_at hl 0 rfl) ?_
    refine lv_bipush (v := 102) hx hb dX12_atom__98 (by decide) ?_
    refine lv_bipush (v := 97) hx hb dX12_atom__100 (by decide) ?_
    refine lv_bipush (v := 105) hx hb dX12_atom__102 (by decide) ?_
    refine lv_bipush (v := 108) hx hb dX12_atom__104 (by decide) ?_
    refine lv_iconst (v := 0) hx hb dX12_atom__106 (by decide) ?_
    obtain ⟨r107, τ107, hq107, hg⟩ := bd_some hg
    refine gc_Sl (As := [.int 102, .int 97, .int 105, .int 108, .int 0]) (rest := [.ref (ad 0)]) S X (k2_X12_pack l dC dI ad kc hq107 H.size) cw_X12_pack mG_2476 rfl rfl hl.1 (Nat.le_of_ble_eq_true rfl) dX12_atom__107 ⟨by omega, by omega⟩ (fun H locs X => ?_)
    obtain ⟨r110, τ110, hq110, hg⟩ := bd_some hg
    refine gc_Vv (As := [.long r107]) (rest := []) (q0 := 0) (ci := 15) S X (k2_X12_signs l dC dI ad kc hq110 H.size) cw_X12_signs mG_2919 rfl rfl rfl rfl rfl hl.1 (Nat.le_of_ble_eq_true rfl) dX12_atom__110 ⟨by omega, by omega⟩ (fun H locs X => ?_)
    obtain ⟨-, rfl⟩ := fin_some hg
    exact gr_v S hr hk X dX12_atom__113
  · refine lv_tableIn (off := 73) (tgt := 79) hx hb dX12_atom__6 (by rw [hsw]; decide) (by rw [hsw]; decide) (by rw [hsw]; decide) (by decide) ?_
    have hg := (if_pos hsw).symm.trans hg
    refine lv_aload_n hx hb dX12_atom__79 rfl (lv_at hl 0 rfl) ?_
    refine lv_aload_n hx hb dX12_atom__80 rfl (lv_at hl 0 rfl) ?_
    refine wmgR_0_32 S X mG_2082 dX12_atom__81 ?_
    refine lv_aload_n hx hb dX12_atom__84 rfl (lv_at hl 0 rfl) ?_
    refine wmgR_0_65 S X mG_2115 dX12_atom__85 ?_
    refine lv_iload_n hx hb dX12_atom__88 rfl (lv_at hl 1 rfl) ?_
    obtain ⟨hi89, hg⟩ := gd_some hg
    refine wmlA_32 (v := (xA σ 32 a1)) S X hi89 rfl dX12_atom__89 ?_
    obtain ⟨hi90, hg⟩ := gd_some hg
    refine wmlB_3 (v := (xB σ 3 (xA σ 32 a1))) S X hi90 rfl dX12_atom__90 ?_
    obtain ⟨r91, τ91, hq91, hg⟩ := bd_some hg
    refine gc_Vv (As := [.long (xB σ 3 (xA σ 32 a1))]) (rest := []) (q0 := 0) (ci := 15) S X (k2_X12_signs l dC dI ad kc hq91 H.size) cw_X12_signs mG_2919 rfl rfl rfl rfl rfl hl.1 (Nat.le_of_ble_eq_true rfl) dX12_atom__91 ⟨by omega, by omega⟩ (fun H locs X => ?_)
    refine lv_goto (tgt := 113) hx hb dX12_atom__94 (by decide) ?_
    obtain ⟨-, rfl⟩ := fin_some hg
    exact gr_v S hr hk X dX12_atom__113
  · refine lv_tableIn (off := 60) (tgt := 66) hx hb dX12_atom__6 (by rw [hsw]; decide) (by rw [hsw]; decide) (by rw [hsw]; decide) (by decide) ?_
    have hg := (if_neg (by rw [hsw]; decide)).symm.trans hg
    have hg := (if_pos hsw).symm.trans hg
    refine lv_aload_n hx hb dX12_atom__66 rfl (lv_at hl 0 rfl) ?_
    refine lv_aload_n hx hb dX12_atom__67 rfl (lv_at hl 0 rfl) ?_
    refine wmgR_0_65 S X mG_2115 dX12_atom__68 ?_
    refine lv_iload_n hx hb dX12_atom__71 rfl (lv_at hl 1 rfl) ?_
    obtain ⟨hi72, hg⟩ := gd_some hg
    refine wmlA_32 (v := (xA σ 32 a1)) S X hi72 rfl dX12_atom__72 ?_
    obtain ⟨r73, τ73, hq73, hg⟩ := bd_some hg
    refine gc_Vv (As := [.int (xA σ 32 a1)]) (rest := []) (q0 := 0) (ci := 15) S X (k2_X12_digits l dC dI ad kc hq73 H.size) cw_X12_digits mG_2927 rfl rfl rfl rfl rfl hl.1 (Nat.le_of_ble_eq_true rfl) dX12_atom__73 ⟨by omega, by omega⟩ (fun H locs X => ?_)
    refine lv_goto (tgt := 113) hx hb dX12_atom__76 (by decide) ?_
    obtain ⟨-, rfl⟩ := fin_some hg
    exact gr_v S hr hk X dX12_atom__113
  · refine lv_tableIn (off := 91) (tgt := 97) hx hb dX12_atom__6 (by rw [hsw]; decide) (by rw [hsw]; decide) (by rw [hsw]; decide) (by decide) ?_
    have hg := (if_neg (by rw [hsw]; decide)).symm.trans hg
    have hg := (if_neg (by rw [hsw]; decide)).symm.trans hg
    have hg := (if_pos hsw).symm.trans hg
    refine lv_aload_n hx hb dX12_atom__97 rfl (lv_at hl 0 rfl) ?_
    refine lv_bipush (v := 102) hx hb dX12_atom__98 (by decide) ?_
    refine lv_bipush (v := 97) hx hb dX12_atom__100 (by decide) ?_
    refine lv_bipush (v := 105) hx hb dX12_atom__102 (by decide) ?_
    refine lv_bipush (v := 108) hx hb dX12_atom__104 (by decide) ?_
    refine lv_iconst (v := 0) hx hb dX12_atom__106 (by decide) ?_
    obtain ⟨r107, τ107, hq107, hg⟩ := bd_some hg
    refine gc_Sl (As := [.int 102, .int 97, .int 105, .int 108, .int 0]) (rest := [.ref (ad 0)]) S X (k2_X12_pack l dC dI ad kc hq107 H.size) cw_X12_pack mG_2476 rfl rfl hl.1 (Nat.le_of_ble_eq_true rfl) dX12_atom__107 ⟨by omega, by omega⟩ (fun H locs X => ?_)
    obtain ⟨r110, τ110, hq110, hg⟩ := bd_some hg
    refine gc_Vv (As := [.long r107]) (rest := []) (q0 := 0) (ci := 15) S X (k2_X12_signs l dC dI ad kc hq110 H.size) cw_X12_signs mG_2919 rfl rfl rfl rfl rfl hl.1 (Nat.le_of_ble_eq_true rfl) dX12_atom__110 ⟨by omega, by omega⟩ (fun H locs X => ?_)
    obtain ⟨-, rfl⟩ := fin_some hg
    exact gr_v S hr hk X dX12_atom__113
  · refine lv_tableIn (off := 47) (tgt := 53) hx hb dX12_atom__6 (by rw [hsw]; decide) (by rw [hsw]; decide) (by rw [hsw]; decide) (by decide) ?_
    have hg := (if_neg (by rw [hsw]; decide)).symm.trans hg
    have hg := (if_neg (by rw [hsw]; decide)).symm.trans hg
    have hg := (if_neg (by rw [hsw]; decide)).symm.trans hg
    have hg := (if_pos hsw).symm.trans hg
    refine lv_aload_n hx hb dX12_atom__53 rfl (lv_at hl 0 rfl) ?_
    refine lv_aload_n hx hb dX12_atom__54 rfl (lv_at hl 0 rfl) ?_
    refine wmgR_0_65 S X mG_2115 dX12_atom__55 ?_
    refine lv_iload_n hx hb dX12_atom__58 rfl (lv_at hl 1 rfl) ?_
    obtain ⟨hi59, hg⟩ := gd_some hg
    refine wmlA_32 (v := (xA σ 32 a1)) S X hi59 rfl dX12_atom__59 ?_
    obtain ⟨r60, τ60, hq60, hg⟩ := bd_some hg
    refine gc_Vv (As := [.int (xA σ 32 a1)]) (rest := []) (q0 := 0) (ci := 15) S X (k2_X12_functionName l dC dI ad kc hq60 H.size) cw_X12_functionName mG_2931 rfl rfl rfl rfl rfl hl.1 (Nat.le_of_ble_eq_true rfl) dX12_atom__60 ⟨by omega, by omega⟩ (fun H locs X => ?_)
    refine lv_goto (tgt := 113) hx hb dX12_atom__63 (by decide) ?_
    obtain ⟨-, rfl⟩ := fin_some hg
    exact gr_v S hr hk X dX12_atom__113
  · refine lv_tableIn (off := 34) (tgt := 40) hx hb dX12_atom__6 (by rw [hsw]; decide) (by rw [hsw]; decide) (by rw [hsw]; decide) (by decide) ?_
    have hg := (if_neg (by rw [hsw]; decide)).symm.trans hg
    have hg := (if_neg (by rw [hsw]; decide)).symm.trans hg
    have hg := (if_neg (by rw [hsw]; decide)).symm.trans hg
    have hg := (if_neg (by rw [hsw]; decide)).symm.trans hg
    have hg := (if_pos hsw).symm.trans hg
    refine lv_aload_n hx hb dX12_atom__40 rfl (lv_at hl 0 rfl) ?_
    refine lv_aload_n hx hb dX12_atom__41 rfl (lv_at hl 0 rfl) ?_
    refine wmgR_0_65 S X mG_2115 dX12_atom__42 ?_
    refine lv_iload_n hx hb dX12_atom__45 rfl (lv_at hl 1 rfl) ?_
    obtain ⟨hi46, hg⟩ := gd_some hg
    refine wmlA_32 (v := (xA σ 32 a1)) S X hi46 rfl dX12_atom__46 ?_
    obtain ⟨r47, τ47, hq47, hg⟩ := bd_some hg
    refine gc_Vv (As := [.int (xA σ 32 a1)]) (rest := []) (q0 := 0) (ci := 15) S X (k2_X12_variable l dC dI ad kc hq47 H.size) cw_X12_variable mG_2935 rfl rfl rfl rfl rfl hl.1 (Nat.le_of_ble_eq_true rfl) dX12_atom__47 ⟨by omega, by omega⟩ (fun H locs X => ?_)
    refine lv_goto (tgt := 113) hx hb dX12_atom__50 (by decide) ?_
    obtain ⟨-, rfl⟩ := fin_some hg
    exact gr_v S hr hk X dX12_atom__113
end MX12_atom_
set_option maxRecDepth 100000 in
theorem k2_X12_atom_ (l : Launch) (dC : Nat → ClassId) (dI : Nat → Nat → Nat) {Z : ZZ} (ad : Nat → Nat) (kc : Nat → ClassId) {σ τ : S5} {a1 : Int32} {r : Unit} (hg : f_X12_atom_ a1 σ = some (r, τ)) (sz : Nat) : Met l yX12_atom_ (Cond.code yX12_atom_ cX12_atom_ 2 none :: uG) { frames := 3, cells := 0, slots := 0, locals := 69 } (gPc (dC, dI) (tM kc) (wM ad kc) Z [.ref (ad 0), .int a1] σ sz) (gQv (dC, dI) (tM kc) (wM ad kc) (va_A (wM ad kc σ) sz) r τ) 0 0 (va_A (wM ad kc σ) sz) :=
  g_start (by decide) (Nat.le_of_ble_eq_true rfl) (fun p e s m below meth c ls S hr hk X hl => w_X12_atom_ S hr hk ⟨Nat.le_refl _, Nat.le_refl _⟩ X hl hg)
section MX12_writeE
variable {p : Program} {l : Launch} {e : Env} {R : Room} {s : State} {m : MethodId} {args : Array Value} {below : List Frame} {meth : Method} {c : Code} {dC : Nat → ClassId} {dI : Nat → Nat → Nat} {Z : ZZ} {A : Nat → Prop} {ad : Nat → Nat} {kc : Nat → ClassId} {r : Unit} {τ : S5}
set_option maxHeartbeats 4000000 in
set_option maxRecDepth 100000 in
theorem w_X12_writeE_b118 {σ : S5} {rec16 : Int32 → S5 → Option (Unit × S5)} {v2 : Int32} {H : Heap} {locs : List Loc} {ls : Array Slot} (S : CallFix p m c cX12_writeE 5 s args uG RX12) (hr : meth.sig.returnType = none) (hk : meth.locks = false) (hR : 5 ≤ R.frames ∧ 110 ≤ R.locals)
    (hrec16 : ∀ (v2 : Int32) (σ : S5) (H : Heap) (locs : List Loc) (ls : Array Slot), gX (dC, dI) (tM kc) (wM ad kc) Z A s σ H locs → lv_has ls 5 [(0, .ref (ad 0)), (2, .int v2)] → rec16 v2 σ = some (r, τ) → W p l e R s m args below meth c H locs 0 0 (MQ below (gQv (dC, dI) (tM kc) (wM ad kc) A r τ) args s 0 0 A) (F0 m 16 ls []))
    (X : gX (dC, dI) (tM kc) (wM ad kc) Z A s σ H locs) (hl : lv_has ls 5 [(0, .ref (ad 0)), (2, .int v2)]) (hg : f_X12_writeE_b118 rec16 v2 σ = some (r, τ)) : W p l e R s m args below meth c H locs 0 0 (MQ below (gQv (dC, dI) (tM kc) (wM ad kc) A r τ) args s 0 0 A) (F0 m 118 ls []) := by
  have hx := S.1
  have hb := S.2.1
  have hown := S.2.2.2.1
  have hu := S.2.2.2.2
  unfold f_X12_writeE_b118 at hg
  refine lv_goto (tgt := 16) hx hb dX12_writeE_118 (by decide) ?_
  exact hrec16 _ _ _ _ _ X (lv_sub hl [0, 1] rfl) hg
set_option maxHeartbeats 4000000 in
set_option maxRecDepth 100000 in
theorem w_X12_writeE_B16 {σ : S5} {rec16 : Int32 → S5 → Option (Unit × S5)} {v2 : Int32} {H : Heap} {locs : List Loc} {ls : Array Slot} (S : CallFix p m c cX12_writeE 5 s args uG RX12) (hr : meth.sig.returnType = none) (hk : meth.locks = false) (hR : 5 ≤ R.frames ∧ 110 ≤ R.locals)
    (hrec16 : ∀ (v2 : Int32) (σ : S5) (H : Heap) (locs : List Loc) (ls : Array Slot), gX (dC, dI) (tM kc) (wM ad kc) Z A s σ H locs → lv_has ls 5 [(0, .ref (ad 0)), (2, .int v2)] → rec16 v2 σ = some (r, τ) → W p l e R s m args below meth c H locs 0 0 (MQ below (gQv (dC, dI) (tM kc) (wM ad kc) A r τ) args s 0 0 A) (F0 m 16 ls []))
    (X : gX (dC, dI) (tM kc) (wM ad kc) Z A s σ H locs) (hl : lv_has ls 5 [(0, .ref (ad 0)), (2, .int v2)]) (hg : f_X12_writeE_B16 rec16 v2 σ = some (r, τ)) : W p l e R s m args below meth c H locs 0 0 (MQ below (gQv (dC, dI) (tM kc) (wM ad kc) A r τ) args s 0 0 A) (F0 m 16 ls []) := by
  have hx := S.1
  have hb := S.2.1
  have hown := S.2.2.2.1
  have hu := S.2.2.2.2
  unfold f_X12_writeE_B16 at hg
  refine lv_iload_n hx hb dX12_writeE_16 rfl (lv_at hl 1 rfl) ?_
  refine lv_if_le (tgt := 121) hx hb dX12_writeE_17 (by decide) (fun c17 => ?_) (fun c17 => ?_)
  · have hg := (if_pos c17).symm.trans hg
    obtain ⟨-, rfl⟩ := fin_some hg
    exact gr_v S hr hk X dX12_writeE_121
  · have hg := (if_neg c17).symm.trans hg
    refine lv_aload_n hx hb dX12_writeE_20 rfl (lv_at hl 0 rfl) ?_
    refine wmgR_0_60 S X mG_2110 dX12_writeE_21 ?_
    refine lv_iload_n hx hb dX12_writeE_24 rfl (lv_at hl 1 rfl) ?_
    refine lv_iconst (v := 1) hx hb dX12_writeE_25 (by decide) ?_
    refine lv_isub hx hb dX12_writeE_26 ?_
    obtain ⟨hi27, hg⟩ := gd_some hg
    refine wmlA_28 (v := (xA σ 28 (v2 - 1))) S X hi27 rfl dX12_writeE_27 ?_
    refine lv_istore_n (lv' := [(3, .int (xA σ 28 (v2 - 1))), (0, .ref (ad 0)), (2, .int v2)]) hx hb dX12_writeE_28 rfl hl (by decide) rfl (fun ls hl => ?_)
    refine lv_aload_n hx hb dX12_writeE_29 rfl (lv_at hl 1 rfl) ?_
    refine wmgR_0_61 S X mG_2111 dX12_writeE_30 ?_
    refine lv_iload_n hx hb dX12_writeE_33 rfl (lv_at hl 2 rfl) ?_
    refine lv_iconst (v := 1) hx hb dX12_writeE_34 (by decide) ?_
    refine lv_isub hx hb dX12_writeE_35 ?_
    obtain ⟨hi36, hg⟩ := gd_some hg
    refine wmlA_29 (v := (xA σ 29 (v2 - 1))) S X hi36 rfl dX12_writeE_36 ?_
    refine lv_istore (lv' := [(4, .int (xA σ 29 (v2 - 1))), (3, .int (xA σ 28 (v2 - 1))), (0, .ref (ad 0)), (2, .int v2)]) hx hb dX12_writeE_37 hl (by decide) rfl (fun ls hl => ?_)
    refine lv_aload_n hx hb dX12_writeE_39 rfl (lv_at hl 2 rfl) ?_
    refine wmgR_0_67 S X mG_2117 dX12_writeE_40 ?_
    refine lv_iload_n hx hb dX12_writeE_43 rfl (lv_at hl 1 rfl) ?_
    obtain ⟨hi44, hg⟩ := gd_some hg
    refine wmlA_34 (v := (xA σ 34 (xA σ 28 (v2 - 1)))) S X hi44 rfl dX12_writeE_44 ?_
    refine lv_if_ne (tgt := 59) hx hb dX12_writeE_45 (by decide) (fun c45 => ?_) (fun c45 => ?_)
    · have hg := (if_neg c45).symm.trans hg
      refine lv_aload_n hx hb dX12_writeE_59 rfl (lv_at hl 2 rfl) ?_
      refine lv_iload_n hx hb dX12_writeE_60 rfl (lv_at hl 1 rfl) ?_
      refine lv_iload hx hb dX12_writeE_61 (lv_at hl 0 rfl) ?_
      obtain ⟨r63, τ63, hq63, hg⟩ := bd_some hg
      refine gc_Vv (As := [.int (xA σ 28 (v2 - 1)), .int (xA σ 29 (v2 - 1))]) (rest := []) (q0 := 0) (ci := 15) S X (k2_X12_around l dC dI ad kc hq63 H.size) cw_X12_around mG_2947 rfl rfl rfl rfl rfl hl.1 (Nat.le_of_ble_eq_true rfl) dX12_writeE_63 ⟨by omega, by omega⟩ (fun H locs X => ?_)
      refine lv_aload_n hx hb dX12_writeE_66 rfl (lv_at hl 2 rfl) ?_
      refine wmgR_0_61 S X mG_2111 dX12_writeE_67 ?_
      refine lv_iload_n hx hb dX12_writeE_70 rfl (lv_at hl 3 rfl) ?_
      refine lv_iconst (v := 1) hx hb dX12_writeE_71 (by decide) ?_
      refine lv_isub hx hb dX12_writeE_72 ?_
      refine lv_dup2_11 hx hb dX12_writeE_73 rfl rfl ?_
      obtain ⟨hi74, hg⟩ := gd_some hg
      refine wmlA_29 (v := (xA τ63 29 (v2 - 1))) S X hi74 rfl dX12_writeE_74 ?_
      refine lv_iconst (v := 1) hx hb dX12_writeE_75 (by decide) ?_
      refine lv_iadd hx hb dX12_writeE_76 ?_
      obtain ⟨hi77, hg⟩ := gd_some hg
      refine wmsA_29 S X hi77 dX12_writeE_77 (fun H locs X => ?_)
      refine lv_iload hx hb dX12_writeE_78 (lv_at hl 0 rfl) ?_
      refine lv_aload_n hx hb dX12_writeE_80 rfl (lv_at hl 2 rfl) ?_
      refine wmgR_0_67 S X mG_2117 dX12_writeE_81 ?_
      refine lv_iload_n hx hb dX12_writeE_84 rfl (lv_at hl 1 rfl) ?_
      obtain ⟨hi85, hg⟩ := gd_some hg
      refine wmlA_34 (v := (xA τ63 34 (xA σ 28 (v2 - 1)))) S X hi85 rfl dX12_writeE_85 ?_
      refine lv_icmp_ge (tgt := 115) hx hb dX12_writeE_86 (by decide) (fun c86 => ?_) (fun c86 => ?_)
      · have hg := (if_pos c86).symm.trans hg
        refine lv_iinc (v := (v2 + (-1))) (lv' := [(2, .int (v2 + (-1))), (4, .int (xA σ 29 (v2 - 1))), (3, .int (xA σ 28 (v2 - 1))), (0, .ref (ad 0))]) hx hb dX12_writeE_115 hl (k := 3) rfl (by rfl) (by decide) rfl (fun ls hl => ?_)
        exact w_X12_writeE_b118 S hr hk hR hrec16 X (lv_sub hl [3, 0] rfl) hg
      · have hg := (if_neg c86).symm.trans hg
        refine lv_aload_n hx hb dX12_writeE_89 rfl (lv_at hl 2 rfl) ?_
        refine wmgR_0_60 S X mG_2110 dX12_writeE_90 ?_
        refine lv_iload_n hx hb dX12_writeE_93 rfl (lv_at hl 3 rfl) ?_
        refine lv_aload_n hx hb dX12_writeE_94 rfl (lv_at hl 2 rfl) ?_
        refine lv_iload_n hx hb dX12_writeE_95 rfl (lv_at hl 1 rfl) ?_
        refine lv_iload hx hb dX12_writeE_96 (lv_at hl 0 rfl) ?_
        obtain ⟨r98, τ98, hq98, hg⟩ := bd_some hg
        refine gc_Vi (As := [.int (xA σ 28 (v2 - 1)), .int (xA σ 29 (v2 - 1))]) (rest := [.int v2, .ref (ad 34)]) (q0 := 0) (ci := 15) S X (k2_X12_child l dC dI ad kc hq98 H.size) cw_X12_child mG_2736 rfl rfl rfl rfl rfl hl.1 (Nat.le_of_ble_eq_true rfl) dX12_writeE_98 ⟨by omega, by omega⟩ (fun H locs X => ?_)
        obtain ⟨hi101, hg⟩ := gd_some hg
        refine wmsA_28 S X hi101 dX12_writeE_101 (fun H locs X => ?_)
        refine lv_aload_n hx hb dX12_writeE_102 rfl (lv_at hl 2 rfl) ?_
        refine wmgR_0_61 S X mG_2111 dX12_writeE_103 ?_
        refine lv_iload_n hx hb dX12_writeE_106 rfl (lv_at hl 3 rfl) ?_
        refine lv_iconst (v := 0) hx hb dX12_writeE_107 (by decide) ?_
        obtain ⟨hi108, hg⟩ := gd_some hg
        refine wmsA_29 S X hi108 dX12_writeE_108 (fun H locs X => ?_)
        refine lv_iinc (v := (v2 + 1)) (lv' := [(2, .int (v2 + 1)), (4, .int (xA σ 29 (v2 - 1))), (3, .int (xA σ 28 (v2 - 1))), (0, .ref (ad 0))]) hx hb dX12_writeE_109 hl (k := 3) rfl (by rfl) (by decide) rfl (fun ls hl => ?_)
        refine lv_goto (tgt := 118) hx hb dX12_writeE_112 (by decide) ?_
        exact w_X12_writeE_b118 S hr hk hR hrec16 X (lv_sub hl [3, 0] rfl) hg
    · have hg := (if_pos c45).symm.trans hg
      refine lv_aload_n hx hb dX12_writeE_48 rfl (lv_at hl 2 rfl) ?_
      refine lv_iload_n hx hb dX12_writeE_49 rfl (lv_at hl 1 rfl) ?_
      obtain ⟨r50, τ50, hq50, hg⟩ := bd_some hg
      refine gc_Vv (As := [.int (xA σ 28 (v2 - 1))]) (rest := []) (q0 := 0) (ci := 15) S X (k2_X12_atom_ l dC dI ad kc hq50 H.size) cw_X12_atom_ mG_2943 rfl rfl rfl rfl rfl hl.1 (Nat.le_of_ble_eq_true rfl) dX12_writeE_50 ⟨by omega, by omega⟩ (fun H locs X => ?_)
      refine lv_iinc (v := (v2 + (-1))) (lv' := [(2, .int (v2 + (-1))), (4, .int (xA σ 29 (v2 - 1))), (3, .int (xA σ 28 (v2 - 1))), (0, .ref (ad 0))]) hx hb dX12_writeE_53 hl (k := 3) rfl (by rfl) (by decide) rfl (fun ls hl => ?_)
      refine lv_goto (tgt := 118) hx hb dX12_writeE_56 (by decide) ?_
      exact w_X12_writeE_b118 S hr hk hR hrec16 X (lv_sub hl [3, 0] rfl) hg
set_option maxHeartbeats 4000000 in
set_option maxRecDepth 100000 in
theorem w_X12_writeE_L16 (S : CallFix p m c cX12_writeE 5 s args uG RX12) (hr : meth.sig.returnType = none) (hk : meth.locks = false) (hR : 5 ≤ R.frames ∧ 110 ≤ R.locals) : ∀ (n : Nat) (v2 : Int32) (σ : S5) (H : Heap) (locs : List Loc) (ls : Array Slot), gX (dC, dI) (tM kc) (wM ad kc) Z A s σ H locs → lv_has ls 5 [(0, .ref (ad 0)), (2, .int v2)] → f_X12_writeE_L16  n v2 σ = some (r, τ) → W p l e R s m args below meth c H locs 0 0 (MQ below (gQv (dC, dI) (tM kc) (wM ad kc) A r τ) args s 0 0 A) (F0 m 16 ls []) := by
  intro n
  induction n with
  | zero => intro v2 σ H locs ls X hl hg; cases hg
  | succ n ih => intro v2 σ H locs ls X hl hg; exact w_X12_writeE_B16 S hr hk hR ih X hl hg
set_option maxHeartbeats 4000000 in
set_option maxRecDepth 100000 in
theorem w_X12_writeE {σ : S5} {a1 : Int32} {H : Heap} {locs : List Loc} {ls : Array Slot} (S : CallFix p m c cX12_writeE 5 s args uG RX12) (hr : meth.sig.returnType = none) (hk : meth.locks = false) (hR : 5 ≤ R.frames ∧ 110 ≤ R.locals)
    (X : gX (dC, dI) (tM kc) (wM ad kc) Z A s σ H locs) (hl : lv_has ls 5 [(0, .ref (ad 0)), (1, .int a1)]) (hg : f_X12_writeE a1 σ = some (r, τ)) : W p l e R s m args below meth c H locs 0 0 (MQ below (gQv (dC, dI) (tM kc) (wM ad kc) A r τ) args s 0 0 A) (F0 m 0 ls []) := by
  have hx := S.1
  have hb := S.2.1
  have hown := S.2.2.2.1
  have hu := S.2.2.2.2
  unfold f_X12_writeE at hg
  refine lv_iconst (v := 1) hx hb dX12_writeE_0 (by decide) ?_
  refine lv_istore_n (lv' := [(2, .int 1), (0, .ref (ad 0)), (1, .int a1)]) hx hb dX12_writeE_1 rfl hl (by decide) rfl (fun ls hl => ?_)
  refine lv_aload_n hx hb dX12_writeE_2 rfl (lv_at hl 1 rfl) ?_
  refine wmgR_0_60 S X mG_2110 dX12_writeE_3 ?_
  refine lv_iconst (v := 0) hx hb dX12_writeE_6 (by decide) ?_
  refine lv_iload_n hx hb dX12_writeE_7 rfl (lv_at hl 2 rfl) ?_
  refine wmsA_28 S X (vp_in_iff.mpr (by decide)) dX12_writeE_8 (fun H locs X => ?_)
  refine lv_aload_n hx hb dX12_writeE_9 rfl (lv_at hl 1 rfl) ?_
  refine wmgR_0_61 S X mG_2111 dX12_writeE_10 ?_
  refine lv_iconst (v := 0) hx hb dX12_writeE_13 (by decide) ?_
  refine lv_iconst (v := 0) hx hb dX12_writeE_14 (by decide) ?_
  refine wmsA_29 S X (vp_in_iff.mpr (by decide)) dX12_writeE_15 (fun H locs X => ?_)
  exact w_X12_writeE_L16 S hr hk hR _ _ _ _ _ _ X (lv_sub hl [1, 0] rfl) hg
end MX12_writeE
set_option maxRecDepth 100000 in
theorem k2_X12_writeE (l : Launch) (dC : Nat → ClassId) (dI : Nat → Nat → Nat) {Z : ZZ} (ad : Nat → Nat) (kc : Nat → ClassId) {σ τ : S5} {a1 : Int32} {r : Unit} (hg : f_X12_writeE a1 σ = some (r, τ)) (sz : Nat) : Met l yX12_writeE (Cond.code yX12_writeE cX12_writeE 5 none :: uG) { frames := 5, cells := 0, slots := 0, locals := 110 } (gPc (dC, dI) (tM kc) (wM ad kc) Z [.ref (ad 0), .int a1] σ sz) (gQv (dC, dI) (tM kc) (wM ad kc) (va_A (wM ad kc σ) sz) r τ) 0 0 (va_A (wM ad kc σ) sz) :=
  g_start (by decide) (Nat.le_of_ble_eq_true rfl) (fun p e s m below meth c ls S hr hk X hl => w_X12_writeE S hr hk ⟨Nat.le_refl _, Nat.le_refl _⟩ X hl hg)
section MX12_write
variable {p : Program} {l : Launch} {e : Env} {R : Room} {s : State} {m : MethodId} {args : Array Value} {below : List Frame} {meth : Method} {c : Code} {dC : Nat → ClassId} {dI : Nat → Nat → Nat} {Z : ZZ} {A : Nat → Prop} {ad : Nat → Nat} {kc : Nat → ClassId} {r : Int32} {τ : S5}
set_option maxHeartbeats 4000000 in
set_option maxRecDepth 100000 in
theorem w_X12_write_B229 {σ : S5} {rec229 : Int32 → S5 → Option (Int32 × S5)} {v1 : Int32} {H : Heap} {locs : List Loc} {ls : Array Slot} (S : CallFix p m c cX12_write 3 s args uG RX12) (hr : meth.sig.returnType = (some .int)) (hk : meth.locks = false) (hR : 6 ≤ R.frames ∧ 134 ≤ R.locals)
    (hrec229 : ∀ (v1 : Int32) (σ : S5) (H : Heap) (locs : List Loc) (ls : Array Slot), gX (dC, dI) (tM kc) (wM ad kc) Z A s σ H locs → lv_has ls 3 [(0, .ref (ad 0)), (1, .int v1)] → rec229 v1 σ = some (r, τ) → W p l e R s m args below meth c H locs 0 0 (MQ below (gQi (dC, dI) (tM kc) (wM ad kc) A r τ) args s 0 0 A) (F0 m 229 ls []))
    (X : gX (dC, dI) (tM kc) (wM ad kc) Z A s σ H locs) (hl : lv_has ls 3 [(0, .ref (ad 0)), (1, .int v1)]) (hg : f_X12_write_B229 rec229 v1 σ = some (r, τ)) : W p l e R s m args below meth c H locs 0 0 (MQ below (gQi (dC, dI) (tM kc) (wM ad kc) A r τ) args s 0 0 A) (F0 m 229 ls []) := by
  have hx := S.1
  have hb := S.2.1
  have hown := S.2.2.2.1
  have hu := S.2.2.2.2
  unfold f_X12_write_B229 at hg
  refine lv_iload_n hx hb dX12_write_229 rfl (lv_at hl 1 rfl) ?_
  refine lv_aload_n hx hb dX12_write_230 rfl (lv_at hl 0 rfl) ?_
  refine wmgI_56 (v := (gI σ 56)) S X mG_2184 rfl dX12_write_231 ?_
  refine lv_icmp_ge (tgt := 255) hx hb dX12_write_234 (by decide) (fun c234 => ?_) (fun c234 => ?_)
  · have hg := (if_pos c234).symm.trans hg
    refine lv_aload_n hx hb dX12_write_255 rfl (lv_at hl 0 rfl) ?_
    refine lv_aload_n hx hb dX12_write_256 rfl (lv_at hl 0 rfl) ?_
    refine wmgI_56 (v := (gI σ 56)) S X mG_2184 rfl dX12_write_257 ?_
    refine wmpI_2 S X mG_2054 dX12_write_260 (fun H locs X => ?_)
    refine lv_aload_n hx hb dX12_write_263 rfl (lv_at hl 0 rfl) ?_
    refine wmgI_2 (v := (gI σ 56)) S X mG_2054 rfl dX12_write_264 ?_
    obtain ⟨rfl, rfl⟩ := fin_some hg
    exact gr_i S hr hk X dX12_write_267
  · have hg := (if_neg c234).symm.trans hg
    refine lv_aload_n hx hb dX12_write_237 rfl (lv_at hl 0 rfl) ?_
    refine wmgR_0_3 S X mG_2053 dX12_write_238 ?_
    refine lv_iload_n hx hb dX12_write_241 rfl (lv_at hl 1 rfl) ?_
    refine lv_aload_n hx hb dX12_write_242 rfl (lv_at hl 0 rfl) ?_
    refine wmgR_0_135 S X mG_2185 dX12_write_243 ?_
    refine lv_iload_n hx hb dX12_write_246 rfl (lv_at hl 1 rfl) ?_
    obtain ⟨hi247, hg⟩ := gd_some hg
    refine wmlA_65 (v := (xA σ 65 v1)) S X hi247 rfl dX12_write_247 ?_
    obtain ⟨hi248, hg⟩ := gd_some hg
    refine wmsA_1 S X hi248 dX12_write_248 (fun H locs X => ?_)
    refine lv_iinc (v := (v1 + 1)) (lv' := [(1, .int (v1 + 1)), (0, .ref (ad 0))]) hx hb dX12_write_249 hl (k := 1) rfl (by rfl) (by decide) rfl (fun ls hl => ?_)
    refine lv_goto (tgt := 229) hx hb dX12_write_252 (by decide) ?_
    exact hrec229 _ _ _ _ _ X (lv_sub hl [1, 0] rfl) hg
set_option maxHeartbeats 4000000 in
set_option maxRecDepth 100000 in
theorem w_X12_write_L229 (S : CallFix p m c cX12_write 3 s args uG RX12) (hr : meth.sig.returnType = (some .int)) (hk : meth.locks = false) (hR : 6 ≤ R.frames ∧ 134 ≤ R.locals) : ∀ (n : Nat) (v1 : Int32) (σ : S5) (H : Heap) (locs : List Loc) (ls : Array Slot), gX (dC, dI) (tM kc) (wM ad kc) Z A s σ H locs → lv_has ls 3 [(0, .ref (ad 0)), (1, .int v1)] → f_X12_write_L229  n v1 σ = some (r, τ) → W p l e R s m args below meth c H locs 0 0 (MQ below (gQi (dC, dI) (tM kc) (wM ad kc) A r τ) args s 0 0 A) (F0 m 229 ls []) := by
  intro n
  induction n with
  | zero => intro v1 σ H locs ls X hl hg; cases hg
  | succ n ih => intro v1 σ H locs ls X hl hg; exact w_X12_write_B229 S hr hk hR ih X hl hg
set_option maxHeartbeats 4000000 in
set_option maxRecDepth 100000 in
theorem w_X12_write_B145 {σ : S5} {rec130 : Int32 → S5 → Option (Int32 × S5)} {rec145 : Int32 → Int32 → S5 → Option (Int32 × S5)} {v1 : Int32} {v2 : Int32} {H : Heap} {locs : List Loc} {ls : Array Slot} (S : CallFix p m c cX12_write 3 s args uG RX12) (hr : meth.sig.returnType = (some .int)) (hk : meth.locks = false) (hR : 6 ≤ R.frames ∧ 134 ≤ R.locals)
    (hrec130 : ∀ (v1 : Int32) (σ : S5) (H : Heap) (locs : List Loc) (ls : Array Slot), gX (dC, dI) (tM kc) (wM ad kc) Z A s σ H locs → lv_has ls 3 [(0, .ref (ad 0)), (1, .int v1)] → rec130 v1 σ = some (r, τ) → W p l e R s m args below meth c H locs 0 0 (MQ below (gQi (dC, dI) (tM kc) (wM ad kc) A r τ) args s 0 0 A) (F0 m 130 ls []))
    (hrec145 : ∀ (v1 : Int32) (v2 : Int32) (σ : S5) (H : Heap) (locs : List Loc) (ls : Array Slot), gX (dC, dI) (tM kc) (wM ad kc) Z A s σ H locs → lv_has ls 3 [(0, .ref (ad 0)), (1, .int v1), (2, .int v2)] → rec145 v1 v2 σ = some (r, τ) → W p l e R s m args below meth c H locs 0 0 (MQ below (gQi (dC, dI) (tM kc) (wM ad kc) A r τ) args s 0 0 A) (F0 m 145 ls []))
    (X : gX (dC, dI) (tM kc) (wM ad kc) Z A s σ H locs) (hl : lv_has ls 3 [(0, .ref (ad 0)), (1, .int v1), (2, .int v2)]) (hg : f_X12_write_B145 rec130 rec145 v1 v2 σ = some (r, τ)) : W p l e R s m args below meth c H locs 0 0 (MQ below (gQi (dC, dI) (tM kc) (wM ad kc) A r τ) args s 0 0 A) (F0 m 145 ls []) := by
  have hx := S.1
  have hb := S.2.1
  have hown := S.2.2.2.1
  have hu := S.2.2.2.2
  unfold f_X12_write_B145 at hg
  refine lv_iload_n hx hb dX12_write_145 rfl (lv_at hl 2 rfl) ?_
  refine lv_aload_n hx hb dX12_write_146 rfl (lv_at hl 0 rfl) ?_
  refine wmgR_0_82 S X mG_2132 dX12_write_147 ?_
  refine lv_iload_n hx hb dX12_write_150 rfl (lv_at hl 1 rfl) ?_
  obtain ⟨hi151, hg⟩ := gd_some hg
  refine wmlA_47 (v := (xA σ 47 v1)) S X hi151 rfl dX12_write_151 ?_
  refine lv_icmp_ge (tgt := 172) hx hb dX12_write_152 (by decide) (fun c152 => ?_) (fun c152 => ?_)
  · have hg := (if_pos c152).symm.trans hg
    refine lv_aload_n hx hb dX12_write_172 rfl (lv_at hl 0 rfl) ?_
    refine lv_bipush (v := 32) hx hb dX12_write_173 (by decide) ?_
    refine lv_bipush (v := 61) hx hb dX12_write_175 (by decide) ?_
    refine lv_bipush (v := 32) hx hb dX12_write_177 (by decide) ?_
    refine lv_iconst (v := 0) hx hb dX12_write_179 (by decide) ?_
    refine lv_iconst (v := 0) hx hb dX12_write_180 (by decide) ?_
    obtain ⟨r181, τ181, hq181, hg⟩ := bd_some hg
    refine gc_Sl (As := [.int 32, .int 61, .int 32, .int 0, .int 0]) (rest := [.ref (ad 0)]) S X (k2_X12_pack l dC dI ad kc hq181 H.size) cw_X12_pack mG_2476 rfl rfl hl.1 (Nat.le_of_ble_eq_true rfl) dX12_write_181 ⟨by omega, by omega⟩ (fun H locs X => ?_)
    obtain ⟨r184, τ184, hq184, hg⟩ := bd_some hg
    refine gc_Vv (As := [.long r181]) (rest := []) (q0 := 0) (ci := 15) S X (k2_X12_signs l dC dI ad kc hq184 H.size) cw_X12_signs mG_2919 rfl rfl rfl rfl rfl hl.1 (Nat.le_of_ble_eq_true rfl) dX12_write_184 ⟨by omega, by omega⟩ (fun H locs X => ?_)
    refine lv_aload_n hx hb dX12_write_187 rfl (lv_at hl 0 rfl) ?_
    refine lv_aload_n hx hb dX12_write_188 rfl (lv_at hl 0 rfl) ?_
    refine wmgR_0_80 S X mG_2130 dX12_write_189 ?_
    refine lv_iload_n hx hb dX12_write_192 rfl (lv_at hl 1 rfl) ?_
    obtain ⟨hi193, hg⟩ := gd_some hg
    refine wmlA_45 (v := (xA τ184 45 v1)) S X hi193 rfl dX12_write_193 ?_
    obtain ⟨r194, τ194, hq194, hg⟩ := bd_some hg
    refine gc_Vv (As := [.int (xA τ184 45 v1)]) (rest := []) (q0 := 0) (ci := 15) S X (k2_X12_writeE l dC dI ad kc hq194 H.size) cw_X12_writeE mG_2939 rfl rfl rfl rfl rfl hl.1 (Nat.le_of_ble_eq_true rfl) dX12_write_194 ⟨by omega, by omega⟩ (fun H locs X => ?_)
    refine lv_aload_n hx hb dX12_write_197 rfl (lv_at hl 0 rfl) ?_
    refine lv_bipush (v := 59) hx hb dX12_write_198 (by decide) ?_
    obtain ⟨r200, τ200, hq200, hg⟩ := bd_some hg
    refine gc_Vv (As := [.int 59]) (rest := []) (q0 := 0) (ci := 15) S X (k2_X12_letters l dC dI ad kc hq200 H.size) cw_X12_letters mG_2923 rfl rfl rfl rfl rfl hl.1 (Nat.le_of_ble_eq_true rfl) dX12_write_200 ⟨by omega, by omega⟩ (fun H locs X => ?_)
    refine lv_aload_n hx hb dX12_write_203 rfl (lv_at hl 0 rfl) ?_
    refine lv_bipush (v := 10) hx hb dX12_write_204 (by decide) ?_
    obtain ⟨r206, τ206, hq206, hg⟩ := bd_some hg
    refine gc_Vv (As := [.int 10]) (rest := []) (q0 := 0) (ci := 15) S X (k2_X12_letters l dC dI ad kc hq206 H.size) cw_X12_letters mG_2923 rfl rfl rfl rfl rfl hl.1 (Nat.le_of_ble_eq_true rfl) dX12_write_206 ⟨by omega, by omega⟩ (fun H locs X => ?_)
    refine lv_iinc (v := (v1 + 1)) (lv' := [(1, .int (v1 + 1)), (0, .ref (ad 0)), (2, .int v2)]) hx hb dX12_write_209 hl (k := 1) rfl (by rfl) (by decide) rfl (fun ls hl => ?_)
    refine lv_goto (tgt := 130) hx hb dX12_write_212 (by decide) ?_
    exact hrec130 _ _ _ _ _ X (lv_sub hl [1, 0] rfl) hg
  · have hg := (if_neg c152).symm.trans hg
    refine lv_aload_n hx hb dX12_write_155 rfl (lv_at hl 0 rfl) ?_
    refine lv_bipush (v := 32) hx hb dX12_write_156 (by decide) ?_
    obtain ⟨r158, τ158, hq158, hg⟩ := bd_some hg
    refine gc_Vv (As := [.int 32]) (rest := []) (q0 := 0) (ci := 15) S X (k2_X12_letters l dC dI ad kc hq158 H.size) cw_X12_letters mG_2923 rfl rfl rfl rfl rfl hl.1 (Nat.le_of_ble_eq_true rfl) dX12_write_158 ⟨by omega, by omega⟩ (fun H locs X => ?_)
    refine lv_aload_n hx hb dX12_write_161 rfl (lv_at hl 0 rfl) ?_
    refine lv_iload_n hx hb dX12_write_162 rfl (lv_at hl 2 rfl) ?_
    obtain ⟨r163, τ163, hq163, hg⟩ := bd_some hg
    refine gc_Vv (As := [.int v2]) (rest := []) (q0 := 0) (ci := 15) S X (k2_X12_variable l dC dI ad kc hq163 H.size) cw_X12_variable mG_2935 rfl rfl rfl rfl rfl hl.1 (Nat.le_of_ble_eq_true rfl) dX12_write_163 ⟨by omega, by omega⟩ (fun H locs X => ?_)
    refine lv_iinc (v := (v2 + 1)) (lv' := [(2, .int (v2 + 1)), (0, .ref (ad 0)), (1, .int v1)]) hx hb dX12_write_166 hl (k := 2) rfl (by rfl) (by decide) rfl (fun ls hl => ?_)
    refine lv_goto (tgt := 145) hx hb dX12_write_169 (by decide) ?_
    exact hrec145 _ _ _ _ _ _ X (lv_sub hl [1, 2, 0] rfl) hg
set_option maxHeartbeats 4000000 in
set_option maxRecDepth 100000 in
theorem w_X12_write_L145 {rec130 : Int32 → S5 → Option (Int32 × S5)} (S : CallFix p m c cX12_write 3 s args uG RX12) (hr : meth.sig.returnType = (some .int)) (hk : meth.locks = false) (hR : 6 ≤ R.frames ∧ 134 ≤ R.locals)
    (hrec130 : ∀ (v1 : Int32) (σ : S5) (H : Heap) (locs : List Loc) (ls : Array Slot), gX (dC, dI) (tM kc) (wM ad kc) Z A s σ H locs → lv_has ls 3 [(0, .ref (ad 0)), (1, .int v1)] → rec130 v1 σ = some (r, τ) → W p l e R s m args below meth c H locs 0 0 (MQ below (gQi (dC, dI) (tM kc) (wM ad kc) A r τ) args s 0 0 A) (F0 m 130 ls [])) : ∀ (n : Nat) (v1 : Int32) (v2 : Int32) (σ : S5) (H : Heap) (locs : List Loc) (ls : Array Slot), gX (dC, dI) (tM kc) (wM ad kc) Z A s σ H locs → lv_has ls 3 [(0, .ref (ad 0)), (1, .int v1), (2, .int v2)] → f_X12_write_L145 rec130 n v1 v2 σ = some (r, τ) → W p l e R s m args below meth c H locs 0 0 (MQ below (gQi (dC, dI) (tM kc) (wM ad kc) A r τ) args s 0 0 A) (F0 m 145 ls []) := by
  intro n
  induction n with
  | zero => intro v1 v2 σ H locs ls X hl hg; cases hg
  | succ n ih => intro v1 v2 σ H locs ls X hl hg; exact w_X12_write_B145 S hr hk hR hrec130 ih X hl hg
set_option maxHeartbeats 4000000 in
set_option maxRecDepth 100000 in
theorem w_X12_write_B130 {σ : S5} {rec130 : Int32 → S5 → Option (Int32 × S5)} {v1 : Int32} {H : Heap} {locs : List Loc} {ls : Array Slot} (S : CallFix p m c cX12_write 3 s args uG RX12) (hr : meth.sig.returnType = (some .int)) (hk : meth.locks = false) (hR : 6 ≤ R.frames ∧ 134 ≤ R.locals)
    (hrec130 : ∀ (v1 : Int32) (σ : S5) (H : Heap) (locs : List Loc) (ls : Array Slot), gX (dC, dI) (tM kc) (wM ad kc) Z A s σ H locs → lv_has ls 3 [(0, .ref (ad 0)), (1, .int v1)] → rec130 v1 σ = some (r, τ) → W p l e R s m args below meth c H locs 0 0 (MQ below (gQi (dC, dI) (tM kc) (wM ad kc) A r τ) args s 0 0 A) (F0 m 130 ls []))
    (X : gX (dC, dI) (tM kc) (wM ad kc) Z A s σ H locs) (hl : lv_has ls 3 [(0, .ref (ad 0)), (1, .int v1)]) (hg : f_X12_write_B130 rec130 v1 σ = some (r, τ)) : W p l e R s m args below meth c H locs 0 0 (MQ below (gQi (dC, dI) (tM kc) (wM ad kc) A r τ) args s 0 0 A) (F0 m 130 ls []) := by
  have hx := S.1
  have hb := S.2.1
  have hown := S.2.2.2.1
  have hu := S.2.2.2.2
  unfold f_X12_write_B130 at hg
  refine lv_iload_n hx hb dX12_write_130 rfl (lv_at hl 1 rfl) ?_
  refine lv_aload_n hx hb dX12_write_131 rfl (lv_at hl 0 rfl) ?_
  refine wmgI_22 (v := (gI σ 22)) S X mG_2096 rfl dX12_write_132 ?_
  refine lv_icmp_ge (tgt := 215) hx hb dX12_write_135 (by decide) (fun c135 => ?_) (fun c135 => ?_)
  · have hg := (if_pos c135).symm.trans hg
    refine lv_aload_n hx hb dX12_write_215 rfl (lv_at hl 0 rfl) ?_
    refine wmgI_56 (v := (gI σ 56)) S X mG_2184 rfl dX12_write_216 ?_
    refine lv_sipush (v := 12000) hx hb dX12_write_219 (by decide) ?_
    refine lv_icmp_le (tgt := 227) hx hb dX12_write_222 (by decide) (fun c222 => ?_) (fun c222 => ?_)
    · have hg := (if_pos c222).symm.trans hg
      refine lv_iconst (v := 0) hx hb dX12_write_227 (by decide) ?_
      refine lv_istore_n (lv' := [(1, .int 0), (0, .ref (ad 0))]) hx hb dX12_write_228 rfl hl (by decide) rfl (fun ls hl => ?_)
      exact w_X12_write_L229 S hr hk hR _ _ _ _ _ _ X (lv_sub hl [1, 0] rfl) hg
    · have hg := (if_neg c222).symm.trans hg
      refine lv_iconst (v := (-1)) hx hb dX12_write_225 (by decide) ?_
      obtain ⟨rfl, rfl⟩ := fin_some hg
      exact gr_i S hr hk X dX12_write_226
  · have hg := (if_neg c135).symm.trans hg
    refine lv_aload_n hx hb dX12_write_138 rfl (lv_at hl 0 rfl) ?_
    refine lv_iload_n hx hb dX12_write_139 rfl (lv_at hl 1 rfl) ?_
    obtain ⟨r140, τ140, hq140, hg⟩ := bd_some hg
    refine gc_Vv (As := [.int v1]) (rest := []) (q0 := 0) (ci := 15) S X (k2_X12_functionName l dC dI ad kc hq140 H.size) cw_X12_functionName mG_2931 rfl rfl rfl rfl rfl hl.1 (Nat.le_of_ble_eq_true rfl) dX12_write_140 ⟨by omega, by omega⟩ (fun H locs X => ?_)
    refine lv_iconst (v := 0) hx hb dX12_write_143 (by decide) ?_
    refine lv_istore_n (lv' := [(2, .int 0), (0, .ref (ad 0)), (1, .int v1)]) hx hb dX12_write_144 rfl hl (by decide) rfl (fun ls hl => ?_)
    exact w_X12_write_L145 S hr hk hR hrec130 _ _ _ _ _ _ _ X (lv_sub hl [1, 2, 0] rfl) hg
set_option maxHeartbeats 4000000 in
set_option maxRecDepth 100000 in
theorem w_X12_write_L130 (S : CallFix p m c cX12_write 3 s args uG RX12) (hr : meth.sig.returnType = (some .int)) (hk : meth.locks = false) (hR : 6 ≤ R.frames ∧ 134 ≤ R.locals) : ∀ (n : Nat) (v1 : Int32) (σ : S5) (H : Heap) (locs : List Loc) (ls : Array Slot), gX (dC, dI) (tM kc) (wM ad kc) Z A s σ H locs → lv_has ls 3 [(0, .ref (ad 0)), (1, .int v1)] → f_X12_write_L130  n v1 σ = some (r, τ) → W p l e R s m args below meth c H locs 0 0 (MQ below (gQi (dC, dI) (tM kc) (wM ad kc) A r τ) args s 0 0 A) (F0 m 130 ls []) := by
  intro n
  induction n with
  | zero => intro v1 σ H locs ls X hl hg; cases hg
  | succ n ih => intro v1 σ H locs ls X hl hg; exact w_X12_write_B130 S hr hk hR ih X hl hg
set_option maxHeartbeats 4000000 in
set_option maxRecDepth 100000 in
theorem w_X12_write_b128 {σ : S5}  {H : Heap} {locs : List Loc} {ls : Array Slot} (S : CallFix p m c cX12_write 3 s args uG RX12) (hr : meth.sig.returnType = (some .int)) (hk : meth.locks = false) (hR : 6 ≤ R.frames ∧ 134 ≤ R.locals)
    (X : gX (dC, dI) (tM kc) (wM ad kc) Z A s σ H locs) (hl : lv_has ls 3 [(0, .ref (ad 0))]) (hg : f_X12_write_b128  σ = some (r, τ)) : W p l e R s m args below meth c H locs 0 0 (MQ below (gQi (dC, dI) (tM kc) (wM ad kc) A r τ) args s 0 0 A) (F0 m 128 ls []) := by
  have hx := S.1
  have hb := S.2.1
  have hown := S.2.2.2.1
  have hu := S.2.2.2.2
  unfold f_X12_write_b128 at hg
  refine lv_iconst (v := 0) hx hb dX12_write_128 (by decide) ?_
  refine lv_istore_n (lv' := [(1, .int 0), (0, .ref (ad 0))]) hx hb dX12_write_129 rfl hl (by decide) rfl (fun ls hl => ?_)
  exact w_X12_write_L130 S hr hk hR _ _ _ _ _ _ X (lv_sub hl [1, 0] rfl) hg
set_option maxHeartbeats 4000000 in
set_option maxRecDepth 100000 in
theorem w_X12_write_b73 {σ : S5} {rec32 : Int32 → S5 → Option (Int32 × S5)} {v1 : Int32} {u0 : Int64} {H : Heap} {locs : List Loc} {ls : Array Slot} (S : CallFix p m c cX12_write 3 s args uG RX12) (hr : meth.sig.returnType = (some .int)) (hk : meth.locks = false) (hR : 6 ≤ R.frames ∧ 134 ≤ R.locals)
    (hrec32 : ∀ (v1 : Int32) (σ : S5) (H : Heap) (locs : List Loc) (ls : Array Slot), gX (dC, dI) (tM kc) (wM ad kc) Z A s σ H locs → lv_has ls 3 [(0, .ref (ad 0)), (1, .int v1)] → rec32 v1 σ = some (r, τ) → W p l e R s m args below meth c H locs 0 0 (MQ below (gQi (dC, dI) (tM kc) (wM ad kc) A r τ) args s 0 0 A) (F0 m 32 ls []))
    (X : gX (dC, dI) (tM kc) (wM ad kc) Z A s σ H locs) (hl : lv_has ls 3 [(0, .ref (ad 0)), (1, .int v1)]) (hg : f_X12_write_b73 rec32 v1 u0 σ = some (r, τ)) : W p l e R s m args below meth c H locs 0 0 (MQ below (gQi (dC, dI) (tM kc) (wM ad kc) A r τ) args s 0 0 A) (F0 m 73 ls [.long u0, .ref (ad 0)]) := by
  have hx := S.1
  have hb := S.2.1
  have hown := S.2.2.2.1
  have hu := S.2.2.2.2
  unfold f_X12_write_b73 at hg
  obtain ⟨r73, τ73, hq73, hg⟩ := bd_some hg
  refine gc_Vv (As := [.long u0]) (rest := []) (q0 := 0) (ci := 15) S X (k2_X12_signs l dC dI ad kc hq73 H.size) cw_X12_signs mG_2919 rfl rfl rfl rfl rfl hl.1 (Nat.le_of_ble_eq_true rfl) dX12_write_73 ⟨by omega, by omega⟩ (fun H locs X => ?_)
  refine lv_aload_n hx hb dX12_write_76 rfl (lv_at hl 0 rfl) ?_
  refine lv_aload_n hx hb dX12_write_77 rfl (lv_at hl 0 rfl) ?_
  refine wmgR_0_32 S X mG_2082 dX12_write_78 ?_
  refine lv_iload_n hx hb dX12_write_81 rfl (lv_at hl 1 rfl) ?_
  obtain ⟨hi82, hg⟩ := gd_some hg
  refine wmlB_3 (v := (xB τ73 3 v1)) S X hi82 rfl dX12_write_82 ?_
  obtain ⟨r83, τ83, hq83, hg⟩ := bd_some hg
  refine gc_Vv (As := [.long (xB τ73 3 v1)]) (rest := []) (q0 := 0) (ci := 15) S X (k2_X12_signs l dC dI ad kc hq83 H.size) cw_X12_signs mG_2919 rfl rfl rfl rfl rfl hl.1 (Nat.le_of_ble_eq_true rfl) dX12_write_83 ⟨by omega, by omega⟩ (fun H locs X => ?_)
  refine lv_aload_n hx hb dX12_write_86 rfl (lv_at hl 0 rfl) ?_
  refine lv_bipush (v := 32) hx hb dX12_write_87 (by decide) ?_
  obtain ⟨r89, τ89, hq89, hg⟩ := bd_some hg
  refine gc_Vv (As := [.int 32]) (rest := []) (q0 := 0) (ci := 15) S X (k2_X12_letters l dC dI ad kc hq89 H.size) cw_X12_letters mG_2923 rfl rfl rfl rfl rfl hl.1 (Nat.le_of_ble_eq_true rfl) dX12_write_89 ⟨by omega, by omega⟩ (fun H locs X => ?_)
  refine lv_aload_n hx hb dX12_write_92 rfl (lv_at hl 0 rfl) ?_
  refine lv_aload_n hx hb dX12_write_93 rfl (lv_at hl 0 rfl) ?_
  refine wmgR_0_33 S X mG_2083 dX12_write_94 ?_
  refine lv_iload_n hx hb dX12_write_97 rfl (lv_at hl 1 rfl) ?_
  obtain ⟨hi98, hg⟩ := gd_some hg
  refine wmlA_13 (v := (xA τ89 13 v1)) S X hi98 rfl dX12_write_98 ?_
  obtain ⟨r99, τ99, hq99, hg⟩ := bd_some hg
  refine gc_Vv (As := [.int (xA τ89 13 v1)]) (rest := []) (q0 := 0) (ci := 15) S X (k2_X12_digits l dC dI ad kc hq99 H.size) cw_X12_digits mG_2927 rfl rfl rfl rfl rfl hl.1 (Nat.le_of_ble_eq_true rfl) dX12_write_99 ⟨by omega, by omega⟩ (fun H locs X => ?_)
  refine lv_iinc (v := (v1 + 1)) (lv' := [(1, .int (v1 + 1)), (0, .ref (ad 0))]) hx hb dX12_write_102 hl (k := 1) rfl (by rfl) (by decide) rfl (fun ls hl => ?_)
  refine lv_goto (tgt := 32) hx hb dX12_write_105 (by decide) ?_
  exact hrec32 _ _ _ _ _ X (lv_sub hl [1, 0] rfl) hg
set_option maxHeartbeats 4000000 in
set_option maxRecDepth 100000 in
theorem w_X12_write_B32 {σ : S5} {rec32 : Int32 → S5 → Option (Int32 × S5)} {v1 : Int32} {H : Heap} {locs : List Loc} {ls : Array Slot} (S : CallFix p m c cX12_write 3 s args uG RX12) (hr : meth.sig.returnType = (some .int)) (hk : meth.locks = false) (hR : 6 ≤ R.frames ∧ 134 ≤ R.locals)
    (hrec32 : ∀ (v1 : Int32) (σ : S5) (H : Heap) (locs : List Loc) (ls : Array Slot), gX (dC, dI) (tM kc) (wM ad kc) Z A s σ H locs → lv_has ls 3 [(0, .ref (ad 0)), (1, .int v1)] → rec32 v1 σ = some (r, τ) → W p l e R s m args below meth c H locs 0 0 (MQ below (gQi (dC, dI) (tM kc) (wM ad kc) A r τ) args s 0 0 A) (F0 m 32 ls []))
    (X : gX (dC, dI) (tM kc) (wM ad kc) Z A s σ H locs) (hl : lv_has ls 3 [(0, .ref (ad 0)), (1, .int v1)]) (hg : f_X12_write_B32 rec32 v1 σ = some (r, τ)) : W p l e R s m args below meth c H locs 0 0 (MQ below (gQi (dC, dI) (tM kc) (wM ad kc) A r τ) args s 0 0 A) (F0 m 32 ls []) := by
  have hx := S.1
  have hb := S.2.1
  have hown := S.2.2.2.1
  have hu := S.2.2.2.2
  unfold f_X12_write_B32 at hg
  refine lv_iload_n hx hb dX12_write_32 rfl (lv_at hl 1 rfl) ?_
  refine lv_aload_n hx hb dX12_write_33 rfl (lv_at hl 0 rfl) ?_
  refine wmgI_14 (v := (gI σ 14)) S X mG_2081 rfl dX12_write_34 ?_
  refine lv_icmp_ge (tgt := 108) hx hb dX12_write_37 (by decide) (fun c37 => ?_) (fun c37 => ?_)
  · have hg := (if_pos c37).symm.trans hg
    refine lv_aload_n hx hb dX12_write_108 rfl (lv_at hl 0 rfl) ?_
    refine wmgI_14 (v := (gI σ 14)) S X mG_2081 rfl dX12_write_109 ?_
    refine lv_iconst (v := 2) hx hb dX12_write_112 (by decide) ?_
    refine lv_icmp_le (tgt := 128) hx hb dX12_write_113 (by decide) (fun c113 => ?_) (fun c113 => ?_)
    · have hg := (if_pos c113).symm.trans hg
      exact w_X12_write_b128 S hr hk hR X (lv_sub hl [0] rfl) hg
    · have hg := (if_neg c113).symm.trans hg
      refine lv_aload_n hx hb dX12_write_116 rfl (lv_at hl 0 rfl) ?_
      refine lv_bipush (v := 59) hx hb dX12_write_117 (by decide) ?_
      obtain ⟨r119, τ119, hq119, hg⟩ := bd_some hg
      refine gc_Vv (As := [.int 59]) (rest := []) (q0 := 0) (ci := 15) S X (k2_X12_letters l dC dI ad kc hq119 H.size) cw_X12_letters mG_2923 rfl rfl rfl rfl rfl hl.1 (Nat.le_of_ble_eq_true rfl) dX12_write_119 ⟨by omega, by omega⟩ (fun H locs X => ?_)
      refine lv_aload_n hx hb dX12_write_122 rfl (lv_at hl 0 rfl) ?_
      refine lv_bipush (v := 10) hx hb dX12_write_123 (by decide) ?_
      obtain ⟨r125, τ125, hq125, hg⟩ := bd_some hg
      refine gc_Vv (As := [.int 10]) (rest := []) (q0 := 0) (ci := 15) S X (k2_X12_letters l dC dI ad kc hq125 H.size) cw_X12_letters mG_2923 rfl rfl rfl rfl rfl hl.1 (Nat.le_of_ble_eq_true rfl) dX12_write_125 ⟨by omega, by omega⟩ (fun H locs X => ?_)
      exact w_X12_write_b128 S hr hk hR X (lv_sub hl [0] rfl) hg
  · have hg := (if_neg c37).symm.trans hg
    refine lv_aload_n hx hb dX12_write_40 rfl (lv_at hl 0 rfl) ?_
    refine lv_iload_n hx hb dX12_write_41 rfl (lv_at hl 1 rfl) ?_
    refine lv_iconst (v := 2) hx hb dX12_write_42 (by decide) ?_
    refine lv_icmp_ne (tgt := 62) hx hb dX12_write_43 (by decide) (fun c43 => ?_) (fun c43 => ?_)
    · have hg := (if_neg c43).symm.trans hg
      refine lv_bipush (v := 32) hx hb dX12_write_62 (by decide) ?_
      refine lv_bipush (v := 124) hx hb dX12_write_64 (by decide) ?_
      refine lv_bipush (v := 32) hx hb dX12_write_66 (by decide) ?_
      refine lv_iconst (v := 0) hx hb dX12_write_68 (by decide) ?_
      refine lv_iconst (v := 0) hx hb dX12_write_69 (by decide) ?_
      obtain ⟨r70, τ70, hq70, hg⟩ := bd_some hg
      refine gc_Sl (As := [.int 32, .int 124, .int 32, .int 0, .int 0]) (rest := [.ref (ad 0)]) S X (k2_X12_pack l dC dI ad kc hq70 H.size) cw_X12_pack mG_2476 rfl rfl hl.1 (Nat.le_of_ble_eq_true rfl) dX12_write_70 ⟨by omega, by omega⟩ (fun H locs X => ?_)
      exact w_X12_write_b73 S hr hk hR hrec32 X (lv_sub hl [0, 1] rfl) hg
    · have hg := (if_pos c43).symm.trans hg
      refine lv_bipush (v := 100) hx hb dX12_write_46 (by decide) ?_
      refine lv_bipush (v := 97) hx hb dX12_write_48 (by decide) ?_
      refine lv_bipush (v := 116) hx hb dX12_write_50 (by decide) ?_
      refine lv_bipush (v := 97) hx hb dX12_write_52 (by decide) ?_
      refine lv_bipush (v := 32) hx hb dX12_write_54 (by decide) ?_
      obtain ⟨r56, τ56, hq56, hg⟩ := bd_some hg
      refine gc_Sl (As := [.int 100, .int 97, .int 116, .int 97, .int 32]) (rest := [.ref (ad 0)]) S X (k2_X12_pack l dC dI ad kc hq56 H.size) cw_X12_pack mG_2476 rfl rfl hl.1 (Nat.le_of_ble_eq_true rfl) dX12_write_56 ⟨by omega, by omega⟩ (fun H locs X => ?_)
      refine lv_goto (tgt := 73) hx hb dX12_write_59 (by decide) ?_
      exact w_X12_write_b73 S hr hk hR hrec32 X (lv_sub hl [0, 1] rfl) hg
set_option maxHeartbeats 4000000 in
set_option maxRecDepth 100000 in
theorem w_X12_write_L32 (S : CallFix p m c cX12_write 3 s args uG RX12) (hr : meth.sig.returnType = (some .int)) (hk : meth.locks = false) (hR : 6 ≤ R.frames ∧ 134 ≤ R.locals) : ∀ (n : Nat) (v1 : Int32) (σ : S5) (H : Heap) (locs : List Loc) (ls : Array Slot), gX (dC, dI) (tM kc) (wM ad kc) Z A s σ H locs → lv_has ls 3 [(0, .ref (ad 0)), (1, .int v1)] → f_X12_write_L32  n v1 σ = some (r, τ) → W p l e R s m args below meth c H locs 0 0 (MQ below (gQi (dC, dI) (tM kc) (wM ad kc) A r τ) args s 0 0 A) (F0 m 32 ls []) := by
  intro n
  induction n with
  | zero => intro v1 σ H locs ls X hl hg; cases hg
  | succ n ih => intro v1 σ H locs ls X hl hg; exact w_X12_write_B32 S hr hk hR ih X hl hg
set_option maxHeartbeats 4000000 in
set_option maxRecDepth 100000 in
theorem w_X12_write_b13 {σ : S5} {u0 : Int32} {H : Heap} {locs : List Loc} {ls : Array Slot} (S : CallFix p m c cX12_write 3 s args uG RX12) (hr : meth.sig.returnType = (some .int)) (hk : meth.locks = false) (hR : 6 ≤ R.frames ∧ 134 ≤ R.locals)
    (X : gX (dC, dI) (tM kc) (wM ad kc) Z A s σ H locs) (hl : lv_has ls 3 [(0, .ref (ad 0))]) (hg : f_X12_write_b13 u0 σ = some (r, τ)) : W p l e R s m args below meth c H locs 0 0 (MQ below (gQi (dC, dI) (tM kc) (wM ad kc) A r τ) args s 0 0 A) (F0 m 13 ls [.int u0, .ref (ad 0)]) := by
  have hx := S.1
  have hb := S.2.1
  have hown := S.2.2.2.1
  have hu := S.2.2.2.2
  unfold f_X12_write_b13 at hg
  refine wmpI_0 S X mG_2050 dX12_write_13 (fun H locs X => ?_)
  refine lv_aload_n hx hb dX12_write_16 rfl (lv_at hl 0 rfl) ?_
  refine wmgI_0 (v := u0) S X mG_2050 rfl dX12_write_17 ?_
  refine lv_if_le (tgt := 25) hx hb dX12_write_20 (by decide) (fun c20 => ?_) (fun c20 => ?_)
  · have hg := (if_pos c20).symm.trans hg
    refine lv_aload_n hx hb dX12_write_25 rfl (lv_at hl 0 rfl) ?_
    refine lv_iconst (v := 0) hx hb dX12_write_26 (by decide) ?_
    refine wmpI_56 S X mG_2184 dX12_write_27 (fun H locs X => ?_)
    refine lv_iconst (v := 2) hx hb dX12_write_30 (by decide) ?_
    refine lv_istore_n (lv' := [(1, .int 2), (0, .ref (ad 0))]) hx hb dX12_write_31 rfl hl (by decide) rfl (fun ls hl => ?_)
    exact w_X12_write_L32 S hr hk hR _ _ _ _ _ _ X (lv_sub hl [1, 0] rfl) hg
  · have hg := (if_neg c20).symm.trans hg
    refine lv_iconst (v := 0) hx hb dX12_write_23 (by decide) ?_
    obtain ⟨rfl, rfl⟩ := fin_some hg
    exact gr_i S hr hk X dX12_write_24
set_option maxHeartbeats 4000000 in
set_option maxRecDepth 100000 in
theorem w_X12_write {σ : S5}  {H : Heap} {locs : List Loc} {ls : Array Slot} (S : CallFix p m c cX12_write 3 s args uG RX12) (hr : meth.sig.returnType = (some .int)) (hk : meth.locks = false) (hR : 6 ≤ R.frames ∧ 134 ≤ R.locals)
    (X : gX (dC, dI) (tM kc) (wM ad kc) Z A s σ H locs) (hl : lv_has ls 3 [(0, .ref (ad 0))]) (hg : f_X12_write  σ = some (r, τ)) : W p l e R s m args below meth c H locs 0 0 (MQ below (gQi (dC, dI) (tM kc) (wM ad kc) A r τ) args s 0 0 A) (F0 m 0 ls []) := by
  have hx := S.1
  have hb := S.2.1
  have hown := S.2.2.2.1
  have hu := S.2.2.2.2
  unfold f_X12_write at hg
  refine lv_aload_n hx hb dX12_write_0 rfl (lv_at hl 0 rfl) ?_
  refine lv_aload_n hx hb dX12_write_1 rfl (lv_at hl 0 rfl) ?_
  refine wmgI_29 (v := (gI σ 29)) S X mG_2138 rfl dX12_write_2 ?_
  refine lv_if_eq (tgt := 12) hx hb dX12_write_5 (by decide) (fun c5 => ?_) (fun c5 => ?_)
  · have hg := (if_pos c5).symm.trans hg
    refine lv_iconst (v := 1) hx hb dX12_write_12 (by decide) ?_
    exact w_X12_write_b13 S hr hk hR X (lv_sub hl [0] rfl) hg
  · have hg := (if_neg c5).symm.trans hg
    refine lv_iconst (v := 0) hx hb dX12_write_8 (by decide) ?_
    refine lv_goto (tgt := 13) hx hb dX12_write_9 (by decide) ?_
    exact w_X12_write_b13 S hr hk hR X (lv_sub hl [0] rfl) hg
end MX12_write
set_option maxRecDepth 100000 in
theorem k2_X12_write (l : Launch) (dC : Nat → ClassId) (dI : Nat → Nat → Nat) {Z : ZZ} (ad : Nat → Nat) (kc : Nat → ClassId) {σ τ : S5}  {r : Int32} (hg : f_X12_write  σ = some (r, τ)) (sz : Nat) : Met l yX12_write (Cond.code yX12_write cX12_write 3 (some .int) :: uG) { frames := 6, cells := 0, slots := 0, locals := 134 } (gPc (dC, dI) (tM kc) (wM ad kc) Z [.ref (ad 0)] σ sz) (gQi (dC, dI) (tM kc) (wM ad kc) (va_A (wM ad kc σ) sz) r τ) 0 0 (va_A (wM ad kc σ) sz) :=
  g_start (by decide) (Nat.le_of_ble_eq_true rfl) (fun p e s m below meth c ls S hr hk X hl => w_X12_write S hr hk ⟨Nat.le_refl _, Nat.le_refl _⟩ X hl hg)
section MX12_letter
variable {p : Program} {l : Launch} {e : Env} {R : Room} {s : State} {m : MethodId} {args : Array Value} {below : List Frame} {meth : Method} {c : Code} {dC : Nat → ClassId} {dI : Nat → Nat → Nat} {Z : ZZ} {A : Nat → Prop} {ad : Nat → Nat} {kc : Nat → ClassId} {r : Int32} {τ : S5}
set_option maxHeartbeats 4000000 in
set_option maxRecDepth 100000 in
theorem w_X12_letter_b10 {σ : S5} {v1 : Int32} {u0 : Int32} {H : Heap} {locs : List Loc} {ls : Array Slot} (S : CallFix p m c cX12_letter 2 s args uG RX12) (hr : meth.sig.returnType = (some .int)) (hk : meth.locks = false) (hR : 0 ≤ R.frames ∧ 0 ≤ R.locals)
    (X : gX (dC, dI) (tM kc) (wM ad kc) Z A s σ H locs) (hl : lv_has ls 2 [(0, .ref (ad 0)), (1, .int v1)]) (hg : f_X12_letter_b10 v1 u0 σ = some (r, τ)) : W p l e R s m args below meth c H locs 0 0 (MQ below (gQi (dC, dI) (tM kc) (wM ad kc) A r τ) args s 0 0 A) (F0 m 10 ls [.int u0, .ref (ad 0)]) := by
  have hx := S.1
  have hb := S.2.1
  have hown := S.2.2.2.1
  have hu := S.2.2.2.2
  unfold f_X12_letter_b10 at hg
  refine wmpI_0 S X mG_2050 dX12_letter_10 (fun H locs X => ?_)
  refine lv_aload_n hx hb dX12_letter_13 rfl (lv_at hl 0 rfl) ?_
  refine wmgI_0 (v := u0) S X mG_2050 rfl dX12_letter_14 ?_
  refine lv_if_le (tgt := 24) hx hb dX12_letter_17 (by decide) (fun c17 => ?_) (fun c17 => ?_)
  · have hg := (if_pos c17).symm.trans hg
    refine lv_iload_n hx hb dX12_letter_24 rfl (lv_at hl 1 rfl) ?_
    refine lv_aload_n hx hb dX12_letter_25 rfl (lv_at hl 0 rfl) ?_
    refine wmgI_2 (v := (gI σ 2)) S X mG_2054 rfl dX12_letter_26 ?_
    refine lv_icmp_ge (tgt := 41) hx hb dX12_letter_29 (by decide) (fun c29 => ?_) (fun c29 => ?_)
    · have hg := (if_pos c29).symm.trans hg
      refine lv_iconst (v := (-1)) hx hb dX12_letter_41 (by decide) ?_
      obtain ⟨rfl, rfl⟩ := fin_some hg
      exact gr_i S hr hk X dX12_letter_42
    · have hg := (if_neg c29).symm.trans hg
      refine lv_aload_n hx hb dX12_letter_32 rfl (lv_at hl 0 rfl) ?_
      refine wmgR_0_3 S X mG_2053 dX12_letter_33 ?_
      refine lv_iload_n hx hb dX12_letter_36 rfl (lv_at hl 1 rfl) ?_
      obtain ⟨hi37, hg⟩ := gd_some hg
      refine wmlA_1 (v := (xA σ 1 v1)) S X hi37 rfl dX12_letter_37 ?_
      refine lv_goto (tgt := 42) hx hb dX12_letter_38 (by decide) ?_
      obtain ⟨rfl, rfl⟩ := fin_some hg
      exact gr_i S hr hk X dX12_letter_42
  · have hg := (if_neg c17).symm.trans hg
    refine lv_iconst (v := 0) hx hb dX12_letter_20 (by decide) ?_
    refine lv_goto (tgt := 42) hx hb dX12_letter_21 (by decide) ?_
    obtain ⟨rfl, rfl⟩ := fin_some hg
    exact gr_i S hr hk X dX12_letter_42
set_option maxHeartbeats 4000000 in
set_option maxRecDepth 100000 in
theorem w_X12_letter {σ : S5} {a1 : Int32} {H : Heap} {locs : List Loc} {ls : Array Slot} (S : CallFix p m c cX12_letter 2 s args uG RX12) (hr : meth.sig.returnType = (some .int)) (hk : meth.locks = false) (hR : 0 ≤ R.frames ∧ 0 ≤ R.locals)
    (X : gX (dC, dI) (tM kc) (wM ad kc) Z A s σ H locs) (hl : lv_has ls 2 [(0, .ref (ad 0)), (1, .int a1)]) (hg : f_X12_letter a1 σ = some (r, τ)) : W p l e R s m args below meth c H locs 0 0 (MQ below (gQi (dC, dI) (tM kc) (wM ad kc) A r τ) args s 0 0 A) (F0 m 0 ls []) := by
  have hx := S.1
  have hb := S.2.1
  have hown := S.2.2.2.1
  have hu := S.2.2.2.2
  unfold f_X12_letter at hg
  refine lv_aload_n hx hb dX12_letter_0 rfl (lv_at hl 0 rfl) ?_
  refine lv_iload_n hx hb dX12_letter_1 rfl (lv_at hl 1 rfl) ?_
  refine lv_if_ge (tgt := 9) hx hb dX12_letter_2 (by decide) (fun c2 => ?_) (fun c2 => ?_)
  · have hg := (if_pos c2).symm.trans hg
    refine lv_iconst (v := 0) hx hb dX12_letter_9 (by decide) ?_
    exact w_X12_letter_b10 S hr hk hR X (lv_sub hl [0, 1] rfl) hg
  · have hg := (if_neg c2).symm.trans hg
    refine lv_iconst (v := 1) hx hb dX12_letter_5 (by decide) ?_
    refine lv_goto (tgt := 10) hx hb dX12_letter_6 (by decide) ?_
    exact w_X12_letter_b10 S hr hk hR X (lv_sub hl [0, 1] rfl) hg
end MX12_letter
set_option maxRecDepth 100000 in
theorem k2_X12_letter (l : Launch) (dC : Nat → ClassId) (dI : Nat → Nat → Nat) {Z : ZZ} (ad : Nat → Nat) (kc : Nat → ClassId) {σ τ : S5} {a1 : Int32} {r : Int32} (hg : f_X12_letter a1 σ = some (r, τ)) (sz : Nat) : Met l yX12_letter (Cond.code yX12_letter cX12_letter 2 (some .int) :: uG) { frames := 0, cells := 0, slots := 0, locals := 0 } (gPc (dC, dI) (tM kc) (wM ad kc) Z [.ref (ad 0), .int a1] σ sz) (gQi (dC, dI) (tM kc) (wM ad kc) (va_A (wM ad kc σ) sz) r τ) 0 0 (va_A (wM ad kc σ) sz) :=
  g_start (by decide) (Nat.le_of_ble_eq_true rfl) (fun p e s m below meth c ls S hr hk X hl => w_X12_letter S hr hk ⟨Nat.le_refl _, Nat.le_refl _⟩ X hl hg)
section MX12_codeOf
variable {p : Program} {l : Launch} {e : Env} {R : Room} {s : State} {m : MethodId} {args : Array Value} {below : List Frame} {meth : Method} {c : Code} {dC : Nat → ClassId} {dI : Nat → Nat → Nat} {Z : ZZ} {A : Nat → Prop} {ad : Nat → Nat} {kc : Nat → ClassId} {r : Int32} {τ : S5}
set_option maxHeartbeats 4000000 in
set_option maxRecDepth 100000 in
theorem w_X12_codeOf_b23 {σ : S5}  {H : Heap} {locs : List Loc} {ls : Array Slot} (S : CallFix p m c cX12_codeOf 2 s args uG RX12) (hr : meth.sig.returnType = (some .int)) (hk : meth.locks = false) (hR : 0 ≤ R.frames ∧ 0 ≤ R.locals)
    (X : gX (dC, dI) (tM kc) (wM ad kc) Z A s σ H locs) (hl : lv_has ls 2 []) (hg : f_X12_codeOf_b23  σ = some (r, τ)) : W p l e R s m args below meth c H locs 0 0 (MQ below (gQi (dC, dI) (tM kc) (wM ad kc) A r τ) args s 0 0 A) (F0 m 23 ls []) := by
  have hx := S.1
  have hb := S.2.1
  have hown := S.2.2.2.1
  have hu := S.2.2.2.2
  unfold f_X12_codeOf_b23 at hg
  refine lv_iconst (v := 2) hx hb dX12_codeOf_23 (by decide) ?_
  refine lv_goto (tgt := 28) hx hb dX12_codeOf_24 (by decide) ?_
  obtain ⟨rfl, rfl⟩ := fin_some hg
  exact gr_i S hr hk X dX12_codeOf_28
set_option maxHeartbeats 4000000 in
set_option maxRecDepth 100000 in
theorem w_X12_codeOf {σ : S5} {a1 : Int32} {H : Heap} {locs : List Loc} {ls : Array Slot} (S : CallFix p m c cX12_codeOf 2 s args uG RX12) (hr : meth.sig.returnType = (some .int)) (hk : meth.locks = false) (hR : 0 ≤ R.frames ∧ 0 ≤ R.locals)
    (X : gX (dC, dI) (tM kc) (wM ad kc) Z A s σ H locs) (hl : lv_has ls 2 [(0, .ref (ad 0)), (1, .int a1)]) (hg : f_X12_codeOf a1 σ = some (r, τ)) : W p l e R s m args below meth c H locs 0 0 (MQ below (gQi (dC, dI) (tM kc) (wM ad kc) A r τ) args s 0 0 A) (F0 m 0 ls []) := by
  have hx := S.1
  have hb := S.2.1
  have hown := S.2.2.2.1
  have hu := S.2.2.2.2
  unfold f_X12_codeOf at hg
  refine lv_aload_n hx hb dX12_codeOf_0 rfl (lv_at hl 0 rfl) ?_
  refine wmgI_29 (v := (gI σ 29)) S X mG_2138 rfl dX12_codeOf_1 ?_
  refine lv_if_ne (tgt := 11) hx hb dX12_codeOf_4 (by decide) (fun c4 => ?_) (fun c4 => ?_)
  · have hg := (if_neg c4).symm.trans hg
    refine lv_iload_n hx hb dX12_codeOf_11 rfl (lv_at hl 1 rfl) ?_
    refine lv_if_lt (tgt := 23) hx hb dX12_codeOf_12 (by decide) (fun c12 => ?_) (fun c12 => ?_)
    · have hg := (if_pos c12).symm.trans hg
      exact w_X12_codeOf_b23 S hr hk hR X (lv_sub hl [] rfl) hg
    · have hg := (if_neg c12).symm.trans hg
      refine lv_iload_n hx hb dX12_codeOf_15 rfl (lv_at hl 1 rfl) ?_
      refine lv_aload_n hx hb dX12_codeOf_16 rfl (lv_at hl 0 rfl) ?_
      refine wmgI_22 (v := (gI σ 22)) S X mG_2096 rfl dX12_codeOf_17 ?_
      refine lv_icmp_lt (tgt := 27) hx hb dX12_codeOf_20 (by decide) (fun c20 => ?_) (fun c20 => ?_)
      · have hg := (if_pos c20).symm.trans hg
        refine lv_iconst (v := 0) hx hb dX12_codeOf_27 (by decide) ?_
        obtain ⟨rfl, rfl⟩ := fin_some hg
        exact gr_i S hr hk X dX12_codeOf_28
      · have hg := (if_neg c20).symm.trans hg
        exact w_X12_codeOf_b23 S hr hk hR X (lv_sub hl [] rfl) hg
  · have hg := (if_pos c4).symm.trans hg
    refine lv_iconst (v := 1) hx hb dX12_codeOf_7 (by decide) ?_
    refine lv_goto (tgt := 28) hx hb dX12_codeOf_8 (by decide) ?_
    obtain ⟨rfl, rfl⟩ := fin_some hg
    exact gr_i S hr hk X dX12_codeOf_28
end MX12_codeOf
set_option maxRecDepth 100000 in
theorem k2_X12_codeOf (l : Launch) (dC : Nat → ClassId) (dI : Nat → Nat → Nat) {Z : ZZ} (ad : Nat → Nat) (kc : Nat → ClassId) {σ τ : S5} {a1 : Int32} {r : Int32} (hg : f_X12_codeOf a1 σ = some (r, τ)) (sz : Nat) : Met l yX12_codeOf (Cond.code yX12_codeOf cX12_codeOf 2 (some .int) :: uG) { frames := 0, cells := 0, slots := 0, locals := 0 } (gPc (dC, dI) (tM kc) (wM ad kc) Z [.ref (ad 0), .int a1] σ sz) (gQi (dC, dI) (tM kc) (wM ad kc) (va_A (wM ad kc σ) sz) r τ) 0 0 (va_A (wM ad kc σ) sz) :=
  g_start (by decide) (Nat.le_of_ble_eq_true rfl) (fun p e s m below meth c ls S hr hk X hl => w_X12_codeOf S hr hk ⟨Nat.le_refl _, Nat.le_refl _⟩ X hl hg)
section MX12_function
variable {p : Program} {l : Launch} {e : Env} {R : Room} {s : State} {m : MethodId} {args : Array Value} {below : List Frame} {meth : Method} {c : Code} {dC : Nat → ClassId} {dI : Nat → Nat → Nat} {Z : ZZ} {A : Nat → Prop} {ad : Nat → Nat} {kc : Nat → ClassId} {r : Int32} {τ : S5}
set_option maxHeartbeats 4000000 in
set_option maxRecDepth 100000 in
theorem w_X12_function_b158 {σ : S5} {rec131 : Int32 → Int32 → Int32 → S5 → Option (Int32 × S5)} {v1 : Int32} {v4 : Int32} {u0 : Int32} {u1 : Int32} {H : Heap} {locs : List Loc} {ls : Array Slot} (S : CallFix p m c cX12_function 5 s args uG RX12) (hr : meth.sig.returnType = (some .int)) (hk : meth.locks = false) (hR : 1 ≤ R.frames ∧ 21 ≤ R.locals)
    (hrec131 : ∀ (v1 : Int32) (v3 : Int32) (v4 : Int32) (σ : S5) (H : Heap) (locs : List Loc) (ls : Array Slot), gX (dC, dI) (tM kc) (wM ad kc) Z A s σ H locs → lv_has ls 5 [(0, .ref (ad 0)), (1, .int v1), (3, .int v3), (4, .int v4)] → rec131 v1 v3 v4 σ = some (r, τ) → W p l e R s m args below meth c H locs 0 0 (MQ below (gQi (dC, dI) (tM kc) (wM ad kc) A r τ) args s 0 0 A) (F0 m 131 ls []))
    (X : gX (dC, dI) (tM kc) (wM ad kc) Z A s σ H locs) (hl : lv_has ls 5 [(0, .ref (ad 0)), (1, .int v1), (4, .int v4)]) (hg : f_X12_function_b158 rec131 v1 v4 u0 u1 σ = some (r, τ)) : W p l e R s m args below meth c H locs 0 0 (MQ below (gQi (dC, dI) (tM kc) (wM ad kc) A r τ) args s 0 0 A) (F0 m 158 ls [.int u0, .int u1]) := by
  have hx := S.1
  have hb := S.2.1
  have hown := S.2.2.2.1
  have hu := S.2.2.2.2
  unfold f_X12_function_b158 at hg
  refine lv_iadd hx hb dX12_function_158 ?_
  refine lv_istore_n (lv' := [(3, .int (u1 + u0)), (0, .ref (ad 0)), (1, .int v1), (4, .int v4)]) hx hb dX12_function_159 rfl hl (by decide) rfl (fun ls hl => ?_)
  refine lv_iinc (v := (v4 + 1)) (lv' := [(4, .int (v4 + 1)), (3, .int (u1 + u0)), (0, .ref (ad 0)), (1, .int v1)]) hx hb dX12_function_160 hl (k := 3) rfl (by rfl) (by decide) rfl (fun ls hl => ?_)
  refine lv_goto (tgt := 131) hx hb dX12_function_163 (by decide) ?_
  exact hrec131 _ _ _ _ _ _ _ X (lv_sub hl [2, 3, 1, 0] rfl) hg
set_option maxHeartbeats 4000000 in
set_option maxRecDepth 100000 in
theorem w_X12_function_B131 {σ : S5} {rec131 : Int32 → Int32 → Int32 → S5 → Option (Int32 × S5)} {v1 : Int32} {v3 : Int32} {v4 : Int32} {H : Heap} {locs : List Loc} {ls : Array Slot} (S : CallFix p m c cX12_function 5 s args uG RX12) (hr : meth.sig.returnType = (some .int)) (hk : meth.locks = false) (hR : 1 ≤ R.frames ∧ 21 ≤ R.locals)
    (hrec131 : ∀ (v1 : Int32) (v3 : Int32) (v4 : Int32) (σ : S5) (H : Heap) (locs : List Loc) (ls : Array Slot), gX (dC, dI) (tM kc) (wM ad kc) Z A s σ H locs → lv_has ls 5 [(0, .ref (ad 0)), (1, .int v1), (3, .int v3), (4, .int v4)] → rec131 v1 v3 v4 σ = some (r, τ) → W p l e R s m args below meth c H locs 0 0 (MQ below (gQi (dC, dI) (tM kc) (wM ad kc) A r τ) args s 0 0 A) (F0 m 131 ls []))
    (X : gX (dC, dI) (tM kc) (wM ad kc) Z A s σ H locs) (hl : lv_has ls 5 [(0, .ref (ad 0)), (1, .int v1), (3, .int v3), (4, .int v4)]) (hg : f_X12_function_B131 rec131 v1 v3 v4 σ = some (r, τ)) : W p l e R s m args below meth c H locs 0 0 (MQ below (gQi (dC, dI) (tM kc) (wM ad kc) A r τ) args s 0 0 A) (F0 m 131 ls []) := by
  have hx := S.1
  have hb := S.2.1
  have hown := S.2.2.2.1
  have hu := S.2.2.2.2
  unfold f_X12_function_B131 at hg
  refine lv_iload hx hb dX12_function_131 (lv_at hl 3 rfl) ?_
  refine lv_aload_n hx hb dX12_function_133 rfl (lv_at hl 0 rfl) ?_
  refine wmgR_0_80 S X mG_2130 dX12_function_134 ?_
  refine lv_iload_n hx hb dX12_function_137 rfl (lv_at hl 1 rfl) ?_
  obtain ⟨hi138, hg⟩ := gd_some hg
  refine wmlA_45 (v := (xA σ 45 v1)) S X hi138 rfl dX12_function_138 ?_
  refine lv_icmp_gt (tgt := 166) hx hb dX12_function_139 (by decide) (fun c139 => ?_) (fun c139 => ?_)
  · have hg := (if_pos c139).symm.trans hg
    refine lv_iload_n hx hb dX12_function_166 rfl (lv_at hl 2 rfl) ?_
    obtain ⟨rfl, rfl⟩ := fin_some hg
    exact gr_i S hr hk X dX12_function_167
  · have hg := (if_neg c139).symm.trans hg
    refine lv_iload_n hx hb dX12_function_142 rfl (lv_at hl 2 rfl) ?_
    refine lv_aload_n hx hb dX12_function_143 rfl (lv_at hl 0 rfl) ?_
    refine wmgR_0_69 S X mG_2119 dX12_function_144 ?_
    refine lv_iload hx hb dX12_function_147 (lv_at hl 3 rfl) ?_
    obtain ⟨hi149, hg⟩ := gd_some hg
    refine wmlA_36 (v := (xA σ 36 v4)) S X hi149 rfl dX12_function_149 ?_
    refine lv_if_eq (tgt := 157) hx hb dX12_function_150 (by decide) (fun c150 => ?_) (fun c150 => ?_)
    · have hg := (if_pos c150).symm.trans hg
      refine lv_iconst (v := 0) hx hb dX12_function_157 (by decide) ?_
      exact w_X12_function_b158 S hr hk hR hrec131 X (lv_sub hl [0, 1, 3] rfl) hg
    · have hg := (if_neg c150).symm.trans hg
      refine lv_iconst (v := 1) hx hb dX12_function_153 (by decide) ?_
      refine lv_goto (tgt := 158) hx hb dX12_function_154 (by decide) ?_
      exact w_X12_function_b158 S hr hk hR hrec131 X (lv_sub hl [0, 1, 3] rfl) hg
set_option maxHeartbeats 4000000 in
set_option maxRecDepth 100000 in
theorem w_X12_function_L131 (S : CallFix p m c cX12_function 5 s args uG RX12) (hr : meth.sig.returnType = (some .int)) (hk : meth.locks = false) (hR : 1 ≤ R.frames ∧ 21 ≤ R.locals) : ∀ (n : Nat) (v1 : Int32) (v3 : Int32) (v4 : Int32) (σ : S5) (H : Heap) (locs : List Loc) (ls : Array Slot), gX (dC, dI) (tM kc) (wM ad kc) Z A s σ H locs → lv_has ls 5 [(0, .ref (ad 0)), (1, .int v1), (3, .int v3), (4, .int v4)] → f_X12_function_L131  n v1 v3 v4 σ = some (r, τ) → W p l e R s m args below meth c H locs 0 0 (MQ below (gQi (dC, dI) (tM kc) (wM ad kc) A r τ) args s 0 0 A) (F0 m 131 ls []) := by
  intro n
  induction n with
  | zero => intro v1 v3 v4 σ H locs ls X hl hg; cases hg
  | succ n ih => intro v1 v3 v4 σ H locs ls X hl hg; exact w_X12_function_B131 S hr hk hR ih X hl hg
set_option maxHeartbeats 4000000 in
set_option maxRecDepth 100000 in
theorem w_X12_function_b38 {σ : S5} {v1 : Int32} {v2 : Int32} {u0 : Int32} {H : Heap} {locs : List Loc} {ls : Array Slot} (S : CallFix p m c cX12_function 5 s args uG RX12) (hr : meth.sig.returnType = (some .int)) (hk : meth.locks = false) (hR : 1 ≤ R.frames ∧ 21 ≤ R.locals)
    (X : gX (dC, dI) (tM kc) (wM ad kc) Z A s σ H locs) (hl : lv_has ls 5 [(0, .ref (ad 0)), (1, .int v1), (2, .int v2)]) (hg : f_X12_function_b38 v1 v2 u0 σ = some (r, τ)) : W p l e R s m args below meth c H locs 0 0 (MQ below (gQi (dC, dI) (tM kc) (wM ad kc) A r τ) args s 0 0 A) (F0 m 38 ls [.int u0, .ref (ad 0)]) := by
  have hx := S.1
  have hb := S.2.1
  have hown := S.2.2.2.1
  have hu := S.2.2.2.2
  unfold f_X12_function_b38 at hg
  refine wmpI_0 S X mG_2050 dX12_function_38 (fun H locs X => ?_)
  refine lv_aload_n hx hb dX12_function_41 rfl (lv_at hl 0 rfl) ?_
  refine wmgI_0 (v := u0) S X mG_2050 rfl dX12_function_42 ?_
  refine lv_if_le (tgt := 50) hx hb dX12_function_45 (by decide) (fun c45 => ?_) (fun c45 => ?_)
  · have hg := (if_pos c45).symm.trans hg
    refine lv_iload_n hx hb dX12_function_50 rfl (lv_at hl 2 rfl) ?_
    rcases sw_0_4 (v2) with hsw | hsw | hsw | hsw | hsw | hsw
    · refine lv_tableOut (tgt := 168) hx hb dX12_function_51 hsw (by decide) ?_
      obtain ⟨hs0, hs1, hs2, hs3, hs4⟩ := swo_0_4 hsw
      have hg := (if_neg hs0).symm.trans hg
      have hg := (if_neg hs1).symm.trans hg
      have hg := (if_neg hs2).symm.trans hg
      have hg := (if_neg hs3).symm.trans hg
      have hg := (if_neg hs4).symm.trans hg
      refine lv_aload_n hx hb dX12_function_168 rfl (lv_at hl 0 rfl) ?_
      refine wmgR_0_70 S X mG_2120 dX12_function_169 ?_
      refine lv_aload_n hx hb dX12_function_172 rfl (lv_at hl 0 rfl) ?_
      refine wmgR_0_80 S X mG_2130 dX12_function_173 ?_
      refine lv_iload_n hx hb dX12_function_176 rfl (lv_at hl 1 rfl) ?_
      obtain ⟨hi177, hg⟩ := gd_some hg
      refine wmlA_45 (v := (xA σ 45 v1)) S X hi177 rfl dX12_function_177 ?_
      obtain ⟨hi178, hg⟩ := gd_some hg
      refine wmlA_37 (v := (xA σ 37 (xA σ 45 v1))) S X hi178 rfl dX12_function_178 ?_
      obtain ⟨rfl, rfl⟩ := fin_some hg
      exact gr_i S hr hk X dX12_function_179
    · refine lv_tableIn (off := 33) (tgt := 84) hx hb dX12_function_51 (by rw [hsw]; decide) (by rw [hsw]; decide) (by rw [hsw]; decide) (by decide) ?_
      have hg := (if_pos hsw).symm.trans hg
      refine lv_aload_n hx hb dX12_function_84 rfl (lv_at hl 0 rfl) ?_
      refine wmgR_0_82 S X mG_2132 dX12_function_85 ?_
      refine lv_iload_n hx hb dX12_function_88 rfl (lv_at hl 1 rfl) ?_
      obtain ⟨hi89, hg⟩ := gd_some hg
      refine wmlA_47 (v := (xA σ 47 v1)) S X hi89 rfl dX12_function_89 ?_
      obtain ⟨rfl, rfl⟩ := fin_some hg
      exact gr_i S hr hk X dX12_function_90
    · refine lv_tableIn (off := 40) (tgt := 91) hx hb dX12_function_51 (by rw [hsw]; decide) (by rw [hsw]; decide) (by rw [hsw]; decide) (by decide) ?_
      have hg := (if_neg (by rw [hsw]; decide)).symm.trans hg
      have hg := (if_pos hsw).symm.trans hg
      refine lv_aload_n hx hb dX12_function_91 rfl (lv_at hl 0 rfl) ?_
      refine wmgR_0_48 S X mG_2098 dX12_function_92 ?_
      refine lv_iload_n hx hb dX12_function_95 rfl (lv_at hl 1 rfl) ?_
      obtain ⟨hi96, hg⟩ := gd_some hg
      refine wmlA_20 (v := (xA σ 20 v1)) S X hi96 rfl dX12_function_96 ?_
      obtain ⟨rfl, rfl⟩ := fin_some hg
      exact gr_i S hr hk X dX12_function_97
    · refine lv_tableIn (off := 47) (tgt := 98) hx hb dX12_function_51 (by rw [hsw]; decide) (by rw [hsw]; decide) (by rw [hsw]; decide) (by decide) ?_
      have hg := (if_neg (by rw [hsw]; decide)).symm.trans hg
      have hg := (if_neg (by rw [hsw]; decide)).symm.trans hg
      have hg := (if_pos hsw).symm.trans hg
      refine lv_aload_n hx hb dX12_function_98 rfl (lv_at hl 0 rfl) ?_
      refine wmgR_0_81 S X mG_2131 dX12_function_99 ?_
      refine lv_iload_n hx hb dX12_function_102 rfl (lv_at hl 1 rfl) ?_
      obtain ⟨hi103, hg⟩ := gd_some hg
      refine wmlA_46 (v := (xA σ 46 v1)) S X hi103 rfl dX12_function_103 ?_
      obtain ⟨rfl, rfl⟩ := fin_some hg
      exact gr_i S hr hk X dX12_function_104
    · refine lv_tableIn (off := 54) (tgt := 105) hx hb dX12_function_51 (by rw [hsw]; decide) (by rw [hsw]; decide) (by rw [hsw]; decide) (by decide) ?_
      have hg := (if_neg (by rw [hsw]; decide)).symm.trans hg
      have hg := (if_neg (by rw [hsw]; decide)).symm.trans hg
      have hg := (if_neg (by rw [hsw]; decide)).symm.trans hg
      have hg := (if_pos hsw).symm.trans hg
      refine lv_aload_n hx hb dX12_function_105 rfl (lv_at hl 0 rfl) ?_
      refine wmgR_0_80 S X mG_2130 dX12_function_106 ?_
      refine lv_iload_n hx hb dX12_function_109 rfl (lv_at hl 1 rfl) ?_
      obtain ⟨hi110, hg⟩ := gd_some hg
      refine wmlA_45 (v := (xA σ 45 v1)) S X hi110 rfl dX12_function_110 ?_
      refine lv_aload_n hx hb dX12_function_111 rfl (lv_at hl 0 rfl) ?_
      refine wmgR_0_79 S X mG_2129 dX12_function_112 ?_
      refine lv_iload_n hx hb dX12_function_115 rfl (lv_at hl 1 rfl) ?_
      obtain ⟨hi116, hg⟩ := gd_some hg
      refine wmlA_44 (v := (xA σ 44 v1)) S X hi116 rfl dX12_function_116 ?_
      refine lv_isub hx hb dX12_function_117 ?_
      refine lv_iconst (v := 1) hx hb dX12_function_118 (by decide) ?_
      refine lv_iadd hx hb dX12_function_119 ?_
      obtain ⟨rfl, rfl⟩ := fin_some hg
      exact gr_i S hr hk X dX12_function_120
    · refine lv_tableIn (off := 70) (tgt := 121) hx hb dX12_function_51 (by rw [hsw]; decide) (by rw [hsw]; decide) (by rw [hsw]; decide) (by decide) ?_
      have hg := (if_neg (by rw [hsw]; decide)).symm.trans hg
      have hg := (if_neg (by rw [hsw]; decide)).symm.trans hg
      have hg := (if_neg (by rw [hsw]; decide)).symm.trans hg
      have hg := (if_neg (by rw [hsw]; decide)).symm.trans hg
      have hg := (if_pos hsw).symm.trans hg
      refine lv_iconst (v := 0) hx hb dX12_function_121 (by decide) ?_
      refine lv_istore_n (lv' := [(3, .int 0), (0, .ref (ad 0)), (1, .int v1), (2, .int v2)]) hx hb dX12_function_122 rfl hl (by decide) rfl (fun ls hl => ?_)
      refine lv_aload_n hx hb dX12_function_123 rfl (lv_at hl 1 rfl) ?_
      refine wmgR_0_79 S X mG_2129 dX12_function_124 ?_
      refine lv_iload_n hx hb dX12_function_127 rfl (lv_at hl 2 rfl) ?_
      obtain ⟨hi128, hg⟩ := gd_some hg
      refine wmlA_44 (v := (xA σ 44 v1)) S X hi128 rfl dX12_function_128 ?_
      refine lv_istore (lv' := [(4, .int (xA σ 44 v1)), (3, .int 0), (0, .ref (ad 0)), (1, .int v1), (2, .int v2)]) hx hb dX12_function_129 hl (by decide) rfl (fun ls hl => ?_)
      exact w_X12_function_L131 S hr hk hR _ _ _ _ _ _ _ _ X (lv_sub hl [2, 3, 1, 0] rfl) hg
  · have hg := (if_neg c45).symm.trans hg
    refine lv_iconst (v := 0) hx hb dX12_function_48 (by decide) ?_
    obtain ⟨rfl, rfl⟩ := fin_some hg
    exact gr_i S hr hk X dX12_function_49
set_option maxHeartbeats 4000000 in
set_option maxRecDepth 100000 in
theorem w_X12_function_b33 {σ : S5} {v1 : Int32} {v2 : Int32} {H : Heap} {locs : List Loc} {ls : Array Slot} (S : CallFix p m c cX12_function 5 s args uG RX12) (hr : meth.sig.returnType = (some .int)) (hk : meth.locks = false) (hR : 1 ≤ R.frames ∧ 21 ≤ R.locals)
    (X : gX (dC, dI) (tM kc) (wM ad kc) Z A s σ H locs) (hl : lv_has ls 5 [(0, .ref (ad 0)), (1, .int v1), (2, .int v2)]) (hg : f_X12_function_b33 v1 v2 σ = some (r, τ)) : W p l e R s m args below meth c H locs 0 0 (MQ below (gQi (dC, dI) (tM kc) (wM ad kc) A r τ) args s 0 0 A) (F0 m 33 ls [.ref (ad 0)]) := by
  have hx := S.1
  have hb := S.2.1
  have hown := S.2.2.2.1
  have hu := S.2.2.2.2
  unfold f_X12_function_b33 at hg
  refine lv_iconst (v := 3) hx hb dX12_function_33 (by decide) ?_
  refine lv_goto (tgt := 38) hx hb dX12_function_34 (by decide) ?_
  exact w_X12_function_b38 S hr hk hR X (lv_sub hl [0, 1, 2] rfl) hg
set_option maxHeartbeats 4000000 in
set_option maxRecDepth 100000 in
theorem w_X12_function {σ : S5} {a1 : Int32} {a2 : Int32} {H : Heap} {locs : List Loc} {ls : Array Slot} (S : CallFix p m c cX12_function 5 s args uG RX12) (hr : meth.sig.returnType = (some .int)) (hk : meth.locks = false) (hR : 1 ≤ R.frames ∧ 21 ≤ R.locals)
    (X : gX (dC, dI) (tM kc) (wM ad kc) Z A s σ H locs) (hl : lv_has ls 5 [(0, .ref (ad 0)), (1, .int a1), (2, .int a2)]) (hg : f_X12_function a1 a2 σ = some (r, τ)) : W p l e R s m args below meth c H locs 0 0 (MQ below (gQi (dC, dI) (tM kc) (wM ad kc) A r τ) args s 0 0 A) (F0 m 0 ls []) := by
  have hx := S.1
  have hb := S.2.1
  have hown := S.2.2.2.1
  have hu := S.2.2.2.2
  unfold f_X12_function at hg
  refine lv_aload_n hx hb dX12_function_0 rfl (lv_at hl 0 rfl) ?_
  refine lv_aload_n hx hb dX12_function_1 rfl (lv_at hl 0 rfl) ?_
  refine lv_iload_n hx hb dX12_function_2 rfl (lv_at hl 1 rfl) ?_
  obtain ⟨r3, τ3, hq3, hg⟩ := bd_some hg
  refine gc_Vi (As := [.int a1]) (rest := [.ref (ad 0)]) (q0 := 0) (ci := 15) S X (k2_X12_codeOf l dC dI ad kc hq3 H.size) cw_X12_codeOf mG_2967 rfl rfl rfl rfl rfl hl.1 (Nat.le_of_ble_eq_true rfl) dX12_function_3 ⟨by omega, by omega⟩ (fun H locs X => ?_)
  refine wmpI_0 S X mG_2050 dX12_function_6 (fun H locs X => ?_)
  refine lv_aload_n hx hb dX12_function_9 rfl (lv_at hl 0 rfl) ?_
  refine lv_aload_n hx hb dX12_function_10 rfl (lv_at hl 0 rfl) ?_
  refine wmgI_0 (v := r3) S X mG_2050 rfl dX12_function_11 ?_
  refine lv_if_le (tgt := 24) hx hb dX12_function_14 (by decide) (fun c14 => ?_) (fun c14 => ?_)
  · have hg := (if_pos c14).symm.trans hg
    refine lv_iload_n hx hb dX12_function_24 rfl (lv_at hl 2 rfl) ?_
    refine lv_if_lt (tgt := 33) hx hb dX12_function_25 (by decide) (fun c25 => ?_) (fun c25 => ?_)
    · have hg := (if_pos c25).symm.trans hg
      exact w_X12_function_b33 S hr hk hR X (lv_sub hl [0, 1, 2] rfl) hg
    · have hg := (if_neg c25).symm.trans hg
      refine lv_iload_n hx hb dX12_function_28 rfl (lv_at hl 2 rfl) ?_
      refine lv_iconst (v := 5) hx hb dX12_function_29 (by decide) ?_
      refine lv_icmp_le (tgt := 37) hx hb dX12_function_30 (by decide) (fun c30 => ?_) (fun c30 => ?_)
      · have hg := (if_pos c30).symm.trans hg
        refine lv_iconst (v := 0) hx hb dX12_function_37 (by decide) ?_
        exact w_X12_function_b38 S hr hk hR X (lv_sub hl [0, 1, 2] rfl) hg
      · have hg := (if_neg c30).symm.trans hg
        exact w_X12_function_b33 S hr hk hR X (lv_sub hl [0, 1, 2] rfl) hg
  · have hg := (if_neg c14).symm.trans hg
    refine lv_aload_n hx hb dX12_function_17 rfl (lv_at hl 0 rfl) ?_
    refine wmgI_0 (v := r3) S X mG_2050 rfl dX12_function_18 ?_
    refine lv_goto (tgt := 38) hx hb dX12_function_21 (by decide) ?_
    exact w_X12_function_b38 S hr hk hR X (lv_sub hl [0, 1, 2] rfl) hg
end MX12_function
set_option maxRecDepth 100000 in
theorem k2_X12_function (l : Launch) (dC : Nat → ClassId) (dI : Nat → Nat → Nat) {Z : ZZ} (ad : Nat → Nat) (kc : Nat → ClassId) {σ τ : S5} {a1 : Int32} {a2 : Int32} {r : Int32} (hg : f_X12_function a1 a2 σ = some (r, τ)) (sz : Nat) : Met l yX12_function (Cond.code yX12_function cX12_function 5 (some .int) :: uG) { frames := 1, cells := 0, slots := 0, locals := 21 } (gPc (dC, dI) (tM kc) (wM ad kc) Z [.ref (ad 0), .int a1, .int a2] σ sz) (gQi (dC, dI) (tM kc) (wM ad kc) (va_A (wM ad kc σ) sz) r τ) 0 0 (va_A (wM ad kc σ) sz) :=
  g_start (by decide) (Nat.le_of_ble_eq_true rfl) (fun p e s m below meth c ls S hr hk X hl => w_X12_function S hr hk ⟨Nat.le_refl _, Nat.le_refl _⟩ X hl hg)
section MX12_needs
variable {p : Program} {l : Launch} {e : Env} {R : Room} {s : State} {m : MethodId} {args : Array Value} {below : List Frame} {meth : Method} {c : Code} {dC : Nat → ClassId} {dI : Nat → Nat → Nat} {Z : ZZ} {A : Nat → Prop} {ad : Nat → Nat} {kc : Nat → ClassId} {r : Int32} {τ : S5}
set_option maxHeartbeats 4000000 in
set_option maxRecDepth 100000 in
theorem w_X12_needs_b43 {σ : S5} {v1 : Int32} {v2 : Int32} {u0 : Int32} {H : Heap} {locs : List Loc} {ls : Array Slot} (S : CallFix p m c cX12_needs 3 s args uG RX12) (hr : meth.sig.returnType = (some .boolean)) (hk : meth.locks = false) (hR : 1 ≤ R.frames ∧ 21 ≤ R.locals)
    (X : gX (dC, dI) (tM kc) (wM ad kc) Z A s σ H locs) (hl : lv_has ls 3 [(0, .ref (ad 0)), (1, .int v1), (2, .int v2)]) (hg : f_X12_needs_b43 v1 v2 u0 σ = some (r, τ)) : W p l e R s m args below meth c H locs 0 0 (MQ below (gQi (dC, dI) (tM kc) (wM ad kc) A r τ) args s 0 0 A) (F0 m 43 ls [.int u0, .ref (ad 0)]) := by
  have hx := S.1
  have hb := S.2.1
  have hown := S.2.2.2.1
  have hu := S.2.2.2.2
  unfold f_X12_needs_b43 at hg
  refine wmpI_0 S X mG_2050 dX12_needs_43 (fun H locs X => ?_)
  refine lv_aload_n hx hb dX12_needs_46 rfl (lv_at hl 0 rfl) ?_
  refine wmgI_0 (v := u0) S X mG_2050 rfl dX12_needs_47 ?_
  refine lv_if_ne (tgt := 71) hx hb dX12_needs_50 (by decide) (fun c50 => ?_) (fun c50 => ?_)
  · have hg := (if_neg c50).symm.trans hg
    refine lv_iconst (v := 0) hx hb dX12_needs_71 (by decide) ?_
    obtain ⟨rfl, rfl⟩ := fin_some hg
    exact gr_z S hr hk X (Or.inl rfl) dX12_needs_72
  · have hg := (if_pos c50).symm.trans hg
    refine lv_aload_n hx hb dX12_needs_53 rfl (lv_at hl 0 rfl) ?_
    refine wmgR_0_91 S X mG_2141 dX12_needs_54 ?_
    refine lv_bipush (v := 8) hx hb dX12_needs_57 (by decide) ?_
    refine lv_iload_n hx hb dX12_needs_59 rfl (lv_at hl 1 rfl) ?_
    refine lv_imul hx hb dX12_needs_60 ?_
    refine lv_iload_n hx hb dX12_needs_61 rfl (lv_at hl 2 rfl) ?_
    refine lv_iadd hx hb dX12_needs_62 ?_
    obtain ⟨hi63, hg⟩ := gd_some hg
    refine wmlA_52 (v := (xA σ 52 ((8 * v1) + v2))) S X hi63 rfl dX12_needs_63 ?_
    refine lv_if_eq (tgt := 71) hx hb dX12_needs_64 (by decide) (fun c64 => ?_) (fun c64 => ?_)
    · have hg := (if_pos c64).symm.trans hg
      refine lv_iconst (v := 0) hx hb dX12_needs_71 (by decide) ?_
      obtain ⟨rfl, rfl⟩ := fin_some hg
      exact gr_z S hr hk X (Or.inl rfl) dX12_needs_72
    · have hg := (if_neg c64).symm.trans hg
      refine lv_iconst (v := 1) hx hb dX12_needs_67 (by decide) ?_
      refine lv_goto (tgt := 72) hx hb dX12_needs_68 (by decide) ?_
      obtain ⟨rfl, rfl⟩ := fin_some hg
      exact gr_z S hr hk X (Or.inr rfl) dX12_needs_72
set_option maxHeartbeats 4000000 in
set_option maxRecDepth 100000 in
theorem w_X12_needs_b38 {σ : S5} {v1 : Int32} {v2 : Int32} {H : Heap} {locs : List Loc} {ls : Array Slot} (S : CallFix p m c cX12_needs 3 s args uG RX12) (hr : meth.sig.returnType = (some .boolean)) (hk : meth.locks = false) (hR : 1 ≤ R.frames ∧ 21 ≤ R.locals)
    (X : gX (dC, dI) (tM kc) (wM ad kc) Z A s σ H locs) (hl : lv_has ls 3 [(0, .ref (ad 0)), (1, .int v1), (2, .int v2)]) (hg : f_X12_needs_b38 v1 v2 σ = some (r, τ)) : W p l e R s m args below meth c H locs 0 0 (MQ below (gQi (dC, dI) (tM kc) (wM ad kc) A r τ) args s 0 0 A) (F0 m 38 ls [.ref (ad 0)]) := by
  have hx := S.1
  have hb := S.2.1
  have hown := S.2.2.2.1
  have hu := S.2.2.2.2
  unfold f_X12_needs_b38 at hg
  refine lv_iconst (v := 2) hx hb dX12_needs_38 (by decide) ?_
  refine lv_goto (tgt := 43) hx hb dX12_needs_39 (by decide) ?_
  exact w_X12_needs_b43 S hr hk hR X (lv_sub hl [0, 1, 2] rfl) hg
set_option maxHeartbeats 4000000 in
set_option maxRecDepth 100000 in
theorem w_X12_needs {σ : S5} {a1 : Int32} {a2 : Int32} {H : Heap} {locs : List Loc} {ls : Array Slot} (S : CallFix p m c cX12_needs 3 s args uG RX12) (hr : meth.sig.returnType = (some .boolean)) (hk : meth.locks = false) (hR : 1 ≤ R.frames ∧ 21 ≤ R.locals)
    (X : gX (dC, dI) (tM kc) (wM ad kc) Z A s σ H locs) (hl : lv_has ls 3 [(0, .ref (ad 0)), (1, .int a1), (2, .int a2)]) (hg : f_X12_needs a1 a2 σ = some (r, τ)) : W p l e R s m args below meth c H locs 0 0 (MQ below (gQi (dC, dI) (tM kc) (wM ad kc) A r τ) args s 0 0 A) (F0 m 0 ls []) := by
  have hx := S.1
  have hb := S.2.1
  have hown := S.2.2.2.1
  have hu := S.2.2.2.2
  unfold f_X12_needs at hg
  refine lv_aload_n hx hb dX12_needs_0 rfl (lv_at hl 0 rfl) ?_
  refine lv_aload_n hx hb dX12_needs_1 rfl (lv_at hl 0 rfl) ?_
  refine lv_iload_n hx hb dX12_needs_2 rfl (lv_at hl 1 rfl) ?_
  obtain ⟨r3, τ3, hq3, hg⟩ := bd_some hg
  refine gc_Vi (As := [.int a1]) (rest := [.ref (ad 0)]) (q0 := 0) (ci := 15) S X (k2_X12_codeOf l dC dI ad kc hq3 H.size) cw_X12_codeOf mG_2967 rfl rfl rfl rfl rfl hl.1 (Nat.le_of_ble_eq_true rfl) dX12_needs_3 ⟨by omega, by omega⟩ (fun H locs X => ?_)
  refine wmpI_0 S X mG_2050 dX12_needs_6 (fun H locs X => ?_)
  refine lv_aload_n hx hb dX12_needs_9 rfl (lv_at hl 0 rfl) ?_
  refine lv_aload_n hx hb dX12_needs_10 rfl (lv_at hl 0 rfl) ?_
  refine wmgI_0 (v := r3) S X mG_2050 rfl dX12_needs_11 ?_
  refine lv_if_le (tgt := 24) hx hb dX12_needs_14 (by decide) (fun c14 => ?_) (fun c14 => ?_)
  · have hg := (if_pos c14).symm.trans hg
    refine lv_iload_n hx hb dX12_needs_24 rfl (lv_at hl 2 rfl) ?_
    refine lv_if_lt (tgt := 38) hx hb dX12_needs_25 (by decide) (fun c25 => ?_) (fun c25 => ?_)
    · have hg := (if_pos c25).symm.trans hg
      exact w_X12_needs_b38 S hr hk hR X (lv_sub hl [0, 1, 2] rfl) hg
    · have hg := (if_neg c25).symm.trans hg
      refine lv_iload_n hx hb dX12_needs_28 rfl (lv_at hl 2 rfl) ?_
      refine lv_aload_n hx hb dX12_needs_29 rfl (lv_at hl 0 rfl) ?_
      refine wmgR_0_82 S X mG_2132 dX12_needs_30 ?_
      refine lv_iload_n hx hb dX12_needs_33 rfl (lv_at hl 1 rfl) ?_
      obtain ⟨hi34, hg⟩ := gd_some hg
      refine wmlA_47 (v := (xA τ3 47 a1)) S X hi34 rfl dX12_needs_34 ?_
      refine lv_icmp_lt (tgt := 42) hx hb dX12_needs_35 (by decide) (fun c35 => ?_) (fun c35 => ?_)
      · have hg := (if_pos c35).symm.trans hg
        refine lv_iconst (v := 0) hx hb dX12_needs_42 (by decide) ?_
        exact w_X12_needs_b43 S hr hk hR X (lv_sub hl [0, 1, 2] rfl) hg
      · have hg := (if_neg c35).symm.trans hg
        exact w_X12_needs_b38 S hr hk hR X (lv_sub hl [0, 1, 2] rfl) hg
  · have hg := (if_neg c14).symm.trans hg
    refine lv_aload_n hx hb dX12_needs_17 rfl (lv_at hl 0 rfl) ?_
    refine wmgI_0 (v := r3) S X mG_2050 rfl dX12_needs_18 ?_
    refine lv_goto (tgt := 43) hx hb dX12_needs_21 (by decide) ?_
    exact w_X12_needs_b43 S hr hk hR X (lv_sub hl [0, 1, 2] rfl) hg
end MX12_needs
set_option maxRecDepth 100000 in
theorem k2_X12_needs (l : Launch) (dC : Nat → ClassId) (dI : Nat → Nat → Nat) {Z : ZZ} (ad : Nat → Nat) (kc : Nat → ClassId) {σ τ : S5} {a1 : Int32} {a2 : Int32} {r : Int32} (hg : f_X12_needs a1 a2 σ = some (r, τ)) (sz : Nat) : Met l yX12_needs (Cond.code yX12_needs cX12_needs 3 (some .boolean) :: uG) { frames := 1, cells := 0, slots := 0, locals := 21 } (gPc (dC, dI) (tM kc) (wM ad kc) Z [.ref (ad 0), .int a1, .int a2] σ sz) (gQi (dC, dI) (tM kc) (wM ad kc) (va_A (wM ad kc σ) sz) r τ) 0 0 (va_A (wM ad kc σ) sz) :=
  g_start (by decide) (Nat.le_of_ble_eq_true rfl) (fun p e s m below meth c ls S hr hk X hl => w_X12_needs S hr hk ⟨Nat.le_refl _, Nat.le_refl _⟩ X hl hg)
section MX12_bit
variable {p : Program} {l : Launch} {e : Env} {R : Room} {s : State} {m : MethodId} {args : Array Value} {below : List Frame} {meth : Method} {c : Code} {dC : Nat → ClassId} {dI : Nat → Nat → Nat} {Z : ZZ} {A : Nat → Prop} {ad : Nat → Nat} {kc : Nat → ClassId} {r : Int32} {τ : S5}
set_option maxHeartbeats 4000000 in
set_option maxRecDepth 100000 in
theorem w_X12_bit_b45 {σ : S5} {v1 : Int32} {v2 : Int32} {u0 : Int32} {H : Heap} {locs : List Loc} {ls : Array Slot} (S : CallFix p m c cX12_bit 3 s args uG RX12) (hr : meth.sig.returnType = (some .int)) (hk : meth.locks = false) (hR : 1 ≤ R.frames ∧ 22 ≤ R.locals)
    (X : gX (dC, dI) (tM kc) (wM ad kc) Z A s σ H locs) (hl : lv_has ls 3 [(0, .ref (ad 0)), (1, .int v1), (2, .int v2)]) (hg : f_X12_bit_b45 v1 v2 u0 σ = some (r, τ)) : W p l e R s m args below meth c H locs 0 0 (MQ below (gQi (dC, dI) (tM kc) (wM ad kc) A r τ) args s 0 0 A) (F0 m 45 ls [.int u0, .ref (ad 0)]) := by
  have hx := S.1
  have hb := S.2.1
  have hown := S.2.2.2.1
  have hu := S.2.2.2.2
  unfold f_X12_bit_b45 at hg
  refine wmpI_0 S X mG_2050 dX12_bit_45 (fun H locs X => ?_)
  refine lv_aload_n hx hb dX12_bit_48 rfl (lv_at hl 0 rfl) ?_
  refine wmgI_0 (v := u0) S X mG_2050 rfl dX12_bit_49 ?_
  refine lv_if_ne (tgt := 68) hx hb dX12_bit_52 (by decide) (fun c52 => ?_) (fun c52 => ?_)
  · have hg := (if_neg c52).symm.trans hg
    refine lv_iconst (v := 0) hx hb dX12_bit_68 (by decide) ?_
    obtain ⟨rfl, rfl⟩ := fin_some hg
    exact gr_i S hr hk X dX12_bit_69
  · have hg := (if_pos c52).symm.trans hg
    refine lv_aload_n hx hb dX12_bit_55 rfl (lv_at hl 0 rfl) ?_
    refine lv_iload_n hx hb dX12_bit_56 rfl (lv_at hl 1 rfl) ?_
    refine lv_iload_n hx hb dX12_bit_57 rfl (lv_at hl 2 rfl) ?_
    obtain ⟨r58, τ58, hq58, hg⟩ := bd_some hg
    refine gc_Vi (As := [.int v1, .int v2]) (rest := []) (q0 := 0) (ci := 15) S X (k2_X12_table l dC dI ad kc hq58 H.size) cw_X12_table mG_2756 rfl rfl rfl rfl rfl hl.1 (Nat.le_of_ble_eq_true rfl) dX12_bit_58 ⟨by omega, by omega⟩ (fun H locs X => ?_)
    refine lv_if_eq (tgt := 68) hx hb dX12_bit_61 (by decide) (fun c61 => ?_) (fun c61 => ?_)
    · have hg := (if_pos c61).symm.trans hg
      refine lv_iconst (v := 0) hx hb dX12_bit_68 (by decide) ?_
      obtain ⟨rfl, rfl⟩ := fin_some hg
      exact gr_i S hr hk X dX12_bit_69
    · have hg := (if_neg c61).symm.trans hg
      refine lv_iconst (v := 1) hx hb dX12_bit_64 (by decide) ?_
      refine lv_goto (tgt := 69) hx hb dX12_bit_65 (by decide) ?_
      obtain ⟨rfl, rfl⟩ := fin_some hg
      exact gr_i S hr hk X dX12_bit_69
set_option maxHeartbeats 4000000 in
set_option maxRecDepth 100000 in
theorem w_X12_bit_b40 {σ : S5} {v1 : Int32} {v2 : Int32} {H : Heap} {locs : List Loc} {ls : Array Slot} (S : CallFix p m c cX12_bit 3 s args uG RX12) (hr : meth.sig.returnType = (some .int)) (hk : meth.locks = false) (hR : 1 ≤ R.frames ∧ 22 ≤ R.locals)
    (X : gX (dC, dI) (tM kc) (wM ad kc) Z A s σ H locs) (hl : lv_has ls 3 [(0, .ref (ad 0)), (1, .int v1), (2, .int v2)]) (hg : f_X12_bit_b40 v1 v2 σ = some (r, τ)) : W p l e R s m args below meth c H locs 0 0 (MQ below (gQi (dC, dI) (tM kc) (wM ad kc) A r τ) args s 0 0 A) (F0 m 40 ls [.ref (ad 0)]) := by
  have hx := S.1
  have hb := S.2.1
  have hown := S.2.2.2.1
  have hu := S.2.2.2.2
  unfold f_X12_bit_b40 at hg
  refine lv_iconst (v := 3) hx hb dX12_bit_40 (by decide) ?_
  refine lv_goto (tgt := 45) hx hb dX12_bit_41 (by decide) ?_
  exact w_X12_bit_b45 S hr hk hR X (lv_sub hl [0, 1, 2] rfl) hg
set_option maxHeartbeats 4000000 in
set_option maxRecDepth 100000 in
theorem w_X12_bit {σ : S5} {a1 : Int32} {a2 : Int32} {H : Heap} {locs : List Loc} {ls : Array Slot} (S : CallFix p m c cX12_bit 3 s args uG RX12) (hr : meth.sig.returnType = (some .int)) (hk : meth.locks = false) (hR : 1 ≤ R.frames ∧ 22 ≤ R.locals)
    (X : gX (dC, dI) (tM kc) (wM ad kc) Z A s σ H locs) (hl : lv_has ls 3 [(0, .ref (ad 0)), (1, .int a1), (2, .int a2)]) (hg : f_X12_bit a1 a2 σ = some (r, τ)) : W p l e R s m args below meth c H locs 0 0 (MQ below (gQi (dC, dI) (tM kc) (wM ad kc) A r τ) args s 0 0 A) (F0 m 0 ls []) := by
  have hx := S.1
  have hb := S.2.1
  have hown := S.2.2.2.1
  have hu := S.2.2.2.2
  unfold f_X12_bit at hg
  refine lv_aload_n hx hb dX12_bit_0 rfl (lv_at hl 0 rfl) ?_
  refine lv_aload_n hx hb dX12_bit_1 rfl (lv_at hl 0 rfl) ?_
  refine lv_iload_n hx hb dX12_bit_2 rfl (lv_at hl 1 rfl) ?_
  obtain ⟨r3, τ3, hq3, hg⟩ := bd_some hg
  refine gc_Vi (As := [.int a1]) (rest := [.ref (ad 0)]) (q0 := 0) (ci := 15) S X (k2_X12_codeOf l dC dI ad kc hq3 H.size) cw_X12_codeOf mG_2967 rfl rfl rfl rfl rfl hl.1 (Nat.le_of_ble_eq_true rfl) dX12_bit_3 ⟨by omega, by omega⟩ (fun H locs X => ?_)
  refine wmpI_0 S X mG_2050 dX12_bit_6 (fun H locs X => ?_)
  refine lv_aload_n hx hb dX12_bit_9 rfl (lv_at hl 0 rfl) ?_
  refine lv_aload_n hx hb dX12_bit_10 rfl (lv_at hl 0 rfl) ?_
  refine wmgI_0 (v := r3) S X mG_2050 rfl dX12_bit_11 ?_
  refine lv_if_le (tgt := 24) hx hb dX12_bit_14 (by decide) (fun c14 => ?_) (fun c14 => ?_)
  · have hg := (if_pos c14).symm.trans hg
    refine lv_iload_n hx hb dX12_bit_24 rfl (lv_at hl 2 rfl) ?_
    refine lv_if_lt (tgt := 40) hx hb dX12_bit_25 (by decide) (fun c25 => ?_) (fun c25 => ?_)
    · have hg := (if_pos c25).symm.trans hg
      exact w_X12_bit_b40 S hr hk hR X (lv_sub hl [0, 1, 2] rfl) hg
    · have hg := (if_neg c25).symm.trans hg
      refine lv_iload_n hx hb dX12_bit_28 rfl (lv_at hl 2 rfl) ?_
      refine lv_iconst (v := 1) hx hb dX12_bit_29 (by decide) ?_
      refine lv_aload_n hx hb dX12_bit_30 rfl (lv_at hl 0 rfl) ?_
      refine wmgR_0_82 S X mG_2132 dX12_bit_31 ?_
      refine lv_iload_n hx hb dX12_bit_34 rfl (lv_at hl 1 rfl) ?_
      obtain ⟨hi35, hg⟩ := gd_some hg
      refine wmlA_47 (v := (xA τ3 47 a1)) S X hi35 rfl dX12_bit_35 ?_
      refine lv_ishl hx hb dX12_bit_36 ?_
      refine lv_icmp_lt (tgt := 44) hx hb dX12_bit_37 (by decide) (fun c37 => ?_) (fun c37 => ?_)
      · have hg := (if_pos c37).symm.trans hg
        refine lv_iconst (v := 0) hx hb dX12_bit_44 (by decide) ?_
        exact w_X12_bit_b45 S hr hk hR X (lv_sub hl [0, 1, 2] rfl) hg
      · have hg := (if_neg c37).symm.trans hg
        exact w_X12_bit_b40 S hr hk hR X (lv_sub hl [0, 1, 2] rfl) hg
  · have hg := (if_neg c14).symm.trans hg
    refine lv_aload_n hx hb dX12_bit_17 rfl (lv_at hl 0 rfl) ?_
    refine wmgI_0 (v := r3) S X mG_2050 rfl dX12_bit_18 ?_
    refine lv_goto (tgt := 45) hx hb dX12_bit_21 (by decide) ?_
    exact w_X12_bit_b45 S hr hk hR X (lv_sub hl [0, 1, 2] rfl) hg
end MX12_bit
set_option maxRecDepth 100000 in
theorem k2_X12_bit (l : Launch) (dC : Nat → ClassId) (dI : Nat → Nat → Nat) {Z : ZZ} (ad : Nat → Nat) (kc : Nat → ClassId) {σ τ : S5} {a1 : Int32} {a2 : Int32} {r : Int32} (hg : f_X12_bit a1 a2 σ = some (r, τ)) (sz : Nat) : Met l yX12_bit (Cond.code yX12_bit cX12_bit 3 (some .int) :: uG) { frames := 1, cells := 0, slots := 0, locals := 22 } (gPc (dC, dI) (tM kc) (wM ad kc) Z [.ref (ad 0), .int a1, .int a2] σ sz) (gQi (dC, dI) (tM kc) (wM ad kc) (va_A (wM ad kc σ) sz) r τ) 0 0 (va_A (wM ad kc σ) sz) :=
  g_start (by decide) (Nat.le_of_ble_eq_true rfl) (fun p e s m below meth c ls S hr hk X hl => w_X12_bit S hr hk ⟨Nat.le_refl _, Nat.le_refl _⟩ X hl hg)
section MX12_result
variable {p : Program} {l : Launch} {e : Env} {R : Room} {s : State} {m : MethodId} {args : Array Value} {below : List Frame} {meth : Method} {c : Code} {dC : Nat → ClassId} {dI : Nat → Nat → Nat} {Z : ZZ} {A : Nat → Prop} {ad : Nat → Nat} {kc : Nat → ClassId} {r : Int32} {τ : S5}
set_option maxHeartbeats 4000000 in
set_option maxRecDepth 100000 in
theorem w_X12_result_b16 {σ : S5} {v1 : Int32} {u0 : Int32} {H : Heap} {locs : List Loc} {ls : Array Slot} (S : CallFix p m c cX12_result 2 s args uG RX12) (hr : meth.sig.returnType = (some .int)) (hk : meth.locks = false) (hR : 0 ≤ R.frames ∧ 0 ≤ R.locals)
    (X : gX (dC, dI) (tM kc) (wM ad kc) Z A s σ H locs) (hl : lv_has ls 2 [(0, .ref (ad 0)), (1, .int v1)]) (hg : f_X12_result_b16 v1 u0 σ = some (r, τ)) : W p l e R s m args below meth c H locs 0 0 (MQ below (gQi (dC, dI) (tM kc) (wM ad kc) A r τ) args s 0 0 A) (F0 m 16 ls [.int u0, .ref (ad 0)]) := by
  have hx := S.1
  have hb := S.2.1
  have hown := S.2.2.2.1
  have hu := S.2.2.2.2
  unfold f_X12_result_b16 at hg
  refine wmpI_0 S X mG_2050 dX12_result_16 (fun H locs X => ?_)
  refine lv_iload_n hx hb dX12_result_19 rfl (lv_at hl 1 rfl) ?_
  rcases sw_0_8 (v1) with hsw | hsw | hsw | hsw | hsw | hsw | hsw | hsw | hsw | hsw
  · refine lv_tableOut (tgt := 117) hx hb dX12_result_20 hsw (by decide) ?_
    obtain ⟨hs0, hs1, hs2, hs3, hs4, hs5, hs6, hs7, hs8⟩ := swo_0_8 hsw
    have hg := (if_neg hs0).symm.trans hg
    have hg := (if_neg hs1).symm.trans hg
    have hg := (if_neg hs2).symm.trans hg
    have hg := (if_neg hs3).symm.trans hg
    have hg := (if_neg hs4).symm.trans hg
    have hg := (if_neg hs5).symm.trans hg
    have hg := (if_neg hs6).symm.trans hg
    have hg := (if_neg hs7).symm.trans hg
    have hg := (if_neg hs8).symm.trans hg
    refine lv_aload_n hx hb dX12_result_117 rfl (lv_at hl 0 rfl) ?_
    refine wmgI_0 (v := u0) S X mG_2050 rfl dX12_result_118 ?_
    refine lv_if_le (tgt := 128) hx hb dX12_result_121 (by decide) (fun c121 => ?_) (fun c121 => ?_)
    · have hg := (if_pos c121).symm.trans hg
      refine lv_aload_n hx hb dX12_result_128 rfl (lv_at hl 0 rfl) ?_
      refine wmgI_46 (v := (gI σ 46)) S X mG_2163 rfl dX12_result_129 ?_
      obtain ⟨rfl, rfl⟩ := fin_some hg
      exact gr_i S hr hk X dX12_result_132
    · have hg := (if_neg c121).symm.trans hg
      refine lv_iconst (v := 0) hx hb dX12_result_124 (by decide) ?_
      refine lv_goto (tgt := 132) hx hb dX12_result_125 (by decide) ?_
      obtain ⟨rfl, rfl⟩ := fin_some hg
      exact gr_i S hr hk X dX12_result_132
  · refine lv_tableIn (off := 52) (tgt := 72) hx hb dX12_result_20 (by rw [hsw]; decide) (by rw [hsw]; decide) (by rw [hsw]; decide) (by decide) ?_
    have hg := (if_pos hsw).symm.trans hg
    refine lv_aload_n hx hb dX12_result_72 rfl (lv_at hl 0 rfl) ?_
    refine wmgI_44 (v := (gI σ 44)) S X mG_2161 rfl dX12_result_73 ?_
    obtain ⟨rfl, rfl⟩ := fin_some hg
    exact gr_i S hr hk X dX12_result_76
  · refine lv_tableIn (off := 57) (tgt := 77) hx hb dX12_result_20 (by rw [hsw]; decide) (by rw [hsw]; decide) (by rw [hsw]; decide) (by decide) ?_
    have hg := (if_neg (by rw [hsw]; decide)).symm.trans hg
    have hg := (if_pos hsw).symm.trans hg
    refine lv_aload_n hx hb dX12_result_77 rfl (lv_at hl 0 rfl) ?_
    refine wmgI_45 (v := (gI σ 45)) S X mG_2162 rfl dX12_result_78 ?_
    obtain ⟨rfl, rfl⟩ := fin_some hg
    exact gr_i S hr hk X dX12_result_81
  · refine lv_tableIn (off := 62) (tgt := 82) hx hb dX12_result_20 (by rw [hsw]; decide) (by rw [hsw]; decide) (by rw [hsw]; decide) (by decide) ?_
    have hg := (if_neg (by rw [hsw]; decide)).symm.trans hg
    have hg := (if_neg (by rw [hsw]; decide)).symm.trans hg
    have hg := (if_pos hsw).symm.trans hg
    refine lv_aload_n hx hb dX12_result_82 rfl (lv_at hl 0 rfl) ?_
    refine wmgI_38 (v := (gI σ 38)) S X mG_2154 rfl dX12_result_83 ?_
    obtain ⟨rfl, rfl⟩ := fin_some hg
    exact gr_i S hr hk X dX12_result_86
  · refine lv_tableIn (off := 67) (tgt := 87) hx hb dX12_result_20 (by rw [hsw]; decide) (by rw [hsw]; decide) (by rw [hsw]; decide) (by decide) ?_
    have hg := (if_neg (by rw [hsw]; decide)).symm.trans hg
    have hg := (if_neg (by rw [hsw]; decide)).symm.trans hg
    have hg := (if_neg (by rw [hsw]; decide)).symm.trans hg
    have hg := (if_pos hsw).symm.trans hg
    refine lv_aload_n hx hb dX12_result_87 rfl (lv_at hl 0 rfl) ?_
    refine wmgI_34 (v := (gI σ 34)) S X mG_2150 rfl dX12_result_88 ?_
    obtain ⟨rfl, rfl⟩ := fin_some hg
    exact gr_i S hr hk X dX12_result_91
  · refine lv_tableIn (off := 72) (tgt := 92) hx hb dX12_result_20 (by rw [hsw]; decide) (by rw [hsw]; decide) (by rw [hsw]; decide) (by decide) ?_
    have hg := (if_neg (by rw [hsw]; decide)).symm.trans hg
    have hg := (if_neg (by rw [hsw]; decide)).symm.trans hg
    have hg := (if_neg (by rw [hsw]; decide)).symm.trans hg
    have hg := (if_neg (by rw [hsw]; decide)).symm.trans hg
    have hg := (if_pos hsw).symm.trans hg
    refine lv_aload_n hx hb dX12_result_92 rfl (lv_at hl 0 rfl) ?_
    refine wmgI_39 (v := (gI σ 39)) S X mG_2155 rfl dX12_result_93 ?_
    obtain ⟨rfl, rfl⟩ := fin_some hg
    exact gr_i S hr hk X dX12_result_96
  · refine lv_tableIn (off := 77) (tgt := 97) hx hb dX12_result_20 (by rw [hsw]; decide) (by rw [hsw]; decide) (by rw [hsw]; decide) (by decide) ?_
    have hg := (if_neg (by rw [hsw]; decide)).symm.trans hg
    have hg := (if_neg (by rw [hsw]; decide)).symm.trans hg
    have hg := (if_neg (by rw [hsw]; decide)).symm.trans hg
    have hg := (if_neg (by rw [hsw]; decide)).symm.trans hg
    have hg := (if_neg (by rw [hsw]; decide)).symm.trans hg
    have hg := (if_pos hsw).symm.trans hg
    refine lv_aload_n hx hb dX12_result_97 rfl (lv_at hl 0 rfl) ?_
    refine wmgI_40 (v := (gI σ 40)) S X mG_2156 rfl dX12_result_98 ?_
    obtain ⟨rfl, rfl⟩ := fin_some hg
    exact gr_i S hr hk X dX12_result_101
  · refine lv_tableIn (off := 82) (tgt := 102) hx hb dX12_result_20 (by rw [hsw]; decide) (by rw [hsw]; decide) (by rw [hsw]; decide) (by decide) ?_
    have hg := (if_neg (by rw [hsw]; decide)).symm.trans hg
    have hg := (if_neg (by rw [hsw]; decide)).symm.trans hg
    have hg := (if_neg (by rw [hsw]; decide)).symm.trans hg
    have hg := (if_neg (by rw [hsw]; decide)).symm.trans hg
    have hg := (if_neg (by rw [hsw]; decide)).symm.trans hg
    have hg := (if_neg (by rw [hsw]; decide)).symm.trans hg
    have hg := (if_pos hsw).symm.trans hg
    refine lv_aload_n hx hb dX12_result_102 rfl (lv_at hl 0 rfl) ?_
    refine wmgI_41 (v := (gI σ 41)) S X mG_2157 rfl dX12_result_103 ?_
    obtain ⟨rfl, rfl⟩ := fin_some hg
    exact gr_i S hr hk X dX12_result_106
  · refine lv_tableIn (off := 87) (tgt := 107) hx hb dX12_result_20 (by rw [hsw]; decide) (by rw [hsw]; decide) (by rw [hsw]; decide) (by decide) ?_
    have hg := (if_neg (by rw [hsw]; decide)).symm.trans hg
    have hg := (if_neg (by rw [hsw]; decide)).symm.trans hg
    have hg := (if_neg (by rw [hsw]; decide)).symm.trans hg
    have hg := (if_neg (by rw [hsw]; decide)).symm.trans hg
    have hg := (if_neg (by rw [hsw]; decide)).symm.trans hg
    have hg := (if_neg (by rw [hsw]; decide)).symm.trans hg
    have hg := (if_neg (by rw [hsw]; decide)).symm.trans hg
    have hg := (if_pos hsw).symm.trans hg
    refine lv_aload_n hx hb dX12_result_107 rfl (lv_at hl 0 rfl) ?_
    refine wmgI_42 (v := (gI σ 42)) S X mG_2158 rfl dX12_result_108 ?_
    obtain ⟨rfl, rfl⟩ := fin_some hg
    exact gr_i S hr hk X dX12_result_111
  · refine lv_tableIn (off := 92) (tgt := 112) hx hb dX12_result_20 (by rw [hsw]; decide) (by rw [hsw]; decide) (by rw [hsw]; decide) (by decide) ?_
    have hg := (if_neg (by rw [hsw]; decide)).symm.trans hg
    have hg := (if_neg (by rw [hsw]; decide)).symm.trans hg
    have hg := (if_neg (by rw [hsw]; decide)).symm.trans hg
    have hg := (if_neg (by rw [hsw]; decide)).symm.trans hg
    have hg := (if_neg (by rw [hsw]; decide)).symm.trans hg
    have hg := (if_neg (by rw [hsw]; decide)).symm.trans hg
    have hg := (if_neg (by rw [hsw]; decide)).symm.trans hg
    have hg := (if_neg (by rw [hsw]; decide)).symm.trans hg
    have hg := (if_pos hsw).symm.trans hg
    refine lv_aload_n hx hb dX12_result_112 rfl (lv_at hl 0 rfl) ?_
    refine wmgI_43 (v := (gI σ 43)) S X mG_2159 rfl dX12_result_113 ?_
    obtain ⟨rfl, rfl⟩ := fin_some hg
    exact gr_i S hr hk X dX12_result_116
set_option maxHeartbeats 4000000 in
set_option maxRecDepth 100000 in
theorem w_X12_result_b11 {σ : S5} {v1 : Int32} {H : Heap} {locs : List Loc} {ls : Array Slot} (S : CallFix p m c cX12_result 2 s args uG RX12) (hr : meth.sig.returnType = (some .int)) (hk : meth.locks = false) (hR : 0 ≤ R.frames ∧ 0 ≤ R.locals)
    (X : gX (dC, dI) (tM kc) (wM ad kc) Z A s σ H locs) (hl : lv_has ls 2 [(0, .ref (ad 0)), (1, .int v1)]) (hg : f_X12_result_b11 v1 σ = some (r, τ)) : W p l e R s m args below meth c H locs 0 0 (MQ below (gQi (dC, dI) (tM kc) (wM ad kc) A r τ) args s 0 0 A) (F0 m 11 ls [.ref (ad 0)]) := by
  have hx := S.1
  have hb := S.2.1
  have hown := S.2.2.2.1
  have hu := S.2.2.2.2
  unfold f_X12_result_b11 at hg
  refine lv_iconst (v := 1) hx hb dX12_result_11 (by decide) ?_
  refine lv_goto (tgt := 16) hx hb dX12_result_12 (by decide) ?_
  exact w_X12_result_b16 S hr hk hR X (lv_sub hl [0, 1] rfl) hg
set_option maxHeartbeats 4000000 in
set_option maxRecDepth 100000 in
theorem w_X12_result {σ : S5} {a1 : Int32} {H : Heap} {locs : List Loc} {ls : Array Slot} (S : CallFix p m c cX12_result 2 s args uG RX12) (hr : meth.sig.returnType = (some .int)) (hk : meth.locks = false) (hR : 0 ≤ R.frames ∧ 0 ≤ R.locals)
    (X : gX (dC, dI) (tM kc) (wM ad kc) Z A s σ H locs) (hl : lv_has ls 2 [(0, .ref (ad 0)), (1, .int a1)]) (hg : f_X12_result a1 σ = some (r, τ)) : W p l e R s m args below meth c H locs 0 0 (MQ below (gQi (dC, dI) (tM kc) (wM ad kc) A r τ) args s 0 0 A) (F0 m 0 ls []) := by
  have hx := S.1
  have hb := S.2.1
  have hown := S.2.2.2.1
  have hu := S.2.2.2.2
  unfold f_X12_result at hg
  refine lv_aload_n hx hb dX12_result_0 rfl (lv_at hl 0 rfl) ?_
  refine lv_iload_n hx hb dX12_result_1 rfl (lv_at hl 1 rfl) ?_
  refine lv_if_lt (tgt := 11) hx hb dX12_result_2 (by decide) (fun c2 => ?_) (fun c2 => ?_)
  · have hg := (if_pos c2).symm.trans hg
    exact w_X12_result_b11 S hr hk hR X (lv_sub hl [0, 1] rfl) hg
  · have hg := (if_neg c2).symm.trans hg
    refine lv_iload_n hx hb dX12_result_5 rfl (lv_at hl 1 rfl) ?_
    refine lv_bipush (v := 9) hx hb dX12_result_6 (by decide) ?_
    refine lv_icmp_le (tgt := 15) hx hb dX12_result_8 (by decide) (fun c8 => ?_) (fun c8 => ?_)
    · have hg := (if_pos c8).symm.trans hg
      refine lv_iconst (v := 0) hx hb dX12_result_15 (by decide) ?_
      exact w_X12_result_b16 S hr hk hR X (lv_sub hl [0, 1] rfl) hg
    · have hg := (if_neg c8).symm.trans hg
      exact w_X12_result_b11 S hr hk hR X (lv_sub hl [0, 1] rfl) hg
end MX12_result
set_option maxRecDepth 100000 in
theorem k2_X12_result (l : Launch) (dC : Nat → ClassId) (dI : Nat → Nat → Nat) {Z : ZZ} (ad : Nat → Nat) (kc : Nat → ClassId) {σ τ : S5} {a1 : Int32} {r : Int32} (hg : f_X12_result a1 σ = some (r, τ)) (sz : Nat) : Met l yX12_result (Cond.code yX12_result cX12_result 2 (some .int) :: uG) { frames := 0, cells := 0, slots := 0, locals := 0 } (gPc (dC, dI) (tM kc) (wM ad kc) Z [.ref (ad 0), .int a1] σ sz) (gQi (dC, dI) (tM kc) (wM ad kc) (va_A (wM ad kc σ) sz) r τ) 0 0 (va_A (wM ad kc σ) sz) :=
  g_start (by decide) (Nat.le_of_ble_eq_true rfl) (fun p e s m below meth c ls S hr hk X hl => w_X12_result S hr hk ⟨Nat.le_refl _, Nat.le_refl _⟩ X hl hg)
section MX12_number
variable {p : Program} {l : Launch} {e : Env} {R : Room} {s : State} {m : MethodId} {args : Array Value} {below : List Frame} {meth : Method} {c : Code} {dC : Nat → ClassId} {dI : Nat → Nat → Nat} {Z : ZZ} {A : Nat → Prop} {ad : Nat → Nat} {kc : Nat → ClassId} {r : Int32} {τ : S5}
set_option maxHeartbeats 4000000 in
set_option maxRecDepth 100000 in
theorem w_X12_number_b18 {σ : S5} {v1 : Int32} {u0 : Int32} {H : Heap} {locs : List Loc} {ls : Array Slot} (S : CallFix p m c cX12_number 2 s args uG RX12) (hr : meth.sig.returnType = (some .int)) (hk : meth.locks = false) (hR : 0 ≤ R.frames ∧ 0 ≤ R.locals)
    (X : gX (dC, dI) (tM kc) (wM ad kc) Z A s σ H locs) (hl : lv_has ls 2 [(0, .ref (ad 0)), (1, .int v1)]) (hg : f_X12_number_b18 v1 u0 σ = some (r, τ)) : W p l e R s m args below meth c H locs 0 0 (MQ below (gQi (dC, dI) (tM kc) (wM ad kc) A r τ) args s 0 0 A) (F0 m 18 ls [.int u0, .ref (ad 0)]) := by
  have hx := S.1
  have hb := S.2.1
  have hown := S.2.2.2.1
  have hu := S.2.2.2.2
  unfold f_X12_number_b18 at hg
  refine wmpI_0 S X mG_2050 dX12_number_18 (fun H locs X => ?_)
  refine lv_aload_n hx hb dX12_number_21 rfl (lv_at hl 0 rfl) ?_
  refine wmgI_0 (v := u0) S X mG_2050 rfl dX12_number_22 ?_
  refine lv_if_le (tgt := 32) hx hb dX12_number_25 (by decide) (fun c25 => ?_) (fun c25 => ?_)
  · have hg := (if_pos c25).symm.trans hg
    refine lv_aload_n hx hb dX12_number_32 rfl (lv_at hl 0 rfl) ?_
    refine wmgR_0_114 S X mG_2164 dX12_number_33 ?_
    refine lv_iload_n hx hb dX12_number_36 rfl (lv_at hl 1 rfl) ?_
    obtain ⟨hi37, hg⟩ := gd_some hg
    refine wmlA_58 (v := (xA σ 58 v1)) S X hi37 rfl dX12_number_37 ?_
    obtain ⟨rfl, rfl⟩ := fin_some hg
    exact gr_i S hr hk X dX12_number_38
  · have hg := (if_neg c25).symm.trans hg
    refine lv_iconst (v := 0) hx hb dX12_number_28 (by decide) ?_
    refine lv_goto (tgt := 38) hx hb dX12_number_29 (by decide) ?_
    obtain ⟨rfl, rfl⟩ := fin_some hg
    exact gr_i S hr hk X dX12_number_38
set_option maxHeartbeats 4000000 in
set_option maxRecDepth 100000 in
theorem w_X12_number_b13 {σ : S5} {v1 : Int32} {H : Heap} {locs : List Loc} {ls : Array Slot} (S : CallFix p m c cX12_number 2 s args uG RX12) (hr : meth.sig.returnType = (some .int)) (hk : meth.locks = false) (hR : 0 ≤ R.frames ∧ 0 ≤ R.locals)
    (X : gX (dC, dI) (tM kc) (wM ad kc) Z A s σ H locs) (hl : lv_has ls 2 [(0, .ref (ad 0)), (1, .int v1)]) (hg : f_X12_number_b13 v1 σ = some (r, τ)) : W p l e R s m args below meth c H locs 0 0 (MQ below (gQi (dC, dI) (tM kc) (wM ad kc) A r τ) args s 0 0 A) (F0 m 13 ls [.ref (ad 0)]) := by
  have hx := S.1
  have hb := S.2.1
  have hown := S.2.2.2.1
  have hu := S.2.2.2.2
  unfold f_X12_number_b13 at hg
  refine lv_iconst (v := 1) hx hb dX12_number_13 (by decide) ?_
  refine lv_goto (tgt := 18) hx hb dX12_number_14 (by decide) ?_
  exact w_X12_number_b18 S hr hk hR X (lv_sub hl [0, 1] rfl) hg
set_option maxHeartbeats 4000000 in
set_option maxRecDepth 100000 in
theorem w_X12_number {σ : S5} {a1 : Int32} {H : Heap} {locs : List Loc} {ls : Array Slot} (S : CallFix p m c cX12_number 2 s args uG RX12) (hr : meth.sig.returnType = (some .int)) (hk : meth.locks = false) (hR : 0 ≤ R.frames ∧ 0 ≤ R.locals)
    (X : gX (dC, dI) (tM kc) (wM ad kc) Z A s σ H locs) (hl : lv_has ls 2 [(0, .ref (ad 0)), (1, .int a1)]) (hg : f_X12_number a1 σ = some (r, τ)) : W p l e R s m args below meth c H locs 0 0 (MQ below (gQi (dC, dI) (tM kc) (wM ad kc) A r τ) args s 0 0 A) (F0 m 0 ls []) := by
  have hx := S.1
  have hb := S.2.1
  have hown := S.2.2.2.1
  have hu := S.2.2.2.2
  unfold f_X12_number at hg
  refine lv_aload_n hx hb dX12_number_0 rfl (lv_at hl 0 rfl) ?_
  refine lv_iload_n hx hb dX12_number_1 rfl (lv_at hl 1 rfl) ?_
  refine lv_if_lt (tgt := 13) hx hb dX12_number_2 (by decide) (fun c2 => ?_) (fun c2 => ?_)
  · have hg := (if_pos c2).symm.trans hg
    exact w_X12_number_b13 S hr hk hR X (lv_sub hl [0, 1] rfl) hg
  · have hg := (if_neg c2).symm.trans hg
    refine lv_iload_n hx hb dX12_number_5 rfl (lv_at hl 1 rfl) ?_
    refine lv_aload_n hx hb dX12_number_6 rfl (lv_at hl 0 rfl) ?_
    refine wmgI_46 (v := (gI σ 46)) S X mG_2163 rfl dX12_number_7 ?_
    refine lv_icmp_lt (tgt := 17) hx hb dX12_number_10 (by decide) (fun c10 => ?_) (fun c10 => ?_)
    · have hg := (if_pos c10).symm.trans hg
      refine lv_iconst (v := 0) hx hb dX12_number_17 (by decide) ?_
      exact w_X12_number_b18 S hr hk hR X (lv_sub hl [0, 1] rfl) hg
    · have hg := (if_neg c10).symm.trans hg
      exact w_X12_number_b13 S hr hk hR X (lv_sub hl [0, 1] rfl) hg
end MX12_number
set_option maxRecDepth 100000 in
theorem k2_X12_number (l : Launch) (dC : Nat → ClassId) (dI : Nat → Nat → Nat) {Z : ZZ} (ad : Nat → Nat) (kc : Nat → ClassId) {σ τ : S5} {a1 : Int32} {r : Int32} (hg : f_X12_number a1 σ = some (r, τ)) (sz : Nat) : Met l yX12_number (Cond.code yX12_number cX12_number 2 (some .int) :: uG) { frames := 0, cells := 0, slots := 0, locals := 0 } (gPc (dC, dI) (tM kc) (wM ad kc) Z [.ref (ad 0), .int a1] σ sz) (gQi (dC, dI) (tM kc) (wM ad kc) (va_A (wM ad kc σ) sz) r τ) 0 0 (va_A (wM ad kc σ) sz) :=
  g_start (by decide) (Nat.le_of_ble_eq_true rfl) (fun p e s m below meth c ls S hr hk X hl => w_X12_number S hr hk ⟨Nat.le_refl _, Nat.le_refl _⟩ X hl hg)
section MX12_called
variable {p : Program} {l : Launch} {e : Env} {R : Room} {s : State} {m : MethodId} {args : Array Value} {below : List Frame} {meth : Method} {c : Code} {dC : Nat → ClassId} {dI : Nat → Nat → Nat} {Z : ZZ} {A : Nat → Prop} {ad : Nat → Nat} {kc : Nat → ClassId} {r : Int32} {τ : S5}
set_option maxHeartbeats 4000000 in
set_option maxRecDepth 100000 in
theorem w_X12_called {σ : S5} {a1 : Int32} {H : Heap} {locs : List Loc} {ls : Array Slot} (S : CallFix p m c cX12_called 2 s args uG RX12) (hr : meth.sig.returnType = (some .int)) (hk : meth.locks = false) (hR : 1 ≤ R.frames ∧ 21 ≤ R.locals)
    (X : gX (dC, dI) (tM kc) (wM ad kc) Z A s σ H locs) (hl : lv_has ls 2 [(0, .ref (ad 0)), (1, .int a1)]) (hg : f_X12_called a1 σ = some (r, τ)) : W p l e R s m args below meth c H locs 0 0 (MQ below (gQi (dC, dI) (tM kc) (wM ad kc) A r τ) args s 0 0 A) (F0 m 0 ls []) := by
  have hx := S.1
  have hb := S.2.1
  have hown := S.2.2.2.1
  have hu := S.2.2.2.2
  unfold f_X12_called at hg
  refine lv_aload_n hx hb dX12_called_0 rfl (lv_at hl 0 rfl) ?_
  refine lv_aload_n hx hb dX12_called_1 rfl (lv_at hl 0 rfl) ?_
  refine lv_iload_n hx hb dX12_called_2 rfl (lv_at hl 1 rfl) ?_
  obtain ⟨r3, τ3, hq3, hg⟩ := bd_some hg
  refine gc_Vi (As := [.int a1]) (rest := [.ref (ad 0)]) (q0 := 0) (ci := 15) S X (k2_X12_codeOf l dC dI ad kc hq3 H.size) cw_X12_codeOf mG_2967 rfl rfl rfl rfl rfl hl.1 (Nat.le_of_ble_eq_true rfl) dX12_called_3 ⟨by omega, by omega⟩ (fun H locs X => ?_)
  refine wmpI_0 S X mG_2050 dX12_called_6 (fun H locs X => ?_)
  refine lv_aload_n hx hb dX12_called_9 rfl (lv_at hl 0 rfl) ?_
  refine wmgI_0 (v := r3) S X mG_2050 rfl dX12_called_10 ?_
  refine lv_if_le (tgt := 20) hx hb dX12_called_13 (by decide) (fun c13 => ?_) (fun c13 => ?_)
  · have hg := (if_pos c13).symm.trans hg
    refine lv_aload_n hx hb dX12_called_20 rfl (lv_at hl 0 rfl) ?_
    refine wmgR_0_110 S X mG_2160 dX12_called_21 ?_
    refine lv_iload_n hx hb dX12_called_24 rfl (lv_at hl 1 rfl) ?_
    obtain ⟨hi25, hg⟩ := gd_some hg
    refine wmlA_57 (v := (xA τ3 57 a1)) S X hi25 rfl dX12_called_25 ?_
    obtain ⟨rfl, rfl⟩ := fin_some hg
    exact gr_i S hr hk X dX12_called_26
  · have hg := (if_neg c13).symm.trans hg
    refine lv_iconst (v := 0) hx hb dX12_called_16 (by decide) ?_
    refine lv_goto (tgt := 26) hx hb dX12_called_17 (by decide) ?_
    obtain ⟨rfl, rfl⟩ := fin_some hg
    exact gr_i S hr hk X dX12_called_26
end MX12_called
set_option maxRecDepth 100000 in
theorem k2_X12_called (l : Launch) (dC : Nat → ClassId) (dI : Nat → Nat → Nat) {Z : ZZ} (ad : Nat → Nat) (kc : Nat → ClassId) {σ τ : S5} {a1 : Int32} {r : Int32} (hg : f_X12_called a1 σ = some (r, τ)) (sz : Nat) : Met l yX12_called (Cond.code yX12_called cX12_called 2 (some .int) :: uG) { frames := 1, cells := 0, slots := 0, locals := 21 } (gPc (dC, dI) (tM kc) (wM ad kc) Z [.ref (ad 0), .int a1] σ sz) (gQi (dC, dI) (tM kc) (wM ad kc) (va_A (wM ad kc σ) sz) r τ) 0 0 (va_A (wM ad kc σ) sz) :=
  g_start (by decide) (Nat.le_of_ble_eq_true rfl) (fun p e s m below meth c ls S hr hk X hl => w_X12_called S hr hk ⟨Nat.le_refl _, Nat.le_refl _⟩ X hl hg)
section MX12_about
variable {p : Program} {l : Launch} {e : Env} {R : Room} {s : State} {m : MethodId} {args : Array Value} {below : List Frame} {meth : Method} {c : Code} {dC : Nat → ClassId} {dI : Nat → Nat → Nat} {Z : ZZ} {A : Nat → Prop} {ad : Nat → Nat} {kc : Nat → ClassId} {r : Int32} {τ : S5}
set_option maxHeartbeats 4000000 in
set_option maxRecDepth 100000 in
theorem w_X12_about_b16 {σ : S5} {v1 : Int32} {u0 : Int32} {H : Heap} {locs : List Loc} {ls : Array Slot} (S : CallFix p m c cX12_about 2 s args uG RX12) (hr : meth.sig.returnType = (some .int)) (hk : meth.locks = false) (hR : 0 ≤ R.frames ∧ 0 ≤ R.locals)
    (X : gX (dC, dI) (tM kc) (wM ad kc) Z A s σ H locs) (hl : lv_has ls 2 [(0, .ref (ad 0)), (1, .int v1)]) (hg : f_X12_about_b16 v1 u0 σ = some (r, τ)) : W p l e R s m args below meth c H locs 0 0 (MQ below (gQi (dC, dI) (tM kc) (wM ad kc) A r τ) args s 0 0 A) (F0 m 16 ls [.int u0, .ref (ad 0)]) := by
  have hx := S.1
  have hb := S.2.1
  have hown := S.2.2.2.1
  have hu := S.2.2.2.2
  unfold f_X12_about_b16 at hg
  refine wmpI_0 S X mG_2050 dX12_about_16 (fun H locs X => ?_)
  refine lv_iload_n hx hb dX12_about_19 rfl (lv_at hl 1 rfl) ?_
  rcases sw_0_6 (v1) with hsw | hsw | hsw | hsw | hsw | hsw | hsw | hsw
  · refine lv_tableOut (tgt := 132) hx hb dX12_about_20 hsw (by decide) ?_
    obtain ⟨hs0, hs1, hs2, hs3, hs4, hs5, hs6⟩ := swo_0_6 hsw
    have hg := (if_neg hs0).symm.trans hg
    have hg := (if_neg hs1).symm.trans hg
    have hg := (if_neg hs2).symm.trans hg
    have hg := (if_neg hs3).symm.trans hg
    have hg := (if_neg hs4).symm.trans hg
    have hg := (if_neg hs5).symm.trans hg
    have hg := (if_neg hs6).symm.trans hg
    refine lv_iconst (v := 0) hx hb dX12_about_132 (by decide) ?_
    obtain ⟨rfl, rfl⟩ := fin_some hg
    exact gr_i S hr hk X dX12_about_133
  · refine lv_tableIn (off := 44) (tgt := 64) hx hb dX12_about_20 (by rw [hsw]; decide) (by rw [hsw]; decide) (by rw [hsw]; decide) (by decide) ?_
    have hg := (if_pos hsw).symm.trans hg
    refine lv_aload_n hx hb dX12_about_64 rfl (lv_at hl 0 rfl) ?_
    refine wmgI_29 (v := (gI σ 29)) S X mG_2138 rfl dX12_about_65 ?_
    refine lv_if_eq (tgt := 78) hx hb dX12_about_68 (by decide) (fun c68 => ?_) (fun c68 => ?_)
    · have hg := (if_pos c68).symm.trans hg
      refine lv_iconst (v := 0) hx hb dX12_about_78 (by decide) ?_
      obtain ⟨rfl, rfl⟩ := fin_some hg
      exact gr_i S hr hk X dX12_about_79
    · have hg := (if_neg c68).symm.trans hg
      refine lv_aload_n hx hb dX12_about_71 rfl (lv_at hl 0 rfl) ?_
      refine wmgI_22 (v := (gI σ 22)) S X mG_2096 rfl dX12_about_72 ?_
      refine lv_goto (tgt := 79) hx hb dX12_about_75 (by decide) ?_
      obtain ⟨rfl, rfl⟩ := fin_some hg
      exact gr_i S hr hk X dX12_about_79
  · refine lv_tableIn (off := 60) (tgt := 80) hx hb dX12_about_20 (by rw [hsw]; decide) (by rw [hsw]; decide) (by rw [hsw]; decide) (by decide) ?_
    have hg := (if_neg (by rw [hsw]; decide)).symm.trans hg
    have hg := (if_pos hsw).symm.trans hg
    refine lv_aload_n hx hb dX12_about_80 rfl (lv_at hl 0 rfl) ?_
    refine wmgI_29 (v := (gI σ 29)) S X mG_2138 rfl dX12_about_81 ?_
    refine lv_if_eq (tgt := 94) hx hb dX12_about_84 (by decide) (fun c84 => ?_) (fun c84 => ?_)
    · have hg := (if_pos c84).symm.trans hg
      refine lv_iconst (v := 0) hx hb dX12_about_94 (by decide) ?_
      obtain ⟨rfl, rfl⟩ := fin_some hg
      exact gr_i S hr hk X dX12_about_95
    · have hg := (if_neg c84).symm.trans hg
      refine lv_aload_n hx hb dX12_about_87 rfl (lv_at hl 0 rfl) ?_
      refine wmgI_14 (v := (gI σ 14)) S X mG_2081 rfl dX12_about_88 ?_
      refine lv_goto (tgt := 95) hx hb dX12_about_91 (by decide) ?_
      obtain ⟨rfl, rfl⟩ := fin_some hg
      exact gr_i S hr hk X dX12_about_95
  · refine lv_tableIn (off := 76) (tgt := 96) hx hb dX12_about_20 (by rw [hsw]; decide) (by rw [hsw]; decide) (by rw [hsw]; decide) (by decide) ?_
    have hg := (if_neg (by rw [hsw]; decide)).symm.trans hg
    have hg := (if_neg (by rw [hsw]; decide)).symm.trans hg
    have hg := (if_pos hsw).symm.trans hg
    refine lv_aload_n hx hb dX12_about_96 rfl (lv_at hl 0 rfl) ?_
    refine wmgI_29 (v := (gI σ 29)) S X mG_2138 rfl dX12_about_97 ?_
    refine lv_if_eq (tgt := 110) hx hb dX12_about_100 (by decide) (fun c100 => ?_) (fun c100 => ?_)
    · have hg := (if_pos c100).symm.trans hg
      refine lv_iconst (v := 0) hx hb dX12_about_110 (by decide) ?_
      obtain ⟨rfl, rfl⟩ := fin_some hg
      exact gr_i S hr hk X dX12_about_111
    · have hg := (if_neg c100).symm.trans hg
      refine lv_aload_n hx hb dX12_about_103 rfl (lv_at hl 0 rfl) ?_
      refine wmgI_11 (v := (gI σ 11)) S X mG_2075 rfl dX12_about_104 ?_
      refine lv_goto (tgt := 111) hx hb dX12_about_107 (by decide) ?_
      obtain ⟨rfl, rfl⟩ := fin_some hg
      exact gr_i S hr hk X dX12_about_111
  · refine lv_tableIn (off := 92) (tgt := 112) hx hb dX12_about_20 (by rw [hsw]; decide) (by rw [hsw]; decide) (by rw [hsw]; decide) (by decide) ?_
    have hg := (if_neg (by rw [hsw]; decide)).symm.trans hg
    have hg := (if_neg (by rw [hsw]; decide)).symm.trans hg
    have hg := (if_neg (by rw [hsw]; decide)).symm.trans hg
    have hg := (if_pos hsw).symm.trans hg
    refine lv_aload_n hx hb dX12_about_112 rfl (lv_at hl 0 rfl) ?_
    refine wmgI_1 (v := (gI σ 1)) S X mG_2052 rfl dX12_about_113 ?_
    obtain ⟨rfl, rfl⟩ := fin_some hg
    exact gr_i S hr hk X dX12_about_116
  · refine lv_tableIn (off := 97) (tgt := 117) hx hb dX12_about_20 (by rw [hsw]; decide) (by rw [hsw]; decide) (by rw [hsw]; decide) (by decide) ?_
    have hg := (if_neg (by rw [hsw]; decide)).symm.trans hg
    have hg := (if_neg (by rw [hsw]; decide)).symm.trans hg
    have hg := (if_neg (by rw [hsw]; decide)).symm.trans hg
    have hg := (if_neg (by rw [hsw]; decide)).symm.trans hg
    have hg := (if_pos hsw).symm.trans hg
    refine lv_aload_n hx hb dX12_about_117 rfl (lv_at hl 0 rfl) ?_
    refine wmgI_2 (v := (gI σ 2)) S X mG_2054 rfl dX12_about_118 ?_
    obtain ⟨rfl, rfl⟩ := fin_some hg
    exact gr_i S hr hk X dX12_about_121
  · refine lv_tableIn (off := 102) (tgt := 122) hx hb dX12_about_20 (by rw [hsw]; decide) (by rw [hsw]; decide) (by rw [hsw]; decide) (by decide) ?_
    have hg := (if_neg (by rw [hsw]; decide)).symm.trans hg
    have hg := (if_neg (by rw [hsw]; decide)).symm.trans hg
    have hg := (if_neg (by rw [hsw]; decide)).symm.trans hg
    have hg := (if_neg (by rw [hsw]; decide)).symm.trans hg
    have hg := (if_neg (by rw [hsw]; decide)).symm.trans hg
    have hg := (if_pos hsw).symm.trans hg
    refine lv_aload_n hx hb dX12_about_122 rfl (lv_at hl 0 rfl) ?_
    refine wmgI_36 (v := (gI σ 36)) S X mG_2152 rfl dX12_about_123 ?_
    obtain ⟨rfl, rfl⟩ := fin_some hg
    exact gr_i S hr hk X dX12_about_126
  · refine lv_tableIn (off := 107) (tgt := 127) hx hb dX12_about_20 (by rw [hsw]; decide) (by rw [hsw]; decide) (by rw [hsw]; decide) (by decide) ?_
    have hg := (if_neg (by rw [hsw]; decide)).symm.trans hg
    have hg := (if_neg (by rw [hsw]; decide)).symm.trans hg
    have hg := (if_neg (by rw [hsw]; decide)).symm.trans hg
    have hg := (if_neg (by rw [hsw]; decide)).symm.trans hg
    have hg := (if_neg (by rw [hsw]; decide)).symm.trans hg
    have hg := (if_neg (by rw [hsw]; decide)).symm.trans hg
    have hg := (if_pos hsw).symm.trans hg
    refine lv_aload_n hx hb dX12_about_127 rfl (lv_at hl 0 rfl) ?_
    refine wmgI_35 (v := (gI σ 35)) S X mG_2151 rfl dX12_about_128 ?_
    obtain ⟨rfl, rfl⟩ := fin_some hg
    exact gr_i S hr hk X dX12_about_131
set_option maxHeartbeats 4000000 in
set_option maxRecDepth 100000 in
theorem w_X12_about_b11 {σ : S5} {v1 : Int32} {H : Heap} {locs : List Loc} {ls : Array Slot} (S : CallFix p m c cX12_about 2 s args uG RX12) (hr : meth.sig.returnType = (some .int)) (hk : meth.locks = false) (hR : 0 ≤ R.frames ∧ 0 ≤ R.locals)
    (X : gX (dC, dI) (tM kc) (wM ad kc) Z A s σ H locs) (hl : lv_has ls 2 [(0, .ref (ad 0)), (1, .int v1)]) (hg : f_X12_about_b11 v1 σ = some (r, τ)) : W p l e R s m args below meth c H locs 0 0 (MQ below (gQi (dC, dI) (tM kc) (wM ad kc) A r τ) args s 0 0 A) (F0 m 11 ls [.ref (ad 0)]) := by
  have hx := S.1
  have hb := S.2.1
  have hown := S.2.2.2.1
  have hu := S.2.2.2.2
  unfold f_X12_about_b11 at hg
  refine lv_iconst (v := 1) hx hb dX12_about_11 (by decide) ?_
  refine lv_goto (tgt := 16) hx hb dX12_about_12 (by decide) ?_
  exact w_X12_about_b16 S hr hk hR X (lv_sub hl [0, 1] rfl) hg
set_option maxHeartbeats 4000000 in
set_option maxRecDepth 100000 in
theorem w_X12_about {σ : S5} {a1 : Int32} {H : Heap} {locs : List Loc} {ls : Array Slot} (S : CallFix p m c cX12_about 2 s args uG RX12) (hr : meth.sig.returnType = (some .int)) (hk : meth.locks = false) (hR : 0 ≤ R.frames ∧ 0 ≤ R.locals)
    (X : gX (dC, dI) (tM kc) (wM ad kc) Z A s σ H locs) (hl : lv_has ls 2 [(0, .ref (ad 0)), (1, .int a1)]) (hg : f_X12_about a1 σ = some (r, τ)) : W p l e R s m args below meth c H locs 0 0 (MQ below (gQi (dC, dI) (tM kc) (wM ad kc) A r τ) args s 0 0 A) (F0 m 0 ls []) := by
  have hx := S.1
  have hb := S.2.1
  have hown := S.2.2.2.1
  have hu := S.2.2.2.2
  unfold f_X12_about at hg
  refine lv_aload_n hx hb dX12_about_0 rfl (lv_at hl 0 rfl) ?_
  refine lv_iload_n hx hb dX12_about_1 rfl (lv_at hl 1 rfl) ?_
  refine lv_if_lt (tgt := 11) hx hb dX12_about_2 (by decide) (fun c2 => ?_) (fun c2 => ?_)
  · have hg := (if_pos c2).symm.trans hg
    exact w_X12_about_b11 S hr hk hR X (lv_sub hl [0, 1] rfl) hg
  · have hg := (if_neg c2).symm.trans hg
    refine lv_iload_n hx hb dX12_about_5 rfl (lv_at hl 1 rfl) ?_
    refine lv_bipush (v := 6) hx hb dX12_about_6 (by decide) ?_
    refine lv_icmp_le (tgt := 15) hx hb dX12_about_8 (by decide) (fun c8 => ?_) (fun c8 => ?_)
    · have hg := (if_pos c8).symm.trans hg
      refine lv_iconst (v := 0) hx hb dX12_about_15 (by decide) ?_
      exact w_X12_about_b16 S hr hk hR X (lv_sub hl [0, 1] rfl) hg
    · have hg := (if_neg c8).symm.trans hg
      exact w_X12_about_b11 S hr hk hR X (lv_sub hl [0, 1] rfl) hg
end MX12_about
set_option maxRecDepth 100000 in
theorem k2_X12_about (l : Launch) (dC : Nat → ClassId) (dI : Nat → Nat → Nat) {Z : ZZ} (ad : Nat → Nat) (kc : Nat → ClassId) {σ τ : S5} {a1 : Int32} {r : Int32} (hg : f_X12_about a1 σ = some (r, τ)) (sz : Nat) : Met l yX12_about (Cond.code yX12_about cX12_about 2 (some .int) :: uG) { frames := 0, cells := 0, slots := 0, locals := 0 } (gPc (dC, dI) (tM kc) (wM ad kc) Z [.ref (ad 0), .int a1] σ sz) (gQi (dC, dI) (tM kc) (wM ad kc) (va_A (wM ad kc σ) sz) r τ) 0 0 (va_A (wM ad kc σ) sz) :=
  g_start (by decide) (Nat.le_of_ble_eq_true rfl) (fun p e s m below meth c ls S hr hk X hl => w_X12_about S hr hk ⟨Nat.le_refl _, Nat.le_refl _⟩ X hl hg)
