theorem sw_0_13 (x : Int32) : (x.toInt < 0 ∨ 13 < x.toInt) ∨ x = 0 ∨ x = 1 ∨ x = 2 ∨ x = 3 ∨ x = 4 ∨ x = 5 ∨ x = 6 ∨ x = 7 ∨ x = 8 ∨ x = 9 ∨ x = 10 ∨ x = 11 ∨ x = 12 ∨ x = 13 := by
  by_cases h : x.toInt < 0 ∨ 13 < x.toInt
  · exact Or.inl h
  · have h2 : x.toInt = 0 ∨ x.toInt = 1 ∨ x.toInt = 2 ∨ x.toInt = 3 ∨ x.toInt = 4 ∨ x.toInt = 5 ∨ x.toInt = 6 ∨ x.toInt = 7 ∨ x.toInt = 8 ∨ x.toInt = 9 ∨ x.toInt = 10 ∨ x.toInt = 11 ∨ x.toInt = 12 ∨ x.toInt = 13 := by omega
    refine Or.inr ?_
    rcases h2 with h | h | h | h | h | h | h | h | h | h | h | h | h | h
    · exact Or.inl (Int32.toInt_inj.mp (h.trans (by decide)))
    · exact Or.inr (Or.inl (Int32.toInt_inj.mp (h.trans (by decide))))
    · exact Or.inr (Or.inr (Or.inl (Int32.toInt_inj.mp (h.trans (by decide)))))
    · exact Or.inr (Or.inr (Or.inr (Or.inl (Int32.toInt_inj.mp (h.trans (by decide))))))
    · exact Or.inr (Or.inr (Or.inr (Or.inr (Or.inl (Int32.toInt_inj.mp (h.trans (by decide)))))))
    · exact Or.inr (Or.inr (Or.inr (Or.inr (Or.inr (Or.inl (Int32.toInt_inj.mp (h.trans (by decide))))))))
    · exact Or.inr (Or.inr (Or.inr (Or.inr (Or.inr (Or.inr (Or.inl (Int32.toInt_inj.mp (h.trans (by decide)))))))))
    · exact Or.inr (Or.inr (Or.inr (Or.inr (Or.inr (Or.inr (Or.inr (Or.inl (Int32.toInt_inj.mp (h.trans (by decide))))))))))
    · exact Or.inr (Or.inr (Or.inr (Or.inr (Or.inr (Or.inr (Or.inr (Or.inr (Or.inl (Int32.toInt_inj.mp (h.trans (by decide)))))))))))
    · exact Or.inr (Or.inr (Or.inr (Or.inr (Or.inr (Or.inr (Or.inr (Or.inr (Or.inr (Or.inl (Int32.toInt_inj.mp (h.trans (by decide))))))))))))
    · exact Or.inr (Or.inr (Or.inr (Or.inr (Or.inr (Or.inr (Or.inr (Or.inr (Or.inr (Or.inr (Or.inl (Int32.toInt_inj.mp (h.trans (by decide)))))))))))))
    · exact Or.inr (Or.inr (Or.inr (Or.inr (Or.inr (Or.inr (Or.inr (Or.inr (Or.inr (Or.inr (Or.inr (Or.inl (Int32.toInt_inj.mp (h.trans (by decide))))))))))))))
    · exact Or.inr (Or.inr (Or.inr (Or.inr (Or.inr (Or.inr (Or.inr (Or.inr (Or.inr (Or.inr (Or.inr (Or.inr (Or.inl (Int32.toInt_inj.mp (h.trans (by decide)))))))))))))))
    · exact Or.inr (Or.inr (Or.inr (Or.inr (Or.inr (Or.inr (Or.inr (Or.inr (Or.inr (Or.inr (Or.inr (Or.inr (Or.inr (Int32.toInt_inj.mp (h.trans (by decide)))))))))))))))
theorem swo_0_13 {x : Int32} (h : x.toInt < 0 ∨ 13 < x.toInt) : ¬ x = 0 ∧ ¬ x = 1 ∧ ¬ x = 2 ∧ ¬ x = 3 ∧ ¬ x = 4 ∧ ¬ x = 5 ∧ ¬ x = 6 ∧ ¬ x = 7 ∧ ¬ x = 8 ∧ ¬ x = 9 ∧ ¬ x = 10 ∧ ¬ x = 11 ∧ ¬ x = 12 ∧ ¬ x = 13 := by
  refine ⟨?_, ?_, ?_, ?_, ?_, ?_, ?_, ?_, ?_, ?_, ?_, ?_, ?_, ?_⟩ <;> (intro e; rw [e] at h; revert h; decide)


theorem mG_169 : Cond.selects "LazyForgeModel" yX12_bitOfPart yX12_bitOfPart ∈ uG := uG_at 169 (by decide +kernel) (by decide +kernel)
theorem mG_170 : Cond.selects "LazyForgeModel" yX12_partBit yX12_partBit ∈ uG := uG_at 170 (by decide +kernel) (by decide +kernel)
theorem mG_172 : Cond.selects "LazyForgeModel" yX12_appliedBit yX12_appliedBit ∈ uG := uG_at 172 (by decide +kernel) (by decide +kernel)
theorem mG_174 : Cond.selects "LazyForgeModel" yX12_firstWithin yX12_firstWithin ∈ uG := uG_at 174 (by decide +kernel) (by decide +kernel)
theorem mG_2748 : Cond.methodLink "LazyForgeModel" 564 yX12_bitOfPart ∈ uG := uG_at 2748 (by decide +kernel) (by decide +kernel)
theorem mG_2750 : Cond.instanceMethod yX12_bitOfPart ∈ uG := uG_at 2750 (by decide +kernel) (by decide +kernel)
theorem mG_2751 : Cond.code yX12_bitOfPart prog_14_method_75_code 7 (some .boolean) ∈ uG := uG_at 2751 (by decide +kernel) (by decide +kernel)
theorem mG_2752 : Cond.methodLink "LazyForgeModel" 561 yX12_partBit ∈ uG := uG_at 2752 (by decide +kernel) (by decide +kernel)
theorem mG_2754 : Cond.instanceMethod yX12_partBit ∈ uG := uG_at 2754 (by decide +kernel) (by decide +kernel)
theorem mG_2755 : Cond.code yX12_partBit prog_14_method_73_code 5 (some .boolean) ∈ uG := uG_at 2755 (by decide +kernel) (by decide +kernel)
theorem mG_2760 : Cond.methodLink "LazyForgeModel" 558 yX12_appliedBit ∈ uG := uG_at 2760 (by decide +kernel) (by decide +kernel)
theorem mG_2762 : Cond.instanceMethod yX12_appliedBit ∈ uG := uG_at 2762 (by decide +kernel) (by decide +kernel)
theorem mG_2763 : Cond.code yX12_appliedBit prog_14_method_74_code 7 (some .boolean) ∈ uG := uG_at 2763 (by decide +kernel) (by decide +kernel)
theorem mG_2768 : Cond.methodLink "LazyForgeModel" 567 yX12_firstWithin ∈ uG := uG_at 2768 (by decide +kernel) (by decide +kernel)
theorem mG_2770 : Cond.instanceMethod yX12_firstWithin ∈ uG := uG_at 2770 (by decide +kernel) (by decide +kernel)
theorem mG_2771 : Cond.code yX12_firstWithin prog_14_method_77_code 3 (some .int) ∈ uG := uG_at 2771 (by decide +kernel) (by decide +kernel)
theorem dX12_bitOfPart_0 : decode cX12_bitOfPart 0 = .ok (.iload_n 1, 1) := by decide +kernel
theorem dX12_bitOfPart_1 : decode cX12_bitOfPart 1 = .ok (.istore_n 3, 1) := by decide +kernel
theorem dX12_bitOfPart_2 : decode cX12_bitOfPart 2 = .ok (.iload_n 3, 1) := by decide +kernel
theorem dX12_bitOfPart_3 : decode cX12_bitOfPart 3 = .ok (.iload_n 2, 1) := by decide +kernel
theorem dX12_bitOfPart_4 : decode cX12_bitOfPart 4 = .ok (.if_icmp .gt 137, 3) := by decide +kernel
theorem dX12_bitOfPart_7 : decode cX12_bitOfPart 7 = .ok (.aload_n 0, 1) := by decide +kernel
theorem dX12_bitOfPart_8 : decode cX12_bitOfPart 8 = .ok (.getfield 119, 3) := by decide +kernel
theorem dX12_bitOfPart_11 : decode cX12_bitOfPart 11 = .ok (.iload_n 3, 1) := by decide +kernel
theorem dX12_bitOfPart_12 : decode cX12_bitOfPart 12 = .ok (.iaload, 1) := by decide +kernel
theorem dX12_bitOfPart_13 : decode cX12_bitOfPart 13 = .ok (.ifCond .ne 41, 3) := by decide +kernel
theorem dX12_bitOfPart_16 : decode cX12_bitOfPart 16 = .ok (.iconst 0, 1) := by decide +kernel
theorem dX12_bitOfPart_17 : decode cX12_bitOfPart 17 = .ok (.istore 4, 2) := by decide +kernel
theorem dX12_bitOfPart_19 : decode cX12_bitOfPart 19 = .ok (.iload 4, 2) := by decide +kernel
theorem dX12_bitOfPart_21 : decode cX12_bitOfPart 21 = .ok (.aload_n 0, 1) := by decide +kernel
theorem dX12_bitOfPart_22 : decode cX12_bitOfPart 22 = .ok (.getfield 122, 3) := by decide +kernel
theorem dX12_bitOfPart_25 : decode cX12_bitOfPart 25 = .ok (.iload_n 3, 1) := by decide +kernel
theorem dX12_bitOfPart_26 : decode cX12_bitOfPart 26 = .ok (.iaload, 1) := by decide +kernel
theorem dX12_bitOfPart_27 : decode cX12_bitOfPart 27 = .ok (.if_icmp .ge 24, 3) := by decide +kernel
theorem dX12_bitOfPart_30 : decode cX12_bitOfPart 30 = .ok (.aload_n 0, 1) := by decide +kernel
theorem dX12_bitOfPart_31 : decode cX12_bitOfPart 31 = .ok (.getfield 184, 3) := by decide +kernel
theorem dX12_bitOfPart_34 : decode cX12_bitOfPart 34 = .ok (.aload_n 0, 1) := by decide +kernel
theorem dX12_bitOfPart_35 : decode cX12_bitOfPart 35 = .ok (.getfield 131, 3) := by decide +kernel
theorem dX12_bitOfPart_38 : decode cX12_bitOfPart 38 = .ok (.iload_n 3, 1) := by decide +kernel
theorem dX12_bitOfPart_39 : decode cX12_bitOfPart 39 = .ok (.iaload, 1) := by decide +kernel
theorem dX12_bitOfPart_40 : decode cX12_bitOfPart 40 = .ok (.iload 4, 2) := by decide +kernel
theorem dX12_bitOfPart_42 : decode cX12_bitOfPart 42 = .ok (.iadd, 1) := by decide +kernel
theorem dX12_bitOfPart_43 : decode cX12_bitOfPart 43 = .ok (.iconst 0, 1) := by decide +kernel
theorem dX12_bitOfPart_44 : decode cX12_bitOfPart 44 = .ok (.bastore, 1) := by decide +kernel
theorem dX12_bitOfPart_45 : decode cX12_bitOfPart 45 = .ok (.iinc 4 1, 3) := by decide +kernel
theorem dX12_bitOfPart_48 : decode cX12_bitOfPart 48 = .ok (.goto (-29), 3) := by decide +kernel
theorem dX12_bitOfPart_51 : decode cX12_bitOfPart 51 = .ok (.goto 84, 3) := by decide +kernel
theorem dX12_bitOfPart_54 : decode cX12_bitOfPart 54 = .ok (.aload_n 0, 1) := by decide +kernel
theorem dX12_bitOfPart_55 : decode cX12_bitOfPart 55 = .ok (.getfield 119, 3) := by decide +kernel
theorem dX12_bitOfPart_58 : decode cX12_bitOfPart 58 = .ok (.iload_n 3, 1) := by decide +kernel
theorem dX12_bitOfPart_59 : decode cX12_bitOfPart 59 = .ok (.iaload, 1) := by decide +kernel
theorem dX12_bitOfPart_60 : decode cX12_bitOfPart 60 = .ok (.iconst 3, 1) := by decide +kernel
theorem dX12_bitOfPart_61 : decode cX12_bitOfPart 61 = .ok (.if_icmp .ne 74, 3) := by decide +kernel
theorem dX12_bitOfPart_64 : decode cX12_bitOfPart 64 = .ok (.iconst 1, 1) := by decide +kernel
theorem dX12_bitOfPart_65 : decode cX12_bitOfPart 65 = .ok (.istore 4, 2) := by decide +kernel
theorem dX12_bitOfPart_67 : decode cX12_bitOfPart 67 = .ok (.iload 4, 2) := by decide +kernel
theorem dX12_bitOfPart_69 : decode cX12_bitOfPart 69 = .ok (.aload_n 0, 1) := by decide +kernel
theorem dX12_bitOfPart_70 : decode cX12_bitOfPart 70 = .ok (.getfield 128, 3) := by decide +kernel
theorem dX12_bitOfPart_73 : decode cX12_bitOfPart 73 = .ok (.iload_n 3, 1) := by decide +kernel
theorem dX12_bitOfPart_74 : decode cX12_bitOfPart 74 = .ok (.iaload, 1) := by decide +kernel
theorem dX12_bitOfPart_75 : decode cX12_bitOfPart 75 = .ok (.if_icmp .ge 60, 3) := by decide +kernel
theorem dX12_bitOfPart_78 : decode cX12_bitOfPart 78 = .ok (.iconst 0, 1) := by decide +kernel
theorem dX12_bitOfPart_79 : decode cX12_bitOfPart 79 = .ok (.istore 5, 2) := by decide +kernel
theorem dX12_bitOfPart_81 : decode cX12_bitOfPart 81 = .ok (.iload 5, 2) := by decide +kernel
theorem dX12_bitOfPart_83 : decode cX12_bitOfPart 83 = .ok (.aload_n 0, 1) := by decide +kernel
theorem dX12_bitOfPart_84 : decode cX12_bitOfPart 84 = .ok (.getfield 159, 3) := by decide +kernel
theorem dX12_bitOfPart_87 : decode cX12_bitOfPart 87 = .ok (.aload_n 0, 1) := by decide +kernel
theorem dX12_bitOfPart_88 : decode cX12_bitOfPart 88 = .ok (.getfield 125, 3) := by decide +kernel
theorem dX12_bitOfPart_91 : decode cX12_bitOfPart 91 = .ok (.iload_n 3, 1) := by decide +kernel
theorem dX12_bitOfPart_92 : decode cX12_bitOfPart 92 = .ok (.iaload, 1) := by decide +kernel
theorem dX12_bitOfPart_93 : decode cX12_bitOfPart 93 = .ok (.iload 4, 2) := by decide +kernel
theorem dX12_bitOfPart_95 : decode cX12_bitOfPart 95 = .ok (.iadd, 1) := by decide +kernel
theorem dX12_bitOfPart_96 : decode cX12_bitOfPart 96 = .ok (.iaload, 1) := by decide +kernel
theorem dX12_bitOfPart_97 : decode cX12_bitOfPart 97 = .ok (.if_icmp .ge 32, 3) := by decide +kernel
theorem dX12_bitOfPart_100 : decode cX12_bitOfPart 100 = .ok (.aload_n 0, 1) := by decide +kernel
theorem dX12_bitOfPart_101 : decode cX12_bitOfPart 101 = .ok (.getfield 184, 3) := by decide +kernel
theorem dX12_bitOfPart_104 : decode cX12_bitOfPart 104 = .ok (.aload_n 0, 1) := by decide +kernel
theorem dX12_bitOfPart_105 : decode cX12_bitOfPart 105 = .ok (.getfield 156, 3) := by decide +kernel
theorem dX12_bitOfPart_108 : decode cX12_bitOfPart 108 = .ok (.aload_n 0, 1) := by decide +kernel
theorem dX12_bitOfPart_109 : decode cX12_bitOfPart 109 = .ok (.getfield 125, 3) := by decide +kernel
theorem dX12_bitOfPart_112 : decode cX12_bitOfPart 112 = .ok (.iload_n 3, 1) := by decide +kernel
theorem dX12_bitOfPart_113 : decode cX12_bitOfPart 113 = .ok (.iaload, 1) := by decide +kernel
theorem dX12_bitOfPart_114 : decode cX12_bitOfPart 114 = .ok (.iload 4, 2) := by decide +kernel
theorem dX12_bitOfPart_116 : decode cX12_bitOfPart 116 = .ok (.iadd, 1) := by decide +kernel
theorem dX12_bitOfPart_117 : decode cX12_bitOfPart 117 = .ok (.iaload, 1) := by decide +kernel
theorem dX12_bitOfPart_118 : decode cX12_bitOfPart 118 = .ok (.iload 5, 2) := by decide +kernel
theorem dX12_bitOfPart_120 : decode cX12_bitOfPart 120 = .ok (.iadd, 1) := by decide +kernel
theorem dX12_bitOfPart_121 : decode cX12_bitOfPart 121 = .ok (.iconst 1, 1) := by decide +kernel
theorem dX12_bitOfPart_122 : decode cX12_bitOfPart 122 = .ok (.bastore, 1) := by decide +kernel
theorem dX12_bitOfPart_123 : decode cX12_bitOfPart 123 = .ok (.iinc 5 1, 3) := by decide +kernel
theorem dX12_bitOfPart_126 : decode cX12_bitOfPart 126 = .ok (.goto (-45), 3) := by decide +kernel
theorem dX12_bitOfPart_129 : decode cX12_bitOfPart 129 = .ok (.iinc 4 1, 3) := by decide +kernel
theorem dX12_bitOfPart_132 : decode cX12_bitOfPart 132 = .ok (.goto (-65), 3) := by decide +kernel
theorem dX12_bitOfPart_135 : decode cX12_bitOfPart 135 = .ok (.iinc 3 1, 3) := by decide +kernel
theorem dX12_bitOfPart_138 : decode cX12_bitOfPart 138 = .ok (.goto (-136), 3) := by decide +kernel
theorem dX12_bitOfPart_141 : decode cX12_bitOfPart 141 = .ok (.iconst 1, 1) := by decide +kernel
theorem dX12_bitOfPart_142 : decode cX12_bitOfPart 142 = .ok (.istore_n 3, 1) := by decide +kernel
theorem dX12_bitOfPart_143 : decode cX12_bitOfPart 143 = .ok (.iload_n 3, 1) := by decide +kernel
theorem dX12_bitOfPart_144 : decode cX12_bitOfPart 144 = .ok (.ifCond .eq 173, 3) := by decide +kernel
theorem dX12_bitOfPart_147 : decode cX12_bitOfPart 147 = .ok (.iconst 0, 1) := by decide +kernel
theorem dX12_bitOfPart_148 : decode cX12_bitOfPart 148 = .ok (.istore_n 3, 1) := by decide +kernel
theorem dX12_bitOfPart_149 : decode cX12_bitOfPart 149 = .ok (.iload_n 1, 1) := by decide +kernel
theorem dX12_bitOfPart_150 : decode cX12_bitOfPart 150 = .ok (.istore 4, 2) := by decide +kernel
theorem dX12_bitOfPart_152 : decode cX12_bitOfPart 152 = .ok (.iload 4, 2) := by decide +kernel
theorem dX12_bitOfPart_154 : decode cX12_bitOfPart 154 = .ok (.iload_n 2, 1) := by decide +kernel
theorem dX12_bitOfPart_155 : decode cX12_bitOfPart 155 = .ok (.if_icmp .gt 22, 3) := by decide +kernel
theorem dX12_bitOfPart_158 : decode cX12_bitOfPart 158 = .ok (.aload_n 0, 1) := by decide +kernel
theorem dX12_bitOfPart_159 : decode cX12_bitOfPart 159 = .ok (.getfield 181, 3) := by decide +kernel
theorem dX12_bitOfPart_162 : decode cX12_bitOfPart 162 = .ok (.iload 4, 2) := by decide +kernel
theorem dX12_bitOfPart_164 : decode cX12_bitOfPart 164 = .ok (.aload_n 0, 1) := by decide +kernel
theorem dX12_bitOfPart_165 : decode cX12_bitOfPart 165 = .ok (.iload 4, 2) := by decide +kernel
theorem dX12_bitOfPart_167 : decode cX12_bitOfPart 167 = .ok (.invokevirtual 561, 3) := by decide +kernel
theorem dX12_bitOfPart_170 : decode cX12_bitOfPart 170 = .ok (.bastore, 1) := by decide +kernel
theorem dX12_bitOfPart_171 : decode cX12_bitOfPart 171 = .ok (.iinc 4 1, 3) := by decide +kernel
theorem dX12_bitOfPart_174 : decode cX12_bitOfPart 174 = .ok (.goto (-22), 3) := by decide +kernel
theorem dX12_bitOfPart_177 : decode cX12_bitOfPart 177 = .ok (.iload_n 1, 1) := by decide +kernel
theorem dX12_bitOfPart_178 : decode cX12_bitOfPart 178 = .ok (.istore 4, 2) := by decide +kernel
theorem dX12_bitOfPart_180 : decode cX12_bitOfPart 180 = .ok (.iload 4, 2) := by decide +kernel
theorem dX12_bitOfPart_182 : decode cX12_bitOfPart 182 = .ok (.iload_n 2, 1) := by decide +kernel
theorem dX12_bitOfPart_183 : decode cX12_bitOfPart 183 = .ok (.if_icmp .gt 131, 3) := by decide +kernel
theorem dX12_bitOfPart_186 : decode cX12_bitOfPart 186 = .ok (.iconst 0, 1) := by decide +kernel
theorem dX12_bitOfPart_187 : decode cX12_bitOfPart 187 = .ok (.istore 5, 2) := by decide +kernel
theorem dX12_bitOfPart_189 : decode cX12_bitOfPart 189 = .ok (.aload_n 0, 1) := by decide +kernel
theorem dX12_bitOfPart_190 : decode cX12_bitOfPart 190 = .ok (.getfield 119, 3) := by decide +kernel
theorem dX12_bitOfPart_193 : decode cX12_bitOfPart 193 = .ok (.iload 4, 2) := by decide +kernel
theorem dX12_bitOfPart_195 : decode cX12_bitOfPart 195 = .ok (.iaload, 1) := by decide +kernel
theorem dX12_bitOfPart_196 : decode cX12_bitOfPart 196 = .ok (.ifCond .ne 112, 3) := by decide +kernel
theorem dX12_bitOfPart_199 : decode cX12_bitOfPart 199 = .ok (.iload 5, 2) := by decide +kernel
theorem dX12_bitOfPart_201 : decode cX12_bitOfPart 201 = .ok (.aload_n 0, 1) := by decide +kernel
theorem dX12_bitOfPart_202 : decode cX12_bitOfPart 202 = .ok (.getfield 122, 3) := by decide +kernel
theorem dX12_bitOfPart_205 : decode cX12_bitOfPart 205 = .ok (.iload 4, 2) := by decide +kernel
theorem dX12_bitOfPart_207 : decode cX12_bitOfPart 207 = .ok (.iaload, 1) := by decide +kernel
theorem dX12_bitOfPart_208 : decode cX12_bitOfPart 208 = .ok (.if_icmp .ge 100, 3) := by decide +kernel
theorem dX12_bitOfPart_211 : decode cX12_bitOfPart 211 = .ok (.aload_n 0, 1) := by decide +kernel
theorem dX12_bitOfPart_212 : decode cX12_bitOfPart 212 = .ok (.getfield 181, 3) := by decide +kernel
theorem dX12_bitOfPart_215 : decode cX12_bitOfPart 215 = .ok (.aload_n 0, 1) := by decide +kernel
theorem dX12_bitOfPart_216 : decode cX12_bitOfPart 216 = .ok (.iload 4, 2) := by decide +kernel
theorem dX12_bitOfPart_218 : decode cX12_bitOfPart 218 = .ok (.iload 5, 2) := by decide +kernel
theorem dX12_bitOfPart_220 : decode cX12_bitOfPart 220 = .ok (.invokevirtual 545, 3) := by decide +kernel
theorem dX12_bitOfPart_223 : decode cX12_bitOfPart 223 = .ok (.baload, 1) := by decide +kernel
theorem dX12_bitOfPart_224 : decode cX12_bitOfPart 224 = .ok (.istore 6, 2) := by decide +kernel
theorem dX12_bitOfPart_226 : decode cX12_bitOfPart 226 = .ok (.iload_n 3, 1) := by decide +kernel
theorem dX12_bitOfPart_227 : decode cX12_bitOfPart 227 = .ok (.ifCond .ne 26, 3) := by decide +kernel
theorem dX12_bitOfPart_230 : decode cX12_bitOfPart 230 = .ok (.iload 6, 2) := by decide +kernel
theorem dX12_bitOfPart_232 : decode cX12_bitOfPart 232 = .ok (.ifCond .eq 25, 3) := by decide +kernel
theorem dX12_bitOfPart_235 : decode cX12_bitOfPart 235 = .ok (.aload_n 0, 1) := by decide +kernel
theorem dX12_bitOfPart_236 : decode cX12_bitOfPart 236 = .ok (.getfield 184, 3) := by decide +kernel
theorem dX12_bitOfPart_239 : decode cX12_bitOfPart 239 = .ok (.aload_n 0, 1) := by decide +kernel
theorem dX12_bitOfPart_240 : decode cX12_bitOfPart 240 = .ok (.getfield 131, 3) := by decide +kernel
theorem dX12_bitOfPart_243 : decode cX12_bitOfPart 243 = .ok (.iload 4, 2) := by decide +kernel
theorem dX12_bitOfPart_245 : decode cX12_bitOfPart 245 = .ok (.iaload, 1) := by decide +kernel
theorem dX12_bitOfPart_246 : decode cX12_bitOfPart 246 = .ok (.iload 5, 2) := by decide +kernel
theorem dX12_bitOfPart_248 : decode cX12_bitOfPart 248 = .ok (.iadd, 1) := by decide +kernel
theorem dX12_bitOfPart_249 : decode cX12_bitOfPart 249 = .ok (.baload, 1) := by decide +kernel
theorem dX12_bitOfPart_250 : decode cX12_bitOfPart 250 = .ok (.ifCond .ne 7, 3) := by decide +kernel
theorem dX12_bitOfPart_253 : decode cX12_bitOfPart 253 = .ok (.iconst 1, 1) := by decide +kernel
theorem dX12_bitOfPart_254 : decode cX12_bitOfPart 254 = .ok (.goto 4, 3) := by decide +kernel
theorem dX12_bitOfPart_257 : decode cX12_bitOfPart 257 = .ok (.iconst 0, 1) := by decide +kernel
theorem dX12_bitOfPart_258 : decode cX12_bitOfPart 258 = .ok (.istore_n 3, 1) := by decide +kernel
theorem dX12_bitOfPart_259 : decode cX12_bitOfPart 259 = .ok (.aload_n 0, 1) := by decide +kernel
theorem dX12_bitOfPart_260 : decode cX12_bitOfPart 260 = .ok (.getfield 184, 3) := by decide +kernel
theorem dX12_bitOfPart_263 : decode cX12_bitOfPart 263 = .ok (.aload_n 0, 1) := by decide +kernel
theorem dX12_bitOfPart_264 : decode cX12_bitOfPart 264 = .ok (.getfield 131, 3) := by decide +kernel
theorem dX12_bitOfPart_267 : decode cX12_bitOfPart 267 = .ok (.iload 4, 2) := by decide +kernel
theorem dX12_bitOfPart_269 : decode cX12_bitOfPart 269 = .ok (.iaload, 1) := by decide +kernel
theorem dX12_bitOfPart_270 : decode cX12_bitOfPart 270 = .ok (.iload 5, 2) := by decide +kernel
theorem dX12_bitOfPart_272 : decode cX12_bitOfPart 272 = .ok (.iadd, 1) := by decide +kernel
theorem dX12_bitOfPart_273 : decode cX12_bitOfPart 273 = .ok (.aload_n 0, 1) := by decide +kernel
theorem dX12_bitOfPart_274 : decode cX12_bitOfPart 274 = .ok (.getfield 184, 3) := by decide +kernel
theorem dX12_bitOfPart_277 : decode cX12_bitOfPart 277 = .ok (.aload_n 0, 1) := by decide +kernel
theorem dX12_bitOfPart_278 : decode cX12_bitOfPart 278 = .ok (.getfield 131, 3) := by decide +kernel
theorem dX12_bitOfPart_281 : decode cX12_bitOfPart 281 = .ok (.iload 4, 2) := by decide +kernel
theorem dX12_bitOfPart_283 : decode cX12_bitOfPart 283 = .ok (.iaload, 1) := by decide +kernel
theorem dX12_bitOfPart_284 : decode cX12_bitOfPart 284 = .ok (.iload 5, 2) := by decide +kernel
theorem dX12_bitOfPart_286 : decode cX12_bitOfPart 286 = .ok (.iadd, 1) := by decide +kernel
theorem dX12_bitOfPart_287 : decode cX12_bitOfPart 287 = .ok (.baload, 1) := by decide +kernel
theorem dX12_bitOfPart_288 : decode cX12_bitOfPart 288 = .ok (.ifCond .ne 8, 3) := by decide +kernel
theorem dX12_bitOfPart_291 : decode cX12_bitOfPart 291 = .ok (.iload 6, 2) := by decide +kernel
theorem dX12_bitOfPart_293 : decode cX12_bitOfPart 293 = .ok (.ifCond .eq 7, 3) := by decide +kernel
theorem dX12_bitOfPart_296 : decode cX12_bitOfPart 296 = .ok (.iconst 1, 1) := by decide +kernel
theorem dX12_bitOfPart_297 : decode cX12_bitOfPart 297 = .ok (.goto 4, 3) := by decide +kernel
theorem dX12_bitOfPart_300 : decode cX12_bitOfPart 300 = .ok (.iconst 0, 1) := by decide +kernel
theorem dX12_bitOfPart_301 : decode cX12_bitOfPart 301 = .ok (.bastore, 1) := by decide +kernel
theorem dX12_bitOfPart_302 : decode cX12_bitOfPart 302 = .ok (.iinc 5 1, 3) := by decide +kernel
theorem dX12_bitOfPart_305 : decode cX12_bitOfPart 305 = .ok (.goto (-116), 3) := by decide +kernel
theorem dX12_bitOfPart_308 : decode cX12_bitOfPart 308 = .ok (.iinc 4 1, 3) := by decide +kernel
theorem dX12_bitOfPart_311 : decode cX12_bitOfPart 311 = .ok (.goto (-131), 3) := by decide +kernel
theorem dX12_bitOfPart_314 : decode cX12_bitOfPart 314 = .ok (.goto (-171), 3) := by decide +kernel
theorem dX12_bitOfPart_317 : decode cX12_bitOfPart 317 = .ok (.aload_n 0, 1) := by decide +kernel
theorem dX12_bitOfPart_318 : decode cX12_bitOfPart 318 = .ok (.getfield 181, 3) := by decide +kernel
theorem dX12_bitOfPart_321 : decode cX12_bitOfPart 321 = .ok (.iload_n 2, 1) := by decide +kernel
theorem dX12_bitOfPart_322 : decode cX12_bitOfPart 322 = .ok (.baload, 1) := by decide +kernel
theorem dX12_bitOfPart_323 : decode cX12_bitOfPart 323 = .ok (.ireturn, 1) := by decide +kernel
theorem dX12_findNeeds_0 : decode cX12_findNeeds 0 = .ok (.iconst 0, 1) := by decide +kernel
theorem dX12_findNeeds_1 : decode cX12_findNeeds 1 = .ok (.istore_n 1, 1) := by decide +kernel
theorem dX12_findNeeds_2 : decode cX12_findNeeds 2 = .ok (.iload_n 1, 1) := by decide +kernel
theorem dX12_findNeeds_3 : decode cX12_findNeeds 3 = .ok (.aload_n 0, 1) := by decide +kernel
theorem dX12_findNeeds_4 : decode cX12_findNeeds 4 = .ok (.getfield 520, 3) := by decide +kernel
theorem dX12_findNeeds_7 : decode cX12_findNeeds 7 = .ok (.if_icmp .ge 120, 3) := by decide +kernel
theorem dX12_findNeeds_10 : decode cX12_findNeeds 10 = .ok (.aload_n 0, 1) := by decide +kernel
theorem dX12_findNeeds_11 : decode cX12_findNeeds 11 = .ok (.getfield 119, 3) := by decide +kernel
theorem dX12_findNeeds_14 : decode cX12_findNeeds 14 = .ok (.iload_n 1, 1) := by decide +kernel
theorem dX12_findNeeds_15 : decode cX12_findNeeds 15 = .ok (.iaload, 1) := by decide +kernel
theorem dX12_findNeeds_16 : decode cX12_findNeeds 16 = .ok (.ifCond .ne 105, 3) := by decide +kernel
theorem dX12_findNeeds_19 : decode cX12_findNeeds 19 = .ok (.aload_n 0, 1) := by decide +kernel
theorem dX12_findNeeds_20 : decode cX12_findNeeds 20 = .ok (.getfield 122, 3) := by decide +kernel
theorem dX12_findNeeds_23 : decode cX12_findNeeds 23 = .ok (.iload_n 1, 1) := by decide +kernel
theorem dX12_findNeeds_24 : decode cX12_findNeeds 24 = .ok (.iaload, 1) := by decide +kernel
theorem dX12_findNeeds_25 : decode cX12_findNeeds 25 = .ok (.iconst 1, 1) := by decide +kernel
theorem dX12_findNeeds_26 : decode cX12_findNeeds 26 = .ok (.if_icmp .ne 95, 3) := by decide +kernel
theorem dX12_findNeeds_29 : decode cX12_findNeeds 29 = .ok (.aload_n 0, 1) := by decide +kernel
theorem dX12_findNeeds_30 : decode cX12_findNeeds 30 = .ok (.getfield 131, 3) := by decide +kernel
theorem dX12_findNeeds_33 : decode cX12_findNeeds 33 = .ok (.iload_n 1, 1) := by decide +kernel
theorem dX12_findNeeds_34 : decode cX12_findNeeds 34 = .ok (.iaload, 1) := by decide +kernel
theorem dX12_findNeeds_35 : decode cX12_findNeeds 35 = .ok (.istore_n 2, 1) := by decide +kernel
theorem dX12_findNeeds_36 : decode cX12_findNeeds 36 = .ok (.aload_n 0, 1) := by decide +kernel
theorem dX12_findNeeds_37 : decode cX12_findNeeds 37 = .ok (.iload_n 1, 1) := by decide +kernel
theorem dX12_findNeeds_38 : decode cX12_findNeeds 38 = .ok (.iconst 1, 1) := by decide +kernel
theorem dX12_findNeeds_39 : decode cX12_findNeeds 39 = .ok (.invokevirtual 545, 3) := by decide +kernel
theorem dX12_findNeeds_42 : decode cX12_findNeeds 42 = .ok (.istore_n 3, 1) := by decide +kernel
theorem dX12_findNeeds_43 : decode cX12_findNeeds 43 = .ok (.aload_n 0, 1) := by decide +kernel
theorem dX12_findNeeds_44 : decode cX12_findNeeds 44 = .ok (.getfield 144, 3) := by decide +kernel
theorem dX12_findNeeds_47 : decode cX12_findNeeds 47 = .ok (.aload_n 0, 1) := by decide +kernel
theorem dX12_findNeeds_48 : decode cX12_findNeeds 48 = .ok (.iload_n 1, 1) := by decide +kernel
theorem dX12_findNeeds_49 : decode cX12_findNeeds 49 = .ok (.iconst 0, 1) := by decide +kernel
theorem dX12_findNeeds_50 : decode cX12_findNeeds 50 = .ok (.invokevirtual 545, 3) := by decide +kernel
theorem dX12_findNeeds_53 : decode cX12_findNeeds 53 = .ok (.laload, 1) := by decide +kernel
theorem dX12_findNeeds_54 : decode cX12_findNeeds 54 = .ok (.iload_n 2, 1) := by decide +kernel
theorem dX12_findNeeds_55 : decode cX12_findNeeds 55 = .ok (.lshr, 1) := by decide +kernel
theorem dX12_findNeeds_56 : decode cX12_findNeeds 56 = .ok (.lconst 1, 1) := by decide +kernel
theorem dX12_findNeeds_57 : decode cX12_findNeeds 57 = .ok (.land, 1) := by decide +kernel
theorem dX12_findNeeds_58 : decode cX12_findNeeds 58 = .ok (.lconst 0, 1) := by decide +kernel
theorem dX12_findNeeds_59 : decode cX12_findNeeds 59 = .ok (.lcmp, 1) := by decide +kernel
theorem dX12_findNeeds_60 : decode cX12_findNeeds 60 = .ok (.ifCond .ne 61, 3) := by decide +kernel
theorem dX12_findNeeds_63 : decode cX12_findNeeds 63 = .ok (.iconst 0, 1) := by decide +kernel
theorem dX12_findNeeds_64 : decode cX12_findNeeds 64 = .ok (.istore 4, 2) := by decide +kernel
theorem dX12_findNeeds_66 : decode cX12_findNeeds 66 = .ok (.iload 4, 2) := by decide +kernel
theorem dX12_findNeeds_68 : decode cX12_findNeeds 68 = .ok (.bipush 64, 2) := by decide +kernel
theorem dX12_findNeeds_70 : decode cX12_findNeeds 70 = .ok (.if_icmp .ge 27, 3) := by decide +kernel
theorem dX12_findNeeds_73 : decode cX12_findNeeds 73 = .ok (.aload_n 0, 1) := by decide +kernel
theorem dX12_findNeeds_74 : decode cX12_findNeeds 74 = .ok (.getfield 184, 3) := by decide +kernel
theorem dX12_findNeeds_77 : decode cX12_findNeeds 77 = .ok (.iload 4, 2) := by decide +kernel
theorem dX12_findNeeds_79 : decode cX12_findNeeds 79 = .ok (.iload 4, 2) := by decide +kernel
theorem dX12_findNeeds_81 : decode cX12_findNeeds 81 = .ok (.iload_n 2, 1) := by decide +kernel
theorem dX12_findNeeds_82 : decode cX12_findNeeds 82 = .ok (.if_icmp .eq 7, 3) := by decide +kernel
theorem dX12_findNeeds_85 : decode cX12_findNeeds 85 = .ok (.iconst 1, 1) := by decide +kernel
theorem dX12_findNeeds_86 : decode cX12_findNeeds 86 = .ok (.goto 4, 3) := by decide +kernel
theorem dX12_findNeeds_89 : decode cX12_findNeeds 89 = .ok (.iconst 0, 1) := by decide +kernel
theorem dX12_findNeeds_90 : decode cX12_findNeeds 90 = .ok (.bastore, 1) := by decide +kernel
theorem dX12_findNeeds_91 : decode cX12_findNeeds 91 = .ok (.iinc 4 1, 3) := by decide +kernel
theorem dX12_findNeeds_94 : decode cX12_findNeeds 94 = .ok (.goto (-28), 3) := by decide +kernel
theorem dX12_findNeeds_97 : decode cX12_findNeeds 97 = .ok (.aload_n 0, 1) := by decide +kernel
theorem dX12_findNeeds_98 : decode cX12_findNeeds 98 = .ok (.getfield 134, 3) := by decide +kernel
theorem dX12_findNeeds_101 : decode cX12_findNeeds 101 = .ok (.iload_n 1, 1) := by decide +kernel
theorem dX12_findNeeds_102 : decode cX12_findNeeds 102 = .ok (.aload_n 0, 1) := by decide +kernel
theorem dX12_findNeeds_103 : decode cX12_findNeeds 103 = .ok (.aload_n 0, 1) := by decide +kernel
theorem dX12_findNeeds_104 : decode cX12_findNeeds 104 = .ok (.iload_n 3, 1) := by decide +kernel
theorem dX12_findNeeds_105 : decode cX12_findNeeds 105 = .ok (.invokevirtual 567, 3) := by decide +kernel
theorem dX12_findNeeds_108 : decode cX12_findNeeds 108 = .ok (.iload_n 3, 1) := by decide +kernel
theorem dX12_findNeeds_109 : decode cX12_findNeeds 109 = .ok (.invokevirtual 564, 3) := by decide +kernel
theorem dX12_findNeeds_112 : decode cX12_findNeeds 112 = .ok (.ifCond .ne 7, 3) := by decide +kernel
theorem dX12_findNeeds_115 : decode cX12_findNeeds 115 = .ok (.iconst 1, 1) := by decide +kernel
theorem dX12_findNeeds_116 : decode cX12_findNeeds 116 = .ok (.goto 4, 3) := by decide +kernel
theorem dX12_findNeeds_119 : decode cX12_findNeeds 119 = .ok (.iconst 0, 1) := by decide +kernel
theorem dX12_findNeeds_120 : decode cX12_findNeeds 120 = .ok (.bastore, 1) := by decide +kernel
theorem dX12_findNeeds_121 : decode cX12_findNeeds 121 = .ok (.iinc 1 1, 3) := by decide +kernel
theorem dX12_findNeeds_124 : decode cX12_findNeeds 124 = .ok (.goto (-122), 3) := by decide +kernel
theorem dX12_findNeeds_127 : decode cX12_findNeeds 127 = .ok (.return_, 1) := by decide +kernel
theorem dX12_findTables_0 : decode cX12_findTables 0 = .ok (.iconst 0, 1) := by decide +kernel
theorem dX12_findTables_1 : decode cX12_findTables 1 = .ok (.istore_n 1, 1) := by decide +kernel
theorem dX12_findTables_2 : decode cX12_findTables 2 = .ok (.iload_n 1, 1) := by decide +kernel
theorem dX12_findTables_3 : decode cX12_findTables 3 = .ok (.sipush 256, 3) := by decide +kernel
theorem dX12_findTables_6 : decode cX12_findTables 6 = .ok (.aload_n 0, 1) := by decide +kernel
theorem dX12_findTables_7 : decode cX12_findTables 7 = .ok (.getfield 486, 3) := by decide +kernel
theorem dX12_findTables_10 : decode cX12_findTables 10 = .ok (.imul, 1) := by decide +kernel
theorem dX12_findTables_11 : decode cX12_findTables 11 = .ok (.if_icmp .ge 16, 3) := by decide +kernel
theorem dX12_findTables_14 : decode cX12_findTables 14 = .ok (.aload_n 0, 1) := by decide +kernel
theorem dX12_findTables_15 : decode cX12_findTables 15 = .ok (.getfield 178, 3) := by decide +kernel
theorem dX12_findTables_18 : decode cX12_findTables 18 = .ok (.iload_n 1, 1) := by decide +kernel
theorem dX12_findTables_19 : decode cX12_findTables 19 = .ok (.iconst 0, 1) := by decide +kernel
theorem dX12_findTables_20 : decode cX12_findTables 20 = .ok (.bastore, 1) := by decide +kernel
theorem dX12_findTables_21 : decode cX12_findTables 21 = .ok (.iinc 1 1, 3) := by decide +kernel
theorem dX12_findTables_24 : decode cX12_findTables 24 = .ok (.goto (-22), 3) := by decide +kernel
theorem dX12_findTables_27 : decode cX12_findTables 27 = .ok (.iconst 1, 1) := by decide +kernel
theorem dX12_findTables_28 : decode cX12_findTables 28 = .ok (.istore_n 1, 1) := by decide +kernel
theorem dX12_findTables_29 : decode cX12_findTables 29 = .ok (.iload_n 1, 1) := by decide +kernel
theorem dX12_findTables_30 : decode cX12_findTables 30 = .ok (.ifCond .eq 137, 3) := by decide +kernel
theorem dX12_findTables_33 : decode cX12_findTables 33 = .ok (.iconst 0, 1) := by decide +kernel
theorem dX12_findTables_34 : decode cX12_findTables 34 = .ok (.istore_n 1, 1) := by decide +kernel
theorem dX12_findTables_35 : decode cX12_findTables 35 = .ok (.iconst 0, 1) := by decide +kernel
theorem dX12_findTables_36 : decode cX12_findTables 36 = .ok (.istore_n 2, 1) := by decide +kernel
theorem dX12_findTables_37 : decode cX12_findTables 37 = .ok (.iload_n 2, 1) := by decide +kernel
theorem dX12_findTables_38 : decode cX12_findTables 38 = .ok (.aload_n 0, 1) := by decide +kernel
theorem dX12_findTables_39 : decode cX12_findTables 39 = .ok (.getfield 486, 3) := by decide +kernel
theorem dX12_findTables_42 : decode cX12_findTables 42 = .ok (.if_icmp .ge 122, 3) := by decide +kernel
theorem dX12_findTables_45 : decode cX12_findTables 45 = .ok (.aload_n 0, 1) := by decide +kernel
theorem dX12_findTables_46 : decode cX12_findTables 46 = .ok (.getfield 171, 3) := by decide +kernel
theorem dX12_findTables_49 : decode cX12_findTables 49 = .ok (.iload_n 2, 1) := by decide +kernel
theorem dX12_findTables_50 : decode cX12_findTables 50 = .ok (.iaload, 1) := by decide +kernel
theorem dX12_findTables_51 : decode cX12_findTables 51 = .ok (.istore_n 3, 1) := by decide +kernel
theorem dX12_findTables_52 : decode cX12_findTables 52 = .ok (.iconst 0, 1) := by decide +kernel
theorem dX12_findTables_53 : decode cX12_findTables 53 = .ok (.istore 4, 2) := by decide +kernel
theorem dX12_findTables_55 : decode cX12_findTables 55 = .ok (.iload 4, 2) := by decide +kernel
theorem dX12_findTables_57 : decode cX12_findTables 57 = .ok (.iconst 1, 1) := by decide +kernel
theorem dX12_findTables_58 : decode cX12_findTables 58 = .ok (.iload_n 3, 1) := by decide +kernel
theorem dX12_findTables_59 : decode cX12_findTables 59 = .ok (.ishl, 1) := by decide +kernel
theorem dX12_findTables_60 : decode cX12_findTables 60 = .ok (.if_icmp .ge 98, 3) := by decide +kernel
theorem dX12_findTables_63 : decode cX12_findTables 63 = .ok (.iconst 0, 1) := by decide +kernel
theorem dX12_findTables_64 : decode cX12_findTables 64 = .ok (.istore 5, 2) := by decide +kernel
theorem dX12_findTables_66 : decode cX12_findTables 66 = .ok (.iload 5, 2) := by decide +kernel
theorem dX12_findTables_68 : decode cX12_findTables 68 = .ok (.iload_n 3, 1) := by decide +kernel
theorem dX12_findTables_69 : decode cX12_findTables 69 = .ok (.if_icmp .ge 32, 3) := by decide +kernel
theorem dX12_findTables_72 : decode cX12_findTables 72 = .ok (.aload_n 0, 1) := by decide +kernel
theorem dX12_findTables_73 : decode cX12_findTables 73 = .ok (.getfield 184, 3) := by decide +kernel
theorem dX12_findTables_76 : decode cX12_findTables 76 = .ok (.iload 5, 2) := by decide +kernel
theorem dX12_findTables_78 : decode cX12_findTables 78 = .ok (.iload 4, 2) := by decide +kernel
theorem dX12_findTables_80 : decode cX12_findTables 80 = .ok (.iload 5, 2) := by decide +kernel
theorem dX12_findTables_82 : decode cX12_findTables 82 = .ok (.ishr, 1) := by decide +kernel
theorem dX12_findTables_83 : decode cX12_findTables 83 = .ok (.iconst 1, 1) := by decide +kernel
theorem dX12_findTables_84 : decode cX12_findTables 84 = .ok (.iand, 1) := by decide +kernel
theorem dX12_findTables_85 : decode cX12_findTables 85 = .ok (.iconst 1, 1) := by decide +kernel
theorem dX12_findTables_86 : decode cX12_findTables 86 = .ok (.if_icmp .ne 7, 3) := by decide +kernel
theorem dX12_findTables_89 : decode cX12_findTables 89 = .ok (.iconst 1, 1) := by decide +kernel
theorem dX12_findTables_90 : decode cX12_findTables 90 = .ok (.goto 4, 3) := by decide +kernel
theorem dX12_findTables_93 : decode cX12_findTables 93 = .ok (.iconst 0, 1) := by decide +kernel
theorem dX12_findTables_94 : decode cX12_findTables 94 = .ok (.bastore, 1) := by decide +kernel
theorem dX12_findTables_95 : decode cX12_findTables 95 = .ok (.iinc 5 1, 3) := by decide +kernel
theorem dX12_findTables_98 : decode cX12_findTables 98 = .ok (.goto (-32), 3) := by decide +kernel
theorem dX12_findTables_101 : decode cX12_findTables 101 = .ok (.aload_n 0, 1) := by decide +kernel
theorem dX12_findTables_102 : decode cX12_findTables 102 = .ok (.getfield 178, 3) := by decide +kernel
theorem dX12_findTables_105 : decode cX12_findTables 105 = .ok (.sipush 256, 3) := by decide +kernel
theorem dX12_findTables_108 : decode cX12_findTables 108 = .ok (.iload_n 2, 1) := by decide +kernel
theorem dX12_findTables_109 : decode cX12_findTables 109 = .ok (.imul, 1) := by decide +kernel
theorem dX12_findTables_110 : decode cX12_findTables 110 = .ok (.iload 4, 2) := by decide +kernel
theorem dX12_findTables_112 : decode cX12_findTables 112 = .ok (.iadd, 1) := by decide +kernel
theorem dX12_findTables_113 : decode cX12_findTables 113 = .ok (.baload, 1) := by decide +kernel
theorem dX12_findTables_114 : decode cX12_findTables 114 = .ok (.ifCond .ne 38, 3) := by decide +kernel
theorem dX12_findTables_117 : decode cX12_findTables 117 = .ok (.aload_n 0, 1) := by decide +kernel
theorem dX12_findTables_118 : decode cX12_findTables 118 = .ok (.aload_n 0, 1) := by decide +kernel
theorem dX12_findTables_119 : decode cX12_findTables 119 = .ok (.getfield 162, 3) := by decide +kernel
theorem dX12_findTables_122 : decode cX12_findTables 122 = .ok (.iload_n 2, 1) := by decide +kernel
theorem dX12_findTables_123 : decode cX12_findTables 123 = .ok (.iaload, 1) := by decide +kernel
theorem dX12_findTables_124 : decode cX12_findTables 124 = .ok (.aload_n 0, 1) := by decide +kernel
theorem dX12_findTables_125 : decode cX12_findTables 125 = .ok (.getfield 165, 3) := by decide +kernel
theorem dX12_findTables_128 : decode cX12_findTables 128 = .ok (.iload_n 2, 1) := by decide +kernel
theorem dX12_findTables_129 : decode cX12_findTables 129 = .ok (.iaload, 1) := by decide +kernel
theorem dX12_findTables_130 : decode cX12_findTables 130 = .ok (.invokevirtual 564, 3) := by decide +kernel
theorem dX12_findTables_133 : decode cX12_findTables 133 = .ok (.ifCond .eq 19, 3) := by decide +kernel
theorem dX12_findTables_136 : decode cX12_findTables 136 = .ok (.aload_n 0, 1) := by decide +kernel
theorem dX12_findTables_137 : decode cX12_findTables 137 = .ok (.getfield 178, 3) := by decide +kernel
theorem dX12_findTables_140 : decode cX12_findTables 140 = .ok (.sipush 256, 3) := by decide +kernel
theorem dX12_findTables_143 : decode cX12_findTables 143 = .ok (.iload_n 2, 1) := by decide +kernel
theorem dX12_findTables_144 : decode cX12_findTables 144 = .ok (.imul, 1) := by decide +kernel
theorem dX12_findTables_145 : decode cX12_findTables 145 = .ok (.iload 4, 2) := by decide +kernel
theorem dX12_findTables_147 : decode cX12_findTables 147 = .ok (.iadd, 1) := by decide +kernel
theorem dX12_findTables_148 : decode cX12_findTables 148 = .ok (.iconst 1, 1) := by decide +kernel
theorem dX12_findTables_149 : decode cX12_findTables 149 = .ok (.bastore, 1) := by decide +kernel
theorem dX12_findTables_150 : decode cX12_findTables 150 = .ok (.iconst 1, 1) := by decide +kernel
theorem dX12_findTables_151 : decode cX12_findTables 151 = .ok (.istore_n 1, 1) := by decide +kernel
theorem dX12_findTables_152 : decode cX12_findTables 152 = .ok (.iinc 4 1, 3) := by decide +kernel
theorem dX12_findTables_155 : decode cX12_findTables 155 = .ok (.goto (-100), 3) := by decide +kernel
theorem dX12_findTables_158 : decode cX12_findTables 158 = .ok (.iinc 2 1, 3) := by decide +kernel
theorem dX12_findTables_161 : decode cX12_findTables 161 = .ok (.goto (-124), 3) := by decide +kernel
theorem dX12_findTables_164 : decode cX12_findTables 164 = .ok (.goto (-135), 3) := by decide +kernel
theorem dX12_findTables_167 : decode cX12_findTables 167 = .ok (.return_, 1) := by decide +kernel
theorem dX12_firstWithin_0 : decode cX12_firstWithin 0 = .ok (.iload_n 1, 1) := by decide +kernel
theorem dX12_firstWithin_1 : decode cX12_firstWithin 1 = .ok (.istore_n 2, 1) := by decide +kernel
theorem dX12_firstWithin_2 : decode cX12_firstWithin 2 = .ok (.aload_n 0, 1) := by decide +kernel
theorem dX12_firstWithin_3 : decode cX12_firstWithin 3 = .ok (.getfield 128, 3) := by decide +kernel
theorem dX12_firstWithin_6 : decode cX12_firstWithin 6 = .ok (.iload_n 2, 1) := by decide +kernel
theorem dX12_firstWithin_7 : decode cX12_firstWithin 7 = .ok (.iaload, 1) := by decide +kernel
theorem dX12_firstWithin_8 : decode cX12_firstWithin 8 = .ok (.ifCond .le 13, 3) := by decide +kernel
theorem dX12_firstWithin_11 : decode cX12_firstWithin 11 = .ok (.aload_n 0, 1) := by decide +kernel
theorem dX12_firstWithin_12 : decode cX12_firstWithin 12 = .ok (.iload_n 2, 1) := by decide +kernel
theorem dX12_firstWithin_13 : decode cX12_firstWithin 13 = .ok (.iconst 0, 1) := by decide +kernel
theorem dX12_firstWithin_14 : decode cX12_firstWithin 14 = .ok (.invokevirtual 545, 3) := by decide +kernel
theorem dX12_firstWithin_17 : decode cX12_firstWithin 17 = .ok (.istore_n 2, 1) := by decide +kernel
theorem dX12_firstWithin_18 : decode cX12_firstWithin 18 = .ok (.goto (-16), 3) := by decide +kernel
theorem dX12_firstWithin_21 : decode cX12_firstWithin 21 = .ok (.iload_n 2, 1) := by decide +kernel
theorem dX12_firstWithin_22 : decode cX12_firstWithin 22 = .ok (.ireturn, 1) := by decide +kernel
theorem dX12_isNeeded_0 : decode cX12_isNeeded 0 = .ok (.aload_n 0, 1) := by decide +kernel
theorem dX12_isNeeded_1 : decode cX12_isNeeded 1 = .ok (.getfield 171, 3) := by decide +kernel
theorem dX12_isNeeded_4 : decode cX12_isNeeded 4 = .ok (.iload_n 1, 1) := by decide +kernel
theorem dX12_isNeeded_5 : decode cX12_isNeeded 5 = .ok (.iaload, 1) := by decide +kernel
theorem dX12_isNeeded_6 : decode cX12_isNeeded 6 = .ok (.istore_n 3, 1) := by decide +kernel
theorem dX12_isNeeded_7 : decode cX12_isNeeded 7 = .ok (.aload_n 0, 1) := by decide +kernel
theorem dX12_isNeeded_8 : decode cX12_isNeeded 8 = .ok (.iload_n 1, 1) := by decide +kernel
theorem dX12_isNeeded_9 : decode cX12_isNeeded 9 = .ok (.iconst 1, 1) := by decide +kernel
theorem dX12_isNeeded_10 : decode cX12_isNeeded 10 = .ok (.iload_n 3, 1) := by decide +kernel
theorem dX12_isNeeded_11 : decode cX12_isNeeded 11 = .ok (.ishl, 1) := by decide +kernel
theorem dX12_isNeeded_12 : decode cX12_isNeeded 12 = .ok (.iconst 1, 1) := by decide +kernel
theorem dX12_isNeeded_13 : decode cX12_isNeeded 13 = .ok (.isub, 1) := by decide +kernel
theorem dX12_isNeeded_14 : decode cX12_isNeeded 14 = .ok (.iconst 1, 1) := by decide +kernel
theorem dX12_isNeeded_15 : decode cX12_isNeeded 15 = .ok (.iload_n 2, 1) := by decide +kernel
theorem dX12_isNeeded_16 : decode cX12_isNeeded 16 = .ok (.ishl, 1) := by decide +kernel
theorem dX12_isNeeded_17 : decode cX12_isNeeded 17 = .ok (.iconst (-1), 1) := by decide +kernel
theorem dX12_isNeeded_18 : decode cX12_isNeeded 18 = .ok (.ixor, 1) := by decide +kernel
theorem dX12_isNeeded_19 : decode cX12_isNeeded 19 = .ok (.iand, 1) := by decide +kernel
theorem dX12_isNeeded_20 : decode cX12_isNeeded 20 = .ok (.invokevirtual 554, 3) := by decide +kernel
theorem dX12_isNeeded_23 : decode cX12_isNeeded 23 = .ok (.ifCond .ne 7, 3) := by decide +kernel
theorem dX12_isNeeded_26 : decode cX12_isNeeded 26 = .ok (.iconst 1, 1) := by decide +kernel
theorem dX12_isNeeded_27 : decode cX12_isNeeded 27 = .ok (.goto 4, 3) := by decide +kernel
theorem dX12_isNeeded_30 : decode cX12_isNeeded 30 = .ok (.iconst 0, 1) := by decide +kernel
theorem dX12_isNeeded_31 : decode cX12_isNeeded 31 = .ok (.ireturn, 1) := by decide +kernel
theorem dX12_partBit_0 : decode cX12_partBit 0 = .ok (.aload_n 0, 1) := by decide +kernel
theorem dX12_partBit_1 : decode cX12_partBit 1 = .ok (.getfield 128, 3) := by decide +kernel
theorem dX12_partBit_4 : decode cX12_partBit 4 = .ok (.iload_n 1, 1) := by decide +kernel
theorem dX12_partBit_5 : decode cX12_partBit 5 = .ok (.iaload, 1) := by decide +kernel
theorem dX12_partBit_6 : decode cX12_partBit 6 = .ok (.istore_n 2, 1) := by decide +kernel
theorem dX12_partBit_7 : decode cX12_partBit 7 = .ok (.aload_n 0, 1) := by decide +kernel
theorem dX12_partBit_8 : decode cX12_partBit 8 = .ok (.getfield 119, 3) := by decide +kernel
theorem dX12_partBit_11 : decode cX12_partBit 11 = .ok (.iload_n 1, 1) := by decide +kernel
theorem dX12_partBit_12 : decode cX12_partBit 12 = .ok (.iaload, 1) := by decide +kernel
theorem dX12_partBit_13 : decode cX12_partBit 13 = .ok (.tableswitch 239 0 13 #[219, 239, 239, 153, 239, 119, 233, 239, 239, 239, 239, 117, 83, 71], 71) := by decide +kernel
theorem dX12_partBit_84 : decode cX12_partBit 84 = .ok (.aload_n 0, 1) := by decide +kernel
theorem dX12_partBit_85 : decode cX12_partBit 85 = .ok (.getfield 184, 3) := by decide +kernel
theorem dX12_partBit_88 : decode cX12_partBit 88 = .ok (.aload_n 0, 1) := by decide +kernel
theorem dX12_partBit_89 : decode cX12_partBit 89 = .ok (.getfield 122, 3) := by decide +kernel
theorem dX12_partBit_92 : decode cX12_partBit 92 = .ok (.iload_n 1, 1) := by decide +kernel
theorem dX12_partBit_93 : decode cX12_partBit 93 = .ok (.iaload, 1) := by decide +kernel
theorem dX12_partBit_94 : decode cX12_partBit 94 = .ok (.baload, 1) := by decide +kernel
theorem dX12_partBit_95 : decode cX12_partBit 95 = .ok (.ireturn, 1) := by decide +kernel
theorem dX12_partBit_96 : decode cX12_partBit 96 = .ok (.aload_n 0, 1) := by decide +kernel
theorem dX12_partBit_97 : decode cX12_partBit 97 = .ok (.getfield 171, 3) := by decide +kernel
theorem dX12_partBit_100 : decode cX12_partBit 100 = .ok (.aload_n 0, 1) := by decide +kernel
theorem dX12_partBit_101 : decode cX12_partBit 101 = .ok (.getfield 122, 3) := by decide +kernel
theorem dX12_partBit_104 : decode cX12_partBit 104 = .ok (.iload_n 1, 1) := by decide +kernel
theorem dX12_partBit_105 : decode cX12_partBit 105 = .ok (.iaload, 1) := by decide +kernel
theorem dX12_partBit_106 : decode cX12_partBit 106 = .ok (.iaload, 1) := by decide +kernel
theorem dX12_partBit_107 : decode cX12_partBit 107 = .ok (.ifCond .gt 17, 3) := by decide +kernel
theorem dX12_partBit_110 : decode cX12_partBit 110 = .ok (.aload_n 0, 1) := by decide +kernel
theorem dX12_partBit_111 : decode cX12_partBit 111 = .ok (.aload_n 0, 1) := by decide +kernel
theorem dX12_partBit_112 : decode cX12_partBit 112 = .ok (.getfield 122, 3) := by decide +kernel
theorem dX12_partBit_115 : decode cX12_partBit 115 = .ok (.iload_n 1, 1) := by decide +kernel
theorem dX12_partBit_116 : decode cX12_partBit 116 = .ok (.iaload, 1) := by decide +kernel
theorem dX12_partBit_117 : decode cX12_partBit 117 = .ok (.iconst 0, 1) := by decide +kernel
theorem dX12_partBit_118 : decode cX12_partBit 118 = .ok (.invokevirtual 554, 3) := by decide +kernel
theorem dX12_partBit_121 : decode cX12_partBit 121 = .ok (.ifCond .eq 7, 3) := by decide +kernel
theorem dX12_partBit_124 : decode cX12_partBit 124 = .ok (.iconst 1, 1) := by decide +kernel
theorem dX12_partBit_125 : decode cX12_partBit 125 = .ok (.goto 4, 3) := by decide +kernel
theorem dX12_partBit_128 : decode cX12_partBit 128 = .ok (.iconst 0, 1) := by decide +kernel
theorem dX12_partBit_129 : decode cX12_partBit 129 = .ok (.ireturn, 1) := by decide +kernel
theorem dX12_partBit_130 : decode cX12_partBit 130 = .ok (.iconst 0, 1) := by decide +kernel
theorem dX12_partBit_131 : decode cX12_partBit 131 = .ok (.ireturn, 1) := by decide +kernel
theorem dX12_partBit_132 : decode cX12_partBit 132 = .ok (.aload_n 0, 1) := by decide +kernel
theorem dX12_partBit_133 : decode cX12_partBit 133 = .ok (.getfield 181, 3) := by decide +kernel
theorem dX12_partBit_136 : decode cX12_partBit 136 = .ok (.aload_n 0, 1) := by decide +kernel
theorem dX12_partBit_137 : decode cX12_partBit 137 = .ok (.iload_n 1, 1) := by decide +kernel
theorem dX12_partBit_138 : decode cX12_partBit 138 = .ok (.iconst 0, 1) := by decide +kernel
theorem dX12_partBit_139 : decode cX12_partBit 139 = .ok (.invokevirtual 545, 3) := by decide +kernel
theorem dX12_partBit_142 : decode cX12_partBit 142 = .ok (.baload, 1) := by decide +kernel
theorem dX12_partBit_143 : decode cX12_partBit 143 = .ok (.ifCond .eq 21, 3) := by decide +kernel
theorem dX12_partBit_146 : decode cX12_partBit 146 = .ok (.aload_n 0, 1) := by decide +kernel
theorem dX12_partBit_147 : decode cX12_partBit 147 = .ok (.getfield 181, 3) := by decide +kernel
theorem dX12_partBit_150 : decode cX12_partBit 150 = .ok (.aload_n 0, 1) := by decide +kernel
theorem dX12_partBit_151 : decode cX12_partBit 151 = .ok (.iload_n 1, 1) := by decide +kernel
theorem dX12_partBit_152 : decode cX12_partBit 152 = .ok (.iconst 1, 1) := by decide +kernel
theorem dX12_partBit_153 : decode cX12_partBit 153 = .ok (.invokevirtual 545, 3) := by decide +kernel
theorem dX12_partBit_156 : decode cX12_partBit 156 = .ok (.baload, 1) := by decide +kernel
theorem dX12_partBit_157 : decode cX12_partBit 157 = .ok (.ifCond .eq 7, 3) := by decide +kernel
theorem dX12_partBit_160 : decode cX12_partBit 160 = .ok (.iconst 1, 1) := by decide +kernel
theorem dX12_partBit_161 : decode cX12_partBit 161 = .ok (.goto 4, 3) := by decide +kernel
theorem dX12_partBit_164 : decode cX12_partBit 164 = .ok (.iconst 0, 1) := by decide +kernel
theorem dX12_partBit_165 : decode cX12_partBit 165 = .ok (.ireturn, 1) := by decide +kernel
theorem dX12_partBit_166 : decode cX12_partBit 166 = .ok (.iconst 0, 1) := by decide +kernel
theorem dX12_partBit_167 : decode cX12_partBit 167 = .ok (.istore_n 3, 1) := by decide +kernel
theorem dX12_partBit_168 : decode cX12_partBit 168 = .ok (.iconst 1, 1) := by decide +kernel
theorem dX12_partBit_169 : decode cX12_partBit 169 = .ok (.istore 4, 2) := by decide +kernel
theorem dX12_partBit_171 : decode cX12_partBit 171 = .ok (.iload 4, 2) := by decide +kernel
theorem dX12_partBit_173 : decode cX12_partBit 173 = .ok (.iload_n 2, 1) := by decide +kernel
theorem dX12_partBit_174 : decode cX12_partBit 174 = .ok (.if_icmp .ge 34, 3) := by decide +kernel
theorem dX12_partBit_177 : decode cX12_partBit 177 = .ok (.iload_n 3, 1) := by decide +kernel
theorem dX12_partBit_178 : decode cX12_partBit 178 = .ok (.ifCond .ne 18, 3) := by decide +kernel
theorem dX12_partBit_181 : decode cX12_partBit 181 = .ok (.aload_n 0, 1) := by decide +kernel
theorem dX12_partBit_182 : decode cX12_partBit 182 = .ok (.getfield 181, 3) := by decide +kernel
theorem dX12_partBit_185 : decode cX12_partBit 185 = .ok (.aload_n 0, 1) := by decide +kernel
theorem dX12_partBit_186 : decode cX12_partBit 186 = .ok (.iload_n 1, 1) := by decide +kernel
theorem dX12_partBit_187 : decode cX12_partBit 187 = .ok (.iload 4, 2) := by decide +kernel
theorem dX12_partBit_189 : decode cX12_partBit 189 = .ok (.invokevirtual 545, 3) := by decide +kernel
theorem dX12_partBit_192 : decode cX12_partBit 192 = .ok (.baload, 1) := by decide +kernel
theorem dX12_partBit_193 : decode cX12_partBit 193 = .ok (.ifCond .eq 7, 3) := by decide +kernel
theorem dX12_partBit_196 : decode cX12_partBit 196 = .ok (.iconst 1, 1) := by decide +kernel
theorem dX12_partBit_197 : decode cX12_partBit 197 = .ok (.goto 4, 3) := by decide +kernel
theorem dX12_partBit_200 : decode cX12_partBit 200 = .ok (.iconst 0, 1) := by decide +kernel
theorem dX12_partBit_201 : decode cX12_partBit 201 = .ok (.istore_n 3, 1) := by decide +kernel
theorem dX12_partBit_202 : decode cX12_partBit 202 = .ok (.iinc 4 1, 3) := by decide +kernel
theorem dX12_partBit_205 : decode cX12_partBit 205 = .ok (.goto (-34), 3) := by decide +kernel
theorem dX12_partBit_208 : decode cX12_partBit 208 = .ok (.aload_n 0, 1) := by decide +kernel
theorem dX12_partBit_209 : decode cX12_partBit 209 = .ok (.getfield 181, 3) := by decide +kernel
theorem dX12_partBit_212 : decode cX12_partBit 212 = .ok (.aload_n 0, 1) := by decide +kernel
theorem dX12_partBit_213 : decode cX12_partBit 213 = .ok (.iload_n 1, 1) := by decide +kernel
theorem dX12_partBit_214 : decode cX12_partBit 214 = .ok (.iconst 0, 1) := by decide +kernel
theorem dX12_partBit_215 : decode cX12_partBit 215 = .ok (.invokevirtual 545, 3) := by decide +kernel
theorem dX12_partBit_218 : decode cX12_partBit 218 = .ok (.baload, 1) := by decide +kernel
theorem dX12_partBit_219 : decode cX12_partBit 219 = .ok (.ifCond .eq 11, 3) := by decide +kernel
theorem dX12_partBit_222 : decode cX12_partBit 222 = .ok (.iload_n 3, 1) := by decide +kernel
theorem dX12_partBit_223 : decode cX12_partBit 223 = .ok (.ifCond .eq 7, 3) := by decide +kernel
theorem dX12_partBit_226 : decode cX12_partBit 226 = .ok (.iconst 1, 1) := by decide +kernel
theorem dX12_partBit_227 : decode cX12_partBit 227 = .ok (.goto 4, 3) := by decide +kernel
theorem dX12_partBit_230 : decode cX12_partBit 230 = .ok (.iconst 0, 1) := by decide +kernel
theorem dX12_partBit_231 : decode cX12_partBit 231 = .ok (.ireturn, 1) := by decide +kernel
theorem dX12_partBit_232 : decode cX12_partBit 232 = .ok (.aload_n 0, 1) := by decide +kernel
theorem dX12_partBit_233 : decode cX12_partBit 233 = .ok (.getfield 181, 3) := by decide +kernel
theorem dX12_partBit_236 : decode cX12_partBit 236 = .ok (.aload_n 0, 1) := by decide +kernel
theorem dX12_partBit_237 : decode cX12_partBit 237 = .ok (.iload_n 1, 1) := by decide +kernel
theorem dX12_partBit_238 : decode cX12_partBit 238 = .ok (.iload_n 2, 1) := by decide +kernel
theorem dX12_partBit_239 : decode cX12_partBit 239 = .ok (.iconst 1, 1) := by decide +kernel
theorem dX12_partBit_240 : decode cX12_partBit 240 = .ok (.isub, 1) := by decide +kernel
theorem dX12_partBit_241 : decode cX12_partBit 241 = .ok (.invokevirtual 545, 3) := by decide +kernel
theorem dX12_partBit_244 : decode cX12_partBit 244 = .ok (.baload, 1) := by decide +kernel
theorem dX12_partBit_245 : decode cX12_partBit 245 = .ok (.ireturn, 1) := by decide +kernel
theorem dX12_partBit_246 : decode cX12_partBit 246 = .ok (.aload_n 0, 1) := by decide +kernel
theorem dX12_partBit_247 : decode cX12_partBit 247 = .ok (.iload_n 1, 1) := by decide +kernel
theorem dX12_partBit_248 : decode cX12_partBit 248 = .ok (.invokevirtual 558, 3) := by decide +kernel
theorem dX12_partBit_251 : decode cX12_partBit 251 = .ok (.ireturn, 1) := by decide +kernel
theorem dX12_partBit_252 : decode cX12_partBit 252 = .ok (.iconst 1, 1) := by decide +kernel
theorem dX12_partBit_253 : decode cX12_partBit 253 = .ok (.ireturn, 1) := by decide +kernel
theorem cw_X12_appliedBit : CWV yX12_appliedBit cX12_appliedBit 7 (some .boolean) RX12 1 := ⟨mG_2763, mG_2762, mG_172, mG_226, by decide +kernel⟩
theorem cw_X12_bitOfPart : CWV yX12_bitOfPart cX12_bitOfPart 7 (some .boolean) RX12 2 := ⟨mG_2751, mG_2750, mG_169, mG_226, by decide +kernel⟩
theorem cw_X12_firstWithin : CWV yX12_firstWithin cX12_firstWithin 3 (some .int) RX12 1 := ⟨mG_2771, mG_2770, mG_174, mG_226, by decide +kernel⟩
theorem cw_X12_partBit : CWV yX12_partBit cX12_partBit 5 (some .boolean) RX12 1 := ⟨mG_2755, mG_2754, mG_170, mG_226, by decide +kernel⟩
section MX12_partBit
variable {p : Program} {l : Launch} {e : Env} {R : Room} {s : State} {m : MethodId} {args : Array Value} {below : List Frame} {meth : Method} {c : Code} {dC : Nat → ClassId} {dI : Nat → Nat → Nat} {Z : ZZ} {A : Nat → Prop} {ad : Nat → Nat} {kc : Nat → ClassId} {r : Int32} {τ : S5}
set_option maxHeartbeats 4000000 in
set_option maxRecDepth 100000 in
theorem w_X12_partBit_b201 {σ : S5} {rec171 : Int32 → Int32 → Int32 → Int32 → S5 → Option (Int32 × S5)} {v1 : Int32} {v2 : Int32} {v4 : Int32} {u0 : Int32} {H : Heap} {locs : List Loc} {ls : Array Slot} (S : CallFix p m c cX12_partBit 5 s args uG RX12) (hr : meth.sig.returnType = (some .boolean)) (hk : meth.locks = false) (hR : 2 ≤ R.frames ∧ 48 ≤ R.locals)
    (hrec171 : ∀ (v1 : Int32) (v2 : Int32) (v3 : Int32) (v4 : Int32) (σ : S5) (H : Heap) (locs : List Loc) (ls : Array Slot), gX (dC, dI) (tM kc) (wM ad kc) Z A s σ H locs → lv_has ls 5 [(0, .ref (ad 0)), (1, .int v1), (2, .int v2), (3, .int v3), (4, .int v4)] → rec171 v1 v2 v3 v4 σ = some (r, τ) → W p l e R s m args below meth c H locs 0 0 (MQ below (gQi (dC, dI) (tM kc) (wM ad kc) A r τ) args s 0 0 A) (F0 m 171 ls []))
    (X : gX (dC, dI) (tM kc) (wM ad kc) Z A s σ H locs) (hl : lv_has ls 5 [(0, .ref (ad 0)), (1, .int v1), (2, .int v2), (4, .int v4)]) (hg : f_X12_partBit_b201 rec171 v1 v2 v4 u0 σ = some (r, τ)) : W p l e R s m args below meth c H locs 0 0 (MQ below (gQi (dC, dI) (tM kc) (wM ad kc) A r τ) args s 0 0 A) (F0 m 201 ls [.int u0]) := by
  have hx := S.1
  have hb := S.2.1
  have hown := S.2.2.2.1
  have hu := S.2.2.2.2
  unfold f_X12_partBit_b201 at hg
  refine lv_istore_n (lv' := [(3, .int u0), (0, .ref (ad 0)), (1, .int v1), (2, .int v2), (4, .int v4)]) hx hb dX12_partBit_201 rfl hl (by decide) rfl (fun ls hl => ?_)
  refine lv_iinc (v := (v4 + 1)) (lv' := [(4, .int (v4 + 1)), (3, .int u0), (0, .ref (ad 0)), (1, .int v1), (2, .int v2)]) hx hb dX12_partBit_202 hl (k := 4) rfl (by rfl) (by decide) rfl (fun ls hl => ?_)
  refine lv_goto (tgt := 171) hx hb dX12_partBit_205 (by decide) ?_
  exact hrec171 _ _ _ _ _ _ _ _ X (lv_sub hl [2, 3, 4, 1, 0] rfl) hg
set_option maxHeartbeats 4000000 in
set_option maxRecDepth 100000 in
theorem w_X12_partBit_b196 {σ : S5} {rec171 : Int32 → Int32 → Int32 → Int32 → S5 → Option (Int32 × S5)} {v1 : Int32} {v2 : Int32} {v4 : Int32} {H : Heap} {locs : List Loc} {ls : Array Slot} (S : CallFix p m c cX12_partBit 5 s args uG RX12) (hr : meth.sig.returnType = (some .boolean)) (hk : meth.locks = false) (hR : 2 ≤ R.frames ∧ 48 ≤ R.locals)
    (hrec171 : ∀ (v1 : Int32) (v2 : Int32) (v3 : Int32) (v4 : Int32) (σ : S5) (H : Heap) (locs : List Loc) (ls : Array Slot), gX (dC, dI) (tM kc) (wM ad kc) Z A s σ H locs → lv_has ls 5 [(0, .ref (ad 0)), (1, .int v1), (2, .int v2), (3, .int v3), (4, .int v4)] → rec171 v1 v2 v3 v4 σ = some (r, τ) → W p l e R s m args below meth c H locs 0 0 (MQ below (gQi (dC, dI) (tM kc) (wM ad kc) A r τ) args s 0 0 A) (F0 m 171 ls []))
    (X : gX (dC, dI) (tM kc) (wM ad kc) Z A s σ H locs) (hl : lv_has ls 5 [(0, .ref (ad 0)), (1, .int v1), (2, .int v2), (4, .int v4)]) (hg : f_X12_partBit_b196 rec171 v1 v2 v4 σ = some (r, τ)) : W p l e R s m args below meth c H locs 0 0 (MQ below (gQi (dC, dI) (tM kc) (wM ad kc) A r τ) args s 0 0 A) (F0 m 196 ls []) := by
  have hx := S.1
  have hb := S.2.1
  have hown := S.2.2.2.1
  have hu := S.2.2.2.2
  unfold f_X12_partBit_b196 at hg
  refine lv_iconst (v := 1) hx hb dX12_partBit_196 (by decide) ?_
  refine lv_goto (tgt := 201) hx hb dX12_partBit_197 (by decide) ?_
  exact w_X12_partBit_b201 S hr hk hR hrec171 X (lv_sub hl [0, 1, 2, 3] rfl) hg
set_option maxHeartbeats 4000000 in
set_option maxRecDepth 100000 in
theorem w_X12_partBit_B171 {σ : S5} {rec171 : Int32 → Int32 → Int32 → Int32 → S5 → Option (Int32 × S5)} {v1 : Int32} {v2 : Int32} {v3 : Int32} {v4 : Int32} {H : Heap} {locs : List Loc} {ls : Array Slot} (S : CallFix p m c cX12_partBit 5 s args uG RX12) (hr : meth.sig.returnType = (some .boolean)) (hk : meth.locks = false) (hR : 2 ≤ R.frames ∧ 48 ≤ R.locals)
    (hrec171 : ∀ (v1 : Int32) (v2 : Int32) (v3 : Int32) (v4 : Int32) (σ : S5) (H : Heap) (locs : List Loc) (ls : Array Slot), gX (dC, dI) (tM kc) (wM ad kc) Z A s σ H locs → lv_has ls 5 [(0, .ref (ad 0)), (1, .int v1), (2, .int v2), (3, .int v3), (4, .int v4)] → rec171 v1 v2 v3 v4 σ = some (r, τ) → W p l e R s m args below meth c H locs 0 0 (MQ below (gQi (dC, dI) (tM kc) (wM ad kc) A r τ) args s 0 0 A) (F0 m 171 ls []))
    (X : gX (dC, dI) (tM kc) (wM ad kc) Z A s σ H locs) (hl : lv_has ls 5 [(0, .ref (ad 0)), (1, .int v1), (2, .int v2), (3, .int v3), (4, .int v4)]) (hg : f_X12_partBit_B171 rec171 v1 v2 v3 v4 σ = some (r, τ)) : W p l e R s m args below meth c H locs 0 0 (MQ below (gQi (dC, dI) (tM kc) (wM ad kc) A r τ) args s 0 0 A) (F0 m 171 ls []) := by
  have hx := S.1
  have hb := S.2.1
  have hown := S.2.2.2.1
  have hu := S.2.2.2.2
  unfold f_X12_partBit_B171 at hg
  refine lv_iload hx hb dX12_partBit_171 (lv_at hl 4 rfl) ?_
  refine lv_iload_n hx hb dX12_partBit_173 rfl (lv_at hl 2 rfl) ?_
  refine lv_icmp_ge (tgt := 208) hx hb dX12_partBit_174 (by decide) (fun c174 => ?_) (fun c174 => ?_)
  · have hg := (if_pos c174).symm.trans hg
    refine lv_aload_n hx hb dX12_partBit_208 rfl (lv_at hl 0 rfl) ?_
    refine wmgR_0_86 S X mG_2136 dX12_partBit_209 ?_
    refine lv_aload_n hx hb dX12_partBit_212 rfl (lv_at hl 0 rfl) ?_
    refine lv_iload_n hx hb dX12_partBit_213 rfl (lv_at hl 1 rfl) ?_
    refine lv_iconst (v := 0) hx hb dX12_partBit_214 (by decide) ?_
    obtain ⟨r215, τ215, hq215, hg⟩ := bd_some hg
    refine gc_Vi (As := [.int v1, .int 0]) (rest := [.ref (ad 57)]) (q0 := 0) (ci := 15) S X (k2_X12_child l dC dI ad kc hq215 H.size) cw_X12_child mG_2736 rfl rfl rfl rfl rfl hl.1 (Nat.le_of_ble_eq_true rfl) dX12_partBit_215 ⟨by omega, by omega⟩ (fun H locs X => ?_)
    obtain ⟨hi218, hg⟩ := gd_some hg
    refine wmlA_50 (v := (xA τ215 50 r215)) S X hi218 rfl dX12_partBit_218 ?_
    refine lv_if_eq (tgt := 230) hx hb dX12_partBit_219 (by decide) (fun c219 => ?_) (fun c219 => ?_)
    · have hg := (if_pos c219).symm.trans hg
      refine lv_iconst (v := 0) hx hb dX12_partBit_230 (by decide) ?_
      obtain ⟨rfl, rfl⟩ := fin_some hg
      exact gr_z S hr hk X (Or.inl rfl) dX12_partBit_231
    · have hg := (if_neg c219).symm.trans hg
      refine lv_iload_n hx hb dX12_partBit_222 rfl (lv_at hl 3 rfl) ?_
      refine lv_if_eq (tgt := 230) hx hb dX12_partBit_223 (by decide) (fun c223 => ?_) (fun c223 => ?_)
      · have hg := (if_pos c223).symm.trans hg
        refine lv_iconst (v := 0) hx hb dX12_partBit_230 (by decide) ?_
        obtain ⟨rfl, rfl⟩ := fin_some hg
        exact gr_z S hr hk X (Or.inl rfl) dX12_partBit_231
      · have hg := (if_neg c223).symm.trans hg
        refine lv_iconst (v := 1) hx hb dX12_partBit_226 (by decide) ?_
        refine lv_goto (tgt := 231) hx hb dX12_partBit_227 (by decide) ?_
        obtain ⟨rfl, rfl⟩ := fin_some hg
        exact gr_z S hr hk X (Or.inr rfl) dX12_partBit_231
  · have hg := (if_neg c174).symm.trans hg
    refine lv_iload_n hx hb dX12_partBit_177 rfl (lv_at hl 3 rfl) ?_
    refine lv_if_ne (tgt := 196) hx hb dX12_partBit_178 (by decide) (fun c178 => ?_) (fun c178 => ?_)
    · have hg := (if_neg c178).symm.trans hg
      exact w_X12_partBit_b196 S hr hk hR hrec171 X (lv_sub hl [0, 1, 2, 4] rfl) hg
    · have hg := (if_pos c178).symm.trans hg
      refine lv_aload_n hx hb dX12_partBit_181 rfl (lv_at hl 0 rfl) ?_
      refine wmgR_0_86 S X mG_2136 dX12_partBit_182 ?_
      refine lv_aload_n hx hb dX12_partBit_185 rfl (lv_at hl 0 rfl) ?_
      refine lv_iload_n hx hb dX12_partBit_186 rfl (lv_at hl 1 rfl) ?_
      refine lv_iload hx hb dX12_partBit_187 (lv_at hl 4 rfl) ?_
      obtain ⟨r189, τ189, hq189, hg⟩ := bd_some hg
      refine gc_Vi (As := [.int v1, .int v4]) (rest := [.ref (ad 57)]) (q0 := 0) (ci := 15) S X (k2_X12_child l dC dI ad kc hq189 H.size) cw_X12_child mG_2736 rfl rfl rfl rfl rfl hl.1 (Nat.le_of_ble_eq_true rfl) dX12_partBit_189 ⟨by omega, by omega⟩ (fun H locs X => ?_)
      obtain ⟨hi192, hg⟩ := gd_some hg
      refine wmlA_50 (v := (xA τ189 50 r189)) S X hi192 rfl dX12_partBit_192 ?_
      refine lv_if_eq (tgt := 200) hx hb dX12_partBit_193 (by decide) (fun c193 => ?_) (fun c193 => ?_)
      · have hg := (if_pos c193).symm.trans hg
        refine lv_iconst (v := 0) hx hb dX12_partBit_200 (by decide) ?_
        exact w_X12_partBit_b201 S hr hk hR hrec171 X (lv_sub hl [0, 1, 2, 4] rfl) hg
      · have hg := (if_neg c193).symm.trans hg
        exact w_X12_partBit_b196 S hr hk hR hrec171 X (lv_sub hl [0, 1, 2, 4] rfl) hg
set_option maxHeartbeats 4000000 in
set_option maxRecDepth 100000 in
theorem w_X12_partBit_L171 (S : CallFix p m c cX12_partBit 5 s args uG RX12) (hr : meth.sig.returnType = (some .boolean)) (hk : meth.locks = false) (hR : 2 ≤ R.frames ∧ 48 ≤ R.locals) : ∀ (n : Nat) (v1 : Int32) (v2 : Int32) (v3 : Int32) (v4 : Int32) (σ : S5) (H : Heap) (locs : List Loc) (ls : Array Slot), gX (dC, dI) (tM kc) (wM ad kc) Z A s σ H locs → lv_has ls 5 [(0, .ref (ad 0)), (1, .int v1), (2, .int v2), (3, .int v3), (4, .int v4)] → f_X12_partBit_L171  n v1 v2 v3 v4 σ = some (r, τ) → W p l e R s m args below meth c H locs 0 0 (MQ below (gQi (dC, dI) (tM kc) (wM ad kc) A r τ) args s 0 0 A) (F0 m 171 ls []) := by
  intro n
  induction n with
  | zero => intro v1 v2 v3 v4 σ H locs ls X hl hg; cases hg
  | succ n ih => intro v1 v2 v3 v4 σ H locs ls X hl hg; exact w_X12_partBit_B171 S hr hk hR ih X hl hg
set_option maxHeartbeats 4000000 in
set_option maxRecDepth 100000 in
theorem w_X12_partBit_b124 {σ : S5}  {H : Heap} {locs : List Loc} {ls : Array Slot} (S : CallFix p m c cX12_partBit 5 s args uG RX12) (hr : meth.sig.returnType = (some .boolean)) (hk : meth.locks = false) (hR : 2 ≤ R.frames ∧ 48 ≤ R.locals)
    (X : gX (dC, dI) (tM kc) (wM ad kc) Z A s σ H locs) (hl : lv_has ls 5 []) (hg : f_X12_partBit_b124  σ = some (r, τ)) : W p l e R s m args below meth c H locs 0 0 (MQ below (gQi (dC, dI) (tM kc) (wM ad kc) A r τ) args s 0 0 A) (F0 m 124 ls []) := by
  have hx := S.1
  have hb := S.2.1
  have hown := S.2.2.2.1
  have hu := S.2.2.2.2
  unfold f_X12_partBit_b124 at hg
  refine lv_iconst (v := 1) hx hb dX12_partBit_124 (by decide) ?_
  refine lv_goto (tgt := 129) hx hb dX12_partBit_125 (by decide) ?_
  obtain ⟨rfl, rfl⟩ := fin_some hg
  exact gr_z S hr hk X (Or.inr rfl) dX12_partBit_129
set_option maxHeartbeats 4000000 in
set_option maxRecDepth 100000 in
theorem w_X12_partBit {σ : S5} {a1 : Int32} {H : Heap} {locs : List Loc} {ls : Array Slot} (S : CallFix p m c cX12_partBit 5 s args uG RX12) (hr : meth.sig.returnType = (some .boolean)) (hk : meth.locks = false) (hR : 2 ≤ R.frames ∧ 48 ≤ R.locals)
    (X : gX (dC, dI) (tM kc) (wM ad kc) Z A s σ H locs) (hl : lv_has ls 5 [(0, .ref (ad 0)), (1, .int a1)]) (hg : f_X12_partBit a1 σ = some (r, τ)) : W p l e R s m args below meth c H locs 0 0 (MQ below (gQi (dC, dI) (tM kc) (wM ad kc) A r τ) args s 0 0 A) (F0 m 0 ls []) := by
  have hx := S.1
  have hb := S.2.1
  have hown := S.2.2.2.1
  have hu := S.2.2.2.2
  unfold f_X12_partBit at hg
  refine lv_aload_n hx hb dX12_partBit_0 rfl (lv_at hl 0 rfl) ?_
  refine wmgR_0_67 S X mG_2117 dX12_partBit_1 ?_
  refine lv_iload_n hx hb dX12_partBit_4 rfl (lv_at hl 1 rfl) ?_
  obtain ⟨hi5, hg⟩ := gd_some hg
  refine wmlA_34 (v := (xA σ 34 a1)) S X hi5 rfl dX12_partBit_5 ?_
  refine lv_istore_n (lv' := [(2, .int (xA σ 34 a1)), (0, .ref (ad 0)), (1, .int a1)]) hx hb dX12_partBit_6 rfl hl (by decide) rfl (fun ls hl => ?_)
  refine lv_aload_n hx hb dX12_partBit_7 rfl (lv_at hl 1 rfl) ?_
  refine wmgR_0_64 S X mG_2114 dX12_partBit_8 ?_
  refine lv_iload_n hx hb dX12_partBit_11 rfl (lv_at hl 2 rfl) ?_
  obtain ⟨hi12, hg⟩ := gd_some hg
  refine wmlA_31 (v := (xA σ 31 a1)) S X hi12 rfl dX12_partBit_12 ?_
  rcases sw_0_13 ((xA σ 31 a1)) with hsw | hsw | hsw | hsw | hsw | hsw | hsw | hsw | hsw | hsw | hsw | hsw | hsw | hsw | hsw
  · refine lv_tableOut (tgt := 252) hx hb dX12_partBit_13 hsw (by decide) ?_
    obtain ⟨hs0, hs1, hs2, hs3, hs4, hs5, hs6, hs7, hs8, hs9, hs10, hs11, hs12, hs13⟩ := swo_0_13 hsw
    have hg := (if_neg hs0).symm.trans hg
    have hg := (if_neg hs1).symm.trans hg
    have hg := (if_neg hs2).symm.trans hg
    have hg := (if_neg hs3).symm.trans hg
    have hg := (if_neg hs4).symm.trans hg
    have hg := (if_neg hs5).symm.trans hg
    have hg := (if_neg hs6).symm.trans hg
    have hg := (if_neg hs7).symm.trans hg
    have hg := (if_neg hs8).symm.trans hg
    have hg := (if_neg hs9).symm.trans hg
    have hg := (if_neg hs10).symm.trans hg
    have hg := (if_neg hs11).symm.trans hg
    have hg := (if_neg hs12).symm.trans hg
    have hg := (if_neg hs13).symm.trans hg
    refine lv_iconst (v := 1) hx hb dX12_partBit_252 (by decide) ?_
    obtain ⟨rfl, rfl⟩ := fin_some hg
    exact gr_z S hr hk X (Or.inr rfl) dX12_partBit_253
  · refine lv_tableIn (off := 219) (tgt := 232) hx hb dX12_partBit_13 (by rw [hsw]; decide) (by rw [hsw]; decide) (by rw [hsw]; decide) (by decide) ?_
    have hg := (if_pos hsw).symm.trans hg
    refine lv_aload_n hx hb dX12_partBit_232 rfl (lv_at hl 1 rfl) ?_
    refine wmgR_0_86 S X mG_2136 dX12_partBit_233 ?_
    refine lv_aload_n hx hb dX12_partBit_236 rfl (lv_at hl 1 rfl) ?_
    refine lv_iload_n hx hb dX12_partBit_237 rfl (lv_at hl 2 rfl) ?_
    refine lv_iload_n hx hb dX12_partBit_238 rfl (lv_at hl 0 rfl) ?_
    refine lv_iconst (v := 1) hx hb dX12_partBit_239 (by decide) ?_
    refine lv_isub hx hb dX12_partBit_240 ?_
    obtain ⟨r241, τ241, hq241, hg⟩ := bd_some hg
    refine gc_Vi (As := [.int a1, .int ((xA σ 34 a1) - 1)]) (rest := [.ref (ad 57)]) (q0 := 0) (ci := 15) S X (k2_X12_child l dC dI ad kc hq241 H.size) cw_X12_child mG_2736 rfl rfl rfl rfl rfl hl.1 (Nat.le_of_ble_eq_true rfl) dX12_partBit_241 ⟨by omega, by omega⟩ (fun H locs X => ?_)
    obtain ⟨hi244, hg⟩ := gd_some hg
    refine wmlA_50 (v := (xA τ241 50 r241)) S X hi244 rfl dX12_partBit_244 ?_
    obtain ⟨hn245, hg⟩ := g_t_some hg
    obtain ⟨rfl, rfl⟩ := fin_some hg
    exact gr_z S hr hk X hn245 dX12_partBit_245
  · refine lv_tableIn (off := 239) (tgt := 252) hx hb dX12_partBit_13 (by rw [hsw]; decide) (by rw [hsw]; decide) (by rw [hsw]; decide) (by decide) ?_
    have hg := (if_neg (by rw [hsw]; decide)).symm.trans hg
    have hg := (if_pos hsw).symm.trans hg
    refine lv_iconst (v := 1) hx hb dX12_partBit_252 (by decide) ?_
    obtain ⟨rfl, rfl⟩ := fin_some hg
    exact gr_z S hr hk X (Or.inr rfl) dX12_partBit_253
  · refine lv_tableIn (off := 239) (tgt := 252) hx hb dX12_partBit_13 (by rw [hsw]; decide) (by rw [hsw]; decide) (by rw [hsw]; decide) (by decide) ?_
    have hg := (if_neg (by rw [hsw]; decide)).symm.trans hg
    have hg := (if_neg (by rw [hsw]; decide)).symm.trans hg
    have hg := (if_pos hsw).symm.trans hg
    refine lv_iconst (v := 1) hx hb dX12_partBit_252 (by decide) ?_
    obtain ⟨rfl, rfl⟩ := fin_some hg
    exact gr_z S hr hk X (Or.inr rfl) dX12_partBit_253
  · refine lv_tableIn (off := 153) (tgt := 166) hx hb dX12_partBit_13 (by rw [hsw]; decide) (by rw [hsw]; decide) (by rw [hsw]; decide) (by decide) ?_
    have hg := (if_neg (by rw [hsw]; decide)).symm.trans hg
    have hg := (if_neg (by rw [hsw]; decide)).symm.trans hg
    have hg := (if_neg (by rw [hsw]; decide)).symm.trans hg
    have hg := (if_pos hsw).symm.trans hg
    refine lv_iconst (v := 0) hx hb dX12_partBit_166 (by decide) ?_
    refine lv_istore_n (lv' := [(3, .int 0), (2, .int (xA σ 34 a1)), (0, .ref (ad 0)), (1, .int a1)]) hx hb dX12_partBit_167 rfl hl (by decide) rfl (fun ls hl => ?_)
    refine lv_iconst (v := 1) hx hb dX12_partBit_168 (by decide) ?_
    refine lv_istore (lv' := [(4, .int 1), (3, .int 0), (2, .int (xA σ 34 a1)), (0, .ref (ad 0)), (1, .int a1)]) hx hb dX12_partBit_169 hl (by decide) rfl (fun ls hl => ?_)
    exact w_X12_partBit_L171 S hr hk hR _ _ _ _ _ _ _ _ _ X (lv_sub hl [3, 4, 2, 1, 0] rfl) hg
  · refine lv_tableIn (off := 239) (tgt := 252) hx hb dX12_partBit_13 (by rw [hsw]; decide) (by rw [hsw]; decide) (by rw [hsw]; decide) (by decide) ?_
    have hg := (if_neg (by rw [hsw]; decide)).symm.trans hg
    have hg := (if_neg (by rw [hsw]; decide)).symm.trans hg
    have hg := (if_neg (by rw [hsw]; decide)).symm.trans hg
    have hg := (if_neg (by rw [hsw]; decide)).symm.trans hg
    have hg := (if_pos hsw).symm.trans hg
    refine lv_iconst (v := 1) hx hb dX12_partBit_252 (by decide) ?_
    obtain ⟨rfl, rfl⟩ := fin_some hg
    exact gr_z S hr hk X (Or.inr rfl) dX12_partBit_253
  · refine lv_tableIn (off := 119) (tgt := 132) hx hb dX12_partBit_13 (by rw [hsw]; decide) (by rw [hsw]; decide) (by rw [hsw]; decide) (by decide) ?_
    have hg := (if_neg (by rw [hsw]; decide)).symm.trans hg
    have hg := (if_neg (by rw [hsw]; decide)).symm.trans hg
    have hg := (if_neg (by rw [hsw]; decide)).symm.trans hg
    have hg := (if_neg (by rw [hsw]; decide)).symm.trans hg
    have hg := (if_neg (by rw [hsw]; decide)).symm.trans hg
    have hg := (if_pos hsw).symm.trans hg
    refine lv_aload_n hx hb dX12_partBit_132 rfl (lv_at hl 1 rfl) ?_
    refine wmgR_0_86 S X mG_2136 dX12_partBit_133 ?_
    refine lv_aload_n hx hb dX12_partBit_136 rfl (lv_at hl 1 rfl) ?_
    refine lv_iload_n hx hb dX12_partBit_137 rfl (lv_at hl 2 rfl) ?_
    refine lv_iconst (v := 0) hx hb dX12_partBit_138 (by decide) ?_
    obtain ⟨r139, τ139, hq139, hg⟩ := bd_some hg
    refine gc_Vi (As := [.int a1, .int 0]) (rest := [.ref (ad 57)]) (q0 := 0) (ci := 15) S X (k2_X12_child l dC dI ad kc hq139 H.size) cw_X12_child mG_2736 rfl rfl rfl rfl rfl hl.1 (Nat.le_of_ble_eq_true rfl) dX12_partBit_139 ⟨by omega, by omega⟩ (fun H locs X => ?_)
    obtain ⟨hi142, hg⟩ := gd_some hg
    refine wmlA_50 (v := (xA τ139 50 r139)) S X hi142 rfl dX12_partBit_142 ?_
    refine lv_if_eq (tgt := 164) hx hb dX12_partBit_143 (by decide) (fun c143 => ?_) (fun c143 => ?_)
    · have hg := (if_pos c143).symm.trans hg
      refine lv_iconst (v := 0) hx hb dX12_partBit_164 (by decide) ?_
      obtain ⟨rfl, rfl⟩ := fin_some hg
      exact gr_z S hr hk X (Or.inl rfl) dX12_partBit_165
    · have hg := (if_neg c143).symm.trans hg
      refine lv_aload_n hx hb dX12_partBit_146 rfl (lv_at hl 1 rfl) ?_
      refine wmgR_0_86 S X mG_2136 dX12_partBit_147 ?_
      refine lv_aload_n hx hb dX12_partBit_150 rfl (lv_at hl 1 rfl) ?_
      refine lv_iload_n hx hb dX12_partBit_151 rfl (lv_at hl 2 rfl) ?_
      refine lv_iconst (v := 1) hx hb dX12_partBit_152 (by decide) ?_
      obtain ⟨r153, τ153, hq153, hg⟩ := bd_some hg
      refine gc_Vi (As := [.int a1, .int 1]) (rest := [.ref (ad 57)]) (q0 := 0) (ci := 15) S X (k2_X12_child l dC dI ad kc hq153 H.size) cw_X12_child mG_2736 rfl rfl rfl rfl rfl hl.1 (Nat.le_of_ble_eq_true rfl) dX12_partBit_153 ⟨by omega, by omega⟩ (fun H locs X => ?_)
      obtain ⟨hi156, hg⟩ := gd_some hg
      refine wmlA_50 (v := (xA τ153 50 r153)) S X hi156 rfl dX12_partBit_156 ?_
      refine lv_if_eq (tgt := 164) hx hb dX12_partBit_157 (by decide) (fun c157 => ?_) (fun c157 => ?_)
      · have hg := (if_pos c157).symm.trans hg
        refine lv_iconst (v := 0) hx hb dX12_partBit_164 (by decide) ?_
        obtain ⟨rfl, rfl⟩ := fin_some hg
        exact gr_z S hr hk X (Or.inl rfl) dX12_partBit_165
      · have hg := (if_neg c157).symm.trans hg
        refine lv_iconst (v := 1) hx hb dX12_partBit_160 (by decide) ?_
        refine lv_goto (tgt := 165) hx hb dX12_partBit_161 (by decide) ?_
        obtain ⟨rfl, rfl⟩ := fin_some hg
        exact gr_z S hr hk X (Or.inr rfl) dX12_partBit_165
  · refine lv_tableIn (off := 233) (tgt := 246) hx hb dX12_partBit_13 (by rw [hsw]; decide) (by rw [hsw]; decide) (by rw [hsw]; decide) (by decide) ?_
    have hg := (if_neg (by rw [hsw]; decide)).symm.trans hg
    have hg := (if_neg (by rw [hsw]; decide)).symm.trans hg
    have hg := (if_neg (by rw [hsw]; decide)).symm.trans hg
    have hg := (if_neg (by rw [hsw]; decide)).symm.trans hg
    have hg := (if_neg (by rw [hsw]; decide)).symm.trans hg
    have hg := (if_neg (by rw [hsw]; decide)).symm.trans hg
    have hg := (if_pos hsw).symm.trans hg
    refine lv_aload_n hx hb dX12_partBit_246 rfl (lv_at hl 1 rfl) ?_
    refine lv_iload_n hx hb dX12_partBit_247 rfl (lv_at hl 2 rfl) ?_
    obtain ⟨r248, τ248, hq248, hg⟩ := bd_some hg
    refine gc_Vi (As := [.int a1]) (rest := []) (q0 := 0) (ci := 15) S X (k2_X12_appliedBit l dC dI ad kc hq248 H.size) cw_X12_appliedBit mG_2760 rfl rfl rfl rfl rfl hl.1 (Nat.le_of_ble_eq_true rfl) dX12_partBit_248 ⟨by omega, by omega⟩ (fun H locs X => ?_)
    obtain ⟨hn251, hg⟩ := g_t_some hg
    obtain ⟨rfl, rfl⟩ := fin_some hg
    exact gr_z S hr hk X hn251 dX12_partBit_251
  · refine lv_tableIn (off := 239) (tgt := 252) hx hb dX12_partBit_13 (by rw [hsw]; decide) (by rw [hsw]; decide) (by rw [hsw]; decide) (by decide) ?_
    have hg := (if_neg (by rw [hsw]; decide)).symm.trans hg
    have hg := (if_neg (by rw [hsw]; decide)).symm.trans hg
    have hg := (if_neg (by rw [hsw]; decide)).symm.trans hg
    have hg := (if_neg (by rw [hsw]; decide)).symm.trans hg
    have hg := (if_neg (by rw [hsw]; decide)).symm.trans hg
    have hg := (if_neg (by rw [hsw]; decide)).symm.trans hg
    have hg := (if_neg (by rw [hsw]; decide)).symm.trans hg
    have hg := (if_pos hsw).symm.trans hg
    refine lv_iconst (v := 1) hx hb dX12_partBit_252 (by decide) ?_
    obtain ⟨rfl, rfl⟩ := fin_some hg
    exact gr_z S hr hk X (Or.inr rfl) dX12_partBit_253
  · refine lv_tableIn (off := 239) (tgt := 252) hx hb dX12_partBit_13 (by rw [hsw]; decide) (by rw [hsw]; decide) (by rw [hsw]; decide) (by decide) ?_
    have hg := (if_neg (by rw [hsw]; decide)).symm.trans hg
    have hg := (if_neg (by rw [hsw]; decide)).symm.trans hg
    have hg := (if_neg (by rw [hsw]; decide)).symm.trans hg
    have hg := (if_neg (by rw [hsw]; decide)).symm.trans hg
    have hg := (if_neg (by rw [hsw]; decide)).symm.trans hg
    have hg := (if_neg (by rw [hsw]; decide)).symm.trans hg
    have hg := (if_neg (by rw [hsw]; decide)).symm.trans hg
    have hg := (if_neg (by rw [hsw]; decide)).symm.trans hg
    have hg := (if_pos hsw).symm.trans hg
    refine lv_iconst (v := 1) hx hb dX12_partBit_252 (by decide) ?_
    obtain ⟨rfl, rfl⟩ := fin_some hg
    exact gr_z S hr hk X (Or.inr rfl) dX12_partBit_253
  · refine lv_tableIn (off := 239) (tgt := 252) hx hb dX12_partBit_13 (by rw [hsw]; decide) (by rw [hsw]; decide) (by rw [hsw]; decide) (by decide) ?_
    have hg := (if_neg (by rw [hsw]; decide)).symm.trans hg
    have hg := (if_neg (by rw [hsw]; decide)).symm.trans hg
    have hg := (if_neg (by rw [hsw]; decide)).symm.trans hg
    have hg := (if_neg (by rw [hsw]; decide)).symm.trans hg
    have hg := (if_neg (by rw [hsw]; decide)).symm.trans hg
    have hg := (if_neg (by rw [hsw]; decide)).symm.trans hg
    have hg := (if_neg (by rw [hsw]; decide)).symm.trans hg
    have hg := (if_neg (by rw [hsw]; decide)).symm.trans hg
    have hg := (if_neg (by rw [hsw]; decide)).symm.trans hg
    have hg := (if_pos hsw).symm.trans hg
    refine lv_iconst (v := 1) hx hb dX12_partBit_252 (by decide) ?_
    obtain ⟨rfl, rfl⟩ := fin_some hg
    exact gr_z S hr hk X (Or.inr rfl) dX12_partBit_253
  · refine lv_tableIn (off := 239) (tgt := 252) hx hb dX12_partBit_13 (by rw [hsw]; decide) (by rw [hsw]; decide) (by rw [hsw]; decide) (by decide) ?_
    have hg := (if_neg (by rw [hsw]; decide)).symm.trans hg
    have hg := (if_neg (by rw [hsw]; decide)).symm.trans hg
    have hg := (if_neg (by rw [hsw]; decide)).symm.trans hg
    have hg := (if_neg (by rw [hsw]; decide)).symm.trans hg
    have hg := (if_neg (by rw [hsw]; decide)).symm.trans hg
    have hg := (if_neg (by rw [hsw]; decide)).symm.trans hg
    have hg := (if_neg (by rw [hsw]; decide)).symm.trans hg
    have hg := (if_neg (by rw [hsw]; decide)).symm.trans hg
    have hg := (if_neg (by rw [hsw]; decide)).symm.trans hg
    have hg := (if_neg (by rw [hsw]; decide)).symm.trans hg
    have hg := (if_pos hsw).symm.trans hg
    refine lv_iconst (v := 1) hx hb dX12_partBit_252 (by decide) ?_
    obtain ⟨rfl, rfl⟩ := fin_some hg
    exact gr_z S hr hk X (Or.inr rfl) dX12_partBit_253
  · refine lv_tableIn (off := 117) (tgt := 130) hx hb dX12_partBit_13 (by rw [hsw]; decide) (by rw [hsw]; decide) (by rw [hsw]; decide) (by decide) ?_
    have hg := (if_neg (by rw [hsw]; decide)).symm.trans hg
    have hg := (if_neg (by rw [hsw]; decide)).symm.trans hg
    have hg := (if_neg (by rw [hsw]; decide)).symm.trans hg
    have hg := (if_neg (by rw [hsw]; decide)).symm.trans hg
    have hg := (if_neg (by rw [hsw]; decide)).symm.trans hg
    have hg := (if_neg (by rw [hsw]; decide)).symm.trans hg
    have hg := (if_neg (by rw [hsw]; decide)).symm.trans hg
    have hg := (if_neg (by rw [hsw]; decide)).symm.trans hg
    have hg := (if_neg (by rw [hsw]; decide)).symm.trans hg
    have hg := (if_neg (by rw [hsw]; decide)).symm.trans hg
    have hg := (if_neg (by rw [hsw]; decide)).symm.trans hg
    have hg := (if_pos hsw).symm.trans hg
    refine lv_iconst (v := 0) hx hb dX12_partBit_130 (by decide) ?_
    obtain ⟨rfl, rfl⟩ := fin_some hg
    exact gr_z S hr hk X (Or.inl rfl) dX12_partBit_131
  · refine lv_tableIn (off := 83) (tgt := 96) hx hb dX12_partBit_13 (by rw [hsw]; decide) (by rw [hsw]; decide) (by rw [hsw]; decide) (by decide) ?_
    have hg := (if_neg (by rw [hsw]; decide)).symm.trans hg
    have hg := (if_neg (by rw [hsw]; decide)).symm.trans hg
    have hg := (if_neg (by rw [hsw]; decide)).symm.trans hg
    have hg := (if_neg (by rw [hsw]; decide)).symm.trans hg
    have hg := (if_neg (by rw [hsw]; decide)).symm.trans hg
    have hg := (if_neg (by rw [hsw]; decide)).symm.trans hg
    have hg := (if_neg (by rw [hsw]; decide)).symm.trans hg
    have hg := (if_neg (by rw [hsw]; decide)).symm.trans hg
    have hg := (if_neg (by rw [hsw]; decide)).symm.trans hg
    have hg := (if_neg (by rw [hsw]; decide)).symm.trans hg
    have hg := (if_neg (by rw [hsw]; decide)).symm.trans hg
    have hg := (if_neg (by rw [hsw]; decide)).symm.trans hg
    have hg := (if_pos hsw).symm.trans hg
    refine lv_aload_n hx hb dX12_partBit_96 rfl (lv_at hl 1 rfl) ?_
    refine wmgR_0_82 S X mG_2132 dX12_partBit_97 ?_
    refine lv_aload_n hx hb dX12_partBit_100 rfl (lv_at hl 1 rfl) ?_
    refine wmgR_0_65 S X mG_2115 dX12_partBit_101 ?_
    refine lv_iload_n hx hb dX12_partBit_104 rfl (lv_at hl 2 rfl) ?_
    obtain ⟨hi105, hg⟩ := gd_some hg
    refine wmlA_32 (v := (xA σ 32 a1)) S X hi105 rfl dX12_partBit_105 ?_
    obtain ⟨hi106, hg⟩ := gd_some hg
    refine wmlA_47 (v := (xA σ 47 (xA σ 32 a1))) S X hi106 rfl dX12_partBit_106 ?_
    refine lv_if_gt (tgt := 124) hx hb dX12_partBit_107 (by decide) (fun c107 => ?_) (fun c107 => ?_)
    · have hg := (if_pos c107).symm.trans hg
      exact w_X12_partBit_b124 S hr hk hR X (lv_sub hl [] rfl) hg
    · have hg := (if_neg c107).symm.trans hg
      refine lv_aload_n hx hb dX12_partBit_110 rfl (lv_at hl 1 rfl) ?_
      refine lv_aload_n hx hb dX12_partBit_111 rfl (lv_at hl 1 rfl) ?_
      refine wmgR_0_65 S X mG_2115 dX12_partBit_112 ?_
      refine lv_iload_n hx hb dX12_partBit_115 rfl (lv_at hl 2 rfl) ?_
      obtain ⟨hi116, hg⟩ := gd_some hg
      refine wmlA_32 (v := (xA σ 32 a1)) S X hi116 rfl dX12_partBit_116 ?_
      refine lv_iconst (v := 0) hx hb dX12_partBit_117 (by decide) ?_
      obtain ⟨r118, τ118, hq118, hg⟩ := bd_some hg
      refine gc_Vi (As := [.int (xA σ 32 a1), .int 0]) (rest := []) (q0 := 0) (ci := 15) S X (k2_X12_table l dC dI ad kc hq118 H.size) cw_X12_table mG_2756 rfl rfl rfl rfl rfl hl.1 (Nat.le_of_ble_eq_true rfl) dX12_partBit_118 ⟨by omega, by omega⟩ (fun H locs X => ?_)
      refine lv_if_eq (tgt := 128) hx hb dX12_partBit_121 (by decide) (fun c121 => ?_) (fun c121 => ?_)
      · have hg := (if_pos c121).symm.trans hg
        refine lv_iconst (v := 0) hx hb dX12_partBit_128 (by decide) ?_
        obtain ⟨rfl, rfl⟩ := fin_some hg
        exact gr_z S hr hk X (Or.inl rfl) dX12_partBit_129
      · have hg := (if_neg c121).symm.trans hg
        exact w_X12_partBit_b124 S hr hk hR X (lv_sub hl [] rfl) hg
  · refine lv_tableIn (off := 71) (tgt := 84) hx hb dX12_partBit_13 (by rw [hsw]; decide) (by rw [hsw]; decide) (by rw [hsw]; decide) (by decide) ?_
    have hg := (if_neg (by rw [hsw]; decide)).symm.trans hg
    have hg := (if_neg (by rw [hsw]; decide)).symm.trans hg
    have hg := (if_neg (by rw [hsw]; decide)).symm.trans hg
    have hg := (if_neg (by rw [hsw]; decide)).symm.trans hg
    have hg := (if_neg (by rw [hsw]; decide)).symm.trans hg
    have hg := (if_neg (by rw [hsw]; decide)).symm.trans hg
    have hg := (if_neg (by rw [hsw]; decide)).symm.trans hg
    have hg := (if_neg (by rw [hsw]; decide)).symm.trans hg
    have hg := (if_neg (by rw [hsw]; decide)).symm.trans hg
    have hg := (if_neg (by rw [hsw]; decide)).symm.trans hg
    have hg := (if_neg (by rw [hsw]; decide)).symm.trans hg
    have hg := (if_neg (by rw [hsw]; decide)).symm.trans hg
    have hg := (if_neg (by rw [hsw]; decide)).symm.trans hg
    have hg := (if_pos hsw).symm.trans hg
    refine lv_aload_n hx hb dX12_partBit_84 rfl (lv_at hl 1 rfl) ?_
    refine wmgR_0_87 S X mG_2137 dX12_partBit_85 ?_
    refine lv_aload_n hx hb dX12_partBit_88 rfl (lv_at hl 1 rfl) ?_
    refine wmgR_0_65 S X mG_2115 dX12_partBit_89 ?_
    refine lv_iload_n hx hb dX12_partBit_92 rfl (lv_at hl 2 rfl) ?_
    obtain ⟨hi93, hg⟩ := gd_some hg
    refine wmlA_32 (v := (xA σ 32 a1)) S X hi93 rfl dX12_partBit_93 ?_
    obtain ⟨hi94, hg⟩ := gd_some hg
    refine wmlA_51 (v := (xA σ 51 (xA σ 32 a1))) S X hi94 rfl dX12_partBit_94 ?_
    obtain ⟨hn95, hg⟩ := g_t_some hg
    obtain ⟨rfl, rfl⟩ := fin_some hg
    exact gr_z S hr hk X hn95 dX12_partBit_95
end MX12_partBit
set_option maxRecDepth 100000 in
theorem k2_X12_partBit (l : Launch) (dC : Nat → ClassId) (dI : Nat → Nat → Nat) {Z : ZZ} (ad : Nat → Nat) (kc : Nat → ClassId) {σ τ : S5} {a1 : Int32} {r : Int32} (hg : f_X12_partBit a1 σ = some (r, τ)) (sz : Nat) : Met l yX12_partBit (Cond.code yX12_partBit cX12_partBit 5 (some .boolean) :: uG) { frames := 2, cells := 0, slots := 0, locals := 48 } (gPc (dC, dI) (tM kc) (wM ad kc) Z [.ref (ad 0), .int a1] σ sz) (gQi (dC, dI) (tM kc) (wM ad kc) (va_A (wM ad kc σ) sz) r τ) 0 0 (va_A (wM ad kc σ) sz) :=
  g_start (by decide) (Nat.le_of_ble_eq_true rfl) (fun p e s m below meth c ls S hr hk X hl => w_X12_partBit S hr hk ⟨Nat.le_refl _, Nat.le_refl _⟩ X hl hg)
section MX12_bitOfPart
variable {p : Program} {l : Launch} {e : Env} {R : Room} {s : State} {m : MethodId} {args : Array Value} {below : List Frame} {meth : Method} {c : Code} {dC : Nat → ClassId} {dI : Nat → Nat → Nat} {Z : ZZ} {A : Nat → Prop} {ad : Nat → Nat} {kc : Nat → ClassId} {r : Int32} {τ : S5}
set_option maxHeartbeats 4000000 in
set_option maxRecDepth 100000 in
theorem w_X12_bitOfPart_b308 {σ : S5} {rec143 : Int32 → Int32 → Int32 → S5 → Option (Int32 × S5)} {rec180 : Int32 → Int32 → Int32 → Int32 → S5 → Option (Int32 × S5)} {v1 : Int32} {v2 : Int32} {v3 : Int32} {v4 : Int32} {H : Heap} {locs : List Loc} {ls : Array Slot} (S : CallFix p m c cX12_bitOfPart 7 s args uG RX12) (hr : meth.sig.returnType = (some .boolean)) (hk : meth.locks = false) (hR : 3 ≤ R.frames ∧ 72 ≤ R.locals)
    (hrec143 : ∀ (v1 : Int32) (v2 : Int32) (v3 : Int32) (σ : S5) (H : Heap) (locs : List Loc) (ls : Array Slot), gX (dC, dI) (tM kc) (wM ad kc) Z A s σ H locs → lv_has ls 7 [(0, .ref (ad 0)), (1, .int v1), (2, .int v2), (3, .int v3)] → rec143 v1 v2 v3 σ = some (r, τ) → W p l e R s m args below meth c H locs 0 0 (MQ below (gQi (dC, dI) (tM kc) (wM ad kc) A r τ) args s 0 0 A) (F0 m 143 ls []))
    (hrec180 : ∀ (v1 : Int32) (v2 : Int32) (v3 : Int32) (v4 : Int32) (σ : S5) (H : Heap) (locs : List Loc) (ls : Array Slot), gX (dC, dI) (tM kc) (wM ad kc) Z A s σ H locs → lv_has ls 7 [(0, .ref (ad 0)), (1, .int v1), (2, .int v2), (3, .int v3), (4, .int v4)] → rec180 v1 v2 v3 v4 σ = some (r, τ) → W p l e R s m args below meth c H locs 0 0 (MQ below (gQi (dC, dI) (tM kc) (wM ad kc) A r τ) args s 0 0 A) (F0 m 180 ls []))
    (X : gX (dC, dI) (tM kc) (wM ad kc) Z A s σ H locs) (hl : lv_has ls 7 [(0, .ref (ad 0)), (1, .int v1), (2, .int v2), (3, .int v3), (4, .int v4)]) (hg : f_X12_bitOfPart_b308 rec143 rec180 v1 v2 v3 v4 σ = some (r, τ)) : W p l e R s m args below meth c H locs 0 0 (MQ below (gQi (dC, dI) (tM kc) (wM ad kc) A r τ) args s 0 0 A) (F0 m 308 ls []) := by
  have hx := S.1
  have hb := S.2.1
  have hown := S.2.2.2.1
  have hu := S.2.2.2.2
  unfold f_X12_bitOfPart_b308 at hg
  refine lv_iinc (v := (v4 + 1)) (lv' := [(4, .int (v4 + 1)), (0, .ref (ad 0)), (1, .int v1), (2, .int v2), (3, .int v3)]) hx hb dX12_bitOfPart_308 hl (k := 4) rfl (by rfl) (by decide) rfl (fun ls hl => ?_)
  refine lv_goto (tgt := 180) hx hb dX12_bitOfPart_311 (by decide) ?_
  exact hrec180 _ _ _ _ _ _ _ _ X (lv_sub hl [1, 2, 3, 4, 0] rfl) hg
set_option maxHeartbeats 4000000 in
set_option maxRecDepth 100000 in
theorem w_X12_bitOfPart_b301 {σ : S5} {rec143 : Int32 → Int32 → Int32 → S5 → Option (Int32 × S5)} {rec180 : Int32 → Int32 → Int32 → Int32 → S5 → Option (Int32 × S5)} {rec189 : Int32 → Int32 → Int32 → Int32 → Int32 → S5 → Option (Int32 × S5)} {v1 : Int32} {v2 : Int32} {v3 : Int32} {v4 : Int32} {v5 : Int32} {u0 : Int32} {u1 : Int32} {H : Heap} {locs : List Loc} {ls : Array Slot} (S : CallFix p m c cX12_bitOfPart 7 s args uG RX12) (hr : meth.sig.returnType = (some .boolean)) (hk : meth.locks = false) (hR : 3 ≤ R.frames ∧ 72 ≤ R.locals)
    (hrec143 : ∀ (v1 : Int32) (v2 : Int32) (v3 : Int32) (σ : S5) (H : Heap) (locs : List Loc) (ls : Array Slot), gX (dC, dI) (tM kc) (wM ad kc) Z A s σ H locs → lv_has ls 7 [(0, .ref (ad 0)), (1, .int v1), (2, .int v2), (3, .int v3)] → rec143 v1 v2 v3 σ = some (r, τ) → W p l e R s m args below meth c H locs 0 0 (MQ below (gQi (dC, dI) (tM kc) (wM ad kc) A r τ) args s 0 0 A) (F0 m 143 ls []))
    (hrec180 : ∀ (v1 : Int32) (v2 : Int32) (v3 : Int32) (v4 : Int32) (σ : S5) (H : Heap) (locs : List Loc) (ls : Array Slot), gX (dC, dI) (tM kc) (wM ad kc) Z A s σ H locs → lv_has ls 7 [(0, .ref (ad 0)), (1, .int v1), (2, .int v2), (3, .int v3), (4, .int v4)] → rec180 v1 v2 v3 v4 σ = some (r, τ) → W p l e R s m args below meth c H locs 0 0 (MQ below (gQi (dC, dI) (tM kc) (wM ad kc) A r τ) args s 0 0 A) (F0 m 180 ls []))
    (hrec189 : ∀ (v1 : Int32) (v2 : Int32) (v3 : Int32) (v4 : Int32) (v5 : Int32) (σ : S5) (H : Heap) (locs : List Loc) (ls : Array Slot), gX (dC, dI) (tM kc) (wM ad kc) Z A s σ H locs → lv_has ls 7 [(0, .ref (ad 0)), (1, .int v1), (2, .int v2), (3, .int v3), (4, .int v4), (5, .int v5)] → rec189 v1 v2 v3 v4 v5 σ = some (r, τ) → W p l e R s m args below meth c H locs 0 0 (MQ below (gQi (dC, dI) (tM kc) (wM ad kc) A r τ) args s 0 0 A) (F0 m 189 ls []))
    (X : gX (dC, dI) (tM kc) (wM ad kc) Z A s σ H locs) (hl : lv_has ls 7 [(0, .ref (ad 0)), (1, .int v1), (2, .int v2), (3, .int v3), (4, .int v4), (5, .int v5)]) (hg : f_X12_bitOfPart_b301 rec143 rec180 rec189 v1 v2 v3 v4 v5 u0 u1 σ = some (r, τ)) : W p l e R s m args below meth c H locs 0 0 (MQ below (gQi (dC, dI) (tM kc) (wM ad kc) A r τ) args s 0 0 A) (F0 m 301 ls [.int u0, .int u1, .ref (ad 58)]) := by
  have hx := S.1
  have hb := S.2.1
  have hown := S.2.2.2.1
  have hu := S.2.2.2.2
  unfold f_X12_bitOfPart_b301 at hg
  obtain ⟨hi301, hg⟩ := gd_some hg
  refine wmsA_51 S X hi301 dX12_bitOfPart_301 (fun H locs X => ?_)
  refine lv_iinc (v := (v5 + 1)) (lv' := [(5, .int (v5 + 1)), (0, .ref (ad 0)), (1, .int v1), (2, .int v2), (3, .int v3), (4, .int v4)]) hx hb dX12_bitOfPart_302 hl (k := 5) rfl (by rfl) (by decide) rfl (fun ls hl => ?_)
  refine lv_goto (tgt := 189) hx hb dX12_bitOfPart_305 (by decide) ?_
  exact hrec189 _ _ _ _ _ _ _ _ _ X (lv_sub hl [1, 2, 3, 4, 5, 0] rfl) hg
set_option maxHeartbeats 4000000 in
set_option maxRecDepth 100000 in
theorem w_X12_bitOfPart_b296 {σ : S5} {rec143 : Int32 → Int32 → Int32 → S5 → Option (Int32 × S5)} {rec180 : Int32 → Int32 → Int32 → Int32 → S5 → Option (Int32 × S5)} {rec189 : Int32 → Int32 → Int32 → Int32 → Int32 → S5 → Option (Int32 × S5)} {v1 : Int32} {v2 : Int32} {v3 : Int32} {v4 : Int32} {v5 : Int32} {u0 : Int32} {H : Heap} {locs : List Loc} {ls : Array Slot} (S : CallFix p m c cX12_bitOfPart 7 s args uG RX12) (hr : meth.sig.returnType = (some .boolean)) (hk : meth.locks = false) (hR : 3 ≤ R.frames ∧ 72 ≤ R.locals)
    (hrec143 : ∀ (v1 : Int32) (v2 : Int32) (v3 : Int32) (σ : S5) (H : Heap) (locs : List Loc) (ls : Array Slot), gX (dC, dI) (tM kc) (wM ad kc) Z A s σ H locs → lv_has ls 7 [(0, .ref (ad 0)), (1, .int v1), (2, .int v2), (3, .int v3)] → rec143 v1 v2 v3 σ = some (r, τ) → W p l e R s m args below meth c H locs 0 0 (MQ below (gQi (dC, dI) (tM kc) (wM ad kc) A r τ) args s 0 0 A) (F0 m 143 ls []))
    (hrec180 : ∀ (v1 : Int32) (v2 : Int32) (v3 : Int32) (v4 : Int32) (σ : S5) (H : Heap) (locs : List Loc) (ls : Array Slot), gX (dC, dI) (tM kc) (wM ad kc) Z A s σ H locs → lv_has ls 7 [(0, .ref (ad 0)), (1, .int v1), (2, .int v2), (3, .int v3), (4, .int v4)] → rec180 v1 v2 v3 v4 σ = some (r, τ) → W p l e R s m args below meth c H locs 0 0 (MQ below (gQi (dC, dI) (tM kc) (wM ad kc) A r τ) args s 0 0 A) (F0 m 180 ls []))
    (hrec189 : ∀ (v1 : Int32) (v2 : Int32) (v3 : Int32) (v4 : Int32) (v5 : Int32) (σ : S5) (H : Heap) (locs : List Loc) (ls : Array Slot), gX (dC, dI) (tM kc) (wM ad kc) Z A s σ H locs → lv_has ls 7 [(0, .ref (ad 0)), (1, .int v1), (2, .int v2), (3, .int v3), (4, .int v4), (5, .int v5)] → rec189 v1 v2 v3 v4 v5 σ = some (r, τ) → W p l e R s m args below meth c H locs 0 0 (MQ below (gQi (dC, dI) (tM kc) (wM ad kc) A r τ) args s 0 0 A) (F0 m 189 ls []))
    (X : gX (dC, dI) (tM kc) (wM ad kc) Z A s σ H locs) (hl : lv_has ls 7 [(0, .ref (ad 0)), (1, .int v1), (2, .int v2), (3, .int v3), (4, .int v4), (5, .int v5)]) (hg : f_X12_bitOfPart_b296 rec143 rec180 rec189 v1 v2 v3 v4 v5 u0 σ = some (r, τ)) : W p l e R s m args below meth c H locs 0 0 (MQ below (gQi (dC, dI) (tM kc) (wM ad kc) A r τ) args s 0 0 A) (F0 m 296 ls [.int u0, .ref (ad 58)]) := by
  have hx := S.1
  have hb := S.2.1
  have hown := S.2.2.2.1
  have hu := S.2.2.2.2
  unfold f_X12_bitOfPart_b296 at hg
  refine lv_iconst (v := 1) hx hb dX12_bitOfPart_296 (by decide) ?_
  refine lv_goto (tgt := 301) hx hb dX12_bitOfPart_297 (by decide) ?_
  exact w_X12_bitOfPart_b301 S hr hk hR hrec143 hrec180 hrec189 X (lv_sub hl [0, 1, 2, 3, 4, 5] rfl) hg
set_option maxHeartbeats 4000000 in
set_option maxRecDepth 100000 in
theorem w_X12_bitOfPart_b258 {σ : S5} {rec143 : Int32 → Int32 → Int32 → S5 → Option (Int32 × S5)} {rec180 : Int32 → Int32 → Int32 → Int32 → S5 → Option (Int32 × S5)} {rec189 : Int32 → Int32 → Int32 → Int32 → Int32 → S5 → Option (Int32 × S5)} {v1 : Int32} {v2 : Int32} {v4 : Int32} {v5 : Int32} {v6 : Int32} {u0 : Int32} {H : Heap} {locs : List Loc} {ls : Array Slot} (S : CallFix p m c cX12_bitOfPart 7 s args uG RX12) (hr : meth.sig.returnType = (some .boolean)) (hk : meth.locks = false) (hR : 3 ≤ R.frames ∧ 72 ≤ R.locals)
    (hrec143 : ∀ (v1 : Int32) (v2 : Int32) (v3 : Int32) (σ : S5) (H : Heap) (locs : List Loc) (ls : Array Slot), gX (dC, dI) (tM kc) (wM ad kc) Z A s σ H locs → lv_has ls 7 [(0, .ref (ad 0)), (1, .int v1), (2, .int v2), (3, .int v3)] → rec143 v1 v2 v3 σ = some (r, τ) → W p l e R s m args below meth c H locs 0 0 (MQ below (gQi (dC, dI) (tM kc) (wM ad kc) A r τ) args s 0 0 A) (F0 m 143 ls []))
    (hrec180 : ∀ (v1 : Int32) (v2 : Int32) (v3 : Int32) (v4 : Int32) (σ : S5) (H : Heap) (locs : List Loc) (ls : Array Slot), gX (dC, dI) (tM kc) (wM ad kc) Z A s σ H locs → lv_has ls 7 [(0, .ref (ad 0)), (1, .int v1), (2, .int v2), (3, .int v3), (4, .int v4)] → rec180 v1 v2 v3 v4 σ = some (r, τ) → W p l e R s m args below meth c H locs 0 0 (MQ below (gQi (dC, dI) (tM kc) (wM ad kc) A r τ) args s 0 0 A) (F0 m 180 ls []))
    (hrec189 : ∀ (v1 : Int32) (v2 : Int32) (v3 : Int32) (v4 : Int32) (v5 : Int32) (σ : S5) (H : Heap) (locs : List Loc) (ls : Array Slot), gX (dC, dI) (tM kc) (wM ad kc) Z A s σ H locs → lv_has ls 7 [(0, .ref (ad 0)), (1, .int v1), (2, .int v2), (3, .int v3), (4, .int v4), (5, .int v5)] → rec189 v1 v2 v3 v4 v5 σ = some (r, τ) → W p l e R s m args below meth c H locs 0 0 (MQ below (gQi (dC, dI) (tM kc) (wM ad kc) A r τ) args s 0 0 A) (F0 m 189 ls []))
    (X : gX (dC, dI) (tM kc) (wM ad kc) Z A s σ H locs) (hl : lv_has ls 7 [(0, .ref (ad 0)), (1, .int v1), (2, .int v2), (4, .int v4), (5, .int v5), (6, .int v6)]) (hg : f_X12_bitOfPart_b258 rec143 rec180 rec189 v1 v2 v4 v5 v6 u0 σ = some (r, τ)) : W p l e R s m args below meth c H locs 0 0 (MQ below (gQi (dC, dI) (tM kc) (wM ad kc) A r τ) args s 0 0 A) (F0 m 258 ls [.int u0]) := by
  have hx := S.1
  have hb := S.2.1
  have hown := S.2.2.2.1
  have hu := S.2.2.2.2
  unfold f_X12_bitOfPart_b258 at hg
  refine lv_istore_n (lv' := [(3, .int u0), (0, .ref (ad 0)), (1, .int v1), (2, .int v2), (4, .int v4), (5, .int v5), (6, .int v6)]) hx hb dX12_bitOfPart_258 rfl hl (by decide) rfl (fun ls hl => ?_)
  refine lv_aload_n hx hb dX12_bitOfPart_259 rfl (lv_at hl 1 rfl) ?_
  refine wmgR_0_87 S X mG_2137 dX12_bitOfPart_260 ?_
  refine lv_aload_n hx hb dX12_bitOfPart_263 rfl (lv_at hl 1 rfl) ?_
  refine wmgR_0_68 S X mG_2118 dX12_bitOfPart_264 ?_
  refine lv_iload hx hb dX12_bitOfPart_267 (lv_at hl 4 rfl) ?_
  obtain ⟨hi269, hg⟩ := gd_some hg
  refine wmlA_35 (v := (xA σ 35 v4)) S X hi269 rfl dX12_bitOfPart_269 ?_
  refine lv_iload hx hb dX12_bitOfPart_270 (lv_at hl 5 rfl) ?_
  refine lv_iadd hx hb dX12_bitOfPart_272 ?_
  refine lv_aload_n hx hb dX12_bitOfPart_273 rfl (lv_at hl 1 rfl) ?_
  refine wmgR_0_87 S X mG_2137 dX12_bitOfPart_274 ?_
  refine lv_aload_n hx hb dX12_bitOfPart_277 rfl (lv_at hl 1 rfl) ?_
  refine wmgR_0_68 S X mG_2118 dX12_bitOfPart_278 ?_
  refine lv_iload hx hb dX12_bitOfPart_281 (lv_at hl 4 rfl) ?_
  obtain ⟨hi283, hg⟩ := gd_some hg
  refine wmlA_35 (v := (xA σ 35 v4)) S X hi283 rfl dX12_bitOfPart_283 ?_
  refine lv_iload hx hb dX12_bitOfPart_284 (lv_at hl 5 rfl) ?_
  refine lv_iadd hx hb dX12_bitOfPart_286 ?_
  obtain ⟨hi287, hg⟩ := gd_some hg
  refine wmlA_51 (v := (xA σ 51 ((xA σ 35 v4) + v5))) S X hi287 rfl dX12_bitOfPart_287 ?_
  refine lv_if_ne (tgt := 296) hx hb dX12_bitOfPart_288 (by decide) (fun c288 => ?_) (fun c288 => ?_)
  · have hg := (if_neg c288).symm.trans hg
    exact w_X12_bitOfPart_b296 S hr hk hR hrec143 hrec180 hrec189 X (lv_sub hl [1, 2, 3, 0, 4, 5] rfl) hg
  · have hg := (if_pos c288).symm.trans hg
    refine lv_iload hx hb dX12_bitOfPart_291 (lv_at hl 6 rfl) ?_
    refine lv_if_eq (tgt := 300) hx hb dX12_bitOfPart_293 (by decide) (fun c293 => ?_) (fun c293 => ?_)
    · have hg := (if_pos c293).symm.trans hg
      refine lv_iconst (v := 0) hx hb dX12_bitOfPart_300 (by decide) ?_
      exact w_X12_bitOfPart_b301 S hr hk hR hrec143 hrec180 hrec189 X (lv_sub hl [1, 2, 3, 0, 4, 5] rfl) hg
    · have hg := (if_neg c293).symm.trans hg
      exact w_X12_bitOfPart_b296 S hr hk hR hrec143 hrec180 hrec189 X (lv_sub hl [1, 2, 3, 0, 4, 5] rfl) hg
set_option maxHeartbeats 4000000 in
set_option maxRecDepth 100000 in
theorem w_X12_bitOfPart_b257 {σ : S5} {rec143 : Int32 → Int32 → Int32 → S5 → Option (Int32 × S5)} {rec180 : Int32 → Int32 → Int32 → Int32 → S5 → Option (Int32 × S5)} {rec189 : Int32 → Int32 → Int32 → Int32 → Int32 → S5 → Option (Int32 × S5)} {v1 : Int32} {v2 : Int32} {v4 : Int32} {v5 : Int32} {v6 : Int32} {H : Heap} {locs : List Loc} {ls : Array Slot} (S : CallFix p m c cX12_bitOfPart 7 s args uG RX12) (hr : meth.sig.returnType = (some .boolean)) (hk : meth.locks = false) (hR : 3 ≤ R.frames ∧ 72 ≤ R.locals)
    (hrec143 : ∀ (v1 : Int32) (v2 : Int32) (v3 : Int32) (σ : S5) (H : Heap) (locs : List Loc) (ls : Array Slot), gX (dC, dI) (tM kc) (wM ad kc) Z A s σ H locs → lv_has ls 7 [(0, .ref (ad 0)), (1, .int v1), (2, .int v2), (3, .int v3)] → rec143 v1 v2 v3 σ = some (r, τ) → W p l e R s m args below meth c H locs 0 0 (MQ below (gQi (dC, dI) (tM kc) (wM ad kc) A r τ) args s 0 0 A) (F0 m 143 ls []))
    (hrec180 : ∀ (v1 : Int32) (v2 : Int32) (v3 : Int32) (v4 : Int32) (σ : S5) (H : Heap) (locs : List Loc) (ls : Array Slot), gX (dC, dI) (tM kc) (wM ad kc) Z A s σ H locs → lv_has ls 7 [(0, .ref (ad 0)), (1, .int v1), (2, .int v2), (3, .int v3), (4, .int v4)] → rec180 v1 v2 v3 v4 σ = some (r, τ) → W p l e R s m args below meth c H locs 0 0 (MQ below (gQi (dC, dI) (tM kc) (wM ad kc) A r τ) args s 0 0 A) (F0 m 180 ls []))
    (hrec189 : ∀ (v1 : Int32) (v2 : Int32) (v3 : Int32) (v4 : Int32) (v5 : Int32) (σ : S5) (H : Heap) (locs : List Loc) (ls : Array Slot), gX (dC, dI) (tM kc) (wM ad kc) Z A s σ H locs → lv_has ls 7 [(0, .ref (ad 0)), (1, .int v1), (2, .int v2), (3, .int v3), (4, .int v4), (5, .int v5)] → rec189 v1 v2 v3 v4 v5 σ = some (r, τ) → W p l e R s m args below meth c H locs 0 0 (MQ below (gQi (dC, dI) (tM kc) (wM ad kc) A r τ) args s 0 0 A) (F0 m 189 ls []))
    (X : gX (dC, dI) (tM kc) (wM ad kc) Z A s σ H locs) (hl : lv_has ls 7 [(0, .ref (ad 0)), (1, .int v1), (2, .int v2), (4, .int v4), (5, .int v5), (6, .int v6)]) (hg : f_X12_bitOfPart_b257 rec143 rec180 rec189 v1 v2 v4 v5 v6 σ = some (r, τ)) : W p l e R s m args below meth c H locs 0 0 (MQ below (gQi (dC, dI) (tM kc) (wM ad kc) A r τ) args s 0 0 A) (F0 m 257 ls []) := by
  have hx := S.1
  have hb := S.2.1
  have hown := S.2.2.2.1
  have hu := S.2.2.2.2
  unfold f_X12_bitOfPart_b257 at hg
  refine lv_iconst (v := 0) hx hb dX12_bitOfPart_257 (by decide) ?_
  exact w_X12_bitOfPart_b258 S hr hk hR hrec143 hrec180 hrec189 X (lv_sub hl [0, 1, 2, 3, 4, 5] rfl) hg
set_option maxHeartbeats 4000000 in
set_option maxRecDepth 100000 in
theorem w_X12_bitOfPart_b253 {σ : S5} {rec143 : Int32 → Int32 → Int32 → S5 → Option (Int32 × S5)} {rec180 : Int32 → Int32 → Int32 → Int32 → S5 → Option (Int32 × S5)} {rec189 : Int32 → Int32 → Int32 → Int32 → Int32 → S5 → Option (Int32 × S5)} {v1 : Int32} {v2 : Int32} {v4 : Int32} {v5 : Int32} {v6 : Int32} {H : Heap} {locs : List Loc} {ls : Array Slot} (S : CallFix p m c cX12_bitOfPart 7 s args uG RX12) (hr : meth.sig.returnType = (some .boolean)) (hk : meth.locks = false) (hR : 3 ≤ R.frames ∧ 72 ≤ R.locals)
    (hrec143 : ∀ (v1 : Int32) (v2 : Int32) (v3 : Int32) (σ : S5) (H : Heap) (locs : List Loc) (ls : Array Slot), gX (dC, dI) (tM kc) (wM ad kc) Z A s σ H locs → lv_has ls 7 [(0, .ref (ad 0)), (1, .int v1), (2, .int v2), (3, .int v3)] → rec143 v1 v2 v3 σ = some (r, τ) → W p l e R s m args below meth c H locs 0 0 (MQ below (gQi (dC, dI) (tM kc) (wM ad kc) A r τ) args s 0 0 A) (F0 m 143 ls []))
    (hrec180 : ∀ (v1 : Int32) (v2 : Int32) (v3 : Int32) (v4 : Int32) (σ : S5) (H : Heap) (locs : List Loc) (ls : Array Slot), gX (dC, dI) (tM kc) (wM ad kc) Z A s σ H locs → lv_has ls 7 [(0, .ref (ad 0)), (1, .int v1), (2, .int v2), (3, .int v3), (4, .int v4)] → rec180 v1 v2 v3 v4 σ = some (r, τ) → W p l e R s m args below meth c H locs 0 0 (MQ below (gQi (dC, dI) (tM kc) (wM ad kc) A r τ) args s 0 0 A) (F0 m 180 ls []))
    (hrec189 : ∀ (v1 : Int32) (v2 : Int32) (v3 : Int32) (v4 : Int32) (v5 : Int32) (σ : S5) (H : Heap) (locs : List Loc) (ls : Array Slot), gX (dC, dI) (tM kc) (wM ad kc) Z A s σ H locs → lv_has ls 7 [(0, .ref (ad 0)), (1, .int v1), (2, .int v2), (3, .int v3), (4, .int v4), (5, .int v5)] → rec189 v1 v2 v3 v4 v5 σ = some (r, τ) → W p l e R s m args below meth c H locs 0 0 (MQ below (gQi (dC, dI) (tM kc) (wM ad kc) A r τ) args s 0 0 A) (F0 m 189 ls []))
    (X : gX (dC, dI) (tM kc) (wM ad kc) Z A s σ H locs) (hl : lv_has ls 7 [(0, .ref (ad 0)), (1, .int v1), (2, .int v2), (4, .int v4), (5, .int v5), (6, .int v6)]) (hg : f_X12_bitOfPart_b253 rec143 rec180 rec189 v1 v2 v4 v5 v6 σ = some (r, τ)) : W p l e R s m args below meth c H locs 0 0 (MQ below (gQi (dC, dI) (tM kc) (wM ad kc) A r τ) args s 0 0 A) (F0 m 253 ls []) := by
  have hx := S.1
  have hb := S.2.1
  have hown := S.2.2.2.1
  have hu := S.2.2.2.2
  unfold f_X12_bitOfPart_b253 at hg
  refine lv_iconst (v := 1) hx hb dX12_bitOfPart_253 (by decide) ?_
  refine lv_goto (tgt := 258) hx hb dX12_bitOfPart_254 (by decide) ?_
  exact w_X12_bitOfPart_b258 S hr hk hR hrec143 hrec180 hrec189 X (lv_sub hl [0, 1, 2, 3, 4, 5] rfl) hg
set_option maxHeartbeats 4000000 in
set_option maxRecDepth 100000 in
theorem w_X12_bitOfPart_B189 {σ : S5} {rec143 : Int32 → Int32 → Int32 → S5 → Option (Int32 × S5)} {rec180 : Int32 → Int32 → Int32 → Int32 → S5 → Option (Int32 × S5)} {rec189 : Int32 → Int32 → Int32 → Int32 → Int32 → S5 → Option (Int32 × S5)} {v1 : Int32} {v2 : Int32} {v3 : Int32} {v4 : Int32} {v5 : Int32} {H : Heap} {locs : List Loc} {ls : Array Slot} (S : CallFix p m c cX12_bitOfPart 7 s args uG RX12) (hr : meth.sig.returnType = (some .boolean)) (hk : meth.locks = false) (hR : 3 ≤ R.frames ∧ 72 ≤ R.locals)
    (hrec143 : ∀ (v1 : Int32) (v2 : Int32) (v3 : Int32) (σ : S5) (H : Heap) (locs : List Loc) (ls : Array Slot), gX (dC, dI) (tM kc) (wM ad kc) Z A s σ H locs → lv_has ls 7 [(0, .ref (ad 0)), (1, .int v1), (2, .int v2), (3, .int v3)] → rec143 v1 v2 v3 σ = some (r, τ) → W p l e R s m args below meth c H locs 0 0 (MQ below (gQi (dC, dI) (tM kc) (wM ad kc) A r τ) args s 0 0 A) (F0 m 143 ls []))
    (hrec180 : ∀ (v1 : Int32) (v2 : Int32) (v3 : Int32) (v4 : Int32) (σ : S5) (H : Heap) (locs : List Loc) (ls : Array Slot), gX (dC, dI) (tM kc) (wM ad kc) Z A s σ H locs → lv_has ls 7 [(0, .ref (ad 0)), (1, .int v1), (2, .int v2), (3, .int v3), (4, .int v4)] → rec180 v1 v2 v3 v4 σ = some (r, τ) → W p l e R s m args below meth c H locs 0 0 (MQ below (gQi (dC, dI) (tM kc) (wM ad kc) A r τ) args s 0 0 A) (F0 m 180 ls []))
    (hrec189 : ∀ (v1 : Int32) (v2 : Int32) (v3 : Int32) (v4 : Int32) (v5 : Int32) (σ : S5) (H : Heap) (locs : List Loc) (ls : Array Slot), gX (dC, dI) (tM kc) (wM ad kc) Z A s σ H locs → lv_has ls 7 [(0, .ref (ad 0)), (1, .int v1), (2, .int v2), (3, .int v3), (4, .int v4), (5, .int v5)] → rec189 v1 v2 v3 v4 v5 σ = some (r, τ) → W p l e R s m args below meth c H locs 0 0 (MQ below (gQi (dC, dI) (tM kc) (wM ad kc) A r τ) args s 0 0 A) (F0 m 189 ls []))
    (X : gX (dC, dI) (tM kc) (wM ad kc) Z A s σ H locs) (hl : lv_has ls 7 [(0, .ref (ad 0)), (1, .int v1), (2, .int v2), (3, .int v3), (4, .int v4), (5, .int v5)]) (hg : f_X12_bitOfPart_B189 rec143 rec180 rec189 v1 v2 v3 v4 v5 σ = some (r, τ)) : W p l e R s m args below meth c H locs 0 0 (MQ below (gQi (dC, dI) (tM kc) (wM ad kc) A r τ) args s 0 0 A) (F0 m 189 ls []) := by
  have hx := S.1
  have hb := S.2.1
  have hown := S.2.2.2.1
  have hu := S.2.2.2.2
  unfold f_X12_bitOfPart_B189 at hg
  refine lv_aload_n hx hb dX12_bitOfPart_189 rfl (lv_at hl 0 rfl) ?_
  refine wmgR_0_64 S X mG_2114 dX12_bitOfPart_190 ?_
  refine lv_iload hx hb dX12_bitOfPart_193 (lv_at hl 4 rfl) ?_
  obtain ⟨hi195, hg⟩ := gd_some hg
  refine wmlA_31 (v := (xA σ 31 v4)) S X hi195 rfl dX12_bitOfPart_195 ?_
  refine lv_if_ne (tgt := 308) hx hb dX12_bitOfPart_196 (by decide) (fun c196 => ?_) (fun c196 => ?_)
  · have hg := (if_neg c196).symm.trans hg
    exact w_X12_bitOfPart_b308 S hr hk hR hrec143 hrec180 X (lv_sub hl [0, 1, 2, 3, 4] rfl) hg
  · have hg := (if_pos c196).symm.trans hg
    refine lv_iload hx hb dX12_bitOfPart_199 (lv_at hl 5 rfl) ?_
    refine lv_aload_n hx hb dX12_bitOfPart_201 rfl (lv_at hl 0 rfl) ?_
    refine wmgR_0_65 S X mG_2115 dX12_bitOfPart_202 ?_
    refine lv_iload hx hb dX12_bitOfPart_205 (lv_at hl 4 rfl) ?_
    obtain ⟨hi207, hg⟩ := gd_some hg
    refine wmlA_32 (v := (xA σ 32 v4)) S X hi207 rfl dX12_bitOfPart_207 ?_
    refine lv_icmp_ge (tgt := 308) hx hb dX12_bitOfPart_208 (by decide) (fun c208 => ?_) (fun c208 => ?_)
    · have hg := (if_pos c208).symm.trans hg
      exact w_X12_bitOfPart_b308 S hr hk hR hrec143 hrec180 X (lv_sub hl [0, 1, 2, 3, 4] rfl) hg
    · have hg := (if_neg c208).symm.trans hg
      refine lv_aload_n hx hb dX12_bitOfPart_211 rfl (lv_at hl 0 rfl) ?_
      refine wmgR_0_86 S X mG_2136 dX12_bitOfPart_212 ?_
      refine lv_aload_n hx hb dX12_bitOfPart_215 rfl (lv_at hl 0 rfl) ?_
      refine lv_iload hx hb dX12_bitOfPart_216 (lv_at hl 4 rfl) ?_
      refine lv_iload hx hb dX12_bitOfPart_218 (lv_at hl 5 rfl) ?_
      obtain ⟨r220, τ220, hq220, hg⟩ := bd_some hg
      refine gc_Vi (As := [.int v4, .int v5]) (rest := [.ref (ad 57)]) (q0 := 0) (ci := 15) S X (k2_X12_child l dC dI ad kc hq220 H.size) cw_X12_child mG_2736 rfl rfl rfl rfl rfl hl.1 (Nat.le_of_ble_eq_true rfl) dX12_bitOfPart_220 ⟨by omega, by omega⟩ (fun H locs X => ?_)
      obtain ⟨hi223, hg⟩ := gd_some hg
      refine wmlA_50 (v := (xA τ220 50 r220)) S X hi223 rfl dX12_bitOfPart_223 ?_
      refine lv_istore (lv' := [(6, .int (xA τ220 50 r220)), (0, .ref (ad 0)), (1, .int v1), (2, .int v2), (3, .int v3), (4, .int v4), (5, .int v5)]) hx hb dX12_bitOfPart_224 hl (by decide) rfl (fun ls hl => ?_)
      refine lv_iload_n hx hb dX12_bitOfPart_226 rfl (lv_at hl 4 rfl) ?_
      refine lv_if_ne (tgt := 253) hx hb dX12_bitOfPart_227 (by decide) (fun c227 => ?_) (fun c227 => ?_)
      · have hg := (if_neg c227).symm.trans hg
        exact w_X12_bitOfPart_b253 S hr hk hR hrec143 hrec180 hrec189 X (lv_sub hl [1, 2, 3, 5, 6, 0] rfl) hg
      · have hg := (if_pos c227).symm.trans hg
        refine lv_iload hx hb dX12_bitOfPart_230 (lv_at hl 0 rfl) ?_
        refine lv_if_eq (tgt := 257) hx hb dX12_bitOfPart_232 (by decide) (fun c232 => ?_) (fun c232 => ?_)
        · have hg := (if_pos c232).symm.trans hg
          exact w_X12_bitOfPart_b257 S hr hk hR hrec143 hrec180 hrec189 X (lv_sub hl [1, 2, 3, 5, 6, 0] rfl) hg
        · have hg := (if_neg c232).symm.trans hg
          refine lv_aload_n hx hb dX12_bitOfPart_235 rfl (lv_at hl 1 rfl) ?_
          refine wmgR_0_87 S X mG_2137 dX12_bitOfPart_236 ?_
          refine lv_aload_n hx hb dX12_bitOfPart_239 rfl (lv_at hl 1 rfl) ?_
          refine wmgR_0_68 S X mG_2118 dX12_bitOfPart_240 ?_
          refine lv_iload hx hb dX12_bitOfPart_243 (lv_at hl 5 rfl) ?_
          obtain ⟨hi245, hg⟩ := gd_some hg
          refine wmlA_35 (v := (xA τ220 35 v4)) S X hi245 rfl dX12_bitOfPart_245 ?_
          refine lv_iload hx hb dX12_bitOfPart_246 (lv_at hl 6 rfl) ?_
          refine lv_iadd hx hb dX12_bitOfPart_248 ?_
          obtain ⟨hi249, hg⟩ := gd_some hg
          refine wmlA_51 (v := (xA τ220 51 ((xA τ220 35 v4) + v5))) S X hi249 rfl dX12_bitOfPart_249 ?_
          refine lv_if_ne (tgt := 257) hx hb dX12_bitOfPart_250 (by decide) (fun c250 => ?_) (fun c250 => ?_)
          · have hg := (if_neg c250).symm.trans hg
            exact w_X12_bitOfPart_b257 S hr hk hR hrec143 hrec180 hrec189 X (lv_sub hl [1, 2, 3, 5, 6, 0] rfl) hg
          · have hg := (if_pos c250).symm.trans hg
            exact w_X12_bitOfPart_b253 S hr hk hR hrec143 hrec180 hrec189 X (lv_sub hl [1, 2, 3, 5, 6, 0] rfl) hg
set_option maxHeartbeats 4000000 in
set_option maxRecDepth 100000 in
theorem w_X12_bitOfPart_L189 {rec143 : Int32 → Int32 → Int32 → S5 → Option (Int32 × S5)} {rec180 : Int32 → Int32 → Int32 → Int32 → S5 → Option (Int32 × S5)} (S : CallFix p m c cX12_bitOfPart 7 s args uG RX12) (hr : meth.sig.returnType = (some .boolean)) (hk : meth.locks = false) (hR : 3 ≤ R.frames ∧ 72 ≤ R.locals)
    (hrec143 : ∀ (v1 : Int32) (v2 : Int32) (v3 : Int32) (σ : S5) (H : Heap) (locs : List Loc) (ls : Array Slot), gX (dC, dI) (tM kc) (wM ad kc) Z A s σ H locs → lv_has ls 7 [(0, .ref (ad 0)), (1, .int v1), (2, .int v2), (3, .int v3)] → rec143 v1 v2 v3 σ = some (r, τ) → W p l e R s m args below meth c H locs 0 0 (MQ below (gQi (dC, dI) (tM kc) (wM ad kc) A r τ) args s 0 0 A) (F0 m 143 ls []))
    (hrec180 : ∀ (v1 : Int32) (v2 : Int32) (v3 : Int32) (v4 : Int32) (σ : S5) (H : Heap) (locs : List Loc) (ls : Array Slot), gX (dC, dI) (tM kc) (wM ad kc) Z A s σ H locs → lv_has ls 7 [(0, .ref (ad 0)), (1, .int v1), (2, .int v2), (3, .int v3), (4, .int v4)] → rec180 v1 v2 v3 v4 σ = some (r, τ) → W p l e R s m args below meth c H locs 0 0 (MQ below (gQi (dC, dI) (tM kc) (wM ad kc) A r τ) args s 0 0 A) (F0 m 180 ls [])) : ∀ (n : Nat) (v1 : Int32) (v2 : Int32) (v3 : Int32) (v4 : Int32) (v5 : Int32) (σ : S5) (H : Heap) (locs : List Loc) (ls : Array Slot), gX (dC, dI) (tM kc) (wM ad kc) Z A s σ H locs → lv_has ls 7 [(0, .ref (ad 0)), (1, .int v1), (2, .int v2), (3, .int v3), (4, .int v4), (5, .int v5)] → f_X12_bitOfPart_L189 rec143 rec180 n v1 v2 v3 v4 v5 σ = some (r, τ) → W p l e R s m args below meth c H locs 0 0 (MQ below (gQi (dC, dI) (tM kc) (wM ad kc) A r τ) args s 0 0 A) (F0 m 189 ls []) := by
  intro n
  induction n with
  | zero => intro v1 v2 v3 v4 v5 σ H locs ls X hl hg; cases hg
  | succ n ih => intro v1 v2 v3 v4 v5 σ H locs ls X hl hg; exact w_X12_bitOfPart_B189 S hr hk hR hrec143 hrec180 ih X hl hg
set_option maxHeartbeats 4000000 in
set_option maxRecDepth 100000 in
theorem w_X12_bitOfPart_B180 {σ : S5} {rec143 : Int32 → Int32 → Int32 → S5 → Option (Int32 × S5)} {rec180 : Int32 → Int32 → Int32 → Int32 → S5 → Option (Int32 × S5)} {v1 : Int32} {v2 : Int32} {v3 : Int32} {v4 : Int32} {H : Heap} {locs : List Loc} {ls : Array Slot} (S : CallFix p m c cX12_bitOfPart 7 s args uG RX12) (hr : meth.sig.returnType = (some .boolean)) (hk : meth.locks = false) (hR : 3 ≤ R.frames ∧ 72 ≤ R.locals)
    (hrec143 : ∀ (v1 : Int32) (v2 : Int32) (v3 : Int32) (σ : S5) (H : Heap) (locs : List Loc) (ls : Array Slot), gX (dC, dI) (tM kc) (wM ad kc) Z A s σ H locs → lv_has ls 7 [(0, .ref (ad 0)), (1, .int v1), (2, .int v2), (3, .int v3)] → rec143 v1 v2 v3 σ = some (r, τ) → W p l e R s m args below meth c H locs 0 0 (MQ below (gQi (dC, dI) (tM kc) (wM ad kc) A r τ) args s 0 0 A) (F0 m 143 ls []))
    (hrec180 : ∀ (v1 : Int32) (v2 : Int32) (v3 : Int32) (v4 : Int32) (σ : S5) (H : Heap) (locs : List Loc) (ls : Array Slot), gX (dC, dI) (tM kc) (wM ad kc) Z A s σ H locs → lv_has ls 7 [(0, .ref (ad 0)), (1, .int v1), (2, .int v2), (3, .int v3), (4, .int v4)] → rec180 v1 v2 v3 v4 σ = some (r, τ) → W p l e R s m args below meth c H locs 0 0 (MQ below (gQi (dC, dI) (tM kc) (wM ad kc) A r τ) args s 0 0 A) (F0 m 180 ls []))
    (X : gX (dC, dI) (tM kc) (wM ad kc) Z A s σ H locs) (hl : lv_has ls 7 [(0, .ref (ad 0)), (1, .int v1), (2, .int v2), (3, .int v3), (4, .int v4)]) (hg : f_X12_bitOfPart_B180 rec143 rec180 v1 v2 v3 v4 σ = some (r, τ)) : W p l e R s m args below meth c H locs 0 0 (MQ below (gQi (dC, dI) (tM kc) (wM ad kc) A r τ) args s 0 0 A) (F0 m 180 ls []) := by
  have hx := S.1
  have hb := S.2.1
  have hown := S.2.2.2.1
  have hu := S.2.2.2.2
  unfold f_X12_bitOfPart_B180 at hg
  refine lv_iload hx hb dX12_bitOfPart_180 (lv_at hl 4 rfl) ?_
  refine lv_iload_n hx hb dX12_bitOfPart_182 rfl (lv_at hl 2 rfl) ?_
  refine lv_icmp_gt (tgt := 314) hx hb dX12_bitOfPart_183 (by decide) (fun c183 => ?_) (fun c183 => ?_)
  · have hg := (if_pos c183).symm.trans hg
    refine lv_goto (tgt := 143) hx hb dX12_bitOfPart_314 (by decide) ?_
    exact hrec143 _ _ _ _ _ _ _ X (lv_sub hl [0, 1, 2, 3] rfl) hg
  · have hg := (if_neg c183).symm.trans hg
    refine lv_iconst (v := 0) hx hb dX12_bitOfPart_186 (by decide) ?_
    refine lv_istore (lv' := [(5, .int 0), (0, .ref (ad 0)), (1, .int v1), (2, .int v2), (3, .int v3), (4, .int v4)]) hx hb dX12_bitOfPart_187 hl (by decide) rfl (fun ls hl => ?_)
    exact w_X12_bitOfPart_L189 S hr hk hR hrec143 hrec180 _ _ _ _ _ _ _ _ _ _ X (lv_sub hl [1, 2, 3, 4, 5, 0] rfl) hg
set_option maxHeartbeats 4000000 in
set_option maxRecDepth 100000 in
theorem w_X12_bitOfPart_L180 {rec143 : Int32 → Int32 → Int32 → S5 → Option (Int32 × S5)} (S : CallFix p m c cX12_bitOfPart 7 s args uG RX12) (hr : meth.sig.returnType = (some .boolean)) (hk : meth.locks = false) (hR : 3 ≤ R.frames ∧ 72 ≤ R.locals)
    (hrec143 : ∀ (v1 : Int32) (v2 : Int32) (v3 : Int32) (σ : S5) (H : Heap) (locs : List Loc) (ls : Array Slot), gX (dC, dI) (tM kc) (wM ad kc) Z A s σ H locs → lv_has ls 7 [(0, .ref (ad 0)), (1, .int v1), (2, .int v2), (3, .int v3)] → rec143 v1 v2 v3 σ = some (r, τ) → W p l e R s m args below meth c H locs 0 0 (MQ below (gQi (dC, dI) (tM kc) (wM ad kc) A r τ) args s 0 0 A) (F0 m 143 ls [])) : ∀ (n : Nat) (v1 : Int32) (v2 : Int32) (v3 : Int32) (v4 : Int32) (σ : S5) (H : Heap) (locs : List Loc) (ls : Array Slot), gX (dC, dI) (tM kc) (wM ad kc) Z A s σ H locs → lv_has ls 7 [(0, .ref (ad 0)), (1, .int v1), (2, .int v2), (3, .int v3), (4, .int v4)] → f_X12_bitOfPart_L180 rec143 n v1 v2 v3 v4 σ = some (r, τ) → W p l e R s m args below meth c H locs 0 0 (MQ below (gQi (dC, dI) (tM kc) (wM ad kc) A r τ) args s 0 0 A) (F0 m 180 ls []) := by
  intro n
  induction n with
  | zero => intro v1 v2 v3 v4 σ H locs ls X hl hg; cases hg
  | succ n ih => intro v1 v2 v3 v4 σ H locs ls X hl hg; exact w_X12_bitOfPart_B180 S hr hk hR hrec143 ih X hl hg
set_option maxHeartbeats 4000000 in
set_option maxRecDepth 100000 in
theorem w_X12_bitOfPart_B152 {σ : S5} {rec143 : Int32 → Int32 → Int32 → S5 → Option (Int32 × S5)} {rec152 : Int32 → Int32 → Int32 → Int32 → S5 → Option (Int32 × S5)} {v1 : Int32} {v2 : Int32} {v3 : Int32} {v4 : Int32} {H : Heap} {locs : List Loc} {ls : Array Slot} (S : CallFix p m c cX12_bitOfPart 7 s args uG RX12) (hr : meth.sig.returnType = (some .boolean)) (hk : meth.locks = false) (hR : 3 ≤ R.frames ∧ 72 ≤ R.locals)
    (hrec143 : ∀ (v1 : Int32) (v2 : Int32) (v3 : Int32) (σ : S5) (H : Heap) (locs : List Loc) (ls : Array Slot), gX (dC, dI) (tM kc) (wM ad kc) Z A s σ H locs → lv_has ls 7 [(0, .ref (ad 0)), (1, .int v1), (2, .int v2), (3, .int v3)] → rec143 v1 v2 v3 σ = some (r, τ) → W p l e R s m args below meth c H locs 0 0 (MQ below (gQi (dC, dI) (tM kc) (wM ad kc) A r τ) args s 0 0 A) (F0 m 143 ls []))
    (hrec152 : ∀ (v1 : Int32) (v2 : Int32) (v3 : Int32) (v4 : Int32) (σ : S5) (H : Heap) (locs : List Loc) (ls : Array Slot), gX (dC, dI) (tM kc) (wM ad kc) Z A s σ H locs → lv_has ls 7 [(0, .ref (ad 0)), (1, .int v1), (2, .int v2), (3, .int v3), (4, .int v4)] → rec152 v1 v2 v3 v4 σ = some (r, τ) → W p l e R s m args below meth c H locs 0 0 (MQ below (gQi (dC, dI) (tM kc) (wM ad kc) A r τ) args s 0 0 A) (F0 m 152 ls []))
    (X : gX (dC, dI) (tM kc) (wM ad kc) Z A s σ H locs) (hl : lv_has ls 7 [(0, .ref (ad 0)), (1, .int v1), (2, .int v2), (3, .int v3), (4, .int v4)]) (hg : f_X12_bitOfPart_B152 rec143 rec152 v1 v2 v3 v4 σ = some (r, τ)) : W p l e R s m args below meth c H locs 0 0 (MQ below (gQi (dC, dI) (tM kc) (wM ad kc) A r τ) args s 0 0 A) (F0 m 152 ls []) := by
  have hx := S.1
  have hb := S.2.1
  have hown := S.2.2.2.1
  have hu := S.2.2.2.2
  unfold f_X12_bitOfPart_B152 at hg
  refine lv_iload hx hb dX12_bitOfPart_152 (lv_at hl 4 rfl) ?_
  refine lv_iload_n hx hb dX12_bitOfPart_154 rfl (lv_at hl 2 rfl) ?_
  refine lv_icmp_gt (tgt := 177) hx hb dX12_bitOfPart_155 (by decide) (fun c155 => ?_) (fun c155 => ?_)
  · have hg := (if_pos c155).symm.trans hg
    refine lv_iload_n hx hb dX12_bitOfPart_177 rfl (lv_at hl 1 rfl) ?_
    refine lv_istore (lv' := [(4, .int v1), (0, .ref (ad 0)), (1, .int v1), (2, .int v2), (3, .int v3)]) hx hb dX12_bitOfPart_178 hl (by decide) rfl (fun ls hl => ?_)
    exact w_X12_bitOfPart_L180 S hr hk hR hrec143 _ _ _ _ _ _ _ _ _ X (lv_sub hl [1, 2, 3, 4, 0] rfl) hg
  · have hg := (if_neg c155).symm.trans hg
    refine lv_aload_n hx hb dX12_bitOfPart_158 rfl (lv_at hl 0 rfl) ?_
    refine wmgR_0_86 S X mG_2136 dX12_bitOfPart_159 ?_
    refine lv_iload hx hb dX12_bitOfPart_162 (lv_at hl 4 rfl) ?_
    refine lv_aload_n hx hb dX12_bitOfPart_164 rfl (lv_at hl 0 rfl) ?_
    refine lv_iload hx hb dX12_bitOfPart_165 (lv_at hl 4 rfl) ?_
    obtain ⟨r167, τ167, hq167, hg⟩ := bd_some hg
    refine gc_Vi (As := [.int v4]) (rest := [.int v4, .ref (ad 57)]) (q0 := 0) (ci := 15) S X (k2_X12_partBit l dC dI ad kc hq167 H.size) cw_X12_partBit mG_2752 rfl rfl rfl rfl rfl hl.1 (Nat.le_of_ble_eq_true rfl) dX12_bitOfPart_167 ⟨by omega, by omega⟩ (fun H locs X => ?_)
    obtain ⟨hi170, hg⟩ := gd_some hg
    refine wmsA_50 S X hi170 dX12_bitOfPart_170 (fun H locs X => ?_)
    refine lv_iinc (v := (v4 + 1)) (lv' := [(4, .int (v4 + 1)), (0, .ref (ad 0)), (1, .int v1), (2, .int v2), (3, .int v3)]) hx hb dX12_bitOfPart_171 hl (k := 4) rfl (by rfl) (by decide) rfl (fun ls hl => ?_)
    refine lv_goto (tgt := 152) hx hb dX12_bitOfPart_174 (by decide) ?_
    exact hrec152 _ _ _ _ _ _ _ _ X (lv_sub hl [1, 2, 3, 4, 0] rfl) hg
set_option maxHeartbeats 4000000 in
set_option maxRecDepth 100000 in
theorem w_X12_bitOfPart_L152 {rec143 : Int32 → Int32 → Int32 → S5 → Option (Int32 × S5)} (S : CallFix p m c cX12_bitOfPart 7 s args uG RX12) (hr : meth.sig.returnType = (some .boolean)) (hk : meth.locks = false) (hR : 3 ≤ R.frames ∧ 72 ≤ R.locals)
    (hrec143 : ∀ (v1 : Int32) (v2 : Int32) (v3 : Int32) (σ : S5) (H : Heap) (locs : List Loc) (ls : Array Slot), gX (dC, dI) (tM kc) (wM ad kc) Z A s σ H locs → lv_has ls 7 [(0, .ref (ad 0)), (1, .int v1), (2, .int v2), (3, .int v3)] → rec143 v1 v2 v3 σ = some (r, τ) → W p l e R s m args below meth c H locs 0 0 (MQ below (gQi (dC, dI) (tM kc) (wM ad kc) A r τ) args s 0 0 A) (F0 m 143 ls [])) : ∀ (n : Nat) (v1 : Int32) (v2 : Int32) (v3 : Int32) (v4 : Int32) (σ : S5) (H : Heap) (locs : List Loc) (ls : Array Slot), gX (dC, dI) (tM kc) (wM ad kc) Z A s σ H locs → lv_has ls 7 [(0, .ref (ad 0)), (1, .int v1), (2, .int v2), (3, .int v3), (4, .int v4)] → f_X12_bitOfPart_L152 rec143 n v1 v2 v3 v4 σ = some (r, τ) → W p l e R s m args below meth c H locs 0 0 (MQ below (gQi (dC, dI) (tM kc) (wM ad kc) A r τ) args s 0 0 A) (F0 m 152 ls []) := by
  intro n
  induction n with
  | zero => intro v1 v2 v3 v4 σ H locs ls X hl hg; cases hg
  | succ n ih => intro v1 v2 v3 v4 σ H locs ls X hl hg; exact w_X12_bitOfPart_B152 S hr hk hR hrec143 ih X hl hg
set_option maxHeartbeats 4000000 in
set_option maxRecDepth 100000 in
theorem w_X12_bitOfPart_B143 {σ : S5} {rec143 : Int32 → Int32 → Int32 → S5 → Option (Int32 × S5)} {v1 : Int32} {v2 : Int32} {v3 : Int32} {H : Heap} {locs : List Loc} {ls : Array Slot} (S : CallFix p m c cX12_bitOfPart 7 s args uG RX12) (hr : meth.sig.returnType = (some .boolean)) (hk : meth.locks = false) (hR : 3 ≤ R.frames ∧ 72 ≤ R.locals)
    (hrec143 : ∀ (v1 : Int32) (v2 : Int32) (v3 : Int32) (σ : S5) (H : Heap) (locs : List Loc) (ls : Array Slot), gX (dC, dI) (tM kc) (wM ad kc) Z A s σ H locs → lv_has ls 7 [(0, .ref (ad 0)), (1, .int v1), (2, .int v2), (3, .int v3)] → rec143 v1 v2 v3 σ = some (r, τ) → W p l e R s m args below meth c H locs 0 0 (MQ below (gQi (dC, dI) (tM kc) (wM ad kc) A r τ) args s 0 0 A) (F0 m 143 ls []))
    (X : gX (dC, dI) (tM kc) (wM ad kc) Z A s σ H locs) (hl : lv_has ls 7 [(0, .ref (ad 0)), (1, .int v1), (2, .int v2), (3, .int v3)]) (hg : f_X12_bitOfPart_B143 rec143 v1 v2 v3 σ = some (r, τ)) : W p l e R s m args below meth c H locs 0 0 (MQ below (gQi (dC, dI) (tM kc) (wM ad kc) A r τ) args s 0 0 A) (F0 m 143 ls []) := by
  have hx := S.1
  have hb := S.2.1
  have hown := S.2.2.2.1
  have hu := S.2.2.2.2
  unfold f_X12_bitOfPart_B143 at hg
  refine lv_iload_n hx hb dX12_bitOfPart_143 rfl (lv_at hl 3 rfl) ?_
  refine lv_if_eq (tgt := 317) hx hb dX12_bitOfPart_144 (by decide) (fun c144 => ?_) (fun c144 => ?_)
  · have hg := (if_pos c144).symm.trans hg
    refine lv_aload_n hx hb dX12_bitOfPart_317 rfl (lv_at hl 0 rfl) ?_
    refine wmgR_0_86 S X mG_2136 dX12_bitOfPart_318 ?_
    refine lv_iload_n hx hb dX12_bitOfPart_321 rfl (lv_at hl 2 rfl) ?_
    obtain ⟨hi322, hg⟩ := gd_some hg
    refine wmlA_50 (v := (xA σ 50 v2)) S X hi322 rfl dX12_bitOfPart_322 ?_
    obtain ⟨hn323, hg⟩ := g_t_some hg
    obtain ⟨rfl, rfl⟩ := fin_some hg
    exact gr_z S hr hk X hn323 dX12_bitOfPart_323
  · have hg := (if_neg c144).symm.trans hg
    refine lv_iconst (v := 0) hx hb dX12_bitOfPart_147 (by decide) ?_
    refine lv_istore_n (lv' := [(3, .int 0), (0, .ref (ad 0)), (1, .int v1), (2, .int v2)]) hx hb dX12_bitOfPart_148 rfl hl (by decide) rfl (fun ls hl => ?_)
    refine lv_iload_n hx hb dX12_bitOfPart_149 rfl (lv_at hl 2 rfl) ?_
    refine lv_istore (lv' := [(4, .int v1), (3, .int 0), (0, .ref (ad 0)), (1, .int v1), (2, .int v2)]) hx hb dX12_bitOfPart_150 hl (by decide) rfl (fun ls hl => ?_)
    exact w_X12_bitOfPart_L152 S hr hk hR hrec143 _ _ _ _ _ _ _ _ _ X (lv_sub hl [2, 3, 4, 1, 0] rfl) hg
set_option maxHeartbeats 4000000 in
set_option maxRecDepth 100000 in
theorem w_X12_bitOfPart_L143 (S : CallFix p m c cX12_bitOfPart 7 s args uG RX12) (hr : meth.sig.returnType = (some .boolean)) (hk : meth.locks = false) (hR : 3 ≤ R.frames ∧ 72 ≤ R.locals) : ∀ (n : Nat) (v1 : Int32) (v2 : Int32) (v3 : Int32) (σ : S5) (H : Heap) (locs : List Loc) (ls : Array Slot), gX (dC, dI) (tM kc) (wM ad kc) Z A s σ H locs → lv_has ls 7 [(0, .ref (ad 0)), (1, .int v1), (2, .int v2), (3, .int v3)] → f_X12_bitOfPart_L143  n v1 v2 v3 σ = some (r, τ) → W p l e R s m args below meth c H locs 0 0 (MQ below (gQi (dC, dI) (tM kc) (wM ad kc) A r τ) args s 0 0 A) (F0 m 143 ls []) := by
  intro n
  induction n with
  | zero => intro v1 v2 v3 σ H locs ls X hl hg; cases hg
  | succ n ih => intro v1 v2 v3 σ H locs ls X hl hg; exact w_X12_bitOfPart_B143 S hr hk hR ih X hl hg
set_option maxHeartbeats 4000000 in
set_option maxRecDepth 100000 in
theorem w_X12_bitOfPart_b135 {σ : S5} {rec2 : Int32 → Int32 → Int32 → S5 → Option (Int32 × S5)} {v1 : Int32} {v2 : Int32} {v3 : Int32} {H : Heap} {locs : List Loc} {ls : Array Slot} (S : CallFix p m c cX12_bitOfPart 7 s args uG RX12) (hr : meth.sig.returnType = (some .boolean)) (hk : meth.locks = false) (hR : 3 ≤ R.frames ∧ 72 ≤ R.locals)
    (hrec2 : ∀ (v1 : Int32) (v2 : Int32) (v3 : Int32) (σ : S5) (H : Heap) (locs : List Loc) (ls : Array Slot), gX (dC, dI) (tM kc) (wM ad kc) Z A s σ H locs → lv_has ls 7 [(0, .ref (ad 0)), (1, .int v1), (2, .int v2), (3, .int v3)] → rec2 v1 v2 v3 σ = some (r, τ) → W p l e R s m args below meth c H locs 0 0 (MQ below (gQi (dC, dI) (tM kc) (wM ad kc) A r τ) args s 0 0 A) (F0 m 2 ls []))
    (X : gX (dC, dI) (tM kc) (wM ad kc) Z A s σ H locs) (hl : lv_has ls 7 [(0, .ref (ad 0)), (1, .int v1), (2, .int v2), (3, .int v3)]) (hg : f_X12_bitOfPart_b135 rec2 v1 v2 v3 σ = some (r, τ)) : W p l e R s m args below meth c H locs 0 0 (MQ below (gQi (dC, dI) (tM kc) (wM ad kc) A r τ) args s 0 0 A) (F0 m 135 ls []) := by
  have hx := S.1
  have hb := S.2.1
  have hown := S.2.2.2.1
  have hu := S.2.2.2.2
  unfold f_X12_bitOfPart_b135 at hg
  refine lv_iinc (v := (v3 + 1)) (lv' := [(3, .int (v3 + 1)), (0, .ref (ad 0)), (1, .int v1), (2, .int v2)]) hx hb dX12_bitOfPart_135 hl (k := 3) rfl (by rfl) (by decide) rfl (fun ls hl => ?_)
  refine lv_goto (tgt := 2) hx hb dX12_bitOfPart_138 (by decide) ?_
  exact hrec2 _ _ _ _ _ _ _ X (lv_sub hl [1, 2, 3, 0] rfl) hg
set_option maxHeartbeats 4000000 in
set_option maxRecDepth 100000 in
theorem w_X12_bitOfPart_B81 {σ : S5} {rec2 : Int32 → Int32 → Int32 → S5 → Option (Int32 × S5)} {rec67 : Int32 → Int32 → Int32 → Int32 → S5 → Option (Int32 × S5)} {rec81 : Int32 → Int32 → Int32 → Int32 → Int32 → S5 → Option (Int32 × S5)} {v1 : Int32} {v2 : Int32} {v3 : Int32} {v4 : Int32} {v5 : Int32} {H : Heap} {locs : List Loc} {ls : Array Slot} (S : CallFix p m c cX12_bitOfPart 7 s args uG RX12) (hr : meth.sig.returnType = (some .boolean)) (hk : meth.locks = false) (hR : 3 ≤ R.frames ∧ 72 ≤ R.locals)
    (hrec2 : ∀ (v1 : Int32) (v2 : Int32) (v3 : Int32) (σ : S5) (H : Heap) (locs : List Loc) (ls : Array Slot), gX (dC, dI) (tM kc) (wM ad kc) Z A s σ H locs → lv_has ls 7 [(0, .ref (ad 0)), (1, .int v1), (2, .int v2), (3, .int v3)] → rec2 v1 v2 v3 σ = some (r, τ) → W p l e R s m args below meth c H locs 0 0 (MQ below (gQi (dC, dI) (tM kc) (wM ad kc) A r τ) args s 0 0 A) (F0 m 2 ls []))
    (hrec67 : ∀ (v1 : Int32) (v2 : Int32) (v3 : Int32) (v4 : Int32) (σ : S5) (H : Heap) (locs : List Loc) (ls : Array Slot), gX (dC, dI) (tM kc) (wM ad kc) Z A s σ H locs → lv_has ls 7 [(0, .ref (ad 0)), (1, .int v1), (2, .int v2), (3, .int v3), (4, .int v4)] → rec67 v1 v2 v3 v4 σ = some (r, τ) → W p l e R s m args below meth c H locs 0 0 (MQ below (gQi (dC, dI) (tM kc) (wM ad kc) A r τ) args s 0 0 A) (F0 m 67 ls []))
    (hrec81 : ∀ (v1 : Int32) (v2 : Int32) (v3 : Int32) (v4 : Int32) (v5 : Int32) (σ : S5) (H : Heap) (locs : List Loc) (ls : Array Slot), gX (dC, dI) (tM kc) (wM ad kc) Z A s σ H locs → lv_has ls 7 [(0, .ref (ad 0)), (1, .int v1), (2, .int v2), (3, .int v3), (4, .int v4), (5, .int v5)] → rec81 v1 v2 v3 v4 v5 σ = some (r, τ) → W p l e R s m args below meth c H locs 0 0 (MQ below (gQi (dC, dI) (tM kc) (wM ad kc) A r τ) args s 0 0 A) (F0 m 81 ls []))
    (X : gX (dC, dI) (tM kc) (wM ad kc) Z A s σ H locs) (hl : lv_has ls 7 [(0, .ref (ad 0)), (1, .int v1), (2, .int v2), (3, .int v3), (4, .int v4), (5, .int v5)]) (hg : f_X12_bitOfPart_B81 rec2 rec67 rec81 v1 v2 v3 v4 v5 σ = some (r, τ)) : W p l e R s m args below meth c H locs 0 0 (MQ below (gQi (dC, dI) (tM kc) (wM ad kc) A r τ) args s 0 0 A) (F0 m 81 ls []) := by
  have hx := S.1
  have hb := S.2.1
  have hown := S.2.2.2.1
  have hu := S.2.2.2.2
  unfold f_X12_bitOfPart_B81 at hg
  refine lv_iload hx hb dX12_bitOfPart_81 (lv_at hl 5 rfl) ?_
  refine lv_aload_n hx hb dX12_bitOfPart_83 rfl (lv_at hl 0 rfl) ?_
  refine wmgR_0_78 S X mG_2128 dX12_bitOfPart_84 ?_
  refine lv_aload_n hx hb dX12_bitOfPart_87 rfl (lv_at hl 0 rfl) ?_
  refine wmgR_0_66 S X mG_2116 dX12_bitOfPart_88 ?_
  refine lv_iload_n hx hb dX12_bitOfPart_91 rfl (lv_at hl 3 rfl) ?_
  obtain ⟨hi92, hg⟩ := gd_some hg
  refine wmlA_33 (v := (xA σ 33 v3)) S X hi92 rfl dX12_bitOfPart_92 ?_
  refine lv_iload hx hb dX12_bitOfPart_93 (lv_at hl 4 rfl) ?_
  refine lv_iadd hx hb dX12_bitOfPart_95 ?_
  obtain ⟨hi96, hg⟩ := gd_some hg
  refine wmlA_43 (v := (xA σ 43 ((xA σ 33 v3) + v4))) S X hi96 rfl dX12_bitOfPart_96 ?_
  refine lv_icmp_ge (tgt := 129) hx hb dX12_bitOfPart_97 (by decide) (fun c97 => ?_) (fun c97 => ?_)
  · have hg := (if_pos c97).symm.trans hg
    refine lv_iinc (v := (v4 + 1)) (lv' := [(4, .int (v4 + 1)), (0, .ref (ad 0)), (1, .int v1), (2, .int v2), (3, .int v3), (5, .int v5)]) hx hb dX12_bitOfPart_129 hl (k := 4) rfl (by rfl) (by decide) rfl (fun ls hl => ?_)
    refine lv_goto (tgt := 67) hx hb dX12_bitOfPart_132 (by decide) ?_
    exact hrec67 _ _ _ _ _ _ _ _ X (lv_sub hl [1, 2, 3, 4, 0] rfl) hg
  · have hg := (if_neg c97).symm.trans hg
    refine lv_aload_n hx hb dX12_bitOfPart_100 rfl (lv_at hl 0 rfl) ?_
    refine wmgR_0_87 S X mG_2137 dX12_bitOfPart_101 ?_
    refine lv_aload_n hx hb dX12_bitOfPart_104 rfl (lv_at hl 0 rfl) ?_
    refine wmgR_0_77 S X mG_2127 dX12_bitOfPart_105 ?_
    refine lv_aload_n hx hb dX12_bitOfPart_108 rfl (lv_at hl 0 rfl) ?_
    refine wmgR_0_66 S X mG_2116 dX12_bitOfPart_109 ?_
    refine lv_iload_n hx hb dX12_bitOfPart_112 rfl (lv_at hl 3 rfl) ?_
    obtain ⟨hi113, hg⟩ := gd_some hg
    refine wmlA_33 (v := (xA σ 33 v3)) S X hi113 rfl dX12_bitOfPart_113 ?_
    refine lv_iload hx hb dX12_bitOfPart_114 (lv_at hl 4 rfl) ?_
    refine lv_iadd hx hb dX12_bitOfPart_116 ?_
    obtain ⟨hi117, hg⟩ := gd_some hg
    refine wmlA_42 (v := (xA σ 42 ((xA σ 33 v3) + v4))) S X hi117 rfl dX12_bitOfPart_117 ?_
    refine lv_iload hx hb dX12_bitOfPart_118 (lv_at hl 5 rfl) ?_
    refine lv_iadd hx hb dX12_bitOfPart_120 ?_
    refine lv_iconst (v := 1) hx hb dX12_bitOfPart_121 (by decide) ?_
    obtain ⟨hi122, hg⟩ := gd_some hg
    refine wmsA_51 S X hi122 dX12_bitOfPart_122 (fun H locs X => ?_)
    refine lv_iinc (v := (v5 + 1)) (lv' := [(5, .int (v5 + 1)), (0, .ref (ad 0)), (1, .int v1), (2, .int v2), (3, .int v3), (4, .int v4)]) hx hb dX12_bitOfPart_123 hl (k := 5) rfl (by rfl) (by decide) rfl (fun ls hl => ?_)
    refine lv_goto (tgt := 81) hx hb dX12_bitOfPart_126 (by decide) ?_
    exact hrec81 _ _ _ _ _ _ _ _ _ X (lv_sub hl [1, 2, 3, 4, 5, 0] rfl) hg
set_option maxHeartbeats 4000000 in
set_option maxRecDepth 100000 in
theorem w_X12_bitOfPart_L81 {rec2 : Int32 → Int32 → Int32 → S5 → Option (Int32 × S5)} {rec67 : Int32 → Int32 → Int32 → Int32 → S5 → Option (Int32 × S5)} (S : CallFix p m c cX12_bitOfPart 7 s args uG RX12) (hr : meth.sig.returnType = (some .boolean)) (hk : meth.locks = false) (hR : 3 ≤ R.frames ∧ 72 ≤ R.locals)
    (hrec2 : ∀ (v1 : Int32) (v2 : Int32) (v3 : Int32) (σ : S5) (H : Heap) (locs : List Loc) (ls : Array Slot), gX (dC, dI) (tM kc) (wM ad kc) Z A s σ H locs → lv_has ls 7 [(0, .ref (ad 0)), (1, .int v1), (2, .int v2), (3, .int v3)] → rec2 v1 v2 v3 σ = some (r, τ) → W p l e R s m args below meth c H locs 0 0 (MQ below (gQi (dC, dI) (tM kc) (wM ad kc) A r τ) args s 0 0 A) (F0 m 2 ls []))
    (hrec67 : ∀ (v1 : Int32) (v2 : Int32) (v3 : Int32) (v4 : Int32) (σ : S5) (H : Heap) (locs : List Loc) (ls : Array Slot), gX (dC, dI) (tM kc) (wM ad kc) Z A s σ H locs → lv_has ls 7 [(0, .ref (ad 0)), (1, .int v1), (2, .int v2), (3, .int v3), (4, .int v4)] → rec67 v1 v2 v3 v4 σ = some (r, τ) → W p l e R s m args below meth c H locs 0 0 (MQ below (gQi (dC, dI) (tM kc) (wM ad kc) A r τ) args s 0 0 A) (F0 m 67 ls [])) : ∀ (n : Nat) (v1 : Int32) (v2 : Int32) (v3 : Int32) (v4 : Int32) (v5 : Int32) (σ : S5) (H : Heap) (locs : List Loc) (ls : Array Slot), gX (dC, dI) (tM kc) (wM ad kc) Z A s σ H locs → lv_has ls 7 [(0, .ref (ad 0)), (1, .int v1), (2, .int v2), (3, .int v3), (4, .int v4), (5, .int v5)] → f_X12_bitOfPart_L81 rec2 rec67 n v1 v2 v3 v4 v5 σ = some (r, τ) → W p l e R s m args below meth c H locs 0 0 (MQ below (gQi (dC, dI) (tM kc) (wM ad kc) A r τ) args s 0 0 A) (F0 m 81 ls []) := by
  intro n
  induction n with
  | zero => intro v1 v2 v3 v4 v5 σ H locs ls X hl hg; cases hg
  | succ n ih => intro v1 v2 v3 v4 v5 σ H locs ls X hl hg; exact w_X12_bitOfPart_B81 S hr hk hR hrec2 hrec67 ih X hl hg
set_option maxHeartbeats 4000000 in
set_option maxRecDepth 100000 in
theorem w_X12_bitOfPart_B67 {σ : S5} {rec2 : Int32 → Int32 → Int32 → S5 → Option (Int32 × S5)} {rec67 : Int32 → Int32 → Int32 → Int32 → S5 → Option (Int32 × S5)} {v1 : Int32} {v2 : Int32} {v3 : Int32} {v4 : Int32} {H : Heap} {locs : List Loc} {ls : Array Slot} (S : CallFix p m c cX12_bitOfPart 7 s args uG RX12) (hr : meth.sig.returnType = (some .boolean)) (hk : meth.locks = false) (hR : 3 ≤ R.frames ∧ 72 ≤ R.locals)
    (hrec2 : ∀ (v1 : Int32) (v2 : Int32) (v3 : Int32) (σ : S5) (H : Heap) (locs : List Loc) (ls : Array Slot), gX (dC, dI) (tM kc) (wM ad kc) Z A s σ H locs → lv_has ls 7 [(0, .ref (ad 0)), (1, .int v1), (2, .int v2), (3, .int v3)] → rec2 v1 v2 v3 σ = some (r, τ) → W p l e R s m args below meth c H locs 0 0 (MQ below (gQi (dC, dI) (tM kc) (wM ad kc) A r τ) args s 0 0 A) (F0 m 2 ls []))
    (hrec67 : ∀ (v1 : Int32) (v2 : Int32) (v3 : Int32) (v4 : Int32) (σ : S5) (H : Heap) (locs : List Loc) (ls : Array Slot), gX (dC, dI) (tM kc) (wM ad kc) Z A s σ H locs → lv_has ls 7 [(0, .ref (ad 0)), (1, .int v1), (2, .int v2), (3, .int v3), (4, .int v4)] → rec67 v1 v2 v3 v4 σ = some (r, τ) → W p l e R s m args below meth c H locs 0 0 (MQ below (gQi (dC, dI) (tM kc) (wM ad kc) A r τ) args s 0 0 A) (F0 m 67 ls []))
    (X : gX (dC, dI) (tM kc) (wM ad kc) Z A s σ H locs) (hl : lv_has ls 7 [(0, .ref (ad 0)), (1, .int v1), (2, .int v2), (3, .int v3), (4, .int v4)]) (hg : f_X12_bitOfPart_B67 rec2 rec67 v1 v2 v3 v4 σ = some (r, τ)) : W p l e R s m args below meth c H locs 0 0 (MQ below (gQi (dC, dI) (tM kc) (wM ad kc) A r τ) args s 0 0 A) (F0 m 67 ls []) := by
  have hx := S.1
  have hb := S.2.1
  have hown := S.2.2.2.1
  have hu := S.2.2.2.2
  unfold f_X12_bitOfPart_B67 at hg
  refine lv_iload hx hb dX12_bitOfPart_67 (lv_at hl 4 rfl) ?_
  refine lv_aload_n hx hb dX12_bitOfPart_69 rfl (lv_at hl 0 rfl) ?_
  refine wmgR_0_67 S X mG_2117 dX12_bitOfPart_70 ?_
  refine lv_iload_n hx hb dX12_bitOfPart_73 rfl (lv_at hl 3 rfl) ?_
  obtain ⟨hi74, hg⟩ := gd_some hg
  refine wmlA_34 (v := (xA σ 34 v3)) S X hi74 rfl dX12_bitOfPart_74 ?_
  refine lv_icmp_ge (tgt := 135) hx hb dX12_bitOfPart_75 (by decide) (fun c75 => ?_) (fun c75 => ?_)
  · have hg := (if_pos c75).symm.trans hg
    exact w_X12_bitOfPart_b135 S hr hk hR hrec2 X (lv_sub hl [0, 1, 2, 3] rfl) hg
  · have hg := (if_neg c75).symm.trans hg
    refine lv_iconst (v := 0) hx hb dX12_bitOfPart_78 (by decide) ?_
    refine lv_istore (lv' := [(5, .int 0), (0, .ref (ad 0)), (1, .int v1), (2, .int v2), (3, .int v3), (4, .int v4)]) hx hb dX12_bitOfPart_79 hl (by decide) rfl (fun ls hl => ?_)
    exact w_X12_bitOfPart_L81 S hr hk hR hrec2 hrec67 _ _ _ _ _ _ _ _ _ _ X (lv_sub hl [1, 2, 3, 4, 5, 0] rfl) hg
set_option maxHeartbeats 4000000 in
set_option maxRecDepth 100000 in
theorem w_X12_bitOfPart_L67 {rec2 : Int32 → Int32 → Int32 → S5 → Option (Int32 × S5)} (S : CallFix p m c cX12_bitOfPart 7 s args uG RX12) (hr : meth.sig.returnType = (some .boolean)) (hk : meth.locks = false) (hR : 3 ≤ R.frames ∧ 72 ≤ R.locals)
    (hrec2 : ∀ (v1 : Int32) (v2 : Int32) (v3 : Int32) (σ : S5) (H : Heap) (locs : List Loc) (ls : Array Slot), gX (dC, dI) (tM kc) (wM ad kc) Z A s σ H locs → lv_has ls 7 [(0, .ref (ad 0)), (1, .int v1), (2, .int v2), (3, .int v3)] → rec2 v1 v2 v3 σ = some (r, τ) → W p l e R s m args below meth c H locs 0 0 (MQ below (gQi (dC, dI) (tM kc) (wM ad kc) A r τ) args s 0 0 A) (F0 m 2 ls [])) : ∀ (n : Nat) (v1 : Int32) (v2 : Int32) (v3 : Int32) (v4 : Int32) (σ : S5) (H : Heap) (locs : List Loc) (ls : Array Slot), gX (dC, dI) (tM kc) (wM ad kc) Z A s σ H locs → lv_has ls 7 [(0, .ref (ad 0)), (1, .int v1), (2, .int v2), (3, .int v3), (4, .int v4)] → f_X12_bitOfPart_L67 rec2 n v1 v2 v3 v4 σ = some (r, τ) → W p l e R s m args below meth c H locs 0 0 (MQ below (gQi (dC, dI) (tM kc) (wM ad kc) A r τ) args s 0 0 A) (F0 m 67 ls []) := by
  intro n
  induction n with
  | zero => intro v1 v2 v3 v4 σ H locs ls X hl hg; cases hg
  | succ n ih => intro v1 v2 v3 v4 σ H locs ls X hl hg; exact w_X12_bitOfPart_B67 S hr hk hR hrec2 ih X hl hg
set_option maxHeartbeats 4000000 in
set_option maxRecDepth 100000 in
theorem w_X12_bitOfPart_B19 {σ : S5} {rec2 : Int32 → Int32 → Int32 → S5 → Option (Int32 × S5)} {rec19 : Int32 → Int32 → Int32 → Int32 → S5 → Option (Int32 × S5)} {v1 : Int32} {v2 : Int32} {v3 : Int32} {v4 : Int32} {H : Heap} {locs : List Loc} {ls : Array Slot} (S : CallFix p m c cX12_bitOfPart 7 s args uG RX12) (hr : meth.sig.returnType = (some .boolean)) (hk : meth.locks = false) (hR : 3 ≤ R.frames ∧ 72 ≤ R.locals)
    (hrec2 : ∀ (v1 : Int32) (v2 : Int32) (v3 : Int32) (σ : S5) (H : Heap) (locs : List Loc) (ls : Array Slot), gX (dC, dI) (tM kc) (wM ad kc) Z A s σ H locs → lv_has ls 7 [(0, .ref (ad 0)), (1, .int v1), (2, .int v2), (3, .int v3)] → rec2 v1 v2 v3 σ = some (r, τ) → W p l e R s m args below meth c H locs 0 0 (MQ below (gQi (dC, dI) (tM kc) (wM ad kc) A r τ) args s 0 0 A) (F0 m 2 ls []))
    (hrec19 : ∀ (v1 : Int32) (v2 : Int32) (v3 : Int32) (v4 : Int32) (σ : S5) (H : Heap) (locs : List Loc) (ls : Array Slot), gX (dC, dI) (tM kc) (wM ad kc) Z A s σ H locs → lv_has ls 7 [(0, .ref (ad 0)), (1, .int v1), (2, .int v2), (3, .int v3), (4, .int v4)] → rec19 v1 v2 v3 v4 σ = some (r, τ) → W p l e R s m args below meth c H locs 0 0 (MQ below (gQi (dC, dI) (tM kc) (wM ad kc) A r τ) args s 0 0 A) (F0 m 19 ls []))
    (X : gX (dC, dI) (tM kc) (wM ad kc) Z A s σ H locs) (hl : lv_has ls 7 [(0, .ref (ad 0)), (1, .int v1), (2, .int v2), (3, .int v3), (4, .int v4)]) (hg : f_X12_bitOfPart_B19 rec2 rec19 v1 v2 v3 v4 σ = some (r, τ)) : W p l e R s m args below meth c H locs 0 0 (MQ below (gQi (dC, dI) (tM kc) (wM ad kc) A r τ) args s 0 0 A) (F0 m 19 ls []) := by
  have hx := S.1
  have hb := S.2.1
  have hown := S.2.2.2.1
  have hu := S.2.2.2.2
  unfold f_X12_bitOfPart_B19 at hg
  refine lv_iload hx hb dX12_bitOfPart_19 (lv_at hl 4 rfl) ?_
  refine lv_aload_n hx hb dX12_bitOfPart_21 rfl (lv_at hl 0 rfl) ?_
  refine wmgR_0_65 S X mG_2115 dX12_bitOfPart_22 ?_
  refine lv_iload_n hx hb dX12_bitOfPart_25 rfl (lv_at hl 3 rfl) ?_
  obtain ⟨hi26, hg⟩ := gd_some hg
  refine wmlA_32 (v := (xA σ 32 v3)) S X hi26 rfl dX12_bitOfPart_26 ?_
  refine lv_icmp_ge (tgt := 51) hx hb dX12_bitOfPart_27 (by decide) (fun c27 => ?_) (fun c27 => ?_)
  · have hg := (if_pos c27).symm.trans hg
    refine lv_goto (tgt := 135) hx hb dX12_bitOfPart_51 (by decide) ?_
    exact w_X12_bitOfPart_b135 S hr hk hR hrec2 X (lv_sub hl [0, 1, 2, 3] rfl) hg
  · have hg := (if_neg c27).symm.trans hg
    refine lv_aload_n hx hb dX12_bitOfPart_30 rfl (lv_at hl 0 rfl) ?_
    refine wmgR_0_87 S X mG_2137 dX12_bitOfPart_31 ?_
    refine lv_aload_n hx hb dX12_bitOfPart_34 rfl (lv_at hl 0 rfl) ?_
    refine wmgR_0_68 S X mG_2118 dX12_bitOfPart_35 ?_
    refine lv_iload_n hx hb dX12_bitOfPart_38 rfl (lv_at hl 3 rfl) ?_
    obtain ⟨hi39, hg⟩ := gd_some hg
    refine wmlA_35 (v := (xA σ 35 v3)) S X hi39 rfl dX12_bitOfPart_39 ?_
    refine lv_iload hx hb dX12_bitOfPart_40 (lv_at hl 4 rfl) ?_
    refine lv_iadd hx hb dX12_bitOfPart_42 ?_
    refine lv_iconst (v := 0) hx hb dX12_bitOfPart_43 (by decide) ?_
    obtain ⟨hi44, hg⟩ := gd_some hg
    refine wmsA_51 S X hi44 dX12_bitOfPart_44 (fun H locs X => ?_)
    refine lv_iinc (v := (v4 + 1)) (lv' := [(4, .int (v4 + 1)), (0, .ref (ad 0)), (1, .int v1), (2, .int v2), (3, .int v3)]) hx hb dX12_bitOfPart_45 hl (k := 4) rfl (by rfl) (by decide) rfl (fun ls hl => ?_)
    refine lv_goto (tgt := 19) hx hb dX12_bitOfPart_48 (by decide) ?_
    exact hrec19 _ _ _ _ _ _ _ _ X (lv_sub hl [1, 2, 3, 4, 0] rfl) hg
set_option maxHeartbeats 4000000 in
set_option maxRecDepth 100000 in
theorem w_X12_bitOfPart_L19 {rec2 : Int32 → Int32 → Int32 → S5 → Option (Int32 × S5)} (S : CallFix p m c cX12_bitOfPart 7 s args uG RX12) (hr : meth.sig.returnType = (some .boolean)) (hk : meth.locks = false) (hR : 3 ≤ R.frames ∧ 72 ≤ R.locals)
    (hrec2 : ∀ (v1 : Int32) (v2 : Int32) (v3 : Int32) (σ : S5) (H : Heap) (locs : List Loc) (ls : Array Slot), gX (dC, dI) (tM kc) (wM ad kc) Z A s σ H locs → lv_has ls 7 [(0, .ref (ad 0)), (1, .int v1), (2, .int v2), (3, .int v3)] → rec2 v1 v2 v3 σ = some (r, τ) → W p l e R s m args below meth c H locs 0 0 (MQ below (gQi (dC, dI) (tM kc) (wM ad kc) A r τ) args s 0 0 A) (F0 m 2 ls [])) : ∀ (n : Nat) (v1 : Int32) (v2 : Int32) (v3 : Int32) (v4 : Int32) (σ : S5) (H : Heap) (locs : List Loc) (ls : Array Slot), gX (dC, dI) (tM kc) (wM ad kc) Z A s σ H locs → lv_has ls 7 [(0, .ref (ad 0)), (1, .int v1), (2, .int v2), (3, .int v3), (4, .int v4)] → f_X12_bitOfPart_L19 rec2 n v1 v2 v3 v4 σ = some (r, τ) → W p l e R s m args below meth c H locs 0 0 (MQ below (gQi (dC, dI) (tM kc) (wM ad kc) A r τ) args s 0 0 A) (F0 m 19 ls []) := by
  intro n
  induction n with
  | zero => intro v1 v2 v3 v4 σ H locs ls X hl hg; cases hg
  | succ n ih => intro v1 v2 v3 v4 σ H locs ls X hl hg; exact w_X12_bitOfPart_B19 S hr hk hR hrec2 ih X hl hg
set_option maxHeartbeats 4000000 in
set_option maxRecDepth 100000 in
theorem w_X12_bitOfPart_B2 {σ : S5} {rec2 : Int32 → Int32 → Int32 → S5 → Option (Int32 × S5)} {v1 : Int32} {v2 : Int32} {v3 : Int32} {H : Heap} {locs : List Loc} {ls : Array Slot} (S : CallFix p m c cX12_bitOfPart 7 s args uG RX12) (hr : meth.sig.returnType = (some .boolean)) (hk : meth.locks = false) (hR : 3 ≤ R.frames ∧ 72 ≤ R.locals)
    (hrec2 : ∀ (v1 : Int32) (v2 : Int32) (v3 : Int32) (σ : S5) (H : Heap) (locs : List Loc) (ls : Array Slot), gX (dC, dI) (tM kc) (wM ad kc) Z A s σ H locs → lv_has ls 7 [(0, .ref (ad 0)), (1, .int v1), (2, .int v2), (3, .int v3)] → rec2 v1 v2 v3 σ = some (r, τ) → W p l e R s m args below meth c H locs 0 0 (MQ below (gQi (dC, dI) (tM kc) (wM ad kc) A r τ) args s 0 0 A) (F0 m 2 ls []))
    (X : gX (dC, dI) (tM kc) (wM ad kc) Z A s σ H locs) (hl : lv_has ls 7 [(0, .ref (ad 0)), (1, .int v1), (2, .int v2), (3, .int v3)]) (hg : f_X12_bitOfPart_B2 rec2 v1 v2 v3 σ = some (r, τ)) : W p l e R s m args below meth c H locs 0 0 (MQ below (gQi (dC, dI) (tM kc) (wM ad kc) A r τ) args s 0 0 A) (F0 m 2 ls []) := by
  have hx := S.1
  have hb := S.2.1
  have hown := S.2.2.2.1
  have hu := S.2.2.2.2
  unfold f_X12_bitOfPart_B2 at hg
  refine lv_iload_n hx hb dX12_bitOfPart_2 rfl (lv_at hl 3 rfl) ?_
  refine lv_iload_n hx hb dX12_bitOfPart_3 rfl (lv_at hl 2 rfl) ?_
  refine lv_icmp_gt (tgt := 141) hx hb dX12_bitOfPart_4 (by decide) (fun c4 => ?_) (fun c4 => ?_)
  · have hg := (if_pos c4).symm.trans hg
    refine lv_iconst (v := 1) hx hb dX12_bitOfPart_141 (by decide) ?_
    refine lv_istore_n (lv' := [(3, .int 1), (0, .ref (ad 0)), (1, .int v1), (2, .int v2)]) hx hb dX12_bitOfPart_142 rfl hl (by decide) rfl (fun ls hl => ?_)
    exact w_X12_bitOfPart_L143 S hr hk hR _ _ _ _ _ _ _ _ X (lv_sub hl [1, 2, 3, 0] rfl) hg
  · have hg := (if_neg c4).symm.trans hg
    refine lv_aload_n hx hb dX12_bitOfPart_7 rfl (lv_at hl 0 rfl) ?_
    refine wmgR_0_64 S X mG_2114 dX12_bitOfPart_8 ?_
    refine lv_iload_n hx hb dX12_bitOfPart_11 rfl (lv_at hl 3 rfl) ?_
    obtain ⟨hi12, hg⟩ := gd_some hg
    refine wmlA_31 (v := (xA σ 31 v3)) S X hi12 rfl dX12_bitOfPart_12 ?_
    refine lv_if_ne (tgt := 54) hx hb dX12_bitOfPart_13 (by decide) (fun c13 => ?_) (fun c13 => ?_)
    · have hg := (if_neg c13).symm.trans hg
      refine lv_aload_n hx hb dX12_bitOfPart_54 rfl (lv_at hl 0 rfl) ?_
      refine wmgR_0_64 S X mG_2114 dX12_bitOfPart_55 ?_
      refine lv_iload_n hx hb dX12_bitOfPart_58 rfl (lv_at hl 3 rfl) ?_
      obtain ⟨hi59, hg⟩ := gd_some hg
      refine wmlA_31 (v := (xA σ 31 v3)) S X hi59 rfl dX12_bitOfPart_59 ?_
      refine lv_iconst (v := 3) hx hb dX12_bitOfPart_60 (by decide) ?_
      refine lv_icmp_ne (tgt := 135) hx hb dX12_bitOfPart_61 (by decide) (fun c61 => ?_) (fun c61 => ?_)
      · have hg := (if_neg c61).symm.trans hg
        exact w_X12_bitOfPart_b135 S hr hk hR hrec2 X (lv_sub hl [0, 1, 2, 3] rfl) hg
      · have hg := (if_pos c61).symm.trans hg
        refine lv_iconst (v := 1) hx hb dX12_bitOfPart_64 (by decide) ?_
        refine lv_istore (lv' := [(4, .int 1), (0, .ref (ad 0)), (1, .int v1), (2, .int v2), (3, .int v3)]) hx hb dX12_bitOfPart_65 hl (by decide) rfl (fun ls hl => ?_)
        exact w_X12_bitOfPart_L67 S hr hk hR hrec2 _ _ _ _ _ _ _ _ _ X (lv_sub hl [1, 2, 3, 4, 0] rfl) hg
    · have hg := (if_pos c13).symm.trans hg
      refine lv_iconst (v := 0) hx hb dX12_bitOfPart_16 (by decide) ?_
      refine lv_istore (lv' := [(4, .int 0), (0, .ref (ad 0)), (1, .int v1), (2, .int v2), (3, .int v3)]) hx hb dX12_bitOfPart_17 hl (by decide) rfl (fun ls hl => ?_)
      exact w_X12_bitOfPart_L19 S hr hk hR hrec2 _ _ _ _ _ _ _ _ _ X (lv_sub hl [1, 2, 3, 4, 0] rfl) hg
set_option maxHeartbeats 4000000 in
set_option maxRecDepth 100000 in
theorem w_X12_bitOfPart_L2 (S : CallFix p m c cX12_bitOfPart 7 s args uG RX12) (hr : meth.sig.returnType = (some .boolean)) (hk : meth.locks = false) (hR : 3 ≤ R.frames ∧ 72 ≤ R.locals) : ∀ (n : Nat) (v1 : Int32) (v2 : Int32) (v3 : Int32) (σ : S5) (H : Heap) (locs : List Loc) (ls : Array Slot), gX (dC, dI) (tM kc) (wM ad kc) Z A s σ H locs → lv_has ls 7 [(0, .ref (ad 0)), (1, .int v1), (2, .int v2), (3, .int v3)] → f_X12_bitOfPart_L2  n v1 v2 v3 σ = some (r, τ) → W p l e R s m args below meth c H locs 0 0 (MQ below (gQi (dC, dI) (tM kc) (wM ad kc) A r τ) args s 0 0 A) (F0 m 2 ls []) := by
  intro n
  induction n with
  | zero => intro v1 v2 v3 σ H locs ls X hl hg; cases hg
  | succ n ih => intro v1 v2 v3 σ H locs ls X hl hg; exact w_X12_bitOfPart_B2 S hr hk hR ih X hl hg
set_option maxHeartbeats 4000000 in
set_option maxRecDepth 100000 in
theorem w_X12_bitOfPart {σ : S5} {a1 : Int32} {a2 : Int32} {H : Heap} {locs : List Loc} {ls : Array Slot} (S : CallFix p m c cX12_bitOfPart 7 s args uG RX12) (hr : meth.sig.returnType = (some .boolean)) (hk : meth.locks = false) (hR : 3 ≤ R.frames ∧ 72 ≤ R.locals)
    (X : gX (dC, dI) (tM kc) (wM ad kc) Z A s σ H locs) (hl : lv_has ls 7 [(0, .ref (ad 0)), (1, .int a1), (2, .int a2)]) (hg : f_X12_bitOfPart a1 a2 σ = some (r, τ)) : W p l e R s m args below meth c H locs 0 0 (MQ below (gQi (dC, dI) (tM kc) (wM ad kc) A r τ) args s 0 0 A) (F0 m 0 ls []) := by
  have hx := S.1
  have hb := S.2.1
  have hown := S.2.2.2.1
  have hu := S.2.2.2.2
  unfold f_X12_bitOfPart at hg
  refine lv_iload_n hx hb dX12_bitOfPart_0 rfl (lv_at hl 1 rfl) ?_
  refine lv_istore_n (lv' := [(3, .int a1), (0, .ref (ad 0)), (1, .int a1), (2, .int a2)]) hx hb dX12_bitOfPart_1 rfl hl (by decide) rfl (fun ls hl => ?_)
  exact w_X12_bitOfPart_L2 S hr hk hR _ _ _ _ _ _ _ _ X (lv_sub hl [1, 2, 3, 0] rfl) hg
end MX12_bitOfPart
set_option maxRecDepth 100000 in
theorem k2_X12_bitOfPart (l : Launch) (dC : Nat → ClassId) (dI : Nat → Nat → Nat) {Z : ZZ} (ad : Nat → Nat) (kc : Nat → ClassId) {σ τ : S5} {a1 : Int32} {a2 : Int32} {r : Int32} (hg : f_X12_bitOfPart a1 a2 σ = some (r, τ)) (sz : Nat) : Met l yX12_bitOfPart (Cond.code yX12_bitOfPart cX12_bitOfPart 7 (some .boolean) :: uG) { frames := 3, cells := 0, slots := 0, locals := 72 } (gPc (dC, dI) (tM kc) (wM ad kc) Z [.ref (ad 0), .int a1, .int a2] σ sz) (gQi (dC, dI) (tM kc) (wM ad kc) (va_A (wM ad kc σ) sz) r τ) 0 0 (va_A (wM ad kc σ) sz) :=
  g_start (by decide) (Nat.le_of_ble_eq_true rfl) (fun p e s m below meth c ls S hr hk X hl => w_X12_bitOfPart S hr hk ⟨Nat.le_refl _, Nat.le_refl _⟩ X hl hg)
section MX12_findTables
variable {p : Program} {l : Launch} {e : Env} {R : Room} {s : State} {m : MethodId} {args : Array Value} {below : List Frame} {meth : Method} {c : Code} {dC : Nat → ClassId} {dI : Nat → Nat → Nat} {Z : ZZ} {A : Nat → Prop} {ad : Nat → Nat} {kc : Nat → ClassId} {r : Unit} {τ : S5}
set_option maxHeartbeats 4000000 in
set_option maxRecDepth 100000 in
theorem w_X12_findTables_b152 {σ : S5} {rec29 : Int32 → S5 → Option (Unit × S5)} {rec37 : Int32 → Int32 → S5 → Option (Unit × S5)} {rec55 : Int32 → Int32 → Int32 → Int32 → S5 → Option (Unit × S5)} {v1 : Int32} {v2 : Int32} {v3 : Int32} {v4 : Int32} {H : Heap} {locs : List Loc} {ls : Array Slot} (S : CallFix p m c cX12_findTables 6 s args uG RX12) (hr : meth.sig.returnType = none) (hk : meth.locks = false) (hR : 4 ≤ R.frames ∧ 98 ≤ R.locals)
    (hrec29 : ∀ (v1 : Int32) (σ : S5) (H : Heap) (locs : List Loc) (ls : Array Slot), gX (dC, dI) (tM kc) (wM ad kc) Z A s σ H locs → lv_has ls 6 [(0, .ref (ad 0)), (1, .int v1)] → rec29 v1 σ = some (r, τ) → W p l e R s m args below meth c H locs 0 0 (MQ below (gQv (dC, dI) (tM kc) (wM ad kc) A r τ) args s 0 0 A) (F0 m 29 ls []))
    (hrec37 : ∀ (v1 : Int32) (v2 : Int32) (σ : S5) (H : Heap) (locs : List Loc) (ls : Array Slot), gX (dC, dI) (tM kc) (wM ad kc) Z A s σ H locs → lv_has ls 6 [(0, .ref (ad 0)), (1, .int v1), (2, .int v2)] → rec37 v1 v2 σ = some (r, τ) → W p l e R s m args below meth c H locs 0 0 (MQ below (gQv (dC, dI) (tM kc) (wM ad kc) A r τ) args s 0 0 A) (F0 m 37 ls []))
    (hrec55 : ∀ (v1 : Int32) (v2 : Int32) (v3 : Int32) (v4 : Int32) (σ : S5) (H : Heap) (locs : List Loc) (ls : Array Slot), gX (dC, dI) (tM kc) (wM ad kc) Z A s σ H locs → lv_has ls 6 [(0, .ref (ad 0)), (1, .int v1), (2, .int v2), (3, .int v3), (4, .int v4)] → rec55 v1 v2 v3 v4 σ = some (r, τ) → W p l e R s m args below meth c H locs 0 0 (MQ below (gQv (dC, dI) (tM kc) (wM ad kc) A r τ) args s 0 0 A) (F0 m 55 ls []))
    (X : gX (dC, dI) (tM kc) (wM ad kc) Z A s σ H locs) (hl : lv_has ls 6 [(0, .ref (ad 0)), (1, .int v1), (2, .int v2), (3, .int v3), (4, .int v4)]) (hg : f_X12_findTables_b152 rec29 rec37 rec55 v1 v2 v3 v4 σ = some (r, τ)) : W p l e R s m args below meth c H locs 0 0 (MQ below (gQv (dC, dI) (tM kc) (wM ad kc) A r τ) args s 0 0 A) (F0 m 152 ls []) := by
  have hx := S.1
  have hb := S.2.1
  have hown := S.2.2.2.1
  have hu := S.2.2.2.2
  unfold f_X12_findTables_b152 at hg
  refine lv_iinc (v := (v4 + 1)) (lv' := [(4, .int (v4 + 1)), (0, .ref (ad 0)), (1, .int v1), (2, .int v2), (3, .int v3)]) hx hb dX12_findTables_152 hl (k := 4) rfl (by rfl) (by decide) rfl (fun ls hl => ?_)
  refine lv_goto (tgt := 55) hx hb dX12_findTables_155 (by decide) ?_
  exact hrec55 _ _ _ _ _ _ _ _ X (lv_sub hl [1, 2, 3, 4, 0] rfl) hg
set_option maxHeartbeats 4000000 in
set_option maxRecDepth 100000 in
theorem w_X12_findTables_b94 {σ : S5} {rec29 : Int32 → S5 → Option (Unit × S5)} {rec37 : Int32 → Int32 → S5 → Option (Unit × S5)} {rec55 : Int32 → Int32 → Int32 → Int32 → S5 → Option (Unit × S5)} {rec66 : Int32 → Int32 → Int32 → Int32 → Int32 → S5 → Option (Unit × S5)} {v1 : Int32} {v2 : Int32} {v3 : Int32} {v4 : Int32} {v5 : Int32} {u0 : Int32} {u1 : Int32} {H : Heap} {locs : List Loc} {ls : Array Slot} (S : CallFix p m c cX12_findTables 6 s args uG RX12) (hr : meth.sig.returnType = none) (hk : meth.locks = false) (hR : 4 ≤ R.frames ∧ 98 ≤ R.locals)
    (hrec29 : ∀ (v1 : Int32) (σ : S5) (H : Heap) (locs : List Loc) (ls : Array Slot), gX (dC, dI) (tM kc) (wM ad kc) Z A s σ H locs → lv_has ls 6 [(0, .ref (ad 0)), (1, .int v1)] → rec29 v1 σ = some (r, τ) → W p l e R s m args below meth c H locs 0 0 (MQ below (gQv (dC, dI) (tM kc) (wM ad kc) A r τ) args s 0 0 A) (F0 m 29 ls []))
    (hrec37 : ∀ (v1 : Int32) (v2 : Int32) (σ : S5) (H : Heap) (locs : List Loc) (ls : Array Slot), gX (dC, dI) (tM kc) (wM ad kc) Z A s σ H locs → lv_has ls 6 [(0, .ref (ad 0)), (1, .int v1), (2, .int v2)] → rec37 v1 v2 σ = some (r, τ) → W p l e R s m args below meth c H locs 0 0 (MQ below (gQv (dC, dI) (tM kc) (wM ad kc) A r τ) args s 0 0 A) (F0 m 37 ls []))
    (hrec55 : ∀ (v1 : Int32) (v2 : Int32) (v3 : Int32) (v4 : Int32) (σ : S5) (H : Heap) (locs : List Loc) (ls : Array Slot), gX (dC, dI) (tM kc) (wM ad kc) Z A s σ H locs → lv_has ls 6 [(0, .ref (ad 0)), (1, .int v1), (2, .int v2), (3, .int v3), (4, .int v4)] → rec55 v1 v2 v3 v4 σ = some (r, τ) → W p l e R s m args below meth c H locs 0 0 (MQ below (gQv (dC, dI) (tM kc) (wM ad kc) A r τ) args s 0 0 A) (F0 m 55 ls []))
    (hrec66 : ∀ (v1 : Int32) (v2 : Int32) (v3 : Int32) (v4 : Int32) (v5 : Int32) (σ : S5) (H : Heap) (locs : List Loc) (ls : Array Slot), gX (dC, dI) (tM kc) (wM ad kc) Z A s σ H locs → lv_has ls 6 [(0, .ref (ad 0)), (1, .int v1), (2, .int v2), (3, .int v3), (4, .int v4), (5, .int v5)] → rec66 v1 v2 v3 v4 v5 σ = some (r, τ) → W p l e R s m args below meth c H locs 0 0 (MQ below (gQv (dC, dI) (tM kc) (wM ad kc) A r τ) args s 0 0 A) (F0 m 66 ls []))
    (X : gX (dC, dI) (tM kc) (wM ad kc) Z A s σ H locs) (hl : lv_has ls 6 [(0, .ref (ad 0)), (1, .int v1), (2, .int v2), (3, .int v3), (4, .int v4), (5, .int v5)]) (hg : f_X12_findTables_b94 rec29 rec37 rec55 rec66 v1 v2 v3 v4 v5 u0 u1 σ = some (r, τ)) : W p l e R s m args below meth c H locs 0 0 (MQ below (gQv (dC, dI) (tM kc) (wM ad kc) A r τ) args s 0 0 A) (F0 m 94 ls [.int u0, .int u1, .ref (ad 58)]) := by
  have hx := S.1
  have hb := S.2.1
  have hown := S.2.2.2.1
  have hu := S.2.2.2.2
  unfold f_X12_findTables_b94 at hg
  obtain ⟨hi94, hg⟩ := gd_some hg
  refine wmsA_51 S X hi94 dX12_findTables_94 (fun H locs X => ?_)
  refine lv_iinc (v := (v5 + 1)) (lv' := [(5, .int (v5 + 1)), (0, .ref (ad 0)), (1, .int v1), (2, .int v2), (3, .int v3), (4, .int v4)]) hx hb dX12_findTables_95 hl (k := 5) rfl (by rfl) (by decide) rfl (fun ls hl => ?_)
  refine lv_goto (tgt := 66) hx hb dX12_findTables_98 (by decide) ?_
  exact hrec66 _ _ _ _ _ _ _ _ _ X (lv_sub hl [1, 2, 3, 4, 5, 0] rfl) hg
set_option maxHeartbeats 4000000 in
set_option maxRecDepth 100000 in
theorem w_X12_findTables_B66 {σ : S5} {rec29 : Int32 → S5 → Option (Unit × S5)} {rec37 : Int32 → Int32 → S5 → Option (Unit × S5)} {rec55 : Int32 → Int32 → Int32 → Int32 → S5 → Option (Unit × S5)} {rec66 : Int32 → Int32 → Int32 → Int32 → Int32 → S5 → Option (Unit × S5)} {v1 : Int32} {v2 : Int32} {v3 : Int32} {v4 : Int32} {v5 : Int32} {H : Heap} {locs : List Loc} {ls : Array Slot} (S : CallFix p m c cX12_findTables 6 s args uG RX12) (hr : meth.sig.returnType = none) (hk : meth.locks = false) (hR : 4 ≤ R.frames ∧ 98 ≤ R.locals)
    (hrec29 : ∀ (v1 : Int32) (σ : S5) (H : Heap) (locs : List Loc) (ls : Array Slot), gX (dC, dI) (tM kc) (wM ad kc) Z A s σ H locs → lv_has ls 6 [(0, .ref (ad 0)), (1, .int v1)] → rec29 v1 σ = some (r, τ) → W p l e R s m args below meth c H locs 0 0 (MQ below (gQv (dC, dI) (tM kc) (wM ad kc) A r τ) args s 0 0 A) (F0 m 29 ls []))
    (hrec37 : ∀ (v1 : Int32) (v2 : Int32) (σ : S5) (H : Heap) (locs : List Loc) (ls : Array Slot), gX (dC, dI) (tM kc) (wM ad kc) Z A s σ H locs → lv_has ls 6 [(0, .ref (ad 0)), (1, .int v1), (2, .int v2)] → rec37 v1 v2 σ = some (r, τ) → W p l e R s m args below meth c H locs 0 0 (MQ below (gQv (dC, dI) (tM kc) (wM ad kc) A r τ) args s 0 0 A) (F0 m 37 ls []))
    (hrec55 : ∀ (v1 : Int32) (v2 : Int32) (v3 : Int32) (v4 : Int32) (σ : S5) (H : Heap) (locs : List Loc) (ls : Array Slot), gX (dC, dI) (tM kc) (wM ad kc) Z A s σ H locs → lv_has ls 6 [(0, .ref (ad 0)), (1, .int v1), (2, .int v2), (3, .int v3), (4, .int v4)] → rec55 v1 v2 v3 v4 σ = some (r, τ) → W p l e R s m args below meth c H locs 0 0 (MQ below (gQv (dC, dI) (tM kc) (wM ad kc) A r τ) args s 0 0 A) (F0 m 55 ls []))
    (hrec66 : ∀ (v1 : Int32) (v2 : Int32) (v3 : Int32) (v4 : Int32) (v5 : Int32) (σ : S5) (H : Heap) (locs : List Loc) (ls : Array Slot), gX (dC, dI) (tM kc) (wM ad kc) Z A s σ H locs → lv_has ls 6 [(0, .ref (ad 0)), (1, .int v1), (2, .int v2), (3, .int v3), (4, .int v4), (5, .int v5)] → rec66 v1 v2 v3 v4 v5 σ = some (r, τ) → W p l e R s m args below meth c H locs 0 0 (MQ below (gQv (dC, dI) (tM kc) (wM ad kc) A r τ) args s 0 0 A) (F0 m 66 ls []))
    (X : gX (dC, dI) (tM kc) (wM ad kc) Z A s σ H locs) (hl : lv_has ls 6 [(0, .ref (ad 0)), (1, .int v1), (2, .int v2), (3, .int v3), (4, .int v4), (5, .int v5)]) (hg : f_X12_findTables_B66 rec29 rec37 rec55 rec66 v1 v2 v3 v4 v5 σ = some (r, τ)) : W p l e R s m args below meth c H locs 0 0 (MQ below (gQv (dC, dI) (tM kc) (wM ad kc) A r τ) args s 0 0 A) (F0 m 66 ls []) := by
  have hx := S.1
  have hb := S.2.1
  have hown := S.2.2.2.1
  have hu := S.2.2.2.2
  unfold f_X12_findTables_B66 at hg
  refine lv_iload hx hb dX12_findTables_66 (lv_at hl 5 rfl) ?_
  refine lv_iload_n hx hb dX12_findTables_68 rfl (lv_at hl 3 rfl) ?_
  refine lv_icmp_ge (tgt := 101) hx hb dX12_findTables_69 (by decide) (fun c69 => ?_) (fun c69 => ?_)
  · have hg := (if_pos c69).symm.trans hg
    refine lv_aload_n hx hb dX12_findTables_101 rfl (lv_at hl 0 rfl) ?_
    refine wmgR_0_85 S X mG_2135 dX12_findTables_102 ?_
    refine lv_sipush (v := 256) hx hb dX12_findTables_105 (by decide) ?_
    refine lv_iload_n hx hb dX12_findTables_108 rfl (lv_at hl 2 rfl) ?_
    refine lv_imul hx hb dX12_findTables_109 ?_
    refine lv_iload hx hb dX12_findTables_110 (lv_at hl 4 rfl) ?_
    refine lv_iadd hx hb dX12_findTables_112 ?_
    obtain ⟨hi113, hg⟩ := gd_some hg
    refine wmlA_49 (v := (xA σ 49 ((256 * v2) + v4))) S X hi113 rfl dX12_findTables_113 ?_
    refine lv_if_ne (tgt := 152) hx hb dX12_findTables_114 (by decide) (fun c114 => ?_) (fun c114 => ?_)
    · have hg := (if_neg c114).symm.trans hg
      exact w_X12_findTables_b152 S hr hk hR hrec29 hrec37 hrec55 X (lv_sub hl [0, 1, 2, 3, 4] rfl) hg
    · have hg := (if_pos c114).symm.trans hg
      refine lv_aload_n hx hb dX12_findTables_117 rfl (lv_at hl 0 rfl) ?_
      refine lv_aload_n hx hb dX12_findTables_118 rfl (lv_at hl 0 rfl) ?_
      refine wmgR_0_79 S X mG_2129 dX12_findTables_119 ?_
      refine lv_iload_n hx hb dX12_findTables_122 rfl (lv_at hl 2 rfl) ?_
      obtain ⟨hi123, hg⟩ := gd_some hg
      refine wmlA_44 (v := (xA σ 44 v2)) S X hi123 rfl dX12_findTables_123 ?_
      refine lv_aload_n hx hb dX12_findTables_124 rfl (lv_at hl 0 rfl) ?_
      refine wmgR_0_80 S X mG_2130 dX12_findTables_125 ?_
      refine lv_iload_n hx hb dX12_findTables_128 rfl (lv_at hl 2 rfl) ?_
      obtain ⟨hi129, hg⟩ := gd_some hg
      refine wmlA_45 (v := (xA σ 45 v2)) S X hi129 rfl dX12_findTables_129 ?_
      obtain ⟨r130, τ130, hq130, hg⟩ := bd_some hg
      refine gc_Vi (As := [.int (xA σ 44 v2), .int (xA σ 45 v2)]) (rest := []) (q0 := 0) (ci := 15) S X (k2_X12_bitOfPart l dC dI ad kc hq130 H.size) cw_X12_bitOfPart mG_2748 rfl rfl rfl rfl rfl hl.1 (Nat.le_of_ble_eq_true rfl) dX12_findTables_130 ⟨by omega, by omega⟩ (fun H locs X => ?_)
      refine lv_if_eq (tgt := 152) hx hb dX12_findTables_133 (by decide) (fun c133 => ?_) (fun c133 => ?_)
      · have hg := (if_pos c133).symm.trans hg
        exact w_X12_findTables_b152 S hr hk hR hrec29 hrec37 hrec55 X (lv_sub hl [0, 1, 2, 3, 4] rfl) hg
      · have hg := (if_neg c133).symm.trans hg
        refine lv_aload_n hx hb dX12_findTables_136 rfl (lv_at hl 0 rfl) ?_
        refine wmgR_0_85 S X mG_2135 dX12_findTables_137 ?_
        refine lv_sipush (v := 256) hx hb dX12_findTables_140 (by decide) ?_
        refine lv_iload_n hx hb dX12_findTables_143 rfl (lv_at hl 2 rfl) ?_
        refine lv_imul hx hb dX12_findTables_144 ?_
        refine lv_iload hx hb dX12_findTables_145 (lv_at hl 4 rfl) ?_
        refine lv_iadd hx hb dX12_findTables_147 ?_
        refine lv_iconst (v := 1) hx hb dX12_findTables_148 (by decide) ?_
        obtain ⟨hi149, hg⟩ := gd_some hg
        refine wmsA_49 S X hi149 dX12_findTables_149 (fun H locs X => ?_)
        refine lv_iconst (v := 1) hx hb dX12_findTables_150 (by decide) ?_
        refine lv_istore_n (lv' := [(1, .int 1), (0, .ref (ad 0)), (2, .int v2), (3, .int v3), (4, .int v4), (5, .int v5)]) hx hb dX12_findTables_151 rfl hl (by decide) rfl (fun ls hl => ?_)
        exact w_X12_findTables_b152 S hr hk hR hrec29 hrec37 hrec55 X (lv_sub hl [1, 0, 2, 3, 4] rfl) hg
  · have hg := (if_neg c69).symm.trans hg
    refine lv_aload_n hx hb dX12_findTables_72 rfl (lv_at hl 0 rfl) ?_
    refine wmgR_0_87 S X mG_2137 dX12_findTables_73 ?_
    refine lv_iload hx hb dX12_findTables_76 (lv_at hl 5 rfl) ?_
    refine lv_iload hx hb dX12_findTables_78 (lv_at hl 4 rfl) ?_
    refine lv_iload hx hb dX12_findTables_80 (lv_at hl 5 rfl) ?_
    refine lv_ishr hx hb dX12_findTables_82 ?_
    refine lv_iconst (v := 1) hx hb dX12_findTables_83 (by decide) ?_
    refine lv_iand hx hb dX12_findTables_84 ?_
    refine lv_iconst (v := 1) hx hb dX12_findTables_85 (by decide) ?_
    refine lv_icmp_ne (tgt := 93) hx hb dX12_findTables_86 (by decide) (fun c86 => ?_) (fun c86 => ?_)
    · have hg := (if_neg c86).symm.trans hg
      refine lv_iconst (v := 0) hx hb dX12_findTables_93 (by decide) ?_
      exact w_X12_findTables_b94 S hr hk hR hrec29 hrec37 hrec55 hrec66 X (lv_sub hl [0, 1, 2, 3, 4, 5] rfl) hg
    · have hg := (if_pos c86).symm.trans hg
      refine lv_iconst (v := 1) hx hb dX12_findTables_89 (by decide) ?_
      refine lv_goto (tgt := 94) hx hb dX12_findTables_90 (by decide) ?_
      exact w_X12_findTables_b94 S hr hk hR hrec29 hrec37 hrec55 hrec66 X (lv_sub hl [0, 1, 2, 3, 4, 5] rfl) hg
set_option maxHeartbeats 4000000 in
set_option maxRecDepth 100000 in
theorem w_X12_findTables_L66 {rec29 : Int32 → S5 → Option (Unit × S5)} {rec37 : Int32 → Int32 → S5 → Option (Unit × S5)} {rec55 : Int32 → Int32 → Int32 → Int32 → S5 → Option (Unit × S5)} (S : CallFix p m c cX12_findTables 6 s args uG RX12) (hr : meth.sig.returnType = none) (hk : meth.locks = false) (hR : 4 ≤ R.frames ∧ 98 ≤ R.locals)
    (hrec29 : ∀ (v1 : Int32) (σ : S5) (H : Heap) (locs : List Loc) (ls : Array Slot), gX (dC, dI) (tM kc) (wM ad kc) Z A s σ H locs → lv_has ls 6 [(0, .ref (ad 0)), (1, .int v1)] → rec29 v1 σ = some (r, τ) → W p l e R s m args below meth c H locs 0 0 (MQ below (gQv (dC, dI) (tM kc) (wM ad kc) A r τ) args s 0 0 A) (F0 m 29 ls []))
    (hrec37 : ∀ (v1 : Int32) (v2 : Int32) (σ : S5) (H : Heap) (locs : List Loc) (ls : Array Slot), gX (dC, dI) (tM kc) (wM ad kc) Z A s σ H locs → lv_has ls 6 [(0, .ref (ad 0)), (1, .int v1), (2, .int v2)] → rec37 v1 v2 σ = some (r, τ) → W p l e R s m args below meth c H locs 0 0 (MQ below (gQv (dC, dI) (tM kc) (wM ad kc) A r τ) args s 0 0 A) (F0 m 37 ls []))
    (hrec55 : ∀ (v1 : Int32) (v2 : Int32) (v3 : Int32) (v4 : Int32) (σ : S5) (H : Heap) (locs : List Loc) (ls : Array Slot), gX (dC, dI) (tM kc) (wM ad kc) Z A s σ H locs → lv_has ls 6 [(0, .ref (ad 0)), (1, .int v1), (2, .int v2), (3, .int v3), (4, .int v4)] → rec55 v1 v2 v3 v4 σ = some (r, τ) → W p l e R s m args below meth c H locs 0 0 (MQ below (gQv (dC, dI) (tM kc) (wM ad kc) A r τ) args s 0 0 A) (F0 m 55 ls [])) : ∀ (n : Nat) (v1 : Int32) (v2 : Int32) (v3 : Int32) (v4 : Int32) (v5 : Int32) (σ : S5) (H : Heap) (locs : List Loc) (ls : Array Slot), gX (dC, dI) (tM kc) (wM ad kc) Z A s σ H locs → lv_has ls 6 [(0, .ref (ad 0)), (1, .int v1), (2, .int v2), (3, .int v3), (4, .int v4), (5, .int v5)] → f_X12_findTables_L66 rec29 rec37 rec55 n v1 v2 v3 v4 v5 σ = some (r, τ) → W p l e R s m args below meth c H locs 0 0 (MQ below (gQv (dC, dI) (tM kc) (wM ad kc) A r τ) args s 0 0 A) (F0 m 66 ls []) := by
  intro n
  induction n with
  | zero => intro v1 v2 v3 v4 v5 σ H locs ls X hl hg; cases hg
  | succ n ih => intro v1 v2 v3 v4 v5 σ H locs ls X hl hg; exact w_X12_findTables_B66 S hr hk hR hrec29 hrec37 hrec55 ih X hl hg
set_option maxHeartbeats 4000000 in
set_option maxRecDepth 100000 in
theorem w_X12_findTables_B55 {σ : S5} {rec29 : Int32 → S5 → Option (Unit × S5)} {rec37 : Int32 → Int32 → S5 → Option (Unit × S5)} {rec55 : Int32 → Int32 → Int32 → Int32 → S5 → Option (Unit × S5)} {v1 : Int32} {v2 : Int32} {v3 : Int32} {v4 : Int32} {H : Heap} {locs : List Loc} {ls : Array Slot} (S : CallFix p m c cX12_findTables 6 s args uG RX12) (hr : meth.sig.returnType = none) (hk : meth.locks = false) (hR : 4 ≤ R.frames ∧ 98 ≤ R.locals)
    (hrec29 : ∀ (v1 : Int32) (σ : S5) (H : Heap) (locs : List Loc) (ls : Array Slot), gX (dC, dI) (tM kc) (wM ad kc) Z A s σ H locs → lv_has ls 6 [(0, .ref (ad 0)), (1, .int v1)] → rec29 v1 σ = some (r, τ) → W p l e R s m args below meth c H locs 0 0 (MQ below (gQv (dC, dI) (tM kc) (wM ad kc) A r τ) args s 0 0 A) (F0 m 29 ls []))
    (hrec37 : ∀ (v1 : Int32) (v2 : Int32) (σ : S5) (H : Heap) (locs : List Loc) (ls : Array Slot), gX (dC, dI) (tM kc) (wM ad kc) Z A s σ H locs → lv_has ls 6 [(0, .ref (ad 0)), (1, .int v1), (2, .int v2)] → rec37 v1 v2 σ = some (r, τ) → W p l e R s m args below meth c H locs 0 0 (MQ below (gQv (dC, dI) (tM kc) (wM ad kc) A r τ) args s 0 0 A) (F0 m 37 ls []))
    (hrec55 : ∀ (v1 : Int32) (v2 : Int32) (v3 : Int32) (v4 : Int32) (σ : S5) (H : Heap) (locs : List Loc) (ls : Array Slot), gX (dC, dI) (tM kc) (wM ad kc) Z A s σ H locs → lv_has ls 6 [(0, .ref (ad 0)), (1, .int v1), (2, .int v2), (3, .int v3), (4, .int v4)] → rec55 v1 v2 v3 v4 σ = some (r, τ) → W p l e R s m args below meth c H locs 0 0 (MQ below (gQv (dC, dI) (tM kc) (wM ad kc) A r τ) args s 0 0 A) (F0 m 55 ls []))
    (X : gX (dC, dI) (tM kc) (wM ad kc) Z A s σ H locs) (hl : lv_has ls 6 [(0, .ref (ad 0)), (1, .int v1), (2, .int v2), (3, .int v3), (4, .int v4)]) (hg : f_X12_findTables_B55 rec29 rec37 rec55 v1 v2 v3 v4 σ = some (r, τ)) : W p l e R s m args below meth c H locs 0 0 (MQ below (gQv (dC, dI) (tM kc) (wM ad kc) A r τ) args s 0 0 A) (F0 m 55 ls []) := by
  have hx := S.1
  have hb := S.2.1
  have hown := S.2.2.2.1
  have hu := S.2.2.2.2
  unfold f_X12_findTables_B55 at hg
  refine lv_iload hx hb dX12_findTables_55 (lv_at hl 4 rfl) ?_
  refine lv_iconst (v := 1) hx hb dX12_findTables_57 (by decide) ?_
  refine lv_iload_n hx hb dX12_findTables_58 rfl (lv_at hl 3 rfl) ?_
  refine lv_ishl hx hb dX12_findTables_59 ?_
  refine lv_icmp_ge (tgt := 158) hx hb dX12_findTables_60 (by decide) (fun c60 => ?_) (fun c60 => ?_)
  · have hg := (if_pos c60).symm.trans hg
    refine lv_iinc (v := (v2 + 1)) (lv' := [(2, .int (v2 + 1)), (0, .ref (ad 0)), (1, .int v1), (3, .int v3), (4, .int v4)]) hx hb dX12_findTables_158 hl (k := 2) rfl (by rfl) (by decide) rfl (fun ls hl => ?_)
    refine lv_goto (tgt := 37) hx hb dX12_findTables_161 (by decide) ?_
    exact hrec37 _ _ _ _ _ _ X (lv_sub hl [1, 2, 0] rfl) hg
  · have hg := (if_neg c60).symm.trans hg
    refine lv_iconst (v := 0) hx hb dX12_findTables_63 (by decide) ?_
    refine lv_istore (lv' := [(5, .int 0), (0, .ref (ad 0)), (1, .int v1), (2, .int v2), (3, .int v3), (4, .int v4)]) hx hb dX12_findTables_64 hl (by decide) rfl (fun ls hl => ?_)
    exact w_X12_findTables_L66 S hr hk hR hrec29 hrec37 hrec55 _ _ _ _ _ _ _ _ _ _ X (lv_sub hl [1, 2, 3, 4, 5, 0] rfl) hg
set_option maxHeartbeats 4000000 in
set_option maxRecDepth 100000 in
theorem w_X12_findTables_L55 {rec29 : Int32 → S5 → Option (Unit × S5)} {rec37 : Int32 → Int32 → S5 → Option (Unit × S5)} (S : CallFix p m c cX12_findTables 6 s args uG RX12) (hr : meth.sig.returnType = none) (hk : meth.locks = false) (hR : 4 ≤ R.frames ∧ 98 ≤ R.locals)
    (hrec29 : ∀ (v1 : Int32) (σ : S5) (H : Heap) (locs : List Loc) (ls : Array Slot), gX (dC, dI) (tM kc) (wM ad kc) Z A s σ H locs → lv_has ls 6 [(0, .ref (ad 0)), (1, .int v1)] → rec29 v1 σ = some (r, τ) → W p l e R s m args below meth c H locs 0 0 (MQ below (gQv (dC, dI) (tM kc) (wM ad kc) A r τ) args s 0 0 A) (F0 m 29 ls []))
    (hrec37 : ∀ (v1 : Int32) (v2 : Int32) (σ : S5) (H : Heap) (locs : List Loc) (ls : Array Slot), gX (dC, dI) (tM kc) (wM ad kc) Z A s σ H locs → lv_has ls 6 [(0, .ref (ad 0)), (1, .int v1), (2, .int v2)] → rec37 v1 v2 σ = some (r, τ) → W p l e R s m args below meth c H locs 0 0 (MQ below (gQv (dC, dI) (tM kc) (wM ad kc) A r τ) args s 0 0 A) (F0 m 37 ls [])) : ∀ (n : Nat) (v1 : Int32) (v2 : Int32) (v3 : Int32) (v4 : Int32) (σ : S5) (H : Heap) (locs : List Loc) (ls : Array Slot), gX (dC, dI) (tM kc) (wM ad kc) Z A s σ H locs → lv_has ls 6 [(0, .ref (ad 0)), (1, .int v1), (2, .int v2), (3, .int v3), (4, .int v4)] → f_X12_findTables_L55 rec29 rec37 n v1 v2 v3 v4 σ = some (r, τ) → W p l e R s m args below meth c H locs 0 0 (MQ below (gQv (dC, dI) (tM kc) (wM ad kc) A r τ) args s 0 0 A) (F0 m 55 ls []) := by
  intro n
  induction n with
  | zero => intro v1 v2 v3 v4 σ H locs ls X hl hg; cases hg
  | succ n ih => intro v1 v2 v3 v4 σ H locs ls X hl hg; exact w_X12_findTables_B55 S hr hk hR hrec29 hrec37 ih X hl hg
set_option maxHeartbeats 4000000 in
set_option maxRecDepth 100000 in
theorem w_X12_findTables_B37 {σ : S5} {rec29 : Int32 → S5 → Option (Unit × S5)} {rec37 : Int32 → Int32 → S5 → Option (Unit × S5)} {v1 : Int32} {v2 : Int32} {H : Heap} {locs : List Loc} {ls : Array Slot} (S : CallFix p m c cX12_findTables 6 s args uG RX12) (hr : meth.sig.returnType = none) (hk : meth.locks = false) (hR : 4 ≤ R.frames ∧ 98 ≤ R.locals)
    (hrec29 : ∀ (v1 : Int32) (σ : S5) (H : Heap) (locs : List Loc) (ls : Array Slot), gX (dC, dI) (tM kc) (wM ad kc) Z A s σ H locs → lv_has ls 6 [(0, .ref (ad 0)), (1, .int v1)] → rec29 v1 σ = some (r, τ) → W p l e R s m args below meth c H locs 0 0 (MQ below (gQv (dC, dI) (tM kc) (wM ad kc) A r τ) args s 0 0 A) (F0 m 29 ls []))
    (hrec37 : ∀ (v1 : Int32) (v2 : Int32) (σ : S5) (H : Heap) (locs : List Loc) (ls : Array Slot), gX (dC, dI) (tM kc) (wM ad kc) Z A s σ H locs → lv_has ls 6 [(0, .ref (ad 0)), (1, .int v1), (2, .int v2)] → rec37 v1 v2 σ = some (r, τ) → W p l e R s m args below meth c H locs 0 0 (MQ below (gQv (dC, dI) (tM kc) (wM ad kc) A r τ) args s 0 0 A) (F0 m 37 ls []))
    (X : gX (dC, dI) (tM kc) (wM ad kc) Z A s σ H locs) (hl : lv_has ls 6 [(0, .ref (ad 0)), (1, .int v1), (2, .int v2)]) (hg : f_X12_findTables_B37 rec29 rec37 v1 v2 σ = some (r, τ)) : W p l e R s m args below meth c H locs 0 0 (MQ below (gQv (dC, dI) (tM kc) (wM ad kc) A r τ) args s 0 0 A) (F0 m 37 ls []) := by
  have hx := S.1
  have hb := S.2.1
  have hown := S.2.2.2.1
  have hu := S.2.2.2.2
  unfold f_X12_findTables_B37 at hg
  refine lv_iload_n hx hb dX12_findTables_37 rfl (lv_at hl 2 rfl) ?_
  refine lv_aload_n hx hb dX12_findTables_38 rfl (lv_at hl 0 rfl) ?_
  refine wmgI_22 (v := (gI σ 22)) S X mG_2096 rfl dX12_findTables_39 ?_
  refine lv_icmp_ge (tgt := 164) hx hb dX12_findTables_42 (by decide) (fun c42 => ?_) (fun c42 => ?_)
  · have hg := (if_pos c42).symm.trans hg
    refine lv_goto (tgt := 29) hx hb dX12_findTables_164 (by decide) ?_
    exact hrec29 _ _ _ _ _ X (lv_sub hl [0, 1] rfl) hg
  · have hg := (if_neg c42).symm.trans hg
    refine lv_aload_n hx hb dX12_findTables_45 rfl (lv_at hl 0 rfl) ?_
    refine wmgR_0_82 S X mG_2132 dX12_findTables_46 ?_
    refine lv_iload_n hx hb dX12_findTables_49 rfl (lv_at hl 2 rfl) ?_
    obtain ⟨hi50, hg⟩ := gd_some hg
    refine wmlA_47 (v := (xA σ 47 v2)) S X hi50 rfl dX12_findTables_50 ?_
    refine lv_istore_n (lv' := [(3, .int (xA σ 47 v2)), (0, .ref (ad 0)), (1, .int v1), (2, .int v2)]) hx hb dX12_findTables_51 rfl hl (by decide) rfl (fun ls hl => ?_)
    refine lv_iconst (v := 0) hx hb dX12_findTables_52 (by decide) ?_
    refine lv_istore (lv' := [(4, .int 0), (3, .int (xA σ 47 v2)), (0, .ref (ad 0)), (1, .int v1), (2, .int v2)]) hx hb dX12_findTables_53 hl (by decide) rfl (fun ls hl => ?_)
    exact w_X12_findTables_L55 S hr hk hR hrec29 hrec37 _ _ _ _ _ _ _ _ _ X (lv_sub hl [2, 3, 4, 1, 0] rfl) hg
set_option maxHeartbeats 4000000 in
set_option maxRecDepth 100000 in
theorem w_X12_findTables_L37 {rec29 : Int32 → S5 → Option (Unit × S5)} (S : CallFix p m c cX12_findTables 6 s args uG RX12) (hr : meth.sig.returnType = none) (hk : meth.locks = false) (hR : 4 ≤ R.frames ∧ 98 ≤ R.locals)
    (hrec29 : ∀ (v1 : Int32) (σ : S5) (H : Heap) (locs : List Loc) (ls : Array Slot), gX (dC, dI) (tM kc) (wM ad kc) Z A s σ H locs → lv_has ls 6 [(0, .ref (ad 0)), (1, .int v1)] → rec29 v1 σ = some (r, τ) → W p l e R s m args below meth c H locs 0 0 (MQ below (gQv (dC, dI) (tM kc) (wM ad kc) A r τ) args s 0 0 A) (F0 m 29 ls [])) : ∀ (n : Nat) (v1 : Int32) (v2 : Int32) (σ : S5) (H : Heap) (locs : List Loc) (ls : Array Slot), gX (dC, dI) (tM kc) (wM ad kc) Z A s σ H locs → lv_has ls 6 [(0, .ref (ad 0)), (1, .int v1), (2, .int v2)] → f_X12_findTables_L37 rec29 n v1 v2 σ = some (r, τ) → W p l e R s m args below meth c H locs 0 0 (MQ below (gQv (dC, dI) (tM kc) (wM ad kc) A r τ) args s 0 0 A) (F0 m 37 ls []) := by
  intro n
  induction n with
  | zero => intro v1 v2 σ H locs ls X hl hg; cases hg
  | succ n ih => intro v1 v2 σ H locs ls X hl hg; exact w_X12_findTables_B37 S hr hk hR hrec29 ih X hl hg
set_option maxHeartbeats 4000000 in
set_option maxRecDepth 100000 in
theorem w_X12_findTables_B29 {σ : S5} {rec29 : Int32 → S5 → Option (Unit × S5)} {v1 : Int32} {H : Heap} {locs : List Loc} {ls : Array Slot} (S : CallFix p m c cX12_findTables 6 s args uG RX12) (hr : meth.sig.returnType = none) (hk : meth.locks = false) (hR : 4 ≤ R.frames ∧ 98 ≤ R.locals)
    (hrec29 : ∀ (v1 : Int32) (σ : S5) (H : Heap) (locs : List Loc) (ls : Array Slot), gX (dC, dI) (tM kc) (wM ad kc) Z A s σ H locs → lv_has ls 6 [(0, .ref (ad 0)), (1, .int v1)] → rec29 v1 σ = some (r, τ) → W p l e R s m args below meth c H locs 0 0 (MQ below (gQv (dC, dI) (tM kc) (wM ad kc) A r τ) args s 0 0 A) (F0 m 29 ls []))
    (X : gX (dC, dI) (tM kc) (wM ad kc) Z A s σ H locs) (hl : lv_has ls 6 [(0, .ref (ad 0)), (1, .int v1)]) (hg : f_X12_findTables_B29 rec29 v1 σ = some (r, τ)) : W p l e R s m args below meth c H locs 0 0 (MQ below (gQv (dC, dI) (tM kc) (wM ad kc) A r τ) args s 0 0 A) (F0 m 29 ls []) := by
  have hx := S.1
  have hb := S.2.1
  have hown := S.2.2.2.1
  have hu := S.2.2.2.2
  unfold f_X12_findTables_B29 at hg
  refine lv_iload_n hx hb dX12_findTables_29 rfl (lv_at hl 1 rfl) ?_
  refine lv_if_eq (tgt := 167) hx hb dX12_findTables_30 (by decide) (fun c30 => ?_) (fun c30 => ?_)
  · have hg := (if_pos c30).symm.trans hg
    obtain ⟨-, rfl⟩ := fin_some hg
    exact gr_v S hr hk X dX12_findTables_167
  · have hg := (if_neg c30).symm.trans hg
    refine lv_iconst (v := 0) hx hb dX12_findTables_33 (by decide) ?_
    refine lv_istore_n (lv' := [(1, .int 0), (0, .ref (ad 0))]) hx hb dX12_findTables_34 rfl hl (by decide) rfl (fun ls hl => ?_)
    refine lv_iconst (v := 0) hx hb dX12_findTables_35 (by decide) ?_
    refine lv_istore_n (lv' := [(2, .int 0), (1, .int 0), (0, .ref (ad 0))]) hx hb dX12_findTables_36 rfl hl (by decide) rfl (fun ls hl => ?_)
    exact w_X12_findTables_L37 S hr hk hR hrec29 _ _ _ _ _ _ _ X (lv_sub hl [2, 1, 0] rfl) hg
set_option maxHeartbeats 4000000 in
set_option maxRecDepth 100000 in
theorem w_X12_findTables_L29 (S : CallFix p m c cX12_findTables 6 s args uG RX12) (hr : meth.sig.returnType = none) (hk : meth.locks = false) (hR : 4 ≤ R.frames ∧ 98 ≤ R.locals) : ∀ (n : Nat) (v1 : Int32) (σ : S5) (H : Heap) (locs : List Loc) (ls : Array Slot), gX (dC, dI) (tM kc) (wM ad kc) Z A s σ H locs → lv_has ls 6 [(0, .ref (ad 0)), (1, .int v1)] → f_X12_findTables_L29  n v1 σ = some (r, τ) → W p l e R s m args below meth c H locs 0 0 (MQ below (gQv (dC, dI) (tM kc) (wM ad kc) A r τ) args s 0 0 A) (F0 m 29 ls []) := by
  intro n
  induction n with
  | zero => intro v1 σ H locs ls X hl hg; cases hg
  | succ n ih => intro v1 σ H locs ls X hl hg; exact w_X12_findTables_B29 S hr hk hR ih X hl hg
set_option maxHeartbeats 4000000 in
set_option maxRecDepth 100000 in
theorem w_X12_findTables_B2 {σ : S5} {rec2 : Int32 → S5 → Option (Unit × S5)} {v1 : Int32} {H : Heap} {locs : List Loc} {ls : Array Slot} (S : CallFix p m c cX12_findTables 6 s args uG RX12) (hr : meth.sig.returnType = none) (hk : meth.locks = false) (hR : 4 ≤ R.frames ∧ 98 ≤ R.locals)
    (hrec2 : ∀ (v1 : Int32) (σ : S5) (H : Heap) (locs : List Loc) (ls : Array Slot), gX (dC, dI) (tM kc) (wM ad kc) Z A s σ H locs → lv_has ls 6 [(0, .ref (ad 0)), (1, .int v1)] → rec2 v1 σ = some (r, τ) → W p l e R s m args below meth c H locs 0 0 (MQ below (gQv (dC, dI) (tM kc) (wM ad kc) A r τ) args s 0 0 A) (F0 m 2 ls []))
    (X : gX (dC, dI) (tM kc) (wM ad kc) Z A s σ H locs) (hl : lv_has ls 6 [(0, .ref (ad 0)), (1, .int v1)]) (hg : f_X12_findTables_B2 rec2 v1 σ = some (r, τ)) : W p l e R s m args below meth c H locs 0 0 (MQ below (gQv (dC, dI) (tM kc) (wM ad kc) A r τ) args s 0 0 A) (F0 m 2 ls []) := by
  have hx := S.1
  have hb := S.2.1
  have hown := S.2.2.2.1
  have hu := S.2.2.2.2
  unfold f_X12_findTables_B2 at hg
  refine lv_iload_n hx hb dX12_findTables_2 rfl (lv_at hl 1 rfl) ?_
  refine lv_sipush (v := 256) hx hb dX12_findTables_3 (by decide) ?_
  refine lv_aload_n hx hb dX12_findTables_6 rfl (lv_at hl 0 rfl) ?_
  refine wmgI_22 (v := (gI σ 22)) S X mG_2096 rfl dX12_findTables_7 ?_
  refine lv_imul hx hb dX12_findTables_10 ?_
  refine lv_icmp_ge (tgt := 27) hx hb dX12_findTables_11 (by decide) (fun c11 => ?_) (fun c11 => ?_)
  · have hg := (if_pos c11).symm.trans hg
    refine lv_iconst (v := 1) hx hb dX12_findTables_27 (by decide) ?_
    refine lv_istore_n (lv' := [(1, .int 1), (0, .ref (ad 0))]) hx hb dX12_findTables_28 rfl hl (by decide) rfl (fun ls hl => ?_)
    exact w_X12_findTables_L29 S hr hk hR _ _ _ _ _ _ X (lv_sub hl [1, 0] rfl) hg
  · have hg := (if_neg c11).symm.trans hg
    refine lv_aload_n hx hb dX12_findTables_14 rfl (lv_at hl 0 rfl) ?_
    refine wmgR_0_85 S X mG_2135 dX12_findTables_15 ?_
    refine lv_iload_n hx hb dX12_findTables_18 rfl (lv_at hl 1 rfl) ?_
    refine lv_iconst (v := 0) hx hb dX12_findTables_19 (by decide) ?_
    obtain ⟨hi20, hg⟩ := gd_some hg
    refine wmsA_49 S X hi20 dX12_findTables_20 (fun H locs X => ?_)
    refine lv_iinc (v := (v1 + 1)) (lv' := [(1, .int (v1 + 1)), (0, .ref (ad 0))]) hx hb dX12_findTables_21 hl (k := 1) rfl (by rfl) (by decide) rfl (fun ls hl => ?_)
    refine lv_goto (tgt := 2) hx hb dX12_findTables_24 (by decide) ?_
    exact hrec2 _ _ _ _ _ X (lv_sub hl [1, 0] rfl) hg
set_option maxHeartbeats 4000000 in
set_option maxRecDepth 100000 in
theorem w_X12_findTables_L2 (S : CallFix p m c cX12_findTables 6 s args uG RX12) (hr : meth.sig.returnType = none) (hk : meth.locks = false) (hR : 4 ≤ R.frames ∧ 98 ≤ R.locals) : ∀ (n : Nat) (v1 : Int32) (σ : S5) (H : Heap) (locs : List Loc) (ls : Array Slot), gX (dC, dI) (tM kc) (wM ad kc) Z A s σ H locs → lv_has ls 6 [(0, .ref (ad 0)), (1, .int v1)] → f_X12_findTables_L2  n v1 σ = some (r, τ) → W p l e R s m args below meth c H locs 0 0 (MQ below (gQv (dC, dI) (tM kc) (wM ad kc) A r τ) args s 0 0 A) (F0 m 2 ls []) := by
  intro n
  induction n with
  | zero => intro v1 σ H locs ls X hl hg; cases hg
  | succ n ih => intro v1 σ H locs ls X hl hg; exact w_X12_findTables_B2 S hr hk hR ih X hl hg
set_option maxHeartbeats 4000000 in
set_option maxRecDepth 100000 in
theorem w_X12_findTables {σ : S5}  {H : Heap} {locs : List Loc} {ls : Array Slot} (S : CallFix p m c cX12_findTables 6 s args uG RX12) (hr : meth.sig.returnType = none) (hk : meth.locks = false) (hR : 4 ≤ R.frames ∧ 98 ≤ R.locals)
    (X : gX (dC, dI) (tM kc) (wM ad kc) Z A s σ H locs) (hl : lv_has ls 6 [(0, .ref (ad 0))]) (hg : f_X12_findTables  σ = some (r, τ)) : W p l e R s m args below meth c H locs 0 0 (MQ below (gQv (dC, dI) (tM kc) (wM ad kc) A r τ) args s 0 0 A) (F0 m 0 ls []) := by
  have hx := S.1
  have hb := S.2.1
  have hown := S.2.2.2.1
  have hu := S.2.2.2.2
  unfold f_X12_findTables at hg
  refine lv_iconst (v := 0) hx hb dX12_findTables_0 (by decide) ?_
  refine lv_istore_n (lv' := [(1, .int 0), (0, .ref (ad 0))]) hx hb dX12_findTables_1 rfl hl (by decide) rfl (fun ls hl => ?_)
  exact w_X12_findTables_L2 S hr hk hR _ _ _ _ _ _ X (lv_sub hl [1, 0] rfl) hg
end MX12_findTables
set_option maxRecDepth 100000 in
theorem k2_X12_findTables (l : Launch) (dC : Nat → ClassId) (dI : Nat → Nat → Nat) {Z : ZZ} (ad : Nat → Nat) (kc : Nat → ClassId) {σ τ : S5}  {r : Unit} (hg : f_X12_findTables  σ = some (r, τ)) (sz : Nat) : Met l yX12_findTables (Cond.code yX12_findTables cX12_findTables 6 none :: uG) { frames := 4, cells := 0, slots := 0, locals := 98 } (gPc (dC, dI) (tM kc) (wM ad kc) Z [.ref (ad 0)] σ sz) (gQv (dC, dI) (tM kc) (wM ad kc) (va_A (wM ad kc σ) sz) r τ) 0 0 (va_A (wM ad kc σ) sz) :=
  g_start (by decide) (Nat.le_of_ble_eq_true rfl) (fun p e s m below meth c ls S hr hk X hl => w_X12_findTables S hr hk ⟨Nat.le_refl _, Nat.le_refl _⟩ X hl hg)
section MX12_firstWithin
variable {p : Program} {l : Launch} {e : Env} {R : Room} {s : State} {m : MethodId} {args : Array Value} {below : List Frame} {meth : Method} {c : Code} {dC : Nat → ClassId} {dI : Nat → Nat → Nat} {Z : ZZ} {A : Nat → Prop} {ad : Nat → Nat} {kc : Nat → ClassId} {r : Int32} {τ : S5}
set_option maxHeartbeats 4000000 in
set_option maxRecDepth 100000 in
theorem w_X12_firstWithin_B2 {σ : S5} {rec2 : Int32 → S5 → Option (Int32 × S5)} {v2 : Int32} {H : Heap} {locs : List Loc} {ls : Array Slot} (S : CallFix p m c cX12_firstWithin 3 s args uG RX12) (hr : meth.sig.returnType = (some .int)) (hk : meth.locks = false) (hR : 1 ≤ R.frames ∧ 22 ≤ R.locals)
    (hrec2 : ∀ (v2 : Int32) (σ : S5) (H : Heap) (locs : List Loc) (ls : Array Slot), gX (dC, dI) (tM kc) (wM ad kc) Z A s σ H locs → lv_has ls 3 [(0, .ref (ad 0)), (2, .int v2)] → rec2 v2 σ = some (r, τ) → W p l e R s m args below meth c H locs 0 0 (MQ below (gQi (dC, dI) (tM kc) (wM ad kc) A r τ) args s 0 0 A) (F0 m 2 ls []))
    (X : gX (dC, dI) (tM kc) (wM ad kc) Z A s σ H locs) (hl : lv_has ls 3 [(0, .ref (ad 0)), (2, .int v2)]) (hg : f_X12_firstWithin_B2 rec2 v2 σ = some (r, τ)) : W p l e R s m args below meth c H locs 0 0 (MQ below (gQi (dC, dI) (tM kc) (wM ad kc) A r τ) args s 0 0 A) (F0 m 2 ls []) := by
  have hx := S.1
  have hb := S.2.1
  have hown := S.2.2.2.1
  have hu := S.2.2.2.2
  unfold f_X12_firstWithin_B2 at hg
  refine lv_aload_n hx hb dX12_firstWithin_2 rfl (lv_at hl 0 rfl) ?_
  refine wmgR_0_67 S X mG_2117 dX12_firstWithin_3 ?_
  refine lv_iload_n hx hb dX12_firstWithin_6 rfl (lv_at hl 1 rfl) ?_
  obtain ⟨hi7, hg⟩ := gd_some hg
  refine wmlA_34 (v := (xA σ 34 v2)) S X hi7 rfl dX12_firstWithin_7 ?_
  refine lv_if_le (tgt := 21) hx hb dX12_firstWithin_8 (by decide) (fun c8 => ?_) (fun c8 => ?_)
  · have hg := (if_pos c8).symm.trans hg
    refine lv_iload_n hx hb dX12_firstWithin_21 rfl (lv_at hl 1 rfl) ?_
    obtain ⟨rfl, rfl⟩ := fin_some hg
    exact gr_i S hr hk X dX12_firstWithin_22
  · have hg := (if_neg c8).symm.trans hg
    refine lv_aload_n hx hb dX12_firstWithin_11 rfl (lv_at hl 0 rfl) ?_
    refine lv_iload_n hx hb dX12_firstWithin_12 rfl (lv_at hl 1 rfl) ?_
    refine lv_iconst (v := 0) hx hb dX12_firstWithin_13 (by decide) ?_
    obtain ⟨r14, τ14, hq14, hg⟩ := bd_some hg
    refine gc_Vi (As := [.int v2, .int 0]) (rest := []) (q0 := 0) (ci := 15) S X (k2_X12_child l dC dI ad kc hq14 H.size) cw_X12_child mG_2736 rfl rfl rfl rfl rfl hl.1 (Nat.le_of_ble_eq_true rfl) dX12_firstWithin_14 ⟨by omega, by omega⟩ (fun H locs X => ?_)
    refine lv_istore_n (lv' := [(2, .int r14), (0, .ref (ad 0))]) hx hb dX12_firstWithin_17 rfl hl (by decide) rfl (fun ls hl => ?_)
    refine lv_goto (tgt := 2) hx hb dX12_firstWithin_18 (by decide) ?_
    exact hrec2 _ _ _ _ _ X (lv_sub hl [1, 0] rfl) hg
set_option maxHeartbeats 4000000 in
set_option maxRecDepth 100000 in
theorem w_X12_firstWithin_L2 (S : CallFix p m c cX12_firstWithin 3 s args uG RX12) (hr : meth.sig.returnType = (some .int)) (hk : meth.locks = false) (hR : 1 ≤ R.frames ∧ 22 ≤ R.locals) : ∀ (n : Nat) (v2 : Int32) (σ : S5) (H : Heap) (locs : List Loc) (ls : Array Slot), gX (dC, dI) (tM kc) (wM ad kc) Z A s σ H locs → lv_has ls 3 [(0, .ref (ad 0)), (2, .int v2)] → f_X12_firstWithin_L2  n v2 σ = some (r, τ) → W p l e R s m args below meth c H locs 0 0 (MQ below (gQi (dC, dI) (tM kc) (wM ad kc) A r τ) args s 0 0 A) (F0 m 2 ls []) := by
  intro n
  induction n with
  | zero => intro v2 σ H locs ls X hl hg; cases hg
  | succ n ih => intro v2 σ H locs ls X hl hg; exact w_X12_firstWithin_B2 S hr hk hR ih X hl hg
set_option maxHeartbeats 4000000 in
set_option maxRecDepth 100000 in
theorem w_X12_firstWithin {σ : S5} {a1 : Int32} {H : Heap} {locs : List Loc} {ls : Array Slot} (S : CallFix p m c cX12_firstWithin 3 s args uG RX12) (hr : meth.sig.returnType = (some .int)) (hk : meth.locks = false) (hR : 1 ≤ R.frames ∧ 22 ≤ R.locals)
    (X : gX (dC, dI) (tM kc) (wM ad kc) Z A s σ H locs) (hl : lv_has ls 3 [(0, .ref (ad 0)), (1, .int a1)]) (hg : f_X12_firstWithin a1 σ = some (r, τ)) : W p l e R s m args below meth c H locs 0 0 (MQ below (gQi (dC, dI) (tM kc) (wM ad kc) A r τ) args s 0 0 A) (F0 m 0 ls []) := by
  have hx := S.1
  have hb := S.2.1
  have hown := S.2.2.2.1
  have hu := S.2.2.2.2
  unfold f_X12_firstWithin at hg
  refine lv_iload_n hx hb dX12_firstWithin_0 rfl (lv_at hl 1 rfl) ?_
  refine lv_istore_n (lv' := [(2, .int a1), (0, .ref (ad 0)), (1, .int a1)]) hx hb dX12_firstWithin_1 rfl hl (by decide) rfl (fun ls hl => ?_)
  exact w_X12_firstWithin_L2 S hr hk hR _ _ _ _ _ _ X (lv_sub hl [1, 0] rfl) hg
end MX12_firstWithin
set_option maxRecDepth 100000 in
theorem k2_X12_firstWithin (l : Launch) (dC : Nat → ClassId) (dI : Nat → Nat → Nat) {Z : ZZ} (ad : Nat → Nat) (kc : Nat → ClassId) {σ τ : S5} {a1 : Int32} {r : Int32} (hg : f_X12_firstWithin a1 σ = some (r, τ)) (sz : Nat) : Met l yX12_firstWithin (Cond.code yX12_firstWithin cX12_firstWithin 3 (some .int) :: uG) { frames := 1, cells := 0, slots := 0, locals := 22 } (gPc (dC, dI) (tM kc) (wM ad kc) Z [.ref (ad 0), .int a1] σ sz) (gQi (dC, dI) (tM kc) (wM ad kc) (va_A (wM ad kc σ) sz) r τ) 0 0 (va_A (wM ad kc σ) sz) :=
  g_start (by decide) (Nat.le_of_ble_eq_true rfl) (fun p e s m below meth c ls S hr hk X hl => w_X12_firstWithin S hr hk ⟨Nat.le_refl _, Nat.le_refl _⟩ X hl hg)
section MX12_findNeeds
variable {p : Program} {l : Launch} {e : Env} {R : Room} {s : State} {m : MethodId} {args : Array Value} {below : List Frame} {meth : Method} {c : Code} {dC : Nat → ClassId} {dI : Nat → Nat → Nat} {Z : ZZ} {A : Nat → Prop} {ad : Nat → Nat} {kc : Nat → ClassId} {r : Unit} {τ : S5}
set_option maxHeartbeats 4000000 in
set_option maxRecDepth 100000 in
theorem w_X12_findNeeds_b121 {σ : S5} {rec2 : Int32 → S5 → Option (Unit × S5)} {v1 : Int32} {H : Heap} {locs : List Loc} {ls : Array Slot} (S : CallFix p m c cX12_findNeeds 5 s args uG RX12) (hr : meth.sig.returnType = none) (hk : meth.locks = false) (hR : 4 ≤ R.frames ∧ 98 ≤ R.locals)
    (hrec2 : ∀ (v1 : Int32) (σ : S5) (H : Heap) (locs : List Loc) (ls : Array Slot), gX (dC, dI) (tM kc) (wM ad kc) Z A s σ H locs → lv_has ls 5 [(0, .ref (ad 0)), (1, .int v1)] → rec2 v1 σ = some (r, τ) → W p l e R s m args below meth c H locs 0 0 (MQ below (gQv (dC, dI) (tM kc) (wM ad kc) A r τ) args s 0 0 A) (F0 m 2 ls []))
    (X : gX (dC, dI) (tM kc) (wM ad kc) Z A s σ H locs) (hl : lv_has ls 5 [(0, .ref (ad 0)), (1, .int v1)]) (hg : f_X12_findNeeds_b121 rec2 v1 σ = some (r, τ)) : W p l e R s m args below meth c H locs 0 0 (MQ below (gQv (dC, dI) (tM kc) (wM ad kc) A r τ) args s 0 0 A) (F0 m 121 ls []) := by
  have hx := S.1
  have hb := S.2.1
  have hown := S.2.2.2.1
  have hu := S.2.2.2.2
  unfold f_X12_findNeeds_b121 at hg
  refine lv_iinc (v := (v1 + 1)) (lv' := [(1, .int (v1 + 1)), (0, .ref (ad 0))]) hx hb dX12_findNeeds_121 hl (k := 1) rfl (by rfl) (by decide) rfl (fun ls hl => ?_)
  refine lv_goto (tgt := 2) hx hb dX12_findNeeds_124 (by decide) ?_
  exact hrec2 _ _ _ _ _ X (lv_sub hl [1, 0] rfl) hg
set_option maxHeartbeats 4000000 in
set_option maxRecDepth 100000 in
theorem w_X12_findNeeds_b120 {σ : S5} {rec2 : Int32 → S5 → Option (Unit × S5)} {v1 : Int32} {u0 : Int32} {u1 : Int32} {H : Heap} {locs : List Loc} {ls : Array Slot} (S : CallFix p m c cX12_findNeeds 5 s args uG RX12) (hr : meth.sig.returnType = none) (hk : meth.locks = false) (hR : 4 ≤ R.frames ∧ 98 ≤ R.locals)
    (hrec2 : ∀ (v1 : Int32) (σ : S5) (H : Heap) (locs : List Loc) (ls : Array Slot), gX (dC, dI) (tM kc) (wM ad kc) Z A s σ H locs → lv_has ls 5 [(0, .ref (ad 0)), (1, .int v1)] → rec2 v1 σ = some (r, τ) → W p l e R s m args below meth c H locs 0 0 (MQ below (gQv (dC, dI) (tM kc) (wM ad kc) A r τ) args s 0 0 A) (F0 m 2 ls []))
    (X : gX (dC, dI) (tM kc) (wM ad kc) Z A s σ H locs) (hl : lv_has ls 5 [(0, .ref (ad 0)), (1, .int v1)]) (hg : f_X12_findNeeds_b120 rec2 v1 u0 u1 σ = some (r, τ)) : W p l e R s m args below meth c H locs 0 0 (MQ below (gQv (dC, dI) (tM kc) (wM ad kc) A r τ) args s 0 0 A) (F0 m 120 ls [.int u0, .int u1, .ref (ad 42)]) := by
  have hx := S.1
  have hb := S.2.1
  have hown := S.2.2.2.1
  have hu := S.2.2.2.2
  unfold f_X12_findNeeds_b120 at hg
  obtain ⟨hi120, hg⟩ := gd_some hg
  refine wmsA_36 S X hi120 dX12_findNeeds_120 (fun H locs X => ?_)
  exact w_X12_findNeeds_b121 S hr hk hR hrec2 X (lv_sub hl [0, 1] rfl) hg
set_option maxHeartbeats 4000000 in
set_option maxRecDepth 100000 in
theorem w_X12_findNeeds_b90 {σ : S5} {rec2 : Int32 → S5 → Option (Unit × S5)} {rec66 : Int32 → Int32 → Int32 → Int32 → S5 → Option (Unit × S5)} {v1 : Int32} {v2 : Int32} {v3 : Int32} {v4 : Int32} {u0 : Int32} {u1 : Int32} {H : Heap} {locs : List Loc} {ls : Array Slot} (S : CallFix p m c cX12_findNeeds 5 s args uG RX12) (hr : meth.sig.returnType = none) (hk : meth.locks = false) (hR : 4 ≤ R.frames ∧ 98 ≤ R.locals)
    (hrec2 : ∀ (v1 : Int32) (σ : S5) (H : Heap) (locs : List Loc) (ls : Array Slot), gX (dC, dI) (tM kc) (wM ad kc) Z A s σ H locs → lv_has ls 5 [(0, .ref (ad 0)), (1, .int v1)] → rec2 v1 σ = some (r, τ) → W p l e R s m args below meth c H locs 0 0 (MQ below (gQv (dC, dI) (tM kc) (wM ad kc) A r τ) args s 0 0 A) (F0 m 2 ls []))
    (hrec66 : ∀ (v1 : Int32) (v2 : Int32) (v3 : Int32) (v4 : Int32) (σ : S5) (H : Heap) (locs : List Loc) (ls : Array Slot), gX (dC, dI) (tM kc) (wM ad kc) Z A s σ H locs → lv_has ls 5 [(0, .ref (ad 0)), (1, .int v1), (2, .int v2), (3, .int v3), (4, .int v4)] → rec66 v1 v2 v3 v4 σ = some (r, τ) → W p l e R s m args below meth c H locs 0 0 (MQ below (gQv (dC, dI) (tM kc) (wM ad kc) A r τ) args s 0 0 A) (F0 m 66 ls []))
    (X : gX (dC, dI) (tM kc) (wM ad kc) Z A s σ H locs) (hl : lv_has ls 5 [(0, .ref (ad 0)), (1, .int v1), (2, .int v2), (3, .int v3), (4, .int v4)]) (hg : f_X12_findNeeds_b90 rec2 rec66 v1 v2 v3 v4 u0 u1 σ = some (r, τ)) : W p l e R s m args below meth c H locs 0 0 (MQ below (gQv (dC, dI) (tM kc) (wM ad kc) A r τ) args s 0 0 A) (F0 m 90 ls [.int u0, .int u1, .ref (ad 58)]) := by
  have hx := S.1
  have hb := S.2.1
  have hown := S.2.2.2.1
  have hu := S.2.2.2.2
  unfold f_X12_findNeeds_b90 at hg
  obtain ⟨hi90, hg⟩ := gd_some hg
  refine wmsA_51 S X hi90 dX12_findNeeds_90 (fun H locs X => ?_)
  refine lv_iinc (v := (v4 + 1)) (lv' := [(4, .int (v4 + 1)), (0, .ref (ad 0)), (1, .int v1), (2, .int v2), (3, .int v3)]) hx hb dX12_findNeeds_91 hl (k := 4) rfl (by rfl) (by decide) rfl (fun ls hl => ?_)
  refine lv_goto (tgt := 66) hx hb dX12_findNeeds_94 (by decide) ?_
  exact hrec66 _ _ _ _ _ _ _ _ X (lv_sub hl [1, 2, 3, 4, 0] rfl) hg
set_option maxHeartbeats 4000000 in
set_option maxRecDepth 100000 in
theorem w_X12_findNeeds_B66 {σ : S5} {rec2 : Int32 → S5 → Option (Unit × S5)} {rec66 : Int32 → Int32 → Int32 → Int32 → S5 → Option (Unit × S5)} {v1 : Int32} {v2 : Int32} {v3 : Int32} {v4 : Int32} {H : Heap} {locs : List Loc} {ls : Array Slot} (S : CallFix p m c cX12_findNeeds 5 s args uG RX12) (hr : meth.sig.returnType = none) (hk : meth.locks = false) (hR : 4 ≤ R.frames ∧ 98 ≤ R.locals)
    (hrec2 : ∀ (v1 : Int32) (σ : S5) (H : Heap) (locs : List Loc) (ls : Array Slot), gX (dC, dI) (tM kc) (wM ad kc) Z A s σ H locs → lv_has ls 5 [(0, .ref (ad 0)), (1, .int v1)] → rec2 v1 σ = some (r, τ) → W p l e R s m args below meth c H locs 0 0 (MQ below (gQv (dC, dI) (tM kc) (wM ad kc) A r τ) args s 0 0 A) (F0 m 2 ls []))
    (hrec66 : ∀ (v1 : Int32) (v2 : Int32) (v3 : Int32) (v4 : Int32) (σ : S5) (H : Heap) (locs : List Loc) (ls : Array Slot), gX (dC, dI) (tM kc) (wM ad kc) Z A s σ H locs → lv_has ls 5 [(0, .ref (ad 0)), (1, .int v1), (2, .int v2), (3, .int v3), (4, .int v4)] → rec66 v1 v2 v3 v4 σ = some (r, τ) → W p l e R s m args below meth c H locs 0 0 (MQ below (gQv (dC, dI) (tM kc) (wM ad kc) A r τ) args s 0 0 A) (F0 m 66 ls []))
    (X : gX (dC, dI) (tM kc) (wM ad kc) Z A s σ H locs) (hl : lv_has ls 5 [(0, .ref (ad 0)), (1, .int v1), (2, .int v2), (3, .int v3), (4, .int v4)]) (hg : f_X12_findNeeds_B66 rec2 rec66 v1 v2 v3 v4 σ = some (r, τ)) : W p l e R s m args below meth c H locs 0 0 (MQ below (gQv (dC, dI) (tM kc) (wM ad kc) A r τ) args s 0 0 A) (F0 m 66 ls []) := by
  have hx := S.1
  have hb := S.2.1
  have hown := S.2.2.2.1
  have hu := S.2.2.2.2
  unfold f_X12_findNeeds_B66 at hg
  refine lv_iload hx hb dX12_findNeeds_66 (lv_at hl 4 rfl) ?_
  refine lv_bipush (v := 64) hx hb dX12_findNeeds_68 (by decide) ?_
  refine lv_icmp_ge (tgt := 97) hx hb dX12_findNeeds_70 (by decide) (fun c70 => ?_) (fun c70 => ?_)
  · have hg := (if_pos c70).symm.trans hg
    refine lv_aload_n hx hb dX12_findNeeds_97 rfl (lv_at hl 0 rfl) ?_
    refine wmgR_0_69 S X mG_2119 dX12_findNeeds_98 ?_
    refine lv_iload_n hx hb dX12_findNeeds_101 rfl (lv_at hl 1 rfl) ?_
    refine lv_aload_n hx hb dX12_findNeeds_102 rfl (lv_at hl 0 rfl) ?_
    refine lv_aload_n hx hb dX12_findNeeds_103 rfl (lv_at hl 0 rfl) ?_
    refine lv_iload_n hx hb dX12_findNeeds_104 rfl (lv_at hl 3 rfl) ?_
    obtain ⟨r105, τ105, hq105, hg⟩ := bd_some hg
    refine gc_Vi (As := [.int v3]) (rest := [.ref (ad 0), .int v1, .ref (ad 42)]) (q0 := 0) (ci := 15) S X (k2_X12_firstWithin l dC dI ad kc hq105 H.size) cw_X12_firstWithin mG_2768 rfl rfl rfl rfl rfl hl.1 (Nat.le_of_ble_eq_true rfl) dX12_findNeeds_105 ⟨by omega, by omega⟩ (fun H locs X => ?_)
    refine lv_iload_n hx hb dX12_findNeeds_108 rfl (lv_at hl 3 rfl) ?_
    obtain ⟨r109, τ109, hq109, hg⟩ := bd_some hg
    refine gc_Vi (As := [.int r105, .int v3]) (rest := [.int v1, .ref (ad 42)]) (q0 := 0) (ci := 15) S X (k2_X12_bitOfPart l dC dI ad kc hq109 H.size) cw_X12_bitOfPart mG_2748 rfl rfl rfl rfl rfl hl.1 (Nat.le_of_ble_eq_true rfl) dX12_findNeeds_109 ⟨by omega, by omega⟩ (fun H locs X => ?_)
    refine lv_if_ne (tgt := 119) hx hb dX12_findNeeds_112 (by decide) (fun c112 => ?_) (fun c112 => ?_)
    · have hg := (if_neg c112).symm.trans hg
      refine lv_iconst (v := 0) hx hb dX12_findNeeds_119 (by decide) ?_
      exact w_X12_findNeeds_b120 S hr hk hR hrec2 X (lv_sub hl [0, 1] rfl) hg
    · have hg := (if_pos c112).symm.trans hg
      refine lv_iconst (v := 1) hx hb dX12_findNeeds_115 (by decide) ?_
      refine lv_goto (tgt := 120) hx hb dX12_findNeeds_116 (by decide) ?_
      exact w_X12_findNeeds_b120 S hr hk hR hrec2 X (lv_sub hl [0, 1] rfl) hg
  · have hg := (if_neg c70).symm.trans hg
    refine lv_aload_n hx hb dX12_findNeeds_73 rfl (lv_at hl 0 rfl) ?_
    refine wmgR_0_87 S X mG_2137 dX12_findNeeds_74 ?_
    refine lv_iload hx hb dX12_findNeeds_77 (lv_at hl 4 rfl) ?_
    refine lv_iload hx hb dX12_findNeeds_79 (lv_at hl 4 rfl) ?_
    refine lv_iload_n hx hb dX12_findNeeds_81 rfl (lv_at hl 2 rfl) ?_
    refine lv_icmp_eq (tgt := 89) hx hb dX12_findNeeds_82 (by decide) (fun c82 => ?_) (fun c82 => ?_)
    · have hg := (if_pos c82).symm.trans hg
      refine lv_iconst (v := 0) hx hb dX12_findNeeds_89 (by decide) ?_
      exact w_X12_findNeeds_b90 S hr hk hR hrec2 hrec66 X (lv_sub hl [0, 1, 2, 3, 4] rfl) hg
    · have hg := (if_neg c82).symm.trans hg
      refine lv_iconst (v := 1) hx hb dX12_findNeeds_85 (by decide) ?_
      refine lv_goto (tgt := 90) hx hb dX12_findNeeds_86 (by decide) ?_
      exact w_X12_findNeeds_b90 S hr hk hR hrec2 hrec66 X (lv_sub hl [0, 1, 2, 3, 4] rfl) hg
set_option maxHeartbeats 4000000 in
set_option maxRecDepth 100000 in
theorem w_X12_findNeeds_L66 {rec2 : Int32 → S5 → Option (Unit × S5)} (S : CallFix p m c cX12_findNeeds 5 s args uG RX12) (hr : meth.sig.returnType = none) (hk : meth.locks = false) (hR : 4 ≤ R.frames ∧ 98 ≤ R.locals)
    (hrec2 : ∀ (v1 : Int32) (σ : S5) (H : Heap) (locs : List Loc) (ls : Array Slot), gX (dC, dI) (tM kc) (wM ad kc) Z A s σ H locs → lv_has ls 5 [(0, .ref (ad 0)), (1, .int v1)] → rec2 v1 σ = some (r, τ) → W p l e R s m args below meth c H locs 0 0 (MQ below (gQv (dC, dI) (tM kc) (wM ad kc) A r τ) args s 0 0 A) (F0 m 2 ls [])) : ∀ (n : Nat) (v1 : Int32) (v2 : Int32) (v3 : Int32) (v4 : Int32) (σ : S5) (H : Heap) (locs : List Loc) (ls : Array Slot), gX (dC, dI) (tM kc) (wM ad kc) Z A s σ H locs → lv_has ls 5 [(0, .ref (ad 0)), (1, .int v1), (2, .int v2), (3, .int v3), (4, .int v4)] → f_X12_findNeeds_L66 rec2 n v1 v2 v3 v4 σ = some (r, τ) → W p l e R s m args below meth c H locs 0 0 (MQ below (gQv (dC, dI) (tM kc) (wM ad kc) A r τ) args s 0 0 A) (F0 m 66 ls []) := by
  intro n
  induction n with
  | zero => intro v1 v2 v3 v4 σ H locs ls X hl hg; cases hg
  | succ n ih => intro v1 v2 v3 v4 σ H locs ls X hl hg; exact w_X12_findNeeds_B66 S hr hk hR hrec2 ih X hl hg
set_option maxHeartbeats 4000000 in
set_option maxRecDepth 100000 in
theorem w_X12_findNeeds_B2 {σ : S5} {rec2 : Int32 → S5 → Option (Unit × S5)} {v1 : Int32} {H : Heap} {locs : List Loc} {ls : Array Slot} (S : CallFix p m c cX12_findNeeds 5 s args uG RX12) (hr : meth.sig.returnType = none) (hk : meth.locks = false) (hR : 4 ≤ R.frames ∧ 98 ≤ R.locals)
    (hrec2 : ∀ (v1 : Int32) (σ : S5) (H : Heap) (locs : List Loc) (ls : Array Slot), gX (dC, dI) (tM kc) (wM ad kc) Z A s σ H locs → lv_has ls 5 [(0, .ref (ad 0)), (1, .int v1)] → rec2 v1 σ = some (r, τ) → W p l e R s m args below meth c H locs 0 0 (MQ below (gQv (dC, dI) (tM kc) (wM ad kc) A r τ) args s 0 0 A) (F0 m 2 ls []))
    (X : gX (dC, dI) (tM kc) (wM ad kc) Z A s σ H locs) (hl : lv_has ls 5 [(0, .ref (ad 0)), (1, .int v1)]) (hg : f_X12_findNeeds_B2 rec2 v1 σ = some (r, τ)) : W p l e R s m args below meth c H locs 0 0 (MQ below (gQv (dC, dI) (tM kc) (wM ad kc) A r τ) args s 0 0 A) (F0 m 2 ls []) := by
  have hx := S.1
  have hb := S.2.1
  have hown := S.2.2.2.1
  have hu := S.2.2.2.2
  unfold f_X12_findNeeds_B2 at hg
  refine lv_iload_n hx hb dX12_findNeeds_2 rfl (lv_at hl 1 rfl) ?_
  refine lv_aload_n hx hb dX12_findNeeds_3 rfl (lv_at hl 0 rfl) ?_
  refine wmgI_26 (v := (gI σ 26)) S X mG_2113 rfl dX12_findNeeds_4 ?_
  refine lv_icmp_ge (tgt := 127) hx hb dX12_findNeeds_7 (by decide) (fun c7 => ?_) (fun c7 => ?_)
  · have hg := (if_pos c7).symm.trans hg
    obtain ⟨-, rfl⟩ := fin_some hg
    exact gr_v S hr hk X dX12_findNeeds_127
  · have hg := (if_neg c7).symm.trans hg
    refine lv_aload_n hx hb dX12_findNeeds_10 rfl (lv_at hl 0 rfl) ?_
    refine wmgR_0_64 S X mG_2114 dX12_findNeeds_11 ?_
    refine lv_iload_n hx hb dX12_findNeeds_14 rfl (lv_at hl 1 rfl) ?_
    obtain ⟨hi15, hg⟩ := gd_some hg
    refine wmlA_31 (v := (xA σ 31 v1)) S X hi15 rfl dX12_findNeeds_15 ?_
    refine lv_if_ne (tgt := 121) hx hb dX12_findNeeds_16 (by decide) (fun c16 => ?_) (fun c16 => ?_)
    · have hg := (if_neg c16).symm.trans hg
      exact w_X12_findNeeds_b121 S hr hk hR hrec2 X (lv_sub hl [0, 1] rfl) hg
    · have hg := (if_pos c16).symm.trans hg
      refine lv_aload_n hx hb dX12_findNeeds_19 rfl (lv_at hl 0 rfl) ?_
      refine wmgR_0_65 S X mG_2115 dX12_findNeeds_20 ?_
      refine lv_iload_n hx hb dX12_findNeeds_23 rfl (lv_at hl 1 rfl) ?_
      obtain ⟨hi24, hg⟩ := gd_some hg
      refine wmlA_32 (v := (xA σ 32 v1)) S X hi24 rfl dX12_findNeeds_24 ?_
      refine lv_iconst (v := 1) hx hb dX12_findNeeds_25 (by decide) ?_
      refine lv_icmp_ne (tgt := 121) hx hb dX12_findNeeds_26 (by decide) (fun c26 => ?_) (fun c26 => ?_)
      · have hg := (if_neg c26).symm.trans hg
        exact w_X12_findNeeds_b121 S hr hk hR hrec2 X (lv_sub hl [0, 1] rfl) hg
      · have hg := (if_pos c26).symm.trans hg
        refine lv_aload_n hx hb dX12_findNeeds_29 rfl (lv_at hl 0 rfl) ?_
        refine wmgR_0_68 S X mG_2118 dX12_findNeeds_30 ?_
        refine lv_iload_n hx hb dX12_findNeeds_33 rfl (lv_at hl 1 rfl) ?_
        obtain ⟨hi34, hg⟩ := gd_some hg
        refine wmlA_35 (v := (xA σ 35 v1)) S X hi34 rfl dX12_findNeeds_34 ?_
        refine lv_istore_n (lv' := [(2, .int (xA σ 35 v1)), (0, .ref (ad 0)), (1, .int v1)]) hx hb dX12_findNeeds_35 rfl hl (by decide) rfl (fun ls hl => ?_)
        refine lv_aload_n hx hb dX12_findNeeds_36 rfl (lv_at hl 1 rfl) ?_
        refine lv_iload_n hx hb dX12_findNeeds_37 rfl (lv_at hl 2 rfl) ?_
        refine lv_iconst (v := 1) hx hb dX12_findNeeds_38 (by decide) ?_
        obtain ⟨r39, τ39, hq39, hg⟩ := bd_some hg
        refine gc_Vi (As := [.int v1, .int 1]) (rest := []) (q0 := 0) (ci := 15) S X (k2_X12_child l dC dI ad kc hq39 H.size) cw_X12_child mG_2736 rfl rfl rfl rfl rfl hl.1 (Nat.le_of_ble_eq_true rfl) dX12_findNeeds_39 ⟨by omega, by omega⟩ (fun H locs X => ?_)
        refine lv_istore_n (lv' := [(3, .int r39), (2, .int (xA σ 35 v1)), (0, .ref (ad 0)), (1, .int v1)]) hx hb dX12_findNeeds_42 rfl hl (by decide) rfl (fun ls hl => ?_)
        refine lv_aload_n hx hb dX12_findNeeds_43 rfl (lv_at hl 2 rfl) ?_
        refine wmgR_0_72 S X mG_2122 dX12_findNeeds_44 ?_
        refine lv_aload_n hx hb dX12_findNeeds_47 rfl (lv_at hl 2 rfl) ?_
        refine lv_iload_n hx hb dX12_findNeeds_48 rfl (lv_at hl 3 rfl) ?_
        refine lv_iconst (v := 0) hx hb dX12_findNeeds_49 (by decide) ?_
        obtain ⟨r50, τ50, hq50, hg⟩ := bd_some hg
        refine gc_Vi (As := [.int v1, .int 0]) (rest := [.ref (ad 45)]) (q0 := 0) (ci := 15) S X (k2_X12_child l dC dI ad kc hq50 H.size) cw_X12_child mG_2736 rfl rfl rfl rfl rfl hl.1 (Nat.le_of_ble_eq_true rfl) dX12_findNeeds_50 ⟨by omega, by omega⟩ (fun H locs X => ?_)
        obtain ⟨hi53, hg⟩ := gd_some hg
        refine wmlB_5 (v := (xB τ50 5 r50)) S X hi53 rfl dX12_findNeeds_53 ?_
        refine lv_iload_n hx hb dX12_findNeeds_54 rfl (lv_at hl 1 rfl) ?_
        refine lv_lshr (v := (j_lshr (xB τ50 5 r50) (xA σ 35 v1))) hx hb dX12_findNeeds_55 rfl ?_
        refine lv_lconst (v := 1) hx hb dX12_findNeeds_56 rfl ?_
        refine lv_land hx hb dX12_findNeeds_57 ?_
        refine lv_lconst (v := 0) hx hb dX12_findNeeds_58 rfl ?_
        refine W.lcmp hx hb dX12_findNeeds_59 ?_
        refine lv_if_ne (tgt := 121) hx hb dX12_findNeeds_60 (by decide) (fun c60 => ?_) (fun c60 => ?_)
        · have hg := (if_neg c60).symm.trans hg
          exact w_X12_findNeeds_b121 S hr hk hR hrec2 X (lv_sub hl [2, 3] rfl) hg
        · have hg := (if_pos c60).symm.trans hg
          refine lv_iconst (v := 0) hx hb dX12_findNeeds_63 (by decide) ?_
          refine lv_istore (lv' := [(4, .int 0), (3, .int r39), (2, .int (xA σ 35 v1)), (0, .ref (ad 0)), (1, .int v1)]) hx hb dX12_findNeeds_64 hl (by decide) rfl (fun ls hl => ?_)
          exact w_X12_findNeeds_L66 S hr hk hR hrec2 _ _ _ _ _ _ _ _ _ X (lv_sub hl [3, 4, 2, 1, 0] rfl) hg
set_option maxHeartbeats 4000000 in
set_option maxRecDepth 100000 in
theorem w_X12_findNeeds_L2 (S : CallFix p m c cX12_findNeeds 5 s args uG RX12) (hr : meth.sig.returnType = none) (hk : meth.locks = false) (hR : 4 ≤ R.frames ∧ 98 ≤ R.locals) : ∀ (n : Nat) (v1 : Int32) (σ : S5) (H : Heap) (locs : List Loc) (ls : Array Slot), gX (dC, dI) (tM kc) (wM ad kc) Z A s σ H locs → lv_has ls 5 [(0, .ref (ad 0)), (1, .int v1)] → f_X12_findNeeds_L2  n v1 σ = some (r, τ) → W p l e R s m args below meth c H locs 0 0 (MQ below (gQv (dC, dI) (tM kc) (wM ad kc) A r τ) args s 0 0 A) (F0 m 2 ls []) := by
  intro n
  induction n with
  | zero => intro v1 σ H locs ls X hl hg; cases hg
  | succ n ih => intro v1 σ H locs ls X hl hg; exact w_X12_findNeeds_B2 S hr hk hR ih X hl hg
set_option maxHeartbeats 4000000 in
set_option maxRecDepth 100000 in
theorem w_X12_findNeeds {σ : S5}  {H : Heap} {locs : List Loc} {ls : Array Slot} (S : CallFix p m c cX12_findNeeds 5 s args uG RX12) (hr : meth.sig.returnType = none) (hk : meth.locks = false) (hR : 4 ≤ R.frames ∧ 98 ≤ R.locals)
    (X : gX (dC, dI) (tM kc) (wM ad kc) Z A s σ H locs) (hl : lv_has ls 5 [(0, .ref (ad 0))]) (hg : f_X12_findNeeds  σ = some (r, τ)) : W p l e R s m args below meth c H locs 0 0 (MQ below (gQv (dC, dI) (tM kc) (wM ad kc) A r τ) args s 0 0 A) (F0 m 0 ls []) := by
  have hx := S.1
  have hb := S.2.1
  have hown := S.2.2.2.1
  have hu := S.2.2.2.2
  unfold f_X12_findNeeds at hg
  refine lv_iconst (v := 0) hx hb dX12_findNeeds_0 (by decide) ?_
  refine lv_istore_n (lv' := [(1, .int 0), (0, .ref (ad 0))]) hx hb dX12_findNeeds_1 rfl hl (by decide) rfl (fun ls hl => ?_)
  exact w_X12_findNeeds_L2 S hr hk hR _ _ _ _ _ _ X (lv_sub hl [1, 0] rfl) hg
end MX12_findNeeds
set_option maxRecDepth 100000 in
theorem k2_X12_findNeeds (l : Launch) (dC : Nat → ClassId) (dI : Nat → Nat → Nat) {Z : ZZ} (ad : Nat → Nat) (kc : Nat → ClassId) {σ τ : S5}  {r : Unit} (hg : f_X12_findNeeds  σ = some (r, τ)) (sz : Nat) : Met l yX12_findNeeds (Cond.code yX12_findNeeds cX12_findNeeds 5 none :: uG) { frames := 4, cells := 0, slots := 0, locals := 98 } (gPc (dC, dI) (tM kc) (wM ad kc) Z [.ref (ad 0)] σ sz) (gQv (dC, dI) (tM kc) (wM ad kc) (va_A (wM ad kc σ) sz) r τ) 0 0 (va_A (wM ad kc σ) sz) :=
  g_start (by decide) (Nat.le_of_ble_eq_true rfl) (fun p e s m below meth c ls S hr hk X hl => w_X12_findNeeds S hr hk ⟨Nat.le_refl _, Nat.le_refl _⟩ X hl hg)
section MX12_isNeeded
variable {p : Program} {l : Launch} {e : Env} {R : Room} {s : State} {m : MethodId} {args : Array Value} {below : List Frame} {meth : Method} {c : Code} {dC : Nat → ClassId} {dI : Nat → Nat → Nat} {Z : ZZ} {A : Nat → Prop} {ad : Nat → Nat} {kc : Nat → ClassId} {r : Int32} {τ : S5}
set_option maxHeartbeats 4000000 in
set_option maxRecDepth 100000 in
theorem w_X12_isNeeded {σ : S5} {a1 : Int32} {a2 : Int32} {H : Heap} {locs : List Loc} {ls : Array Slot} (S : CallFix p m c cX12_isNeeded 4 s args uG RX12) (hr : meth.sig.returnType = (some .boolean)) (hk : meth.locks = false) (hR : 1 ≤ R.frames ∧ 22 ≤ R.locals)
    (X : gX (dC, dI) (tM kc) (wM ad kc) Z A s σ H locs) (hl : lv_has ls 4 [(0, .ref (ad 0)), (1, .int a1), (2, .int a2)]) (hg : f_X12_isNeeded a1 a2 σ = some (r, τ)) : W p l e R s m args below meth c H locs 0 0 (MQ below (gQi (dC, dI) (tM kc) (wM ad kc) A r τ) args s 0 0 A) (F0 m 0 ls []) := by
  have hx := S.1
  have hb := S.2.1
  have hown := S.2.2.2.1
  have hu := S.2.2.2.2
  unfold f_X12_isNeeded at hg
  refine lv_aload_n hx hb dX12_isNeeded_0 rfl (lv_at hl 0 rfl) ?_
  refine wmgR_0_82 S X mG_2132 dX12_isNeeded_1 ?_
  refine lv_iload_n hx hb dX12_isNeeded_4 rfl (lv_at hl 1 rfl) ?_
  obtain ⟨hi5, hg⟩ := gd_some hg
  refine wmlA_47 (v := (xA σ 47 a1)) S X hi5 rfl dX12_isNeeded_5 ?_
  refine lv_istore_n (lv' := [(3, .int (xA σ 47 a1)), (0, .ref (ad 0)), (1, .int a1), (2, .int a2)]) hx hb dX12_isNeeded_6 rfl hl (by decide) rfl (fun ls hl => ?_)
  refine lv_aload_n hx hb dX12_isNeeded_7 rfl (lv_at hl 1 rfl) ?_
  refine lv_iload_n hx hb dX12_isNeeded_8 rfl (lv_at hl 2 rfl) ?_
  refine lv_iconst (v := 1) hx hb dX12_isNeeded_9 (by decide) ?_
  refine lv_iload_n hx hb dX12_isNeeded_10 rfl (lv_at hl 0 rfl) ?_
  refine lv_ishl hx hb dX12_isNeeded_11 ?_
  refine lv_iconst (v := 1) hx hb dX12_isNeeded_12 (by decide) ?_
  refine lv_isub hx hb dX12_isNeeded_13 ?_
  refine lv_iconst (v := 1) hx hb dX12_isNeeded_14 (by decide) ?_
  refine lv_iload_n hx hb dX12_isNeeded_15 rfl (lv_at hl 3 rfl) ?_
  refine lv_ishl hx hb dX12_isNeeded_16 ?_
  refine lv_iconst (v := (-1)) hx hb dX12_isNeeded_17 (by decide) ?_
  refine lv_ixor hx hb dX12_isNeeded_18 ?_
  refine lv_iand hx hb dX12_isNeeded_19 ?_
  obtain ⟨r20, τ20, hq20, hg⟩ := bd_some hg
  refine gc_Vi (As := [.int a1, .int ((((1 : Int32) <<< ((xA σ 47 a1) &&& 31)) - 1) &&& (((1 : Int32) <<< (a2 &&& 31)) ^^^ (-1)))]) (rest := []) (q0 := 0) (ci := 15) S X (k2_X12_table l dC dI ad kc hq20 H.size) cw_X12_table mG_2756 rfl rfl rfl rfl rfl hl.1 (Nat.le_of_ble_eq_true rfl) dX12_isNeeded_20 ⟨by omega, by omega⟩ (fun H locs X => ?_)
  refine lv_if_ne (tgt := 30) hx hb dX12_isNeeded_23 (by decide) (fun c23 => ?_) (fun c23 => ?_)
  · have hg := (if_neg c23).symm.trans hg
    refine lv_iconst (v := 0) hx hb dX12_isNeeded_30 (by decide) ?_
    obtain ⟨rfl, rfl⟩ := fin_some hg
    exact gr_z S hr hk X (Or.inl rfl) dX12_isNeeded_31
  · have hg := (if_pos c23).symm.trans hg
    refine lv_iconst (v := 1) hx hb dX12_isNeeded_26 (by decide) ?_
    refine lv_goto (tgt := 31) hx hb dX12_isNeeded_27 (by decide) ?_
    obtain ⟨rfl, rfl⟩ := fin_some hg
    exact gr_z S hr hk X (Or.inr rfl) dX12_isNeeded_31
end MX12_isNeeded
set_option maxRecDepth 100000 in
theorem k2_X12_isNeeded (l : Launch) (dC : Nat → ClassId) (dI : Nat → Nat → Nat) {Z : ZZ} (ad : Nat → Nat) (kc : Nat → ClassId) {σ τ : S5} {a1 : Int32} {a2 : Int32} {r : Int32} (hg : f_X12_isNeeded a1 a2 σ = some (r, τ)) (sz : Nat) : Met l yX12_isNeeded (Cond.code yX12_isNeeded cX12_isNeeded 4 (some .boolean) :: uG) { frames := 1, cells := 0, slots := 0, locals := 22 } (gPc (dC, dI) (tM kc) (wM ad kc) Z [.ref (ad 0), .int a1, .int a2] σ sz) (gQi (dC, dI) (tM kc) (wM ad kc) (va_A (wM ad kc σ) sz) r τ) 0 0 (va_A (wM ad kc σ) sz) :=
  g_start (by decide) (Nat.le_of_ble_eq_true rfl) (fun p e s m below meth c ls S hr hk X hl => w_X12_isNeeded S hr hk ⟨Nat.le_refl _, Nat.le_refl _⟩ X hl hg)
