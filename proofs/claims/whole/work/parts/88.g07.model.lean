
theorem mG_179 : Cond.selects "LazyForgeModel" yX12_enter yX12_enter ∈ uG := uG_at 179 (by decide +kernel) (by decide +kernel)
theorem mG_185 : Cond.selects "LazyForgeModel" yX12_push yX12_push ∈ uG := uG_at 185 (by decide +kernel) (by decide +kernel)
theorem mG_188 : Cond.selects "LazyForgeModel" yX12_arguments yX12_arguments ∈ uG := uG_at 188 (by decide +kernel) (by decide +kernel)
theorem mG_189 : Cond.selects "LazyForgeModel" yX12_keep yX12_keep ∈ uG := uG_at 189 (by decide +kernel) (by decide +kernel)
theorem mG_195 : Cond.selects "LazyForgeModel" yX12_call yX12_call ∈ uG := uG_at 195 (by decide +kernel) (by decide +kernel)
theorem mG_198 : Cond.selects "LazyForgeModel" yX12_keepBindings yX12_keepBindings ∈ uG := uG_at 198 (by decide +kernel) (by decide +kernel)
theorem mG_199 : Cond.selects "LazyForgeModel" yX12_workApplication yX12_workApplication ∈ uG := uG_at 199 (by decide +kernel) (by decide +kernel)
theorem mG_2152 : Cond.fieldLink "LazyForgeModel" 736 "LazyForgeModel" "allCalls" "I" ∈ uG := uG_at 2152 (by decide +kernel) (by decide +kernel)
theorem mG_2153 : Cond.fieldLink "LazyForgeModel" 730 "LazyForgeModel" "callsLeft" "I" ∈ uG := uG_at 2153 (by decide +kernel) (by decide +kernel)
theorem mG_2165 : Cond.fieldLink "LazyForgeModel" 706 "LazyForgeModel" "eager" "Z" ∈ uG := uG_at 2165 (by decide +kernel) (by decide +kernel)
theorem mG_2170 : Cond.fieldLink "LazyForgeModel" 724 "LazyForgeModel" "top" "I" ∈ uG := uG_at 2170 (by decide +kernel) (by decide +kernel)
theorem mG_2797 : Cond.methodLink "LazyForgeModel" 700 yX12_enter ∈ uG := uG_at 2797 (by decide +kernel) (by decide +kernel)
theorem mG_2799 : Cond.instanceMethod yX12_enter ∈ uG := uG_at 2799 (by decide +kernel) (by decide +kernel)
theorem mG_2800 : Cond.code yX12_enter prog_14_method_98_code 7 none ∈ uG := uG_at 2800 (by decide +kernel) (by decide +kernel)
theorem mG_2828 : Cond.methodLink "LazyForgeModel" 721 yX12_push ∈ uG := uG_at 2828 (by decide +kernel) (by decide +kernel)
theorem mG_2830 : Cond.instanceMethod yX12_push ∈ uG := uG_at 2830 (by decide +kernel) (by decide +kernel)
theorem mG_2831 : Cond.code yX12_push prog_14_method_101_code 3 none ∈ uG := uG_at 2831 (by decide +kernel) (by decide +kernel)
theorem mG_2840 : Cond.methodLink "LazyForgeModel" 718 yX12_arguments ∈ uG := uG_at 2840 (by decide +kernel) (by decide +kernel)
theorem mG_2842 : Cond.instanceMethod yX12_arguments ∈ uG := uG_at 2842 (by decide +kernel) (by decide +kernel)
theorem mG_2843 : Cond.code yX12_arguments prog_14_method_102_code 7 none ∈ uG := uG_at 2843 (by decide +kernel) (by decide +kernel)
theorem mG_2844 : Cond.methodLink "LazyForgeModel" 703 yX12_keep ∈ uG := uG_at 2844 (by decide +kernel) (by decide +kernel)
theorem mG_2846 : Cond.instanceMethod yX12_keep ∈ uG := uG_at 2846 (by decide +kernel) (by decide +kernel)
theorem mG_2847 : Cond.code yX12_keep prog_14_method_95_code 5 (some .long) ∈ uG := uG_at 2847 (by decide +kernel) (by decide +kernel)
theorem mG_2871 : Cond.methodLink "LazyForgeModel" 727 yX12_call ∈ uG := uG_at 2871 (by decide +kernel) (by decide +kernel)
theorem mG_2873 : Cond.instanceMethod yX12_call ∈ uG := uG_at 2873 (by decide +kernel) (by decide +kernel)
theorem mG_2874 : Cond.code yX12_call prog_14_method_103_code 9 none ∈ uG := uG_at 2874 (by decide +kernel) (by decide +kernel)
theorem mG_2883 : Cond.methodLink "LazyForgeModel" 712 yX12_keepBindings ∈ uG := uG_at 2883 (by decide +kernel) (by decide +kernel)
theorem mG_2885 : Cond.instanceMethod yX12_keepBindings ∈ uG := uG_at 2885 (by decide +kernel) (by decide +kernel)
theorem mG_2886 : Cond.code yX12_keepBindings prog_14_method_96_code 9 none ∈ uG := uG_at 2886 (by decide +kernel) (by decide +kernel)
theorem mG_2887 : Cond.methodLink "LazyForgeModel" 715 yX12_workApplication ∈ uG := uG_at 2887 (by decide +kernel) (by decide +kernel)
theorem mG_2889 : Cond.instanceMethod yX12_workApplication ∈ uG := uG_at 2889 (by decide +kernel) (by decide +kernel)
theorem mG_2890 : Cond.code yX12_workApplication prog_14_method_100_code 6 none ∈ uG := uG_at 2890 (by decide +kernel) (by decide +kernel)
theorem dX12_apply_0 : decode cX12_apply 0 = .ok (.lload_n 1, 1) := by decide +kernel
theorem dX12_apply_1 : decode cX12_apply 1 = .ok (.invokestatic 688, 3) := by decide +kernel
theorem dX12_apply_4 : decode cX12_apply 4 = .ok (.iconst 3, 1) := by decide +kernel
theorem dX12_apply_5 : decode cX12_apply 5 = .ok (.if_icmp .ne 20, 3) := by decide +kernel
theorem dX12_apply_8 : decode cX12_apply 8 = .ok (.aload_n 0, 1) := by decide +kernel
theorem dX12_apply_9 : decode cX12_apply 9 = .ok (.getfield 194, 3) := by decide +kernel
theorem dX12_apply_12 : decode cX12_apply 12 = .ok (.lload_n 1, 1) := by decide +kernel
theorem dX12_apply_13 : decode cX12_apply 13 = .ok (.invokestatic 679, 3) := by decide +kernel
theorem dX12_apply_16 : decode cX12_apply 16 = .ok (.iaload, 1) := by decide +kernel
theorem dX12_apply_17 : decode cX12_apply 17 = .ok (.iconst 1, 1) := by decide +kernel
theorem dX12_apply_18 : decode cX12_apply 18 = .ok (.if_icmp .ne 7, 3) := by decide +kernel
theorem dX12_apply_21 : decode cX12_apply 21 = .ok (.iconst 1, 1) := by decide +kernel
theorem dX12_apply_22 : decode cX12_apply 22 = .ok (.goto 4, 3) := by decide +kernel
theorem dX12_apply_25 : decode cX12_apply 25 = .ok (.iconst 0, 1) := by decide +kernel
theorem dX12_apply_26 : decode cX12_apply 26 = .ok (.istore 4, 2) := by decide +kernel
theorem dX12_apply_28 : decode cX12_apply 28 = .ok (.iload 4, 2) := by decide +kernel
theorem dX12_apply_30 : decode cX12_apply 30 = .ok (.ifCond .ne 18, 3) := by decide +kernel
theorem dX12_apply_33 : decode cX12_apply 33 = .ok (.lload_n 1, 1) := by decide +kernel
theorem dX12_apply_34 : decode cX12_apply 34 = .ok (.invokestatic 688, 3) := by decide +kernel
theorem dX12_apply_37 : decode cX12_apply 37 = .ok (.iconst 1, 1) := by decide +kernel
theorem dX12_apply_38 : decode cX12_apply 38 = .ok (.if_icmp .eq 10, 3) := by decide +kernel
theorem dX12_apply_41 : decode cX12_apply 41 = .ok (.aload_n 0, 1) := by decide +kernel
theorem dX12_apply_42 : decode cX12_apply 42 = .ok (.iconst 2, 1) := by decide +kernel
theorem dX12_apply_43 : decode cX12_apply 43 = .ok (.iconst 4, 1) := by decide +kernel
theorem dX12_apply_44 : decode cX12_apply 44 = .ok (.invokevirtual 629, 3) := by decide +kernel
theorem dX12_apply_47 : decode cX12_apply 47 = .ok (.return_, 1) := by decide +kernel
theorem dX12_apply_48 : decode cX12_apply 48 = .ok (.iload 4, 2) := by decide +kernel
theorem dX12_apply_50 : decode cX12_apply 50 = .ok (.ifCond .eq 10, 3) := by decide +kernel
theorem dX12_apply_53 : decode cX12_apply 53 = .ok (.lload_n 1, 1) := by decide +kernel
theorem dX12_apply_54 : decode cX12_apply 54 = .ok (.invokestatic 679, 3) := by decide +kernel
theorem dX12_apply_57 : decode cX12_apply 57 = .ok (.goto 4, 3) := by decide +kernel
theorem dX12_apply_60 : decode cX12_apply 60 = .ok (.iconst (-1), 1) := by decide +kernel
theorem dX12_apply_61 : decode cX12_apply 61 = .ok (.istore 5, 2) := by decide +kernel
theorem dX12_apply_63 : decode cX12_apply 63 = .ok (.iload 4, 2) := by decide +kernel
theorem dX12_apply_65 : decode cX12_apply 65 = .ok (.ifCond .eq 13, 3) := by decide +kernel
theorem dX12_apply_68 : decode cX12_apply 68 = .ok (.aload_n 0, 1) := by decide +kernel
theorem dX12_apply_69 : decode cX12_apply 69 = .ok (.getfield 197, 3) := by decide +kernel
theorem dX12_apply_72 : decode cX12_apply 72 = .ok (.iload 5, 2) := by decide +kernel
theorem dX12_apply_74 : decode cX12_apply 74 = .ok (.iaload, 1) := by decide +kernel
theorem dX12_apply_75 : decode cX12_apply 75 = .ok (.goto 7, 3) := by decide +kernel
theorem dX12_apply_78 : decode cX12_apply 78 = .ok (.lload_n 1, 1) := by decide +kernel
theorem dX12_apply_79 : decode cX12_apply 79 = .ok (.invokestatic 679, 3) := by decide +kernel
theorem dX12_apply_82 : decode cX12_apply 82 = .ok (.istore 6, 2) := by decide +kernel
theorem dX12_apply_84 : decode cX12_apply 84 = .ok (.iload 4, 2) := by decide +kernel
theorem dX12_apply_86 : decode cX12_apply 86 = .ok (.ifCond .eq 13, 3) := by decide +kernel
theorem dX12_apply_89 : decode cX12_apply 89 = .ok (.aload_n 0, 1) := by decide +kernel
theorem dX12_apply_90 : decode cX12_apply 90 = .ok (.getfield 206, 3) := by decide +kernel
theorem dX12_apply_93 : decode cX12_apply 93 = .ok (.iload 5, 2) := by decide +kernel
theorem dX12_apply_95 : decode cX12_apply 95 = .ok (.iaload, 1) := by decide +kernel
theorem dX12_apply_96 : decode cX12_apply 96 = .ok (.goto 4, 3) := by decide +kernel
theorem dX12_apply_99 : decode cX12_apply 99 = .ok (.iconst 0, 1) := by decide +kernel
theorem dX12_apply_100 : decode cX12_apply 100 = .ok (.istore 7, 2) := by decide +kernel
theorem dX12_apply_102 : decode cX12_apply 102 = .ok (.iload 7, 2) := by decide +kernel
theorem dX12_apply_104 : decode cX12_apply 104 = .ok (.iload_n 3, 1) := by decide +kernel
theorem dX12_apply_105 : decode cX12_apply 105 = .ok (.iadd, 1) := by decide +kernel
theorem dX12_apply_106 : decode cX12_apply 106 = .ok (.aload_n 0, 1) := by decide +kernel
theorem dX12_apply_107 : decode cX12_apply 107 = .ok (.getfield 171, 3) := by decide +kernel
theorem dX12_apply_110 : decode cX12_apply 110 = .ok (.iload 6, 2) := by decide +kernel
theorem dX12_apply_112 : decode cX12_apply 112 = .ok (.iaload, 1) := by decide +kernel
theorem dX12_apply_113 : decode cX12_apply 113 = .ok (.if_icmp .lt 13, 3) := by decide +kernel
theorem dX12_apply_116 : decode cX12_apply 116 = .ok (.aload_n 0, 1) := by decide +kernel
theorem dX12_apply_117 : decode cX12_apply 117 = .ok (.iload 6, 2) := by decide +kernel
theorem dX12_apply_119 : decode cX12_apply 119 = .ok (.iload 5, 2) := by decide +kernel
theorem dX12_apply_121 : decode cX12_apply 121 = .ok (.iload_n 3, 1) := by decide +kernel
theorem dX12_apply_122 : decode cX12_apply 122 = .ok (.invokevirtual 727, 3) := by decide +kernel
theorem dX12_apply_125 : decode cX12_apply 125 = .ok (.return_, 1) := by decide +kernel
theorem dX12_apply_126 : decode cX12_apply 126 = .ok (.aload_n 0, 1) := by decide +kernel
theorem dX12_apply_127 : decode cX12_apply 127 = .ok (.iconst 1, 1) := by decide +kernel
theorem dX12_apply_128 : decode cX12_apply 128 = .ok (.iload 6, 2) := by decide +kernel
theorem dX12_apply_130 : decode cX12_apply 130 = .ok (.iload 7, 2) := by decide +kernel
theorem dX12_apply_132 : decode cX12_apply 132 = .ok (.iload_n 3, 1) := by decide +kernel
theorem dX12_apply_133 : decode cX12_apply 133 = .ok (.iadd, 1) := by decide +kernel
theorem dX12_apply_134 : decode cX12_apply 134 = .ok (.iconst 2, 1) := by decide +kernel
theorem dX12_apply_135 : decode cX12_apply 135 = .ok (.iload 7, 2) := by decide +kernel
theorem dX12_apply_137 : decode cX12_apply 137 = .ok (.iadd, 1) := by decide +kernel
theorem dX12_apply_138 : decode cX12_apply 138 = .ok (.iload_n 3, 1) := by decide +kernel
theorem dX12_apply_139 : decode cX12_apply 139 = .ok (.iadd, 1) := by decide +kernel
theorem dX12_apply_140 : decode cX12_apply 140 = .ok (.invokevirtual 653, 3) := by decide +kernel
theorem dX12_apply_143 : decode cX12_apply 143 = .ok (.istore 8, 2) := by decide +kernel
theorem dX12_apply_145 : decode cX12_apply 145 = .ok (.iload 8, 2) := by decide +kernel
theorem dX12_apply_147 : decode cX12_apply 147 = .ok (.ifCond .ge 4, 3) := by decide +kernel
theorem dX12_apply_150 : decode cX12_apply 150 = .ok (.return_, 1) := by decide +kernel
theorem dX12_apply_151 : decode cX12_apply 151 = .ok (.iconst 0, 1) := by decide +kernel
theorem dX12_apply_152 : decode cX12_apply 152 = .ok (.istore 9, 2) := by decide +kernel
theorem dX12_apply_154 : decode cX12_apply 154 = .ok (.iload 9, 2) := by decide +kernel
theorem dX12_apply_156 : decode cX12_apply 156 = .ok (.iload 7, 2) := by decide +kernel
theorem dX12_apply_158 : decode cX12_apply 158 = .ok (.if_icmp .ge 39, 3) := by decide +kernel
theorem dX12_apply_161 : decode cX12_apply 161 = .ok (.aload_n 0, 1) := by decide +kernel
theorem dX12_apply_162 : decode cX12_apply 162 = .ok (.getfield 209, 3) := by decide +kernel
theorem dX12_apply_165 : decode cX12_apply 165 = .ok (.aload_n 0, 1) := by decide +kernel
theorem dX12_apply_166 : decode cX12_apply 166 = .ok (.getfield 203, 3) := by decide +kernel
theorem dX12_apply_169 : decode cX12_apply 169 = .ok (.iload 8, 2) := by decide +kernel
theorem dX12_apply_171 : decode cX12_apply 171 = .ok (.iaload, 1) := by decide +kernel
theorem dX12_apply_172 : decode cX12_apply 172 = .ok (.iload 9, 2) := by decide +kernel
theorem dX12_apply_174 : decode cX12_apply 174 = .ok (.iadd, 1) := by decide +kernel
theorem dX12_apply_175 : decode cX12_apply 175 = .ok (.aload_n 0, 1) := by decide +kernel
theorem dX12_apply_176 : decode cX12_apply 176 = .ok (.getfield 209, 3) := by decide +kernel
theorem dX12_apply_179 : decode cX12_apply 179 = .ok (.aload_n 0, 1) := by decide +kernel
theorem dX12_apply_180 : decode cX12_apply 180 = .ok (.getfield 203, 3) := by decide +kernel
theorem dX12_apply_183 : decode cX12_apply 183 = .ok (.iload 5, 2) := by decide +kernel
theorem dX12_apply_185 : decode cX12_apply 185 = .ok (.iaload, 1) := by decide +kernel
theorem dX12_apply_186 : decode cX12_apply 186 = .ok (.iload 9, 2) := by decide +kernel
theorem dX12_apply_188 : decode cX12_apply 188 = .ok (.iadd, 1) := by decide +kernel
theorem dX12_apply_189 : decode cX12_apply 189 = .ok (.laload, 1) := by decide +kernel
theorem dX12_apply_190 : decode cX12_apply 190 = .ok (.lastore, 1) := by decide +kernel
theorem dX12_apply_191 : decode cX12_apply 191 = .ok (.iinc 9 1, 3) := by decide +kernel
theorem dX12_apply_194 : decode cX12_apply 194 = .ok (.goto (-40), 3) := by decide +kernel
theorem dX12_apply_197 : decode cX12_apply 197 = .ok (.aload_n 0, 1) := by decide +kernel
theorem dX12_apply_198 : decode cX12_apply 198 = .ok (.dup, 1) := by decide +kernel
theorem dX12_apply_199 : decode cX12_apply 199 = .ok (.getfield 724, 3) := by decide +kernel
theorem dX12_apply_202 : decode cX12_apply 202 = .ok (.iload_n 3, 1) := by decide +kernel
theorem dX12_apply_203 : decode cX12_apply 203 = .ok (.isub, 1) := by decide +kernel
theorem dX12_apply_204 : decode cX12_apply 204 = .ok (.putfield 724, 3) := by decide +kernel
theorem dX12_apply_207 : decode cX12_apply 207 = .ok (.iconst 0, 1) := by decide +kernel
theorem dX12_apply_208 : decode cX12_apply 208 = .ok (.istore 9, 2) := by decide +kernel
theorem dX12_apply_210 : decode cX12_apply 210 = .ok (.iload 9, 2) := by decide +kernel
theorem dX12_apply_212 : decode cX12_apply 212 = .ok (.iload_n 3, 1) := by decide +kernel
theorem dX12_apply_213 : decode cX12_apply 213 = .ok (.if_icmp .ge 39, 3) := by decide +kernel
theorem dX12_apply_216 : decode cX12_apply 216 = .ok (.aload_n 0, 1) := by decide +kernel
theorem dX12_apply_217 : decode cX12_apply 217 = .ok (.getfield 209, 3) := by decide +kernel
theorem dX12_apply_220 : decode cX12_apply 220 = .ok (.aload_n 0, 1) := by decide +kernel
theorem dX12_apply_221 : decode cX12_apply 221 = .ok (.getfield 203, 3) := by decide +kernel
theorem dX12_apply_224 : decode cX12_apply 224 = .ok (.iload 8, 2) := by decide +kernel
theorem dX12_apply_226 : decode cX12_apply 226 = .ok (.iaload, 1) := by decide +kernel
theorem dX12_apply_227 : decode cX12_apply 227 = .ok (.iload 7, 2) := by decide +kernel
theorem dX12_apply_229 : decode cX12_apply 229 = .ok (.iadd, 1) := by decide +kernel
theorem dX12_apply_230 : decode cX12_apply 230 = .ok (.iload 9, 2) := by decide +kernel
theorem dX12_apply_232 : decode cX12_apply 232 = .ok (.iadd, 1) := by decide +kernel
theorem dX12_apply_233 : decode cX12_apply 233 = .ok (.aload_n 0, 1) := by decide +kernel
theorem dX12_apply_234 : decode cX12_apply 234 = .ok (.getfield 229, 3) := by decide +kernel
theorem dX12_apply_237 : decode cX12_apply 237 = .ok (.aload_n 0, 1) := by decide +kernel
theorem dX12_apply_238 : decode cX12_apply 238 = .ok (.getfield 724, 3) := by decide +kernel
theorem dX12_apply_241 : decode cX12_apply 241 = .ok (.iload 9, 2) := by decide +kernel
theorem dX12_apply_243 : decode cX12_apply 243 = .ok (.iadd, 1) := by decide +kernel
theorem dX12_apply_244 : decode cX12_apply 244 = .ok (.laload, 1) := by decide +kernel
theorem dX12_apply_245 : decode cX12_apply 245 = .ok (.lastore, 1) := by decide +kernel
theorem dX12_apply_246 : decode cX12_apply 246 = .ok (.iinc 9 1, 3) := by decide +kernel
theorem dX12_apply_249 : decode cX12_apply 249 = .ok (.goto (-39), 3) := by decide +kernel
theorem dX12_apply_252 : decode cX12_apply 252 = .ok (.aload_n 0, 1) := by decide +kernel
theorem dX12_apply_253 : decode cX12_apply 253 = .ok (.iconst 3, 1) := by decide +kernel
theorem dX12_apply_254 : decode cX12_apply 254 = .ok (.iload 8, 2) := by decide +kernel
theorem dX12_apply_256 : decode cX12_apply 256 = .ok (.invokestatic 650, 3) := by decide +kernel
theorem dX12_apply_259 : decode cX12_apply 259 = .ok (.invokevirtual 691, 3) := by decide +kernel
theorem dX12_apply_262 : decode cX12_apply 262 = .ok (.return_, 1) := by decide +kernel
theorem dX12_arguments_0 : decode cX12_arguments 0 = .ok (.aload_n 0, 1) := by decide +kernel
theorem dX12_arguments_1 : decode cX12_arguments 1 = .ok (.getfield 122, 3) := by decide +kernel
theorem dX12_arguments_4 : decode cX12_arguments 4 = .ok (.aload_n 0, 1) := by decide +kernel
theorem dX12_arguments_5 : decode cX12_arguments 5 = .ok (.iload_n 1, 1) := by decide +kernel
theorem dX12_arguments_6 : decode cX12_arguments 6 = .ok (.iconst 0, 1) := by decide +kernel
theorem dX12_arguments_7 : decode cX12_arguments 7 = .ok (.invokevirtual 545, 3) := by decide +kernel
theorem dX12_arguments_10 : decode cX12_arguments 10 = .ok (.iaload, 1) := by decide +kernel
theorem dX12_arguments_11 : decode cX12_arguments 11 = .ok (.istore_n 3, 1) := by decide +kernel
theorem dX12_arguments_12 : decode cX12_arguments 12 = .ok (.aload_n 0, 1) := by decide +kernel
theorem dX12_arguments_13 : decode cX12_arguments 13 = .ok (.getfield 171, 3) := by decide +kernel
theorem dX12_arguments_16 : decode cX12_arguments 16 = .ok (.iload_n 3, 1) := by decide +kernel
theorem dX12_arguments_17 : decode cX12_arguments 17 = .ok (.iaload, 1) := by decide +kernel
theorem dX12_arguments_18 : decode cX12_arguments 18 = .ok (.istore 4, 2) := by decide +kernel
theorem dX12_arguments_20 : decode cX12_arguments 20 = .ok (.aload_n 0, 1) := by decide +kernel
theorem dX12_arguments_21 : decode cX12_arguments 21 = .ok (.getfield 128, 3) := by decide +kernel
theorem dX12_arguments_24 : decode cX12_arguments 24 = .ok (.iload_n 1, 1) := by decide +kernel
theorem dX12_arguments_25 : decode cX12_arguments 25 = .ok (.iaload, 1) := by decide +kernel
theorem dX12_arguments_26 : decode cX12_arguments 26 = .ok (.iconst 1, 1) := by decide +kernel
theorem dX12_arguments_27 : decode cX12_arguments 27 = .ok (.isub, 1) := by decide +kernel
theorem dX12_arguments_28 : decode cX12_arguments 28 = .ok (.istore 5, 2) := by decide +kernel
theorem dX12_arguments_30 : decode cX12_arguments 30 = .ok (.iload_n 2, 1) := by decide +kernel
theorem dX12_arguments_31 : decode cX12_arguments 31 = .ok (.istore 6, 2) := by decide +kernel
theorem dX12_arguments_33 : decode cX12_arguments 33 = .ok (.iload 6, 2) := by decide +kernel
theorem dX12_arguments_35 : decode cX12_arguments 35 = .ok (.iload 5, 2) := by decide +kernel
theorem dX12_arguments_37 : decode cX12_arguments 37 = .ok (.if_icmp .ge 95, 3) := by decide +kernel
theorem dX12_arguments_40 : decode cX12_arguments 40 = .ok (.aload_n 0, 1) := by decide +kernel
theorem dX12_arguments_41 : decode cX12_arguments 41 = .ok (.getfield 605, 3) := by decide +kernel
theorem dX12_arguments_44 : decode cX12_arguments 44 = .ok (.ifCond .ne 88, 3) := by decide +kernel
theorem dX12_arguments_47 : decode cX12_arguments 47 = .ok (.iload 6, 2) := by decide +kernel
theorem dX12_arguments_49 : decode cX12_arguments 49 = .ok (.iload 4, 2) := by decide +kernel
theorem dX12_arguments_51 : decode cX12_arguments 51 = .ok (.if_icmp .ge 58, 3) := by decide +kernel
theorem dX12_arguments_54 : decode cX12_arguments 54 = .ok (.aload_n 0, 1) := by decide +kernel
theorem dX12_arguments_55 : decode cX12_arguments 55 = .ok (.getfield 706, 3) := by decide +kernel
theorem dX12_arguments_58 : decode cX12_arguments 58 = .ok (.ifCond .eq 51, 3) := by decide +kernel
theorem dX12_arguments_61 : decode cX12_arguments 61 = .ok (.aload_n 0, 1) := by decide +kernel
theorem dX12_arguments_62 : decode cX12_arguments 62 = .ok (.getfield 191, 3) := by decide +kernel
theorem dX12_arguments_65 : decode cX12_arguments 65 = .ok (.bipush 8, 2) := by decide +kernel
theorem dX12_arguments_67 : decode cX12_arguments 67 = .ok (.iload_n 3, 1) := by decide +kernel
theorem dX12_arguments_68 : decode cX12_arguments 68 = .ok (.imul, 1) := by decide +kernel
theorem dX12_arguments_69 : decode cX12_arguments 69 = .ok (.iload 6, 2) := by decide +kernel
theorem dX12_arguments_71 : decode cX12_arguments 71 = .ok (.iadd, 1) := by decide +kernel
theorem dX12_arguments_72 : decode cX12_arguments 72 = .ok (.baload, 1) := by decide +kernel
theorem dX12_arguments_73 : decode cX12_arguments 73 = .ok (.ifCond .eq 36, 3) := by decide +kernel
theorem dX12_arguments_76 : decode cX12_arguments 76 = .ok (.aload_n 0, 1) := by decide +kernel
theorem dX12_arguments_77 : decode cX12_arguments 77 = .ok (.dup, 1) := by decide +kernel
theorem dX12_arguments_78 : decode cX12_arguments 78 = .ok (.getfield 709, 3) := by decide +kernel
theorem dX12_arguments_81 : decode cX12_arguments 81 = .ok (.iconst 1, 1) := by decide +kernel
theorem dX12_arguments_82 : decode cX12_arguments 82 = .ok (.iadd, 1) := by decide +kernel
theorem dX12_arguments_83 : decode cX12_arguments 83 = .ok (.putfield 709, 3) := by decide +kernel
theorem dX12_arguments_86 : decode cX12_arguments 86 = .ok (.aload_n 0, 1) := by decide +kernel
theorem dX12_arguments_87 : decode cX12_arguments 87 = .ok (.bipush 6, 2) := by decide +kernel
theorem dX12_arguments_89 : decode cX12_arguments 89 = .ok (.iload_n 1, 1) := by decide +kernel
theorem dX12_arguments_90 : decode cX12_arguments 90 = .ok (.iload 6, 2) := by decide +kernel
theorem dX12_arguments_92 : decode cX12_arguments 92 = .ok (.invokevirtual 685, 3) := by decide +kernel
theorem dX12_arguments_95 : decode cX12_arguments 95 = .ok (.aload_n 0, 1) := by decide +kernel
theorem dX12_arguments_96 : decode cX12_arguments 96 = .ok (.aload_n 0, 1) := by decide +kernel
theorem dX12_arguments_97 : decode cX12_arguments 97 = .ok (.iload_n 1, 1) := by decide +kernel
theorem dX12_arguments_98 : decode cX12_arguments 98 = .ok (.iconst 1, 1) := by decide +kernel
theorem dX12_arguments_99 : decode cX12_arguments 99 = .ok (.iload 6, 2) := by decide +kernel
theorem dX12_arguments_101 : decode cX12_arguments 101 = .ok (.iadd, 1) := by decide +kernel
theorem dX12_arguments_102 : decode cX12_arguments 102 = .ok (.invokevirtual 545, 3) := by decide +kernel
theorem dX12_arguments_105 : decode cX12_arguments 105 = .ok (.invokevirtual 697, 3) := by decide +kernel
theorem dX12_arguments_108 : decode cX12_arguments 108 = .ok (.return_, 1) := by decide +kernel
theorem dX12_arguments_109 : decode cX12_arguments 109 = .ok (.aload_n 0, 1) := by decide +kernel
theorem dX12_arguments_110 : decode cX12_arguments 110 = .ok (.aload_n 0, 1) := by decide +kernel
theorem dX12_arguments_111 : decode cX12_arguments 111 = .ok (.aload_n 0, 1) := by decide +kernel
theorem dX12_arguments_112 : decode cX12_arguments 112 = .ok (.iload_n 1, 1) := by decide +kernel
theorem dX12_arguments_113 : decode cX12_arguments 113 = .ok (.iconst 1, 1) := by decide +kernel
theorem dX12_arguments_114 : decode cX12_arguments 114 = .ok (.iload 6, 2) := by decide +kernel
theorem dX12_arguments_116 : decode cX12_arguments 116 = .ok (.iadd, 1) := by decide +kernel
theorem dX12_arguments_117 : decode cX12_arguments 117 = .ok (.invokevirtual 545, 3) := by decide +kernel
theorem dX12_arguments_120 : decode cX12_arguments 120 = .ok (.invokevirtual 703, 3) := by decide +kernel
theorem dX12_arguments_123 : decode cX12_arguments 123 = .ok (.invokevirtual 721, 3) := by decide +kernel
theorem dX12_arguments_126 : decode cX12_arguments 126 = .ok (.iinc 6 1, 3) := by decide +kernel
theorem dX12_arguments_129 : decode cX12_arguments 129 = .ok (.goto (-96), 3) := by decide +kernel
theorem dX12_arguments_132 : decode cX12_arguments 132 = .ok (.aload_n 0, 1) := by decide +kernel
theorem dX12_arguments_133 : decode cX12_arguments 133 = .ok (.getfield 605, 3) := by decide +kernel
theorem dX12_arguments_136 : decode cX12_arguments 136 = .ok (.ifCond .ne 11, 3) := by decide +kernel
theorem dX12_arguments_139 : decode cX12_arguments 139 = .ok (.aload_n 0, 1) := by decide +kernel
theorem dX12_arguments_140 : decode cX12_arguments 140 = .ok (.iload_n 3, 1) := by decide +kernel
theorem dX12_arguments_141 : decode cX12_arguments 141 = .ok (.iconst (-1), 1) := by decide +kernel
theorem dX12_arguments_142 : decode cX12_arguments 142 = .ok (.iload 5, 2) := by decide +kernel
theorem dX12_arguments_144 : decode cX12_arguments 144 = .ok (.invokevirtual 727, 3) := by decide +kernel
theorem dX12_arguments_147 : decode cX12_arguments 147 = .ok (.return_, 1) := by decide +kernel
theorem dX12_call_0 : decode cX12_call 0 = .ok (.aload_n 0, 1) := by decide +kernel
theorem dX12_call_1 : decode cX12_call 1 = .ok (.getfield 730, 3) := by decide +kernel
theorem dX12_call_4 : decode cX12_call 4 = .ok (.ifCond .ne 10, 3) := by decide +kernel
theorem dX12_call_7 : decode cX12_call 7 = .ok (.aload_n 0, 1) := by decide +kernel
theorem dX12_call_8 : decode cX12_call 8 = .ok (.iconst 3, 1) := by decide +kernel
theorem dX12_call_9 : decode cX12_call 9 = .ok (.iconst 1, 1) := by decide +kernel
theorem dX12_call_10 : decode cX12_call 10 = .ok (.invokevirtual 629, 3) := by decide +kernel
theorem dX12_call_13 : decode cX12_call 13 = .ok (.return_, 1) := by decide +kernel
theorem dX12_call_14 : decode cX12_call 14 = .ok (.aload_n 0, 1) := by decide +kernel
theorem dX12_call_15 : decode cX12_call 15 = .ok (.dup, 1) := by decide +kernel
theorem dX12_call_16 : decode cX12_call 16 = .ok (.getfield 730, 3) := by decide +kernel
theorem dX12_call_19 : decode cX12_call 19 = .ok (.iconst 1, 1) := by decide +kernel
theorem dX12_call_20 : decode cX12_call 20 = .ok (.isub, 1) := by decide +kernel
theorem dX12_call_21 : decode cX12_call 21 = .ok (.putfield 730, 3) := by decide +kernel
theorem dX12_call_24 : decode cX12_call 24 = .ok (.aload_n 0, 1) := by decide +kernel
theorem dX12_call_25 : decode cX12_call 25 = .ok (.dup, 1) := by decide +kernel
theorem dX12_call_26 : decode cX12_call 26 = .ok (.getfield 733, 3) := by decide +kernel
theorem dX12_call_29 : decode cX12_call 29 = .ok (.iconst 1, 1) := by decide +kernel
theorem dX12_call_30 : decode cX12_call 30 = .ok (.iadd, 1) := by decide +kernel
theorem dX12_call_31 : decode cX12_call 31 = .ok (.putfield 733, 3) := by decide +kernel
theorem dX12_call_34 : decode cX12_call 34 = .ok (.aload_n 0, 1) := by decide +kernel
theorem dX12_call_35 : decode cX12_call 35 = .ok (.dup, 1) := by decide +kernel
theorem dX12_call_36 : decode cX12_call 36 = .ok (.getfield 736, 3) := by decide +kernel
theorem dX12_call_39 : decode cX12_call 39 = .ok (.iconst 1, 1) := by decide +kernel
theorem dX12_call_40 : decode cX12_call 40 = .ok (.iadd, 1) := by decide +kernel
theorem dX12_call_41 : decode cX12_call 41 = .ok (.putfield 736, 3) := by decide +kernel
theorem dX12_call_44 : decode cX12_call 44 = .ok (.aload_n 0, 1) := by decide +kernel
theorem dX12_call_45 : decode cX12_call 45 = .ok (.getfield 212, 3) := by decide +kernel
theorem dX12_call_48 : decode cX12_call 48 = .ok (.iload_n 1, 1) := by decide +kernel
theorem dX12_call_49 : decode cX12_call 49 = .ok (.dup2, 1) := by decide +kernel
theorem dX12_call_50 : decode cX12_call 50 = .ok (.iaload, 1) := by decide +kernel
theorem dX12_call_51 : decode cX12_call 51 = .ok (.iconst 1, 1) := by decide +kernel
theorem dX12_call_52 : decode cX12_call 52 = .ok (.iadd, 1) := by decide +kernel
theorem dX12_call_53 : decode cX12_call 53 = .ok (.iastore, 1) := by decide +kernel
theorem dX12_call_54 : decode cX12_call 54 = .ok (.iload_n 2, 1) := by decide +kernel
theorem dX12_call_55 : decode cX12_call 55 = .ok (.ifCond .ge 7, 3) := by decide +kernel
theorem dX12_call_58 : decode cX12_call 58 = .ok (.iconst 0, 1) := by decide +kernel
theorem dX12_call_59 : decode cX12_call 59 = .ok (.goto 9, 3) := by decide +kernel
theorem dX12_call_62 : decode cX12_call 62 = .ok (.aload_n 0, 1) := by decide +kernel
theorem dX12_call_63 : decode cX12_call 63 = .ok (.getfield 206, 3) := by decide +kernel
theorem dX12_call_66 : decode cX12_call 66 = .ok (.iload_n 2, 1) := by decide +kernel
theorem dX12_call_67 : decode cX12_call 67 = .ok (.iaload, 1) := by decide +kernel
theorem dX12_call_68 : decode cX12_call 68 = .ok (.istore 4, 2) := by decide +kernel
theorem dX12_call_70 : decode cX12_call 70 = .ok (.aload_n 0, 1) := by decide +kernel
theorem dX12_call_71 : decode cX12_call 71 = .ok (.getfield 171, 3) := by decide +kernel
theorem dX12_call_74 : decode cX12_call 74 = .ok (.iload_n 1, 1) := by decide +kernel
theorem dX12_call_75 : decode cX12_call 75 = .ok (.iaload, 1) := by decide +kernel
theorem dX12_call_76 : decode cX12_call 76 = .ok (.iload 4, 2) := by decide +kernel
theorem dX12_call_78 : decode cX12_call 78 = .ok (.isub, 1) := by decide +kernel
theorem dX12_call_79 : decode cX12_call 79 = .ok (.istore 5, 2) := by decide +kernel
theorem dX12_call_81 : decode cX12_call 81 = .ok (.iload_n 3, 1) := by decide +kernel
theorem dX12_call_82 : decode cX12_call 82 = .ok (.iload 5, 2) := by decide +kernel
theorem dX12_call_84 : decode cX12_call 84 = .ok (.isub, 1) := by decide +kernel
theorem dX12_call_85 : decode cX12_call 85 = .ok (.istore 6, 2) := by decide +kernel
theorem dX12_call_87 : decode cX12_call 87 = .ok (.aload_n 0, 1) := by decide +kernel
theorem dX12_call_88 : decode cX12_call 88 = .ok (.getfield 724, 3) := by decide +kernel
theorem dX12_call_91 : decode cX12_call 91 = .ok (.iload_n 3, 1) := by decide +kernel
theorem dX12_call_92 : decode cX12_call 92 = .ok (.isub, 1) := by decide +kernel
theorem dX12_call_93 : decode cX12_call 93 = .ok (.istore 7, 2) := by decide +kernel
theorem dX12_call_95 : decode cX12_call 95 = .ok (.iload 6, 2) := by decide +kernel
theorem dX12_call_97 : decode cX12_call 97 = .ok (.ifCond .le 12, 3) := by decide +kernel
theorem dX12_call_100 : decode cX12_call 100 = .ok (.aload_n 0, 1) := by decide +kernel
theorem dX12_call_101 : decode cX12_call 101 = .ok (.bipush 7, 2) := by decide +kernel
theorem dX12_call_103 : decode cX12_call 103 = .ok (.iconst 0, 1) := by decide +kernel
theorem dX12_call_104 : decode cX12_call 104 = .ok (.iload 6, 2) := by decide +kernel
theorem dX12_call_106 : decode cX12_call 106 = .ok (.invokevirtual 685, 3) := by decide +kernel
theorem dX12_call_109 : decode cX12_call 109 = .ok (.aload_n 0, 1) := by decide +kernel
theorem dX12_call_110 : decode cX12_call 110 = .ok (.iload_n 1, 1) := by decide +kernel
theorem dX12_call_111 : decode cX12_call 111 = .ok (.invokevirtual 694, 3) := by decide +kernel
theorem dX12_call_114 : decode cX12_call 114 = .ok (.iconst 0, 1) := by decide +kernel
theorem dX12_call_115 : decode cX12_call 115 = .ok (.istore 8, 2) := by decide +kernel
theorem dX12_call_117 : decode cX12_call 117 = .ok (.iload 8, 2) := by decide +kernel
theorem dX12_call_119 : decode cX12_call 119 = .ok (.iload 4, 2) := by decide +kernel
theorem dX12_call_121 : decode cX12_call 121 = .ok (.if_icmp .ge 35, 3) := by decide +kernel
theorem dX12_call_124 : decode cX12_call 124 = .ok (.aload_n 0, 1) := by decide +kernel
theorem dX12_call_125 : decode cX12_call 125 = .ok (.getfield 233, 3) := by decide +kernel
theorem dX12_call_128 : decode cX12_call 128 = .ok (.aload_n 0, 1) := by decide +kernel
theorem dX12_call_129 : decode cX12_call 129 = .ok (.getfield 614, 3) := by decide +kernel
theorem dX12_call_132 : decode cX12_call 132 = .ok (.iload 8, 2) := by decide +kernel
theorem dX12_call_134 : decode cX12_call 134 = .ok (.iadd, 1) := by decide +kernel
theorem dX12_call_135 : decode cX12_call 135 = .ok (.aload_n 0, 1) := by decide +kernel
theorem dX12_call_136 : decode cX12_call 136 = .ok (.getfield 209, 3) := by decide +kernel
theorem dX12_call_139 : decode cX12_call 139 = .ok (.aload_n 0, 1) := by decide +kernel
theorem dX12_call_140 : decode cX12_call 140 = .ok (.getfield 203, 3) := by decide +kernel
theorem dX12_call_143 : decode cX12_call 143 = .ok (.iload_n 2, 1) := by decide +kernel
theorem dX12_call_144 : decode cX12_call 144 = .ok (.iaload, 1) := by decide +kernel
theorem dX12_call_145 : decode cX12_call 145 = .ok (.iload 8, 2) := by decide +kernel
theorem dX12_call_147 : decode cX12_call 147 = .ok (.iadd, 1) := by decide +kernel
theorem dX12_call_148 : decode cX12_call 148 = .ok (.laload, 1) := by decide +kernel
theorem dX12_call_149 : decode cX12_call 149 = .ok (.lastore, 1) := by decide +kernel
theorem dX12_call_150 : decode cX12_call 150 = .ok (.iinc 8 1, 3) := by decide +kernel
theorem dX12_call_153 : decode cX12_call 153 = .ok (.goto (-36), 3) := by decide +kernel
theorem dX12_call_156 : decode cX12_call 156 = .ok (.iconst 0, 1) := by decide +kernel
theorem dX12_call_157 : decode cX12_call 157 = .ok (.istore 8, 2) := by decide +kernel
theorem dX12_call_159 : decode cX12_call 159 = .ok (.iload 8, 2) := by decide +kernel
theorem dX12_call_161 : decode cX12_call 161 = .ok (.iload 5, 2) := by decide +kernel
theorem dX12_call_163 : decode cX12_call 163 = .ok (.if_icmp .ge 34, 3) := by decide +kernel
theorem dX12_call_166 : decode cX12_call 166 = .ok (.aload_n 0, 1) := by decide +kernel
theorem dX12_call_167 : decode cX12_call 167 = .ok (.getfield 233, 3) := by decide +kernel
theorem dX12_call_170 : decode cX12_call 170 = .ok (.aload_n 0, 1) := by decide +kernel
theorem dX12_call_171 : decode cX12_call 171 = .ok (.getfield 614, 3) := by decide +kernel
theorem dX12_call_174 : decode cX12_call 174 = .ok (.iload 4, 2) := by decide +kernel
theorem dX12_call_176 : decode cX12_call 176 = .ok (.iadd, 1) := by decide +kernel
theorem dX12_call_177 : decode cX12_call 177 = .ok (.iload 8, 2) := by decide +kernel
theorem dX12_call_179 : decode cX12_call 179 = .ok (.iadd, 1) := by decide +kernel
theorem dX12_call_180 : decode cX12_call 180 = .ok (.aload_n 0, 1) := by decide +kernel
theorem dX12_call_181 : decode cX12_call 181 = .ok (.getfield 229, 3) := by decide +kernel
theorem dX12_call_184 : decode cX12_call 184 = .ok (.iload 7, 2) := by decide +kernel
theorem dX12_call_186 : decode cX12_call 186 = .ok (.iload 8, 2) := by decide +kernel
theorem dX12_call_188 : decode cX12_call 188 = .ok (.iadd, 1) := by decide +kernel
theorem dX12_call_189 : decode cX12_call 189 = .ok (.laload, 1) := by decide +kernel
theorem dX12_call_190 : decode cX12_call 190 = .ok (.lastore, 1) := by decide +kernel
theorem dX12_call_191 : decode cX12_call 191 = .ok (.iinc 8 1, 3) := by decide +kernel
theorem dX12_call_194 : decode cX12_call 194 = .ok (.goto (-35), 3) := by decide +kernel
theorem dX12_call_197 : decode cX12_call 197 = .ok (.iconst 0, 1) := by decide +kernel
theorem dX12_call_198 : decode cX12_call 198 = .ok (.istore 8, 2) := by decide +kernel
theorem dX12_call_200 : decode cX12_call 200 = .ok (.iload 8, 2) := by decide +kernel
theorem dX12_call_202 : decode cX12_call 202 = .ok (.iload 6, 2) := by decide +kernel
theorem dX12_call_204 : decode cX12_call 204 = .ok (.if_icmp .ge 32, 3) := by decide +kernel
theorem dX12_call_207 : decode cX12_call 207 = .ok (.aload_n 0, 1) := by decide +kernel
theorem dX12_call_208 : decode cX12_call 208 = .ok (.getfield 229, 3) := by decide +kernel
theorem dX12_call_211 : decode cX12_call 211 = .ok (.iload 7, 2) := by decide +kernel
theorem dX12_call_213 : decode cX12_call 213 = .ok (.iload 8, 2) := by decide +kernel
theorem dX12_call_215 : decode cX12_call 215 = .ok (.iadd, 1) := by decide +kernel
theorem dX12_call_216 : decode cX12_call 216 = .ok (.aload_n 0, 1) := by decide +kernel
theorem dX12_call_217 : decode cX12_call 217 = .ok (.getfield 229, 3) := by decide +kernel
theorem dX12_call_220 : decode cX12_call 220 = .ok (.iload 7, 2) := by decide +kernel
theorem dX12_call_222 : decode cX12_call 222 = .ok (.iload 5, 2) := by decide +kernel
theorem dX12_call_224 : decode cX12_call 224 = .ok (.iadd, 1) := by decide +kernel
theorem dX12_call_225 : decode cX12_call 225 = .ok (.iload 8, 2) := by decide +kernel
theorem dX12_call_227 : decode cX12_call 227 = .ok (.iadd, 1) := by decide +kernel
theorem dX12_call_228 : decode cX12_call 228 = .ok (.laload, 1) := by decide +kernel
theorem dX12_call_229 : decode cX12_call 229 = .ok (.lastore, 1) := by decide +kernel
theorem dX12_call_230 : decode cX12_call 230 = .ok (.iinc 8 1, 3) := by decide +kernel
theorem dX12_call_233 : decode cX12_call 233 = .ok (.goto (-33), 3) := by decide +kernel
theorem dX12_call_236 : decode cX12_call 236 = .ok (.aload_n 0, 1) := by decide +kernel
theorem dX12_call_237 : decode cX12_call 237 = .ok (.iload 7, 2) := by decide +kernel
theorem dX12_call_239 : decode cX12_call 239 = .ok (.iload 6, 2) := by decide +kernel
theorem dX12_call_241 : decode cX12_call 241 = .ok (.iadd, 1) := by decide +kernel
theorem dX12_call_242 : decode cX12_call 242 = .ok (.putfield 724, 3) := by decide +kernel
theorem dX12_call_245 : decode cX12_call 245 = .ok (.aload_n 0, 1) := by decide +kernel
theorem dX12_call_246 : decode cX12_call 246 = .ok (.aload_n 0, 1) := by decide +kernel
theorem dX12_call_247 : decode cX12_call 247 = .ok (.getfield 165, 3) := by decide +kernel
theorem dX12_call_250 : decode cX12_call 250 = .ok (.iload_n 1, 1) := by decide +kernel
theorem dX12_call_251 : decode cX12_call 251 = .ok (.iaload, 1) := by decide +kernel
theorem dX12_call_252 : decode cX12_call 252 = .ok (.invokevirtual 697, 3) := by decide +kernel
theorem dX12_call_255 : decode cX12_call 255 = .ok (.return_, 1) := by decide +kernel
theorem dX12_choose_0 : decode cX12_choose 0 = .ok (.iconst 1, 1) := by decide +kernel
theorem dX12_choose_1 : decode cX12_choose 1 = .ok (.istore 4, 2) := by decide +kernel
theorem dX12_choose_3 : decode cX12_choose 3 = .ok (.iload 4, 2) := by decide +kernel
theorem dX12_choose_5 : decode cX12_choose 5 = .ok (.aload_n 0, 1) := by decide +kernel
theorem dX12_choose_6 : decode cX12_choose 6 = .ok (.getfield 128, 3) := by decide +kernel
theorem dX12_choose_9 : decode cX12_choose 9 = .ok (.iload_n 1, 1) := by decide +kernel
theorem dX12_choose_10 : decode cX12_choose 10 = .ok (.iaload, 1) := by decide +kernel
theorem dX12_choose_11 : decode cX12_choose 11 = .ok (.if_icmp .ge 244, 3) := by decide +kernel
theorem dX12_choose_14 : decode cX12_choose 14 = .ok (.aload_n 0, 1) := by decide +kernel
theorem dX12_choose_15 : decode cX12_choose 15 = .ok (.getfield 125, 3) := by decide +kernel
theorem dX12_choose_18 : decode cX12_choose 18 = .ok (.iload_n 1, 1) := by decide +kernel
theorem dX12_choose_19 : decode cX12_choose 19 = .ok (.iaload, 1) := by decide +kernel
theorem dX12_choose_20 : decode cX12_choose 20 = .ok (.iload 4, 2) := by decide +kernel
theorem dX12_choose_22 : decode cX12_choose 22 = .ok (.iadd, 1) := by decide +kernel
theorem dX12_choose_23 : decode cX12_choose 23 = .ok (.istore 5, 2) := by decide +kernel
theorem dX12_choose_25 : decode cX12_choose 25 = .ok (.lload_n 2, 1) := by decide +kernel
theorem dX12_choose_26 : decode cX12_choose 26 = .ok (.invokestatic 688, 3) := by decide +kernel
theorem dX12_choose_29 : decode cX12_choose 29 = .ok (.iconst 3, 1) := by decide +kernel
theorem dX12_choose_30 : decode cX12_choose 30 = .ok (.if_icmp .ne 38, 3) := by decide +kernel
theorem dX12_choose_33 : decode cX12_choose 33 = .ok (.aload_n 0, 1) := by decide +kernel
theorem dX12_choose_34 : decode cX12_choose 34 = .ok (.getfield 194, 3) := by decide +kernel
theorem dX12_choose_37 : decode cX12_choose 37 = .ok (.lload_n 2, 1) := by decide +kernel
theorem dX12_choose_38 : decode cX12_choose 38 = .ok (.invokestatic 679, 3) := by decide +kernel
theorem dX12_choose_41 : decode cX12_choose 41 = .ok (.iaload, 1) := by decide +kernel
theorem dX12_choose_42 : decode cX12_choose 42 = .ok (.ifCond .ne 26, 3) := by decide +kernel
theorem dX12_choose_45 : decode cX12_choose 45 = .ok (.aload_n 0, 1) := by decide +kernel
theorem dX12_choose_46 : decode cX12_choose 46 = .ok (.getfield 197, 3) := by decide +kernel
theorem dX12_choose_49 : decode cX12_choose 49 = .ok (.lload_n 2, 1) := by decide +kernel
theorem dX12_choose_50 : decode cX12_choose 50 = .ok (.invokestatic 679, 3) := by decide +kernel
theorem dX12_choose_53 : decode cX12_choose 53 = .ok (.iaload, 1) := by decide +kernel
theorem dX12_choose_54 : decode cX12_choose 54 = .ok (.aload_n 0, 1) := by decide +kernel
theorem dX12_choose_55 : decode cX12_choose 55 = .ok (.getfield 153, 3) := by decide +kernel
theorem dX12_choose_58 : decode cX12_choose 58 = .ok (.iload 5, 2) := by decide +kernel
theorem dX12_choose_60 : decode cX12_choose 60 = .ok (.iaload, 1) := by decide +kernel
theorem dX12_choose_61 : decode cX12_choose 61 = .ok (.if_icmp .ne 7, 3) := by decide +kernel
theorem dX12_choose_64 : decode cX12_choose 64 = .ok (.iconst 1, 1) := by decide +kernel
theorem dX12_choose_65 : decode cX12_choose 65 = .ok (.goto 4, 3) := by decide +kernel
theorem dX12_choose_68 : decode cX12_choose 68 = .ok (.iconst 0, 1) := by decide +kernel
theorem dX12_choose_69 : decode cX12_choose 69 = .ok (.istore 6, 2) := by decide +kernel
theorem dX12_choose_71 : decode cX12_choose 71 = .ok (.aload_n 0, 1) := by decide +kernel
theorem dX12_choose_72 : decode cX12_choose 72 = .ok (.getfield 150, 3) := by decide +kernel
theorem dX12_choose_75 : decode cX12_choose 75 = .ok (.iload 5, 2) := by decide +kernel
theorem dX12_choose_77 : decode cX12_choose 77 = .ok (.iaload, 1) := by decide +kernel
theorem dX12_choose_78 : decode cX12_choose 78 = .ok (.iconst 2, 1) := by decide +kernel
theorem dX12_choose_79 : decode cX12_choose 79 = .ok (.if_icmp .ne 7, 3) := by decide +kernel
theorem dX12_choose_82 : decode cX12_choose 82 = .ok (.iconst 1, 1) := by decide +kernel
theorem dX12_choose_83 : decode cX12_choose 83 = .ok (.goto 4, 3) := by decide +kernel
theorem dX12_choose_86 : decode cX12_choose 86 = .ok (.iconst 0, 1) := by decide +kernel
theorem dX12_choose_87 : decode cX12_choose 87 = .ok (.istore 7, 2) := by decide +kernel
theorem dX12_choose_89 : decode cX12_choose 89 = .ok (.aload_n 0, 1) := by decide +kernel
theorem dX12_choose_90 : decode cX12_choose 90 = .ok (.getfield 150, 3) := by decide +kernel
theorem dX12_choose_93 : decode cX12_choose 93 = .ok (.iload 5, 2) := by decide +kernel
theorem dX12_choose_95 : decode cX12_choose 95 = .ok (.iaload, 1) := by decide +kernel
theorem dX12_choose_96 : decode cX12_choose 96 = .ok (.ifCond .ne 44, 3) := by decide +kernel
theorem dX12_choose_99 : decode cX12_choose 99 = .ok (.aload_n 0, 1) := by decide +kernel
theorem dX12_choose_100 : decode cX12_choose 100 = .ok (.getfield 159, 3) := by decide +kernel
theorem dX12_choose_103 : decode cX12_choose 103 = .ok (.iload 5, 2) := by decide +kernel
theorem dX12_choose_105 : decode cX12_choose 105 = .ok (.iaload, 1) := by decide +kernel
theorem dX12_choose_106 : decode cX12_choose 106 = .ok (.ifCond .le 8, 3) := by decide +kernel
theorem dX12_choose_109 : decode cX12_choose 109 = .ok (.iload 6, 2) := by decide +kernel
theorem dX12_choose_111 : decode cX12_choose 111 = .ok (.goto 24, 3) := by decide +kernel
theorem dX12_choose_114 : decode cX12_choose 114 = .ok (.lload_n 2, 1) := by decide +kernel
theorem dX12_choose_115 : decode cX12_choose 115 = .ok (.iconst 2, 1) := by decide +kernel
theorem dX12_choose_116 : decode cX12_choose 116 = .ok (.aload_n 0, 1) := by decide +kernel
theorem dX12_choose_117 : decode cX12_choose 117 = .ok (.getfield 153, 3) := by decide +kernel
theorem dX12_choose_120 : decode cX12_choose 120 = .ok (.iload 5, 2) := by decide +kernel
theorem dX12_choose_122 : decode cX12_choose 122 = .ok (.iaload, 1) := by decide +kernel
theorem dX12_choose_123 : decode cX12_choose 123 = .ok (.invokestatic 650, 3) := by decide +kernel
theorem dX12_choose_126 : decode cX12_choose 126 = .ok (.lcmp, 1) := by decide +kernel
theorem dX12_choose_127 : decode cX12_choose 127 = .ok (.ifCond .ne 7, 3) := by decide +kernel
theorem dX12_choose_130 : decode cX12_choose 130 = .ok (.iconst 1, 1) := by decide +kernel
theorem dX12_choose_131 : decode cX12_choose 131 = .ok (.goto 4, 3) := by decide +kernel
theorem dX12_choose_134 : decode cX12_choose 134 = .ok (.iconst 0, 1) := by decide +kernel
theorem dX12_choose_135 : decode cX12_choose 135 = .ok (.istore 7, 2) := by decide +kernel
theorem dX12_choose_137 : decode cX12_choose 137 = .ok (.goto 37, 3) := by decide +kernel
theorem dX12_choose_140 : decode cX12_choose 140 = .ok (.aload_n 0, 1) := by decide +kernel
theorem dX12_choose_141 : decode cX12_choose 141 = .ok (.getfield 150, 3) := by decide +kernel
theorem dX12_choose_144 : decode cX12_choose 144 = .ok (.iload 5, 2) := by decide +kernel
theorem dX12_choose_146 : decode cX12_choose 146 = .ok (.iaload, 1) := by decide +kernel
theorem dX12_choose_147 : decode cX12_choose 147 = .ok (.iconst 1, 1) := by decide +kernel
theorem dX12_choose_148 : decode cX12_choose 148 = .ok (.if_icmp .ne 26, 3) := by decide +kernel
theorem dX12_choose_151 : decode cX12_choose 151 = .ok (.lload_n 2, 1) := by decide +kernel
theorem dX12_choose_152 : decode cX12_choose 152 = .ok (.iconst 0, 1) := by decide +kernel
theorem dX12_choose_153 : decode cX12_choose 153 = .ok (.aload_n 0, 1) := by decide +kernel
theorem dX12_choose_154 : decode cX12_choose 154 = .ok (.getfield 153, 3) := by decide +kernel
theorem dX12_choose_157 : decode cX12_choose 157 = .ok (.iload 5, 2) := by decide +kernel
theorem dX12_choose_159 : decode cX12_choose 159 = .ok (.iaload, 1) := by decide +kernel
theorem dX12_choose_160 : decode cX12_choose 160 = .ok (.invokestatic 650, 3) := by decide +kernel
theorem dX12_choose_163 : decode cX12_choose 163 = .ok (.lcmp, 1) := by decide +kernel
theorem dX12_choose_164 : decode cX12_choose 164 = .ok (.ifCond .ne 7, 3) := by decide +kernel
theorem dX12_choose_167 : decode cX12_choose 167 = .ok (.iconst 1, 1) := by decide +kernel
theorem dX12_choose_168 : decode cX12_choose 168 = .ok (.goto 4, 3) := by decide +kernel
theorem dX12_choose_171 : decode cX12_choose 171 = .ok (.iconst 0, 1) := by decide +kernel
theorem dX12_choose_172 : decode cX12_choose 172 = .ok (.istore 7, 2) := by decide +kernel
theorem dX12_choose_174 : decode cX12_choose 174 = .ok (.iload 7, 2) := by decide +kernel
theorem dX12_choose_176 : decode cX12_choose 176 = .ok (.ifCond .eq 73, 3) := by decide +kernel
theorem dX12_choose_179 : decode cX12_choose 179 = .ok (.iconst 0, 1) := by decide +kernel
theorem dX12_choose_180 : decode cX12_choose 180 = .ok (.istore 8, 2) := by decide +kernel
theorem dX12_choose_182 : decode cX12_choose 182 = .ok (.iload 8, 2) := by decide +kernel
theorem dX12_choose_184 : decode cX12_choose 184 = .ok (.aload_n 0, 1) := by decide +kernel
theorem dX12_choose_185 : decode cX12_choose 185 = .ok (.getfield 159, 3) := by decide +kernel
theorem dX12_choose_188 : decode cX12_choose 188 = .ok (.iload 5, 2) := by decide +kernel
theorem dX12_choose_190 : decode cX12_choose 190 = .ok (.iaload, 1) := by decide +kernel
theorem dX12_choose_191 : decode cX12_choose 191 = .ok (.if_icmp .ge 46, 3) := by decide +kernel
theorem dX12_choose_194 : decode cX12_choose 194 = .ok (.aload_n 0, 1) := by decide +kernel
theorem dX12_choose_195 : decode cX12_choose 195 = .ok (.getfield 233, 3) := by decide +kernel
theorem dX12_choose_198 : decode cX12_choose 198 = .ok (.aload_n 0, 1) := by decide +kernel
theorem dX12_choose_199 : decode cX12_choose 199 = .ok (.getfield 614, 3) := by decide +kernel
theorem dX12_choose_202 : decode cX12_choose 202 = .ok (.aload_n 0, 1) := by decide +kernel
theorem dX12_choose_203 : decode cX12_choose 203 = .ok (.getfield 156, 3) := by decide +kernel
theorem dX12_choose_206 : decode cX12_choose 206 = .ok (.iload 5, 2) := by decide +kernel
theorem dX12_choose_208 : decode cX12_choose 208 = .ok (.iaload, 1) := by decide +kernel
theorem dX12_choose_209 : decode cX12_choose 209 = .ok (.iadd, 1) := by decide +kernel
theorem dX12_choose_210 : decode cX12_choose 210 = .ok (.iload 8, 2) := by decide +kernel
theorem dX12_choose_212 : decode cX12_choose 212 = .ok (.iadd, 1) := by decide +kernel
theorem dX12_choose_213 : decode cX12_choose 213 = .ok (.aload_n 0, 1) := by decide +kernel
theorem dX12_choose_214 : decode cX12_choose 214 = .ok (.getfield 209, 3) := by decide +kernel
theorem dX12_choose_217 : decode cX12_choose 217 = .ok (.aload_n 0, 1) := by decide +kernel
theorem dX12_choose_218 : decode cX12_choose 218 = .ok (.getfield 203, 3) := by decide +kernel
theorem dX12_choose_221 : decode cX12_choose 221 = .ok (.lload_n 2, 1) := by decide +kernel
theorem dX12_choose_222 : decode cX12_choose 222 = .ok (.invokestatic 679, 3) := by decide +kernel
theorem dX12_choose_225 : decode cX12_choose 225 = .ok (.iaload, 1) := by decide +kernel
theorem dX12_choose_226 : decode cX12_choose 226 = .ok (.iload 8, 2) := by decide +kernel
theorem dX12_choose_228 : decode cX12_choose 228 = .ok (.iadd, 1) := by decide +kernel
theorem dX12_choose_229 : decode cX12_choose 229 = .ok (.laload, 1) := by decide +kernel
theorem dX12_choose_230 : decode cX12_choose 230 = .ok (.lastore, 1) := by decide +kernel
theorem dX12_choose_231 : decode cX12_choose 231 = .ok (.iinc 8 1, 3) := by decide +kernel
theorem dX12_choose_234 : decode cX12_choose 234 = .ok (.goto (-52), 3) := by decide +kernel
theorem dX12_choose_237 : decode cX12_choose 237 = .ok (.aload_n 0, 1) := by decide +kernel
theorem dX12_choose_238 : decode cX12_choose 238 = .ok (.aload_n 0, 1) := by decide +kernel
theorem dX12_choose_239 : decode cX12_choose 239 = .ok (.iload_n 1, 1) := by decide +kernel
theorem dX12_choose_240 : decode cX12_choose 240 = .ok (.iload 4, 2) := by decide +kernel
theorem dX12_choose_242 : decode cX12_choose 242 = .ok (.invokevirtual 545, 3) := by decide +kernel
theorem dX12_choose_245 : decode cX12_choose 245 = .ok (.invokevirtual 697, 3) := by decide +kernel
theorem dX12_choose_248 : decode cX12_choose 248 = .ok (.return_, 1) := by decide +kernel
theorem dX12_choose_249 : decode cX12_choose 249 = .ok (.iinc 4 1, 3) := by decide +kernel
theorem dX12_choose_252 : decode cX12_choose 252 = .ok (.goto (-249), 3) := by decide +kernel
theorem dX12_choose_255 : decode cX12_choose 255 = .ok (.aload_n 0, 1) := by decide +kernel
theorem dX12_choose_256 : decode cX12_choose 256 = .ok (.iconst 2, 1) := by decide +kernel
theorem dX12_choose_257 : decode cX12_choose 257 = .ok (.iconst 1, 1) := by decide +kernel
theorem dX12_choose_258 : decode cX12_choose 258 = .ok (.invokevirtual 629, 3) := by decide +kernel
theorem dX12_choose_261 : decode cX12_choose 261 = .ok (.return_, 1) := by decide +kernel
theorem dX12_push_0 : decode cX12_push 0 = .ok (.aload_n 0, 1) := by decide +kernel
theorem dX12_push_1 : decode cX12_push 1 = .ok (.getfield 229, 3) := by decide +kernel
theorem dX12_push_4 : decode cX12_push 4 = .ok (.aload_n 0, 1) := by decide +kernel
theorem dX12_push_5 : decode cX12_push 5 = .ok (.getfield 724, 3) := by decide +kernel
theorem dX12_push_8 : decode cX12_push 8 = .ok (.lload_n 1, 1) := by decide +kernel
theorem dX12_push_9 : decode cX12_push 9 = .ok (.lastore, 1) := by decide +kernel
theorem dX12_push_10 : decode cX12_push 10 = .ok (.aload_n 0, 1) := by decide +kernel
theorem dX12_push_11 : decode cX12_push 11 = .ok (.dup, 1) := by decide +kernel
theorem dX12_push_12 : decode cX12_push 12 = .ok (.getfield 724, 3) := by decide +kernel
theorem dX12_push_15 : decode cX12_push 15 = .ok (.iconst 1, 1) := by decide +kernel
theorem dX12_push_16 : decode cX12_push 16 = .ok (.iadd, 1) := by decide +kernel
theorem dX12_push_17 : decode cX12_push 17 = .ok (.putfield 724, 3) := by decide +kernel
theorem dX12_push_20 : decode cX12_push 20 = .ok (.return_, 1) := by decide +kernel
theorem dX12_reckon_0 : decode cX12_reckon 0 = .ok (.lload_n 2, 1) := by decide +kernel
theorem dX12_reckon_1 : decode cX12_reckon 1 = .ok (.invokestatic 688, 3) := by decide +kernel
theorem dX12_reckon_4 : decode cX12_reckon 4 = .ok (.ifCond .ne 11, 3) := by decide +kernel
theorem dX12_reckon_7 : decode cX12_reckon 7 = .ok (.lload 4, 2) := by decide +kernel
theorem dX12_reckon_9 : decode cX12_reckon 9 = .ok (.invokestatic 688, 3) := by decide +kernel
theorem dX12_reckon_12 : decode cX12_reckon 12 = .ok (.ifCond .eq 10, 3) := by decide +kernel
theorem dX12_reckon_15 : decode cX12_reckon 15 = .ok (.aload_n 0, 1) := by decide +kernel
theorem dX12_reckon_16 : decode cX12_reckon 16 = .ok (.iconst 2, 1) := by decide +kernel
theorem dX12_reckon_17 : decode cX12_reckon 17 = .ok (.iconst 4, 1) := by decide +kernel
theorem dX12_reckon_18 : decode cX12_reckon 18 = .ok (.invokevirtual 629, 3) := by decide +kernel
theorem dX12_reckon_21 : decode cX12_reckon 21 = .ok (.return_, 1) := by decide +kernel
theorem dX12_reckon_22 : decode cX12_reckon 22 = .ok (.lload_n 2, 1) := by decide +kernel
theorem dX12_reckon_23 : decode cX12_reckon 23 = .ok (.invokestatic 679, 3) := by decide +kernel
theorem dX12_reckon_26 : decode cX12_reckon 26 = .ok (.istore 6, 2) := by decide +kernel
theorem dX12_reckon_28 : decode cX12_reckon 28 = .ok (.lload 4, 2) := by decide +kernel
theorem dX12_reckon_30 : decode cX12_reckon 30 = .ok (.invokestatic 679, 3) := by decide +kernel
theorem dX12_reckon_33 : decode cX12_reckon 33 = .ok (.istore 7, 2) := by decide +kernel
theorem dX12_reckon_35 : decode cX12_reckon 35 = .ok (.iload_n 1, 1) := by decide +kernel
theorem dX12_reckon_36 : decode cX12_reckon 36 = .ok (.lookupswitch 237 #[(21, 191), (22, 214), (137, 116), (142, 100), (143, 68), (145, 84), (147, 116)], 68) := by decide +kernel
theorem dX12_reckon_104 : decode cX12_reckon 104 = .ok (.aload_n 0, 1) := by decide +kernel
theorem dX12_reckon_105 : decode cX12_reckon 105 = .ok (.iconst 0, 1) := by decide +kernel
theorem dX12_reckon_106 : decode cX12_reckon 106 = .ok (.iload 6, 2) := by decide +kernel
theorem dX12_reckon_108 : decode cX12_reckon 108 = .ok (.iload 7, 2) := by decide +kernel
theorem dX12_reckon_110 : decode cX12_reckon 110 = .ok (.iadd, 1) := by decide +kernel
theorem dX12_reckon_111 : decode cX12_reckon 111 = .ok (.invokestatic 650, 3) := by decide +kernel
theorem dX12_reckon_114 : decode cX12_reckon 114 = .ok (.invokevirtual 691, 3) := by decide +kernel
theorem dX12_reckon_117 : decode cX12_reckon 117 = .ok (.goto 176, 3) := by decide +kernel
theorem dX12_reckon_120 : decode cX12_reckon 120 = .ok (.aload_n 0, 1) := by decide +kernel
theorem dX12_reckon_121 : decode cX12_reckon 121 = .ok (.iconst 0, 1) := by decide +kernel
theorem dX12_reckon_122 : decode cX12_reckon 122 = .ok (.iload 6, 2) := by decide +kernel
theorem dX12_reckon_124 : decode cX12_reckon 124 = .ok (.iload 7, 2) := by decide +kernel
theorem dX12_reckon_126 : decode cX12_reckon 126 = .ok (.isub, 1) := by decide +kernel
theorem dX12_reckon_127 : decode cX12_reckon 127 = .ok (.invokestatic 650, 3) := by decide +kernel
theorem dX12_reckon_130 : decode cX12_reckon 130 = .ok (.invokevirtual 691, 3) := by decide +kernel
theorem dX12_reckon_133 : decode cX12_reckon 133 = .ok (.goto 160, 3) := by decide +kernel
theorem dX12_reckon_136 : decode cX12_reckon 136 = .ok (.aload_n 0, 1) := by decide +kernel
theorem dX12_reckon_137 : decode cX12_reckon 137 = .ok (.iconst 0, 1) := by decide +kernel
theorem dX12_reckon_138 : decode cX12_reckon 138 = .ok (.iload 6, 2) := by decide +kernel
theorem dX12_reckon_140 : decode cX12_reckon 140 = .ok (.iload 7, 2) := by decide +kernel
theorem dX12_reckon_142 : decode cX12_reckon 142 = .ok (.imul, 1) := by decide +kernel
theorem dX12_reckon_143 : decode cX12_reckon 143 = .ok (.invokestatic 650, 3) := by decide +kernel
theorem dX12_reckon_146 : decode cX12_reckon 146 = .ok (.invokevirtual 691, 3) := by decide +kernel
theorem dX12_reckon_149 : decode cX12_reckon 149 = .ok (.goto 144, 3) := by decide +kernel
theorem dX12_reckon_152 : decode cX12_reckon 152 = .ok (.iload 7, 2) := by decide +kernel
theorem dX12_reckon_154 : decode cX12_reckon 154 = .ok (.ifCond .ne 12, 3) := by decide +kernel
theorem dX12_reckon_157 : decode cX12_reckon 157 = .ok (.aload_n 0, 1) := by decide +kernel
theorem dX12_reckon_158 : decode cX12_reckon 158 = .ok (.iconst 2, 1) := by decide +kernel
theorem dX12_reckon_159 : decode cX12_reckon 159 = .ok (.iconst 2, 1) := by decide +kernel
theorem dX12_reckon_160 : decode cX12_reckon 160 = .ok (.invokevirtual 629, 3) := by decide +kernel
theorem dX12_reckon_163 : decode cX12_reckon 163 = .ok (.goto 130, 3) := by decide +kernel
theorem dX12_reckon_166 : decode cX12_reckon 166 = .ok (.iload_n 1, 1) := by decide +kernel
theorem dX12_reckon_167 : decode cX12_reckon 167 = .ok (.sipush 147, 3) := by decide +kernel
theorem dX12_reckon_170 : decode cX12_reckon 170 = .ok (.if_icmp .ne 31, 3) := by decide +kernel
theorem dX12_reckon_173 : decode cX12_reckon 173 = .ok (.aload_n 0, 1) := by decide +kernel
theorem dX12_reckon_174 : decode cX12_reckon 174 = .ok (.iconst 0, 1) := by decide +kernel
theorem dX12_reckon_175 : decode cX12_reckon 175 = .ok (.iload 7, 2) := by decide +kernel
theorem dX12_reckon_177 : decode cX12_reckon 177 = .ok (.iconst (-1), 1) := by decide +kernel
theorem dX12_reckon_178 : decode cX12_reckon 178 = .ok (.if_icmp .ne 9, 3) := by decide +kernel
theorem dX12_reckon_181 : decode cX12_reckon 181 = .ok (.iload 6, 2) := by decide +kernel
theorem dX12_reckon_183 : decode cX12_reckon 183 = .ok (.ineg, 1) := by decide +kernel
theorem dX12_reckon_184 : decode cX12_reckon 184 = .ok (.goto 8, 3) := by decide +kernel
theorem dX12_reckon_187 : decode cX12_reckon 187 = .ok (.iload 6, 2) := by decide +kernel
theorem dX12_reckon_189 : decode cX12_reckon 189 = .ok (.iload 7, 2) := by decide +kernel
theorem dX12_reckon_191 : decode cX12_reckon 191 = .ok (.idiv, 1) := by decide +kernel
theorem dX12_reckon_192 : decode cX12_reckon 192 = .ok (.invokestatic 650, 3) := by decide +kernel
theorem dX12_reckon_195 : decode cX12_reckon 195 = .ok (.invokevirtual 691, 3) := by decide +kernel
theorem dX12_reckon_198 : decode cX12_reckon 198 = .ok (.goto 95, 3) := by decide +kernel
theorem dX12_reckon_201 : decode cX12_reckon 201 = .ok (.aload_n 0, 1) := by decide +kernel
theorem dX12_reckon_202 : decode cX12_reckon 202 = .ok (.iconst 0, 1) := by decide +kernel
theorem dX12_reckon_203 : decode cX12_reckon 203 = .ok (.iload 7, 2) := by decide +kernel
theorem dX12_reckon_205 : decode cX12_reckon 205 = .ok (.iconst (-1), 1) := by decide +kernel
theorem dX12_reckon_206 : decode cX12_reckon 206 = .ok (.if_icmp .ne 7, 3) := by decide +kernel
theorem dX12_reckon_209 : decode cX12_reckon 209 = .ok (.iconst 0, 1) := by decide +kernel
theorem dX12_reckon_210 : decode cX12_reckon 210 = .ok (.goto 8, 3) := by decide +kernel
theorem dX12_reckon_213 : decode cX12_reckon 213 = .ok (.iload 6, 2) := by decide +kernel
theorem dX12_reckon_215 : decode cX12_reckon 215 = .ok (.iload 7, 2) := by decide +kernel
theorem dX12_reckon_217 : decode cX12_reckon 217 = .ok (.irem, 1) := by decide +kernel
theorem dX12_reckon_218 : decode cX12_reckon 218 = .ok (.invokestatic 650, 3) := by decide +kernel
theorem dX12_reckon_221 : decode cX12_reckon 221 = .ok (.invokevirtual 691, 3) := by decide +kernel
theorem dX12_reckon_224 : decode cX12_reckon 224 = .ok (.goto 69, 3) := by decide +kernel
theorem dX12_reckon_227 : decode cX12_reckon 227 = .ok (.aload_n 0, 1) := by decide +kernel
theorem dX12_reckon_228 : decode cX12_reckon 228 = .ok (.iconst 2, 1) := by decide +kernel
theorem dX12_reckon_229 : decode cX12_reckon 229 = .ok (.iload 6, 2) := by decide +kernel
theorem dX12_reckon_231 : decode cX12_reckon 231 = .ok (.iload 7, 2) := by decide +kernel
theorem dX12_reckon_233 : decode cX12_reckon 233 = .ok (.if_icmp .ne 7, 3) := by decide +kernel
theorem dX12_reckon_236 : decode cX12_reckon 236 = .ok (.iconst 1, 1) := by decide +kernel
theorem dX12_reckon_237 : decode cX12_reckon 237 = .ok (.goto 4, 3) := by decide +kernel
theorem dX12_reckon_240 : decode cX12_reckon 240 = .ok (.iconst 0, 1) := by decide +kernel
theorem dX12_reckon_241 : decode cX12_reckon 241 = .ok (.invokestatic 650, 3) := by decide +kernel
theorem dX12_reckon_244 : decode cX12_reckon 244 = .ok (.invokevirtual 691, 3) := by decide +kernel
theorem dX12_reckon_247 : decode cX12_reckon 247 = .ok (.goto 46, 3) := by decide +kernel
theorem dX12_reckon_250 : decode cX12_reckon 250 = .ok (.aload_n 0, 1) := by decide +kernel
theorem dX12_reckon_251 : decode cX12_reckon 251 = .ok (.iconst 2, 1) := by decide +kernel
theorem dX12_reckon_252 : decode cX12_reckon 252 = .ok (.iload 6, 2) := by decide +kernel
theorem dX12_reckon_254 : decode cX12_reckon 254 = .ok (.iload 7, 2) := by decide +kernel
theorem dX12_reckon_256 : decode cX12_reckon 256 = .ok (.if_icmp .gt 7, 3) := by decide +kernel
theorem dX12_reckon_259 : decode cX12_reckon 259 = .ok (.iconst 1, 1) := by decide +kernel
theorem dX12_reckon_260 : decode cX12_reckon 260 = .ok (.goto 4, 3) := by decide +kernel
theorem dX12_reckon_263 : decode cX12_reckon 263 = .ok (.iconst 0, 1) := by decide +kernel
theorem dX12_reckon_264 : decode cX12_reckon 264 = .ok (.invokestatic 650, 3) := by decide +kernel
theorem dX12_reckon_267 : decode cX12_reckon 267 = .ok (.invokevirtual 691, 3) := by decide +kernel
theorem dX12_reckon_270 : decode cX12_reckon 270 = .ok (.goto 23, 3) := by decide +kernel
theorem dX12_reckon_273 : decode cX12_reckon 273 = .ok (.aload_n 0, 1) := by decide +kernel
theorem dX12_reckon_274 : decode cX12_reckon 274 = .ok (.iconst 2, 1) := by decide +kernel
theorem dX12_reckon_275 : decode cX12_reckon 275 = .ok (.iload 6, 2) := by decide +kernel
theorem dX12_reckon_277 : decode cX12_reckon 277 = .ok (.iload 7, 2) := by decide +kernel
theorem dX12_reckon_279 : decode cX12_reckon 279 = .ok (.if_icmp .ge 7, 3) := by decide +kernel
theorem dX12_reckon_282 : decode cX12_reckon 282 = .ok (.iconst 1, 1) := by decide +kernel
theorem dX12_reckon_283 : decode cX12_reckon 283 = .ok (.goto 4, 3) := by decide +kernel
theorem dX12_reckon_286 : decode cX12_reckon 286 = .ok (.iconst 0, 1) := by decide +kernel
theorem dX12_reckon_287 : decode cX12_reckon 287 = .ok (.invokestatic 650, 3) := by decide +kernel
theorem dX12_reckon_290 : decode cX12_reckon 290 = .ok (.invokevirtual 691, 3) := by decide +kernel
theorem dX12_reckon_293 : decode cX12_reckon 293 = .ok (.return_, 1) := by decide +kernel
theorem dX12_workApplication_0 : decode cX12_workApplication 0 = .ok (.aload_n 0, 1) := by decide +kernel
theorem dX12_workApplication_1 : decode cX12_workApplication 1 = .ok (.iload_n 1, 1) := by decide +kernel
theorem dX12_workApplication_2 : decode cX12_workApplication 2 = .ok (.iconst 0, 1) := by decide +kernel
theorem dX12_workApplication_3 : decode cX12_workApplication 3 = .ok (.invokevirtual 545, 3) := by decide +kernel
theorem dX12_workApplication_6 : decode cX12_workApplication 6 = .ok (.istore_n 2, 1) := by decide +kernel
theorem dX12_workApplication_7 : decode cX12_workApplication 7 = .ok (.aload_n 0, 1) := by decide +kernel
theorem dX12_workApplication_8 : decode cX12_workApplication 8 = .ok (.getfield 128, 3) := by decide +kernel
theorem dX12_workApplication_11 : decode cX12_workApplication 11 = .ok (.iload_n 1, 1) := by decide +kernel
theorem dX12_workApplication_12 : decode cX12_workApplication 12 = .ok (.iaload, 1) := by decide +kernel
theorem dX12_workApplication_13 : decode cX12_workApplication 13 = .ok (.iconst 1, 1) := by decide +kernel
theorem dX12_workApplication_14 : decode cX12_workApplication 14 = .ok (.isub, 1) := by decide +kernel
theorem dX12_workApplication_15 : decode cX12_workApplication 15 = .ok (.istore_n 3, 1) := by decide +kernel
theorem dX12_workApplication_16 : decode cX12_workApplication 16 = .ok (.aload_n 0, 1) := by decide +kernel
theorem dX12_workApplication_17 : decode cX12_workApplication 17 = .ok (.getfield 119, 3) := by decide +kernel
theorem dX12_workApplication_20 : decode cX12_workApplication 20 = .ok (.iload_n 2, 1) := by decide +kernel
theorem dX12_workApplication_21 : decode cX12_workApplication 21 = .ok (.iaload, 1) := by decide +kernel
theorem dX12_workApplication_22 : decode cX12_workApplication 22 = .ok (.bipush 12, 2) := by decide +kernel
theorem dX12_workApplication_24 : decode cX12_workApplication 24 = .ok (.if_icmp .ne 17, 3) := by decide +kernel
theorem dX12_workApplication_27 : decode cX12_workApplication 27 = .ok (.aload_n 0, 1) := by decide +kernel
theorem dX12_workApplication_28 : decode cX12_workApplication 28 = .ok (.getfield 171, 3) := by decide +kernel
theorem dX12_workApplication_31 : decode cX12_workApplication 31 = .ok (.aload_n 0, 1) := by decide +kernel
theorem dX12_workApplication_32 : decode cX12_workApplication 32 = .ok (.getfield 122, 3) := by decide +kernel
theorem dX12_workApplication_35 : decode cX12_workApplication 35 = .ok (.iload_n 2, 1) := by decide +kernel
theorem dX12_workApplication_36 : decode cX12_workApplication 36 = .ok (.iaload, 1) := by decide +kernel
theorem dX12_workApplication_37 : decode cX12_workApplication 37 = .ok (.iaload, 1) := by decide +kernel
theorem dX12_workApplication_38 : decode cX12_workApplication 38 = .ok (.goto 4, 3) := by decide +kernel
theorem dX12_workApplication_41 : decode cX12_workApplication 41 = .ok (.iconst 0, 1) := by decide +kernel
theorem dX12_workApplication_42 : decode cX12_workApplication 42 = .ok (.istore 4, 2) := by decide +kernel
theorem dX12_workApplication_44 : decode cX12_workApplication 44 = .ok (.aload_n 0, 1) := by decide +kernel
theorem dX12_workApplication_45 : decode cX12_workApplication 45 = .ok (.iload_n 1, 1) := by decide +kernel
theorem dX12_workApplication_46 : decode cX12_workApplication 46 = .ok (.invokevirtual 657, 3) := by decide +kernel
theorem dX12_workApplication_49 : decode cX12_workApplication 49 = .ok (.ifCond .eq 15, 3) := by decide +kernel
theorem dX12_workApplication_52 : decode cX12_workApplication 52 = .ok (.aload_n 0, 1) := by decide +kernel
theorem dX12_workApplication_53 : decode cX12_workApplication 53 = .ok (.aload_n 0, 1) := by decide +kernel
theorem dX12_workApplication_54 : decode cX12_workApplication 54 = .ok (.iload_n 1, 1) := by decide +kernel
theorem dX12_workApplication_55 : decode cX12_workApplication 55 = .ok (.invokevirtual 703, 3) := by decide +kernel
theorem dX12_workApplication_58 : decode cX12_workApplication 58 = .ok (.invokevirtual 691, 3) := by decide +kernel
theorem dX12_workApplication_61 : decode cX12_workApplication 61 = .ok (.goto 69, 3) := by decide +kernel
theorem dX12_workApplication_64 : decode cX12_workApplication 64 = .ok (.iload 4, 2) := by decide +kernel
theorem dX12_workApplication_66 : decode cX12_workApplication 66 = .ok (.ifCond .le 12, 3) := by decide +kernel
theorem dX12_workApplication_69 : decode cX12_workApplication 69 = .ok (.aload_n 0, 1) := by decide +kernel
theorem dX12_workApplication_70 : decode cX12_workApplication 70 = .ok (.iload_n 1, 1) := by decide +kernel
theorem dX12_workApplication_71 : decode cX12_workApplication 71 = .ok (.iconst 0, 1) := by decide +kernel
theorem dX12_workApplication_72 : decode cX12_workApplication 72 = .ok (.invokevirtual 718, 3) := by decide +kernel
theorem dX12_workApplication_75 : decode cX12_workApplication 75 = .ok (.goto 55, 3) := by decide +kernel
theorem dX12_workApplication_78 : decode cX12_workApplication 78 = .ok (.iconst 0, 1) := by decide +kernel
theorem dX12_workApplication_79 : decode cX12_workApplication 79 = .ok (.istore 5, 2) := by decide +kernel
theorem dX12_workApplication_81 : decode cX12_workApplication 81 = .ok (.iload 5, 2) := by decide +kernel
theorem dX12_workApplication_83 : decode cX12_workApplication 83 = .ok (.iload_n 3, 1) := by decide +kernel
theorem dX12_workApplication_84 : decode cX12_workApplication 84 = .ok (.if_icmp .ge 33, 3) := by decide +kernel
theorem dX12_workApplication_87 : decode cX12_workApplication 87 = .ok (.aload_n 0, 1) := by decide +kernel
theorem dX12_workApplication_88 : decode cX12_workApplication 88 = .ok (.getfield 605, 3) := by decide +kernel
theorem dX12_workApplication_91 : decode cX12_workApplication 91 = .ok (.ifCond .ne 26, 3) := by decide +kernel
theorem dX12_workApplication_94 : decode cX12_workApplication 94 = .ok (.aload_n 0, 1) := by decide +kernel
theorem dX12_workApplication_95 : decode cX12_workApplication 95 = .ok (.aload_n 0, 1) := by decide +kernel
theorem dX12_workApplication_96 : decode cX12_workApplication 96 = .ok (.aload_n 0, 1) := by decide +kernel
theorem dX12_workApplication_97 : decode cX12_workApplication 97 = .ok (.iload_n 1, 1) := by decide +kernel
theorem dX12_workApplication_98 : decode cX12_workApplication 98 = .ok (.iconst 1, 1) := by decide +kernel
theorem dX12_workApplication_99 : decode cX12_workApplication 99 = .ok (.iload 5, 2) := by decide +kernel
theorem dX12_workApplication_101 : decode cX12_workApplication 101 = .ok (.iadd, 1) := by decide +kernel
theorem dX12_workApplication_102 : decode cX12_workApplication 102 = .ok (.invokevirtual 545, 3) := by decide +kernel
theorem dX12_workApplication_105 : decode cX12_workApplication 105 = .ok (.invokevirtual 703, 3) := by decide +kernel
theorem dX12_workApplication_108 : decode cX12_workApplication 108 = .ok (.invokevirtual 721, 3) := by decide +kernel
theorem dX12_workApplication_111 : decode cX12_workApplication 111 = .ok (.iinc 5 1, 3) := by decide +kernel
theorem dX12_workApplication_114 : decode cX12_workApplication 114 = .ok (.goto (-33), 3) := by decide +kernel
theorem dX12_workApplication_117 : decode cX12_workApplication 117 = .ok (.aload_n 0, 1) := by decide +kernel
theorem dX12_workApplication_118 : decode cX12_workApplication 118 = .ok (.bipush 7, 2) := by decide +kernel
theorem dX12_workApplication_120 : decode cX12_workApplication 120 = .ok (.iconst 0, 1) := by decide +kernel
theorem dX12_workApplication_121 : decode cX12_workApplication 121 = .ok (.iload_n 3, 1) := by decide +kernel
theorem dX12_workApplication_122 : decode cX12_workApplication 122 = .ok (.invokevirtual 685, 3) := by decide +kernel
theorem dX12_workApplication_125 : decode cX12_workApplication 125 = .ok (.aload_n 0, 1) := by decide +kernel
theorem dX12_workApplication_126 : decode cX12_workApplication 126 = .ok (.iload_n 2, 1) := by decide +kernel
theorem dX12_workApplication_127 : decode cX12_workApplication 127 = .ok (.invokevirtual 697, 3) := by decide +kernel
theorem dX12_workApplication_130 : decode cX12_workApplication 130 = .ok (.return_, 1) := by decide +kernel
theorem dX12_workPart_0 : decode cX12_workPart 0 = .ok (.aload_n 0, 1) := by decide +kernel
theorem dX12_workPart_1 : decode cX12_workPart 1 = .ok (.getfield 617, 3) := by decide +kernel
theorem dX12_workPart_4 : decode cX12_workPart 4 = .ok (.istore_n 1, 1) := by decide +kernel
theorem dX12_workPart_5 : decode cX12_workPart 5 = .ok (.aload_n 0, 1) := by decide +kernel
theorem dX12_workPart_6 : decode cX12_workPart 6 = .ok (.getfield 119, 3) := by decide +kernel
theorem dX12_workPart_9 : decode cX12_workPart 9 = .ok (.iload_n 1, 1) := by decide +kernel
theorem dX12_workPart_10 : decode cX12_workPart 10 = .ok (.iaload, 1) := by decide +kernel
theorem dX12_workPart_11 : decode cX12_workPart 11 = .ok (.tableswitch 234 0 13 #[165, 234, 234, 145, 234, 125, 234, 113, 234, 92, 92, 104, 92, 69], 69) := by decide +kernel
theorem dX12_workPart_80 : decode cX12_workPart 80 = .ok (.aload_n 0, 1) := by decide +kernel
theorem dX12_workPart_81 : decode cX12_workPart 81 = .ok (.aload_n 0, 1) := by decide +kernel
theorem dX12_workPart_82 : decode cX12_workPart 82 = .ok (.getfield 233, 3) := by decide +kernel
theorem dX12_workPart_85 : decode cX12_workPart 85 = .ok (.aload_n 0, 1) := by decide +kernel
theorem dX12_workPart_86 : decode cX12_workPart 86 = .ok (.getfield 614, 3) := by decide +kernel
theorem dX12_workPart_89 : decode cX12_workPart 89 = .ok (.aload_n 0, 1) := by decide +kernel
theorem dX12_workPart_90 : decode cX12_workPart 90 = .ok (.getfield 122, 3) := by decide +kernel
theorem dX12_workPart_93 : decode cX12_workPart 93 = .ok (.iload_n 1, 1) := by decide +kernel
theorem dX12_workPart_94 : decode cX12_workPart 94 = .ok (.iaload, 1) := by decide +kernel
theorem dX12_workPart_95 : decode cX12_workPart 95 = .ok (.iadd, 1) := by decide +kernel
theorem dX12_workPart_96 : decode cX12_workPart 96 = .ok (.laload, 1) := by decide +kernel
theorem dX12_workPart_97 : decode cX12_workPart 97 = .ok (.invokevirtual 700, 3) := by decide +kernel
theorem dX12_workPart_100 : decode cX12_workPart 100 = .ok (.goto 150, 3) := by decide +kernel
theorem dX12_workPart_103 : decode cX12_workPart 103 = .ok (.aload_n 0, 1) := by decide +kernel
theorem dX12_workPart_104 : decode cX12_workPart 104 = .ok (.aload_n 0, 1) := by decide +kernel
theorem dX12_workPart_105 : decode cX12_workPart 105 = .ok (.iload_n 1, 1) := by decide +kernel
theorem dX12_workPart_106 : decode cX12_workPart 106 = .ok (.invokevirtual 666, 3) := by decide +kernel
theorem dX12_workPart_109 : decode cX12_workPart 109 = .ok (.invokevirtual 700, 3) := by decide +kernel
theorem dX12_workPart_112 : decode cX12_workPart 112 = .ok (.goto 138, 3) := by decide +kernel
theorem dX12_workPart_115 : decode cX12_workPart 115 = .ok (.aload_n 0, 1) := by decide +kernel
theorem dX12_workPart_116 : decode cX12_workPart 116 = .ok (.iconst 2, 1) := by decide +kernel
theorem dX12_workPart_117 : decode cX12_workPart 117 = .ok (.iconst 5, 1) := by decide +kernel
theorem dX12_workPart_118 : decode cX12_workPart 118 = .ok (.invokevirtual 629, 3) := by decide +kernel
theorem dX12_workPart_121 : decode cX12_workPart 121 = .ok (.goto 129, 3) := by decide +kernel
theorem dX12_workPart_124 : decode cX12_workPart 124 = .ok (.aload_n 0, 1) := by decide +kernel
theorem dX12_workPart_125 : decode cX12_workPart 125 = .ok (.aload_n 0, 1) := by decide +kernel
theorem dX12_workPart_126 : decode cX12_workPart 126 = .ok (.iload_n 1, 1) := by decide +kernel
theorem dX12_workPart_127 : decode cX12_workPart 127 = .ok (.invokevirtual 703, 3) := by decide +kernel
theorem dX12_workPart_130 : decode cX12_workPart 130 = .ok (.invokevirtual 691, 3) := by decide +kernel
theorem dX12_workPart_133 : decode cX12_workPart 133 = .ok (.goto 117, 3) := by decide +kernel
theorem dX12_workPart_136 : decode cX12_workPart 136 = .ok (.aload_n 0, 1) := by decide +kernel
theorem dX12_workPart_137 : decode cX12_workPart 137 = .ok (.iconst 2, 1) := by decide +kernel
theorem dX12_workPart_138 : decode cX12_workPart 138 = .ok (.iload_n 1, 1) := by decide +kernel
theorem dX12_workPart_139 : decode cX12_workPart 139 = .ok (.iconst 0, 1) := by decide +kernel
theorem dX12_workPart_140 : decode cX12_workPart 140 = .ok (.invokevirtual 685, 3) := by decide +kernel
theorem dX12_workPart_143 : decode cX12_workPart 143 = .ok (.aload_n 0, 1) := by decide +kernel
theorem dX12_workPart_144 : decode cX12_workPart 144 = .ok (.aload_n 0, 1) := by decide +kernel
theorem dX12_workPart_145 : decode cX12_workPart 145 = .ok (.iload_n 1, 1) := by decide +kernel
theorem dX12_workPart_146 : decode cX12_workPart 146 = .ok (.iconst 0, 1) := by decide +kernel
theorem dX12_workPart_147 : decode cX12_workPart 147 = .ok (.invokevirtual 545, 3) := by decide +kernel
theorem dX12_workPart_150 : decode cX12_workPart 150 = .ok (.invokevirtual 697, 3) := by decide +kernel
theorem dX12_workPart_153 : decode cX12_workPart 153 = .ok (.goto 97, 3) := by decide +kernel
theorem dX12_workPart_156 : decode cX12_workPart 156 = .ok (.aload_n 0, 1) := by decide +kernel
theorem dX12_workPart_157 : decode cX12_workPart 157 = .ok (.iconst 4, 1) := by decide +kernel
theorem dX12_workPart_158 : decode cX12_workPart 158 = .ok (.iload_n 1, 1) := by decide +kernel
theorem dX12_workPart_159 : decode cX12_workPart 159 = .ok (.iconst 0, 1) := by decide +kernel
theorem dX12_workPart_160 : decode cX12_workPart 160 = .ok (.invokevirtual 685, 3) := by decide +kernel
theorem dX12_workPart_163 : decode cX12_workPart 163 = .ok (.aload_n 0, 1) := by decide +kernel
theorem dX12_workPart_164 : decode cX12_workPart 164 = .ok (.aload_n 0, 1) := by decide +kernel
theorem dX12_workPart_165 : decode cX12_workPart 165 = .ok (.iload_n 1, 1) := by decide +kernel
theorem dX12_workPart_166 : decode cX12_workPart 166 = .ok (.iconst 0, 1) := by decide +kernel
theorem dX12_workPart_167 : decode cX12_workPart 167 = .ok (.invokevirtual 545, 3) := by decide +kernel
theorem dX12_workPart_170 : decode cX12_workPart 170 = .ok (.invokevirtual 697, 3) := by decide +kernel
theorem dX12_workPart_173 : decode cX12_workPart 173 = .ok (.goto 77, 3) := by decide +kernel
theorem dX12_workPart_176 : decode cX12_workPart 176 = .ok (.aload_n 0, 1) := by decide +kernel
theorem dX12_workPart_177 : decode cX12_workPart 177 = .ok (.getfield 706, 3) := by decide +kernel
theorem dX12_workPart_180 : decode cX12_workPart 180 = .ok (.ifCond .eq 42, 3) := by decide +kernel
theorem dX12_workPart_183 : decode cX12_workPart 183 = .ok (.aload_n 0, 1) := by decide +kernel
theorem dX12_workPart_184 : decode cX12_workPart 184 = .ok (.getfield 134, 3) := by decide +kernel
theorem dX12_workPart_187 : decode cX12_workPart 187 = .ok (.iload_n 1, 1) := by decide +kernel
theorem dX12_workPart_188 : decode cX12_workPart 188 = .ok (.baload, 1) := by decide +kernel
theorem dX12_workPart_189 : decode cX12_workPart 189 = .ok (.ifCond .eq 33, 3) := by decide +kernel
theorem dX12_workPart_192 : decode cX12_workPart 192 = .ok (.aload_n 0, 1) := by decide +kernel
theorem dX12_workPart_193 : decode cX12_workPart 193 = .ok (.dup, 1) := by decide +kernel
theorem dX12_workPart_194 : decode cX12_workPart 194 = .ok (.getfield 709, 3) := by decide +kernel
theorem dX12_workPart_197 : decode cX12_workPart 197 = .ok (.iconst 1, 1) := by decide +kernel
theorem dX12_workPart_198 : decode cX12_workPart 198 = .ok (.iadd, 1) := by decide +kernel
theorem dX12_workPart_199 : decode cX12_workPart 199 = .ok (.putfield 709, 3) := by decide +kernel
theorem dX12_workPart_202 : decode cX12_workPart 202 = .ok (.aload_n 0, 1) := by decide +kernel
theorem dX12_workPart_203 : decode cX12_workPart 203 = .ok (.iconst 5, 1) := by decide +kernel
theorem dX12_workPart_204 : decode cX12_workPart 204 = .ok (.iload_n 1, 1) := by decide +kernel
theorem dX12_workPart_205 : decode cX12_workPart 205 = .ok (.iconst 0, 1) := by decide +kernel
theorem dX12_workPart_206 : decode cX12_workPart 206 = .ok (.invokevirtual 685, 3) := by decide +kernel
theorem dX12_workPart_209 : decode cX12_workPart 209 = .ok (.aload_n 0, 1) := by decide +kernel
theorem dX12_workPart_210 : decode cX12_workPart 210 = .ok (.aload_n 0, 1) := by decide +kernel
theorem dX12_workPart_211 : decode cX12_workPart 211 = .ok (.iload_n 1, 1) := by decide +kernel
theorem dX12_workPart_212 : decode cX12_workPart 212 = .ok (.iconst 0, 1) := by decide +kernel
theorem dX12_workPart_213 : decode cX12_workPart 213 = .ok (.invokevirtual 545, 3) := by decide +kernel
theorem dX12_workPart_216 : decode cX12_workPart 216 = .ok (.invokevirtual 697, 3) := by decide +kernel
theorem dX12_workPart_219 : decode cX12_workPart 219 = .ok (.goto 31, 3) := by decide +kernel
theorem dX12_workPart_222 : decode cX12_workPart 222 = .ok (.aload_n 0, 1) := by decide +kernel
theorem dX12_workPart_223 : decode cX12_workPart 223 = .ok (.iload_n 1, 1) := by decide +kernel
theorem dX12_workPart_224 : decode cX12_workPart 224 = .ok (.invokevirtual 712, 3) := by decide +kernel
theorem dX12_workPart_227 : decode cX12_workPart 227 = .ok (.aload_n 0, 1) := by decide +kernel
theorem dX12_workPart_228 : decode cX12_workPart 228 = .ok (.aload_n 0, 1) := by decide +kernel
theorem dX12_workPart_229 : decode cX12_workPart 229 = .ok (.iload_n 1, 1) := by decide +kernel
theorem dX12_workPart_230 : decode cX12_workPart 230 = .ok (.aload_n 0, 1) := by decide +kernel
theorem dX12_workPart_231 : decode cX12_workPart 231 = .ok (.getfield 122, 3) := by decide +kernel
theorem dX12_workPart_234 : decode cX12_workPart 234 = .ok (.iload_n 1, 1) := by decide +kernel
theorem dX12_workPart_235 : decode cX12_workPart 235 = .ok (.iaload, 1) := by decide +kernel
theorem dX12_workPart_236 : decode cX12_workPart 236 = .ok (.invokevirtual 545, 3) := by decide +kernel
theorem dX12_workPart_239 : decode cX12_workPart 239 = .ok (.invokevirtual 697, 3) := by decide +kernel
theorem dX12_workPart_242 : decode cX12_workPart 242 = .ok (.goto 8, 3) := by decide +kernel
theorem dX12_workPart_245 : decode cX12_workPart 245 = .ok (.aload_n 0, 1) := by decide +kernel
theorem dX12_workPart_246 : decode cX12_workPart 246 = .ok (.iload_n 1, 1) := by decide +kernel
theorem dX12_workPart_247 : decode cX12_workPart 247 = .ok (.invokevirtual 715, 3) := by decide +kernel
theorem dX12_workPart_250 : decode cX12_workPart 250 = .ok (.return_, 1) := by decide +kernel
theorem cw_X12_arguments : CWV yX12_arguments cX12_arguments 7 none RX12 2 := ⟨mG_2843, mG_2842, mG_188, mG_226, by decide +kernel⟩
theorem cw_X12_call : CWV yX12_call cX12_call 9 none RX12 3 := ⟨mG_2874, mG_2873, mG_195, mG_226, by decide +kernel⟩
theorem cw_X12_enter : CWV yX12_enter cX12_enter 7 none RX12 1 := ⟨mG_2800, mG_2799, mG_179, mG_226, by decide +kernel⟩
theorem cw_X12_keep : CWV yX12_keep cX12_keep 5 (some .long) RX12 1 := ⟨mG_2847, mG_2846, mG_189, mG_226, by decide +kernel⟩
theorem cw_X12_keepBindings : CWV yX12_keepBindings cX12_keepBindings 9 none RX12 1 := ⟨mG_2886, mG_2885, mG_198, mG_226, by decide +kernel⟩
theorem cw_X12_push : CWV yX12_push cX12_push 3 none RX12 1 := ⟨mG_2831, mG_2830, mG_185, mG_226, by decide +kernel⟩
theorem cw_X12_workApplication : CWV yX12_workApplication cX12_workApplication 6 none RX12 1 := ⟨mG_2890, mG_2889, mG_199, mG_226, by decide +kernel⟩
section MX12_call
variable {p : Program} {l : Launch} {e : Env} {R : Room} {s : State} {m : MethodId} {args : Array Value} {below : List Frame} {meth : Method} {c : Code} {dC : Nat → ClassId} {dI : Nat → Nat → Nat} {Z : ZZ} {A : Nat → Prop} {ad : Nat → Nat} {kc : Nat → ClassId} {r : Unit} {τ : S5}
set_option maxHeartbeats 4000000 in
set_option maxRecDepth 100000 in
theorem w_X12_call_B200 {σ : S5} {rec200 : Int32 → Int32 → Int32 → Int32 → Int32 → S5 → Option (Unit × S5)} {v1 : Int32} {v5 : Int32} {v6 : Int32} {v7 : Int32} {v8 : Int32} {H : Heap} {locs : List Loc} {ls : Array Slot} (S : CallFix p m c cX12_call 9 s args uG RX12) (hr : meth.sig.returnType = none) (hk : meth.locks = false) (hR : 2 ≤ R.frames ∧ 44 ≤ R.locals)
    (hrec200 : ∀ (v1 : Int32) (v5 : Int32) (v6 : Int32) (v7 : Int32) (v8 : Int32) (σ : S5) (H : Heap) (locs : List Loc) (ls : Array Slot), gX (dC, dI) (tM kc) (wM ad kc) Z A s σ H locs → lv_has ls 9 [(0, .ref (ad 0)), (1, .int v1), (5, .int v5), (6, .int v6), (7, .int v7), (8, .int v8)] → rec200 v1 v5 v6 v7 v8 σ = some (r, τ) → W p l e R s m args below meth c H locs 0 0 (MQ below (gQv (dC, dI) (tM kc) (wM ad kc) A r τ) args s 0 0 A) (F0 m 200 ls []))
    (X : gX (dC, dI) (tM kc) (wM ad kc) Z A s σ H locs) (hl : lv_has ls 9 [(0, .ref (ad 0)), (1, .int v1), (5, .int v5), (6, .int v6), (7, .int v7), (8, .int v8)]) (hg : f_X12_call_B200 rec200 v1 v5 v6 v7 v8 σ = some (r, τ)) : W p l e R s m args below meth c H locs 0 0 (MQ below (gQv (dC, dI) (tM kc) (wM ad kc) A r τ) args s 0 0 A) (F0 m 200 ls []) := by
  have hx := S.1
  have hb := S.2.1
  have hown := S.2.2.2.1
  have hu := S.2.2.2.2
  unfold f_X12_call_B200 at hg
  refine lv_iload hx hb dX12_call_200 (lv_at hl 5 rfl) ?_
  refine lv_iload hx hb dX12_call_202 (lv_at hl 3 rfl) ?_
  refine lv_icmp_ge (tgt := 236) hx hb dX12_call_204 (by decide) (fun c204 => ?_) (fun c204 => ?_)
  · have hg := (if_pos c204).symm.trans hg
    refine lv_aload_n hx hb dX12_call_236 rfl (lv_at hl 0 rfl) ?_
    refine lv_iload hx hb dX12_call_237 (lv_at hl 4 rfl) ?_
    refine lv_iload hx hb dX12_call_239 (lv_at hl 3 rfl) ?_
    refine lv_iadd hx hb dX12_call_241 ?_
    refine wmpI_49 S X mG_2170 dX12_call_242 (fun H locs X => ?_)
    refine lv_aload_n hx hb dX12_call_245 rfl (lv_at hl 0 rfl) ?_
    refine lv_aload_n hx hb dX12_call_246 rfl (lv_at hl 0 rfl) ?_
    refine wmgR_0_80 S X mG_2130 dX12_call_247 ?_
    refine lv_iload_n hx hb dX12_call_250 rfl (lv_at hl 1 rfl) ?_
    obtain ⟨hi251, hg⟩ := gd_some hg
    refine wmlA_45 (v := (xA σ 45 v1)) S X hi251 rfl dX12_call_251 ?_
    obtain ⟨r252, τ252, hq252, hg⟩ := bd_some hg
    refine gc_Vv (As := [.int (xA σ 45 v1)]) (rest := []) (q0 := 0) (ci := 15) S X (k2_X12_evaluate l dC dI ad kc hq252 H.size) cw_X12_evaluate mG_2819 rfl rfl rfl rfl rfl hl.1 (Nat.le_of_ble_eq_true rfl) dX12_call_252 ⟨by omega, by omega⟩ (fun H locs X => ?_)
    obtain ⟨-, rfl⟩ := fin_some hg
    exact gr_v S hr hk X dX12_call_255
  · have hg := (if_neg c204).symm.trans hg
    refine lv_aload_n hx hb dX12_call_207 rfl (lv_at hl 0 rfl) ?_
    refine wmgR_0_121 S X mG_2171 dX12_call_208 ?_
    refine lv_iload hx hb dX12_call_211 (lv_at hl 4 rfl) ?_
    refine lv_iload hx hb dX12_call_213 (lv_at hl 5 rfl) ?_
    refine lv_iadd hx hb dX12_call_215 ?_
    refine lv_aload_n hx hb dX12_call_216 rfl (lv_at hl 0 rfl) ?_
    refine wmgR_0_121 S X mG_2171 dX12_call_217 ?_
    refine lv_iload hx hb dX12_call_220 (lv_at hl 4 rfl) ?_
    refine lv_iload hx hb dX12_call_222 (lv_at hl 2 rfl) ?_
    refine lv_iadd hx hb dX12_call_224 ?_
    refine lv_iload hx hb dX12_call_225 (lv_at hl 5 rfl) ?_
    refine lv_iadd hx hb dX12_call_227 ?_
    obtain ⟨hi228, hg⟩ := gd_some hg
    refine wmlB_8 (v := (xB σ 8 ((v7 + v5) + v8))) S X hi228 rfl dX12_call_228 ?_
    obtain ⟨hi229, hg⟩ := gd_some hg
    refine wmsB_8 S X hi229 dX12_call_229 (fun H locs X => ?_)
    refine lv_iinc (v := (v8 + 1)) (lv' := [(8, .int (v8 + 1)), (0, .ref (ad 0)), (1, .int v1), (5, .int v5), (6, .int v6), (7, .int v7)]) hx hb dX12_call_230 hl (k := 5) rfl (by rfl) (by decide) rfl (fun ls hl => ?_)
    refine lv_goto (tgt := 200) hx hb dX12_call_233 (by decide) ?_
    exact hrec200 _ _ _ _ _ _ _ _ _ X (lv_sub hl [1, 2, 3, 4, 5, 0] rfl) hg
set_option maxHeartbeats 4000000 in
set_option maxRecDepth 100000 in
theorem w_X12_call_L200 (S : CallFix p m c cX12_call 9 s args uG RX12) (hr : meth.sig.returnType = none) (hk : meth.locks = false) (hR : 2 ≤ R.frames ∧ 44 ≤ R.locals) : ∀ (n : Nat) (v1 : Int32) (v5 : Int32) (v6 : Int32) (v7 : Int32) (v8 : Int32) (σ : S5) (H : Heap) (locs : List Loc) (ls : Array Slot), gX (dC, dI) (tM kc) (wM ad kc) Z A s σ H locs → lv_has ls 9 [(0, .ref (ad 0)), (1, .int v1), (5, .int v5), (6, .int v6), (7, .int v7), (8, .int v8)] → f_X12_call_L200  n v1 v5 v6 v7 v8 σ = some (r, τ) → W p l e R s m args below meth c H locs 0 0 (MQ below (gQv (dC, dI) (tM kc) (wM ad kc) A r τ) args s 0 0 A) (F0 m 200 ls []) := by
  intro n
  induction n with
  | zero => intro v1 v5 v6 v7 v8 σ H locs ls X hl hg; cases hg
  | succ n ih => intro v1 v5 v6 v7 v8 σ H locs ls X hl hg; exact w_X12_call_B200 S hr hk hR ih X hl hg
set_option maxHeartbeats 4000000 in
set_option maxRecDepth 100000 in
theorem w_X12_call_B159 {σ : S5} {rec159 : Int32 → Int32 → Int32 → Int32 → Int32 → Int32 → S5 → Option (Unit × S5)} {v1 : Int32} {v4 : Int32} {v5 : Int32} {v6 : Int32} {v7 : Int32} {v8 : Int32} {H : Heap} {locs : List Loc} {ls : Array Slot} (S : CallFix p m c cX12_call 9 s args uG RX12) (hr : meth.sig.returnType = none) (hk : meth.locks = false) (hR : 2 ≤ R.frames ∧ 44 ≤ R.locals)
    (hrec159 : ∀ (v1 : Int32) (v4 : Int32) (v5 : Int32) (v6 : Int32) (v7 : Int32) (v8 : Int32) (σ : S5) (H : Heap) (locs : List Loc) (ls : Array Slot), gX (dC, dI) (tM kc) (wM ad kc) Z A s σ H locs → lv_has ls 9 [(0, .ref (ad 0)), (1, .int v1), (4, .int v4), (5, .int v5), (6, .int v6), (7, .int v7), (8, .int v8)] → rec159 v1 v4 v5 v6 v7 v8 σ = some (r, τ) → W p l e R s m args below meth c H locs 0 0 (MQ below (gQv (dC, dI) (tM kc) (wM ad kc) A r τ) args s 0 0 A) (F0 m 159 ls []))
    (X : gX (dC, dI) (tM kc) (wM ad kc) Z A s σ H locs) (hl : lv_has ls 9 [(0, .ref (ad 0)), (1, .int v1), (4, .int v4), (5, .int v5), (6, .int v6), (7, .int v7), (8, .int v8)]) (hg : f_X12_call_B159 rec159 v1 v4 v5 v6 v7 v8 σ = some (r, τ)) : W p l e R s m args below meth c H locs 0 0 (MQ below (gQv (dC, dI) (tM kc) (wM ad kc) A r τ) args s 0 0 A) (F0 m 159 ls []) := by
  have hx := S.1
  have hb := S.2.1
  have hown := S.2.2.2.1
  have hu := S.2.2.2.2
  unfold f_X12_call_B159 at hg
  refine lv_iload hx hb dX12_call_159 (lv_at hl 6 rfl) ?_
  refine lv_iload hx hb dX12_call_161 (lv_at hl 3 rfl) ?_
  refine lv_icmp_ge (tgt := 197) hx hb dX12_call_163 (by decide) (fun c163 => ?_) (fun c163 => ?_)
  · have hg := (if_pos c163).symm.trans hg
    refine lv_iconst (v := 0) hx hb dX12_call_197 (by decide) ?_
    refine lv_istore (lv' := [(8, .int 0), (0, .ref (ad 0)), (1, .int v1), (4, .int v4), (5, .int v5), (6, .int v6), (7, .int v7)]) hx hb dX12_call_198 hl (by decide) rfl (fun ls hl => ?_)
    exact w_X12_call_L200 S hr hk hR _ _ _ _ _ _ _ _ _ _ X (lv_sub hl [1, 2, 4, 5, 6, 0] rfl) hg
  · have hg := (if_neg c163).symm.trans hg
    refine lv_aload_n hx hb dX12_call_166 rfl (lv_at hl 0 rfl) ?_
    refine wmgR_0_124 S X mG_2174 dX12_call_167 ?_
    refine lv_aload_n hx hb dX12_call_170 rfl (lv_at hl 0 rfl) ?_
    refine wmgI_50 (v := (gI σ 50)) S X mG_2172 rfl dX12_call_171 ?_
    refine lv_iload hx hb dX12_call_174 (lv_at hl 2 rfl) ?_
    refine lv_iadd hx hb dX12_call_176 ?_
    refine lv_iload hx hb dX12_call_177 (lv_at hl 6 rfl) ?_
    refine lv_iadd hx hb dX12_call_179 ?_
    refine lv_aload_n hx hb dX12_call_180 rfl (lv_at hl 0 rfl) ?_
    refine wmgR_0_121 S X mG_2171 dX12_call_181 ?_
    refine lv_iload hx hb dX12_call_184 (lv_at hl 5 rfl) ?_
    refine lv_iload hx hb dX12_call_186 (lv_at hl 6 rfl) ?_
    refine lv_iadd hx hb dX12_call_188 ?_
    obtain ⟨hi189, hg⟩ := gd_some hg
    refine wmlB_8 (v := (xB σ 8 (v7 + v8))) S X hi189 rfl dX12_call_189 ?_
    obtain ⟨hi190, hg⟩ := gd_some hg
    refine wmsB_9 S X hi190 dX12_call_190 (fun H locs X => ?_)
    refine lv_iinc (v := (v8 + 1)) (lv' := [(8, .int (v8 + 1)), (0, .ref (ad 0)), (1, .int v1), (4, .int v4), (5, .int v5), (6, .int v6), (7, .int v7)]) hx hb dX12_call_191 hl (k := 6) rfl (by rfl) (by decide) rfl (fun ls hl => ?_)
    refine lv_goto (tgt := 159) hx hb dX12_call_194 (by decide) ?_
    exact hrec159 _ _ _ _ _ _ _ _ _ _ X (lv_sub hl [1, 2, 3, 4, 5, 6, 0] rfl) hg
set_option maxHeartbeats 4000000 in
set_option maxRecDepth 100000 in
theorem w_X12_call_L159 (S : CallFix p m c cX12_call 9 s args uG RX12) (hr : meth.sig.returnType = none) (hk : meth.locks = false) (hR : 2 ≤ R.frames ∧ 44 ≤ R.locals) : ∀ (n : Nat) (v1 : Int32) (v4 : Int32) (v5 : Int32) (v6 : Int32) (v7 : Int32) (v8 : Int32) (σ : S5) (H : Heap) (locs : List Loc) (ls : Array Slot), gX (dC, dI) (tM kc) (wM ad kc) Z A s σ H locs → lv_has ls 9 [(0, .ref (ad 0)), (1, .int v1), (4, .int v4), (5, .int v5), (6, .int v6), (7, .int v7), (8, .int v8)] → f_X12_call_L159  n v1 v4 v5 v6 v7 v8 σ = some (r, τ) → W p l e R s m args below meth c H locs 0 0 (MQ below (gQv (dC, dI) (tM kc) (wM ad kc) A r τ) args s 0 0 A) (F0 m 159 ls []) := by
  intro n
  induction n with
  | zero => intro v1 v4 v5 v6 v7 v8 σ H locs ls X hl hg; cases hg
  | succ n ih => intro v1 v4 v5 v6 v7 v8 σ H locs ls X hl hg; exact w_X12_call_B159 S hr hk hR ih X hl hg
set_option maxHeartbeats 4000000 in
set_option maxRecDepth 100000 in
theorem w_X12_call_B117 {σ : S5} {rec117 : Int32 → Int32 → Int32 → Int32 → Int32 → Int32 → Int32 → S5 → Option (Unit × S5)} {v1 : Int32} {v2 : Int32} {v4 : Int32} {v5 : Int32} {v6 : Int32} {v7 : Int32} {v8 : Int32} {H : Heap} {locs : List Loc} {ls : Array Slot} (S : CallFix p m c cX12_call 9 s args uG RX12) (hr : meth.sig.returnType = none) (hk : meth.locks = false) (hR : 2 ≤ R.frames ∧ 44 ≤ R.locals)
    (hrec117 : ∀ (v1 : Int32) (v2 : Int32) (v4 : Int32) (v5 : Int32) (v6 : Int32) (v7 : Int32) (v8 : Int32) (σ : S5) (H : Heap) (locs : List Loc) (ls : Array Slot), gX (dC, dI) (tM kc) (wM ad kc) Z A s σ H locs → lv_has ls 9 [(0, .ref (ad 0)), (1, .int v1), (2, .int v2), (4, .int v4), (5, .int v5), (6, .int v6), (7, .int v7), (8, .int v8)] → rec117 v1 v2 v4 v5 v6 v7 v8 σ = some (r, τ) → W p l e R s m args below meth c H locs 0 0 (MQ below (gQv (dC, dI) (tM kc) (wM ad kc) A r τ) args s 0 0 A) (F0 m 117 ls []))
    (X : gX (dC, dI) (tM kc) (wM ad kc) Z A s σ H locs) (hl : lv_has ls 9 [(0, .ref (ad 0)), (1, .int v1), (2, .int v2), (4, .int v4), (5, .int v5), (6, .int v6), (7, .int v7), (8, .int v8)]) (hg : f_X12_call_B117 rec117 v1 v2 v4 v5 v6 v7 v8 σ = some (r, τ)) : W p l e R s m args below meth c H locs 0 0 (MQ below (gQv (dC, dI) (tM kc) (wM ad kc) A r τ) args s 0 0 A) (F0 m 117 ls []) := by
  have hx := S.1
  have hb := S.2.1
  have hown := S.2.2.2.1
  have hu := S.2.2.2.2
  unfold f_X12_call_B117 at hg
  refine lv_iload hx hb dX12_call_117 (lv_at hl 7 rfl) ?_
  refine lv_iload hx hb dX12_call_119 (lv_at hl 3 rfl) ?_
  refine lv_icmp_ge (tgt := 156) hx hb dX12_call_121 (by decide) (fun c121 => ?_) (fun c121 => ?_)
  · have hg := (if_pos c121).symm.trans hg
    refine lv_iconst (v := 0) hx hb dX12_call_156 (by decide) ?_
    refine lv_istore (lv' := [(8, .int 0), (0, .ref (ad 0)), (1, .int v1), (2, .int v2), (4, .int v4), (5, .int v5), (6, .int v6), (7, .int v7)]) hx hb dX12_call_157 hl (by decide) rfl (fun ls hl => ?_)
    exact w_X12_call_L159 S hr hk hR _ _ _ _ _ _ _ _ _ _ _ X (lv_sub hl [1, 2, 4, 5, 6, 7, 0] rfl) hg
  · have hg := (if_neg c121).symm.trans hg
    refine lv_aload_n hx hb dX12_call_124 rfl (lv_at hl 0 rfl) ?_
    refine wmgR_0_124 S X mG_2174 dX12_call_125 ?_
    refine lv_aload_n hx hb dX12_call_128 rfl (lv_at hl 0 rfl) ?_
    refine wmgI_50 (v := (gI σ 50)) S X mG_2172 rfl dX12_call_129 ?_
    refine lv_iload hx hb dX12_call_132 (lv_at hl 7 rfl) ?_
    refine lv_iadd hx hb dX12_call_134 ?_
    refine lv_aload_n hx hb dX12_call_135 rfl (lv_at hl 0 rfl) ?_
    refine wmgR_0_99 S X mG_2149 dX12_call_136 ?_
    refine lv_aload_n hx hb dX12_call_139 rfl (lv_at hl 0 rfl) ?_
    refine wmgR_0_95 S X mG_2145 dX12_call_140 ?_
    refine lv_iload_n hx hb dX12_call_143 rfl (lv_at hl 2 rfl) ?_
    obtain ⟨hi144, hg⟩ := gd_some hg
    refine wmlA_55 (v := (xA σ 55 v2)) S X hi144 rfl dX12_call_144 ?_
    refine lv_iload hx hb dX12_call_145 (lv_at hl 7 rfl) ?_
    refine lv_iadd hx hb dX12_call_147 ?_
    obtain ⟨hi148, hg⟩ := gd_some hg
    refine wmlB_7 (v := (xB σ 7 ((xA σ 55 v2) + v8))) S X hi148 rfl dX12_call_148 ?_
    obtain ⟨hi149, hg⟩ := gd_some hg
    refine wmsB_9 S X hi149 dX12_call_149 (fun H locs X => ?_)
    refine lv_iinc (v := (v8 + 1)) (lv' := [(8, .int (v8 + 1)), (0, .ref (ad 0)), (1, .int v1), (2, .int v2), (4, .int v4), (5, .int v5), (6, .int v6), (7, .int v7)]) hx hb dX12_call_150 hl (k := 7) rfl (by rfl) (by decide) rfl (fun ls hl => ?_)
    refine lv_goto (tgt := 117) hx hb dX12_call_153 (by decide) ?_
    exact hrec117 _ _ _ _ _ _ _ _ _ _ _ X (lv_sub hl [1, 2, 3, 4, 5, 6, 7, 0] rfl) hg
set_option maxHeartbeats 4000000 in
set_option maxRecDepth 100000 in
theorem w_X12_call_L117 (S : CallFix p m c cX12_call 9 s args uG RX12) (hr : meth.sig.returnType = none) (hk : meth.locks = false) (hR : 2 ≤ R.frames ∧ 44 ≤ R.locals) : ∀ (n : Nat) (v1 : Int32) (v2 : Int32) (v4 : Int32) (v5 : Int32) (v6 : Int32) (v7 : Int32) (v8 : Int32) (σ : S5) (H : Heap) (locs : List Loc) (ls : Array Slot), gX (dC, dI) (tM kc) (wM ad kc) Z A s σ H locs → lv_has ls 9 [(0, .ref (ad 0)), (1, .int v1), (2, .int v2), (4, .int v4), (5, .int v5), (6, .int v6), (7, .int v7), (8, .int v8)] → f_X12_call_L117  n v1 v2 v4 v5 v6 v7 v8 σ = some (r, τ) → W p l e R s m args below meth c H locs 0 0 (MQ below (gQv (dC, dI) (tM kc) (wM ad kc) A r τ) args s 0 0 A) (F0 m 117 ls []) := by
  intro n
  induction n with
  | zero => intro v1 v2 v4 v5 v6 v7 v8 σ H locs ls X hl hg; cases hg
  | succ n ih => intro v1 v2 v4 v5 v6 v7 v8 σ H locs ls X hl hg; exact w_X12_call_B117 S hr hk hR ih X hl hg
set_option maxHeartbeats 4000000 in
set_option maxRecDepth 100000 in
theorem w_X12_call_b109 {σ : S5} {v1 : Int32} {v2 : Int32} {v4 : Int32} {v5 : Int32} {v6 : Int32} {v7 : Int32} {H : Heap} {locs : List Loc} {ls : Array Slot} (S : CallFix p m c cX12_call 9 s args uG RX12) (hr : meth.sig.returnType = none) (hk : meth.locks = false) (hR : 2 ≤ R.frames ∧ 44 ≤ R.locals)
    (X : gX (dC, dI) (tM kc) (wM ad kc) Z A s σ H locs) (hl : lv_has ls 9 [(0, .ref (ad 0)), (1, .int v1), (2, .int v2), (4, .int v4), (5, .int v5), (6, .int v6), (7, .int v7)]) (hg : f_X12_call_b109 v1 v2 v4 v5 v6 v7 σ = some (r, τ)) : W p l e R s m args below meth c H locs 0 0 (MQ below (gQv (dC, dI) (tM kc) (wM ad kc) A r τ) args s 0 0 A) (F0 m 109 ls []) := by
  have hx := S.1
  have hb := S.2.1
  have hown := S.2.2.2.1
  have hu := S.2.2.2.2
  unfold f_X12_call_b109 at hg
  refine lv_aload_n hx hb dX12_call_109 rfl (lv_at hl 0 rfl) ?_
  refine lv_iload_n hx hb dX12_call_110 rfl (lv_at hl 1 rfl) ?_
  obtain ⟨r111, τ111, hq111, hg⟩ := bd_some hg
  refine gc_Vv (As := [.int v1]) (rest := []) (q0 := 0) (ci := 15) S X (k2_X12_frame l dC dI ad kc hq111 H.size) cw_X12_frame mG_2815 rfl rfl rfl rfl rfl hl.1 (Nat.le_of_ble_eq_true rfl) dX12_call_111 ⟨by omega, by omega⟩ (fun H locs X => ?_)
  refine lv_iconst (v := 0) hx hb dX12_call_114 (by decide) ?_
  refine lv_istore (lv' := [(8, .int 0), (0, .ref (ad 0)), (1, .int v1), (2, .int v2), (4, .int v4), (5, .int v5), (6, .int v6), (7, .int v7)]) hx hb dX12_call_115 hl (by decide) rfl (fun ls hl => ?_)
  exact w_X12_call_L117 S hr hk hR _ _ _ _ _ _ _ _ _ _ _ _ X (lv_sub hl [1, 2, 3, 4, 5, 6, 7, 0] rfl) hg
set_option maxHeartbeats 4000000 in
set_option maxRecDepth 100000 in
theorem w_X12_call_b68 {σ : S5} {v1 : Int32} {v2 : Int32} {v3 : Int32} {u0 : Int32} {H : Heap} {locs : List Loc} {ls : Array Slot} (S : CallFix p m c cX12_call 9 s args uG RX12) (hr : meth.sig.returnType = none) (hk : meth.locks = false) (hR : 2 ≤ R.frames ∧ 44 ≤ R.locals)
    (X : gX (dC, dI) (tM kc) (wM ad kc) Z A s σ H locs) (hl : lv_has ls 9 [(0, .ref (ad 0)), (1, .int v1), (2, .int v2), (3, .int v3)]) (hg : f_X12_call_b68 v1 v2 v3 u0 σ = some (r, τ)) : W p l e R s m args below meth c H locs 0 0 (MQ below (gQv (dC, dI) (tM kc) (wM ad kc) A r τ) args s 0 0 A) (F0 m 68 ls [.int u0]) := by
  have hx := S.1
  have hb := S.2.1
  have hown := S.2.2.2.1
  have hu := S.2.2.2.2
  unfold f_X12_call_b68 at hg
  refine lv_istore (lv' := [(4, .int u0), (0, .ref (ad 0)), (1, .int v1), (2, .int v2), (3, .int v3)]) hx hb dX12_call_68 hl (by decide) rfl (fun ls hl => ?_)
  refine lv_aload_n hx hb dX12_call_70 rfl (lv_at hl 1 rfl) ?_
  refine wmgR_0_82 S X mG_2132 dX12_call_71 ?_
  refine lv_iload_n hx hb dX12_call_74 rfl (lv_at hl 2 rfl) ?_
  obtain ⟨hi75, hg⟩ := gd_some hg
  refine wmlA_47 (v := (xA σ 47 v1)) S X hi75 rfl dX12_call_75 ?_
  refine lv_iload hx hb dX12_call_76 (lv_at hl 0 rfl) ?_
  refine lv_isub hx hb dX12_call_78 ?_
  refine lv_istore (lv' := [(5, .int ((xA σ 47 v1) - u0)), (4, .int u0), (0, .ref (ad 0)), (1, .int v1), (2, .int v2), (3, .int v3)]) hx hb dX12_call_79 hl (by decide) rfl (fun ls hl => ?_)
  refine lv_iload_n hx hb dX12_call_81 rfl (lv_at hl 5 rfl) ?_
  refine lv_iload hx hb dX12_call_82 (lv_at hl 0 rfl) ?_
  refine lv_isub hx hb dX12_call_84 ?_
  refine lv_istore (lv' := [(6, .int (v3 - ((xA σ 47 v1) - u0))), (5, .int ((xA σ 47 v1) - u0)), (4, .int u0), (0, .ref (ad 0)), (1, .int v1), (2, .int v2), (3, .int v3)]) hx hb dX12_call_85 hl (by decide) rfl (fun ls hl => ?_)
  refine lv_aload_n hx hb dX12_call_87 rfl (lv_at hl 3 rfl) ?_
  refine wmgI_49 (v := (gI σ 49)) S X mG_2170 rfl dX12_call_88 ?_
  refine lv_iload_n hx hb dX12_call_91 rfl (lv_at hl 6 rfl) ?_
  refine lv_isub hx hb dX12_call_92 ?_
  refine lv_istore (lv' := [(7, .int ((gI σ 49) - v3)), (6, .int (v3 - ((xA σ 47 v1) - u0))), (5, .int ((xA σ 47 v1) - u0)), (4, .int u0), (0, .ref (ad 0)), (1, .int v1), (2, .int v2), (3, .int v3)]) hx hb dX12_call_93 hl (by decide) rfl (fun ls hl => ?_)
  refine lv_iload hx hb dX12_call_95 (lv_at hl 1 rfl) ?_
  refine lv_if_le (tgt := 109) hx hb dX12_call_97 (by decide) (fun c97 => ?_) (fun c97 => ?_)
  · have hg := (if_pos c97).symm.trans hg
    exact w_X12_call_b109 S hr hk hR X (lv_sub hl [4, 5, 6, 3, 2, 1, 0] rfl) hg
  · have hg := (if_neg c97).symm.trans hg
    refine lv_aload_n hx hb dX12_call_100 rfl (lv_at hl 4 rfl) ?_
    refine lv_bipush (v := 7) hx hb dX12_call_101 (by decide) ?_
    refine lv_iconst (v := 0) hx hb dX12_call_103 (by decide) ?_
    refine lv_iload hx hb dX12_call_104 (lv_at hl 1 rfl) ?_
    obtain ⟨r106, τ106, hq106, hg⟩ := bd_some hg
    refine gc_Vv (As := [.int 7, .int 0, .int (v3 - ((xA σ 47 v1) - u0))]) (rest := []) (q0 := 0) (ci := 15) S X (k2_X12_waits l dC dI ad kc hq106 H.size) cw_X12_waits mG_2811 rfl rfl rfl rfl rfl hl.1 (Nat.le_of_ble_eq_true rfl) dX12_call_106 ⟨by omega, by omega⟩ (fun H locs X => ?_)
    exact w_X12_call_b109 S hr hk hR X (lv_sub hl [4, 5, 6, 3, 2, 1, 0] rfl) hg
set_option maxHeartbeats 4000000 in
set_option maxRecDepth 100000 in
theorem w_X12_call {σ : S5} {a1 : Int32} {a2 : Int32} {a3 : Int32} {H : Heap} {locs : List Loc} {ls : Array Slot} (S : CallFix p m c cX12_call 9 s args uG RX12) (hr : meth.sig.returnType = none) (hk : meth.locks = false) (hR : 2 ≤ R.frames ∧ 44 ≤ R.locals)
    (X : gX (dC, dI) (tM kc) (wM ad kc) Z A s σ H locs) (hl : lv_has ls 9 [(0, .ref (ad 0)), (1, .int a1), (2, .int a2), (3, .int a3)]) (hg : f_X12_call a1 a2 a3 σ = some (r, τ)) : W p l e R s m args below meth c H locs 0 0 (MQ below (gQv (dC, dI) (tM kc) (wM ad kc) A r τ) args s 0 0 A) (F0 m 0 ls []) := by
  have hx := S.1
  have hb := S.2.1
  have hown := S.2.2.2.1
  have hu := S.2.2.2.2
  unfold f_X12_call at hg
  refine lv_aload_n hx hb dX12_call_0 rfl (lv_at hl 0 rfl) ?_
  refine wmgI_37 (v := (gI σ 37)) S X mG_2153 rfl dX12_call_1 ?_
  refine lv_if_ne (tgt := 14) hx hb dX12_call_4 (by decide) (fun c4 => ?_) (fun c4 => ?_)
  · have hg := (if_neg c4).symm.trans hg
    refine lv_aload_n hx hb dX12_call_14 rfl (lv_at hl 0 rfl) ?_
    refine lv_dup hx hb dX12_call_15 rfl ?_
    refine wmgI_37 (v := (gI σ 37)) S X mG_2153 rfl dX12_call_16 ?_
    refine lv_iconst (v := 1) hx hb dX12_call_19 (by decide) ?_
    refine lv_isub hx hb dX12_call_20 ?_
    refine wmpI_37 S X mG_2153 dX12_call_21 (fun H locs X => ?_)
    refine lv_aload_n hx hb dX12_call_24 rfl (lv_at hl 0 rfl) ?_
    refine lv_dup hx hb dX12_call_25 rfl ?_
    refine wmgI_38 (v := (gI σ 38)) S X mG_2154 rfl dX12_call_26 ?_
    refine lv_iconst (v := 1) hx hb dX12_call_29 (by decide) ?_
    refine lv_iadd hx hb dX12_call_30 ?_
    refine wmpI_38 S X mG_2154 dX12_call_31 (fun H locs X => ?_)
    refine lv_aload_n hx hb dX12_call_34 rfl (lv_at hl 0 rfl) ?_
    refine lv_dup hx hb dX12_call_35 rfl ?_
    refine wmgI_36 (v := (gI σ 36)) S X mG_2152 rfl dX12_call_36 ?_
    refine lv_iconst (v := 1) hx hb dX12_call_39 (by decide) ?_
    refine lv_iadd hx hb dX12_call_40 ?_
    refine wmpI_36 S X mG_2152 dX12_call_41 (fun H locs X => ?_)
    refine lv_aload_n hx hb dX12_call_44 rfl (lv_at hl 0 rfl) ?_
    refine wmgR_0_110 S X mG_2160 dX12_call_45 ?_
    refine lv_iload_n hx hb dX12_call_48 rfl (lv_at hl 1 rfl) ?_
    refine lv_dup2_11 hx hb dX12_call_49 rfl rfl ?_
    obtain ⟨hi50, hg⟩ := gd_some hg
    refine wmlA_57 (v := (xA σ 57 a1)) S X hi50 rfl dX12_call_50 ?_
    refine lv_iconst (v := 1) hx hb dX12_call_51 (by decide) ?_
    refine lv_iadd hx hb dX12_call_52 ?_
    obtain ⟨hi53, hg⟩ := gd_some hg
    refine wmsA_57 S X hi53 dX12_call_53 (fun H locs X => ?_)
    refine lv_iload_n hx hb dX12_call_54 rfl (lv_at hl 2 rfl) ?_
    refine lv_if_ge (tgt := 62) hx hb dX12_call_55 (by decide) (fun c55 => ?_) (fun c55 => ?_)
    · have hg := (if_pos c55).symm.trans hg
      refine lv_aload_n hx hb dX12_call_62 rfl (lv_at hl 0 rfl) ?_
      refine wmgR_0_96 S X mG_2146 dX12_call_63 ?_
      refine lv_iload_n hx hb dX12_call_66 rfl (lv_at hl 2 rfl) ?_
      obtain ⟨hi67, hg⟩ := gd_some hg
      refine wmlA_56 (v := (xA σ 56 a2)) S X hi67 rfl dX12_call_67 ?_
      exact w_X12_call_b68 S hr hk hR X (lv_sub hl [0, 1, 2, 3] rfl) hg
    · have hg := (if_neg c55).symm.trans hg
      refine lv_iconst (v := 0) hx hb dX12_call_58 (by decide) ?_
      refine lv_goto (tgt := 68) hx hb dX12_call_59 (by decide) ?_
      exact w_X12_call_b68 S hr hk hR X (lv_sub hl [0, 1, 2, 3] rfl) hg
  · have hg := (if_pos c4).symm.trans hg
    refine lv_aload_n hx hb dX12_call_7 rfl (lv_at hl 0 rfl) ?_
    refine lv_iconst (v := 3) hx hb dX12_call_8 (by decide) ?_
    refine lv_iconst (v := 1) hx hb dX12_call_9 (by decide) ?_
    obtain ⟨r10, τ10, hq10, hg⟩ := bd_some hg
    refine gc_Vv (As := [.int 3, .int 1]) (rest := []) (q0 := 0) (ci := 15) S X (k2_X12_ends l dC dI ad kc hq10 H.size) cw_X12_ends mG_2785 rfl rfl rfl rfl rfl hl.1 (Nat.le_of_ble_eq_true rfl) dX12_call_10 ⟨by omega, by omega⟩ (fun H locs X => ?_)
    obtain ⟨-, rfl⟩ := fin_some hg
    exact gr_v S hr hk X dX12_call_13
end MX12_call
set_option maxRecDepth 100000 in
theorem k2_X12_call (l : Launch) (dC : Nat → ClassId) (dI : Nat → Nat → Nat) {Z : ZZ} (ad : Nat → Nat) (kc : Nat → ClassId) {σ τ : S5} {a1 : Int32} {a2 : Int32} {a3 : Int32} {r : Unit} (hg : f_X12_call a1 a2 a3 σ = some (r, τ)) (sz : Nat) : Met l yX12_call (Cond.code yX12_call cX12_call 9 none :: uG) { frames := 2, cells := 0, slots := 0, locals := 44 } (gPc (dC, dI) (tM kc) (wM ad kc) Z [.ref (ad 0), .int a1, .int a2, .int a3] σ sz) (gQv (dC, dI) (tM kc) (wM ad kc) (va_A (wM ad kc σ) sz) r τ) 0 0 (va_A (wM ad kc σ) sz) :=
  g_start (by decide) (Nat.le_of_ble_eq_true rfl) (fun p e s m below meth c ls S hr hk X hl => w_X12_call S hr hk ⟨Nat.le_refl _, Nat.le_refl _⟩ X hl hg)
section MX12_push
variable {p : Program} {l : Launch} {e : Env} {R : Room} {s : State} {m : MethodId} {args : Array Value} {below : List Frame} {meth : Method} {c : Code} {dC : Nat → ClassId} {dI : Nat → Nat → Nat} {Z : ZZ} {A : Nat → Prop} {ad : Nat → Nat} {kc : Nat → ClassId} {r : Unit} {τ : S5}
set_option maxHeartbeats 4000000 in
set_option maxRecDepth 100000 in
theorem w_X12_push {σ : S5} {a1 : Int64} {H : Heap} {locs : List Loc} {ls : Array Slot} (S : CallFix p m c cX12_push 3 s args uG RX12) (hr : meth.sig.returnType = none) (hk : meth.locks = false) (hR : 0 ≤ R.frames ∧ 0 ≤ R.locals)
    (X : gX (dC, dI) (tM kc) (wM ad kc) Z A s σ H locs) (hl : lv_has ls 3 [(0, .ref (ad 0)), (1, .long a1)]) (hg : f_X12_push a1 σ = some (r, τ)) : W p l e R s m args below meth c H locs 0 0 (MQ below (gQv (dC, dI) (tM kc) (wM ad kc) A r τ) args s 0 0 A) (F0 m 0 ls []) := by
  have hx := S.1
  have hb := S.2.1
  have hown := S.2.2.2.1
  have hu := S.2.2.2.2
  unfold f_X12_push at hg
  refine lv_aload_n hx hb dX12_push_0 rfl (lv_at hl 0 rfl) ?_
  refine wmgR_0_121 S X mG_2171 dX12_push_1 ?_
  refine lv_aload_n hx hb dX12_push_4 rfl (lv_at hl 0 rfl) ?_
  refine wmgI_49 (v := (gI σ 49)) S X mG_2170 rfl dX12_push_5 ?_
  refine lv_lload_n hx hb dX12_push_8 rfl (lv_at hl 1 rfl) ?_
  obtain ⟨hi9, hg⟩ := gd_some hg
  refine wmsB_8 S X hi9 dX12_push_9 (fun H locs X => ?_)
  refine lv_aload_n hx hb dX12_push_10 rfl (lv_at hl 0 rfl) ?_
  refine lv_dup hx hb dX12_push_11 rfl ?_
  refine wmgI_49 (v := (gI σ 49)) S X mG_2170 rfl dX12_push_12 ?_
  refine lv_iconst (v := 1) hx hb dX12_push_15 (by decide) ?_
  refine lv_iadd hx hb dX12_push_16 ?_
  refine wmpI_49 S X mG_2170 dX12_push_17 (fun H locs X => ?_)
  obtain ⟨-, rfl⟩ := fin_some hg
  exact gr_v S hr hk X dX12_push_20
end MX12_push
set_option maxRecDepth 100000 in
theorem k2_X12_push (l : Launch) (dC : Nat → ClassId) (dI : Nat → Nat → Nat) {Z : ZZ} (ad : Nat → Nat) (kc : Nat → ClassId) {σ τ : S5} {a1 : Int64} {r : Unit} (hg : f_X12_push a1 σ = some (r, τ)) (sz : Nat) : Met l yX12_push (Cond.code yX12_push cX12_push 3 none :: uG) { frames := 0, cells := 0, slots := 0, locals := 0 } (gPc (dC, dI) (tM kc) (wM ad kc) Z [.ref (ad 0), .long a1] σ sz) (gQv (dC, dI) (tM kc) (wM ad kc) (va_A (wM ad kc σ) sz) r τ) 0 0 (va_A (wM ad kc σ) sz) :=
  g_start (by decide) (Nat.le_of_ble_eq_true rfl) (fun p e s m below meth c ls S hr hk X hl => w_X12_push S hr hk ⟨Nat.le_refl _, Nat.le_refl _⟩ X hl hg)
section MX12_arguments
variable {p : Program} {l : Launch} {e : Env} {R : Room} {s : State} {m : MethodId} {args : Array Value} {below : List Frame} {meth : Method} {c : Code} {dC : Nat → ClassId} {dI : Nat → Nat → Nat} {Z : ZZ} {A : Nat → Prop} {ad : Nat → Nat} {kc : Nat → ClassId} {r : Unit} {τ : S5}
set_option maxHeartbeats 4000000 in
set_option maxRecDepth 100000 in
theorem w_X12_arguments_b132 {σ : S5} {v3 : Int32} {v5 : Int32} {H : Heap} {locs : List Loc} {ls : Array Slot} (S : CallFix p m c cX12_arguments 7 s args uG RX12) (hr : meth.sig.returnType = none) (hk : meth.locks = false) (hR : 5 ≤ R.frames ∧ 118 ≤ R.locals)
    (X : gX (dC, dI) (tM kc) (wM ad kc) Z A s σ H locs) (hl : lv_has ls 7 [(0, .ref (ad 0)), (3, .int v3), (5, .int v5)]) (hg : f_X12_arguments_b132 v3 v5 σ = some (r, τ)) : W p l e R s m args below meth c H locs 0 0 (MQ below (gQv (dC, dI) (tM kc) (wM ad kc) A r τ) args s 0 0 A) (F0 m 132 ls []) := by
  have hx := S.1
  have hb := S.2.1
  have hown := S.2.2.2.1
  have hu := S.2.2.2.2
  unfold f_X12_arguments_b132 at hg
  refine lv_aload_n hx hb dX12_arguments_132 rfl (lv_at hl 0 rfl) ?_
  refine wmgI_44 (v := (gI σ 44)) S X mG_2161 rfl dX12_arguments_133 ?_
  refine lv_if_ne (tgt := 147) hx hb dX12_arguments_136 (by decide) (fun c136 => ?_) (fun c136 => ?_)
  · have hg := (if_neg c136).symm.trans hg
    obtain ⟨-, rfl⟩ := fin_some hg
    exact gr_v S hr hk X dX12_arguments_147
  · have hg := (if_pos c136).symm.trans hg
    refine lv_aload_n hx hb dX12_arguments_139 rfl (lv_at hl 0 rfl) ?_
    refine lv_iload_n hx hb dX12_arguments_140 rfl (lv_at hl 1 rfl) ?_
    refine lv_iconst (v := (-1)) hx hb dX12_arguments_141 (by decide) ?_
    refine lv_iload hx hb dX12_arguments_142 (lv_at hl 2 rfl) ?_
    obtain ⟨r144, τ144, hq144, hg⟩ := bd_some hg
    refine gc_Vv (As := [.int v3, .int (-1), .int v5]) (rest := []) (q0 := 0) (ci := 15) S X (k2_X12_call l dC dI ad kc hq144 H.size) cw_X12_call mG_2871 rfl rfl rfl rfl rfl hl.1 (Nat.le_of_ble_eq_true rfl) dX12_arguments_144 ⟨by omega, by omega⟩ (fun H locs X => ?_)
    obtain ⟨-, rfl⟩ := fin_some hg
    exact gr_v S hr hk X dX12_arguments_147
set_option maxHeartbeats 4000000 in
set_option maxRecDepth 100000 in
theorem w_X12_arguments_b109 {σ : S5} {rec33 : Int32 → Int32 → Int32 → Int32 → Int32 → S5 → Option (Unit × S5)} {v1 : Int32} {v3 : Int32} {v4 : Int32} {v5 : Int32} {v6 : Int32} {H : Heap} {locs : List Loc} {ls : Array Slot} (S : CallFix p m c cX12_arguments 7 s args uG RX12) (hr : meth.sig.returnType = none) (hk : meth.locks = false) (hR : 5 ≤ R.frames ∧ 118 ≤ R.locals)
    (hrec33 : ∀ (v1 : Int32) (v3 : Int32) (v4 : Int32) (v5 : Int32) (v6 : Int32) (σ : S5) (H : Heap) (locs : List Loc) (ls : Array Slot), gX (dC, dI) (tM kc) (wM ad kc) Z A s σ H locs → lv_has ls 7 [(0, .ref (ad 0)), (1, .int v1), (3, .int v3), (4, .int v4), (5, .int v5), (6, .int v6)] → rec33 v1 v3 v4 v5 v6 σ = some (r, τ) → W p l e R s m args below meth c H locs 0 0 (MQ below (gQv (dC, dI) (tM kc) (wM ad kc) A r τ) args s 0 0 A) (F0 m 33 ls []))
    (X : gX (dC, dI) (tM kc) (wM ad kc) Z A s σ H locs) (hl : lv_has ls 7 [(0, .ref (ad 0)), (1, .int v1), (3, .int v3), (4, .int v4), (5, .int v5), (6, .int v6)]) (hg : f_X12_arguments_b109 rec33 v1 v3 v4 v5 v6 σ = some (r, τ)) : W p l e R s m args below meth c H locs 0 0 (MQ below (gQv (dC, dI) (tM kc) (wM ad kc) A r τ) args s 0 0 A) (F0 m 109 ls []) := by
  have hx := S.1
  have hb := S.2.1
  have hown := S.2.2.2.1
  have hu := S.2.2.2.2
  unfold f_X12_arguments_b109 at hg
  refine lv_aload_n hx hb dX12_arguments_109 rfl (lv_at hl 0 rfl) ?_
  refine lv_aload_n hx hb dX12_arguments_110 rfl (lv_at hl 0 rfl) ?_
  refine lv_aload_n hx hb dX12_arguments_111 rfl (lv_at hl 0 rfl) ?_
  refine lv_iload_n hx hb dX12_arguments_112 rfl (lv_at hl 1 rfl) ?_
  refine lv_iconst (v := 1) hx hb dX12_arguments_113 (by decide) ?_
  refine lv_iload hx hb dX12_arguments_114 (lv_at hl 5 rfl) ?_
  refine lv_iadd hx hb dX12_arguments_116 ?_
  obtain ⟨r117, τ117, hq117, hg⟩ := bd_some hg
  refine gc_Vi (As := [.int v1, .int (1 + v6)]) (rest := [.ref (ad 0), .ref (ad 0)]) (q0 := 0) (ci := 15) S X (k2_X12_child l dC dI ad kc hq117 H.size) cw_X12_child mG_2736 rfl rfl rfl rfl rfl hl.1 (Nat.le_of_ble_eq_true rfl) dX12_arguments_117 ⟨by omega, by omega⟩ (fun H locs X => ?_)
  obtain ⟨r120, τ120, hq120, hg⟩ := bd_some hg
  refine gc_Vl (As := [.int r117]) (rest := [.ref (ad 0)]) (q0 := 0) (ci := 15) S X (k2_X12_keep l dC dI ad kc hq120 H.size) cw_X12_keep mG_2844 rfl rfl rfl rfl rfl hl.1 (Nat.le_of_ble_eq_true rfl) dX12_arguments_120 ⟨by omega, by omega⟩ (fun H locs X => ?_)
  obtain ⟨r123, τ123, hq123, hg⟩ := bd_some hg
  refine gc_Vv (As := [.long r120]) (rest := []) (q0 := 0) (ci := 15) S X (k2_X12_push l dC dI ad kc hq123 H.size) cw_X12_push mG_2828 rfl rfl rfl rfl rfl hl.1 (Nat.le_of_ble_eq_true rfl) dX12_arguments_123 ⟨by omega, by omega⟩ (fun H locs X => ?_)
  refine lv_iinc (v := (v6 + 1)) (lv' := [(6, .int (v6 + 1)), (0, .ref (ad 0)), (1, .int v1), (3, .int v3), (4, .int v4), (5, .int v5)]) hx hb dX12_arguments_126 hl (k := 5) rfl (by rfl) (by decide) rfl (fun ls hl => ?_)
  refine lv_goto (tgt := 33) hx hb dX12_arguments_129 (by decide) ?_
  exact hrec33 _ _ _ _ _ _ _ _ _ X (lv_sub hl [1, 2, 3, 4, 5, 0] rfl) hg
set_option maxHeartbeats 4000000 in
set_option maxRecDepth 100000 in
theorem w_X12_arguments_B33 {σ : S5} {rec33 : Int32 → Int32 → Int32 → Int32 → Int32 → S5 → Option (Unit × S5)} {v1 : Int32} {v3 : Int32} {v4 : Int32} {v5 : Int32} {v6 : Int32} {H : Heap} {locs : List Loc} {ls : Array Slot} (S : CallFix p m c cX12_arguments 7 s args uG RX12) (hr : meth.sig.returnType = none) (hk : meth.locks = false) (hR : 5 ≤ R.frames ∧ 118 ≤ R.locals)
    (hrec33 : ∀ (v1 : Int32) (v3 : Int32) (v4 : Int32) (v5 : Int32) (v6 : Int32) (σ : S5) (H : Heap) (locs : List Loc) (ls : Array Slot), gX (dC, dI) (tM kc) (wM ad kc) Z A s σ H locs → lv_has ls 7 [(0, .ref (ad 0)), (1, .int v1), (3, .int v3), (4, .int v4), (5, .int v5), (6, .int v6)] → rec33 v1 v3 v4 v5 v6 σ = some (r, τ) → W p l e R s m args below meth c H locs 0 0 (MQ below (gQv (dC, dI) (tM kc) (wM ad kc) A r τ) args s 0 0 A) (F0 m 33 ls []))
    (X : gX (dC, dI) (tM kc) (wM ad kc) Z A s σ H locs) (hl : lv_has ls 7 [(0, .ref (ad 0)), (1, .int v1), (3, .int v3), (4, .int v4), (5, .int v5), (6, .int v6)]) (hg : f_X12_arguments_B33 rec33 v1 v3 v4 v5 v6 σ = some (r, τ)) : W p l e R s m args below meth c H locs 0 0 (MQ below (gQv (dC, dI) (tM kc) (wM ad kc) A r τ) args s 0 0 A) (F0 m 33 ls []) := by
  have hx := S.1
  have hb := S.2.1
  have hown := S.2.2.2.1
  have hu := S.2.2.2.2
  unfold f_X12_arguments_B33 at hg
  refine lv_iload hx hb dX12_arguments_33 (lv_at hl 5 rfl) ?_
  refine lv_iload hx hb dX12_arguments_35 (lv_at hl 4 rfl) ?_
  refine lv_icmp_ge (tgt := 132) hx hb dX12_arguments_37 (by decide) (fun c37 => ?_) (fun c37 => ?_)
  · have hg := (if_pos c37).symm.trans hg
    exact w_X12_arguments_b132 S hr hk hR X (lv_sub hl [0, 2, 4] rfl) hg
  · have hg := (if_neg c37).symm.trans hg
    refine lv_aload_n hx hb dX12_arguments_40 rfl (lv_at hl 0 rfl) ?_
    refine wmgI_44 (v := (gI σ 44)) S X mG_2161 rfl dX12_arguments_41 ?_
    refine lv_if_ne (tgt := 132) hx hb dX12_arguments_44 (by decide) (fun c44 => ?_) (fun c44 => ?_)
    · have hg := (if_neg c44).symm.trans hg
      exact w_X12_arguments_b132 S hr hk hR X (lv_sub hl [0, 2, 4] rfl) hg
    · have hg := (if_pos c44).symm.trans hg
      refine lv_iload hx hb dX12_arguments_47 (lv_at hl 5 rfl) ?_
      refine lv_iload hx hb dX12_arguments_49 (lv_at hl 3 rfl) ?_
      refine lv_icmp_ge (tgt := 109) hx hb dX12_arguments_51 (by decide) (fun c51 => ?_) (fun c51 => ?_)
      · have hg := (if_pos c51).symm.trans hg
        exact w_X12_arguments_b109 S hr hk hR hrec33 X (lv_sub hl [0, 1, 2, 3, 4, 5] rfl) hg
      · have hg := (if_neg c51).symm.trans hg
        refine lv_aload_n hx hb dX12_arguments_54 rfl (lv_at hl 0 rfl) ?_
        refine wmgI_47 (v := (gI σ 47)) S X mG_2165 rfl dX12_arguments_55 ?_
        refine lv_if_eq (tgt := 109) hx hb dX12_arguments_58 (by decide) (fun c58 => ?_) (fun c58 => ?_)
        · have hg := (if_pos c58).symm.trans hg
          exact w_X12_arguments_b109 S hr hk hR hrec33 X (lv_sub hl [0, 1, 2, 3, 4, 5] rfl) hg
        · have hg := (if_neg c58).symm.trans hg
          refine lv_aload_n hx hb dX12_arguments_61 rfl (lv_at hl 0 rfl) ?_
          refine wmgR_0_91 S X mG_2141 dX12_arguments_62 ?_
          refine lv_bipush (v := 8) hx hb dX12_arguments_65 (by decide) ?_
          refine lv_iload_n hx hb dX12_arguments_67 rfl (lv_at hl 2 rfl) ?_
          refine lv_imul hx hb dX12_arguments_68 ?_
          refine lv_iload hx hb dX12_arguments_69 (lv_at hl 5 rfl) ?_
          refine lv_iadd hx hb dX12_arguments_71 ?_
          obtain ⟨hi72, hg⟩ := gd_some hg
          refine wmlA_52 (v := (xA σ 52 ((8 * v3) + v6))) S X hi72 rfl dX12_arguments_72 ?_
          refine lv_if_eq (tgt := 109) hx hb dX12_arguments_73 (by decide) (fun c73 => ?_) (fun c73 => ?_)
          · have hg := (if_pos c73).symm.trans hg
            exact w_X12_arguments_b109 S hr hk hR hrec33 X (lv_sub hl [0, 1, 2, 3, 4, 5] rfl) hg
          · have hg := (if_neg c73).symm.trans hg
            refine lv_aload_n hx hb dX12_arguments_76 rfl (lv_at hl 0 rfl) ?_
            refine lv_dup hx hb dX12_arguments_77 rfl ?_
            refine wmgI_43 (v := (gI σ 43)) S X mG_2159 rfl dX12_arguments_78 ?_
            refine lv_iconst (v := 1) hx hb dX12_arguments_81 (by decide) ?_
            refine lv_iadd hx hb dX12_arguments_82 ?_
            refine wmpI_43 S X mG_2159 dX12_arguments_83 (fun H locs X => ?_)
            refine lv_aload_n hx hb dX12_arguments_86 rfl (lv_at hl 0 rfl) ?_
            refine lv_bipush (v := 6) hx hb dX12_arguments_87 (by decide) ?_
            refine lv_iload_n hx hb dX12_arguments_89 rfl (lv_at hl 1 rfl) ?_
            refine lv_iload hx hb dX12_arguments_90 (lv_at hl 5 rfl) ?_
            obtain ⟨r92, τ92, hq92, hg⟩ := bd_some hg
            refine gc_Vv (As := [.int 6, .int v1, .int v6]) (rest := []) (q0 := 0) (ci := 15) S X (k2_X12_waits l dC dI ad kc hq92 H.size) cw_X12_waits mG_2811 rfl rfl rfl rfl rfl hl.1 (Nat.le_of_ble_eq_true rfl) dX12_arguments_92 ⟨by omega, by omega⟩ (fun H locs X => ?_)
            refine lv_aload_n hx hb dX12_arguments_95 rfl (lv_at hl 0 rfl) ?_
            refine lv_aload_n hx hb dX12_arguments_96 rfl (lv_at hl 0 rfl) ?_
            refine lv_iload_n hx hb dX12_arguments_97 rfl (lv_at hl 1 rfl) ?_
            refine lv_iconst (v := 1) hx hb dX12_arguments_98 (by decide) ?_
            refine lv_iload hx hb dX12_arguments_99 (lv_at hl 5 rfl) ?_
            refine lv_iadd hx hb dX12_arguments_101 ?_
            obtain ⟨r102, τ102, hq102, hg⟩ := bd_some hg
            refine gc_Vi (As := [.int v1, .int (1 + v6)]) (rest := [.ref (ad 0)]) (q0 := 0) (ci := 15) S X (k2_X12_child l dC dI ad kc hq102 H.size) cw_X12_child mG_2736 rfl rfl rfl rfl rfl hl.1 (Nat.le_of_ble_eq_true rfl) dX12_arguments_102 ⟨by omega, by omega⟩ (fun H locs X => ?_)
            obtain ⟨r105, τ105, hq105, hg⟩ := bd_some hg
            refine gc_Vv (As := [.int r102]) (rest := []) (q0 := 0) (ci := 15) S X (k2_X12_evaluate l dC dI ad kc hq105 H.size) cw_X12_evaluate mG_2819 rfl rfl rfl rfl rfl hl.1 (Nat.le_of_ble_eq_true rfl) dX12_arguments_105 ⟨by omega, by omega⟩ (fun H locs X => ?_)
            obtain ⟨-, rfl⟩ := fin_some hg
            exact gr_v S hr hk X dX12_arguments_108
set_option maxHeartbeats 4000000 in
set_option maxRecDepth 100000 in
theorem w_X12_arguments_L33 (S : CallFix p m c cX12_arguments 7 s args uG RX12) (hr : meth.sig.returnType = none) (hk : meth.locks = false) (hR : 5 ≤ R.frames ∧ 118 ≤ R.locals) : ∀ (n : Nat) (v1 : Int32) (v3 : Int32) (v4 : Int32) (v5 : Int32) (v6 : Int32) (σ : S5) (H : Heap) (locs : List Loc) (ls : Array Slot), gX (dC, dI) (tM kc) (wM ad kc) Z A s σ H locs → lv_has ls 7 [(0, .ref (ad 0)), (1, .int v1), (3, .int v3), (4, .int v4), (5, .int v5), (6, .int v6)] → f_X12_arguments_L33  n v1 v3 v4 v5 v6 σ = some (r, τ) → W p l e R s m args below meth c H locs 0 0 (MQ below (gQv (dC, dI) (tM kc) (wM ad kc) A r τ) args s 0 0 A) (F0 m 33 ls []) := by
  intro n
  induction n with
  | zero => intro v1 v3 v4 v5 v6 σ H locs ls X hl hg; cases hg
  | succ n ih => intro v1 v3 v4 v5 v6 σ H locs ls X hl hg; exact w_X12_arguments_B33 S hr hk hR ih X hl hg
set_option maxHeartbeats 4000000 in
set_option maxRecDepth 100000 in
theorem w_X12_arguments {σ : S5} {a1 : Int32} {a2 : Int32} {H : Heap} {locs : List Loc} {ls : Array Slot} (S : CallFix p m c cX12_arguments 7 s args uG RX12) (hr : meth.sig.returnType = none) (hk : meth.locks = false) (hR : 5 ≤ R.frames ∧ 118 ≤ R.locals)
    (X : gX (dC, dI) (tM kc) (wM ad kc) Z A s σ H locs) (hl : lv_has ls 7 [(0, .ref (ad 0)), (1, .int a1), (2, .int a2)]) (hg : f_X12_arguments a1 a2 σ = some (r, τ)) : W p l e R s m args below meth c H locs 0 0 (MQ below (gQv (dC, dI) (tM kc) (wM ad kc) A r τ) args s 0 0 A) (F0 m 0 ls []) := by
  have hx := S.1
  have hb := S.2.1
  have hown := S.2.2.2.1
  have hu := S.2.2.2.2
  unfold f_X12_arguments at hg
  refine lv_aload_n hx hb dX12_arguments_0 rfl (lv_at hl 0 rfl) ?_
  refine wmgR_0_65 S X mG_2115 dX12_arguments_1 ?_
  refine lv_aload_n hx hb dX12_arguments_4 rfl (lv_at hl 0 rfl) ?_
  refine lv_iload_n hx hb dX12_arguments_5 rfl (lv_at hl 1 rfl) ?_
  refine lv_iconst (v := 0) hx hb dX12_arguments_6 (by decide) ?_
  obtain ⟨r7, τ7, hq7, hg⟩ := bd_some hg
  refine gc_Vi (As := [.int a1, .int 0]) (rest := [.ref (ad 38)]) (q0 := 0) (ci := 15) S X (k2_X12_child l dC dI ad kc hq7 H.size) cw_X12_child mG_2736 rfl rfl rfl rfl rfl hl.1 (Nat.le_of_ble_eq_true rfl) dX12_arguments_7 ⟨by omega, by omega⟩ (fun H locs X => ?_)
  obtain ⟨hi10, hg⟩ := gd_some hg
  refine wmlA_32 (v := (xA τ7 32 r7)) S X hi10 rfl dX12_arguments_10 ?_
  refine lv_istore_n (lv' := [(3, .int (xA τ7 32 r7)), (0, .ref (ad 0)), (1, .int a1), (2, .int a2)]) hx hb dX12_arguments_11 rfl hl (by decide) rfl (fun ls hl => ?_)
  refine lv_aload_n hx hb dX12_arguments_12 rfl (lv_at hl 1 rfl) ?_
  refine wmgR_0_82 S X mG_2132 dX12_arguments_13 ?_
  refine lv_iload_n hx hb dX12_arguments_16 rfl (lv_at hl 0 rfl) ?_
  obtain ⟨hi17, hg⟩ := gd_some hg
  refine wmlA_47 (v := (xA τ7 47 (xA τ7 32 r7))) S X hi17 rfl dX12_arguments_17 ?_
  refine lv_istore (lv' := [(4, .int (xA τ7 47 (xA τ7 32 r7))), (3, .int (xA τ7 32 r7)), (0, .ref (ad 0)), (1, .int a1), (2, .int a2)]) hx hb dX12_arguments_18 hl (by decide) rfl (fun ls hl => ?_)
  refine lv_aload_n hx hb dX12_arguments_20 rfl (lv_at hl 2 rfl) ?_
  refine wmgR_0_67 S X mG_2117 dX12_arguments_21 ?_
  refine lv_iload_n hx hb dX12_arguments_24 rfl (lv_at hl 3 rfl) ?_
  obtain ⟨hi25, hg⟩ := gd_some hg
  refine wmlA_34 (v := (xA τ7 34 a1)) S X hi25 rfl dX12_arguments_25 ?_
  refine lv_iconst (v := 1) hx hb dX12_arguments_26 (by decide) ?_
  refine lv_isub hx hb dX12_arguments_27 ?_
  refine lv_istore (lv' := [(5, .int ((xA τ7 34 a1) - 1)), (4, .int (xA τ7 47 (xA τ7 32 r7))), (3, .int (xA τ7 32 r7)), (0, .ref (ad 0)), (1, .int a1), (2, .int a2)]) hx hb dX12_arguments_28 hl (by decide) rfl (fun ls hl => ?_)
  refine lv_iload_n hx hb dX12_arguments_30 rfl (lv_at hl 5 rfl) ?_
  refine lv_istore (lv' := [(6, .int a2), (5, .int ((xA τ7 34 a1) - 1)), (4, .int (xA τ7 47 (xA τ7 32 r7))), (3, .int (xA τ7 32 r7)), (0, .ref (ad 0)), (1, .int a1), (2, .int a2)]) hx hb dX12_arguments_31 hl (by decide) rfl (fun ls hl => ?_)
  exact w_X12_arguments_L33 S hr hk hR _ _ _ _ _ _ _ _ _ _ X (lv_sub hl [4, 5, 3, 2, 1, 0] rfl) hg
end MX12_arguments
set_option maxRecDepth 100000 in
theorem k2_X12_arguments (l : Launch) (dC : Nat → ClassId) (dI : Nat → Nat → Nat) {Z : ZZ} (ad : Nat → Nat) (kc : Nat → ClassId) {σ τ : S5} {a1 : Int32} {a2 : Int32} {r : Unit} (hg : f_X12_arguments a1 a2 σ = some (r, τ)) (sz : Nat) : Met l yX12_arguments (Cond.code yX12_arguments cX12_arguments 7 none :: uG) { frames := 5, cells := 0, slots := 0, locals := 118 } (gPc (dC, dI) (tM kc) (wM ad kc) Z [.ref (ad 0), .int a1, .int a2] σ sz) (gQv (dC, dI) (tM kc) (wM ad kc) (va_A (wM ad kc σ) sz) r τ) 0 0 (va_A (wM ad kc σ) sz) :=
  g_start (by decide) (Nat.le_of_ble_eq_true rfl) (fun p e s m below meth c ls S hr hk X hl => w_X12_arguments S hr hk ⟨Nat.le_refl _, Nat.le_refl _⟩ X hl hg)
section MX12_workApplication
variable {p : Program} {l : Launch} {e : Env} {R : Room} {s : State} {m : MethodId} {args : Array Value} {below : List Frame} {meth : Method} {c : Code} {dC : Nat → ClassId} {dI : Nat → Nat → Nat} {Z : ZZ} {A : Nat → Prop} {ad : Nat → Nat} {kc : Nat → ClassId} {r : Unit} {τ : S5}
set_option maxHeartbeats 4000000 in
set_option maxRecDepth 100000 in
theorem w_X12_workApplication_b117 {σ : S5} {v2 : Int32} {v3 : Int32} {H : Heap} {locs : List Loc} {ls : Array Slot} (S : CallFix p m c cX12_workApplication 6 s args uG RX12) (hr : meth.sig.returnType = none) (hk : meth.locks = false) (hR : 6 ≤ R.frames ∧ 144 ≤ R.locals)
    (X : gX (dC, dI) (tM kc) (wM ad kc) Z A s σ H locs) (hl : lv_has ls 6 [(0, .ref (ad 0)), (2, .int v2), (3, .int v3)]) (hg : f_X12_workApplication_b117 v2 v3 σ = some (r, τ)) : W p l e R s m args below meth c H locs 0 0 (MQ below (gQv (dC, dI) (tM kc) (wM ad kc) A r τ) args s 0 0 A) (F0 m 117 ls []) := by
  have hx := S.1
  have hb := S.2.1
  have hown := S.2.2.2.1
  have hu := S.2.2.2.2
  unfold f_X12_workApplication_b117 at hg
  refine lv_aload_n hx hb dX12_workApplication_117 rfl (lv_at hl 0 rfl) ?_
  refine lv_bipush (v := 7) hx hb dX12_workApplication_118 (by decide) ?_
  refine lv_iconst (v := 0) hx hb dX12_workApplication_120 (by decide) ?_
  refine lv_iload_n hx hb dX12_workApplication_121 rfl (lv_at hl 2 rfl) ?_
  obtain ⟨r122, τ122, hq122, hg⟩ := bd_some hg
  refine gc_Vv (As := [.int 7, .int 0, .int v3]) (rest := []) (q0 := 0) (ci := 15) S X (k2_X12_waits l dC dI ad kc hq122 H.size) cw_X12_waits mG_2811 rfl rfl rfl rfl rfl hl.1 (Nat.le_of_ble_eq_true rfl) dX12_workApplication_122 ⟨by omega, by omega⟩ (fun H locs X => ?_)
  refine lv_aload_n hx hb dX12_workApplication_125 rfl (lv_at hl 0 rfl) ?_
  refine lv_iload_n hx hb dX12_workApplication_126 rfl (lv_at hl 1 rfl) ?_
  obtain ⟨r127, τ127, hq127, hg⟩ := bd_some hg
  refine gc_Vv (As := [.int v2]) (rest := []) (q0 := 0) (ci := 15) S X (k2_X12_evaluate l dC dI ad kc hq127 H.size) cw_X12_evaluate mG_2819 rfl rfl rfl rfl rfl hl.1 (Nat.le_of_ble_eq_true rfl) dX12_workApplication_127 ⟨by omega, by omega⟩ (fun H locs X => ?_)
  obtain ⟨-, rfl⟩ := fin_some hg
  exact gr_v S hr hk X dX12_workApplication_130
set_option maxHeartbeats 4000000 in
set_option maxRecDepth 100000 in
theorem w_X12_workApplication_B81 {σ : S5} {rec81 : Int32 → Int32 → Int32 → Int32 → S5 → Option (Unit × S5)} {v1 : Int32} {v2 : Int32} {v3 : Int32} {v5 : Int32} {H : Heap} {locs : List Loc} {ls : Array Slot} (S : CallFix p m c cX12_workApplication 6 s args uG RX12) (hr : meth.sig.returnType = none) (hk : meth.locks = false) (hR : 6 ≤ R.frames ∧ 144 ≤ R.locals)
    (hrec81 : ∀ (v1 : Int32) (v2 : Int32) (v3 : Int32) (v5 : Int32) (σ : S5) (H : Heap) (locs : List Loc) (ls : Array Slot), gX (dC, dI) (tM kc) (wM ad kc) Z A s σ H locs → lv_has ls 6 [(0, .ref (ad 0)), (1, .int v1), (2, .int v2), (3, .int v3), (5, .int v5)] → rec81 v1 v2 v3 v5 σ = some (r, τ) → W p l e R s m args below meth c H locs 0 0 (MQ below (gQv (dC, dI) (tM kc) (wM ad kc) A r τ) args s 0 0 A) (F0 m 81 ls []))
    (X : gX (dC, dI) (tM kc) (wM ad kc) Z A s σ H locs) (hl : lv_has ls 6 [(0, .ref (ad 0)), (1, .int v1), (2, .int v2), (3, .int v3), (5, .int v5)]) (hg : f_X12_workApplication_B81 rec81 v1 v2 v3 v5 σ = some (r, τ)) : W p l e R s m args below meth c H locs 0 0 (MQ below (gQv (dC, dI) (tM kc) (wM ad kc) A r τ) args s 0 0 A) (F0 m 81 ls []) := by
  have hx := S.1
  have hb := S.2.1
  have hown := S.2.2.2.1
  have hu := S.2.2.2.2
  unfold f_X12_workApplication_B81 at hg
  refine lv_iload hx hb dX12_workApplication_81 (lv_at hl 4 rfl) ?_
  refine lv_iload_n hx hb dX12_workApplication_83 rfl (lv_at hl 3 rfl) ?_
  refine lv_icmp_ge (tgt := 117) hx hb dX12_workApplication_84 (by decide) (fun c84 => ?_) (fun c84 => ?_)
  · have hg := (if_pos c84).symm.trans hg
    exact w_X12_workApplication_b117 S hr hk hR X (lv_sub hl [0, 2, 3] rfl) hg
  · have hg := (if_neg c84).symm.trans hg
    refine lv_aload_n hx hb dX12_workApplication_87 rfl (lv_at hl 0 rfl) ?_
    refine wmgI_44 (v := (gI σ 44)) S X mG_2161 rfl dX12_workApplication_88 ?_
    refine lv_if_ne (tgt := 117) hx hb dX12_workApplication_91 (by decide) (fun c91 => ?_) (fun c91 => ?_)
    · have hg := (if_neg c91).symm.trans hg
      exact w_X12_workApplication_b117 S hr hk hR X (lv_sub hl [0, 2, 3] rfl) hg
    · have hg := (if_pos c91).symm.trans hg
      refine lv_aload_n hx hb dX12_workApplication_94 rfl (lv_at hl 0 rfl) ?_
      refine lv_aload_n hx hb dX12_workApplication_95 rfl (lv_at hl 0 rfl) ?_
      refine lv_aload_n hx hb dX12_workApplication_96 rfl (lv_at hl 0 rfl) ?_
      refine lv_iload_n hx hb dX12_workApplication_97 rfl (lv_at hl 1 rfl) ?_
      refine lv_iconst (v := 1) hx hb dX12_workApplication_98 (by decide) ?_
      refine lv_iload hx hb dX12_workApplication_99 (lv_at hl 4 rfl) ?_
      refine lv_iadd hx hb dX12_workApplication_101 ?_
      obtain ⟨r102, τ102, hq102, hg⟩ := bd_some hg
      refine gc_Vi (As := [.int v1, .int (1 + v5)]) (rest := [.ref (ad 0), .ref (ad 0)]) (q0 := 0) (ci := 15) S X (k2_X12_child l dC dI ad kc hq102 H.size) cw_X12_child mG_2736 rfl rfl rfl rfl rfl hl.1 (Nat.le_of_ble_eq_true rfl) dX12_workApplication_102 ⟨by omega, by omega⟩ (fun H locs X => ?_)
      obtain ⟨r105, τ105, hq105, hg⟩ := bd_some hg
      refine gc_Vl (As := [.int r102]) (rest := [.ref (ad 0)]) (q0 := 0) (ci := 15) S X (k2_X12_keep l dC dI ad kc hq105 H.size) cw_X12_keep mG_2844 rfl rfl rfl rfl rfl hl.1 (Nat.le_of_ble_eq_true rfl) dX12_workApplication_105 ⟨by omega, by omega⟩ (fun H locs X => ?_)
      obtain ⟨r108, τ108, hq108, hg⟩ := bd_some hg
      refine gc_Vv (As := [.long r105]) (rest := []) (q0 := 0) (ci := 15) S X (k2_X12_push l dC dI ad kc hq108 H.size) cw_X12_push mG_2828 rfl rfl rfl rfl rfl hl.1 (Nat.le_of_ble_eq_true rfl) dX12_workApplication_108 ⟨by omega, by omega⟩ (fun H locs X => ?_)
      refine lv_iinc (v := (v5 + 1)) (lv' := [(5, .int (v5 + 1)), (0, .ref (ad 0)), (1, .int v1), (2, .int v2), (3, .int v3)]) hx hb dX12_workApplication_111 hl (k := 4) rfl (by rfl) (by decide) rfl (fun ls hl => ?_)
      refine lv_goto (tgt := 81) hx hb dX12_workApplication_114 (by decide) ?_
      exact hrec81 _ _ _ _ _ _ _ _ X (lv_sub hl [1, 2, 3, 4, 0] rfl) hg
set_option maxHeartbeats 4000000 in
set_option maxRecDepth 100000 in
theorem w_X12_workApplication_L81 (S : CallFix p m c cX12_workApplication 6 s args uG RX12) (hr : meth.sig.returnType = none) (hk : meth.locks = false) (hR : 6 ≤ R.frames ∧ 144 ≤ R.locals) : ∀ (n : Nat) (v1 : Int32) (v2 : Int32) (v3 : Int32) (v5 : Int32) (σ : S5) (H : Heap) (locs : List Loc) (ls : Array Slot), gX (dC, dI) (tM kc) (wM ad kc) Z A s σ H locs → lv_has ls 6 [(0, .ref (ad 0)), (1, .int v1), (2, .int v2), (3, .int v3), (5, .int v5)] → f_X12_workApplication_L81  n v1 v2 v3 v5 σ = some (r, τ) → W p l e R s m args below meth c H locs 0 0 (MQ below (gQv (dC, dI) (tM kc) (wM ad kc) A r τ) args s 0 0 A) (F0 m 81 ls []) := by
  intro n
  induction n with
  | zero => intro v1 v2 v3 v5 σ H locs ls X hl hg; cases hg
  | succ n ih => intro v1 v2 v3 v5 σ H locs ls X hl hg; exact w_X12_workApplication_B81 S hr hk hR ih X hl hg
set_option maxHeartbeats 4000000 in
set_option maxRecDepth 100000 in
theorem w_X12_workApplication_b42 {σ : S5} {v1 : Int32} {v2 : Int32} {v3 : Int32} {u0 : Int32} {H : Heap} {locs : List Loc} {ls : Array Slot} (S : CallFix p m c cX12_workApplication 6 s args uG RX12) (hr : meth.sig.returnType = none) (hk : meth.locks = false) (hR : 6 ≤ R.frames ∧ 144 ≤ R.locals)
    (X : gX (dC, dI) (tM kc) (wM ad kc) Z A s σ H locs) (hl : lv_has ls 6 [(0, .ref (ad 0)), (1, .int v1), (2, .int v2), (3, .int v3)]) (hg : f_X12_workApplication_b42 v1 v2 v3 u0 σ = some (r, τ)) : W p l e R s m args below meth c H locs 0 0 (MQ below (gQv (dC, dI) (tM kc) (wM ad kc) A r τ) args s 0 0 A) (F0 m 42 ls [.int u0]) := by
  have hx := S.1
  have hb := S.2.1
  have hown := S.2.2.2.1
  have hu := S.2.2.2.2
  unfold f_X12_workApplication_b42 at hg
  refine lv_istore (lv' := [(4, .int u0), (0, .ref (ad 0)), (1, .int v1), (2, .int v2), (3, .int v3)]) hx hb dX12_workApplication_42 hl (by decide) rfl (fun ls hl => ?_)
  refine lv_aload_n hx hb dX12_workApplication_44 rfl (lv_at hl 1 rfl) ?_
  refine lv_iload_n hx hb dX12_workApplication_45 rfl (lv_at hl 2 rfl) ?_
  obtain ⟨r46, τ46, hq46, hg⟩ := bd_some hg
  refine gc_Vi (As := [.int v1]) (rest := []) (q0 := 0) (ci := 15) S X (k2_X12_isLess l dC dI ad kc hq46 H.size) cw_X12_isLess mG_2856 rfl rfl rfl rfl rfl hl.1 (Nat.le_of_ble_eq_true rfl) dX12_workApplication_46 ⟨by omega, by omega⟩ (fun H locs X => ?_)
  refine lv_if_eq (tgt := 64) hx hb dX12_workApplication_49 (by decide) (fun c49 => ?_) (fun c49 => ?_)
  · have hg := (if_pos c49).symm.trans hg
    refine lv_iload hx hb dX12_workApplication_64 (lv_at hl 0 rfl) ?_
    refine lv_if_le (tgt := 78) hx hb dX12_workApplication_66 (by decide) (fun c66 => ?_) (fun c66 => ?_)
    · have hg := (if_pos c66).symm.trans hg
      refine lv_iconst (v := 0) hx hb dX12_workApplication_78 (by decide) ?_
      refine lv_istore (lv' := [(5, .int 0), (4, .int u0), (0, .ref (ad 0)), (1, .int v1), (2, .int v2), (3, .int v3)]) hx hb dX12_workApplication_79 hl (by decide) rfl (fun ls hl => ?_)
      exact w_X12_workApplication_L81 S hr hk hR _ _ _ _ _ _ _ _ _ X (lv_sub hl [2, 3, 4, 5, 0] rfl) hg
    · have hg := (if_neg c66).symm.trans hg
      refine lv_aload_n hx hb dX12_workApplication_69 rfl (lv_at hl 1 rfl) ?_
      refine lv_iload_n hx hb dX12_workApplication_70 rfl (lv_at hl 2 rfl) ?_
      refine lv_iconst (v := 0) hx hb dX12_workApplication_71 (by decide) ?_
      obtain ⟨r72, τ72, hq72, hg⟩ := bd_some hg
      refine gc_Vv (As := [.int v1, .int 0]) (rest := []) (q0 := 0) (ci := 15) S X (k2_X12_arguments l dC dI ad kc hq72 H.size) cw_X12_arguments mG_2840 rfl rfl rfl rfl rfl hl.1 (Nat.le_of_ble_eq_true rfl) dX12_workApplication_72 ⟨by omega, by omega⟩ (fun H locs X => ?_)
      refine lv_goto (tgt := 130) hx hb dX12_workApplication_75 (by decide) ?_
      obtain ⟨-, rfl⟩ := fin_some hg
      exact gr_v S hr hk X dX12_workApplication_130
  · have hg := (if_neg c49).symm.trans hg
    refine lv_aload_n hx hb dX12_workApplication_52 rfl (lv_at hl 1 rfl) ?_
    refine lv_aload_n hx hb dX12_workApplication_53 rfl (lv_at hl 1 rfl) ?_
    refine lv_iload_n hx hb dX12_workApplication_54 rfl (lv_at hl 2 rfl) ?_
    obtain ⟨r55, τ55, hq55, hg⟩ := bd_some hg
    refine gc_Vl (As := [.int v1]) (rest := [.ref (ad 0)]) (q0 := 0) (ci := 15) S X (k2_X12_keep l dC dI ad kc hq55 H.size) cw_X12_keep mG_2844 rfl rfl rfl rfl rfl hl.1 (Nat.le_of_ble_eq_true rfl) dX12_workApplication_55 ⟨by omega, by omega⟩ (fun H locs X => ?_)
    obtain ⟨r58, τ58, hq58, hg⟩ := bd_some hg
    refine gc_Vv (As := [.long r55]) (rest := []) (q0 := 0) (ci := 15) S X (k2_X12_gives l dC dI ad kc hq58 H.size) cw_X12_gives mG_2804 rfl rfl rfl rfl rfl hl.1 (Nat.le_of_ble_eq_true rfl) dX12_workApplication_58 ⟨by omega, by omega⟩ (fun H locs X => ?_)
    refine lv_goto (tgt := 130) hx hb dX12_workApplication_61 (by decide) ?_
    obtain ⟨-, rfl⟩ := fin_some hg
    exact gr_v S hr hk X dX12_workApplication_130
set_option maxHeartbeats 4000000 in
set_option maxRecDepth 100000 in
theorem w_X12_workApplication {σ : S5} {a1 : Int32} {H : Heap} {locs : List Loc} {ls : Array Slot} (S : CallFix p m c cX12_workApplication 6 s args uG RX12) (hr : meth.sig.returnType = none) (hk : meth.locks = false) (hR : 6 ≤ R.frames ∧ 144 ≤ R.locals)
    (X : gX (dC, dI) (tM kc) (wM ad kc) Z A s σ H locs) (hl : lv_has ls 6 [(0, .ref (ad 0)), (1, .int a1)]) (hg : f_X12_workApplication a1 σ = some (r, τ)) : W p l e R s m args below meth c H locs 0 0 (MQ below (gQv (dC, dI) (tM kc) (wM ad kc) A r τ) args s 0 0 A) (F0 m 0 ls []) := by
  have hx := S.1
  have hb := S.2.1
  have hown := S.2.2.2.1
  have hu := S.2.2.2.2
  unfold f_X12_workApplication at hg
  refine lv_aload_n hx hb dX12_workApplication_0 rfl (lv_at hl 0 rfl) ?_
  refine lv_iload_n hx hb dX12_workApplication_1 rfl (lv_at hl 1 rfl) ?_
  refine lv_iconst (v := 0) hx hb dX12_workApplication_2 (by decide) ?_
  obtain ⟨r3, τ3, hq3, hg⟩ := bd_some hg
  refine gc_Vi (As := [.int a1, .int 0]) (rest := []) (q0 := 0) (ci := 15) S X (k2_X12_child l dC dI ad kc hq3 H.size) cw_X12_child mG_2736 rfl rfl rfl rfl rfl hl.1 (Nat.le_of_ble_eq_true rfl) dX12_workApplication_3 ⟨by omega, by omega⟩ (fun H locs X => ?_)
  refine lv_istore_n (lv' := [(2, .int r3), (0, .ref (ad 0)), (1, .int a1)]) hx hb dX12_workApplication_6 rfl hl (by decide) rfl (fun ls hl => ?_)
  refine lv_aload_n hx hb dX12_workApplication_7 rfl (lv_at hl 1 rfl) ?_
  refine wmgR_0_67 S X mG_2117 dX12_workApplication_8 ?_
  refine lv_iload_n hx hb dX12_workApplication_11 rfl (lv_at hl 2 rfl) ?_
  obtain ⟨hi12, hg⟩ := gd_some hg
  refine wmlA_34 (v := (xA τ3 34 a1)) S X hi12 rfl dX12_workApplication_12 ?_
  refine lv_iconst (v := 1) hx hb dX12_workApplication_13 (by decide) ?_
  refine lv_isub hx hb dX12_workApplication_14 ?_
  refine lv_istore_n (lv' := [(3, .int ((xA τ3 34 a1) - 1)), (2, .int r3), (0, .ref (ad 0)), (1, .int a1)]) hx hb dX12_workApplication_15 rfl hl (by decide) rfl (fun ls hl => ?_)
  refine lv_aload_n hx hb dX12_workApplication_16 rfl (lv_at hl 2 rfl) ?_
  refine wmgR_0_64 S X mG_2114 dX12_workApplication_17 ?_
  refine lv_iload_n hx hb dX12_workApplication_20 rfl (lv_at hl 1 rfl) ?_
  obtain ⟨hi21, hg⟩ := gd_some hg
  refine wmlA_31 (v := (xA τ3 31 r3)) S X hi21 rfl dX12_workApplication_21 ?_
  refine lv_bipush (v := 12) hx hb dX12_workApplication_22 (by decide) ?_
  refine lv_icmp_ne (tgt := 41) hx hb dX12_workApplication_24 (by decide) (fun c24 => ?_) (fun c24 => ?_)
  · have hg := (if_neg c24).symm.trans hg
    refine lv_iconst (v := 0) hx hb dX12_workApplication_41 (by decide) ?_
    exact w_X12_workApplication_b42 S hr hk hR X (lv_sub hl [2, 3, 1, 0] rfl) hg
  · have hg := (if_pos c24).symm.trans hg
    refine lv_aload_n hx hb dX12_workApplication_27 rfl (lv_at hl 2 rfl) ?_
    refine wmgR_0_82 S X mG_2132 dX12_workApplication_28 ?_
    refine lv_aload_n hx hb dX12_workApplication_31 rfl (lv_at hl 2 rfl) ?_
    refine wmgR_0_65 S X mG_2115 dX12_workApplication_32 ?_
    refine lv_iload_n hx hb dX12_workApplication_35 rfl (lv_at hl 1 rfl) ?_
    obtain ⟨hi36, hg⟩ := gd_some hg
    refine wmlA_32 (v := (xA τ3 32 r3)) S X hi36 rfl dX12_workApplication_36 ?_
    obtain ⟨hi37, hg⟩ := gd_some hg
    refine wmlA_47 (v := (xA τ3 47 (xA τ3 32 r3))) S X hi37 rfl dX12_workApplication_37 ?_
    refine lv_goto (tgt := 42) hx hb dX12_workApplication_38 (by decide) ?_
    exact w_X12_workApplication_b42 S hr hk hR X (lv_sub hl [2, 3, 1, 0] rfl) hg
end MX12_workApplication
set_option maxRecDepth 100000 in
theorem k2_X12_workApplication (l : Launch) (dC : Nat → ClassId) (dI : Nat → Nat → Nat) {Z : ZZ} (ad : Nat → Nat) (kc : Nat → ClassId) {σ τ : S5} {a1 : Int32} {r : Unit} (hg : f_X12_workApplication a1 σ = some (r, τ)) (sz : Nat) : Met l yX12_workApplication (Cond.code yX12_workApplication cX12_workApplication 6 none :: uG) { frames := 6, cells := 0, slots := 0, locals := 144 } (gPc (dC, dI) (tM kc) (wM ad kc) Z [.ref (ad 0), .int a1] σ sz) (gQv (dC, dI) (tM kc) (wM ad kc) (va_A (wM ad kc σ) sz) r τ) 0 0 (va_A (wM ad kc σ) sz) :=
  g_start (by decide) (Nat.le_of_ble_eq_true rfl) (fun p e s m below meth c ls S hr hk X hl => w_X12_workApplication S hr hk ⟨Nat.le_refl _, Nat.le_refl _⟩ X hl hg)
section MX12_workPart
variable {p : Program} {l : Launch} {e : Env} {R : Room} {s : State} {m : MethodId} {args : Array Value} {below : List Frame} {meth : Method} {c : Code} {dC : Nat → ClassId} {dI : Nat → Nat → Nat} {Z : ZZ} {A : Nat → Prop} {ad : Nat → Nat} {kc : Nat → ClassId} {r : Unit} {τ : S5}
set_option maxHeartbeats 4000000 in
set_option maxRecDepth 100000 in
theorem w_X12_workPart_b222 {σ : S5} {v1 : Int32} {H : Heap} {locs : List Loc} {ls : Array Slot} (S : CallFix p m c cX12_workPart 2 s args uG RX12) (hr : meth.sig.returnType = none) (hk : meth.locks = false) (hR : 7 ≤ R.frames ∧ 169 ≤ R.locals)
    (X : gX (dC, dI) (tM kc) (wM ad kc) Z A s σ H locs) (hl : lv_has ls 2 [(0, .ref (ad 0)), (1, .int v1)]) (hg : f_X12_workPart_b222 v1 σ = some (r, τ)) : W p l e R s m args below meth c H locs 0 0 (MQ below (gQv (dC, dI) (tM kc) (wM ad kc) A r τ) args s 0 0 A) (F0 m 222 ls []) := by
  have hx := S.1
  have hb := S.2.1
  have hown := S.2.2.2.1
  have hu := S.2.2.2.2
  unfold f_X12_workPart_b222 at hg
  refine lv_aload_n hx hb dX12_workPart_222 rfl (lv_at hl 0 rfl) ?_
  refine lv_iload_n hx hb dX12_workPart_223 rfl (lv_at hl 1 rfl) ?_
  obtain ⟨r224, τ224, hq224, hg⟩ := bd_some hg
  refine gc_Vv (As := [.int v1]) (rest := []) (q0 := 0) (ci := 15) S X (k2_X12_keepBindings l dC dI ad kc hq224 H.size) cw_X12_keepBindings mG_2883 rfl rfl rfl rfl rfl hl.1 (Nat.le_of_ble_eq_true rfl) dX12_workPart_224 ⟨by omega, by omega⟩ (fun H locs X => ?_)
  refine lv_aload_n hx hb dX12_workPart_227 rfl (lv_at hl 0 rfl) ?_
  refine lv_aload_n hx hb dX12_workPart_228 rfl (lv_at hl 0 rfl) ?_
  refine lv_iload_n hx hb dX12_workPart_229 rfl (lv_at hl 1 rfl) ?_
  refine lv_aload_n hx hb dX12_workPart_230 rfl (lv_at hl 0 rfl) ?_
  refine wmgR_0_65 S X mG_2115 dX12_workPart_231 ?_
  refine lv_iload_n hx hb dX12_workPart_234 rfl (lv_at hl 1 rfl) ?_
  obtain ⟨hi235, hg⟩ := gd_some hg
  refine wmlA_32 (v := (xA τ224 32 v1)) S X hi235 rfl dX12_workPart_235 ?_
  obtain ⟨r236, τ236, hq236, hg⟩ := bd_some hg
  refine gc_Vi (As := [.int v1, .int (xA τ224 32 v1)]) (rest := [.ref (ad 0)]) (q0 := 0) (ci := 15) S X (k2_X12_child l dC dI ad kc hq236 H.size) cw_X12_child mG_2736 rfl rfl rfl rfl rfl hl.1 (Nat.le_of_ble_eq_true rfl) dX12_workPart_236 ⟨by omega, by omega⟩ (fun H locs X => ?_)
  obtain ⟨r239, τ239, hq239, hg⟩ := bd_some hg
  refine gc_Vv (As := [.int r236]) (rest := []) (q0 := 0) (ci := 15) S X (k2_X12_evaluate l dC dI ad kc hq239 H.size) cw_X12_evaluate mG_2819 rfl rfl rfl rfl rfl hl.1 (Nat.le_of_ble_eq_true rfl) dX12_workPart_239 ⟨by omega, by omega⟩ (fun H locs X => ?_)
  refine lv_goto (tgt := 250) hx hb dX12_workPart_242 (by decide) ?_
  obtain ⟨-, rfl⟩ := fin_some hg
  exact gr_v S hr hk X dX12_workPart_250
set_option maxHeartbeats 4000000 in
set_option maxRecDepth 100000 in
theorem w_X12_workPart {σ : S5}  {H : Heap} {locs : List Loc} {ls : Array Slot} (S : CallFix p m c cX12_workPart 2 s args uG RX12) (hr : meth.sig.returnType = none) (hk : meth.locks = false) (hR : 7 ≤ R.frames ∧ 169 ≤ R.locals)
    (X : gX (dC, dI) (tM kc) (wM ad kc) Z A s σ H locs) (hl : lv_has ls 2 [(0, .ref (ad 0))]) (hg : f_X12_workPart  σ = some (r, τ)) : W p l e R s m args below meth c H locs 0 0 (MQ below (gQv (dC, dI) (tM kc) (wM ad kc) A r τ) args s 0 0 A) (F0 m 0 ls []) := by
  have hx := S.1
  have hb := S.2.1
  have hown := S.2.2.2.1
  have hu := S.2.2.2.2
  unfold f_X12_workPart at hg
  refine lv_aload_n hx hb dX12_workPart_0 rfl (lv_at hl 0 rfl) ?_
  refine wmgI_52 (v := (gI σ 52)) S X mG_2175 rfl dX12_workPart_1 ?_
  refine lv_istore_n (lv' := [(1, .int (gI σ 52)), (0, .ref (ad 0))]) hx hb dX12_workPart_4 rfl hl (by decide) rfl (fun ls hl => ?_)
  refine lv_aload_n hx hb dX12_workPart_5 rfl (lv_at hl 1 rfl) ?_
  refine wmgR_0_64 S X mG_2114 dX12_workPart_6 ?_
  refine lv_iload_n hx hb dX12_workPart_9 rfl (lv_at hl 0 rfl) ?_
  obtain ⟨hi10, hg⟩ := gd_some hg
  refine wmlA_31 (v := (xA σ 31 (gI σ 52))) S X hi10 rfl dX12_workPart_10 ?_
  rcases sw_0_13 ((xA σ 31 (gI σ 52))) with hsw | hsw | hsw | hsw | hsw | hsw | hsw | hsw | hsw | hsw | hsw | hsw | hsw | hsw | hsw
  · refine lv_tableOut (tgt := 245) hx hb dX12_workPart_11 hsw (by decide) ?_
    obtain ⟨hs0, hs1, hs2, hs3, hs4, hs5, hs6, hs7, hs8, hs9, hs10, hs11, hs12, hs13⟩ := swo_0_13 hsw
    have hg := (if_neg hs0).symm.trans hg
    have hg := (if_neg hs1).symm.trans hg
    have hg := (if_neg hs2).symm.trans hg
    have hg := (if_neg hs3).symm.trans hg
    have hg := (if_neg hs4).symm.trans hg
    have hg := (if_neg hs5).symm.trans hg
    have hg := (if_neg hs6).symm.trans hg
    have hg := (if_neg hs7).symm.trans hg
    have hg := (if_neg hs8).symm.trans hg
    have hg := (if_neg hs9).symm.trans hg
    have hg := (if_neg hs10).symm.trans hg
    have hg := (if_neg hs11).symm.trans hg
    have hg := (if_neg hs12).symm.trans hg
    have hg := (if_neg hs13).symm.trans hg
    refine lv_aload_n hx hb dX12_workPart_245 rfl (lv_at hl 1 rfl) ?_
    refine lv_iload_n hx hb dX12_workPart_246 rfl (lv_at hl 0 rfl) ?_
    obtain ⟨r247, τ247, hq247, hg⟩ := bd_some hg
    refine gc_Vv (As := [.int (gI σ 52)]) (rest := []) (q0 := 0) (ci := 15) S X (k2_X12_workApplication l dC dI ad kc hq247 H.size) cw_X12_workApplication mG_2887 rfl rfl rfl rfl rfl hl.1 (Nat.le_of_ble_eq_true rfl) dX12_workPart_247 ⟨by omega, by omega⟩ (fun H locs X => ?_)
    obtain ⟨-, rfl⟩ := fin_some hg
    exact gr_v S hr hk X dX12_workPart_250
  · refine lv_tableIn (off := 165) (tgt := 176) hx hb dX12_workPart_11 (by rw [hsw]; decide) (by rw [hsw]; decide) (by rw [hsw]; decide) (by decide) ?_
    have hg := (if_pos hsw).symm.trans hg
    refine lv_aload_n hx hb dX12_workPart_176 rfl (lv_at hl 1 rfl) ?_
    refine wmgI_47 (v := (gI σ 47)) S X mG_2165 rfl dX12_workPart_177 ?_
    refine lv_if_eq (tgt := 222) hx hb dX12_workPart_180 (by decide) (fun c180 => ?_) (fun c180 => ?_)
    · have hg := (if_pos c180).symm.trans hg
      exact w_X12_workPart_b222 S hr hk hR X (lv_sub hl [1, 0] rfl) hg
    · have hg := (if_neg c180).symm.trans hg
      refine lv_aload_n hx hb dX12_workPart_183 rfl (lv_at hl 1 rfl) ?_
      refine wmgR_0_69 S X mG_2119 dX12_workPart_184 ?_
      refine lv_iload_n hx hb dX12_workPart_187 rfl (lv_at hl 0 rfl) ?_
      obtain ⟨hi188, hg⟩ := gd_some hg
      refine wmlA_36 (v := (xA σ 36 (gI σ 52))) S X hi188 rfl dX12_workPart_188 ?_
      refine lv_if_eq (tgt := 222) hx hb dX12_workPart_189 (by decide) (fun c189 => ?_) (fun c189 => ?_)
      · have hg := (if_pos c189).symm.trans hg
        exact w_X12_workPart_b222 S hr hk hR X (lv_sub hl [1, 0] rfl) hg
      · have hg := (if_neg c189).symm.trans hg
        refine lv_aload_n hx hb dX12_workPart_192 rfl (lv_at hl 1 rfl) ?_
        refine lv_dup hx hb dX12_workPart_193 rfl ?_
        refine wmgI_43 (v := (gI σ 43)) S X mG_2159 rfl dX12_workPart_194 ?_
        refine lv_iconst (v := 1) hx hb dX12_workPart_197 (by decide) ?_
        refine lv_iadd hx hb dX12_workPart_198 ?_
        refine wmpI_43 S X mG_2159 dX12_workPart_199 (fun H locs X => ?_)
        refine lv_aload_n hx hb dX12_workPart_202 rfl (lv_at hl 1 rfl) ?_
        refine lv_iconst (v := 5) hx hb dX12_workPart_203 (by decide) ?_
        refine lv_iload_n hx hb dX12_workPart_204 rfl (lv_at hl 0 rfl) ?_
        refine lv_iconst (v := 0) hx hb dX12_workPart_205 (by decide) ?_
        obtain ⟨r206, τ206, hq206, hg⟩ := bd_some hg
        refine gc_Vv (As := [.int 5, .int (gI σ 52), .int 0]) (rest := []) (q0 := 0) (ci := 15) S X (k2_X12_waits l dC dI ad kc hq206 H.size) cw_X12_waits mG_2811 rfl rfl rfl rfl rfl hl.1 (Nat.le_of_ble_eq_true rfl) dX12_workPart_206 ⟨by omega, by omega⟩ (fun H locs X => ?_)
        refine lv_aload_n hx hb dX12_workPart_209 rfl (lv_at hl 1 rfl) ?_
        refine lv_aload_n hx hb dX12_workPart_210 rfl (lv_at hl 1 rfl) ?_
        refine lv_iload_n hx hb dX12_workPart_211 rfl (lv_at hl 0 rfl) ?_
        refine lv_iconst (v := 0) hx hb dX12_workPart_212 (by decide) ?_
        obtain ⟨r213, τ213, hq213, hg⟩ := bd_some hg
        refine gc_Vi (As := [.int (gI σ 52), .int 0]) (rest := [.ref (ad 0)]) (q0 := 0) (ci := 15) S X (k2_X12_child l dC dI ad kc hq213 H.size) cw_X12_child mG_2736 rfl rfl rfl rfl rfl hl.1 (Nat.le_of_ble_eq_true rfl) dX12_workPart_213 ⟨by omega, by omega⟩ (fun H locs X => ?_)
        obtain ⟨r216, τ216, hq216, hg⟩ := bd_some hg
        refine gc_Vv (As := [.int r213]) (rest := []) (q0 := 0) (ci := 15) S X (k2_X12_evaluate l dC dI ad kc hq216 H.size) cw_X12_evaluate mG_2819 rfl rfl rfl rfl rfl hl.1 (Nat.le_of_ble_eq_true rfl) dX12_workPart_216 ⟨by omega, by omega⟩ (fun H locs X => ?_)
        refine lv_goto (tgt := 250) hx hb dX12_workPart_219 (by decide) ?_
        obtain ⟨-, rfl⟩ := fin_some hg
        exact gr_v S hr hk X dX12_workPart_250
  · refine lv_tableIn (off := 234) (tgt := 245) hx hb dX12_workPart_11 (by rw [hsw]; decide) (by rw [hsw]; decide) (by rw [hsw]; decide) (by decide) ?_
    have hg := (if_neg (by rw [hsw]; decide)).symm.trans hg
    have hg := (if_pos hsw).symm.trans hg
    refine lv_aload_n hx hb dX12_workPart_245 rfl (lv_at hl 1 rfl) ?_
    refine lv_iload_n hx hb dX12_workPart_246 rfl (lv_at hl 0 rfl) ?_
    obtain ⟨r247, τ247, hq247, hg⟩ := bd_some hg
    refine gc_Vv (As := [.int (gI σ 52)]) (rest := []) (q0 := 0) (ci := 15) S X (k2_X12_workApplication l dC dI ad kc hq247 H.size) cw_X12_workApplication mG_2887 rfl rfl rfl rfl rfl hl.1 (Nat.le_of_ble_eq_true rfl) dX12_workPart_247 ⟨by omega, by omega⟩ (fun H locs X => ?_)
    obtain ⟨-, rfl⟩ := fin_some hg
    exact gr_v S hr hk X dX12_workPart_250
  · refine lv_tableIn (off := 234) (tgt := 245) hx hb dX12_workPart_11 (by rw [hsw]; decide) (by rw [hsw]; decide) (by rw [hsw]; decide) (by decide) ?_
    have hg := (if_neg (by rw [hsw]; decide)).symm.trans hg
    have hg := (if_neg (by rw [hsw]; decide)).symm.trans hg
    have hg := (if_pos hsw).symm.trans hg
    refine lv_aload_n hx hb dX12_workPart_245 rfl (lv_at hl 1 rfl) ?_
    refine lv_iload_n hx hb dX12_workPart_246 rfl (lv_at hl 0 rfl) ?_
    obtain ⟨r247, τ247, hq247, hg⟩ := bd_some hg
    refine gc_Vv (As := [.int (gI σ 52)]) (rest := []) (q0 := 0) (ci := 15) S X (k2_X12_workApplication l dC dI ad kc hq247 H.size) cw_X12_workApplication mG_2887 rfl rfl rfl rfl rfl hl.1 (Nat.le_of_ble_eq_true rfl) dX12_workPart_247 ⟨by omega, by omega⟩ (fun H locs X => ?_)
    obtain ⟨-, rfl⟩ := fin_some hg
    exact gr_v S hr hk X dX12_workPart_250
  · refine lv_tableIn (off := 145) (tgt := 156) hx hb dX12_workPart_11 (by rw [hsw]; decide) (by rw [hsw]; decide) (by rw [hsw]; decide) (by decide) ?_
    have hg := (if_neg (by rw [hsw]; decide)).symm.trans hg
    have hg := (if_neg (by rw [hsw]; decide)).symm.trans hg
    have hg := (if_neg (by rw [hsw]; decide)).symm.trans hg
    have hg := (if_pos hsw).symm.trans hg
    refine lv_aload_n hx hb dX12_workPart_156 rfl (lv_at hl 1 rfl) ?_
    refine lv_iconst (v := 4) hx hb dX12_workPart_157 (by decide) ?_
    refine lv_iload_n hx hb dX12_workPart_158 rfl (lv_at hl 0 rfl) ?_
    refine lv_iconst (v := 0) hx hb dX12_workPart_159 (by decide) ?_
    obtain ⟨r160, τ160, hq160, hg⟩ := bd_some hg
    refine gc_Vv (As := [.int 4, .int (gI σ 52), .int 0]) (rest := []) (q0 := 0) (ci := 15) S X (k2_X12_waits l dC dI ad kc hq160 H.size) cw_X12_waits mG_2811 rfl rfl rfl rfl rfl hl.1 (Nat.le_of_ble_eq_true rfl) dX12_workPart_160 ⟨by omega, by omega⟩ (fun H locs X => ?_)
    refine lv_aload_n hx hb dX12_workPart_163 rfl (lv_at hl 1 rfl) ?_
    refine lv_aload_n hx hb dX12_workPart_164 rfl (lv_at hl 1 rfl) ?_
    refine lv_iload_n hx hb dX12_workPart_165 rfl (lv_at hl 0 rfl) ?_
    refine lv_iconst (v := 0) hx hb dX12_workPart_166 (by decide) ?_
    obtain ⟨r167, τ167, hq167, hg⟩ := bd_some hg
    refine gc_Vi (As := [.int (gI σ 52), .int 0]) (rest := [.ref (ad 0)]) (q0 := 0) (ci := 15) S X (k2_X12_child l dC dI ad kc hq167 H.size) cw_X12_child mG_2736 rfl rfl rfl rfl rfl hl.1 (Nat.le_of_ble_eq_true rfl) dX12_workPart_167 ⟨by omega, by omega⟩ (fun H locs X => ?_)
    obtain ⟨r170, τ170, hq170, hg⟩ := bd_some hg
    refine gc_Vv (As := [.int r167]) (rest := []) (q0 := 0) (ci := 15) S X (k2_X12_evaluate l dC dI ad kc hq170 H.size) cw_X12_evaluate mG_2819 rfl rfl rfl rfl rfl hl.1 (Nat.le_of_ble_eq_true rfl) dX12_workPart_170 ⟨by omega, by omega⟩ (fun H locs X => ?_)
    refine lv_goto (tgt := 250) hx hb dX12_workPart_173 (by decide) ?_
    obtain ⟨-, rfl⟩ := fin_some hg
    exact gr_v S hr hk X dX12_workPart_250
  · refine lv_tableIn (off := 234) (tgt := 245) hx hb dX12_workPart_11 (by rw [hsw]; decide) (by rw [hsw]; decide) (by rw [hsw]; decide) (by decide) ?_
    have hg := (if_neg (by rw [hsw]; decide)).symm.trans hg
    have hg := (if_neg (by rw [hsw]; decide)).symm.trans hg
    have hg := (if_neg (by rw [hsw]; decide)).symm.trans hg
    have hg := (if_neg (by rw [hsw]; decide)).symm.trans hg
    have hg := (if_pos hsw).symm.trans hg
    refine lv_aload_n hx hb dX12_workPart_245 rfl (lv_at hl 1 rfl) ?_
    refine lv_iload_n hx hb dX12_workPart_246 rfl (lv_at hl 0 rfl) ?_
    obtain ⟨r247, τ247, hq247, hg⟩ := bd_some hg
    refine gc_Vv (As := [.int (gI σ 52)]) (rest := []) (q0 := 0) (ci := 15) S X (k2_X12_workApplication l dC dI ad kc hq247 H.size) cw_X12_workApplication mG_2887 rfl rfl rfl rfl rfl hl.1 (Nat.le_of_ble_eq_true rfl) dX12_workPart_247 ⟨by omega, by omega⟩ (fun H locs X => ?_)
    obtain ⟨-, rfl⟩ := fin_some hg
    exact gr_v S hr hk X dX12_workPart_250
  · refine lv_tableIn (off := 125) (tgt := 136) hx hb dX12_workPart_11 (by rw [hsw]; decide) (by rw [hsw]; decide) (by rw [hsw]; decide) (by decide) ?_
    have hg := (if_neg (by rw [hsw]; decide)).symm.trans hg
    have hg := (if_neg (by rw [hsw]; decide)).symm.trans hg
    have hg := (if_neg (by rw [hsw]; decide)).symm.trans hg
    have hg := (if_neg (by rw [hsw]; decide)).symm.trans hg
    have hg := (if_neg (by rw [hsw]; decide)).symm.trans hg
    have hg := (if_pos hsw).symm.trans hg
    refine lv_aload_n hx hb dX12_workPart_136 rfl (lv_at hl 1 rfl) ?_
    refine lv_iconst (v := 2) hx hb dX12_workPart_137 (by decide) ?_
    refine lv_iload_n hx hb dX12_workPart_138 rfl (lv_at hl 0 rfl) ?_
    refine lv_iconst (v := 0) hx hb dX12_workPart_139 (by decide) ?_
    obtain ⟨r140, τ140, hq140, hg⟩ := bd_some hg
    refine gc_Vv (As := [.int 2, .int (gI σ 52), .int 0]) (rest := []) (q0 := 0) (ci := 15) S X (k2_X12_waits l dC dI ad kc hq140 H.size) cw_X12_waits mG_2811 rfl rfl rfl rfl rfl hl.1 (Nat.le_of_ble_eq_true rfl) dX12_workPart_140 ⟨by omega, by omega⟩ (fun H locs X => ?_)
    refine lv_aload_n hx hb dX12_workPart_143 rfl (lv_at hl 1 rfl) ?_
    refine lv_aload_n hx hb dX12_workPart_144 rfl (lv_at hl 1 rfl) ?_
    refine lv_iload_n hx hb dX12_workPart_145 rfl (lv_at hl 0 rfl) ?_
    refine lv_iconst (v := 0) hx hb dX12_workPart_146 (by decide) ?_
    obtain ⟨r147, τ147, hq147, hg⟩ := bd_some hg
    refine gc_Vi (As := [.int (gI σ 52), .int 0]) (rest := [.ref (ad 0)]) (q0 := 0) (ci := 15) S X (k2_X12_child l dC dI ad kc hq147 H.size) cw_X12_child mG_2736 rfl rfl rfl rfl rfl hl.1 (Nat.le_of_ble_eq_true rfl) dX12_workPart_147 ⟨by omega, by omega⟩ (fun H locs X => ?_)
    obtain ⟨r150, τ150, hq150, hg⟩ := bd_some hg
    refine gc_Vv (As := [.int r147]) (rest := []) (q0 := 0) (ci := 15) S X (k2_X12_evaluate l dC dI ad kc hq150 H.size) cw_X12_evaluate mG_2819 rfl rfl rfl rfl rfl hl.1 (Nat.le_of_ble_eq_true rfl) dX12_workPart_150 ⟨by omega, by omega⟩ (fun H locs X => ?_)
    refine lv_goto (tgt := 250) hx hb dX12_workPart_153 (by decide) ?_
    obtain ⟨-, rfl⟩ := fin_some hg
    exact gr_v S hr hk X dX12_workPart_250
  · refine lv_tableIn (off := 234) (tgt := 245) hx hb dX12_workPart_11 (by rw [hsw]; decide) (by rw [hsw]; decide) (by rw [hsw]; decide) (by decide) ?_
    have hg := (if_neg (by rw [hsw]; decide)).symm.trans hg
    have hg := (if_neg (by rw [hsw]; decide)).symm.trans hg
    have hg := (if_neg (by rw [hsw]; decide)).symm.trans hg
    have hg := (if_neg (by rw [hsw]; decide)).symm.trans hg
    have hg := (if_neg (by rw [hsw]; decide)).symm.trans hg
    have hg := (if_neg (by rw [hsw]; decide)).symm.trans hg
    have hg := (if_pos hsw).symm.trans hg
    refine lv_aload_n hx hb dX12_workPart_245 rfl (lv_at hl 1 rfl) ?_
    refine lv_iload_n hx hb dX12_workPart_246 rfl (lv_at hl 0 rfl) ?_
    obtain ⟨r247, τ247, hq247, hg⟩ := bd_some hg
    refine gc_Vv (As := [.int (gI σ 52)]) (rest := []) (q0 := 0) (ci := 15) S X (k2_X12_workApplication l dC dI ad kc hq247 H.size) cw_X12_workApplication mG_2887 rfl rfl rfl rfl rfl hl.1 (Nat.le_of_ble_eq_true rfl) dX12_workPart_247 ⟨by omega, by omega⟩ (fun H locs X => ?_)
    obtain ⟨-, rfl⟩ := fin_some hg
    exact gr_v S hr hk X dX12_workPart_250
  · refine lv_tableIn (off := 113) (tgt := 124) hx hb dX12_workPart_11 (by rw [hsw]; decide) (by rw [hsw]; decide) (by rw [hsw]; decide) (by decide) ?_
    have hg := (if_neg (by rw [hsw]; decide)).symm.trans hg
    have hg := (if_neg (by rw [hsw]; decide)).symm.trans hg
    have hg := (if_neg (by rw [hsw]; decide)).symm.trans hg
    have hg := (if_neg (by rw [hsw]; decide)).symm.trans hg
    have hg := (if_neg (by rw [hsw]; decide)).symm.trans hg
    have hg := (if_neg (by rw [hsw]; decide)).symm.trans hg
    have hg := (if_neg (by rw [hsw]; decide)).symm.trans hg
    have hg := (if_pos hsw).symm.trans hg
    refine lv_aload_n hx hb dX12_workPart_124 rfl (lv_at hl 1 rfl) ?_
    refine lv_aload_n hx hb dX12_workPart_125 rfl (lv_at hl 1 rfl) ?_
    refine lv_iload_n hx hb dX12_workPart_126 rfl (lv_at hl 0 rfl) ?_
    obtain ⟨r127, τ127, hq127, hg⟩ := bd_some hg
    refine gc_Vl (As := [.int (gI σ 52)]) (rest := [.ref (ad 0)]) (q0 := 0) (ci := 15) S X (k2_X12_keep l dC dI ad kc hq127 H.size) cw_X12_keep mG_2844 rfl rfl rfl rfl rfl hl.1 (Nat.le_of_ble_eq_true rfl) dX12_workPart_127 ⟨by omega, by omega⟩ (fun H locs X => ?_)
    obtain ⟨r130, τ130, hq130, hg⟩ := bd_some hg
    refine gc_Vv (As := [.long r127]) (rest := []) (q0 := 0) (ci := 15) S X (k2_X12_gives l dC dI ad kc hq130 H.size) cw_X12_gives mG_2804 rfl rfl rfl rfl rfl hl.1 (Nat.le_of_ble_eq_true rfl) dX12_workPart_130 ⟨by omega, by omega⟩ (fun H locs X => ?_)
    refine lv_goto (tgt := 250) hx hb dX12_workPart_133 (by decide) ?_
    obtain ⟨-, rfl⟩ := fin_some hg
    exact gr_v S hr hk X dX12_workPart_250
  · refine lv_tableIn (off := 234) (tgt := 245) hx hb dX12_workPart_11 (by rw [hsw]; decide) (by rw [hsw]; decide) (by rw [hsw]; decide) (by decide) ?_
    have hg := (if_neg (by rw [hsw]; decide)).symm.trans hg
    have hg := (if_neg (by rw [hsw]; decide)).symm.trans hg
    have hg := (if_neg (by rw [hsw]; decide)).symm.trans hg
    have hg := (if_neg (by rw [hsw]; decide)).symm.trans hg
    have hg := (if_neg (by rw [hsw]; decide)).symm.trans hg
    have hg := (if_neg (by rw [hsw]; decide)).symm.trans hg
    have hg := (if_neg (by rw [hsw]; decide)).symm.trans hg
    have hg := (if_neg (by rw [hsw]; decide)).symm.trans hg
    have hg := (if_pos hsw).symm.trans hg
    refine lv_aload_n hx hb dX12_workPart_245 rfl (lv_at hl 1 rfl) ?_
    refine lv_iload_n hx hb dX12_workPart_246 rfl (lv_at hl 0 rfl) ?_
    obtain ⟨r247, τ247, hq247, hg⟩ := bd_some hg
    refine gc_Vv (As := [.int (gI σ 52)]) (rest := []) (q0 := 0) (ci := 15) S X (k2_X12_workApplication l dC dI ad kc hq247 H.size) cw_X12_workApplication mG_2887 rfl rfl rfl rfl rfl hl.1 (Nat.le_of_ble_eq_true rfl) dX12_workPart_247 ⟨by omega, by omega⟩ (fun H locs X => ?_)
    obtain ⟨-, rfl⟩ := fin_some hg
    exact gr_v S hr hk X dX12_workPart_250
  · refine lv_tableIn (off := 92) (tgt := 103) hx hb dX12_workPart_11 (by rw [hsw]; decide) (by rw [hsw]; decide) (by rw [hsw]; decide) (by decide) ?_
    have hg := (if_neg (by rw [hsw]; decide)).symm.trans hg
    have hg := (if_neg (by rw [hsw]; decide)).symm.trans hg
    have hg := (if_neg (by rw [hsw]; decide)).symm.trans hg
    have hg := (if_neg (by rw [hsw]; decide)).symm.trans hg
    have hg := (if_neg (by rw [hsw]; decide)).symm.trans hg
    have hg := (if_neg (by rw [hsw]; decide)).symm.trans hg
    have hg := (if_neg (by rw [hsw]; decide)).symm.trans hg
    have hg := (if_neg (by rw [hsw]; decide)).symm.trans hg
    have hg := (if_neg (by rw [hsw]; decide)).symm.trans hg
    have hg := (if_pos hsw).symm.trans hg
    refine lv_aload_n hx hb dX12_workPart_103 rfl (lv_at hl 1 rfl) ?_
    refine lv_aload_n hx hb dX12_workPart_104 rfl (lv_at hl 1 rfl) ?_
    refine lv_iload_n hx hb dX12_workPart_105 rfl (lv_at hl 0 rfl) ?_
    obtain ⟨r106, τ106, hq106, hg⟩ := bd_some hg
    refine gc_Vl (As := [.int (gI σ 52)]) (rest := [.ref (ad 0)]) (q0 := 0) (ci := 15) S X (k2_X12_plain l dC dI ad kc hq106 H.size) cw_X12_plain mG_2848 rfl rfl rfl rfl rfl hl.1 (Nat.le_of_ble_eq_true rfl) dX12_workPart_106 ⟨by omega, by omega⟩ (fun H locs X => ?_)
    obtain ⟨r109, τ109, hq109, hg⟩ := bd_some hg
    refine gc_Vv (As := [.long r106]) (rest := []) (q0 := 0) (ci := 15) S X (k2_X12_enter l dC dI ad kc hq109 H.size) cw_X12_enter mG_2797 rfl rfl rfl rfl rfl hl.1 (Nat.le_of_ble_eq_true rfl) dX12_workPart_109 ⟨by omega, by omega⟩ (fun H locs X => ?_)
    refine lv_goto (tgt := 250) hx hb dX12_workPart_112 (by decide) ?_
    obtain ⟨-, rfl⟩ := fin_some hg
    exact gr_v S hr hk X dX12_workPart_250
  · refine lv_tableIn (off := 92) (tgt := 103) hx hb dX12_workPart_11 (by rw [hsw]; decide) (by rw [hsw]; decide) (by rw [hsw]; decide) (by decide) ?_
    have hg := (if_neg (by rw [hsw]; decide)).symm.trans hg
    have hg := (if_neg (by rw [hsw]; decide)).symm.trans hg
    have hg := (if_neg (by rw [hsw]; decide)).symm.trans hg
    have hg := (if_neg (by rw [hsw]; decide)).symm.trans hg
    have hg := (if_neg (by rw [hsw]; decide)).symm.trans hg
    have hg := (if_neg (by rw [hsw]; decide)).symm.trans hg
    have hg := (if_neg (by rw [hsw]; decide)).symm.trans hg
    have hg := (if_neg (by rw [hsw]; decide)).symm.trans hg
    have hg := (if_neg (by rw [hsw]; decide)).symm.trans hg
    have hg := (if_neg (by rw [hsw]; decide)).symm.trans hg
    have hg := (if_pos hsw).symm.trans hg
    refine lv_aload_n hx hb dX12_workPart_103 rfl (lv_at hl 1 rfl) ?_
    refine lv_aload_n hx hb dX12_workPart_104 rfl (lv_at hl 1 rfl) ?_
    refine lv_iload_n hx hb dX12_workPart_105 rfl (lv_at hl 0 rfl) ?_
    obtain ⟨r106, τ106, hq106, hg⟩ := bd_some hg
    refine gc_Vl (As := [.int (gI σ 52)]) (rest := [.ref (ad 0)]) (q0 := 0) (ci := 15) S X (k2_X12_plain l dC dI ad kc hq106 H.size) cw_X12_plain mG_2848 rfl rfl rfl rfl rfl hl.1 (Nat.le_of_ble_eq_true rfl) dX12_workPart_106 ⟨by omega, by omega⟩ (fun H locs X => ?_)
    obtain ⟨r109, τ109, hq109, hg⟩ := bd_some hg
    refine gc_Vv (As := [.long r106]) (rest := []) (q0 := 0) (ci := 15) S X (k2_X12_enter l dC dI ad kc hq109 H.size) cw_X12_enter mG_2797 rfl rfl rfl rfl rfl hl.1 (Nat.le_of_ble_eq_true rfl) dX12_workPart_109 ⟨by omega, by omega⟩ (fun H locs X => ?_)
    refine lv_goto (tgt := 250) hx hb dX12_workPart_112 (by decide) ?_
    obtain ⟨-, rfl⟩ := fin_some hg
    exact gr_v S hr hk X dX12_workPart_250
  · refine lv_tableIn (off := 104) (tgt := 115) hx hb dX12_workPart_11 (by rw [hsw]; decide) (by rw [hsw]; decide) (by rw [hsw]; decide) (by decide) ?_
    have hg := (if_neg (by rw [hsw]; decide)).symm.trans hg
    have hg := (if_neg (by rw [hsw]; decide)).symm.trans hg
    have hg := (if_neg (by rw [hsw]; decide)).symm.trans hg
    have hg := (if_neg (by rw [hsw]; decide)).symm.trans hg
    have hg := (if_neg (by rw [hsw]; decide)).symm.trans hg
    have hg := (if_neg (by rw [hsw]; decide)).symm.trans hg
    have hg := (if_neg (by rw [hsw]; decide)).symm.trans hg
    have hg := (if_neg (by rw [hsw]; decide)).symm.trans hg
    have hg := (if_neg (by rw [hsw]; decide)).symm.trans hg
    have hg := (if_neg (by rw [hsw]; decide)).symm.trans hg
    have hg := (if_neg (by rw [hsw]; decide)).symm.trans hg
    have hg := (if_pos hsw).symm.trans hg
    refine lv_aload_n hx hb dX12_workPart_115 rfl (lv_at hl 1 rfl) ?_
    refine lv_iconst (v := 2) hx hb dX12_workPart_116 (by decide) ?_
    refine lv_iconst (v := 5) hx hb dX12_workPart_117 (by decide) ?_
    obtain ⟨r118, τ118, hq118, hg⟩ := bd_some hg
    refine gc_Vv (As := [.int 2, .int 5]) (rest := []) (q0 := 0) (ci := 15) S X (k2_X12_ends l dC dI ad kc hq118 H.size) cw_X12_ends mG_2785 rfl rfl rfl rfl rfl hl.1 (Nat.le_of_ble_eq_true rfl) dX12_workPart_118 ⟨by omega, by omega⟩ (fun H locs X => ?_)
    refine lv_goto (tgt := 250) hx hb dX12_workPart_121 (by decide) ?_
    obtain ⟨-, rfl⟩ := fin_some hg
    exact gr_v S hr hk X dX12_workPart_250
  · refine lv_tableIn (off := 92) (tgt := 103) hx hb dX12_workPart_11 (by rw [hsw]; decide) (by rw [hsw]; decide) (by rw [hsw]; decide) (by decide) ?_
    have hg := (if_neg (by rw [hsw]; decide)).symm.trans hg
    have hg := (if_neg (by rw [hsw]; decide)).symm.trans hg
    have hg := (if_neg (by rw [hsw]; decide)).symm.trans hg
    have hg := (if_neg (by rw [hsw]; decide)).symm.trans hg
    have hg := (if_neg (by rw [hsw]; decide)).symm.trans hg
    have hg := (if_neg (by rw [hsw]; decide)).symm.trans hg
    have hg := (if_neg (by rw [hsw]; decide)).symm.trans hg
    have hg := (if_neg (by rw [hsw]; decide)).symm.trans hg
    have hg := (if_neg (by rw [hsw]; decide)).symm.trans hg
    have hg := (if_neg (by rw [hsw]; decide)).symm.trans hg
    have hg := (if_neg (by rw [hsw]; decide)).symm.trans hg
    have hg := (if_neg (by rw [hsw]; decide)).symm.trans hg
    have hg := (if_pos hsw).symm.trans hg
    refine lv_aload_n hx hb dX12_workPart_103 rfl (lv_at hl 1 rfl) ?_
    refine lv_aload_n hx hb dX12_workPart_104 rfl (lv_at hl 1 rfl) ?_
    refine lv_iload_n hx hb dX12_workPart_105 rfl (lv_at hl 0 rfl) ?_
    obtain ⟨r106, τ106, hq106, hg⟩ := bd_some hg
    refine gc_Vl (As := [.int (gI σ 52)]) (rest := [.ref (ad 0)]) (q0 := 0) (ci := 15) S X (k2_X12_plain l dC dI ad kc hq106 H.size) cw_X12_plain mG_2848 rfl rfl rfl rfl rfl hl.1 (Nat.le_of_ble_eq_true rfl) dX12_workPart_106 ⟨by omega, by omega⟩ (fun H locs X => ?_)
    obtain ⟨r109, τ109, hq109, hg⟩ := bd_some hg
    refine gc_Vv (As := [.long r106]) (rest := []) (q0 := 0) (ci := 15) S X (k2_X12_enter l dC dI ad kc hq109 H.size) cw_X12_enter mG_2797 rfl rfl rfl rfl rfl hl.1 (Nat.le_of_ble_eq_true rfl) dX12_workPart_109 ⟨by omega, by omega⟩ (fun H locs X => ?_)
    refine lv_goto (tgt := 250) hx hb dX12_workPart_112 (by decide) ?_
    obtain ⟨-, rfl⟩ := fin_some hg
    exact gr_v S hr hk X dX12_workPart_250
  · refine lv_tableIn (off := 69) (tgt := 80) hx hb dX12_workPart_11 (by rw [hsw]; decide) (by rw [hsw]; decide) (by rw [hsw]; decide) (by decide) ?_
    have hg := (if_neg (by rw [hsw]; decide)).symm.trans hg
    have hg := (if_neg (by rw [hsw]; decide)).symm.trans hg
    have hg := (if_neg (by rw [hsw]; decide)).symm.trans hg
    have hg := (if_neg (by rw [hsw]; decide)).symm.trans hg
    have hg := (if_neg (by rw [hsw]; decide)).symm.trans hg
    have hg := (if_neg (by rw [hsw]; decide)).symm.trans hg
    have hg := (if_neg (by rw [hsw]; decide)).symm.trans hg
    have hg := (if_neg (by rw [hsw]; decide)).symm.trans hg
    have hg := (if_neg (by rw [hsw]; decide)).symm.trans hg
    have hg := (if_neg (by rw [hsw]; decide)).symm.trans hg
    have hg := (if_neg (by rw [hsw]; decide)).symm.trans hg
    have hg := (if_neg (by rw [hsw]; decide)).symm.trans hg
    have hg := (if_neg (by rw [hsw]; decide)).symm.trans hg
    have hg := (if_pos hsw).symm.trans hg
    refine lv_aload_n hx hb dX12_workPart_80 rfl (lv_at hl 1 rfl) ?_
    refine lv_aload_n hx hb dX12_workPart_81 rfl (lv_at hl 1 rfl) ?_
    refine wmgR_0_124 S X mG_2174 dX12_workPart_82 ?_
    refine lv_aload_n hx hb dX12_workPart_85 rfl (lv_at hl 1 rfl) ?_
    refine wmgI_50 (v := (gI σ 50)) S X mG_2172 rfl dX12_workPart_86 ?_
    refine lv_aload_n hx hb dX12_workPart_89 rfl (lv_at hl 1 rfl) ?_
    refine wmgR_0_65 S X mG_2115 dX12_workPart_90 ?_
    refine lv_iload_n hx hb dX12_workPart_93 rfl (lv_at hl 0 rfl) ?_
    obtain ⟨hi94, hg⟩ := gd_some hg
    refine wmlA_32 (v := (xA σ 32 (gI σ 52))) S X hi94 rfl dX12_workPart_94 ?_
    refine lv_iadd hx hb dX12_workPart_95 ?_
    obtain ⟨hi96, hg⟩ := gd_some hg
    refine wmlB_9 (v := (xB σ 9 ((gI σ 50) + (xA σ 32 (gI σ 52))))) S X hi96 rfl dX12_workPart_96 ?_
    obtain ⟨r97, τ97, hq97, hg⟩ := bd_some hg
    refine gc_Vv (As := [.long (xB σ 9 ((gI σ 50) + (xA σ 32 (gI σ 52))))]) (rest := []) (q0 := 0) (ci := 15) S X (k2_X12_enter l dC dI ad kc hq97 H.size) cw_X12_enter mG_2797 rfl rfl rfl rfl rfl hl.1 (Nat.le_of_ble_eq_true rfl) dX12_workPart_97 ⟨by omega, by omega⟩ (fun H locs X => ?_)
    refine lv_goto (tgt := 250) hx hb dX12_workPart_100 (by decide) ?_
    obtain ⟨-, rfl⟩ := fin_some hg
    exact gr_v S hr hk X dX12_workPart_250
end MX12_workPart
set_option maxRecDepth 100000 in
theorem k2_X12_workPart (l : Launch) (dC : Nat → ClassId) (dI : Nat → Nat → Nat) {Z : ZZ} (ad : Nat → Nat) (kc : Nat → ClassId) {σ τ : S5}  {r : Unit} (hg : f_X12_workPart  σ = some (r, τ)) (sz : Nat) : Met l yX12_workPart (Cond.code yX12_workPart cX12_workPart 2 none :: uG) { frames := 7, cells := 0, slots := 0, locals := 169 } (gPc (dC, dI) (tM kc) (wM ad kc) Z [.ref (ad 0)] σ sz) (gQv (dC, dI) (tM kc) (wM ad kc) (va_A (wM ad kc σ) sz) r τ) 0 0 (va_A (wM ad kc σ) sz) :=
  g_start (by decide) (Nat.le_of_ble_eq_true rfl) (fun p e s m below meth c ls S hr hk X hl => w_X12_workPart S hr hk ⟨Nat.le_refl _, Nat.le_refl _⟩ X hl hg)
section MX12_apply
variable {p : Program} {l : Launch} {e : Env} {R : Room} {s : State} {m : MethodId} {args : Array Value} {below : List Frame} {meth : Method} {c : Code} {dC : Nat → ClassId} {dI : Nat → Nat → Nat} {Z : ZZ} {A : Nat → Prop} {ad : Nat → Nat} {kc : Nat → ClassId} {r : Unit} {τ : S5}
set_option maxHeartbeats 4000000 in
set_option maxRecDepth 100000 in
theorem w_X12_apply_B210 {σ : S5} {rec210 : Int32 → Int32 → Int32 → Int32 → S5 → Option (Unit × S5)} {v3 : Int32} {v7 : Int32} {v8 : Int32} {v9 : Int32} {H : Heap} {locs : List Loc} {ls : Array Slot} (S : CallFix p m c cX12_apply 10 s args uG RX12) (hr : meth.sig.returnType = none) (hk : meth.locks = false) (hR : 3 ≤ R.frames ∧ 72 ≤ R.locals)
    (hrec210 : ∀ (v3 : Int32) (v7 : Int32) (v8 : Int32) (v9 : Int32) (σ : S5) (H : Heap) (locs : List Loc) (ls : Array Slot), gX (dC, dI) (tM kc) (wM ad kc) Z A s σ H locs → lv_has ls 10 [(0, .ref (ad 0)), (3, .int v3), (7, .int v7), (8, .int v8), (9, .int v9)] → rec210 v3 v7 v8 v9 σ = some (r, τ) → W p l e R s m args below meth c H locs 0 0 (MQ below (gQv (dC, dI) (tM kc) (wM ad kc) A r τ) args s 0 0 A) (F0 m 210 ls []))
    (X : gX (dC, dI) (tM kc) (wM ad kc) Z A s σ H locs) (hl : lv_has ls 10 [(0, .ref (ad 0)), (3, .int v3), (7, .int v7), (8, .int v8), (9, .int v9)]) (hg : f_X12_apply_B210 rec210 v3 v7 v8 v9 σ = some (r, τ)) : W p l e R s m args below meth c H locs 0 0 (MQ below (gQv (dC, dI) (tM kc) (wM ad kc) A r τ) args s 0 0 A) (F0 m 210 ls []) := by
  have hx := S.1
  have hb := S.2.1
  have hown := S.2.2.2.1
  have hu := S.2.2.2.2
  unfold f_X12_apply_B210 at hg
  refine lv_iload hx hb dX12_apply_210 (lv_at hl 4 rfl) ?_
  refine lv_iload_n hx hb dX12_apply_212 rfl (lv_at hl 1 rfl) ?_
  refine lv_icmp_ge (tgt := 252) hx hb dX12_apply_213 (by decide) (fun c213 => ?_) (fun c213 => ?_)
  · have hg := (if_pos c213).symm.trans hg
    refine lv_aload_n hx hb dX12_apply_252 rfl (lv_at hl 0 rfl) ?_
    refine lv_iconst (v := 3) hx hb dX12_apply_253 (by decide) ?_
    refine lv_iload hx hb dX12_apply_254 (lv_at hl 3 rfl) ?_
    obtain ⟨r256, τ256, hq256, hg⟩ := bd_some hg
    refine gc_Sl (As := [.int 3, .int v8]) (rest := [.ref (ad 0)]) S X (k2_X12_value l dC dI ad kc hq256 H.size) cw_X12_value mG_2789 rfl rfl hl.1 (Nat.le_of_ble_eq_true rfl) dX12_apply_256 ⟨by omega, by omega⟩ (fun H locs X => ?_)
    obtain ⟨r259, τ259, hq259, hg⟩ := bd_some hg
    refine gc_Vv (As := [.long r256]) (rest := []) (q0 := 0) (ci := 15) S X (k2_X12_gives l dC dI ad kc hq259 H.size) cw_X12_gives mG_2804 rfl rfl rfl rfl rfl hl.1 (Nat.le_of_ble_eq_true rfl) dX12_apply_259 ⟨by omega, by omega⟩ (fun H locs X => ?_)
    obtain ⟨-, rfl⟩ := fin_some hg
    exact gr_v S hr hk X dX12_apply_262
  · have hg := (if_neg c213).symm.trans hg
    refine lv_aload_n hx hb dX12_apply_216 rfl (lv_at hl 0 rfl) ?_
    refine wmgR_0_99 S X mG_2149 dX12_apply_217 ?_
    refine lv_aload_n hx hb dX12_apply_220 rfl (lv_at hl 0 rfl) ?_
    refine wmgR_0_95 S X mG_2145 dX12_apply_221 ?_
    refine lv_iload hx hb dX12_apply_224 (lv_at hl 3 rfl) ?_
    obtain ⟨hi226, hg⟩ := gd_some hg
    refine wmlA_55 (v := (xA σ 55 v8)) S X hi226 rfl dX12_apply_226 ?_
    refine lv_iload hx hb dX12_apply_227 (lv_at hl 2 rfl) ?_
    refine lv_iadd hx hb dX12_apply_229 ?_
    refine lv_iload hx hb dX12_apply_230 (lv_at hl 4 rfl) ?_
    refine lv_iadd hx hb dX12_apply_232 ?_
    refine lv_aload_n hx hb dX12_apply_233 rfl (lv_at hl 0 rfl) ?_
    refine wmgR_0_121 S X mG_2171 dX12_apply_234 ?_
    refine lv_aload_n hx hb dX12_apply_237 rfl (lv_at hl 0 rfl) ?_
    refine wmgI_49 (v := (gI σ 49)) S X mG_2170 rfl dX12_apply_238 ?_
    refine lv_iload hx hb dX12_apply_241 (lv_at hl 4 rfl) ?_
    refine lv_iadd hx hb dX12_apply_243 ?_
    obtain ⟨hi244, hg⟩ := gd_some hg
    refine wmlB_8 (v := (xB σ 8 ((gI σ 49) + v9))) S X hi244 rfl dX12_apply_244 ?_
    obtain ⟨hi245, hg⟩ := gd_some hg
    refine wmsB_7 S X hi245 dX12_apply_245 (fun H locs X => ?_)
    refine lv_iinc (v := (v9 + 1)) (lv' := [(9, .int (v9 + 1)), (0, .ref (ad 0)), (3, .int v3), (7, .int v7), (8, .int v8)]) hx hb dX12_apply_246 hl (k := 4) rfl (by rfl) (by decide) rfl (fun ls hl => ?_)
    refine lv_goto (tgt := 210) hx hb dX12_apply_249 (by decide) ?_
    exact hrec210 _ _ _ _ _ _ _ _ X (lv_sub hl [1, 2, 3, 4, 0] rfl) hg
set_option maxHeartbeats 4000000 in
set_option maxRecDepth 100000 in
theorem w_X12_apply_L210 (S : CallFix p m c cX12_apply 10 s args uG RX12) (hr : meth.sig.returnType = none) (hk : meth.locks = false) (hR : 3 ≤ R.frames ∧ 72 ≤ R.locals) : ∀ (n : Nat) (v3 : Int32) (v7 : Int32) (v8 : Int32) (v9 : Int32) (σ : S5) (H : Heap) (locs : List Loc) (ls : Array Slot), gX (dC, dI) (tM kc) (wM ad kc) Z A s σ H locs → lv_has ls 10 [(0, .ref (ad 0)), (3, .int v3), (7, .int v7), (8, .int v8), (9, .int v9)] → f_X12_apply_L210  n v3 v7 v8 v9 σ = some (r, τ) → W p l e R s m args below meth c H locs 0 0 (MQ below (gQv (dC, dI) (tM kc) (wM ad kc) A r τ) args s 0 0 A) (F0 m 210 ls []) := by
  intro n
  induction n with
  | zero => intro v3 v7 v8 v9 σ H locs ls X hl hg; cases hg
  | succ n ih => intro v3 v7 v8 v9 σ H locs ls X hl hg; exact w_X12_apply_B210 S hr hk hR ih X hl hg
set_option maxHeartbeats 4000000 in
set_option maxRecDepth 100000 in
theorem w_X12_apply_B154 {σ : S5} {rec154 : Int32 → Int32 → Int32 → Int32 → Int32 → S5 → Option (Unit × S5)} {v3 : Int32} {v5 : Int32} {v7 : Int32} {v8 : Int32} {v9 : Int32} {H : Heap} {locs : List Loc} {ls : Array Slot} (S : CallFix p m c cX12_apply 10 s args uG RX12) (hr : meth.sig.returnType = none) (hk : meth.locks = false) (hR : 3 ≤ R.frames ∧ 72 ≤ R.locals)
    (hrec154 : ∀ (v3 : Int32) (v5 : Int32) (v7 : Int32) (v8 : Int32) (v9 : Int32) (σ : S5) (H : Heap) (locs : List Loc) (ls : Array Slot), gX (dC, dI) (tM kc) (wM ad kc) Z A s σ H locs → lv_has ls 10 [(0, .ref (ad 0)), (3, .int v3), (5, .int v5), (7, .int v7), (8, .int v8), (9, .int v9)] → rec154 v3 v5 v7 v8 v9 σ = some (r, τ) → W p l e R s m args below meth c H locs 0 0 (MQ below (gQv (dC, dI) (tM kc) (wM ad kc) A r τ) args s 0 0 A) (F0 m 154 ls []))
    (X : gX (dC, dI) (tM kc) (wM ad kc) Z A s σ H locs) (hl : lv_has ls 10 [(0, .ref (ad 0)), (3, .int v3), (5, .int v5), (7, .int v7), (8, .int v8), (9, .int v9)]) (hg : f_X12_apply_B154 rec154 v3 v5 v7 v8 v9 σ = some (r, τ)) : W p l e R s m args below meth c H locs 0 0 (MQ below (gQv (dC, dI) (tM kc) (wM ad kc) A r τ) args s 0 0 A) (F0 m 154 ls []) := by
  have hx := S.1
  have hb := S.2.1
  have hown := S.2.2.2.1
  have hu := S.2.2.2.2
  unfold f_X12_apply_B154 at hg
  refine lv_iload hx hb dX12_apply_154 (lv_at hl 5 rfl) ?_
  refine lv_iload hx hb dX12_apply_156 (lv_at hl 3 rfl) ?_
  refine lv_icmp_ge (tgt := 197) hx hb dX12_apply_158 (by decide) (fun c158 => ?_) (fun c158 => ?_)
  · have hg := (if_pos c158).symm.trans hg
    refine lv_aload_n hx hb dX12_apply_197 rfl (lv_at hl 0 rfl) ?_
    refine lv_dup hx hb dX12_apply_198 rfl ?_
    refine wmgI_49 (v := (gI σ 49)) S X mG_2170 rfl dX12_apply_199 ?_
    refine lv_iload_n hx hb dX12_apply_202 rfl (lv_at hl 1 rfl) ?_
    refine lv_isub hx hb dX12_apply_203 ?_
    refine wmpI_49 S X mG_2170 dX12_apply_204 (fun H locs X => ?_)
    refine lv_iconst (v := 0) hx hb dX12_apply_207 (by decide) ?_
    refine lv_istore (lv' := [(9, .int 0), (0, .ref (ad 0)), (3, .int v3), (5, .int v5), (7, .int v7), (8, .int v8)]) hx hb dX12_apply_208 hl (by decide) rfl (fun ls hl => ?_)
    exact w_X12_apply_L210 S hr hk hR _ _ _ _ _ _ _ _ _ X (lv_sub hl [1, 2, 4, 5, 0] rfl) hg
  · have hg := (if_neg c158).symm.trans hg
    refine lv_aload_n hx hb dX12_apply_161 rfl (lv_at hl 0 rfl) ?_
    refine wmgR_0_99 S X mG_2149 dX12_apply_162 ?_
    refine lv_aload_n hx hb dX12_apply_165 rfl (lv_at hl 0 rfl) ?_
    refine wmgR_0_95 S X mG_2145 dX12_apply_166 ?_
    refine lv_iload hx hb dX12_apply_169 (lv_at hl 4 rfl) ?_
    obtain ⟨hi171, hg⟩ := gd_some hg
    refine wmlA_55 (v := (xA σ 55 v8)) S X hi171 rfl dX12_apply_171 ?_
    refine lv_iload hx hb dX12_apply_172 (lv_at hl 5 rfl) ?_
    refine lv_iadd hx hb dX12_apply_174 ?_
    refine lv_aload_n hx hb dX12_apply_175 rfl (lv_at hl 0 rfl) ?_
    refine wmgR_0_99 S X mG_2149 dX12_apply_176 ?_
    refine lv_aload_n hx hb dX12_apply_179 rfl (lv_at hl 0 rfl) ?_
    refine wmgR_0_95 S X mG_2145 dX12_apply_180 ?_
    refine lv_iload hx hb dX12_apply_183 (lv_at hl 2 rfl) ?_
    obtain ⟨hi185, hg⟩ := gd_some hg
    refine wmlA_55 (v := (xA σ 55 v5)) S X hi185 rfl dX12_apply_185 ?_
    refine lv_iload hx hb dX12_apply_186 (lv_at hl 5 rfl) ?_
    refine lv_iadd hx hb dX12_apply_188 ?_
    obtain ⟨hi189, hg⟩ := gd_some hg
    refine wmlB_7 (v := (xB σ 7 ((xA σ 55 v5) + v9))) S X hi189 rfl dX12_apply_189 ?_
    obtain ⟨hi190, hg⟩ := gd_some hg
    refine wmsB_7 S X hi190 dX12_apply_190 (fun H locs X => ?_)
    refine lv_iinc (v := (v9 + 1)) (lv' := [(9, .int (v9 + 1)), (0, .ref (ad 0)), (3, .int v3), (5, .int v5), (7, .int v7), (8, .int v8)]) hx hb dX12_apply_191 hl (k := 5) rfl (by rfl) (by decide) rfl (fun ls hl => ?_)
    refine lv_goto (tgt := 154) hx hb dX12_apply_194 (by decide) ?_
    exact hrec154 _ _ _ _ _ _ _ _ _ X (lv_sub hl [1, 2, 3, 4, 5, 0] rfl) hg
set_option maxHeartbeats 4000000 in
set_option maxRecDepth 100000 in
theorem w_X12_apply_L154 (S : CallFix p m c cX12_apply 10 s args uG RX12) (hr : meth.sig.returnType = none) (hk : meth.locks = false) (hR : 3 ≤ R.frames ∧ 72 ≤ R.locals) : ∀ (n : Nat) (v3 : Int32) (v5 : Int32) (v7 : Int32) (v8 : Int32) (v9 : Int32) (σ : S5) (H : Heap) (locs : List Loc) (ls : Array Slot), gX (dC, dI) (tM kc) (wM ad kc) Z A s σ H locs → lv_has ls 10 [(0, .ref (ad 0)), (3, .int v3), (5, .int v5), (7, .int v7), (8, .int v8), (9, .int v9)] → f_X12_apply_L154  n v3 v5 v7 v8 v9 σ = some (r, τ) → W p l e R s m args below meth c H locs 0 0 (MQ below (gQv (dC, dI) (tM kc) (wM ad kc) A r τ) args s 0 0 A) (F0 m 154 ls []) := by
  intro n
  induction n with
  | zero => intro v3 v5 v7 v8 v9 σ H locs ls X hl hg; cases hg
  | succ n ih => intro v3 v5 v7 v8 v9 σ H locs ls X hl hg; exact w_X12_apply_B154 S hr hk hR ih X hl hg
set_option maxHeartbeats 4000000 in
set_option maxRecDepth 100000 in
theorem w_X12_apply_b100 {σ : S5} {v3 : Int32} {v5 : Int32} {v6 : Int32} {u0 : Int32} {H : Heap} {locs : List Loc} {ls : Array Slot} (S : CallFix p m c cX12_apply 10 s args uG RX12) (hr : meth.sig.returnType = none) (hk : meth.locks = false) (hR : 3 ≤ R.frames ∧ 72 ≤ R.locals)
    (X : gX (dC, dI) (tM kc) (wM ad kc) Z A s σ H locs) (hl : lv_has ls 10 [(0, .ref (ad 0)), (3, .int v3), (5, .int v5), (6, .int v6)]) (hg : f_X12_apply_b100 v3 v5 v6 u0 σ = some (r, τ)) : W p l e R s m args below meth c H locs 0 0 (MQ below (gQv (dC, dI) (tM kc) (wM ad kc) A r τ) args s 0 0 A) (F0 m 100 ls [.int u0]) := by
  have hx := S.1
  have hb := S.2.1
  have hown := S.2.2.2.1
  have hu := S.2.2.2.2
  unfold f_X12_apply_b100 at hg
  refine lv_istore (lv' := [(7, .int u0), (0, .ref (ad 0)), (3, .int v3), (5, .int v5), (6, .int v6)]) hx hb dX12_apply_100 hl (by decide) rfl (fun ls hl => ?_)
  refine lv_iload hx hb dX12_apply_102 (lv_at hl 0 rfl) ?_
  refine lv_iload_n hx hb dX12_apply_104 rfl (lv_at hl 2 rfl) ?_
  refine lv_iadd hx hb dX12_apply_105 ?_
  refine lv_aload_n hx hb dX12_apply_106 rfl (lv_at hl 1 rfl) ?_
  refine wmgR_0_82 S X mG_2132 dX12_apply_107 ?_
  refine lv_iload hx hb dX12_apply_110 (lv_at hl 4 rfl) ?_
  obtain ⟨hi112, hg⟩ := gd_some hg
  refine wmlA_47 (v := (xA σ 47 v6)) S X hi112 rfl dX12_apply_112 ?_
  refine lv_icmp_lt (tgt := 126) hx hb dX12_apply_113 (by decide) (fun c113 => ?_) (fun c113 => ?_)
  · have hg := (if_pos c113).symm.trans hg
    refine lv_aload_n hx hb dX12_apply_126 rfl (lv_at hl 1 rfl) ?_
    refine lv_iconst (v := 1) hx hb dX12_apply_127 (by decide) ?_
    refine lv_iload hx hb dX12_apply_128 (lv_at hl 4 rfl) ?_
    refine lv_iload hx hb dX12_apply_130 (lv_at hl 0 rfl) ?_
    refine lv_iload_n hx hb dX12_apply_132 rfl (lv_at hl 2 rfl) ?_
    refine lv_iadd hx hb dX12_apply_133 ?_
    refine lv_iconst (v := 2) hx hb dX12_apply_134 (by decide) ?_
    refine lv_iload hx hb dX12_apply_135 (lv_at hl 0 rfl) ?_
    refine lv_iadd hx hb dX12_apply_137 ?_
    refine lv_iload_n hx hb dX12_apply_138 rfl (lv_at hl 2 rfl) ?_
    refine lv_iadd hx hb dX12_apply_139 ?_
    obtain ⟨r140, τ140, hq140, hg⟩ := bd_some hg
    refine gc_Vi (As := [.int 1, .int v6, .int (u0 + v3), .int ((2 + u0) + v3)]) (rest := []) (q0 := 0) (ci := 15) S X (k2_X12_newCell l dC dI ad kc hq140 H.size) cw_X12_newCell mG_2781 rfl rfl rfl rfl rfl hl.1 (Nat.le_of_ble_eq_true rfl) dX12_apply_140 ⟨by omega, by omega⟩ (fun H locs X => ?_)
    refine lv_istore (lv' := [(8, .int r140), (7, .int u0), (0, .ref (ad 0)), (3, .int v3), (5, .int v5), (6, .int v6)]) hx hb dX12_apply_143 hl (by decide) rfl (fun ls hl => ?_)
    refine lv_iload hx hb dX12_apply_145 (lv_at hl 0 rfl) ?_
    refine lv_if_ge (tgt := 151) hx hb dX12_apply_147 (by decide) (fun c147 => ?_) (fun c147 => ?_)
    · have hg := (if_pos c147).symm.trans hg
      refine lv_iconst (v := 0) hx hb dX12_apply_151 (by decide) ?_
      refine lv_istore (lv' := [(9, .int 0), (8, .int r140), (7, .int u0), (0, .ref (ad 0)), (3, .int v3), (5, .int v5), (6, .int v6)]) hx hb dX12_apply_152 hl (by decide) rfl (fun ls hl => ?_)
      exact w_X12_apply_L154 S hr hk hR _ _ _ _ _ _ _ _ _ _ X (lv_sub hl [3, 4, 5, 2, 1, 0] rfl) hg
    · have hg := (if_neg c147).symm.trans hg
      obtain ⟨-, rfl⟩ := fin_some hg
      exact gr_v S hr hk X dX12_apply_150
  · have hg := (if_neg c113).symm.trans hg
    refine lv_aload_n hx hb dX12_apply_116 rfl (lv_at hl 1 rfl) ?_
    refine lv_iload hx hb dX12_apply_117 (lv_at hl 4 rfl) ?_
    refine lv_iload hx hb dX12_apply_119 (lv_at hl 3 rfl) ?_
    refine lv_iload_n hx hb dX12_apply_121 rfl (lv_at hl 2 rfl) ?_
    obtain ⟨r122, τ122, hq122, hg⟩ := bd_some hg
    refine gc_Vv (As := [.int v6, .int v5, .int v3]) (rest := []) (q0 := 0) (ci := 15) S X (k2_X12_call l dC dI ad kc hq122 H.size) cw_X12_call mG_2871 rfl rfl rfl rfl rfl hl.1 (Nat.le_of_ble_eq_true rfl) dX12_apply_122 ⟨by omega, by omega⟩ (fun H locs X => ?_)
    obtain ⟨-, rfl⟩ := fin_some hg
    exact gr_v S hr hk X dX12_apply_125
set_option maxHeartbeats 4000000 in
set_option maxRecDepth 100000 in
theorem w_X12_apply_b82 {σ : S5} {v3 : Int32} {v4 : Int32} {v5 : Int32} {u0 : Int32} {H : Heap} {locs : List Loc} {ls : Array Slot} (S : CallFix p m c cX12_apply 10 s args uG RX12) (hr : meth.sig.returnType = none) (hk : meth.locks = false) (hR : 3 ≤ R.frames ∧ 72 ≤ R.locals)
    (X : gX (dC, dI) (tM kc) (wM ad kc) Z A s σ H locs) (hl : lv_has ls 10 [(0, .ref (ad 0)), (3, .int v3), (4, .int v4), (5, .int v5)]) (hg : f_X12_apply_b82 v3 v4 v5 u0 σ = some (r, τ)) : W p l e R s m args below meth c H locs 0 0 (MQ below (gQv (dC, dI) (tM kc) (wM ad kc) A r τ) args s 0 0 A) (F0 m 82 ls [.int u0]) := by
  have hx := S.1
  have hb := S.2.1
  have hown := S.2.2.2.1
  have hu := S.2.2.2.2
  unfold f_X12_apply_b82 at hg
  refine lv_istore (lv' := [(6, .int u0), (0, .ref (ad 0)), (3, .int v3), (4, .int v4), (5, .int v5)]) hx hb dX12_apply_82 hl (by decide) rfl (fun ls hl => ?_)
  refine lv_iload hx hb dX12_apply_84 (lv_at hl 3 rfl) ?_
  refine lv_if_eq (tgt := 99) hx hb dX12_apply_86 (by decide) (fun c86 => ?_) (fun c86 => ?_)
  · have hg := (if_pos c86).symm.trans hg
    refine lv_iconst (v := 0) hx hb dX12_apply_99 (by decide) ?_
    exact w_X12_apply_b100 S hr hk hR X (lv_sub hl [1, 2, 4, 0] rfl) hg
  · have hg := (if_neg c86).symm.trans hg
    refine lv_aload_n hx hb dX12_apply_89 rfl (lv_at hl 1 rfl) ?_
    refine wmgR_0_96 S X mG_2146 dX12_apply_90 ?_
    refine lv_iload hx hb dX12_apply_93 (lv_at hl 4 rfl) ?_
    obtain ⟨hi95, hg⟩ := gd_some hg
    refine wmlA_56 (v := (xA σ 56 v5)) S X hi95 rfl dX12_apply_95 ?_
    refine lv_goto (tgt := 100) hx hb dX12_apply_96 (by decide) ?_
    exact w_X12_apply_b100 S hr hk hR X (lv_sub hl [1, 2, 4, 0] rfl) hg
set_option maxHeartbeats 4000000 in
set_option maxRecDepth 100000 in
theorem w_X12_apply_b61 {σ : S5} {v1 : Int64} {v3 : Int32} {v4 : Int32} {u0 : Int32} {H : Heap} {locs : List Loc} {ls : Array Slot} (S : CallFix p m c cX12_apply 10 s args uG RX12) (hr : meth.sig.returnType = none) (hk : meth.locks = false) (hR : 3 ≤ R.frames ∧ 72 ≤ R.locals)
    (X : gX (dC, dI) (tM kc) (wM ad kc) Z A s σ H locs) (hl : lv_has ls 10 [(0, .ref (ad 0)), (1, .long v1), (3, .int v3), (4, .int v4)]) (hg : f_X12_apply_b61 v1 v3 v4 u0 σ = some (r, τ)) : W p l e R s m args below meth c H locs 0 0 (MQ below (gQv (dC, dI) (tM kc) (wM ad kc) A r τ) args s 0 0 A) (F0 m 61 ls [.int u0]) := by
  have hx := S.1
  have hb := S.2.1
  have hown := S.2.2.2.1
  have hu := S.2.2.2.2
  unfold f_X12_apply_b61 at hg
  refine lv_istore (lv' := [(5, .int u0), (0, .ref (ad 0)), (1, .long v1), (3, .int v3), (4, .int v4)]) hx hb dX12_apply_61 hl (by decide) rfl (fun ls hl => ?_)
  refine lv_iload hx hb dX12_apply_63 (lv_at hl 4 rfl) ?_
  refine lv_if_eq (tgt := 78) hx hb dX12_apply_65 (by decide) (fun c65 => ?_) (fun c65 => ?_)
  · have hg := (if_pos c65).symm.trans hg
    refine lv_lload_n hx hb dX12_apply_78 rfl (lv_at hl 2 rfl) ?_
    obtain ⟨r79, τ79, hq79, hg⟩ := bd_some hg
    refine gc_Si (As := [.long v1]) (rest := []) S X (k2_X12_of l dC dI ad kc hq79 H.size) cw_X12_of mG_2808 rfl rfl hl.1 (Nat.le_of_ble_eq_true rfl) dX12_apply_79 ⟨by omega, by omega⟩ (fun H locs X => ?_)
    exact w_X12_apply_b82 S hr hk hR X (lv_sub hl [1, 3, 4, 0] rfl) hg
  · have hg := (if_neg c65).symm.trans hg
    refine lv_aload_n hx hb dX12_apply_68 rfl (lv_at hl 1 rfl) ?_
    refine wmgR_0_93 S X mG_2143 dX12_apply_69 ?_
    refine lv_iload hx hb dX12_apply_72 (lv_at hl 0 rfl) ?_
    obtain ⟨hi74, hg⟩ := gd_some hg
    refine wmlA_54 (v := (xA σ 54 u0)) S X hi74 rfl dX12_apply_74 ?_
    refine lv_goto (tgt := 82) hx hb dX12_apply_75 (by decide) ?_
    exact w_X12_apply_b82 S hr hk hR X (lv_sub hl [1, 3, 4, 0] rfl) hg
set_option maxHeartbeats 4000000 in
set_option maxRecDepth 100000 in
theorem w_X12_apply_b48 {σ : S5} {v1 : Int64} {v3 : Int32} {v4 : Int32} {H : Heap} {locs : List Loc} {ls : Array Slot} (S : CallFix p m c cX12_apply 10 s args uG RX12) (hr : meth.sig.returnType = none) (hk : meth.locks = false) (hR : 3 ≤ R.frames ∧ 72 ≤ R.locals)
    (X : gX (dC, dI) (tM kc) (wM ad kc) Z A s σ H locs) (hl : lv_has ls 10 [(0, .ref (ad 0)), (1, .long v1), (3, .int v3), (4, .int v4)]) (hg : f_X12_apply_b48 v1 v3 v4 σ = some (r, τ)) : W p l e R s m args below meth c H locs 0 0 (MQ below (gQv (dC, dI) (tM kc) (wM ad kc) A r τ) args s 0 0 A) (F0 m 48 ls []) := by
  have hx := S.1
  have hb := S.2.1
  have hown := S.2.2.2.1
  have hu := S.2.2.2.2
  unfold f_X12_apply_b48 at hg
  refine lv_iload hx hb dX12_apply_48 (lv_at hl 3 rfl) ?_
  refine lv_if_eq (tgt := 60) hx hb dX12_apply_50 (by decide) (fun c50 => ?_) (fun c50 => ?_)
  · have hg := (if_pos c50).symm.trans hg
    refine lv_iconst (v := (-1)) hx hb dX12_apply_60 (by decide) ?_
    exact w_X12_apply_b61 S hr hk hR X (lv_sub hl [0, 1, 2, 3] rfl) hg
  · have hg := (if_neg c50).symm.trans hg
    refine lv_lload_n hx hb dX12_apply_53 rfl (lv_at hl 1 rfl) ?_
    obtain ⟨r54, τ54, hq54, hg⟩ := bd_some hg
    refine gc_Si (As := [.long v1]) (rest := []) S X (k2_X12_of l dC dI ad kc hq54 H.size) cw_X12_of mG_2808 rfl rfl hl.1 (Nat.le_of_ble_eq_true rfl) dX12_apply_54 ⟨by omega, by omega⟩ (fun H locs X => ?_)
    refine lv_goto (tgt := 61) hx hb dX12_apply_57 (by decide) ?_
    exact w_X12_apply_b61 S hr hk hR X (lv_sub hl [0, 1, 2, 3] rfl) hg
set_option maxHeartbeats 4000000 in
set_option maxRecDepth 100000 in
theorem w_X12_apply_b26 {σ : S5} {v1 : Int64} {v3 : Int32} {u0 : Int32} {H : Heap} {locs : List Loc} {ls : Array Slot} (S : CallFix p m c cX12_apply 10 s args uG RX12) (hr : meth.sig.returnType = none) (hk : meth.locks = false) (hR : 3 ≤ R.frames ∧ 72 ≤ R.locals)
    (X : gX (dC, dI) (tM kc) (wM ad kc) Z A s σ H locs) (hl : lv_has ls 10 [(0, .ref (ad 0)), (1, .long v1), (3, .int v3)]) (hg : f_X12_apply_b26 v1 v3 u0 σ = some (r, τ)) : W p l e R s m args below meth c H locs 0 0 (MQ below (gQv (dC, dI) (tM kc) (wM ad kc) A r τ) args s 0 0 A) (F0 m 26 ls [.int u0]) := by
  have hx := S.1
  have hb := S.2.1
  have hown := S.2.2.2.1
  have hu := S.2.2.2.2
  unfold f_X12_apply_b26 at hg
  refine lv_istore (lv' := [(4, .int u0), (0, .ref (ad 0)), (1, .long v1), (3, .int v3)]) hx hb dX12_apply_26 hl (by decide) rfl (fun ls hl => ?_)
  refine lv_iload hx hb dX12_apply_28 (lv_at hl 0 rfl) ?_
  refine lv_if_ne (tgt := 48) hx hb dX12_apply_30 (by decide) (fun c30 => ?_) (fun c30 => ?_)
  · have hg := (if_neg c30).symm.trans hg
    exact w_X12_apply_b48 S hr hk hR X (lv_sub hl [1, 2, 3, 0] rfl) hg
  · have hg := (if_pos c30).symm.trans hg
    refine lv_lload_n hx hb dX12_apply_33 rfl (lv_at hl 2 rfl) ?_
    obtain ⟨r34, τ34, hq34, hg⟩ := bd_some hg
    refine gc_Si (As := [.long v1]) (rest := []) S X (k2_X12_kindOf l dC dI ad kc hq34 H.size) cw_X12_kindOf mG_2801 rfl rfl hl.1 (Nat.le_of_ble_eq_true rfl) dX12_apply_34 ⟨by omega, by omega⟩ (fun H locs X => ?_)
    refine lv_iconst (v := 1) hx hb dX12_apply_37 (by decide) ?_
    refine lv_icmp_eq (tgt := 48) hx hb dX12_apply_38 (by decide) (fun c38 => ?_) (fun c38 => ?_)
    · have hg := (if_pos c38).symm.trans hg
      exact w_X12_apply_b48 S hr hk hR X (lv_sub hl [1, 2, 3, 0] rfl) hg
    · have hg := (if_neg c38).symm.trans hg
      refine lv_aload_n hx hb dX12_apply_41 rfl (lv_at hl 1 rfl) ?_
      refine lv_iconst (v := 2) hx hb dX12_apply_42 (by decide) ?_
      refine lv_iconst (v := 4) hx hb dX12_apply_43 (by decide) ?_
      obtain ⟨r44, τ44, hq44, hg⟩ := bd_some hg
      refine gc_Vv (As := [.int 2, .int 4]) (rest := []) (q0 := 0) (ci := 15) S X (k2_X12_ends l dC dI ad kc hq44 H.size) cw_X12_ends mG_2785 rfl rfl rfl rfl rfl hl.1 (Nat.le_of_ble_eq_true rfl) dX12_apply_44 ⟨by omega, by omega⟩ (fun H locs X => ?_)
      obtain ⟨-, rfl⟩ := fin_some hg
      exact gr_v S hr hk X dX12_apply_47
set_option maxHeartbeats 4000000 in
set_option maxRecDepth 100000 in
theorem w_X12_apply_b25 {σ : S5} {v1 : Int64} {v3 : Int32} {H : Heap} {locs : List Loc} {ls : Array Slot} (S : CallFix p m c cX12_apply 10 s args uG RX12) (hr : meth.sig.returnType = none) (hk : meth.locks = false) (hR : 3 ≤ R.frames ∧ 72 ≤ R.locals)
    (X : gX (dC, dI) (tM kc) (wM ad kc) Z A s σ H locs) (hl : lv_has ls 10 [(0, .ref (ad 0)), (1, .long v1), (3, .int v3)]) (hg : f_X12_apply_b25 v1 v3 σ = some (r, τ)) : W p l e R s m args below meth c H locs 0 0 (MQ below (gQv (dC, dI) (tM kc) (wM ad kc) A r τ) args s 0 0 A) (F0 m 25 ls []) := by
  have hx := S.1
  have hb := S.2.1
  have hown := S.2.2.2.1
  have hu := S.2.2.2.2
  unfold f_X12_apply_b25 at hg
  refine lv_iconst (v := 0) hx hb dX12_apply_25 (by decide) ?_
  exact w_X12_apply_b26 S hr hk hR X (lv_sub hl [0, 1, 2] rfl) hg
set_option maxHeartbeats 4000000 in
set_option maxRecDepth 100000 in
theorem w_X12_apply {σ : S5} {a1 : Int64} {a3 : Int32} {H : Heap} {locs : List Loc} {ls : Array Slot} (S : CallFix p m c cX12_apply 10 s args uG RX12) (hr : meth.sig.returnType = none) (hk : meth.locks = false) (hR : 3 ≤ R.frames ∧ 72 ≤ R.locals)
    (X : gX (dC, dI) (tM kc) (wM ad kc) Z A s σ H locs) (hl : lv_has ls 10 [(0, .ref (ad 0)), (1, .long a1), (3, .int a3)]) (hg : f_X12_apply a1 a3 σ = some (r, τ)) : W p l e R s m args below meth c H locs 0 0 (MQ below (gQv (dC, dI) (tM kc) (wM ad kc) A r τ) args s 0 0 A) (F0 m 0 ls []) := by
  have hx := S.1
  have hb := S.2.1
  have hown := S.2.2.2.1
  have hu := S.2.2.2.2
  unfold f_X12_apply at hg
  refine lv_lload_n hx hb dX12_apply_0 rfl (lv_at hl 1 rfl) ?_
  obtain ⟨r1, τ1, hq1, hg⟩ := bd_some hg
  refine gc_Si (As := [.long a1]) (rest := []) S X (k2_X12_kindOf l dC dI ad kc hq1 H.size) cw_X12_kindOf mG_2801 rfl rfl hl.1 (Nat.le_of_ble_eq_true rfl) dX12_apply_1 ⟨by omega, by omega⟩ (fun H locs X => ?_)
  refine lv_iconst (v := 3) hx hb dX12_apply_4 (by decide) ?_
  refine lv_icmp_ne (tgt := 25) hx hb dX12_apply_5 (by decide) (fun c5 => ?_) (fun c5 => ?_)
  · have hg := (if_neg c5).symm.trans hg
    exact w_X12_apply_b25 S hr hk hR X (lv_sub hl [0, 1, 2] rfl) hg
  · have hg := (if_pos c5).symm.trans hg
    refine lv_aload_n hx hb dX12_apply_8 rfl (lv_at hl 0 rfl) ?_
    refine wmgR_0_92 S X mG_2142 dX12_apply_9 ?_
    refine lv_lload_n hx hb dX12_apply_12 rfl (lv_at hl 1 rfl) ?_
    obtain ⟨r13, τ13, hq13, hg⟩ := bd_some hg
    refine gc_Si (As := [.long a1]) (rest := [.ref (ad 60)]) S X (k2_X12_of l dC dI ad kc hq13 H.size) cw_X12_of mG_2808 rfl rfl hl.1 (Nat.le_of_ble_eq_true rfl) dX12_apply_13 ⟨by omega, by omega⟩ (fun H locs X => ?_)
    obtain ⟨hi16, hg⟩ := gd_some hg
    refine wmlA_53 (v := (xA τ13 53 r13)) S X hi16 rfl dX12_apply_16 ?_
    refine lv_iconst (v := 1) hx hb dX12_apply_17 (by decide) ?_
    refine lv_icmp_ne (tgt := 25) hx hb dX12_apply_18 (by decide) (fun c18 => ?_) (fun c18 => ?_)
    · have hg := (if_neg c18).symm.trans hg
      exact w_X12_apply_b25 S hr hk hR X (lv_sub hl [0, 1, 2] rfl) hg
    · have hg := (if_pos c18).symm.trans hg
      refine lv_iconst (v := 1) hx hb dX12_apply_21 (by decide) ?_
      refine lv_goto (tgt := 26) hx hb dX12_apply_22 (by decide) ?_
      exact w_X12_apply_b26 S hr hk hR X (lv_sub hl [0, 1, 2] rfl) hg
end MX12_apply
set_option maxRecDepth 100000 in
theorem k2_X12_apply (l : Launch) (dC : Nat → ClassId) (dI : Nat → Nat → Nat) {Z : ZZ} (ad : Nat → Nat) (kc : Nat → ClassId) {σ τ : S5} {a1 : Int64} {a3 : Int32} {r : Unit} (hg : f_X12_apply a1 a3 σ = some (r, τ)) (sz : Nat) : Met l yX12_apply (Cond.code yX12_apply cX12_apply 10 none :: uG) { frames := 3, cells := 0, slots := 0, locals := 72 } (gPc (dC, dI) (tM kc) (wM ad kc) Z [.ref (ad 0), .long a1, .int a3] σ sz) (gQv (dC, dI) (tM kc) (wM ad kc) (va_A (wM ad kc σ) sz) r τ) 0 0 (va_A (wM ad kc σ) sz) :=
  g_start (by decide) (Nat.le_of_ble_eq_true rfl) (fun p e s m below meth c ls S hr hk X hl => w_X12_apply S hr hk ⟨Nat.le_refl _, Nat.le_refl _⟩ X hl hg)
section MX12_choose
variable {p : Program} {l : Launch} {e : Env} {R : Room} {s : State} {m : MethodId} {args : Array Value} {below : List Frame} {meth : Method} {c : Code} {dC : Nat → ClassId} {dI : Nat → Nat → Nat} {Z : ZZ} {A : Nat → Prop} {ad : Nat → Nat} {kc : Nat → ClassId} {r : Unit} {τ : S5}
set_option maxHeartbeats 4000000 in
set_option maxRecDepth 100000 in
theorem w_X12_choose_B182 {σ : S5} {rec182 : Int32 → Int64 → Int32 → Int32 → Int32 → S5 → Option (Unit × S5)} {v1 : Int32} {v2 : Int64} {v4 : Int32} {v5 : Int32} {v8 : Int32} {H : Heap} {locs : List Loc} {ls : Array Slot} (S : CallFix p m c cX12_choose 9 s args uG RX12) (hr : meth.sig.returnType = none) (hk : meth.locks = false) (hR : 1 ≤ R.frames ∧ 22 ≤ R.locals)
    (hrec182 : ∀ (v1 : Int32) (v2 : Int64) (v4 : Int32) (v5 : Int32) (v8 : Int32) (σ : S5) (H : Heap) (locs : List Loc) (ls : Array Slot), gX (dC, dI) (tM kc) (wM ad kc) Z A s σ H locs → lv_has ls 9 [(0, .ref (ad 0)), (1, .int v1), (2, .long v2), (4, .int v4), (5, .int v5), (8, .int v8)] → rec182 v1 v2 v4 v5 v8 σ = some (r, τ) → W p l e R s m args below meth c H locs 0 0 (MQ below (gQv (dC, dI) (tM kc) (wM ad kc) A r τ) args s 0 0 A) (F0 m 182 ls []))
    (X : gX (dC, dI) (tM kc) (wM ad kc) Z A s σ H locs) (hl : lv_has ls 9 [(0, .ref (ad 0)), (1, .int v1), (2, .long v2), (4, .int v4), (5, .int v5), (8, .int v8)]) (hg : f_X12_choose_B182 rec182 v1 v2 v4 v5 v8 σ = some (r, τ)) : W p l e R s m args below meth c H locs 0 0 (MQ below (gQv (dC, dI) (tM kc) (wM ad kc) A r τ) args s 0 0 A) (F0 m 182 ls []) := by
  have hx := S.1
  have hb := S.2.1
  have hown := S.2.2.2.1
  have hu := S.2.2.2.2
  unfold f_X12_choose_B182 at hg
  refine lv_iload hx hb dX12_choose_182 (lv_at hl 5 rfl) ?_
  refine lv_aload_n hx hb dX12_choose_184 rfl (lv_at hl 0 rfl) ?_
  refine wmgR_0_78 S X mG_2128 dX12_choose_185 ?_
  refine lv_iload hx hb dX12_choose_188 (lv_at hl 4 rfl) ?_
  obtain ⟨hi190, hg⟩ := gd_some hg
  refine wmlA_43 (v := (xA σ 43 v5)) S X hi190 rfl dX12_choose_190 ?_
  refine lv_icmp_ge (tgt := 237) hx hb dX12_choose_191 (by decide) (fun c191 => ?_) (fun c191 => ?_)
  · have hg := (if_pos c191).symm.trans hg
    refine lv_aload_n hx hb dX12_choose_237 rfl (lv_at hl 0 rfl) ?_
    refine lv_aload_n hx hb dX12_choose_238 rfl (lv_at hl 0 rfl) ?_
    refine lv_iload_n hx hb dX12_choose_239 rfl (lv_at hl 1 rfl) ?_
    refine lv_iload hx hb dX12_choose_240 (lv_at hl 3 rfl) ?_
    obtain ⟨r242, τ242, hq242, hg⟩ := bd_some hg
    refine gc_Vi (As := [.int v1, .int v4]) (rest := [.ref (ad 0)]) (q0 := 0) (ci := 15) S X (k2_X12_child l dC dI ad kc hq242 H.size) cw_X12_child mG_2736 rfl rfl rfl rfl rfl hl.1 (Nat.le_of_ble_eq_true rfl) dX12_choose_242 ⟨by omega, by omega⟩ (fun H locs X => ?_)
    obtain ⟨r245, τ245, hq245, hg⟩ := bd_some hg
    refine gc_Vv (As := [.int r242]) (rest := []) (q0 := 0) (ci := 15) S X (k2_X12_evaluate l dC dI ad kc hq245 H.size) cw_X12_evaluate mG_2819 rfl rfl rfl rfl rfl hl.1 (Nat.le_of_ble_eq_true rfl) dX12_choose_245 ⟨by omega, by omega⟩ (fun H locs X => ?_)
    obtain ⟨-, rfl⟩ := fin_some hg
    exact gr_v S hr hk X dX12_choose_248
  · have hg := (if_neg c191).symm.trans hg
    refine lv_aload_n hx hb dX12_choose_194 rfl (lv_at hl 0 rfl) ?_
    refine wmgR_0_124 S X mG_2174 dX12_choose_195 ?_
    refine lv_aload_n hx hb dX12_choose_198 rfl (lv_at hl 0 rfl) ?_
    refine wmgI_50 (v := (gI σ 50)) S X mG_2172 rfl dX12_choose_199 ?_
    refine lv_aload_n hx hb dX12_choose_202 rfl (lv_at hl 0 rfl) ?_
    refine wmgR_0_77 S X mG_2127 dX12_choose_203 ?_
    refine lv_iload hx hb dX12_choose_206 (lv_at hl 4 rfl) ?_
    obtain ⟨hi208, hg⟩ := gd_some hg
    refine wmlA_42 (v := (xA σ 42 v5)) S X hi208 rfl dX12_choose_208 ?_
    refine lv_iadd hx hb dX12_choose_209 ?_
    refine lv_iload hx hb dX12_choose_210 (lv_at hl 5 rfl) ?_
    refine lv_iadd hx hb dX12_choose_212 ?_
    refine lv_aload_n hx hb dX12_choose_213 rfl (lv_at hl 0 rfl) ?_
    refine wmgR_0_99 S X mG_2149 dX12_choose_214 ?_
    refine lv_aload_n hx hb dX12_choose_217 rfl (lv_at hl 0 rfl) ?_
    refine wmgR_0_95 S X mG_2145 dX12_choose_218 ?_
    refine lv_lload_n hx hb dX12_choose_221 rfl (lv_at hl 2 rfl) ?_
    obtain ⟨r222, τ222, hq222, hg⟩ := bd_some hg
    refine gc_Si (As := [.long v2]) (rest := [.ref (ad 63), .ref (ad 65), .int (((gI σ 50) + (xA σ 42 v5)) + v8), .ref (ad 72)]) S X (k2_X12_of l dC dI ad kc hq222 H.size) cw_X12_of mG_2808 rfl rfl hl.1 (Nat.le_of_ble_eq_true rfl) dX12_choose_222 ⟨by omega, by omega⟩ (fun H locs X => ?_)
    obtain ⟨hi225, hg⟩ := gd_some hg
    refine wmlA_55 (v := (xA τ222 55 r222)) S X hi225 rfl dX12_choose_225 ?_
    refine lv_iload hx hb dX12_choose_226 (lv_at hl 5 rfl) ?_
    refine lv_iadd hx hb dX12_choose_228 ?_
    obtain ⟨hi229, hg⟩ := gd_some hg
    refine wmlB_7 (v := (xB τ222 7 ((xA τ222 55 r222) + v8))) S X hi229 rfl dX12_choose_229 ?_
    obtain ⟨hi230, hg⟩ := gd_some hg
    refine wmsB_9 S X hi230 dX12_choose_230 (fun H locs X => ?_)
    refine lv_iinc (v := (v8 + 1)) (lv' := [(8, .int (v8 + 1)), (0, .ref (ad 0)), (1, .int v1), (2, .long v2), (4, .int v4), (5, .int v5)]) hx hb dX12_choose_231 hl (k := 5) rfl (by rfl) (by decide) rfl (fun ls hl => ?_)
    refine lv_goto (tgt := 182) hx hb dX12_choose_234 (by decide) ?_
    exact hrec182 _ _ _ _ _ _ _ _ _ X (lv_sub hl [1, 2, 3, 4, 5, 0] rfl) hg
set_option maxHeartbeats 4000000 in
set_option maxRecDepth 100000 in
theorem w_X12_choose_L182 (S : CallFix p m c cX12_choose 9 s args uG RX12) (hr : meth.sig.returnType = none) (hk : meth.locks = false) (hR : 1 ≤ R.frames ∧ 22 ≤ R.locals) : ∀ (n : Nat) (v1 : Int32) (v2 : Int64) (v4 : Int32) (v5 : Int32) (v8 : Int32) (σ : S5) (H : Heap) (locs : List Loc) (ls : Array Slot), gX (dC, dI) (tM kc) (wM ad kc) Z A s σ H locs → lv_has ls 9 [(0, .ref (ad 0)), (1, .int v1), (2, .long v2), (4, .int v4), (5, .int v5), (8, .int v8)] → f_X12_choose_L182  n v1 v2 v4 v5 v8 σ = some (r, τ) → W p l e R s m args below meth c H locs 0 0 (MQ below (gQv (dC, dI) (tM kc) (wM ad kc) A r τ) args s 0 0 A) (F0 m 182 ls []) := by
  intro n
  induction n with
  | zero => intro v1 v2 v4 v5 v8 σ H locs ls X hl hg; cases hg
  | succ n ih => intro v1 v2 v4 v5 v8 σ H locs ls X hl hg; exact w_X12_choose_B182 S hr hk hR ih X hl hg
set_option maxHeartbeats 4000000 in
set_option maxRecDepth 100000 in
theorem w_X12_choose_b174 {σ : S5} {rec3 : Int32 → Int64 → Int32 → S5 → Option (Unit × S5)} {v1 : Int32} {v2 : Int64} {v4 : Int32} {v5 : Int32} {v7 : Int32} {H : Heap} {locs : List Loc} {ls : Array Slot} (S : CallFix p m c cX12_choose 9 s args uG RX12) (hr : meth.sig.returnType = none) (hk : meth.locks = false) (hR : 1 ≤ R.frames ∧ 22 ≤ R.locals)
    (hrec3 : ∀ (v1 : Int32) (v2 : Int64) (v4 : Int32) (σ : S5) (H : Heap) (locs : List Loc) (ls : Array Slot), gX (dC, dI) (tM kc) (wM ad kc) Z A s σ H locs → lv_has ls 9 [(0, .ref (ad 0)), (1, .int v1), (2, .long v2), (4, .int v4)] → rec3 v1 v2 v4 σ = some (r, τ) → W p l e R s m args below meth c H locs 0 0 (MQ below (gQv (dC, dI) (tM kc) (wM ad kc) A r τ) args s 0 0 A) (F0 m 3 ls []))
    (X : gX (dC, dI) (tM kc) (wM ad kc) Z A s σ H locs) (hl : lv_has ls 9 [(0, .ref (ad 0)), (1, .int v1), (2, .long v2), (4, .int v4), (5, .int v5), (7, .int v7)]) (hg : f_X12_choose_b174 rec3 v1 v2 v4 v5 v7 σ = some (r, τ)) : W p l e R s m args below meth c H locs 0 0 (MQ below (gQv (dC, dI) (tM kc) (wM ad kc) A r τ) args s 0 0 A) (F0 m 174 ls []) := by
  have hx := S.1
  have hb := S.2.1
  have hown := S.2.2.2.1
  have hu := S.2.2.2.2
  unfold f_X12_choose_b174 at hg
  refine lv_iload hx hb dX12_choose_174 (lv_at hl 5 rfl) ?_
  refine lv_if_eq (tgt := 249) hx hb dX12_choose_176 (by decide) (fun c176 => ?_) (fun c176 => ?_)
  · have hg := (if_pos c176).symm.trans hg
    refine lv_iinc (v := (v4 + 1)) (lv' := [(4, .int (v4 + 1)), (0, .ref (ad 0)), (1, .int v1), (2, .long v2), (5, .int v5), (7, .int v7)]) hx hb dX12_choose_249 hl (k := 3) rfl (by rfl) (by decide) rfl (fun ls hl => ?_)
    refine lv_goto (tgt := 3) hx hb dX12_choose_252 (by decide) ?_
    exact hrec3 _ _ _ _ _ _ _ X (lv_sub hl [1, 2, 3, 0] rfl) hg
  · have hg := (if_neg c176).symm.trans hg
    refine lv_iconst (v := 0) hx hb dX12_choose_179 (by decide) ?_
    refine lv_istore (lv' := [(8, .int 0), (0, .ref (ad 0)), (1, .int v1), (2, .long v2), (4, .int v4), (5, .int v5), (7, .int v7)]) hx hb dX12_choose_180 hl (by decide) rfl (fun ls hl => ?_)
    exact w_X12_choose_L182 S hr hk hR _ _ _ _ _ _ _ _ _ _ X (lv_sub hl [1, 2, 3, 4, 5, 0] rfl) hg
set_option maxHeartbeats 4000000 in
set_option maxRecDepth 100000 in
theorem w_X12_choose_b172 {σ : S5} {rec3 : Int32 → Int64 → Int32 → S5 → Option (Unit × S5)} {v1 : Int32} {v2 : Int64} {v4 : Int32} {v5 : Int32} {u0 : Int32} {H : Heap} {locs : List Loc} {ls : Array Slot} (S : CallFix p m c cX12_choose 9 s args uG RX12) (hr : meth.sig.returnType = none) (hk : meth.locks = false) (hR : 1 ≤ R.frames ∧ 22 ≤ R.locals)
    (hrec3 : ∀ (v1 : Int32) (v2 : Int64) (v4 : Int32) (σ : S5) (H : Heap) (locs : List Loc) (ls : Array Slot), gX (dC, dI) (tM kc) (wM ad kc) Z A s σ H locs → lv_has ls 9 [(0, .ref (ad 0)), (1, .int v1), (2, .long v2), (4, .int v4)] → rec3 v1 v2 v4 σ = some (r, τ) → W p l e R s m args below meth c H locs 0 0 (MQ below (gQv (dC, dI) (tM kc) (wM ad kc) A r τ) args s 0 0 A) (F0 m 3 ls []))
    (X : gX (dC, dI) (tM kc) (wM ad kc) Z A s σ H locs) (hl : lv_has ls 9 [(0, .ref (ad 0)), (1, .int v1), (2, .long v2), (4, .int v4), (5, .int v5)]) (hg : f_X12_choose_b172 rec3 v1 v2 v4 v5 u0 σ = some (r, τ)) : W p l e R s m args below meth c H locs 0 0 (MQ below (gQv (dC, dI) (tM kc) (wM ad kc) A r τ) args s 0 0 A) (F0 m 172 ls [.int u0]) := by
  have hx := S.1
  have hb := S.2.1
  have hown := S.2.2.2.1
  have hu := S.2.2.2.2
  unfold f_X12_choose_b172 at hg
  refine lv_istore (lv' := [(7, .int u0), (0, .ref (ad 0)), (1, .int v1), (2, .long v2), (4, .int v4), (5, .int v5)]) hx hb dX12_choose_172 hl (by decide) rfl (fun ls hl => ?_)
  exact w_X12_choose_b174 S hr hk hR hrec3 X (lv_sub hl [1, 2, 3, 4, 5, 0] rfl) hg
set_option maxHeartbeats 4000000 in
set_option maxRecDepth 100000 in
theorem w_X12_choose_b135 {σ : S5} {rec3 : Int32 → Int64 → Int32 → S5 → Option (Unit × S5)} {v1 : Int32} {v2 : Int64} {v4 : Int32} {v5 : Int32} {u0 : Int32} {H : Heap} {locs : List Loc} {ls : Array Slot} (S : CallFix p m c cX12_choose 9 s args uG RX12) (hr : meth.sig.returnType = none) (hk : meth.locks = false) (hR : 1 ≤ R.frames ∧ 22 ≤ R.locals)
    (hrec3 : ∀ (v1 : Int32) (v2 : Int64) (v4 : Int32) (σ : S5) (H : Heap) (locs : List Loc) (ls : Array Slot), gX (dC, dI) (tM kc) (wM ad kc) Z A s σ H locs → lv_has ls 9 [(0, .ref (ad 0)), (1, .int v1), (2, .long v2), (4, .int v4)] → rec3 v1 v2 v4 σ = some (r, τ) → W p l e R s m args below meth c H locs 0 0 (MQ below (gQv (dC, dI) (tM kc) (wM ad kc) A r τ) args s 0 0 A) (F0 m 3 ls []))
    (X : gX (dC, dI) (tM kc) (wM ad kc) Z A s σ H locs) (hl : lv_has ls 9 [(0, .ref (ad 0)), (1, .int v1), (2, .long v2), (4, .int v4), (5, .int v5)]) (hg : f_X12_choose_b135 rec3 v1 v2 v4 v5 u0 σ = some (r, τ)) : W p l e R s m args below meth c H locs 0 0 (MQ below (gQv (dC, dI) (tM kc) (wM ad kc) A r τ) args s 0 0 A) (F0 m 135 ls [.int u0]) := by
  have hx := S.1
  have hb := S.2.1
  have hown := S.2.2.2.1
  have hu := S.2.2.2.2
  unfold f_X12_choose_b135 at hg
  refine lv_istore (lv' := [(7, .int u0), (0, .ref (ad 0)), (1, .int v1), (2, .long v2), (4, .int v4), (5, .int v5)]) hx hb dX12_choose_135 hl (by decide) rfl (fun ls hl => ?_)
  refine lv_goto (tgt := 174) hx hb dX12_choose_137 (by decide) ?_
  exact w_X12_choose_b174 S hr hk hR hrec3 X (lv_sub hl [1, 2, 3, 4, 5, 0] rfl) hg
set_option maxHeartbeats 4000000 in
set_option maxRecDepth 100000 in
theorem w_X12_choose_b87 {σ : S5} {rec3 : Int32 → Int64 → Int32 → S5 → Option (Unit × S5)} {v1 : Int32} {v2 : Int64} {v4 : Int32} {v5 : Int32} {v6 : Int32} {u0 : Int32} {H : Heap} {locs : List Loc} {ls : Array Slot} (S : CallFix p m c cX12_choose 9 s args uG RX12) (hr : meth.sig.returnType = none) (hk : meth.locks = false) (hR : 1 ≤ R.frames ∧ 22 ≤ R.locals)
    (hrec3 : ∀ (v1 : Int32) (v2 : Int64) (v4 : Int32) (σ : S5) (H : Heap) (locs : List Loc) (ls : Array Slot), gX (dC, dI) (tM kc) (wM ad kc) Z A s σ H locs → lv_has ls 9 [(0, .ref (ad 0)), (1, .int v1), (2, .long v2), (4, .int v4)] → rec3 v1 v2 v4 σ = some (r, τ) → W p l e R s m args below meth c H locs 0 0 (MQ below (gQv (dC, dI) (tM kc) (wM ad kc) A r τ) args s 0 0 A) (F0 m 3 ls []))
    (X : gX (dC, dI) (tM kc) (wM ad kc) Z A s σ H locs) (hl : lv_has ls 9 [(0, .ref (ad 0)), (1, .int v1), (2, .long v2), (4, .int v4), (5, .int v5), (6, .int v6)]) (hg : f_X12_choose_b87 rec3 v1 v2 v4 v5 v6 u0 σ = some (r, τ)) : W p l e R s m args below meth c H locs 0 0 (MQ below (gQv (dC, dI) (tM kc) (wM ad kc) A r τ) args s 0 0 A) (F0 m 87 ls [.int u0]) := by
  have hx := S.1
  have hb := S.2.1
  have hown := S.2.2.2.1
  have hu := S.2.2.2.2
  unfold f_X12_choose_b87 at hg
  refine lv_istore (lv' := [(7, .int u0), (0, .ref (ad 0)), (1, .int v1), (2, .long v2), (4, .int v4), (5, .int v5), (6, .int v6)]) hx hb dX12_choose_87 hl (by decide) rfl (fun ls hl => ?_)
  refine lv_aload_n hx hb dX12_choose_89 rfl (lv_at hl 1 rfl) ?_
  refine wmgR_0_75 S X mG_2125 dX12_choose_90 ?_
  refine lv_iload hx hb dX12_choose_93 (lv_at hl 5 rfl) ?_
  obtain ⟨hi95, hg⟩ := gd_some hg
  refine wmlA_40 (v := (xA σ 40 v5)) S X hi95 rfl dX12_choose_95 ?_
  refine lv_if_ne (tgt := 140) hx hb dX12_choose_96 (by decide) (fun c96 => ?_) (fun c96 => ?_)
  · have hg := (if_neg c96).symm.trans hg
    refine lv_aload_n hx hb dX12_choose_140 rfl (lv_at hl 1 rfl) ?_
    refine wmgR_0_75 S X mG_2125 dX12_choose_141 ?_
    refine lv_iload hx hb dX12_choose_144 (lv_at hl 5 rfl) ?_
    obtain ⟨hi146, hg⟩ := gd_some hg
    refine wmlA_40 (v := (xA σ 40 v5)) S X hi146 rfl dX12_choose_146 ?_
    refine lv_iconst (v := 1) hx hb dX12_choose_147 (by decide) ?_
    refine lv_icmp_ne (tgt := 174) hx hb dX12_choose_148 (by decide) (fun c148 => ?_) (fun c148 => ?_)
    · have hg := (if_neg c148).symm.trans hg
      exact w_X12_choose_b174 S hr hk hR hrec3 X (lv_sub hl [1, 2, 3, 4, 5, 0] rfl) hg
    · have hg := (if_pos c148).symm.trans hg
      refine lv_lload_n hx hb dX12_choose_151 rfl (lv_at hl 3 rfl) ?_
      refine lv_iconst (v := 0) hx hb dX12_choose_152 (by decide) ?_
      refine lv_aload_n hx hb dX12_choose_153 rfl (lv_at hl 1 rfl) ?_
      refine wmgR_0_76 S X mG_2126 dX12_choose_154 ?_
      refine lv_iload hx hb dX12_choose_157 (lv_at hl 5 rfl) ?_
      obtain ⟨hi159, hg⟩ := gd_some hg
      refine wmlA_41 (v := (xA σ 41 v5)) S X hi159 rfl dX12_choose_159 ?_
      obtain ⟨r160, τ160, hq160, hg⟩ := bd_some hg
      refine gc_Sl (As := [.int 0, .int (xA σ 41 v5)]) (rest := [.long v2]) S X (k2_X12_value l dC dI ad kc hq160 H.size) cw_X12_value mG_2789 rfl rfl hl.1 (Nat.le_of_ble_eq_true rfl) dX12_choose_160 ⟨by omega, by omega⟩ (fun H locs X => ?_)
      refine W.lcmp hx hb dX12_choose_163 ?_
      refine lv_if_ne (tgt := 171) hx hb dX12_choose_164 (by decide) (fun c164 => ?_) (fun c164 => ?_)
      · have hg := (if_neg c164).symm.trans hg
        refine lv_iconst (v := 0) hx hb dX12_choose_171 (by decide) ?_
        exact w_X12_choose_b172 S hr hk hR hrec3 X (lv_sub hl [1, 2, 3, 4, 5] rfl) hg
      · have hg := (if_pos c164).symm.trans hg
        refine lv_iconst (v := 1) hx hb dX12_choose_167 (by decide) ?_
        refine lv_goto (tgt := 172) hx hb dX12_choose_168 (by decide) ?_
        exact w_X12_choose_b172 S hr hk hR hrec3 X (lv_sub hl [1, 2, 3, 4, 5] rfl) hg
  · have hg := (if_pos c96).symm.trans hg
    refine lv_aload_n hx hb dX12_choose_99 rfl (lv_at hl 1 rfl) ?_
    refine wmgR_0_78 S X mG_2128 dX12_choose_100 ?_
    refine lv_iload hx hb dX12_choose_103 (lv_at hl 5 rfl) ?_
    obtain ⟨hi105, hg⟩ := gd_some hg
    refine wmlA_43 (v := (xA σ 43 v5)) S X hi105 rfl dX12_choose_105 ?_
    refine lv_if_le (tgt := 114) hx hb dX12_choose_106 (by decide) (fun c106 => ?_) (fun c106 => ?_)
    · have hg := (if_pos c106).symm.trans hg
      refine lv_lload_n hx hb dX12_choose_114 rfl (lv_at hl 3 rfl) ?_
      refine lv_iconst (v := 2) hx hb dX12_choose_115 (by decide) ?_
      refine lv_aload_n hx hb dX12_choose_116 rfl (lv_at hl 1 rfl) ?_
      refine wmgR_0_76 S X mG_2126 dX12_choose_117 ?_
      refine lv_iload hx hb dX12_choose_120 (lv_at hl 5 rfl) ?_
      obtain ⟨hi122, hg⟩ := gd_some hg
      refine wmlA_41 (v := (xA σ 41 v5)) S X hi122 rfl dX12_choose_122 ?_
      obtain ⟨r123, τ123, hq123, hg⟩ := bd_some hg
      refine gc_Sl (As := [.int 2, .int (xA σ 41 v5)]) (rest := [.long v2]) S X (k2_X12_value l dC dI ad kc hq123 H.size) cw_X12_value mG_2789 rfl rfl hl.1 (Nat.le_of_ble_eq_true rfl) dX12_choose_123 ⟨by omega, by omega⟩ (fun H locs X => ?_)
      refine W.lcmp hx hb dX12_choose_126 ?_
      refine lv_if_ne (tgt := 134) hx hb dX12_choose_127 (by decide) (fun c127 => ?_) (fun c127 => ?_)
      · have hg := (if_neg c127).symm.trans hg
        refine lv_iconst (v := 0) hx hb dX12_choose_134 (by decide) ?_
        exact w_X12_choose_b135 S hr hk hR hrec3 X (lv_sub hl [1, 2, 3, 4, 5] rfl) hg
      · have hg := (if_pos c127).symm.trans hg
        refine lv_iconst (v := 1) hx hb dX12_choose_130 (by decide) ?_
        refine lv_goto (tgt := 135) hx hb dX12_choose_131 (by decide) ?_
        exact w_X12_choose_b135 S hr hk hR hrec3 X (lv_sub hl [1, 2, 3, 4, 5] rfl) hg
    · have hg := (if_neg c106).symm.trans hg
      refine lv_iload hx hb dX12_choose_109 (lv_at hl 6 rfl) ?_
      refine lv_goto (tgt := 135) hx hb dX12_choose_111 (by decide) ?_
      exact w_X12_choose_b135 S hr hk hR hrec3 X (lv_sub hl [1, 2, 3, 4, 5] rfl) hg
set_option maxHeartbeats 4000000 in
set_option maxRecDepth 100000 in
theorem w_X12_choose_b69 {σ : S5} {rec3 : Int32 → Int64 → Int32 → S5 → Option (Unit × S5)} {v1 : Int32} {v2 : Int64} {v4 : Int32} {v5 : Int32} {u0 : Int32} {H : Heap} {locs : List Loc} {ls : Array Slot} (S : CallFix p m c cX12_choose 9 s args uG RX12) (hr : meth.sig.returnType = none) (hk : meth.locks = false) (hR : 1 ≤ R.frames ∧ 22 ≤ R.locals)
    (hrec3 : ∀ (v1 : Int32) (v2 : Int64) (v4 : Int32) (σ : S5) (H : Heap) (locs : List Loc) (ls : Array Slot), gX (dC, dI) (tM kc) (wM ad kc) Z A s σ H locs → lv_has ls 9 [(0, .ref (ad 0)), (1, .int v1), (2, .long v2), (4, .int v4)] → rec3 v1 v2 v4 σ = some (r, τ) → W p l e R s m args below meth c H locs 0 0 (MQ below (gQv (dC, dI) (tM kc) (wM ad kc) A r τ) args s 0 0 A) (F0 m 3 ls []))
    (X : gX (dC, dI) (tM kc) (wM ad kc) Z A s σ H locs) (hl : lv_has ls 9 [(0, .ref (ad 0)), (1, .int v1), (2, .long v2), (4, .int v4), (5, .int v5)]) (hg : f_X12_choose_b69 rec3 v1 v2 v4 v5 u0 σ = some (r, τ)) : W p l e R s m args below meth c H locs 0 0 (MQ below (gQv (dC, dI) (tM kc) (wM ad kc) A r τ) args s 0 0 A) (F0 m 69 ls [.int u0]) := by
  have hx := S.1
  have hb := S.2.1
  have hown := S.2.2.2.1
  have hu := S.2.2.2.2
  unfold f_X12_choose_b69 at hg
  refine lv_istore (lv' := [(6, .int u0), (0, .ref (ad 0)), (1, .int v1), (2, .long v2), (4, .int v4), (5, .int v5)]) hx hb dX12_choose_69 hl (by decide) rfl (fun ls hl => ?_)
  refine lv_aload_n hx hb dX12_choose_71 rfl (lv_at hl 1 rfl) ?_
  refine wmgR_0_75 S X mG_2125 dX12_choose_72 ?_
  refine lv_iload hx hb dX12_choose_75 (lv_at hl 5 rfl) ?_
  obtain ⟨hi77, hg⟩ := gd_some hg
  refine wmlA_40 (v := (xA σ 40 v5)) S X hi77 rfl dX12_choose_77 ?_
  refine lv_iconst (v := 2) hx hb dX12_choose_78 (by decide) ?_
  refine lv_icmp_ne (tgt := 86) hx hb dX12_choose_79 (by decide) (fun c79 => ?_) (fun c79 => ?_)
  · have hg := (if_neg c79).symm.trans hg
    refine lv_iconst (v := 0) hx hb dX12_choose_86 (by decide) ?_
    exact w_X12_choose_b87 S hr hk hR hrec3 X (lv_sub hl [1, 2, 3, 4, 5, 0] rfl) hg
  · have hg := (if_pos c79).symm.trans hg
    refine lv_iconst (v := 1) hx hb dX12_choose_82 (by decide) ?_
    refine lv_goto (tgt := 87) hx hb dX12_choose_83 (by decide) ?_
    exact w_X12_choose_b87 S hr hk hR hrec3 X (lv_sub hl [1, 2, 3, 4, 5, 0] rfl) hg
set_option maxHeartbeats 4000000 in
set_option maxRecDepth 100000 in
theorem w_X12_choose_b68 {σ : S5} {rec3 : Int32 → Int64 → Int32 → S5 → Option (Unit × S5)} {v1 : Int32} {v2 : Int64} {v4 : Int32} {v5 : Int32} {H : Heap} {locs : List Loc} {ls : Array Slot} (S : CallFix p m c cX12_choose 9 s args uG RX12) (hr : meth.sig.returnType = none) (hk : meth.locks = false) (hR : 1 ≤ R.frames ∧ 22 ≤ R.locals)
    (hrec3 : ∀ (v1 : Int32) (v2 : Int64) (v4 : Int32) (σ : S5) (H : Heap) (locs : List Loc) (ls : Array Slot), gX (dC, dI) (tM kc) (wM ad kc) Z A s σ H locs → lv_has ls 9 [(0, .ref (ad 0)), (1, .int v1), (2, .long v2), (4, .int v4)] → rec3 v1 v2 v4 σ = some (r, τ) → W p l e R s m args below meth c H locs 0 0 (MQ below (gQv (dC, dI) (tM kc) (wM ad kc) A r τ) args s 0 0 A) (F0 m 3 ls []))
    (X : gX (dC, dI) (tM kc) (wM ad kc) Z A s σ H locs) (hl : lv_has ls 9 [(0, .ref (ad 0)), (1, .int v1), (2, .long v2), (4, .int v4), (5, .int v5)]) (hg : f_X12_choose_b68 rec3 v1 v2 v4 v5 σ = some (r, τ)) : W p l e R s m args below meth c H locs 0 0 (MQ below (gQv (dC, dI) (tM kc) (wM ad kc) A r τ) args s 0 0 A) (F0 m 68 ls []) := by
  have hx := S.1
  have hb := S.2.1
  have hown := S.2.2.2.1
  have hu := S.2.2.2.2
  unfold f_X12_choose_b68 at hg
  refine lv_iconst (v := 0) hx hb dX12_choose_68 (by decide) ?_
  exact w_X12_choose_b69 S hr hk hR hrec3 X (lv_sub hl [0, 1, 2, 3, 4] rfl) hg
set_option maxHeartbeats 4000000 in
set_option maxRecDepth 100000 in
theorem w_X12_choose_B3 {σ : S5} {rec3 : Int32 → Int64 → Int32 → S5 → Option (Unit × S5)} {v1 : Int32} {v2 : Int64} {v4 : Int32} {H : Heap} {locs : List Loc} {ls : Array Slot} (S : CallFix p m c cX12_choose 9 s args uG RX12) (hr : meth.sig.returnType = none) (hk : meth.locks = false) (hR : 1 ≤ R.frames ∧ 22 ≤ R.locals)
    (hrec3 : ∀ (v1 : Int32) (v2 : Int64) (v4 : Int32) (σ : S5) (H : Heap) (locs : List Loc) (ls : Array Slot), gX (dC, dI) (tM kc) (wM ad kc) Z A s σ H locs → lv_has ls 9 [(0, .ref (ad 0)), (1, .int v1), (2, .long v2), (4, .int v4)] → rec3 v1 v2 v4 σ = some (r, τ) → W p l e R s m args below meth c H locs 0 0 (MQ below (gQv (dC, dI) (tM kc) (wM ad kc) A r τ) args s 0 0 A) (F0 m 3 ls []))
    (X : gX (dC, dI) (tM kc) (wM ad kc) Z A s σ H locs) (hl : lv_has ls 9 [(0, .ref (ad 0)), (1, .int v1), (2, .long v2), (4, .int v4)]) (hg : f_X12_choose_B3 rec3 v1 v2 v4 σ = some (r, τ)) : W p l e R s m args below meth c H locs 0 0 (MQ below (gQv (dC, dI) (tM kc) (wM ad kc) A r τ) args s 0 0 A) (F0 m 3 ls []) := by
  have hx := S.1
  have hb := S.2.1
  have hown := S.2.2.2.1
  have hu := S.2.2.2.2
  unfold f_X12_choose_B3 at hg
  refine lv_iload hx hb dX12_choose_3 (lv_at hl 3 rfl) ?_
  refine lv_aload_n hx hb dX12_choose_5 rfl (lv_at hl 0 rfl) ?_
  refine wmgR_0_67 S X mG_2117 dX12_choose_6 ?_
  refine lv_iload_n hx hb dX12_choose_9 rfl (lv_at hl 1 rfl) ?_
  obtain ⟨hi10, hg⟩ := gd_some hg
  refine wmlA_34 (v := (xA σ 34 v1)) S X hi10 rfl dX12_choose_10 ?_
  refine lv_icmp_ge (tgt := 255) hx hb dX12_choose_11 (by decide) (fun c11 => ?_) (fun c11 => ?_)
  · have hg := (if_pos c11).symm.trans hg
    refine lv_aload_n hx hb dX12_choose_255 rfl (lv_at hl 0 rfl) ?_
    refine lv_iconst (v := 2) hx hb dX12_choose_256 (by decide) ?_
    refine lv_iconst (v := 1) hx hb dX12_choose_257 (by decide) ?_
    obtain ⟨r258, τ258, hq258, hg⟩ := bd_some hg
    refine gc_Vv (As := [.int 2, .int 1]) (rest := []) (q0 := 0) (ci := 15) S X (k2_X12_ends l dC dI ad kc hq258 H.size) cw_X12_ends mG_2785 rfl rfl rfl rfl rfl hl.1 (Nat.le_of_ble_eq_true rfl) dX12_choose_258 ⟨by omega, by omega⟩ (fun H locs X => ?_)
    obtain ⟨-, rfl⟩ := fin_some hg
    exact gr_v S hr hk X dX12_choose_261
  · have hg := (if_neg c11).symm.trans hg
    refine lv_aload_n hx hb dX12_choose_14 rfl (lv_at hl 0 rfl) ?_
    refine wmgR_0_66 S X mG_2116 dX12_choose_15 ?_
    refine lv_iload_n hx hb dX12_choose_18 rfl (lv_at hl 1 rfl) ?_
    obtain ⟨hi19, hg⟩ := gd_some hg
    refine wmlA_33 (v := (xA σ 33 v1)) S X hi19 rfl dX12_choose_19 ?_
    refine lv_iload hx hb dX12_choose_20 (lv_at hl 3 rfl) ?_
    refine lv_iadd hx hb dX12_choose_22 ?_
    refine lv_istore (lv' := [(5, .int ((xA σ 33 v1) + v4)), (0, .ref (ad 0)), (1, .int v1), (2, .long v2), (4, .int v4)]) hx hb dX12_choose_23 hl (by decide) rfl (fun ls hl => ?_)
    refine lv_lload_n hx hb dX12_choose_25 rfl (lv_at hl 3 rfl) ?_
    obtain ⟨r26, τ26, hq26, hg⟩ := bd_some hg
    refine gc_Si (As := [.long v2]) (rest := []) S X (k2_X12_kindOf l dC dI ad kc hq26 H.size) cw_X12_kindOf mG_2801 rfl rfl hl.1 (Nat.le_of_ble_eq_true rfl) dX12_choose_26 ⟨by omega, by omega⟩ (fun H locs X => ?_)
    refine lv_iconst (v := 3) hx hb dX12_choose_29 (by decide) ?_
    refine lv_icmp_ne (tgt := 68) hx hb dX12_choose_30 (by decide) (fun c30 => ?_) (fun c30 => ?_)
    · have hg := (if_neg c30).symm.trans hg
      exact w_X12_choose_b68 S hr hk hR hrec3 X (lv_sub hl [1, 2, 3, 4, 0] rfl) hg
    · have hg := (if_pos c30).symm.trans hg
      refine lv_aload_n hx hb dX12_choose_33 rfl (lv_at hl 1 rfl) ?_
      refine wmgR_0_92 S X mG_2142 dX12_choose_34 ?_
      refine lv_lload_n hx hb dX12_choose_37 rfl (lv_at hl 3 rfl) ?_
      obtain ⟨r38, τ38, hq38, hg⟩ := bd_some hg
      refine gc_Si (As := [.long v2]) (rest := [.ref (ad 60)]) S X (k2_X12_of l dC dI ad kc hq38 H.size) cw_X12_of mG_2808 rfl rfl hl.1 (Nat.le_of_ble_eq_true rfl) dX12_choose_38 ⟨by omega, by omega⟩ (fun H locs X => ?_)
      obtain ⟨hi41, hg⟩ := gd_some hg
      refine wmlA_53 (v := (xA τ38 53 r38)) S X hi41 rfl dX12_choose_41 ?_
      refine lv_if_ne (tgt := 68) hx hb dX12_choose_42 (by decide) (fun c42 => ?_) (fun c42 => ?_)
      · have hg := (if_neg c42).symm.trans hg
        exact w_X12_choose_b68 S hr hk hR hrec3 X (lv_sub hl [1, 2, 3, 4, 0] rfl) hg
      · have hg := (if_pos c42).symm.trans hg
        refine lv_aload_n hx hb dX12_choose_45 rfl (lv_at hl 1 rfl) ?_
        refine wmgR_0_93 S X mG_2143 dX12_choose_46 ?_
        refine lv_lload_n hx hb dX12_choose_49 rfl (lv_at hl 3 rfl) ?_
        obtain ⟨r50, τ50, hq50, hg⟩ := bd_some hg
        refine gc_Si (As := [.long v2]) (rest := [.ref (ad 61)]) S X (k2_X12_of l dC dI ad kc hq50 H.size) cw_X12_of mG_2808 rfl rfl hl.1 (Nat.le_of_ble_eq_true rfl) dX12_choose_50 ⟨by omega, by omega⟩ (fun H locs X => ?_)
        obtain ⟨hi53, hg⟩ := gd_some hg
        refine wmlA_54 (v := (xA τ50 54 r50)) S X hi53 rfl dX12_choose_53 ?_
        refine lv_aload_n hx hb dX12_choose_54 rfl (lv_at hl 1 rfl) ?_
        refine wmgR_0_76 S X mG_2126 dX12_choose_55 ?_
        refine lv_iload hx hb dX12_choose_58 (lv_at hl 0 rfl) ?_
        obtain ⟨hi60, hg⟩ := gd_some hg
        refine wmlA_41 (v := (xA τ50 41 ((xA σ 33 v1) + v4))) S X hi60 rfl dX12_choose_60 ?_
        refine lv_icmp_ne (tgt := 68) hx hb dX12_choose_61 (by decide) (fun c61 => ?_) (fun c61 => ?_)
        · have hg := (if_neg c61).symm.trans hg
          exact w_X12_choose_b68 S hr hk hR hrec3 X (lv_sub hl [1, 2, 3, 4, 0] rfl) hg
        · have hg := (if_pos c61).symm.trans hg
          refine lv_iconst (v := 1) hx hb dX12_choose_64 (by decide) ?_
          refine lv_goto (tgt := 69) hx hb dX12_choose_65 (by decide) ?_
          exact w_X12_choose_b69 S hr hk hR hrec3 X (lv_sub hl [1, 2, 3, 4, 0] rfl) hg
set_option maxHeartbeats 4000000 in
set_option maxRecDepth 100000 in
theorem w_X12_choose_L3 (S : CallFix p m c cX12_choose 9 s args uG RX12) (hr : meth.sig.returnType = none) (hk : meth.locks = false) (hR : 1 ≤ R.frames ∧ 22 ≤ R.locals) : ∀ (n : Nat) (v1 : Int32) (v2 : Int64) (v4 : Int32) (σ : S5) (H : Heap) (locs : List Loc) (ls : Array Slot), gX (dC, dI) (tM kc) (wM ad kc) Z A s σ H locs → lv_has ls 9 [(0, .ref (ad 0)), (1, .int v1), (2, .long v2), (4, .int v4)] → f_X12_choose_L3  n v1 v2 v4 σ = some (r, τ) → W p l e R s m args below meth c H locs 0 0 (MQ below (gQv (dC, dI) (tM kc) (wM ad kc) A r τ) args s 0 0 A) (F0 m 3 ls []) := by
  intro n
  induction n with
  | zero => intro v1 v2 v4 σ H locs ls X hl hg; cases hg
  | succ n ih => intro v1 v2 v4 σ H locs ls X hl hg; exact w_X12_choose_B3 S hr hk hR ih X hl hg
set_option maxHeartbeats 4000000 in
set_option maxRecDepth 100000 in
theorem w_X12_choose {σ : S5} {a1 : Int32} {a2 : Int64} {H : Heap} {locs : List Loc} {ls : Array Slot} (S : CallFix p m c cX12_choose 9 s args uG RX12) (hr : meth.sig.returnType = none) (hk : meth.locks = false) (hR : 1 ≤ R.frames ∧ 22 ≤ R.locals)
    (X : gX (dC, dI) (tM kc) (wM ad kc) Z A s σ H locs) (hl : lv_has ls 9 [(0, .ref (ad 0)), (1, .int a1), (2, .long a2)]) (hg : f_X12_choose a1 a2 σ = some (r, τ)) : W p l e R s m args below meth c H locs 0 0 (MQ below (gQv (dC, dI) (tM kc) (wM ad kc) A r τ) args s 0 0 A) (F0 m 0 ls []) := by
  have hx := S.1
  have hb := S.2.1
  have hown := S.2.2.2.1
  have hu := S.2.2.2.2
  unfold f_X12_choose at hg
  refine lv_iconst (v := 1) hx hb dX12_choose_0 (by decide) ?_
  refine lv_istore (lv' := [(4, .int 1), (0, .ref (ad 0)), (1, .int a1), (2, .long a2)]) hx hb dX12_choose_1 hl (by decide) rfl (fun ls hl => ?_)
  exact w_X12_choose_L3 S hr hk hR _ _ _ _ _ _ _ _ X (lv_sub hl [1, 2, 3, 0] rfl) hg
end MX12_choose
set_option maxRecDepth 100000 in
theorem k2_X12_choose (l : Launch) (dC : Nat → ClassId) (dI : Nat → Nat → Nat) {Z : ZZ} (ad : Nat → Nat) (kc : Nat → ClassId) {σ τ : S5} {a1 : Int32} {a2 : Int64} {r : Unit} (hg : f_X12_choose a1 a2 σ = some (r, τ)) (sz : Nat) : Met l yX12_choose (Cond.code yX12_choose cX12_choose 9 none :: uG) { frames := 1, cells := 0, slots := 0, locals := 22 } (gPc (dC, dI) (tM kc) (wM ad kc) Z [.ref (ad 0), .int a1, .long a2] σ sz) (gQv (dC, dI) (tM kc) (wM ad kc) (va_A (wM ad kc σ) sz) r τ) 0 0 (va_A (wM ad kc σ) sz) :=
  g_start (by decide) (Nat.le_of_ble_eq_true rfl) (fun p e s m below meth c ls S hr hk X hl => w_X12_choose S hr hk ⟨Nat.le_refl _, Nat.le_refl _⟩ X hl hg)
section MX12_reckon
variable {p : Program} {l : Launch} {e : Env} {R : Room} {s : State} {m : MethodId} {args : Array Value} {below : List Frame} {meth : Method} {c : Code} {dC : Nat → ClassId} {dI : Nat → Nat → Nat} {Z : ZZ} {A : Nat → Prop} {ad : Nat → Nat} {kc : Nat → ClassId} {r : Unit} {τ : S5}
set_option maxHeartbeats 4000000 in
set_option maxRecDepth 100000 in
theorem w_X12_reckon_b287 {σ : S5} {u0 : Int32} {u1 : Int32} {H : Heap} {locs : List Loc} {ls : Array Slot} (S : CallFix p m c cX12_reckon 8 s args uG RX12) (hr : meth.sig.returnType = none) (hk : meth.locks = false) (hR : 1 ≤ R.frames ∧ 22 ≤ R.locals)
    (X : gX (dC, dI) (tM kc) (wM ad kc) Z A s σ H locs) (hl : lv_has ls 8 []) (hg : f_X12_reckon_b287 u0 u1 σ = some (r, τ)) : W p l e R s m args below meth c H locs 0 0 (MQ below (gQv (dC, dI) (tM kc) (wM ad kc) A r τ) args s 0 0 A) (F0 m 287 ls [.int u0, .int u1, .ref (ad 0)]) := by
  have hx := S.1
  have hb := S.2.1
  have hown := S.2.2.2.1
  have hu := S.2.2.2.2
  unfold f_X12_reckon_b287 at hg
  obtain ⟨r287, τ287, hq287, hg⟩ := bd_some hg
  refine gc_Sl (As := [.int u1, .int u0]) (rest := [.ref (ad 0)]) S X (k2_X12_value l dC dI ad kc hq287 H.size) cw_X12_value mG_2789 rfl rfl hl.1 (Nat.le_of_ble_eq_true rfl) dX12_reckon_287 ⟨by omega, by omega⟩ (fun H locs X => ?_)
  obtain ⟨r290, τ290, hq290, hg⟩ := bd_some hg
  refine gc_Vv (As := [.long r287]) (rest := []) (q0 := 0) (ci := 15) S X (k2_X12_gives l dC dI ad kc hq290 H.size) cw_X12_gives mG_2804 rfl rfl rfl rfl rfl hl.1 (Nat.le_of_ble_eq_true rfl) dX12_reckon_290 ⟨by omega, by omega⟩ (fun H locs X => ?_)
  obtain ⟨-, rfl⟩ := fin_some hg
  exact gr_v S hr hk X dX12_reckon_293
set_option maxHeartbeats 4000000 in
set_option maxRecDepth 100000 in
theorem w_X12_reckon_b264 {σ : S5} {u0 : Int32} {u1 : Int32} {H : Heap} {locs : List Loc} {ls : Array Slot} (S : CallFix p m c cX12_reckon 8 s args uG RX12) (hr : meth.sig.returnType = none) (hk : meth.locks = false) (hR : 1 ≤ R.frames ∧ 22 ≤ R.locals)
    (X : gX (dC, dI) (tM kc) (wM ad kc) Z A s σ H locs) (hl : lv_has ls 8 []) (hg : f_X12_reckon_b264 u0 u1 σ = some (r, τ)) : W p l e R s m args below meth c H locs 0 0 (MQ below (gQv (dC, dI) (tM kc) (wM ad kc) A r τ) args s 0 0 A) (F0 m 264 ls [.int u0, .int u1, .ref (ad 0)]) := by
  have hx := S.1
  have hb := S.2.1
  have hown := S.2.2.2.1
  have hu := S.2.2.2.2
  unfold f_X12_reckon_b264 at hg
  obtain ⟨r264, τ264, hq264, hg⟩ := bd_some hg
  refine gc_Sl (As := [.int u1, .int u0]) (rest := [.ref (ad 0)]) S X (k2_X12_value l dC dI ad kc hq264 H.size) cw_X12_value mG_2789 rfl rfl hl.1 (Nat.le_of_ble_eq_true rfl) dX12_reckon_264 ⟨by omega, by omega⟩ (fun H locs X => ?_)
  obtain ⟨r267, τ267, hq267, hg⟩ := bd_some hg
  refine gc_Vv (As := [.long r264]) (rest := []) (q0 := 0) (ci := 15) S X (k2_X12_gives l dC dI ad kc hq267 H.size) cw_X12_gives mG_2804 rfl rfl rfl rfl rfl hl.1 (Nat.le_of_ble_eq_true rfl) dX12_reckon_267 ⟨by omega, by omega⟩ (fun H locs X => ?_)
  refine lv_goto (tgt := 293) hx hb dX12_reckon_270 (by decide) ?_
  obtain ⟨-, rfl⟩ := fin_some hg
  exact gr_v S hr hk X dX12_reckon_293
set_option maxHeartbeats 4000000 in
set_option maxRecDepth 100000 in
theorem w_X12_reckon_b241 {σ : S5} {u0 : Int32} {u1 : Int32} {H : Heap} {locs : List Loc} {ls : Array Slot} (S : CallFix p m c cX12_reckon 8 s args uG RX12) (hr : meth.sig.returnType = none) (hk : meth.locks = false) (hR : 1 ≤ R.frames ∧ 22 ≤ R.locals)
    (X : gX (dC, dI) (tM kc) (wM ad kc) Z A s σ H locs) (hl : lv_has ls 8 []) (hg : f_X12_reckon_b241 u0 u1 σ = some (r, τ)) : W p l e R s m args below meth c H locs 0 0 (MQ below (gQv (dC, dI) (tM kc) (wM ad kc) A r τ) args s 0 0 A) (F0 m 241 ls [.int u0, .int u1, .ref (ad 0)]) := by
  have hx := S.1
  have hb := S.2.1
  have hown := S.2.2.2.1
  have hu := S.2.2.2.2
  unfold f_X12_reckon_b241 at hg
  obtain ⟨r241, τ241, hq241, hg⟩ := bd_some hg
  refine gc_Sl (As := [.int u1, .int u0]) (rest := [.ref (ad 0)]) S X (k2_X12_value l dC dI ad kc hq241 H.size) cw_X12_value mG_2789 rfl rfl hl.1 (Nat.le_of_ble_eq_true rfl) dX12_reckon_241 ⟨by omega, by omega⟩ (fun H locs X => ?_)
  obtain ⟨r244, τ244, hq244, hg⟩ := bd_some hg
  refine gc_Vv (As := [.long r241]) (rest := []) (q0 := 0) (ci := 15) S X (k2_X12_gives l dC dI ad kc hq244 H.size) cw_X12_gives mG_2804 rfl rfl rfl rfl rfl hl.1 (Nat.le_of_ble_eq_true rfl) dX12_reckon_244 ⟨by omega, by omega⟩ (fun H locs X => ?_)
  refine lv_goto (tgt := 293) hx hb dX12_reckon_247 (by decide) ?_
  obtain ⟨-, rfl⟩ := fin_some hg
  exact gr_v S hr hk X dX12_reckon_293
set_option maxHeartbeats 4000000 in
set_option maxRecDepth 100000 in
theorem w_X12_reckon_b218 {σ : S5} {u0 : Int32} {u1 : Int32} {H : Heap} {locs : List Loc} {ls : Array Slot} (S : CallFix p m c cX12_reckon 8 s args uG RX12) (hr : meth.sig.returnType = none) (hk : meth.locks = false) (hR : 1 ≤ R.frames ∧ 22 ≤ R.locals)
    (X : gX (dC, dI) (tM kc) (wM ad kc) Z A s σ H locs) (hl : lv_has ls 8 []) (hg : f_X12_reckon_b218 u0 u1 σ = some (r, τ)) : W p l e R s m args below meth c H locs 0 0 (MQ below (gQv (dC, dI) (tM kc) (wM ad kc) A r τ) args s 0 0 A) (F0 m 218 ls [.int u0, .int u1, .ref (ad 0)]) := by
  have hx := S.1
  have hb := S.2.1
  have hown := S.2.2.2.1
  have hu := S.2.2.2.2
  unfold f_X12_reckon_b218 at hg
  obtain ⟨r218, τ218, hq218, hg⟩ := bd_some hg
  refine gc_Sl (As := [.int u1, .int u0]) (rest := [.ref (ad 0)]) S X (k2_X12_value l dC dI ad kc hq218 H.size) cw_X12_value mG_2789 rfl rfl hl.1 (Nat.le_of_ble_eq_true rfl) dX12_reckon_218 ⟨by omega, by omega⟩ (fun H locs X => ?_)
  obtain ⟨r221, τ221, hq221, hg⟩ := bd_some hg
  refine gc_Vv (As := [.long r218]) (rest := []) (q0 := 0) (ci := 15) S X (k2_X12_gives l dC dI ad kc hq221 H.size) cw_X12_gives mG_2804 rfl rfl rfl rfl rfl hl.1 (Nat.le_of_ble_eq_true rfl) dX12_reckon_221 ⟨by omega, by omega⟩ (fun H locs X => ?_)
  refine lv_goto (tgt := 293) hx hb dX12_reckon_224 (by decide) ?_
  obtain ⟨-, rfl⟩ := fin_some hg
  exact gr_v S hr hk X dX12_reckon_293
set_option maxHeartbeats 4000000 in
set_option maxRecDepth 100000 in
theorem w_X12_reckon_b192 {σ : S5} {u0 : Int32} {u1 : Int32} {H : Heap} {locs : List Loc} {ls : Array Slot} (S : CallFix p m c cX12_reckon 8 s args uG RX12) (hr : meth.sig.returnType = none) (hk : meth.locks = false) (hR : 1 ≤ R.frames ∧ 22 ≤ R.locals)
    (X : gX (dC, dI) (tM kc) (wM ad kc) Z A s σ H locs) (hl : lv_has ls 8 []) (hg : f_X12_reckon_b192 u0 u1 σ = some (r, τ)) : W p l e R s m args below meth c H locs 0 0 (MQ below (gQv (dC, dI) (tM kc) (wM ad kc) A r τ) args s 0 0 A) (F0 m 192 ls [.int u0, .int u1, .ref (ad 0)]) := by
  have hx := S.1
  have hb := S.2.1
  have hown := S.2.2.2.1
  have hu := S.2.2.2.2
  unfold f_X12_reckon_b192 at hg
  obtain ⟨r192, τ192, hq192, hg⟩ := bd_some hg
  refine gc_Sl (As := [.int u1, .int u0]) (rest := [.ref (ad 0)]) S X (k2_X12_value l dC dI ad kc hq192 H.size) cw_X12_value mG_2789 rfl rfl hl.1 (Nat.le_of_ble_eq_true rfl) dX12_reckon_192 ⟨by omega, by omega⟩ (fun H locs X => ?_)
  obtain ⟨r195, τ195, hq195, hg⟩ := bd_some hg
  refine gc_Vv (As := [.long r192]) (rest := []) (q0 := 0) (ci := 15) S X (k2_X12_gives l dC dI ad kc hq195 H.size) cw_X12_gives mG_2804 rfl rfl rfl rfl rfl hl.1 (Nat.le_of_ble_eq_true rfl) dX12_reckon_195 ⟨by omega, by omega⟩ (fun H locs X => ?_)
  refine lv_goto (tgt := 293) hx hb dX12_reckon_198 (by decide) ?_
  obtain ⟨-, rfl⟩ := fin_some hg
  exact gr_v S hr hk X dX12_reckon_293
set_option maxHeartbeats 4000000 in
set_option maxRecDepth 100000 in
theorem w_X12_reckon_b15 {σ : S5}  {H : Heap} {locs : List Loc} {ls : Array Slot} (S : CallFix p m c cX12_reckon 8 s args uG RX12) (hr : meth.sig.returnType = none) (hk : meth.locks = false) (hR : 1 ≤ R.frames ∧ 22 ≤ R.locals)
    (X : gX (dC, dI) (tM kc) (wM ad kc) Z A s σ H locs) (hl : lv_has ls 8 [(0, .ref (ad 0))]) (hg : f_X12_reckon_b15  σ = some (r, τ)) : W p l e R s m args below meth c H locs 0 0 (MQ below (gQv (dC, dI) (tM kc) (wM ad kc) A r τ) args s 0 0 A) (F0 m 15 ls []) := by
  have hx := S.1
  have hb := S.2.1
  have hown := S.2.2.2.1
  have hu := S.2.2.2.2
  unfold f_X12_reckon_b15 at hg
  refine lv_aload_n hx hb dX12_reckon_15 rfl (lv_at hl 0 rfl) ?_
  refine lv_iconst (v := 2) hx hb dX12_reckon_16 (by decide) ?_
  refine lv_iconst (v := 4) hx hb dX12_reckon_17 (by decide) ?_
  obtain ⟨r18, τ18, hq18, hg⟩ := bd_some hg
  refine gc_Vv (As := [.int 2, .int 4]) (rest := []) (q0 := 0) (ci := 15) S X (k2_X12_ends l dC dI ad kc hq18 H.size) cw_X12_ends mG_2785 rfl rfl rfl rfl rfl hl.1 (Nat.le_of_ble_eq_true rfl) dX12_reckon_18 ⟨by omega, by omega⟩ (fun H locs X => ?_)
  obtain ⟨-, rfl⟩ := fin_some hg
  exact gr_v S hr hk X dX12_reckon_21
set_option maxHeartbeats 4000000 in
set_option maxRecDepth 100000 in
theorem w_X12_reckon {σ : S5} {a1 : Int32} {a2 : Int64} {a4 : Int64} {H : Heap} {locs : List Loc} {ls : Array Slot} (S : CallFix p m c cX12_reckon 8 s args uG RX12) (hr : meth.sig.returnType = none) (hk : meth.locks = false) (hR : 1 ≤ R.frames ∧ 22 ≤ R.locals)
    (X : gX (dC, dI) (tM kc) (wM ad kc) Z A s σ H locs) (hl : lv_has ls 8 [(0, .ref (ad 0)), (1, .int a1), (2, .long a2), (4, .long a4)]) (hg : f_X12_reckon a1 a2 a4 σ = some (r, τ)) : W p l e R s m args below meth c H locs 0 0 (MQ below (gQv (dC, dI) (tM kc) (wM ad kc) A r τ) args s 0 0 A) (F0 m 0 ls []) := by
  have hx := S.1
  have hb := S.2.1
  have hown := S.2.2.2.1
  have hu := S.2.2.2.2
  unfold f_X12_reckon at hg
  refine lv_lload_n hx hb dX12_reckon_0 rfl (lv_at hl 2 rfl) ?_
  obtain ⟨r1, τ1, hq1, hg⟩ := bd_some hg
  refine gc_Si (As := [.long a2]) (rest := []) S X (k2_X12_kindOf l dC dI ad kc hq1 H.size) cw_X12_kindOf mG_2801 rfl rfl hl.1 (Nat.le_of_ble_eq_true rfl) dX12_reckon_1 ⟨by omega, by omega⟩ (fun H locs X => ?_)
  refine lv_if_ne (tgt := 15) hx hb dX12_reckon_4 (by decide) (fun c4 => ?_) (fun c4 => ?_)
  · have hg := (if_neg c4).symm.trans hg
    exact w_X12_reckon_b15 S hr hk hR X (lv_sub hl [0] rfl) hg
  · have hg := (if_pos c4).symm.trans hg
    refine lv_lload hx hb dX12_reckon_7 (lv_at hl 3 rfl) ?_
    obtain ⟨r9, τ9, hq9, hg⟩ := bd_some hg
    refine gc_Si (As := [.long a4]) (rest := []) S X (k2_X12_kindOf l dC dI ad kc hq9 H.size) cw_X12_kindOf mG_2801 rfl rfl hl.1 (Nat.le_of_ble_eq_true rfl) dX12_reckon_9 ⟨by omega, by omega⟩ (fun H locs X => ?_)
    refine lv_if_eq (tgt := 22) hx hb dX12_reckon_12 (by decide) (fun c12 => ?_) (fun c12 => ?_)
    · have hg := (if_pos c12).symm.trans hg
      refine lv_lload_n hx hb dX12_reckon_22 rfl (lv_at hl 2 rfl) ?_
      obtain ⟨r23, τ23, hq23, hg⟩ := bd_some hg
      refine gc_Si (As := [.long a2]) (rest := []) S X (k2_X12_of l dC dI ad kc hq23 H.size) cw_X12_of mG_2808 rfl rfl hl.1 (Nat.le_of_ble_eq_true rfl) dX12_reckon_23 ⟨by omega, by omega⟩ (fun H locs X => ?_)
      refine lv_istore (lv' := [(6, .int r23), (0, .ref (ad 0)), (1, .int a1), (2, .long a2), (4, .long a4)]) hx hb dX12_reckon_26 hl (by decide) rfl (fun ls hl => ?_)
      refine lv_lload hx hb dX12_reckon_28 (lv_at hl 4 rfl) ?_
      obtain ⟨r30, τ30, hq30, hg⟩ := bd_some hg
      refine gc_Si (As := [.long a4]) (rest := []) S X (k2_X12_of l dC dI ad kc hq30 H.size) cw_X12_of mG_2808 rfl rfl hl.1 (Nat.le_of_ble_eq_true rfl) dX12_reckon_30 ⟨by omega, by omega⟩ (fun H locs X => ?_)
      refine lv_istore (lv' := [(7, .int r30), (6, .int r23), (0, .ref (ad 0)), (1, .int a1), (2, .long a2), (4, .long a4)]) hx hb dX12_reckon_33 hl (by decide) rfl (fun ls hl => ?_)
      refine lv_iload_n hx hb dX12_reckon_35 rfl (lv_at hl 3 rfl) ?_
      by_cases hs0 : a1 = 21
      · have hg := (if_pos hs0).symm.trans hg
        refine lv_lookup (off := 191) (tgt := 227) hx hb dX12_reckon_36 (by decide) (by rw [hs0]; decide) (by decide) ?_
        refine lv_aload_n hx hb dX12_reckon_227 rfl (lv_at hl 2 rfl) ?_
        refine lv_iconst (v := 2) hx hb dX12_reckon_228 (by decide) ?_
        refine lv_iload hx hb dX12_reckon_229 (lv_at hl 1 rfl) ?_
        refine lv_iload hx hb dX12_reckon_231 (lv_at hl 0 rfl) ?_
        refine lv_icmp_ne (tgt := 240) hx hb dX12_reckon_233 (by decide) (fun c233 => ?_) (fun c233 => ?_)
        · have hg := (if_neg c233).symm.trans hg
          refine lv_iconst (v := 0) hx hb dX12_reckon_240 (by decide) ?_
          exact w_X12_reckon_b241 S hr hk hR X (lv_sub hl [] rfl) hg
        · have hg := (if_pos c233).symm.trans hg
          refine lv_iconst (v := 1) hx hb dX12_reckon_236 (by decide) ?_
          refine lv_goto (tgt := 241) hx hb dX12_reckon_237 (by decide) ?_
          exact w_X12_reckon_b241 S hr hk hR X (lv_sub hl [] rfl) hg
      have hg := (if_neg hs0).symm.trans hg
      by_cases hs1 : a1 = 22
      · have hg := (if_pos hs1).symm.trans hg
        refine lv_lookup (off := 214) (tgt := 250) hx hb dX12_reckon_36 (by decide) (by rw [hs1]; decide) (by decide) ?_
        refine lv_aload_n hx hb dX12_reckon_250 rfl (lv_at hl 2 rfl) ?_
        refine lv_iconst (v := 2) hx hb dX12_reckon_251 (by decide) ?_
        refine lv_iload hx hb dX12_reckon_252 (lv_at hl 1 rfl) ?_
        refine lv_iload hx hb dX12_reckon_254 (lv_at hl 0 rfl) ?_
        refine lv_icmp_gt (tgt := 263) hx hb dX12_reckon_256 (by decide) (fun c256 => ?_) (fun c256 => ?_)
        · have hg := (if_pos c256).symm.trans hg
          refine lv_iconst (v := 0) hx hb dX12_reckon_263 (by decide) ?_
          exact w_X12_reckon_b264 S hr hk hR X (lv_sub hl [] rfl) hg
        · have hg := (if_neg c256).symm.trans hg
          refine lv_iconst (v := 1) hx hb dX12_reckon_259 (by decide) ?_
          refine lv_goto (tgt := 264) hx hb dX12_reckon_260 (by decide) ?_
          exact w_X12_reckon_b264 S hr hk hR X (lv_sub hl [] rfl) hg
      have hg := (if_neg hs1).symm.trans hg
      by_cases hs2 : a1 = 137
      · have hg := (if_pos hs2).symm.trans hg
        refine lv_lookup (off := 116) (tgt := 152) hx hb dX12_reckon_36 (by decide) (by rw [hs2]; decide) (by decide) ?_
        refine lv_iload hx hb dX12_reckon_152 (lv_at hl 0 rfl) ?_
        refine lv_if_ne (tgt := 166) hx hb dX12_reckon_154 (by decide) (fun c154 => ?_) (fun c154 => ?_)
        · have hg := (if_neg c154).symm.trans hg
          refine lv_iload_n hx hb dX12_reckon_166 rfl (lv_at hl 3 rfl) ?_
          refine lv_sipush (v := 147) hx hb dX12_reckon_167 (by decide) ?_
          refine lv_icmp_ne (tgt := 201) hx hb dX12_reckon_170 (by decide) (fun c170 => ?_) (fun c170 => ?_)
          · have hg := (if_neg c170).symm.trans hg
            refine lv_aload_n hx hb dX12_reckon_201 rfl (lv_at hl 2 rfl) ?_
            refine lv_iconst (v := 0) hx hb dX12_reckon_202 (by decide) ?_
            refine lv_iload hx hb dX12_reckon_203 (lv_at hl 0 rfl) ?_
            refine lv_iconst (v := (-1)) hx hb dX12_reckon_205 (by decide) ?_
            refine lv_icmp_ne (tgt := 213) hx hb dX12_reckon_206 (by decide) (fun c206 => ?_) (fun c206 => ?_)
            · have hg := (if_neg c206).symm.trans hg
              refine lv_iload hx hb dX12_reckon_213 (lv_at hl 1 rfl) ?_
              refine lv_iload hx hb dX12_reckon_215 (lv_at hl 0 rfl) ?_
              obtain ⟨hz217, hg⟩ := gz_some hg
              refine lv_irem hx hb dX12_reckon_217 (hz217) ?_
              exact w_X12_reckon_b218 S hr hk hR X (lv_sub hl [] rfl) hg
            · have hg := (if_pos c206).symm.trans hg
              refine lv_iconst (v := 0) hx hb dX12_reckon_209 (by decide) ?_
              refine lv_goto (tgt := 218) hx hb dX12_reckon_210 (by decide) ?_
              exact w_X12_reckon_b218 S hr hk hR X (lv_sub hl [] rfl) hg
          · have hg := (if_pos c170).symm.trans hg
            refine lv_aload_n hx hb dX12_reckon_173 rfl (lv_at hl 2 rfl) ?_
            refine lv_iconst (v := 0) hx hb dX12_reckon_174 (by decide) ?_
            refine lv_iload hx hb dX12_reckon_175 (lv_at hl 0 rfl) ?_
            refine lv_iconst (v := (-1)) hx hb dX12_reckon_177 (by decide) ?_
            refine lv_icmp_ne (tgt := 187) hx hb dX12_reckon_178 (by decide) (fun c178 => ?_) (fun c178 => ?_)
            · have hg := (if_neg c178).symm.trans hg
              refine lv_iload hx hb dX12_reckon_187 (lv_at hl 1 rfl) ?_
              refine lv_iload hx hb dX12_reckon_189 (lv_at hl 0 rfl) ?_
              obtain ⟨hz191, hg⟩ := gz_some hg
              refine lv_idiv hx hb dX12_reckon_191 (hz191) ?_
              exact w_X12_reckon_b192 S hr hk hR X (lv_sub hl [] rfl) hg
            · have hg := (if_pos c178).symm.trans hg
              refine lv_iload hx hb dX12_reckon_181 (lv_at hl 1 rfl) ?_
              refine lv_ineg hx hb dX12_reckon_183 ?_
              refine lv_goto (tgt := 192) hx hb dX12_reckon_184 (by decide) ?_
              exact w_X12_reckon_b192 S hr hk hR X (lv_sub hl [] rfl) hg
        · have hg := (if_pos c154).symm.trans hg
          refine lv_aload_n hx hb dX12_reckon_157 rfl (lv_at hl 2 rfl) ?_
          refine lv_iconst (v := 2) hx hb dX12_reckon_158 (by decide) ?_
          refine lv_iconst (v := 2) hx hb dX12_reckon_159 (by decide) ?_
          obtain ⟨r160, τ160, hq160, hg⟩ := bd_some hg
          refine gc_Vv (As := [.int 2, .int 2]) (rest := []) (q0 := 0) (ci := 15) S X (k2_X12_ends l dC dI ad kc hq160 H.size) cw_X12_ends mG_2785 rfl rfl rfl rfl rfl hl.1 (Nat.le_of_ble_eq_true rfl) dX12_reckon_160 ⟨by omega, by omega⟩ (fun H locs X => ?_)
          refine lv_goto (tgt := 293) hx hb dX12_reckon_163 (by decide) ?_
          obtain ⟨-, rfl⟩ := fin_some hg
          exact gr_v S hr hk X dX12_reckon_293
      have hg := (if_neg hs2).symm.trans hg
      by_cases hs3 : a1 = 142
      · have hg := (if_pos hs3).symm.trans hg
        refine lv_lookup (off := 100) (tgt := 136) hx hb dX12_reckon_36 (by decide) (by rw [hs3]; decide) (by decide) ?_
        refine lv_aload_n hx hb dX12_reckon_136 rfl (lv_at hl 2 rfl) ?_
        refine lv_iconst (v := 0) hx hb dX12_reckon_137 (by decide) ?_
        refine lv_iload hx hb dX12_reckon_138 (lv_at hl 1 rfl) ?_
        refine lv_iload hx hb dX12_reckon_140 (lv_at hl 0 rfl) ?_
        refine lv_imul hx hb dX12_reckon_142 ?_
        obtain ⟨r143, τ143, hq143, hg⟩ := bd_some hg
        refine gc_Sl (As := [.int 0, .int (r23 * r30)]) (rest := [.ref (ad 0)]) S X (k2_X12_value l dC dI ad kc hq143 H.size) cw_X12_value mG_2789 rfl rfl hl.1 (Nat.le_of_ble_eq_true rfl) dX12_reckon_143 ⟨by omega, by omega⟩ (fun H locs X => ?_)
        obtain ⟨r146, τ146, hq146, hg⟩ := bd_some hg
        refine gc_Vv (As := [.long r143]) (rest := []) (q0 := 0) (ci := 15) S X (k2_X12_gives l dC dI ad kc hq146 H.size) cw_X12_gives mG_2804 rfl rfl rfl rfl rfl hl.1 (Nat.le_of_ble_eq_true rfl) dX12_reckon_146 ⟨by omega, by omega⟩ (fun H locs X => ?_)
        refine lv_goto (tgt := 293) hx hb dX12_reckon_149 (by decide) ?_
        obtain ⟨-, rfl⟩ := fin_some hg
        exact gr_v S hr hk X dX12_reckon_293
      have hg := (if_neg hs3).symm.trans hg
      by_cases hs4 : a1 = 143
      · have hg := (if_pos hs4).symm.trans hg
        refine lv_lookup (off := 68) (tgt := 104) hx hb dX12_reckon_36 (by decide) (by rw [hs4]; decide) (by decide) ?_
        refine lv_aload_n hx hb dX12_reckon_104 rfl (lv_at hl 2 rfl) ?_
        refine lv_iconst (v := 0) hx hb dX12_reckon_105 (by decide) ?_
        refine lv_iload hx hb dX12_reckon_106 (lv_at hl 1 rfl) ?_
        refine lv_iload hx hb dX12_reckon_108 (lv_at hl 0 rfl) ?_
        refine lv_iadd hx hb dX12_reckon_110 ?_
        obtain ⟨r111, τ111, hq111, hg⟩ := bd_some hg
        refine gc_Sl (As := [.int 0, .int (r23 + r30)]) (rest := [.ref (ad 0)]) S X (k2_X12_value l dC dI ad kc hq111 H.size) cw_X12_value mG_2789 rfl rfl hl.1 (Nat.le_of_ble_eq_true rfl) dX12_reckon_111 ⟨by omega, by omega⟩ (fun H locs X => ?_)
        obtain ⟨r114, τ114, hq114, hg⟩ := bd_some hg
        refine gc_Vv (As := [.long r111]) (rest := []) (q0 := 0) (ci := 15) S X (k2_X12_gives l dC dI ad kc hq114 H.size) cw_X12_gives mG_2804 rfl rfl rfl rfl rfl hl.1 (Nat.le_of_ble_eq_true rfl) dX12_reckon_114 ⟨by omega, by omega⟩ (fun H locs X => ?_)
        refine lv_goto (tgt := 293) hx hb dX12_reckon_117 (by decide) ?_
        obtain ⟨-, rfl⟩ := fin_some hg
        exact gr_v S hr hk X dX12_reckon_293
      have hg := (if_neg hs4).symm.trans hg
      by_cases hs5 : a1 = 145
      · have hg := (if_pos hs5).symm.trans hg
        refine lv_lookup (off := 84) (tgt := 120) hx hb dX12_reckon_36 (by decide) (by rw [hs5]; decide) (by decide) ?_
        refine lv_aload_n hx hb dX12_reckon_120 rfl (lv_at hl 2 rfl) ?_
        refine lv_iconst (v := 0) hx hb dX12_reckon_121 (by decide) ?_
        refine lv_iload hx hb dX12_reckon_122 (lv_at hl 1 rfl) ?_
        refine lv_iload hx hb dX12_reckon_124 (lv_at hl 0 rfl) ?_
        refine lv_isub hx hb dX12_reckon_126 ?_
        obtain ⟨r127, τ127, hq127, hg⟩ := bd_some hg
        refine gc_Sl (As := [.int 0, .int (r23 - r30)]) (rest := [.ref (ad 0)]) S X (k2_X12_value l dC dI ad kc hq127 H.size) cw_X12_value mG_2789 rfl rfl hl.1 (Nat.le_of_ble_eq_true rfl) dX12_reckon_127 ⟨by omega, by omega⟩ (fun H locs X => ?_)
        obtain ⟨r130, τ130, hq130, hg⟩ := bd_some hg
        refine gc_Vv (As := [.long r127]) (rest := []) (q0 := 0) (ci := 15) S X (k2_X12_gives l dC dI ad kc hq130 H.size) cw_X12_gives mG_2804 rfl rfl rfl rfl rfl hl.1 (Nat.le_of_ble_eq_true rfl) dX12_reckon_130 ⟨by omega, by omega⟩ (fun H locs X => ?_)
        refine lv_goto (tgt := 293) hx hb dX12_reckon_133 (by decide) ?_
        obtain ⟨-, rfl⟩ := fin_some hg
        exact gr_v S hr hk X dX12_reckon_293
      have hg := (if_neg hs5).symm.trans hg
      by_cases hs6 : a1 = 147
      · have hg := (if_pos hs6).symm.trans hg
        refine lv_lookup (off := 116) (tgt := 152) hx hb dX12_reckon_36 (by decide) (by rw [hs6]; decide) (by decide) ?_
        refine lv_iload hx hb dX12_reckon_152 (lv_at hl 0 rfl) ?_
        refine lv_if_ne (tgt := 166) hx hb dX12_reckon_154 (by decide) (fun c154 => ?_) (fun c154 => ?_)
        · have hg := (if_neg c154).symm.trans hg
          refine lv_iload_n hx hb dX12_reckon_166 rfl (lv_at hl 3 rfl) ?_
          refine lv_sipush (v := 147) hx hb dX12_reckon_167 (by decide) ?_
          refine lv_icmp_ne (tgt := 201) hx hb dX12_reckon_170 (by decide) (fun c170 => ?_) (fun c170 => ?_)
          · have hg := (if_neg c170).symm.trans hg
            refine lv_aload_n hx hb dX12_reckon_201 rfl (lv_at hl 2 rfl) ?_
            refine lv_iconst (v := 0) hx hb dX12_reckon_202 (by decide) ?_
            refine lv_iload hx hb dX12_reckon_203 (lv_at hl 0 rfl) ?_
            refine lv_iconst (v := (-1)) hx hb dX12_reckon_205 (by decide) ?_
            refine lv_icmp_ne (tgt := 213) hx hb dX12_reckon_206 (by decide) (fun c206 => ?_) (fun c206 => ?_)
            · have hg := (if_neg c206).symm.trans hg
              refine lv_iload hx hb dX12_reckon_213 (lv_at hl 1 rfl) ?_
              refine lv_iload hx hb dX12_reckon_215 (lv_at hl 0 rfl) ?_
              obtain ⟨hz217, hg⟩ := gz_some hg
              refine lv_irem hx hb dX12_reckon_217 (hz217) ?_
              exact w_X12_reckon_b218 S hr hk hR X (lv_sub hl [] rfl) hg
            · have hg := (if_pos c206).symm.trans hg
              refine lv_iconst (v := 0) hx hb dX12_reckon_209 (by decide) ?_
              refine lv_goto (tgt := 218) hx hb dX12_reckon_210 (by decide) ?_
              exact w_X12_reckon_b218 S hr hk hR X (lv_sub hl [] rfl) hg
          · have hg := (if_pos c170).symm.trans hg
            refine lv_aload_n hx hb dX12_reckon_173 rfl (lv_at hl 2 rfl) ?_
            refine lv_iconst (v := 0) hx hb dX12_reckon_174 (by decide) ?_
            refine lv_iload hx hb dX12_reckon_175 (lv_at hl 0 rfl) ?_
            refine lv_iconst (v := (-1)) hx hb dX12_reckon_177 (by decide) ?_
            refine lv_icmp_ne (tgt := 187) hx hb dX12_reckon_178 (by decide) (fun c178 => ?_) (fun c178 => ?_)
            · have hg := (if_neg c178).symm.trans hg
              refine lv_iload hx hb dX12_reckon_187 (lv_at hl 1 rfl) ?_
              refine lv_iload hx hb dX12_reckon_189 (lv_at hl 0 rfl) ?_
              obtain ⟨hz191, hg⟩ := gz_some hg
              refine lv_idiv hx hb dX12_reckon_191 (hz191) ?_
              exact w_X12_reckon_b192 S hr hk hR X (lv_sub hl [] rfl) hg
            · have hg := (if_pos c178).symm.trans hg
              refine lv_iload hx hb dX12_reckon_181 (lv_at hl 1 rfl) ?_
              refine lv_ineg hx hb dX12_reckon_183 ?_
              refine lv_goto (tgt := 192) hx hb dX12_reckon_184 (by decide) ?_
              exact w_X12_reckon_b192 S hr hk hR X (lv_sub hl [] rfl) hg
        · have hg := (if_pos c154).symm.trans hg
          refine lv_aload_n hx hb dX12_reckon_157 rfl (lv_at hl 2 rfl) ?_
          refine lv_iconst (v := 2) hx hb dX12_reckon_158 (by decide) ?_
          refine lv_iconst (v := 2) hx hb dX12_reckon_159 (by decide) ?_
          obtain ⟨r160, τ160, hq160, hg⟩ := bd_some hg
          refine gc_Vv (As := [.int 2, .int 2]) (rest := []) (q0 := 0) (ci := 15) S X (k2_X12_ends l dC dI ad kc hq160 H.size) cw_X12_ends mG_2785 rfl rfl rfl rfl rfl hl.1 (Nat.le_of_ble_eq_true rfl) dX12_reckon_160 ⟨by omega, by omega⟩ (fun H locs X => ?_)
          refine lv_goto (tgt := 293) hx hb dX12_reckon_163 (by decide) ?_
          obtain ⟨-, rfl⟩ := fin_some hg
          exact gr_v S hr hk X dX12_reckon_293
      have hg := (if_neg hs6).symm.trans hg
      refine lv_lookup (off := 237) (tgt := 273) hx hb dX12_reckon_36 (by decide) (by show Op.lookupswitch.offset [(21, 191), (22, 214), (137, 116), (142, 100), (143, 68), (145, 84), (147, 116)] 237 (a1).toInt = 237; simp only [Op.lookupswitch.offset, lk_ne (a := 21) hs0 (by decide), lk_ne (a := 22) hs1 (by decide), lk_ne (a := 137) hs2 (by decide), lk_ne (a := 142) hs3 (by decide), lk_ne (a := 143) hs4 (by decide), lk_ne (a := 145) hs5 (by decide), lk_ne (a := 147) hs6 (by decide), if_false]) (by decide) ?_
      refine lv_aload_n hx hb dX12_reckon_273 rfl (lv_at hl 2 rfl) ?_
      refine lv_iconst (v := 2) hx hb dX12_reckon_274 (by decide) ?_
      refine lv_iload hx hb dX12_reckon_275 (lv_at hl 1 rfl) ?_
      refine lv_iload hx hb dX12_reckon_277 (lv_at hl 0 rfl) ?_
      refine lv_icmp_ge (tgt := 286) hx hb dX12_reckon_279 (by decide) (fun c279 => ?_) (fun c279 => ?_)
      · have hg := (if_pos c279).symm.trans hg
        refine lv_iconst (v := 0) hx hb dX12_reckon_286 (by decide) ?_
        exact w_X12_reckon_b287 S hr hk hR X (lv_sub hl [] rfl) hg
      · have hg := (if_neg c279).symm.trans hg
        refine lv_iconst (v := 1) hx hb dX12_reckon_282 (by decide) ?_
        refine lv_goto (tgt := 287) hx hb dX12_reckon_283 (by decide) ?_
        exact w_X12_reckon_b287 S hr hk hR X (lv_sub hl [] rfl) hg
    · have hg := (if_neg c12).symm.trans hg
      exact w_X12_reckon_b15 S hr hk hR X (lv_sub hl [0] rfl) hg
end MX12_reckon
set_option maxRecDepth 100000 in
theorem k2_X12_reckon (l : Launch) (dC : Nat → ClassId) (dI : Nat → Nat → Nat) {Z : ZZ} (ad : Nat → Nat) (kc : Nat → ClassId) {σ τ : S5} {a1 : Int32} {a2 : Int64} {a4 : Int64} {r : Unit} (hg : f_X12_reckon a1 a2 a4 σ = some (r, τ)) (sz : Nat) : Met l yX12_reckon (Cond.code yX12_reckon cX12_reckon 8 none :: uG) { frames := 1, cells := 0, slots := 0, locals := 22 } (gPc (dC, dI) (tM kc) (wM ad kc) Z [.ref (ad 0), .int a1, .long a2, .long a4] σ sz) (gQv (dC, dI) (tM kc) (wM ad kc) (va_A (wM ad kc σ) sz) r τ) 0 0 (va_A (wM ad kc σ) sz) :=
  g_start (by decide) (Nat.le_of_ble_eq_true rfl) (fun p e s m below meth c ls S hr hk X hl => w_X12_reckon S hr hk ⟨Nat.le_refl _, Nat.le_refl _⟩ X hl hg)
