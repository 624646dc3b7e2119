
theorem mG_109 : Cond.selects "LazyForgeModel" yX12_passBlanks yX12_passBlanks ∈ uG := uG_at 109 (by decide +kernel) (by decide +kernel)
theorem mG_110 : Cond.selects "LazyForgeModel" yX12_sign yX12_sign ∈ uG := uG_at 110 (by decide +kernel) (by decide +kernel)
theorem mG_115 : Cond.selects "LazyForgeModel" yX12_fail yX12_fail ∈ uG := uG_at 115 (by decide +kernel) (by decide +kernel)
theorem mG_116 : Cond.selects "LazyForgeModel" yX12_accept yX12_accept ∈ uG := uG_at 116 (by decide +kernel) (by decide +kernel)
theorem mG_117 : Cond.selects "LazyForgeModel" yX12_wrong yX12_wrong ∈ uG := uG_at 117 (by decide +kernel) (by decide +kernel)
theorem mG_118 : Cond.selects "LazyForgeModel" yX12_isSign yX12_isSign ∈ uG := uG_at 118 (by decide +kernel) (by decide +kernel)
theorem mG_120 : Cond.selects "LazyForgeModel" yX12_node yX12_node ∈ uG := uG_at 120 (by decide +kernel) (by decide +kernel)
theorem mG_2055 : Cond.fieldLink "LazyForgeModel" 261 "LazyForgeModel" "at" "I" ∈ uG := uG_at 2055 (by decide +kernel) (by decide +kernel)
theorem mG_2056 : Cond.fieldLink "LazyForgeModel" 286 "LazyForgeModel" "word" "I" ∈ uG := uG_at 2056 (by decide +kernel) (by decide +kernel)
theorem mG_2057 : Cond.fieldLink "LazyForgeModel" 275 "LazyForgeModel" "wordPlace" "I" ∈ uG := uG_at 2057 (by decide +kernel) (by decide +kernel)
theorem mG_2058 : Cond.fieldLink "LazyForgeModel" 278 "LazyForgeModel" "wordName" "J" ∈ uG := uG_at 2058 (by decide +kernel) (by decide +kernel)
theorem mG_2060 : Cond.fieldLink "LazyForgeModel" 311 "LazyForgeModel" "fault" "I" ∈ uG := uG_at 2060 (by decide +kernel) (by decide +kernel)
theorem mG_2061 : Cond.fieldLink "LazyForgeModel" 314 "LazyForgeModel" "faultPlace" "I" ∈ uG := uG_at 2061 (by decide +kernel) (by decide +kernel)
theorem mG_2062 : Cond.fieldLink "LazyForgeModel" 327 "LazyForgeModel" "nodes" "I" ∈ uG := uG_at 2062 (by decide +kernel) (by decide +kernel)
theorem mG_2073 : Cond.fieldLink "LazyForgeModel" 330 "LazyForgeModel" "gives" "I" ∈ uG := uG_at 2073 (by decide +kernel) (by decide +kernel)
theorem mG_2077 : Cond.fieldLink "LazyForgeModel" 462 "LazyForgeModel" "functions" "I" ∈ uG := uG_at 2077 (by decide +kernel) (by decide +kernel)
theorem mG_2483 : Cond.methodLink "LazyForgeModel" 298 yX12_passBlanks ∈ uG := uG_at 2483 (by decide +kernel) (by decide +kernel)
theorem mG_2485 : Cond.instanceMethod yX12_passBlanks ∈ uG := uG_at 2485 (by decide +kernel) (by decide +kernel)
theorem mG_2486 : Cond.code yX12_passBlanks prog_14_method_9_code 2 none ∈ uG := uG_at 2486 (by decide +kernel) (by decide +kernel)
theorem mG_2487 : Cond.methodLink "LazyForgeModel" 264 yX12_sign ∈ uG := uG_at 2487 (by decide +kernel) (by decide +kernel)
theorem mG_2489 : Cond.instanceMethod yX12_sign ∈ uG := uG_at 2489 (by decide +kernel) (by decide +kernel)
theorem mG_2490 : Cond.code yX12_sign prog_14_method_3_code 2 (some .int) ∈ uG := uG_at 2490 (by decide +kernel) (by decide +kernel)
theorem mG_2522 : Cond.methodLink "LazyForgeModel" 317 yX12_fail ∈ uG := uG_at 2522 (by decide +kernel) (by decide +kernel)
theorem mG_2524 : Cond.instanceMethod yX12_fail ∈ uG := uG_at 2524 (by decide +kernel) (by decide +kernel)
theorem mG_2525 : Cond.code yX12_fail prog_14_method_14_code 3 none ∈ uG := uG_at 2525 (by decide +kernel) (by decide +kernel)
theorem mG_2526 : Cond.methodLink "LazyForgeModel" 359 yX12_accept ∈ uG := uG_at 2526 (by decide +kernel) (by decide +kernel)
theorem mG_2528 : Cond.instanceMethod yX12_accept ∈ uG := uG_at 2528 (by decide +kernel) (by decide +kernel)
theorem mG_2529 : Cond.code yX12_accept prog_14_method_16_code 2 none ∈ uG := uG_at 2529 (by decide +kernel) (by decide +kernel)
theorem mG_2530 : Cond.methodLink "LazyForgeModel" 324 yX12_wrong ∈ uG := uG_at 2530 (by decide +kernel) (by decide +kernel)
theorem mG_2532 : Cond.instanceMethod yX12_wrong ∈ uG := uG_at 2532 (by decide +kernel) (by decide +kernel)
theorem mG_2533 : Cond.code yX12_wrong prog_14_method_15_code 1 none ∈ uG := uG_at 2533 (by decide +kernel) (by decide +kernel)
theorem mG_2534 : Cond.methodLink "LazyForgeModel" 383 yX12_isSign ∈ uG := uG_at 2534 (by decide +kernel) (by decide +kernel)
theorem mG_2536 : Cond.instanceMethod yX12_isSign ∈ uG := uG_at 2536 (by decide +kernel) (by decide +kernel)
theorem mG_2537 : Cond.code yX12_isSign prog_14_method_13_code 2 (some .boolean) ∈ uG := uG_at 2537 (by decide +kernel) (by decide +kernel)
theorem mG_2542 : Cond.methodLink "LazyForgeModel" 369 yX12_node ∈ uG := uG_at 2542 (by decide +kernel) (by decide +kernel)
theorem mG_2544 : Cond.instanceMethod yX12_node ∈ uG := uG_at 2544 (by decide +kernel) (by decide +kernel)
theorem mG_2545 : Cond.code yX12_node prog_14_method_17_code 3 (some .int) ∈ uG := uG_at 2545 (by decide +kernel) (by decide +kernel)
theorem dX12_accept_0 : decode cX12_accept 0 = .ok (.iload_n 1, 1) := by decide +kernel
theorem dX12_accept_1 : decode cX12_accept 1 = .ok (.ifCond .eq 17, 3) := by decide +kernel
theorem dX12_accept_4 : decode cX12_accept 4 = .ok (.aload_n 0, 1) := by decide +kernel
theorem dX12_accept_5 : decode cX12_accept 5 = .ok (.getfield 311, 3) := by decide +kernel
theorem dX12_accept_8 : decode cX12_accept 8 = .ok (.ifCond .ne 10, 3) := by decide +kernel
theorem dX12_accept_11 : decode cX12_accept 11 = .ok (.aload_n 0, 1) := by decide +kernel
theorem dX12_accept_12 : decode cX12_accept 12 = .ok (.invokevirtual 321, 3) := by decide +kernel
theorem dX12_accept_15 : decode cX12_accept 15 = .ok (.goto 7, 3) := by decide +kernel
theorem dX12_accept_18 : decode cX12_accept 18 = .ok (.aload_n 0, 1) := by decide +kernel
theorem dX12_accept_19 : decode cX12_accept 19 = .ok (.invokevirtual 324, 3) := by decide +kernel
theorem dX12_accept_22 : decode cX12_accept 22 = .ok (.return_, 1) := by decide +kernel
theorem dX12_fail_0 : decode cX12_fail 0 = .ok (.aload_n 0, 1) := by decide +kernel
theorem dX12_fail_1 : decode cX12_fail 1 = .ok (.getfield 311, 3) := by decide +kernel
theorem dX12_fail_4 : decode cX12_fail 4 = .ok (.ifCond .ne 13, 3) := by decide +kernel
theorem dX12_fail_7 : decode cX12_fail 7 = .ok (.aload_n 0, 1) := by decide +kernel
theorem dX12_fail_8 : decode cX12_fail 8 = .ok (.iload_n 1, 1) := by decide +kernel
theorem dX12_fail_9 : decode cX12_fail 9 = .ok (.putfield 311, 3) := by decide +kernel
theorem dX12_fail_12 : decode cX12_fail 12 = .ok (.aload_n 0, 1) := by decide +kernel
theorem dX12_fail_13 : decode cX12_fail 13 = .ok (.iload_n 2, 1) := by decide +kernel
theorem dX12_fail_14 : decode cX12_fail 14 = .ok (.putfield 314, 3) := by decide +kernel
theorem dX12_fail_17 : decode cX12_fail 17 = .ok (.return_, 1) := by decide +kernel
theorem dX12_isSign_0 : decode cX12_isSign 0 = .ok (.aload_n 0, 1) := by decide +kernel
theorem dX12_isSign_1 : decode cX12_isSign 1 = .ok (.getfield 286, 3) := by decide +kernel
theorem dX12_isSign_4 : decode cX12_isSign 4 = .ok (.bipush 100, 2) := by decide +kernel
theorem dX12_isSign_6 : decode cX12_isSign 6 = .ok (.iload_n 1, 1) := by decide +kernel
theorem dX12_isSign_7 : decode cX12_isSign 7 = .ok (.iadd, 1) := by decide +kernel
theorem dX12_isSign_8 : decode cX12_isSign 8 = .ok (.if_icmp .ne 7, 3) := by decide +kernel
theorem dX12_isSign_11 : decode cX12_isSign 11 = .ok (.iconst 1, 1) := by decide +kernel
theorem dX12_isSign_12 : decode cX12_isSign 12 = .ok (.goto 4, 3) := by decide +kernel
theorem dX12_isSign_15 : decode cX12_isSign 15 = .ok (.iconst 0, 1) := by decide +kernel
theorem dX12_isSign_16 : decode cX12_isSign 16 = .ok (.ireturn, 1) := by decide +kernel
theorem dX12_next_0 : decode cX12_next 0 = .ok (.aload_n 0, 1) := by decide +kernel
theorem dX12_next_1 : decode cX12_next 1 = .ok (.invokevirtual 298, 3) := by decide +kernel
theorem dX12_next_4 : decode cX12_next 4 = .ok (.aload_n 0, 1) := by decide +kernel
theorem dX12_next_5 : decode cX12_next 5 = .ok (.aload_n 0, 1) := by decide +kernel
theorem dX12_next_6 : decode cX12_next 6 = .ok (.getfield 261, 3) := by decide +kernel
theorem dX12_next_9 : decode cX12_next 9 = .ok (.putfield 275, 3) := by decide +kernel
theorem dX12_next_12 : decode cX12_next 12 = .ok (.aload_n 0, 1) := by decide +kernel
theorem dX12_next_13 : decode cX12_next 13 = .ok (.aload_n 0, 1) := by decide +kernel
theorem dX12_next_14 : decode cX12_next 14 = .ok (.getfield 261, 3) := by decide +kernel
theorem dX12_next_17 : decode cX12_next 17 = .ok (.invokevirtual 264, 3) := by decide +kernel
theorem dX12_next_20 : decode cX12_next 20 = .ok (.istore_n 1, 1) := by decide +kernel
theorem dX12_next_21 : decode cX12_next 21 = .ok (.aload_n 0, 1) := by decide +kernel
theorem dX12_next_22 : decode cX12_next 22 = .ok (.aload_n 0, 1) := by decide +kernel
theorem dX12_next_23 : decode cX12_next 23 = .ok (.getfield 261, 3) := by decide +kernel
theorem dX12_next_26 : decode cX12_next 26 = .ok (.iconst 1, 1) := by decide +kernel
theorem dX12_next_27 : decode cX12_next 27 = .ok (.iadd, 1) := by decide +kernel
theorem dX12_next_28 : decode cX12_next 28 = .ok (.invokevirtual 264, 3) := by decide +kernel
theorem dX12_next_31 : decode cX12_next 31 = .ok (.istore_n 2, 1) := by decide +kernel
theorem dX12_next_32 : decode cX12_next 32 = .ok (.aload_n 0, 1) := by decide +kernel
theorem dX12_next_33 : decode cX12_next 33 = .ok (.getfield 261, 3) := by decide +kernel
theorem dX12_next_36 : decode cX12_next 36 = .ok (.aload_n 0, 1) := by decide +kernel
theorem dX12_next_37 : decode cX12_next 37 = .ok (.getfield 254, 3) := by decide +kernel
theorem dX12_next_40 : decode cX12_next 40 = .ok (.if_icmp .lt 11, 3) := by decide +kernel
theorem dX12_next_43 : decode cX12_next 43 = .ok (.aload_n 0, 1) := by decide +kernel
theorem dX12_next_44 : decode cX12_next 44 = .ok (.iconst 0, 1) := by decide +kernel
theorem dX12_next_45 : decode cX12_next 45 = .ok (.putfield 286, 3) := by decide +kernel
theorem dX12_next_48 : decode cX12_next 48 = .ok (.goto 263, 3) := by decide +kernel
theorem dX12_next_51 : decode cX12_next 51 = .ok (.iload_n 1, 1) := by decide +kernel
theorem dX12_next_52 : decode cX12_next 52 = .ok (.invokestatic 268, 3) := by decide +kernel
theorem dX12_next_55 : decode cX12_next 55 = .ok (.ifCond .ne 10, 3) := by decide +kernel
theorem dX12_next_58 : decode cX12_next 58 = .ok (.iload_n 1, 1) := by decide +kernel
theorem dX12_next_59 : decode cX12_next 59 = .ok (.invokestatic 301, 3) := by decide +kernel
theorem dX12_next_62 : decode cX12_next 62 = .ok (.ifCond .eq 14, 3) := by decide +kernel
theorem dX12_next_65 : decode cX12_next 65 = .ok (.aload_n 0, 1) := by decide +kernel
theorem dX12_next_66 : decode cX12_next 66 = .ok (.iload_n 1, 1) := by decide +kernel
theorem dX12_next_67 : decode cX12_next 67 = .ok (.invokestatic 301, 3) := by decide +kernel
theorem dX12_next_70 : decode cX12_next 70 = .ok (.invokevirtual 304, 3) := by decide +kernel
theorem dX12_next_73 : decode cX12_next 73 = .ok (.goto 238, 3) := by decide +kernel
theorem dX12_next_76 : decode cX12_next 76 = .ok (.iload_n 1, 1) := by decide +kernel
theorem dX12_next_77 : decode cX12_next 77 = .ok (.invokestatic 272, 3) := by decide +kernel
theorem dX12_next_80 : decode cX12_next 80 = .ok (.ifCond .eq 10, 3) := by decide +kernel
theorem dX12_next_83 : decode cX12_next 83 = .ok (.aload_n 0, 1) := by decide +kernel
theorem dX12_next_84 : decode cX12_next 84 = .ok (.invokevirtual 308, 3) := by decide +kernel
theorem dX12_next_87 : decode cX12_next 87 = .ok (.goto 224, 3) := by decide +kernel
theorem dX12_next_90 : decode cX12_next 90 = .ok (.iload_n 1, 1) := by decide +kernel
theorem dX12_next_91 : decode cX12_next 91 = .ok (.bipush 45, 2) := by decide +kernel
theorem dX12_next_93 : decode cX12_next 93 = .ok (.if_icmp .ne 9, 3) := by decide +kernel
theorem dX12_next_96 : decode cX12_next 96 = .ok (.iload_n 2, 1) := by decide +kernel
theorem dX12_next_97 : decode cX12_next 97 = .ok (.bipush 62, 2) := by decide +kernel
theorem dX12_next_99 : decode cX12_next 99 = .ok (.if_icmp .eq 27, 3) := by decide +kernel
theorem dX12_next_102 : decode cX12_next 102 = .ok (.iload_n 1, 1) := by decide +kernel
theorem dX12_next_103 : decode cX12_next 103 = .ok (.bipush 60, 2) := by decide +kernel
theorem dX12_next_105 : decode cX12_next 105 = .ok (.if_icmp .ne 9, 3) := by decide +kernel
theorem dX12_next_108 : decode cX12_next 108 = .ok (.iload_n 2, 1) := by decide +kernel
theorem dX12_next_109 : decode cX12_next 109 = .ok (.bipush 61, 2) := by decide +kernel
theorem dX12_next_111 : decode cX12_next 111 = .ok (.if_icmp .eq 15, 3) := by decide +kernel
theorem dX12_next_114 : decode cX12_next 114 = .ok (.iload_n 1, 1) := by decide +kernel
theorem dX12_next_115 : decode cX12_next 115 = .ok (.bipush 61, 2) := by decide +kernel
theorem dX12_next_117 : decode cX12_next 117 = .ok (.if_icmp .ne 50, 3) := by decide +kernel
theorem dX12_next_120 : decode cX12_next 120 = .ok (.iload_n 2, 1) := by decide +kernel
theorem dX12_next_121 : decode cX12_next 121 = .ok (.bipush 61, 2) := by decide +kernel
theorem dX12_next_123 : decode cX12_next 123 = .ok (.if_icmp .ne 44, 3) := by decide +kernel
theorem dX12_next_126 : decode cX12_next 126 = .ok (.aload_n 0, 1) := by decide +kernel
theorem dX12_next_127 : decode cX12_next 127 = .ok (.dup, 1) := by decide +kernel
theorem dX12_next_128 : decode cX12_next 128 = .ok (.getfield 261, 3) := by decide +kernel
theorem dX12_next_131 : decode cX12_next 131 = .ok (.iconst 2, 1) := by decide +kernel
theorem dX12_next_132 : decode cX12_next 132 = .ok (.iadd, 1) := by decide +kernel
theorem dX12_next_133 : decode cX12_next 133 = .ok (.putfield 261, 3) := by decide +kernel
theorem dX12_next_136 : decode cX12_next 136 = .ok (.aload_n 0, 1) := by decide +kernel
theorem dX12_next_137 : decode cX12_next 137 = .ok (.iload_n 1, 1) := by decide +kernel
theorem dX12_next_138 : decode cX12_next 138 = .ok (.bipush 45, 2) := by decide +kernel
theorem dX12_next_140 : decode cX12_next 140 = .ok (.if_icmp .ne 8, 3) := by decide +kernel
theorem dX12_next_143 : decode cX12_next 143 = .ok (.bipush 20, 2) := by decide +kernel
theorem dX12_next_145 : decode cX12_next 145 = .ok (.goto 16, 3) := by decide +kernel
theorem dX12_next_148 : decode cX12_next 148 = .ok (.iload_n 1, 1) := by decide +kernel
theorem dX12_next_149 : decode cX12_next 149 = .ok (.bipush 60, 2) := by decide +kernel
theorem dX12_next_151 : decode cX12_next 151 = .ok (.if_icmp .ne 8, 3) := by decide +kernel
theorem dX12_next_154 : decode cX12_next 154 = .ok (.bipush 22, 2) := by decide +kernel
theorem dX12_next_156 : decode cX12_next 156 = .ok (.goto 5, 3) := by decide +kernel
theorem dX12_next_159 : decode cX12_next 159 = .ok (.bipush 21, 2) := by decide +kernel
theorem dX12_next_161 : decode cX12_next 161 = .ok (.putfield 286, 3) := by decide +kernel
theorem dX12_next_164 : decode cX12_next 164 = .ok (.goto 147, 3) := by decide +kernel
theorem dX12_next_167 : decode cX12_next 167 = .ok (.iload_n 1, 1) := by decide +kernel
theorem dX12_next_168 : decode cX12_next 168 = .ok (.bipush 40, 2) := by decide +kernel
theorem dX12_next_170 : decode cX12_next 170 = .ok (.if_icmp .eq 51, 3) := by decide +kernel
theorem dX12_next_173 : decode cX12_next 173 = .ok (.iload_n 1, 1) := by decide +kernel
theorem dX12_next_174 : decode cX12_next 174 = .ok (.bipush 41, 2) := by decide +kernel
theorem dX12_next_176 : decode cX12_next 176 = .ok (.if_icmp .eq 45, 3) := by decide +kernel
theorem dX12_next_179 : decode cX12_next 179 = .ok (.iload_n 1, 1) := by decide +kernel
theorem dX12_next_180 : decode cX12_next 180 = .ok (.bipush 123, 2) := by decide +kernel
theorem dX12_next_182 : decode cX12_next 182 = .ok (.if_icmp .eq 39, 3) := by decide +kernel
theorem dX12_next_185 : decode cX12_next 185 = .ok (.iload_n 1, 1) := by decide +kernel
theorem dX12_next_186 : decode cX12_next 186 = .ok (.bipush 125, 2) := by decide +kernel
theorem dX12_next_188 : decode cX12_next 188 = .ok (.if_icmp .eq 33, 3) := by decide +kernel
theorem dX12_next_191 : decode cX12_next 191 = .ok (.iload_n 1, 1) := by decide +kernel
theorem dX12_next_192 : decode cX12_next 192 = .ok (.bipush 61, 2) := by decide +kernel
theorem dX12_next_194 : decode cX12_next 194 = .ok (.if_icmp .eq 27, 3) := by decide +kernel
theorem dX12_next_197 : decode cX12_next 197 = .ok (.iload_n 1, 1) := by decide +kernel
theorem dX12_next_198 : decode cX12_next 198 = .ok (.bipush 59, 2) := by decide +kernel
theorem dX12_next_200 : decode cX12_next 200 = .ok (.if_icmp .eq 21, 3) := by decide +kernel
theorem dX12_next_203 : decode cX12_next 203 = .ok (.iload_n 1, 1) := by decide +kernel
theorem dX12_next_204 : decode cX12_next 204 = .ok (.bipush 44, 2) := by decide +kernel
theorem dX12_next_206 : decode cX12_next 206 = .ok (.if_icmp .eq 15, 3) := by decide +kernel
theorem dX12_next_209 : decode cX12_next 209 = .ok (.iload_n 1, 1) := by decide +kernel
theorem dX12_next_210 : decode cX12_next 210 = .ok (.bipush 92, 2) := by decide +kernel
theorem dX12_next_212 : decode cX12_next 212 = .ok (.if_icmp .eq 9, 3) := by decide +kernel
theorem dX12_next_215 : decode cX12_next 215 = .ok (.iload_n 1, 1) := by decide +kernel
theorem dX12_next_216 : decode cX12_next 216 = .ok (.bipush 46, 2) := by decide +kernel
theorem dX12_next_218 : decode cX12_next 218 = .ok (.if_icmp .ne 7, 3) := by decide +kernel
theorem dX12_next_221 : decode cX12_next 221 = .ok (.iconst 1, 1) := by decide +kernel
theorem dX12_next_222 : decode cX12_next 222 = .ok (.goto 4, 3) := by decide +kernel
theorem dX12_next_225 : decode cX12_next 225 = .ok (.iconst 0, 1) := by decide +kernel
theorem dX12_next_226 : decode cX12_next 226 = .ok (.istore_n 3, 1) := by decide +kernel
theorem dX12_next_227 : decode cX12_next 227 = .ok (.iload_n 3, 1) := by decide +kernel
theorem dX12_next_228 : decode cX12_next 228 = .ok (.ifCond .ne 51, 3) := by decide +kernel
theorem dX12_next_231 : decode cX12_next 231 = .ok (.iload_n 1, 1) := by decide +kernel
theorem dX12_next_232 : decode cX12_next 232 = .ok (.bipush 95, 2) := by decide +kernel
theorem dX12_next_234 : decode cX12_next 234 = .ok (.if_icmp .eq 45, 3) := by decide +kernel
theorem dX12_next_237 : decode cX12_next 237 = .ok (.iload_n 1, 1) := by decide +kernel
theorem dX12_next_238 : decode cX12_next 238 = .ok (.bipush 43, 2) := by decide +kernel
theorem dX12_next_240 : decode cX12_next 240 = .ok (.if_icmp .eq 39, 3) := by decide +kernel
theorem dX12_next_243 : decode cX12_next 243 = .ok (.iload_n 1, 1) := by decide +kernel
theorem dX12_next_244 : decode cX12_next 244 = .ok (.bipush 45, 2) := by decide +kernel
theorem dX12_next_246 : decode cX12_next 246 = .ok (.if_icmp .eq 33, 3) := by decide +kernel
theorem dX12_next_249 : decode cX12_next 249 = .ok (.iload_n 1, 1) := by decide +kernel
theorem dX12_next_250 : decode cX12_next 250 = .ok (.bipush 42, 2) := by decide +kernel
theorem dX12_next_252 : decode cX12_next 252 = .ok (.if_icmp .eq 27, 3) := by decide +kernel
theorem dX12_next_255 : decode cX12_next 255 = .ok (.iload_n 1, 1) := by decide +kernel
theorem dX12_next_256 : decode cX12_next 256 = .ok (.bipush 47, 2) := by decide +kernel
theorem dX12_next_258 : decode cX12_next 258 = .ok (.if_icmp .eq 21, 3) := by decide +kernel
theorem dX12_next_261 : decode cX12_next 261 = .ok (.iload_n 1, 1) := by decide +kernel
theorem dX12_next_262 : decode cX12_next 262 = .ok (.bipush 37, 2) := by decide +kernel
theorem dX12_next_264 : decode cX12_next 264 = .ok (.if_icmp .eq 15, 3) := by decide +kernel
theorem dX12_next_267 : decode cX12_next 267 = .ok (.iload_n 1, 1) := by decide +kernel
theorem dX12_next_268 : decode cX12_next 268 = .ok (.bipush 60, 2) := by decide +kernel
theorem dX12_next_270 : decode cX12_next 270 = .ok (.if_icmp .eq 9, 3) := by decide +kernel
theorem dX12_next_273 : decode cX12_next 273 = .ok (.iload_n 1, 1) := by decide +kernel
theorem dX12_next_274 : decode cX12_next 274 = .ok (.bipush 124, 2) := by decide +kernel
theorem dX12_next_276 : decode cX12_next 276 = .ok (.if_icmp .ne 7, 3) := by decide +kernel
theorem dX12_next_279 : decode cX12_next 279 = .ok (.iconst 1, 1) := by decide +kernel
theorem dX12_next_280 : decode cX12_next 280 = .ok (.goto 4, 3) := by decide +kernel
theorem dX12_next_283 : decode cX12_next 283 = .ok (.iconst 0, 1) := by decide +kernel
theorem dX12_next_284 : decode cX12_next 284 = .ok (.istore_n 3, 1) := by decide +kernel
theorem dX12_next_285 : decode cX12_next 285 = .ok (.aload_n 0, 1) := by decide +kernel
theorem dX12_next_286 : decode cX12_next 286 = .ok (.dup, 1) := by decide +kernel
theorem dX12_next_287 : decode cX12_next 287 = .ok (.getfield 261, 3) := by decide +kernel
theorem dX12_next_290 : decode cX12_next 290 = .ok (.iconst 1, 1) := by decide +kernel
theorem dX12_next_291 : decode cX12_next 291 = .ok (.iadd, 1) := by decide +kernel
theorem dX12_next_292 : decode cX12_next 292 = .ok (.putfield 261, 3) := by decide +kernel
theorem dX12_next_295 : decode cX12_next 295 = .ok (.aload_n 0, 1) := by decide +kernel
theorem dX12_next_296 : decode cX12_next 296 = .ok (.iload_n 3, 1) := by decide +kernel
theorem dX12_next_297 : decode cX12_next 297 = .ok (.ifCond .eq 10, 3) := by decide +kernel
theorem dX12_next_300 : decode cX12_next 300 = .ok (.bipush 100, 2) := by decide +kernel
theorem dX12_next_302 : decode cX12_next 302 = .ok (.iload_n 1, 1) := by decide +kernel
theorem dX12_next_303 : decode cX12_next 303 = .ok (.iadd, 1) := by decide +kernel
theorem dX12_next_304 : decode cX12_next 304 = .ok (.goto 4, 3) := by decide +kernel
theorem dX12_next_307 : decode cX12_next 307 = .ok (.iconst 1, 1) := by decide +kernel
theorem dX12_next_308 : decode cX12_next 308 = .ok (.putfield 286, 3) := by decide +kernel
theorem dX12_next_311 : decode cX12_next 311 = .ok (.return_, 1) := by decide +kernel
theorem dX12_node_0 : decode cX12_node 0 = .ok (.aload_n 0, 1) := by decide +kernel
theorem dX12_node_1 : decode cX12_node 1 = .ok (.getfield 327, 3) := by decide +kernel
theorem dX12_node_4 : decode cX12_node 4 = .ok (.istore_n 2, 1) := by decide +kernel
theorem dX12_node_5 : decode cX12_node 5 = .ok (.aload_n 0, 1) := by decide +kernel
theorem dX12_node_6 : decode cX12_node 6 = .ok (.dup, 1) := by decide +kernel
theorem dX12_node_7 : decode cX12_node 7 = .ok (.getfield 327, 3) := by decide +kernel
theorem dX12_node_10 : decode cX12_node 10 = .ok (.iconst 1, 1) := by decide +kernel
theorem dX12_node_11 : decode cX12_node 11 = .ok (.iadd, 1) := by decide +kernel
theorem dX12_node_12 : decode cX12_node 12 = .ok (.putfield 327, 3) := by decide +kernel
theorem dX12_node_15 : decode cX12_node 15 = .ok (.aload_n 0, 1) := by decide +kernel
theorem dX12_node_16 : decode cX12_node 16 = .ok (.getfield 16, 3) := by decide +kernel
theorem dX12_node_19 : decode cX12_node 19 = .ok (.iload_n 2, 1) := by decide +kernel
theorem dX12_node_20 : decode cX12_node 20 = .ok (.iload_n 1, 1) := by decide +kernel
theorem dX12_node_21 : decode cX12_node 21 = .ok (.iastore, 1) := by decide +kernel
theorem dX12_node_22 : decode cX12_node 22 = .ok (.aload_n 0, 1) := by decide +kernel
theorem dX12_node_23 : decode cX12_node 23 = .ok (.getfield 19, 3) := by decide +kernel
theorem dX12_node_26 : decode cX12_node 26 = .ok (.iload_n 2, 1) := by decide +kernel
theorem dX12_node_27 : decode cX12_node 27 = .ok (.iconst (-1), 1) := by decide +kernel
theorem dX12_node_28 : decode cX12_node 28 = .ok (.iastore, 1) := by decide +kernel
theorem dX12_node_29 : decode cX12_node 29 = .ok (.aload_n 0, 1) := by decide +kernel
theorem dX12_node_30 : decode cX12_node 30 = .ok (.getfield 22, 3) := by decide +kernel
theorem dX12_node_33 : decode cX12_node 33 = .ok (.iload_n 2, 1) := by decide +kernel
theorem dX12_node_34 : decode cX12_node 34 = .ok (.iconst (-1), 1) := by decide +kernel
theorem dX12_node_35 : decode cX12_node 35 = .ok (.iastore, 1) := by decide +kernel
theorem dX12_node_36 : decode cX12_node 36 = .ok (.aload_n 0, 1) := by decide +kernel
theorem dX12_node_37 : decode cX12_node 37 = .ok (.getfield 25, 3) := by decide +kernel
theorem dX12_node_40 : decode cX12_node 40 = .ok (.iload_n 2, 1) := by decide +kernel
theorem dX12_node_41 : decode cX12_node 41 = .ok (.iconst (-1), 1) := by decide +kernel
theorem dX12_node_42 : decode cX12_node 42 = .ok (.iastore, 1) := by decide +kernel
theorem dX12_node_43 : decode cX12_node 43 = .ok (.aload_n 0, 1) := by decide +kernel
theorem dX12_node_44 : decode cX12_node 44 = .ok (.getfield 28, 3) := by decide +kernel
theorem dX12_node_47 : decode cX12_node 47 = .ok (.iload_n 2, 1) := by decide +kernel
theorem dX12_node_48 : decode cX12_node 48 = .ok (.aload_n 0, 1) := by decide +kernel
theorem dX12_node_49 : decode cX12_node 49 = .ok (.getfield 275, 3) := by decide +kernel
theorem dX12_node_52 : decode cX12_node 52 = .ok (.iastore, 1) := by decide +kernel
theorem dX12_node_53 : decode cX12_node 53 = .ok (.aload_n 0, 1) := by decide +kernel
theorem dX12_node_54 : decode cX12_node 54 = .ok (.getfield 31, 3) := by decide +kernel
theorem dX12_node_57 : decode cX12_node 57 = .ok (.iload_n 2, 1) := by decide +kernel
theorem dX12_node_58 : decode cX12_node 58 = .ok (.iconst 0, 1) := by decide +kernel
theorem dX12_node_59 : decode cX12_node 59 = .ok (.iastore, 1) := by decide +kernel
theorem dX12_node_60 : decode cX12_node 60 = .ok (.aload_n 0, 1) := by decide +kernel
theorem dX12_node_61 : decode cX12_node 61 = .ok (.getfield 34, 3) := by decide +kernel
theorem dX12_node_64 : decode cX12_node 64 = .ok (.iload_n 2, 1) := by decide +kernel
theorem dX12_node_65 : decode cX12_node 65 = .ok (.iconst 0, 1) := by decide +kernel
theorem dX12_node_66 : decode cX12_node 66 = .ok (.iastore, 1) := by decide +kernel
theorem dX12_node_67 : decode cX12_node 67 = .ok (.aload_n 0, 1) := by decide +kernel
theorem dX12_node_68 : decode cX12_node 68 = .ok (.getfield 37, 3) := by decide +kernel
theorem dX12_node_71 : decode cX12_node 71 = .ok (.iload_n 2, 1) := by decide +kernel
theorem dX12_node_72 : decode cX12_node 72 = .ok (.lconst 0, 1) := by decide +kernel
theorem dX12_node_73 : decode cX12_node 73 = .ok (.lastore, 1) := by decide +kernel
theorem dX12_node_74 : decode cX12_node 74 = .ok (.aload_n 0, 1) := by decide +kernel
theorem dX12_node_75 : decode cX12_node 75 = .ok (.getfield 41, 3) := by decide +kernel
theorem dX12_node_78 : decode cX12_node 78 = .ok (.iload_n 2, 1) := by decide +kernel
theorem dX12_node_79 : decode cX12_node 79 = .ok (.aload_n 0, 1) := by decide +kernel
theorem dX12_node_80 : decode cX12_node 80 = .ok (.getfield 330, 3) := by decide +kernel
theorem dX12_node_83 : decode cX12_node 83 = .ok (.iastore, 1) := by decide +kernel
theorem dX12_node_84 : decode cX12_node 84 = .ok (.aload_n 0, 1) := by decide +kernel
theorem dX12_node_85 : decode cX12_node 85 = .ok (.getfield 44, 3) := by decide +kernel
theorem dX12_node_88 : decode cX12_node 88 = .ok (.iload_n 2, 1) := by decide +kernel
theorem dX12_node_89 : decode cX12_node 89 = .ok (.iconst 0, 1) := by decide +kernel
theorem dX12_node_90 : decode cX12_node 90 = .ok (.iastore, 1) := by decide +kernel
theorem dX12_node_91 : decode cX12_node 91 = .ok (.iload_n 2, 1) := by decide +kernel
theorem dX12_node_92 : decode cX12_node 92 = .ok (.ireturn, 1) := by decide +kernel
theorem dX12_passBlanks_0 : decode cX12_passBlanks 0 = .ok (.iconst 1, 1) := by decide +kernel
theorem dX12_passBlanks_1 : decode cX12_passBlanks 1 = .ok (.istore_n 1, 1) := by decide +kernel
theorem dX12_passBlanks_2 : decode cX12_passBlanks 2 = .ok (.iload_n 1, 1) := by decide +kernel
theorem dX12_passBlanks_3 : decode cX12_passBlanks 3 = .ok (.ifCond .eq 108, 3) := by decide +kernel
theorem dX12_passBlanks_6 : decode cX12_passBlanks 6 = .ok (.aload_n 0, 1) := by decide +kernel
theorem dX12_passBlanks_7 : decode cX12_passBlanks 7 = .ok (.getfield 261, 3) := by decide +kernel
theorem dX12_passBlanks_10 : decode cX12_passBlanks 10 = .ok (.aload_n 0, 1) := by decide +kernel
theorem dX12_passBlanks_11 : decode cX12_passBlanks 11 = .ok (.getfield 254, 3) := by decide +kernel
theorem dX12_passBlanks_14 : decode cX12_passBlanks 14 = .ok (.if_icmp .ge 97, 3) := by decide +kernel
theorem dX12_passBlanks_17 : decode cX12_passBlanks 17 = .ok (.aload_n 0, 1) := by decide +kernel
theorem dX12_passBlanks_18 : decode cX12_passBlanks 18 = .ok (.aload_n 0, 1) := by decide +kernel
theorem dX12_passBlanks_19 : decode cX12_passBlanks 19 = .ok (.getfield 261, 3) := by decide +kernel
theorem dX12_passBlanks_22 : decode cX12_passBlanks 22 = .ok (.invokevirtual 264, 3) := by decide +kernel
theorem dX12_passBlanks_25 : decode cX12_passBlanks 25 = .ok (.bipush 35, 2) := by decide +kernel
theorem dX12_passBlanks_27 : decode cX12_passBlanks 27 = .ok (.if_icmp .ne 40, 3) := by decide +kernel
theorem dX12_passBlanks_30 : decode cX12_passBlanks 30 = .ok (.aload_n 0, 1) := by decide +kernel
theorem dX12_passBlanks_31 : decode cX12_passBlanks 31 = .ok (.getfield 261, 3) := by decide +kernel
theorem dX12_passBlanks_34 : decode cX12_passBlanks 34 = .ok (.aload_n 0, 1) := by decide +kernel
theorem dX12_passBlanks_35 : decode cX12_passBlanks 35 = .ok (.getfield 254, 3) := by decide +kernel
theorem dX12_passBlanks_38 : decode cX12_passBlanks 38 = .ok (.if_icmp .ge (-36), 3) := by decide +kernel
theorem dX12_passBlanks_41 : decode cX12_passBlanks 41 = .ok (.aload_n 0, 1) := by decide +kernel
theorem dX12_passBlanks_42 : decode cX12_passBlanks 42 = .ok (.aload_n 0, 1) := by decide +kernel
theorem dX12_passBlanks_43 : decode cX12_passBlanks 43 = .ok (.getfield 261, 3) := by decide +kernel
theorem dX12_passBlanks_46 : decode cX12_passBlanks 46 = .ok (.invokevirtual 264, 3) := by decide +kernel
theorem dX12_passBlanks_49 : decode cX12_passBlanks 49 = .ok (.bipush 10, 2) := by decide +kernel
theorem dX12_passBlanks_51 : decode cX12_passBlanks 51 = .ok (.if_icmp .eq (-49), 3) := by decide +kernel
theorem dX12_passBlanks_54 : decode cX12_passBlanks 54 = .ok (.aload_n 0, 1) := by decide +kernel
theorem dX12_passBlanks_55 : decode cX12_passBlanks 55 = .ok (.dup, 1) := by decide +kernel
theorem dX12_passBlanks_56 : decode cX12_passBlanks 56 = .ok (.getfield 261, 3) := by decide +kernel
theorem dX12_passBlanks_59 : decode cX12_passBlanks 59 = .ok (.iconst 1, 1) := by decide +kernel
theorem dX12_passBlanks_60 : decode cX12_passBlanks 60 = .ok (.iadd, 1) := by decide +kernel
theorem dX12_passBlanks_61 : decode cX12_passBlanks 61 = .ok (.putfield 261, 3) := by decide +kernel
theorem dX12_passBlanks_64 : decode cX12_passBlanks 64 = .ok (.goto (-34), 3) := by decide +kernel
theorem dX12_passBlanks_67 : decode cX12_passBlanks 67 = .ok (.aload_n 0, 1) := by decide +kernel
theorem dX12_passBlanks_68 : decode cX12_passBlanks 68 = .ok (.aload_n 0, 1) := by decide +kernel
theorem dX12_passBlanks_69 : decode cX12_passBlanks 69 = .ok (.getfield 261, 3) := by decide +kernel
theorem dX12_passBlanks_72 : decode cX12_passBlanks 72 = .ok (.invokevirtual 264, 3) := by decide +kernel
theorem dX12_passBlanks_75 : decode cX12_passBlanks 75 = .ok (.bipush 32, 2) := by decide +kernel
theorem dX12_passBlanks_77 : decode cX12_passBlanks 77 = .ok (.if_icmp .eq 16, 3) := by decide +kernel
theorem dX12_passBlanks_80 : decode cX12_passBlanks 80 = .ok (.aload_n 0, 1) := by decide +kernel
theorem dX12_passBlanks_81 : decode cX12_passBlanks 81 = .ok (.aload_n 0, 1) := by decide +kernel
theorem dX12_passBlanks_82 : decode cX12_passBlanks 82 = .ok (.getfield 261, 3) := by decide +kernel
theorem dX12_passBlanks_85 : decode cX12_passBlanks 85 = .ok (.invokevirtual 264, 3) := by decide +kernel
theorem dX12_passBlanks_88 : decode cX12_passBlanks 88 = .ok (.bipush 10, 2) := by decide +kernel
theorem dX12_passBlanks_90 : decode cX12_passBlanks 90 = .ok (.if_icmp .ne 16, 3) := by decide +kernel
theorem dX12_passBlanks_93 : decode cX12_passBlanks 93 = .ok (.aload_n 0, 1) := by decide +kernel
theorem dX12_passBlanks_94 : decode cX12_passBlanks 94 = .ok (.dup, 1) := by decide +kernel
theorem dX12_passBlanks_95 : decode cX12_passBlanks 95 = .ok (.getfield 261, 3) := by decide +kernel
theorem dX12_passBlanks_98 : decode cX12_passBlanks 98 = .ok (.iconst 1, 1) := by decide +kernel
theorem dX12_passBlanks_99 : decode cX12_passBlanks 99 = .ok (.iadd, 1) := by decide +kernel
theorem dX12_passBlanks_100 : decode cX12_passBlanks 100 = .ok (.putfield 261, 3) := by decide +kernel
theorem dX12_passBlanks_103 : decode cX12_passBlanks 103 = .ok (.goto (-101), 3) := by decide +kernel
theorem dX12_passBlanks_106 : decode cX12_passBlanks 106 = .ok (.iconst 0, 1) := by decide +kernel
theorem dX12_passBlanks_107 : decode cX12_passBlanks 107 = .ok (.istore_n 1, 1) := by decide +kernel
theorem dX12_passBlanks_108 : decode cX12_passBlanks 108 = .ok (.goto (-106), 3) := by decide +kernel
theorem dX12_passBlanks_111 : decode cX12_passBlanks 111 = .ok (.return_, 1) := by decide +kernel
theorem dX12_readFunction_0 : decode cX12_readFunction 0 = .ok (.iconst 0, 1) := by decide +kernel
theorem dX12_readFunction_1 : decode cX12_readFunction 1 = .ok (.istore_n 1, 1) := by decide +kernel
theorem dX12_readFunction_2 : decode cX12_readFunction 2 = .ok (.iload_n 1, 1) := by decide +kernel
theorem dX12_readFunction_3 : decode cX12_readFunction 3 = .ok (.aload_n 0, 1) := by decide +kernel
theorem dX12_readFunction_4 : decode cX12_readFunction 4 = .ok (.getfield 462, 3) := by decide +kernel
theorem dX12_readFunction_7 : decode cX12_readFunction 7 = .ok (.if_icmp .ge 40, 3) := by decide +kernel
theorem dX12_readFunction_10 : decode cX12_readFunction 10 = .ok (.aload_n 0, 1) := by decide +kernel
theorem dX12_readFunction_11 : decode cX12_readFunction 11 = .ok (.getfield 286, 3) := by decide +kernel
theorem dX12_readFunction_14 : decode cX12_readFunction 14 = .ok (.iconst 3, 1) := by decide +kernel
theorem dX12_readFunction_15 : decode cX12_readFunction 15 = .ok (.if_icmp .ne 26, 3) := by decide +kernel
theorem dX12_readFunction_18 : decode cX12_readFunction 18 = .ok (.aload_n 0, 1) := by decide +kernel
theorem dX12_readFunction_19 : decode cX12_readFunction 19 = .ok (.getfield 50, 3) := by decide +kernel
theorem dX12_readFunction_22 : decode cX12_readFunction 22 = .ok (.iload_n 1, 1) := by decide +kernel
theorem dX12_readFunction_23 : decode cX12_readFunction 23 = .ok (.laload, 1) := by decide +kernel
theorem dX12_readFunction_24 : decode cX12_readFunction 24 = .ok (.aload_n 0, 1) := by decide +kernel
theorem dX12_readFunction_25 : decode cX12_readFunction 25 = .ok (.getfield 278, 3) := by decide +kernel
theorem dX12_readFunction_28 : decode cX12_readFunction 28 = .ok (.lcmp, 1) := by decide +kernel
theorem dX12_readFunction_29 : decode cX12_readFunction 29 = .ok (.ifCond .ne 12, 3) := by decide +kernel
theorem dX12_readFunction_32 : decode cX12_readFunction 32 = .ok (.aload_n 0, 1) := by decide +kernel
theorem dX12_readFunction_33 : decode cX12_readFunction 33 = .ok (.iconst 2, 1) := by decide +kernel
theorem dX12_readFunction_34 : decode cX12_readFunction 34 = .ok (.aload_n 0, 1) := by decide +kernel
theorem dX12_readFunction_35 : decode cX12_readFunction 35 = .ok (.getfield 275, 3) := by decide +kernel
theorem dX12_readFunction_38 : decode cX12_readFunction 38 = .ok (.invokevirtual 317, 3) := by decide +kernel
theorem dX12_readFunction_41 : decode cX12_readFunction 41 = .ok (.iinc 1 1, 3) := by decide +kernel
theorem dX12_readFunction_44 : decode cX12_readFunction 44 = .ok (.goto (-42), 3) := by decide +kernel
theorem dX12_readFunction_47 : decode cX12_readFunction 47 = .ok (.aload_n 0, 1) := by decide +kernel
theorem dX12_readFunction_48 : decode cX12_readFunction 48 = .ok (.getfield 286, 3) := by decide +kernel
theorem dX12_readFunction_51 : decode cX12_readFunction 51 = .ok (.iconst 3, 1) := by decide +kernel
theorem dX12_readFunction_52 : decode cX12_readFunction 52 = .ok (.if_icmp .ne 21, 3) := by decide +kernel
theorem dX12_readFunction_55 : decode cX12_readFunction 55 = .ok (.aload_n 0, 1) := by decide +kernel
theorem dX12_readFunction_56 : decode cX12_readFunction 56 = .ok (.getfield 462, 3) := by decide +kernel
theorem dX12_readFunction_59 : decode cX12_readFunction 59 = .ok (.bipush 30, 2) := by decide +kernel
theorem dX12_readFunction_61 : decode cX12_readFunction 61 = .ok (.if_icmp .ne 12, 3) := by decide +kernel
theorem dX12_readFunction_64 : decode cX12_readFunction 64 = .ok (.aload_n 0, 1) := by decide +kernel
theorem dX12_readFunction_65 : decode cX12_readFunction 65 = .ok (.iconst 4, 1) := by decide +kernel
theorem dX12_readFunction_66 : decode cX12_readFunction 66 = .ok (.aload_n 0, 1) := by decide +kernel
theorem dX12_readFunction_67 : decode cX12_readFunction 67 = .ok (.getfield 275, 3) := by decide +kernel
theorem dX12_readFunction_70 : decode cX12_readFunction 70 = .ok (.invokevirtual 317, 3) := by decide +kernel
theorem dX12_readFunction_73 : decode cX12_readFunction 73 = .ok (.aload_n 0, 1) := by decide +kernel
theorem dX12_readFunction_74 : decode cX12_readFunction 74 = .ok (.getfield 327, 3) := by decide +kernel
theorem dX12_readFunction_77 : decode cX12_readFunction 77 = .ok (.sipush 3200, 3) := by decide +kernel
theorem dX12_readFunction_80 : decode cX12_readFunction 80 = .ok (.if_icmp .ge 12, 3) := by decide +kernel
theorem dX12_readFunction_83 : decode cX12_readFunction 83 = .ok (.aload_n 0, 1) := by decide +kernel
theorem dX12_readFunction_84 : decode cX12_readFunction 84 = .ok (.bipush 12, 2) := by decide +kernel
theorem dX12_readFunction_86 : decode cX12_readFunction 86 = .ok (.invokevirtual 369, 3) := by decide +kernel
theorem dX12_readFunction_89 : decode cX12_readFunction 89 = .ok (.goto 4, 3) := by decide +kernel
theorem dX12_readFunction_92 : decode cX12_readFunction 92 = .ok (.iconst 0, 1) := by decide +kernel
theorem dX12_readFunction_93 : decode cX12_readFunction 93 = .ok (.istore_n 1, 1) := by decide +kernel
theorem dX12_readFunction_94 : decode cX12_readFunction 94 = .ok (.aload_n 0, 1) := by decide +kernel
theorem dX12_readFunction_95 : decode cX12_readFunction 95 = .ok (.getfield 462, 3) := by decide +kernel
theorem dX12_readFunction_98 : decode cX12_readFunction 98 = .ok (.istore_n 2, 1) := by decide +kernel
theorem dX12_readFunction_99 : decode cX12_readFunction 99 = .ok (.aload_n 0, 1) := by decide +kernel
theorem dX12_readFunction_100 : decode cX12_readFunction 100 = .ok (.getfield 37, 3) := by decide +kernel
theorem dX12_readFunction_103 : decode cX12_readFunction 103 = .ok (.iload_n 1, 1) := by decide +kernel
theorem dX12_readFunction_104 : decode cX12_readFunction 104 = .ok (.aload_n 0, 1) := by decide +kernel
theorem dX12_readFunction_105 : decode cX12_readFunction 105 = .ok (.getfield 278, 3) := by decide +kernel
theorem dX12_readFunction_108 : decode cX12_readFunction 108 = .ok (.lastore, 1) := by decide +kernel
theorem dX12_readFunction_109 : decode cX12_readFunction 109 = .ok (.aload_n 0, 1) := by decide +kernel
theorem dX12_readFunction_110 : decode cX12_readFunction 110 = .ok (.aload_n 0, 1) := by decide +kernel
theorem dX12_readFunction_111 : decode cX12_readFunction 111 = .ok (.getfield 286, 3) := by decide +kernel
theorem dX12_readFunction_114 : decode cX12_readFunction 114 = .ok (.iconst 3, 1) := by decide +kernel
theorem dX12_readFunction_115 : decode cX12_readFunction 115 = .ok (.if_icmp .ne 7, 3) := by decide +kernel
theorem dX12_readFunction_118 : decode cX12_readFunction 118 = .ok (.iconst 1, 1) := by decide +kernel
theorem dX12_readFunction_119 : decode cX12_readFunction 119 = .ok (.goto 4, 3) := by decide +kernel
theorem dX12_readFunction_122 : decode cX12_readFunction 122 = .ok (.iconst 0, 1) := by decide +kernel
theorem dX12_readFunction_123 : decode cX12_readFunction 123 = .ok (.invokevirtual 359, 3) := by decide +kernel
theorem dX12_readFunction_126 : decode cX12_readFunction 126 = .ok (.aload_n 0, 1) := by decide +kernel
theorem dX12_readFunction_127 : decode cX12_readFunction 127 = .ok (.getfield 311, 3) := by decide +kernel
theorem dX12_readFunction_130 : decode cX12_readFunction 130 = .ok (.ifCond .ne 50, 3) := by decide +kernel
theorem dX12_readFunction_133 : decode cX12_readFunction 133 = .ok (.aload_n 0, 1) := by decide +kernel
theorem dX12_readFunction_134 : decode cX12_readFunction 134 = .ok (.getfield 50, 3) := by decide +kernel
theorem dX12_readFunction_137 : decode cX12_readFunction 137 = .ok (.iload_n 2, 1) := by decide +kernel
theorem dX12_readFunction_138 : decode cX12_readFunction 138 = .ok (.aload_n 0, 1) := by decide +kernel
theorem dX12_readFunction_139 : decode cX12_readFunction 139 = .ok (.getfield 37, 3) := by decide +kernel
theorem dX12_readFunction_142 : decode cX12_readFunction 142 = .ok (.iload_n 1, 1) := by decide +kernel
theorem dX12_readFunction_143 : decode cX12_readFunction 143 = .ok (.laload, 1) := by decide +kernel
theorem dX12_readFunction_144 : decode cX12_readFunction 144 = .ok (.lastore, 1) := by decide +kernel
theorem dX12_readFunction_145 : decode cX12_readFunction 145 = .ok (.aload_n 0, 1) := by decide +kernel
theorem dX12_readFunction_146 : decode cX12_readFunction 146 = .ok (.getfield 53, 3) := by decide +kernel
theorem dX12_readFunction_149 : decode cX12_readFunction 149 = .ok (.iload_n 2, 1) := by decide +kernel
theorem dX12_readFunction_150 : decode cX12_readFunction 150 = .ok (.aload_n 0, 1) := by decide +kernel
theorem dX12_readFunction_151 : decode cX12_readFunction 151 = .ok (.getfield 28, 3) := by decide +kernel
theorem dX12_readFunction_154 : decode cX12_readFunction 154 = .ok (.iload_n 1, 1) := by decide +kernel
theorem dX12_readFunction_155 : decode cX12_readFunction 155 = .ok (.iaload, 1) := by decide +kernel
theorem dX12_readFunction_156 : decode cX12_readFunction 156 = .ok (.iastore, 1) := by decide +kernel
theorem dX12_readFunction_157 : decode cX12_readFunction 157 = .ok (.aload_n 0, 1) := by decide +kernel
theorem dX12_readFunction_158 : decode cX12_readFunction 158 = .ok (.getfield 56, 3) := by decide +kernel
theorem dX12_readFunction_161 : decode cX12_readFunction 161 = .ok (.iload_n 2, 1) := by decide +kernel
theorem dX12_readFunction_162 : decode cX12_readFunction 162 = .ok (.iload_n 1, 1) := by decide +kernel
theorem dX12_readFunction_163 : decode cX12_readFunction 163 = .ok (.iastore, 1) := by decide +kernel
theorem dX12_readFunction_164 : decode cX12_readFunction 164 = .ok (.aload_n 0, 1) := by decide +kernel
theorem dX12_readFunction_165 : decode cX12_readFunction 165 = .ok (.dup, 1) := by decide +kernel
theorem dX12_readFunction_166 : decode cX12_readFunction 166 = .ok (.getfield 462, 3) := by decide +kernel
theorem dX12_readFunction_169 : decode cX12_readFunction 169 = .ok (.iconst 1, 1) := by decide +kernel
theorem dX12_readFunction_170 : decode cX12_readFunction 170 = .ok (.iadd, 1) := by decide +kernel
theorem dX12_readFunction_171 : decode cX12_readFunction 171 = .ok (.putfield 462, 3) := by decide +kernel
theorem dX12_readFunction_174 : decode cX12_readFunction 174 = .ok (.aload_n 0, 1) := by decide +kernel
theorem dX12_readFunction_175 : decode cX12_readFunction 175 = .ok (.iload_n 1, 1) := by decide +kernel
theorem dX12_readFunction_176 : decode cX12_readFunction 176 = .ok (.iconst 0, 1) := by decide +kernel
theorem dX12_readFunction_177 : decode cX12_readFunction 177 = .ok (.invokevirtual 380, 3) := by decide +kernel
theorem dX12_readFunction_180 : decode cX12_readFunction 180 = .ok (.aload_n 0, 1) := by decide +kernel
theorem dX12_readFunction_181 : decode cX12_readFunction 181 = .ok (.aload_n 0, 1) := by decide +kernel
theorem dX12_readFunction_182 : decode cX12_readFunction 182 = .ok (.bipush 61, 2) := by decide +kernel
theorem dX12_readFunction_184 : decode cX12_readFunction 184 = .ok (.invokevirtual 383, 3) := by decide +kernel
theorem dX12_readFunction_187 : decode cX12_readFunction 187 = .ok (.invokevirtual 359, 3) := by decide +kernel
theorem dX12_readFunction_190 : decode cX12_readFunction 190 = .ok (.aload_n 0, 1) := by decide +kernel
theorem dX12_readFunction_191 : decode cX12_readFunction 191 = .ok (.getfield 311, 3) := by decide +kernel
theorem dX12_readFunction_194 : decode cX12_readFunction 194 = .ok (.ifCond .ne 8, 3) := by decide +kernel
theorem dX12_readFunction_197 : decode cX12_readFunction 197 = .ok (.aload_n 0, 1) := by decide +kernel
theorem dX12_readFunction_198 : decode cX12_readFunction 198 = .ok (.iload_n 1, 1) := by decide +kernel
theorem dX12_readFunction_199 : decode cX12_readFunction 199 = .ok (.invokevirtual 465, 3) := by decide +kernel
theorem dX12_readFunction_202 : decode cX12_readFunction 202 = .ok (.return_, 1) := by decide +kernel
theorem dX12_sign_0 : decode cX12_sign 0 = .ok (.iload_n 1, 1) := by decide +kernel
theorem dX12_sign_1 : decode cX12_sign 1 = .ok (.aload_n 0, 1) := by decide +kernel
theorem dX12_sign_2 : decode cX12_sign 2 = .ok (.getfield 254, 3) := by decide +kernel
theorem dX12_sign_5 : decode cX12_sign 5 = .ok (.if_icmp .ge 12, 3) := by decide +kernel
theorem dX12_sign_8 : decode cX12_sign 8 = .ok (.aload_n 0, 1) := by decide +kernel
theorem dX12_sign_9 : decode cX12_sign 9 = .ok (.getfield 7, 3) := by decide +kernel
theorem dX12_sign_12 : decode cX12_sign 12 = .ok (.iload_n 1, 1) := by decide +kernel
theorem dX12_sign_13 : decode cX12_sign 13 = .ok (.iaload, 1) := by decide +kernel
theorem dX12_sign_14 : decode cX12_sign 14 = .ok (.goto 4, 3) := by decide +kernel
theorem dX12_sign_17 : decode cX12_sign 17 = .ok (.iconst 0, 1) := by decide +kernel
theorem dX12_sign_18 : decode cX12_sign 18 = .ok (.ireturn, 1) := by decide +kernel
theorem dX12_wrong_0 : decode cX12_wrong 0 = .ok (.aload_n 0, 1) := by decide +kernel
theorem dX12_wrong_1 : decode cX12_wrong 1 = .ok (.iconst 1, 1) := by decide +kernel
theorem dX12_wrong_2 : decode cX12_wrong 2 = .ok (.aload_n 0, 1) := by decide +kernel
theorem dX12_wrong_3 : decode cX12_wrong 3 = .ok (.getfield 275, 3) := by decide +kernel
theorem dX12_wrong_6 : decode cX12_wrong 6 = .ok (.invokevirtual 317, 3) := by decide +kernel
theorem dX12_wrong_9 : decode cX12_wrong 9 = .ok (.return_, 1) := by decide +kernel
def sg0 (f : Nat → Int32) (n k : Int32) : Int32 := if n ≤ k then 0 else f k.toNatClampNeg
set_option maxHeartbeats 4000000 in
set_option maxRecDepth 100000 in
/-- X12_sign -/
theorem kX12_sign (l : Launch) (dC : Nat → ClassId) (dI : Nat → Nat → Nat) (sz : Nat) (o : Nat) (f : Nat → Value) (v2 : Int32) (a1 : Nat) (c1 : ClassId) (z1 : Nat → Int32) (k : Int32) (h2 : f 2 = .int v2) (h1 : f 1 = .ref a1) (hk : ¬ k < 0) (hs : v2.toInt ≤ 3000) : Met l yX12_sign (Cond.code yX12_sign cX12_sign 2 (some .int) :: uG) ({ frames := 0, cells := 0, slots := 0, locals := 0 }) (va_Pc [.ref o, .int k] (fun U => U.heap.size = sz ∧ va_P (dC, dI) vwCl [(o, .inr (15, bF f)), (a1, .inl (c1, 3000, .inl z1))] U.heap ∧ va_K (dC, dI) vwCl [(c1, .int)] U ∧ va_D (fun _ => True) [(o, .inr (15, bF f)), (a1, .inl (c1, 3000, .inl z1))])) (va_Qi (S := Unit) (fun r _ => r = (sg0 z1 v2 k)) (fun _ t => va_P (dC, dI) vwCl [(o, .inr (15, bF f)), (a1, .inl (c1, 3000, .inl z1))] t.heap ∧ va_K (dC, dI) vwCl [(c1, .int)] t ∧ va_D (va_A [(o, .inr (15, bF f)), (a1, .inl (c1, 3000, .inl z1))] sz) [(o, .inr (15, bF f)), (a1, .inl (c1, 3000, .inl z1))]) (va_A [(o, .inr (15, bF f)), (a1, .inl (c1, 3000, .inl z1))] sz)) 0 0 (va_A [(o, .inr (15, bF f)), (a1, .inl (c1, 3000, .inl z1))] sz) := by
  refine Met.ofW (cc := cX12_sign) (maxL := 2) (ret := (some .int)) (by decide) rfl ?_
  intro pG eV s m args below meth c s₁ B hml hv
  obtain ⟨rfl, hsz, hP, hK, hD0⟩ := hv
  have hx := B.exec
  have hb := B.bytes
  have hr := B.returns
  have hts := atoms_spec (ws := Cond.code yX12_sign cX12_sign 2 (some .int) :: uG) B.pre
  have hu := fun (w : Cond) (h : w ∈ uG) => hts w (List.mem_cons_of_mem _ h)
  have hown : s.vm.findClass RX12 = some m.cls := findClass_of_methodNamed B.named
  have hlocks := B.notSynchronized
  subst hsz
  have hD := hD0.self (sz := s.heap.size)
  generalize hAe : va_A [(o, .inr (15, bF f)), (a1, .inl (c1, 3000, .inl z1))] s.heap.size = A at hD ⊢
  have hA : ∀ q : Nat, s.heap.size ≤ q → A q := fun q h => by rw [← hAe]; exact Or.inr h
  have hS : va_S A s.heap s.heap [] := va_S.rf
  have hP : va_P (dC, dI) vwCl [(o, .inr (15, bF f)), (a1, .inl (c1, 3000, .inl z1))] s.heap := hP
  have hD : va_D A [(o, .inr (15, bF f)), (a1, .inl (c1, 3000, .inl z1))] := hD
  have hl := lv_entry ([.ref o, .int k]) (n := 2) (Nat.le_of_ble_eq_true rfl)
  rw [lg_entry_eq]
  generalize (lg_sl ([.ref o, .int k]) ++ List.replicate (2 - (lg_sl ([.ref o, .int k])).length) Slot.unset).toArray = ls at hl ⊢
  have hl : lv_has ls 2 [(0, .ref o), (1, .int k)] := hl
  refine lv_iload_n hx hb dX12_sign_0 rfl (lv_at hl 1 rfl) ?_
  refine lv_aload_n hx hb dX12_sign_1 rfl (lv_at hl 0 rfl) ?_
  refine va_get (D := (dC, dI)) (ci := 15) (v := .int v2) (C := RX12) (T := TX12) (N := 136) hx hb hu iuX12 hown hK hP 0 rfl rfl 2 (by decide) (hu _ mG_2052) (fun _ h9 => h9) ((bF_get (by decide)).trans (congrArg some (h2))) dX12_sign_2 ?_
  refine lv_icmp_ge (tgt := 17) hx hb dX12_sign_5 (by decide) (fun c5 => ?_) (fun c5 => ?_)
  · refine lv_iconst (v := 0) hx hb dX12_sign_17 (by decide) ?_
    have hP9 : va_P (dC, dI) vwCl [(o, .inr (15, bF f)), (a1, .inl (c1, 3000, .inl z1))] s.heap := by exact hP
    have hD9 : va_D A [(o, .inr (15, bF f)), (a1, .inl (c1, 3000, .inl z1))] := by exact hD
    have hK9 := hK.sub (tys' := [(c1, .int)]) [0] rfl
    exact W.iret (v := 0) hx hb hr (fun t ht hW => ⟨⟨0, (), rfl, by simp [sg0, c5], by rw [ht]; exact hP9, va_K.moved hW.alike hK9, hD9⟩, hS.F ht⟩) hS.2.2 dX12_sign_18
  · refine lv_aload_n hx hb dX12_sign_8 rfl (lv_at hl 0 rfl) ?_
    refine va_get (D := (dC, dI)) (ci := 15) (v := .ref a1) (C := RX12) (T := TX12) (N := 136) hx hb hu iuX12 hown hK hP 0 rfl rfl 1 (by decide) (hu _ mG_2051) (fun _ h9 => h9) ((bF_get (by decide)).trans (congrArg some (h1))) dX12_sign_9 ?_
    refine lv_iload_n hx hb dX12_sign_12 rfl (lv_at hl 1 rfl) ?_
    refine va_iald hx hb hK hP 1 0 rfl rfl (vp_in_iff.mpr ⟨Int32.le_iff_toInt_le.mp (Int32.not_lt.mp hk), by have h9 := Int32.lt_iff_toInt_lt.mp (Int32.not_le.mp c5); omega⟩) dX12_sign_13 ?_
    refine lv_goto (tgt := 18) hx hb dX12_sign_14 (by decide) ?_
    have hP9 : va_P (dC, dI) vwCl [(o, .inr (15, bF f)), (a1, .inl (c1, 3000, .inl z1))] s.heap := by exact hP
    have hD9 : va_D A [(o, .inr (15, bF f)), (a1, .inl (c1, 3000, .inl z1))] := by exact hD
    have hK9 := hK.sub (tys' := [(c1, .int)]) [0] rfl
    exact W.iret (v := (z1 (k).toNatClampNeg)) hx hb hr (fun t ht hW => ⟨⟨(z1 (k).toNatClampNeg), (), rfl, by simp [sg0, c5], by rw [ht]; exact hP9, va_K.moved hW.alike hK9, hD9⟩, hS.F ht⟩) hS.2.2 dX12_sign_18
set_option maxHeartbeats 4000000 in
set_option maxRecDepth 100000 in
/-- X12_sign_0 -/
theorem kX12_sign_0 (l : Launch) (dC : Nat → ClassId) (dI : Nat → Nat → Nat) (sz : Nat) (o : Nat) (f : Nat → Value)  (a1 : Nat) (c1 : ClassId) (z1 : Nat → Int32) (k : Int32) (h2 : f 2 = .int 0) (h1 : f 1 = .ref a1) (hk : (0 : Int32) ≤ k) : Met l yX12_sign (Cond.code yX12_sign cX12_sign 2 (some .int) :: uG) ({ frames := 0, cells := 0, slots := 0, locals := 0 }) (va_Pc [.ref o, .int k] (fun U => U.heap.size = sz ∧ va_P (dC, dI) vwCl [(o, .inr (15, bF f)), (a1, .inl (c1, 3000, .inl z1))] U.heap ∧ va_K (dC, dI) vwCl [(c1, .int)] U ∧ va_D (fun _ => True) [(o, .inr (15, bF f)), (a1, .inl (c1, 3000, .inl z1))])) (va_Qi (S := Unit) (fun r _ => r = (0)) (fun _ t => va_P (dC, dI) vwCl [(o, .inr (15, bF f)), (a1, .inl (c1, 3000, .inl z1))] t.heap ∧ va_K (dC, dI) vwCl [(c1, .int)] t ∧ va_D (va_A [(o, .inr (15, bF f)), (a1, .inl (c1, 3000, .inl z1))] sz) [(o, .inr (15, bF f)), (a1, .inl (c1, 3000, .inl z1))]) (va_A [(o, .inr (15, bF f)), (a1, .inl (c1, 3000, .inl z1))] sz)) 0 0 (va_A [(o, .inr (15, bF f)), (a1, .inl (c1, 3000, .inl z1))] sz) := by
  refine Met.ofW (cc := cX12_sign) (maxL := 2) (ret := (some .int)) (by decide) rfl ?_
  intro pG eV s m args below meth c s₁ B hml hv
  obtain ⟨rfl, hsz, hP, hK, hD0⟩ := hv
  have hx := B.exec
  have hb := B.bytes
  have hr := B.returns
  have hts := atoms_spec (ws := Cond.code yX12_sign cX12_sign 2 (some .int) :: uG) B.pre
  have hu := fun (w : Cond) (h : w ∈ uG) => hts w (List.mem_cons_of_mem _ h)
  have hown : s.vm.findClass RX12 = some m.cls := findClass_of_methodNamed B.named
  have hlocks := B.notSynchronized
  subst hsz
  have hD := hD0.self (sz := s.heap.size)
  generalize hAe : va_A [(o, .inr (15, bF f)), (a1, .inl (c1, 3000, .inl z1))] s.heap.size = A at hD ⊢
  have hA : ∀ q : Nat, s.heap.size ≤ q → A q := fun q h => by rw [← hAe]; exact Or.inr h
  have hS : va_S A s.heap s.heap [] := va_S.rf
  have hP : va_P (dC, dI) vwCl [(o, .inr (15, bF f)), (a1, .inl (c1, 3000, .inl z1))] s.heap := hP
  have hD : va_D A [(o, .inr (15, bF f)), (a1, .inl (c1, 3000, .inl z1))] := hD
  have hl := lv_entry ([.ref o, .int k]) (n := 2) (Nat.le_of_ble_eq_true rfl)
  rw [lg_entry_eq]
  generalize (lg_sl ([.ref o, .int k]) ++ List.replicate (2 - (lg_sl ([.ref o, .int k])).length) Slot.unset).toArray = ls at hl ⊢
  have hl : lv_has ls 2 [(0, .ref o), (1, .int k)] := hl
  refine lv_iload_n hx hb dX12_sign_0 rfl (lv_at hl 1 rfl) ?_
  refine lv_aload_n hx hb dX12_sign_1 rfl (lv_at hl 0 rfl) ?_
  refine va_get (D := (dC, dI)) (ci := 15) (v := .int 0) (C := RX12) (T := TX12) (N := 136) hx hb hu iuX12 hown hK hP 0 rfl rfl 2 (by decide) (hu _ mG_2052) (fun _ h9 => h9) ((bF_get (by decide)).trans (congrArg some (h2))) dX12_sign_2 ?_
  refine lv_icmp_ge (tgt := 17) hx hb dX12_sign_5 (by decide) (fun c5 => ?_) (fun c5 => ?_)
  · refine lv_iconst (v := 0) hx hb dX12_sign_17 (by decide) ?_
    have hP9 : va_P (dC, dI) vwCl [(o, .inr (15, bF f)), (a1, .inl (c1, 3000, .inl z1))] s.heap := by exact hP
    have hD9 : va_D A [(o, .inr (15, bF f)), (a1, .inl (c1, 3000, .inl z1))] := by exact hD
    have hK9 := hK.sub (tys' := [(c1, .int)]) [0] rfl
    exact W.iret (v := 0) hx hb hr (fun t ht hW => ⟨⟨0, (), rfl, rfl, by rw [ht]; exact hP9, va_K.moved hW.alike hK9, hD9⟩, hS.F ht⟩) hS.2.2 dX12_sign_18
  · exact absurd hk c5
set_option maxHeartbeats 4000000 in
set_option maxRecDepth 100000 in
/-- Model.fail(kd, pl), the first -/
theorem kX12_fail_0 (l : Launch) (dC : Nat → ClassId) (dI : Nat → Nat → Nat) (sz : Nat) (o : Nat) (f : Nat → Value)   (kd : Int32) (pl : Int32) (h10 : f 10 = .int 0)  : Met l yX12_fail (Cond.code yX12_fail cX12_fail 3 none :: uG) ({ frames := 0, cells := 0, slots := 0, locals := 0 }) (va_Pc [.ref o, .int kd, .int pl] (fun U => U.heap.size = sz ∧ va_P (dC, dI) vwCl [(o, .inr (15, bF f))] U.heap ∧ va_K (dC, dI) vwCl [] U ∧ va_D (fun _ => True) [(o, .inr (15, bF f))])) (va_Qv (S := Unit) (fun _ => True) (fun _ t => va_P (dC, dI) vwCl [(o, .inr (15, bF (va_up (va_up f 10 (.int kd)) 11 (.int pl))))] t.heap ∧ va_K (dC, dI) vwCl [] t ∧ va_D (va_A [(o, .inr (15, bF f))] sz) [(o, .inr (15, bF (va_up (va_up f 10 (.int kd)) 11 (.int pl))))]) (va_A [(o, .inr (15, bF f))] sz)) 0 0 (va_A [(o, .inr (15, bF f))] sz) := by
  refine Met.ofW (cc := cX12_fail) (maxL := 3) (ret := none) (by decide) rfl ?_
  intro pG eV s m args below meth c s₁ B hml hv
  obtain ⟨rfl, hsz, hP, hK, hD0⟩ := hv
  have hx := B.exec
  have hb := B.bytes
  have hr := B.returns
  have hts := atoms_spec (ws := Cond.code yX12_fail cX12_fail 3 none :: uG) B.pre
  have hu := fun (w : Cond) (h : w ∈ uG) => hts w (List.mem_cons_of_mem _ h)
  have hown : s.vm.findClass RX12 = some m.cls := findClass_of_methodNamed B.named
  have hlocks := B.notSynchronized
  subst hsz
  have hD := hD0.self (sz := s.heap.size)
  generalize hAe : va_A [(o, .inr (15, bF f))] s.heap.size = A at hD ⊢
  have hA : ∀ q : Nat, s.heap.size ≤ q → A q := fun q h => by rw [← hAe]; exact Or.inr h
  have hS : va_S A s.heap s.heap [] := va_S.rf
  have hP : va_P (dC, dI) vwCl [(o, .inr (15, bF f))] s.heap := hP
  have hD : va_D A [(o, .inr (15, bF f))] := hD
  have hl := lv_entry ([.ref o, .int kd, .int pl]) (n := 3) (Nat.le_of_ble_eq_true rfl)
  rw [lg_entry_eq]
  generalize (lg_sl ([.ref o, .int kd, .int pl]) ++ List.replicate (3 - (lg_sl ([.ref o, .int kd, .int pl])).length) Slot.unset).toArray = ls at hl ⊢
  have hl : lv_has ls 3 [(0, .ref o), (1, .int kd), (2, .int pl)] := hl
  refine lv_aload_n hx hb dX12_fail_0 rfl (lv_at hl 0 rfl) ?_
  refine va_get (D := (dC, dI)) (ci := 15) (v := .int 0) (C := RX12) (T := TX12) (N := 136) hx hb hu iuX12 hown hK hP 0 rfl rfl 10 (by decide) (hu _ mG_2060) (fun _ h9 => h9) ((bF_get (by decide)).trans (congrArg some (h10))) dX12_fail_1 ?_
  refine lv_if_ne (tgt := 17) hx hb dX12_fail_4 (by decide) (fun c4 => ?_) (fun c4 => ?_)
  · exact absurd (by decide) c4
  · refine lv_aload_n hx hb dX12_fail_7 rfl (lv_at hl 0 rfl) ?_
    refine lv_iload_n hx hb dX12_fail_8 rfl (lv_at hl 1 rfl) ?_
    refine va_put (D := (dC, dI)) (ci := 15) (v := .int kd) (ty := (tyX12 10)) (C := RX12) (T := TX12) (N := 136) hx hb hu iuX12 tyX12 tyX12_ok nmX12 hown hK hP hD hS 0 rfl rfl 10 (by decide) (hu _ mG_2060) (fun _ h9 => h9) rfl (by decide +kernel) (rfl) (rfl) (by rw [bF_len]; decide) dX12_fail_9 (fun H locs hP hD hS => ?_)
    rw [show (bF f).set 10 (.int kd) = bF (va_up f 10 (.int kd)) from bF_set (by decide)] at hP hD
    have hP : va_P (dC, dI) vwCl [(o, .inr (15, bF (va_up f 10 (.int kd))))] H := hP
    have hD : va_D A [(o, .inr (15, bF (va_up f 10 (.int kd))))] := hD
    refine lv_aload_n hx hb dX12_fail_12 rfl (lv_at hl 0 rfl) ?_
    refine lv_iload_n hx hb dX12_fail_13 rfl (lv_at hl 2 rfl) ?_
    refine va_put (D := (dC, dI)) (ci := 15) (v := .int pl) (ty := (tyX12 11)) (C := RX12) (T := TX12) (N := 136) hx hb hu iuX12 tyX12 tyX12_ok nmX12 hown hK hP hD hS 0 rfl rfl 11 (by decide) (hu _ mG_2061) (fun _ h9 => h9) rfl (by decide +kernel) (rfl) (rfl) (by rw [bF_len]; decide) dX12_fail_14 (fun H locs hP hD hS => ?_)
    rw [show (bF (va_up f 10 (.int kd))).set 11 (.int pl) = bF (va_up (va_up f 10 (.int kd)) 11 (.int pl)) from bF_set (by decide)] at hP hD
    have hP : va_P (dC, dI) vwCl [(o, .inr (15, bF (va_up (va_up f 10 (.int kd)) 11 (.int pl))))] H := hP
    have hD : va_D A [(o, .inr (15, bF (va_up (va_up f 10 (.int kd)) 11 (.int pl))))] := hD
    have hP9 : va_P (dC, dI) vwCl [(o, .inr (15, bF (va_up (va_up f 10 (.int kd)) 11 (.int pl))))] H := by exact hP
    have hD9 : va_D A [(o, .inr (15, bF (va_up (va_up f 10 (.int kd)) 11 (.int pl))))] := by exact hD
    have hK9 := hK.sub (tys' := []) [] rfl
    exact W.vret hx hb hr (fun t ht hW => ⟨⟨(), rfl, trivial, by rw [ht]; exact hP9, va_K.moved hW.alike hK9, hD9⟩, hS.F ht⟩) hS.2.2 dX12_fail_17
set_option maxHeartbeats 4000000 in
set_option maxRecDepth 100000 in
/-- Model.fail(kd, pl), not the first -/
theorem kX12_fail_1 (l : Launch) (dC : Nat → ClassId) (dI : Nat → Nat → Nat) (sz : Nat) (o : Nat) (f : Nat → Value)   (kd : Int32) (pl : Int32) (h10 : f 10 = .int 1)  : Met l yX12_fail (Cond.code yX12_fail cX12_fail 3 none :: uG) ({ frames := 0, cells := 0, slots := 0, locals := 0 }) (va_Pc [.ref o, .int kd, .int pl] (fun U => U.heap.size = sz ∧ va_P (dC, dI) vwCl [(o, .inr (15, bF f))] U.heap ∧ va_K (dC, dI) vwCl [] U ∧ va_D (fun _ => True) [(o, .inr (15, bF f))])) (va_Qv (S := Unit) (fun _ => True) (fun _ t => va_P (dC, dI) vwCl [(o, .inr (15, bF f))] t.heap ∧ va_K (dC, dI) vwCl [] t ∧ va_D (va_A [(o, .inr (15, bF f))] sz) [(o, .inr (15, bF f))]) (va_A [(o, .inr (15, bF f))] sz)) 0 0 (va_A [(o, .inr (15, bF f))] sz) := by
  refine Met.ofW (cc := cX12_fail) (maxL := 3) (ret := none) (by decide) rfl ?_
  intro pG eV s m args below meth c s₁ B hml hv
  obtain ⟨rfl, hsz, hP, hK, hD0⟩ := hv
  have hx := B.exec
  have hb := B.bytes
  have hr := B.returns
  have hts := atoms_spec (ws := Cond.code yX12_fail cX12_fail 3 none :: uG) B.pre
  have hu := fun (w : Cond) (h : w ∈ uG) => hts w (List.mem_cons_of_mem _ h)
  have hown : s.vm.findClass RX12 = some m.cls := findClass_of_methodNamed B.named
  have hlocks := B.notSynchronized
  subst hsz
  have hD := hD0.self (sz := s.heap.size)
  generalize hAe : va_A [(o, .inr (15, bF f))] s.heap.size = A at hD ⊢
  have hA : ∀ q : Nat, s.heap.size ≤ q → A q := fun q h => by rw [← hAe]; exact Or.inr h
  have hS : va_S A s.heap s.heap [] := va_S.rf
  have hP : va_P (dC, dI) vwCl [(o, .inr (15, bF f))] s.heap := hP
  have hD : va_D A [(o, .inr (15, bF f))] := hD
  have hl := lv_entry ([.ref o, .int kd, .int pl]) (n := 3) (Nat.le_of_ble_eq_true rfl)
  rw [lg_entry_eq]
  generalize (lg_sl ([.ref o, .int kd, .int pl]) ++ List.replicate (3 - (lg_sl ([.ref o, .int kd, .int pl])).length) Slot.unset).toArray = ls at hl ⊢
  have hl : lv_has ls 3 [(0, .ref o), (1, .int kd), (2, .int pl)] := hl
  refine lv_aload_n hx hb dX12_fail_0 rfl (lv_at hl 0 rfl) ?_
  refine va_get (D := (dC, dI)) (ci := 15) (v := .int 1) (C := RX12) (T := TX12) (N := 136) hx hb hu iuX12 hown hK hP 0 rfl rfl 10 (by decide) (hu _ mG_2060) (fun _ h9 => h9) ((bF_get (by decide)).trans (congrArg some (h10))) dX12_fail_1 ?_
  refine lv_if_ne (tgt := 17) hx hb dX12_fail_4 (by decide) (fun c4 => ?_) (fun c4 => ?_)
  · have hP9 : va_P (dC, dI) vwCl [(o, .inr (15, bF f))] s.heap := by exact hP
    have hD9 : va_D A [(o, .inr (15, bF f))] := by exact hD
    have hK9 := hK.sub (tys' := []) [] rfl
    exact W.vret hx hb hr (fun t ht hW => ⟨⟨(), rfl, trivial, by rw [ht]; exact hP9, va_K.moved hW.alike hK9, hD9⟩, hS.F ht⟩) hS.2.2 dX12_fail_17
  · exact absurd c4 (by decide)
set_option maxHeartbeats 4000000 in
set_option maxRecDepth 100000 in
/-- X12_wrong_0 -/
theorem kX12_wrong_0 (l : Launch) (dC : Nat → ClassId) (dI : Nat → Nat → Nat) (sz : Nat) (o : Nat) (f : Nat → Value) (v7 : Int32)   (h7 : f 7 = .int v7) (h10 : f 10 = .int 0)  : Met l yX12_wrong (Cond.code yX12_wrong cX12_wrong 1 none :: uG) ({ frames := 1, cells := 0, slots := 0, locals := 22 }) (va_Pc [.ref o] (fun U => U.heap.size = sz ∧ va_P (dC, dI) vwCl [(o, .inr (15, bF f))] U.heap ∧ va_K (dC, dI) vwCl [] U ∧ va_D (fun _ => True) [(o, .inr (15, bF f))])) (va_Qv (S := Unit) (fun _ => True) (fun _ t => va_P (dC, dI) vwCl [(o, .inr (15, bF (va_up (va_up f 10 (.int 1)) 11 (.int v7))))] t.heap ∧ va_K (dC, dI) vwCl [] t ∧ va_D (va_A [(o, .inr (15, bF f))] sz) [(o, .inr (15, bF (va_up (va_up f 10 (.int 1)) 11 (.int v7))))]) (va_A [(o, .inr (15, bF f))] sz)) 0 0 (va_A [(o, .inr (15, bF f))] sz) := by
  refine Met.ofW (cc := cX12_wrong) (maxL := 1) (ret := none) (by decide) rfl ?_
  intro pG eV s m args below meth c s₁ B hml hv
  obtain ⟨rfl, hsz, hP, hK, hD0⟩ := hv
  have hx := B.exec
  have hb := B.bytes
  have hr := B.returns
  have hts := atoms_spec (ws := Cond.code yX12_wrong cX12_wrong 1 none :: uG) B.pre
  have hu := fun (w : Cond) (h : w ∈ uG) => hts w (List.mem_cons_of_mem _ h)
  have hown : s.vm.findClass RX12 = some m.cls := findClass_of_methodNamed B.named
  have hlocks := B.notSynchronized
  subst hsz
  have hD := hD0.self (sz := s.heap.size)
  generalize hAe : va_A [(o, .inr (15, bF f))] s.heap.size = A at hD ⊢
  have hA : ∀ q : Nat, s.heap.size ≤ q → A q := fun q h => by rw [← hAe]; exact Or.inr h
  have hS : va_S A s.heap s.heap [] := va_S.rf
  have hP : va_P (dC, dI) vwCl [(o, .inr (15, bF f))] s.heap := hP
  have hD : va_D A [(o, .inr (15, bF f))] := hD
  have hl := lv_entry ([.ref o]) (n := 1) (Nat.le_of_ble_eq_true rfl)
  rw [lg_entry_eq]
  generalize (lg_sl ([.ref o]) ++ List.replicate (1 - (lg_sl ([.ref o])).length) Slot.unset).toArray = ls at hl ⊢
  have hl : lv_has ls 1 [(0, .ref o)] := hl
  refine lv_aload_n hx hb dX12_wrong_0 rfl (lv_at hl 0 rfl) ?_
  refine lv_iconst (v := 1) hx hb dX12_wrong_1 (by decide) ?_
  refine lv_aload_n hx hb dX12_wrong_2 rfl (lv_at hl 0 rfl) ?_
  refine va_get (D := (dC, dI)) (ci := 15) (v := .int v7) (C := RX12) (T := TX12) (N := 136) hx hb hu iuX12 hown hK hP 0 rfl rfl 7 (by decide) (hu _ mG_2057) (fun _ h9 => h9) ((bF_get (by decide)).trans (congrArg some (h7))) dX12_wrong_3 ?_
  have hPc := hP.sub (ws' := [(o, .inr (15, bF f))]) [0] rfl
  have hDc := hD.sub (ws' := [(o, .inr (15, bF f))]) [0] (by decide) rfl
  have hKc := hK.sub (tys' := []) [] rfl
  have hFc := va_free (wc := [(o, .inr (15, bF f))]) hD hS hA [0] rfl
  refine va_callv (va_runV (As := [.int 1, .int v7]) (rest := []) ⟨hx, hb, hml, hown, hu⟩ (kX12_fail_0 l dC dI s.heap.size o f   1 v7 (h10) ) (cwV 2 hu (uG_V (fun _ h => h) mG_2525 mG_2522 mG_2524 mG_115 mG_226) rfl rfl rfl (by decide +kernel) ⟨Nat.le_of_ble_eq_true rfl, Nat.le_of_ble_eq_true rfl⟩) ⟨fun a U g mk q => by obtain ⟨q0, q1, qP, qK, qD⟩ := q; exact ⟨q0, q1, qP, va_K.moved (u := U) (U := U.calling g mk a) (Vm.Alike.refl U.vm) qK, qD⟩, va_recv hKc hPc (ci := 15) (q0 := 0) rfl rfl, fun U hU hW => ⟨rfl, by rw [hU], by rw [hU]; exact hPc, va_K.moved hW.alike hKc, hDc.weaken (fun _ _ _ _ => trivial)⟩⟩ rfl rfl hl.1 rfl (lv_room (Nat.le_of_ble_eq_true rfl)) dX12_wrong_6 ⟨Nat.le_of_ble_eq_true rfl, Nat.le_of_ble_eq_true rfl⟩) hS (fun q _ h => hFc q h) hFc (fun u t H1 locs ht hvm hw hB hz1 hk1 hS => ?_)
  obtain ⟨hP1, hK1, hD1⟩ := hB
  rw [ht] at hP1
  obtain ⟨hP, hD⟩ := va_join (wr := []) (w1 := [(o, .inr (15, bF (va_up (va_up f 10 (.int 1)) 11 (.int v7))))]) hP hD [0] [] rfl rfl (by decide) (by decide) hk1 hFc hP1 hD1
  generalize H1 = H at hP hS ⊢
  have hP : va_P (dC, dI) vwCl [(o, .inr (15, bF (va_up (va_up f 10 (.int 1)) 11 (.int v7))))] H := hP
  have hD : va_D A [(o, .inr (15, bF (va_up (va_up f 10 (.int 1)) 11 (.int v7))))] := hD
  have hP9 : va_P (dC, dI) vwCl [(o, .inr (15, bF (va_up (va_up f 10 (.int 1)) 11 (.int v7))))] H := by exact hP
  have hD9 : va_D A [(o, .inr (15, bF (va_up (va_up f 10 (.int 1)) 11 (.int v7))))] := by exact hD
  have hK9 := hK.sub (tys' := []) [] rfl
  exact W.vret hx hb hr (fun t ht hW => ⟨⟨(), rfl, trivial, by rw [ht]; exact hP9, va_K.moved hW.alike hK9, hD9⟩, hS.F ht⟩) hS.2.2 dX12_wrong_9
set_option maxHeartbeats 4000000 in
set_option maxRecDepth 100000 in
/-- X12_wrong_1 -/
theorem kX12_wrong_1 (l : Launch) (dC : Nat → ClassId) (dI : Nat → Nat → Nat) (sz : Nat) (o : Nat) (f : Nat → Value) (v7 : Int32)   (h7 : f 7 = .int v7) (h10 : f 10 = .int 1)  : Met l yX12_wrong (Cond.code yX12_wrong cX12_wrong 1 none :: uG) ({ frames := 1, cells := 0, slots := 0, locals := 22 }) (va_Pc [.ref o] (fun U => U.heap.size = sz ∧ va_P (dC, dI) vwCl [(o, .inr (15, bF f))] U.heap ∧ va_K (dC, dI) vwCl [] U ∧ va_D (fun _ => True) [(o, .inr (15, bF f))])) (va_Qv (S := Unit) (fun _ => True) (fun _ t => va_P (dC, dI) vwCl [(o, .inr (15, bF f))] t.heap ∧ va_K (dC, dI) vwCl [] t ∧ va_D (va_A [(o, .inr (15, bF f))] sz) [(o, .inr (15, bF f))]) (va_A [(o, .inr (15, bF f))] sz)) 0 0 (va_A [(o, .inr (15, bF f))] sz) := by
  refine Met.ofW (cc := cX12_wrong) (maxL := 1) (ret := none) (by decide) rfl ?_
  intro pG eV s m args below meth c s₁ B hml hv
  obtain ⟨rfl, hsz, hP, hK, hD0⟩ := hv
  have hx := B.exec
  have hb := B.bytes
  have hr := B.returns
  have hts := atoms_spec (ws := Cond.code yX12_wrong cX12_wrong 1 none :: uG) B.pre
  have hu := fun (w : Cond) (h : w ∈ uG) => hts w (List.mem_cons_of_mem _ h)
  have hown : s.vm.findClass RX12 = some m.cls := findClass_of_methodNamed B.named
  have hlocks := B.notSynchronized
  subst hsz
  have hD := hD0.self (sz := s.heap.size)
  generalize hAe : va_A [(o, .inr (15, bF f))] s.heap.size = A at hD ⊢
  have hA : ∀ q : Nat, s.heap.size ≤ q → A q := fun q h => by rw [← hAe]; exact Or.inr h
  have hS : va_S A s.heap s.heap [] := va_S.rf
  have hP : va_P (dC, dI) vwCl [(o, .inr (15, bF f))] s.heap := hP
  have hD : va_D A [(o, .inr (15, bF f))] := hD
  have hl := lv_entry ([.ref o]) (n := 1) (Nat.le_of_ble_eq_true rfl)
  rw [lg_entry_eq]
  generalize (lg_sl ([.ref o]) ++ List.replicate (1 - (lg_sl ([.ref o])).length) Slot.unset).toArray = ls at hl ⊢
  have hl : lv_has ls 1 [(0, .ref o)] := hl
  refine lv_aload_n hx hb dX12_wrong_0 rfl (lv_at hl 0 rfl) ?_
  refine lv_iconst (v := 1) hx hb dX12_wrong_1 (by decide) ?_
  refine lv_aload_n hx hb dX12_wrong_2 rfl (lv_at hl 0 rfl) ?_
  refine va_get (D := (dC, dI)) (ci := 15) (v := .int v7) (C := RX12) (T := TX12) (N := 136) hx hb hu iuX12 hown hK hP 0 rfl rfl 7 (by decide) (hu _ mG_2057) (fun _ h9 => h9) ((bF_get (by decide)).trans (congrArg some (h7))) dX12_wrong_3 ?_
  have hPc := hP.sub (ws' := [(o, .inr (15, bF f))]) [0] rfl
  have hDc := hD.sub (ws' := [(o, .inr (15, bF f))]) [0] (by decide) rfl
  have hKc := hK.sub (tys' := []) [] rfl
  have hFc := va_free (wc := [(o, .inr (15, bF f))]) hD hS hA [0] rfl
  refine va_callv (va_runV (As := [.int 1, .int v7]) (rest := []) ⟨hx, hb, hml, hown, hu⟩ (kX12_fail_1 l dC dI s.heap.size o f   1 v7 (h10) ) (cwV 2 hu (uG_V (fun _ h => h) mG_2525 mG_2522 mG_2524 mG_115 mG_226) rfl rfl rfl (by decide +kernel) ⟨Nat.le_of_ble_eq_true rfl, Nat.le_of_ble_eq_true rfl⟩) ⟨fun a U g mk q => by obtain ⟨q0, q1, qP, qK, qD⟩ := q; exact ⟨q0, q1, qP, va_K.moved (u := U) (U := U.calling g mk a) (Vm.Alike.refl U.vm) qK, qD⟩, va_recv hKc hPc (ci := 15) (q0 := 0) rfl rfl, fun U hU hW => ⟨rfl, by rw [hU], by rw [hU]; exact hPc, va_K.moved hW.alike hKc, hDc.weaken (fun _ _ _ _ => trivial)⟩⟩ rfl rfl hl.1 rfl (lv_room (Nat.le_of_ble_eq_true rfl)) dX12_wrong_6 ⟨Nat.le_of_ble_eq_true rfl, Nat.le_of_ble_eq_true rfl⟩) hS (fun q _ h => hFc q h) hFc (fun u t H1 locs ht hvm hw hB hz1 hk1 hS => ?_)
  obtain ⟨hP1, hK1, hD1⟩ := hB
  rw [ht] at hP1
  obtain ⟨hP, hD⟩ := va_join (wr := []) (w1 := [(o, .inr (15, bF f))]) hP hD [0] [] rfl rfl (by decide) (by decide) hk1 hFc hP1 hD1
  generalize H1 = H at hP hS ⊢
  have hP : va_P (dC, dI) vwCl [(o, .inr (15, bF f))] H := hP
  have hD : va_D A [(o, .inr (15, bF f))] := hD
  have hP9 : va_P (dC, dI) vwCl [(o, .inr (15, bF f))] H := by exact hP
  have hD9 : va_D A [(o, .inr (15, bF f))] := by exact hD
  have hK9 := hK.sub (tys' := []) [] rfl
  exact W.vret hx hb hr (fun t ht hW => ⟨⟨(), rfl, trivial, by rw [ht]; exact hP9, va_K.moved hW.alike hK9, hD9⟩, hS.F ht⟩) hS.2.2 dX12_wrong_9
set_option maxHeartbeats 4000000 in
set_option maxRecDepth 100000 in
/-- X12_accept_0 -/
theorem kX12_accept_0 (l : Launch) (dC : Nat → ClassId) (dI : Nat → Nat → Nat) (sz : Nat) (o : Nat) (f : Nat → Value) (v7 : Int32)  (b9 : Int32) (h7 : f 7 = .int v7) (h10 : f 10 = .int 0) (hb9 : b9 = 0) : Met l yX12_accept (Cond.code yX12_accept cX12_accept 2 none :: uG) ({ frames := 2, cells := 0, slots := 0, locals := 42 }) (va_Pc [.ref o, .int b9] (fun U => U.heap.size = sz ∧ va_P (dC, dI) vwCl [(o, .inr (15, bF f))] U.heap ∧ va_K (dC, dI) vwCl [] U ∧ va_D (fun _ => True) [(o, .inr (15, bF f))])) (va_Qv (S := Unit) (fun _ => True) (fun _ t => va_P (dC, dI) vwCl [(o, .inr (15, bF (va_up (va_up f 10 (.int 1)) 11 (.int v7))))] t.heap ∧ va_K (dC, dI) vwCl [] t ∧ va_D (va_A [(o, .inr (15, bF f))] sz) [(o, .inr (15, bF (va_up (va_up f 10 (.int 1)) 11 (.int v7))))]) (va_A [(o, .inr (15, bF f))] sz)) 0 0 (va_A [(o, .inr (15, bF f))] sz) := by
  refine Met.ofW (cc := cX12_accept) (maxL := 2) (ret := none) (by decide) rfl ?_
  intro pG eV s m args below meth c s₁ B hml hv
  obtain ⟨rfl, hsz, hP, hK, hD0⟩ := hv
  have hx := B.exec
  have hb := B.bytes
  have hr := B.returns
  have hts := atoms_spec (ws := Cond.code yX12_accept cX12_accept 2 none :: uG) B.pre
  have hu := fun (w : Cond) (h : w ∈ uG) => hts w (List.mem_cons_of_mem _ h)
  have hown : s.vm.findClass RX12 = some m.cls := findClass_of_methodNamed B.named
  have hlocks := B.notSynchronized
  subst hsz
  have hD := hD0.self (sz := s.heap.size)
  generalize hAe : va_A [(o, .inr (15, bF f))] s.heap.size = A at hD ⊢
  have hA : ∀ q : Nat, s.heap.size ≤ q → A q := fun q h => by rw [← hAe]; exact Or.inr h
  have hS : va_S A s.heap s.heap [] := va_S.rf
  have hP : va_P (dC, dI) vwCl [(o, .inr (15, bF f))] s.heap := hP
  have hD : va_D A [(o, .inr (15, bF f))] := hD
  have hl := lv_entry ([.ref o, .int b9]) (n := 2) (Nat.le_of_ble_eq_true rfl)
  rw [lg_entry_eq]
  generalize (lg_sl ([.ref o, .int b9]) ++ List.replicate (2 - (lg_sl ([.ref o, .int b9])).length) Slot.unset).toArray = ls at hl ⊢
  have hl : lv_has ls 2 [(0, .ref o), (1, .int b9)] := hl
  refine lv_iload_n hx hb dX12_accept_0 rfl (lv_at hl 1 rfl) ?_
  refine lv_if_eq (tgt := 18) hx hb dX12_accept_1 (by decide) (fun c1 => ?_) (fun c1 => ?_)
  · refine lv_aload_n hx hb dX12_accept_18 rfl (lv_at hl 0 rfl) ?_
    have hPc := hP.sub (ws' := [(o, .inr (15, bF f))]) [0] rfl
    have hDc := hD.sub (ws' := [(o, .inr (15, bF f))]) [0] (by decide) rfl
    have hKc := hK.sub (tys' := []) [] rfl
    have hFc := va_free (wc := [(o, .inr (15, bF f))]) hD hS hA [0] rfl
    refine va_callv (va_runV (As := []) (rest := []) ⟨hx, hb, hml, hown, hu⟩ (kX12_wrong_0 l dC dI s.heap.size o f v7   (h7) (h10) ) (cwV 0 hu (uG_V (fun _ h => h) mG_2533 mG_2530 mG_2532 mG_117 mG_226) rfl rfl rfl (by decide +kernel) ⟨Nat.le_of_ble_eq_true rfl, Nat.le_of_ble_eq_true rfl⟩) ⟨fun a U g mk q => by obtain ⟨q0, q1, qP, qK, qD⟩ := q; exact ⟨q0, q1, qP, va_K.moved (u := U) (U := U.calling g mk a) (Vm.Alike.refl U.vm) qK, qD⟩, va_recv hKc hPc (ci := 15) (q0 := 0) rfl rfl, fun U hU hW => ⟨rfl, by rw [hU], by rw [hU]; exact hPc, va_K.moved hW.alike hKc, hDc.weaken (fun _ _ _ _ => trivial)⟩⟩ rfl rfl hl.1 rfl (lv_room (Nat.le_of_ble_eq_true rfl)) dX12_accept_19 ⟨Nat.le_of_ble_eq_true rfl, Nat.le_of_ble_eq_true rfl⟩) hS (fun q _ h => hFc q h) hFc (fun u t H1 locs ht hvm hw hB hz1 hk1 hS => ?_)
    obtain ⟨hP1, hK1, hD1⟩ := hB
    rw [ht] at hP1
    obtain ⟨hP, hD⟩ := va_join (wr := []) (w1 := [(o, .inr (15, bF (va_up (va_up f 10 (.int 1)) 11 (.int v7))))]) hP hD [0] [] rfl rfl (by decide) (by decide) hk1 hFc hP1 hD1
    generalize H1 = H at hP hS ⊢
    have hP : va_P (dC, dI) vwCl [(o, .inr (15, bF (va_up (va_up f 10 (.int 1)) 11 (.int v7))))] H := hP
    have hD : va_D A [(o, .inr (15, bF (va_up (va_up f 10 (.int 1)) 11 (.int v7))))] := hD
    have hP9 : va_P (dC, dI) vwCl [(o, .inr (15, bF (va_up (va_up f 10 (.int 1)) 11 (.int v7))))] H := by exact hP
    have hD9 : va_D A [(o, .inr (15, bF (va_up (va_up f 10 (.int 1)) 11 (.int v7))))] := by exact hD
    have hK9 := hK.sub (tys' := []) [] rfl
    exact W.vret hx hb hr (fun t ht hW => ⟨⟨(), rfl, trivial, by rw [ht]; exact hP9, va_K.moved hW.alike hK9, hD9⟩, hS.F ht⟩) hS.2.2 dX12_accept_22
  · exact absurd hb9 c1
set_option maxHeartbeats 4000000 in
set_option maxRecDepth 100000 in
/-- X12_accept_1 -/
theorem kX12_accept_1 (l : Launch) (dC : Nat → ClassId) (dI : Nat → Nat → Nat) (sz : Nat) (o : Nat) (f : Nat → Value) (v7 : Int32)  (b9 : Int32) (h7 : f 7 = .int v7) (h10 : f 10 = .int 1) (hb9 : b9 = 0) : Met l yX12_accept (Cond.code yX12_accept cX12_accept 2 none :: uG) ({ frames := 2, cells := 0, slots := 0, locals := 42 }) (va_Pc [.ref o, .int b9] (fun U => U.heap.size = sz ∧ va_P (dC, dI) vwCl [(o, .inr (15, bF f))] U.heap ∧ va_K (dC, dI) vwCl [] U ∧ va_D (fun _ => True) [(o, .inr (15, bF f))])) (va_Qv (S := Unit) (fun _ => True) (fun _ t => va_P (dC, dI) vwCl [(o, .inr (15, bF f))] t.heap ∧ va_K (dC, dI) vwCl [] t ∧ va_D (va_A [(o, .inr (15, bF f))] sz) [(o, .inr (15, bF f))]) (va_A [(o, .inr (15, bF f))] sz)) 0 0 (va_A [(o, .inr (15, bF f))] sz) := by
  refine Met.ofW (cc := cX12_accept) (maxL := 2) (ret := none) (by decide) rfl ?_
  intro pG eV s m args below meth c s₁ B hml hv
  obtain ⟨rfl, hsz, hP, hK, hD0⟩ := hv
  have hx := B.exec
  have hb := B.bytes
  have hr := B.returns
  have hts := atoms_spec (ws := Cond.code yX12_accept cX12_accept 2 none :: uG) B.pre
  have hu := fun (w : Cond) (h : w ∈ uG) => hts w (List.mem_cons_of_mem _ h)
  have hown : s.vm.findClass RX12 = some m.cls := findClass_of_methodNamed B.named
  have hlocks := B.notSynchronized
  subst hsz
  have hD := hD0.self (sz := s.heap.size)
  generalize hAe : va_A [(o, .inr (15, bF f))] s.heap.size = A at hD ⊢
  have hA : ∀ q : Nat, s.heap.size ≤ q → A q := fun q h => by rw [← hAe]; exact Or.inr h
  have hS : va_S A s.heap s.heap [] := va_S.rf
  have hP : va_P (dC, dI) vwCl [(o, .inr (15, bF f))] s.heap := hP
  have hD : va_D A [(o, .inr (15, bF f))] := hD
  have hl := lv_entry ([.ref o, .int b9]) (n := 2) (Nat.le_of_ble_eq_true rfl)
  rw [lg_entry_eq]
  generalize (lg_sl ([.ref o, .int b9]) ++ List.replicate (2 - (lg_sl ([.ref o, .int b9])).length) Slot.unset).toArray = ls at hl ⊢
  have hl : lv_has ls 2 [(0, .ref o), (1, .int b9)] := hl
  refine lv_iload_n hx hb dX12_accept_0 rfl (lv_at hl 1 rfl) ?_
  refine lv_if_eq (tgt := 18) hx hb dX12_accept_1 (by decide) (fun c1 => ?_) (fun c1 => ?_)
  · refine lv_aload_n hx hb dX12_accept_18 rfl (lv_at hl 0 rfl) ?_
    have hPc := hP.sub (ws' := [(o, .inr (15, bF f))]) [0] rfl
    have hDc := hD.sub (ws' := [(o, .inr (15, bF f))]) [0] (by decide) rfl
    have hKc := hK.sub (tys' := []) [] rfl
    have hFc := va_free (wc := [(o, .inr (15, bF f))]) hD hS hA [0] rfl
    refine va_callv (va_runV (As := []) (rest := []) ⟨hx, hb, hml, hown, hu⟩ (kX12_wrong_1 l dC dI s.heap.size o f v7   (h7) (h10) ) (cwV 0 hu (uG_V (fun _ h => h) mG_2533 mG_2530 mG_2532 mG_117 mG_226) rfl rfl rfl (by decide +kernel) ⟨Nat.le_of_ble_eq_true rfl, Nat.le_of_ble_eq_true rfl⟩) ⟨fun a U g mk q => by obtain ⟨q0, q1, qP, qK, qD⟩ := q; exact ⟨q0, q1, qP, va_K.moved (u := U) (U := U.calling g mk a) (Vm.Alike.refl U.vm) qK, qD⟩, va_recv hKc hPc (ci := 15) (q0 := 0) rfl rfl, fun U hU hW => ⟨rfl, by rw [hU], by rw [hU]; exact hPc, va_K.moved hW.alike hKc, hDc.weaken (fun _ _ _ _ => trivial)⟩⟩ rfl rfl hl.1 rfl (lv_room (Nat.le_of_ble_eq_true rfl)) dX12_accept_19 ⟨Nat.le_of_ble_eq_true rfl, Nat.le_of_ble_eq_true rfl⟩) hS (fun q _ h => hFc q h) hFc (fun u t H1 locs ht hvm hw hB hz1 hk1 hS => ?_)
    obtain ⟨hP1, hK1, hD1⟩ := hB
    rw [ht] at hP1
    obtain ⟨hP, hD⟩ := va_join (wr := []) (w1 := [(o, .inr (15, bF f))]) hP hD [0] [] rfl rfl (by decide) (by decide) hk1 hFc hP1 hD1
    generalize H1 = H at hP hS ⊢
    have hP : va_P (dC, dI) vwCl [(o, .inr (15, bF f))] H := hP
    have hD : va_D A [(o, .inr (15, bF f))] := hD
    have hP9 : va_P (dC, dI) vwCl [(o, .inr (15, bF f))] H := by exact hP
    have hD9 : va_D A [(o, .inr (15, bF f))] := by exact hD
    have hK9 := hK.sub (tys' := []) [] rfl
    exact W.vret hx hb hr (fun t ht hW => ⟨⟨(), rfl, trivial, by rw [ht]; exact hP9, va_K.moved hW.alike hK9, hD9⟩, hS.F ht⟩) hS.2.2 dX12_accept_22
  · exact absurd hb9 c1
set_option maxHeartbeats 4000000 in
set_option maxRecDepth 100000 in
/-- X12_isSign_61 -/
theorem kX12_isSign_61 (l : Launch) (dC : Nat → ClassId) (dI : Nat → Nat → Nat) (sz : Nat) (o : Nat) (f : Nat → Value)   (c9 : Int32) (h6 : f 6 = .int 0) (hc9 : c9 = 61) : Met l yX12_isSign (Cond.code yX12_isSign cX12_isSign 2 (some .boolean) :: uG) ({ frames := 0, cells := 0, slots := 0, locals := 0 }) (va_Pc [.ref o, .int c9] (fun U => U.heap.size = sz ∧ va_P (dC, dI) vwCl [(o, .inr (15, bF f))] U.heap ∧ va_K (dC, dI) vwCl [] U ∧ va_D (fun _ => True) [(o, .inr (15, bF f))])) (va_Qi (S := Unit) (fun r _ => r = (0)) (fun _ t => va_P (dC, dI) vwCl [(o, .inr (15, bF f))] t.heap ∧ va_K (dC, dI) vwCl [] t ∧ va_D (va_A [(o, .inr (15, bF f))] sz) [(o, .inr (15, bF f))]) (va_A [(o, .inr (15, bF f))] sz)) 0 0 (va_A [(o, .inr (15, bF f))] sz) := by
  refine Met.ofW (cc := cX12_isSign) (maxL := 2) (ret := (some .boolean)) (by decide) rfl ?_
  intro pG eV s m args below meth c s₁ B hml hv
  obtain ⟨rfl, hsz, hP, hK, hD0⟩ := hv
  have hx := B.exec
  have hb := B.bytes
  have hr := B.returns
  have hts := atoms_spec (ws := Cond.code yX12_isSign cX12_isSign 2 (some .boolean) :: uG) B.pre
  have hu := fun (w : Cond) (h : w ∈ uG) => hts w (List.mem_cons_of_mem _ h)
  have hown : s.vm.findClass RX12 = some m.cls := findClass_of_methodNamed B.named
  have hlocks := B.notSynchronized
  subst hsz
  have hD := hD0.self (sz := s.heap.size)
  generalize hAe : va_A [(o, .inr (15, bF f))] s.heap.size = A at hD ⊢
  have hA : ∀ q : Nat, s.heap.size ≤ q → A q := fun q h => by rw [← hAe]; exact Or.inr h
  have hS : va_S A s.heap s.heap [] := va_S.rf
  have hP : va_P (dC, dI) vwCl [(o, .inr (15, bF f))] s.heap := hP
  have hD : va_D A [(o, .inr (15, bF f))] := hD
  have hl := lv_entry ([.ref o, .int c9]) (n := 2) (Nat.le_of_ble_eq_true rfl)
  rw [lg_entry_eq]
  generalize (lg_sl ([.ref o, .int c9]) ++ List.replicate (2 - (lg_sl ([.ref o, .int c9])).length) Slot.unset).toArray = ls at hl ⊢
  have hl : lv_has ls 2 [(0, .ref o), (1, .int c9)] := hl
  refine lv_aload_n hx hb dX12_isSign_0 rfl (lv_at hl 0 rfl) ?_
  refine va_get (D := (dC, dI)) (ci := 15) (v := .int 0) (C := RX12) (T := TX12) (N := 136) hx hb hu iuX12 hown hK hP 0 rfl rfl 6 (by decide) (hu _ mG_2056) (fun _ h9 => h9) ((bF_get (by decide)).trans (congrArg some (h6))) dX12_isSign_1 ?_
  refine lv_bipush (v := 100) hx hb dX12_isSign_4 (by decide) ?_
  refine lv_iload_n hx hb dX12_isSign_6 rfl (lv_at hl 1 rfl) ?_
  refine lv_iadd hx hb dX12_isSign_7 ?_
  refine lv_topi (fun x7 ex7 => ?_)
  refine lv_icmp_ne (tgt := 15) hx hb dX12_isSign_8 (by decide) (fun c8 => ?_) (fun c8 => ?_)
  · refine lv_iconst (v := 0) hx hb dX12_isSign_15 (by decide) ?_
    have hP9 : va_P (dC, dI) vwCl [(o, .inr (15, bF f))] s.heap := by exact hP
    have hD9 : va_D A [(o, .inr (15, bF f))] := by exact hD
    have hK9 := hK.sub (tys' := []) [] rfl
    exact W.zret (v := 0) hx hb hr (by decide) (fun t ht hW => ⟨⟨0, (), rfl, rfl, by rw [ht]; exact hP9, va_K.moved hW.alike hK9, hD9⟩, hS.F ht⟩) hS.2.2 dX12_isSign_16
  · exact absurd (show ¬ (0 : Int32) = x7 by rw [ex7, hc9]; decide) (fun h => h c8)
set_option maxHeartbeats 4000000 in
set_option maxRecDepth 100000 in
/-- X12_node_0 -/
theorem kX12_node_0 (l : Launch) (dC : Nat → ClassId) (dI : Nat → Nat → Nat) (sz : Nat) (o : Nat) (f : Nat → Value) (v7 : Int32) (v23 : Int32) (a13 : Nat) (c13 : ClassId) (z13 : Nat → Int32) (a14 : Nat) (c14 : ClassId) (z14 : Nat → Int32) (a15 : Nat) (c15 : ClassId) (z15 : Nat → Int32) (a16 : Nat) (c16 : ClassId) (z16 : Nat → Int32) (a17 : Nat) (c17 : ClassId) (z17 : Nat → Int32) (a18 : Nat) (c18 : ClassId) (z18 : Nat → Int32) (a19 : Nat) (c19 : ClassId) (z19 : Nat → Int32) (a20 : Nat) (c20 : ClassId) (z20 : Nat → Int64) (a21 : Nat) (c21 : ClassId) (z21 : Nat → Int32) (a22 : Nat) (c22 : ClassId) (z22 : Nat → Int32) (kd : Int32) (h7 : f 7 = .int v7) (h23 : f 23 = .int v23) (h12 : f 12 = .int 0) (h13 : f 13 = .ref a13) (h14 : f 14 = .ref a14) (h15 : f 15 = .ref a15) (h16 : f 16 = .ref a16) (h17 : f 17 = .ref a17) (h18 : f 18 = .ref a18) (h19 : f 19 = .ref a19) (h20 : f 20 = .ref a20) (h21 : f 21 = .ref a21) (h22 : f 22 = .ref a22)  : Met l yX12_node (Cond.code yX12_node cX12_node 3 (some .int) :: uG) ({ frames := 0, cells := 0, slots := 0, locals := 0 }) (va_Pc [.ref o, .int kd] (fun U => U.heap.size = sz ∧ va_P (dC, dI) vwCl [(o, .inr (15, bF f)), (a13, .inl (c13, 3200, .inl z13)), (a14, .inl (c14, 3200, .inl z14)), (a15, .inl (c15, 3200, .inl z15)), (a16, .inl (c16, 3200, .inl z16)), (a17, .inl (c17, 3200, .inl z17)), (a18, .inl (c18, 3200, .inl z18)), (a19, .inl (c19, 3200, .inl z19)), (a20, .inl (c20, 3200, .inr (.inl z20))), (a21, .inl (c21, 3200, .inl z21)), (a22, .inl (c22, 3200, .inl z22))] U.heap ∧ va_K (dC, dI) vwCl [(c13, .int), (c14, .int), (c15, .int), (c16, .int), (c17, .int), (c18, .int), (c19, .int), (c20, .long), (c21, .int), (c22, .int)] U ∧ va_D (fun _ => True) [(o, .inr (15, bF f)), (a13, .inl (c13, 3200, .inl z13)), (a14, .inl (c14, 3200, .inl z14)), (a15, .inl (c15, 3200, .inl z15)), (a16, .inl (c16, 3200, .inl z16)), (a17, .inl (c17, 3200, .inl z17)), (a18, .inl (c18, 3200, .inl z18)), (a19, .inl (c19, 3200, .inl z19)), (a20, .inl (c20, 3200, .inr (.inl z20))), (a21, .inl (c21, 3200, .inl z21)), (a22, .inl (c22, 3200, .inl z22))])) (va_Qi (S := Unit) (fun r _ => r = (0)) (fun _ t => va_P (dC, dI) vwCl [(o, .inr (15, bF (va_up f 12 (.int 1)))), (a13, .inl (c13, 3200, .inl (upd z13 (0 : Int32).toNatClampNeg kd))), (a14, .inl (c14, 3200, .inl (upd z14 (0 : Int32).toNatClampNeg (-1)))), (a15, .inl (c15, 3200, .inl (upd z15 (0 : Int32).toNatClampNeg (-1)))), (a16, .inl (c16, 3200, .inl (upd z16 (0 : Int32).toNatClampNeg (-1)))), (a17, .inl (c17, 3200, .inl (upd z17 (0 : Int32).toNatClampNeg v7))), (a18, .inl (c18, 3200, .inl (upd z18 (0 : Int32).toNatClampNeg 0))), (a19, .inl (c19, 3200, .inl (upd z19 (0 : Int32).toNatClampNeg 0))), (a20, .inl (c20, 3200, .inr (.inl (vp_updL z20 (0 : Int32).toNatClampNeg 0)))), (a21, .inl (c21, 3200, .inl (upd z21 (0 : Int32).toNatClampNeg v23))), (a22, .inl (c22, 3200, .inl (upd z22 (0 : Int32).toNatClampNeg 0)))] t.heap ∧ va_K (dC, dI) vwCl [(c13, .int), (c14, .int), (c15, .int), (c16, .int), (c17, .int), (c18, .int), (c19, .int), (c20, .long), (c21, .int), (c22, .int)] t ∧ va_D (va_A [(o, .inr (15, bF f)), (a13, .inl (c13, 3200, .inl z13)), (a14, .inl (c14, 3200, .inl z14)), (a15, .inl (c15, 3200, .inl z15)), (a16, .inl (c16, 3200, .inl z16)), (a17, .inl (c17, 3200, .inl z17)), (a18, .inl (c18, 3200, .inl z18)), (a19, .inl (c19, 3200, .inl z19)), (a20, .inl (c20, 3200, .inr (.inl z20))), (a21, .inl (c21, 3200, .inl z21)), (a22, .inl (c22, 3200, .inl z22))] sz) [(o, .inr (15, bF (va_up f 12 (.int 1)))), (a13, .inl (c13, 3200, .inl (upd z13 (0 : Int32).toNatClampNeg kd))), (a14, .inl (c14, 3200, .inl (upd z14 (0 : Int32).toNatClampNeg (-1)))), (a15, .inl (c15, 3200, .inl (upd z15 (0 : Int32).toNatClampNeg (-1)))), (a16, .inl (c16, 3200, .inl (upd z16 (0 : Int32).toNatClampNeg (-1)))), (a17, .inl (c17, 3200, .inl (upd z17 (0 : Int32).toNatClampNeg v7))), (a18, .inl (c18, 3200, .inl (upd z18 (0 : Int32).toNatClampNeg 0))), (a19, .inl (c19, 3200, .inl (upd z19 (0 : Int32).toNatClampNeg 0))), (a20, .inl (c20, 3200, .inr (.inl (vp_updL z20 (0 : Int32).toNatClampNeg 0)))), (a21, .inl (c21, 3200, .inl (upd z21 (0 : Int32).toNatClampNeg v23))), (a22, .inl (c22, 3200, .inl (upd z22 (0 : Int32).toNatClampNeg 0)))]) (va_A [(o, .inr (15, bF f)), (a13, .inl (c13, 3200, .inl z13)), (a14, .inl (c14, 3200, .inl z14)), (a15, .inl (c15, 3200, .inl z15)), (a16, .inl (c16, 3200, .inl z16)), (a17, .inl (c17, 3200, .inl z17)), (a18, .inl (c18, 3200, .inl z18)), (a19, .inl (c19, 3200, .inl z19)), (a20, .inl (c20, 3200, .inr (.inl z20))), (a21, .inl (c21, 3200, .inl z21)), (a22, .inl (c22, 3200, .inl z22))] sz)) 0 0 (va_A [(o, .inr (15, bF f)), (a13, .inl (c13, 3200, .inl z13)), (a14, .inl (c14, 3200, .inl z14)), (a15, .inl (c15, 3200, .inl z15)), (a16, .inl (c16, 3200, .inl z16)), (a17, .inl (c17, 3200, .inl z17)), (a18, .inl (c18, 3200, .inl z18)), (a19, .inl (c19, 3200, .inl z19)), (a20, .inl (c20, 3200, .inr (.inl z20))), (a21, .inl (c21, 3200, .inl z21)), (a22, .inl (c22, 3200, .inl z22))] sz) := by
  refine Met.ofW (cc := cX12_node) (maxL := 3) (ret := (some .int)) (by decide) rfl ?_
  intro pG eV s m args below meth c s₁ B hml hv
  obtain ⟨rfl, hsz, hP, hK, hD0⟩ := hv
  have hx := B.exec
  have hb := B.bytes
  have hr := B.returns
  have hts := atoms_spec (ws := Cond.code yX12_node cX12_node 3 (some .int) :: uG) B.pre
  have hu := fun (w : Cond) (h : w ∈ uG) => hts w (List.mem_cons_of_mem _ h)
  have hown : s.vm.findClass RX12 = some m.cls := findClass_of_methodNamed B.named
  have hlocks := B.notSynchronized
  subst hsz
  have hD := hD0.self (sz := s.heap.size)
  generalize hAe : va_A [(o, .inr (15, bF f)), (a13, .inl (c13, 3200, .inl z13)), (a14, .inl (c14, 3200, .inl z14)), (a15, .inl (c15, 3200, .inl z15)), (a16, .inl (c16, 3200, .inl z16)), (a17, .inl (c17, 3200, .inl z17)), (a18, .inl (c18, 3200, .inl z18)), (a19, .inl (c19, 3200, .inl z19)), (a20, .inl (c20, 3200, .inr (.inl z20))), (a21, .inl (c21, 3200, .inl z21)), (a22, .inl (c22, 3200, .inl z22))] s.heap.size = A at hD ⊢
  have hA : ∀ q : Nat, s.heap.size ≤ q → A q := fun q h => by rw [← hAe]; exact Or.inr h
  have hS : va_S A s.heap s.heap [] := va_S.rf
  have hP : va_P (dC, dI) vwCl [(o, .inr (15, bF f)), (a13, .inl (c13, 3200, .inl z13)), (a14, .inl (c14, 3200, .inl z14)), (a15, .inl (c15, 3200, .inl z15)), (a16, .inl (c16, 3200, .inl z16)), (a17, .inl (c17, 3200, .inl z17)), (a18, .inl (c18, 3200, .inl z18)), (a19, .inl (c19, 3200, .inl z19)), (a20, .inl (c20, 3200, .inr (.inl z20))), (a21, .inl (c21, 3200, .inl z21)), (a22, .inl (c22, 3200, .inl z22))] s.heap := hP
  have hD : va_D A [(o, .inr (15, bF f)), (a13, .inl (c13, 3200, .inl z13)), (a14, .inl (c14, 3200, .inl z14)), (a15, .inl (c15, 3200, .inl z15)), (a16, .inl (c16, 3200, .inl z16)), (a17, .inl (c17, 3200, .inl z17)), (a18, .inl (c18, 3200, .inl z18)), (a19, .inl (c19, 3200, .inl z19)), (a20, .inl (c20, 3200, .inr (.inl z20))), (a21, .inl (c21, 3200, .inl z21)), (a22, .inl (c22, 3200, .inl z22))] := hD
  have hl := lv_entry ([.ref o, .int kd]) (n := 3) (Nat.le_of_ble_eq_true rfl)
  rw [lg_entry_eq]
  generalize (lg_sl ([.ref o, .int kd]) ++ List.replicate (3 - (lg_sl ([.ref o, .int kd])).length) Slot.unset).toArray = ls at hl ⊢
  have hl : lv_has ls 3 [(0, .ref o), (1, .int kd)] := hl
  refine lv_aload_n hx hb dX12_node_0 rfl (lv_at hl 0 rfl) ?_
  refine va_get (D := (dC, dI)) (ci := 15) (v := .int 0) (C := RX12) (T := TX12) (N := 136) hx hb hu iuX12 hown hK hP 0 rfl rfl 12 (by decide) (hu _ mG_2062) (fun _ h9 => h9) ((bF_get (by decide)).trans (congrArg some (h12))) dX12_node_1 ?_
  refine lv_istore_n (lv' := [(2, .int 0), (0, .ref o), (1, .int kd)]) hx hb dX12_node_4 rfl hl (by decide) rfl (fun ls hl => ?_)
  refine lv_aload_n hx hb dX12_node_5 rfl (lv_at hl 1 rfl) ?_
  refine lv_dup hx hb dX12_node_6 rfl ?_
  refine va_get (D := (dC, dI)) (ci := 15) (v := .int 0) (C := RX12) (T := TX12) (N := 136) hx hb hu iuX12 hown hK hP 0 rfl rfl 12 (by decide) (hu _ mG_2062) (fun _ h9 => h9) ((bF_get (by decide)).trans (congrArg some (h12))) dX12_node_7 ?_
  refine lv_iconst (v := 1) hx hb dX12_node_10 (by decide) ?_
  refine lv_iadd hx hb dX12_node_11 ?_
  refine lv_topi (fun x11 ex11 => ?_)
  obtain rfl : x11 = 1 := by rw [ex11]; decide
  refine va_put (D := (dC, dI)) (ci := 15) (v := .int 1) (ty := (tyX12 12)) (C := RX12) (T := TX12) (N := 136) hx hb hu iuX12 tyX12 tyX12_ok nmX12 hown hK hP hD hS 0 rfl rfl 12 (by decide) (hu _ mG_2062) (fun _ h9 => h9) rfl (by decide +kernel) (rfl) (rfl) (by rw [bF_len]; decide) dX12_node_12 (fun H locs hP hD hS => ?_)
  rw [show (bF f).set 12 (.int 1) = bF (va_up f 12 (.int 1)) from bF_set (by decide)] at hP hD
  have hP : va_P (dC, dI) vwCl [(o, .inr (15, bF (va_up f 12 (.int 1)))), (a13, .inl (c13, 3200, .inl z13)), (a14, .inl (c14, 3200, .inl z14)), (a15, .inl (c15, 3200, .inl z15)), (a16, .inl (c16, 3200, .inl z16)), (a17, .inl (c17, 3200, .inl z17)), (a18, .inl (c18, 3200, .inl z18)), (a19, .inl (c19, 3200, .inl z19)), (a20, .inl (c20, 3200, .inr (.inl z20))), (a21, .inl (c21, 3200, .inl z21)), (a22, .inl (c22, 3200, .inl z22))] H := hP
  have hD : va_D A [(o, .inr (15, bF (va_up f 12 (.int 1)))), (a13, .inl (c13, 3200, .inl z13)), (a14, .inl (c14, 3200, .inl z14)), (a15, .inl (c15, 3200, .inl z15)), (a16, .inl (c16, 3200, .inl z16)), (a17, .inl (c17, 3200, .inl z17)), (a18, .inl (c18, 3200, .inl z18)), (a19, .inl (c19, 3200, .inl z19)), (a20, .inl (c20, 3200, .inr (.inl z20))), (a21, .inl (c21, 3200, .inl z21)), (a22, .inl (c22, 3200, .inl z22))] := hD
  refine lv_aload_n hx hb dX12_node_15 rfl (lv_at hl 1 rfl) ?_
  refine va_get (D := (dC, dI)) (ci := 15) (v := .ref a13) (C := RX12) (T := TX12) (N := 136) hx hb hu iuX12 hown hK hP 0 rfl rfl 13 (by decide) (hu _ mG_2063) (fun _ h9 => h9) ((bF_get (by decide)).trans (congrArg some (h13))) dX12_node_16 ?_
  refine lv_iload_n hx hb dX12_node_19 rfl (lv_at hl 0 rfl) ?_
  refine lv_iload_n hx hb dX12_node_20 rfl (lv_at hl 2 rfl) ?_
  refine va_iast hx hb hK hP hD hS 1 0 rfl rfl (vp_in_iff.mpr (by decide)) dX12_node_21 (fun H locs hP hD hS => ?_)
  have hP : va_P (dC, dI) vwCl [(o, .inr (15, bF (va_up f 12 (.int 1)))), (a13, .inl (c13, 3200, .inl (upd z13 (0 : Int32).toNatClampNeg kd))), (a14, .inl (c14, 3200, .inl z14)), (a15, .inl (c15, 3200, .inl z15)), (a16, .inl (c16, 3200, .inl z16)), (a17, .inl (c17, 3200, .inl z17)), (a18, .inl (c18, 3200, .inl z18)), (a19, .inl (c19, 3200, .inl z19)), (a20, .inl (c20, 3200, .inr (.inl z20))), (a21, .inl (c21, 3200, .inl z21)), (a22, .inl (c22, 3200, .inl z22))] H := hP
  have hD : va_D A [(o, .inr (15, bF (va_up f 12 (.int 1)))), (a13, .inl (c13, 3200, .inl (upd z13 (0 : Int32).toNatClampNeg kd))), (a14, .inl (c14, 3200, .inl z14)), (a15, .inl (c15, 3200, .inl z15)), (a16, .inl (c16, 3200, .inl z16)), (a17, .inl (c17, 3200, .inl z17)), (a18, .inl (c18, 3200, .inl z18)), (a19, .inl (c19, 3200, .inl z19)), (a20, .inl (c20, 3200, .inr (.inl z20))), (a21, .inl (c21, 3200, .inl z21)), (a22, .inl (c22, 3200, .inl z22))] := hD
  refine lv_aload_n hx hb dX12_node_22 rfl (lv_at hl 1 rfl) ?_
  refine va_get (D := (dC, dI)) (ci := 15) (v := .ref a14) (C := RX12) (T := TX12) (N := 136) hx hb hu iuX12 hown hK hP 0 rfl rfl 14 (by decide) (hu _ mG_2064) (fun _ h9 => h9) ((bF_get (by decide)).trans (congrArg some (h14))) dX12_node_23 ?_
  refine lv_iload_n hx hb dX12_node_26 rfl (lv_at hl 0 rfl) ?_
  refine lv_iconst (v := (-1)) hx hb dX12_node_27 (by decide) ?_
  refine va_iast hx hb hK hP hD hS 2 1 rfl rfl (vp_in_iff.mpr (by decide)) dX12_node_28 (fun H locs hP hD hS => ?_)
  have hP : va_P (dC, dI) vwCl [(o, .inr (15, bF (va_up f 12 (.int 1)))), (a13, .inl (c13, 3200, .inl (upd z13 (0 : Int32).toNatClampNeg kd))), (a14, .inl (c14, 3200, .inl (upd z14 (0 : Int32).toNatClampNeg (-1)))), (a15, .inl (c15, 3200, .inl z15)), (a16, .inl (c16, 3200, .inl z16)), (a17, .inl (c17, 3200, .inl z17)), (a18, .inl (c18, 3200, .inl z18)), (a19, .inl (c19, 3200, .inl z19)), (a20, .inl (c20, 3200, .inr (.inl z20))), (a21, .inl (c21, 3200, .inl z21)), (a22, .inl (c22, 3200, .inl z22))] H := hP
  have hD : va_D A [(o, .inr (15, bF (va_up f 12 (.int 1)))), (a13, .inl (c13, 3200, .inl (upd z13 (0 : Int32).toNatClampNeg kd))), (a14, .inl (c14, 3200, .inl (upd z14 (0 : Int32).toNatClampNeg (-1)))), (a15, .inl (c15, 3200, .inl z15)), (a16, .inl (c16, 3200, .inl z16)), (a17, .inl (c17, 3200, .inl z17)), (a18, .inl (c18, 3200, .inl z18)), (a19, .inl (c19, 3200, .inl z19)), (a20, .inl (c20, 3200, .inr (.inl z20))), (a21, .inl (c21, 3200, .inl z21)), (a22, .inl (c22, 3200, .inl z22))] := hD
  refine lv_aload_n hx hb dX12_node_29 rfl (lv_at hl 1 rfl) ?_
  refine va_get (D := (dC, dI)) (ci := 15) (v := .ref a15) (C := RX12) (T := TX12) (N := 136) hx hb hu iuX12 hown hK hP 0 rfl rfl 15 (by decide) (hu _ mG_2065) (fun _ h9 => h9) ((bF_get (by decide)).trans (congrArg some (h15))) dX12_node_30 ?_
  refine lv_iload_n hx hb dX12_node_33 rfl (lv_at hl 0 rfl) ?_
  refine lv_iconst (v := (-1)) hx hb dX12_node_34 (by decide) ?_
  refine va_iast hx hb hK hP hD hS 3 2 rfl rfl (vp_in_iff.mpr (by decide)) dX12_node_35 (fun H locs hP hD hS => ?_)
  have hP : va_P (dC, dI) vwCl [(o, .inr (15, bF (va_up f 12 (.int 1)))), (a13, .inl (c13, 3200, .inl (upd z13 (0 : Int32).toNatClampNeg kd))), (a14, .inl (c14, 3200, .inl (upd z14 (0 : Int32).toNatClampNeg (-1)))), (a15, .inl (c15, 3200, .inl (upd z15 (0 : Int32).toNatClampNeg (-1)))), (a16, .inl (c16, 3200, .inl z16)), (a17, .inl (c17, 3200, .inl z17)), (a18, .inl (c18, 3200, .inl z18)), (a19, .inl (c19, 3200, .inl z19)), (a20, .inl (c20, 3200, .inr (.inl z20))), (a21, .inl (c21, 3200, .inl z21)), (a22, .inl (c22, 3200, .inl z22))] H := hP
  have hD : va_D A [(o, .inr (15, bF (va_up f 12 (.int 1)))), (a13, .inl (c13, 3200, .inl (upd z13 (0 : Int32).toNatClampNeg kd))), (a14, .inl (c14, 3200, .inl (upd z14 (0 : Int32).toNatClampNeg (-1)))), (a15, .inl (c15, 3200, .inl (upd z15 (0 : Int32).toNatClampNeg (-1)))), (a16, .inl (c16, 3200, .inl z16)), (a17, .inl (c17, 3200, .inl z17)), (a18, .inl (c18, 3200, .inl z18)), (a19, .inl (c19, 3200, .inl z19)), (a20, .inl (c20, 3200, .inr (.inl z20))), (a21, .inl (c21, 3200, .inl z21)), (a22, .inl (c22, 3200, .inl z22))] := hD
  refine lv_aload_n hx hb dX12_node_36 rfl (lv_at hl 1 rfl) ?_
  refine va_get (D := (dC, dI)) (ci := 15) (v := .ref a16) (C := RX12) (T := TX12) (N := 136) hx hb hu iuX12 hown hK hP 0 rfl rfl 16 (by decide) (hu _ mG_2066) (fun _ h9 => h9) ((bF_get (by decide)).trans (congrArg some (h16))) dX12_node_37 ?_
  refine lv_iload_n hx hb dX12_node_40 rfl (lv_at hl 0 rfl) ?_
  refine lv_iconst (v := (-1)) hx hb dX12_node_41 (by decide) ?_
  refine va_iast hx hb hK hP hD hS 4 3 rfl rfl (vp_in_iff.mpr (by decide)) dX12_node_42 (fun H locs hP hD hS => ?_)
  have hP : va_P (dC, dI) vwCl [(o, .inr (15, bF (va_up f 12 (.int 1)))), (a13, .inl (c13, 3200, .inl (upd z13 (0 : Int32).toNatClampNeg kd))), (a14, .inl (c14, 3200, .inl (upd z14 (0 : Int32).toNatClampNeg (-1)))), (a15, .inl (c15, 3200, .inl (upd z15 (0 : Int32).toNatClampNeg (-1)))), (a16, .inl (c16, 3200, .inl (upd z16 (0 : Int32).toNatClampNeg (-1)))), (a17, .inl (c17, 3200, .inl z17)), (a18, .inl (c18, 3200, .inl z18)), (a19, .inl (c19, 3200, .inl z19)), (a20, .inl (c20, 3200, .inr (.inl z20))), (a21, .inl (c21, 3200, .inl z21)), (a22, .inl (c22, 3200, .inl z22))] H := hP
  have hD : va_D A [(o, .inr (15, bF (va_up f 12 (.int 1)))), (a13, .inl (c13, 3200, .inl (upd z13 (0 : Int32).toNatClampNeg kd))), (a14, .inl (c14, 3200, .inl (upd z14 (0 : Int32).toNatClampNeg (-1)))), (a15, .inl (c15, 3200, .inl (upd z15 (0 : Int32).toNatClampNeg (-1)))), (a16, .inl (c16, 3200, .inl (upd z16 (0 : Int32).toNatClampNeg (-1)))), (a17, .inl (c17, 3200, .inl z17)), (a18, .inl (c18, 3200, .inl z18)), (a19, .inl (c19, 3200, .inl z19)), (a20, .inl (c20, 3200, .inr (.inl z20))), (a21, .inl (c21, 3200, .inl z21)), (a22, .inl (c22, 3200, .inl z22))] := hD
  refine lv_aload_n hx hb dX12_node_43 rfl (lv_at hl 1 rfl) ?_
  refine va_get (D := (dC, dI)) (ci := 15) (v := .ref a17) (C := RX12) (T := TX12) (N := 136) hx hb hu iuX12 hown hK hP 0 rfl rfl 17 (by decide) (hu _ mG_2067) (fun _ h9 => h9) ((bF_get (by decide)).trans (congrArg some (h17))) dX12_node_44 ?_
  refine lv_iload_n hx hb dX12_node_47 rfl (lv_at hl 0 rfl) ?_
  refine lv_aload_n hx hb dX12_node_48 rfl (lv_at hl 1 rfl) ?_
  refine va_get (D := (dC, dI)) (ci := 15) (v := .int v7) (C := RX12) (T := TX12) (N := 136) hx hb hu iuX12 hown hK hP 0 rfl rfl 7 (by decide) (hu _ mG_2057) (fun _ h9 => h9) ((bF_get (by decide)).trans (congrArg some (h7))) dX12_node_49 ?_
  refine va_iast hx hb hK hP hD hS 5 4 rfl rfl (vp_in_iff.mpr (by decide)) dX12_node_52 (fun H locs hP hD hS => ?_)
  have hP : va_P (dC, dI) vwCl [(o, .inr (15, bF (va_up f 12 (.int 1)))), (a13, .inl (c13, 3200, .inl (upd z13 (0 : Int32).toNatClampNeg kd))), (a14, .inl (c14, 3200, .inl (upd z14 (0 : Int32).toNatClampNeg (-1)))), (a15, .inl (c15, 3200, .inl (upd z15 (0 : Int32).toNatClampNeg (-1)))), (a16, .inl (c16, 3200, .inl (upd z16 (0 : Int32).toNatClampNeg (-1)))), (a17, .inl (c17, 3200, .inl (upd z17 (0 : Int32).toNatClampNeg v7))), (a18, .inl (c18, 3200, .inl z18)), (a19, .inl (c19, 3200, .inl z19)), (a20, .inl (c20, 3200, .inr (.inl z20))), (a21, .inl (c21, 3200, .inl z21)), (a22, .inl (c22, 3200, .inl z22))] H := hP
  have hD : va_D A [(o, .inr (15, bF (va_up f 12 (.int 1)))), (a13, .inl (c13, 3200, .inl (upd z13 (0 : Int32).toNatClampNeg kd))), (a14, .inl (c14, 3200, .inl (upd z14 (0 : Int32).toNatClampNeg (-1)))), (a15, .inl (c15, 3200, .inl (upd z15 (0 : Int32).toNatClampNeg (-1)))), (a16, .inl (c16, 3200, .inl (upd z16 (0 : Int32).toNatClampNeg (-1)))), (a17, .inl (c17, 3200, .inl (upd z17 (0 : Int32).toNatClampNeg v7))), (a18, .inl (c18, 3200, .inl z18)), (a19, .inl (c19, 3200, .inl z19)), (a20, .inl (c20, 3200, .inr (.inl z20))), (a21, .inl (c21, 3200, .inl z21)), (a22, .inl (c22, 3200, .inl z22))] := hD
  refine lv_aload_n hx hb dX12_node_53 rfl (lv_at hl 1 rfl) ?_
  refine va_get (D := (dC, dI)) (ci := 15) (v := .ref a18) (C := RX12) (T := TX12) (N := 136) hx hb hu iuX12 hown hK hP 0 rfl rfl 18 (by decide) (hu _ mG_2068) (fun _ h9 => h9) ((bF_get (by decide)).trans (congrArg some (h18))) dX12_node_54 ?_
  refine lv_iload_n hx hb dX12_node_57 rfl (lv_at hl 0 rfl) ?_
  refine lv_iconst (v := 0) hx hb dX12_node_58 (by decide) ?_
  refine va_iast hx hb hK hP hD hS 6 5 rfl rfl (vp_in_iff.mpr (by decide)) dX12_node_59 (fun H locs hP hD hS => ?_)
  have hP : va_P (dC, dI) vwCl [(o, .inr (15, bF (va_up f 12 (.int 1)))), (a13, .inl (c13, 3200, .inl (upd z13 (0 : Int32).toNatClampNeg kd))), (a14, .inl (c14, 3200, .inl (upd z14 (0 : Int32).toNatClampNeg (-1)))), (a15, .inl (c15, 3200, .inl (upd z15 (0 : Int32).toNatClampNeg (-1)))), (a16, .inl (c16, 3200, .inl (upd z16 (0 : Int32).toNatClampNeg (-1)))), (a17, .inl (c17, 3200, .inl (upd z17 (0 : Int32).toNatClampNeg v7))), (a18, .inl (c18, 3200, .inl (upd z18 (0 : Int32).toNatClampNeg 0))), (a19, .inl (c19, 3200, .inl z19)), (a20, .inl (c20, 3200, .inr (.inl z20))), (a21, .inl (c21, 3200, .inl z21)), (a22, .inl (c22, 3200, .inl z22))] H := hP
  have hD : va_D A [(o, .inr (15, bF (va_up f 12 (.int 1)))), (a13, .inl (c13, 3200, .inl (upd z13 (0 : Int32).toNatClampNeg kd))), (a14, .inl (c14, 3200, .inl (upd z14 (0 : Int32).toNatClampNeg (-1)))), (a15, .inl (c15, 3200, .inl (upd z15 (0 : Int32).toNatClampNeg (-1)))), (a16, .inl (c16, 3200, .inl (upd z16 (0 : Int32).toNatClampNeg (-1)))), (a17, .inl (c17, 3200, .inl (upd z17 (0 : Int32).toNatClampNeg v7))), (a18, .inl (c18, 3200, .inl (upd z18 (0 : Int32).toNatClampNeg 0))), (a19, .inl (c19, 3200, .inl z19)), (a20, .inl (c20, 3200, .inr (.inl z20))), (a21, .inl (c21, 3200, .inl z21)), (a22, .inl (c22, 3200, .inl z22))] := hD
  refine lv_aload_n hx hb dX12_node_60 rfl (lv_at hl 1 rfl) ?_
  refine va_get (D := (dC, dI)) (ci := 15) (v := .ref a19) (C := RX12) (T := TX12) (N := 136) hx hb hu iuX12 hown hK hP 0 rfl rfl 19 (by decide) (hu _ mG_2069) (fun _ h9 => h9) ((bF_get (by decide)).trans (congrArg some (h19))) dX12_node_61 ?_
  refine lv_iload_n hx hb dX12_node_64 rfl (lv_at hl 0 rfl) ?_
  refine lv_iconst (v := 0) hx hb dX12_node_65 (by decide) ?_
  refine va_iast hx hb hK hP hD hS 7 6 rfl rfl (vp_in_iff.mpr (by decide)) dX12_node_66 (fun H locs hP hD hS => ?_)
  have hP : va_P (dC, dI) vwCl [(o, .inr (15, bF (va_up f 12 (.int 1)))), (a13, .inl (c13, 3200, .inl (upd z13 (0 : Int32).toNatClampNeg kd))), (a14, .inl (c14, 3200, .inl (upd z14 (0 : Int32).toNatClampNeg (-1)))), (a15, .inl (c15, 3200, .inl (upd z15 (0 : Int32).toNatClampNeg (-1)))), (a16, .inl (c16, 3200, .inl (upd z16 (0 : Int32).toNatClampNeg (-1)))), (a17, .inl (c17, 3200, .inl (upd z17 (0 : Int32).toNatClampNeg v7))), (a18, .inl (c18, 3200, .inl (upd z18 (0 : Int32).toNatClampNeg 0))), (a19, .inl (c19, 3200, .inl (upd z19 (0 : Int32).toNatClampNeg 0))), (a20, .inl (c20, 3200, .inr (.inl z20))), (a21, .inl (c21, 3200, .inl z21)), (a22, .inl (c22, 3200, .inl z22))] H := hP
  have hD : va_D A [(o, .inr (15, bF (va_up f 12 (.int 1)))), (a13, .inl (c13, 3200, .inl (upd z13 (0 : Int32).toNatClampNeg kd))), (a14, .inl (c14, 3200, .inl (upd z14 (0 : Int32).toNatClampNeg (-1)))), (a15, .inl (c15, 3200, .inl (upd z15 (0 : Int32).toNatClampNeg (-1)))), (a16, .inl (c16, 3200, .inl (upd z16 (0 : Int32).toNatClampNeg (-1)))), (a17, .inl (c17, 3200, .inl (upd z17 (0 : Int32).toNatClampNeg v7))), (a18, .inl (c18, 3200, .inl (upd z18 (0 : Int32).toNatClampNeg 0))), (a19, .inl (c19, 3200, .inl (upd z19 (0 : Int32).toNatClampNeg 0))), (a20, .inl (c20, 3200, .inr (.inl z20))), (a21, .inl (c21, 3200, .inl z21)), (a22, .inl (c22, 3200, .inl z22))] := hD
  refine lv_aload_n hx hb dX12_node_67 rfl (lv_at hl 1 rfl) ?_
  refine va_get (D := (dC, dI)) (ci := 15) (v := .ref a20) (C := RX12) (T := TX12) (N := 136) hx hb hu iuX12 hown hK hP 0 rfl rfl 20 (by decide) (hu _ mG_2070) (fun _ h9 => h9) ((bF_get (by decide)).trans (congrArg some (h20))) dX12_node_68 ?_
  refine lv_iload_n hx hb dX12_node_71 rfl (lv_at hl 0 rfl) ?_
  refine lv_lconst (v := 0) hx hb dX12_node_72 rfl ?_
  refine va_last hx hb hK hP hD hS 8 7 rfl rfl (vp_in_iff.mpr (by decide)) dX12_node_73 (fun H locs hP hD hS => ?_)
  have hP : va_P (dC, dI) vwCl [(o, .inr (15, bF (va_up f 12 (.int 1)))), (a13, .inl (c13, 3200, .inl (upd z13 (0 : Int32).toNatClampNeg kd))), (a14, .inl (c14, 3200, .inl (upd z14 (0 : Int32).toNatClampNeg (-1)))), (a15, .inl (c15, 3200, .inl (upd z15 (0 : Int32).toNatClampNeg (-1)))), (a16, .inl (c16, 3200, .inl (upd z16 (0 : Int32).toNatClampNeg (-1)))), (a17, .inl (c17, 3200, .inl (upd z17 (0 : Int32).toNatClampNeg v7))), (a18, .inl (c18, 3200, .inl (upd z18 (0 : Int32).toNatClampNeg 0))), (a19, .inl (c19, 3200, .inl (upd z19 (0 : Int32).toNatClampNeg 0))), (a20, .inl (c20, 3200, .inr (.inl (vp_updL z20 (0 : Int32).toNatClampNeg 0)))), (a21, .inl (c21, 3200, .inl z21)), (a22, .inl (c22, 3200, .inl z22))] H := hP
  have hD : va_D A [(o, .inr (15, bF (va_up f 12 (.int 1)))), (a13, .inl (c13, 3200, .inl (upd z13 (0 : Int32).toNatClampNeg kd))), (a14, .inl (c14, 3200, .inl (upd z14 (0 : Int32).toNatClampNeg (-1)))), (a15, .inl (c15, 3200, .inl (upd z15 (0 : Int32).toNatClampNeg (-1)))), (a16, .inl (c16, 3200, .inl (upd z16 (0 : Int32).toNatClampNeg (-1)))), (a17, .inl (c17, 3200, .inl (upd z17 (0 : Int32).toNatClampNeg v7))), (a18, .inl (c18, 3200, .inl (upd z18 (0 : Int32).toNatClampNeg 0))), (a19, .inl (c19, 3200, .inl (upd z19 (0 : Int32).toNatClampNeg 0))), (a20, .inl (c20, 3200, .inr (.inl (vp_updL z20 (0 : Int32).toNatClampNeg 0)))), (a21, .inl (c21, 3200, .inl z21)), (a22, .inl (c22, 3200, .inl z22))] := hD
  refine lv_aload_n hx hb dX12_node_74 rfl (lv_at hl 1 rfl) ?_
  refine va_get (D := (dC, dI)) (ci := 15) (v := .ref a21) (C := RX12) (T := TX12) (N := 136) hx hb hu iuX12 hown hK hP 0 rfl rfl 21 (by decide) (hu _ mG_2071) (fun _ h9 => h9) ((bF_get (by decide)).trans (congrArg some (h21))) dX12_node_75 ?_
  refine lv_iload_n hx hb dX12_node_78 rfl (lv_at hl 0 rfl) ?_
  refine lv_aload_n hx hb dX12_node_79 rfl (lv_at hl 1 rfl) ?_
  refine va_get (D := (dC, dI)) (ci := 15) (v := .int v23) (C := RX12) (T := TX12) (N := 136) hx hb hu iuX12 hown hK hP 0 rfl rfl 23 (by decide) (hu _ mG_2073) (fun _ h9 => h9) ((bF_get (by decide)).trans (congrArg some (h23))) dX12_node_80 ?_
  refine va_iast hx hb hK hP hD hS 9 8 rfl rfl (vp_in_iff.mpr (by decide)) dX12_node_83 (fun H locs hP hD hS => ?_)
  have hP : va_P (dC, dI) vwCl [(o, .inr (15, bF (va_up f 12 (.int 1)))), (a13, .inl (c13, 3200, .inl (upd z13 (0 : Int32).toNatClampNeg kd))), (a14, .inl (c14, 3200, .inl (upd z14 (0 : Int32).toNatClampNeg (-1)))), (a15, .inl (c15, 3200, .inl (upd z15 (0 : Int32).toNatClampNeg (-1)))), (a16, .inl (c16, 3200, .inl (upd z16 (0 : Int32).toNatClampNeg (-1)))), (a17, .inl (c17, 3200, .inl (upd z17 (0 : Int32).toNatClampNeg v7))), (a18, .inl (c18, 3200, .inl (upd z18 (0 : Int32).toNatClampNeg 0))), (a19, .inl (c19, 3200, .inl (upd z19 (0 : Int32).toNatClampNeg 0))), (a20, .inl (c20, 3200, .inr (.inl (vp_updL z20 (0 : Int32).toNatClampNeg 0)))), (a21, .inl (c21, 3200, .inl (upd z21 (0 : Int32).toNatClampNeg v23))), (a22, .inl (c22, 3200, .inl z22))] H := hP
  have hD : va_D A [(o, .inr (15, bF (va_up f 12 (.int 1)))), (a13, .inl (c13, 3200, .inl (upd z13 (0 : Int32).toNatClampNeg kd))), (a14, .inl (c14, 3200, .inl (upd z14 (0 : Int32).toNatClampNeg (-1)))), (a15, .inl (c15, 3200, .inl (upd z15 (0 : Int32).toNatClampNeg (-1)))), (a16, .inl (c16, 3200, .inl (upd z16 (0 : Int32).toNatClampNeg (-1)))), (a17, .inl (c17, 3200, .inl (upd z17 (0 : Int32).toNatClampNeg v7))), (a18, .inl (c18, 3200, .inl (upd z18 (0 : Int32).toNatClampNeg 0))), (a19, .inl (c19, 3200, .inl (upd z19 (0 : Int32).toNatClampNeg 0))), (a20, .inl (c20, 3200, .inr (.inl (vp_updL z20 (0 : Int32).toNatClampNeg 0)))), (a21, .inl (c21, 3200, .inl (upd z21 (0 : Int32).toNatClampNeg v23))), (a22, .inl (c22, 3200, .inl z22))] := hD
  refine lv_aload_n hx hb dX12_node_84 rfl (lv_at hl 1 rfl) ?_
  refine va_get (D := (dC, dI)) (ci := 15) (v := .ref a22) (C := RX12) (T := TX12) (N := 136) hx hb hu iuX12 hown hK hP 0 rfl rfl 22 (by decide) (hu _ mG_2072) (fun _ h9 => h9) ((bF_get (by decide)).trans (congrArg some (h22))) dX12_node_85 ?_
  refine lv_iload_n hx hb dX12_node_88 rfl (lv_at hl 0 rfl) ?_
  refine lv_iconst (v := 0) hx hb dX12_node_89 (by decide) ?_
  refine va_iast hx hb hK hP hD hS 10 9 rfl rfl (vp_in_iff.mpr (by decide)) dX12_node_90 (fun H locs hP hD hS => ?_)
  have hP : va_P (dC, dI) vwCl [(o, .inr (15, bF (va_up f 12 (.int 1)))), (a13, .inl (c13, 3200, .inl (upd z13 (0 : Int32).toNatClampNeg kd))), (a14, .inl (c14, 3200, .inl (upd z14 (0 : Int32).toNatClampNeg (-1)))), (a15, .inl (c15, 3200, .inl (upd z15 (0 : Int32).toNatClampNeg (-1)))), (a16, .inl (c16, 3200, .inl (upd z16 (0 : Int32).toNatClampNeg (-1)))), (a17, .inl (c17, 3200, .inl (upd z17 (0 : Int32).toNatClampNeg v7))), (a18, .inl (c18, 3200, .inl (upd z18 (0 : Int32).toNatClampNeg 0))), (a19, .inl (c19, 3200, .inl (upd z19 (0 : Int32).toNatClampNeg 0))), (a20, .inl (c20, 3200, .inr (.inl (vp_updL z20 (0 : Int32).toNatClampNeg 0)))), (a21, .inl (c21, 3200, .inl (upd z21 (0 : Int32).toNatClampNeg v23))), (a22, .inl (c22, 3200, .inl (upd z22 (0 : Int32).toNatClampNeg 0)))] H := hP
  have hD : va_D A [(o, .inr (15, bF (va_up f 12 (.int 1)))), (a13, .inl (c13, 3200, .inl (upd z13 (0 : Int32).toNatClampNeg kd))), (a14, .inl (c14, 3200, .inl (upd z14 (0 : Int32).toNatClampNeg (-1)))), (a15, .inl (c15, 3200, .inl (upd z15 (0 : Int32).toNatClampNeg (-1)))), (a16, .inl (c16, 3200, .inl (upd z16 (0 : Int32).toNatClampNeg (-1)))), (a17, .inl (c17, 3200, .inl (upd z17 (0 : Int32).toNatClampNeg v7))), (a18, .inl (c18, 3200, .inl (upd z18 (0 : Int32).toNatClampNeg 0))), (a19, .inl (c19, 3200, .inl (upd z19 (0 : Int32).toNatClampNeg 0))), (a20, .inl (c20, 3200, .inr (.inl (vp_updL z20 (0 : Int32).toNatClampNeg 0)))), (a21, .inl (c21, 3200, .inl (upd z21 (0 : Int32).toNatClampNeg v23))), (a22, .inl (c22, 3200, .inl (upd z22 (0 : Int32).toNatClampNeg 0)))] := hD
  refine lv_iload_n hx hb dX12_node_91 rfl (lv_at hl 0 rfl) ?_
  have hP9 : va_P (dC, dI) vwCl [(o, .inr (15, bF (va_up f 12 (.int 1)))), (a13, .inl (c13, 3200, .inl (upd z13 (0 : Int32).toNatClampNeg kd))), (a14, .inl (c14, 3200, .inl (upd z14 (0 : Int32).toNatClampNeg (-1)))), (a15, .inl (c15, 3200, .inl (upd z15 (0 : Int32).toNatClampNeg (-1)))), (a16, .inl (c16, 3200, .inl (upd z16 (0 : Int32).toNatClampNeg (-1)))), (a17, .inl (c17, 3200, .inl (upd z17 (0 : Int32).toNatClampNeg v7))), (a18, .inl (c18, 3200, .inl (upd z18 (0 : Int32).toNatClampNeg 0))), (a19, .inl (c19, 3200, .inl (upd z19 (0 : Int32).toNatClampNeg 0))), (a20, .inl (c20, 3200, .inr (.inl (vp_updL z20 (0 : Int32).toNatClampNeg 0)))), (a21, .inl (c21, 3200, .inl (upd z21 (0 : Int32).toNatClampNeg v23))), (a22, .inl (c22, 3200, .inl (upd z22 (0 : Int32).toNatClampNeg 0)))] H := by exact hP
  have hD9 : va_D A [(o, .inr (15, bF (va_up f 12 (.int 1)))), (a13, .inl (c13, 3200, .inl (upd z13 (0 : Int32).toNatClampNeg kd))), (a14, .inl (c14, 3200, .inl (upd z14 (0 : Int32).toNatClampNeg (-1)))), (a15, .inl (c15, 3200, .inl (upd z15 (0 : Int32).toNatClampNeg (-1)))), (a16, .inl (c16, 3200, .inl (upd z16 (0 : Int32).toNatClampNeg (-1)))), (a17, .inl (c17, 3200, .inl (upd z17 (0 : Int32).toNatClampNeg v7))), (a18, .inl (c18, 3200, .inl (upd z18 (0 : Int32).toNatClampNeg 0))), (a19, .inl (c19, 3200, .inl (upd z19 (0 : Int32).toNatClampNeg 0))), (a20, .inl (c20, 3200, .inr (.inl (vp_updL z20 (0 : Int32).toNatClampNeg 0)))), (a21, .inl (c21, 3200, .inl (upd z21 (0 : Int32).toNatClampNeg v23))), (a22, .inl (c22, 3200, .inl (upd z22 (0 : Int32).toNatClampNeg 0)))] := by exact hD
  have hK9 := hK.sub (tys' := [(c13, .int), (c14, .int), (c15, .int), (c16, .int), (c17, .int), (c18, .int), (c19, .int), (c20, .long), (c21, .int), (c22, .int)]) [0, 1, 2, 3, 4, 5, 6, 7, 8, 9] rfl
  exact W.iret (v := 0) hx hb hr (fun t ht hW => ⟨⟨0, (), rfl, rfl, by rw [ht]; exact hP9, va_K.moved hW.alike hK9, hD9⟩, hS.F ht⟩) hS.2.2 dX12_node_92
set_option maxHeartbeats 4000000 in
set_option maxRecDepth 100000 in
/-- X12_readFunction_0 -/
theorem kX12_readFunction_0 (l : Launch) (dC : Nat → ClassId) (dI : Nat → Nat → Nat) (sz : Nat) (o : Nat) (f : Nat → Value) (v7 : Int32) (v23 : Int32) (v8 : Int64) (a13 : Nat) (c13 : ClassId) (z13 : Nat → Int32) (a14 : Nat) (c14 : ClassId) (z14 : Nat → Int32) (a15 : Nat) (c15 : ClassId) (z15 : Nat → Int32) (a16 : Nat) (c16 : ClassId) (z16 : Nat → Int32) (a17 : Nat) (c17 : ClassId) (z17 : Nat → Int32) (a18 : Nat) (c18 : ClassId) (z18 : Nat → Int32) (a19 : Nat) (c19 : ClassId) (z19 : Nat → Int32) (a20 : Nat) (c20 : ClassId) (z20 : Nat → Int64) (a21 : Nat) (c21 : ClassId) (z21 : Nat → Int32) (a22 : Nat) (c22 : ClassId) (z22 : Nat → Int32)  (h7 : f 7 = .int v7) (h23 : f 23 = .int v23) (h8 : f 8 = .long v8) (h6 : f 6 = .int 0) (h10 : f 10 = .int 0) (h12 : f 12 = .int 0) (h27 : f 27 = .int 0) (h13 : f 13 = .ref a13) (h14 : f 14 = .ref a14) (h15 : f 15 = .ref a15) (h16 : f 16 = .ref a16) (h17 : f 17 = .ref a17) (h18 : f 18 = .ref a18) (h19 : f 19 = .ref a19) (h20 : f 20 = .ref a20) (h21 : f 21 = .ref a21) (h22 : f 22 = .ref a22)  : Met l yX12_readFunction (Cond.code yX12_readFunction cX12_readFunction 3 none :: uG) ({ frames := 3, cells := 0, slots := 0, locals := 63 }) (va_Pc [.ref o] (fun U => U.heap.size = sz ∧ va_P (dC, dI) vwCl [(o, .inr (15, bF f)), (a13, .inl (c13, 3200, .inl z13)), (a14, .inl (c14, 3200, .inl z14)), (a15, .inl (c15, 3200, .inl z15)), (a16, .inl (c16, 3200, .inl z16)), (a17, .inl (c17, 3200, .inl z17)), (a18, .inl (c18, 3200, .inl z18)), (a19, .inl (c19, 3200, .inl z19)), (a20, .inl (c20, 3200, .inr (.inl z20))), (a21, .inl (c21, 3200, .inl z21)), (a22, .inl (c22, 3200, .inl z22))] U.heap ∧ va_K (dC, dI) vwCl [(c13, .int), (c14, .int), (c15, .int), (c16, .int), (c17, .int), (c18, .int), (c19, .int), (c20, .long), (c21, .int), (c22, .int)] U ∧ va_D (fun _ => True) [(o, .inr (15, bF f)), (a13, .inl (c13, 3200, .inl z13)), (a14, .inl (c14, 3200, .inl z14)), (a15, .inl (c15, 3200, .inl z15)), (a16, .inl (c16, 3200, .inl z16)), (a17, .inl (c17, 3200, .inl z17)), (a18, .inl (c18, 3200, .inl z18)), (a19, .inl (c19, 3200, .inl z19)), (a20, .inl (c20, 3200, .inr (.inl z20))), (a21, .inl (c21, 3200, .inl z21)), (a22, .inl (c22, 3200, .inl z22))])) (va_Qv (S := Unit) (fun _ => True) (fun _ t => va_P (dC, dI) vwCl [(o, .inr (15, bF (va_up (va_up (va_up f 12 (.int 1)) 10 (.int 1)) 11 (.int v7)))), (a13, .inl (c13, 3200, .inl (upd z13 (0 : Int32).toNatClampNeg 12))), (a14, .inl (c14, 3200, .inl (upd z14 (0 : Int32).toNatClampNeg (-1)))), (a15, .inl (c15, 3200, .inl (upd z15 (0 : Int32).toNatClampNeg (-1)))), (a16, .inl (c16, 3200, .inl (upd z16 (0 : Int32).toNatClampNeg (-1)))), (a17, .inl (c17, 3200, .inl (upd z17 (0 : Int32).toNatClampNeg v7))), (a18, .inl (c18, 3200, .inl (upd z18 (0 : Int32).toNatClampNeg 0))), (a19, .inl (c19, 3200, .inl (upd z19 (0 : Int32).toNatClampNeg 0))), (a20, .inl (c20, 3200, .inr (.inl (vp_updL (vp_updL z20 (0 : Int32).toNatClampNeg 0) (0 : Int32).toNatClampNeg v8)))), (a21, .inl (c21, 3200, .inl (upd z21 (0 : Int32).toNatClampNeg v23))), (a22, .inl (c22, 3200, .inl (upd z22 (0 : Int32).toNatClampNeg 0)))] t.heap ∧ va_K (dC, dI) vwCl [(c13, .int), (c14, .int), (c15, .int), (c16, .int), (c17, .int), (c18, .int), (c19, .int), (c20, .long), (c21, .int), (c22, .int)] t ∧ va_D (va_A [(o, .inr (15, bF f)), (a13, .inl (c13, 3200, .inl z13)), (a14, .inl (c14, 3200, .inl z14)), (a15, .inl (c15, 3200, .inl z15)), (a16, .inl (c16, 3200, .inl z16)), (a17, .inl (c17, 3200, .inl z17)), (a18, .inl (c18, 3200, .inl z18)), (a19, .inl (c19, 3200, .inl z19)), (a20, .inl (c20, 3200, .inr (.inl z20))), (a21, .inl (c21, 3200, .inl z21)), (a22, .inl (c22, 3200, .inl z22))] sz) [(o, .inr (15, bF (va_up (va_up (va_up f 12 (.int 1)) 10 (.int 1)) 11 (.int v7)))), (a13, .inl (c13, 3200, .inl (upd z13 (0 : Int32).toNatClampNeg 12))), (a14, .inl (c14, 3200, .inl (upd z14 (0 : Int32).toNatClampNeg (-1)))), (a15, .inl (c15, 3200, .inl (upd z15 (0 : Int32).toNatClampNeg (-1)))), (a16, .inl (c16, 3200, .inl (upd z16 (0 : Int32).toNatClampNeg (-1)))), (a17, .inl (c17, 3200, .inl (upd z17 (0 : Int32).toNatClampNeg v7))), (a18, .inl (c18, 3200, .inl (upd z18 (0 : Int32).toNatClampNeg 0))), (a19, .inl (c19, 3200, .inl (upd z19 (0 : Int32).toNatClampNeg 0))), (a20, .inl (c20, 3200, .inr (.inl (vp_updL (vp_updL z20 (0 : Int32).toNatClampNeg 0) (0 : Int32).toNatClampNeg v8)))), (a21, .inl (c21, 3200, .inl (upd z21 (0 : Int32).toNatClampNeg v23))), (a22, .inl (c22, 3200, .inl (upd z22 (0 : Int32).toNatClampNeg 0)))]) (va_A [(o, .inr (15, bF f)), (a13, .inl (c13, 3200, .inl z13)), (a14, .inl (c14, 3200, .inl z14)), (a15, .inl (c15, 3200, .inl z15)), (a16, .inl (c16, 3200, .inl z16)), (a17, .inl (c17, 3200, .inl z17)), (a18, .inl (c18, 3200, .inl z18)), (a19, .inl (c19, 3200, .inl z19)), (a20, .inl (c20, 3200, .inr (.inl z20))), (a21, .inl (c21, 3200, .inl z21)), (a22, .inl (c22, 3200, .inl z22))] sz)) 0 0 (va_A [(o, .inr (15, bF f)), (a13, .inl (c13, 3200, .inl z13)), (a14, .inl (c14, 3200, .inl z14)), (a15, .inl (c15, 3200, .inl z15)), (a16, .inl (c16, 3200, .inl z16)), (a17, .inl (c17, 3200, .inl z17)), (a18, .inl (c18, 3200, .inl z18)), (a19, .inl (c19, 3200, .inl z19)), (a20, .inl (c20, 3200, .inr (.inl z20))), (a21, .inl (c21, 3200, .inl z21)), (a22, .inl (c22, 3200, .inl z22))] sz) := by
  refine Met.ofW (cc := cX12_readFunction) (maxL := 3) (ret := none) (by decide) rfl ?_
  intro pG eV s m args below meth c s₁ B hml hv
  obtain ⟨rfl, hsz, hP, hK, hD0⟩ := hv
  have hx := B.exec
  have hb := B.bytes
  have hr := B.returns
  have hts := atoms_spec (ws := Cond.code yX12_readFunction cX12_readFunction 3 none :: uG) B.pre
  have hu := fun (w : Cond) (h : w ∈ uG) => hts w (List.mem_cons_of_mem _ h)
  have hown : s.vm.findClass RX12 = some m.cls := findClass_of_methodNamed B.named
  have hlocks := B.notSynchronized
  subst hsz
  have hD := hD0.self (sz := s.heap.size)
  generalize hAe : va_A [(o, .inr (15, bF f)), (a13, .inl (c13, 3200, .inl z13)), (a14, .inl (c14, 3200, .inl z14)), (a15, .inl (c15, 3200, .inl z15)), (a16, .inl (c16, 3200, .inl z16)), (a17, .inl (c17, 3200, .inl z17)), (a18, .inl (c18, 3200, .inl z18)), (a19, .inl (c19, 3200, .inl z19)), (a20, .inl (c20, 3200, .inr (.inl z20))), (a21, .inl (c21, 3200, .inl z21)), (a22, .inl (c22, 3200, .inl z22))] s.heap.size = A at hD ⊢
  have hA : ∀ q : Nat, s.heap.size ≤ q → A q := fun q h => by rw [← hAe]; exact Or.inr h
  have hS : va_S A s.heap s.heap [] := va_S.rf
  have hP : va_P (dC, dI) vwCl [(o, .inr (15, bF f)), (a13, .inl (c13, 3200, .inl z13)), (a14, .inl (c14, 3200, .inl z14)), (a15, .inl (c15, 3200, .inl z15)), (a16, .inl (c16, 3200, .inl z16)), (a17, .inl (c17, 3200, .inl z17)), (a18, .inl (c18, 3200, .inl z18)), (a19, .inl (c19, 3200, .inl z19)), (a20, .inl (c20, 3200, .inr (.inl z20))), (a21, .inl (c21, 3200, .inl z21)), (a22, .inl (c22, 3200, .inl z22))] s.heap := hP
  have hD : va_D A [(o, .inr (15, bF f)), (a13, .inl (c13, 3200, .inl z13)), (a14, .inl (c14, 3200, .inl z14)), (a15, .inl (c15, 3200, .inl z15)), (a16, .inl (c16, 3200, .inl z16)), (a17, .inl (c17, 3200, .inl z17)), (a18, .inl (c18, 3200, .inl z18)), (a19, .inl (c19, 3200, .inl z19)), (a20, .inl (c20, 3200, .inr (.inl z20))), (a21, .inl (c21, 3200, .inl z21)), (a22, .inl (c22, 3200, .inl z22))] := hD
  have hl := lv_entry ([.ref o]) (n := 3) (Nat.le_of_ble_eq_true rfl)
  rw [lg_entry_eq]
  generalize (lg_sl ([.ref o]) ++ List.replicate (3 - (lg_sl ([.ref o])).length) Slot.unset).toArray = ls at hl ⊢
  have hl : lv_has ls 3 [(0, .ref o)] := hl
  refine lv_iconst (v := 0) hx hb dX12_readFunction_0 (by decide) ?_
  refine lv_istore_n (lv' := [(1, .int 0), (0, .ref o)]) hx hb dX12_readFunction_1 rfl hl (by decide) rfl (fun ls hl => ?_)
  refine lv_iload_n hx hb dX12_readFunction_2 rfl (lv_at hl 0 rfl) ?_
  refine lv_aload_n hx hb dX12_readFunction_3 rfl (lv_at hl 1 rfl) ?_
  refine va_get (D := (dC, dI)) (ci := 15) (v := .int 0) (C := RX12) (T := TX12) (N := 136) hx hb hu iuX12 hown hK hP 0 rfl rfl 27 (by decide) (hu _ mG_2077) (fun _ h9 => h9) ((bF_get (by decide)).trans (congrArg some (h27))) dX12_readFunction_4 ?_
  refine lv_icmp_ge (tgt := 47) hx hb dX12_readFunction_7 (by decide) (fun c7 => ?_) (fun c7 => ?_)
  · refine lv_aload_n hx hb dX12_readFunction_47 rfl (lv_at hl 1 rfl) ?_
    refine va_get (D := (dC, dI)) (ci := 15) (v := .int 0) (C := RX12) (T := TX12) (N := 136) hx hb hu iuX12 hown hK hP 0 rfl rfl 6 (by decide) (hu _ mG_2056) (fun _ h9 => h9) ((bF_get (by decide)).trans (congrArg some (h6))) dX12_readFunction_48 ?_
    refine lv_iconst (v := 3) hx hb dX12_readFunction_51 (by decide) ?_
    refine lv_icmp_ne (tgt := 73) hx hb dX12_readFunction_52 (by decide) (fun c52 => ?_) (fun c52 => ?_)
    · refine lv_aload_n hx hb dX12_readFunction_73 rfl (lv_at hl 1 rfl) ?_
      refine va_get (D := (dC, dI)) (ci := 15) (v := .int 0) (C := RX12) (T := TX12) (N := 136) hx hb hu iuX12 hown hK hP 0 rfl rfl 12 (by decide) (hu _ mG_2062) (fun _ h9 => h9) ((bF_get (by decide)).trans (congrArg some (h12))) dX12_readFunction_74 ?_
      refine lv_sipush (v := 3200) hx hb dX12_readFunction_77 (by decide) ?_
      refine lv_icmp_ge (tgt := 92) hx hb dX12_readFunction_80 (by decide) (fun c80 => ?_) (fun c80 => ?_)
      · exact absurd c80 (by decide)
      · refine lv_aload_n hx hb dX12_readFunction_83 rfl (lv_at hl 1 rfl) ?_
        refine lv_bipush (v := 12) hx hb dX12_readFunction_84 (by decide) ?_
        have hPc := hP.sub (ws' := [(o, .inr (15, bF f)), (a13, .inl (c13, 3200, .inl z13)), (a14, .inl (c14, 3200, .inl z14)), (a15, .inl (c15, 3200, .inl z15)), (a16, .inl (c16, 3200, .inl z16)), (a17, .inl (c17, 3200, .inl z17)), (a18, .inl (c18, 3200, .inl z18)), (a19, .inl (c19, 3200, .inl z19)), (a20, .inl (c20, 3200, .inr (.inl z20))), (a21, .inl (c21, 3200, .inl z21)), (a22, .inl (c22, 3200, .inl z22))]) [0, 1, 2, 3, 4, 5, 6, 7, 8, 9, 10] rfl
        have hDc := hD.sub (ws' := [(o, .inr (15, bF f)), (a13, .inl (c13, 3200, .inl z13)), (a14, .inl (c14, 3200, .inl z14)), (a15, .inl (c15, 3200, .inl z15)), (a16, .inl (c16, 3200, .inl z16)), (a17, .inl (c17, 3200, .inl z17)), (a18, .inl (c18, 3200, .inl z18)), (a19, .inl (c19, 3200, .inl z19)), (a20, .inl (c20, 3200, .inr (.inl z20))), (a21, .inl (c21, 3200, .inl z21)), (a22, .inl (c22, 3200, .inl z22))]) [0, 1, 2, 3, 4, 5, 6, 7, 8, 9, 10] (by decide) rfl
        have hKc := hK.sub (tys' := [(c13, .int), (c14, .int), (c15, .int), (c16, .int), (c17, .int), (c18, .int), (c19, .int), (c20, .long), (c21, .int), (c22, .int)]) [0, 1, 2, 3, 4, 5, 6, 7, 8, 9] rfl
        have hFc := va_free (wc := [(o, .inr (15, bF f)), (a13, .inl (c13, 3200, .inl z13)), (a14, .inl (c14, 3200, .inl z14)), (a15, .inl (c15, 3200, .inl z15)), (a16, .inl (c16, 3200, .inl z16)), (a17, .inl (c17, 3200, .inl z17)), (a18, .inl (c18, 3200, .inl z18)), (a19, .inl (c19, 3200, .inl z19)), (a20, .inl (c20, 3200, .inr (.inl z20))), (a21, .inl (c21, 3200, .inl z21)), (a22, .inl (c22, 3200, .inl z22))]) hD hS hA [0, 1, 2, 3, 4, 5, 6, 7, 8, 9, 10] rfl
        refine va_calli (va_runV (As := [.int 12]) (rest := []) ⟨hx, hb, hml, hown, hu⟩ (kX12_node_0 l dC dI s.heap.size o f v7 v23 a13 c13 z13 a14 c14 z14 a15 c15 z15 a16 c16 z16 a17 c17 z17 a18 c18 z18 a19 c19 z19 a20 c20 z20 a21 c21 z21 a22 c22 z22 12 (h7) (h23) (h12) (h13) (h14) (h15) (h16) (h17) (h18) (h19) (h20) (h21) (h22) ) (cwV 1 hu (uG_V (fun _ h => h) mG_2545 mG_2542 mG_2544 mG_120 mG_226) rfl rfl rfl (by decide +kernel) ⟨Nat.le_of_ble_eq_true rfl, Nat.le_of_ble_eq_true rfl⟩) ⟨fun a U g mk q => by obtain ⟨q0, q1, qP, qK, qD⟩ := q; exact ⟨q0, q1, qP, va_K.moved (u := U) (U := U.calling g mk a) (Vm.Alike.refl U.vm) qK, qD⟩, va_recv hKc hPc (ci := 15) (q0 := 0) rfl rfl, fun U hU hW => ⟨rfl, by rw [hU], by rw [hU]; exact hPc, va_K.moved hW.alike hKc, hDc.weaken (fun _ _ _ _ => trivial)⟩⟩ rfl rfl hl.1 rfl (lv_room (Nat.le_of_ble_eq_true rfl)) dX12_readFunction_86 ⟨Nat.le_of_ble_eq_true rfl, Nat.le_of_ble_eq_true rfl⟩) hS (fun q _ h => hFc q h) hFc (fun r86 u t H1 locs ht hvm hw hB hz1 hk1 hS => ?_)
        obtain ⟨hP1, hK1, hD1⟩ := hB
        rw [ht] at hP1
        obtain ⟨hP, hD⟩ := va_join (wr := []) (w1 := [(o, .inr (15, bF (va_up f 12 (.int 1)))), (a13, .inl (c13, 3200, .inl (upd z13 (0 : Int32).toNatClampNeg 12))), (a14, .inl (c14, 3200, .inl (upd z14 (0 : Int32).toNatClampNeg (-1)))), (a15, .inl (c15, 3200, .inl (upd z15 (0 : Int32).toNatClampNeg (-1)))), (a16, .inl (c16, 3200, .inl (upd z16 (0 : Int32).toNatClampNeg (-1)))), (a17, .inl (c17, 3200, .inl (upd z17 (0 : Int32).toNatClampNeg v7))), (a18, .inl (c18, 3200, .inl (upd z18 (0 : Int32).toNatClampNeg 0))), (a19, .inl (c19, 3200, .inl (upd z19 (0 : Int32).toNatClampNeg 0))), (a20, .inl (c20, 3200, .inr (.inl (vp_updL z20 (0 : Int32).toNatClampNeg 0)))), (a21, .inl (c21, 3200, .inl (upd z21 (0 : Int32).toNatClampNeg v23))), (a22, .inl (c22, 3200, .inl (upd z22 (0 : Int32).toNatClampNeg 0)))]) hP hD [0, 1, 2, 3, 4, 5, 6, 7, 8, 9, 10] [] rfl rfl (by decide) (by decide) hk1 hFc hP1 hD1
        generalize H1 = H at hP hS ⊢
        have hP : va_P (dC, dI) vwCl [(o, .inr (15, bF (va_up f 12 (.int 1)))), (a13, .inl (c13, 3200, .inl (upd z13 (0 : Int32).toNatClampNeg 12))), (a14, .inl (c14, 3200, .inl (upd z14 (0 : Int32).toNatClampNeg (-1)))), (a15, .inl (c15, 3200, .inl (upd z15 (0 : Int32).toNatClampNeg (-1)))), (a16, .inl (c16, 3200, .inl (upd z16 (0 : Int32).toNatClampNeg (-1)))), (a17, .inl (c17, 3200, .inl (upd z17 (0 : Int32).toNatClampNeg v7))), (a18, .inl (c18, 3200, .inl (upd z18 (0 : Int32).toNatClampNeg 0))), (a19, .inl (c19, 3200, .inl (upd z19 (0 : Int32).toNatClampNeg 0))), (a20, .inl (c20, 3200, .inr (.inl (vp_updL z20 (0 : Int32).toNatClampNeg 0)))), (a21, .inl (c21, 3200, .inl (upd z21 (0 : Int32).toNatClampNeg v23))), (a22, .inl (c22, 3200, .inl (upd z22 (0 : Int32).toNatClampNeg 0)))] H := hP
        have hD : va_D A [(o, .inr (15, bF (va_up f 12 (.int 1)))), (a13, .inl (c13, 3200, .inl (upd z13 (0 : Int32).toNatClampNeg 12))), (a14, .inl (c14, 3200, .inl (upd z14 (0 : Int32).toNatClampNeg (-1)))), (a15, .inl (c15, 3200, .inl (upd z15 (0 : Int32).toNatClampNeg (-1)))), (a16, .inl (c16, 3200, .inl (upd z16 (0 : Int32).toNatClampNeg (-1)))), (a17, .inl (c17, 3200, .inl (upd z17 (0 : Int32).toNatClampNeg v7))), (a18, .inl (c18, 3200, .inl (upd z18 (0 : Int32).toNatClampNeg 0))), (a19, .inl (c19, 3200, .inl (upd z19 (0 : Int32).toNatClampNeg 0))), (a20, .inl (c20, 3200, .inr (.inl (vp_updL z20 (0 : Int32).toNatClampNeg 0)))), (a21, .inl (c21, 3200, .inl (upd z21 (0 : Int32).toNatClampNeg v23))), (a22, .inl (c22, 3200, .inl (upd z22 (0 : Int32).toNatClampNeg 0)))] := hD
        have er86 : r86 = 0 := hw
        subst er86
        refine lv_goto (tgt := 93) hx hb dX12_readFunction_89 (by decide) ?_
        refine lv_istore_n (lv' := [(1, .int 0), (0, .ref o)]) hx hb dX12_readFunction_93 rfl hl (by decide) rfl (fun ls hl => ?_)
        refine lv_aload_n hx hb dX12_readFunction_94 rfl (lv_at hl 1 rfl) ?_
        refine va_get (D := (dC, dI)) (ci := 15) (v := .int 0) (C := RX12) (T := TX12) (N := 136) hx hb hu iuX12 hown hK hP 0 rfl rfl 27 (by decide) (hu _ mG_2077) (fun _ h9 => h9) ((bF_get (by decide)).trans (congrArg some (h27))) dX12_readFunction_95 ?_
        refine lv_istore_n (lv' := [(2, .int 0), (1, .int 0), (0, .ref o)]) hx hb dX12_readFunction_98 rfl hl (by decide) rfl (fun ls hl => ?_)
        refine lv_aload_n hx hb dX12_readFunction_99 rfl (lv_at hl 2 rfl) ?_
        refine va_get (D := (dC, dI)) (ci := 15) (v := .ref a20) (C := RX12) (T := TX12) (N := 136) hx hb hu iuX12 hown hK hP 0 rfl rfl 20 (by decide) (hu _ mG_2070) (fun _ h9 => h9) ((bF_get (by decide)).trans (congrArg some (h20))) dX12_readFunction_100 ?_
        refine lv_iload_n hx hb dX12_readFunction_103 rfl (lv_at hl 1 rfl) ?_
        refine lv_aload_n hx hb dX12_readFunction_104 rfl (lv_at hl 2 rfl) ?_
        refine va_get (D := (dC, dI)) (ci := 15) (v := .long v8) (C := RX12) (T := TX12) (N := 136) hx hb hu iuX12 hown hK hP 0 rfl rfl 8 (by decide) (hu _ mG_2058) (fun _ h9 => h9) ((bF_get (by decide)).trans (congrArg some (h8))) dX12_readFunction_105 ?_
        refine va_last hx hb hK hP hD hS 8 7 rfl rfl (vp_in_iff.mpr (by decide)) dX12_readFunction_108 (fun H locs hP hD hS => ?_)
        have hP : va_P (dC, dI) vwCl [(o, .inr (15, bF (va_up f 12 (.int 1)))), (a13, .inl (c13, 3200, .inl (upd z13 (0 : Int32).toNatClampNeg 12))), (a14, .inl (c14, 3200, .inl (upd z14 (0 : Int32).toNatClampNeg (-1)))), (a15, .inl (c15, 3200, .inl (upd z15 (0 : Int32).toNatClampNeg (-1)))), (a16, .inl (c16, 3200, .inl (upd z16 (0 : Int32).toNatClampNeg (-1)))), (a17, .inl (c17, 3200, .inl (upd z17 (0 : Int32).toNatClampNeg v7))), (a18, .inl (c18, 3200, .inl (upd z18 (0 : Int32).toNatClampNeg 0))), (a19, .inl (c19, 3200, .inl (upd z19 (0 : Int32).toNatClampNeg 0))), (a20, .inl (c20, 3200, .inr (.inl (vp_updL (vp_updL z20 (0 : Int32).toNatClampNeg 0) (0 : Int32).toNatClampNeg v8)))), (a21, .inl (c21, 3200, .inl (upd z21 (0 : Int32).toNatClampNeg v23))), (a22, .inl (c22, 3200, .inl (upd z22 (0 : Int32).toNatClampNeg 0)))] H := hP
        have hD : va_D A [(o, .inr (15, bF (va_up f 12 (.int 1)))), (a13, .inl (c13, 3200, .inl (upd z13 (0 : Int32).toNatClampNeg 12))), (a14, .inl (c14, 3200, .inl (upd z14 (0 : Int32).toNatClampNeg (-1)))), (a15, .inl (c15, 3200, .inl (upd z15 (0 : Int32).toNatClampNeg (-1)))), (a16, .inl (c16, 3200, .inl (upd z16 (0 : Int32).toNatClampNeg (-1)))), (a17, .inl (c17, 3200, .inl (upd z17 (0 : Int32).toNatClampNeg v7))), (a18, .inl (c18, 3200, .inl (upd z18 (0 : Int32).toNatClampNeg 0))), (a19, .inl (c19, 3200, .inl (upd z19 (0 : Int32).toNatClampNeg 0))), (a20, .inl (c20, 3200, .inr (.inl (vp_updL (vp_updL z20 (0 : Int32).toNatClampNeg 0) (0 : Int32).toNatClampNeg v8)))), (a21, .inl (c21, 3200, .inl (upd z21 (0 : Int32).toNatClampNeg v23))), (a22, .inl (c22, 3200, .inl (upd z22 (0 : Int32).toNatClampNeg 0)))] := hD
        refine lv_aload_n hx hb dX12_readFunction_109 rfl (lv_at hl 2 rfl) ?_
        refine lv_aload_n hx hb dX12_readFunction_110 rfl (lv_at hl 2 rfl) ?_
        refine va_get (D := (dC, dI)) (ci := 15) (v := .int 0) (C := RX12) (T := TX12) (N := 136) hx hb hu iuX12 hown hK hP 0 rfl rfl 6 (by decide) (hu _ mG_2056) (fun _ h9 => h9) ((bF_get (by decide)).trans (congrArg some (h6))) dX12_readFunction_111 ?_
        refine lv_iconst (v := 3) hx hb dX12_readFunction_114 (by decide) ?_
        refine lv_icmp_ne (tgt := 122) hx hb dX12_readFunction_115 (by decide) (fun c115 => ?_) (fun c115 => ?_)
        · refine lv_iconst (v := 0) hx hb dX12_readFunction_122 (by decide) ?_
          have hPc := hP.sub (ws' := [(o, .inr (15, bF (va_up f 12 (.int 1))))]) [0] rfl
          have hDc := hD.sub (ws' := [(o, .inr (15, bF (va_up f 12 (.int 1))))]) [0] (by decide) rfl
          have hKc := hK.sub (tys' := []) [] rfl
          have hFc := va_free (wc := [(o, .inr (15, bF (va_up f 12 (.int 1))))]) hD hS hA [0] rfl
          refine va_callv (va_runV (As := [.int 0]) (rest := []) ⟨hx, hb, hml, hown, hu⟩ (kX12_accept_0 l dC dI H.size o (va_up f 12 (.int 1)) v7  0 (h7) (h10) rfl) (cwV 1 hu (uG_V (fun _ h => h) mG_2529 mG_2526 mG_2528 mG_116 mG_226) rfl rfl rfl (by decide +kernel) ⟨Nat.le_of_ble_eq_true rfl, Nat.le_of_ble_eq_true rfl⟩) ⟨fun a U g mk q => by obtain ⟨q0, q1, qP, qK, qD⟩ := q; exact ⟨q0, q1, qP, va_K.moved (u := U) (U := U.calling g mk a) (Vm.Alike.refl U.vm) qK, qD⟩, va_recv hKc hPc (ci := 15) (q0 := 0) rfl rfl, fun U hU hW => ⟨rfl, by rw [hU], by rw [hU]; exact hPc, va_K.moved hW.alike hKc, hDc.weaken (fun _ _ _ _ => trivial)⟩⟩ rfl rfl hl.1 rfl (lv_room (Nat.le_of_ble_eq_true rfl)) dX12_readFunction_123 ⟨Nat.le_of_ble_eq_true rfl, Nat.le_of_ble_eq_true rfl⟩) hS (fun q _ h => hFc q h) hFc (fun u t H1 locs ht hvm hw hB hz1 hk1 hS => ?_)
          obtain ⟨hP1, hK1, hD1⟩ := hB
          rw [ht] at hP1
          obtain ⟨hP, hD⟩ := va_join (wr := [(a13, .inl (c13, 3200, .inl (upd z13 (0 : Int32).toNatClampNeg 12))), (a14, .inl (c14, 3200, .inl (upd z14 (0 : Int32).toNatClampNeg (-1)))), (a15, .inl (c15, 3200, .inl (upd z15 (0 : Int32).toNatClampNeg (-1)))), (a16, .inl (c16, 3200, .inl (upd z16 (0 : Int32).toNatClampNeg (-1)))), (a17, .inl (c17, 3200, .inl (upd z17 (0 : Int32).toNatClampNeg v7))), (a18, .inl (c18, 3200, .inl (upd z18 (0 : Int32).toNatClampNeg 0))), (a19, .inl (c19, 3200, .inl (upd z19 (0 : Int32).toNatClampNeg 0))), (a20, .inl (c20, 3200, .inr (.inl (vp_updL (vp_updL z20 (0 : Int32).toNatClampNeg 0) (0 : Int32).toNatClampNeg v8)))), (a21, .inl (c21, 3200, .inl (upd z21 (0 : Int32).toNatClampNeg v23))), (a22, .inl (c22, 3200, .inl (upd z22 (0 : Int32).toNatClampNeg 0)))]) (w1 := [(o, .inr (15, bF (va_up (va_up (va_up f 12 (.int 1)) 10 (.int 1)) 11 (.int v7))))]) hP hD [0] [1, 2, 3, 4, 5, 6, 7, 8, 9, 10] rfl rfl (by decide) (by decide) hk1 hFc hP1 hD1
          generalize H1 = H at hP hS ⊢
          have hP : va_P (dC, dI) vwCl [(a13, .inl (c13, 3200, .inl (upd z13 (0 : Int32).toNatClampNeg 12))), (a14, .inl (c14, 3200, .inl (upd z14 (0 : Int32).toNatClampNeg (-1)))), (a15, .inl (c15, 3200, .inl (upd z15 (0 : Int32).toNatClampNeg (-1)))), (a16, .inl (c16, 3200, .inl (upd z16 (0 : Int32).toNatClampNeg (-1)))), (a17, .inl (c17, 3200, .inl (upd z17 (0 : Int32).toNatClampNeg v7))), (a18, .inl (c18, 3200, .inl (upd z18 (0 : Int32).toNatClampNeg 0))), (a19, .inl (c19, 3200, .inl (upd z19 (0 : Int32).toNatClampNeg 0))), (a20, .inl (c20, 3200, .inr (.inl (vp_updL (vp_updL z20 (0 : Int32).toNatClampNeg 0) (0 : Int32).toNatClampNeg v8)))), (a21, .inl (c21, 3200, .inl (upd z21 (0 : Int32).toNatClampNeg v23))), (a22, .inl (c22, 3200, .inl (upd z22 (0 : Int32).toNatClampNeg 0))), (o, .inr (15, bF (va_up (va_up (va_up f 12 (.int 1)) 10 (.int 1)) 11 (.int v7))))] H := hP
          have hD : va_D A [(a13, .inl (c13, 3200, .inl (upd z13 (0 : Int32).toNatClampNeg 12))), (a14, .inl (c14, 3200, .inl (upd z14 (0 : Int32).toNatClampNeg (-1)))), (a15, .inl (c15, 3200, .inl (upd z15 (0 : Int32).toNatClampNeg (-1)))), (a16, .inl (c16, 3200, .inl (upd z16 (0 : Int32).toNatClampNeg (-1)))), (a17, .inl (c17, 3200, .inl (upd z17 (0 : Int32).toNatClampNeg v7))), (a18, .inl (c18, 3200, .inl (upd z18 (0 : Int32).toNatClampNeg 0))), (a19, .inl (c19, 3200, .inl (upd z19 (0 : Int32).toNatClampNeg 0))), (a20, .inl (c20, 3200, .inr (.inl (vp_updL (vp_updL z20 (0 : Int32).toNatClampNeg 0) (0 : Int32).toNatClampNeg v8)))), (a21, .inl (c21, 3200, .inl (upd z21 (0 : Int32).toNatClampNeg v23))), (a22, .inl (c22, 3200, .inl (upd z22 (0 : Int32).toNatClampNeg 0))), (o, .inr (15, bF (va_up (va_up (va_up f 12 (.int 1)) 10 (.int 1)) 11 (.int v7))))] := hD
          refine lv_aload_n hx hb dX12_readFunction_126 rfl (lv_at hl 2 rfl) ?_
          refine va_get (D := (dC, dI)) (ci := 15) (v := .int 1) (C := RX12) (T := TX12) (N := 136) hx hb hu iuX12 hown hK hP 10 rfl rfl 10 (by decide) (hu _ mG_2060) (fun _ h9 => h9) ((bF_get (by decide)).trans (congrArg some (rfl))) dX12_readFunction_127 ?_
          refine lv_if_ne (tgt := 180) hx hb dX12_readFunction_130 (by decide) (fun c130 => ?_) (fun c130 => ?_)
          · refine lv_aload_n hx hb dX12_readFunction_180 rfl (lv_at hl 2 rfl) ?_
            refine lv_aload_n hx hb dX12_readFunction_181 rfl (lv_at hl 2 rfl) ?_
            refine lv_bipush (v := 61) hx hb dX12_readFunction_182 (by decide) ?_
            have hPc := hP.sub (ws' := [(o, .inr (15, bF (va_up (va_up (va_up f 12 (.int 1)) 10 (.int 1)) 11 (.int v7))))]) [10] rfl
            have hDc := hD.sub (ws' := [(o, .inr (15, bF (va_up (va_up (va_up f 12 (.int 1)) 10 (.int 1)) 11 (.int v7))))]) [10] (by decide) rfl
            have hKc := hK.sub (tys' := []) [] rfl
            have hFc := va_free (wc := [(o, .inr (15, bF (va_up (va_up (va_up f 12 (.int 1)) 10 (.int 1)) 11 (.int v7))))]) hD hS hA [10] rfl
            refine va_calli (va_runV (As := [.int 61]) (rest := [.ref o]) ⟨hx, hb, hml, hown, hu⟩ (kX12_isSign_61 l dC dI H.size o (va_up (va_up (va_up f 12 (.int 1)) 10 (.int 1)) 11 (.int v7))   61 (h6) rfl) (cwV 1 hu (uG_V (fun _ h => h) mG_2537 mG_2534 mG_2536 mG_118 mG_226) rfl rfl rfl (by decide +kernel) ⟨Nat.le_of_ble_eq_true rfl, Nat.le_of_ble_eq_true rfl⟩) ⟨fun a U g mk q => by obtain ⟨q0, q1, qP, qK, qD⟩ := q; exact ⟨q0, q1, qP, va_K.moved (u := U) (U := U.calling g mk a) (Vm.Alike.refl U.vm) qK, qD⟩, va_recv hKc hPc (ci := 15) (q0 := 0) rfl rfl, fun U hU hW => ⟨rfl, by rw [hU], by rw [hU]; exact hPc, va_K.moved hW.alike hKc, hDc.weaken (fun _ _ _ _ => trivial)⟩⟩ rfl rfl hl.1 rfl (lv_room (Nat.le_of_ble_eq_true rfl)) dX12_readFunction_184 ⟨Nat.le_of_ble_eq_true rfl, Nat.le_of_ble_eq_true rfl⟩) hS (fun q _ h => hFc q h) hFc (fun r184 u t H1 locs ht hvm hw hB hz1 hk1 hS => ?_)
            obtain ⟨hP1, hK1, hD1⟩ := hB
            rw [ht] at hP1
            obtain ⟨hP, hD⟩ := va_join (wr := [(a13, .inl (c13, 3200, .inl (upd z13 (0 : Int32).toNatClampNeg 12))), (a14, .inl (c14, 3200, .inl (upd z14 (0 : Int32).toNatClampNeg (-1)))), (a15, .inl (c15, 3200, .inl (upd z15 (0 : Int32).toNatClampNeg (-1)))), (a16, .inl (c16, 3200, .inl (upd z16 (0 : Int32).toNatClampNeg (-1)))), (a17, .inl (c17, 3200, .inl (upd z17 (0 : Int32).toNatClampNeg v7))), (a18, .inl (c18, 3200, .inl (upd z18 (0 : Int32).toNatClampNeg 0))), (a19, .inl (c19, 3200, .inl (upd z19 (0 : Int32).toNatClampNeg 0))), (a20, .inl (c20, 3200, .inr (.inl (vp_updL (vp_updL z20 (0 : Int32).toNatClampNeg 0) (0 : Int32).toNatClampNeg v8)))), (a21, .inl (c21, 3200, .inl (upd z21 (0 : Int32).toNatClampNeg v23))), (a22, .inl (c22, 3200, .inl (upd z22 (0 : Int32).toNatClampNeg 0)))]) (w1 := [(o, .inr (15, bF (va_up (va_up (va_up f 12 (.int 1)) 10 (.int 1)) 11 (.int v7))))]) hP hD [10] [0, 1, 2, 3, 4, 5, 6, 7, 8, 9] rfl rfl (by decide) (by decide) hk1 hFc hP1 hD1
            generalize H1 = H at hP hS ⊢
            have hP : va_P (dC, dI) vwCl [(a13, .inl (c13, 3200, .inl (upd z13 (0 : Int32).toNatClampNeg 12))), (a14, .inl (c14, 3200, .inl (upd z14 (0 : Int32).toNatClampNeg (-1)))), (a15, .inl (c15, 3200, .inl (upd z15 (0 : Int32).toNatClampNeg (-1)))), (a16, .inl (c16, 3200, .inl (upd z16 (0 : Int32).toNatClampNeg (-1)))), (a17, .inl (c17, 3200, .inl (upd z17 (0 : Int32).toNatClampNeg v7))), (a18, .inl (c18, 3200, .inl (upd z18 (0 : Int32).toNatClampNeg 0))), (a19, .inl (c19, 3200, .inl (upd z19 (0 : Int32).toNatClampNeg 0))), (a20, .inl (c20, 3200, .inr (.inl (vp_updL (vp_updL z20 (0 : Int32).toNatClampNeg 0) (0 : Int32).toNatClampNeg v8)))), (a21, .inl (c21, 3200, .inl (upd z21 (0 : Int32).toNatClampNeg v23))), (a22, .inl (c22, 3200, .inl (upd z22 (0 : Int32).toNatClampNeg 0))), (o, .inr (15, bF (va_up (va_up (va_up f 12 (.int 1)) 10 (.int 1)) 11 (.int v7))))] H := hP
            have hD : va_D A [(a13, .inl (c13, 3200, .inl (upd z13 (0 : Int32).toNatClampNeg 12))), (a14, .inl (c14, 3200, .inl (upd z14 (0 : Int32).toNatClampNeg (-1)))), (a15, .inl (c15, 3200, .inl (upd z15 (0 : Int32).toNatClampNeg (-1)))), (a16, .inl (c16, 3200, .inl (upd z16 (0 : Int32).toNatClampNeg (-1)))), (a17, .inl (c17, 3200, .inl (upd z17 (0 : Int32).toNatClampNeg v7))), (a18, .inl (c18, 3200, .inl (upd z18 (0 : Int32).toNatClampNeg 0))), (a19, .inl (c19, 3200, .inl (upd z19 (0 : Int32).toNatClampNeg 0))), (a20, .inl (c20, 3200, .inr (.inl (vp_updL (vp_updL z20 (0 : Int32).toNatClampNeg 0) (0 : Int32).toNatClampNeg v8)))), (a21, .inl (c21, 3200, .inl (upd z21 (0 : Int32).toNatClampNeg v23))), (a22, .inl (c22, 3200, .inl (upd z22 (0 : Int32).toNatClampNeg 0))), (o, .inr (15, bF (va_up (va_up (va_up f 12 (.int 1)) 10 (.int 1)) 11 (.int v7))))] := hD
            have er184 : r184 = 0 := hw
            subst er184
            have hPc := hP.sub (ws' := [(o, .inr (15, bF (va_up (va_up (va_up f 12 (.int 1)) 10 (.int 1)) 11 (.int v7))))]) [10] rfl
            have hDc := hD.sub (ws' := [(o, .inr (15, bF (va_up (va_up (va_up f 12 (.int 1)) 10 (.int 1)) 11 (.int v7))))]) [10] (by decide) rfl
            have hKc := hK.sub (tys' := []) [] rfl
            have hFc := va_free (wc := [(o, .inr (15, bF (va_up (va_up (va_up f 12 (.int 1)) 10 (.int 1)) 11 (.int v7))))]) hD hS hA [10] rfl
            refine va_callv (va_runV (As := [.int 0]) (rest := []) ⟨hx, hb, hml, hown, hu⟩ (kX12_accept_1 l dC dI H.size o (va_up (va_up (va_up f 12 (.int 1)) 10 (.int 1)) 11 (.int v7)) v7  0 (h7) (rfl) rfl) (cwV 1 hu (uG_V (fun _ h => h) mG_2529 mG_2526 mG_2528 mG_116 mG_226) rfl rfl rfl (by decide +kernel) ⟨Nat.le_of_ble_eq_true rfl, Nat.le_of_ble_eq_true rfl⟩) ⟨fun a U g mk q => by obtain ⟨q0, q1, qP, qK, qD⟩ := q; exact ⟨q0, q1, qP, va_K.moved (u := U) (U := U.calling g mk a) (Vm.Alike.refl U.vm) qK, qD⟩, va_recv hKc hPc (ci := 15) (q0 := 0) rfl rfl, fun U hU hW => ⟨rfl, by rw [hU], by rw [hU]; exact hPc, va_K.moved hW.alike hKc, hDc.weaken (fun _ _ _ _ => trivial)⟩⟩ rfl rfl hl.1 rfl (lv_room (Nat.le_of_ble_eq_true rfl)) dX12_readFunction_187 ⟨Nat.le_of_ble_eq_true rfl, Nat.le_of_ble_eq_true rfl⟩) hS (fun q _ h => hFc q h) hFc (fun u t H1 locs ht hvm hw hB hz1 hk1 hS => ?_)
            obtain ⟨hP1, hK1, hD1⟩ := hB
            rw [ht] at hP1
            obtain ⟨hP, hD⟩ := va_join (wr := [(a13, .inl (c13, 3200, .inl (upd z13 (0 : Int32).toNatClampNeg 12))), (a14, .inl (c14, 3200, .inl (upd z14 (0 : Int32).toNatClampNeg (-1)))), (a15, .inl (c15, 3200, .inl (upd z15 (0 : Int32).toNatClampNeg (-1)))), (a16, .inl (c16, 3200, .inl (upd z16 (0 : Int32).toNatClampNeg (-1)))), (a17, .inl (c17, 3200, .inl (upd z17 (0 : Int32).toNatClampNeg v7))), (a18, .inl (c18, 3200, .inl (upd z18 (0 : Int32).toNatClampNeg 0))), (a19, .inl (c19, 3200, .inl (upd z19 (0 : Int32).toNatClampNeg 0))), (a20, .inl (c20, 3200, .inr (.inl (vp_updL (vp_updL z20 (0 : Int32).toNatClampNeg 0) (0 : Int32).toNatClampNeg v8)))), (a21, .inl (c21, 3200, .inl (upd z21 (0 : Int32).toNatClampNeg v23))), (a22, .inl (c22, 3200, .inl (upd z22 (0 : Int32).toNatClampNeg 0)))]) (w1 := [(o, .inr (15, bF (va_up (va_up (va_up f 12 (.int 1)) 10 (.int 1)) 11 (.int v7))))]) hP hD [10] [0, 1, 2, 3, 4, 5, 6, 7, 8, 9] rfl rfl (by decide) (by decide) hk1 hFc hP1 hD1
            generalize H1 = H at hP hS ⊢
            have hP : va_P (dC, dI) vwCl [(a13, .inl (c13, 3200, .inl (upd z13 (0 : Int32).toNatClampNeg 12))), (a14, .inl (c14, 3200, .inl (upd z14 (0 : Int32).toNatClampNeg (-1)))), (a15, .inl (c15, 3200, .inl (upd z15 (0 : Int32).toNatClampNeg (-1)))), (a16, .inl (c16, 3200, .inl (upd z16 (0 : Int32).toNatClampNeg (-1)))), (a17, .inl (c17, 3200, .inl (upd z17 (0 : Int32).toNatClampNeg v7))), (a18, .inl (c18, 3200, .inl (upd z18 (0 : Int32).toNatClampNeg 0))), (a19, .inl (c19, 3200, .inl (upd z19 (0 : Int32).toNatClampNeg 0))), (a20, .inl (c20, 3200, .inr (.inl (vp_updL (vp_updL z20 (0 : Int32).toNatClampNeg 0) (0 : Int32).toNatClampNeg v8)))), (a21, .inl (c21, 3200, .inl (upd z21 (0 : Int32).toNatClampNeg v23))), (a22, .inl (c22, 3200, .inl (upd z22 (0 : Int32).toNatClampNeg 0))), (o, .inr (15, bF (va_up (va_up (va_up f 12 (.int 1)) 10 (.int 1)) 11 (.int v7))))] H := hP
            have hD : va_D A [(a13, .inl (c13, 3200, .inl (upd z13 (0 : Int32).toNatClampNeg 12))), (a14, .inl (c14, 3200, .inl (upd z14 (0 : Int32).toNatClampNeg (-1)))), (a15, .inl (c15, 3200, .inl (upd z15 (0 : Int32).toNatClampNeg (-1)))), (a16, .inl (c16, 3200, .inl (upd z16 (0 : Int32).toNatClampNeg (-1)))), (a17, .inl (c17, 3200, .inl (upd z17 (0 : Int32).toNatClampNeg v7))), (a18, .inl (c18, 3200, .inl (upd z18 (0 : Int32).toNatClampNeg 0))), (a19, .inl (c19, 3200, .inl (upd z19 (0 : Int32).toNatClampNeg 0))), (a20, .inl (c20, 3200, .inr (.inl (vp_updL (vp_updL z20 (0 : Int32).toNatClampNeg 0) (0 : Int32).toNatClampNeg v8)))), (a21, .inl (c21, 3200, .inl (upd z21 (0 : Int32).toNatClampNeg v23))), (a22, .inl (c22, 3200, .inl (upd z22 (0 : Int32).toNatClampNeg 0))), (o, .inr (15, bF (va_up (va_up (va_up f 12 (.int 1)) 10 (.int 1)) 11 (.int v7))))] := hD
            refine lv_aload_n hx hb dX12_readFunction_190 rfl (lv_at hl 2 rfl) ?_
            refine va_get (D := (dC, dI)) (ci := 15) (v := .int 1) (C := RX12) (T := TX12) (N := 136) hx hb hu iuX12 hown hK hP 10 rfl rfl 10 (by decide) (hu _ mG_2060) (fun _ h9 => h9) ((bF_get (by decide)).trans (congrArg some (rfl))) dX12_readFunction_191 ?_
            refine lv_if_ne (tgt := 202) hx hb dX12_readFunction_194 (by decide) (fun c194 => ?_) (fun c194 => ?_)
            · have hP9 : va_P (dC, dI) vwCl [(o, .inr (15, bF (va_up (va_up (va_up f 12 (.int 1)) 10 (.int 1)) 11 (.int v7)))), (a13, .inl (c13, 3200, .inl (upd z13 (0 : Int32).toNatClampNeg 12))), (a14, .inl (c14, 3200, .inl (upd z14 (0 : Int32).toNatClampNeg (-1)))), (a15, .inl (c15, 3200, .inl (upd z15 (0 : Int32).toNatClampNeg (-1)))), (a16, .inl (c16, 3200, .inl (upd z16 (0 : Int32).toNatClampNeg (-1)))), (a17, .inl (c17, 3200, .inl (upd z17 (0 : Int32).toNatClampNeg v7))), (a18, .inl (c18, 3200, .inl (upd z18 (0 : Int32).toNatClampNeg 0))), (a19, .inl (c19, 3200, .inl (upd z19 (0 : Int32).toNatClampNeg 0))), (a20, .inl (c20, 3200, .inr (.inl (vp_updL (vp_updL z20 (0 : Int32).toNatClampNeg 0) (0 : Int32).toNatClampNeg v8)))), (a21, .inl (c21, 3200, .inl (upd z21 (0 : Int32).toNatClampNeg v23))), (a22, .inl (c22, 3200, .inl (upd z22 (0 : Int32).toNatClampNeg 0)))] H := by exact hP.sub [10, 0, 1, 2, 3, 4, 5, 6, 7, 8, 9] rfl
              have hD9 : va_D A [(o, .inr (15, bF (va_up (va_up (va_up f 12 (.int 1)) 10 (.int 1)) 11 (.int v7)))), (a13, .inl (c13, 3200, .inl (upd z13 (0 : Int32).toNatClampNeg 12))), (a14, .inl (c14, 3200, .inl (upd z14 (0 : Int32).toNatClampNeg (-1)))), (a15, .inl (c15, 3200, .inl (upd z15 (0 : Int32).toNatClampNeg (-1)))), (a16, .inl (c16, 3200, .inl (upd z16 (0 : Int32).toNatClampNeg (-1)))), (a17, .inl (c17, 3200, .inl (upd z17 (0 : Int32).toNatClampNeg v7))), (a18, .inl (c18, 3200, .inl (upd z18 (0 : Int32).toNatClampNeg 0))), (a19, .inl (c19, 3200, .inl (upd z19 (0 : Int32).toNatClampNeg 0))), (a20, .inl (c20, 3200, .inr (.inl (vp_updL (vp_updL z20 (0 : Int32).toNatClampNeg 0) (0 : Int32).toNatClampNeg v8)))), (a21, .inl (c21, 3200, .inl (upd z21 (0 : Int32).toNatClampNeg v23))), (a22, .inl (c22, 3200, .inl (upd z22 (0 : Int32).toNatClampNeg 0)))] := by exact hD.sub [10, 0, 1, 2, 3, 4, 5, 6, 7, 8, 9] (by decide) rfl
              have hK9 := hK.sub (tys' := [(c13, .int), (c14, .int), (c15, .int), (c16, .int), (c17, .int), (c18, .int), (c19, .int), (c20, .long), (c21, .int), (c22, .int)]) [0, 1, 2, 3, 4, 5, 6, 7, 8, 9] rfl
              exact W.vret hx hb hr (fun t ht hW => ⟨⟨(), rfl, trivial, by rw [ht]; exact hP9, va_K.moved hW.alike hK9, hD9⟩, hS.F ht⟩) hS.2.2 dX12_readFunction_202
            · exact absurd c194 (by decide)
          · exact absurd c130 (by decide)
        · exact absurd c115 (by decide)
    · exact absurd c52 (by decide)
  · exact absurd (by decide) c7
set_option maxHeartbeats 4000000 in
set_option maxRecDepth 100000 in
/-- X12_passBlanks_0 -/
theorem kX12_passBlanks_0 (l : Launch) (dC : Nat → ClassId) (dI : Nat → Nat → Nat) (sz : Nat) (o : Nat) (f : Nat → Value)    (h2 : f 2 = .int 0) (h5 : f 5 = .int 0)  : Met l yX12_passBlanks (Cond.code yX12_passBlanks cX12_passBlanks 2 none :: uG) ({ frames := 0, cells := 0, slots := 0, locals := 0 }) (va_Pc [.ref o] (fun U => U.heap.size = sz ∧ va_P (dC, dI) vwCl [(o, .inr (15, bF f))] U.heap ∧ va_K (dC, dI) vwCl [] U ∧ va_D (fun _ => True) [(o, .inr (15, bF f))])) (va_Qv (S := Unit) (fun _ => True) (fun _ t => va_P (dC, dI) vwCl [(o, .inr (15, bF f))] t.heap ∧ va_K (dC, dI) vwCl [] t ∧ va_D (va_A [(o, .inr (15, bF f))] sz) [(o, .inr (15, bF f))]) (va_A [(o, .inr (15, bF f))] sz)) 0 0 (va_A [(o, .inr (15, bF f))] sz) := by
  refine Met.ofW (cc := cX12_passBlanks) (maxL := 2) (ret := none) (by decide) rfl ?_
  intro pG eV s m args below meth c s₁ B hml hv
  obtain ⟨rfl, hsz, hP, hK, hD0⟩ := hv
  have hx := B.exec
  have hb := B.bytes
  have hr := B.returns
  have hts := atoms_spec (ws := Cond.code yX12_passBlanks cX12_passBlanks 2 none :: uG) B.pre
  have hu := fun (w : Cond) (h : w ∈ uG) => hts w (List.mem_cons_of_mem _ h)
  have hown : s.vm.findClass RX12 = some m.cls := findClass_of_methodNamed B.named
  have hlocks := B.notSynchronized
  subst hsz
  have hD := hD0.self (sz := s.heap.size)
  generalize hAe : va_A [(o, .inr (15, bF f))] s.heap.size = A at hD ⊢
  have hA : ∀ q : Nat, s.heap.size ≤ q → A q := fun q h => by rw [← hAe]; exact Or.inr h
  have hS : va_S A s.heap s.heap [] := va_S.rf
  have hP : va_P (dC, dI) vwCl [(o, .inr (15, bF f))] s.heap := hP
  have hD : va_D A [(o, .inr (15, bF f))] := hD
  have hl := lv_entry ([.ref o]) (n := 2) (Nat.le_of_ble_eq_true rfl)
  rw [lg_entry_eq]
  generalize (lg_sl ([.ref o]) ++ List.replicate (2 - (lg_sl ([.ref o])).length) Slot.unset).toArray = ls at hl ⊢
  have hl : lv_has ls 2 [(0, .ref o)] := hl
  refine lv_iconst (v := 1) hx hb dX12_passBlanks_0 (by decide) ?_
  refine lv_istore_n (lv' := [(1, .int 1), (0, .ref o)]) hx hb dX12_passBlanks_1 rfl hl (by decide) rfl (fun ls hl => ?_)
  refine lv_iload_n hx hb dX12_passBlanks_2 rfl (lv_at hl 0 rfl) ?_
  refine lv_if_eq (tgt := 111) hx hb dX12_passBlanks_3 (by decide) (fun c3 => ?_) (fun c3 => ?_)
  · exact absurd c3 (by decide)
  · refine lv_aload_n hx hb dX12_passBlanks_6 rfl (lv_at hl 1 rfl) ?_
    refine va_get (D := (dC, dI)) (ci := 15) (v := .int 0) (C := RX12) (T := TX12) (N := 136) hx hb hu iuX12 hown hK hP 0 rfl rfl 5 (by decide) (hu _ mG_2055) (fun _ h9 => h9) ((bF_get (by decide)).trans (congrArg some (h5))) dX12_passBlanks_7 ?_
    refine lv_aload_n hx hb dX12_passBlanks_10 rfl (lv_at hl 1 rfl) ?_
    refine va_get (D := (dC, dI)) (ci := 15) (v := .int 0) (C := RX12) (T := TX12) (N := 136) hx hb hu iuX12 hown hK hP 0 rfl rfl 2 (by decide) (hu _ mG_2052) (fun _ h9 => h9) ((bF_get (by decide)).trans (congrArg some (h2))) dX12_passBlanks_11 ?_
    refine lv_icmp_ge (tgt := 111) hx hb dX12_passBlanks_14 (by decide) (fun c14 => ?_) (fun c14 => ?_)
    · have hP9 : va_P (dC, dI) vwCl [(o, .inr (15, bF f))] s.heap := by exact hP
      have hD9 : va_D A [(o, .inr (15, bF f))] := by exact hD
      have hK9 := hK.sub (tys' := []) [] rfl
      exact W.vret hx hb hr (fun t ht hW => ⟨⟨(), rfl, trivial, by rw [ht]; exact hP9, va_K.moved hW.alike hK9, hD9⟩, hS.F ht⟩) hS.2.2 dX12_passBlanks_111
    · exact absurd (by decide) c14
set_option maxHeartbeats 4000000 in
set_option maxRecDepth 100000 in
/-- X12_next_0 -/
theorem kX12_next_0 (l : Launch) (dC : Nat → ClassId) (dI : Nat → Nat → Nat) (sz : Nat) (o : Nat) (f : Nat → Value)  (a1 : Nat) (c1 : ClassId) (z1 : Nat → Int32)  (h2 : f 2 = .int 0) (h5 : f 5 = .int 0) (h1 : f 1 = .ref a1)  : Met l yX12_next (Cond.code yX12_next cX12_next 4 none :: uG) ({ frames := 1, cells := 0, slots := 0, locals := 21 }) (va_Pc [.ref o] (fun U => U.heap.size = sz ∧ va_P (dC, dI) vwCl [(o, .inr (15, bF f)), (a1, .inl (c1, 3000, .inl z1))] U.heap ∧ va_K (dC, dI) vwCl [(c1, .int)] U ∧ va_D (fun _ => True) [(o, .inr (15, bF f)), (a1, .inl (c1, 3000, .inl z1))])) (va_Qv (S := Unit) (fun _ => True) (fun _ t => va_P (dC, dI) vwCl [(o, .inr (15, bF (va_up (va_up f 7 (.int 0)) 6 (.int 0)))), (a1, .inl (c1, 3000, .inl z1))] t.heap ∧ va_K (dC, dI) vwCl [(c1, .int)] t ∧ va_D (va_A [(o, .inr (15, bF f)), (a1, .inl (c1, 3000, .inl z1))] sz) [(o, .inr (15, bF (va_up (va_up f 7 (.int 0)) 6 (.int 0)))), (a1, .inl (c1, 3000, .inl z1))]) (va_A [(o, .inr (15, bF f)), (a1, .inl (c1, 3000, .inl z1))] sz)) 0 0 (va_A [(o, .inr (15, bF f)), (a1, .inl (c1, 3000, .inl z1))] sz) := by
  refine Met.ofW (cc := cX12_next) (maxL := 4) (ret := none) (by decide) rfl ?_
  intro pG eV s m args below meth c s₁ B hml hv
  obtain ⟨rfl, hsz, hP, hK, hD0⟩ := hv
  have hx := B.exec
  have hb := B.bytes
  have hr := B.returns
  have hts := atoms_spec (ws := Cond.code yX12_next cX12_next 4 none :: uG) B.pre
  have hu := fun (w : Cond) (h : w ∈ uG) => hts w (List.mem_cons_of_mem _ h)
  have hown : s.vm.findClass RX12 = some m.cls := findClass_of_methodNamed B.named
  have hlocks := B.notSynchronized
  subst hsz
  have hD := hD0.self (sz := s.heap.size)
  generalize hAe : va_A [(o, .inr (15, bF f)), (a1, .inl (c1, 3000, .inl z1))] s.heap.size = A at hD ⊢
  have hA : ∀ q : Nat, s.heap.size ≤ q → A q := fun q h => by rw [← hAe]; exact Or.inr h
  have hS : va_S A s.heap s.heap [] := va_S.rf
  have hP : va_P (dC, dI) vwCl [(o, .inr (15, bF f)), (a1, .inl (c1, 3000, .inl z1))] s.heap := hP
  have hD : va_D A [(o, .inr (15, bF f)), (a1, .inl (c1, 3000, .inl z1))] := hD
  have hl := lv_entry ([.ref o]) (n := 4) (Nat.le_of_ble_eq_true rfl)
  rw [lg_entry_eq]
  generalize (lg_sl ([.ref o]) ++ List.replicate (4 - (lg_sl ([.ref o])).length) Slot.unset).toArray = ls at hl ⊢
  have hl : lv_has ls 4 [(0, .ref o)] := hl
  refine lv_aload_n hx hb dX12_next_0 rfl (lv_at hl 0 rfl) ?_
  have hPc := hP.sub (ws' := [(o, .inr (15, bF f))]) [0] rfl
  have hDc := hD.sub (ws' := [(o, .inr (15, bF f))]) [0] (by decide) rfl
  have hKc := hK.sub (tys' := []) [] rfl
  have hFc := va_free (wc := [(o, .inr (15, bF f))]) hD hS hA [0] rfl
  refine va_callv (va_runV (As := []) (rest := []) ⟨hx, hb, hml, hown, hu⟩ (kX12_passBlanks_0 l dC dI s.heap.size o f    (h2) (h5) ) (cwV 0 hu (uG_V (fun _ h => h) mG_2486 mG_2483 mG_2485 mG_109 mG_226) rfl rfl rfl (by decide +kernel) ⟨Nat.le_of_ble_eq_true rfl, Nat.le_of_ble_eq_true rfl⟩) ⟨fun a U g mk q => by obtain ⟨q0, q1, qP, qK, qD⟩ := q; exact ⟨q0, q1, qP, va_K.moved (u := U) (U := U.calling g mk a) (Vm.Alike.refl U.vm) qK, qD⟩, va_recv hKc hPc (ci := 15) (q0 := 0) rfl rfl, fun U hU hW => ⟨rfl, by rw [hU], by rw [hU]; exact hPc, va_K.moved hW.alike hKc, hDc.weaken (fun _ _ _ _ => trivial)⟩⟩ rfl rfl hl.1 rfl (lv_room (Nat.le_of_ble_eq_true rfl)) dX12_next_1 ⟨Nat.le_of_ble_eq_true rfl, Nat.le_of_ble_eq_true rfl⟩) hS (fun q _ h => hFc q h) hFc (fun u t H1 locs ht hvm hw hB hz1 hk1 hS => ?_)
  obtain ⟨hP1, hK1, hD1⟩ := hB
  rw [ht] at hP1
  obtain ⟨hP, hD⟩ := va_join (wr := [(a1, .inl (c1, 3000, .inl z1))]) (w1 := [(o, .inr (15, bF f))]) hP hD [0] [1] rfl rfl (by decide) (by decide) hk1 hFc hP1 hD1
  generalize H1 = H at hP hS ⊢
  have hP : va_P (dC, dI) vwCl [(a1, .inl (c1, 3000, .inl z1)), (o, .inr (15, bF f))] H := hP
  have hD : va_D A [(a1, .inl (c1, 3000, .inl z1)), (o, .inr (15, bF f))] := hD
  refine lv_aload_n hx hb dX12_next_4 rfl (lv_at hl 0 rfl) ?_
  refine lv_aload_n hx hb dX12_next_5 rfl (lv_at hl 0 rfl) ?_
  refine va_get (D := (dC, dI)) (ci := 15) (v := .int 0) (C := RX12) (T := TX12) (N := 136) hx hb hu iuX12 hown hK hP 1 rfl rfl 5 (by decide) (hu _ mG_2055) (fun _ h9 => h9) ((bF_get (by decide)).trans (congrArg some (h5))) dX12_next_6 ?_
  refine va_put (D := (dC, dI)) (ci := 15) (v := .int 0) (ty := (tyX12 7)) (C := RX12) (T := TX12) (N := 136) hx hb hu iuX12 tyX12 tyX12_ok nmX12 hown hK hP hD hS 1 rfl rfl 7 (by decide) (hu _ mG_2057) (fun _ h9 => h9) rfl (by decide +kernel) (rfl) (rfl) (by rw [bF_len]; decide) dX12_next_9 (fun H locs hP hD hS => ?_)
  rw [show (bF f).set 7 (.int 0) = bF (va_up f 7 (.int 0)) from bF_set (by decide)] at hP hD
  have hP : va_P (dC, dI) vwCl [(a1, .inl (c1, 3000, .inl z1)), (o, .inr (15, bF (va_up f 7 (.int 0))))] H := hP
  have hD : va_D A [(a1, .inl (c1, 3000, .inl z1)), (o, .inr (15, bF (va_up f 7 (.int 0))))] := hD
  refine lv_aload_n hx hb dX12_next_12 rfl (lv_at hl 0 rfl) ?_
  refine lv_aload_n hx hb dX12_next_13 rfl (lv_at hl 0 rfl) ?_
  refine va_get (D := (dC, dI)) (ci := 15) (v := .int 0) (C := RX12) (T := TX12) (N := 136) hx hb hu iuX12 hown hK hP 1 rfl rfl 5 (by decide) (hu _ mG_2055) (fun _ h9 => h9) ((bF_get (by decide)).trans (congrArg some (h5))) dX12_next_14 ?_
  have hPc := hP.sub (ws' := [(o, .inr (15, bF (va_up f 7 (.int 0)))), (a1, .inl (c1, 3000, .inl z1))]) [1, 0] rfl
  have hDc := hD.sub (ws' := [(o, .inr (15, bF (va_up f 7 (.int 0)))), (a1, .inl (c1, 3000, .inl z1))]) [1, 0] (by decide) rfl
  have hKc := hK.sub (tys' := [(c1, .int)]) [0] rfl
  have hFc := va_free (wc := [(o, .inr (15, bF (va_up f 7 (.int 0)))), (a1, .inl (c1, 3000, .inl z1))]) hD hS hA [1, 0] rfl
  refine va_calli (va_runV (As := [.int 0]) (rest := []) ⟨hx, hb, hml, hown, hu⟩ (kX12_sign_0 l dC dI H.size o (va_up f 7 (.int 0))  a1 c1 z1 0 (h2) (h1) (by decide)) (cwV 1 hu (uG_V (fun _ h => h) mG_2490 mG_2487 mG_2489 mG_110 mG_226) rfl rfl rfl (by decide +kernel) ⟨Nat.le_of_ble_eq_true rfl, Nat.le_of_ble_eq_true rfl⟩) ⟨fun a U g mk q => by obtain ⟨q0, q1, qP, qK, qD⟩ := q; exact ⟨q0, q1, qP, va_K.moved (u := U) (U := U.calling g mk a) (Vm.Alike.refl U.vm) qK, qD⟩, va_recv hKc hPc (ci := 15) (q0 := 0) rfl rfl, fun U hU hW => ⟨rfl, by rw [hU], by rw [hU]; exact hPc, va_K.moved hW.alike hKc, hDc.weaken (fun _ _ _ _ => trivial)⟩⟩ rfl rfl hl.1 rfl (lv_room (Nat.le_of_ble_eq_true rfl)) dX12_next_17 ⟨Nat.le_of_ble_eq_true rfl, Nat.le_of_ble_eq_true rfl⟩) hS (fun q _ h => hFc q h) hFc (fun r17 u t H1 locs ht hvm hw hB hz1 hk1 hS => ?_)
  obtain ⟨hP1, hK1, hD1⟩ := hB
  rw [ht] at hP1
  obtain ⟨hP, hD⟩ := va_join (wr := []) (w1 := [(o, .inr (15, bF (va_up f 7 (.int 0)))), (a1, .inl (c1, 3000, .inl z1))]) hP hD [1, 0] [] rfl rfl (by decide) (by decide) hk1 hFc hP1 hD1
  generalize H1 = H at hP hS ⊢
  have hP : va_P (dC, dI) vwCl [(o, .inr (15, bF (va_up f 7 (.int 0)))), (a1, .inl (c1, 3000, .inl z1))] H := hP
  have hD : va_D A [(o, .inr (15, bF (va_up f 7 (.int 0)))), (a1, .inl (c1, 3000, .inl z1))] := hD
  have er17 : r17 = 0 := hw
  subst er17
  refine lv_istore_n (lv' := [(1, .int 0), (0, .ref o)]) hx hb dX12_next_20 rfl hl (by decide) rfl (fun ls hl => ?_)
  refine lv_aload_n hx hb dX12_next_21 rfl (lv_at hl 1 rfl) ?_
  refine lv_aload_n hx hb dX12_next_22 rfl (lv_at hl 1 rfl) ?_
  refine va_get (D := (dC, dI)) (ci := 15) (v := .int 0) (C := RX12) (T := TX12) (N := 136) hx hb hu iuX12 hown hK hP 0 rfl rfl 5 (by decide) (hu _ mG_2055) (fun _ h9 => h9) ((bF_get (by decide)).trans (congrArg some (h5))) dX12_next_23 ?_
  refine lv_iconst (v := 1) hx hb dX12_next_26 (by decide) ?_
  refine lv_iadd hx hb dX12_next_27 ?_
  refine lv_topi (fun x27 ex27 => ?_)
  obtain rfl : x27 = 1 := by rw [ex27]; decide
  have hPc := hP.sub (ws' := [(o, .inr (15, bF (va_up f 7 (.int 0)))), (a1, .inl (c1, 3000, .inl z1))]) [0, 1] rfl
  have hDc := hD.sub (ws' := [(o, .inr (15, bF (va_up f 7 (.int 0)))), (a1, .inl (c1, 3000, .inl z1))]) [0, 1] (by decide) rfl
  have hKc := hK.sub (tys' := [(c1, .int)]) [0] rfl
  have hFc := va_free (wc := [(o, .inr (15, bF (va_up f 7 (.int 0)))), (a1, .inl (c1, 3000, .inl z1))]) hD hS hA [0, 1] rfl
  refine va_calli (va_runV (As := [.int 1]) (rest := []) ⟨hx, hb, hml, hown, hu⟩ (kX12_sign_0 l dC dI H.size o (va_up f 7 (.int 0))  a1 c1 z1 1 (h2) (h1) (by decide)) (cwV 1 hu (uG_V (fun _ h => h) mG_2490 mG_2487 mG_2489 mG_110 mG_226) rfl rfl rfl (by decide +kernel) ⟨Nat.le_of_ble_eq_true rfl, Nat.le_of_ble_eq_true rfl⟩) ⟨fun a U g mk q => by obtain ⟨q0, q1, qP, qK, qD⟩ := q; exact ⟨q0, q1, qP, va_K.moved (u := U) (U := U.calling g mk a) (Vm.Alike.refl U.vm) qK, qD⟩, va_recv hKc hPc (ci := 15) (q0 := 0) rfl rfl, fun U hU hW => ⟨rfl, by rw [hU], by rw [hU]; exact hPc, va_K.moved hW.alike hKc, hDc.weaken (fun _ _ _ _ => trivial)⟩⟩ rfl rfl hl.1 rfl (lv_room (Nat.le_of_ble_eq_true rfl)) dX12_next_28 ⟨Nat.le_of_ble_eq_true rfl, Nat.le_of_ble_eq_true rfl⟩) hS (fun q _ h => hFc q h) hFc (fun r28 u t H1 locs ht hvm hw hB hz1 hk1 hS => ?_)
  obtain ⟨hP1, hK1, hD1⟩ := hB
  rw [ht] at hP1
  obtain ⟨hP, hD⟩ := va_join (wr := []) (w1 := [(o, .inr (15, bF (va_up f 7 (.int 0)))), (a1, .inl (c1, 3000, .inl z1))]) hP hD [0, 1] [] rfl rfl (by decide) (by decide) hk1 hFc hP1 hD1
  generalize H1 = H at hP hS ⊢
  have hP : va_P (dC, dI) vwCl [(o, .inr (15, bF (va_up f 7 (.int 0)))), (a1, .inl (c1, 3000, .inl z1))] H := hP
  have hD : va_D A [(o, .inr (15, bF (va_up f 7 (.int 0)))), (a1, .inl (c1, 3000, .inl z1))] := hD
  have er28 : r28 = 0 := hw
  subst er28
  refine lv_istore_n (lv' := [(2, .int 0), (1, .int 0), (0, .ref o)]) hx hb dX12_next_31 rfl hl (by decide) rfl (fun ls hl => ?_)
  refine lv_aload_n hx hb dX12_next_32 rfl (lv_at hl 2 rfl) ?_
  refine va_get (D := (dC, dI)) (ci := 15) (v := .int 0) (C := RX12) (T := TX12) (N := 136) hx hb hu iuX12 hown hK hP 0 rfl rfl 5 (by decide) (hu _ mG_2055) (fun _ h9 => h9) ((bF_get (by decide)).trans (congrArg some (h5))) dX12_next_33 ?_
  refine lv_aload_n hx hb dX12_next_36 rfl (lv_at hl 2 rfl) ?_
  refine va_get (D := (dC, dI)) (ci := 15) (v := .int 0) (C := RX12) (T := TX12) (N := 136) hx hb hu iuX12 hown hK hP 0 rfl rfl 2 (by decide) (hu _ mG_2052) (fun _ h9 => h9) ((bF_get (by decide)).trans (congrArg some (h2))) dX12_next_37 ?_
  refine lv_icmp_lt (tgt := 51) hx hb dX12_next_40 (by decide) (fun c40 => ?_) (fun c40 => ?_)
  · exact absurd c40 (by decide)
  · refine lv_aload_n hx hb dX12_next_43 rfl (lv_at hl 2 rfl) ?_
    refine lv_iconst (v := 0) hx hb dX12_next_44 (by decide) ?_
    refine va_put (D := (dC, dI)) (ci := 15) (v := .int 0) (ty := (tyX12 6)) (C := RX12) (T := TX12) (N := 136) hx hb hu iuX12 tyX12 tyX12_ok nmX12 hown hK hP hD hS 0 rfl rfl 6 (by decide) (hu _ mG_2056) (fun _ h9 => h9) rfl (by decide +kernel) (rfl) (rfl) (by rw [bF_len]; decide) dX12_next_45 (fun H locs hP hD hS => ?_)
    rw [show (bF (va_up f 7 (.int 0))).set 6 (.int 0) = bF (va_up (va_up f 7 (.int 0)) 6 (.int 0)) from bF_set (by decide)] at hP hD
    have hP : va_P (dC, dI) vwCl [(o, .inr (15, bF (va_up (va_up f 7 (.int 0)) 6 (.int 0)))), (a1, .inl (c1, 3000, .inl z1))] H := hP
    have hD : va_D A [(o, .inr (15, bF (va_up (va_up f 7 (.int 0)) 6 (.int 0)))), (a1, .inl (c1, 3000, .inl z1))] := hD
    refine lv_goto (tgt := 311) hx hb dX12_next_48 (by decide) ?_
    have hP9 : va_P (dC, dI) vwCl [(o, .inr (15, bF (va_up (va_up f 7 (.int 0)) 6 (.int 0)))), (a1, .inl (c1, 3000, .inl z1))] H := by exact hP
    have hD9 : va_D A [(o, .inr (15, bF (va_up (va_up f 7 (.int 0)) 6 (.int 0)))), (a1, .inl (c1, 3000, .inl z1))] := by exact hD
    have hK9 := hK.sub (tys' := [(c1, .int)]) [0] rfl
    exact W.vret hx hb hr (fun t ht hW => ⟨⟨(), rfl, trivial, by rw [ht]; exact hP9, va_K.moved hW.alike hK9, hD9⟩, hS.F ht⟩) hS.2.2 dX12_next_311
