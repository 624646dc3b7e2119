
theorem mG_106 : Cond.selects "LazyForgeModel" yX12_clearRun yX12_clearRun ∈ uG := uG_at 106 (by decide +kernel) (by decide +kernel)
theorem mG_107 : Cond.selects "LazyForgeModel" yX12_readProgram yX12_readProgram ∈ uG := uG_at 107 (by decide +kernel) (by decide +kernel)
theorem mG_108 : Cond.selects "LazyForgeModel" yX12_next yX12_next ∈ uG := uG_at 108 (by decide +kernel) (by decide +kernel)
theorem mG_119 : Cond.selects "LazyForgeModel" yX12_readFunction yX12_readFunction ∈ uG := uG_at 119 (by decide +kernel) (by decide +kernel)
theorem mG_2076 : Cond.fieldLink "LazyForgeModel" 336 "LazyForgeModel" "allParts" "I" ∈ uG := uG_at 2076 (by decide +kernel) (by decide +kernel)
theorem mG_2084 : Cond.fieldLink "LazyForgeModel" 339 "LazyForgeModel" "open" "I" ∈ uG := uG_at 2084 (by decide +kernel) (by decide +kernel)
theorem mG_2085 : Cond.fieldLink "LazyForgeModel" 342 "LazyForgeModel" "piled" "I" ∈ uG := uG_at 2085 (by decide +kernel) (by decide +kernel)
theorem mG_2090 : Cond.fieldLink "LazyForgeModel" 345 "LazyForgeModel" "operands" "I" ∈ uG := uG_at 2090 (by decide +kernel) (by decide +kernel)
theorem mG_2468 : Cond.methodLink "LazyForgeModel" 573 yX12_clearRun ∈ uG := uG_at 2468 (by decide +kernel) (by decide +kernel)
theorem mG_2470 : Cond.instanceMethod yX12_clearRun ∈ uG := uG_at 2470 (by decide +kernel) (by decide +kernel)
theorem mG_2471 : Cond.code yX12_clearRun prog_14_method_109_code 2 none ∈ uG := uG_at 2471 (by decide +kernel) (by decide +kernel)
theorem mG_2472 : Cond.methodLink "LazyForgeModel" 576 yX12_readProgram ∈ uG := uG_at 2472 (by decide +kernel) (by decide +kernel)
theorem mG_2474 : Cond.instanceMethod yX12_readProgram ∈ uG := uG_at 2474 (by decide +kernel) (by decide +kernel)
theorem mG_2475 : Cond.code yX12_readProgram prog_14_method_49_code 2 none ∈ uG := uG_at 2475 (by decide +kernel) (by decide +kernel)
theorem mG_2476 : Cond.methodLink "LazyForgeModel" 257 yX12_pack ∈ uG := uG_at 2476 (by decide +kernel) (by decide +kernel)
theorem mG_2477 : Cond.static yX12_pack ∈ uG := uG_at 2477 (by decide +kernel) (by decide +kernel)
theorem mG_2478 : Cond.code yX12_pack prog_14_method_7_code 7 (some .long) ∈ uG := uG_at 2478 (by decide +kernel) (by decide +kernel)
theorem mG_2479 : Cond.methodLink "LazyForgeModel" 321 yX12_next ∈ uG := uG_at 2479 (by decide +kernel) (by decide +kernel)
theorem mG_2481 : Cond.instanceMethod yX12_next ∈ uG := uG_at 2481 (by decide +kernel) (by decide +kernel)
theorem mG_2482 : Cond.code yX12_next prog_14_method_12_code 4 none ∈ uG := uG_at 2482 (by decide +kernel) (by decide +kernel)
theorem mG_2538 : Cond.methodLink "LazyForgeModel" 471 yX12_readFunction ∈ uG := uG_at 2538 (by decide +kernel) (by decide +kernel)
theorem mG_2540 : Cond.instanceMethod yX12_readFunction ∈ uG := uG_at 2540 (by decide +kernel) (by decide +kernel)
theorem mG_2541 : Cond.code yX12_readFunction prog_14_method_48_code 3 none ∈ uG := uG_at 2541 (by decide +kernel) (by decide +kernel)
theorem mG_2780 : Cond.constant "LazyForgeModel" 770 150000 ∈ uG := uG_at 2780 (by decide +kernel) (by decide +kernel)
theorem dX12_bit_0 : decode cX12_bit 0 = .ok (.aload_n 0, 1) := by decide +kernel
theorem dX12_bit_1 : decode cX12_bit 1 = .ok (.aload_n 0, 1) := by decide +kernel
theorem dX12_bit_2 : decode cX12_bit 2 = .ok (.iload_n 1, 1) := by decide +kernel
theorem dX12_bit_3 : decode cX12_bit 3 = .ok (.invokevirtual 811, 3) := by decide +kernel
theorem dX12_bit_6 : decode cX12_bit 6 = .ok (.putfield 251, 3) := by decide +kernel
theorem dX12_bit_9 : decode cX12_bit 9 = .ok (.aload_n 0, 1) := by decide +kernel
theorem dX12_bit_10 : decode cX12_bit 10 = .ok (.aload_n 0, 1) := by decide +kernel
theorem dX12_bit_11 : decode cX12_bit 11 = .ok (.getfield 251, 3) := by decide +kernel
theorem dX12_bit_14 : decode cX12_bit 14 = .ok (.ifCond .le 10, 3) := by decide +kernel
theorem dX12_bit_17 : decode cX12_bit 17 = .ok (.aload_n 0, 1) := by decide +kernel
theorem dX12_bit_18 : decode cX12_bit 18 = .ok (.getfield 251, 3) := by decide +kernel
theorem dX12_bit_21 : decode cX12_bit 21 = .ok (.goto 24, 3) := by decide +kernel
theorem dX12_bit_24 : decode cX12_bit 24 = .ok (.iload_n 2, 1) := by decide +kernel
theorem dX12_bit_25 : decode cX12_bit 25 = .ok (.ifCond .lt 15, 3) := by decide +kernel
theorem dX12_bit_28 : decode cX12_bit 28 = .ok (.iload_n 2, 1) := by decide +kernel
theorem dX12_bit_29 : decode cX12_bit 29 = .ok (.iconst 1, 1) := by decide +kernel
theorem dX12_bit_30 : decode cX12_bit 30 = .ok (.aload_n 0, 1) := by decide +kernel
theorem dX12_bit_31 : decode cX12_bit 31 = .ok (.getfield 171, 3) := by decide +kernel
theorem dX12_bit_34 : decode cX12_bit 34 = .ok (.iload_n 1, 1) := by decide +kernel
theorem dX12_bit_35 : decode cX12_bit 35 = .ok (.iaload, 1) := by decide +kernel
theorem dX12_bit_36 : decode cX12_bit 36 = .ok (.ishl, 1) := by decide +kernel
theorem dX12_bit_37 : decode cX12_bit 37 = .ok (.if_icmp .lt 7, 3) := by decide +kernel
theorem dX12_bit_40 : decode cX12_bit 40 = .ok (.iconst 3, 1) := by decide +kernel
theorem dX12_bit_41 : decode cX12_bit 41 = .ok (.goto 4, 3) := by decide +kernel
theorem dX12_bit_44 : decode cX12_bit 44 = .ok (.iconst 0, 1) := by decide +kernel
theorem dX12_bit_45 : decode cX12_bit 45 = .ok (.putfield 251, 3) := by decide +kernel
theorem dX12_bit_48 : decode cX12_bit 48 = .ok (.aload_n 0, 1) := by decide +kernel
theorem dX12_bit_49 : decode cX12_bit 49 = .ok (.getfield 251, 3) := by decide +kernel
theorem dX12_bit_52 : decode cX12_bit 52 = .ok (.ifCond .ne 16, 3) := by decide +kernel
theorem dX12_bit_55 : decode cX12_bit 55 = .ok (.aload_n 0, 1) := by decide +kernel
theorem dX12_bit_56 : decode cX12_bit 56 = .ok (.iload_n 1, 1) := by decide +kernel
theorem dX12_bit_57 : decode cX12_bit 57 = .ok (.iload_n 2, 1) := by decide +kernel
theorem dX12_bit_58 : decode cX12_bit 58 = .ok (.invokevirtual 554, 3) := by decide +kernel
theorem dX12_bit_61 : decode cX12_bit 61 = .ok (.ifCond .eq 7, 3) := by decide +kernel
theorem dX12_bit_64 : decode cX12_bit 64 = .ok (.iconst 1, 1) := by decide +kernel
theorem dX12_bit_65 : decode cX12_bit 65 = .ok (.goto 4, 3) := by decide +kernel
theorem dX12_bit_68 : decode cX12_bit 68 = .ok (.iconst 0, 1) := by decide +kernel
theorem dX12_bit_69 : decode cX12_bit 69 = .ok (.ireturn, 1) := by decide +kernel
theorem dX12_clearRun_0 : decode cX12_clearRun 0 = .ok (.aload_n 0, 1) := by decide +kernel
theorem dX12_clearRun_1 : decode cX12_clearRun 1 = .ok (.iconst 0, 1) := by decide +kernel
theorem dX12_clearRun_2 : decode cX12_clearRun 2 = .ok (.putfield 605, 3) := by decide +kernel
theorem dX12_clearRun_5 : decode cX12_clearRun 5 = .ok (.aload_n 0, 1) := by decide +kernel
theorem dX12_clearRun_6 : decode cX12_clearRun 6 = .ok (.iconst 0, 1) := by decide +kernel
theorem dX12_clearRun_7 : decode cX12_clearRun 7 = .ok (.putfield 608, 3) := by decide +kernel
theorem dX12_clearRun_10 : decode cX12_clearRun 10 = .ok (.aload_n 0, 1) := by decide +kernel
theorem dX12_clearRun_11 : decode cX12_clearRun 11 = .ok (.iconst 0, 1) := by decide +kernel
theorem dX12_clearRun_12 : decode cX12_clearRun 12 = .ok (.putfield 733, 3) := by decide +kernel
theorem dX12_clearRun_15 : decode cX12_clearRun 15 = .ok (.aload_n 0, 1) := by decide +kernel
theorem dX12_clearRun_16 : decode cX12_clearRun 16 = .ok (.iconst 0, 1) := by decide +kernel
theorem dX12_clearRun_17 : decode cX12_clearRun 17 = .ok (.putfield 626, 3) := by decide +kernel
theorem dX12_clearRun_20 : decode cX12_clearRun 20 = .ok (.aload_n 0, 1) := by decide +kernel
theorem dX12_clearRun_21 : decode cX12_clearRun 21 = .ok (.iconst 0, 1) := by decide +kernel
theorem dX12_clearRun_22 : decode cX12_clearRun 22 = .ok (.putfield 641, 3) := by decide +kernel
theorem dX12_clearRun_25 : decode cX12_clearRun 25 = .ok (.aload_n 0, 1) := by decide +kernel
theorem dX12_clearRun_26 : decode cX12_clearRun 26 = .ok (.iconst 0, 1) := by decide +kernel
theorem dX12_clearRun_27 : decode cX12_clearRun 27 = .ok (.putfield 644, 3) := by decide +kernel
theorem dX12_clearRun_30 : decode cX12_clearRun 30 = .ok (.aload_n 0, 1) := by decide +kernel
theorem dX12_clearRun_31 : decode cX12_clearRun 31 = .ok (.iconst 0, 1) := by decide +kernel
theorem dX12_clearRun_32 : decode cX12_clearRun 32 = .ok (.putfield 647, 3) := by decide +kernel
theorem dX12_clearRun_35 : decode cX12_clearRun 35 = .ok (.aload_n 0, 1) := by decide +kernel
theorem dX12_clearRun_36 : decode cX12_clearRun 36 = .ok (.iconst 0, 1) := by decide +kernel
theorem dX12_clearRun_37 : decode cX12_clearRun 37 = .ok (.putfield 740, 3) := by decide +kernel
theorem dX12_clearRun_40 : decode cX12_clearRun 40 = .ok (.aload_n 0, 1) := by decide +kernel
theorem dX12_clearRun_41 : decode cX12_clearRun 41 = .ok (.iconst 0, 1) := by decide +kernel
theorem dX12_clearRun_42 : decode cX12_clearRun 42 = .ok (.putfield 709, 3) := by decide +kernel
theorem dX12_clearRun_45 : decode cX12_clearRun 45 = .ok (.aload_n 0, 1) := by decide +kernel
theorem dX12_clearRun_46 : decode cX12_clearRun 46 = .ok (.iconst 0, 1) := by decide +kernel
theorem dX12_clearRun_47 : decode cX12_clearRun 47 = .ok (.putfield 760, 3) := by decide +kernel
theorem dX12_clearRun_50 : decode cX12_clearRun 50 = .ok (.iconst 0, 1) := by decide +kernel
theorem dX12_clearRun_51 : decode cX12_clearRun 51 = .ok (.istore_n 1, 1) := by decide +kernel
theorem dX12_clearRun_52 : decode cX12_clearRun 52 = .ok (.iload_n 1, 1) := by decide +kernel
theorem dX12_clearRun_53 : decode cX12_clearRun 53 = .ok (.sipush 640, 3) := by decide +kernel
theorem dX12_clearRun_56 : decode cX12_clearRun 56 = .ok (.if_icmp .ge 16, 3) := by decide +kernel
theorem dX12_clearRun_59 : decode cX12_clearRun 59 = .ok (.aload_n 0, 1) := by decide +kernel
theorem dX12_clearRun_60 : decode cX12_clearRun 60 = .ok (.getfield 212, 3) := by decide +kernel
theorem dX12_clearRun_63 : decode cX12_clearRun 63 = .ok (.iload_n 1, 1) := by decide +kernel
theorem dX12_clearRun_64 : decode cX12_clearRun 64 = .ok (.iconst 0, 1) := by decide +kernel
theorem dX12_clearRun_65 : decode cX12_clearRun 65 = .ok (.iastore, 1) := by decide +kernel
theorem dX12_clearRun_66 : decode cX12_clearRun 66 = .ok (.iinc 1 1, 3) := by decide +kernel
theorem dX12_clearRun_69 : decode cX12_clearRun 69 = .ok (.goto (-17), 3) := by decide +kernel
theorem dX12_clearRun_72 : decode cX12_clearRun 72 = .ok (.return_, 1) := by decide +kernel
theorem dX12_function_0 : decode cX12_function 0 = .ok (.aload_n 0, 1) := by decide +kernel
theorem dX12_function_1 : decode cX12_function 1 = .ok (.aload_n 0, 1) := by decide +kernel
theorem dX12_function_2 : decode cX12_function 2 = .ok (.iload_n 1, 1) := by decide +kernel
theorem dX12_function_3 : decode cX12_function 3 = .ok (.invokevirtual 811, 3) := by decide +kernel
theorem dX12_function_6 : decode cX12_function 6 = .ok (.putfield 251, 3) := by decide +kernel
theorem dX12_function_9 : decode cX12_function 9 = .ok (.aload_n 0, 1) := by decide +kernel
theorem dX12_function_10 : decode cX12_function 10 = .ok (.aload_n 0, 1) := by decide +kernel
theorem dX12_function_11 : decode cX12_function 11 = .ok (.getfield 251, 3) := by decide +kernel
theorem dX12_function_14 : decode cX12_function 14 = .ok (.ifCond .le 10, 3) := by decide +kernel
theorem dX12_function_17 : decode cX12_function 17 = .ok (.aload_n 0, 1) := by decide +kernel
theorem dX12_function_18 : decode cX12_function 18 = .ok (.getfield 251, 3) := by decide +kernel
theorem dX12_function_21 : decode cX12_function 21 = .ok (.goto 17, 3) := by decide +kernel
theorem dX12_function_24 : decode cX12_function 24 = .ok (.iload_n 2, 1) := by decide +kernel
theorem dX12_function_25 : decode cX12_function 25 = .ok (.ifCond .lt 8, 3) := by decide +kernel
theorem dX12_function_28 : decode cX12_function 28 = .ok (.iload_n 2, 1) := by decide +kernel
theorem dX12_function_29 : decode cX12_function 29 = .ok (.iconst 5, 1) := by decide +kernel
theorem dX12_function_30 : decode cX12_function 30 = .ok (.if_icmp .le 7, 3) := by decide +kernel
theorem dX12_function_33 : decode cX12_function 33 = .ok (.iconst 3, 1) := by decide +kernel
theorem dX12_function_34 : decode cX12_function 34 = .ok (.goto 4, 3) := by decide +kernel
theorem dX12_function_37 : decode cX12_function 37 = .ok (.iconst 0, 1) := by decide +kernel
theorem dX12_function_38 : decode cX12_function 38 = .ok (.putfield 251, 3) := by decide +kernel
theorem dX12_function_41 : decode cX12_function 41 = .ok (.aload_n 0, 1) := by decide +kernel
theorem dX12_function_42 : decode cX12_function 42 = .ok (.getfield 251, 3) := by decide +kernel
theorem dX12_function_45 : decode cX12_function 45 = .ok (.ifCond .le 5, 3) := by decide +kernel
theorem dX12_function_48 : decode cX12_function 48 = .ok (.iconst 0, 1) := by decide +kernel
theorem dX12_function_49 : decode cX12_function 49 = .ok (.ireturn, 1) := by decide +kernel
theorem dX12_function_50 : decode cX12_function 50 = .ok (.iload_n 2, 1) := by decide +kernel
theorem dX12_function_51 : decode cX12_function 51 = .ok (.tableswitch 117 0 4 #[33, 40, 47, 54, 70], 33) := by decide +kernel
theorem dX12_function_84 : decode cX12_function 84 = .ok (.aload_n 0, 1) := by decide +kernel
theorem dX12_function_85 : decode cX12_function 85 = .ok (.getfield 171, 3) := by decide +kernel
theorem dX12_function_88 : decode cX12_function 88 = .ok (.iload_n 1, 1) := by decide +kernel
theorem dX12_function_89 : decode cX12_function 89 = .ok (.iaload, 1) := by decide +kernel
theorem dX12_function_90 : decode cX12_function 90 = .ok (.ireturn, 1) := by decide +kernel
theorem dX12_function_91 : decode cX12_function 91 = .ok (.aload_n 0, 1) := by decide +kernel
theorem dX12_function_92 : decode cX12_function 92 = .ok (.getfield 83, 3) := by decide +kernel
theorem dX12_function_95 : decode cX12_function 95 = .ok (.iload_n 1, 1) := by decide +kernel
theorem dX12_function_96 : decode cX12_function 96 = .ok (.iaload, 1) := by decide +kernel
theorem dX12_function_97 : decode cX12_function 97 = .ok (.ireturn, 1) := by decide +kernel
theorem dX12_function_98 : decode cX12_function 98 = .ok (.aload_n 0, 1) := by decide +kernel
theorem dX12_function_99 : decode cX12_function 99 = .ok (.getfield 168, 3) := by decide +kernel
theorem dX12_function_102 : decode cX12_function 102 = .ok (.iload_n 1, 1) := by decide +kernel
theorem dX12_function_103 : decode cX12_function 103 = .ok (.iaload, 1) := by decide +kernel
theorem dX12_function_104 : decode cX12_function 104 = .ok (.ireturn, 1) := by decide +kernel
theorem dX12_function_105 : decode cX12_function 105 = .ok (.aload_n 0, 1) := by decide +kernel
theorem dX12_function_106 : decode cX12_function 106 = .ok (.getfield 165, 3) := by decide +kernel
theorem dX12_function_109 : decode cX12_function 109 = .ok (.iload_n 1, 1) := by decide +kernel
theorem dX12_function_110 : decode cX12_function 110 = .ok (.iaload, 1) := by decide +kernel
theorem dX12_function_111 : decode cX12_function 111 = .ok (.aload_n 0, 1) := by decide +kernel
theorem dX12_function_112 : decode cX12_function 112 = .ok (.getfield 162, 3) := by decide +kernel
theorem dX12_function_115 : decode cX12_function 115 = .ok (.iload_n 1, 1) := by decide +kernel
theorem dX12_function_116 : decode cX12_function 116 = .ok (.iaload, 1) := by decide +kernel
theorem dX12_function_117 : decode cX12_function 117 = .ok (.isub, 1) := by decide +kernel
theorem dX12_function_118 : decode cX12_function 118 = .ok (.iconst 1, 1) := by decide +kernel
theorem dX12_function_119 : decode cX12_function 119 = .ok (.iadd, 1) := by decide +kernel
theorem dX12_function_120 : decode cX12_function 120 = .ok (.ireturn, 1) := by decide +kernel
theorem dX12_function_121 : decode cX12_function 121 = .ok (.iconst 0, 1) := by decide +kernel
theorem dX12_function_122 : decode cX12_function 122 = .ok (.istore_n 3, 1) := by decide +kernel
theorem dX12_function_123 : decode cX12_function 123 = .ok (.aload_n 0, 1) := by decide +kernel
theorem dX12_function_124 : decode cX12_function 124 = .ok (.getfield 162, 3) := by decide +kernel
theorem dX12_function_127 : decode cX12_function 127 = .ok (.iload_n 1, 1) := by decide +kernel
theorem dX12_function_128 : decode cX12_function 128 = .ok (.iaload, 1) := by decide +kernel
theorem dX12_function_129 : decode cX12_function 129 = .ok (.istore 4, 2) := by decide +kernel
theorem dX12_function_131 : decode cX12_function 131 = .ok (.iload 4, 2) := by decide +kernel
theorem dX12_function_133 : decode cX12_function 133 = .ok (.aload_n 0, 1) := by decide +kernel
theorem dX12_function_134 : decode cX12_function 134 = .ok (.getfield 165, 3) := by decide +kernel
theorem dX12_function_137 : decode cX12_function 137 = .ok (.iload_n 1, 1) := by decide +kernel
theorem dX12_function_138 : decode cX12_function 138 = .ok (.iaload, 1) := by decide +kernel
theorem dX12_function_139 : decode cX12_function 139 = .ok (.if_icmp .gt 27, 3) := by decide +kernel
theorem dX12_function_142 : decode cX12_function 142 = .ok (.iload_n 3, 1) := by decide +kernel
theorem dX12_function_143 : decode cX12_function 143 = .ok (.aload_n 0, 1) := by decide +kernel
theorem dX12_function_144 : decode cX12_function 144 = .ok (.getfield 134, 3) := by decide +kernel
theorem dX12_function_147 : decode cX12_function 147 = .ok (.iload 4, 2) := by decide +kernel
theorem dX12_function_149 : decode cX12_function 149 = .ok (.baload, 1) := by decide +kernel
theorem dX12_function_150 : decode cX12_function 150 = .ok (.ifCond .eq 7, 3) := by decide +kernel
theorem dX12_function_153 : decode cX12_function 153 = .ok (.iconst 1, 1) := by decide +kernel
theorem dX12_function_154 : decode cX12_function 154 = .ok (.goto 4, 3) := by decide +kernel
theorem dX12_function_157 : decode cX12_function 157 = .ok (.iconst 0, 1) := by decide +kernel
theorem dX12_function_158 : decode cX12_function 158 = .ok (.iadd, 1) := by decide +kernel
theorem dX12_function_159 : decode cX12_function 159 = .ok (.istore_n 3, 1) := by decide +kernel
theorem dX12_function_160 : decode cX12_function 160 = .ok (.iinc 4 1, 3) := by decide +kernel
theorem dX12_function_163 : decode cX12_function 163 = .ok (.goto (-32), 3) := by decide +kernel
theorem dX12_function_166 : decode cX12_function 166 = .ok (.iload_n 3, 1) := by decide +kernel
theorem dX12_function_167 : decode cX12_function 167 = .ok (.ireturn, 1) := by decide +kernel
theorem dX12_function_168 : decode cX12_function 168 = .ok (.aload_n 0, 1) := by decide +kernel
theorem dX12_function_169 : decode cX12_function 169 = .ok (.getfield 138, 3) := by decide +kernel
theorem dX12_function_172 : decode cX12_function 172 = .ok (.aload_n 0, 1) := by decide +kernel
theorem dX12_function_173 : decode cX12_function 173 = .ok (.getfield 165, 3) := by decide +kernel
theorem dX12_function_176 : decode cX12_function 176 = .ok (.iload_n 1, 1) := by decide +kernel
theorem dX12_function_177 : decode cX12_function 177 = .ok (.iaload, 1) := by decide +kernel
theorem dX12_function_178 : decode cX12_function 178 = .ok (.iaload, 1) := by decide +kernel
theorem dX12_function_179 : decode cX12_function 179 = .ok (.ireturn, 1) := by decide +kernel
theorem dX12_pack_0 : decode cX12_pack 0 = .ok (.iload_n 0, 1) := by decide +kernel
theorem dX12_pack_1 : decode cX12_pack 1 = .ok (.i2l, 1) := by decide +kernel
theorem dX12_pack_2 : decode cX12_pack 2 = .ok (.lstore 5, 2) := by decide +kernel
theorem dX12_pack_4 : decode cX12_pack 4 = .ok (.iload_n 1, 1) := by decide +kernel
theorem dX12_pack_5 : decode cX12_pack 5 = .ok (.ifCond .ne 8, 3) := by decide +kernel
theorem dX12_pack_8 : decode cX12_pack 8 = .ok (.lload 5, 2) := by decide +kernel
theorem dX12_pack_10 : decode cX12_pack 10 = .ok (.goto 11, 3) := by decide +kernel
theorem dX12_pack_13 : decode cX12_pack 13 = .ok (.lload 5, 2) := by decide +kernel
theorem dX12_pack_15 : decode cX12_pack 15 = .ok (.bipush 8, 2) := by decide +kernel
theorem dX12_pack_17 : decode cX12_pack 17 = .ok (.lshl, 1) := by decide +kernel
theorem dX12_pack_18 : decode cX12_pack 18 = .ok (.iload_n 1, 1) := by decide +kernel
theorem dX12_pack_19 : decode cX12_pack 19 = .ok (.i2l, 1) := by decide +kernel
theorem dX12_pack_20 : decode cX12_pack 20 = .ok (.lor, 1) := by decide +kernel
theorem dX12_pack_21 : decode cX12_pack 21 = .ok (.lstore 5, 2) := by decide +kernel
theorem dX12_pack_23 : decode cX12_pack 23 = .ok (.iload_n 2, 1) := by decide +kernel
theorem dX12_pack_24 : decode cX12_pack 24 = .ok (.ifCond .ne 8, 3) := by decide +kernel
theorem dX12_pack_27 : decode cX12_pack 27 = .ok (.lload 5, 2) := by decide +kernel
theorem dX12_pack_29 : decode cX12_pack 29 = .ok (.goto 11, 3) := by decide +kernel
theorem dX12_pack_32 : decode cX12_pack 32 = .ok (.lload 5, 2) := by decide +kernel
theorem dX12_pack_34 : decode cX12_pack 34 = .ok (.bipush 8, 2) := by decide +kernel
theorem dX12_pack_36 : decode cX12_pack 36 = .ok (.lshl, 1) := by decide +kernel
theorem dX12_pack_37 : decode cX12_pack 37 = .ok (.iload_n 2, 1) := by decide +kernel
theorem dX12_pack_38 : decode cX12_pack 38 = .ok (.i2l, 1) := by decide +kernel
theorem dX12_pack_39 : decode cX12_pack 39 = .ok (.lor, 1) := by decide +kernel
theorem dX12_pack_40 : decode cX12_pack 40 = .ok (.lstore 5, 2) := by decide +kernel
theorem dX12_pack_42 : decode cX12_pack 42 = .ok (.iload_n 3, 1) := by decide +kernel
theorem dX12_pack_43 : decode cX12_pack 43 = .ok (.ifCond .ne 8, 3) := by decide +kernel
theorem dX12_pack_46 : decode cX12_pack 46 = .ok (.lload 5, 2) := by decide +kernel
theorem dX12_pack_48 : decode cX12_pack 48 = .ok (.goto 11, 3) := by decide +kernel
theorem dX12_pack_51 : decode cX12_pack 51 = .ok (.lload 5, 2) := by decide +kernel
theorem dX12_pack_53 : decode cX12_pack 53 = .ok (.bipush 8, 2) := by decide +kernel
theorem dX12_pack_55 : decode cX12_pack 55 = .ok (.lshl, 1) := by decide +kernel
theorem dX12_pack_56 : decode cX12_pack 56 = .ok (.iload_n 3, 1) := by decide +kernel
theorem dX12_pack_57 : decode cX12_pack 57 = .ok (.i2l, 1) := by decide +kernel
theorem dX12_pack_58 : decode cX12_pack 58 = .ok (.lor, 1) := by decide +kernel
theorem dX12_pack_59 : decode cX12_pack 59 = .ok (.lstore 5, 2) := by decide +kernel
theorem dX12_pack_61 : decode cX12_pack 61 = .ok (.iload 4, 2) := by decide +kernel
theorem dX12_pack_63 : decode cX12_pack 63 = .ok (.ifCond .ne 8, 3) := by decide +kernel
theorem dX12_pack_66 : decode cX12_pack 66 = .ok (.lload 5, 2) := by decide +kernel
theorem dX12_pack_68 : decode cX12_pack 68 = .ok (.goto 12, 3) := by decide +kernel
theorem dX12_pack_71 : decode cX12_pack 71 = .ok (.lload 5, 2) := by decide +kernel
theorem dX12_pack_73 : decode cX12_pack 73 = .ok (.bipush 8, 2) := by decide +kernel
theorem dX12_pack_75 : decode cX12_pack 75 = .ok (.lshl, 1) := by decide +kernel
theorem dX12_pack_76 : decode cX12_pack 76 = .ok (.iload 4, 2) := by decide +kernel
theorem dX12_pack_78 : decode cX12_pack 78 = .ok (.i2l, 1) := by decide +kernel
theorem dX12_pack_79 : decode cX12_pack 79 = .ok (.lor, 1) := by decide +kernel
theorem dX12_pack_80 : decode cX12_pack 80 = .ok (.lreturn, 1) := by decide +kernel
theorem dX12_program_0 : decode cX12_program 0 = .ok (.aload_n 0, 1) := by decide +kernel
theorem dX12_program_1 : decode cX12_program 1 = .ok (.aload_n 0, 1) := by decide +kernel
theorem dX12_program_2 : decode cX12_program 2 = .ok (.getfield 336, 3) := by decide +kernel
theorem dX12_program_5 : decode cX12_program 5 = .ok (.sipush 20000, 3) := by decide +kernel
theorem dX12_program_8 : decode cX12_program 8 = .ok (.if_icmp .lt 7, 3) := by decide +kernel
theorem dX12_program_11 : decode cX12_program 11 = .ok (.iconst 1, 1) := by decide +kernel
theorem dX12_program_12 : decode cX12_program 12 = .ok (.goto 4, 3) := by decide +kernel
theorem dX12_program_15 : decode cX12_program 15 = .ok (.iconst 0, 1) := by decide +kernel
theorem dX12_program_16 : decode cX12_program 16 = .ok (.putfield 251, 3) := by decide +kernel
theorem dX12_program_19 : decode cX12_program 19 = .ok (.aload_n 0, 1) := by decide +kernel
theorem dX12_program_20 : decode cX12_program 20 = .ok (.getfield 251, 3) := by decide +kernel
theorem dX12_program_23 : decode cX12_program 23 = .ok (.ifCond .le 5, 3) := by decide +kernel
theorem dX12_program_26 : decode cX12_program 26 = .ok (.iconst 0, 1) := by decide +kernel
theorem dX12_program_27 : decode cX12_program 27 = .ok (.ireturn, 1) := by decide +kernel
theorem dX12_program_28 : decode cX12_program 28 = .ok (.aload_n 0, 1) := by decide +kernel
theorem dX12_program_29 : decode cX12_program 29 = .ok (.iconst 0, 1) := by decide +kernel
theorem dX12_program_30 : decode cX12_program 30 = .ok (.putfield 570, 3) := by decide +kernel
theorem dX12_program_33 : decode cX12_program 33 = .ok (.aload_n 0, 1) := by decide +kernel
theorem dX12_program_34 : decode cX12_program 34 = .ok (.invokevirtual 573, 3) := by decide +kernel
theorem dX12_program_37 : decode cX12_program 37 = .ok (.aload_n 0, 1) := by decide +kernel
theorem dX12_program_38 : decode cX12_program 38 = .ok (.invokevirtual 576, 3) := by decide +kernel
theorem dX12_program_41 : decode cX12_program 41 = .ok (.aload_n 0, 1) := by decide +kernel
theorem dX12_program_42 : decode cX12_program 42 = .ok (.iconst 0, 1) := by decide +kernel
theorem dX12_program_43 : decode cX12_program 43 = .ok (.putfield 254, 3) := by decide +kernel
theorem dX12_program_46 : decode cX12_program 46 = .ok (.aload_n 0, 1) := by decide +kernel
theorem dX12_program_47 : decode cX12_program 47 = .ok (.getfield 311, 3) := by decide +kernel
theorem dX12_program_50 : decode cX12_program 50 = .ok (.ifCond .ne 11, 3) := by decide +kernel
theorem dX12_program_53 : decode cX12_program 53 = .ok (.aload_n 0, 1) := by decide +kernel
theorem dX12_program_54 : decode cX12_program 54 = .ok (.invokevirtual 579, 3) := by decide +kernel
theorem dX12_program_57 : decode cX12_program 57 = .ok (.aload_n 0, 1) := by decide +kernel
theorem dX12_program_58 : decode cX12_program 58 = .ok (.invokevirtual 582, 3) := by decide +kernel
theorem dX12_program_61 : decode cX12_program 61 = .ok (.aload_n 0, 1) := by decide +kernel
theorem dX12_program_62 : decode cX12_program 62 = .ok (.getfield 311, 3) := by decide +kernel
theorem dX12_program_65 : decode cX12_program 65 = .ok (.ifCond .ne 7, 3) := by decide +kernel
theorem dX12_program_68 : decode cX12_program 68 = .ok (.aload_n 0, 1) := by decide +kernel
theorem dX12_program_69 : decode cX12_program 69 = .ok (.invokevirtual 585, 3) := by decide +kernel
theorem dX12_program_72 : decode cX12_program 72 = .ok (.aload_n 0, 1) := by decide +kernel
theorem dX12_program_73 : decode cX12_program 73 = .ok (.getfield 311, 3) := by decide +kernel
theorem dX12_program_76 : decode cX12_program 76 = .ok (.ifCond .ne 7, 3) := by decide +kernel
theorem dX12_program_79 : decode cX12_program 79 = .ok (.aload_n 0, 1) := by decide +kernel
theorem dX12_program_80 : decode cX12_program 80 = .ok (.invokevirtual 588, 3) := by decide +kernel
theorem dX12_program_83 : decode cX12_program 83 = .ok (.aload_n 0, 1) := by decide +kernel
theorem dX12_program_84 : decode cX12_program 84 = .ok (.aload_n 0, 1) := by decide +kernel
theorem dX12_program_85 : decode cX12_program 85 = .ok (.getfield 311, 3) := by decide +kernel
theorem dX12_program_88 : decode cX12_program 88 = .ok (.putfield 591, 3) := by decide +kernel
theorem dX12_program_91 : decode cX12_program 91 = .ok (.aload_n 0, 1) := by decide +kernel
theorem dX12_program_92 : decode cX12_program 92 = .ok (.aload_n 0, 1) := by decide +kernel
theorem dX12_program_93 : decode cX12_program 93 = .ok (.getfield 311, 3) := by decide +kernel
theorem dX12_program_96 : decode cX12_program 96 = .ok (.ifCond .le 10, 3) := by decide +kernel
theorem dX12_program_99 : decode cX12_program 99 = .ok (.aload_n 0, 1) := by decide +kernel
theorem dX12_program_100 : decode cX12_program 100 = .ok (.getfield 314, 3) := by decide +kernel
theorem dX12_program_103 : decode cX12_program 103 = .ok (.goto 4, 3) := by decide +kernel
theorem dX12_program_106 : decode cX12_program 106 = .ok (.iconst (-1), 1) := by decide +kernel
theorem dX12_program_107 : decode cX12_program 107 = .ok (.putfield 187, 3) := by decide +kernel
theorem dX12_program_110 : decode cX12_program 110 = .ok (.aload_n 0, 1) := by decide +kernel
theorem dX12_program_111 : decode cX12_program 111 = .ok (.getfield 311, 3) := by decide +kernel
theorem dX12_program_114 : decode cX12_program 114 = .ok (.ifCond .le 5, 3) := by decide +kernel
theorem dX12_program_117 : decode cX12_program 117 = .ok (.iconst (-1), 1) := by decide +kernel
theorem dX12_program_118 : decode cX12_program 118 = .ok (.ireturn, 1) := by decide +kernel
theorem dX12_program_119 : decode cX12_program 119 = .ok (.aload_n 0, 1) := by decide +kernel
theorem dX12_program_120 : decode cX12_program 120 = .ok (.invokevirtual 594, 3) := by decide +kernel
theorem dX12_program_123 : decode cX12_program 123 = .ok (.aload_n 0, 1) := by decide +kernel
theorem dX12_program_124 : decode cX12_program 124 = .ok (.invokevirtual 597, 3) := by decide +kernel
theorem dX12_program_127 : decode cX12_program 127 = .ok (.iconst 0, 1) := by decide +kernel
theorem dX12_program_128 : decode cX12_program 128 = .ok (.istore_n 1, 1) := by decide +kernel
theorem dX12_program_129 : decode cX12_program 129 = .ok (.iload_n 1, 1) := by decide +kernel
theorem dX12_program_130 : decode cX12_program 130 = .ok (.aload_n 0, 1) := by decide +kernel
theorem dX12_program_131 : decode cX12_program 131 = .ok (.getfield 486, 3) := by decide +kernel
theorem dX12_program_134 : decode cX12_program 134 = .ok (.if_icmp .ge 44, 3) := by decide +kernel
theorem dX12_program_137 : decode cX12_program 137 = .ok (.iconst 0, 1) := by decide +kernel
theorem dX12_program_138 : decode cX12_program 138 = .ok (.istore_n 2, 1) := by decide +kernel
theorem dX12_program_139 : decode cX12_program 139 = .ok (.iload_n 2, 1) := by decide +kernel
theorem dX12_program_140 : decode cX12_program 140 = .ok (.aload_n 0, 1) := by decide +kernel
theorem dX12_program_141 : decode cX12_program 141 = .ok (.getfield 171, 3) := by decide +kernel
theorem dX12_program_144 : decode cX12_program 144 = .ok (.iload_n 1, 1) := by decide +kernel
theorem dX12_program_145 : decode cX12_program 145 = .ok (.iaload, 1) := by decide +kernel
theorem dX12_program_146 : decode cX12_program 146 = .ok (.if_icmp .ge 26, 3) := by decide +kernel
theorem dX12_program_149 : decode cX12_program 149 = .ok (.aload_n 0, 1) := by decide +kernel
theorem dX12_program_150 : decode cX12_program 150 = .ok (.getfield 191, 3) := by decide +kernel
theorem dX12_program_153 : decode cX12_program 153 = .ok (.bipush 8, 2) := by decide +kernel
theorem dX12_program_155 : decode cX12_program 155 = .ok (.iload_n 1, 1) := by decide +kernel
theorem dX12_program_156 : decode cX12_program 156 = .ok (.imul, 1) := by decide +kernel
theorem dX12_program_157 : decode cX12_program 157 = .ok (.iload_n 2, 1) := by decide +kernel
theorem dX12_program_158 : decode cX12_program 158 = .ok (.iadd, 1) := by decide +kernel
theorem dX12_program_159 : decode cX12_program 159 = .ok (.aload_n 0, 1) := by decide +kernel
theorem dX12_program_160 : decode cX12_program 160 = .ok (.iload_n 1, 1) := by decide +kernel
theorem dX12_program_161 : decode cX12_program 161 = .ok (.iload_n 2, 1) := by decide +kernel
theorem dX12_program_162 : decode cX12_program 162 = .ok (.invokevirtual 600, 3) := by decide +kernel
theorem dX12_program_165 : decode cX12_program 165 = .ok (.bastore, 1) := by decide +kernel
theorem dX12_program_166 : decode cX12_program 166 = .ok (.iinc 2 1, 3) := by decide +kernel
theorem dX12_program_169 : decode cX12_program 169 = .ok (.goto (-30), 3) := by decide +kernel
theorem dX12_program_172 : decode cX12_program 172 = .ok (.iinc 1 1, 3) := by decide +kernel
theorem dX12_program_175 : decode cX12_program 175 = .ok (.goto (-46), 3) := by decide +kernel
theorem dX12_program_178 : decode cX12_program 178 = .ok (.aload_n 0, 1) := by decide +kernel
theorem dX12_program_179 : decode cX12_program 179 = .ok (.iconst 1, 1) := by decide +kernel
theorem dX12_program_180 : decode cX12_program 180 = .ok (.putfield 570, 3) := by decide +kernel
theorem dX12_program_183 : decode cX12_program 183 = .ok (.aload_n 0, 1) := by decide +kernel
theorem dX12_program_184 : decode cX12_program 184 = .ok (.getfield 486, 3) := by decide +kernel
theorem dX12_program_187 : decode cX12_program 187 = .ok (.ireturn, 1) := by decide +kernel
theorem dX12_readProgram_0 : decode cX12_readProgram 0 = .ok (.aload_n 0, 1) := by decide +kernel
theorem dX12_readProgram_1 : decode cX12_readProgram 1 = .ok (.iconst 0, 1) := by decide +kernel
theorem dX12_readProgram_2 : decode cX12_readProgram 2 = .ok (.putfield 311, 3) := by decide +kernel
theorem dX12_readProgram_5 : decode cX12_readProgram 5 = .ok (.aload_n 0, 1) := by decide +kernel
theorem dX12_readProgram_6 : decode cX12_readProgram 6 = .ok (.iconst 0, 1) := by decide +kernel
theorem dX12_readProgram_7 : decode cX12_readProgram 7 = .ok (.putfield 327, 3) := by decide +kernel
theorem dX12_readProgram_10 : decode cX12_readProgram 10 = .ok (.aload_n 0, 1) := by decide +kernel
theorem dX12_readProgram_11 : decode cX12_readProgram 11 = .ok (.iconst 0, 1) := by decide +kernel
theorem dX12_readProgram_12 : decode cX12_readProgram 12 = .ok (.putfield 330, 3) := by decide +kernel
theorem dX12_readProgram_15 : decode cX12_readProgram 15 = .ok (.aload_n 0, 1) := by decide +kernel
theorem dX12_readProgram_16 : decode cX12_readProgram 16 = .ok (.iconst 0, 1) := by decide +kernel
theorem dX12_readProgram_17 : decode cX12_readProgram 17 = .ok (.putfield 333, 3) := by decide +kernel
theorem dX12_readProgram_20 : decode cX12_readProgram 20 = .ok (.aload_n 0, 1) := by decide +kernel
theorem dX12_readProgram_21 : decode cX12_readProgram 21 = .ok (.iconst 0, 1) := by decide +kernel
theorem dX12_readProgram_22 : decode cX12_readProgram 22 = .ok (.putfield 462, 3) := by decide +kernel
theorem dX12_readProgram_25 : decode cX12_readProgram 25 = .ok (.aload_n 0, 1) := by decide +kernel
theorem dX12_readProgram_26 : decode cX12_readProgram 26 = .ok (.iconst 0, 1) := by decide +kernel
theorem dX12_readProgram_27 : decode cX12_readProgram 27 = .ok (.putfield 339, 3) := by decide +kernel
theorem dX12_readProgram_30 : decode cX12_readProgram 30 = .ok (.aload_n 0, 1) := by decide +kernel
theorem dX12_readProgram_31 : decode cX12_readProgram 31 = .ok (.iconst 0, 1) := by decide +kernel
theorem dX12_readProgram_32 : decode cX12_readProgram 32 = .ok (.putfield 342, 3) := by decide +kernel
theorem dX12_readProgram_35 : decode cX12_readProgram 35 = .ok (.aload_n 0, 1) := by decide +kernel
theorem dX12_readProgram_36 : decode cX12_readProgram 36 = .ok (.iconst 0, 1) := by decide +kernel
theorem dX12_readProgram_37 : decode cX12_readProgram 37 = .ok (.putfield 345, 3) := by decide +kernel
theorem dX12_readProgram_40 : decode cX12_readProgram 40 = .ok (.aload_n 0, 1) := by decide +kernel
theorem dX12_readProgram_41 : decode cX12_readProgram 41 = .ok (.iconst 0, 1) := by decide +kernel
theorem dX12_readProgram_42 : decode cX12_readProgram 42 = .ok (.putfield 261, 3) := by decide +kernel
theorem dX12_readProgram_45 : decode cX12_readProgram 45 = .ok (.aload_n 0, 1) := by decide +kernel
theorem dX12_readProgram_46 : decode cX12_readProgram 46 = .ok (.iconst 2, 1) := by decide +kernel
theorem dX12_readProgram_47 : decode cX12_readProgram 47 = .ok (.putfield 348, 3) := by decide +kernel
theorem dX12_readProgram_50 : decode cX12_readProgram 50 = .ok (.aload_n 0, 1) := by decide +kernel
theorem dX12_readProgram_51 : decode cX12_readProgram 51 = .ok (.getfield 59, 3) := by decide +kernel
theorem dX12_readProgram_54 : decode cX12_readProgram 54 = .ok (.iconst 0, 1) := by decide +kernel
theorem dX12_readProgram_55 : decode cX12_readProgram 55 = .ok (.bipush 70, 2) := by decide +kernel
theorem dX12_readProgram_57 : decode cX12_readProgram 57 = .ok (.bipush 97, 2) := by decide +kernel
theorem dX12_readProgram_59 : decode cX12_readProgram 59 = .ok (.bipush 108, 2) := by decide +kernel
theorem dX12_readProgram_61 : decode cX12_readProgram 61 = .ok (.bipush 115, 2) := by decide +kernel
theorem dX12_readProgram_63 : decode cX12_readProgram 63 = .ok (.bipush 101, 2) := by decide +kernel
theorem dX12_readProgram_65 : decode cX12_readProgram 65 = .ok (.invokestatic 257, 3) := by decide +kernel
theorem dX12_readProgram_68 : decode cX12_readProgram 68 = .ok (.lastore, 1) := by decide +kernel
theorem dX12_readProgram_69 : decode cX12_readProgram 69 = .ok (.aload_n 0, 1) := by decide +kernel
theorem dX12_readProgram_70 : decode cX12_readProgram 70 = .ok (.getfield 59, 3) := by decide +kernel
theorem dX12_readProgram_73 : decode cX12_readProgram 73 = .ok (.iconst 1, 1) := by decide +kernel
theorem dX12_readProgram_74 : decode cX12_readProgram 74 = .ok (.bipush 84, 2) := by decide +kernel
theorem dX12_readProgram_76 : decode cX12_readProgram 76 = .ok (.bipush 114, 2) := by decide +kernel
theorem dX12_readProgram_78 : decode cX12_readProgram 78 = .ok (.bipush 117, 2) := by decide +kernel
theorem dX12_readProgram_80 : decode cX12_readProgram 80 = .ok (.bipush 101, 2) := by decide +kernel
theorem dX12_readProgram_82 : decode cX12_readProgram 82 = .ok (.iconst 0, 1) := by decide +kernel
theorem dX12_readProgram_83 : decode cX12_readProgram 83 = .ok (.invokestatic 257, 3) := by decide +kernel
theorem dX12_readProgram_86 : decode cX12_readProgram 86 = .ok (.lastore, 1) := by decide +kernel
theorem dX12_readProgram_87 : decode cX12_readProgram 87 = .ok (.aload_n 0, 1) := by decide +kernel
theorem dX12_readProgram_88 : decode cX12_readProgram 88 = .ok (.getfield 62, 3) := by decide +kernel
theorem dX12_readProgram_91 : decode cX12_readProgram 91 = .ok (.iconst 0, 1) := by decide +kernel
theorem dX12_readProgram_92 : decode cX12_readProgram 92 = .ok (.iconst 0, 1) := by decide +kernel
theorem dX12_readProgram_93 : decode cX12_readProgram 93 = .ok (.iastore, 1) := by decide +kernel
theorem dX12_readProgram_94 : decode cX12_readProgram 94 = .ok (.aload_n 0, 1) := by decide +kernel
theorem dX12_readProgram_95 : decode cX12_readProgram 95 = .ok (.getfield 62, 3) := by decide +kernel
theorem dX12_readProgram_98 : decode cX12_readProgram 98 = .ok (.iconst 1, 1) := by decide +kernel
theorem dX12_readProgram_99 : decode cX12_readProgram 99 = .ok (.iconst 0, 1) := by decide +kernel
theorem dX12_readProgram_100 : decode cX12_readProgram 100 = .ok (.iastore, 1) := by decide +kernel
theorem dX12_readProgram_101 : decode cX12_readProgram 101 = .ok (.aload_n 0, 1) := by decide +kernel
theorem dX12_readProgram_102 : decode cX12_readProgram 102 = .ok (.invokevirtual 321, 3) := by decide +kernel
theorem dX12_readProgram_105 : decode cX12_readProgram 105 = .ok (.aload_n 0, 1) := by decide +kernel
theorem dX12_readProgram_106 : decode cX12_readProgram 106 = .ok (.getfield 311, 3) := by decide +kernel
theorem dX12_readProgram_109 : decode cX12_readProgram 109 = .ok (.ifCond .ne 23, 3) := by decide +kernel
theorem dX12_readProgram_112 : decode cX12_readProgram 112 = .ok (.aload_n 0, 1) := by decide +kernel
theorem dX12_readProgram_113 : decode cX12_readProgram 113 = .ok (.getfield 286, 3) := by decide +kernel
theorem dX12_readProgram_116 : decode cX12_readProgram 116 = .ok (.bipush 10, 2) := by decide +kernel
theorem dX12_readProgram_118 : decode cX12_readProgram 118 = .ok (.if_icmp .ne 14, 3) := by decide +kernel
theorem dX12_readProgram_121 : decode cX12_readProgram 121 = .ok (.aload_n 0, 1) := by decide +kernel
theorem dX12_readProgram_122 : decode cX12_readProgram 122 = .ok (.invokevirtual 321, 3) := by decide +kernel
theorem dX12_readProgram_125 : decode cX12_readProgram 125 = .ok (.aload_n 0, 1) := by decide +kernel
theorem dX12_readProgram_126 : decode cX12_readProgram 126 = .ok (.invokevirtual 468, 3) := by decide +kernel
theorem dX12_readProgram_129 : decode cX12_readProgram 129 = .ok (.goto (-24), 3) := by decide +kernel
theorem dX12_readProgram_132 : decode cX12_readProgram 132 = .ok (.aload_n 0, 1) := by decide +kernel
theorem dX12_readProgram_133 : decode cX12_readProgram 133 = .ok (.getfield 311, 3) := by decide +kernel
theorem dX12_readProgram_136 : decode cX12_readProgram 136 = .ok (.ifCond .ne 7, 3) := by decide +kernel
theorem dX12_readProgram_139 : decode cX12_readProgram 139 = .ok (.iconst 1, 1) := by decide +kernel
theorem dX12_readProgram_140 : decode cX12_readProgram 140 = .ok (.goto 4, 3) := by decide +kernel
theorem dX12_readProgram_143 : decode cX12_readProgram 143 = .ok (.iconst 0, 1) := by decide +kernel
theorem dX12_readProgram_144 : decode cX12_readProgram 144 = .ok (.istore_n 1, 1) := by decide +kernel
theorem dX12_readProgram_145 : decode cX12_readProgram 145 = .ok (.iload_n 1, 1) := by decide +kernel
theorem dX12_readProgram_146 : decode cX12_readProgram 146 = .ok (.ifCond .eq 30, 3) := by decide +kernel
theorem dX12_readProgram_149 : decode cX12_readProgram 149 = .ok (.aload_n 0, 1) := by decide +kernel
theorem dX12_readProgram_150 : decode cX12_readProgram 150 = .ok (.invokevirtual 471, 3) := by decide +kernel
theorem dX12_readProgram_153 : decode cX12_readProgram 153 = .ok (.aload_n 0, 1) := by decide +kernel
theorem dX12_readProgram_154 : decode cX12_readProgram 154 = .ok (.getfield 311, 3) := by decide +kernel
theorem dX12_readProgram_157 : decode cX12_readProgram 157 = .ok (.ifCond .ne 14, 3) := by decide +kernel
theorem dX12_readProgram_160 : decode cX12_readProgram 160 = .ok (.aload_n 0, 1) := by decide +kernel
theorem dX12_readProgram_161 : decode cX12_readProgram 161 = .ok (.getfield 286, 3) := by decide +kernel
theorem dX12_readProgram_164 : decode cX12_readProgram 164 = .ok (.ifCond .eq 7, 3) := by decide +kernel
theorem dX12_readProgram_167 : decode cX12_readProgram 167 = .ok (.iconst 1, 1) := by decide +kernel
theorem dX12_readProgram_168 : decode cX12_readProgram 168 = .ok (.goto 4, 3) := by decide +kernel
theorem dX12_readProgram_171 : decode cX12_readProgram 171 = .ok (.iconst 0, 1) := by decide +kernel
theorem dX12_readProgram_172 : decode cX12_readProgram 172 = .ok (.istore_n 1, 1) := by decide +kernel
theorem dX12_readProgram_173 : decode cX12_readProgram 173 = .ok (.goto (-28), 3) := by decide +kernel
theorem dX12_readProgram_176 : decode cX12_readProgram 176 = .ok (.return_, 1) := by decide +kernel
theorem dX12_run_0 : decode cX12_run 0 = .ok (.aload_n 0, 1) := by decide +kernel
theorem dX12_run_1 : decode cX12_run 1 = .ok (.getfield 736, 3) := by decide +kernel
theorem dX12_run_4 : decode cX12_run 4 = .ok (.ldc_w 770, 3) := by decide +kernel
theorem dX12_run_7 : decode cX12_run 7 = .ok (.if_icmp .ge 13, 3) := by decide +kernel
theorem dX12_run_10 : decode cX12_run 10 = .ok (.aload_n 0, 1) := by decide +kernel
theorem dX12_run_11 : decode cX12_run 11 = .ok (.getfield 632, 3) := by decide +kernel
theorem dX12_run_14 : decode cX12_run 14 = .ok (.ldc_w 770, 3) := by decide +kernel
theorem dX12_run_17 : decode cX12_run 17 = .ok (.if_icmp .lt 7, 3) := by decide +kernel
theorem dX12_run_20 : decode cX12_run 20 = .ok (.iconst 1, 1) := by decide +kernel
theorem dX12_run_21 : decode cX12_run 21 = .ok (.goto 4, 3) := by decide +kernel
theorem dX12_run_24 : decode cX12_run 24 = .ok (.iconst 0, 1) := by decide +kernel
theorem dX12_run_25 : decode cX12_run 25 = .ok (.istore_n 3, 1) := by decide +kernel
theorem dX12_run_26 : decode cX12_run 26 = .ok (.aload_n 0, 1) := by decide +kernel
theorem dX12_run_27 : decode cX12_run 27 = .ok (.aload_n 0, 1) := by decide +kernel
theorem dX12_run_28 : decode cX12_run 28 = .ok (.getfield 570, 3) := by decide +kernel
theorem dX12_run_31 : decode cX12_run 31 = .ok (.ifCond .ne 7, 3) := by decide +kernel
theorem dX12_run_34 : decode cX12_run 34 = .ok (.iconst 1, 1) := by decide +kernel
theorem dX12_run_35 : decode cX12_run 35 = .ok (.goto 27, 3) := by decide +kernel
theorem dX12_run_38 : decode cX12_run 38 = .ok (.iload_n 2, 1) := by decide +kernel
theorem dX12_run_39 : decode cX12_run 39 = .ok (.ifCond .lt 10, 3) := by decide +kernel
theorem dX12_run_42 : decode cX12_run 42 = .ok (.iload_n 2, 1) := by decide +kernel
theorem dX12_run_43 : decode cX12_run 43 = .ok (.sipush 800, 3) := by decide +kernel
theorem dX12_run_46 : decode cX12_run 46 = .ok (.if_icmp .le 7, 3) := by decide +kernel
theorem dX12_run_49 : decode cX12_run 49 = .ok (.iconst 2, 1) := by decide +kernel
theorem dX12_run_50 : decode cX12_run 50 = .ok (.goto 12, 3) := by decide +kernel
theorem dX12_run_53 : decode cX12_run 53 = .ok (.iload_n 3, 1) := by decide +kernel
theorem dX12_run_54 : decode cX12_run 54 = .ok (.ifCond .eq 7, 3) := by decide +kernel
theorem dX12_run_57 : decode cX12_run 57 = .ok (.iconst 3, 1) := by decide +kernel
theorem dX12_run_58 : decode cX12_run 58 = .ok (.goto 4, 3) := by decide +kernel
theorem dX12_run_61 : decode cX12_run 61 = .ok (.iconst 0, 1) := by decide +kernel
theorem dX12_run_62 : decode cX12_run 62 = .ok (.putfield 251, 3) := by decide +kernel
theorem dX12_run_65 : decode cX12_run 65 = .ok (.aload_n 0, 1) := by decide +kernel
theorem dX12_run_66 : decode cX12_run 66 = .ok (.getfield 251, 3) := by decide +kernel
theorem dX12_run_69 : decode cX12_run 69 = .ok (.ifCond .le 5, 3) := by decide +kernel
theorem dX12_run_72 : decode cX12_run 72 = .ok (.iconst 0, 1) := by decide +kernel
theorem dX12_run_73 : decode cX12_run 73 = .ok (.ireturn, 1) := by decide +kernel
theorem dX12_run_74 : decode cX12_run 74 = .ok (.aload_n 0, 1) := by decide +kernel
theorem dX12_run_75 : decode cX12_run 75 = .ok (.invokevirtual 573, 3) := by decide +kernel
theorem dX12_run_78 : decode cX12_run 78 = .ok (.aload_n 0, 1) := by decide +kernel
theorem dX12_run_79 : decode cX12_run 79 = .ok (.iload_n 1, 1) := by decide +kernel
theorem dX12_run_80 : decode cX12_run 80 = .ok (.putfield 706, 3) := by decide +kernel
theorem dX12_run_83 : decode cX12_run 83 = .ok (.aload_n 0, 1) := by decide +kernel
theorem dX12_run_84 : decode cX12_run 84 = .ok (.iload_n 2, 1) := by decide +kernel
theorem dX12_run_85 : decode cX12_run 85 = .ok (.putfield 730, 3) := by decide +kernel
theorem dX12_run_88 : decode cX12_run 88 = .ok (.aload_n 0, 1) := by decide +kernel
theorem dX12_run_89 : decode cX12_run 89 = .ok (.iconst 0, 1) := by decide +kernel
theorem dX12_run_90 : decode cX12_run 90 = .ok (.putfield 635, 3) := by decide +kernel
theorem dX12_run_93 : decode cX12_run 93 = .ok (.aload_n 0, 1) := by decide +kernel
theorem dX12_run_94 : decode cX12_run 94 = .ok (.iconst 0, 1) := by decide +kernel
theorem dX12_run_95 : decode cX12_run 95 = .ok (.putfield 638, 3) := by decide +kernel
theorem dX12_run_98 : decode cX12_run 98 = .ok (.iconst 0, 1) := by decide +kernel
theorem dX12_run_99 : decode cX12_run 99 = .ok (.istore 4, 2) := by decide +kernel
theorem dX12_run_101 : decode cX12_run 101 = .ok (.iload 4, 2) := by decide +kernel
theorem dX12_run_103 : decode cX12_run 103 = .ok (.aload_n 0, 1) := by decide +kernel
theorem dX12_run_104 : decode cX12_run 104 = .ok (.getfield 486, 3) := by decide +kernel
theorem dX12_run_107 : decode cX12_run 107 = .ok (.if_icmp .ge 40, 3) := by decide +kernel
theorem dX12_run_110 : decode cX12_run 110 = .ok (.aload_n 0, 1) := by decide +kernel
theorem dX12_run_111 : decode cX12_run 111 = .ok (.getfield 171, 3) := by decide +kernel
theorem dX12_run_114 : decode cX12_run 114 = .ok (.iload 4, 2) := by decide +kernel
theorem dX12_run_116 : decode cX12_run 116 = .ok (.iaload, 1) := by decide +kernel
theorem dX12_run_117 : decode cX12_run 117 = .ok (.ifCond .ne 24, 3) := by decide +kernel
theorem dX12_run_120 : decode cX12_run 120 = .ok (.aload_n 0, 1) := by decide +kernel
theorem dX12_run_121 : decode cX12_run 121 = .ok (.getfield 242, 3) := by decide +kernel
theorem dX12_run_124 : decode cX12_run 124 = .ok (.iload 4, 2) := by decide +kernel
theorem dX12_run_126 : decode cX12_run 126 = .ok (.aload_n 0, 1) := by decide +kernel
theorem dX12_run_127 : decode cX12_run 127 = .ok (.iconst 2, 1) := by decide +kernel
theorem dX12_run_128 : decode cX12_run 128 = .ok (.aload_n 0, 1) := by decide +kernel
theorem dX12_run_129 : decode cX12_run 129 = .ok (.getfield 165, 3) := by decide +kernel
theorem dX12_run_132 : decode cX12_run 132 = .ok (.iload 4, 2) := by decide +kernel
theorem dX12_run_134 : decode cX12_run 134 = .ok (.iaload, 1) := by decide +kernel
theorem dX12_run_135 : decode cX12_run 135 = .ok (.iconst 0, 1) := by decide +kernel
theorem dX12_run_136 : decode cX12_run 136 = .ok (.iconst 1, 1) := by decide +kernel
theorem dX12_run_137 : decode cX12_run 137 = .ok (.invokevirtual 653, 3) := by decide +kernel
theorem dX12_run_140 : decode cX12_run 140 = .ok (.iastore, 1) := by decide +kernel
theorem dX12_run_141 : decode cX12_run 141 = .ok (.iinc 4 1, 3) := by decide +kernel
theorem dX12_run_144 : decode cX12_run 144 = .ok (.goto (-43), 3) := by decide +kernel
theorem dX12_run_147 : decode cX12_run 147 = .ok (.aload_n 0, 1) := by decide +kernel
theorem dX12_run_148 : decode cX12_run 148 = .ok (.iconst 1, 1) := by decide +kernel
theorem dX12_run_149 : decode cX12_run 149 = .ok (.putfield 767, 3) := by decide +kernel
theorem dX12_run_152 : decode cX12_run 152 = .ok (.aload_n 0, 1) := by decide +kernel
theorem dX12_run_153 : decode cX12_run 153 = .ok (.getfield 245, 3) := by decide +kernel
theorem dX12_run_156 : decode cX12_run 156 = .ok (.iconst 0, 1) := by decide +kernel
theorem dX12_run_157 : decode cX12_run 157 = .ok (.iconst 3, 1) := by decide +kernel
theorem dX12_run_158 : decode cX12_run 158 = .ok (.aload_n 0, 1) := by decide +kernel
theorem dX12_run_159 : decode cX12_run 159 = .ok (.getfield 242, 3) := by decide +kernel
theorem dX12_run_162 : decode cX12_run 162 = .ok (.aload_n 0, 1) := by decide +kernel
theorem dX12_run_163 : decode cX12_run 163 = .ok (.invokevirtual 517, 3) := by decide +kernel
theorem dX12_run_166 : decode cX12_run 166 = .ok (.iaload, 1) := by decide +kernel
theorem dX12_run_167 : decode cX12_run 167 = .ok (.invokestatic 650, 3) := by decide +kernel
theorem dX12_run_170 : decode cX12_run 170 = .ok (.lastore, 1) := by decide +kernel
theorem dX12_run_171 : decode cX12_run 171 = .ok (.aload_n 0, 1) := by decide +kernel
theorem dX12_run_172 : decode cX12_run 172 = .ok (.getfield 605, 3) := by decide +kernel
theorem dX12_run_175 : decode cX12_run 175 = .ok (.ifCond .ne 51, 3) := by decide +kernel
theorem dX12_run_178 : decode cX12_run 178 = .ok (.aload_n 0, 1) := by decide +kernel
theorem dX12_run_179 : decode cX12_run 179 = .ok (.getfield 767, 3) := by decide +kernel
theorem dX12_run_182 : decode cX12_run 182 = .ok (.ifCond .le 44, 3) := by decide +kernel
theorem dX12_run_185 : decode cX12_run 185 = .ok (.aload_n 0, 1) := by decide +kernel
theorem dX12_run_186 : decode cX12_run 186 = .ok (.dup, 1) := by decide +kernel
theorem dX12_run_187 : decode cX12_run 187 = .ok (.getfield 767, 3) := by decide +kernel
theorem dX12_run_190 : decode cX12_run 190 = .ok (.iconst 1, 1) := by decide +kernel
theorem dX12_run_191 : decode cX12_run 191 = .ok (.isub, 1) := by decide +kernel
theorem dX12_run_192 : decode cX12_run 192 = .ok (.putfield 767, 3) := by decide +kernel
theorem dX12_run_195 : decode cX12_run 195 = .ok (.aload_n 0, 1) := by decide +kernel
theorem dX12_run_196 : decode cX12_run 196 = .ok (.aload_n 0, 1) := by decide +kernel
theorem dX12_run_197 : decode cX12_run 197 = .ok (.getfield 245, 3) := by decide +kernel
theorem dX12_run_200 : decode cX12_run 200 = .ok (.aload_n 0, 1) := by decide +kernel
theorem dX12_run_201 : decode cX12_run 201 = .ok (.getfield 767, 3) := by decide +kernel
theorem dX12_run_204 : decode cX12_run 204 = .ok (.laload, 1) := by decide +kernel
theorem dX12_run_205 : decode cX12_run 205 = .ok (.invokevirtual 771, 3) := by decide +kernel
theorem dX12_run_208 : decode cX12_run 208 = .ok (.aload_n 0, 1) := by decide +kernel
theorem dX12_run_209 : decode cX12_run 209 = .ok (.getfield 605, 3) := by decide +kernel
theorem dX12_run_212 : decode cX12_run 212 = .ok (.ifCond .ne (-41), 3) := by decide +kernel
theorem dX12_run_215 : decode cX12_run 215 = .ok (.aload_n 0, 1) := by decide +kernel
theorem dX12_run_216 : decode cX12_run 216 = .ok (.aload_n 0, 1) := by decide +kernel
theorem dX12_run_217 : decode cX12_run 217 = .ok (.getfield 623, 3) := by decide +kernel
theorem dX12_run_220 : decode cX12_run 220 = .ok (.invokevirtual 774, 3) := by decide +kernel
theorem dX12_run_223 : decode cX12_run 223 = .ok (.goto (-52), 3) := by decide +kernel
theorem dX12_run_226 : decode cX12_run 226 = .ok (.aload_n 0, 1) := by decide +kernel
theorem dX12_run_227 : decode cX12_run 227 = .ok (.iconst 1, 1) := by decide +kernel
theorem dX12_run_228 : decode cX12_run 228 = .ok (.iconst 0, 1) := by decide +kernel
theorem dX12_run_229 : decode cX12_run 229 = .ok (.invokevirtual 629, 3) := by decide +kernel
theorem dX12_run_232 : decode cX12_run 232 = .ok (.aload_n 0, 1) := by decide +kernel
theorem dX12_run_233 : decode cX12_run 233 = .ok (.getfield 605, 3) := by decide +kernel
theorem dX12_run_236 : decode cX12_run 236 = .ok (.ireturn, 1) := by decide +kernel
theorem dX12_write_0 : decode cX12_write 0 = .ok (.aload_n 0, 1) := by decide +kernel
theorem dX12_write_1 : decode cX12_write 1 = .ok (.aload_n 0, 1) := by decide +kernel
theorem dX12_write_2 : decode cX12_write 2 = .ok (.getfield 570, 3) := by decide +kernel
theorem dX12_write_5 : decode cX12_write 5 = .ok (.ifCond .eq 7, 3) := by decide +kernel
theorem dX12_write_8 : decode cX12_write 8 = .ok (.iconst 0, 1) := by decide +kernel
theorem dX12_write_9 : decode cX12_write 9 = .ok (.goto 4, 3) := by decide +kernel
theorem dX12_write_12 : decode cX12_write 12 = .ok (.iconst 1, 1) := by decide +kernel
theorem dX12_write_13 : decode cX12_write 13 = .ok (.putfield 251, 3) := by decide +kernel
theorem dX12_write_16 : decode cX12_write 16 = .ok (.aload_n 0, 1) := by decide +kernel
theorem dX12_write_17 : decode cX12_write 17 = .ok (.getfield 251, 3) := by decide +kernel
theorem dX12_write_20 : decode cX12_write 20 = .ok (.ifCond .le 5, 3) := by decide +kernel
theorem dX12_write_23 : decode cX12_write 23 = .ok (.iconst 0, 1) := by decide +kernel
theorem dX12_write_24 : decode cX12_write 24 = .ok (.ireturn, 1) := by decide +kernel
theorem dX12_write_25 : decode cX12_write 25 = .ok (.aload_n 0, 1) := by decide +kernel
theorem dX12_write_26 : decode cX12_write 26 = .ok (.iconst 0, 1) := by decide +kernel
theorem dX12_write_27 : decode cX12_write 27 = .ok (.putfield 780, 3) := by decide +kernel
theorem dX12_write_30 : decode cX12_write 30 = .ok (.iconst 2, 1) := by decide +kernel
theorem dX12_write_31 : decode cX12_write 31 = .ok (.istore_n 1, 1) := by decide +kernel
theorem dX12_write_32 : decode cX12_write 32 = .ok (.iload_n 1, 1) := by decide +kernel
theorem dX12_write_33 : decode cX12_write 33 = .ok (.aload_n 0, 1) := by decide +kernel
theorem dX12_write_34 : decode cX12_write 34 = .ok (.getfield 348, 3) := by decide +kernel
theorem dX12_write_37 : decode cX12_write 37 = .ok (.if_icmp .ge 71, 3) := by decide +kernel
theorem dX12_write_40 : decode cX12_write 40 = .ok (.aload_n 0, 1) := by decide +kernel
theorem dX12_write_41 : decode cX12_write 41 = .ok (.iload_n 1, 1) := by decide +kernel
theorem dX12_write_42 : decode cX12_write 42 = .ok (.iconst 2, 1) := by decide +kernel
theorem dX12_write_43 : decode cX12_write 43 = .ok (.if_icmp .ne 19, 3) := by decide +kernel
theorem dX12_write_46 : decode cX12_write 46 = .ok (.bipush 100, 2) := by decide +kernel
theorem dX12_write_48 : decode cX12_write 48 = .ok (.bipush 97, 2) := by decide +kernel
theorem dX12_write_50 : decode cX12_write 50 = .ok (.bipush 116, 2) := by decide +kernel
theorem dX12_write_52 : decode cX12_write 52 = .ok (.bipush 97, 2) := by decide +kernel
theorem dX12_write_54 : decode cX12_write 54 = .ok (.bipush 32, 2) := by decide +kernel
theorem dX12_write_56 : decode cX12_write 56 = .ok (.invokestatic 257, 3) := by decide +kernel
theorem dX12_write_59 : decode cX12_write 59 = .ok (.goto 14, 3) := by decide +kernel
theorem dX12_write_62 : decode cX12_write 62 = .ok (.bipush 32, 2) := by decide +kernel
theorem dX12_write_64 : decode cX12_write 64 = .ok (.bipush 124, 2) := by decide +kernel
theorem dX12_write_66 : decode cX12_write 66 = .ok (.bipush 32, 2) := by decide +kernel
theorem dX12_write_68 : decode cX12_write 68 = .ok (.iconst 0, 1) := by decide +kernel
theorem dX12_write_69 : decode cX12_write 69 = .ok (.iconst 0, 1) := by decide +kernel
theorem dX12_write_70 : decode cX12_write 70 = .ok (.invokestatic 257, 3) := by decide +kernel
theorem dX12_write_73 : decode cX12_write 73 = .ok (.invokevirtual 789, 3) := by decide +kernel
theorem dX12_write_76 : decode cX12_write 76 = .ok (.aload_n 0, 1) := by decide +kernel
theorem dX12_write_77 : decode cX12_write 77 = .ok (.aload_n 0, 1) := by decide +kernel
theorem dX12_write_78 : decode cX12_write 78 = .ok (.getfield 59, 3) := by decide +kernel
theorem dX12_write_81 : decode cX12_write 81 = .ok (.iload_n 1, 1) := by decide +kernel
theorem dX12_write_82 : decode cX12_write 82 = .ok (.laload, 1) := by decide +kernel
theorem dX12_write_83 : decode cX12_write 83 = .ok (.invokevirtual 789, 3) := by decide +kernel
theorem dX12_write_86 : decode cX12_write 86 = .ok (.aload_n 0, 1) := by decide +kernel
theorem dX12_write_87 : decode cX12_write 87 = .ok (.bipush 32, 2) := by decide +kernel
theorem dX12_write_89 : decode cX12_write 89 = .ok (.invokevirtual 783, 3) := by decide +kernel
theorem dX12_write_92 : decode cX12_write 92 = .ok (.aload_n 0, 1) := by decide +kernel
theorem dX12_write_93 : decode cX12_write 93 = .ok (.aload_n 0, 1) := by decide +kernel
theorem dX12_write_94 : decode cX12_write 94 = .ok (.getfield 62, 3) := by decide +kernel
theorem dX12_write_97 : decode cX12_write 97 = .ok (.iload_n 1, 1) := by decide +kernel
theorem dX12_write_98 : decode cX12_write 98 = .ok (.iaload, 1) := by decide +kernel
theorem dX12_write_99 : decode cX12_write 99 = .ok (.invokevirtual 786, 3) := by decide +kernel
theorem dX12_write_102 : decode cX12_write 102 = .ok (.iinc 1 1, 3) := by decide +kernel
theorem dX12_write_105 : decode cX12_write 105 = .ok (.goto (-73), 3) := by decide +kernel
theorem dX12_write_108 : decode cX12_write 108 = .ok (.aload_n 0, 1) := by decide +kernel
theorem dX12_write_109 : decode cX12_write 109 = .ok (.getfield 348, 3) := by decide +kernel
theorem dX12_write_112 : decode cX12_write 112 = .ok (.iconst 2, 1) := by decide +kernel
theorem dX12_write_113 : decode cX12_write 113 = .ok (.if_icmp .le 15, 3) := by decide +kernel
theorem dX12_write_116 : decode cX12_write 116 = .ok (.aload_n 0, 1) := by decide +kernel
theorem dX12_write_117 : decode cX12_write 117 = .ok (.bipush 59, 2) := by decide +kernel
theorem dX12_write_119 : decode cX12_write 119 = .ok (.invokevirtual 783, 3) := by decide +kernel
theorem dX12_write_122 : decode cX12_write 122 = .ok (.aload_n 0, 1) := by decide +kernel
theorem dX12_write_123 : decode cX12_write 123 = .ok (.bipush 10, 2) := by decide +kernel
theorem dX12_write_125 : decode cX12_write 125 = .ok (.invokevirtual 783, 3) := by decide +kernel
theorem dX12_write_128 : decode cX12_write 128 = .ok (.iconst 0, 1) := by decide +kernel
theorem dX12_write_129 : decode cX12_write 129 = .ok (.istore_n 1, 1) := by decide +kernel
theorem dX12_write_130 : decode cX12_write 130 = .ok (.iload_n 1, 1) := by decide +kernel
theorem dX12_write_131 : decode cX12_write 131 = .ok (.aload_n 0, 1) := by decide +kernel
theorem dX12_write_132 : decode cX12_write 132 = .ok (.getfield 486, 3) := by decide +kernel
theorem dX12_write_135 : decode cX12_write 135 = .ok (.if_icmp .ge 80, 3) := by decide +kernel
theorem dX12_write_138 : decode cX12_write 138 = .ok (.aload_n 0, 1) := by decide +kernel
theorem dX12_write_139 : decode cX12_write 139 = .ok (.iload_n 1, 1) := by decide +kernel
theorem dX12_write_140 : decode cX12_write 140 = .ok (.invokevirtual 801, 3) := by decide +kernel
theorem dX12_write_143 : decode cX12_write 143 = .ok (.iconst 0, 1) := by decide +kernel
theorem dX12_write_144 : decode cX12_write 144 = .ok (.istore_n 2, 1) := by decide +kernel
theorem dX12_write_145 : decode cX12_write 145 = .ok (.iload_n 2, 1) := by decide +kernel
theorem dX12_write_146 : decode cX12_write 146 = .ok (.aload_n 0, 1) := by decide +kernel
theorem dX12_write_147 : decode cX12_write 147 = .ok (.getfield 171, 3) := by decide +kernel
theorem dX12_write_150 : decode cX12_write 150 = .ok (.iload_n 1, 1) := by decide +kernel
theorem dX12_write_151 : decode cX12_write 151 = .ok (.iaload, 1) := by decide +kernel
theorem dX12_write_152 : decode cX12_write 152 = .ok (.if_icmp .ge 20, 3) := by decide +kernel
theorem dX12_write_155 : decode cX12_write 155 = .ok (.aload_n 0, 1) := by decide +kernel
theorem dX12_write_156 : decode cX12_write 156 = .ok (.bipush 32, 2) := by decide +kernel
theorem dX12_write_158 : decode cX12_write 158 = .ok (.invokevirtual 783, 3) := by decide +kernel
theorem dX12_write_161 : decode cX12_write 161 = .ok (.aload_n 0, 1) := by decide +kernel
theorem dX12_write_162 : decode cX12_write 162 = .ok (.iload_n 2, 1) := by decide +kernel
theorem dX12_write_163 : decode cX12_write 163 = .ok (.invokevirtual 792, 3) := by decide +kernel
theorem dX12_write_166 : decode cX12_write 166 = .ok (.iinc 2 1, 3) := by decide +kernel
theorem dX12_write_169 : decode cX12_write 169 = .ok (.goto (-24), 3) := by decide +kernel
theorem dX12_write_172 : decode cX12_write 172 = .ok (.aload_n 0, 1) := by decide +kernel
theorem dX12_write_173 : decode cX12_write 173 = .ok (.bipush 32, 2) := by decide +kernel
theorem dX12_write_175 : decode cX12_write 175 = .ok (.bipush 61, 2) := by decide +kernel
theorem dX12_write_177 : decode cX12_write 177 = .ok (.bipush 32, 2) := by decide +kernel
theorem dX12_write_179 : decode cX12_write 179 = .ok (.iconst 0, 1) := by decide +kernel
theorem dX12_write_180 : decode cX12_write 180 = .ok (.iconst 0, 1) := by decide +kernel
theorem dX12_write_181 : decode cX12_write 181 = .ok (.invokestatic 257, 3) := by decide +kernel
theorem dX12_write_184 : decode cX12_write 184 = .ok (.invokevirtual 789, 3) := by decide +kernel
theorem dX12_write_187 : decode cX12_write 187 = .ok (.aload_n 0, 1) := by decide +kernel
theorem dX12_write_188 : decode cX12_write 188 = .ok (.aload_n 0, 1) := by decide +kernel
theorem dX12_write_189 : decode cX12_write 189 = .ok (.getfield 165, 3) := by decide +kernel
theorem dX12_write_192 : decode cX12_write 192 = .ok (.iload_n 1, 1) := by decide +kernel
theorem dX12_write_193 : decode cX12_write 193 = .ok (.iaload, 1) := by decide +kernel
theorem dX12_write_194 : decode cX12_write 194 = .ok (.invokevirtual 808, 3) := by decide +kernel
theorem dX12_write_197 : decode cX12_write 197 = .ok (.aload_n 0, 1) := by decide +kernel
theorem dX12_write_198 : decode cX12_write 198 = .ok (.bipush 59, 2) := by decide +kernel
theorem dX12_write_200 : decode cX12_write 200 = .ok (.invokevirtual 783, 3) := by decide +kernel
theorem dX12_write_203 : decode cX12_write 203 = .ok (.aload_n 0, 1) := by decide +kernel
theorem dX12_write_204 : decode cX12_write 204 = .ok (.bipush 10, 2) := by decide +kernel
theorem dX12_write_206 : decode cX12_write 206 = .ok (.invokevirtual 783, 3) := by decide +kernel
theorem dX12_write_209 : decode cX12_write 209 = .ok (.iinc 1 1, 3) := by decide +kernel
theorem dX12_write_212 : decode cX12_write 212 = .ok (.goto (-82), 3) := by decide +kernel
theorem dX12_write_215 : decode cX12_write 215 = .ok (.aload_n 0, 1) := by decide +kernel
theorem dX12_write_216 : decode cX12_write 216 = .ok (.getfield 780, 3) := by decide +kernel
theorem dX12_write_219 : decode cX12_write 219 = .ok (.sipush 12000, 3) := by decide +kernel
theorem dX12_write_222 : decode cX12_write 222 = .ok (.if_icmp .le 5, 3) := by decide +kernel
theorem dX12_write_225 : decode cX12_write 225 = .ok (.iconst (-1), 1) := by decide +kernel
theorem dX12_write_226 : decode cX12_write 226 = .ok (.ireturn, 1) := by decide +kernel
theorem dX12_write_227 : decode cX12_write 227 = .ok (.iconst 0, 1) := by decide +kernel
theorem dX12_write_228 : decode cX12_write 228 = .ok (.istore_n 1, 1) := by decide +kernel
theorem dX12_write_229 : decode cX12_write 229 = .ok (.iload_n 1, 1) := by decide +kernel
theorem dX12_write_230 : decode cX12_write 230 = .ok (.aload_n 0, 1) := by decide +kernel
theorem dX12_write_231 : decode cX12_write 231 = .ok (.getfield 780, 3) := by decide +kernel
theorem dX12_write_234 : decode cX12_write 234 = .ok (.if_icmp .ge 21, 3) := by decide +kernel
theorem dX12_write_237 : decode cX12_write 237 = .ok (.aload_n 0, 1) := by decide +kernel
theorem dX12_write_238 : decode cX12_write 238 = .ok (.getfield 13, 3) := by decide +kernel
theorem dX12_write_241 : decode cX12_write 241 = .ok (.iload_n 1, 1) := by decide +kernel
theorem dX12_write_242 : decode cX12_write 242 = .ok (.aload_n 0, 1) := by decide +kernel
theorem dX12_write_243 : decode cX12_write 243 = .ok (.getfield 248, 3) := by decide +kernel
theorem dX12_write_246 : decode cX12_write 246 = .ok (.iload_n 1, 1) := by decide +kernel
theorem dX12_write_247 : decode cX12_write 247 = .ok (.iaload, 1) := by decide +kernel
theorem dX12_write_248 : decode cX12_write 248 = .ok (.iastore, 1) := by decide +kernel
theorem dX12_write_249 : decode cX12_write 249 = .ok (.iinc 1 1, 3) := by decide +kernel
theorem dX12_write_252 : decode cX12_write 252 = .ok (.goto (-23), 3) := by decide +kernel
theorem dX12_write_255 : decode cX12_write 255 = .ok (.aload_n 0, 1) := by decide +kernel
theorem dX12_write_256 : decode cX12_write 256 = .ok (.aload_n 0, 1) := by decide +kernel
theorem dX12_write_257 : decode cX12_write 257 = .ok (.getfield 780, 3) := by decide +kernel
theorem dX12_write_260 : decode cX12_write 260 = .ok (.putfield 777, 3) := by decide +kernel
theorem dX12_write_263 : decode cX12_write 263 = .ok (.aload_n 0, 1) := by decide +kernel
theorem dX12_write_264 : decode cX12_write 264 = .ok (.getfield 777, 3) := by decide +kernel
theorem dX12_write_267 : decode cX12_write 267 = .ok (.ireturn, 1) := by decide +kernel
def pkS (v : Int64) (b : Int32) : Int64 := if b = 0 then v else (v <<< ((8 : Int32).toInt64 &&& 63)) ||| b.toInt64
def pk5 (a b c d e : Int32) : Int64 := pkS (pkS (pkS (pkS a.toInt64 b) c) d) e
set_option maxHeartbeats 4000000 in
set_option maxRecDepth 100000 in
/-- Model.pack -/
theorem kX12_pack (l : Launch) (dC : Nat → ClassId) (dI : Nat → Nat → Nat) (sz : Nat) (a b c9 d e9 : Int32) : Met l yX12_pack (Cond.code yX12_pack cX12_pack 7 (some .long) :: uG) ({ frames := 0, cells := 0, slots := 0, locals := 0 }) (va_Pc [.int a, .int b, .int c9, .int d, .int e9] (fun U => U.heap.size = sz ∧ va_P (dC, dI) vwCl [] U.heap ∧ va_K (dC, dI) vwCl [] U ∧ va_D (fun _ => True) [])) (va_Ql (S := Unit) (fun r _ => r = (pk5 a b c9 d e9)) (fun _ t => va_P (dC, dI) vwCl [] t.heap ∧ va_K (dC, dI) vwCl [] t ∧ va_D (va_A [] sz) []) (va_A [] sz)) 0 0 (va_A [] sz) := by
  refine Met.ofW (cc := cX12_pack) (maxL := 7) (ret := (some .long)) (by decide) rfl ?_
  intro pG eV s m args below meth c s₁ B hml hv
  obtain ⟨rfl, hsz, hP, hK, hD0⟩ := hv
  have hx := B.exec
  have hb := B.bytes
  have hr := B.returns
  have hts := atoms_spec (ws := Cond.code yX12_pack cX12_pack 7 (some .long) :: uG) B.pre
  have hu := fun (w : Cond) (h : w ∈ uG) => hts w (List.mem_cons_of_mem _ h)
  have hown : s.vm.findClass RX12 = some m.cls := findClass_of_methodNamed B.named
  have hlocks := B.notSynchronized
  subst hsz
  have hD := hD0.self (sz := s.heap.size)
  generalize hAe : va_A [] s.heap.size = A at hD ⊢
  have hA : ∀ q : Nat, s.heap.size ≤ q → A q := fun q h => by rw [← hAe]; exact Or.inr h
  have hS : va_S A s.heap s.heap [] := va_S.rf
  have hP : va_P (dC, dI) vwCl [] s.heap := hP
  have hD : va_D A [] := hD
  have hl := lv_entry ([.int a, .int b, .int c9, .int d, .int e9]) (n := 7) (Nat.le_of_ble_eq_true rfl)
  rw [lg_entry_eq]
  generalize (lg_sl ([.int a, .int b, .int c9, .int d, .int e9]) ++ List.replicate (7 - (lg_sl ([.int a, .int b, .int c9, .int d, .int e9])).length) Slot.unset).toArray = ls at hl ⊢
  have hl : lv_has ls 7 [(0, .int a), (1, .int b), (2, .int c9), (3, .int d), (4, .int e9)] := hl
  refine lv_iload_n hx hb dX12_pack_0 rfl (lv_at hl 0 rfl) ?_
  refine lv_i2l hx hb dX12_pack_1 rfl ?_
  refine lv_topl (fun x1 ex1 => ?_)
  refine lv_lstore (lv' := [(5, .long x1), (0, .int a), (1, .int b), (2, .int c9), (3, .int d), (4, .int e9)]) hx hb dX12_pack_2 hl (by decide) rfl (fun ls hl => ?_)
  refine lv_iload_n hx hb dX12_pack_4 rfl (lv_at hl 2 rfl) ?_
  refine lv_if_ne (tgt := 13) hx hb dX12_pack_5 (by decide) (fun c5 => ?_) (fun c5 => ?_)
  · refine lv_lload hx hb dX12_pack_13 (lv_at hl 0 rfl) ?_
    refine lv_bipush (v := 8) hx hb dX12_pack_15 (by decide) ?_
    refine lv_lshl hx hb dX12_pack_17 rfl ?_
    refine lv_topl (fun x17 ex17 => ?_)
    refine lv_iload_n hx hb dX12_pack_18 rfl (lv_at hl 2 rfl) ?_
    refine lv_i2l hx hb dX12_pack_19 rfl ?_
    refine lv_topl (fun x19 ex19 => ?_)
    refine lv_lor hx hb dX12_pack_20 ?_
    refine lv_topl (fun x20 ex20 => ?_)
    refine lv_lstore (lv' := [(5, .long x20), (0, .int a), (1, .int b), (2, .int c9), (3, .int d), (4, .int e9)]) hx hb dX12_pack_21 hl (by decide) rfl (fun ls hl => ?_)
    refine lv_iload_n hx hb dX12_pack_23 rfl (lv_at hl 3 rfl) ?_
    refine lv_if_ne (tgt := 32) hx hb dX12_pack_24 (by decide) (fun c24 => ?_) (fun c24 => ?_)
    · refine lv_lload hx hb dX12_pack_32 (lv_at hl 0 rfl) ?_
      refine lv_bipush (v := 8) hx hb dX12_pack_34 (by decide) ?_
      refine lv_lshl hx hb dX12_pack_36 rfl ?_
      refine lv_topl (fun x36 ex36 => ?_)
      refine lv_iload_n hx hb dX12_pack_37 rfl (lv_at hl 3 rfl) ?_
      refine lv_i2l hx hb dX12_pack_38 rfl ?_
      refine lv_topl (fun x38 ex38 => ?_)
      refine lv_lor hx hb dX12_pack_39 ?_
      refine lv_topl (fun x39 ex39 => ?_)
      refine lv_lstore (lv' := [(5, .long x39), (0, .int a), (1, .int b), (2, .int c9), (3, .int d), (4, .int e9)]) hx hb dX12_pack_40 hl (by decide) rfl (fun ls hl => ?_)
      refine lv_iload_n hx hb dX12_pack_42 rfl (lv_at hl 4 rfl) ?_
      refine lv_if_ne (tgt := 51) hx hb dX12_pack_43 (by decide) (fun c43 => ?_) (fun c43 => ?_)
      · refine lv_lload hx hb dX12_pack_51 (lv_at hl 0 rfl) ?_
        refine lv_bipush (v := 8) hx hb dX12_pack_53 (by decide) ?_
        refine lv_lshl hx hb dX12_pack_55 rfl ?_
        refine lv_topl (fun x55 ex55 => ?_)
        refine lv_iload_n hx hb dX12_pack_56 rfl (lv_at hl 4 rfl) ?_
        refine lv_i2l hx hb dX12_pack_57 rfl ?_
        refine lv_topl (fun x57 ex57 => ?_)
        refine lv_lor hx hb dX12_pack_58 ?_
        refine lv_topl (fun x58 ex58 => ?_)
        refine lv_lstore (lv' := [(5, .long x58), (0, .int a), (1, .int b), (2, .int c9), (3, .int d), (4, .int e9)]) hx hb dX12_pack_59 hl (by decide) rfl (fun ls hl => ?_)
        refine lv_iload hx hb dX12_pack_61 (lv_at hl 5 rfl) ?_
        refine lv_if_ne (tgt := 71) hx hb dX12_pack_63 (by decide) (fun c63 => ?_) (fun c63 => ?_)
        · refine lv_lload hx hb dX12_pack_71 (lv_at hl 0 rfl) ?_
          refine lv_bipush (v := 8) hx hb dX12_pack_73 (by decide) ?_
          refine lv_lshl hx hb dX12_pack_75 rfl ?_
          refine lv_topl (fun x75 ex75 => ?_)
          refine lv_iload hx hb dX12_pack_76 (lv_at hl 5 rfl) ?_
          refine lv_i2l hx hb dX12_pack_78 rfl ?_
          refine lv_topl (fun x78 ex78 => ?_)
          refine lv_lor hx hb dX12_pack_79 ?_
          refine lv_topl (fun x79 ex79 => ?_)
          have hP9 : va_P (dC, dI) vwCl [] s.heap := by exact hP
          have hD9 : va_D A [] := by exact hD
          have hK9 := hK.sub (tys' := []) [] rfl
          exact W.lret (v := x79) hx hb hr (fun t ht hW => ⟨⟨x79, (), rfl, by simp only [pk5, pkS, if_neg c5, if_neg c24, if_neg c43, if_neg c63]; simp only [ex79, ex78, ex75, ex58, ex57, ex55, ex39, ex38, ex36, ex20, ex19, ex17, ex1], by rw [ht]; exact hP9, va_K.moved hW.alike hK9, hD9⟩, hS.F ht⟩) hS.2.2 dX12_pack_80
        · refine lv_lload hx hb dX12_pack_66 (lv_at hl 0 rfl) ?_
          refine lv_goto (tgt := 80) hx hb dX12_pack_68 (by decide) ?_
          have hP9 : va_P (dC, dI) vwCl [] s.heap := by exact hP
          have hD9 : va_D A [] := by exact hD
          have hK9 := hK.sub (tys' := []) [] rfl
          exact W.lret (v := x58) hx hb hr (fun t ht hW => ⟨⟨x58, (), rfl, by simp only [pk5, pkS, if_neg c5, if_neg c24, if_neg c43, if_pos c63]; simp only [ex58, ex57, ex55, ex39, ex38, ex36, ex20, ex19, ex17, ex1], by rw [ht]; exact hP9, va_K.moved hW.alike hK9, hD9⟩, hS.F ht⟩) hS.2.2 dX12_pack_80
      · refine lv_lload hx hb dX12_pack_46 (lv_at hl 0 rfl) ?_
        refine lv_goto (tgt := 59) hx hb dX12_pack_48 (by decide) ?_
        refine lv_lstore (lv' := [(5, .long x39), (0, .int a), (1, .int b), (2, .int c9), (3, .int d), (4, .int e9)]) hx hb dX12_pack_59 hl (by decide) rfl (fun ls hl => ?_)
        refine lv_iload hx hb dX12_pack_61 (lv_at hl 5 rfl) ?_
        refine lv_if_ne (tgt := 71) hx hb dX12_pack_63 (by decide) (fun c63 => ?_) (fun c63 => ?_)
        · refine lv_lload hx hb dX12_pack_71 (lv_at hl 0 rfl) ?_
          refine lv_bipush (v := 8) hx hb dX12_pack_73 (by decide) ?_
          refine lv_lshl hx hb dX12_pack_75 rfl ?_
          refine lv_topl (fun x75 ex75 => ?_)
          refine lv_iload hx hb dX12_pack_76 (lv_at hl 5 rfl) ?_
          refine lv_i2l hx hb dX12_pack_78 rfl ?_
          refine lv_topl (fun x78 ex78 => ?_)
          refine lv_lor hx hb dX12_pack_79 ?_
          refine lv_topl (fun x79 ex79 => ?_)
          have hP9 : va_P (dC, dI) vwCl [] s.heap := by exact hP
          have hD9 : va_D A [] := by exact hD
          have hK9 := hK.sub (tys' := []) [] rfl
          exact W.lret (v := x79) hx hb hr (fun t ht hW => ⟨⟨x79, (), rfl, by simp only [pk5, pkS, if_neg c5, if_neg c24, if_pos c43, if_neg c63]; simp only [ex79, ex78, ex75, ex39, ex38, ex36, ex20, ex19, ex17, ex1], by rw [ht]; exact hP9, va_K.moved hW.alike hK9, hD9⟩, hS.F ht⟩) hS.2.2 dX12_pack_80
        · refine lv_lload hx hb dX12_pack_66 (lv_at hl 0 rfl) ?_
          refine lv_goto (tgt := 80) hx hb dX12_pack_68 (by decide) ?_
          have hP9 : va_P (dC, dI) vwCl [] s.heap := by exact hP
          have hD9 : va_D A [] := by exact hD
          have hK9 := hK.sub (tys' := []) [] rfl
          exact W.lret (v := x39) hx hb hr (fun t ht hW => ⟨⟨x39, (), rfl, by simp only [pk5, pkS, if_neg c5, if_neg c24, if_pos c43, if_pos c63]; simp only [ex39, ex38, ex36, ex20, ex19, ex17, ex1], by rw [ht]; exact hP9, va_K.moved hW.alike hK9, hD9⟩, hS.F ht⟩) hS.2.2 dX12_pack_80
    · refine lv_lload hx hb dX12_pack_27 (lv_at hl 0 rfl) ?_
      refine lv_goto (tgt := 40) hx hb dX12_pack_29 (by decide) ?_
      refine lv_lstore (lv' := [(5, .long x20), (0, .int a), (1, .int b), (2, .int c9), (3, .int d), (4, .int e9)]) hx hb dX12_pack_40 hl (by decide) rfl (fun ls hl => ?_)
      refine lv_iload_n hx hb dX12_pack_42 rfl (lv_at hl 4 rfl) ?_
      refine lv_if_ne (tgt := 51) hx hb dX12_pack_43 (by decide) (fun c43 => ?_) (fun c43 => ?_)
      · refine lv_lload hx hb dX12_pack_51 (lv_at hl 0 rfl) ?_
        refine lv_bipush (v := 8) hx hb dX12_pack_53 (by decide) ?_
        refine lv_lshl hx hb dX12_pack_55 rfl ?_
        refine lv_topl (fun x55 ex55 => ?_)
        refine lv_iload_n hx hb dX12_pack_56 rfl (lv_at hl 4 rfl) ?_
        refine lv_i2l hx hb dX12_pack_57 rfl ?_
        refine lv_topl (fun x57 ex57 => ?_)
        refine lv_lor hx hb dX12_pack_58 ?_
        refine lv_topl (fun x58 ex58 => ?_)
        refine lv_lstore (lv' := [(5, .long x58), (0, .int a), (1, .int b), (2, .int c9), (3, .int d), (4, .int e9)]) hx hb dX12_pack_59 hl (by decide) rfl (fun ls hl => ?_)
        refine lv_iload hx hb dX12_pack_61 (lv_at hl 5 rfl) ?_
        refine lv_if_ne (tgt := 71) hx hb dX12_pack_63 (by decide) (fun c63 => ?_) (fun c63 => ?_)
        · refine lv_lload hx hb dX12_pack_71 (lv_at hl 0 rfl) ?_
          refine lv_bipush (v := 8) hx hb dX12_pack_73 (by decide) ?_
          refine lv_lshl hx hb dX12_pack_75 rfl ?_
          refine lv_topl (fun x75 ex75 => ?_)
          refine lv_iload hx hb dX12_pack_76 (lv_at hl 5 rfl) ?_
          refine lv_i2l hx hb dX12_pack_78 rfl ?_
          refine lv_topl (fun x78 ex78 => ?_)
          refine lv_lor hx hb dX12_pack_79 ?_
          refine lv_topl (fun x79 ex79 => ?_)
          have hP9 : va_P (dC, dI) vwCl [] s.heap := by exact hP
          have hD9 : va_D A [] := by exact hD
          have hK9 := hK.sub (tys' := []) [] rfl
          exact W.lret (v := x79) hx hb hr (fun t ht hW => ⟨⟨x79, (), rfl, by simp only [pk5, pkS, if_neg c5, if_pos c24, if_neg c43, if_neg c63]; simp only [ex79, ex78, ex75, ex58, ex57, ex55, ex20, ex19, ex17, ex1], by rw [ht]; exact hP9, va_K.moved hW.alike hK9, hD9⟩, hS.F ht⟩) hS.2.2 dX12_pack_80
        · refine lv_lload hx hb dX12_pack_66 (lv_at hl 0 rfl) ?_
          refine lv_goto (tgt := 80) hx hb dX12_pack_68 (by decide) ?_
          have hP9 : va_P (dC, dI) vwCl [] s.heap := by exact hP
          have hD9 : va_D A [] := by exact hD
          have hK9 := hK.sub (tys' := []) [] rfl
          exact W.lret (v := x58) hx hb hr (fun t ht hW => ⟨⟨x58, (), rfl, by simp only [pk5, pkS, if_neg c5, if_pos c24, if_neg c43, if_pos c63]; simp only [ex58, ex57, ex55, ex20, ex19, ex17, ex1], by rw [ht]; exact hP9, va_K.moved hW.alike hK9, hD9⟩, hS.F ht⟩) hS.2.2 dX12_pack_80
      · refine lv_lload hx hb dX12_pack_46 (lv_at hl 0 rfl) ?_
        refine lv_goto (tgt := 59) hx hb dX12_pack_48 (by decide) ?_
        refine lv_lstore (lv' := [(5, .long x20), (0, .int a), (1, .int b), (2, .int c9), (3, .int d), (4, .int e9)]) hx hb dX12_pack_59 hl (by decide) rfl (fun ls hl => ?_)
        refine lv_iload hx hb dX12_pack_61 (lv_at hl 5 rfl) ?_
        refine lv_if_ne (tgt := 71) hx hb dX12_pack_63 (by decide) (fun c63 => ?_) (fun c63 => ?_)
        · refine lv_lload hx hb dX12_pack_71 (lv_at hl 0 rfl) ?_
          refine lv_bipush (v := 8) hx hb dX12_pack_73 (by decide) ?_
          refine lv_lshl hx hb dX12_pack_75 rfl ?_
          refine lv_topl (fun x75 ex75 => ?_)
          refine lv_iload hx hb dX12_pack_76 (lv_at hl 5 rfl) ?_
          refine lv_i2l hx hb dX12_pack_78 rfl ?_
          refine lv_topl (fun x78 ex78 => ?_)
          refine lv_lor hx hb dX12_pack_79 ?_
          refine lv_topl (fun x79 ex79 => ?_)
          have hP9 : va_P (dC, dI) vwCl [] s.heap := by exact hP
          have hD9 : va_D A [] := by exact hD
          have hK9 := hK.sub (tys' := []) [] rfl
          exact W.lret (v := x79) hx hb hr (fun t ht hW => ⟨⟨x79, (), rfl, by simp only [pk5, pkS, if_neg c5, if_pos c24, if_pos c43, if_neg c63]; simp only [ex79, ex78, ex75, ex20, ex19, ex17, ex1], by rw [ht]; exact hP9, va_K.moved hW.alike hK9, hD9⟩, hS.F ht⟩) hS.2.2 dX12_pack_80
        · refine lv_lload hx hb dX12_pack_66 (lv_at hl 0 rfl) ?_
          refine lv_goto (tgt := 80) hx hb dX12_pack_68 (by decide) ?_
          have hP9 : va_P (dC, dI) vwCl [] s.heap := by exact hP
          have hD9 : va_D A [] := by exact hD
          have hK9 := hK.sub (tys' := []) [] rfl
          exact W.lret (v := x20) hx hb hr (fun t ht hW => ⟨⟨x20, (), rfl, by simp only [pk5, pkS, if_neg c5, if_pos c24, if_pos c43, if_pos c63]; simp only [ex20, ex19, ex17, ex1], by rw [ht]; exact hP9, va_K.moved hW.alike hK9, hD9⟩, hS.F ht⟩) hS.2.2 dX12_pack_80
  · refine lv_lload hx hb dX12_pack_8 (lv_at hl 0 rfl) ?_
    refine lv_goto (tgt := 21) hx hb dX12_pack_10 (by decide) ?_
    refine lv_lstore (lv' := [(5, .long x1), (0, .int a), (1, .int b), (2, .int c9), (3, .int d), (4, .int e9)]) hx hb dX12_pack_21 hl (by decide) rfl (fun ls hl => ?_)
    refine lv_iload_n hx hb dX12_pack_23 rfl (lv_at hl 3 rfl) ?_
    refine lv_if_ne (tgt := 32) hx hb dX12_pack_24 (by decide) (fun c24 => ?_) (fun c24 => ?_)
    · refine lv_lload hx hb dX12_pack_32 (lv_at hl 0 rfl) ?_
      refine lv_bipush (v := 8) hx hb dX12_pack_34 (by decide) ?_
      refine lv_lshl hx hb dX12_pack_36 rfl ?_
      refine lv_topl (fun x36 ex36 => ?_)
      refine lv_iload_n hx hb dX12_pack_37 rfl (lv_at hl 3 rfl) ?_
      refine lv_i2l hx hb dX12_pack_38 rfl ?_
      refine lv_topl (fun x38 ex38 => ?_)
      refine lv_lor hx hb dX12_pack_39 ?_
      refine lv_topl (fun x39 ex39 => ?_)
      refine lv_lstore (lv' := [(5, .long x39), (0, .int a), (1, .int b), (2, .int c9), (3, .int d), (4, .int e9)]) hx hb dX12_pack_40 hl (by decide) rfl (fun ls hl => ?_)
      refine lv_iload_n hx hb dX12_pack_42 rfl (lv_at hl 4 rfl) ?_
      refine lv_if_ne (tgt := 51) hx hb dX12_pack_43 (by decide) (fun c43 => ?_) (fun c43 => ?_)
      · refine lv_lload hx hb dX12_pack_51 (lv_at hl 0 rfl) ?_
        refine lv_bipush (v := 8) hx hb dX12_pack_53 (by decide) ?_
        refine lv_lshl hx hb dX12_pack_55 rfl ?_
        refine lv_topl (fun x55 ex55 => ?_)
        refine lv_iload_n hx hb dX12_pack_56 rfl (lv_at hl 4 rfl) ?_
        refine lv_i2l hx hb dX12_pack_57 rfl ?_
        refine lv_topl (fun x57 ex57 => ?_)
        refine lv_lor hx hb dX12_pack_58 ?_
        refine lv_topl (fun x58 ex58 => ?_)
        refine lv_lstore (lv' := [(5, .long x58), (0, .int a), (1, .int b), (2, .int c9), (3, .int d), (4, .int e9)]) hx hb dX12_pack_59 hl (by decide) rfl (fun ls hl => ?_)
        refine lv_iload hx hb dX12_pack_61 (lv_at hl 5 rfl) ?_
        refine lv_if_ne (tgt := 71) hx hb dX12_pack_63 (by decide) (fun c63 => ?_) (fun c63 => ?_)
        · refine lv_lload hx hb dX12_pack_71 (lv_at hl 0 rfl) ?_
          refine lv_bipush (v := 8) hx hb dX12_pack_73 (by decide) ?_
          refine lv_lshl hx hb dX12_pack_75 rfl ?_
          refine lv_topl (fun x75 ex75 => ?_)
          refine lv_iload hx hb dX12_pack_76 (lv_at hl 5 rfl) ?_
          refine lv_i2l hx hb dX12_pack_78 rfl ?_
          refine lv_topl (fun x78 ex78 => ?_)
          refine lv_lor hx hb dX12_pack_79 ?_
          refine lv_topl (fun x79 ex79 => ?_)
          have hP9 : va_P (dC, dI) vwCl [] s.heap := by exact hP
          have hD9 : va_D A [] := by exact hD
          have hK9 := hK.sub (tys' := []) [] rfl
          exact W.lret (v := x79) hx hb hr (fun t ht hW => ⟨⟨x79, (), rfl, by simp only [pk5, pkS, if_pos c5, if_neg c24, if_neg c43, if_neg c63]; simp only [ex79, ex78, ex75, ex58, ex57, ex55, ex39, ex38, ex36, ex1], by rw [ht]; exact hP9, va_K.moved hW.alike hK9, hD9⟩, hS.F ht⟩) hS.2.2 dX12_pack_80
        · refine lv_lload hx hb dX12_pack_66 (lv_at hl 0 rfl) ?_
          refine lv_goto (tgt := 80) hx hb dX12_pack_68 (by decide) ?_
          have hP9 : va_P (dC, dI) vwCl [] s.heap := by exact hP
          have hD9 : va_D A [] := by exact hD
          have hK9 := hK.sub (tys' := []) [] rfl
          exact W.lret (v := x58) hx hb hr (fun t ht hW => ⟨⟨x58, (), rfl, by simp only [pk5, pkS, if_pos c5, if_neg c24, if_neg c43, if_pos c63]; simp only [ex58, ex57, ex55, ex39, ex38, ex36, ex1], by rw [ht]; exact hP9, va_K.moved hW.alike hK9, hD9⟩, hS.F ht⟩) hS.2.2 dX12_pack_80
      · refine lv_lload hx hb dX12_pack_46 (lv_at hl 0 rfl) ?_
        refine lv_goto (tgt := 59) hx hb dX12_pack_48 (by decide) ?_
        refine lv_lstore (lv' := [(5, .long x39), (0, .int a), (1, .int b), (2, .int c9), (3, .int d), (4, .int e9)]) hx hb dX12_pack_59 hl (by decide) rfl (fun ls hl => ?_)
        refine lv_iload hx hb dX12_pack_61 (lv_at hl 5 rfl) ?_
        refine lv_if_ne (tgt := 71) hx hb dX12_pack_63 (by decide) (fun c63 => ?_) (fun c63 => ?_)
        · refine lv_lload hx hb dX12_pack_71 (lv_at hl 0 rfl) ?_
          refine lv_bipush (v := 8) hx hb dX12_pack_73 (by decide) ?_
          refine lv_lshl hx hb dX12_pack_75 rfl ?_
          refine lv_topl (fun x75 ex75 => ?_)
          refine lv_iload hx hb dX12_pack_76 (lv_at hl 5 rfl) ?_
          refine lv_i2l hx hb dX12_pack_78 rfl ?_
          refine lv_topl (fun x78 ex78 => ?_)
          refine lv_lor hx hb dX12_pack_79 ?_
          refine lv_topl (fun x79 ex79 => ?_)
          have hP9 : va_P (dC, dI) vwCl [] s.heap := by exact hP
          have hD9 : va_D A [] := by exact hD
          have hK9 := hK.sub (tys' := []) [] rfl
          exact W.lret (v := x79) hx hb hr (fun t ht hW => ⟨⟨x79, (), rfl, by simp only [pk5, pkS, if_pos c5, if_neg c24, if_pos c43, if_neg c63]; simp only [ex79, ex78, ex75, ex39, ex38, ex36, ex1], by rw [ht]; exact hP9, va_K.moved hW.alike hK9, hD9⟩, hS.F ht⟩) hS.2.2 dX12_pack_80
        · refine lv_lload hx hb dX12_pack_66 (lv_at hl 0 rfl) ?_
          refine lv_goto (tgt := 80) hx hb dX12_pack_68 (by decide) ?_
          have hP9 : va_P (dC, dI) vwCl [] s.heap := by exact hP
          have hD9 : va_D A [] := by exact hD
          have hK9 := hK.sub (tys' := []) [] rfl
          exact W.lret (v := x39) hx hb hr (fun t ht hW => ⟨⟨x39, (), rfl, by simp only [pk5, pkS, if_pos c5, if_neg c24, if_pos c43, if_pos c63]; simp only [ex39, ex38, ex36, ex1], by rw [ht]; exact hP9, va_K.moved hW.alike hK9, hD9⟩, hS.F ht⟩) hS.2.2 dX12_pack_80
    · refine lv_lload hx hb dX12_pack_27 (lv_at hl 0 rfl) ?_
      refine lv_goto (tgt := 40) hx hb dX12_pack_29 (by decide) ?_
      refine lv_lstore (lv' := [(5, .long x1), (0, .int a), (1, .int b), (2, .int c9), (3, .int d), (4, .int e9)]) hx hb dX12_pack_40 hl (by decide) rfl (fun ls hl => ?_)
      refine lv_iload_n hx hb dX12_pack_42 rfl (lv_at hl 4 rfl) ?_
      refine lv_if_ne (tgt := 51) hx hb dX12_pack_43 (by decide) (fun c43 => ?_) (fun c43 => ?_)
      · refine lv_lload hx hb dX12_pack_51 (lv_at hl 0 rfl) ?_
        refine lv_bipush (v := 8) hx hb dX12_pack_53 (by decide) ?_
        refine lv_lshl hx hb dX12_pack_55 rfl ?_
        refine lv_topl (fun x55 ex55 => ?_)
        refine lv_iload_n hx hb dX12_pack_56 rfl (lv_at hl 4 rfl) ?_
        refine lv_i2l hx hb dX12_pack_57 rfl ?_
        refine lv_topl (fun x57 ex57 => ?_)
        refine lv_lor hx hb dX12_pack_58 ?_
        refine lv_topl (fun x58 ex58 => ?_)
        refine lv_lstore (lv' := [(5, .long x58), (0, .int a), (1, .int b), (2, .int c9), (3, .int d), (4, .int e9)]) hx hb dX12_pack_59 hl (by decide) rfl (fun ls hl => ?_)
        refine lv_iload hx hb dX12_pack_61 (lv_at hl 5 rfl) ?_
        refine lv_if_ne (tgt := 71) hx hb dX12_pack_63 (by decide) (fun c63 => ?_) (fun c63 => ?_)
        · refine lv_lload hx hb dX12_pack_71 (lv_at hl 0 rfl) ?_
          refine lv_bipush (v := 8) hx hb dX12_pack_73 (by decide) ?_
          refine lv_lshl hx hb dX12_pack_75 rfl ?_
          refine lv_topl (fun x75 ex75 => ?_)
          refine lv_iload hx hb dX12_pack_76 (lv_at hl 5 rfl) ?_
          refine lv_i2l hx hb dX12_pack_78 rfl ?_
          refine lv_topl (fun x78 ex78 => ?_)
          refine lv_lor hx hb dX12_pack_79 ?_
          refine lv_topl (fun x79 ex79 => ?_)
          have hP9 : va_P (dC, dI) vwCl [] s.heap := by exact hP
          have hD9 : va_D A [] := by exact hD
          have hK9 := hK.sub (tys' := []) [] rfl
          exact W.lret (v := x79) hx hb hr (fun t ht hW => ⟨⟨x79, (), rfl, by simp only [pk5, pkS, if_pos c5, if_pos c24, if_neg c43, if_neg c63]; simp only [ex79, ex78, ex75, ex58, ex57, ex55, ex1], by rw [ht]; exact hP9, va_K.moved hW.alike hK9, hD9⟩, hS.F ht⟩) hS.2.2 dX12_pack_80
        · refine lv_lload hx hb dX12_pack_66 (lv_at hl 0 rfl) ?_
          refine lv_goto (tgt := 80) hx hb dX12_pack_68 (by decide) ?_
          have hP9 : va_P (dC, dI) vwCl [] s.heap := by exact hP
          have hD9 : va_D A [] := by exact hD
          have hK9 := hK.sub (tys' := []) [] rfl
          exact W.lret (v := x58) hx hb hr (fun t ht hW => ⟨⟨x58, (), rfl, by simp only [pk5, pkS, if_pos c5, if_pos c24, if_neg c43, if_pos c63]; simp only [ex58, ex57, ex55, ex1], by rw [ht]; exact hP9, va_K.moved hW.alike hK9, hD9⟩, hS.F ht⟩) hS.2.2 dX12_pack_80
      · refine lv_lload hx hb dX12_pack_46 (lv_at hl 0 rfl) ?_
        refine lv_goto (tgt := 59) hx hb dX12_pack_48 (by decide) ?_
        refine lv_lstore (lv' := [(5, .long x1), (0, .int a), (1, .int b), (2, .int c9), (3, .int d), (4, .int e9)]) hx hb dX12_pack_59 hl (by decide) rfl (fun ls hl => ?_)
        refine lv_iload hx hb dX12_pack_61 (lv_at hl 5 rfl) ?_
        refine lv_if_ne (tgt := 71) hx hb dX12_pack_63 (by decide) (fun c63 => ?_) (fun c63 => ?_)
        · refine lv_lload hx hb dX12_pack_71 (lv_at hl 0 rfl) ?_
          refine lv_bipush (v := 8) hx hb dX12_pack_73 (by decide) ?_
          refine lv_lshl hx hb dX12_pack_75 rfl ?_
          refine lv_topl (fun x75 ex75 => ?_)
          refine lv_iload hx hb dX12_pack_76 (lv_at hl 5 rfl) ?_
          refine lv_i2l hx hb dX12_pack_78 rfl ?_
          refine lv_topl (fun x78 ex78 => ?_)
          refine lv_lor hx hb dX12_pack_79 ?_
          refine lv_topl (fun x79 ex79 => ?_)
          have hP9 : va_P (dC, dI) vwCl [] s.heap := by exact hP
          have hD9 : va_D A [] := by exact hD
          have hK9 := hK.sub (tys' := []) [] rfl
          exact W.lret (v := x79) hx hb hr (fun t ht hW => ⟨⟨x79, (), rfl, by simp only [pk5, pkS, if_pos c5, if_pos c24, if_pos c43, if_neg c63]; simp only [ex79, ex78, ex75, ex1], by rw [ht]; exact hP9, va_K.moved hW.alike hK9, hD9⟩, hS.F ht⟩) hS.2.2 dX12_pack_80
        · refine lv_lload hx hb dX12_pack_66 (lv_at hl 0 rfl) ?_
          refine lv_goto (tgt := 80) hx hb dX12_pack_68 (by decide) ?_
          have hP9 : va_P (dC, dI) vwCl [] s.heap := by exact hP
          have hD9 : va_D A [] := by exact hD
          have hK9 := hK.sub (tys' := []) [] rfl
          exact W.lret (v := x1) hx hb hr (fun t ht hW => ⟨⟨x1, (), rfl, by simp only [pk5, pkS, if_pos c5, if_pos c24, if_pos c43, if_pos c63]; simp only [ex1], by rw [ht]; exact hP9, va_K.moved hW.alike hK9, hD9⟩, hS.F ht⟩) hS.2.2 dX12_pack_80
set_option maxHeartbeats 4000000 in
set_option maxRecDepth 100000 in
/-- X12_clearRun -/
theorem kX12_clearRun (l : Launch) (dC : Nat → ClassId) (dI : Nat → Nat → Nat) (sz : Nat) (o : Nat) (f : Nat → Value)  (a110 : Nat) (c110 : ClassId) (z110 : Nat → Int32)  (h110 : f 110 = .ref a110)  : Met l yX12_clearRun (Cond.code yX12_clearRun cX12_clearRun 2 none :: uG) ({ frames := 0, cells := 0, slots := 0, locals := 0 }) (va_Pc [.ref o] (fun U => U.heap.size = sz ∧ va_P (dC, dI) vwCl [(o, .inr (15, bF f)), (a110, .inl (c110, 640, .inl z110))] U.heap ∧ va_K (dC, dI) vwCl [(c110, .int)] U ∧ va_D (fun _ => True) [(o, .inr (15, bF f)), (a110, .inl (c110, 640, .inl z110))])) (va_Qv (S := Unit) (fun _ => True) (fun _ t => va_P (dC, dI) vwCl [(o, .inr (15, bF (va_up (va_up (va_up (va_up (va_up (va_up (va_up (va_up (va_up (va_up f 111 (.int 0)) 112 (.int 0)) 104 (.int 0)) 100 (.int 0)) 105 (.int 0)) 106 (.int 0)) 107 (.int 0)) 108 (.int 0)) 109 (.int 0)) 113 (.int 0)))), (a110, .inl (c110, 640, .inl (flI z110 0 640)))] t.heap ∧ va_K (dC, dI) vwCl [(c110, .int)] t ∧ va_D (va_A [(o, .inr (15, bF f)), (a110, .inl (c110, 640, .inl z110))] sz) [(o, .inr (15, bF (va_up (va_up (va_up (va_up (va_up (va_up (va_up (va_up (va_up (va_up f 111 (.int 0)) 112 (.int 0)) 104 (.int 0)) 100 (.int 0)) 105 (.int 0)) 106 (.int 0)) 107 (.int 0)) 108 (.int 0)) 109 (.int 0)) 113 (.int 0)))), (a110, .inl (c110, 640, .inl (flI z110 0 640)))]) (va_A [(o, .inr (15, bF f)), (a110, .inl (c110, 640, .inl z110))] sz)) 0 0 (va_A [(o, .inr (15, bF f)), (a110, .inl (c110, 640, .inl z110))] sz) := by
  refine Met.ofW (cc := cX12_clearRun) (maxL := 2) (ret := none) (by decide) rfl ?_
  intro pG eV s m args below meth c s₁ B hml hv
  obtain ⟨rfl, hsz, hP, hK, hD0⟩ := hv
  have hx := B.exec
  have hb := B.bytes
  have hr := B.returns
  have hts := atoms_spec (ws := Cond.code yX12_clearRun cX12_clearRun 2 none :: uG) B.pre
  have hu := fun (w : Cond) (h : w ∈ uG) => hts w (List.mem_cons_of_mem _ h)
  have hown : s.vm.findClass RX12 = some m.cls := findClass_of_methodNamed B.named
  have hlocks := B.notSynchronized
  subst hsz
  have hD := hD0.self (sz := s.heap.size)
  generalize hAe : va_A [(o, .inr (15, bF f)), (a110, .inl (c110, 640, .inl z110))] s.heap.size = A at hD ⊢
  have hA : ∀ q : Nat, s.heap.size ≤ q → A q := fun q h => by rw [← hAe]; exact Or.inr h
  have hS : va_S A s.heap s.heap [] := va_S.rf
  have hP : va_P (dC, dI) vwCl [(o, .inr (15, bF f)), (a110, .inl (c110, 640, .inl z110))] s.heap := hP
  have hD : va_D A [(o, .inr (15, bF f)), (a110, .inl (c110, 640, .inl z110))] := hD
  have hl := lv_entry ([.ref o]) (n := 2) (Nat.le_of_ble_eq_true rfl)
  rw [lg_entry_eq]
  generalize (lg_sl ([.ref o]) ++ List.replicate (2 - (lg_sl ([.ref o])).length) Slot.unset).toArray = ls at hl ⊢
  have hl : lv_has ls 2 [(0, .ref o)] := hl
  refine lv_aload_n hx hb dX12_clearRun_0 rfl (lv_at hl 0 rfl) ?_
  refine lv_iconst (v := 0) hx hb dX12_clearRun_1 (by decide) ?_
  refine va_put (D := (dC, dI)) (ci := 15) (v := .int 0) (ty := (tyX12 111)) (C := RX12) (T := TX12) (N := 136) hx hb hu iuX12 tyX12 tyX12_ok nmX12 hown hK hP hD hS 0 rfl rfl 111 (by decide) (hu _ mG_2161) (fun _ h9 => h9) rfl (by decide +kernel) (rfl) (rfl) (by rw [bF_len]; decide) dX12_clearRun_2 (fun H locs hP hD hS => ?_)
  rw [show (bF f).set 111 (.int 0) = bF (va_up f 111 (.int 0)) from bF_set (by decide)] at hP hD
  have hP : va_P (dC, dI) vwCl [(o, .inr (15, bF (va_up f 111 (.int 0)))), (a110, .inl (c110, 640, .inl z110))] H := hP
  have hD : va_D A [(o, .inr (15, bF (va_up f 111 (.int 0)))), (a110, .inl (c110, 640, .inl z110))] := hD
  refine lv_aload_n hx hb dX12_clearRun_5 rfl (lv_at hl 0 rfl) ?_
  refine lv_iconst (v := 0) hx hb dX12_clearRun_6 (by decide) ?_
  refine va_put (D := (dC, dI)) (ci := 15) (v := .int 0) (ty := (tyX12 112)) (C := RX12) (T := TX12) (N := 136) hx hb hu iuX12 tyX12 tyX12_ok nmX12 hown hK hP hD hS 0 rfl rfl 112 (by decide) (hu _ mG_2162) (fun _ h9 => h9) rfl (by decide +kernel) (rfl) (rfl) (by rw [bF_len]; decide) dX12_clearRun_7 (fun H locs hP hD hS => ?_)
  rw [show (bF (va_up f 111 (.int 0))).set 112 (.int 0) = bF (va_up (va_up f 111 (.int 0)) 112 (.int 0)) from bF_set (by decide)] at hP hD
  have hP : va_P (dC, dI) vwCl [(o, .inr (15, bF (va_up (va_up f 111 (.int 0)) 112 (.int 0)))), (a110, .inl (c110, 640, .inl z110))] H := hP
  have hD : va_D A [(o, .inr (15, bF (va_up (va_up f 111 (.int 0)) 112 (.int 0)))), (a110, .inl (c110, 640, .inl z110))] := hD
  refine lv_aload_n hx hb dX12_clearRun_10 rfl (lv_at hl 0 rfl) ?_
  refine lv_iconst (v := 0) hx hb dX12_clearRun_11 (by decide) ?_
  refine va_put (D := (dC, dI)) (ci := 15) (v := .int 0) (ty := (tyX12 104)) (C := RX12) (T := TX12) (N := 136) hx hb hu iuX12 tyX12 tyX12_ok nmX12 hown hK hP hD hS 0 rfl rfl 104 (by decide) (hu _ mG_2154) (fun _ h9 => h9) rfl (by decide +kernel) (rfl) (rfl) (by rw [bF_len]; decide) dX12_clearRun_12 (fun H locs hP hD hS => ?_)
  rw [show (bF (va_up (va_up f 111 (.int 0)) 112 (.int 0))).set 104 (.int 0) = bF (va_up (va_up (va_up f 111 (.int 0)) 112 (.int 0)) 104 (.int 0)) from bF_set (by decide)] at hP hD
  have hP : va_P (dC, dI) vwCl [(o, .inr (15, bF (va_up (va_up (va_up f 111 (.int 0)) 112 (.int 0)) 104 (.int 0)))), (a110, .inl (c110, 640, .inl z110))] H := hP
  have hD : va_D A [(o, .inr (15, bF (va_up (va_up (va_up f 111 (.int 0)) 112 (.int 0)) 104 (.int 0)))), (a110, .inl (c110, 640, .inl z110))] := hD
  refine lv_aload_n hx hb dX12_clearRun_15 rfl (lv_at hl 0 rfl) ?_
  refine lv_iconst (v := 0) hx hb dX12_clearRun_16 (by decide) ?_
  refine va_put (D := (dC, dI)) (ci := 15) (v := .int 0) (ty := (tyX12 100)) (C := RX12) (T := TX12) (N := 136) hx hb hu iuX12 tyX12 tyX12_ok nmX12 hown hK hP hD hS 0 rfl rfl 100 (by decide) (hu _ mG_2150) (fun _ h9 => h9) rfl (by decide +kernel) (rfl) (rfl) (by rw [bF_len]; decide) dX12_clearRun_17 (fun H locs hP hD hS => ?_)
  rw [show (bF (va_up (va_up (va_up f 111 (.int 0)) 112 (.int 0)) 104 (.int 0))).set 100 (.int 0) = bF (va_up (va_up (va_up (va_up f 111 (.int 0)) 112 (.int 0)) 104 (.int 0)) 100 (.int 0)) from bF_set (by decide)] at hP hD
  have hP : va_P (dC, dI) vwCl [(o, .inr (15, bF (va_up (va_up (va_up (va_up f 111 (.int 0)) 112 (.int 0)) 104 (.int 0)) 100 (.int 0)))), (a110, .inl (c110, 640, .inl z110))] H := hP
  have hD : va_D A [(o, .inr (15, bF (va_up (va_up (va_up (va_up f 111 (.int 0)) 112 (.int 0)) 104 (.int 0)) 100 (.int 0)))), (a110, .inl (c110, 640, .inl z110))] := hD
  refine lv_aload_n hx hb dX12_clearRun_20 rfl (lv_at hl 0 rfl) ?_
  refine lv_iconst (v := 0) hx hb dX12_clearRun_21 (by decide) ?_
  refine va_put (D := (dC, dI)) (ci := 15) (v := .int 0) (ty := (tyX12 105)) (C := RX12) (T := TX12) (N := 136) hx hb hu iuX12 tyX12 tyX12_ok nmX12 hown hK hP hD hS 0 rfl rfl 105 (by decide) (hu _ mG_2155) (fun _ h9 => h9) rfl (by decide +kernel) (rfl) (rfl) (by rw [bF_len]; decide) dX12_clearRun_22 (fun H locs hP hD hS => ?_)
  rw [show (bF (va_up (va_up (va_up (va_up f 111 (.int 0)) 112 (.int 0)) 104 (.int 0)) 100 (.int 0))).set 105 (.int 0) = bF (va_up (va_up (va_up (va_up (va_up f 111 (.int 0)) 112 (.int 0)) 104 (.int 0)) 100 (.int 0)) 105 (.int 0)) from bF_set (by decide)] at hP hD
  have hP : va_P (dC, dI) vwCl [(o, .inr (15, bF (va_up (va_up (va_up (va_up (va_up f 111 (.int 0)) 112 (.int 0)) 104 (.int 0)) 100 (.int 0)) 105 (.int 0)))), (a110, .inl (c110, 640, .inl z110))] H := hP
  have hD : va_D A [(o, .inr (15, bF (va_up (va_up (va_up (va_up (va_up f 111 (.int 0)) 112 (.int 0)) 104 (.int 0)) 100 (.int 0)) 105 (.int 0)))), (a110, .inl (c110, 640, .inl z110))] := hD
  refine lv_aload_n hx hb dX12_clearRun_25 rfl (lv_at hl 0 rfl) ?_
  refine lv_iconst (v := 0) hx hb dX12_clearRun_26 (by decide) ?_
  refine va_put (D := (dC, dI)) (ci := 15) (v := .int 0) (ty := (tyX12 106)) (C := RX12) (T := TX12) (N := 136) hx hb hu iuX12 tyX12 tyX12_ok nmX12 hown hK hP hD hS 0 rfl rfl 106 (by decide) (hu _ mG_2156) (fun _ h9 => h9) rfl (by decide +kernel) (rfl) (rfl) (by rw [bF_len]; decide) dX12_clearRun_27 (fun H locs hP hD hS => ?_)
  rw [show (bF (va_up (va_up (va_up (va_up (va_up f 111 (.int 0)) 112 (.int 0)) 104 (.int 0)) 100 (.int 0)) 105 (.int 0))).set 106 (.int 0) = bF (va_up (va_up (va_up (va_up (va_up (va_up f 111 (.int 0)) 112 (.int 0)) 104 (.int 0)) 100 (.int 0)) 105 (.int 0)) 106 (.int 0)) from bF_set (by decide)] at hP hD
  have hP : va_P (dC, dI) vwCl [(o, .inr (15, bF (va_up (va_up (va_up (va_up (va_up (va_up f 111 (.int 0)) 112 (.int 0)) 104 (.int 0)) 100 (.int 0)) 105 (.int 0)) 106 (.int 0)))), (a110, .inl (c110, 640, .inl z110))] H := hP
  have hD : va_D A [(o, .inr (15, bF (va_up (va_up (va_up (va_up (va_up (va_up f 111 (.int 0)) 112 (.int 0)) 104 (.int 0)) 100 (.int 0)) 105 (.int 0)) 106 (.int 0)))), (a110, .inl (c110, 640, .inl z110))] := hD
  refine lv_aload_n hx hb dX12_clearRun_30 rfl (lv_at hl 0 rfl) ?_
  refine lv_iconst (v := 0) hx hb dX12_clearRun_31 (by decide) ?_
  refine va_put (D := (dC, dI)) (ci := 15) (v := .int 0) (ty := (tyX12 107)) (C := RX12) (T := TX12) (N := 136) hx hb hu iuX12 tyX12 tyX12_ok nmX12 hown hK hP hD hS 0 rfl rfl 107 (by decide) (hu _ mG_2157) (fun _ h9 => h9) rfl (by decide +kernel) (rfl) (rfl) (by rw [bF_len]; decide) dX12_clearRun_32 (fun H locs hP hD hS => ?_)
  rw [show (bF (va_up (va_up (va_up (va_up (va_up (va_up f 111 (.int 0)) 112 (.int 0)) 104 (.int 0)) 100 (.int 0)) 105 (.int 0)) 106 (.int 0))).set 107 (.int 0) = bF (va_up (va_up (va_up (va_up (va_up (va_up (va_up f 111 (.int 0)) 112 (.int 0)) 104 (.int 0)) 100 (.int 0)) 105 (.int 0)) 106 (.int 0)) 107 (.int 0)) from bF_set (by decide)] at hP hD
  have hP : va_P (dC, dI) vwCl [(o, .inr (15, bF (va_up (va_up (va_up (va_up (va_up (va_up (va_up f 111 (.int 0)) 112 (.int 0)) 104 (.int 0)) 100 (.int 0)) 105 (.int 0)) 106 (.int 0)) 107 (.int 0)))), (a110, .inl (c110, 640, .inl z110))] H := hP
  have hD : va_D A [(o, .inr (15, bF (va_up (va_up (va_up (va_up (va_up (va_up (va_up f 111 (.int 0)) 112 (.int 0)) 104 (.int 0)) 100 (.int 0)) 105 (.int 0)) 106 (.int 0)) 107 (.int 0)))), (a110, .inl (c110, 640, .inl z110))] := hD
  refine lv_aload_n hx hb dX12_clearRun_35 rfl (lv_at hl 0 rfl) ?_
  refine lv_iconst (v := 0) hx hb dX12_clearRun_36 (by decide) ?_
  refine va_put (D := (dC, dI)) (ci := 15) (v := .int 0) (ty := (tyX12 108)) (C := RX12) (T := TX12) (N := 136) hx hb hu iuX12 tyX12 tyX12_ok nmX12 hown hK hP hD hS 0 rfl rfl 108 (by decide) (hu _ mG_2158) (fun _ h9 => h9) rfl (by decide +kernel) (rfl) (rfl) (by rw [bF_len]; decide) dX12_clearRun_37 (fun H locs hP hD hS => ?_)
  rw [show (bF (va_up (va_up (va_up (va_up (va_up (va_up (va_up f 111 (.int 0)) 112 (.int 0)) 104 (.int 0)) 100 (.int 0)) 105 (.int 0)) 106 (.int 0)) 107 (.int 0))).set 108 (.int 0) = bF (va_up (va_up (va_up (va_up (va_up (va_up (va_up (va_up f 111 (.int 0)) 112 (.int 0)) 104 (.int 0)) 100 (.int 0)) 105 (.int 0)) 106 (.int 0)) 107 (.int 0)) 108 (.int 0)) from bF_set (by decide)] at hP hD
  have hP : va_P (dC, dI) vwCl [(o, .inr (15, bF (va_up (va_up (va_up (va_up (va_up (va_up (va_up (va_up f 111 (.int 0)) 112 (.int 0)) 104 (.int 0)) 100 (.int 0)) 105 (.int 0)) 106 (.int 0)) 107 (.int 0)) 108 (.int 0)))), (a110, .inl (c110, 640, .inl z110))] H := hP
  have hD : va_D A [(o, .inr (15, bF (va_up (va_up (va_up (va_up (va_up (va_up (va_up (va_up f 111 (.int 0)) 112 (.int 0)) 104 (.int 0)) 100 (.int 0)) 105 (.int 0)) 106 (.int 0)) 107 (.int 0)) 108 (.int 0)))), (a110, .inl (c110, 640, .inl z110))] := hD
  refine lv_aload_n hx hb dX12_clearRun_40 rfl (lv_at hl 0 rfl) ?_
  refine lv_iconst (v := 0) hx hb dX12_clearRun_41 (by decide) ?_
  refine va_put (D := (dC, dI)) (ci := 15) (v := .int 0) (ty := (tyX12 109)) (C := RX12) (T := TX12) (N := 136) hx hb hu iuX12 tyX12 tyX12_ok nmX12 hown hK hP hD hS 0 rfl rfl 109 (by decide) (hu _ mG_2159) (fun _ h9 => h9) rfl (by decide +kernel) (rfl) (rfl) (by rw [bF_len]; decide) dX12_clearRun_42 (fun H locs hP hD hS => ?_)
  rw [show (bF (va_up (va_up (va_up (va_up (va_up (va_up (va_up (va_up f 111 (.int 0)) 112 (.int 0)) 104 (.int 0)) 100 (.int 0)) 105 (.int 0)) 106 (.int 0)) 107 (.int 0)) 108 (.int 0))).set 109 (.int 0) = bF (va_up (va_up (va_up (va_up (va_up (va_up (va_up (va_up (va_up f 111 (.int 0)) 112 (.int 0)) 104 (.int 0)) 100 (.int 0)) 105 (.int 0)) 106 (.int 0)) 107 (.int 0)) 108 (.int 0)) 109 (.int 0)) from bF_set (by decide)] at hP hD
  have hP : va_P (dC, dI) vwCl [(o, .inr (15, bF (va_up (va_up (va_up (va_up (va_up (va_up (va_up (va_up (va_up f 111 (.int 0)) 112 (.int 0)) 104 (.int 0)) 100 (.int 0)) 105 (.int 0)) 106 (.int 0)) 107 (.int 0)) 108 (.int 0)) 109 (.int 0)))), (a110, .inl (c110, 640, .inl z110))] H := hP
  have hD : va_D A [(o, .inr (15, bF (va_up (va_up (va_up (va_up (va_up (va_up (va_up (va_up (va_up f 111 (.int 0)) 112 (.int 0)) 104 (.int 0)) 100 (.int 0)) 105 (.int 0)) 106 (.int 0)) 107 (.int 0)) 108 (.int 0)) 109 (.int 0)))), (a110, .inl (c110, 640, .inl z110))] := hD
  refine lv_aload_n hx hb dX12_clearRun_45 rfl (lv_at hl 0 rfl) ?_
  refine lv_iconst (v := 0) hx hb dX12_clearRun_46 (by decide) ?_
  refine va_put (D := (dC, dI)) (ci := 15) (v := .int 0) (ty := (tyX12 113)) (C := RX12) (T := TX12) (N := 136) hx hb hu iuX12 tyX12 tyX12_ok nmX12 hown hK hP hD hS 0 rfl rfl 113 (by decide) (hu _ mG_2163) (fun _ h9 => h9) rfl (by decide +kernel) (rfl) (rfl) (by rw [bF_len]; decide) dX12_clearRun_47 (fun H locs hP hD hS => ?_)
  rw [show (bF (va_up (va_up (va_up (va_up (va_up (va_up (va_up (va_up (va_up f 111 (.int 0)) 112 (.int 0)) 104 (.int 0)) 100 (.int 0)) 105 (.int 0)) 106 (.int 0)) 107 (.int 0)) 108 (.int 0)) 109 (.int 0))).set 113 (.int 0) = bF (va_up (va_up (va_up (va_up (va_up (va_up (va_up (va_up (va_up (va_up f 111 (.int 0)) 112 (.int 0)) 104 (.int 0)) 100 (.int 0)) 105 (.int 0)) 106 (.int 0)) 107 (.int 0)) 108 (.int 0)) 109 (.int 0)) 113 (.int 0)) from bF_set (by decide)] at hP hD
  have hP : va_P (dC, dI) vwCl [(o, .inr (15, bF (va_up (va_up (va_up (va_up (va_up (va_up (va_up (va_up (va_up (va_up f 111 (.int 0)) 112 (.int 0)) 104 (.int 0)) 100 (.int 0)) 105 (.int 0)) 106 (.int 0)) 107 (.int 0)) 108 (.int 0)) 109 (.int 0)) 113 (.int 0)))), (a110, .inl (c110, 640, .inl z110))] H := hP
  have hD : va_D A [(o, .inr (15, bF (va_up (va_up (va_up (va_up (va_up (va_up (va_up (va_up (va_up (va_up f 111 (.int 0)) 112 (.int 0)) 104 (.int 0)) 100 (.int 0)) 105 (.int 0)) 106 (.int 0)) 107 (.int 0)) 108 (.int 0)) 109 (.int 0)) 113 (.int 0)))), (a110, .inl (c110, 640, .inl z110))] := hD
  refine lv_iconst (v := 0) hx hb dX12_clearRun_50 (by decide) ?_
  refine lv_istore_n (lv' := [(1, .int 0), (0, .ref o)]) hx hb dX12_clearRun_51 rfl hl (by decide) rfl (fun ls hl => ?_)
  refine uLoop (σ := Nat) (fun xv H locs ls => (xv ≤ 640) ∧ va_P (dC, dI) vwCl [(o, .inr (15, bF (va_up (va_up (va_up (va_up (va_up (va_up (va_up (va_up (va_up (va_up f 111 (.int 0)) 112 (.int 0)) 104 (.int 0)) 100 (.int 0)) 105 (.int 0)) 106 (.int 0)) 107 (.int 0)) 108 (.int 0)) 109 (.int 0)) 113 (.int 0)))), (a110, .inl (c110, 640, .inl (flI z110 0 xv)))] H ∧ va_D A [(o, .inr (15, bF (va_up (va_up (va_up (va_up (va_up (va_up (va_up (va_up (va_up (va_up f 111 (.int 0)) 112 (.int 0)) 104 (.int 0)) 100 (.int 0)) 105 (.int 0)) 106 (.int 0)) 107 (.int 0)) 108 (.int 0)) 109 (.int 0)) 113 (.int 0)))), (a110, .inl (c110, 640, .inl (flI z110 0 xv)))] ∧ va_S A s.heap H locs ∧ lv_has ls 2 [(0, .ref o), (1, .int (nI xv))]) (fun xv => 640 - xv) (fun xv H locs ls hI ih52 => ?_) (0) ⟨by omega, by rw [flI_0]; exact hP, by rw [flI_0]; exact hD, hS, lv_sub hl [1, 0] rfl⟩
  obtain ⟨i, hxv⟩ : ∃ z, z = xv := ⟨_, rfl⟩
  subst hxv
  obtain ⟨hi, hP, hD, hS, hl⟩ := hI
  have hi : i ≤ 640 := hi
  have hP : va_P (dC, dI) vwCl [(o, .inr (15, bF (va_up (va_up (va_up (va_up (va_up (va_up (va_up (va_up (va_up (va_up f 111 (.int 0)) 112 (.int 0)) 104 (.int 0)) 100 (.int 0)) 105 (.int 0)) 106 (.int 0)) 107 (.int 0)) 108 (.int 0)) 109 (.int 0)) 113 (.int 0)))), (a110, .inl (c110, 640, .inl (flI z110 0 i)))] H := hP
  have hD : va_D A [(o, .inr (15, bF (va_up (va_up (va_up (va_up (va_up (va_up (va_up (va_up (va_up (va_up f 111 (.int 0)) 112 (.int 0)) 104 (.int 0)) 100 (.int 0)) 105 (.int 0)) 106 (.int 0)) 107 (.int 0)) 108 (.int 0)) 109 (.int 0)) 113 (.int 0)))), (a110, .inl (c110, 640, .inl (flI z110 0 i)))] := hD
  have hl : lv_has ls 2 [(0, .ref o), (1, .int (nI i))] := hl
  refine lv_iload_n hx hb dX12_clearRun_52 rfl (lv_at hl 1 rfl) ?_
  refine lv_sipush (v := 640) hx hb dX12_clearRun_53 (by decide) ?_
  refine lv_icmp_ge (tgt := 72) hx hb dX12_clearRun_56 (by decide) (fun c56 => ?_) (fun c56 => ?_)
  · have hik : i = 640 := by have h := (nI_leI (a := 640) (by decide) (by omega)).mp c56; omega
    rw [hik] at hP hD
    have hP9 : va_P (dC, dI) vwCl [(o, .inr (15, bF (va_up (va_up (va_up (va_up (va_up (va_up (va_up (va_up (va_up (va_up f 111 (.int 0)) 112 (.int 0)) 104 (.int 0)) 100 (.int 0)) 105 (.int 0)) 106 (.int 0)) 107 (.int 0)) 108 (.int 0)) 109 (.int 0)) 113 (.int 0)))), (a110, .inl (c110, 640, .inl (flI z110 0 640)))] H := by exact hP
    have hD9 : va_D A [(o, .inr (15, bF (va_up (va_up (va_up (va_up (va_up (va_up (va_up (va_up (va_up (va_up f 111 (.int 0)) 112 (.int 0)) 104 (.int 0)) 100 (.int 0)) 105 (.int 0)) 106 (.int 0)) 107 (.int 0)) 108 (.int 0)) 109 (.int 0)) 113 (.int 0)))), (a110, .inl (c110, 640, .inl (flI z110 0 640)))] := by exact hD
    have hK9 := hK.sub (tys' := [(c110, .int)]) [0] rfl
    exact W.vret hx hb hr (fun t ht hW => ⟨⟨(), rfl, trivial, by rw [ht]; exact hP9, va_K.moved hW.alike hK9, hD9⟩, hS.F ht⟩) hS.2.2 dX12_clearRun_72
  · have hin : i < 640 := (nI_ltI (b := 640) (by omega) (by decide)).mp (Int32.not_le.mp c56)
    refine lv_aload_n hx hb dX12_clearRun_59 rfl (lv_at hl 0 rfl) ?_
    refine va_get (D := (dC, dI)) (ci := 15) (v := .ref a110) (C := RX12) (T := TX12) (N := 136) hx hb hu iuX12 hown hK hP 0 rfl rfl 110 (by decide) (hu _ mG_2160) (fun _ h9 => h9) ((bF_get (by decide)).trans (congrArg some (h110))) dX12_clearRun_60 ?_
    refine lv_iload_n hx hb dX12_clearRun_63 rfl (lv_at hl 1 rfl) ?_
    refine lv_iconst (v := 0) hx hb dX12_clearRun_64 (by decide) ?_
    refine va_iast hx hb hK hP hD hS 1 0 rfl rfl (vp_in_nI hin (by decide)) dX12_clearRun_65 (fun H locs hP hD hS => ?_)
    rw [show (upd (flI z110 0 i) ((nI i)).toNatClampNeg 0) = (flI z110 0 (i + 1)) from by rw [nI_clamp (by omega), flI_s]] at hP hD
    have hP : va_P (dC, dI) vwCl [(o, .inr (15, bF (va_up (va_up (va_up (va_up (va_up (va_up (va_up (va_up (va_up (va_up f 111 (.int 0)) 112 (.int 0)) 104 (.int 0)) 100 (.int 0)) 105 (.int 0)) 106 (.int 0)) 107 (.int 0)) 108 (.int 0)) 109 (.int 0)) 113 (.int 0)))), (a110, .inl (c110, 640, .inl (flI z110 0 (i + 1))))] H := hP
    have hD : va_D A [(o, .inr (15, bF (va_up (va_up (va_up (va_up (va_up (va_up (va_up (va_up (va_up (va_up f 111 (.int 0)) 112 (.int 0)) 104 (.int 0)) 100 (.int 0)) 105 (.int 0)) 106 (.int 0)) 107 (.int 0)) 108 (.int 0)) 109 (.int 0)) 113 (.int 0)))), (a110, .inl (c110, 640, .inl (flI z110 0 (i + 1))))] := hD
    refine lv_iinc (v := (nI (i + 1))) (lv' := [(1, .int (nI (i + 1))), (0, .ref o)]) hx hb dX12_clearRun_66 hl (k := 1) rfl (nI_1 i) (by decide) rfl (fun ls hl => ?_)
    refine lv_goto (tgt := 52) hx hb dX12_clearRun_69 (by decide) ?_
    exact ih52 (i + 1) _ _ _ ⟨by omega, hP, hD, hS, lv_sub hl [1, 0] rfl⟩ (by omega)
set_option maxHeartbeats 4000000 in
set_option maxRecDepth 100000 in
/-- X12_readProgram_0 -/
theorem kX12_readProgram_0 (l : Launch) (dC : Nat → ClassId) (dI : Nat → Nat → Nat) (sz : Nat) (o : Nat) (f : Nat → Value) (v8 : Int64) (a1 : Nat) (c1 : ClassId) (z1 : Nat → Int32) (a32 : Nat) (c32 : ClassId) (z32 : Nat → Int64) (a33 : Nat) (c33 : ClassId) (z33 : Nat → Int32) (a13 : Nat) (c13 : ClassId) (z13 : Nat → Int32) (a14 : Nat) (c14 : ClassId) (z14 : Nat → Int32) (a15 : Nat) (c15 : ClassId) (z15 : Nat → Int32) (a16 : Nat) (c16 : ClassId) (z16 : Nat → Int32) (a17 : Nat) (c17 : ClassId) (z17 : Nat → Int32) (a18 : Nat) (c18 : ClassId) (z18 : Nat → Int32) (a19 : Nat) (c19 : ClassId) (z19 : Nat → Int32) (a20 : Nat) (c20 : ClassId) (z20 : Nat → Int64) (a21 : Nat) (c21 : ClassId) (z21 : Nat → Int32) (a22 : Nat) (c22 : ClassId) (z22 : Nat → Int32)  (h8 : f 8 = .long v8) (h2 : f 2 = .int 0) (h1 : f 1 = .ref a1) (h32 : f 32 = .ref a32) (h33 : f 33 = .ref a33) (h13 : f 13 = .ref a13) (h14 : f 14 = .ref a14) (h15 : f 15 = .ref a15) (h16 : f 16 = .ref a16) (h17 : f 17 = .ref a17) (h18 : f 18 = .ref a18) (h19 : f 19 = .ref a19) (h20 : f 20 = .ref a20) (h21 : f 21 = .ref a21) (h22 : f 22 = .ref a22)  : Met l yX12_readProgram (Cond.code yX12_readProgram cX12_readProgram 2 none :: uG) ({ frames := 4, cells := 0, slots := 0, locals := 85 }) (va_Pc [.ref o] (fun U => U.heap.size = sz ∧ va_P (dC, dI) vwCl [(o, .inr (15, bF f)), (a1, .inl (c1, 3000, .inl z1)), (a32, .inl (c32, 30, .inr (.inl z32))), (a33, .inl (c33, 30, .inl z33)), (a13, .inl (c13, 3200, .inl z13)), (a14, .inl (c14, 3200, .inl z14)), (a15, .inl (c15, 3200, .inl z15)), (a16, .inl (c16, 3200, .inl z16)), (a17, .inl (c17, 3200, .inl z17)), (a18, .inl (c18, 3200, .inl z18)), (a19, .inl (c19, 3200, .inl z19)), (a20, .inl (c20, 3200, .inr (.inl z20))), (a21, .inl (c21, 3200, .inl z21)), (a22, .inl (c22, 3200, .inl z22))] U.heap ∧ va_K (dC, dI) vwCl [(c1, .int), (c32, .long), (c33, .int), (c13, .int), (c14, .int), (c15, .int), (c16, .int), (c17, .int), (c18, .int), (c19, .int), (c20, .long), (c21, .int), (c22, .int)] U ∧ va_D (fun _ => True) [(o, .inr (15, bF f)), (a1, .inl (c1, 3000, .inl z1)), (a32, .inl (c32, 30, .inr (.inl z32))), (a33, .inl (c33, 30, .inl z33)), (a13, .inl (c13, 3200, .inl z13)), (a14, .inl (c14, 3200, .inl z14)), (a15, .inl (c15, 3200, .inl z15)), (a16, .inl (c16, 3200, .inl z16)), (a17, .inl (c17, 3200, .inl z17)), (a18, .inl (c18, 3200, .inl z18)), (a19, .inl (c19, 3200, .inl z19)), (a20, .inl (c20, 3200, .inr (.inl z20))), (a21, .inl (c21, 3200, .inl z21)), (a22, .inl (c22, 3200, .inl z22))])) (va_Qv (S := Unit) (fun _ => True) (fun _ t => va_P (dC, dI) vwCl [(o, .inr (15, bF (va_up (va_up (va_up (va_up (va_up (va_up (va_up (va_up (va_up (va_up (va_up (va_up (va_up (va_up (va_up f 10 (.int 0)) 12 (.int 0)) 23 (.int 0)) 25 (.int 0)) 27 (.int 0)) 34 (.int 0)) 35 (.int 0)) 40 (.int 0)) 5 (.int 0)) 31 (.int 2)) 7 (.int 0)) 6 (.int 0)) 12 (.int 1)) 10 (.int 1)) 11 (.int 0)))), (a1, .inl (c1, 3000, .inl z1)), (a32, .inl (c32, 30, .inr (.inl (vp_updL (vp_updL z32 (0 : Int32).toNatClampNeg (pk5 70 97 108 115 101)) (1 : Int32).toNatClampNeg (pk5 84 114 117 101 0))))), (a33, .inl (c33, 30, .inl (upd (upd z33 (0 : Int32).toNatClampNeg 0) (1 : Int32).toNatClampNeg 0))), (a13, .inl (c13, 3200, .inl (upd z13 (0 : Int32).toNatClampNeg 12))), (a14, .inl (c14, 3200, .inl (upd z14 (0 : Int32).toNatClampNeg (-1)))), (a15, .inl (c15, 3200, .inl (upd z15 (0 : Int32).toNatClampNeg (-1)))), (a16, .inl (c16, 3200, .inl (upd z16 (0 : Int32).toNatClampNeg (-1)))), (a17, .inl (c17, 3200, .inl (upd z17 (0 : Int32).toNatClampNeg 0))), (a18, .inl (c18, 3200, .inl (upd z18 (0 : Int32).toNatClampNeg 0))), (a19, .inl (c19, 3200, .inl (upd z19 (0 : Int32).toNatClampNeg 0))), (a20, .inl (c20, 3200, .inr (.inl (vp_updL (vp_updL z20 (0 : Int32).toNatClampNeg 0) (0 : Int32).toNatClampNeg v8)))), (a21, .inl (c21, 3200, .inl (upd z21 (0 : Int32).toNatClampNeg 0))), (a22, .inl (c22, 3200, .inl (upd z22 (0 : Int32).toNatClampNeg 0)))] t.heap ∧ va_K (dC, dI) vwCl [(c1, .int), (c32, .long), (c33, .int), (c13, .int), (c14, .int), (c15, .int), (c16, .int), (c17, .int), (c18, .int), (c19, .int), (c20, .long), (c21, .int), (c22, .int)] t ∧ va_D (va_A [(o, .inr (15, bF f)), (a1, .inl (c1, 3000, .inl z1)), (a32, .inl (c32, 30, .inr (.inl z32))), (a33, .inl (c33, 30, .inl z33)), (a13, .inl (c13, 3200, .inl z13)), (a14, .inl (c14, 3200, .inl z14)), (a15, .inl (c15, 3200, .inl z15)), (a16, .inl (c16, 3200, .inl z16)), (a17, .inl (c17, 3200, .inl z17)), (a18, .inl (c18, 3200, .inl z18)), (a19, .inl (c19, 3200, .inl z19)), (a20, .inl (c20, 3200, .inr (.inl z20))), (a21, .inl (c21, 3200, .inl z21)), (a22, .inl (c22, 3200, .inl z22))] sz) [(o, .inr (15, bF (va_up (va_up (va_up (va_up (va_up (va_up (va_up (va_up (va_up (va_up (va_up (va_up (va_up (va_up (va_up f 10 (.int 0)) 12 (.int 0)) 23 (.int 0)) 25 (.int 0)) 27 (.int 0)) 34 (.int 0)) 35 (.int 0)) 40 (.int 0)) 5 (.int 0)) 31 (.int 2)) 7 (.int 0)) 6 (.int 0)) 12 (.int 1)) 10 (.int 1)) 11 (.int 0)))), (a1, .inl (c1, 3000, .inl z1)), (a32, .inl (c32, 30, .inr (.inl (vp_updL (vp_updL z32 (0 : Int32).toNatClampNeg (pk5 70 97 108 115 101)) (1 : Int32).toNatClampNeg (pk5 84 114 117 101 0))))), (a33, .inl (c33, 30, .inl (upd (upd z33 (0 : Int32).toNatClampNeg 0) (1 : Int32).toNatClampNeg 0))), (a13, .inl (c13, 3200, .inl (upd z13 (0 : Int32).toNatClampNeg 12))), (a14, .inl (c14, 3200, .inl (upd z14 (0 : Int32).toNatClampNeg (-1)))), (a15, .inl (c15, 3200, .inl (upd z15 (0 : Int32).toNatClampNeg (-1)))), (a16, .inl (c16, 3200, .inl (upd z16 (0 : Int32).toNatClampNeg (-1)))), (a17, .inl (c17, 3200, .inl (upd z17 (0 : Int32).toNatClampNeg 0))), (a18, .inl (c18, 3200, .inl (upd z18 (0 : Int32).toNatClampNeg 0))), (a19, .inl (c19, 3200, .inl (upd z19 (0 : Int32).toNatClampNeg 0))), (a20, .inl (c20, 3200, .inr (.inl (vp_updL (vp_updL z20 (0 : Int32).toNatClampNeg 0) (0 : Int32).toNatClampNeg v8)))), (a21, .inl (c21, 3200, .inl (upd z21 (0 : Int32).toNatClampNeg 0))), (a22, .inl (c22, 3200, .inl (upd z22 (0 : Int32).toNatClampNeg 0)))]) (va_A [(o, .inr (15, bF f)), (a1, .inl (c1, 3000, .inl z1)), (a32, .inl (c32, 30, .inr (.inl z32))), (a33, .inl (c33, 30, .inl z33)), (a13, .inl (c13, 3200, .inl z13)), (a14, .inl (c14, 3200, .inl z14)), (a15, .inl (c15, 3200, .inl z15)), (a16, .inl (c16, 3200, .inl z16)), (a17, .inl (c17, 3200, .inl z17)), (a18, .inl (c18, 3200, .inl z18)), (a19, .inl (c19, 3200, .inl z19)), (a20, .inl (c20, 3200, .inr (.inl z20))), (a21, .inl (c21, 3200, .inl z21)), (a22, .inl (c22, 3200, .inl z22))] sz)) 0 0 (va_A [(o, .inr (15, bF f)), (a1, .inl (c1, 3000, .inl z1)), (a32, .inl (c32, 30, .inr (.inl z32))), (a33, .inl (c33, 30, .inl z33)), (a13, .inl (c13, 3200, .inl z13)), (a14, .inl (c14, 3200, .inl z14)), (a15, .inl (c15, 3200, .inl z15)), (a16, .inl (c16, 3200, .inl z16)), (a17, .inl (c17, 3200, .inl z17)), (a18, .inl (c18, 3200, .inl z18)), (a19, .inl (c19, 3200, .inl z19)), (a20, .inl (c20, 3200, .inr (.inl z20))), (a21, .inl (c21, 3200, .inl z21)), (a22, .inl (c22, 3200, .inl z22))] sz) := by
  refine Met.ofW (cc := cX12_readProgram) (maxL := 2) (ret := none) (by decide) rfl ?_
  intro pG eV s m args below meth c s₁ B hml hv
  obtain ⟨rfl, hsz, hP, hK, hD0⟩ := hv
  have hx := B.exec
  have hb := B.bytes
  have hr := B.returns
  have hts := atoms_spec (ws := Cond.code yX12_readProgram cX12_readProgram 2 none :: uG) B.pre
  have hu := fun (w : Cond) (h : w ∈ uG) => hts w (List.mem_cons_of_mem _ h)
  have hown : s.vm.findClass RX12 = some m.cls := findClass_of_methodNamed B.named
  have hlocks := B.notSynchronized
  subst hsz
  have hD := hD0.self (sz := s.heap.size)
  generalize hAe : va_A [(o, .inr (15, bF f)), (a1, .inl (c1, 3000, .inl z1)), (a32, .inl (c32, 30, .inr (.inl z32))), (a33, .inl (c33, 30, .inl z33)), (a13, .inl (c13, 3200, .inl z13)), (a14, .inl (c14, 3200, .inl z14)), (a15, .inl (c15, 3200, .inl z15)), (a16, .inl (c16, 3200, .inl z16)), (a17, .inl (c17, 3200, .inl z17)), (a18, .inl (c18, 3200, .inl z18)), (a19, .inl (c19, 3200, .inl z19)), (a20, .inl (c20, 3200, .inr (.inl z20))), (a21, .inl (c21, 3200, .inl z21)), (a22, .inl (c22, 3200, .inl z22))] s.heap.size = A at hD ⊢
  have hA : ∀ q : Nat, s.heap.size ≤ q → A q := fun q h => by rw [← hAe]; exact Or.inr h
  have hS : va_S A s.heap s.heap [] := va_S.rf
  have hP : va_P (dC, dI) vwCl [(o, .inr (15, bF f)), (a1, .inl (c1, 3000, .inl z1)), (a32, .inl (c32, 30, .inr (.inl z32))), (a33, .inl (c33, 30, .inl z33)), (a13, .inl (c13, 3200, .inl z13)), (a14, .inl (c14, 3200, .inl z14)), (a15, .inl (c15, 3200, .inl z15)), (a16, .inl (c16, 3200, .inl z16)), (a17, .inl (c17, 3200, .inl z17)), (a18, .inl (c18, 3200, .inl z18)), (a19, .inl (c19, 3200, .inl z19)), (a20, .inl (c20, 3200, .inr (.inl z20))), (a21, .inl (c21, 3200, .inl z21)), (a22, .inl (c22, 3200, .inl z22))] s.heap := hP
  have hD : va_D A [(o, .inr (15, bF f)), (a1, .inl (c1, 3000, .inl z1)), (a32, .inl (c32, 30, .inr (.inl z32))), (a33, .inl (c33, 30, .inl z33)), (a13, .inl (c13, 3200, .inl z13)), (a14, .inl (c14, 3200, .inl z14)), (a15, .inl (c15, 3200, .inl z15)), (a16, .inl (c16, 3200, .inl z16)), (a17, .inl (c17, 3200, .inl z17)), (a18, .inl (c18, 3200, .inl z18)), (a19, .inl (c19, 3200, .inl z19)), (a20, .inl (c20, 3200, .inr (.inl z20))), (a21, .inl (c21, 3200, .inl z21)), (a22, .inl (c22, 3200, .inl z22))] := hD
  have hl := lv_entry ([.ref o]) (n := 2) (Nat.le_of_ble_eq_true rfl)
  rw [lg_entry_eq]
  generalize (lg_sl ([.ref o]) ++ List.replicate (2 - (lg_sl ([.ref o])).length) Slot.unset).toArray = ls at hl ⊢
  have hl : lv_has ls 2 [(0, .ref o)] := hl
  refine lv_aload_n hx hb dX12_readProgram_0 rfl (lv_at hl 0 rfl) ?_
  refine lv_iconst (v := 0) hx hb dX12_readProgram_1 (by decide) ?_
  refine va_put (D := (dC, dI)) (ci := 15) (v := .int 0) (ty := (tyX12 10)) (C := RX12) (T := TX12) (N := 136) hx hb hu iuX12 tyX12 tyX12_ok nmX12 hown hK hP hD hS 0 rfl rfl 10 (by decide) (hu _ mG_2060) (fun _ h9 => h9) rfl (by decide +kernel) (rfl) (rfl) (by rw [bF_len]; decide) dX12_readProgram_2 (fun H locs hP hD hS => ?_)
  rw [show (bF f).set 10 (.int 0) = bF (va_up f 10 (.int 0)) from bF_set (by decide)] at hP hD
  have hP : va_P (dC, dI) vwCl [(o, .inr (15, bF (va_up f 10 (.int 0)))), (a1, .inl (c1, 3000, .inl z1)), (a32, .inl (c32, 30, .inr (.inl z32))), (a33, .inl (c33, 30, .inl z33)), (a13, .inl (c13, 3200, .inl z13)), (a14, .inl (c14, 3200, .inl z14)), (a15, .inl (c15, 3200, .inl z15)), (a16, .inl (c16, 3200, .inl z16)), (a17, .inl (c17, 3200, .inl z17)), (a18, .inl (c18, 3200, .inl z18)), (a19, .inl (c19, 3200, .inl z19)), (a20, .inl (c20, 3200, .inr (.inl z20))), (a21, .inl (c21, 3200, .inl z21)), (a22, .inl (c22, 3200, .inl z22))] H := hP
  have hD : va_D A [(o, .inr (15, bF (va_up f 10 (.int 0)))), (a1, .inl (c1, 3000, .inl z1)), (a32, .inl (c32, 30, .inr (.inl z32))), (a33, .inl (c33, 30, .inl z33)), (a13, .inl (c13, 3200, .inl z13)), (a14, .inl (c14, 3200, .inl z14)), (a15, .inl (c15, 3200, .inl z15)), (a16, .inl (c16, 3200, .inl z16)), (a17, .inl (c17, 3200, .inl z17)), (a18, .inl (c18, 3200, .inl z18)), (a19, .inl (c19, 3200, .inl z19)), (a20, .inl (c20, 3200, .inr (.inl z20))), (a21, .inl (c21, 3200, .inl z21)), (a22, .inl (c22, 3200, .inl z22))] := hD
  refine lv_aload_n hx hb dX12_readProgram_5 rfl (lv_at hl 0 rfl) ?_
  refine lv_iconst (v := 0) hx hb dX12_readProgram_6 (by decide) ?_
  refine va_put (D := (dC, dI)) (ci := 15) (v := .int 0) (ty := (tyX12 12)) (C := RX12) (T := TX12) (N := 136) hx hb hu iuX12 tyX12 tyX12_ok nmX12 hown hK hP hD hS 0 rfl rfl 12 (by decide) (hu _ mG_2062) (fun _ h9 => h9) rfl (by decide +kernel) (rfl) (rfl) (by rw [bF_len]; decide) dX12_readProgram_7 (fun H locs hP hD hS => ?_)
  rw [show (bF (va_up f 10 (.int 0))).set 12 (.int 0) = bF (va_up (va_up f 10 (.int 0)) 12 (.int 0)) from bF_set (by decide)] at hP hD
  have hP : va_P (dC, dI) vwCl [(o, .inr (15, bF (va_up (va_up f 10 (.int 0)) 12 (.int 0)))), (a1, .inl (c1, 3000, .inl z1)), (a32, .inl (c32, 30, .inr (.inl z32))), (a33, .inl (c33, 30, .inl z33)), (a13, .inl (c13, 3200, .inl z13)), (a14, .inl (c14, 3200, .inl z14)), (a15, .inl (c15, 3200, .inl z15)), (a16, .inl (c16, 3200, .inl z16)), (a17, .inl (c17, 3200, .inl z17)), (a18, .inl (c18, 3200, .inl z18)), (a19, .inl (c19, 3200, .inl z19)), (a20, .inl (c20, 3200, .inr (.inl z20))), (a21, .inl (c21, 3200, .inl z21)), (a22, .inl (c22, 3200, .inl z22))] H := hP
  have hD : va_D A [(o, .inr (15, bF (va_up (va_up f 10 (.int 0)) 12 (.int 0)))), (a1, .inl (c1, 3000, .inl z1)), (a32, .inl (c32, 30, .inr (.inl z32))), (a33, .inl (c33, 30, .inl z33)), (a13, .inl (c13, 3200, .inl z13)), (a14, .inl (c14, 3200, .inl z14)), (a15, .inl (c15, 3200, .inl z15)), (a16, .inl (c16, 3200, .inl z16)), (a17, .inl (c17, 3200, .inl z17)), (a18, .inl (c18, 3200, .inl z18)), (a19, .inl (c19, 3200, .inl z19)), (a20, .inl (c20, 3200, .inr (.inl z20))), (a21, .inl (c21, 3200, .inl z21)), (a22, .inl (c22, 3200, .inl z22))] := hD
  refine lv_aload_n hx hb dX12_readProgram_10 rfl (lv_at hl 0 rfl) ?_
  refine lv_iconst (v := 0) hx hb dX12_readProgram_11 (by decide) ?_
  refine va_put (D := (dC, dI)) (ci := 15) (v := .int 0) (ty := (tyX12 23)) (C := RX12) (T := TX12) (N := 136) hx hb hu iuX12 tyX12 tyX12_ok nmX12 hown hK hP hD hS 0 rfl rfl 23 (by decide) (hu _ mG_2073) (fun _ h9 => h9) rfl (by decide +kernel) (rfl) (rfl) (by rw [bF_len]; decide) dX12_readProgram_12 (fun H locs hP hD hS => ?_)
  rw [show (bF (va_up (va_up f 10 (.int 0)) 12 (.int 0))).set 23 (.int 0) = bF (va_up (va_up (va_up f 10 (.int 0)) 12 (.int 0)) 23 (.int 0)) from bF_set (by decide)] at hP hD
  have hP : va_P (dC, dI) vwCl [(o, .inr (15, bF (va_up (va_up (va_up f 10 (.int 0)) 12 (.int 0)) 23 (.int 0)))), (a1, .inl (c1, 3000, .inl z1)), (a32, .inl (c32, 30, .inr (.inl z32))), (a33, .inl (c33, 30, .inl z33)), (a13, .inl (c13, 3200, .inl z13)), (a14, .inl (c14, 3200, .inl z14)), (a15, .inl (c15, 3200, .inl z15)), (a16, .inl (c16, 3200, .inl z16)), (a17, .inl (c17, 3200, .inl z17)), (a18, .inl (c18, 3200, .inl z18)), (a19, .inl (c19, 3200, .inl z19)), (a20, .inl (c20, 3200, .inr (.inl z20))), (a21, .inl (c21, 3200, .inl z21)), (a22, .inl (c22, 3200, .inl z22))] H := hP
  have hD : va_D A [(o, .inr (15, bF (va_up (va_up (va_up f 10 (.int 0)) 12 (.int 0)) 23 (.int 0)))), (a1, .inl (c1, 3000, .inl z1)), (a32, .inl (c32, 30, .inr (.inl z32))), (a33, .inl (c33, 30, .inl z33)), (a13, .inl (c13, 3200, .inl z13)), (a14, .inl (c14, 3200, .inl z14)), (a15, .inl (c15, 3200, .inl z15)), (a16, .inl (c16, 3200, .inl z16)), (a17, .inl (c17, 3200, .inl z17)), (a18, .inl (c18, 3200, .inl z18)), (a19, .inl (c19, 3200, .inl z19)), (a20, .inl (c20, 3200, .inr (.inl z20))), (a21, .inl (c21, 3200, .inl z21)), (a22, .inl (c22, 3200, .inl z22))] := hD
  refine lv_aload_n hx hb dX12_readProgram_15 rfl (lv_at hl 0 rfl) ?_
  refine lv_iconst (v := 0) hx hb dX12_readProgram_16 (by decide) ?_
  refine va_put (D := (dC, dI)) (ci := 15) (v := .int 0) (ty := (tyX12 25)) (C := RX12) (T := TX12) (N := 136) hx hb hu iuX12 tyX12 tyX12_ok nmX12 hown hK hP hD hS 0 rfl rfl 25 (by decide) (hu _ mG_2075) (fun _ h9 => h9) rfl (by decide +kernel) (rfl) (rfl) (by rw [bF_len]; decide) dX12_readProgram_17 (fun H locs hP hD hS => ?_)
  rw [show (bF (va_up (va_up (va_up f 10 (.int 0)) 12 (.int 0)) 23 (.int 0))).set 25 (.int 0) = bF (va_up (va_up (va_up (va_up f 10 (.int 0)) 12 (.int 0)) 23 (.int 0)) 25 (.int 0)) from bF_set (by decide)] at hP hD
  have hP : va_P (dC, dI) vwCl [(o, .inr (15, bF (va_up (va_up (va_up (va_up f 10 (.int 0)) 12 (.int 0)) 23 (.int 0)) 25 (.int 0)))), (a1, .inl (c1, 3000, .inl z1)), (a32, .inl (c32, 30, .inr (.inl z32))), (a33, .inl (c33, 30, .inl z33)), (a13, .inl (c13, 3200, .inl z13)), (a14, .inl (c14, 3200, .inl z14)), (a15, .inl (c15, 3200, .inl z15)), (a16, .inl (c16, 3200, .inl z16)), (a17, .inl (c17, 3200, .inl z17)), (a18, .inl (c18, 3200, .inl z18)), (a19, .inl (c19, 3200, .inl z19)), (a20, .inl (c20, 3200, .inr (.inl z20))), (a21, .inl (c21, 3200, .inl z21)), (a22, .inl (c22, 3200, .inl z22))] H := hP
  have hD : va_D A [(o, .inr (15, bF (va_up (va_up (va_up (va_up f 10 (.int 0)) 12 (.int 0)) 23 (.int 0)) 25 (.int 0)))), (a1, .inl (c1, 3000, .inl z1)), (a32, .inl (c32, 30, .inr (.inl z32))), (a33, .inl (c33, 30, .inl z33)), (a13, .inl (c13, 3200, .inl z13)), (a14, .inl (c14, 3200, .inl z14)), (a15, .inl (c15, 3200, .inl z15)), (a16, .inl (c16, 3200, .inl z16)), (a17, .inl (c17, 3200, .inl z17)), (a18, .inl (c18, 3200, .inl z18)), (a19, .inl (c19, 3200, .inl z19)), (a20, .inl (c20, 3200, .inr (.inl z20))), (a21, .inl (c21, 3200, .inl z21)), (a22, .inl (c22, 3200, .inl z22))] := hD
  refine lv_aload_n hx hb dX12_readProgram_20 rfl (lv_at hl 0 rfl) ?_
  refine lv_iconst (v := 0) hx hb dX12_readProgram_21 (by decide) ?_
  refine va_put (D := (dC, dI)) (ci := 15) (v := .int 0) (ty := (tyX12 27)) (C := RX12) (T := TX12) (N := 136) hx hb hu iuX12 tyX12 tyX12_ok nmX12 hown hK hP hD hS 0 rfl rfl 27 (by decide) (hu _ mG_2077) (fun _ h9 => h9) rfl (by decide +kernel) (rfl) (rfl) (by rw [bF_len]; decide) dX12_readProgram_22 (fun H locs hP hD hS => ?_)
  rw [show (bF (va_up (va_up (va_up (va_up f 10 (.int 0)) 12 (.int 0)) 23 (.int 0)) 25 (.int 0))).set 27 (.int 0) = bF (va_up (va_up (va_up (va_up (va_up f 10 (.int 0)) 12 (.int 0)) 23 (.int 0)) 25 (.int 0)) 27 (.int 0)) from bF_set (by decide)] at hP hD
  have hP : va_P (dC, dI) vwCl [(o, .inr (15, bF (va_up (va_up (va_up (va_up (va_up f 10 (.int 0)) 12 (.int 0)) 23 (.int 0)) 25 (.int 0)) 27 (.int 0)))), (a1, .inl (c1, 3000, .inl z1)), (a32, .inl (c32, 30, .inr (.inl z32))), (a33, .inl (c33, 30, .inl z33)), (a13, .inl (c13, 3200, .inl z13)), (a14, .inl (c14, 3200, .inl z14)), (a15, .inl (c15, 3200, .inl z15)), (a16, .inl (c16, 3200, .inl z16)), (a17, .inl (c17, 3200, .inl z17)), (a18, .inl (c18, 3200, .inl z18)), (a19, .inl (c19, 3200, .inl z19)), (a20, .inl (c20, 3200, .inr (.inl z20))), (a21, .inl (c21, 3200, .inl z21)), (a22, .inl (c22, 3200, .inl z22))] H := hP
  have hD : va_D A [(o, .inr (15, bF (va_up (va_up (va_up (va_up (va_up f 10 (.int 0)) 12 (.int 0)) 23 (.int 0)) 25 (.int 0)) 27 (.int 0)))), (a1, .inl (c1, 3000, .inl z1)), (a32, .inl (c32, 30, .inr (.inl z32))), (a33, .inl (c33, 30, .inl z33)), (a13, .inl (c13, 3200, .inl z13)), (a14, .inl (c14, 3200, .inl z14)), (a15, .inl (c15, 3200, .inl z15)), (a16, .inl (c16, 3200, .inl z16)), (a17, .inl (c17, 3200, .inl z17)), (a18, .inl (c18, 3200, .inl z18)), (a19, .inl (c19, 3200, .inl z19)), (a20, .inl (c20, 3200, .inr (.inl z20))), (a21, .inl (c21, 3200, .inl z21)), (a22, .inl (c22, 3200, .inl z22))] := hD
  refine lv_aload_n hx hb dX12_readProgram_25 rfl (lv_at hl 0 rfl) ?_
  refine lv_iconst (v := 0) hx hb dX12_readProgram_26 (by decide) ?_
  refine va_put (D := (dC, dI)) (ci := 15) (v := .int 0) (ty := (tyX12 34)) (C := RX12) (T := TX12) (N := 136) hx hb hu iuX12 tyX12 tyX12_ok nmX12 hown hK hP hD hS 0 rfl rfl 34 (by decide) (hu _ mG_2084) (fun _ h9 => h9) rfl (by decide +kernel) (rfl) (rfl) (by rw [bF_len]; decide) dX12_readProgram_27 (fun H locs hP hD hS => ?_)
  rw [show (bF (va_up (va_up (va_up (va_up (va_up f 10 (.int 0)) 12 (.int 0)) 23 (.int 0)) 25 (.int 0)) 27 (.int 0))).set 34 (.int 0) = bF (va_up (va_up (va_up (va_up (va_up (va_up f 10 (.int 0)) 12 (.int 0)) 23 (.int 0)) 25 (.int 0)) 27 (.int 0)) 34 (.int 0)) from bF_set (by decide)] at hP hD
  have hP : va_P (dC, dI) vwCl [(o, .inr (15, bF (va_up (va_up (va_up (va_up (va_up (va_up f 10 (.int 0)) 12 (.int 0)) 23 (.int 0)) 25 (.int 0)) 27 (.int 0)) 34 (.int 0)))), (a1, .inl (c1, 3000, .inl z1)), (a32, .inl (c32, 30, .inr (.inl z32))), (a33, .inl (c33, 30, .inl z33)), (a13, .inl (c13, 3200, .inl z13)), (a14, .inl (c14, 3200, .inl z14)), (a15, .inl (c15, 3200, .inl z15)), (a16, .inl (c16, 3200, .inl z16)), (a17, .inl (c17, 3200, .inl z17)), (a18, .inl (c18, 3200, .inl z18)), (a19, .inl (c19, 3200, .inl z19)), (a20, .inl (c20, 3200, .inr (.inl z20))), (a21, .inl (c21, 3200, .inl z21)), (a22, .inl (c22, 3200, .inl z22))] H := hP
  have hD : va_D A [(o, .inr (15, bF (va_up (va_up (va_up (va_up (va_up (va_up f 10 (.int 0)) 12 (.int 0)) 23 (.int 0)) 25 (.int 0)) 27 (.int 0)) 34 (.int 0)))), (a1, .inl (c1, 3000, .inl z1)), (a32, .inl (c32, 30, .inr (.inl z32))), (a33, .inl (c33, 30, .inl z33)), (a13, .inl (c13, 3200, .inl z13)), (a14, .inl (c14, 3200, .inl z14)), (a15, .inl (c15, 3200, .inl z15)), (a16, .inl (c16, 3200, .inl z16)), (a17, .inl (c17, 3200, .inl z17)), (a18, .inl (c18, 3200, .inl z18)), (a19, .inl (c19, 3200, .inl z19)), (a20, .inl (c20, 3200, .inr (.inl z20))), (a21, .inl (c21, 3200, .inl z21)), (a22, .inl (c22, 3200, .inl z22))] := hD
  refine lv_aload_n hx hb dX12_readProgram_30 rfl (lv_at hl 0 rfl) ?_
  refine lv_iconst (v := 0) hx hb dX12_readProgram_31 (by decide) ?_
  refine va_put (D := (dC, dI)) (ci := 15) (v := .int 0) (ty := (tyX12 35)) (C := RX12) (T := TX12) (N := 136) hx hb hu iuX12 tyX12 tyX12_ok nmX12 hown hK hP hD hS 0 rfl rfl 35 (by decide) (hu _ mG_2085) (fun _ h9 => h9) rfl (by decide +kernel) (rfl) (rfl) (by rw [bF_len]; decide) dX12_readProgram_32 (fun H locs hP hD hS => ?_)
  rw [show (bF (va_up (va_up (va_up (va_up (va_up (va_up f 10 (.int 0)) 12 (.int 0)) 23 (.int 0)) 25 (.int 0)) 27 (.int 0)) 34 (.int 0))).set 35 (.int 0) = bF (va_up (va_up (va_up (va_up (va_up (va_up (va_up f 10 (.int 0)) 12 (.int 0)) 23 (.int 0)) 25 (.int 0)) 27 (.int 0)) 34 (.int 0)) 35 (.int 0)) from bF_set (by decide)] at hP hD
  have hP : va_P (dC, dI) vwCl [(o, .inr (15, bF (va_up (va_up (va_up (va_up (va_up (va_up (va_up f 10 (.int 0)) 12 (.int 0)) 23 (.int 0)) 25 (.int 0)) 27 (.int 0)) 34 (.int 0)) 35 (.int 0)))), (a1, .inl (c1, 3000, .inl z1)), (a32, .inl (c32, 30, .inr (.inl z32))), (a33, .inl (c33, 30, .inl z33)), (a13, .inl (c13, 3200, .inl z13)), (a14, .inl (c14, 3200, .inl z14)), (a15, .inl (c15, 3200, .inl z15)), (a16, .inl (c16, 3200, .inl z16)), (a17, .inl (c17, 3200, .inl z17)), (a18, .inl (c18, 3200, .inl z18)), (a19, .inl (c19, 3200, .inl z19)), (a20, .inl (c20, 3200, .inr (.inl z20))), (a21, .inl (c21, 3200, .inl z21)), (a22, .inl (c22, 3200, .inl z22))] H := hP
  have hD : va_D A [(o, .inr (15, bF (va_up (va_up (va_up (va_up (va_up (va_up (va_up f 10 (.int 0)) 12 (.int 0)) 23 (.int 0)) 25 (.int 0)) 27 (.int 0)) 34 (.int 0)) 35 (.int 0)))), (a1, .inl (c1, 3000, .inl z1)), (a32, .inl (c32, 30, .inr (.inl z32))), (a33, .inl (c33, 30, .inl z33)), (a13, .inl (c13, 3200, .inl z13)), (a14, .inl (c14, 3200, .inl z14)), (a15, .inl (c15, 3200, .inl z15)), (a16, .inl (c16, 3200, .inl z16)), (a17, .inl (c17, 3200, .inl z17)), (a18, .inl (c18, 3200, .inl z18)), (a19, .inl (c19, 3200, .inl z19)), (a20, .inl (c20, 3200, .inr (.inl z20))), (a21, .inl (c21, 3200, .inl z21)), (a22, .inl (c22, 3200, .inl z22))] := hD
  refine lv_aload_n hx hb dX12_readProgram_35 rfl (lv_at hl 0 rfl) ?_
  refine lv_iconst (v := 0) hx hb dX12_readProgram_36 (by decide) ?_
  refine va_put (D := (dC, dI)) (ci := 15) (v := .int 0) (ty := (tyX12 40)) (C := RX12) (T := TX12) (N := 136) hx hb hu iuX12 tyX12 tyX12_ok nmX12 hown hK hP hD hS 0 rfl rfl 40 (by decide) (hu _ mG_2090) (fun _ h9 => h9) rfl (by decide +kernel) (rfl) (rfl) (by rw [bF_len]; decide) dX12_readProgram_37 (fun H locs hP hD hS => ?_)
  rw [show (bF (va_up (va_up (va_up (va_up (va_up (va_up (va_up f 10 (.int 0)) 12 (.int 0)) 23 (.int 0)) 25 (.int 0)) 27 (.int 0)) 34 (.int 0)) 35 (.int 0))).set 40 (.int 0) = bF (va_up (va_up (va_up (va_up (va_up (va_up (va_up (va_up f 10 (.int 0)) 12 (.int 0)) 23 (.int 0)) 25 (.int 0)) 27 (.int 0)) 34 (.int 0)) 35 (.int 0)) 40 (.int 0)) from bF_set (by decide)] at hP hD
  have hP : va_P (dC, dI) vwCl [(o, .inr (15, bF (va_up (va_up (va_up (va_up (va_up (va_up (va_up (va_up f 10 (.int 0)) 12 (.int 0)) 23 (.int 0)) 25 (.int 0)) 27 (.int 0)) 34 (.int 0)) 35 (.int 0)) 40 (.int 0)))), (a1, .inl (c1, 3000, .inl z1)), (a32, .inl (c32, 30, .inr (.inl z32))), (a33, .inl (c33, 30, .inl z33)), (a13, .inl (c13, 3200, .inl z13)), (a14, .inl (c14, 3200, .inl z14)), (a15, .inl (c15, 3200, .inl z15)), (a16, .inl (c16, 3200, .inl z16)), (a17, .inl (c17, 3200, .inl z17)), (a18, .inl (c18, 3200, .inl z18)), (a19, .inl (c19, 3200, .inl z19)), (a20, .inl (c20, 3200, .inr (.inl z20))), (a21, .inl (c21, 3200, .inl z21)), (a22, .inl (c22, 3200, .inl z22))] H := hP
  have hD : va_D A [(o, .inr (15, bF (va_up (va_up (va_up (va_up (va_up (va_up (va_up (va_up f 10 (.int 0)) 12 (.int 0)) 23 (.int 0)) 25 (.int 0)) 27 (.int 0)) 34 (.int 0)) 35 (.int 0)) 40 (.int 0)))), (a1, .inl (c1, 3000, .inl z1)), (a32, .inl (c32, 30, .inr (.inl z32))), (a33, .inl (c33, 30, .inl z33)), (a13, .inl (c13, 3200, .inl z13)), (a14, .inl (c14, 3200, .inl z14)), (a15, .inl (c15, 3200, .inl z15)), (a16, .inl (c16, 3200, .inl z16)), (a17, .inl (c17, 3200, .inl z17)), (a18, .inl (c18, 3200, .inl z18)), (a19, .inl (c19, 3200, .inl z19)), (a20, .inl (c20, 3200, .inr (.inl z20))), (a21, .inl (c21, 3200, .inl z21)), (a22, .inl (c22, 3200, .inl z22))] := hD
  refine lv_aload_n hx hb dX12_readProgram_40 rfl (lv_at hl 0 rfl) ?_
  refine lv_iconst (v := 0) hx hb dX12_readProgram_41 (by decide) ?_
  refine va_put (D := (dC, dI)) (ci := 15) (v := .int 0) (ty := (tyX12 5)) (C := RX12) (T := TX12) (N := 136) hx hb hu iuX12 tyX12 tyX12_ok nmX12 hown hK hP hD hS 0 rfl rfl 5 (by decide) (hu _ mG_2055) (fun _ h9 => h9) rfl (by decide +kernel) (rfl) (rfl) (by rw [bF_len]; decide) dX12_readProgram_42 (fun H locs hP hD hS => ?_)
  rw [show (bF (va_up (va_up (va_up (va_up (va_up (va_up (va_up (va_up f 10 (.int 0)) 12 (.int 0)) 23 (.int 0)) 25 (.int 0)) 27 (.int 0)) 34 (.int 0)) 35 (.int 0)) 40 (.int 0))).set 5 (.int 0) = bF (va_up (va_up (va_up (va_up (va_up (va_up (va_up (va_up (va_up f 10 (.int 0)) 12 (.int 0)) 23 (.int 0)) 25 (.int 0)) 27 (.int 0)) 34 (.int 0)) 35 (.int 0)) 40 (.int 0)) 5 (.int 0)) from bF_set (by decide)] at hP hD
  have hP : va_P (dC, dI) vwCl [(o, .inr (15, bF (va_up (va_up (va_up (va_up (va_up (va_up (va_up (va_up (va_up f 10 (.int 0)) 12 (.int 0)) 23 (.int 0)) 25 (.int 0)) 27 (.int 0)) 34 (.int 0)) 35 (.int 0)) 40 (.int 0)) 5 (.int 0)))), (a1, .inl (c1, 3000, .inl z1)), (a32, .inl (c32, 30, .inr (.inl z32))), (a33, .inl (c33, 30, .inl z33)), (a13, .inl (c13, 3200, .inl z13)), (a14, .inl (c14, 3200, .inl z14)), (a15, .inl (c15, 3200, .inl z15)), (a16, .inl (c16, 3200, .inl z16)), (a17, .inl (c17, 3200, .inl z17)), (a18, .inl (c18, 3200, .inl z18)), (a19, .inl (c19, 3200, .inl z19)), (a20, .inl (c20, 3200, .inr (.inl z20))), (a21, .inl (c21, 3200, .inl z21)), (a22, .inl (c22, 3200, .inl z22))] H := hP
  have hD : va_D A [(o, .inr (15, bF (va_up (va_up (va_up (va_up (va_up (va_up (va_up (va_up (va_up f 10 (.int 0)) 12 (.int 0)) 23 (.int 0)) 25 (.int 0)) 27 (.int 0)) 34 (.int 0)) 35 (.int 0)) 40 (.int 0)) 5 (.int 0)))), (a1, .inl (c1, 3000, .inl z1)), (a32, .inl (c32, 30, .inr (.inl z32))), (a33, .inl (c33, 30, .inl z33)), (a13, .inl (c13, 3200, .inl z13)), (a14, .inl (c14, 3200, .inl z14)), (a15, .inl (c15, 3200, .inl z15)), (a16, .inl (c16, 3200, .inl z16)), (a17, .inl (c17, 3200, .inl z17)), (a18, .inl (c18, 3200, .inl z18)), (a19, .inl (c19, 3200, .inl z19)), (a20, .inl (c20, 3200, .inr (.inl z20))), (a21, .inl (c21, 3200, .inl z21)), (a22, .inl (c22, 3200, .inl z22))] := hD
  refine lv_aload_n hx hb dX12_readProgram_45 rfl (lv_at hl 0 rfl) ?_
  refine lv_iconst (v := 2) hx hb dX12_readProgram_46 (by decide) ?_
  refine va_put (D := (dC, dI)) (ci := 15) (v := .int 2) (ty := (tyX12 31)) (C := RX12) (T := TX12) (N := 136) hx hb hu iuX12 tyX12 tyX12_ok nmX12 hown hK hP hD hS 0 rfl rfl 31 (by decide) (hu _ mG_2081) (fun _ h9 => h9) rfl (by decide +kernel) (rfl) (rfl) (by rw [bF_len]; decide) dX12_readProgram_47 (fun H locs hP hD hS => ?_)
  rw [show (bF (va_up (va_up (va_up (va_up (va_up (va_up (va_up (va_up (va_up f 10 (.int 0)) 12 (.int 0)) 23 (.int 0)) 25 (.int 0)) 27 (.int 0)) 34 (.int 0)) 35 (.int 0)) 40 (.int 0)) 5 (.int 0))).set 31 (.int 2) = bF (va_up (va_up (va_up (va_up (va_up (va_up (va_up (va_up (va_up (va_up f 10 (.int 0)) 12 (.int 0)) 23 (.int 0)) 25 (.int 0)) 27 (.int 0)) 34 (.int 0)) 35 (.int 0)) 40 (.int 0)) 5 (.int 0)) 31 (.int 2)) from bF_set (by decide)] at hP hD
  have hP : va_P (dC, dI) vwCl [(o, .inr (15, bF (va_up (va_up (va_up (va_up (va_up (va_up (va_up (va_up (va_up (va_up f 10 (.int 0)) 12 (.int 0)) 23 (.int 0)) 25 (.int 0)) 27 (.int 0)) 34 (.int 0)) 35 (.int 0)) 40 (.int 0)) 5 (.int 0)) 31 (.int 2)))), (a1, .inl (c1, 3000, .inl z1)), (a32, .inl (c32, 30, .inr (.inl z32))), (a33, .inl (c33, 30, .inl z33)), (a13, .inl (c13, 3200, .inl z13)), (a14, .inl (c14, 3200, .inl z14)), (a15, .inl (c15, 3200, .inl z15)), (a16, .inl (c16, 3200, .inl z16)), (a17, .inl (c17, 3200, .inl z17)), (a18, .inl (c18, 3200, .inl z18)), (a19, .inl (c19, 3200, .inl z19)), (a20, .inl (c20, 3200, .inr (.inl z20))), (a21, .inl (c21, 3200, .inl z21)), (a22, .inl (c22, 3200, .inl z22))] H := hP
  have hD : va_D A [(o, .inr (15, bF (va_up (va_up (va_up (va_up (va_up (va_up (va_up (va_up (va_up (va_up f 10 (.int 0)) 12 (.int 0)) 23 (.int 0)) 25 (.int 0)) 27 (.int 0)) 34 (.int 0)) 35 (.int 0)) 40 (.int 0)) 5 (.int 0)) 31 (.int 2)))), (a1, .inl (c1, 3000, .inl z1)), (a32, .inl (c32, 30, .inr (.inl z32))), (a33, .inl (c33, 30, .inl z33)), (a13, .inl (c13, 3200, .inl z13)), (a14, .inl (c14, 3200, .inl z14)), (a15, .inl (c15, 3200, .inl z15)), (a16, .inl (c16, 3200, .inl z16)), (a17, .inl (c17, 3200, .inl z17)), (a18, .inl (c18, 3200, .inl z18)), (a19, .inl (c19, 3200, .inl z19)), (a20, .inl (c20, 3200, .inr (.inl z20))), (a21, .inl (c21, 3200, .inl z21)), (a22, .inl (c22, 3200, .inl z22))] := hD
  refine lv_aload_n hx hb dX12_readProgram_50 rfl (lv_at hl 0 rfl) ?_
  refine va_get (D := (dC, dI)) (ci := 15) (v := .ref a32) (C := RX12) (T := TX12) (N := 136) hx hb hu iuX12 hown hK hP 0 rfl rfl 32 (by decide) (hu _ mG_2082) (fun _ h9 => h9) ((bF_get (by decide)).trans (congrArg some (h32))) dX12_readProgram_51 ?_
  refine lv_iconst (v := 0) hx hb dX12_readProgram_54 (by decide) ?_
  refine lv_bipush (v := 70) hx hb dX12_readProgram_55 (by decide) ?_
  refine lv_bipush (v := 97) hx hb dX12_readProgram_57 (by decide) ?_
  refine lv_bipush (v := 108) hx hb dX12_readProgram_59 (by decide) ?_
  refine lv_bipush (v := 115) hx hb dX12_readProgram_61 (by decide) ?_
  refine lv_bipush (v := 101) hx hb dX12_readProgram_63 (by decide) ?_
  have hPc := hP.sub (ws' := []) [] rfl
  have hDc := hD.sub (ws' := []) [] (by decide) rfl
  have hKc := hK.sub (tys' := []) [] rfl
  have hFc := va_free (wc := []) hD hS hA [] rfl
  refine va_calll (va_runS (As := [.int 70, .int 97, .int 108, .int 115, .int 101]) (rest := [.int 0, .ref a32]) ⟨hx, hb, hml, hown, hu⟩ (kX12_pack l dC dI H.size 70 97 108 115 101) (cwS 5 hu (uG_S (fun _ h => h) mG_2478 mG_2476 mG_2477 mG_226) rfl rfl rfl (by decide +kernel) ⟨Nat.le_of_ble_eq_true rfl, Nat.le_of_ble_eq_true rfl⟩) ⟨fun a U g mk q => by obtain ⟨q0, q1, qP, qK, qD⟩ := q; exact ⟨q0, q1, qP, va_K.moved (u := U) (U := U.calling g mk a) (Vm.Alike.refl U.vm) qK, qD⟩, fun U hU hW => ⟨rfl, by rw [hU], by rw [hU]; exact hPc, va_K.moved hW.alike hKc, hDc.weaken (fun _ _ _ _ => trivial)⟩⟩ rfl rfl hl.1 rfl (lv_room (Nat.le_of_ble_eq_true rfl)) dX12_readProgram_65 ⟨Nat.le_of_ble_eq_true rfl, Nat.le_of_ble_eq_true rfl⟩) hS (fun q _ h => hFc q h) hFc (fun r65 u t H1 locs ht hvm hw hB hz1 hk1 hS => ?_)
  obtain ⟨hP1, hK1, hD1⟩ := hB
  rw [ht] at hP1
  obtain ⟨hP, hD⟩ := va_join (wr := [(o, .inr (15, bF (va_up (va_up (va_up (va_up (va_up (va_up (va_up (va_up (va_up (va_up f 10 (.int 0)) 12 (.int 0)) 23 (.int 0)) 25 (.int 0)) 27 (.int 0)) 34 (.int 0)) 35 (.int 0)) 40 (.int 0)) 5 (.int 0)) 31 (.int 2)))), (a1, .inl (c1, 3000, .inl z1)), (a32, .inl (c32, 30, .inr (.inl z32))), (a33, .inl (c33, 30, .inl z33)), (a13, .inl (c13, 3200, .inl z13)), (a14, .inl (c14, 3200, .inl z14)), (a15, .inl (c15, 3200, .inl z15)), (a16, .inl (c16, 3200, .inl z16)), (a17, .inl (c17, 3200, .inl z17)), (a18, .inl (c18, 3200, .inl z18)), (a19, .inl (c19, 3200, .inl z19)), (a20, .inl (c20, 3200, .inr (.inl z20))), (a21, .inl (c21, 3200, .inl z21)), (a22, .inl (c22, 3200, .inl z22))]) (w1 := []) hP hD [] [0, 1, 2, 3, 4, 5, 6, 7, 8, 9, 10, 11, 12, 13] rfl rfl (by decide) (by decide) hk1 hFc hP1 hD1
  generalize H1 = H at hP hS ⊢
  have hP : va_P (dC, dI) vwCl [(o, .inr (15, bF (va_up (va_up (va_up (va_up (va_up (va_up (va_up (va_up (va_up (va_up f 10 (.int 0)) 12 (.int 0)) 23 (.int 0)) 25 (.int 0)) 27 (.int 0)) 34 (.int 0)) 35 (.int 0)) 40 (.int 0)) 5 (.int 0)) 31 (.int 2)))), (a1, .inl (c1, 3000, .inl z1)), (a32, .inl (c32, 30, .inr (.inl z32))), (a33, .inl (c33, 30, .inl z33)), (a13, .inl (c13, 3200, .inl z13)), (a14, .inl (c14, 3200, .inl z14)), (a15, .inl (c15, 3200, .inl z15)), (a16, .inl (c16, 3200, .inl z16)), (a17, .inl (c17, 3200, .inl z17)), (a18, .inl (c18, 3200, .inl z18)), (a19, .inl (c19, 3200, .inl z19)), (a20, .inl (c20, 3200, .inr (.inl z20))), (a21, .inl (c21, 3200, .inl z21)), (a22, .inl (c22, 3200, .inl z22))] H := hP
  have hD : va_D A [(o, .inr (15, bF (va_up (va_up (va_up (va_up (va_up (va_up (va_up (va_up (va_up (va_up f 10 (.int 0)) 12 (.int 0)) 23 (.int 0)) 25 (.int 0)) 27 (.int 0)) 34 (.int 0)) 35 (.int 0)) 40 (.int 0)) 5 (.int 0)) 31 (.int 2)))), (a1, .inl (c1, 3000, .inl z1)), (a32, .inl (c32, 30, .inr (.inl z32))), (a33, .inl (c33, 30, .inl z33)), (a13, .inl (c13, 3200, .inl z13)), (a14, .inl (c14, 3200, .inl z14)), (a15, .inl (c15, 3200, .inl z15)), (a16, .inl (c16, 3200, .inl z16)), (a17, .inl (c17, 3200, .inl z17)), (a18, .inl (c18, 3200, .inl z18)), (a19, .inl (c19, 3200, .inl z19)), (a20, .inl (c20, 3200, .inr (.inl z20))), (a21, .inl (c21, 3200, .inl z21)), (a22, .inl (c22, 3200, .inl z22))] := hD
  have er65 : r65 = (pk5 70 97 108 115 101) := hw
  subst er65
  refine va_last hx hb hK hP hD hS 2 1 rfl rfl (vp_in_iff.mpr (by decide)) dX12_readProgram_68 (fun H locs hP hD hS => ?_)
  have hP : va_P (dC, dI) vwCl [(o, .inr (15, bF (va_up (va_up (va_up (va_up (va_up (va_up (va_up (va_up (va_up (va_up f 10 (.int 0)) 12 (.int 0)) 23 (.int 0)) 25 (.int 0)) 27 (.int 0)) 34 (.int 0)) 35 (.int 0)) 40 (.int 0)) 5 (.int 0)) 31 (.int 2)))), (a1, .inl (c1, 3000, .inl z1)), (a32, .inl (c32, 30, .inr (.inl (vp_updL z32 (0 : Int32).toNatClampNeg (pk5 70 97 108 115 101))))), (a33, .inl (c33, 30, .inl z33)), (a13, .inl (c13, 3200, .inl z13)), (a14, .inl (c14, 3200, .inl z14)), (a15, .inl (c15, 3200, .inl z15)), (a16, .inl (c16, 3200, .inl z16)), (a17, .inl (c17, 3200, .inl z17)), (a18, .inl (c18, 3200, .inl z18)), (a19, .inl (c19, 3200, .inl z19)), (a20, .inl (c20, 3200, .inr (.inl z20))), (a21, .inl (c21, 3200, .inl z21)), (a22, .inl (c22, 3200, .inl z22))] H := hP
  have hD : va_D A [(o, .inr (15, bF (va_up (va_up (va_up (va_up (va_up (va_up (va_up (va_up (va_up (va_up f 10 (.int 0)) 12 (.int 0)) 23 (.int 0)) 25 (.int 0)) 27 (.int 0)) 34 (.int 0)) 35 (.int 0)) 40 (.int 0)) 5 (.int 0)) 31 (.int 2)))), (a1, .inl (c1, 3000, .inl z1)), (a32, .inl (c32, 30, .inr (.inl (vp_updL z32 (0 : Int32).toNatClampNeg (pk5 70 97 108 115 101))))), (a33, .inl (c33, 30, .inl z33)), (a13, .inl (c13, 3200, .inl z13)), (a14, .inl (c14, 3200, .inl z14)), (a15, .inl (c15, 3200, .inl z15)), (a16, .inl (c16, 3200, .inl z16)), (a17, .inl (c17, 3200, .inl z17)), (a18, .inl (c18, 3200, .inl z18)), (a19, .inl (c19, 3200, .inl z19)), (a20, .inl (c20, 3200, .inr (.inl z20))), (a21, .inl (c21, 3200, .inl z21)), (a22, .inl (c22, 3200, .inl z22))] := hD
  refine lv_aload_n hx hb dX12_readProgram_69 rfl (lv_at hl 0 rfl) ?_
  refine va_get (D := (dC, dI)) (ci := 15) (v := .ref a32) (C := RX12) (T := TX12) (N := 136) hx hb hu iuX12 hown hK hP 0 rfl rfl 32 (by decide) (hu _ mG_2082) (fun _ h9 => h9) ((bF_get (by decide)).trans (congrArg some (h32))) dX12_readProgram_70 ?_
  refine lv_iconst (v := 1) hx hb dX12_readProgram_73 (by decide) ?_
  refine lv_bipush (v := 84) hx hb dX12_readProgram_74 (by decide) ?_
  refine lv_bipush (v := 114) hx hb dX12_readProgram_76 (by decide) ?_
  refine lv_bipush (v := 117) hx hb dX12_readProgram_78 (by decide) ?_
  refine lv_bipush (v := 101) hx hb dX12_readProgram_80 (by decide) ?_
  refine lv_iconst (v := 0) hx hb dX12_readProgram_82 (by decide) ?_
  have hPc := hP.sub (ws' := []) [] rfl
  have hDc := hD.sub (ws' := []) [] (by decide) rfl
  have hKc := hK.sub (tys' := []) [] rfl
  have hFc := va_free (wc := []) hD hS hA [] rfl
  refine va_calll (va_runS (As := [.int 84, .int 114, .int 117, .int 101, .int 0]) (rest := [.int 1, .ref a32]) ⟨hx, hb, hml, hown, hu⟩ (kX12_pack l dC dI H.size 84 114 117 101 0) (cwS 5 hu (uG_S (fun _ h => h) mG_2478 mG_2476 mG_2477 mG_226) rfl rfl rfl (by decide +kernel) ⟨Nat.le_of_ble_eq_true rfl, Nat.le_of_ble_eq_true rfl⟩) ⟨fun a U g mk q => by obtain ⟨q0, q1, qP, qK, qD⟩ := q; exact ⟨q0, q1, qP, va_K.moved (u := U) (U := U.calling g mk a) (Vm.Alike.refl U.vm) qK, qD⟩, fun U hU hW => ⟨rfl, by rw [hU], by rw [hU]; exact hPc, va_K.moved hW.alike hKc, hDc.weaken (fun _ _ _ _ => trivial)⟩⟩ rfl rfl hl.1 rfl (lv_room (Nat.le_of_ble_eq_true rfl)) dX12_readProgram_83 ⟨Nat.le_of_ble_eq_true rfl, Nat.le_of_ble_eq_true rfl⟩) hS (fun q _ h => hFc q h) hFc (fun r83 u t H1 locs ht hvm hw hB hz1 hk1 hS => ?_)
  obtain ⟨hP1, hK1, hD1⟩ := hB
  rw [ht] at hP1
  obtain ⟨hP, hD⟩ := va_join (wr := [(o, .inr (15, bF (va_up (va_up (va_up (va_up (va_up (va_up (va_up (va_up (va_up (va_up f 10 (.int 0)) 12 (.int 0)) 23 (.int 0)) 25 (.int 0)) 27 (.int 0)) 34 (.int 0)) 35 (.int 0)) 40 (.int 0)) 5 (.int 0)) 31 (.int 2)))), (a1, .inl (c1, 3000, .inl z1)), (a32, .inl (c32, 30, .inr (.inl (vp_updL z32 (0 : Int32).toNatClampNeg (pk5 70 97 108 115 101))))), (a33, .inl (c33, 30, .inl z33)), (a13, .inl (c13, 3200, .inl z13)), (a14, .inl (c14, 3200, .inl z14)), (a15, .inl (c15, 3200, .inl z15)), (a16, .inl (c16, 3200, .inl z16)), (a17, .inl (c17, 3200, .inl z17)), (a18, .inl (c18, 3200, .inl z18)), (a19, .inl (c19, 3200, .inl z19)), (a20, .inl (c20, 3200, .inr (.inl z20))), (a21, .inl (c21, 3200, .inl z21)), (a22, .inl (c22, 3200, .inl z22))]) (w1 := []) hP hD [] [0, 1, 2, 3, 4, 5, 6, 7, 8, 9, 10, 11, 12, 13] rfl rfl (by decide) (by decide) hk1 hFc hP1 hD1
  generalize H1 = H at hP hS ⊢
  have hP : va_P (dC, dI) vwCl [(o, .inr (15, bF (va_up (va_up (va_up (va_up (va_up (va_up (va_up (va_up (va_up (va_up f 10 (.int 0)) 12 (.int 0)) 23 (.int 0)) 25 (.int 0)) 27 (.int 0)) 34 (.int 0)) 35 (.int 0)) 40 (.int 0)) 5 (.int 0)) 31 (.int 2)))), (a1, .inl (c1, 3000, .inl z1)), (a32, .inl (c32, 30, .inr (.inl (vp_updL z32 (0 : Int32).toNatClampNeg (pk5 70 97 108 115 101))))), (a33, .inl (c33, 30, .inl z33)), (a13, .inl (c13, 3200, .inl z13)), (a14, .inl (c14, 3200, .inl z14)), (a15, .inl (c15, 3200, .inl z15)), (a16, .inl (c16, 3200, .inl z16)), (a17, .inl (c17, 3200, .inl z17)), (a18, .inl (c18, 3200, .inl z18)), (a19, .inl (c19, 3200, .inl z19)), (a20, .inl (c20, 3200, .inr (.inl z20))), (a21, .inl (c21, 3200, .inl z21)), (a22, .inl (c22, 3200, .inl z22))] H := hP
  have hD : va_D A [(o, .inr (15, bF (va_up (va_up (va_up (va_up (va_up (va_up (va_up (va_up (va_up (va_up f 10 (.int 0)) 12 (.int 0)) 23 (.int 0)) 25 (.int 0)) 27 (.int 0)) 34 (.int 0)) 35 (.int 0)) 40 (.int 0)) 5 (.int 0)) 31 (.int 2)))), (a1, .inl (c1, 3000, .inl z1)), (a32, .inl (c32, 30, .inr (.inl (vp_updL z32 (0 : Int32).toNatClampNeg (pk5 70 97 108 115 101))))), (a33, .inl (c33, 30, .inl z33)), (a13, .inl (c13, 3200, .inl z13)), (a14, .inl (c14, 3200, .inl z14)), (a15, .inl (c15, 3200, .inl z15)), (a16, .inl (c16, 3200, .inl z16)), (a17, .inl (c17, 3200, .inl z17)), (a18, .inl (c18, 3200, .inl z18)), (a19, .inl (c19, 3200, .inl z19)), (a20, .inl (c20, 3200, .inr (.inl z20))), (a21, .inl (c21, 3200, .inl z21)), (a22, .inl (c22, 3200, .inl z22))] := hD
  have er83 : r83 = (pk5 84 114 117 101 0) := hw
  subst er83
  refine va_last hx hb hK hP hD hS 2 1 rfl rfl (vp_in_iff.mpr (by decide)) dX12_readProgram_86 (fun H locs hP hD hS => ?_)
  have hP : va_P (dC, dI) vwCl [(o, .inr (15, bF (va_up (va_up (va_up (va_up (va_up (va_up (va_up (va_up (va_up (va_up f 10 (.int 0)) 12 (.int 0)) 23 (.int 0)) 25 (.int 0)) 27 (.int 0)) 34 (.int 0)) 35 (.int 0)) 40 (.int 0)) 5 (.int 0)) 31 (.int 2)))), (a1, .inl (c1, 3000, .inl z1)), (a32, .inl (c32, 30, .inr (.inl (vp_updL (vp_updL z32 (0 : Int32).toNatClampNeg (pk5 70 97 108 115 101)) (1 : Int32).toNatClampNeg (pk5 84 114 117 101 0))))), (a33, .inl (c33, 30, .inl z33)), (a13, .inl (c13, 3200, .inl z13)), (a14, .inl (c14, 3200, .inl z14)), (a15, .inl (c15, 3200, .inl z15)), (a16, .inl (c16, 3200, .inl z16)), (a17, .inl (c17, 3200, .inl z17)), (a18, .inl (c18, 3200, .inl z18)), (a19, .inl (c19, 3200, .inl z19)), (a20, .inl (c20, 3200, .inr (.inl z20))), (a21, .inl (c21, 3200, .inl z21)), (a22, .inl (c22, 3200, .inl z22))] H := hP
  have hD : va_D A [(o, .inr (15, bF (va_up (va_up (va_up (va_up (va_up (va_up (va_up (va_up (va_up (va_up f 10 (.int 0)) 12 (.int 0)) 23 (.int 0)) 25 (.int 0)) 27 (.int 0)) 34 (.int 0)) 35 (.int 0)) 40 (.int 0)) 5 (.int 0)) 31 (.int 2)))), (a1, .inl (c1, 3000, .inl z1)), (a32, .inl (c32, 30, .inr (.inl (vp_updL (vp_updL z32 (0 : Int32).toNatClampNeg (pk5 70 97 108 115 101)) (1 : Int32).toNatClampNeg (pk5 84 114 117 101 0))))), (a33, .inl (c33, 30, .inl z33)), (a13, .inl (c13, 3200, .inl z13)), (a14, .inl (c14, 3200, .inl z14)), (a15, .inl (c15, 3200, .inl z15)), (a16, .inl (c16, 3200, .inl z16)), (a17, .inl (c17, 3200, .inl z17)), (a18, .inl (c18, 3200, .inl z18)), (a19, .inl (c19, 3200, .inl z19)), (a20, .inl (c20, 3200, .inr (.inl z20))), (a21, .inl (c21, 3200, .inl z21)), (a22, .inl (c22, 3200, .inl z22))] := hD
  refine lv_aload_n hx hb dX12_readProgram_87 rfl (lv_at hl 0 rfl) ?_
  refine va_get (D := (dC, dI)) (ci := 15) (v := .ref a33) (C := RX12) (T := TX12) (N := 136) hx hb hu iuX12 hown hK hP 0 rfl rfl 33 (by decide) (hu _ mG_2083) (fun _ h9 => h9) ((bF_get (by decide)).trans (congrArg some (h33))) dX12_readProgram_88 ?_
  refine lv_iconst (v := 0) hx hb dX12_readProgram_91 (by decide) ?_
  refine lv_iconst (v := 0) hx hb dX12_readProgram_92 (by decide) ?_
  refine va_iast hx hb hK hP hD hS 3 2 rfl rfl (vp_in_iff.mpr (by decide)) dX12_readProgram_93 (fun H locs hP hD hS => ?_)
  have hP : va_P (dC, dI) vwCl [(o, .inr (15, bF (va_up (va_up (va_up (va_up (va_up (va_up (va_up (va_up (va_up (va_up f 10 (.int 0)) 12 (.int 0)) 23 (.int 0)) 25 (.int 0)) 27 (.int 0)) 34 (.int 0)) 35 (.int 0)) 40 (.int 0)) 5 (.int 0)) 31 (.int 2)))), (a1, .inl (c1, 3000, .inl z1)), (a32, .inl (c32, 30, .inr (.inl (vp_updL (vp_updL z32 (0 : Int32).toNatClampNeg (pk5 70 97 108 115 101)) (1 : Int32).toNatClampNeg (pk5 84 114 117 101 0))))), (a33, .inl (c33, 30, .inl (upd z33 (0 : Int32).toNatClampNeg 0))), (a13, .inl (c13, 3200, .inl z13)), (a14, .inl (c14, 3200, .inl z14)), (a15, .inl (c15, 3200, .inl z15)), (a16, .inl (c16, 3200, .inl z16)), (a17, .inl (c17, 3200, .inl z17)), (a18, .inl (c18, 3200, .inl z18)), (a19, .inl (c19, 3200, .inl z19)), (a20, .inl (c20, 3200, .inr (.inl z20))), (a21, .inl (c21, 3200, .inl z21)), (a22, .inl (c22, 3200, .inl z22))] H := hP
  have hD : va_D A [(o, .inr (15, bF (va_up (va_up (va_up (va_up (va_up (va_up (va_up (va_up (va_up (va_up f 10 (.int 0)) 12 (.int 0)) 23 (.int 0)) 25 (.int 0)) 27 (.int 0)) 34 (.int 0)) 35 (.int 0)) 40 (.int 0)) 5 (.int 0)) 31 (.int 2)))), (a1, .inl (c1, 3000, .inl z1)), (a32, .inl (c32, 30, .inr (.inl (vp_updL (vp_updL z32 (0 : Int32).toNatClampNeg (pk5 70 97 108 115 101)) (1 : Int32).toNatClampNeg (pk5 84 114 117 101 0))))), (a33, .inl (c33, 30, .inl (upd z33 (0 : Int32).toNatClampNeg 0))), (a13, .inl (c13, 3200, .inl z13)), (a14, .inl (c14, 3200, .inl z14)), (a15, .inl (c15, 3200, .inl z15)), (a16, .inl (c16, 3200, .inl z16)), (a17, .inl (c17, 3200, .inl z17)), (a18, .inl (c18, 3200, .inl z18)), (a19, .inl (c19, 3200, .inl z19)), (a20, .inl (c20, 3200, .inr (.inl z20))), (a21, .inl (c21, 3200, .inl z21)), (a22, .inl (c22, 3200, .inl z22))] := hD
  refine lv_aload_n hx hb dX12_readProgram_94 rfl (lv_at hl 0 rfl) ?_
  refine va_get (D := (dC, dI)) (ci := 15) (v := .ref a33) (C := RX12) (T := TX12) (N := 136) hx hb hu iuX12 hown hK hP 0 rfl rfl 33 (by decide) (hu _ mG_2083) (fun _ h9 => h9) ((bF_get (by decide)).trans (congrArg some (h33))) dX12_readProgram_95 ?_
  refine lv_iconst (v := 1) hx hb dX12_readProgram_98 (by decide) ?_
  refine lv_iconst (v := 0) hx hb dX12_readProgram_99 (by decide) ?_
  refine va_iast hx hb hK hP hD hS 3 2 rfl rfl (vp_in_iff.mpr (by decide)) dX12_readProgram_100 (fun H locs hP hD hS => ?_)
  have hP : va_P (dC, dI) vwCl [(o, .inr (15, bF (va_up (va_up (va_up (va_up (va_up (va_up (va_up (va_up (va_up (va_up f 10 (.int 0)) 12 (.int 0)) 23 (.int 0)) 25 (.int 0)) 27 (.int 0)) 34 (.int 0)) 35 (.int 0)) 40 (.int 0)) 5 (.int 0)) 31 (.int 2)))), (a1, .inl (c1, 3000, .inl z1)), (a32, .inl (c32, 30, .inr (.inl (vp_updL (vp_updL z32 (0 : Int32).toNatClampNeg (pk5 70 97 108 115 101)) (1 : Int32).toNatClampNeg (pk5 84 114 117 101 0))))), (a33, .inl (c33, 30, .inl (upd (upd z33 (0 : Int32).toNatClampNeg 0) (1 : Int32).toNatClampNeg 0))), (a13, .inl (c13, 3200, .inl z13)), (a14, .inl (c14, 3200, .inl z14)), (a15, .inl (c15, 3200, .inl z15)), (a16, .inl (c16, 3200, .inl z16)), (a17, .inl (c17, 3200, .inl z17)), (a18, .inl (c18, 3200, .inl z18)), (a19, .inl (c19, 3200, .inl z19)), (a20, .inl (c20, 3200, .inr (.inl z20))), (a21, .inl (c21, 3200, .inl z21)), (a22, .inl (c22, 3200, .inl z22))] H := hP
  have hD : va_D A [(o, .inr (15, bF (va_up (va_up (va_up (va_up (va_up (va_up (va_up (va_up (va_up (va_up f 10 (.int 0)) 12 (.int 0)) 23 (.int 0)) 25 (.int 0)) 27 (.int 0)) 34 (.int 0)) 35 (.int 0)) 40 (.int 0)) 5 (.int 0)) 31 (.int 2)))), (a1, .inl (c1, 3000, .inl z1)), (a32, .inl (c32, 30, .inr (.inl (vp_updL (vp_updL z32 (0 : Int32).toNatClampNeg (pk5 70 97 108 115 101)) (1 : Int32).toNatClampNeg (pk5 84 114 117 101 0))))), (a33, .inl (c33, 30, .inl (upd (upd z33 (0 : Int32).toNatClampNeg 0) (1 : Int32).toNatClampNeg 0))), (a13, .inl (c13, 3200, .inl z13)), (a14, .inl (c14, 3200, .inl z14)), (a15, .inl (c15, 3200, .inl z15)), (a16, .inl (c16, 3200, .inl z16)), (a17, .inl (c17, 3200, .inl z17)), (a18, .inl (c18, 3200, .inl z18)), (a19, .inl (c19, 3200, .inl z19)), (a20, .inl (c20, 3200, .inr (.inl z20))), (a21, .inl (c21, 3200, .inl z21)), (a22, .inl (c22, 3200, .inl z22))] := hD
  refine lv_aload_n hx hb dX12_readProgram_101 rfl (lv_at hl 0 rfl) ?_
  have hPc := hP.sub (ws' := [(o, .inr (15, bF (va_up (va_up (va_up (va_up (va_up (va_up (va_up (va_up (va_up (va_up f 10 (.int 0)) 12 (.int 0)) 23 (.int 0)) 25 (.int 0)) 27 (.int 0)) 34 (.int 0)) 35 (.int 0)) 40 (.int 0)) 5 (.int 0)) 31 (.int 2)))), (a1, .inl (c1, 3000, .inl z1))]) [0, 1] rfl
  have hDc := hD.sub (ws' := [(o, .inr (15, bF (va_up (va_up (va_up (va_up (va_up (va_up (va_up (va_up (va_up (va_up f 10 (.int 0)) 12 (.int 0)) 23 (.int 0)) 25 (.int 0)) 27 (.int 0)) 34 (.int 0)) 35 (.int 0)) 40 (.int 0)) 5 (.int 0)) 31 (.int 2)))), (a1, .inl (c1, 3000, .inl z1))]) [0, 1] (by decide) rfl
  have hKc := hK.sub (tys' := [(c1, .int)]) [0] rfl
  have hFc := va_free (wc := [(o, .inr (15, bF (va_up (va_up (va_up (va_up (va_up (va_up (va_up (va_up (va_up (va_up f 10 (.int 0)) 12 (.int 0)) 23 (.int 0)) 25 (.int 0)) 27 (.int 0)) 34 (.int 0)) 35 (.int 0)) 40 (.int 0)) 5 (.int 0)) 31 (.int 2)))), (a1, .inl (c1, 3000, .inl z1))]) hD hS hA [0, 1] rfl
  refine va_callv (va_runV (As := []) (rest := []) ⟨hx, hb, hml, hown, hu⟩ (kX12_next_0 l dC dI H.size o (va_up (va_up (va_up (va_up (va_up (va_up (va_up (va_up (va_up (va_up f 10 (.int 0)) 12 (.int 0)) 23 (.int 0)) 25 (.int 0)) 27 (.int 0)) 34 (.int 0)) 35 (.int 0)) 40 (.int 0)) 5 (.int 0)) 31 (.int 2))  a1 c1 z1  (h2) (rfl) (h1) ) (cwV 0 hu (uG_V (fun _ h => h) mG_2482 mG_2479 mG_2481 mG_108 mG_226) rfl rfl rfl (by decide +kernel) ⟨Nat.le_of_ble_eq_true rfl, Nat.le_of_ble_eq_true rfl⟩) ⟨fun a U g mk q => by obtain ⟨q0, q1, qP, qK, qD⟩ := q; exact ⟨q0, q1, qP, va_K.moved (u := U) (U := U.calling g mk a) (Vm.Alike.refl U.vm) qK, qD⟩, va_recv hKc hPc (ci := 15) (q0 := 0) rfl rfl, fun U hU hW => ⟨rfl, by rw [hU], by rw [hU]; exact hPc, va_K.moved hW.alike hKc, hDc.weaken (fun _ _ _ _ => trivial)⟩⟩ rfl rfl hl.1 rfl (lv_room (Nat.le_of_ble_eq_true rfl)) dX12_readProgram_102 ⟨Nat.le_of_ble_eq_true rfl, Nat.le_of_ble_eq_true rfl⟩) hS (fun q _ h => hFc q h) hFc (fun u t H1 locs ht hvm hw hB hz1 hk1 hS => ?_)
  obtain ⟨hP1, hK1, hD1⟩ := hB
  rw [ht] at hP1
  obtain ⟨hP, hD⟩ := va_join (wr := [(a32, .inl (c32, 30, .inr (.inl (vp_updL (vp_updL z32 (0 : Int32).toNatClampNeg (pk5 70 97 108 115 101)) (1 : Int32).toNatClampNeg (pk5 84 114 117 101 0))))), (a33, .inl (c33, 30, .inl (upd (upd z33 (0 : Int32).toNatClampNeg 0) (1 : Int32).toNatClampNeg 0))), (a13, .inl (c13, 3200, .inl z13)), (a14, .inl (c14, 3200, .inl z14)), (a15, .inl (c15, 3200, .inl z15)), (a16, .inl (c16, 3200, .inl z16)), (a17, .inl (c17, 3200, .inl z17)), (a18, .inl (c18, 3200, .inl z18)), (a19, .inl (c19, 3200, .inl z19)), (a20, .inl (c20, 3200, .inr (.inl z20))), (a21, .inl (c21, 3200, .inl z21)), (a22, .inl (c22, 3200, .inl z22))]) (w1 := [(o, .inr (15, bF (va_up (va_up (va_up (va_up (va_up (va_up (va_up (va_up (va_up (va_up (va_up (va_up f 10 (.int 0)) 12 (.int 0)) 23 (.int 0)) 25 (.int 0)) 27 (.int 0)) 34 (.int 0)) 35 (.int 0)) 40 (.int 0)) 5 (.int 0)) 31 (.int 2)) 7 (.int 0)) 6 (.int 0)))), (a1, .inl (c1, 3000, .inl z1))]) hP hD [0, 1] [2, 3, 4, 5, 6, 7, 8, 9, 10, 11, 12, 13] rfl rfl (by decide) (by decide) hk1 hFc hP1 hD1
  generalize H1 = H at hP hS ⊢
  have hP : va_P (dC, dI) vwCl [(a32, .inl (c32, 30, .inr (.inl (vp_updL (vp_updL z32 (0 : Int32).toNatClampNeg (pk5 70 97 108 115 101)) (1 : Int32).toNatClampNeg (pk5 84 114 117 101 0))))), (a33, .inl (c33, 30, .inl (upd (upd z33 (0 : Int32).toNatClampNeg 0) (1 : Int32).toNatClampNeg 0))), (a13, .inl (c13, 3200, .inl z13)), (a14, .inl (c14, 3200, .inl z14)), (a15, .inl (c15, 3200, .inl z15)), (a16, .inl (c16, 3200, .inl z16)), (a17, .inl (c17, 3200, .inl z17)), (a18, .inl (c18, 3200, .inl z18)), (a19, .inl (c19, 3200, .inl z19)), (a20, .inl (c20, 3200, .inr (.inl z20))), (a21, .inl (c21, 3200, .inl z21)), (a22, .inl (c22, 3200, .inl z22)), (o, .inr (15, bF (va_up (va_up (va_up (va_up (va_up (va_up (va_up (va_up (va_up (va_up (va_up (va_up f 10 (.int 0)) 12 (.int 0)) 23 (.int 0)) 25 (.int 0)) 27 (.int 0)) 34 (.int 0)) 35 (.int 0)) 40 (.int 0)) 5 (.int 0)) 31 (.int 2)) 7 (.int 0)) 6 (.int 0)))), (a1, .inl (c1, 3000, .inl z1))] H := hP
  have hD : va_D A [(a32, .inl (c32, 30, .inr (.inl (vp_updL (vp_updL z32 (0 : Int32).toNatClampNeg (pk5 70 97 108 115 101)) (1 : Int32).toNatClampNeg (pk5 84 114 117 101 0))))), (a33, .inl (c33, 30, .inl (upd (upd z33 (0 : Int32).toNatClampNeg 0) (1 : Int32).toNatClampNeg 0))), (a13, .inl (c13, 3200, .inl z13)), (a14, .inl (c14, 3200, .inl z14)), (a15, .inl (c15, 3200, .inl z15)), (a16, .inl (c16, 3200, .inl z16)), (a17, .inl (c17, 3200, .inl z17)), (a18, .inl (c18, 3200, .inl z18)), (a19, .inl (c19, 3200, .inl z19)), (a20, .inl (c20, 3200, .inr (.inl z20))), (a21, .inl (c21, 3200, .inl z21)), (a22, .inl (c22, 3200, .inl z22)), (o, .inr (15, bF (va_up (va_up (va_up (va_up (va_up (va_up (va_up (va_up (va_up (va_up (va_up (va_up f 10 (.int 0)) 12 (.int 0)) 23 (.int 0)) 25 (.int 0)) 27 (.int 0)) 34 (.int 0)) 35 (.int 0)) 40 (.int 0)) 5 (.int 0)) 31 (.int 2)) 7 (.int 0)) 6 (.int 0)))), (a1, .inl (c1, 3000, .inl z1))] := hD
  refine lv_aload_n hx hb dX12_readProgram_105 rfl (lv_at hl 0 rfl) ?_
  refine va_get (D := (dC, dI)) (ci := 15) (v := .int 0) (C := RX12) (T := TX12) (N := 136) hx hb hu iuX12 hown hK hP 12 rfl rfl 10 (by decide) (hu _ mG_2060) (fun _ h9 => h9) ((bF_get (by decide)).trans (congrArg some (rfl))) dX12_readProgram_106 ?_
  refine lv_if_ne (tgt := 132) hx hb dX12_readProgram_109 (by decide) (fun c109 => ?_) (fun c109 => ?_)
  · exact absurd (by decide) c109
  · refine lv_aload_n hx hb dX12_readProgram_112 rfl (lv_at hl 0 rfl) ?_
    refine va_get (D := (dC, dI)) (ci := 15) (v := .int 0) (C := RX12) (T := TX12) (N := 136) hx hb hu iuX12 hown hK hP 12 rfl rfl 6 (by decide) (hu _ mG_2056) (fun _ h9 => h9) ((bF_get (by decide)).trans (congrArg some (rfl))) dX12_readProgram_113 ?_
    refine lv_bipush (v := 10) hx hb dX12_readProgram_116 (by decide) ?_
    refine lv_icmp_ne (tgt := 132) hx hb dX12_readProgram_118 (by decide) (fun c118 => ?_) (fun c118 => ?_)
    · refine lv_aload_n hx hb dX12_readProgram_132 rfl (lv_at hl 0 rfl) ?_
      refine va_get (D := (dC, dI)) (ci := 15) (v := .int 0) (C := RX12) (T := TX12) (N := 136) hx hb hu iuX12 hown hK hP 12 rfl rfl 10 (by decide) (hu _ mG_2060) (fun _ h9 => h9) ((bF_get (by decide)).trans (congrArg some (rfl))) dX12_readProgram_133 ?_
      refine lv_if_ne (tgt := 143) hx hb dX12_readProgram_136 (by decide) (fun c136 => ?_) (fun c136 => ?_)
      · exact absurd (by decide) c136
      · refine lv_iconst (v := 1) hx hb dX12_readProgram_139 (by decide) ?_
        refine lv_goto (tgt := 144) hx hb dX12_readProgram_140 (by decide) ?_
        refine lv_istore_n (lv' := [(1, .int 1), (0, .ref o)]) hx hb dX12_readProgram_144 rfl hl (by decide) rfl (fun ls hl => ?_)
        refine lv_iload_n hx hb dX12_readProgram_145 rfl (lv_at hl 0 rfl) ?_
        refine lv_if_eq (tgt := 176) hx hb dX12_readProgram_146 (by decide) (fun c146 => ?_) (fun c146 => ?_)
        · exact absurd c146 (by decide)
        · refine lv_aload_n hx hb dX12_readProgram_149 rfl (lv_at hl 1 rfl) ?_
          have hPc := hP.sub (ws' := [(o, .inr (15, bF (va_up (va_up (va_up (va_up (va_up (va_up (va_up (va_up (va_up (va_up (va_up (va_up f 10 (.int 0)) 12 (.int 0)) 23 (.int 0)) 25 (.int 0)) 27 (.int 0)) 34 (.int 0)) 35 (.int 0)) 40 (.int 0)) 5 (.int 0)) 31 (.int 2)) 7 (.int 0)) 6 (.int 0)))), (a13, .inl (c13, 3200, .inl z13)), (a14, .inl (c14, 3200, .inl z14)), (a15, .inl (c15, 3200, .inl z15)), (a16, .inl (c16, 3200, .inl z16)), (a17, .inl (c17, 3200, .inl z17)), (a18, .inl (c18, 3200, .inl z18)), (a19, .inl (c19, 3200, .inl z19)), (a20, .inl (c20, 3200, .inr (.inl z20))), (a21, .inl (c21, 3200, .inl z21)), (a22, .inl (c22, 3200, .inl z22))]) [12, 2, 3, 4, 5, 6, 7, 8, 9, 10, 11] rfl
          have hDc := hD.sub (ws' := [(o, .inr (15, bF (va_up (va_up (va_up (va_up (va_up (va_up (va_up (va_up (va_up (va_up (va_up (va_up f 10 (.int 0)) 12 (.int 0)) 23 (.int 0)) 25 (.int 0)) 27 (.int 0)) 34 (.int 0)) 35 (.int 0)) 40 (.int 0)) 5 (.int 0)) 31 (.int 2)) 7 (.int 0)) 6 (.int 0)))), (a13, .inl (c13, 3200, .inl z13)), (a14, .inl (c14, 3200, .inl z14)), (a15, .inl (c15, 3200, .inl z15)), (a16, .inl (c16, 3200, .inl z16)), (a17, .inl (c17, 3200, .inl z17)), (a18, .inl (c18, 3200, .inl z18)), (a19, .inl (c19, 3200, .inl z19)), (a20, .inl (c20, 3200, .inr (.inl z20))), (a21, .inl (c21, 3200, .inl z21)), (a22, .inl (c22, 3200, .inl z22))]) [12, 2, 3, 4, 5, 6, 7, 8, 9, 10, 11] (by decide) rfl
          have hKc := hK.sub (tys' := [(c13, .int), (c14, .int), (c15, .int), (c16, .int), (c17, .int), (c18, .int), (c19, .int), (c20, .long), (c21, .int), (c22, .int)]) [3, 4, 5, 6, 7, 8, 9, 10, 11, 12] rfl
          have hFc := va_free (wc := [(o, .inr (15, bF (va_up (va_up (va_up (va_up (va_up (va_up (va_up (va_up (va_up (va_up (va_up (va_up f 10 (.int 0)) 12 (.int 0)) 23 (.int 0)) 25 (.int 0)) 27 (.int 0)) 34 (.int 0)) 35 (.int 0)) 40 (.int 0)) 5 (.int 0)) 31 (.int 2)) 7 (.int 0)) 6 (.int 0)))), (a13, .inl (c13, 3200, .inl z13)), (a14, .inl (c14, 3200, .inl z14)), (a15, .inl (c15, 3200, .inl z15)), (a16, .inl (c16, 3200, .inl z16)), (a17, .inl (c17, 3200, .inl z17)), (a18, .inl (c18, 3200, .inl z18)), (a19, .inl (c19, 3200, .inl z19)), (a20, .inl (c20, 3200, .inr (.inl z20))), (a21, .inl (c21, 3200, .inl z21)), (a22, .inl (c22, 3200, .inl z22))]) hD hS hA [12, 2, 3, 4, 5, 6, 7, 8, 9, 10, 11] rfl
          refine va_callv (va_runV (As := []) (rest := []) ⟨hx, hb, hml, hown, hu⟩ (kX12_readFunction_0 l dC dI H.size o (va_up (va_up (va_up (va_up (va_up (va_up (va_up (va_up (va_up (va_up (va_up (va_up f 10 (.int 0)) 12 (.int 0)) 23 (.int 0)) 25 (.int 0)) 27 (.int 0)) 34 (.int 0)) 35 (.int 0)) 40 (.int 0)) 5 (.int 0)) 31 (.int 2)) 7 (.int 0)) 6 (.int 0)) 0 0 v8 a13 c13 z13 a14 c14 z14 a15 c15 z15 a16 c16 z16 a17 c17 z17 a18 c18 z18 a19 c19 z19 a20 c20 z20 a21 c21 z21 a22 c22 z22  (rfl) (rfl) (h8) (rfl) (rfl) (rfl) (rfl) (h13) (h14) (h15) (h16) (h17) (h18) (h19) (h20) (h21) (h22) ) (cwV 0 hu (uG_V (fun _ h => h) mG_2541 mG_2538 mG_2540 mG_119 mG_226) rfl rfl rfl (by decide +kernel) ⟨Nat.le_of_ble_eq_true rfl, Nat.le_of_ble_eq_true rfl⟩) ⟨fun a U g mk q => by obtain ⟨q0, q1, qP, qK, qD⟩ := q; exact ⟨q0, q1, qP, va_K.moved (u := U) (U := U.calling g mk a) (Vm.Alike.refl U.vm) qK, qD⟩, va_recv hKc hPc (ci := 15) (q0 := 0) rfl rfl, fun U hU hW => ⟨rfl, by rw [hU], by rw [hU]; exact hPc, va_K.moved hW.alike hKc, hDc.weaken (fun _ _ _ _ => trivial)⟩⟩ rfl rfl hl.1 rfl (lv_room (Nat.le_of_ble_eq_true rfl)) dX12_readProgram_150 ⟨Nat.le_of_ble_eq_true rfl, Nat.le_of_ble_eq_true rfl⟩) hS (fun q _ h => hFc q h) hFc (fun u t H1 locs ht hvm hw hB hz1 hk1 hS => ?_)
          obtain ⟨hP1, hK1, hD1⟩ := hB
          rw [ht] at hP1
          obtain ⟨hP, hD⟩ := va_join (wr := [(a32, .inl (c32, 30, .inr (.inl (vp_updL (vp_updL z32 (0 : Int32).toNatClampNeg (pk5 70 97 108 115 101)) (1 : Int32).toNatClampNeg (pk5 84 114 117 101 0))))), (a33, .inl (c33, 30, .inl (upd (upd z33 (0 : Int32).toNatClampNeg 0) (1 : Int32).toNatClampNeg 0))), (a1, .inl (c1, 3000, .inl z1))]) (w1 := [(o, .inr (15, bF (va_up (va_up (va_up (va_up (va_up (va_up (va_up (va_up (va_up (va_up (va_up (va_up (va_up (va_up (va_up f 10 (.int 0)) 12 (.int 0)) 23 (.int 0)) 25 (.int 0)) 27 (.int 0)) 34 (.int 0)) 35 (.int 0)) 40 (.int 0)) 5 (.int 0)) 31 (.int 2)) 7 (.int 0)) 6 (.int 0)) 12 (.int 1)) 10 (.int 1)) 11 (.int 0)))), (a13, .inl (c13, 3200, .inl (upd z13 (0 : Int32).toNatClampNeg 12))), (a14, .inl (c14, 3200, .inl (upd z14 (0 : Int32).toNatClampNeg (-1)))), (a15, .inl (c15, 3200, .inl (upd z15 (0 : Int32).toNatClampNeg (-1)))), (a16, .inl (c16, 3200, .inl (upd z16 (0 : Int32).toNatClampNeg (-1)))), (a17, .inl (c17, 3200, .inl (upd z17 (0 : Int32).toNatClampNeg 0))), (a18, .inl (c18, 3200, .inl (upd z18 (0 : Int32).toNatClampNeg 0))), (a19, .inl (c19, 3200, .inl (upd z19 (0 : Int32).toNatClampNeg 0))), (a20, .inl (c20, 3200, .inr (.inl (vp_updL (vp_updL z20 (0 : Int32).toNatClampNeg 0) (0 : Int32).toNatClampNeg v8)))), (a21, .inl (c21, 3200, .inl (upd z21 (0 : Int32).toNatClampNeg 0))), (a22, .inl (c22, 3200, .inl (upd z22 (0 : Int32).toNatClampNeg 0)))]) hP hD [12, 2, 3, 4, 5, 6, 7, 8, 9, 10, 11] [0, 1, 13] rfl rfl (by decide) (by decide) hk1 hFc hP1 hD1
          generalize H1 = H at hP hS ⊢
          have hP : va_P (dC, dI) vwCl [(a32, .inl (c32, 30, .inr (.inl (vp_updL (vp_updL z32 (0 : Int32).toNatClampNeg (pk5 70 97 108 115 101)) (1 : Int32).toNatClampNeg (pk5 84 114 117 101 0))))), (a33, .inl (c33, 30, .inl (upd (upd z33 (0 : Int32).toNatClampNeg 0) (1 : Int32).toNatClampNeg 0))), (a1, .inl (c1, 3000, .inl z1)), (o, .inr (15, bF (va_up (va_up (va_up (va_up (va_up (va_up (va_up (va_up (va_up (va_up (va_up (va_up (va_up (va_up (va_up f 10 (.int 0)) 12 (.int 0)) 23 (.int 0)) 25 (.int 0)) 27 (.int 0)) 34 (.int 0)) 35 (.int 0)) 40 (.int 0)) 5 (.int 0)) 31 (.int 2)) 7 (.int 0)) 6 (.int 0)) 12 (.int 1)) 10 (.int 1)) 11 (.int 0)))), (a13, .inl (c13, 3200, .inl (upd z13 (0 : Int32).toNatClampNeg 12))), (a14, .inl (c14, 3200, .inl (upd z14 (0 : Int32).toNatClampNeg (-1)))), (a15, .inl (c15, 3200, .inl (upd z15 (0 : Int32).toNatClampNeg (-1)))), (a16, .inl (c16, 3200, .inl (upd z16 (0 : Int32).toNatClampNeg (-1)))), (a17, .inl (c17, 3200, .inl (upd z17 (0 : Int32).toNatClampNeg 0))), (a18, .inl (c18, 3200, .inl (upd z18 (0 : Int32).toNatClampNeg 0))), (a19, .inl (c19, 3200, .inl (upd z19 (0 : Int32).toNatClampNeg 0))), (a20, .inl (c20, 3200, .inr (.inl (vp_updL (vp_updL z20 (0 : Int32).toNatClampNeg 0) (0 : Int32).toNatClampNeg v8)))), (a21, .inl (c21, 3200, .inl (upd z21 (0 : Int32).toNatClampNeg 0))), (a22, .inl (c22, 3200, .inl (upd z22 (0 : Int32).toNatClampNeg 0)))] H := hP
          have hD : va_D A [(a32, .inl (c32, 30, .inr (.inl (vp_updL (vp_updL z32 (0 : Int32).toNatClampNeg (pk5 70 97 108 115 101)) (1 : Int32).toNatClampNeg (pk5 84 114 117 101 0))))), (a33, .inl (c33, 30, .inl (upd (upd z33 (0 : Int32).toNatClampNeg 0) (1 : Int32).toNatClampNeg 0))), (a1, .inl (c1, 3000, .inl z1)), (o, .inr (15, bF (va_up (va_up (va_up (va_up (va_up (va_up (va_up (va_up (va_up (va_up (va_up (va_up (va_up (va_up (va_up f 10 (.int 0)) 12 (.int 0)) 23 (.int 0)) 25 (.int 0)) 27 (.int 0)) 34 (.int 0)) 35 (.int 0)) 40 (.int 0)) 5 (.int 0)) 31 (.int 2)) 7 (.int 0)) 6 (.int 0)) 12 (.int 1)) 10 (.int 1)) 11 (.int 0)))), (a13, .inl (c13, 3200, .inl (upd z13 (0 : Int32).toNatClampNeg 12))), (a14, .inl (c14, 3200, .inl (upd z14 (0 : Int32).toNatClampNeg (-1)))), (a15, .inl (c15, 3200, .inl (upd z15 (0 : Int32).toNatClampNeg (-1)))), (a16, .inl (c16, 3200, .inl (upd z16 (0 : Int32).toNatClampNeg (-1)))), (a17, .inl (c17, 3200, .inl (upd z17 (0 : Int32).toNatClampNeg 0))), (a18, .inl (c18, 3200, .inl (upd z18 (0 : Int32).toNatClampNeg 0))), (a19, .inl (c19, 3200, .inl (upd z19 (0 : Int32).toNatClampNeg 0))), (a20, .inl (c20, 3200, .inr (.inl (vp_updL (vp_updL z20 (0 : Int32).toNatClampNeg 0) (0 : Int32).toNatClampNeg v8)))), (a21, .inl (c21, 3200, .inl (upd z21 (0 : Int32).toNatClampNeg 0))), (a22, .inl (c22, 3200, .inl (upd z22 (0 : Int32).toNatClampNeg 0)))] := hD
          refine lv_aload_n hx hb dX12_readProgram_153 rfl (lv_at hl 1 rfl) ?_
          refine va_get (D := (dC, dI)) (ci := 15) (v := .int 1) (C := RX12) (T := TX12) (N := 136) hx hb hu iuX12 hown hK hP 3 rfl rfl 10 (by decide) (hu _ mG_2060) (fun _ h9 => h9) ((bF_get (by decide)).trans (congrArg some (rfl))) dX12_readProgram_154 ?_
          refine lv_if_ne (tgt := 171) hx hb dX12_readProgram_157 (by decide) (fun c157 => ?_) (fun c157 => ?_)
          · refine lv_iconst (v := 0) hx hb dX12_readProgram_171 (by decide) ?_
            refine lv_istore_n (lv' := [(1, .int 0), (0, .ref o)]) hx hb dX12_readProgram_172 rfl hl (by decide) rfl (fun ls hl => ?_)
            refine lv_goto (tgt := 145) hx hb dX12_readProgram_173 (by decide) ?_
            refine lv_iload_n hx hb dX12_readProgram_145 rfl (lv_at hl 0 rfl) ?_
            refine lv_if_eq (tgt := 176) hx hb dX12_readProgram_146 (by decide) (fun c146 => ?_) (fun c146 => ?_)
            · have hP9 : va_P (dC, dI) vwCl [(o, .inr (15, bF (va_up (va_up (va_up (va_up (va_up (va_up (va_up (va_up (va_up (va_up (va_up (va_up (va_up (va_up (va_up f 10 (.int 0)) 12 (.int 0)) 23 (.int 0)) 25 (.int 0)) 27 (.int 0)) 34 (.int 0)) 35 (.int 0)) 40 (.int 0)) 5 (.int 0)) 31 (.int 2)) 7 (.int 0)) 6 (.int 0)) 12 (.int 1)) 10 (.int 1)) 11 (.int 0)))), (a1, .inl (c1, 3000, .inl z1)), (a32, .inl (c32, 30, .inr (.inl (vp_updL (vp_updL z32 (0 : Int32).toNatClampNeg (pk5 70 97 108 115 101)) (1 : Int32).toNatClampNeg (pk5 84 114 117 101 0))))), (a33, .inl (c33, 30, .inl (upd (upd z33 (0 : Int32).toNatClampNeg 0) (1 : Int32).toNatClampNeg 0))), (a13, .inl (c13, 3200, .inl (upd z13 (0 : Int32).toNatClampNeg 12))), (a14, .inl (c14, 3200, .inl (upd z14 (0 : Int32).toNatClampNeg (-1)))), (a15, .inl (c15, 3200, .inl (upd z15 (0 : Int32).toNatClampNeg (-1)))), (a16, .inl (c16, 3200, .inl (upd z16 (0 : Int32).toNatClampNeg (-1)))), (a17, .inl (c17, 3200, .inl (upd z17 (0 : Int32).toNatClampNeg 0))), (a18, .inl (c18, 3200, .inl (upd z18 (0 : Int32).toNatClampNeg 0))), (a19, .inl (c19, 3200, .inl (upd z19 (0 : Int32).toNatClampNeg 0))), (a20, .inl (c20, 3200, .inr (.inl (vp_updL (vp_updL z20 (0 : Int32).toNatClampNeg 0) (0 : Int32).toNatClampNeg v8)))), (a21, .inl (c21, 3200, .inl (upd z21 (0 : Int32).toNatClampNeg 0))), (a22, .inl (c22, 3200, .inl (upd z22 (0 : Int32).toNatClampNeg 0)))] H := by exact hP.sub [3, 2, 0, 1, 4, 5, 6, 7, 8, 9, 10, 11, 12, 13] rfl
              have hD9 : va_D A [(o, .inr (15, bF (va_up (va_up (va_up (va_up (va_up (va_up (va_up (va_up (va_up (va_up (va_up (va_up (va_up (va_up (va_up f 10 (.int 0)) 12 (.int 0)) 23 (.int 0)) 25 (.int 0)) 27 (.int 0)) 34 (.int 0)) 35 (.int 0)) 40 (.int 0)) 5 (.int 0)) 31 (.int 2)) 7 (.int 0)) 6 (.int 0)) 12 (.int 1)) 10 (.int 1)) 11 (.int 0)))), (a1, .inl (c1, 3000, .inl z1)), (a32, .inl (c32, 30, .inr (.inl (vp_updL (vp_updL z32 (0 : Int32).toNatClampNeg (pk5 70 97 108 115 101)) (1 : Int32).toNatClampNeg (pk5 84 114 117 101 0))))), (a33, .inl (c33, 30, .inl (upd (upd z33 (0 : Int32).toNatClampNeg 0) (1 : Int32).toNatClampNeg 0))), (a13, .inl (c13, 3200, .inl (upd z13 (0 : Int32).toNatClampNeg 12))), (a14, .inl (c14, 3200, .inl (upd z14 (0 : Int32).toNatClampNeg (-1)))), (a15, .inl (c15, 3200, .inl (upd z15 (0 : Int32).toNatClampNeg (-1)))), (a16, .inl (c16, 3200, .inl (upd z16 (0 : Int32).toNatClampNeg (-1)))), (a17, .inl (c17, 3200, .inl (upd z17 (0 : Int32).toNatClampNeg 0))), (a18, .inl (c18, 3200, .inl (upd z18 (0 : Int32).toNatClampNeg 0))), (a19, .inl (c19, 3200, .inl (upd z19 (0 : Int32).toNatClampNeg 0))), (a20, .inl (c20, 3200, .inr (.inl (vp_updL (vp_updL z20 (0 : Int32).toNatClampNeg 0) (0 : Int32).toNatClampNeg v8)))), (a21, .inl (c21, 3200, .inl (upd z21 (0 : Int32).toNatClampNeg 0))), (a22, .inl (c22, 3200, .inl (upd z22 (0 : Int32).toNatClampNeg 0)))] := by exact hD.sub [3, 2, 0, 1, 4, 5, 6, 7, 8, 9, 10, 11, 12, 13] (by decide) rfl
              have hK9 := hK.sub (tys' := [(c1, .int), (c32, .long), (c33, .int), (c13, .int), (c14, .int), (c15, .int), (c16, .int), (c17, .int), (c18, .int), (c19, .int), (c20, .long), (c21, .int), (c22, .int)]) [0, 1, 2, 3, 4, 5, 6, 7, 8, 9, 10, 11, 12] rfl
              exact W.vret hx hb hr (fun t ht hW => ⟨⟨(), rfl, trivial, by rw [ht]; exact hP9, va_K.moved hW.alike hK9, hD9⟩, hS.F ht⟩) hS.2.2 dX12_readProgram_176
            · exact absurd (by decide) c146
          · exact absurd c157 (by decide)
    · exact absurd c118 (by decide)
set_option maxHeartbeats 4000000 in
set_option maxRecDepth 100000 in
/-- X12_program_0 -/
theorem kX12_program_0 (l : Launch) (dC : Nat → ClassId) (dI : Nat → Nat → Nat) (sz : Nat) (o : Nat) (f : Nat → Value) (v8 : Int64) (a110 : Nat) (c110 : ClassId) (z110 : Nat → Int32) (a1 : Nat) (c1 : ClassId) (z1 : Nat → Int32) (a32 : Nat) (c32 : ClassId) (z32 : Nat → Int64) (a33 : Nat) (c33 : ClassId) (z33 : Nat → Int32) (a13 : Nat) (c13 : ClassId) (z13 : Nat → Int32) (a14 : Nat) (c14 : ClassId) (z14 : Nat → Int32) (a15 : Nat) (c15 : ClassId) (z15 : Nat → Int32) (a16 : Nat) (c16 : ClassId) (z16 : Nat → Int32) (a17 : Nat) (c17 : ClassId) (z17 : Nat → Int32) (a18 : Nat) (c18 : ClassId) (z18 : Nat → Int32) (a19 : Nat) (c19 : ClassId) (z19 : Nat → Int32) (a20 : Nat) (c20 : ClassId) (z20 : Nat → Int64) (a21 : Nat) (c21 : ClassId) (z21 : Nat → Int32) (a22 : Nat) (c22 : ClassId) (z22 : Nat → Int32)  (h8 : f 8 = .long v8) (h2 : f 2 = .int 0) (h26 : f 26 = .int 0) (h110 : f 110 = .ref a110) (h1 : f 1 = .ref a1) (h32 : f 32 = .ref a32) (h33 : f 33 = .ref a33) (h13 : f 13 = .ref a13) (h14 : f 14 = .ref a14) (h15 : f 15 = .ref a15) (h16 : f 16 = .ref a16) (h17 : f 17 = .ref a17) (h18 : f 18 = .ref a18) (h19 : f 19 = .ref a19) (h20 : f 20 = .ref a20) (h21 : f 21 = .ref a21) (h22 : f 22 = .ref a22)  : Met l yX12_program (Cond.code yX12_program cX12_program 3 (some .int) :: uG) ({ frames := 5, cells := 0, slots := 0, locals := 106 }) (va_Pc [.ref o] (fun U => U.heap.size = sz ∧ va_P (dC, dI) vwCl [(o, .inr (15, bF f)), (a110, .inl (c110, 640, .inl z110)), (a1, .inl (c1, 3000, .inl z1)), (a32, .inl (c32, 30, .inr (.inl z32))), (a33, .inl (c33, 30, .inl z33)), (a13, .inl (c13, 3200, .inl z13)), (a14, .inl (c14, 3200, .inl z14)), (a15, .inl (c15, 3200, .inl z15)), (a16, .inl (c16, 3200, .inl z16)), (a17, .inl (c17, 3200, .inl z17)), (a18, .inl (c18, 3200, .inl z18)), (a19, .inl (c19, 3200, .inl z19)), (a20, .inl (c20, 3200, .inr (.inl z20))), (a21, .inl (c21, 3200, .inl z21)), (a22, .inl (c22, 3200, .inl z22))] U.heap ∧ va_K (dC, dI) vwCl [(c110, .int), (c1, .int), (c32, .long), (c33, .int), (c13, .int), (c14, .int), (c15, .int), (c16, .int), (c17, .int), (c18, .int), (c19, .int), (c20, .long), (c21, .int), (c22, .int)] U ∧ va_D (fun _ => True) [(o, .inr (15, bF f)), (a110, .inl (c110, 640, .inl z110)), (a1, .inl (c1, 3000, .inl z1)), (a32, .inl (c32, 30, .inr (.inl z32))), (a33, .inl (c33, 30, .inl z33)), (a13, .inl (c13, 3200, .inl z13)), (a14, .inl (c14, 3200, .inl z14)), (a15, .inl (c15, 3200, .inl z15)), (a16, .inl (c16, 3200, .inl z16)), (a17, .inl (c17, 3200, .inl z17)), (a18, .inl (c18, 3200, .inl z18)), (a19, .inl (c19, 3200, .inl z19)), (a20, .inl (c20, 3200, .inr (.inl z20))), (a21, .inl (c21, 3200, .inl z21)), (a22, .inl (c22, 3200, .inl z22))])) (va_Qi (S := Unit) (fun r _ => r = ((-1))) (fun _ t => va_P (dC, dI) vwCl [(o, .inr (15, bF (va_up (va_up (va_up (va_up (va_up (va_up (va_up (va_up (va_up (va_up (va_up (va_up (va_up (va_up (va_up (va_up (va_up (va_up (va_up (va_up (va_up (va_up (va_up (va_up (va_up (va_up (va_up (va_up (va_up (va_up f 0 (.int 0)) 88 (.int 0)) 111 (.int 0)) 112 (.int 0)) 104 (.int 0)) 100 (.int 0)) 105 (.int 0)) 106 (.int 0)) 107 (.int 0)) 108 (.int 0)) 109 (.int 0)) 113 (.int 0)) 10 (.int 0)) 12 (.int 0)) 23 (.int 0)) 25 (.int 0)) 27 (.int 0)) 34 (.int 0)) 35 (.int 0)) 40 (.int 0)) 5 (.int 0)) 31 (.int 2)) 7 (.int 0)) 6 (.int 0)) 12 (.int 1)) 10 (.int 1)) 11 (.int 0)) 2 (.int 0)) 89 (.int 1)) 90 (.int 0)))), (a110, .inl (c110, 640, .inl (flI z110 0 640))), (a1, .inl (c1, 3000, .inl z1)), (a32, .inl (c32, 30, .inr (.inl (vp_updL (vp_updL z32 (0 : Int32).toNatClampNeg (pk5 70 97 108 115 101)) (1 : Int32).toNatClampNeg (pk5 84 114 117 101 0))))), (a33, .inl (c33, 30, .inl (upd (upd z33 (0 : Int32).toNatClampNeg 0) (1 : Int32).toNatClampNeg 0))), (a13, .inl (c13, 3200, .inl (upd z13 (0 : Int32).toNatClampNeg 12))), (a14, .inl (c14, 3200, .inl (upd z14 (0 : Int32).toNatClampNeg (-1)))), (a15, .inl (c15, 3200, .inl (upd z15 (0 : Int32).toNatClampNeg (-1)))), (a16, .inl (c16, 3200, .inl (upd z16 (0 : Int32).toNatClampNeg (-1)))), (a17, .inl (c17, 3200, .inl (upd z17 (0 : Int32).toNatClampNeg 0))), (a18, .inl (c18, 3200, .inl (upd z18 (0 : Int32).toNatClampNeg 0))), (a19, .inl (c19, 3200, .inl (upd z19 (0 : Int32).toNatClampNeg 0))), (a20, .inl (c20, 3200, .inr (.inl (vp_updL (vp_updL z20 (0 : Int32).toNatClampNeg 0) (0 : Int32).toNatClampNeg v8)))), (a21, .inl (c21, 3200, .inl (upd z21 (0 : Int32).toNatClampNeg 0))), (a22, .inl (c22, 3200, .inl (upd z22 (0 : Int32).toNatClampNeg 0)))] t.heap ∧ va_K (dC, dI) vwCl [(c110, .int), (c1, .int), (c32, .long), (c33, .int), (c13, .int), (c14, .int), (c15, .int), (c16, .int), (c17, .int), (c18, .int), (c19, .int), (c20, .long), (c21, .int), (c22, .int)] t ∧ va_D (va_A [(o, .inr (15, bF f)), (a110, .inl (c110, 640, .inl z110)), (a1, .inl (c1, 3000, .inl z1)), (a32, .inl (c32, 30, .inr (.inl z32))), (a33, .inl (c33, 30, .inl z33)), (a13, .inl (c13, 3200, .inl z13)), (a14, .inl (c14, 3200, .inl z14)), (a15, .inl (c15, 3200, .inl z15)), (a16, .inl (c16, 3200, .inl z16)), (a17, .inl (c17, 3200, .inl z17)), (a18, .inl (c18, 3200, .inl z18)), (a19, .inl (c19, 3200, .inl z19)), (a20, .inl (c20, 3200, .inr (.inl z20))), (a21, .inl (c21, 3200, .inl z21)), (a22, .inl (c22, 3200, .inl z22))] sz) [(o, .inr (15, bF (va_up (va_up (va_up (va_up (va_up (va_up (va_up (va_up (va_up (va_up (va_up (va_up (va_up (va_up (va_up (va_up (va_up (va_up (va_up (va_up (va_up (va_up (va_up (va_up (va_up (va_up (va_up (va_up (va_up (va_up f 0 (.int 0)) 88 (.int 0)) 111 (.int 0)) 112 (.int 0)) 104 (.int 0)) 100 (.int 0)) 105 (.int 0)) 106 (.int 0)) 107 (.int 0)) 108 (.int 0)) 109 (.int 0)) 113 (.int 0)) 10 (.int 0)) 12 (.int 0)) 23 (.int 0)) 25 (.int 0)) 27 (.int 0)) 34 (.int 0)) 35 (.int 0)) 40 (.int 0)) 5 (.int 0)) 31 (.int 2)) 7 (.int 0)) 6 (.int 0)) 12 (.int 1)) 10 (.int 1)) 11 (.int 0)) 2 (.int 0)) 89 (.int 1)) 90 (.int 0)))), (a110, .inl (c110, 640, .inl (flI z110 0 640))), (a1, .inl (c1, 3000, .inl z1)), (a32, .inl (c32, 30, .inr (.inl (vp_updL (vp_updL z32 (0 : Int32).toNatClampNeg (pk5 70 97 108 115 101)) (1 : Int32).toNatClampNeg (pk5 84 114 117 101 0))))), (a33, .inl (c33, 30, .inl (upd (upd z33 (0 : Int32).toNatClampNeg 0) (1 : Int32).toNatClampNeg 0))), (a13, .inl (c13, 3200, .inl (upd z13 (0 : Int32).toNatClampNeg 12))), (a14, .inl (c14, 3200, .inl (upd z14 (0 : Int32).toNatClampNeg (-1)))), (a15, .inl (c15, 3200, .inl (upd z15 (0 : Int32).toNatClampNeg (-1)))), (a16, .inl (c16, 3200, .inl (upd z16 (0 : Int32).toNatClampNeg (-1)))), (a17, .inl (c17, 3200, .inl (upd z17 (0 : Int32).toNatClampNeg 0))), (a18, .inl (c18, 3200, .inl (upd z18 (0 : Int32).toNatClampNeg 0))), (a19, .inl (c19, 3200, .inl (upd z19 (0 : Int32).toNatClampNeg 0))), (a20, .inl (c20, 3200, .inr (.inl (vp_updL (vp_updL z20 (0 : Int32).toNatClampNeg 0) (0 : Int32).toNatClampNeg v8)))), (a21, .inl (c21, 3200, .inl (upd z21 (0 : Int32).toNatClampNeg 0))), (a22, .inl (c22, 3200, .inl (upd z22 (0 : Int32).toNatClampNeg 0)))]) (va_A [(o, .inr (15, bF f)), (a110, .inl (c110, 640, .inl z110)), (a1, .inl (c1, 3000, .inl z1)), (a32, .inl (c32, 30, .inr (.inl z32))), (a33, .inl (c33, 30, .inl z33)), (a13, .inl (c13, 3200, .inl z13)), (a14, .inl (c14, 3200, .inl z14)), (a15, .inl (c15, 3200, .inl z15)), (a16, .inl (c16, 3200, .inl z16)), (a17, .inl (c17, 3200, .inl z17)), (a18, .inl (c18, 3200, .inl z18)), (a19, .inl (c19, 3200, .inl z19)), (a20, .inl (c20, 3200, .inr (.inl z20))), (a21, .inl (c21, 3200, .inl z21)), (a22, .inl (c22, 3200, .inl z22))] sz)) 0 0 (va_A [(o, .inr (15, bF f)), (a110, .inl (c110, 640, .inl z110)), (a1, .inl (c1, 3000, .inl z1)), (a32, .inl (c32, 30, .inr (.inl z32))), (a33, .inl (c33, 30, .inl z33)), (a13, .inl (c13, 3200, .inl z13)), (a14, .inl (c14, 3200, .inl z14)), (a15, .inl (c15, 3200, .inl z15)), (a16, .inl (c16, 3200, .inl z16)), (a17, .inl (c17, 3200, .inl z17)), (a18, .inl (c18, 3200, .inl z18)), (a19, .inl (c19, 3200, .inl z19)), (a20, .inl (c20, 3200, .inr (.inl z20))), (a21, .inl (c21, 3200, .inl z21)), (a22, .inl (c22, 3200, .inl z22))] sz) := by
  refine Met.ofW (cc := cX12_program) (maxL := 3) (ret := (some .int)) (by decide) rfl ?_
  intro pG eV s m args below meth c s₁ B hml hv
  obtain ⟨rfl, hsz, hP, hK, hD0⟩ := hv
  have hx := B.exec
  have hb := B.bytes
  have hr := B.returns
  have hts := atoms_spec (ws := Cond.code yX12_program cX12_program 3 (some .int) :: uG) B.pre
  have hu := fun (w : Cond) (h : w ∈ uG) => hts w (List.mem_cons_of_mem _ h)
  have hown : s.vm.findClass RX12 = some m.cls := findClass_of_methodNamed B.named
  have hlocks := B.notSynchronized
  subst hsz
  have hD := hD0.self (sz := s.heap.size)
  generalize hAe : va_A [(o, .inr (15, bF f)), (a110, .inl (c110, 640, .inl z110)), (a1, .inl (c1, 3000, .inl z1)), (a32, .inl (c32, 30, .inr (.inl z32))), (a33, .inl (c33, 30, .inl z33)), (a13, .inl (c13, 3200, .inl z13)), (a14, .inl (c14, 3200, .inl z14)), (a15, .inl (c15, 3200, .inl z15)), (a16, .inl (c16, 3200, .inl z16)), (a17, .inl (c17, 3200, .inl z17)), (a18, .inl (c18, 3200, .inl z18)), (a19, .inl (c19, 3200, .inl z19)), (a20, .inl (c20, 3200, .inr (.inl z20))), (a21, .inl (c21, 3200, .inl z21)), (a22, .inl (c22, 3200, .inl z22))] s.heap.size = A at hD ⊢
  have hA : ∀ q : Nat, s.heap.size ≤ q → A q := fun q h => by rw [← hAe]; exact Or.inr h
  have hS : va_S A s.heap s.heap [] := va_S.rf
  have hP : va_P (dC, dI) vwCl [(o, .inr (15, bF f)), (a110, .inl (c110, 640, .inl z110)), (a1, .inl (c1, 3000, .inl z1)), (a32, .inl (c32, 30, .inr (.inl z32))), (a33, .inl (c33, 30, .inl z33)), (a13, .inl (c13, 3200, .inl z13)), (a14, .inl (c14, 3200, .inl z14)), (a15, .inl (c15, 3200, .inl z15)), (a16, .inl (c16, 3200, .inl z16)), (a17, .inl (c17, 3200, .inl z17)), (a18, .inl (c18, 3200, .inl z18)), (a19, .inl (c19, 3200, .inl z19)), (a20, .inl (c20, 3200, .inr (.inl z20))), (a21, .inl (c21, 3200, .inl z21)), (a22, .inl (c22, 3200, .inl z22))] s.heap := hP
  have hD : va_D A [(o, .inr (15, bF f)), (a110, .inl (c110, 640, .inl z110)), (a1, .inl (c1, 3000, .inl z1)), (a32, .inl (c32, 30, .inr (.inl z32))), (a33, .inl (c33, 30, .inl z33)), (a13, .inl (c13, 3200, .inl z13)), (a14, .inl (c14, 3200, .inl z14)), (a15, .inl (c15, 3200, .inl z15)), (a16, .inl (c16, 3200, .inl z16)), (a17, .inl (c17, 3200, .inl z17)), (a18, .inl (c18, 3200, .inl z18)), (a19, .inl (c19, 3200, .inl z19)), (a20, .inl (c20, 3200, .inr (.inl z20))), (a21, .inl (c21, 3200, .inl z21)), (a22, .inl (c22, 3200, .inl z22))] := hD
  have hl := lv_entry ([.ref o]) (n := 3) (Nat.le_of_ble_eq_true rfl)
  rw [lg_entry_eq]
  generalize (lg_sl ([.ref o]) ++ List.replicate (3 - (lg_sl ([.ref o])).length) Slot.unset).toArray = ls at hl ⊢
  have hl : lv_has ls 3 [(0, .ref o)] := hl
  refine lv_aload_n hx hb dX12_program_0 rfl (lv_at hl 0 rfl) ?_
  refine lv_aload_n hx hb dX12_program_1 rfl (lv_at hl 0 rfl) ?_
  refine va_get (D := (dC, dI)) (ci := 15) (v := .int 0) (C := RX12) (T := TX12) (N := 136) hx hb hu iuX12 hown hK hP 0 rfl rfl 26 (by decide) (hu _ mG_2076) (fun _ h9 => h9) ((bF_get (by decide)).trans (congrArg some (h26))) dX12_program_2 ?_
  refine lv_sipush (v := 20000) hx hb dX12_program_5 (by decide) ?_
  refine lv_icmp_lt (tgt := 15) hx hb dX12_program_8 (by decide) (fun c8 => ?_) (fun c8 => ?_)
  · refine lv_iconst (v := 0) hx hb dX12_program_15 (by decide) ?_
    refine va_put (D := (dC, dI)) (ci := 15) (v := .int 0) (ty := (tyX12 0)) (C := RX12) (T := TX12) (N := 136) hx hb hu iuX12 tyX12 tyX12_ok nmX12 hown hK hP hD hS 0 rfl rfl 0 (by decide) (hu _ mG_2050) (fun _ h9 => h9) rfl (by decide +kernel) (rfl) (rfl) (by rw [bF_len]; decide) dX12_program_16 (fun H locs hP hD hS => ?_)
    rw [show (bF f).set 0 (.int 0) = bF (va_up f 0 (.int 0)) from bF_set (by decide)] at hP hD
    have hP : va_P (dC, dI) vwCl [(o, .inr (15, bF (va_up f 0 (.int 0)))), (a110, .inl (c110, 640, .inl z110)), (a1, .inl (c1, 3000, .inl z1)), (a32, .inl (c32, 30, .inr (.inl z32))), (a33, .inl (c33, 30, .inl z33)), (a13, .inl (c13, 3200, .inl z13)), (a14, .inl (c14, 3200, .inl z14)), (a15, .inl (c15, 3200, .inl z15)), (a16, .inl (c16, 3200, .inl z16)), (a17, .inl (c17, 3200, .inl z17)), (a18, .inl (c18, 3200, .inl z18)), (a19, .inl (c19, 3200, .inl z19)), (a20, .inl (c20, 3200, .inr (.inl z20))), (a21, .inl (c21, 3200, .inl z21)), (a22, .inl (c22, 3200, .inl z22))] H := hP
    have hD : va_D A [(o, .inr (15, bF (va_up f 0 (.int 0)))), (a110, .inl (c110, 640, .inl z110)), (a1, .inl (c1, 3000, .inl z1)), (a32, .inl (c32, 30, .inr (.inl z32))), (a33, .inl (c33, 30, .inl z33)), (a13, .inl (c13, 3200, .inl z13)), (a14, .inl (c14, 3200, .inl z14)), (a15, .inl (c15, 3200, .inl z15)), (a16, .inl (c16, 3200, .inl z16)), (a17, .inl (c17, 3200, .inl z17)), (a18, .inl (c18, 3200, .inl z18)), (a19, .inl (c19, 3200, .inl z19)), (a20, .inl (c20, 3200, .inr (.inl z20))), (a21, .inl (c21, 3200, .inl z21)), (a22, .inl (c22, 3200, .inl z22))] := hD
    refine lv_aload_n hx hb dX12_program_19 rfl (lv_at hl 0 rfl) ?_
    refine va_get (D := (dC, dI)) (ci := 15) (v := .int 0) (C := RX12) (T := TX12) (N := 136) hx hb hu iuX12 hown hK hP 0 rfl rfl 0 (by decide) (hu _ mG_2050) (fun _ h9 => h9) ((bF_get (by decide)).trans (congrArg some (rfl))) dX12_program_20 ?_
    refine lv_if_le (tgt := 28) hx hb dX12_program_23 (by decide) (fun c23 => ?_) (fun c23 => ?_)
    · refine lv_aload_n hx hb dX12_program_28 rfl (lv_at hl 0 rfl) ?_
      refine lv_iconst (v := 0) hx hb dX12_program_29 (by decide) ?_
      refine va_put (D := (dC, dI)) (ci := 15) (v := .int 0) (ty := (tyX12 88)) (C := RX12) (T := TX12) (N := 136) hx hb hu iuX12 tyX12 tyX12_ok nmX12 hown hK hP hD hS 0 rfl rfl 88 (by decide) (hu _ mG_2138) (fun _ h9 => h9) rfl (by decide +kernel) (rfl) (rfl) (by rw [bF_len]; decide) dX12_program_30 (fun H locs hP hD hS => ?_)
      rw [show (bF (va_up f 0 (.int 0))).set 88 (.int 0) = bF (va_up (va_up f 0 (.int 0)) 88 (.int 0)) from bF_set (by decide)] at hP hD
      have hP : va_P (dC, dI) vwCl [(o, .inr (15, bF (va_up (va_up f 0 (.int 0)) 88 (.int 0)))), (a110, .inl (c110, 640, .inl z110)), (a1, .inl (c1, 3000, .inl z1)), (a32, .inl (c32, 30, .inr (.inl z32))), (a33, .inl (c33, 30, .inl z33)), (a13, .inl (c13, 3200, .inl z13)), (a14, .inl (c14, 3200, .inl z14)), (a15, .inl (c15, 3200, .inl z15)), (a16, .inl (c16, 3200, .inl z16)), (a17, .inl (c17, 3200, .inl z17)), (a18, .inl (c18, 3200, .inl z18)), (a19, .inl (c19, 3200, .inl z19)), (a20, .inl (c20, 3200, .inr (.inl z20))), (a21, .inl (c21, 3200, .inl z21)), (a22, .inl (c22, 3200, .inl z22))] H := hP
      have hD : va_D A [(o, .inr (15, bF (va_up (va_up f 0 (.int 0)) 88 (.int 0)))), (a110, .inl (c110, 640, .inl z110)), (a1, .inl (c1, 3000, .inl z1)), (a32, .inl (c32, 30, .inr (.inl z32))), (a33, .inl (c33, 30, .inl z33)), (a13, .inl (c13, 3200, .inl z13)), (a14, .inl (c14, 3200, .inl z14)), (a15, .inl (c15, 3200, .inl z15)), (a16, .inl (c16, 3200, .inl z16)), (a17, .inl (c17, 3200, .inl z17)), (a18, .inl (c18, 3200, .inl z18)), (a19, .inl (c19, 3200, .inl z19)), (a20, .inl (c20, 3200, .inr (.inl z20))), (a21, .inl (c21, 3200, .inl z21)), (a22, .inl (c22, 3200, .inl z22))] := hD
      refine lv_aload_n hx hb dX12_program_33 rfl (lv_at hl 0 rfl) ?_
      have hPc := hP.sub (ws' := [(o, .inr (15, bF (va_up (va_up f 0 (.int 0)) 88 (.int 0)))), (a110, .inl (c110, 640, .inl z110))]) [0, 1] rfl
      have hDc := hD.sub (ws' := [(o, .inr (15, bF (va_up (va_up f 0 (.int 0)) 88 (.int 0)))), (a110, .inl (c110, 640, .inl z110))]) [0, 1] (by decide) rfl
      have hKc := hK.sub (tys' := [(c110, .int)]) [0] rfl
      have hFc := va_free (wc := [(o, .inr (15, bF (va_up (va_up f 0 (.int 0)) 88 (.int 0)))), (a110, .inl (c110, 640, .inl z110))]) hD hS hA [0, 1] rfl
      refine va_callv (va_runV (As := []) (rest := []) ⟨hx, hb, hml, hown, hu⟩ (kX12_clearRun l dC dI H.size o (va_up (va_up f 0 (.int 0)) 88 (.int 0))  a110 c110 z110  (h110) ) (cwV 0 hu (uG_V (fun _ h => h) mG_2471 mG_2468 mG_2470 mG_106 mG_226) rfl rfl rfl (by decide +kernel) ⟨Nat.le_of_ble_eq_true rfl, Nat.le_of_ble_eq_true rfl⟩) ⟨fun a U g mk q => by obtain ⟨q0, q1, qP, qK, qD⟩ := q; exact ⟨q0, q1, qP, va_K.moved (u := U) (U := U.calling g mk a) (Vm.Alike.refl U.vm) qK, qD⟩, va_recv hKc hPc (ci := 15) (q0 := 0) rfl rfl, fun U hU hW => ⟨rfl, by rw [hU], by rw [hU]; exact hPc, va_K.moved hW.alike hKc, hDc.weaken (fun _ _ _ _ => trivial)⟩⟩ rfl rfl hl.1 rfl (lv_room (Nat.le_of_ble_eq_true rfl)) dX12_program_34 ⟨Nat.le_of_ble_eq_true rfl, Nat.le_of_ble_eq_true rfl⟩) hS (fun q _ h => hFc q h) hFc (fun u t H1 locs ht hvm hw hB hz1 hk1 hS => ?_)
      obtain ⟨hP1, hK1, hD1⟩ := hB
      rw [ht] at hP1
      obtain ⟨hP, hD⟩ := va_join (wr := [(a1, .inl (c1, 3000, .inl z1)), (a32, .inl (c32, 30, .inr (.inl z32))), (a33, .inl (c33, 30, .inl z33)), (a13, .inl (c13, 3200, .inl z13)), (a14, .inl (c14, 3200, .inl z14)), (a15, .inl (c15, 3200, .inl z15)), (a16, .inl (c16, 3200, .inl z16)), (a17, .inl (c17, 3200, .inl z17)), (a18, .inl (c18, 3200, .inl z18)), (a19, .inl (c19, 3200, .inl z19)), (a20, .inl (c20, 3200, .inr (.inl z20))), (a21, .inl (c21, 3200, .inl z21)), (a22, .inl (c22, 3200, .inl z22))]) (w1 := [(o, .inr (15, bF (va_up (va_up (va_up (va_up (va_up (va_up (va_up (va_up (va_up (va_up (va_up (va_up f 0 (.int 0)) 88 (.int 0)) 111 (.int 0)) 112 (.int 0)) 104 (.int 0)) 100 (.int 0)) 105 (.int 0)) 106 (.int 0)) 107 (.int 0)) 108 (.int 0)) 109 (.int 0)) 113 (.int 0)))), (a110, .inl (c110, 640, .inl (flI z110 0 640)))]) hP hD [0, 1] [2, 3, 4, 5, 6, 7, 8, 9, 10, 11, 12, 13, 14] rfl rfl (by decide) (by decide) hk1 hFc hP1 hD1
      generalize H1 = H at hP hS ⊢
      have hP : va_P (dC, dI) vwCl [(a1, .inl (c1, 3000, .inl z1)), (a32, .inl (c32, 30, .inr (.inl z32))), (a33, .inl (c33, 30, .inl z33)), (a13, .inl (c13, 3200, .inl z13)), (a14, .inl (c14, 3200, .inl z14)), (a15, .inl (c15, 3200, .inl z15)), (a16, .inl (c16, 3200, .inl z16)), (a17, .inl (c17, 3200, .inl z17)), (a18, .inl (c18, 3200, .inl z18)), (a19, .inl (c19, 3200, .inl z19)), (a20, .inl (c20, 3200, .inr (.inl z20))), (a21, .inl (c21, 3200, .inl z21)), (a22, .inl (c22, 3200, .inl z22)), (o, .inr (15, bF (va_up (va_up (va_up (va_up (va_up (va_up (va_up (va_up (va_up (va_up (va_up (va_up f 0 (.int 0)) 88 (.int 0)) 111 (.int 0)) 112 (.int 0)) 104 (.int 0)) 100 (.int 0)) 105 (.int 0)) 106 (.int 0)) 107 (.int 0)) 108 (.int 0)) 109 (.int 0)) 113 (.int 0)))), (a110, .inl (c110, 640, .inl (flI z110 0 640)))] H := hP
      have hD : va_D A [(a1, .inl (c1, 3000, .inl z1)), (a32, .inl (c32, 30, .inr (.inl z32))), (a33, .inl (c33, 30, .inl z33)), (a13, .inl (c13, 3200, .inl z13)), (a14, .inl (c14, 3200, .inl z14)), (a15, .inl (c15, 3200, .inl z15)), (a16, .inl (c16, 3200, .inl z16)), (a17, .inl (c17, 3200, .inl z17)), (a18, .inl (c18, 3200, .inl z18)), (a19, .inl (c19, 3200, .inl z19)), (a20, .inl (c20, 3200, .inr (.inl z20))), (a21, .inl (c21, 3200, .inl z21)), (a22, .inl (c22, 3200, .inl z22)), (o, .inr (15, bF (va_up (va_up (va_up (va_up (va_up (va_up (va_up (va_up (va_up (va_up (va_up (va_up f 0 (.int 0)) 88 (.int 0)) 111 (.int 0)) 112 (.int 0)) 104 (.int 0)) 100 (.int 0)) 105 (.int 0)) 106 (.int 0)) 107 (.int 0)) 108 (.int 0)) 109 (.int 0)) 113 (.int 0)))), (a110, .inl (c110, 640, .inl (flI z110 0 640)))] := hD
      refine lv_aload_n hx hb dX12_program_37 rfl (lv_at hl 0 rfl) ?_
      have hPc := hP.sub (ws' := [(o, .inr (15, bF (va_up (va_up (va_up (va_up (va_up (va_up (va_up (va_up (va_up (va_up (va_up (va_up f 0 (.int 0)) 88 (.int 0)) 111 (.int 0)) 112 (.int 0)) 104 (.int 0)) 100 (.int 0)) 105 (.int 0)) 106 (.int 0)) 107 (.int 0)) 108 (.int 0)) 109 (.int 0)) 113 (.int 0)))), (a1, .inl (c1, 3000, .inl z1)), (a32, .inl (c32, 30, .inr (.inl z32))), (a33, .inl (c33, 30, .inl z33)), (a13, .inl (c13, 3200, .inl z13)), (a14, .inl (c14, 3200, .inl z14)), (a15, .inl (c15, 3200, .inl z15)), (a16, .inl (c16, 3200, .inl z16)), (a17, .inl (c17, 3200, .inl z17)), (a18, .inl (c18, 3200, .inl z18)), (a19, .inl (c19, 3200, .inl z19)), (a20, .inl (c20, 3200, .inr (.inl z20))), (a21, .inl (c21, 3200, .inl z21)), (a22, .inl (c22, 3200, .inl z22))]) [13, 0, 1, 2, 3, 4, 5, 6, 7, 8, 9, 10, 11, 12] rfl
      have hDc := hD.sub (ws' := [(o, .inr (15, bF (va_up (va_up (va_up (va_up (va_up (va_up (va_up (va_up (va_up (va_up (va_up (va_up f 0 (.int 0)) 88 (.int 0)) 111 (.int 0)) 112 (.int 0)) 104 (.int 0)) 100 (.int 0)) 105 (.int 0)) 106 (.int 0)) 107 (.int 0)) 108 (.int 0)) 109 (.int 0)) 113 (.int 0)))), (a1, .inl (c1, 3000, .inl z1)), (a32, .inl (c32, 30, .inr (.inl z32))), (a33, .inl (c33, 30, .inl z33)), (a13, .inl (c13, 3200, .inl z13)), (a14, .inl (c14, 3200, .inl z14)), (a15, .inl (c15, 3200, .inl z15)), (a16, .inl (c16, 3200, .inl z16)), (a17, .inl (c17, 3200, .inl z17)), (a18, .inl (c18, 3200, .inl z18)), (a19, .inl (c19, 3200, .inl z19)), (a20, .inl (c20, 3200, .inr (.inl z20))), (a21, .inl (c21, 3200, .inl z21)), (a22, .inl (c22, 3200, .inl z22))]) [13, 0, 1, 2, 3, 4, 5, 6, 7, 8, 9, 10, 11, 12] (by decide) rfl
      have hKc := hK.sub (tys' := [(c1, .int), (c32, .long), (c33, .int), (c13, .int), (c14, .int), (c15, .int), (c16, .int), (c17, .int), (c18, .int), (c19, .int), (c20, .long), (c21, .int), (c22, .int)]) [1, 2, 3, 4, 5, 6, 7, 8, 9, 10, 11, 12, 13] rfl
      have hFc := va_free (wc := [(o, .inr (15, bF (va_up (va_up (va_up (va_up (va_up (va_up (va_up (va_up (va_up (va_up (va_up (va_up f 0 (.int 0)) 88 (.int 0)) 111 (.int 0)) 112 (.int 0)) 104 (.int 0)) 100 (.int 0)) 105 (.int 0)) 106 (.int 0)) 107 (.int 0)) 108 (.int 0)) 109 (.int 0)) 113 (.int 0)))), (a1, .inl (c1, 3000, .inl z1)), (a32, .inl (c32, 30, .inr (.inl z32))), (a33, .inl (c33, 30, .inl z33)), (a13, .inl (c13, 3200, .inl z13)), (a14, .inl (c14, 3200, .inl z14)), (a15, .inl (c15, 3200, .inl z15)), (a16, .inl (c16, 3200, .inl z16)), (a17, .inl (c17, 3200, .inl z17)), (a18, .inl (c18, 3200, .inl z18)), (a19, .inl (c19, 3200, .inl z19)), (a20, .inl (c20, 3200, .inr (.inl z20))), (a21, .inl (c21, 3200, .inl z21)), (a22, .inl (c22, 3200, .inl z22))]) hD hS hA [13, 0, 1, 2, 3, 4, 5, 6, 7, 8, 9, 10, 11, 12] rfl
      refine va_callv (va_runV (As := []) (rest := []) ⟨hx, hb, hml, hown, hu⟩ (kX12_readProgram_0 l dC dI H.size o (va_up (va_up (va_up (va_up (va_up (va_up (va_up (va_up (va_up (va_up (va_up (va_up f 0 (.int 0)) 88 (.int 0)) 111 (.int 0)) 112 (.int 0)) 104 (.int 0)) 100 (.int 0)) 105 (.int 0)) 106 (.int 0)) 107 (.int 0)) 108 (.int 0)) 109 (.int 0)) 113 (.int 0)) v8 a1 c1 z1 a32 c32 z32 a33 c33 z33 a13 c13 z13 a14 c14 z14 a15 c15 z15 a16 c16 z16 a17 c17 z17 a18 c18 z18 a19 c19 z19 a20 c20 z20 a21 c21 z21 a22 c22 z22  (h8) (h2) (h1) (h32) (h33) (h13) (h14) (h15) (h16) (h17) (h18) (h19) (h20) (h21) (h22) ) (cwV 0 hu (uG_V (fun _ h => h) mG_2475 mG_2472 mG_2474 mG_107 mG_226) rfl rfl rfl (by decide +kernel) ⟨Nat.le_of_ble_eq_true rfl, Nat.le_of_ble_eq_true rfl⟩) ⟨fun a U g mk q => by obtain ⟨q0, q1, qP, qK, qD⟩ := q; exact ⟨q0, q1, qP, va_K.moved (u := U) (U := U.calling g mk a) (Vm.Alike.refl U.vm) qK, qD⟩, va_recv hKc hPc (ci := 15) (q0 := 0) rfl rfl, fun U hU hW => ⟨rfl, by rw [hU], by rw [hU]; exact hPc, va_K.moved hW.alike hKc, hDc.weaken (fun _ _ _ _ => trivial)⟩⟩ rfl rfl hl.1 rfl (lv_room (Nat.le_of_ble_eq_true rfl)) dX12_program_38 ⟨Nat.le_of_ble_eq_true rfl, Nat.le_of_ble_eq_true rfl⟩) hS (fun q _ h => hFc q h) hFc (fun u t H1 locs ht hvm hw hB hz1 hk1 hS => ?_)
      obtain ⟨hP1, hK1, hD1⟩ := hB
      rw [ht] at hP1
      obtain ⟨hP, hD⟩ := va_join (wr := [(a110, .inl (c110, 640, .inl (flI z110 0 640)))]) (w1 := [(o, .inr (15, bF (va_up (va_up (va_up (va_up (va_up (va_up (va_up (va_up (va_up (va_up (va_up (va_up (va_up (va_up (va_up (va_up (va_up (va_up (va_up (va_up (va_up (va_up (va_up (va_up (va_up (va_up (va_up f 0 (.int 0)) 88 (.int 0)) 111 (.int 0)) 112 (.int 0)) 104 (.int 0)) 100 (.int 0)) 105 (.int 0)) 106 (.int 0)) 107 (.int 0)) 108 (.int 0)) 109 (.int 0)) 113 (.int 0)) 10 (.int 0)) 12 (.int 0)) 23 (.int 0)) 25 (.int 0)) 27 (.int 0)) 34 (.int 0)) 35 (.int 0)) 40 (.int 0)) 5 (.int 0)) 31 (.int 2)) 7 (.int 0)) 6 (.int 0)) 12 (.int 1)) 10 (.int 1)) 11 (.int 0)))), (a1, .inl (c1, 3000, .inl z1)), (a32, .inl (c32, 30, .inr (.inl (vp_updL (vp_updL z32 (0 : Int32).toNatClampNeg (pk5 70 97 108 115 101)) (1 : Int32).toNatClampNeg (pk5 84 114 117 101 0))))), (a33, .inl (c33, 30, .inl (upd (upd z33 (0 : Int32).toNatClampNeg 0) (1 : Int32).toNatClampNeg 0))), (a13, .inl (c13, 3200, .inl (upd z13 (0 : Int32).toNatClampNeg 12))), (a14, .inl (c14, 3200, .inl (upd z14 (0 : Int32).toNatClampNeg (-1)))), (a15, .inl (c15, 3200, .inl (upd z15 (0 : Int32).toNatClampNeg (-1)))), (a16, .inl (c16, 3200, .inl (upd z16 (0 : Int32).toNatClampNeg (-1)))), (a17, .inl (c17, 3200, .inl (upd z17 (0 : Int32).toNatClampNeg 0))), (a18, .inl (c18, 3200, .inl (upd z18 (0 : Int32).toNatClampNeg 0))), (a19, .inl (c19, 3200, .inl (upd z19 (0 : Int32).toNatClampNeg 0))), (a20, .inl (c20, 3200, .inr (.inl (vp_updL (vp_updL z20 (0 : Int32).toNatClampNeg 0) (0 : Int32).toNatClampNeg v8)))), (a21, .inl (c21, 3200, .inl (upd z21 (0 : Int32).toNatClampNeg 0))), (a22, .inl (c22, 3200, .inl (upd z22 (0 : Int32).toNatClampNeg 0)))]) hP hD [13, 0, 1, 2, 3, 4, 5, 6, 7, 8, 9, 10, 11, 12] [14] rfl rfl (by decide) (by decide) hk1 hFc hP1 hD1
      generalize H1 = H at hP hS ⊢
      have hP : va_P (dC, dI) vwCl [(a110, .inl (c110, 640, .inl (flI z110 0 640))), (o, .inr (15, bF (va_up (va_up (va_up (va_up (va_up (va_up (va_up (va_up (va_up (va_up (va_up (va_up (va_up (va_up (va_up (va_up (va_up (va_up (va_up (va_up (va_up (va_up (va_up (va_up (va_up (va_up (va_up f 0 (.int 0)) 88 (.int 0)) 111 (.int 0)) 112 (.int 0)) 104 (.int 0)) 100 (.int 0)) 105 (.int 0)) 106 (.int 0)) 107 (.int 0)) 108 (.int 0)) 109 (.int 0)) 113 (.int 0)) 10 (.int 0)) 12 (.int 0)) 23 (.int 0)) 25 (.int 0)) 27 (.int 0)) 34 (.int 0)) 35 (.int 0)) 40 (.int 0)) 5 (.int 0)) 31 (.int 2)) 7 (.int 0)) 6 (.int 0)) 12 (.int 1)) 10 (.int 1)) 11 (.int 0)))), (a1, .inl (c1, 3000, .inl z1)), (a32, .inl (c32, 30, .inr (.inl (vp_updL (vp_updL z32 (0 : Int32).toNatClampNeg (pk5 70 97 108 115 101)) (1 : Int32).toNatClampNeg (pk5 84 114 117 101 0))))), (a33, .inl (c33, 30, .inl (upd (upd z33 (0 : Int32).toNatClampNeg 0) (1 : Int32).toNatClampNeg 0))), (a13, .inl (c13, 3200, .inl (upd z13 (0 : Int32).toNatClampNeg 12))), (a14, .inl (c14, 3200, .inl (upd z14 (0 : Int32).toNatClampNeg (-1)))), (a15, .inl (c15, 3200, .inl (upd z15 (0 : Int32).toNatClampNeg (-1)))), (a16, .inl (c16, 3200, .inl (upd z16 (0 : Int32).toNatClampNeg (-1)))), (a17, .inl (c17, 3200, .inl (upd z17 (0 : Int32).toNatClampNeg 0))), (a18, .inl (c18, 3200, .inl (upd z18 (0 : Int32).toNatClampNeg 0))), (a19, .inl (c19, 3200, .inl (upd z19 (0 : Int32).toNatClampNeg 0))), (a20, .inl (c20, 3200, .inr (.inl (vp_updL (vp_updL z20 (0 : Int32).toNatClampNeg 0) (0 : Int32).toNatClampNeg v8)))), (a21, .inl (c21, 3200, .inl (upd z21 (0 : Int32).toNatClampNeg 0))), (a22, .inl (c22, 3200, .inl (upd z22 (0 : Int32).toNatClampNeg 0)))] H := hP
      have hD : va_D A [(a110, .inl (c110, 640, .inl (flI z110 0 640))), (o, .inr (15, bF (va_up (va_up (va_up (va_up (va_up (va_up (va_up (va_up (va_up (va_up (va_up (va_up (va_up (va_up (va_up (va_up (va_up (va_up (va_up (va_up (va_up (va_up (va_up (va_up (va_up (va_up (va_up f 0 (.int 0)) 88 (.int 0)) 111 (.int 0)) 112 (.int 0)) 104 (.int 0)) 100 (.int 0)) 105 (.int 0)) 106 (.int 0)) 107 (.int 0)) 108 (.int 0)) 109 (.int 0)) 113 (.int 0)) 10 (.int 0)) 12 (.int 0)) 23 (.int 0)) 25 (.int 0)) 27 (.int 0)) 34 (.int 0)) 35 (.int 0)) 40 (.int 0)) 5 (.int 0)) 31 (.int 2)) 7 (.int 0)) 6 (.int 0)) 12 (.int 1)) 10 (.int 1)) 11 (.int 0)))), (a1, .inl (c1, 3000, .inl z1)), (a32, .inl (c32, 30, .inr (.inl (vp_updL (vp_updL z32 (0 : Int32).toNatClampNeg (pk5 70 97 108 115 101)) (1 : Int32).toNatClampNeg (pk5 84 114 117 101 0))))), (a33, .inl (c33, 30, .inl (upd (upd z33 (0 : Int32).toNatClampNeg 0) (1 : Int32).toNatClampNeg 0))), (a13, .inl (c13, 3200, .inl (upd z13 (0 : Int32).toNatClampNeg 12))), (a14, .inl (c14, 3200, .inl (upd z14 (0 : Int32).toNatClampNeg (-1)))), (a15, .inl (c15, 3200, .inl (upd z15 (0 : Int32).toNatClampNeg (-1)))), (a16, .inl (c16, 3200, .inl (upd z16 (0 : Int32).toNatClampNeg (-1)))), (a17, .inl (c17, 3200, .inl (upd z17 (0 : Int32).toNatClampNeg 0))), (a18, .inl (c18, 3200, .inl (upd z18 (0 : Int32).toNatClampNeg 0))), (a19, .inl (c19, 3200, .inl (upd z19 (0 : Int32).toNatClampNeg 0))), (a20, .inl (c20, 3200, .inr (.inl (vp_updL (vp_updL z20 (0 : Int32).toNatClampNeg 0) (0 : Int32).toNatClampNeg v8)))), (a21, .inl (c21, 3200, .inl (upd z21 (0 : Int32).toNatClampNeg 0))), (a22, .inl (c22, 3200, .inl (upd z22 (0 : Int32).toNatClampNeg 0)))] := hD
      refine lv_aload_n hx hb dX12_program_41 rfl (lv_at hl 0 rfl) ?_
      refine lv_iconst (v := 0) hx hb dX12_program_42 (by decide) ?_
      refine va_put (D := (dC, dI)) (ci := 15) (v := .int 0) (ty := (tyX12 2)) (C := RX12) (T := TX12) (N := 136) hx hb hu iuX12 tyX12 tyX12_ok nmX12 hown hK hP hD hS 1 rfl rfl 2 (by decide) (hu _ mG_2052) (fun _ h9 => h9) rfl (by decide +kernel) (rfl) (rfl) (by rw [bF_len]; decide) dX12_program_43 (fun H locs hP hD hS => ?_)
      rw [show (bF (va_up (va_up (va_up (va_up (va_up (va_up (va_up (va_up (va_up (va_up (va_up (va_up (va_up (va_up (va_up (va_up (va_up (va_up (va_up (va_up (va_up (va_up (va_up (va_up (va_up (va_up (va_up f 0 (.int 0)) 88 (.int 0)) 111 (.int 0)) 112 (.int 0)) 104 (.int 0)) 100 (.int 0)) 105 (.int 0)) 106 (.int 0)) 107 (.int 0)) 108 (.int 0)) 109 (.int 0)) 113 (.int 0)) 10 (.int 0)) 12 (.int 0)) 23 (.int 0)) 25 (.int 0)) 27 (.int 0)) 34 (.int 0)) 35 (.int 0)) 40 (.int 0)) 5 (.int 0)) 31 (.int 2)) 7 (.int 0)) 6 (.int 0)) 12 (.int 1)) 10 (.int 1)) 11 (.int 0))).set 2 (.int 0) = bF (va_up (va_up (va_up (va_up (va_up (va_up (va_up (va_up (va_up (va_up (va_up (va_up (va_up (va_up (va_up (va_up (va_up (va_up (va_up (va_up (va_up (va_up (va_up (va_up (va_up (va_up (va_up (va_up f 0 (.int 0)) 88 (.int 0)) 111 (.int 0)) 112 (.int 0)) 104 (.int 0)) 100 (.int 0)) 105 (.int 0)) 106 (.int 0)) 107 (.int 0)) 108 (.int 0)) 109 (.int 0)) 113 (.int 0)) 10 (.int 0)) 12 (.int 0)) 23 (.int 0)) 25 (.int 0)) 27 (.int 0)) 34 (.int 0)) 35 (.int 0)) 40 (.int 0)) 5 (.int 0)) 31 (.int 2)) 7 (.int 0)) 6 (.int 0)) 12 (.int 1)) 10 (.int 1)) 11 (.int 0)) 2 (.int 0)) from bF_set (by decide)] at hP hD
      have hP : va_P (dC, dI) vwCl [(a110, .inl (c110, 640, .inl (flI z110 0 640))), (o, .inr (15, bF (va_up (va_up (va_up (va_up (va_up (va_up (va_up (va_up (va_up (va_up (va_up (va_up (va_up (va_up (va_up (va_up (va_up (va_up (va_up (va_up (va_up (va_up (va_up (va_up (va_up (va_up (va_up (va_up f 0 (.int 0)) 88 (.int 0)) 111 (.int 0)) 112 (.int 0)) 104 (.int 0)) 100 (.int 0)) 105 (.int 0)) 106 (.int 0)) 107 (.int 0)) 108 (.int 0)) 109 (.int 0)) 113 (.int 0)) 10 (.int 0)) 12 (.int 0)) 23 (.int 0)) 25 (.int 0)) 27 (.int 0)) 34 (.int 0)) 35 (.int 0)) 40 (.int 0)) 5 (.int 0)) 31 (.int 2)) 7 (.int 0)) 6 (.int 0)) 12 (.int 1)) 10 (.int 1)) 11 (.int 0)) 2 (.int 0)))), (a1, .inl (c1, 3000, .inl z1)), (a32, .inl (c32, 30, .inr (.inl (vp_updL (vp_updL z32 (0 : Int32).toNatClampNeg (pk5 70 97 108 115 101)) (1 : Int32).toNatClampNeg (pk5 84 114 117 101 0))))), (a33, .inl (c33, 30, .inl (upd (upd z33 (0 : Int32).toNatClampNeg 0) (1 : Int32).toNatClampNeg 0))), (a13, .inl (c13, 3200, .inl (upd z13 (0 : Int32).toNatClampNeg 12))), (a14, .inl (c14, 3200, .inl (upd z14 (0 : Int32).toNatClampNeg (-1)))), (a15, .inl (c15, 3200, .inl (upd z15 (0 : Int32).toNatClampNeg (-1)))), (a16, .inl (c16, 3200, .inl (upd z16 (0 : Int32).toNatClampNeg (-1)))), (a17, .inl (c17, 3200, .inl (upd z17 (0 : Int32).toNatClampNeg 0))), (a18, .inl (c18, 3200, .inl (upd z18 (0 : Int32).toNatClampNeg 0))), (a19, .inl (c19, 3200, .inl (upd z19 (0 : Int32).toNatClampNeg 0))), (a20, .inl (c20, 3200, .inr (.inl (vp_updL (vp_updL z20 (0 : Int32).toNatClampNeg 0) (0 : Int32).toNatClampNeg v8)))), (a21, .inl (c21, 3200, .inl (upd z21 (0 : Int32).toNatClampNeg 0))), (a22, .inl (c22, 3200, .inl (upd z22 (0 : Int32).toNatClampNeg 0)))] H := hP
      have hD : va_D A [(a110, .inl (c110, 640, .inl (flI z110 0 640))), (o, .inr (15, bF (va_up (va_up (va_up (va_up (va_up (va_up (va_up (va_up (va_up (va_up (va_up (va_up (va_up (va_up (va_up (va_up (va_up (va_up (va_up (va_up (va_up (va_up (va_up (va_up (va_up (va_up (va_up (va_up f 0 (.int 0)) 88 (.int 0)) 111 (.int 0)) 112 (.int 0)) 104 (.int 0)) 100 (.int 0)) 105 (.int 0)) 106 (.int 0)) 107 (.int 0)) 108 (.int 0)) 109 (.int 0)) 113 (.int 0)) 10 (.int 0)) 12 (.int 0)) 23 (.int 0)) 25 (.int 0)) 27 (.int 0)) 34 (.int 0)) 35 (.int 0)) 40 (.int 0)) 5 (.int 0)) 31 (.int 2)) 7 (.int 0)) 6 (.int 0)) 12 (.int 1)) 10 (.int 1)) 11 (.int 0)) 2 (.int 0)))), (a1, .inl (c1, 3000, .inl z1)), (a32, .inl (c32, 30, .inr (.inl (vp_updL (vp_updL z32 (0 : Int32).toNatClampNeg (pk5 70 97 108 115 101)) (1 : Int32).toNatClampNeg (pk5 84 114 117 101 0))))), (a33, .inl (c33, 30, .inl (upd (upd z33 (0 : Int32).toNatClampNeg 0) (1 : Int32).toNatClampNeg 0))), (a13, .inl (c13, 3200, .inl (upd z13 (0 : Int32).toNatClampNeg 12))), (a14, .inl (c14, 3200, .inl (upd z14 (0 : Int32).toNatClampNeg (-1)))), (a15, .inl (c15, 3200, .inl (upd z15 (0 : Int32).toNatClampNeg (-1)))), (a16, .inl (c16, 3200, .inl (upd z16 (0 : Int32).toNatClampNeg (-1)))), (a17, .inl (c17, 3200, .inl (upd z17 (0 : Int32).toNatClampNeg 0))), (a18, .inl (c18, 3200, .inl (upd z18 (0 : Int32).toNatClampNeg 0))), (a19, .inl (c19, 3200, .inl (upd z19 (0 : Int32).toNatClampNeg 0))), (a20, .inl (c20, 3200, .inr (.inl (vp_updL (vp_updL z20 (0 : Int32).toNatClampNeg 0) (0 : Int32).toNatClampNeg v8)))), (a21, .inl (c21, 3200, .inl (upd z21 (0 : Int32).toNatClampNeg 0))), (a22, .inl (c22, 3200, .inl (upd z22 (0 : Int32).toNatClampNeg 0)))] := hD
      refine lv_aload_n hx hb dX12_program_46 rfl (lv_at hl 0 rfl) ?_
      refine va_get (D := (dC, dI)) (ci := 15) (v := .int 1) (C := RX12) (T := TX12) (N := 136) hx hb hu iuX12 hown hK hP 1 rfl rfl 10 (by decide) (hu _ mG_2060) (fun _ h9 => h9) ((bF_get (by decide)).trans (congrArg some (rfl))) dX12_program_47 ?_
      refine lv_if_ne (tgt := 61) hx hb dX12_program_50 (by decide) (fun c50 => ?_) (fun c50 => ?_)
      · refine lv_aload_n hx hb dX12_program_61 rfl (lv_at hl 0 rfl) ?_
        refine va_get (D := (dC, dI)) (ci := 15) (v := .int 1) (C := RX12) (T := TX12) (N := 136) hx hb hu iuX12 hown hK hP 1 rfl rfl 10 (by decide) (hu _ mG_2060) (fun _ h9 => h9) ((bF_get (by decide)).trans (congrArg some (rfl))) dX12_program_62 ?_
        refine lv_if_ne (tgt := 72) hx hb dX12_program_65 (by decide) (fun c65 => ?_) (fun c65 => ?_)
        · refine lv_aload_n hx hb dX12_program_72 rfl (lv_at hl 0 rfl) ?_
          refine va_get (D := (dC, dI)) (ci := 15) (v := .int 1) (C := RX12) (T := TX12) (N := 136) hx hb hu iuX12 hown hK hP 1 rfl rfl 10 (by decide) (hu _ mG_2060) (fun _ h9 => h9) ((bF_get (by decide)).trans (congrArg some (rfl))) dX12_program_73 ?_
          refine lv_if_ne (tgt := 83) hx hb dX12_program_76 (by decide) (fun c76 => ?_) (fun c76 => ?_)
          · refine lv_aload_n hx hb dX12_program_83 rfl (lv_at hl 0 rfl) ?_
            refine lv_aload_n hx hb dX12_program_84 rfl (lv_at hl 0 rfl) ?_
            refine va_get (D := (dC, dI)) (ci := 15) (v := .int 1) (C := RX12) (T := TX12) (N := 136) hx hb hu iuX12 hown hK hP 1 rfl rfl 10 (by decide) (hu _ mG_2060) (fun _ h9 => h9) ((bF_get (by decide)).trans (congrArg some (rfl))) dX12_program_85 ?_
            refine va_put (D := (dC, dI)) (ci := 15) (v := .int 1) (ty := (tyX12 89)) (C := RX12) (T := TX12) (N := 136) hx hb hu iuX12 tyX12 tyX12_ok nmX12 hown hK hP hD hS 1 rfl rfl 89 (by decide) (hu _ mG_2139) (fun _ h9 => h9) rfl (by decide +kernel) (rfl) (rfl) (by rw [bF_len]; decide) dX12_program_88 (fun H locs hP hD hS => ?_)
            rw [show (bF (va_up (va_up (va_up (va_up (va_up (va_up (va_up (va_up (va_up (va_up (va_up (va_up (va_up (va_up (va_up (va_up (va_up (va_up (va_up (va_up (va_up (va_up (va_up (va_up (va_up (va_up (va_up (va_up f 0 (.int 0)) 88 (.int 0)) 111 (.int 0)) 112 (.int 0)) 104 (.int 0)) 100 (.int 0)) 105 (.int 0)) 106 (.int 0)) 107 (.int 0)) 108 (.int 0)) 109 (.int 0)) 113 (.int 0)) 10 (.int 0)) 12 (.int 0)) 23 (.int 0)) 25 (.int 0)) 27 (.int 0)) 34 (.int 0)) 35 (.int 0)) 40 (.int 0)) 5 (.int 0)) 31 (.int 2)) 7 (.int 0)) 6 (.int 0)) 12 (.int 1)) 10 (.int 1)) 11 (.int 0)) 2 (.int 0))).set 89 (.int 1) = bF (va_up (va_up (va_up (va_up (va_up (va_up (va_up (va_up (va_up (va_up (va_up (va_up (va_up (va_up (va_up (va_up (va_up (va_up (va_up (va_up (va_up (va_up (va_up (va_up (va_up (va_up (va_up (va_up (va_up f 0 (.int 0)) 88 (.int 0)) 111 (.int 0)) 112 (.int 0)) 104 (.int 0)) 100 (.int 0)) 105 (.int 0)) 106 (.int 0)) 107 (.int 0)) 108 (.int 0)) 109 (.int 0)) 113 (.int 0)) 10 (.int 0)) 12 (.int 0)) 23 (.int 0)) 25 (.int 0)) 27 (.int 0)) 34 (.int 0)) 35 (.int 0)) 40 (.int 0)) 5 (.int 0)) 31 (.int 2)) 7 (.int 0)) 6 (.int 0)) 12 (.int 1)) 10 (.int 1)) 11 (.int 0)) 2 (.int 0)) 89 (.int 1)) from bF_set (by decide)] at hP hD
            have hP : va_P (dC, dI) vwCl [(a110, .inl (c110, 640, .inl (flI z110 0 640))), (o, .inr (15, bF (va_up (va_up (va_up (va_up (va_up (va_up (va_up (va_up (va_up (va_up (va_up (va_up (va_up (va_up (va_up (va_up (va_up (va_up (va_up (va_up (va_up (va_up (va_up (va_up (va_up (va_up (va_up (va_up (va_up f 0 (.int 0)) 88 (.int 0)) 111 (.int 0)) 112 (.int 0)) 104 (.int 0)) 100 (.int 0)) 105 (.int 0)) 106 (.int 0)) 107 (.int 0)) 108 (.int 0)) 109 (.int 0)) 113 (.int 0)) 10 (.int 0)) 12 (.int 0)) 23 (.int 0)) 25 (.int 0)) 27 (.int 0)) 34 (.int 0)) 35 (.int 0)) 40 (.int 0)) 5 (.int 0)) 31 (.int 2)) 7 (.int 0)) 6 (.int 0)) 12 (.int 1)) 10 (.int 1)) 11 (.int 0)) 2 (.int 0)) 89 (.int 1)))), (a1, .inl (c1, 3000, .inl z1)), (a32, .inl (c32, 30, .inr (.inl (vp_updL (vp_updL z32 (0 : Int32).toNatClampNeg (pk5 70 97 108 115 101)) (1 : Int32).toNatClampNeg (pk5 84 114 117 101 0))))), (a33, .inl (c33, 30, .inl (upd (upd z33 (0 : Int32).toNatClampNeg 0) (1 : Int32).toNatClampNeg 0))), (a13, .inl (c13, 3200, .inl (upd z13 (0 : Int32).toNatClampNeg 12))), (a14, .inl (c14, 3200, .inl (upd z14 (0 : Int32).toNatClampNeg (-1)))), (a15, .inl (c15, 3200, .inl (upd z15 (0 : Int32).toNatClampNeg (-1)))), (a16, .inl (c16, 3200, .inl (upd z16 (0 : Int32).toNatClampNeg (-1)))), (a17, .inl (c17, 3200, .inl (upd z17 (0 : Int32).toNatClampNeg 0))), (a18, .inl (c18, 3200, .inl (upd z18 (0 : Int32).toNatClampNeg 0))), (a19, .inl (c19, 3200, .inl (upd z19 (0 : Int32).toNatClampNeg 0))), (a20, .inl (c20, 3200, .inr (.inl (vp_updL (vp_updL z20 (0 : Int32).toNatClampNeg 0) (0 : Int32).toNatClampNeg v8)))), (a21, .inl (c21, 3200, .inl (upd z21 (0 : Int32).toNatClampNeg 0))), (a22, .inl (c22, 3200, .inl (upd z22 (0 : Int32).toNatClampNeg 0)))] H := hP
            have hD : va_D A [(a110, .inl (c110, 640, .inl (flI z110 0 640))), (o, .inr (15, bF (va_up (va_up (va_up (va_up (va_up (va_up (va_up (va_up (va_up (va_up (va_up (va_up (va_up (va_up (va_up (va_up (va_up (va_up (va_up (va_up (va_up (va_up (va_up (va_up (va_up (va_up (va_up (va_up (va_up f 0 (.int 0)) 88 (.int 0)) 111 (.int 0)) 112 (.int 0)) 104 (.int 0)) 100 (.int 0)) 105 (.int 0)) 106 (.int 0)) 107 (.int 0)) 108 (.int 0)) 109 (.int 0)) 113 (.int 0)) 10 (.int 0)) 12 (.int 0)) 23 (.int 0)) 25 (.int 0)) 27 (.int 0)) 34 (.int 0)) 35 (.int 0)) 40 (.int 0)) 5 (.int 0)) 31 (.int 2)) 7 (.int 0)) 6 (.int 0)) 12 (.int 1)) 10 (.int 1)) 11 (.int 0)) 2 (.int 0)) 89 (.int 1)))), (a1, .inl (c1, 3000, .inl z1)), (a32, .inl (c32, 30, .inr (.inl (vp_updL (vp_updL z32 (0 : Int32).toNatClampNeg (pk5 70 97 108 115 101)) (1 : Int32).toNatClampNeg (pk5 84 114 117 101 0))))), (a33, .inl (c33, 30, .inl (upd (upd z33 (0 : Int32).toNatClampNeg 0) (1 : Int32).toNatClampNeg 0))), (a13, .inl (c13, 3200, .inl (upd z13 (0 : Int32).toNatClampNeg 12))), (a14, .inl (c14, 3200, .inl (upd z14 (0 : Int32).toNatClampNeg (-1)))), (a15, .inl (c15, 3200, .inl (upd z15 (0 : Int32).toNatClampNeg (-1)))), (a16, .inl (c16, 3200, .inl (upd z16 (0 : Int32).toNatClampNeg (-1)))), (a17, .inl (c17, 3200, .inl (upd z17 (0 : Int32).toNatClampNeg 0))), (a18, .inl (c18, 3200, .inl (upd z18 (0 : Int32).toNatClampNeg 0))), (a19, .inl (c19, 3200, .inl (upd z19 (0 : Int32).toNatClampNeg 0))), (a20, .inl (c20, 3200, .inr (.inl (vp_updL (vp_updL z20 (0 : Int32).toNatClampNeg 0) (0 : Int32).toNatClampNeg v8)))), (a21, .inl (c21, 3200, .inl (upd z21 (0 : Int32).toNatClampNeg 0))), (a22, .inl (c22, 3200, .inl (upd z22 (0 : Int32).toNatClampNeg 0)))] := hD
            refine lv_aload_n hx hb dX12_program_91 rfl (lv_at hl 0 rfl) ?_
            refine lv_aload_n hx hb dX12_program_92 rfl (lv_at hl 0 rfl) ?_
            refine va_get (D := (dC, dI)) (ci := 15) (v := .int 1) (C := RX12) (T := TX12) (N := 136) hx hb hu iuX12 hown hK hP 1 rfl rfl 10 (by decide) (hu _ mG_2060) (fun _ h9 => h9) ((bF_get (by decide)).trans (congrArg some (rfl))) dX12_program_93 ?_
            refine lv_if_le (tgt := 106) hx hb dX12_program_96 (by decide) (fun c96 => ?_) (fun c96 => ?_)
            · exact absurd c96 (by decide)
            · refine lv_aload_n hx hb dX12_program_99 rfl (lv_at hl 0 rfl) ?_
              refine va_get (D := (dC, dI)) (ci := 15) (v := .int 0) (C := RX12) (T := TX12) (N := 136) hx hb hu iuX12 hown hK hP 1 rfl rfl 11 (by decide) (hu _ mG_2061) (fun _ h9 => h9) ((bF_get (by decide)).trans (congrArg some (rfl))) dX12_program_100 ?_
              refine lv_goto (tgt := 107) hx hb dX12_program_103 (by decide) ?_
              refine va_put (D := (dC, dI)) (ci := 15) (v := .int 0) (ty := (tyX12 90)) (C := RX12) (T := TX12) (N := 136) hx hb hu iuX12 tyX12 tyX12_ok nmX12 hown hK hP hD hS 1 rfl rfl 90 (by decide) (hu _ mG_2140) (fun _ h9 => h9) rfl (by decide +kernel) (rfl) (rfl) (by rw [bF_len]; decide) dX12_program_107 (fun H locs hP hD hS => ?_)
              rw [show (bF (va_up (va_up (va_up (va_up (va_up (va_up (va_up (va_up (va_up (va_up (va_up (va_up (va_up (va_up (va_up (va_up (va_up (va_up (va_up (va_up (va_up (va_up (va_up (va_up (va_up (va_up (va_up (va_up (va_up f 0 (.int 0)) 88 (.int 0)) 111 (.int 0)) 112 (.int 0)) 104 (.int 0)) 100 (.int 0)) 105 (.int 0)) 106 (.int 0)) 107 (.int 0)) 108 (.int 0)) 109 (.int 0)) 113 (.int 0)) 10 (.int 0)) 12 (.int 0)) 23 (.int 0)) 25 (.int 0)) 27 (.int 0)) 34 (.int 0)) 35 (.int 0)) 40 (.int 0)) 5 (.int 0)) 31 (.int 2)) 7 (.int 0)) 6 (.int 0)) 12 (.int 1)) 10 (.int 1)) 11 (.int 0)) 2 (.int 0)) 89 (.int 1))).set 90 (.int 0) = bF (va_up (va_up (va_up (va_up (va_up (va_up (va_up (va_up (va_up (va_up (va_up (va_up (va_up (va_up (va_up (va_up (va_up (va_up (va_up (va_up (va_up (va_up (va_up (va_up (va_up (va_up (va_up (va_up (va_up (va_up f 0 (.int 0)) 88 (.int 0)) 111 (.int 0)) 112 (.int 0)) 104 (.int 0)) 100 (.int 0)) 105 (.int 0)) 106 (.int 0)) 107 (.int 0)) 108 (.int 0)) 109 (.int 0)) 113 (.int 0)) 10 (.int 0)) 12 (.int 0)) 23 (.int 0)) 25 (.int 0)) 27 (.int 0)) 34 (.int 0)) 35 (.int 0)) 40 (.int 0)) 5 (.int 0)) 31 (.int 2)) 7 (.int 0)) 6 (.int 0)) 12 (.int 1)) 10 (.int 1)) 11 (.int 0)) 2 (.int 0)) 89 (.int 1)) 90 (.int 0)) from bF_set (by decide)] at hP hD
              have hP : va_P (dC, dI) vwCl [(a110, .inl (c110, 640, .inl (flI z110 0 640))), (o, .inr (15, bF (va_up (va_up (va_up (va_up (va_up (va_up (va_up (va_up (va_up (va_up (va_up (va_up (va_up (va_up (va_up (va_up (va_up (va_up (va_up (va_up (va_up (va_up (va_up (va_up (va_up (va_up (va_up (va_up (va_up (va_up f 0 (.int 0)) 88 (.int 0)) 111 (.int 0)) 112 (.int 0)) 104 (.int 0)) 100 (.int 0)) 105 (.int 0)) 106 (.int 0)) 107 (.int 0)) 108 (.int 0)) 109 (.int 0)) 113 (.int 0)) 10 (.int 0)) 12 (.int 0)) 23 (.int 0)) 25 (.int 0)) 27 (.int 0)) 34 (.int 0)) 35 (.int 0)) 40 (.int 0)) 5 (.int 0)) 31 (.int 2)) 7 (.int 0)) 6 (.int 0)) 12 (.int 1)) 10 (.int 1)) 11 (.int 0)) 2 (.int 0)) 89 (.int 1)) 90 (.int 0)))), (a1, .inl (c1, 3000, .inl z1)), (a32, .inl (c32, 30, .inr (.inl (vp_updL (vp_updL z32 (0 : Int32).toNatClampNeg (pk5 70 97 108 115 101)) (1 : Int32).toNatClampNeg (pk5 84 114 117 101 0))))), (a33, .inl (c33, 30, .inl (upd (upd z33 (0 : Int32).toNatClampNeg 0) (1 : Int32).toNatClampNeg 0))), (a13, .inl (c13, 3200, .inl (upd z13 (0 : Int32).toNatClampNeg 12))), (a14, .inl (c14, 3200, .inl (upd z14 (0 : Int32).toNatClampNeg (-1)))), (a15, .inl (c15, 3200, .inl (upd z15 (0 : Int32).toNatClampNeg (-1)))), (a16, .inl (c16, 3200, .inl (upd z16 (0 : Int32).toNatClampNeg (-1)))), (a17, .inl (c17, 3200, .inl (upd z17 (0 : Int32).toNatClampNeg 0))), (a18, .inl (c18, 3200, .inl (upd z18 (0 : Int32).toNatClampNeg 0))), (a19, .inl (c19, 3200, .inl (upd z19 (0 : Int32).toNatClampNeg 0))), (a20, .inl (c20, 3200, .inr (.inl (vp_updL (vp_updL z20 (0 : Int32).toNatClampNeg 0) (0 : Int32).toNatClampNeg v8)))), (a21, .inl (c21, 3200, .inl (upd z21 (0 : Int32).toNatClampNeg 0))), (a22, .inl (c22, 3200, .inl (upd z22 (0 : Int32).toNatClampNeg 0)))] H := hP
              have hD : va_D A [(a110, .inl (c110, 640, .inl (flI z110 0 640))), (o, .inr (15, bF (va_up (va_up (va_up (va_up (va_up (va_up (va_up (va_up (va_up (va_up (va_up (va_up (va_up (va_up (va_up (va_up (va_up (va_up (va_up (va_up (va_up (va_up (va_up (va_up (va_up (va_up (va_up (va_up (va_up (va_up f 0 (.int 0)) 88 (.int 0)) 111 (.int 0)) 112 (.int 0)) 104 (.int 0)) 100 (.int 0)) 105 (.int 0)) 106 (.int 0)) 107 (.int 0)) 108 (.int 0)) 109 (.int 0)) 113 (.int 0)) 10 (.int 0)) 12 (.int 0)) 23 (.int 0)) 25 (.int 0)) 27 (.int 0)) 34 (.int 0)) 35 (.int 0)) 40 (.int 0)) 5 (.int 0)) 31 (.int 2)) 7 (.int 0)) 6 (.int 0)) 12 (.int 1)) 10 (.int 1)) 11 (.int 0)) 2 (.int 0)) 89 (.int 1)) 90 (.int 0)))), (a1, .inl (c1, 3000, .inl z1)), (a32, .inl (c32, 30, .inr (.inl (vp_updL (vp_updL z32 (0 : Int32).toNatClampNeg (pk5 70 97 108 115 101)) (1 : Int32).toNatClampNeg (pk5 84 114 117 101 0))))), (a33, .inl (c33, 30, .inl (upd (upd z33 (0 : Int32).toNatClampNeg 0) (1 : Int32).toNatClampNeg 0))), (a13, .inl (c13, 3200, .inl (upd z13 (0 : Int32).toNatClampNeg 12))), (a14, .inl (c14, 3200, .inl (upd z14 (0 : Int32).toNatClampNeg (-1)))), (a15, .inl (c15, 3200, .inl (upd z15 (0 : Int32).toNatClampNeg (-1)))), (a16, .inl (c16, 3200, .inl (upd z16 (0 : Int32).toNatClampNeg (-1)))), (a17, .inl (c17, 3200, .inl (upd z17 (0 : Int32).toNatClampNeg 0))), (a18, .inl (c18, 3200, .inl (upd z18 (0 : Int32).toNatClampNeg 0))), (a19, .inl (c19, 3200, .inl (upd z19 (0 : Int32).toNatClampNeg 0))), (a20, .inl (c20, 3200, .inr (.inl (vp_updL (vp_updL z20 (0 : Int32).toNatClampNeg 0) (0 : Int32).toNatClampNeg v8)))), (a21, .inl (c21, 3200, .inl (upd z21 (0 : Int32).toNatClampNeg 0))), (a22, .inl (c22, 3200, .inl (upd z22 (0 : Int32).toNatClampNeg 0)))] := hD
              refine lv_aload_n hx hb dX12_program_110 rfl (lv_at hl 0 rfl) ?_
              refine va_get (D := (dC, dI)) (ci := 15) (v := .int 1) (C := RX12) (T := TX12) (N := 136) hx hb hu iuX12 hown hK hP 1 rfl rfl 10 (by decide) (hu _ mG_2060) (fun _ h9 => h9) ((bF_get (by decide)).trans (congrArg some (rfl))) dX12_program_111 ?_
              refine lv_if_le (tgt := 119) hx hb dX12_program_114 (by decide) (fun c114 => ?_) (fun c114 => ?_)
              · exact absurd c114 (by decide)
              · refine lv_iconst (v := (-1)) hx hb dX12_program_117 (by decide) ?_
                have hP9 : va_P (dC, dI) vwCl [(o, .inr (15, bF (va_up (va_up (va_up (va_up (va_up (va_up (va_up (va_up (va_up (va_up (va_up (va_up (va_up (va_up (va_up (va_up (va_up (va_up (va_up (va_up (va_up (va_up (va_up (va_up (va_up (va_up (va_up (va_up (va_up (va_up f 0 (.int 0)) 88 (.int 0)) 111 (.int 0)) 112 (.int 0)) 104 (.int 0)) 100 (.int 0)) 105 (.int 0)) 106 (.int 0)) 107 (.int 0)) 108 (.int 0)) 109 (.int 0)) 113 (.int 0)) 10 (.int 0)) 12 (.int 0)) 23 (.int 0)) 25 (.int 0)) 27 (.int 0)) 34 (.int 0)) 35 (.int 0)) 40 (.int 0)) 5 (.int 0)) 31 (.int 2)) 7 (.int 0)) 6 (.int 0)) 12 (.int 1)) 10 (.int 1)) 11 (.int 0)) 2 (.int 0)) 89 (.int 1)) 90 (.int 0)))), (a110, .inl (c110, 640, .inl (flI z110 0 640))), (a1, .inl (c1, 3000, .inl z1)), (a32, .inl (c32, 30, .inr (.inl (vp_updL (vp_updL z32 (0 : Int32).toNatClampNeg (pk5 70 97 108 115 101)) (1 : Int32).toNatClampNeg (pk5 84 114 117 101 0))))), (a33, .inl (c33, 30, .inl (upd (upd z33 (0 : Int32).toNatClampNeg 0) (1 : Int32).toNatClampNeg 0))), (a13, .inl (c13, 3200, .inl (upd z13 (0 : Int32).toNatClampNeg 12))), (a14, .inl (c14, 3200, .inl (upd z14 (0 : Int32).toNatClampNeg (-1)))), (a15, .inl (c15, 3200, .inl (upd z15 (0 : Int32).toNatClampNeg (-1)))), (a16, .inl (c16, 3200, .inl (upd z16 (0 : Int32).toNatClampNeg (-1)))), (a17, .inl (c17, 3200, .inl (upd z17 (0 : Int32).toNatClampNeg 0))), (a18, .inl (c18, 3200, .inl (upd z18 (0 : Int32).toNatClampNeg 0))), (a19, .inl (c19, 3200, .inl (upd z19 (0 : Int32).toNatClampNeg 0))), (a20, .inl (c20, 3200, .inr (.inl (vp_updL (vp_updL z20 (0 : Int32).toNatClampNeg 0) (0 : Int32).toNatClampNeg v8)))), (a21, .inl (c21, 3200, .inl (upd z21 (0 : Int32).toNatClampNeg 0))), (a22, .inl (c22, 3200, .inl (upd z22 (0 : Int32).toNatClampNeg 0)))] H := by exact hP.sub [1, 0, 2, 3, 4, 5, 6, 7, 8, 9, 10, 11, 12, 13, 14] rfl
                have hD9 : va_D A [(o, .inr (15, bF (va_up (va_up (va_up (va_up (va_up (va_up (va_up (va_up (va_up (va_up (va_up (va_up (va_up (va_up (va_up (va_up (va_up (va_up (va_up (va_up (va_up (va_up (va_up (va_up (va_up (va_up (va_up (va_up (va_up (va_up f 0 (.int 0)) 88 (.int 0)) 111 (.int 0)) 112 (.int 0)) 104 (.int 0)) 100 (.int 0)) 105 (.int 0)) 106 (.int 0)) 107 (.int 0)) 108 (.int 0)) 109 (.int 0)) 113 (.int 0)) 10 (.int 0)) 12 (.int 0)) 23 (.int 0)) 25 (.int 0)) 27 (.int 0)) 34 (.int 0)) 35 (.int 0)) 40 (.int 0)) 5 (.int 0)) 31 (.int 2)) 7 (.int 0)) 6 (.int 0)) 12 (.int 1)) 10 (.int 1)) 11 (.int 0)) 2 (.int 0)) 89 (.int 1)) 90 (.int 0)))), (a110, .inl (c110, 640, .inl (flI z110 0 640))), (a1, .inl (c1, 3000, .inl z1)), (a32, .inl (c32, 30, .inr (.inl (vp_updL (vp_updL z32 (0 : Int32).toNatClampNeg (pk5 70 97 108 115 101)) (1 : Int32).toNatClampNeg (pk5 84 114 117 101 0))))), (a33, .inl (c33, 30, .inl (upd (upd z33 (0 : Int32).toNatClampNeg 0) (1 : Int32).toNatClampNeg 0))), (a13, .inl (c13, 3200, .inl (upd z13 (0 : Int32).toNatClampNeg 12))), (a14, .inl (c14, 3200, .inl (upd z14 (0 : Int32).toNatClampNeg (-1)))), (a15, .inl (c15, 3200, .inl (upd z15 (0 : Int32).toNatClampNeg (-1)))), (a16, .inl (c16, 3200, .inl (upd z16 (0 : Int32).toNatClampNeg (-1)))), (a17, .inl (c17, 3200, .inl (upd z17 (0 : Int32).toNatClampNeg 0))), (a18, .inl (c18, 3200, .inl (upd z18 (0 : Int32).toNatClampNeg 0))), (a19, .inl (c19, 3200, .inl (upd z19 (0 : Int32).toNatClampNeg 0))), (a20, .inl (c20, 3200, .inr (.inl (vp_updL (vp_updL z20 (0 : Int32).toNatClampNeg 0) (0 : Int32).toNatClampNeg v8)))), (a21, .inl (c21, 3200, .inl (upd z21 (0 : Int32).toNatClampNeg 0))), (a22, .inl (c22, 3200, .inl (upd z22 (0 : Int32).toNatClampNeg 0)))] := by exact hD.sub [1, 0, 2, 3, 4, 5, 6, 7, 8, 9, 10, 11, 12, 13, 14] (by decide) rfl
                have hK9 := hK.sub (tys' := [(c110, .int), (c1, .int), (c32, .long), (c33, .int), (c13, .int), (c14, .int), (c15, .int), (c16, .int), (c17, .int), (c18, .int), (c19, .int), (c20, .long), (c21, .int), (c22, .int)]) [0, 1, 2, 3, 4, 5, 6, 7, 8, 9, 10, 11, 12, 13] rfl
                exact W.iret (v := (-1)) hx hb hr (fun t ht hW => ⟨⟨(-1), (), rfl, rfl, by rw [ht]; exact hP9, va_K.moved hW.alike hK9, hD9⟩, hS.F ht⟩) hS.2.2 dX12_program_118
          · exact absurd c76 (by decide)
        · exact absurd c65 (by decide)
      · exact absurd c50 (by decide)
    · exact absurd (by decide) c23
  · exact absurd (by decide) c8
set_option maxHeartbeats 4000000 in
set_option maxRecDepth 100000 in
/-- X12_write_0 -/
theorem kX12_write_0 (l : Launch) (dC : Nat → ClassId) (dI : Nat → Nat → Nat) (sz : Nat) (o : Nat) (f : Nat → Value)    (h88 : f 88 = .int 0)  : Met l yX12_write (Cond.code yX12_write cX12_write 3 (some .int) :: uG) ({ frames := 0, cells := 0, slots := 0, locals := 0 }) (va_Pc [.ref o] (fun U => U.heap.size = sz ∧ va_P (dC, dI) vwCl [(o, .inr (15, bF f))] U.heap ∧ va_K (dC, dI) vwCl [] U ∧ va_D (fun _ => True) [(o, .inr (15, bF f))])) (va_Qi (S := Unit) (fun r _ => r = (0)) (fun _ t => va_P (dC, dI) vwCl [(o, .inr (15, bF (va_up f 0 (.int 1))))] t.heap ∧ va_K (dC, dI) vwCl [] t ∧ va_D (va_A [(o, .inr (15, bF f))] sz) [(o, .inr (15, bF (va_up f 0 (.int 1))))]) (va_A [(o, .inr (15, bF f))] sz)) 0 0 (va_A [(o, .inr (15, bF f))] sz) := by
  refine Met.ofW (cc := cX12_write) (maxL := 3) (ret := (some .int)) (by decide) rfl ?_
  intro pG eV s m args below meth c s₁ B hml hv
  obtain ⟨rfl, hsz, hP, hK, hD0⟩ := hv
  have hx := B.exec
  have hb := B.bytes
  have hr := B.returns
  have hts := atoms_spec (ws := Cond.code yX12_write cX12_write 3 (some .int) :: uG) B.pre
  have hu := fun (w : Cond) (h : w ∈ uG) => hts w (List.mem_cons_of_mem _ h)
  have hown : s.vm.findClass RX12 = some m.cls := findClass_of_methodNamed B.named
  have hlocks := B.notSynchronized
  subst hsz
  have hD := hD0.self (sz := s.heap.size)
  generalize hAe : va_A [(o, .inr (15, bF f))] s.heap.size = A at hD ⊢
  have hA : ∀ q : Nat, s.heap.size ≤ q → A q := fun q h => by rw [← hAe]; exact Or.inr h
  have hS : va_S A s.heap s.heap [] := va_S.rf
  have hP : va_P (dC, dI) vwCl [(o, .inr (15, bF f))] s.heap := hP
  have hD : va_D A [(o, .inr (15, bF f))] := hD
  have hl := lv_entry ([.ref o]) (n := 3) (Nat.le_of_ble_eq_true rfl)
  rw [lg_entry_eq]
  generalize (lg_sl ([.ref o]) ++ List.replicate (3 - (lg_sl ([.ref o])).length) Slot.unset).toArray = ls at hl ⊢
  have hl : lv_has ls 3 [(0, .ref o)] := hl
  refine lv_aload_n hx hb dX12_write_0 rfl (lv_at hl 0 rfl) ?_
  refine lv_aload_n hx hb dX12_write_1 rfl (lv_at hl 0 rfl) ?_
  refine va_get (D := (dC, dI)) (ci := 15) (v := .int 0) (C := RX12) (T := TX12) (N := 136) hx hb hu iuX12 hown hK hP 0 rfl rfl 88 (by decide) (hu _ mG_2138) (fun _ h9 => h9) ((bF_get (by decide)).trans (congrArg some (h88))) dX12_write_2 ?_
  refine lv_if_eq (tgt := 12) hx hb dX12_write_5 (by decide) (fun c5 => ?_) (fun c5 => ?_)
  · refine lv_iconst (v := 1) hx hb dX12_write_12 (by decide) ?_
    refine va_put (D := (dC, dI)) (ci := 15) (v := .int 1) (ty := (tyX12 0)) (C := RX12) (T := TX12) (N := 136) hx hb hu iuX12 tyX12 tyX12_ok nmX12 hown hK hP hD hS 0 rfl rfl 0 (by decide) (hu _ mG_2050) (fun _ h9 => h9) rfl (by decide +kernel) (rfl) (rfl) (by rw [bF_len]; decide) dX12_write_13 (fun H locs hP hD hS => ?_)
    rw [show (bF f).set 0 (.int 1) = bF (va_up f 0 (.int 1)) from bF_set (by decide)] at hP hD
    have hP : va_P (dC, dI) vwCl [(o, .inr (15, bF (va_up f 0 (.int 1))))] H := hP
    have hD : va_D A [(o, .inr (15, bF (va_up f 0 (.int 1))))] := hD
    refine lv_aload_n hx hb dX12_write_16 rfl (lv_at hl 0 rfl) ?_
    refine va_get (D := (dC, dI)) (ci := 15) (v := .int 1) (C := RX12) (T := TX12) (N := 136) hx hb hu iuX12 hown hK hP 0 rfl rfl 0 (by decide) (hu _ mG_2050) (fun _ h9 => h9) ((bF_get (by decide)).trans (congrArg some (rfl))) dX12_write_17 ?_
    refine lv_if_le (tgt := 25) hx hb dX12_write_20 (by decide) (fun c20 => ?_) (fun c20 => ?_)
    · exact absurd c20 (by decide)
    · refine lv_iconst (v := 0) hx hb dX12_write_23 (by decide) ?_
      have hP9 : va_P (dC, dI) vwCl [(o, .inr (15, bF (va_up f 0 (.int 1))))] H := by exact hP
      have hD9 : va_D A [(o, .inr (15, bF (va_up f 0 (.int 1))))] := by exact hD
      have hK9 := hK.sub (tys' := []) [] rfl
      exact W.iret (v := 0) hx hb hr (fun t ht hW => ⟨⟨0, (), rfl, rfl, by rw [ht]; exact hP9, va_K.moved hW.alike hK9, hD9⟩, hS.F ht⟩) hS.2.2 dX12_write_24
  · exact absurd (by decide) c5
set_option maxHeartbeats 4000000 in
set_option maxRecDepth 100000 in
/-- X12_run_0 -/
theorem kX12_run_0 (l : Launch) (dC : Nat → ClassId) (dI : Nat → Nat → Nat) (sz : Nat) (o : Nat) (f : Nat → Value)   (b9 : Int32) (k : Int32) (h88 : f 88 = .int 0) (h101 : f 101 = .int 0) (h102 : f 102 = .int 0)  : Met l yX12_run (Cond.code yX12_run cX12_run 5 (some .int) :: uG) ({ frames := 0, cells := 0, slots := 0, locals := 0 }) (va_Pc [.ref o, .int b9, .int k] (fun U => U.heap.size = sz ∧ va_P (dC, dI) vwCl [(o, .inr (15, bF f))] U.heap ∧ va_K (dC, dI) vwCl [] U ∧ va_D (fun _ => True) [(o, .inr (15, bF f))])) (va_Qi (S := Unit) (fun r _ => r = (0)) (fun _ t => va_P (dC, dI) vwCl [(o, .inr (15, bF (va_up f 0 (.int 1))))] t.heap ∧ va_K (dC, dI) vwCl [] t ∧ va_D (va_A [(o, .inr (15, bF f))] sz) [(o, .inr (15, bF (va_up f 0 (.int 1))))]) (va_A [(o, .inr (15, bF f))] sz)) 0 0 (va_A [(o, .inr (15, bF f))] sz) := by
  refine Met.ofW (cc := cX12_run) (maxL := 5) (ret := (some .int)) (by decide) rfl ?_
  intro pG eV s m args below meth c s₁ B hml hv
  obtain ⟨rfl, hsz, hP, hK, hD0⟩ := hv
  have hx := B.exec
  have hb := B.bytes
  have hr := B.returns
  have hts := atoms_spec (ws := Cond.code yX12_run cX12_run 5 (some .int) :: uG) B.pre
  have hu := fun (w : Cond) (h : w ∈ uG) => hts w (List.mem_cons_of_mem _ h)
  have hown : s.vm.findClass RX12 = some m.cls := findClass_of_methodNamed B.named
  have hlocks := B.notSynchronized
  subst hsz
  have hD := hD0.self (sz := s.heap.size)
  generalize hAe : va_A [(o, .inr (15, bF f))] s.heap.size = A at hD ⊢
  have hA : ∀ q : Nat, s.heap.size ≤ q → A q := fun q h => by rw [← hAe]; exact Or.inr h
  have hS : va_S A s.heap s.heap [] := va_S.rf
  have hP : va_P (dC, dI) vwCl [(o, .inr (15, bF f))] s.heap := hP
  have hD : va_D A [(o, .inr (15, bF f))] := hD
  have hl := lv_entry ([.ref o, .int b9, .int k]) (n := 5) (Nat.le_of_ble_eq_true rfl)
  rw [lg_entry_eq]
  generalize (lg_sl ([.ref o, .int b9, .int k]) ++ List.replicate (5 - (lg_sl ([.ref o, .int b9, .int k])).length) Slot.unset).toArray = ls at hl ⊢
  have hl : lv_has ls 5 [(0, .ref o), (1, .int b9), (2, .int k)] := hl
  refine lv_aload_n hx hb dX12_run_0 rfl (lv_at hl 0 rfl) ?_
  refine va_get (D := (dC, dI)) (ci := 15) (v := .int 0) (C := RX12) (T := TX12) (N := 136) hx hb hu iuX12 hown hK hP 0 rfl rfl 102 (by decide) (hu _ mG_2152) (fun _ h9 => h9) ((bF_get (by decide)).trans (congrArg some (h102))) dX12_run_1 ?_
  refine lv_ldcw (own := RX12) (v := 150000) hx hb hown (hu _ mG_2780) dX12_run_4 ?_
  refine lv_icmp_ge (tgt := 20) hx hb dX12_run_7 (by decide) (fun c7 => ?_) (fun c7 => ?_)
  · exact absurd c7 (by decide)
  · refine lv_aload_n hx hb dX12_run_10 rfl (lv_at hl 0 rfl) ?_
    refine va_get (D := (dC, dI)) (ci := 15) (v := .int 0) (C := RX12) (T := TX12) (N := 136) hx hb hu iuX12 hown hK hP 0 rfl rfl 101 (by decide) (hu _ mG_2151) (fun _ h9 => h9) ((bF_get (by decide)).trans (congrArg some (h101))) dX12_run_11 ?_
    refine lv_ldcw (own := RX12) (v := 150000) hx hb hown (hu _ mG_2780) dX12_run_14 ?_
    refine lv_icmp_lt (tgt := 24) hx hb dX12_run_17 (by decide) (fun c17 => ?_) (fun c17 => ?_)
    · refine lv_iconst (v := 0) hx hb dX12_run_24 (by decide) ?_
      refine lv_istore_n (lv' := [(3, .int 0), (0, .ref o), (1, .int b9), (2, .int k)]) hx hb dX12_run_25 rfl hl (by decide) rfl (fun ls hl => ?_)
      refine lv_aload_n hx hb dX12_run_26 rfl (lv_at hl 1 rfl) ?_
      refine lv_aload_n hx hb dX12_run_27 rfl (lv_at hl 1 rfl) ?_
      refine va_get (D := (dC, dI)) (ci := 15) (v := .int 0) (C := RX12) (T := TX12) (N := 136) hx hb hu iuX12 hown hK hP 0 rfl rfl 88 (by decide) (hu _ mG_2138) (fun _ h9 => h9) ((bF_get (by decide)).trans (congrArg some (h88))) dX12_run_28 ?_
      refine lv_if_ne (tgt := 38) hx hb dX12_run_31 (by decide) (fun c31 => ?_) (fun c31 => ?_)
      · exact absurd (by decide) c31
      · refine lv_iconst (v := 1) hx hb dX12_run_34 (by decide) ?_
        refine lv_goto (tgt := 62) hx hb dX12_run_35 (by decide) ?_
        refine va_put (D := (dC, dI)) (ci := 15) (v := .int 1) (ty := (tyX12 0)) (C := RX12) (T := TX12) (N := 136) hx hb hu iuX12 tyX12 tyX12_ok nmX12 hown hK hP hD hS 0 rfl rfl 0 (by decide) (hu _ mG_2050) (fun _ h9 => h9) rfl (by decide +kernel) (rfl) (rfl) (by rw [bF_len]; decide) dX12_run_62 (fun H locs hP hD hS => ?_)
        rw [show (bF f).set 0 (.int 1) = bF (va_up f 0 (.int 1)) from bF_set (by decide)] at hP hD
        have hP : va_P (dC, dI) vwCl [(o, .inr (15, bF (va_up f 0 (.int 1))))] H := hP
        have hD : va_D A [(o, .inr (15, bF (va_up f 0 (.int 1))))] := hD
        refine lv_aload_n hx hb dX12_run_65 rfl (lv_at hl 1 rfl) ?_
        refine va_get (D := (dC, dI)) (ci := 15) (v := .int 1) (C := RX12) (T := TX12) (N := 136) hx hb hu iuX12 hown hK hP 0 rfl rfl 0 (by decide) (hu _ mG_2050) (fun _ h9 => h9) ((bF_get (by decide)).trans (congrArg some (rfl))) dX12_run_66 ?_
        refine lv_if_le (tgt := 74) hx hb dX12_run_69 (by decide) (fun c69 => ?_) (fun c69 => ?_)
        · exact absurd c69 (by decide)
        · refine lv_iconst (v := 0) hx hb dX12_run_72 (by decide) ?_
          have hP9 : va_P (dC, dI) vwCl [(o, .inr (15, bF (va_up f 0 (.int 1))))] H := by exact hP
          have hD9 : va_D A [(o, .inr (15, bF (va_up f 0 (.int 1))))] := by exact hD
          have hK9 := hK.sub (tys' := []) [] rfl
          exact W.iret (v := 0) hx hb hr (fun t ht hW => ⟨⟨0, (), rfl, rfl, by rw [ht]; exact hP9, va_K.moved hW.alike hK9, hD9⟩, hS.F ht⟩) hS.2.2 dX12_run_73
    · exact absurd (by decide) c17
set_option maxHeartbeats 4000000 in
set_option maxRecDepth 100000 in
/-- X12_function_0 -/
theorem kX12_function_0 (l : Launch) (dC : Nat → ClassId) (dI : Nat → Nat → Nat) (sz : Nat) (o : Nat) (f : Nat → Value) (v46 : Int32)  (k : Int32) (w : Int32) (h46 : f 46 = .int v46) (h88 : f 88 = .int 0)  : Met l yX12_function (Cond.code yX12_function cX12_function 5 (some .int) :: uG) ({ frames := 1, cells := 0, slots := 0, locals := 21 }) (va_Pc [.ref o, .int k, .int w] (fun U => U.heap.size = sz ∧ va_P (dC, dI) vwCl [(o, .inr (15, bF f))] U.heap ∧ va_K (dC, dI) vwCl [] U ∧ va_D (fun _ => True) [(o, .inr (15, bF f))])) (va_Qi (S := Unit) (fun r _ => r = (0)) (fun _ t => va_P (dC, dI) vwCl [(o, .inr (15, bF (va_up (va_up f 0 (.int 1)) 0 (.int 1))))] t.heap ∧ va_K (dC, dI) vwCl [] t ∧ va_D (va_A [(o, .inr (15, bF f))] sz) [(o, .inr (15, bF (va_up (va_up f 0 (.int 1)) 0 (.int 1))))]) (va_A [(o, .inr (15, bF f))] sz)) 0 0 (va_A [(o, .inr (15, bF f))] sz) := by
  refine Met.ofW (cc := cX12_function) (maxL := 5) (ret := (some .int)) (by decide) rfl ?_
  intro pG eV s m args below meth c s₁ B hml hv
  obtain ⟨rfl, hsz, hP, hK, hD0⟩ := hv
  have hx := B.exec
  have hb := B.bytes
  have hr := B.returns
  have hts := atoms_spec (ws := Cond.code yX12_function cX12_function 5 (some .int) :: uG) B.pre
  have hu := fun (w : Cond) (h : w ∈ uG) => hts w (List.mem_cons_of_mem _ h)
  have hown : s.vm.findClass RX12 = some m.cls := findClass_of_methodNamed B.named
  have hlocks := B.notSynchronized
  subst hsz
  have hD := hD0.self (sz := s.heap.size)
  generalize hAe : va_A [(o, .inr (15, bF f))] s.heap.size = A at hD ⊢
  have hA : ∀ q : Nat, s.heap.size ≤ q → A q := fun q h => by rw [← hAe]; exact Or.inr h
  have hS : va_S A s.heap s.heap [] := va_S.rf
  have hP : va_P (dC, dI) vwCl [(o, .inr (15, bF f))] s.heap := hP
  have hD : va_D A [(o, .inr (15, bF f))] := hD
  have hl := lv_entry ([.ref o, .int k, .int w]) (n := 5) (Nat.le_of_ble_eq_true rfl)
  rw [lg_entry_eq]
  generalize (lg_sl ([.ref o, .int k, .int w]) ++ List.replicate (5 - (lg_sl ([.ref o, .int k, .int w])).length) Slot.unset).toArray = ls at hl ⊢
  have hl : lv_has ls 5 [(0, .ref o), (1, .int k), (2, .int w)] := hl
  refine lv_aload_n hx hb dX12_function_0 rfl (lv_at hl 0 rfl) ?_
  refine lv_aload_n hx hb dX12_function_1 rfl (lv_at hl 0 rfl) ?_
  refine lv_iload_n hx hb dX12_function_2 rfl (lv_at hl 1 rfl) ?_
  have hPc := hP.sub (ws' := [(o, .inr (15, bF f))]) [0] rfl
  have hDc := hD.sub (ws' := [(o, .inr (15, bF f))]) [0] (by decide) rfl
  have hKc := hK.sub (tys' := []) [] rfl
  have hFc := va_free (wc := [(o, .inr (15, bF f))]) hD hS hA [0] rfl
  refine va_calli (va_runV (As := [.int k]) (rest := [.ref o]) ⟨hx, hb, hml, hown, hu⟩ (kX12_codeOf l dC dI s.heap.size o f 0 v46 k (h88) (h46)) (cwV 1 hu (uG_V (fun _ h => h) mG_2970 mG_2967 mG_2969 mG_212 mG_226) rfl rfl rfl (by decide +kernel) ⟨Nat.le_of_ble_eq_true rfl, Nat.le_of_ble_eq_true rfl⟩) ⟨fun a U g mk q => by obtain ⟨q0, q1, qP, qK, qD⟩ := q; exact ⟨q0, q1, qP, va_K.moved (u := U) (U := U.calling g mk a) (Vm.Alike.refl U.vm) qK, qD⟩, va_recv hKc hPc (ci := 15) (q0 := 0) rfl rfl, fun U hU hW => ⟨rfl, by rw [hU], by rw [hU]; exact hPc, va_K.moved hW.alike hKc, hDc.weaken (fun _ _ _ _ => trivial)⟩⟩ rfl rfl hl.1 rfl (lv_room (Nat.le_of_ble_eq_true rfl)) dX12_function_3 ⟨Nat.le_of_ble_eq_true rfl, Nat.le_of_ble_eq_true rfl⟩) hS (fun q _ h => hFc q h) hFc (fun r3 u t H1 locs ht hvm hw hB hz1 hk1 hS => ?_)
  obtain ⟨hP1, hK1, hD1⟩ := hB
  rw [ht] at hP1
  obtain ⟨hP, hD⟩ := va_join (wr := []) (w1 := [(o, .inr (15, bF f))]) hP hD [0] [] rfl rfl (by decide) (by decide) hk1 hFc hP1 hD1
  generalize H1 = H at hP hS ⊢
  have hP : va_P (dC, dI) vwCl [(o, .inr (15, bF f))] H := hP
  have hD : va_D A [(o, .inr (15, bF f))] := hD
  have er3 : r3 = (th_code 0 v46 k) := hw
  subst er3
  rw [show th_code 0 v46 k = 1 from rfl]
  refine va_put (D := (dC, dI)) (ci := 15) (v := .int 1) (ty := (tyX12 0)) (C := RX12) (T := TX12) (N := 136) hx hb hu iuX12 tyX12 tyX12_ok nmX12 hown hK hP hD hS 0 rfl rfl 0 (by decide) (hu _ mG_2050) (fun _ h9 => h9) rfl (by decide +kernel) (rfl) (rfl) (by rw [bF_len]; decide) dX12_function_6 (fun H locs hP hD hS => ?_)
  rw [show (bF f).set 0 (.int 1) = bF (va_up f 0 (.int 1)) from bF_set (by decide)] at hP hD
  have hP : va_P (dC, dI) vwCl [(o, .inr (15, bF (va_up f 0 (.int 1))))] H := hP
  have hD : va_D A [(o, .inr (15, bF (va_up f 0 (.int 1))))] := hD
  refine lv_aload_n hx hb dX12_function_9 rfl (lv_at hl 0 rfl) ?_
  refine lv_aload_n hx hb dX12_function_10 rfl (lv_at hl 0 rfl) ?_
  refine va_get (D := (dC, dI)) (ci := 15) (v := .int 1) (C := RX12) (T := TX12) (N := 136) hx hb hu iuX12 hown hK hP 0 rfl rfl 0 (by decide) (hu _ mG_2050) (fun _ h9 => h9) ((bF_get (by decide)).trans (congrArg some (rfl))) dX12_function_11 ?_
  refine lv_if_le (tgt := 24) hx hb dX12_function_14 (by decide) (fun c14 => ?_) (fun c14 => ?_)
  · exact absurd c14 (by decide)
  · refine lv_aload_n hx hb dX12_function_17 rfl (lv_at hl 0 rfl) ?_
    refine va_get (D := (dC, dI)) (ci := 15) (v := .int 1) (C := RX12) (T := TX12) (N := 136) hx hb hu iuX12 hown hK hP 0 rfl rfl 0 (by decide) (hu _ mG_2050) (fun _ h9 => h9) ((bF_get (by decide)).trans (congrArg some (rfl))) dX12_function_18 ?_
    refine lv_goto (tgt := 38) hx hb dX12_function_21 (by decide) ?_
    refine va_put (D := (dC, dI)) (ci := 15) (v := .int 1) (ty := (tyX12 0)) (C := RX12) (T := TX12) (N := 136) hx hb hu iuX12 tyX12 tyX12_ok nmX12 hown hK hP hD hS 0 rfl rfl 0 (by decide) (hu _ mG_2050) (fun _ h9 => h9) rfl (by decide +kernel) (rfl) (rfl) (by rw [bF_len]; decide) dX12_function_38 (fun H locs hP hD hS => ?_)
    rw [show (bF (va_up f 0 (.int 1))).set 0 (.int 1) = bF (va_up (va_up f 0 (.int 1)) 0 (.int 1)) from bF_set (by decide)] at hP hD
    have hP : va_P (dC, dI) vwCl [(o, .inr (15, bF (va_up (va_up f 0 (.int 1)) 0 (.int 1))))] H := hP
    have hD : va_D A [(o, .inr (15, bF (va_up (va_up f 0 (.int 1)) 0 (.int 1))))] := hD
    refine lv_aload_n hx hb dX12_function_41 rfl (lv_at hl 0 rfl) ?_
    refine va_get (D := (dC, dI)) (ci := 15) (v := .int 1) (C := RX12) (T := TX12) (N := 136) hx hb hu iuX12 hown hK hP 0 rfl rfl 0 (by decide) (hu _ mG_2050) (fun _ h9 => h9) ((bF_get (by decide)).trans (congrArg some (rfl))) dX12_function_42 ?_
    refine lv_if_le (tgt := 50) hx hb dX12_function_45 (by decide) (fun c45 => ?_) (fun c45 => ?_)
    · exact absurd c45 (by decide)
    · refine lv_iconst (v := 0) hx hb dX12_function_48 (by decide) ?_
      have hP9 : va_P (dC, dI) vwCl [(o, .inr (15, bF (va_up (va_up f 0 (.int 1)) 0 (.int 1))))] H := by exact hP
      have hD9 : va_D A [(o, .inr (15, bF (va_up (va_up f 0 (.int 1)) 0 (.int 1))))] := by exact hD
      have hK9 := hK.sub (tys' := []) [] rfl
      exact W.iret (v := 0) hx hb hr (fun t ht hW => ⟨⟨0, (), rfl, rfl, by rw [ht]; exact hP9, va_K.moved hW.alike hK9, hD9⟩, hS.F ht⟩) hS.2.2 dX12_function_49
set_option maxHeartbeats 4000000 in
set_option maxRecDepth 100000 in
/-- X12_bit_0 -/
theorem kX12_bit_0 (l : Launch) (dC : Nat → ClassId) (dI : Nat → Nat → Nat) (sz : Nat) (o : Nat) (f : Nat → Value) (v46 : Int32)  (k : Int32) (w : Int32) (h46 : f 46 = .int v46) (h88 : f 88 = .int 0)  : Met l yX12_bit (Cond.code yX12_bit cX12_bit 3 (some .int) :: uG) ({ frames := 1, cells := 0, slots := 0, locals := 21 }) (va_Pc [.ref o, .int k, .int w] (fun U => U.heap.size = sz ∧ va_P (dC, dI) vwCl [(o, .inr (15, bF f))] U.heap ∧ va_K (dC, dI) vwCl [] U ∧ va_D (fun _ => True) [(o, .inr (15, bF f))])) (va_Qi (S := Unit) (fun r _ => r = (0)) (fun _ t => va_P (dC, dI) vwCl [(o, .inr (15, bF (va_up (va_up f 0 (.int 1)) 0 (.int 1))))] t.heap ∧ va_K (dC, dI) vwCl [] t ∧ va_D (va_A [(o, .inr (15, bF f))] sz) [(o, .inr (15, bF (va_up (va_up f 0 (.int 1)) 0 (.int 1))))]) (va_A [(o, .inr (15, bF f))] sz)) 0 0 (va_A [(o, .inr (15, bF f))] sz) := by
  refine Met.ofW (cc := cX12_bit) (maxL := 3) (ret := (some .int)) (by decide) rfl ?_
  intro pG eV s m args below meth c s₁ B hml hv
  obtain ⟨rfl, hsz, hP, hK, hD0⟩ := hv
  have hx := B.exec
  have hb := B.bytes
  have hr := B.returns
  have hts := atoms_spec (ws := Cond.code yX12_bit cX12_bit 3 (some .int) :: uG) B.pre
  have hu := fun (w : Cond) (h : w ∈ uG) => hts w (List.mem_cons_of_mem _ h)
  have hown : s.vm.findClass RX12 = some m.cls := findClass_of_methodNamed B.named
  have hlocks := B.notSynchronized
  subst hsz
  have hD := hD0.self (sz := s.heap.size)
  generalize hAe : va_A [(o, .inr (15, bF f))] s.heap.size = A at hD ⊢
  have hA : ∀ q : Nat, s.heap.size ≤ q → A q := fun q h => by rw [← hAe]; exact Or.inr h
  have hS : va_S A s.heap s.heap [] := va_S.rf
  have hP : va_P (dC, dI) vwCl [(o, .inr (15, bF f))] s.heap := hP
  have hD : va_D A [(o, .inr (15, bF f))] := hD
  have hl := lv_entry ([.ref o, .int k, .int w]) (n := 3) (Nat.le_of_ble_eq_true rfl)
  rw [lg_entry_eq]
  generalize (lg_sl ([.ref o, .int k, .int w]) ++ List.replicate (3 - (lg_sl ([.ref o, .int k, .int w])).length) Slot.unset).toArray = ls at hl ⊢
  have hl : lv_has ls 3 [(0, .ref o), (1, .int k), (2, .int w)] := hl
  refine lv_aload_n hx hb dX12_bit_0 rfl (lv_at hl 0 rfl) ?_
  refine lv_aload_n hx hb dX12_bit_1 rfl (lv_at hl 0 rfl) ?_
  refine lv_iload_n hx hb dX12_bit_2 rfl (lv_at hl 1 rfl) ?_
  have hPc := hP.sub (ws' := [(o, .inr (15, bF f))]) [0] rfl
  have hDc := hD.sub (ws' := [(o, .inr (15, bF f))]) [0] (by decide) rfl
  have hKc := hK.sub (tys' := []) [] rfl
  have hFc := va_free (wc := [(o, .inr (15, bF f))]) hD hS hA [0] rfl
  refine va_calli (va_runV (As := [.int k]) (rest := [.ref o]) ⟨hx, hb, hml, hown, hu⟩ (kX12_codeOf l dC dI s.heap.size o f 0 v46 k (h88) (h46)) (cwV 1 hu (uG_V (fun _ h => h) mG_2970 mG_2967 mG_2969 mG_212 mG_226) rfl rfl rfl (by decide +kernel) ⟨Nat.le_of_ble_eq_true rfl, Nat.le_of_ble_eq_true rfl⟩) ⟨fun a U g mk q => by obtain ⟨q0, q1, qP, qK, qD⟩ := q; exact ⟨q0, q1, qP, va_K.moved (u := U) (U := U.calling g mk a) (Vm.Alike.refl U.vm) qK, qD⟩, va_recv hKc hPc (ci := 15) (q0 := 0) rfl rfl, fun U hU hW => ⟨rfl, by rw [hU], by rw [hU]; exact hPc, va_K.moved hW.alike hKc, hDc.weaken (fun _ _ _ _ => trivial)⟩⟩ rfl rfl hl.1 rfl (lv_room (Nat.le_of_ble_eq_true rfl)) dX12_bit_3 ⟨Nat.le_of_ble_eq_true rfl, Nat.le_of_ble_eq_true rfl⟩) hS (fun q _ h => hFc q h) hFc (fun r3 u t H1 locs ht hvm hw hB hz1 hk1 hS => ?_)
  obtain ⟨hP1, hK1, hD1⟩ := hB
  rw [ht] at hP1
  obtain ⟨hP, hD⟩ := va_join (wr := []) (w1 := [(o, .inr (15, bF f))]) hP hD [0] [] rfl rfl (by decide) (by decide) hk1 hFc hP1 hD1
  generalize H1 = H at hP hS ⊢
  have hP : va_P (dC, dI) vwCl [(o, .inr (15, bF f))] H := hP
  have hD : va_D A [(o, .inr (15, bF f))] := hD
  have er3 : r3 = (th_code 0 v46 k) := hw
  subst er3
  rw [show th_code 0 v46 k = 1 from rfl]
  refine va_put (D := (dC, dI)) (ci := 15) (v := .int 1) (ty := (tyX12 0)) (C := RX12) (T := TX12) (N := 136) hx hb hu iuX12 tyX12 tyX12_ok nmX12 hown hK hP hD hS 0 rfl rfl 0 (by decide) (hu _ mG_2050) (fun _ h9 => h9) rfl (by decide +kernel) (rfl) (rfl) (by rw [bF_len]; decide) dX12_bit_6 (fun H locs hP hD hS => ?_)
  rw [show (bF f).set 0 (.int 1) = bF (va_up f 0 (.int 1)) from bF_set (by decide)] at hP hD
  have hP : va_P (dC, dI) vwCl [(o, .inr (15, bF (va_up f 0 (.int 1))))] H := hP
  have hD : va_D A [(o, .inr (15, bF (va_up f 0 (.int 1))))] := hD
  refine lv_aload_n hx hb dX12_bit_9 rfl (lv_at hl 0 rfl) ?_
  refine lv_aload_n hx hb dX12_bit_10 rfl (lv_at hl 0 rfl) ?_
  refine va_get (D := (dC, dI)) (ci := 15) (v := .int 1) (C := RX12) (T := TX12) (N := 136) hx hb hu iuX12 hown hK hP 0 rfl rfl 0 (by decide) (hu _ mG_2050) (fun _ h9 => h9) ((bF_get (by decide)).trans (congrArg some (rfl))) dX12_bit_11 ?_
  refine lv_if_le (tgt := 24) hx hb dX12_bit_14 (by decide) (fun c14 => ?_) (fun c14 => ?_)
  · exact absurd c14 (by decide)
  · refine lv_aload_n hx hb dX12_bit_17 rfl (lv_at hl 0 rfl) ?_
    refine va_get (D := (dC, dI)) (ci := 15) (v := .int 1) (C := RX12) (T := TX12) (N := 136) hx hb hu iuX12 hown hK hP 0 rfl rfl 0 (by decide) (hu _ mG_2050) (fun _ h9 => h9) ((bF_get (by decide)).trans (congrArg some (rfl))) dX12_bit_18 ?_
    refine lv_goto (tgt := 45) hx hb dX12_bit_21 (by decide) ?_
    refine va_put (D := (dC, dI)) (ci := 15) (v := .int 1) (ty := (tyX12 0)) (C := RX12) (T := TX12) (N := 136) hx hb hu iuX12 tyX12 tyX12_ok nmX12 hown hK hP hD hS 0 rfl rfl 0 (by decide) (hu _ mG_2050) (fun _ h9 => h9) rfl (by decide +kernel) (rfl) (rfl) (by rw [bF_len]; decide) dX12_bit_45 (fun H locs hP hD hS => ?_)
    rw [show (bF (va_up f 0 (.int 1))).set 0 (.int 1) = bF (va_up (va_up f 0 (.int 1)) 0 (.int 1)) from bF_set (by decide)] at hP hD
    have hP : va_P (dC, dI) vwCl [(o, .inr (15, bF (va_up (va_up f 0 (.int 1)) 0 (.int 1))))] H := hP
    have hD : va_D A [(o, .inr (15, bF (va_up (va_up f 0 (.int 1)) 0 (.int 1))))] := hD
    refine lv_aload_n hx hb dX12_bit_48 rfl (lv_at hl 0 rfl) ?_
    refine va_get (D := (dC, dI)) (ci := 15) (v := .int 1) (C := RX12) (T := TX12) (N := 136) hx hb hu iuX12 hown hK hP 0 rfl rfl 0 (by decide) (hu _ mG_2050) (fun _ h9 => h9) ((bF_get (by decide)).trans (congrArg some (rfl))) dX12_bit_49 ?_
    refine lv_if_ne (tgt := 68) hx hb dX12_bit_52 (by decide) (fun c52 => ?_) (fun c52 => ?_)
    · refine lv_iconst (v := 0) hx hb dX12_bit_68 (by decide) ?_
      have hP9 : va_P (dC, dI) vwCl [(o, .inr (15, bF (va_up (va_up f 0 (.int 1)) 0 (.int 1))))] H := by exact hP
      have hD9 : va_D A [(o, .inr (15, bF (va_up (va_up f 0 (.int 1)) 0 (.int 1))))] := by exact hD
      have hK9 := hK.sub (tys' := []) [] rfl
      exact W.iret (v := 0) hx hb hr (fun t ht hW => ⟨⟨0, (), rfl, rfl, by rw [ht]; exact hP9, va_K.moved hW.alike hK9, hD9⟩, hS.F ht⟩) hS.2.2 dX12_bit_69
    · exact absurd c52 (by decide)
