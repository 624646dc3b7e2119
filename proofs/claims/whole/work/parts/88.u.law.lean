
theorem mG_213 : Cond.initialized "LazyForgeLaw" ∈ uG := uG_at 213 (by decide +kernel) (by decide +kernel)
theorem mG_764 : Cond.methodLink "LazyForgeLaw" 82 yX11_take ∈ uG := uG_at 764 (by decide +kernel) (by decide +kernel)
theorem mG_765 : Cond.instanceMethod yX11_take ∈ uG := uG_at 765 (by decide +kernel) (by decide +kernel)
theorem mG_766 : Cond.selects "LazyForge" yX11_take yX11_take ∈ uG := uG_at 766 (by decide +kernel) (by decide +kernel)
theorem mG_767 : Cond.code yX11_take prog_1_method_4_code 1 (some .int) ∈ uG := uG_at 767 (by decide +kernel) (by decide +kernel)
theorem mG_780 : Cond.methodLink "LazyForgeLaw" 69 yL_put ∈ uG := uG_at 780 (by decide +kernel) (by decide +kernel)
theorem mG_781 : Cond.static yL_put ∈ uG := uG_at 781 (by decide +kernel) (by decide +kernel)
theorem mG_782 : Cond.codeWith yL_put method_3_code 4 (some .int) [(0, 9, 12, 13), (0, 9, 15, 15)] ∈ uG := uG_at 782 (by decide +kernel) (by decide +kernel)
theorem mG_871 : Cond.methodLink "LazyForgeLaw" 78 yL_end ∈ uG := uG_at 871 (by decide +kernel) (by decide +kernel)
theorem mG_872 : Cond.static yL_end ∈ uG := uG_at 872 (by decide +kernel) (by decide +kernel)
theorem mG_873 : Cond.codeWith yL_end method_4_code 3 (some .int) [(0, 5, 8, 13)] ∈ uG := uG_at 873 (by decide +kernel) (by decide +kernel)
theorem mG_878 : Cond.methodLink "LazyForgeLaw" 86 yL_program ∈ uG := uG_at 878 (by decide +kernel) (by decide +kernel)
theorem mG_879 : Cond.static yL_program ∈ uG := uG_at 879 (by decide +kernel) (by decide +kernel)
theorem mG_880 : Cond.codeWith yL_program method_5_code 3 (some .int) [(0, 8, 11, 15)] ∈ uG := uG_at 880 (by decide +kernel) (by decide +kernel)
theorem mG_1612 : Cond.methodLink "LazyForgeLaw" 90 yL_fault ∈ uG := uG_at 1612 (by decide +kernel) (by decide +kernel)
theorem mG_1613 : Cond.static yL_fault ∈ uG := uG_at 1613 (by decide +kernel) (by decide +kernel)
theorem mG_1614 : Cond.codeWith yL_fault method_6_code 4 (some .int) [(0, 9, 12, 13)] ∈ uG := uG_at 1614 (by decide +kernel) (by decide +kernel)
theorem mG_1619 : Cond.methodLink "LazyForgeLaw" 93 yL_write ∈ uG := uG_at 1619 (by decide +kernel) (by decide +kernel)
theorem mG_1620 : Cond.static yL_write ∈ uG := uG_at 1620 (by decide +kernel) (by decide +kernel)
theorem mG_1621 : Cond.codeWith yL_write method_7_code 3 (some .int) [(0, 8, 11, 31)] ∈ uG := uG_at 1621 (by decide +kernel) (by decide +kernel)
theorem mG_1735 : Cond.methodLink "LazyForgeLaw" 96 yL_letter ∈ uG := uG_at 1735 (by decide +kernel) (by decide +kernel)
theorem mG_1736 : Cond.static yL_letter ∈ uG := uG_at 1736 (by decide +kernel) (by decide +kernel)
theorem mG_1737 : Cond.codeWith yL_letter method_8_code 4 (some .int) [(0, 9, 12, 36)] ∈ uG := uG_at 1737 (by decide +kernel) (by decide +kernel)
theorem mG_1759 : Cond.methodLink "LazyForgeLaw" 99 yL_function ∈ uG := uG_at 1759 (by decide +kernel) (by decide +kernel)
theorem mG_1760 : Cond.static yL_function ∈ uG := uG_at 1760 (by decide +kernel) (by decide +kernel)
theorem mG_1761 : Cond.codeWith yL_function method_9_code 5 (some .int) [(0, 10, 13, 31), (0, 10, 17, 36), (0, 10, 21, 13)] ∈ uG := uG_at 1761 (by decide +kernel) (by decide +kernel)
theorem mG_1770 : Cond.methodLink "LazyForgeLaw" 103 yL_needs ∈ uG := uG_at 1770 (by decide +kernel) (by decide +kernel)
theorem mG_1771 : Cond.static yL_needs ∈ uG := uG_at 1771 (by decide +kernel) (by decide +kernel)
theorem mG_1772 : Cond.codeWith yL_needs method_10_code 5 (some .int) [(0, 17, 20, 31), (0, 17, 24, 36)] ∈ uG := uG_at 1772 (by decide +kernel) (by decide +kernel)
theorem mG_1781 : Cond.methodLink "LazyForgeLaw" 106 yL_bit ∈ uG := uG_at 1781 (by decide +kernel) (by decide +kernel)
theorem mG_1782 : Cond.static yL_bit ∈ uG := uG_at 1782 (by decide +kernel) (by decide +kernel)
theorem mG_1783 : Cond.codeWith yL_bit method_11_code 5 (some .int) [(0, 10, 13, 31), (0, 10, 17, 36), (0, 10, 21, 13)] ∈ uG := uG_at 1783 (by decide +kernel) (by decide +kernel)
theorem mG_1789 : Cond.methodLink "LazyForgeLaw" 109 yL_run ∈ uG := uG_at 1789 (by decide +kernel) (by decide +kernel)
theorem mG_1790 : Cond.static yL_run ∈ uG := uG_at 1790 (by decide +kernel) (by decide +kernel)
theorem mG_1791 : Cond.codeWith yL_run method_12_code 5 (some .int) [(0, 10, 13, 31), (0, 10, 17, 13), (0, 10, 21, 15)] ∈ uG := uG_at 1791 (by decide +kernel) (by decide +kernel)
theorem mG_2012 : Cond.methodLink "LazyForgeLaw" 113 yL_result ∈ uG := uG_at 2012 (by decide +kernel) (by decide +kernel)
theorem mG_2013 : Cond.static yL_result ∈ uG := uG_at 2013 (by decide +kernel) (by decide +kernel)
theorem mG_2014 : Cond.codeWith yL_result method_13_code 4 (some .int) [(0, 9, 12, 13)] ∈ uG := uG_at 2014 (by decide +kernel) (by decide +kernel)
theorem mG_2019 : Cond.methodLink "LazyForgeLaw" 116 yL_number ∈ uG := uG_at 2019 (by decide +kernel) (by decide +kernel)
theorem mG_2020 : Cond.static yL_number ∈ uG := uG_at 2020 (by decide +kernel) (by decide +kernel)
theorem mG_2021 : Cond.codeWith yL_number method_14_code 4 (some .int) [(0, 9, 12, 36)] ∈ uG := uG_at 2021 (by decide +kernel) (by decide +kernel)
theorem mG_2026 : Cond.methodLink "LazyForgeLaw" 119 yL_called ∈ uG := uG_at 2026 (by decide +kernel) (by decide +kernel)
theorem mG_2027 : Cond.static yL_called ∈ uG := uG_at 2027 (by decide +kernel) (by decide +kernel)
theorem mG_2028 : Cond.codeWith yL_called method_15_code 4 (some .int) [(0, 9, 12, 31), (0, 9, 15, 36)] ∈ uG := uG_at 2028 (by decide +kernel) (by decide +kernel)
theorem mG_2033 : Cond.methodLink "LazyForgeLaw" 122 yL_about ∈ uG := uG_at 2033 (by decide +kernel) (by decide +kernel)
theorem mG_2034 : Cond.static yL_about ∈ uG := uG_at 2034 (by decide +kernel) (by decide +kernel)
theorem mG_2035 : Cond.codeWith yL_about method_16_code 4 (some .int) [(0, 9, 12, 13)] ∈ uG := uG_at 2035 (by decide +kernel) (by decide +kernel)
theorem mG_2460 : Cond.methodLink "LazyForgeLaw" 75 yX12_thrown ∈ uG := uG_at 2460 (by decide +kernel) (by decide +kernel)
theorem mG_2461 : Cond.instanceMethod yX12_thrown ∈ uG := uG_at 2461 (by decide +kernel) (by decide +kernel)
theorem mG_2462 : Cond.selects "LazyForgeModel" yX12_thrown yX12_thrown ∈ uG := uG_at 2462 (by decide +kernel) (by decide +kernel)
theorem mG_2463 : Cond.code yX12_thrown prog_14_method_2_code 1 (some .int) ∈ uG := uG_at 2463 (by decide +kernel) (by decide +kernel)
theorem mG_2464 : Cond.methodLink "LazyForgeLaw" 89 yX12_program ∈ uG := uG_at 2464 (by decide +kernel) (by decide +kernel)
theorem mG_2465 : Cond.instanceMethod yX12_program ∈ uG := uG_at 2465 (by decide +kernel) (by decide +kernel)
theorem mG_2466 : Cond.selects "LazyForgeModel" yX12_program yX12_program ∈ uG := uG_at 2466 (by decide +kernel) (by decide +kernel)
theorem mG_2467 : Cond.code yX12_program prog_14_method_80_code 3 (some .int) ∈ uG := uG_at 2467 (by decide +kernel) (by decide +kernel)
theorem mG_2776 : Cond.methodLink "LazyForgeLaw" 112 yX12_run ∈ uG := uG_at 2776 (by decide +kernel) (by decide +kernel)
theorem mG_2777 : Cond.instanceMethod yX12_run ∈ uG := uG_at 2777 (by decide +kernel) (by decide +kernel)
theorem mG_2778 : Cond.selects "LazyForgeModel" yX12_run yX12_run ∈ uG := uG_at 2778 (by decide +kernel) (by decide +kernel)
theorem mG_2779 : Cond.code yX12_run prog_14_method_112_code 5 (some .int) ∈ uG := uG_at 2779 (by decide +kernel) (by decide +kernel)
theorem mG_2899 : Cond.methodLink "LazyForgeLaw" 74 yX12_put ∈ uG := uG_at 2899 (by decide +kernel) (by decide +kernel)
theorem mG_2900 : Cond.instanceMethod yX12_put ∈ uG := uG_at 2900 (by decide +kernel) (by decide +kernel)
theorem mG_2901 : Cond.selects "LazyForgeModel" yX12_put yX12_put ∈ uG := uG_at 2901 (by decide +kernel) (by decide +kernel)
theorem mG_2902 : Cond.code yX12_put prog_14_method_113_code 6 (some .int) ∈ uG := uG_at 2902 (by decide +kernel) (by decide +kernel)
theorem mG_2903 : Cond.methodLink "LazyForgeLaw" 81 yX12_end ∈ uG := uG_at 2903 (by decide +kernel) (by decide +kernel)
theorem mG_2904 : Cond.instanceMethod yX12_end ∈ uG := uG_at 2904 (by decide +kernel) (by decide +kernel)
theorem mG_2905 : Cond.selects "LazyForgeModel" yX12_end yX12_end ∈ uG := uG_at 2905 (by decide +kernel) (by decide +kernel)
theorem mG_2906 : Cond.code yX12_end prog_14_method_114_code 2 none ∈ uG := uG_at 2906 (by decide +kernel) (by decide +kernel)
theorem mG_2907 : Cond.methodLink "LazyForgeLaw" 85 yX12_take ∈ uG := uG_at 2907 (by decide +kernel) (by decide +kernel)
theorem mG_2908 : Cond.instanceMethod yX12_take ∈ uG := uG_at 2908 (by decide +kernel) (by decide +kernel)
theorem mG_2909 : Cond.selects "LazyForgeModel" yX12_take yX12_take ∈ uG := uG_at 2909 (by decide +kernel) (by decide +kernel)
theorem mG_2910 : Cond.code yX12_take prog_14_method_115_code 2 (some .int) ∈ uG := uG_at 2910 (by decide +kernel) (by decide +kernel)
theorem mG_2911 : Cond.methodLink "LazyForgeLaw" 92 yX12_fault ∈ uG := uG_at 2911 (by decide +kernel) (by decide +kernel)
theorem mG_2912 : Cond.instanceMethod yX12_fault ∈ uG := uG_at 2912 (by decide +kernel) (by decide +kernel)
theorem mG_2913 : Cond.selects "LazyForgeModel" yX12_fault yX12_fault ∈ uG := uG_at 2913 (by decide +kernel) (by decide +kernel)
theorem mG_2914 : Cond.code yX12_fault prog_14_method_116_code 2 (some .int) ∈ uG := uG_at 2914 (by decide +kernel) (by decide +kernel)
theorem mG_2915 : Cond.methodLink "LazyForgeLaw" 95 yX12_write ∈ uG := uG_at 2915 (by decide +kernel) (by decide +kernel)
theorem mG_2916 : Cond.instanceMethod yX12_write ∈ uG := uG_at 2916 (by decide +kernel) (by decide +kernel)
theorem mG_2917 : Cond.selects "LazyForgeModel" yX12_write yX12_write ∈ uG := uG_at 2917 (by decide +kernel) (by decide +kernel)
theorem mG_2918 : Cond.code yX12_write prog_14_method_127_code 3 (some .int) ∈ uG := uG_at 2918 (by decide +kernel) (by decide +kernel)
theorem mG_2959 : Cond.methodLink "LazyForgeLaw" 98 yX12_letter ∈ uG := uG_at 2959 (by decide +kernel) (by decide +kernel)
theorem mG_2960 : Cond.instanceMethod yX12_letter ∈ uG := uG_at 2960 (by decide +kernel) (by decide +kernel)
theorem mG_2961 : Cond.selects "LazyForgeModel" yX12_letter yX12_letter ∈ uG := uG_at 2961 (by decide +kernel) (by decide +kernel)
theorem mG_2962 : Cond.code yX12_letter prog_14_method_128_code 2 (some .int) ∈ uG := uG_at 2962 (by decide +kernel) (by decide +kernel)
theorem mG_2963 : Cond.methodLink "LazyForgeLaw" 102 yX12_function ∈ uG := uG_at 2963 (by decide +kernel) (by decide +kernel)
theorem mG_2964 : Cond.instanceMethod yX12_function ∈ uG := uG_at 2964 (by decide +kernel) (by decide +kernel)
theorem mG_2965 : Cond.selects "LazyForgeModel" yX12_function yX12_function ∈ uG := uG_at 2965 (by decide +kernel) (by decide +kernel)
theorem mG_2966 : Cond.code yX12_function prog_14_method_130_code 5 (some .int) ∈ uG := uG_at 2966 (by decide +kernel) (by decide +kernel)
theorem mG_2971 : Cond.methodLink "LazyForgeLaw" 105 yX12_needs ∈ uG := uG_at 2971 (by decide +kernel) (by decide +kernel)
theorem mG_2972 : Cond.instanceMethod yX12_needs ∈ uG := uG_at 2972 (by decide +kernel) (by decide +kernel)
theorem mG_2973 : Cond.selects "LazyForgeModel" yX12_needs yX12_needs ∈ uG := uG_at 2973 (by decide +kernel) (by decide +kernel)
theorem mG_2974 : Cond.code yX12_needs prog_14_method_131_code 3 (some .boolean) ∈ uG := uG_at 2974 (by decide +kernel) (by decide +kernel)
theorem mG_2975 : Cond.methodLink "LazyForgeLaw" 108 yX12_bit ∈ uG := uG_at 2975 (by decide +kernel) (by decide +kernel)
theorem mG_2976 : Cond.instanceMethod yX12_bit ∈ uG := uG_at 2976 (by decide +kernel) (by decide +kernel)
theorem mG_2977 : Cond.selects "LazyForgeModel" yX12_bit yX12_bit ∈ uG := uG_at 2977 (by decide +kernel) (by decide +kernel)
theorem mG_2978 : Cond.code yX12_bit prog_14_method_132_code 3 (some .int) ∈ uG := uG_at 2978 (by decide +kernel) (by decide +kernel)
theorem mG_2979 : Cond.methodLink "LazyForgeLaw" 115 yX12_result ∈ uG := uG_at 2979 (by decide +kernel) (by decide +kernel)
theorem mG_2980 : Cond.instanceMethod yX12_result ∈ uG := uG_at 2980 (by decide +kernel) (by decide +kernel)
theorem mG_2981 : Cond.selects "LazyForgeModel" yX12_result yX12_result ∈ uG := uG_at 2981 (by decide +kernel) (by decide +kernel)
theorem mG_2982 : Cond.code yX12_result prog_14_method_133_code 2 (some .int) ∈ uG := uG_at 2982 (by decide +kernel) (by decide +kernel)
theorem mG_2983 : Cond.methodLink "LazyForgeLaw" 118 yX12_number ∈ uG := uG_at 2983 (by decide +kernel) (by decide +kernel)
theorem mG_2984 : Cond.instanceMethod yX12_number ∈ uG := uG_at 2984 (by decide +kernel) (by decide +kernel)
theorem mG_2985 : Cond.selects "LazyForgeModel" yX12_number yX12_number ∈ uG := uG_at 2985 (by decide +kernel) (by decide +kernel)
theorem mG_2986 : Cond.code yX12_number prog_14_method_134_code 2 (some .int) ∈ uG := uG_at 2986 (by decide +kernel) (by decide +kernel)
theorem mG_2987 : Cond.methodLink "LazyForgeLaw" 121 yX12_called ∈ uG := uG_at 2987 (by decide +kernel) (by decide +kernel)
theorem mG_2988 : Cond.instanceMethod yX12_called ∈ uG := uG_at 2988 (by decide +kernel) (by decide +kernel)
theorem mG_2989 : Cond.selects "LazyForgeModel" yX12_called yX12_called ∈ uG := uG_at 2989 (by decide +kernel) (by decide +kernel)
theorem mG_2990 : Cond.code yX12_called prog_14_method_135_code 2 (some .int) ∈ uG := uG_at 2990 (by decide +kernel) (by decide +kernel)
theorem mG_2991 : Cond.methodLink "LazyForgeLaw" 124 yX12_about ∈ uG := uG_at 2991 (by decide +kernel) (by decide +kernel)
theorem mG_2992 : Cond.instanceMethod yX12_about ∈ uG := uG_at 2992 (by decide +kernel) (by decide +kernel)
theorem mG_2993 : Cond.selects "LazyForgeModel" yX12_about yX12_about ∈ uG := uG_at 2993 (by decide +kernel) (by decide +kernel)
theorem mG_2994 : Cond.code yX12_about prog_14_method_136_code 2 (some .int) ∈ uG := uG_at 2994 (by decide +kernel) (by decide +kernel)
theorem dL_law_0 : decode cL_law 0 = .ok (.new 8, 3) := by decide +kernel
theorem dL_law_3 : decode cL_law 3 = .ok (.dup, 1) := by decide +kernel
theorem dL_law_4 : decode cL_law 4 = .ok (.invokespecial 65, 3) := by decide +kernel
theorem dL_law_7 : decode cL_law 7 = .ok (.astore_n 1, 1) := by decide +kernel
theorem dL_law_8 : decode cL_law 8 = .ok (.new 66, 3) := by decide +kernel
theorem dL_law_11 : decode cL_law 11 = .ok (.dup, 1) := by decide +kernel
theorem dL_law_12 : decode cL_law 12 = .ok (.invokespecial 68, 3) := by decide +kernel
theorem dL_law_15 : decode cL_law 15 = .ok (.astore_n 2, 1) := by decide +kernel
theorem dL_law_16 : decode cL_law 16 = .ok (.iconst 1, 1) := by decide +kernel
theorem dL_law_17 : decode cL_law 17 = .ok (.newarray .long, 2) := by decide +kernel
theorem dL_law_19 : decode cL_law 19 = .ok (.astore_n 3, 1) := by decide +kernel
theorem dL_law_20 : decode cL_law 20 = .ok (.iconst 0, 1) := by decide +kernel
theorem dL_law_21 : decode cL_law 21 = .ok (.istore 4, 2) := by decide +kernel
theorem dL_law_23 : decode cL_law 23 = .ok (.iload 4, 2) := by decide +kernel
theorem dL_law_25 : decode cL_law 25 = .ok (.aload_n 0, 1) := by decide +kernel
theorem dL_law_26 : decode cL_law 26 = .ok (.arraylength, 1) := by decide +kernel
theorem dL_law_27 : decode cL_law 27 = .ok (.iconst 3, 1) := by decide +kernel
theorem dL_law_28 : decode cL_law 28 = .ok (.isub, 1) := by decide +kernel
theorem dL_law_29 : decode cL_law 29 = .ok (.if_icmp .gt 913, 3) := by decide +kernel
theorem dL_law_32 : decode cL_law 32 = .ok (.aload_n 0, 1) := by decide +kernel
theorem dL_law_33 : decode cL_law 33 = .ok (.iload 4, 2) := by decide +kernel
theorem dL_law_35 : decode cL_law 35 = .ok (.iaload, 1) := by decide +kernel
theorem dL_law_36 : decode cL_law 36 = .ok (.bipush 15, 2) := by decide +kernel
theorem dL_law_38 : decode cL_law 38 = .ok (.iand, 1) := by decide +kernel
theorem dL_law_39 : decode cL_law 39 = .ok (.tableswitch 897 0 14 #[73, 129, 165, 178, 222, 278, 322, 378, 446, 521, 589, 673, 729, 785, 841], 73) := by decide +kernel
theorem dL_law_112 : decode cL_law 112 = .ok (.aload_n 1, 1) := by decide +kernel
theorem dL_law_113 : decode cL_law 113 = .ok (.aload_n 0, 1) := by decide +kernel
theorem dL_law_114 : decode cL_law 114 = .ok (.iload 4, 2) := by decide +kernel
theorem dL_law_116 : decode cL_law 116 = .ok (.iconst 1, 1) := by decide +kernel
theorem dL_law_117 : decode cL_law 117 = .ok (.iadd, 1) := by decide +kernel
theorem dL_law_118 : decode cL_law 118 = .ok (.iaload, 1) := by decide +kernel
theorem dL_law_119 : decode cL_law 119 = .ok (.aload_n 3, 1) := by decide +kernel
theorem dL_law_120 : decode cL_law 120 = .ok (.invokestatic 69, 3) := by decide +kernel
theorem dL_law_123 : decode cL_law 123 = .ok (.istore 5, 2) := by decide +kernel
theorem dL_law_125 : decode cL_law 125 = .ok (.aload_n 2, 1) := by decide +kernel
theorem dL_law_126 : decode cL_law 126 = .ok (.aload_n 0, 1) := by decide +kernel
theorem dL_law_127 : decode cL_law 127 = .ok (.iload 4, 2) := by decide +kernel
theorem dL_law_129 : decode cL_law 129 = .ok (.iconst 1, 1) := by decide +kernel
theorem dL_law_130 : decode cL_law 130 = .ok (.iadd, 1) := by decide +kernel
theorem dL_law_131 : decode cL_law 131 = .ok (.iaload, 1) := by decide +kernel
theorem dL_law_132 : decode cL_law 132 = .ok (.invokevirtual 74, 3) := by decide +kernel
theorem dL_law_135 : decode cL_law 135 = .ok (.istore 6, 2) := by decide +kernel
theorem dL_law_137 : decode cL_law 137 = .ok (.aload_n 2, 1) := by decide +kernel
theorem dL_law_138 : decode cL_law 138 = .ok (.invokevirtual 75, 3) := by decide +kernel
theorem dL_law_141 : decode cL_law 141 = .ok (.iload 5, 2) := by decide +kernel
theorem dL_law_143 : decode cL_law 143 = .ok (.if_icmp .eq 5, 3) := by decide +kernel
theorem dL_law_146 : decode cL_law 146 = .ok (.iconst 0, 1) := by decide +kernel
theorem dL_law_147 : decode cL_law 147 = .ok (.ireturn, 1) := by decide +kernel
theorem dL_law_148 : decode cL_law 148 = .ok (.iload 5, 2) := by decide +kernel
theorem dL_law_150 : decode cL_law 150 = .ok (.ifCond .ne 15, 3) := by decide +kernel
theorem dL_law_153 : decode cL_law 153 = .ok (.aload_n 3, 1) := by decide +kernel
theorem dL_law_154 : decode cL_law 154 = .ok (.iconst 0, 1) := by decide +kernel
theorem dL_law_155 : decode cL_law 155 = .ok (.laload, 1) := by decide +kernel
theorem dL_law_156 : decode cL_law 156 = .ok (.iload 6, 2) := by decide +kernel
theorem dL_law_158 : decode cL_law 158 = .ok (.i2l, 1) := by decide +kernel
theorem dL_law_159 : decode cL_law 159 = .ok (.lcmp, 1) := by decide +kernel
theorem dL_law_160 : decode cL_law 160 = .ok (.ifCond .eq 5, 3) := by decide +kernel
theorem dL_law_163 : decode cL_law 163 = .ok (.iconst 0, 1) := by decide +kernel
theorem dL_law_164 : decode cL_law 164 = .ok (.ireturn, 1) := by decide +kernel
theorem dL_law_165 : decode cL_law 165 = .ok (.goto 771, 3) := by decide +kernel
theorem dL_law_168 : decode cL_law 168 = .ok (.aload_n 1, 1) := by decide +kernel
theorem dL_law_169 : decode cL_law 169 = .ok (.aload_n 0, 1) := by decide +kernel
theorem dL_law_170 : decode cL_law 170 = .ok (.iload 4, 2) := by decide +kernel
theorem dL_law_172 : decode cL_law 172 = .ok (.iconst 1, 1) := by decide +kernel
theorem dL_law_173 : decode cL_law 173 = .ok (.iadd, 1) := by decide +kernel
theorem dL_law_174 : decode cL_law 174 = .ok (.iaload, 1) := by decide +kernel
theorem dL_law_175 : decode cL_law 175 = .ok (.invokestatic 78, 3) := by decide +kernel
theorem dL_law_178 : decode cL_law 178 = .ok (.istore 5, 2) := by decide +kernel
theorem dL_law_180 : decode cL_law 180 = .ok (.aload_n 2, 1) := by decide +kernel
theorem dL_law_181 : decode cL_law 181 = .ok (.aload_n 0, 1) := by decide +kernel
theorem dL_law_182 : decode cL_law 182 = .ok (.iload 4, 2) := by decide +kernel
theorem dL_law_184 : decode cL_law 184 = .ok (.iconst 1, 1) := by decide +kernel
theorem dL_law_185 : decode cL_law 185 = .ok (.iadd, 1) := by decide +kernel
theorem dL_law_186 : decode cL_law 186 = .ok (.iaload, 1) := by decide +kernel
theorem dL_law_187 : decode cL_law 187 = .ok (.invokevirtual 81, 3) := by decide +kernel
theorem dL_law_190 : decode cL_law 190 = .ok (.aload_n 2, 1) := by decide +kernel
theorem dL_law_191 : decode cL_law 191 = .ok (.invokevirtual 75, 3) := by decide +kernel
theorem dL_law_194 : decode cL_law 194 = .ok (.iload 5, 2) := by decide +kernel
theorem dL_law_196 : decode cL_law 196 = .ok (.if_icmp .eq 5, 3) := by decide +kernel
theorem dL_law_199 : decode cL_law 199 = .ok (.iconst 0, 1) := by decide +kernel
theorem dL_law_200 : decode cL_law 200 = .ok (.ireturn, 1) := by decide +kernel
theorem dL_law_201 : decode cL_law 201 = .ok (.goto 735, 3) := by decide +kernel
theorem dL_law_204 : decode cL_law 204 = .ok (.aload_n 1, 1) := by decide +kernel
theorem dL_law_205 : decode cL_law 205 = .ok (.invokevirtual 82, 3) := by decide +kernel
theorem dL_law_208 : decode cL_law 208 = .ok (.aload_n 2, 1) := by decide +kernel
theorem dL_law_209 : decode cL_law 209 = .ok (.invokevirtual 85, 3) := by decide +kernel
theorem dL_law_212 : decode cL_law 212 = .ok (.if_icmp .eq 724, 3) := by decide +kernel
theorem dL_law_215 : decode cL_law 215 = .ok (.iconst 0, 1) := by decide +kernel
theorem dL_law_216 : decode cL_law 216 = .ok (.ireturn, 1) := by decide +kernel
theorem dL_law_217 : decode cL_law 217 = .ok (.aload_n 1, 1) := by decide +kernel
theorem dL_law_218 : decode cL_law 218 = .ok (.aload_n 3, 1) := by decide +kernel
theorem dL_law_219 : decode cL_law 219 = .ok (.invokestatic 86, 3) := by decide +kernel
theorem dL_law_222 : decode cL_law 222 = .ok (.istore 5, 2) := by decide +kernel
theorem dL_law_224 : decode cL_law 224 = .ok (.aload_n 2, 1) := by decide +kernel
theorem dL_law_225 : decode cL_law 225 = .ok (.invokevirtual 89, 3) := by decide +kernel
theorem dL_law_228 : decode cL_law 228 = .ok (.istore 6, 2) := by decide +kernel
theorem dL_law_230 : decode cL_law 230 = .ok (.aload_n 2, 1) := by decide +kernel
theorem dL_law_231 : decode cL_law 231 = .ok (.invokevirtual 75, 3) := by decide +kernel
theorem dL_law_234 : decode cL_law 234 = .ok (.iload 5, 2) := by decide +kernel
theorem dL_law_236 : decode cL_law 236 = .ok (.if_icmp .eq 5, 3) := by decide +kernel
theorem dL_law_239 : decode cL_law 239 = .ok (.iconst 0, 1) := by decide +kernel
theorem dL_law_240 : decode cL_law 240 = .ok (.ireturn, 1) := by decide +kernel
theorem dL_law_241 : decode cL_law 241 = .ok (.iload 5, 2) := by decide +kernel
theorem dL_law_243 : decode cL_law 243 = .ok (.ifCond .ne 15, 3) := by decide +kernel
theorem dL_law_246 : decode cL_law 246 = .ok (.aload_n 3, 1) := by decide +kernel
theorem dL_law_247 : decode cL_law 247 = .ok (.iconst 0, 1) := by decide +kernel
theorem dL_law_248 : decode cL_law 248 = .ok (.laload, 1) := by decide +kernel
theorem dL_law_249 : decode cL_law 249 = .ok (.iload 6, 2) := by decide +kernel
theorem dL_law_251 : decode cL_law 251 = .ok (.i2l, 1) := by decide +kernel
theorem dL_law_252 : decode cL_law 252 = .ok (.lcmp, 1) := by decide +kernel
theorem dL_law_253 : decode cL_law 253 = .ok (.ifCond .eq 5, 3) := by decide +kernel
theorem dL_law_256 : decode cL_law 256 = .ok (.iconst 0, 1) := by decide +kernel
theorem dL_law_257 : decode cL_law 257 = .ok (.ireturn, 1) := by decide +kernel
theorem dL_law_258 : decode cL_law 258 = .ok (.goto 678, 3) := by decide +kernel
theorem dL_law_261 : decode cL_law 261 = .ok (.aload_n 1, 1) := by decide +kernel
theorem dL_law_262 : decode cL_law 262 = .ok (.aload_n 0, 1) := by decide +kernel
theorem dL_law_263 : decode cL_law 263 = .ok (.iload 4, 2) := by decide +kernel
theorem dL_law_265 : decode cL_law 265 = .ok (.iconst 1, 1) := by decide +kernel
theorem dL_law_266 : decode cL_law 266 = .ok (.iadd, 1) := by decide +kernel
theorem dL_law_267 : decode cL_law 267 = .ok (.iaload, 1) := by decide +kernel
theorem dL_law_268 : decode cL_law 268 = .ok (.aload_n 3, 1) := by decide +kernel
theorem dL_law_269 : decode cL_law 269 = .ok (.invokestatic 90, 3) := by decide +kernel
theorem dL_law_272 : decode cL_law 272 = .ok (.istore 5, 2) := by decide +kernel
theorem dL_law_274 : decode cL_law 274 = .ok (.aload_n 2, 1) := by decide +kernel
theorem dL_law_275 : decode cL_law 275 = .ok (.aload_n 0, 1) := by decide +kernel
theorem dL_law_276 : decode cL_law 276 = .ok (.iload 4, 2) := by decide +kernel
theorem dL_law_278 : decode cL_law 278 = .ok (.iconst 1, 1) := by decide +kernel
theorem dL_law_279 : decode cL_law 279 = .ok (.iadd, 1) := by decide +kernel
theorem dL_law_280 : decode cL_law 280 = .ok (.iaload, 1) := by decide +kernel
theorem dL_law_281 : decode cL_law 281 = .ok (.invokevirtual 92, 3) := by decide +kernel
theorem dL_law_284 : decode cL_law 284 = .ok (.istore 6, 2) := by decide +kernel
theorem dL_law_286 : decode cL_law 286 = .ok (.aload_n 2, 1) := by decide +kernel
theorem dL_law_287 : decode cL_law 287 = .ok (.invokevirtual 75, 3) := by decide +kernel
theorem dL_law_290 : decode cL_law 290 = .ok (.iload 5, 2) := by decide +kernel
theorem dL_law_292 : decode cL_law 292 = .ok (.if_icmp .eq 5, 3) := by decide +kernel
theorem dL_law_295 : decode cL_law 295 = .ok (.iconst 0, 1) := by decide +kernel
theorem dL_law_296 : decode cL_law 296 = .ok (.ireturn, 1) := by decide +kernel
theorem dL_law_297 : decode cL_law 297 = .ok (.iload 5, 2) := by decide +kernel
theorem dL_law_299 : decode cL_law 299 = .ok (.ifCond .ne 15, 3) := by decide +kernel
theorem dL_law_302 : decode cL_law 302 = .ok (.aload_n 3, 1) := by decide +kernel
theorem dL_law_303 : decode cL_law 303 = .ok (.iconst 0, 1) := by decide +kernel
theorem dL_law_304 : decode cL_law 304 = .ok (.laload, 1) := by decide +kernel
theorem dL_law_305 : decode cL_law 305 = .ok (.iload 6, 2) := by decide +kernel
theorem dL_law_307 : decode cL_law 307 = .ok (.i2l, 1) := by decide +kernel
theorem dL_law_308 : decode cL_law 308 = .ok (.lcmp, 1) := by decide +kernel
theorem dL_law_309 : decode cL_law 309 = .ok (.ifCond .eq 5, 3) := by decide +kernel
theorem dL_law_312 : decode cL_law 312 = .ok (.iconst 0, 1) := by decide +kernel
theorem dL_law_313 : decode cL_law 313 = .ok (.ireturn, 1) := by decide +kernel
theorem dL_law_314 : decode cL_law 314 = .ok (.goto 622, 3) := by decide +kernel
theorem dL_law_317 : decode cL_law 317 = .ok (.aload_n 1, 1) := by decide +kernel
theorem dL_law_318 : decode cL_law 318 = .ok (.aload_n 3, 1) := by decide +kernel
theorem dL_law_319 : decode cL_law 319 = .ok (.invokestatic 93, 3) := by decide +kernel
theorem dL_law_322 : decode cL_law 322 = .ok (.istore 5, 2) := by decide +kernel
theorem dL_law_324 : decode cL_law 324 = .ok (.aload_n 2, 1) := by decide +kernel
theorem dL_law_325 : decode cL_law 325 = .ok (.invokevirtual 95, 3) := by decide +kernel
theorem dL_law_328 : decode cL_law 328 = .ok (.istore 6, 2) := by decide +kernel
theorem dL_law_330 : decode cL_law 330 = .ok (.aload_n 2, 1) := by decide +kernel
theorem dL_law_331 : decode cL_law 331 = .ok (.invokevirtual 75, 3) := by decide +kernel
theorem dL_law_334 : decode cL_law 334 = .ok (.iload 5, 2) := by decide +kernel
theorem dL_law_336 : decode cL_law 336 = .ok (.if_icmp .eq 5, 3) := by decide +kernel
theorem dL_law_339 : decode cL_law 339 = .ok (.iconst 0, 1) := by decide +kernel
theorem dL_law_340 : decode cL_law 340 = .ok (.ireturn, 1) := by decide +kernel
theorem dL_law_341 : decode cL_law 341 = .ok (.iload 5, 2) := by decide +kernel
theorem dL_law_343 : decode cL_law 343 = .ok (.ifCond .ne 15, 3) := by decide +kernel
theorem dL_law_346 : decode cL_law 346 = .ok (.aload_n 3, 1) := by decide +kernel
theorem dL_law_347 : decode cL_law 347 = .ok (.iconst 0, 1) := by decide +kernel
theorem dL_law_348 : decode cL_law 348 = .ok (.laload, 1) := by decide +kernel
theorem dL_law_349 : decode cL_law 349 = .ok (.iload 6, 2) := by decide +kernel
theorem dL_law_351 : decode cL_law 351 = .ok (.i2l, 1) := by decide +kernel
theorem dL_law_352 : decode cL_law 352 = .ok (.lcmp, 1) := by decide +kernel
theorem dL_law_353 : decode cL_law 353 = .ok (.ifCond .eq 5, 3) := by decide +kernel
theorem dL_law_356 : decode cL_law 356 = .ok (.iconst 0, 1) := by decide +kernel
theorem dL_law_357 : decode cL_law 357 = .ok (.ireturn, 1) := by decide +kernel
theorem dL_law_358 : decode cL_law 358 = .ok (.goto 578, 3) := by decide +kernel
theorem dL_law_361 : decode cL_law 361 = .ok (.aload_n 1, 1) := by decide +kernel
theorem dL_law_362 : decode cL_law 362 = .ok (.aload_n 0, 1) := by decide +kernel
theorem dL_law_363 : decode cL_law 363 = .ok (.iload 4, 2) := by decide +kernel
theorem dL_law_365 : decode cL_law 365 = .ok (.iconst 1, 1) := by decide +kernel
theorem dL_law_366 : decode cL_law 366 = .ok (.iadd, 1) := by decide +kernel
theorem dL_law_367 : decode cL_law 367 = .ok (.iaload, 1) := by decide +kernel
theorem dL_law_368 : decode cL_law 368 = .ok (.aload_n 3, 1) := by decide +kernel
theorem dL_law_369 : decode cL_law 369 = .ok (.invokestatic 96, 3) := by decide +kernel
theorem dL_law_372 : decode cL_law 372 = .ok (.istore 5, 2) := by decide +kernel
theorem dL_law_374 : decode cL_law 374 = .ok (.aload_n 2, 1) := by decide +kernel
theorem dL_law_375 : decode cL_law 375 = .ok (.aload_n 0, 1) := by decide +kernel
theorem dL_law_376 : decode cL_law 376 = .ok (.iload 4, 2) := by decide +kernel
theorem dL_law_378 : decode cL_law 378 = .ok (.iconst 1, 1) := by decide +kernel
theorem dL_law_379 : decode cL_law 379 = .ok (.iadd, 1) := by decide +kernel
theorem dL_law_380 : decode cL_law 380 = .ok (.iaload, 1) := by decide +kernel
theorem dL_law_381 : decode cL_law 381 = .ok (.invokevirtual 98, 3) := by decide +kernel
theorem dL_law_384 : decode cL_law 384 = .ok (.istore 6, 2) := by decide +kernel
theorem dL_law_386 : decode cL_law 386 = .ok (.aload_n 2, 1) := by decide +kernel
theorem dL_law_387 : decode cL_law 387 = .ok (.invokevirtual 75, 3) := by decide +kernel
theorem dL_law_390 : decode cL_law 390 = .ok (.iload 5, 2) := by decide +kernel
theorem dL_law_392 : decode cL_law 392 = .ok (.if_icmp .eq 5, 3) := by decide +kernel
theorem dL_law_395 : decode cL_law 395 = .ok (.iconst 0, 1) := by decide +kernel
theorem dL_law_396 : decode cL_law 396 = .ok (.ireturn, 1) := by decide +kernel
theorem dL_law_397 : decode cL_law 397 = .ok (.iload 5, 2) := by decide +kernel
theorem dL_law_399 : decode cL_law 399 = .ok (.ifCond .ne 15, 3) := by decide +kernel
theorem dL_law_402 : decode cL_law 402 = .ok (.aload_n 3, 1) := by decide +kernel
theorem dL_law_403 : decode cL_law 403 = .ok (.iconst 0, 1) := by decide +kernel
theorem dL_law_404 : decode cL_law 404 = .ok (.laload, 1) := by decide +kernel
theorem dL_law_405 : decode cL_law 405 = .ok (.iload 6, 2) := by decide +kernel
theorem dL_law_407 : decode cL_law 407 = .ok (.i2l, 1) := by decide +kernel
theorem dL_law_408 : decode cL_law 408 = .ok (.lcmp, 1) := by decide +kernel
theorem dL_law_409 : decode cL_law 409 = .ok (.ifCond .eq 5, 3) := by decide +kernel
theorem dL_law_412 : decode cL_law 412 = .ok (.iconst 0, 1) := by decide +kernel
theorem dL_law_413 : decode cL_law 413 = .ok (.ireturn, 1) := by decide +kernel
theorem dL_law_414 : decode cL_law 414 = .ok (.goto 522, 3) := by decide +kernel
theorem dL_law_417 : decode cL_law 417 = .ok (.aload_n 1, 1) := by decide +kernel
theorem dL_law_418 : decode cL_law 418 = .ok (.aload_n 0, 1) := by decide +kernel
theorem dL_law_419 : decode cL_law 419 = .ok (.iload 4, 2) := by decide +kernel
theorem dL_law_421 : decode cL_law 421 = .ok (.iconst 1, 1) := by decide +kernel
theorem dL_law_422 : decode cL_law 422 = .ok (.iadd, 1) := by decide +kernel
theorem dL_law_423 : decode cL_law 423 = .ok (.iaload, 1) := by decide +kernel
theorem dL_law_424 : decode cL_law 424 = .ok (.aload_n 0, 1) := by decide +kernel
theorem dL_law_425 : decode cL_law 425 = .ok (.iload 4, 2) := by decide +kernel
theorem dL_law_427 : decode cL_law 427 = .ok (.iconst 2, 1) := by decide +kernel
theorem dL_law_428 : decode cL_law 428 = .ok (.iadd, 1) := by decide +kernel
theorem dL_law_429 : decode cL_law 429 = .ok (.iaload, 1) := by decide +kernel
theorem dL_law_430 : decode cL_law 430 = .ok (.aload_n 3, 1) := by decide +kernel
theorem dL_law_431 : decode cL_law 431 = .ok (.invokestatic 99, 3) := by decide +kernel
theorem dL_law_434 : decode cL_law 434 = .ok (.istore 5, 2) := by decide +kernel
theorem dL_law_436 : decode cL_law 436 = .ok (.aload_n 2, 1) := by decide +kernel
theorem dL_law_437 : decode cL_law 437 = .ok (.aload_n 0, 1) := by decide +kernel
theorem dL_law_438 : decode cL_law 438 = .ok (.iload 4, 2) := by decide +kernel
theorem dL_law_440 : decode cL_law 440 = .ok (.iconst 1, 1) := by decide +kernel
theorem dL_law_441 : decode cL_law 441 = .ok (.iadd, 1) := by decide +kernel
theorem dL_law_442 : decode cL_law 442 = .ok (.iaload, 1) := by decide +kernel
theorem dL_law_443 : decode cL_law 443 = .ok (.aload_n 0, 1) := by decide +kernel
theorem dL_law_444 : decode cL_law 444 = .ok (.iload 4, 2) := by decide +kernel
theorem dL_law_446 : decode cL_law 446 = .ok (.iconst 2, 1) := by decide +kernel
theorem dL_law_447 : decode cL_law 447 = .ok (.iadd, 1) := by decide +kernel
theorem dL_law_448 : decode cL_law 448 = .ok (.iaload, 1) := by decide +kernel
theorem dL_law_449 : decode cL_law 449 = .ok (.invokevirtual 102, 3) := by decide +kernel
theorem dL_law_452 : decode cL_law 452 = .ok (.istore 6, 2) := by decide +kernel
theorem dL_law_454 : decode cL_law 454 = .ok (.aload_n 2, 1) := by decide +kernel
theorem dL_law_455 : decode cL_law 455 = .ok (.invokevirtual 75, 3) := by decide +kernel
theorem dL_law_458 : decode cL_law 458 = .ok (.iload 5, 2) := by decide +kernel
theorem dL_law_460 : decode cL_law 460 = .ok (.if_icmp .eq 5, 3) := by decide +kernel
theorem dL_law_463 : decode cL_law 463 = .ok (.iconst 0, 1) := by decide +kernel
theorem dL_law_464 : decode cL_law 464 = .ok (.ireturn, 1) := by decide +kernel
theorem dL_law_465 : decode cL_law 465 = .ok (.iload 5, 2) := by decide +kernel
theorem dL_law_467 : decode cL_law 467 = .ok (.ifCond .ne 15, 3) := by decide +kernel
theorem dL_law_470 : decode cL_law 470 = .ok (.aload_n 3, 1) := by decide +kernel
theorem dL_law_471 : decode cL_law 471 = .ok (.iconst 0, 1) := by decide +kernel
theorem dL_law_472 : decode cL_law 472 = .ok (.laload, 1) := by decide +kernel
theorem dL_law_473 : decode cL_law 473 = .ok (.iload 6, 2) := by decide +kernel
theorem dL_law_475 : decode cL_law 475 = .ok (.i2l, 1) := by decide +kernel
theorem dL_law_476 : decode cL_law 476 = .ok (.lcmp, 1) := by decide +kernel
theorem dL_law_477 : decode cL_law 477 = .ok (.ifCond .eq 5, 3) := by decide +kernel
theorem dL_law_480 : decode cL_law 480 = .ok (.iconst 0, 1) := by decide +kernel
theorem dL_law_481 : decode cL_law 481 = .ok (.ireturn, 1) := by decide +kernel
theorem dL_law_482 : decode cL_law 482 = .ok (.goto 454, 3) := by decide +kernel
theorem dL_law_485 : decode cL_law 485 = .ok (.aload_n 1, 1) := by decide +kernel
theorem dL_law_486 : decode cL_law 486 = .ok (.aload_n 0, 1) := by decide +kernel
theorem dL_law_487 : decode cL_law 487 = .ok (.iload 4, 2) := by decide +kernel
theorem dL_law_489 : decode cL_law 489 = .ok (.iconst 1, 1) := by decide +kernel
theorem dL_law_490 : decode cL_law 490 = .ok (.iadd, 1) := by decide +kernel
theorem dL_law_491 : decode cL_law 491 = .ok (.iaload, 1) := by decide +kernel
theorem dL_law_492 : decode cL_law 492 = .ok (.aload_n 0, 1) := by decide +kernel
theorem dL_law_493 : decode cL_law 493 = .ok (.iload 4, 2) := by decide +kernel
theorem dL_law_495 : decode cL_law 495 = .ok (.iconst 2, 1) := by decide +kernel
theorem dL_law_496 : decode cL_law 496 = .ok (.iadd, 1) := by decide +kernel
theorem dL_law_497 : decode cL_law 497 = .ok (.iaload, 1) := by decide +kernel
theorem dL_law_498 : decode cL_law 498 = .ok (.aload_n 3, 1) := by decide +kernel
theorem dL_law_499 : decode cL_law 499 = .ok (.invokestatic 103, 3) := by decide +kernel
theorem dL_law_502 : decode cL_law 502 = .ok (.istore 5, 2) := by decide +kernel
theorem dL_law_504 : decode cL_law 504 = .ok (.aload_n 2, 1) := by decide +kernel
theorem dL_law_505 : decode cL_law 505 = .ok (.aload_n 0, 1) := by decide +kernel
theorem dL_law_506 : decode cL_law 506 = .ok (.iload 4, 2) := by decide +kernel
theorem dL_law_508 : decode cL_law 508 = .ok (.iconst 1, 1) := by decide +kernel
theorem dL_law_509 : decode cL_law 509 = .ok (.iadd, 1) := by decide +kernel
theorem dL_law_510 : decode cL_law 510 = .ok (.iaload, 1) := by decide +kernel
theorem dL_law_511 : decode cL_law 511 = .ok (.aload_n 0, 1) := by decide +kernel
theorem dL_law_512 : decode cL_law 512 = .ok (.iload 4, 2) := by decide +kernel
theorem dL_law_514 : decode cL_law 514 = .ok (.iconst 2, 1) := by decide +kernel
theorem dL_law_515 : decode cL_law 515 = .ok (.iadd, 1) := by decide +kernel
theorem dL_law_516 : decode cL_law 516 = .ok (.iaload, 1) := by decide +kernel
theorem dL_law_517 : decode cL_law 517 = .ok (.invokevirtual 105, 3) := by decide +kernel
theorem dL_law_520 : decode cL_law 520 = .ok (.istore 6, 2) := by decide +kernel
theorem dL_law_522 : decode cL_law 522 = .ok (.aload_n 2, 1) := by decide +kernel
theorem dL_law_523 : decode cL_law 523 = .ok (.invokevirtual 75, 3) := by decide +kernel
theorem dL_law_526 : decode cL_law 526 = .ok (.iload 5, 2) := by decide +kernel
theorem dL_law_528 : decode cL_law 528 = .ok (.if_icmp .eq 5, 3) := by decide +kernel
theorem dL_law_531 : decode cL_law 531 = .ok (.iconst 0, 1) := by decide +kernel
theorem dL_law_532 : decode cL_law 532 = .ok (.ireturn, 1) := by decide +kernel
theorem dL_law_533 : decode cL_law 533 = .ok (.iload 5, 2) := by decide +kernel
theorem dL_law_535 : decode cL_law 535 = .ok (.ifCond .ne 22, 3) := by decide +kernel
theorem dL_law_538 : decode cL_law 538 = .ok (.aload_n 3, 1) := by decide +kernel
theorem dL_law_539 : decode cL_law 539 = .ok (.iconst 0, 1) := by decide +kernel
theorem dL_law_540 : decode cL_law 540 = .ok (.laload, 1) := by decide +kernel
theorem dL_law_541 : decode cL_law 541 = .ok (.iload 6, 2) := by decide +kernel
theorem dL_law_543 : decode cL_law 543 = .ok (.ifCond .eq 7, 3) := by decide +kernel
theorem dL_law_546 : decode cL_law 546 = .ok (.lconst 1, 1) := by decide +kernel
theorem dL_law_547 : decode cL_law 547 = .ok (.goto 4, 3) := by decide +kernel
theorem dL_law_550 : decode cL_law 550 = .ok (.lconst 0, 1) := by decide +kernel
theorem dL_law_551 : decode cL_law 551 = .ok (.lcmp, 1) := by decide +kernel
theorem dL_law_552 : decode cL_law 552 = .ok (.ifCond .eq 5, 3) := by decide +kernel
theorem dL_law_555 : decode cL_law 555 = .ok (.iconst 0, 1) := by decide +kernel
theorem dL_law_556 : decode cL_law 556 = .ok (.ireturn, 1) := by decide +kernel
theorem dL_law_557 : decode cL_law 557 = .ok (.goto 379, 3) := by decide +kernel
theorem dL_law_560 : decode cL_law 560 = .ok (.aload_n 1, 1) := by decide +kernel
theorem dL_law_561 : decode cL_law 561 = .ok (.aload_n 0, 1) := by decide +kernel
theorem dL_law_562 : decode cL_law 562 = .ok (.iload 4, 2) := by decide +kernel
theorem dL_law_564 : decode cL_law 564 = .ok (.iconst 1, 1) := by decide +kernel
theorem dL_law_565 : decode cL_law 565 = .ok (.iadd, 1) := by decide +kernel
theorem dL_law_566 : decode cL_law 566 = .ok (.iaload, 1) := by decide +kernel
theorem dL_law_567 : decode cL_law 567 = .ok (.aload_n 0, 1) := by decide +kernel
theorem dL_law_568 : decode cL_law 568 = .ok (.iload 4, 2) := by decide +kernel
theorem dL_law_570 : decode cL_law 570 = .ok (.iconst 2, 1) := by decide +kernel
theorem dL_law_571 : decode cL_law 571 = .ok (.iadd, 1) := by decide +kernel
theorem dL_law_572 : decode cL_law 572 = .ok (.iaload, 1) := by decide +kernel
theorem dL_law_573 : decode cL_law 573 = .ok (.aload_n 3, 1) := by decide +kernel
theorem dL_law_574 : decode cL_law 574 = .ok (.invokestatic 106, 3) := by decide +kernel
theorem dL_law_577 : decode cL_law 577 = .ok (.istore 5, 2) := by decide +kernel
theorem dL_law_579 : decode cL_law 579 = .ok (.aload_n 2, 1) := by decide +kernel
theorem dL_law_580 : decode cL_law 580 = .ok (.aload_n 0, 1) := by decide +kernel
theorem dL_law_581 : decode cL_law 581 = .ok (.iload 4, 2) := by decide +kernel
theorem dL_law_583 : decode cL_law 583 = .ok (.iconst 1, 1) := by decide +kernel
theorem dL_law_584 : decode cL_law 584 = .ok (.iadd, 1) := by decide +kernel
theorem dL_law_585 : decode cL_law 585 = .ok (.iaload, 1) := by decide +kernel
theorem dL_law_586 : decode cL_law 586 = .ok (.aload_n 0, 1) := by decide +kernel
theorem dL_law_587 : decode cL_law 587 = .ok (.iload 4, 2) := by decide +kernel
theorem dL_law_589 : decode cL_law 589 = .ok (.iconst 2, 1) := by decide +kernel
theorem dL_law_590 : decode cL_law 590 = .ok (.iadd, 1) := by decide +kernel
theorem dL_law_591 : decode cL_law 591 = .ok (.iaload, 1) := by decide +kernel
theorem dL_law_592 : decode cL_law 592 = .ok (.invokevirtual 108, 3) := by decide +kernel
theorem dL_law_595 : decode cL_law 595 = .ok (.istore 6, 2) := by decide +kernel
theorem dL_law_597 : decode cL_law 597 = .ok (.aload_n 2, 1) := by decide +kernel
theorem dL_law_598 : decode cL_law 598 = .ok (.invokevirtual 75, 3) := by decide +kernel
theorem dL_law_601 : decode cL_law 601 = .ok (.iload 5, 2) := by decide +kernel
theorem dL_law_603 : decode cL_law 603 = .ok (.if_icmp .eq 5, 3) := by decide +kernel
theorem dL_law_606 : decode cL_law 606 = .ok (.iconst 0, 1) := by decide +kernel
theorem dL_law_607 : decode cL_law 607 = .ok (.ireturn, 1) := by decide +kernel
theorem dL_law_608 : decode cL_law 608 = .ok (.iload 5, 2) := by decide +kernel
theorem dL_law_610 : decode cL_law 610 = .ok (.ifCond .ne 15, 3) := by decide +kernel
theorem dL_law_613 : decode cL_law 613 = .ok (.aload_n 3, 1) := by decide +kernel
theorem dL_law_614 : decode cL_law 614 = .ok (.iconst 0, 1) := by decide +kernel
theorem dL_law_615 : decode cL_law 615 = .ok (.laload, 1) := by decide +kernel
theorem dL_law_616 : decode cL_law 616 = .ok (.iload 6, 2) := by decide +kernel
theorem dL_law_618 : decode cL_law 618 = .ok (.i2l, 1) := by decide +kernel
theorem dL_law_619 : decode cL_law 619 = .ok (.lcmp, 1) := by decide +kernel
theorem dL_law_620 : decode cL_law 620 = .ok (.ifCond .eq 5, 3) := by decide +kernel
theorem dL_law_623 : decode cL_law 623 = .ok (.iconst 0, 1) := by decide +kernel
theorem dL_law_624 : decode cL_law 624 = .ok (.ireturn, 1) := by decide +kernel
theorem dL_law_625 : decode cL_law 625 = .ok (.goto 311, 3) := by decide +kernel
theorem dL_law_628 : decode cL_law 628 = .ok (.aload_n 1, 1) := by decide +kernel
theorem dL_law_629 : decode cL_law 629 = .ok (.aload_n 0, 1) := by decide +kernel
theorem dL_law_630 : decode cL_law 630 = .ok (.iload 4, 2) := by decide +kernel
theorem dL_law_632 : decode cL_law 632 = .ok (.iconst 1, 1) := by decide +kernel
theorem dL_law_633 : decode cL_law 633 = .ok (.iadd, 1) := by decide +kernel
theorem dL_law_634 : decode cL_law 634 = .ok (.iaload, 1) := by decide +kernel
theorem dL_law_635 : decode cL_law 635 = .ok (.ifCond .eq 7, 3) := by decide +kernel
theorem dL_law_638 : decode cL_law 638 = .ok (.iconst 1, 1) := by decide +kernel
theorem dL_law_639 : decode cL_law 639 = .ok (.goto 4, 3) := by decide +kernel
theorem dL_law_642 : decode cL_law 642 = .ok (.iconst 0, 1) := by decide +kernel
theorem dL_law_643 : decode cL_law 643 = .ok (.aload_n 0, 1) := by decide +kernel
theorem dL_law_644 : decode cL_law 644 = .ok (.iload 4, 2) := by decide +kernel
theorem dL_law_646 : decode cL_law 646 = .ok (.iconst 2, 1) := by decide +kernel
theorem dL_law_647 : decode cL_law 647 = .ok (.iadd, 1) := by decide +kernel
theorem dL_law_648 : decode cL_law 648 = .ok (.iaload, 1) := by decide +kernel
theorem dL_law_649 : decode cL_law 649 = .ok (.aload_n 3, 1) := by decide +kernel
theorem dL_law_650 : decode cL_law 650 = .ok (.invokestatic 109, 3) := by decide +kernel
theorem dL_law_653 : decode cL_law 653 = .ok (.istore 5, 2) := by decide +kernel
theorem dL_law_655 : decode cL_law 655 = .ok (.aload_n 2, 1) := by decide +kernel
theorem dL_law_656 : decode cL_law 656 = .ok (.aload_n 0, 1) := by decide +kernel
theorem dL_law_657 : decode cL_law 657 = .ok (.iload 4, 2) := by decide +kernel
theorem dL_law_659 : decode cL_law 659 = .ok (.iconst 1, 1) := by decide +kernel
theorem dL_law_660 : decode cL_law 660 = .ok (.iadd, 1) := by decide +kernel
theorem dL_law_661 : decode cL_law 661 = .ok (.iaload, 1) := by decide +kernel
theorem dL_law_662 : decode cL_law 662 = .ok (.ifCond .eq 7, 3) := by decide +kernel
theorem dL_law_665 : decode cL_law 665 = .ok (.iconst 1, 1) := by decide +kernel
theorem dL_law_666 : decode cL_law 666 = .ok (.goto 4, 3) := by decide +kernel
theorem dL_law_669 : decode cL_law 669 = .ok (.iconst 0, 1) := by decide +kernel
theorem dL_law_670 : decode cL_law 670 = .ok (.aload_n 0, 1) := by decide +kernel
theorem dL_law_671 : decode cL_law 671 = .ok (.iload 4, 2) := by decide +kernel
theorem dL_law_673 : decode cL_law 673 = .ok (.iconst 2, 1) := by decide +kernel
theorem dL_law_674 : decode cL_law 674 = .ok (.iadd, 1) := by decide +kernel
theorem dL_law_675 : decode cL_law 675 = .ok (.iaload, 1) := by decide +kernel
theorem dL_law_676 : decode cL_law 676 = .ok (.invokevirtual 112, 3) := by decide +kernel
theorem dL_law_679 : decode cL_law 679 = .ok (.istore 6, 2) := by decide +kernel
theorem dL_law_681 : decode cL_law 681 = .ok (.aload_n 2, 1) := by decide +kernel
theorem dL_law_682 : decode cL_law 682 = .ok (.invokevirtual 75, 3) := by decide +kernel
theorem dL_law_685 : decode cL_law 685 = .ok (.iload 5, 2) := by decide +kernel
theorem dL_law_687 : decode cL_law 687 = .ok (.if_icmp .eq 5, 3) := by decide +kernel
theorem dL_law_690 : decode cL_law 690 = .ok (.iconst 0, 1) := by decide +kernel
theorem dL_law_691 : decode cL_law 691 = .ok (.ireturn, 1) := by decide +kernel
theorem dL_law_692 : decode cL_law 692 = .ok (.iload 5, 2) := by decide +kernel
theorem dL_law_694 : decode cL_law 694 = .ok (.ifCond .ne 15, 3) := by decide +kernel
theorem dL_law_697 : decode cL_law 697 = .ok (.aload_n 3, 1) := by decide +kernel
theorem dL_law_698 : decode cL_law 698 = .ok (.iconst 0, 1) := by decide +kernel
theorem dL_law_699 : decode cL_law 699 = .ok (.laload, 1) := by decide +kernel
theorem dL_law_700 : decode cL_law 700 = .ok (.iload 6, 2) := by decide +kernel
theorem dL_law_702 : decode cL_law 702 = .ok (.i2l, 1) := by decide +kernel
theorem dL_law_703 : decode cL_law 703 = .ok (.lcmp, 1) := by decide +kernel
theorem dL_law_704 : decode cL_law 704 = .ok (.ifCond .eq 5, 3) := by decide +kernel
theorem dL_law_707 : decode cL_law 707 = .ok (.iconst 0, 1) := by decide +kernel
theorem dL_law_708 : decode cL_law 708 = .ok (.ireturn, 1) := by decide +kernel
theorem dL_law_709 : decode cL_law 709 = .ok (.goto 227, 3) := by decide +kernel
theorem dL_law_712 : decode cL_law 712 = .ok (.aload_n 1, 1) := by decide +kernel
theorem dL_law_713 : decode cL_law 713 = .ok (.aload_n 0, 1) := by decide +kernel
theorem dL_law_714 : decode cL_law 714 = .ok (.iload 4, 2) := by decide +kernel
theorem dL_law_716 : decode cL_law 716 = .ok (.iconst 1, 1) := by decide +kernel
theorem dL_law_717 : decode cL_law 717 = .ok (.iadd, 1) := by decide +kernel
theorem dL_law_718 : decode cL_law 718 = .ok (.iaload, 1) := by decide +kernel
theorem dL_law_719 : decode cL_law 719 = .ok (.aload_n 3, 1) := by decide +kernel
theorem dL_law_720 : decode cL_law 720 = .ok (.invokestatic 113, 3) := by decide +kernel
theorem dL_law_723 : decode cL_law 723 = .ok (.istore 5, 2) := by decide +kernel
theorem dL_law_725 : decode cL_law 725 = .ok (.aload_n 2, 1) := by decide +kernel
theorem dL_law_726 : decode cL_law 726 = .ok (.aload_n 0, 1) := by decide +kernel
theorem dL_law_727 : decode cL_law 727 = .ok (.iload 4, 2) := by decide +kernel
theorem dL_law_729 : decode cL_law 729 = .ok (.iconst 1, 1) := by decide +kernel
theorem dL_law_730 : decode cL_law 730 = .ok (.iadd, 1) := by decide +kernel
theorem dL_law_731 : decode cL_law 731 = .ok (.iaload, 1) := by decide +kernel
theorem dL_law_732 : decode cL_law 732 = .ok (.invokevirtual 115, 3) := by decide +kernel
theorem dL_law_735 : decode cL_law 735 = .ok (.istore 6, 2) := by decide +kernel
theorem dL_law_737 : decode cL_law 737 = .ok (.aload_n 2, 1) := by decide +kernel
theorem dL_law_738 : decode cL_law 738 = .ok (.invokevirtual 75, 3) := by decide +kernel
theorem dL_law_741 : decode cL_law 741 = .ok (.iload 5, 2) := by decide +kernel
theorem dL_law_743 : decode cL_law 743 = .ok (.if_icmp .eq 5, 3) := by decide +kernel
theorem dL_law_746 : decode cL_law 746 = .ok (.iconst 0, 1) := by decide +kernel
theorem dL_law_747 : decode cL_law 747 = .ok (.ireturn, 1) := by decide +kernel
theorem dL_law_748 : decode cL_law 748 = .ok (.iload 5, 2) := by decide +kernel
theorem dL_law_750 : decode cL_law 750 = .ok (.ifCond .ne 15, 3) := by decide +kernel
theorem dL_law_753 : decode cL_law 753 = .ok (.aload_n 3, 1) := by decide +kernel
theorem dL_law_754 : decode cL_law 754 = .ok (.iconst 0, 1) := by decide +kernel
theorem dL_law_755 : decode cL_law 755 = .ok (.laload, 1) := by decide +kernel
theorem dL_law_756 : decode cL_law 756 = .ok (.iload 6, 2) := by decide +kernel
theorem dL_law_758 : decode cL_law 758 = .ok (.i2l, 1) := by decide +kernel
theorem dL_law_759 : decode cL_law 759 = .ok (.lcmp, 1) := by decide +kernel
theorem dL_law_760 : decode cL_law 760 = .ok (.ifCond .eq 5, 3) := by decide +kernel
theorem dL_law_763 : decode cL_law 763 = .ok (.iconst 0, 1) := by decide +kernel
theorem dL_law_764 : decode cL_law 764 = .ok (.ireturn, 1) := by decide +kernel
theorem dL_law_765 : decode cL_law 765 = .ok (.goto 171, 3) := by decide +kernel
theorem dL_law_768 : decode cL_law 768 = .ok (.aload_n 1, 1) := by decide +kernel
theorem dL_law_769 : decode cL_law 769 = .ok (.aload_n 0, 1) := by decide +kernel
theorem dL_law_770 : decode cL_law 770 = .ok (.iload 4, 2) := by decide +kernel
theorem dL_law_772 : decode cL_law 772 = .ok (.iconst 1, 1) := by decide +kernel
theorem dL_law_773 : decode cL_law 773 = .ok (.iadd, 1) := by decide +kernel
theorem dL_law_774 : decode cL_law 774 = .ok (.iaload, 1) := by decide +kernel
theorem dL_law_775 : decode cL_law 775 = .ok (.aload_n 3, 1) := by decide +kernel
theorem dL_law_776 : decode cL_law 776 = .ok (.invokestatic 116, 3) := by decide +kernel
theorem dL_law_779 : decode cL_law 779 = .ok (.istore 5, 2) := by decide +kernel
theorem dL_law_781 : decode cL_law 781 = .ok (.aload_n 2, 1) := by decide +kernel
theorem dL_law_782 : decode cL_law 782 = .ok (.aload_n 0, 1) := by decide +kernel
theorem dL_law_783 : decode cL_law 783 = .ok (.iload 4, 2) := by decide +kernel
theorem dL_law_785 : decode cL_law 785 = .ok (.iconst 1, 1) := by decide +kernel
theorem dL_law_786 : decode cL_law 786 = .ok (.iadd, 1) := by decide +kernel
theorem dL_law_787 : decode cL_law 787 = .ok (.iaload, 1) := by decide +kernel
theorem dL_law_788 : decode cL_law 788 = .ok (.invokevirtual 118, 3) := by decide +kernel
theorem dL_law_791 : decode cL_law 791 = .ok (.istore 6, 2) := by decide +kernel
theorem dL_law_793 : decode cL_law 793 = .ok (.aload_n 2, 1) := by decide +kernel
theorem dL_law_794 : decode cL_law 794 = .ok (.invokevirtual 75, 3) := by decide +kernel
theorem dL_law_797 : decode cL_law 797 = .ok (.iload 5, 2) := by decide +kernel
theorem dL_law_799 : decode cL_law 799 = .ok (.if_icmp .eq 5, 3) := by decide +kernel
theorem dL_law_802 : decode cL_law 802 = .ok (.iconst 0, 1) := by decide +kernel
theorem dL_law_803 : decode cL_law 803 = .ok (.ireturn, 1) := by decide +kernel
theorem dL_law_804 : decode cL_law 804 = .ok (.iload 5, 2) := by decide +kernel
theorem dL_law_806 : decode cL_law 806 = .ok (.ifCond .ne 15, 3) := by decide +kernel
theorem dL_law_809 : decode cL_law 809 = .ok (.aload_n 3, 1) := by decide +kernel
theorem dL_law_810 : decode cL_law 810 = .ok (.iconst 0, 1) := by decide +kernel
theorem dL_law_811 : decode cL_law 811 = .ok (.laload, 1) := by decide +kernel
theorem dL_law_812 : decode cL_law 812 = .ok (.iload 6, 2) := by decide +kernel
theorem dL_law_814 : decode cL_law 814 = .ok (.i2l, 1) := by decide +kernel
theorem dL_law_815 : decode cL_law 815 = .ok (.lcmp, 1) := by decide +kernel
theorem dL_law_816 : decode cL_law 816 = .ok (.ifCond .eq 5, 3) := by decide +kernel
theorem dL_law_819 : decode cL_law 819 = .ok (.iconst 0, 1) := by decide +kernel
theorem dL_law_820 : decode cL_law 820 = .ok (.ireturn, 1) := by decide +kernel
theorem dL_law_821 : decode cL_law 821 = .ok (.goto 115, 3) := by decide +kernel
theorem dL_law_824 : decode cL_law 824 = .ok (.aload_n 1, 1) := by decide +kernel
theorem dL_law_825 : decode cL_law 825 = .ok (.aload_n 0, 1) := by decide +kernel
theorem dL_law_826 : decode cL_law 826 = .ok (.iload 4, 2) := by decide +kernel
theorem dL_law_828 : decode cL_law 828 = .ok (.iconst 1, 1) := by decide +kernel
theorem dL_law_829 : decode cL_law 829 = .ok (.iadd, 1) := by decide +kernel
theorem dL_law_830 : decode cL_law 830 = .ok (.iaload, 1) := by decide +kernel
theorem dL_law_831 : decode cL_law 831 = .ok (.aload_n 3, 1) := by decide +kernel
theorem dL_law_832 : decode cL_law 832 = .ok (.invokestatic 119, 3) := by decide +kernel
theorem dL_law_835 : decode cL_law 835 = .ok (.istore 5, 2) := by decide +kernel
theorem dL_law_837 : decode cL_law 837 = .ok (.aload_n 2, 1) := by decide +kernel
theorem dL_law_838 : decode cL_law 838 = .ok (.aload_n 0, 1) := by decide +kernel
theorem dL_law_839 : decode cL_law 839 = .ok (.iload 4, 2) := by decide +kernel
theorem dL_law_841 : decode cL_law 841 = .ok (.iconst 1, 1) := by decide +kernel
theorem dL_law_842 : decode cL_law 842 = .ok (.iadd, 1) := by decide +kernel
theorem dL_law_843 : decode cL_law 843 = .ok (.iaload, 1) := by decide +kernel
theorem dL_law_844 : decode cL_law 844 = .ok (.invokevirtual 121, 3) := by decide +kernel
theorem dL_law_847 : decode cL_law 847 = .ok (.istore 6, 2) := by decide +kernel
theorem dL_law_849 : decode cL_law 849 = .ok (.aload_n 2, 1) := by decide +kernel
theorem dL_law_850 : decode cL_law 850 = .ok (.invokevirtual 75, 3) := by decide +kernel
theorem dL_law_853 : decode cL_law 853 = .ok (.iload 5, 2) := by decide +kernel
theorem dL_law_855 : decode cL_law 855 = .ok (.if_icmp .eq 5, 3) := by decide +kernel
theorem dL_law_858 : decode cL_law 858 = .ok (.iconst 0, 1) := by decide +kernel
theorem dL_law_859 : decode cL_law 859 = .ok (.ireturn, 1) := by decide +kernel
theorem dL_law_860 : decode cL_law 860 = .ok (.iload 5, 2) := by decide +kernel
theorem dL_law_862 : decode cL_law 862 = .ok (.ifCond .ne 15, 3) := by decide +kernel
theorem dL_law_865 : decode cL_law 865 = .ok (.aload_n 3, 1) := by decide +kernel
theorem dL_law_866 : decode cL_law 866 = .ok (.iconst 0, 1) := by decide +kernel
theorem dL_law_867 : decode cL_law 867 = .ok (.laload, 1) := by decide +kernel
theorem dL_law_868 : decode cL_law 868 = .ok (.iload 6, 2) := by decide +kernel
theorem dL_law_870 : decode cL_law 870 = .ok (.i2l, 1) := by decide +kernel
theorem dL_law_871 : decode cL_law 871 = .ok (.lcmp, 1) := by decide +kernel
theorem dL_law_872 : decode cL_law 872 = .ok (.ifCond .eq 5, 3) := by decide +kernel
theorem dL_law_875 : decode cL_law 875 = .ok (.iconst 0, 1) := by decide +kernel
theorem dL_law_876 : decode cL_law 876 = .ok (.ireturn, 1) := by decide +kernel
theorem dL_law_877 : decode cL_law 877 = .ok (.goto 59, 3) := by decide +kernel
theorem dL_law_880 : decode cL_law 880 = .ok (.aload_n 1, 1) := by decide +kernel
theorem dL_law_881 : decode cL_law 881 = .ok (.aload_n 0, 1) := by decide +kernel
theorem dL_law_882 : decode cL_law 882 = .ok (.iload 4, 2) := by decide +kernel
theorem dL_law_884 : decode cL_law 884 = .ok (.iconst 1, 1) := by decide +kernel
theorem dL_law_885 : decode cL_law 885 = .ok (.iadd, 1) := by decide +kernel
theorem dL_law_886 : decode cL_law 886 = .ok (.iaload, 1) := by decide +kernel
theorem dL_law_887 : decode cL_law 887 = .ok (.aload_n 3, 1) := by decide +kernel
theorem dL_law_888 : decode cL_law 888 = .ok (.invokestatic 122, 3) := by decide +kernel
theorem dL_law_891 : decode cL_law 891 = .ok (.istore 5, 2) := by decide +kernel
theorem dL_law_893 : decode cL_law 893 = .ok (.aload_n 2, 1) := by decide +kernel
theorem dL_law_894 : decode cL_law 894 = .ok (.aload_n 0, 1) := by decide +kernel
theorem dL_law_895 : decode cL_law 895 = .ok (.iload 4, 2) := by decide +kernel
theorem dL_law_897 : decode cL_law 897 = .ok (.iconst 1, 1) := by decide +kernel
theorem dL_law_898 : decode cL_law 898 = .ok (.iadd, 1) := by decide +kernel
theorem dL_law_899 : decode cL_law 899 = .ok (.iaload, 1) := by decide +kernel
theorem dL_law_900 : decode cL_law 900 = .ok (.invokevirtual 124, 3) := by decide +kernel
theorem dL_law_903 : decode cL_law 903 = .ok (.istore 6, 2) := by decide +kernel
theorem dL_law_905 : decode cL_law 905 = .ok (.aload_n 2, 1) := by decide +kernel
theorem dL_law_906 : decode cL_law 906 = .ok (.invokevirtual 75, 3) := by decide +kernel
theorem dL_law_909 : decode cL_law 909 = .ok (.iload 5, 2) := by decide +kernel
theorem dL_law_911 : decode cL_law 911 = .ok (.if_icmp .eq 5, 3) := by decide +kernel
theorem dL_law_914 : decode cL_law 914 = .ok (.iconst 0, 1) := by decide +kernel
theorem dL_law_915 : decode cL_law 915 = .ok (.ireturn, 1) := by decide +kernel
theorem dL_law_916 : decode cL_law 916 = .ok (.iload 5, 2) := by decide +kernel
theorem dL_law_918 : decode cL_law 918 = .ok (.ifCond .ne 15, 3) := by decide +kernel
theorem dL_law_921 : decode cL_law 921 = .ok (.aload_n 3, 1) := by decide +kernel
theorem dL_law_922 : decode cL_law 922 = .ok (.iconst 0, 1) := by decide +kernel
theorem dL_law_923 : decode cL_law 923 = .ok (.laload, 1) := by decide +kernel
theorem dL_law_924 : decode cL_law 924 = .ok (.iload 6, 2) := by decide +kernel
theorem dL_law_926 : decode cL_law 926 = .ok (.i2l, 1) := by decide +kernel
theorem dL_law_927 : decode cL_law 927 = .ok (.lcmp, 1) := by decide +kernel
theorem dL_law_928 : decode cL_law 928 = .ok (.ifCond .eq 5, 3) := by decide +kernel
theorem dL_law_931 : decode cL_law 931 = .ok (.iconst 0, 1) := by decide +kernel
theorem dL_law_932 : decode cL_law 932 = .ok (.ireturn, 1) := by decide +kernel
theorem dL_law_933 : decode cL_law 933 = .ok (.goto 3, 3) := by decide +kernel
theorem dL_law_936 : decode cL_law 936 = .ok (.iinc 4 3, 3) := by decide +kernel
theorem dL_law_939 : decode cL_law 939 = .ok (.goto (-916), 3) := by decide +kernel
theorem dL_law_942 : decode cL_law 942 = .ok (.iconst 1, 1) := by decide +kernel
theorem dL_law_943 : decode cL_law 943 = .ok (.ireturn, 1) := by decide +kernel
theorem cw_X11_take : CWV yX11_take cX11_take 1 (some .int) RX11 0 := ⟨mG_767, mG_765, mG_766, mG_214, by decide +kernel⟩
theorem cw_X12_about : CWV yX12_about cX12_about 2 (some .int) RX12 1 := ⟨mG_2994, mG_2992, mG_2993, mG_226, by decide +kernel⟩
theorem cw_X12_bit : CWV yX12_bit cX12_bit 3 (some .int) RX12 2 := ⟨mG_2978, mG_2976, mG_2977, mG_226, by decide +kernel⟩
theorem cw_X12_called : CWV yX12_called cX12_called 2 (some .int) RX12 1 := ⟨mG_2990, mG_2988, mG_2989, mG_226, by decide +kernel⟩
theorem cw_X12_end : CWV yX12_end cX12_end 2 none RX12 1 := ⟨mG_2906, mG_2904, mG_2905, mG_226, by decide +kernel⟩
theorem cw_X12_fault : CWV yX12_fault cX12_fault 2 (some .int) RX12 1 := ⟨mG_2914, mG_2912, mG_2913, mG_226, by decide +kernel⟩
theorem cw_X12_function : CWV yX12_function cX12_function 5 (some .int) RX12 2 := ⟨mG_2966, mG_2964, mG_2965, mG_226, by decide +kernel⟩
theorem cw_X12_letter : CWV yX12_letter cX12_letter 2 (some .int) RX12 1 := ⟨mG_2962, mG_2960, mG_2961, mG_226, by decide +kernel⟩
theorem cw_X12_needs : CWV yX12_needs cX12_needs 3 (some .boolean) RX12 2 := ⟨mG_2974, mG_2972, mG_2973, mG_226, by decide +kernel⟩
theorem cw_X12_number : CWV yX12_number cX12_number 2 (some .int) RX12 1 := ⟨mG_2986, mG_2984, mG_2985, mG_226, by decide +kernel⟩
theorem cw_X12_program : CWV yX12_program cX12_program 3 (some .int) RX12 0 := ⟨mG_2467, mG_2465, mG_2466, mG_226, by decide +kernel⟩
theorem cw_X12_put : CWV yX12_put cX12_put 6 (some .int) RX12 1 := ⟨mG_2902, mG_2900, mG_2901, mG_226, by decide +kernel⟩
theorem cw_X12_result : CWV yX12_result cX12_result 2 (some .int) RX12 1 := ⟨mG_2982, mG_2980, mG_2981, mG_226, by decide +kernel⟩
theorem cw_X12_run : CWV yX12_run cX12_run 5 (some .int) RX12 2 := ⟨mG_2779, mG_2777, mG_2778, mG_226, by decide +kernel⟩
theorem cw_X12_take : CWV yX12_take cX12_take 2 (some .int) RX12 0 := ⟨mG_2910, mG_2908, mG_2909, mG_226, by decide +kernel⟩
theorem cw_X12_thrown : CWV yX12_thrown cX12_thrown 1 (some .int) RX12 0 := ⟨mG_2463, mG_2461, mG_2462, mG_226, by decide +kernel⟩
theorem cw_X12_write : CWV yX12_write cX12_write 3 (some .int) RX12 0 := ⟨mG_2918, mG_2916, mG_2917, mG_226, by decide +kernel⟩
section SEM7
variable {p : Program} {l : Launch} {e : Env} {s : State} {m : MethodId} {args : Array Value} {below : List Frame} {meth : Method} {c : Code} {H : Heap} {locs : List Loc} {cells slots : Nat} {Q : State → Prop} {ls : Array Slot} {dC : Nat → ClassId} {dI : Nat → Nat → Nat} {A : Nat → Prop} {σ τ μ μ1 : S5} {ak am : Nat → Nat} {km : Nat → ClassId} {x q9 b L : Nat} {xs : Nat → Int32} {ad : Nat → Nat} {kc : Nat → ClassId} {sv : Value} {sa va : Nat} {v4 kx rm : Int32} {cv : Int32 × Int32}
set_option maxHeartbeats 4000000 in
set_option maxRecDepth 100000 in
theorem lg_0 (hlt : l.stackTraces = false) (S : CallFix p m c cL_law 7 s args uG RL) (hX : va_X b L xs s s.heap) (hbl : b < s.heap.size) (hbA : ¬ A b) (hi1 : vp_in (v4 + 1) L) (hi2 : vp_in (v4 + 2) L) (h1 : h_L_put ((xs (v4 + 1).toNatClampNeg)) σ = some (kx, τ)) (h2 : f_X12_put ((xs (v4 + 1).toNatClampNeg)) μ = some (rm, μ1)) (ht : gI μ1 0 = kx) (ho : kx = 0 → gB τ 30 (0 : Int32).toNatClampNeg = (rm).toInt64)
    (hc : cells + 1 ≤ room_1.cells ∧ slots + 6 ≤ room_1.slots) (X : gL (dC, dI) x q9 ad kc sv sa va σ am km μ ak A s H locs) (hl : lv_has ls 7 [(0, .ref b), (1, .ref x), (2, .ref (am 0)), (3, .ref q9), (4, .int v4)])
    (cont : ∀ (ad : Nat → Nat) (kc : Nat → ClassId) (sv : Value) (sa va : Nat) (H : Heap) (locs : List Loc) (ls : Array Slot), gL (dC, dI) x q9 ad kc sv sa va τ am km μ1 ak A s H locs → lv_has ls 7 [(0, .ref b), (1, .ref x), (2, .ref (am 0)), (3, .ref q9), (4, .int v4)] → W p l e room_1 s m args below meth c H locs (cells + 1) (slots + 6) Q (F0 m 936 ls [])) : W p l e room_1 s m args below meth c H locs cells slots Q (F0 m 112 ls []) := by
  have hx := S.1
  have hb := S.2.1
  refine lv_aload_n hx hb dL_law_112 rfl (lv_at hl 1 rfl) ?_
  refine lv_aload_n hx hb dL_law_113 rfl (lv_at hl 0 rfl) ?_
  refine lv_iload hx hb dL_law_114 (lv_at hl 4 rfl) ?_
  refine lv_iconst (v := 1) hx hb dL_law_116 (by decide) ?_
  refine lv_iadd hx hb dL_law_117 ?_
  refine va_sld hx hb hX hbl hbA X.2.2.2.1 hi1 dL_law_118 ?_
  refine lv_aload_n hx hb dL_law_119 rfl (lv_at hl 3 rfl) ?_
  refine gl_help (n := 3) (As := [.ref x, .int (xs (v4 + 1).toNatClampNeg), .ref q9]) (rest := []) (m1 := 1) (m2 := 6) S X (k2_L_put l hlt dC dI x q9 ad kc sv sa va h1 H.size) mG_782 mG_781 mG_213 mG_780 (by decide +kernel) rfl rfl hl.1 (Nat.le_of_ble_eq_true rfl) dL_law_120 hc ⟨Nat.le_of_ble_eq_true rfl, Nat.le_of_ble_eq_true rfl⟩ (fun ad kc sv sa va H locs X => ?_)
  refine lv_istore (lv' := [(5, .int kx), (0, .ref b), (1, .ref x), (2, .ref (am 0)), (3, .ref q9), (4, .int v4)]) hx hb dL_law_123 hl (by decide) rfl (fun ls hl => ?_)
  refine lv_aload_n hx hb dL_law_125 rfl (lv_at hl 3 rfl) ?_
  refine lv_aload_n hx hb dL_law_126 rfl (lv_at hl 1 rfl) ?_
  refine lv_iload hx hb dL_law_127 (lv_at hl 5 rfl) ?_
  refine lv_iconst (v := 1) hx hb dL_law_129 (by decide) ?_
  refine lv_iadd hx hb dL_law_130 ?_
  refine va_sld hx hb hX hbl hbA X.2.2.2.1 hi1 dL_law_131 ?_
  refine gl_mi (As := [.int (xs (v4 + 1).toNatClampNeg)]) (rest := []) (ci := 15) S X (k2_X12_put l dC dI am km h2 H.size) cw_X12_put mG_2899 rfl rfl rfl rfl rfl hl.1 (Nat.le_of_ble_eq_true rfl) dL_law_132 ⟨hc.1, hc.2⟩ ⟨Nat.le_of_ble_eq_true rfl, Nat.le_of_ble_eq_true rfl⟩ (fun H locs X => ?_)
  refine lv_istore (lv' := [(6, .int rm), (5, .int kx), (0, .ref b), (1, .ref x), (2, .ref (am 0)), (3, .ref q9), (4, .int v4)]) hx hb dL_law_135 hl (by decide) rfl (fun ls hl => ?_)
  refine lv_aload_n hx hb dL_law_137 rfl (lv_at hl 4 rfl) ?_
  refine gl_mi (As := []) (rest := []) (ci := 15) S X (k2_X12_thrown l dC dI am km (show f_X12_thrown μ1 = some (kx, μ1) from by rw [← ht]; rfl) H.size) cw_X12_thrown mG_2460 rfl rfl rfl rfl rfl hl.1 (Nat.le_of_ble_eq_true rfl) dL_law_138 ⟨hc.1, hc.2⟩ ⟨Nat.le_of_ble_eq_true rfl, Nat.le_of_ble_eq_true rfl⟩ (fun H locs X => ?_)
  refine lv_iload hx hb dL_law_141 (lv_at hl 1 rfl) ?_
  refine lv_icmp_eq (tgt := 148) hx hb dL_law_143 (by decide) (fun c143 => ?_) (fun c143 => ?_)
  · refine lv_iload hx hb dL_law_148 (lv_at hl 1 rfl) ?_
    refine lv_if_ne (tgt := 165) hx hb dL_law_150 (by decide) (fun c150 => ?_) (fun c150 => ?_)
    · refine lv_goto (tgt := 936) hx hb dL_law_165 (by decide) ?_
      exact cont _ _ _ _ _ _ _ _ X (lv_sub hl [2, 3, 4, 5, 6] rfl)
    · have hk0 : kx = 0 := c150
      refine lv_aload_n hx hb dL_law_153 rfl (lv_at hl 5 rfl) ?_
      refine lv_iconst (v := 0) hx hb dL_law_154 (by decide) ?_
      refine va_lald hx hb X.1 X.2.1 3 1 rfl rfl (vp_in_iff.mpr (by decide)) dL_law_155 ?_
      refine lv_iload hx hb dL_law_156 (lv_at hl 0 rfl) ?_
      refine lv_i2l (v := (rm).toInt64) hx hb dL_law_158 rfl ?_
      refine W.lcmp hx hb dL_law_159 ?_
      refine lv_if_eq (tgt := 165) hx hb dL_law_160 (by decide) (fun c160 => ?_) (fun c160 => ?_)
      · refine lv_goto (tgt := 936) hx hb dL_law_165 (by decide) ?_
        exact cont _ _ _ _ _ _ _ _ X (lv_sub hl [2, 3, 4, 5, 6] rfl)
      · exact absurd ((congrArg (fun z => lg_cmp z _) (ho hk0)).trans (lg_self _)) c160
  · exact absurd rfl c143
set_option maxHeartbeats 4000000 in
set_option maxRecDepth 100000 in
theorem lg_1 (hlt : l.stackTraces = false) (S : CallFix p m c cL_law 7 s args uG RL) (hX : va_X b L xs s s.heap) (hbl : b < s.heap.size) (hbA : ¬ A b) (hi1 : vp_in (v4 + 1) L) (hi2 : vp_in (v4 + 2) L) (h1 : h_L_end ((xs (v4 + 1).toNatClampNeg)) σ = some (kx, τ)) (h2 : f_X12_end ((xs (v4 + 1).toNatClampNeg)) μ = some ((), μ1)) (ht : gI μ1 0 = kx)
    (hc : cells + 1 ≤ room_1.cells ∧ slots + 6 ≤ room_1.slots) (X : gL (dC, dI) x q9 ad kc sv sa va σ am km μ ak A s H locs) (hl : lv_has ls 7 [(0, .ref b), (1, .ref x), (2, .ref (am 0)), (3, .ref q9), (4, .int v4)])
    (cont : ∀ (ad : Nat → Nat) (kc : Nat → ClassId) (sv : Value) (sa va : Nat) (H : Heap) (locs : List Loc) (ls : Array Slot), gL (dC, dI) x q9 ad kc sv sa va τ am km μ1 ak A s H locs → lv_has ls 7 [(0, .ref b), (1, .ref x), (2, .ref (am 0)), (3, .ref q9), (4, .int v4)] → W p l e room_1 s m args below meth c H locs (cells + 1) (slots + 6) Q (F0 m 936 ls [])) : W p l e room_1 s m args below meth c H locs cells slots Q (F0 m 168 ls []) := by
  have hx := S.1
  have hb := S.2.1
  refine lv_aload_n hx hb dL_law_168 rfl (lv_at hl 1 rfl) ?_
  refine lv_aload_n hx hb dL_law_169 rfl (lv_at hl 0 rfl) ?_
  refine lv_iload hx hb dL_law_170 (lv_at hl 4 rfl) ?_
  refine lv_iconst (v := 1) hx hb dL_law_172 (by decide) ?_
  refine lv_iadd hx hb dL_law_173 ?_
  refine va_sld hx hb hX hbl hbA X.2.2.2.1 hi1 dL_law_174 ?_
  refine gl_help (n := 2) (As := [.ref x, .int (xs (v4 + 1).toNatClampNeg)]) (rest := []) (m1 := 1) (m2 := 6) S X (k2_L_end l hlt dC dI x q9 ad kc sv sa va h1 H.size) mG_873 mG_872 mG_213 mG_871 (by decide +kernel) rfl rfl hl.1 (Nat.le_of_ble_eq_true rfl) dL_law_175 hc ⟨Nat.le_of_ble_eq_true rfl, Nat.le_of_ble_eq_true rfl⟩ (fun ad kc sv sa va H locs X => ?_)
  refine lv_istore (lv' := [(5, .int kx), (0, .ref b), (1, .ref x), (2, .ref (am 0)), (3, .ref q9), (4, .int v4)]) hx hb dL_law_178 hl (by decide) rfl (fun ls hl => ?_)
  refine lv_aload_n hx hb dL_law_180 rfl (lv_at hl 3 rfl) ?_
  refine lv_aload_n hx hb dL_law_181 rfl (lv_at hl 1 rfl) ?_
  refine lv_iload hx hb dL_law_182 (lv_at hl 5 rfl) ?_
  refine lv_iconst (v := 1) hx hb dL_law_184 (by decide) ?_
  refine lv_iadd hx hb dL_law_185 ?_
  refine va_sld hx hb hX hbl hbA X.2.2.2.1 hi1 dL_law_186 ?_
  refine gl_mv (As := [.int (xs (v4 + 1).toNatClampNeg)]) (rest := []) (ci := 15) S X (k2_X12_end l dC dI am km h2 H.size) cw_X12_end mG_2903 rfl rfl rfl rfl rfl hl.1 (Nat.le_of_ble_eq_true rfl) dL_law_187 ⟨hc.1, hc.2⟩ ⟨Nat.le_of_ble_eq_true rfl, Nat.le_of_ble_eq_true rfl⟩ (fun H locs X => ?_)
  refine lv_aload_n hx hb dL_law_190 rfl (lv_at hl 3 rfl) ?_
  refine gl_mi (As := []) (rest := []) (ci := 15) S X (k2_X12_thrown l dC dI am km (show f_X12_thrown μ1 = some (kx, μ1) from by rw [← ht]; rfl) H.size) cw_X12_thrown mG_2460 rfl rfl rfl rfl rfl hl.1 (Nat.le_of_ble_eq_true rfl) dL_law_191 ⟨hc.1, hc.2⟩ ⟨Nat.le_of_ble_eq_true rfl, Nat.le_of_ble_eq_true rfl⟩ (fun H locs X => ?_)
  refine lv_iload hx hb dL_law_194 (lv_at hl 0 rfl) ?_
  refine lv_icmp_eq (tgt := 201) hx hb dL_law_196 (by decide) (fun c196 => ?_) (fun c196 => ?_)
  · refine lv_goto (tgt := 936) hx hb dL_law_201 (by decide) ?_
    exact cont _ _ _ _ _ _ _ _ X (lv_sub hl [1, 2, 3, 4, 5] rfl)
  · exact absurd rfl c196
set_option maxHeartbeats 4000000 in
set_option maxRecDepth 100000 in
theorem lg_2 (hlt : l.stackTraces = false) (S : CallFix p m c cL_law 7 s args uG RL) (hX : va_X b L xs s s.heap) (hbl : b < s.heap.size) (hbA : ¬ A b) (hi1 : vp_in (v4 + 1) L) (hi2 : vp_in (v4 + 2) L) (hcv : cv.1 = 0) (h1 : f_X11_take σ = some (cv, τ)) (h2 : f_X12_take  μ = some (rm, μ1)) (he : cv.2 = rm)
    (hc : cells + 1 ≤ room_1.cells ∧ slots + 6 ≤ room_1.slots) (X : gL (dC, dI) x q9 ad kc sv sa va σ am km μ ak A s H locs) (hl : lv_has ls 7 [(0, .ref b), (1, .ref x), (2, .ref (am 0)), (3, .ref q9), (4, .int v4)])
    (cont : ∀ (ad : Nat → Nat) (kc : Nat → ClassId) (sv : Value) (sa va : Nat) (H : Heap) (locs : List Loc) (ls : Array Slot), gL (dC, dI) x q9 ad kc sv sa va τ am km μ1 ak A s H locs → lv_has ls 7 [(0, .ref b), (1, .ref x), (2, .ref (am 0)), (3, .ref q9), (4, .int v4)] → W p l e room_1 s m args below meth c H locs (cells + 1) (slots + 6) Q (F0 m 936 ls [])) : W p l e room_1 s m args below meth c H locs cells slots Q (F0 m 204 ls []) := by
  have hx := S.1
  have hb := S.2.1
  refine lv_aload_n hx hb dL_law_204 rfl (lv_at hl 1 rfl) ?_
  refine gl_take (As := []) (rest := []) (ci := 14) (m1 := 1) (m2 := 6) S X hcv (k2_X11_take l hlt dC dI x q9 ad kc sv sa va h1 H.size) cw_X11_take mG_764 rfl rfl rfl rfl rfl hl.1 (Nat.le_of_ble_eq_true rfl) dL_law_205 hc ⟨Nat.le_of_ble_eq_true rfl, Nat.le_of_ble_eq_true rfl⟩ (fun ad kc sv sa va H locs X => ?_)
  refine lv_aload_n hx hb dL_law_208 rfl (lv_at hl 2 rfl) ?_
  refine gl_mi (As := []) (rest := [.int cv.2]) (ci := 15) S X (k2_X12_take l dC dI am km h2 H.size) cw_X12_take mG_2907 rfl rfl rfl rfl rfl hl.1 (Nat.le_of_ble_eq_true rfl) dL_law_209 ⟨hc.1, hc.2⟩ ⟨Nat.le_of_ble_eq_true rfl, Nat.le_of_ble_eq_true rfl⟩ (fun H locs X => ?_)
  refine lv_icmp_eq (tgt := 936) hx hb dL_law_212 (by decide) (fun c212 => ?_) (fun c212 => ?_)
  · exact cont _ _ _ _ _ _ _ _ X (lv_sub hl [0, 1, 2, 3, 4] rfl)
  · exact absurd he c212
set_option maxHeartbeats 4000000 in
set_option maxRecDepth 100000 in
theorem lg_3 (hlt : l.stackTraces = false) (S : CallFix p m c cL_law 7 s args uG RL) (hX : va_X b L xs s s.heap) (hbl : b < s.heap.size) (hbA : ¬ A b) (hi1 : vp_in (v4 + 1) L) (hi2 : vp_in (v4 + 2) L) (h1 : h_L_program  σ = some (kx, τ)) (h2 : f_X12_program  μ = some (rm, μ1)) (ht : gI μ1 0 = kx) (ho : kx = 0 → gB τ 30 (0 : Int32).toNatClampNeg = (rm).toInt64)
    (hc : cells + 1 ≤ room_1.cells ∧ slots + 6 ≤ room_1.slots) (X : gL (dC, dI) x q9 ad kc sv sa va σ am km μ ak A s H locs) (hl : lv_has ls 7 [(0, .ref b), (1, .ref x), (2, .ref (am 0)), (3, .ref q9), (4, .int v4)])
    (cont : ∀ (ad : Nat → Nat) (kc : Nat → ClassId) (sv : Value) (sa va : Nat) (H : Heap) (locs : List Loc) (ls : Array Slot), gL (dC, dI) x q9 ad kc sv sa va τ am km μ1 ak A s H locs → lv_has ls 7 [(0, .ref b), (1, .ref x), (2, .ref (am 0)), (3, .ref q9), (4, .int v4)] → W p l e room_1 s m args below meth c H locs (cells + 1) (slots + 6) Q (F0 m 936 ls [])) : W p l e room_1 s m args below meth c H locs cells slots Q (F0 m 217 ls []) := by
  have hx := S.1
  have hb := S.2.1
  refine lv_aload_n hx hb dL_law_217 rfl (lv_at hl 1 rfl) ?_
  refine lv_aload_n hx hb dL_law_218 rfl (lv_at hl 3 rfl) ?_
  refine gl_help (n := 2) (As := [.ref x, .ref q9]) (rest := []) (m1 := 1) (m2 := 6) S X (k2_L_program l hlt dC dI x q9 ad kc sv sa va h1 H.size) mG_880 mG_879 mG_213 mG_878 (by decide +kernel) rfl rfl hl.1 (Nat.le_of_ble_eq_true rfl) dL_law_219 hc ⟨Nat.le_of_ble_eq_true rfl, Nat.le_of_ble_eq_true rfl⟩ (fun ad kc sv sa va H locs X => ?_)
  refine lv_istore (lv' := [(5, .int kx), (0, .ref b), (1, .ref x), (2, .ref (am 0)), (3, .ref q9), (4, .int v4)]) hx hb dL_law_222 hl (by decide) rfl (fun ls hl => ?_)
  refine lv_aload_n hx hb dL_law_224 rfl (lv_at hl 3 rfl) ?_
  refine gl_mi (As := []) (rest := []) (ci := 15) S X (k2_X12_program l dC dI am km h2 H.size) cw_X12_program mG_2464 rfl rfl rfl rfl rfl hl.1 (Nat.le_of_ble_eq_true rfl) dL_law_225 ⟨hc.1, hc.2⟩ ⟨Nat.le_of_ble_eq_true rfl, Nat.le_of_ble_eq_true rfl⟩ (fun H locs X => ?_)
  refine lv_istore (lv' := [(6, .int rm), (5, .int kx), (0, .ref b), (1, .ref x), (2, .ref (am 0)), (3, .ref q9), (4, .int v4)]) hx hb dL_law_228 hl (by decide) rfl (fun ls hl => ?_)
  refine lv_aload_n hx hb dL_law_230 rfl (lv_at hl 4 rfl) ?_
  refine gl_mi (As := []) (rest := []) (ci := 15) S X (k2_X12_thrown l dC dI am km (show f_X12_thrown μ1 = some (kx, μ1) from by rw [← ht]; rfl) H.size) cw_X12_thrown mG_2460 rfl rfl rfl rfl rfl hl.1 (Nat.le_of_ble_eq_true rfl) dL_law_231 ⟨hc.1, hc.2⟩ ⟨Nat.le_of_ble_eq_true rfl, Nat.le_of_ble_eq_true rfl⟩ (fun H locs X => ?_)
  refine lv_iload hx hb dL_law_234 (lv_at hl 1 rfl) ?_
  refine lv_icmp_eq (tgt := 241) hx hb dL_law_236 (by decide) (fun c236 => ?_) (fun c236 => ?_)
  · refine lv_iload hx hb dL_law_241 (lv_at hl 1 rfl) ?_
    refine lv_if_ne (tgt := 258) hx hb dL_law_243 (by decide) (fun c243 => ?_) (fun c243 => ?_)
    · refine lv_goto (tgt := 936) hx hb dL_law_258 (by decide) ?_
      exact cont _ _ _ _ _ _ _ _ X (lv_sub hl [2, 3, 4, 5, 6] rfl)
    · have hk0 : kx = 0 := c243
      refine lv_aload_n hx hb dL_law_246 rfl (lv_at hl 5 rfl) ?_
      refine lv_iconst (v := 0) hx hb dL_law_247 (by decide) ?_
      refine va_lald hx hb X.1 X.2.1 3 1 rfl rfl (vp_in_iff.mpr (by decide)) dL_law_248 ?_
      refine lv_iload hx hb dL_law_249 (lv_at hl 0 rfl) ?_
      refine lv_i2l (v := (rm).toInt64) hx hb dL_law_251 rfl ?_
      refine W.lcmp hx hb dL_law_252 ?_
      refine lv_if_eq (tgt := 258) hx hb dL_law_253 (by decide) (fun c253 => ?_) (fun c253 => ?_)
      · refine lv_goto (tgt := 936) hx hb dL_law_258 (by decide) ?_
        exact cont _ _ _ _ _ _ _ _ X (lv_sub hl [2, 3, 4, 5, 6] rfl)
      · exact absurd ((congrArg (fun z => lg_cmp z _) (ho hk0)).trans (lg_self _)) c253
  · exact absurd rfl c236
set_option maxHeartbeats 4000000 in
set_option maxRecDepth 100000 in
theorem lg_4 (hlt : l.stackTraces = false) (S : CallFix p m c cL_law 7 s args uG RL) (hX : va_X b L xs s s.heap) (hbl : b < s.heap.size) (hbA : ¬ A b) (hi1 : vp_in (v4 + 1) L) (hi2 : vp_in (v4 + 2) L) (h1 : h_L_fault ((xs (v4 + 1).toNatClampNeg)) σ = some (kx, τ)) (h2 : f_X12_fault ((xs (v4 + 1).toNatClampNeg)) μ = some (rm, μ1)) (ht : gI μ1 0 = kx) (ho : kx = 0 → gB τ 30 (0 : Int32).toNatClampNeg = (rm).toInt64)
    (hc : cells + 1 ≤ room_1.cells ∧ slots + 6 ≤ room_1.slots) (X : gL (dC, dI) x q9 ad kc sv sa va σ am km μ ak A s H locs) (hl : lv_has ls 7 [(0, .ref b), (1, .ref x), (2, .ref (am 0)), (3, .ref q9), (4, .int v4)])
    (cont : ∀ (ad : Nat → Nat) (kc : Nat → ClassId) (sv : Value) (sa va : Nat) (H : Heap) (locs : List Loc) (ls : Array Slot), gL (dC, dI) x q9 ad kc sv sa va τ am km μ1 ak A s H locs → lv_has ls 7 [(0, .ref b), (1, .ref x), (2, .ref (am 0)), (3, .ref q9), (4, .int v4)] → W p l e room_1 s m args below meth c H locs (cells + 1) (slots + 6) Q (F0 m 936 ls [])) : W p l e room_1 s m args below meth c H locs cells slots Q (F0 m 261 ls []) := by
  have hx := S.1
  have hb := S.2.1
  refine lv_aload_n hx hb dL_law_261 rfl (lv_at hl 1 rfl) ?_
  refine lv_aload_n hx hb dL_law_262 rfl (lv_at hl 0 rfl) ?_
  refine lv_iload hx hb dL_law_263 (lv_at hl 4 rfl) ?_
  refine lv_iconst (v := 1) hx hb dL_law_265 (by decide) ?_
  refine lv_iadd hx hb dL_law_266 ?_
  refine va_sld hx hb hX hbl hbA X.2.2.2.1 hi1 dL_law_267 ?_
  refine lv_aload_n hx hb dL_law_268 rfl (lv_at hl 3 rfl) ?_
  refine gl_help (n := 3) (As := [.ref x, .int (xs (v4 + 1).toNatClampNeg), .ref q9]) (rest := []) (m1 := 1) (m2 := 6) S X (k2_L_fault l hlt dC dI x q9 ad kc sv sa va h1 H.size) mG_1614 mG_1613 mG_213 mG_1612 (by decide +kernel) rfl rfl hl.1 (Nat.le_of_ble_eq_true rfl) dL_law_269 hc ⟨Nat.le_of_ble_eq_true rfl, Nat.le_of_ble_eq_true rfl⟩ (fun ad kc sv sa va H locs X => ?_)
  refine lv_istore (lv' := [(5, .int kx), (0, .ref b), (1, .ref x), (2, .ref (am 0)), (3, .ref q9), (4, .int v4)]) hx hb dL_law_272 hl (by decide) rfl (fun ls hl => ?_)
  refine lv_aload_n hx hb dL_law_274 rfl (lv_at hl 3 rfl) ?_
  refine lv_aload_n hx hb dL_law_275 rfl (lv_at hl 1 rfl) ?_
  refine lv_iload hx hb dL_law_276 (lv_at hl 5 rfl) ?_
  refine lv_iconst (v := 1) hx hb dL_law_278 (by decide) ?_
  refine lv_iadd hx hb dL_law_279 ?_
  refine va_sld hx hb hX hbl hbA X.2.2.2.1 hi1 dL_law_280 ?_
  refine gl_mi (As := [.int (xs (v4 + 1).toNatClampNeg)]) (rest := []) (ci := 15) S X (k2_X12_fault l dC dI am km h2 H.size) cw_X12_fault mG_2911 rfl rfl rfl rfl rfl hl.1 (Nat.le_of_ble_eq_true rfl) dL_law_281 ⟨hc.1, hc.2⟩ ⟨Nat.le_of_ble_eq_true rfl, Nat.le_of_ble_eq_true rfl⟩ (fun H locs X => ?_)
  refine lv_istore (lv' := [(6, .int rm), (5, .int kx), (0, .ref b), (1, .ref x), (2, .ref (am 0)), (3, .ref q9), (4, .int v4)]) hx hb dL_law_284 hl (by decide) rfl (fun ls hl => ?_)
  refine lv_aload_n hx hb dL_law_286 rfl (lv_at hl 4 rfl) ?_
  refine gl_mi (As := []) (rest := []) (ci := 15) S X (k2_X12_thrown l dC dI am km (show f_X12_thrown μ1 = some (kx, μ1) from by rw [← ht]; rfl) H.size) cw_X12_thrown mG_2460 rfl rfl rfl rfl rfl hl.1 (Nat.le_of_ble_eq_true rfl) dL_law_287 ⟨hc.1, hc.2⟩ ⟨Nat.le_of_ble_eq_true rfl, Nat.le_of_ble_eq_true rfl⟩ (fun H locs X => ?_)
  refine lv_iload hx hb dL_law_290 (lv_at hl 1 rfl) ?_
  refine lv_icmp_eq (tgt := 297) hx hb dL_law_292 (by decide) (fun c292 => ?_) (fun c292 => ?_)
  · refine lv_iload hx hb dL_law_297 (lv_at hl 1 rfl) ?_
    refine lv_if_ne (tgt := 314) hx hb dL_law_299 (by decide) (fun c299 => ?_) (fun c299 => ?_)
    · refine lv_goto (tgt := 936) hx hb dL_law_314 (by decide) ?_
      exact cont _ _ _ _ _ _ _ _ X (lv_sub hl [2, 3, 4, 5, 6] rfl)
    · have hk0 : kx = 0 := c299
      refine lv_aload_n hx hb dL_law_302 rfl (lv_at hl 5 rfl) ?_
      refine lv_iconst (v := 0) hx hb dL_law_303 (by decide) ?_
      refine va_lald hx hb X.1 X.2.1 3 1 rfl rfl (vp_in_iff.mpr (by decide)) dL_law_304 ?_
      refine lv_iload hx hb dL_law_305 (lv_at hl 0 rfl) ?_
      refine lv_i2l (v := (rm).toInt64) hx hb dL_law_307 rfl ?_
      refine W.lcmp hx hb dL_law_308 ?_
      refine lv_if_eq (tgt := 314) hx hb dL_law_309 (by decide) (fun c309 => ?_) (fun c309 => ?_)
      · refine lv_goto (tgt := 936) hx hb dL_law_314 (by decide) ?_
        exact cont _ _ _ _ _ _ _ _ X (lv_sub hl [2, 3, 4, 5, 6] rfl)
      · exact absurd ((congrArg (fun z => lg_cmp z _) (ho hk0)).trans (lg_self _)) c309
  · exact absurd rfl c292
set_option maxHeartbeats 4000000 in
set_option maxRecDepth 100000 in
theorem lg_5 (hlt : l.stackTraces = false) (S : CallFix p m c cL_law 7 s args uG RL) (hX : va_X b L xs s s.heap) (hbl : b < s.heap.size) (hbA : ¬ A b) (hi1 : vp_in (v4 + 1) L) (hi2 : vp_in (v4 + 2) L) (h1 : h_L_write  σ = some (kx, τ)) (h2 : f_X12_write  μ = some (rm, μ1)) (ht : gI μ1 0 = kx) (ho : kx = 0 → gB τ 30 (0 : Int32).toNatClampNeg = (rm).toInt64)
    (hc : cells + 1 ≤ room_1.cells ∧ slots + 6 ≤ room_1.slots) (X : gL (dC, dI) x q9 ad kc sv sa va σ am km μ ak A s H locs) (hl : lv_has ls 7 [(0, .ref b), (1, .ref x), (2, .ref (am 0)), (3, .ref q9), (4, .int v4)])
    (cont : ∀ (ad : Nat → Nat) (kc : Nat → ClassId) (sv : Value) (sa va : Nat) (H : Heap) (locs : List Loc) (ls : Array Slot), gL (dC, dI) x q9 ad kc sv sa va τ am km μ1 ak A s H locs → lv_has ls 7 [(0, .ref b), (1, .ref x), (2, .ref (am 0)), (3, .ref q9), (4, .int v4)] → W p l e room_1 s m args below meth c H locs (cells + 1) (slots + 6) Q (F0 m 936 ls [])) : W p l e room_1 s m args below meth c H locs cells slots Q (F0 m 317 ls []) := by
  have hx := S.1
  have hb := S.2.1
  refine lv_aload_n hx hb dL_law_317 rfl (lv_at hl 1 rfl) ?_
  refine lv_aload_n hx hb dL_law_318 rfl (lv_at hl 3 rfl) ?_
  refine gl_help (n := 2) (As := [.ref x, .ref q9]) (rest := []) (m1 := 1) (m2 := 6) S X (k2_L_write l hlt dC dI x q9 ad kc sv sa va h1 H.size) mG_1621 mG_1620 mG_213 mG_1619 (by decide +kernel) rfl rfl hl.1 (Nat.le_of_ble_eq_true rfl) dL_law_319 hc ⟨Nat.le_of_ble_eq_true rfl, Nat.le_of_ble_eq_true rfl⟩ (fun ad kc sv sa va H locs X => ?_)
  refine lv_istore (lv' := [(5, .int kx), (0, .ref b), (1, .ref x), (2, .ref (am 0)), (3, .ref q9), (4, .int v4)]) hx hb dL_law_322 hl (by decide) rfl (fun ls hl => ?_)
  refine lv_aload_n hx hb dL_law_324 rfl (lv_at hl 3 rfl) ?_
  refine gl_mi (As := []) (rest := []) (ci := 15) S X (k2_X12_write l dC dI am km h2 H.size) cw_X12_write mG_2915 rfl rfl rfl rfl rfl hl.1 (Nat.le_of_ble_eq_true rfl) dL_law_325 ⟨hc.1, hc.2⟩ ⟨Nat.le_of_ble_eq_true rfl, Nat.le_of_ble_eq_true rfl⟩ (fun H locs X => ?_)
  refine lv_istore (lv' := [(6, .int rm), (5, .int kx), (0, .ref b), (1, .ref x), (2, .ref (am 0)), (3, .ref q9), (4, .int v4)]) hx hb dL_law_328 hl (by decide) rfl (fun ls hl => ?_)
  refine lv_aload_n hx hb dL_law_330 rfl (lv_at hl 4 rfl) ?_
  refine gl_mi (As := []) (rest := []) (ci := 15) S X (k2_X12_thrown l dC dI am km (show f_X12_thrown μ1 = some (kx, μ1) from by rw [← ht]; rfl) H.size) cw_X12_thrown mG_2460 rfl rfl rfl rfl rfl hl.1 (Nat.le_of_ble_eq_true rfl) dL_law_331 ⟨hc.1, hc.2⟩ ⟨Nat.le_of_ble_eq_true rfl, Nat.le_of_ble_eq_true rfl⟩ (fun H locs X => ?_)
  refine lv_iload hx hb dL_law_334 (lv_at hl 1 rfl) ?_
  refine lv_icmp_eq (tgt := 341) hx hb dL_law_336 (by decide) (fun c336 => ?_) (fun c336 => ?_)
  · refine lv_iload hx hb dL_law_341 (lv_at hl 1 rfl) ?_
    refine lv_if_ne (tgt := 358) hx hb dL_law_343 (by decide) (fun c343 => ?_) (fun c343 => ?_)
    · refine lv_goto (tgt := 936) hx hb dL_law_358 (by decide) ?_
      exact cont _ _ _ _ _ _ _ _ X (lv_sub hl [2, 3, 4, 5, 6] rfl)
    · have hk0 : kx = 0 := c343
      refine lv_aload_n hx hb dL_law_346 rfl (lv_at hl 5 rfl) ?_
      refine lv_iconst (v := 0) hx hb dL_law_347 (by decide) ?_
      refine va_lald hx hb X.1 X.2.1 3 1 rfl rfl (vp_in_iff.mpr (by decide)) dL_law_348 ?_
      refine lv_iload hx hb dL_law_349 (lv_at hl 0 rfl) ?_
      refine lv_i2l (v := (rm).toInt64) hx hb dL_law_351 rfl ?_
      refine W.lcmp hx hb dL_law_352 ?_
      refine lv_if_eq (tgt := 358) hx hb dL_law_353 (by decide) (fun c353 => ?_) (fun c353 => ?_)
      · refine lv_goto (tgt := 936) hx hb dL_law_358 (by decide) ?_
        exact cont _ _ _ _ _ _ _ _ X (lv_sub hl [2, 3, 4, 5, 6] rfl)
      · exact absurd ((congrArg (fun z => lg_cmp z _) (ho hk0)).trans (lg_self _)) c353
  · exact absurd rfl c336
set_option maxHeartbeats 4000000 in
set_option maxRecDepth 100000 in
theorem lg_6 (hlt : l.stackTraces = false) (S : CallFix p m c cL_law 7 s args uG RL) (hX : va_X b L xs s s.heap) (hbl : b < s.heap.size) (hbA : ¬ A b) (hi1 : vp_in (v4 + 1) L) (hi2 : vp_in (v4 + 2) L) (h1 : h_L_letter ((xs (v4 + 1).toNatClampNeg)) σ = some (kx, τ)) (h2 : f_X12_letter ((xs (v4 + 1).toNatClampNeg)) μ = some (rm, μ1)) (ht : gI μ1 0 = kx) (ho : kx = 0 → gB τ 30 (0 : Int32).toNatClampNeg = (rm).toInt64)
    (hc : cells + 1 ≤ room_1.cells ∧ slots + 6 ≤ room_1.slots) (X : gL (dC, dI) x q9 ad kc sv sa va σ am km μ ak A s H locs) (hl : lv_has ls 7 [(0, .ref b), (1, .ref x), (2, .ref (am 0)), (3, .ref q9), (4, .int v4)])
    (cont : ∀ (ad : Nat → Nat) (kc : Nat → ClassId) (sv : Value) (sa va : Nat) (H : Heap) (locs : List Loc) (ls : Array Slot), gL (dC, dI) x q9 ad kc sv sa va τ am km μ1 ak A s H locs → lv_has ls 7 [(0, .ref b), (1, .ref x), (2, .ref (am 0)), (3, .ref q9), (4, .int v4)] → W p l e room_1 s m args below meth c H locs (cells + 1) (slots + 6) Q (F0 m 936 ls [])) : W p l e room_1 s m args below meth c H locs cells slots Q (F0 m 361 ls []) := by
  have hx := S.1
  have hb := S.2.1
  refine lv_aload_n hx hb dL_law_361 rfl (lv_at hl 1 rfl) ?_
  refine lv_aload_n hx hb dL_law_362 rfl (lv_at hl 0 rfl) ?_
  refine lv_iload hx hb dL_law_363 (lv_at hl 4 rfl) ?_
  refine lv_iconst (v := 1) hx hb dL_law_365 (by decide) ?_
  refine lv_iadd hx hb dL_law_366 ?_
  refine va_sld hx hb hX hbl hbA X.2.2.2.1 hi1 dL_law_367 ?_
  refine lv_aload_n hx hb dL_law_368 rfl (lv_at hl 3 rfl) ?_
  refine gl_help (n := 3) (As := [.ref x, .int (xs (v4 + 1).toNatClampNeg), .ref q9]) (rest := []) (m1 := 1) (m2 := 6) S X (k2_L_letter l hlt dC dI x q9 ad kc sv sa va h1 H.size) mG_1737 mG_1736 mG_213 mG_1735 (by decide +kernel) rfl rfl hl.1 (Nat.le_of_ble_eq_true rfl) dL_law_369 hc ⟨Nat.le_of_ble_eq_true rfl, Nat.le_of_ble_eq_true rfl⟩ (fun ad kc sv sa va H locs X => ?_)
  refine lv_istore (lv' := [(5, .int kx), (0, .ref b), (1, .ref x), (2, .ref (am 0)), (3, .ref q9), (4, .int v4)]) hx hb dL_law_372 hl (by decide) rfl (fun ls hl => ?_)
  refine lv_aload_n hx hb dL_law_374 rfl (lv_at hl 3 rfl) ?_
  refine lv_aload_n hx hb dL_law_375 rfl (lv_at hl 1 rfl) ?_
  refine lv_iload hx hb dL_law_376 (lv_at hl 5 rfl) ?_
  refine lv_iconst (v := 1) hx hb dL_law_378 (by decide) ?_
  refine lv_iadd hx hb dL_law_379 ?_
  refine va_sld hx hb hX hbl hbA X.2.2.2.1 hi1 dL_law_380 ?_
  refine gl_mi (As := [.int (xs (v4 + 1).toNatClampNeg)]) (rest := []) (ci := 15) S X (k2_X12_letter l dC dI am km h2 H.size) cw_X12_letter mG_2959 rfl rfl rfl rfl rfl hl.1 (Nat.le_of_ble_eq_true rfl) dL_law_381 ⟨hc.1, hc.2⟩ ⟨Nat.le_of_ble_eq_true rfl, Nat.le_of_ble_eq_true rfl⟩ (fun H locs X => ?_)
  refine lv_istore (lv' := [(6, .int rm), (5, .int kx), (0, .ref b), (1, .ref x), (2, .ref (am 0)), (3, .ref q9), (4, .int v4)]) hx hb dL_law_384 hl (by decide) rfl (fun ls hl => ?_)
  refine lv_aload_n hx hb dL_law_386 rfl (lv_at hl 4 rfl) ?_
  refine gl_mi (As := []) (rest := []) (ci := 15) S X (k2_X12_thrown l dC dI am km (show f_X12_thrown μ1 = some (kx, μ1) from by rw [← ht]; rfl) H.size) cw_X12_thrown mG_2460 rfl rfl rfl rfl rfl hl.1 (Nat.le_of_ble_eq_true rfl) dL_law_387 ⟨hc.1, hc.2⟩ ⟨Nat.le_of_ble_eq_true rfl, Nat.le_of_ble_eq_true rfl⟩ (fun H locs X => ?_)
  refine lv_iload hx hb dL_law_390 (lv_at hl 1 rfl) ?_
  refine lv_icmp_eq (tgt := 397) hx hb dL_law_392 (by decide) (fun c392 => ?_) (fun c392 => ?_)
  · refine lv_iload hx hb dL_law_397 (lv_at hl 1 rfl) ?_
    refine lv_if_ne (tgt := 414) hx hb dL_law_399 (by decide) (fun c399 => ?_) (fun c399 => ?_)
    · refine lv_goto (tgt := 936) hx hb dL_law_414 (by decide) ?_
      exact cont _ _ _ _ _ _ _ _ X (lv_sub hl [2, 3, 4, 5, 6] rfl)
    · have hk0 : kx = 0 := c399
      refine lv_aload_n hx hb dL_law_402 rfl (lv_at hl 5 rfl) ?_
      refine lv_iconst (v := 0) hx hb dL_law_403 (by decide) ?_
      refine va_lald hx hb X.1 X.2.1 3 1 rfl rfl (vp_in_iff.mpr (by decide)) dL_law_404 ?_
      refine lv_iload hx hb dL_law_405 (lv_at hl 0 rfl) ?_
      refine lv_i2l (v := (rm).toInt64) hx hb dL_law_407 rfl ?_
      refine W.lcmp hx hb dL_law_408 ?_
      refine lv_if_eq (tgt := 414) hx hb dL_law_409 (by decide) (fun c409 => ?_) (fun c409 => ?_)
      · refine lv_goto (tgt := 936) hx hb dL_law_414 (by decide) ?_
        exact cont _ _ _ _ _ _ _ _ X (lv_sub hl [2, 3, 4, 5, 6] rfl)
      · exact absurd ((congrArg (fun z => lg_cmp z _) (ho hk0)).trans (lg_self _)) c409
  · exact absurd rfl c392
set_option maxHeartbeats 4000000 in
set_option maxRecDepth 100000 in
theorem lg_7 (hlt : l.stackTraces = false) (S : CallFix p m c cL_law 7 s args uG RL) (hX : va_X b L xs s s.heap) (hbl : b < s.heap.size) (hbA : ¬ A b) (hi1 : vp_in (v4 + 1) L) (hi2 : vp_in (v4 + 2) L) (h1 : h_L_function ((xs (v4 + 1).toNatClampNeg)) ((xs (v4 + 2).toNatClampNeg)) σ = some (kx, τ)) (h2 : f_X12_function ((xs (v4 + 1).toNatClampNeg)) ((xs (v4 + 2).toNatClampNeg)) μ = some (rm, μ1)) (ht : gI μ1 0 = kx) (ho : kx = 0 → gB τ 30 (0 : Int32).toNatClampNeg = (rm).toInt64)
    (hc : cells + 1 ≤ room_1.cells ∧ slots + 6 ≤ room_1.slots) (X : gL (dC, dI) x q9 ad kc sv sa va σ am km μ ak A s H locs) (hl : lv_has ls 7 [(0, .ref b), (1, .ref x), (2, .ref (am 0)), (3, .ref q9), (4, .int v4)])
    (cont : ∀ (ad : Nat → Nat) (kc : Nat → ClassId) (sv : Value) (sa va : Nat) (H : Heap) (locs : List Loc) (ls : Array Slot), gL (dC, dI) x q9 ad kc sv sa va τ am km μ1 ak A s H locs → lv_has ls 7 [(0, .ref b), (1, .ref x), (2, .ref (am 0)), (3, .ref q9), (4, .int v4)] → W p l e room_1 s m args below meth c H locs (cells + 1) (slots + 6) Q (F0 m 936 ls [])) : W p l e room_1 s m args below meth c H locs cells slots Q (F0 m 417 ls []) := by
  have hx := S.1
  have hb := S.2.1
  refine lv_aload_n hx hb dL_law_417 rfl (lv_at hl 1 rfl) ?_
  refine lv_aload_n hx hb dL_law_418 rfl (lv_at hl 0 rfl) ?_
  refine lv_iload hx hb dL_law_419 (lv_at hl 4 rfl) ?_
  refine lv_iconst (v := 1) hx hb dL_law_421 (by decide) ?_
  refine lv_iadd hx hb dL_law_422 ?_
  refine va_sld hx hb hX hbl hbA X.2.2.2.1 hi1 dL_law_423 ?_
  refine lv_aload_n hx hb dL_law_424 rfl (lv_at hl 0 rfl) ?_
  refine lv_iload hx hb dL_law_425 (lv_at hl 4 rfl) ?_
  refine lv_iconst (v := 2) hx hb dL_law_427 (by decide) ?_
  refine lv_iadd hx hb dL_law_428 ?_
  refine va_sld hx hb hX hbl hbA X.2.2.2.1 hi2 dL_law_429 ?_
  refine lv_aload_n hx hb dL_law_430 rfl (lv_at hl 3 rfl) ?_
  refine gl_help (n := 4) (As := [.ref x, .int (xs (v4 + 1).toNatClampNeg), .int (xs (v4 + 2).toNatClampNeg), .ref q9]) (rest := []) (m1 := 1) (m2 := 6) S X (k2_L_function l hlt dC dI x q9 ad kc sv sa va h1 H.size) mG_1761 mG_1760 mG_213 mG_1759 (by decide +kernel) rfl rfl hl.1 (Nat.le_of_ble_eq_true rfl) dL_law_431 hc ⟨Nat.le_of_ble_eq_true rfl, Nat.le_of_ble_eq_true rfl⟩ (fun ad kc sv sa va H locs X => ?_)
  refine lv_istore (lv' := [(5, .int kx), (0, .ref b), (1, .ref x), (2, .ref (am 0)), (3, .ref q9), (4, .int v4)]) hx hb dL_law_434 hl (by decide) rfl (fun ls hl => ?_)
  refine lv_aload_n hx hb dL_law_436 rfl (lv_at hl 3 rfl) ?_
  refine lv_aload_n hx hb dL_law_437 rfl (lv_at hl 1 rfl) ?_
  refine lv_iload hx hb dL_law_438 (lv_at hl 5 rfl) ?_
  refine lv_iconst (v := 1) hx hb dL_law_440 (by decide) ?_
  refine lv_iadd hx hb dL_law_441 ?_
  refine va_sld hx hb hX hbl hbA X.2.2.2.1 hi1 dL_law_442 ?_
  refine lv_aload_n hx hb dL_law_443 rfl (lv_at hl 1 rfl) ?_
  refine lv_iload hx hb dL_law_444 (lv_at hl 5 rfl) ?_
  refine lv_iconst (v := 2) hx hb dL_law_446 (by decide) ?_
  refine lv_iadd hx hb dL_law_447 ?_
  refine va_sld hx hb hX hbl hbA X.2.2.2.1 hi2 dL_law_448 ?_
  refine gl_mi (As := [.int (xs (v4 + 1).toNatClampNeg), .int (xs (v4 + 2).toNatClampNeg)]) (rest := []) (ci := 15) S X (k2_X12_function l dC dI am km h2 H.size) cw_X12_function mG_2963 rfl rfl rfl rfl rfl hl.1 (Nat.le_of_ble_eq_true rfl) dL_law_449 ⟨hc.1, hc.2⟩ ⟨Nat.le_of_ble_eq_true rfl, Nat.le_of_ble_eq_true rfl⟩ (fun H locs X => ?_)
  refine lv_istore (lv' := [(6, .int rm), (5, .int kx), (0, .ref b), (1, .ref x), (2, .ref (am 0)), (3, .ref q9), (4, .int v4)]) hx hb dL_law_452 hl (by decide) rfl (fun ls hl => ?_)
  refine lv_aload_n hx hb dL_law_454 rfl (lv_at hl 4 rfl) ?_
  refine gl_mi (As := []) (rest := []) (ci := 15) S X (k2_X12_thrown l dC dI am km (show f_X12_thrown μ1 = some (kx, μ1) from by rw [← ht]; rfl) H.size) cw_X12_thrown mG_2460 rfl rfl rfl rfl rfl hl.1 (Nat.le_of_ble_eq_true rfl) dL_law_455 ⟨hc.1, hc.2⟩ ⟨Nat.le_of_ble_eq_true rfl, Nat.le_of_ble_eq_true rfl⟩ (fun H locs X => ?_)
  refine lv_iload hx hb dL_law_458 (lv_at hl 1 rfl) ?_
  refine lv_icmp_eq (tgt := 465) hx hb dL_law_460 (by decide) (fun c460 => ?_) (fun c460 => ?_)
  · refine lv_iload hx hb dL_law_465 (lv_at hl 1 rfl) ?_
    refine lv_if_ne (tgt := 482) hx hb dL_law_467 (by decide) (fun c467 => ?_) (fun c467 => ?_)
    · refine lv_goto (tgt := 936) hx hb dL_law_482 (by decide) ?_
      exact cont _ _ _ _ _ _ _ _ X (lv_sub hl [2, 3, 4, 5, 6] rfl)
    · have hk0 : kx = 0 := c467
      refine lv_aload_n hx hb dL_law_470 rfl (lv_at hl 5 rfl) ?_
      refine lv_iconst (v := 0) hx hb dL_law_471 (by decide) ?_
      refine va_lald hx hb X.1 X.2.1 3 1 rfl rfl (vp_in_iff.mpr (by decide)) dL_law_472 ?_
      refine lv_iload hx hb dL_law_473 (lv_at hl 0 rfl) ?_
      refine lv_i2l (v := (rm).toInt64) hx hb dL_law_475 rfl ?_
      refine W.lcmp hx hb dL_law_476 ?_
      refine lv_if_eq (tgt := 482) hx hb dL_law_477 (by decide) (fun c477 => ?_) (fun c477 => ?_)
      · refine lv_goto (tgt := 936) hx hb dL_law_482 (by decide) ?_
        exact cont _ _ _ _ _ _ _ _ X (lv_sub hl [2, 3, 4, 5, 6] rfl)
      · exact absurd ((congrArg (fun z => lg_cmp z _) (ho hk0)).trans (lg_self _)) c477
  · exact absurd rfl c460
set_option maxHeartbeats 4000000 in
set_option maxRecDepth 100000 in
theorem lg_8 (hlt : l.stackTraces = false) (S : CallFix p m c cL_law 7 s args uG RL) (hX : va_X b L xs s s.heap) (hbl : b < s.heap.size) (hbA : ¬ A b) (hi1 : vp_in (v4 + 1) L) (hi2 : vp_in (v4 + 2) L) (h1 : h_L_needs ((xs (v4 + 1).toNatClampNeg)) ((xs (v4 + 2).toNatClampNeg)) σ = some (kx, τ)) (h2 : f_X12_needs ((xs (v4 + 1).toNatClampNeg)) ((xs (v4 + 2).toNatClampNeg)) μ = some (rm, μ1)) (ht : gI μ1 0 = kx) (ho : kx = 0 → gB τ 30 (0 : Int32).toNatClampNeg = if rm = 0 then 0 else 1)
    (hc : cells + 1 ≤ room_1.cells ∧ slots + 6 ≤ room_1.slots) (X : gL (dC, dI) x q9 ad kc sv sa va σ am km μ ak A s H locs) (hl : lv_has ls 7 [(0, .ref b), (1, .ref x), (2, .ref (am 0)), (3, .ref q9), (4, .int v4)])
    (cont : ∀ (ad : Nat → Nat) (kc : Nat → ClassId) (sv : Value) (sa va : Nat) (H : Heap) (locs : List Loc) (ls : Array Slot), gL (dC, dI) x q9 ad kc sv sa va τ am km μ1 ak A s H locs → lv_has ls 7 [(0, .ref b), (1, .ref x), (2, .ref (am 0)), (3, .ref q9), (4, .int v4)] → W p l e room_1 s m args below meth c H locs (cells + 1) (slots + 6) Q (F0 m 936 ls [])) : W p l e room_1 s m args below meth c H locs cells slots Q (F0 m 485 ls []) := by
  have hx := S.1
  have hb := S.2.1
  refine lv_aload_n hx hb dL_law_485 rfl (lv_at hl 1 rfl) ?_
  refine lv_aload_n hx hb dL_law_486 rfl (lv_at hl 0 rfl) ?_
  refine lv_iload hx hb dL_law_487 (lv_at hl 4 rfl) ?_
  refine lv_iconst (v := 1) hx hb dL_law_489 (by decide) ?_
  refine lv_iadd hx hb dL_law_490 ?_
  refine va_sld hx hb hX hbl hbA X.2.2.2.1 hi1 dL_law_491 ?_
  refine lv_aload_n hx hb dL_law_492 rfl (lv_at hl 0 rfl) ?_
  refine lv_iload hx hb dL_law_493 (lv_at hl 4 rfl) ?_
  refine lv_iconst (v := 2) hx hb dL_law_495 (by decide) ?_
  refine lv_iadd hx hb dL_law_496 ?_
  refine va_sld hx hb hX hbl hbA X.2.2.2.1 hi2 dL_law_497 ?_
  refine lv_aload_n hx hb dL_law_498 rfl (lv_at hl 3 rfl) ?_
  refine gl_help (n := 4) (As := [.ref x, .int (xs (v4 + 1).toNatClampNeg), .int (xs (v4 + 2).toNatClampNeg), .ref q9]) (rest := []) (m1 := 1) (m2 := 6) S X (k2_L_needs l hlt dC dI x q9 ad kc sv sa va h1 H.size) mG_1772 mG_1771 mG_213 mG_1770 (by decide +kernel) rfl rfl hl.1 (Nat.le_of_ble_eq_true rfl) dL_law_499 hc ⟨Nat.le_of_ble_eq_true rfl, Nat.le_of_ble_eq_true rfl⟩ (fun ad kc sv sa va H locs X => ?_)
  refine lv_istore (lv' := [(5, .int kx), (0, .ref b), (1, .ref x), (2, .ref (am 0)), (3, .ref q9), (4, .int v4)]) hx hb dL_law_502 hl (by decide) rfl (fun ls hl => ?_)
  refine lv_aload_n hx hb dL_law_504 rfl (lv_at hl 3 rfl) ?_
  refine lv_aload_n hx hb dL_law_505 rfl (lv_at hl 1 rfl) ?_
  refine lv_iload hx hb dL_law_506 (lv_at hl 5 rfl) ?_
  refine lv_iconst (v := 1) hx hb dL_law_508 (by decide) ?_
  refine lv_iadd hx hb dL_law_509 ?_
  refine va_sld hx hb hX hbl hbA X.2.2.2.1 hi1 dL_law_510 ?_
  refine lv_aload_n hx hb dL_law_511 rfl (lv_at hl 1 rfl) ?_
  refine lv_iload hx hb dL_law_512 (lv_at hl 5 rfl) ?_
  refine lv_iconst (v := 2) hx hb dL_law_514 (by decide) ?_
  refine lv_iadd hx hb dL_law_515 ?_
  refine va_sld hx hb hX hbl hbA X.2.2.2.1 hi2 dL_law_516 ?_
  refine gl_mi (As := [.int (xs (v4 + 1).toNatClampNeg), .int (xs (v4 + 2).toNatClampNeg)]) (rest := []) (ci := 15) S X (k2_X12_needs l dC dI am km h2 H.size) cw_X12_needs mG_2971 rfl rfl rfl rfl rfl hl.1 (Nat.le_of_ble_eq_true rfl) dL_law_517 ⟨hc.1, hc.2⟩ ⟨Nat.le_of_ble_eq_true rfl, Nat.le_of_ble_eq_true rfl⟩ (fun H locs X => ?_)
  refine lv_istore (lv' := [(6, .int rm), (5, .int kx), (0, .ref b), (1, .ref x), (2, .ref (am 0)), (3, .ref q9), (4, .int v4)]) hx hb dL_law_520 hl (by decide) rfl (fun ls hl => ?_)
  refine lv_aload_n hx hb dL_law_522 rfl (lv_at hl 4 rfl) ?_
  refine gl_mi (As := []) (rest := []) (ci := 15) S X (k2_X12_thrown l dC dI am km (show f_X12_thrown μ1 = some (kx, μ1) from by rw [← ht]; rfl) H.size) cw_X12_thrown mG_2460 rfl rfl rfl rfl rfl hl.1 (Nat.le_of_ble_eq_true rfl) dL_law_523 ⟨hc.1, hc.2⟩ ⟨Nat.le_of_ble_eq_true rfl, Nat.le_of_ble_eq_true rfl⟩ (fun H locs X => ?_)
  refine lv_iload hx hb dL_law_526 (lv_at hl 1 rfl) ?_
  refine lv_icmp_eq (tgt := 533) hx hb dL_law_528 (by decide) (fun c528 => ?_) (fun c528 => ?_)
  · refine lv_iload hx hb dL_law_533 (lv_at hl 1 rfl) ?_
    refine lv_if_ne (tgt := 557) hx hb dL_law_535 (by decide) (fun c535 => ?_) (fun c535 => ?_)
    · refine lv_goto (tgt := 936) hx hb dL_law_557 (by decide) ?_
      exact cont _ _ _ _ _ _ _ _ X (lv_sub hl [2, 3, 4, 5, 6] rfl)
    · have hk0 : kx = 0 := c535
      refine lv_aload_n hx hb dL_law_538 rfl (lv_at hl 5 rfl) ?_
      refine lv_iconst (v := 0) hx hb dL_law_539 (by decide) ?_
      refine va_lald hx hb X.1 X.2.1 3 1 rfl rfl (vp_in_iff.mpr (by decide)) dL_law_540 ?_
      refine lv_iload hx hb dL_law_541 (lv_at hl 0 rfl) ?_
      refine lv_if_eq (tgt := 550) hx hb dL_law_543 (by decide) (fun c543 => ?_) (fun c543 => ?_)
      · refine lv_lconst (v := 0) hx hb dL_law_550 rfl ?_
        refine W.lcmp hx hb dL_law_551 ?_
        refine lv_if_eq (tgt := 557) hx hb dL_law_552 (by decide) (fun c552 => ?_) (fun c552 => ?_)
        · refine lv_goto (tgt := 936) hx hb dL_law_557 (by decide) ?_
          exact cont _ _ _ _ _ _ _ _ X (lv_sub hl [2, 3, 4, 5, 6] rfl)
        · exact absurd ((congrArg (fun z => lg_cmp z _) ((ho hk0).trans (if_pos c543))).trans (lg_self _)) c552
      · refine lv_lconst (v := 1) hx hb dL_law_546 rfl ?_
        refine lv_goto (tgt := 551) hx hb dL_law_547 (by decide) ?_
        refine W.lcmp hx hb dL_law_551 ?_
        refine lv_if_eq (tgt := 557) hx hb dL_law_552 (by decide) (fun c552 => ?_) (fun c552 => ?_)
        · refine lv_goto (tgt := 936) hx hb dL_law_557 (by decide) ?_
          exact cont _ _ _ _ _ _ _ _ X (lv_sub hl [2, 3, 4, 5, 6] rfl)
        · exact absurd ((congrArg (fun z => lg_cmp z _) ((ho hk0).trans (if_neg c543))).trans (lg_self _)) c552
  · exact absurd rfl c528
set_option maxHeartbeats 4000000 in
set_option maxRecDepth 100000 in
theorem lg_9 (hlt : l.stackTraces = false) (S : CallFix p m c cL_law 7 s args uG RL) (hX : va_X b L xs s s.heap) (hbl : b < s.heap.size) (hbA : ¬ A b) (hi1 : vp_in (v4 + 1) L) (hi2 : vp_in (v4 + 2) L) (h1 : h_L_bit ((xs (v4 + 1).toNatClampNeg)) ((xs (v4 + 2).toNatClampNeg)) σ = some (kx, τ)) (h2 : f_X12_bit ((xs (v4 + 1).toNatClampNeg)) ((xs (v4 + 2).toNatClampNeg)) μ = some (rm, μ1)) (ht : gI μ1 0 = kx) (ho : kx = 0 → gB τ 30 (0 : Int32).toNatClampNeg = (rm).toInt64)
    (hc : cells + 1 ≤ room_1.cells ∧ slots + 6 ≤ room_1.slots) (X : gL (dC, dI) x q9 ad kc sv sa va σ am km μ ak A s H locs) (hl : lv_has ls 7 [(0, .ref b), (1, .ref x), (2, .ref (am 0)), (3, .ref q9), (4, .int v4)])
    (cont : ∀ (ad : Nat → Nat) (kc : Nat → ClassId) (sv : Value) (sa va : Nat) (H : Heap) (locs : List Loc) (ls : Array Slot), gL (dC, dI) x q9 ad kc sv sa va τ am km μ1 ak A s H locs → lv_has ls 7 [(0, .ref b), (1, .ref x), (2, .ref (am 0)), (3, .ref q9), (4, .int v4)] → W p l e room_1 s m args below meth c H locs (cells + 1) (slots + 6) Q (F0 m 936 ls [])) : W p l e room_1 s m args below meth c H locs cells slots Q (F0 m 560 ls []) := by
  have hx := S.1
  have hb := S.2.1
  refine lv_aload_n hx hb dL_law_560 rfl (lv_at hl 1 rfl) ?_
  refine lv_aload_n hx hb dL_law_561 rfl (lv_at hl 0 rfl) ?_
  refine lv_iload hx hb dL_law_562 (lv_at hl 4 rfl) ?_
  refine lv_iconst (v := 1) hx hb dL_law_564 (by decide) ?_
  refine lv_iadd hx hb dL_law_565 ?_
  refine va_sld hx hb hX hbl hbA X.2.2.2.1 hi1 dL_law_566 ?_
  refine lv_aload_n hx hb dL_law_567 rfl (lv_at hl 0 rfl) ?_
  refine lv_iload hx hb dL_law_568 (lv_at hl 4 rfl) ?_
  refine lv_iconst (v := 2) hx hb dL_law_570 (by decide) ?_
  refine lv_iadd hx hb dL_law_571 ?_
  refine va_sld hx hb hX hbl hbA X.2.2.2.1 hi2 dL_law_572 ?_
  refine lv_aload_n hx hb dL_law_573 rfl (lv_at hl 3 rfl) ?_
  refine gl_help (n := 4) (As := [.ref x, .int (xs (v4 + 1).toNatClampNeg), .int (xs (v4 + 2).toNatClampNeg), .ref q9]) (rest := []) (m1 := 1) (m2 := 6) S X (k2_L_bit l hlt dC dI x q9 ad kc sv sa va h1 H.size) mG_1783 mG_1782 mG_213 mG_1781 (by decide +kernel) rfl rfl hl.1 (Nat.le_of_ble_eq_true rfl) dL_law_574 hc ⟨Nat.le_of_ble_eq_true rfl, Nat.le_of_ble_eq_true rfl⟩ (fun ad kc sv sa va H locs X => ?_)
  refine lv_istore (lv' := [(5, .int kx), (0, .ref b), (1, .ref x), (2, .ref (am 0)), (3, .ref q9), (4, .int v4)]) hx hb dL_law_577 hl (by decide) rfl (fun ls hl => ?_)
  refine lv_aload_n hx hb dL_law_579 rfl (lv_at hl 3 rfl) ?_
  refine lv_aload_n hx hb dL_law_580 rfl (lv_at hl 1 rfl) ?_
  refine lv_iload hx hb dL_law_581 (lv_at hl 5 rfl) ?_
  refine lv_iconst (v := 1) hx hb dL_law_583 (by decide) ?_
  refine lv_iadd hx hb dL_law_584 ?_
  refine va_sld hx hb hX hbl hbA X.2.2.2.1 hi1 dL_law_585 ?_
  refine lv_aload_n hx hb dL_law_586 rfl (lv_at hl 1 rfl) ?_
  refine lv_iload hx hb dL_law_587 (lv_at hl 5 rfl) ?_
  refine lv_iconst (v := 2) hx hb dL_law_589 (by decide) ?_
  refine lv_iadd hx hb dL_law_590 ?_
  refine va_sld hx hb hX hbl hbA X.2.2.2.1 hi2 dL_law_591 ?_
  refine gl_mi (As := [.int (xs (v4 + 1).toNatClampNeg), .int (xs (v4 + 2).toNatClampNeg)]) (rest := []) (ci := 15) S X (k2_X12_bit l dC dI am km h2 H.size) cw_X12_bit mG_2975 rfl rfl rfl rfl rfl hl.1 (Nat.le_of_ble_eq_true rfl) dL_law_592 ⟨hc.1, hc.2⟩ ⟨Nat.le_of_ble_eq_true rfl, Nat.le_of_ble_eq_true rfl⟩ (fun H locs X => ?_)
  refine lv_istore (lv' := [(6, .int rm), (5, .int kx), (0, .ref b), (1, .ref x), (2, .ref (am 0)), (3, .ref q9), (4, .int v4)]) hx hb dL_law_595 hl (by decide) rfl (fun ls hl => ?_)
  refine lv_aload_n hx hb dL_law_597 rfl (lv_at hl 4 rfl) ?_
  refine gl_mi (As := []) (rest := []) (ci := 15) S X (k2_X12_thrown l dC dI am km (show f_X12_thrown μ1 = some (kx, μ1) from by rw [← ht]; rfl) H.size) cw_X12_thrown mG_2460 rfl rfl rfl rfl rfl hl.1 (Nat.le_of_ble_eq_true rfl) dL_law_598 ⟨hc.1, hc.2⟩ ⟨Nat.le_of_ble_eq_true rfl, Nat.le_of_ble_eq_true rfl⟩ (fun H locs X => ?_)
  refine lv_iload hx hb dL_law_601 (lv_at hl 1 rfl) ?_
  refine lv_icmp_eq (tgt := 608) hx hb dL_law_603 (by decide) (fun c603 => ?_) (fun c603 => ?_)
  · refine lv_iload hx hb dL_law_608 (lv_at hl 1 rfl) ?_
    refine lv_if_ne (tgt := 625) hx hb dL_law_610 (by decide) (fun c610 => ?_) (fun c610 => ?_)
    · refine lv_goto (tgt := 936) hx hb dL_law_625 (by decide) ?_
      exact cont _ _ _ _ _ _ _ _ X (lv_sub hl [2, 3, 4, 5, 6] rfl)
    · have hk0 : kx = 0 := c610
      refine lv_aload_n hx hb dL_law_613 rfl (lv_at hl 5 rfl) ?_
      refine lv_iconst (v := 0) hx hb dL_law_614 (by decide) ?_
      refine va_lald hx hb X.1 X.2.1 3 1 rfl rfl (vp_in_iff.mpr (by decide)) dL_law_615 ?_
      refine lv_iload hx hb dL_law_616 (lv_at hl 0 rfl) ?_
      refine lv_i2l (v := (rm).toInt64) hx hb dL_law_618 rfl ?_
      refine W.lcmp hx hb dL_law_619 ?_
      refine lv_if_eq (tgt := 625) hx hb dL_law_620 (by decide) (fun c620 => ?_) (fun c620 => ?_)
      · refine lv_goto (tgt := 936) hx hb dL_law_625 (by decide) ?_
        exact cont _ _ _ _ _ _ _ _ X (lv_sub hl [2, 3, 4, 5, 6] rfl)
      · exact absurd ((congrArg (fun z => lg_cmp z _) (ho hk0)).trans (lg_self _)) c620
  · exact absurd rfl c603
set_option maxHeartbeats 4000000 in
set_option maxRecDepth 100000 in
theorem lg_10 (hlt : l.stackTraces = false) (S : CallFix p m c cL_law 7 s args uG RL) (hX : va_X b L xs s s.heap) (hbl : b < s.heap.size) (hbA : ¬ A b) (hi1 : vp_in (v4 + 1) L) (hi2 : vp_in (v4 + 2) L) (h1 : h_L_run (if xs (v4 + 1).toNatClampNeg = 0 then 0 else 1) (xs (v4 + 2).toNatClampNeg) σ = some (kx, τ)) (h2 : f_X12_run (if xs (v4 + 1).toNatClampNeg = 0 then 0 else 1) (xs (v4 + 2).toNatClampNeg) μ = some (rm, μ1)) (ht : gI μ1 0 = kx) (ho : kx = 0 → gB τ 30 (0 : Int32).toNatClampNeg = (rm).toInt64)
    (hc : cells + (1 + (ka τ - ka σ)) ≤ room_1.cells ∧ slots + (6 + (sl τ - sl σ)) ≤ room_1.slots) (X : gL (dC, dI) x q9 ad kc sv sa va σ am km μ ak A s H locs) (hl : lv_has ls 7 [(0, .ref b), (1, .ref x), (2, .ref (am 0)), (3, .ref q9), (4, .int v4)])
    (cont : ∀ (ad : Nat → Nat) (kc : Nat → ClassId) (sv : Value) (sa va : Nat) (H : Heap) (locs : List Loc) (ls : Array Slot), gL (dC, dI) x q9 ad kc sv sa va τ am km μ1 ak A s H locs → lv_has ls 7 [(0, .ref b), (1, .ref x), (2, .ref (am 0)), (3, .ref q9), (4, .int v4)] → W p l e room_1 s m args below meth c H locs (cells + (1 + (ka τ - ka σ))) (slots + (6 + (sl τ - sl σ))) Q (F0 m 936 ls [])) : W p l e room_1 s m args below meth c H locs cells slots Q (F0 m 628 ls []) := by
  have hx := S.1
  have hb := S.2.1
  refine lv_aload_n hx hb dL_law_628 rfl (lv_at hl 1 rfl) ?_
  refine lv_aload_n hx hb dL_law_629 rfl (lv_at hl 0 rfl) ?_
  refine lv_iload hx hb dL_law_630 (lv_at hl 4 rfl) ?_
  refine lv_iconst (v := 1) hx hb dL_law_632 (by decide) ?_
  refine lv_iadd hx hb dL_law_633 ?_
  refine va_sld hx hb hX hbl hbA X.2.2.2.1 hi1 dL_law_634 ?_
  refine lv_if_eq (tgt := 642) hx hb dL_law_635 (by decide) (fun c635 => ?_) (fun c635 => ?_)
  · rw [if_pos c635] at h1 h2
    refine lv_iconst (v := 0) hx hb dL_law_642 (by decide) ?_
    refine lv_aload_n hx hb dL_law_643 rfl (lv_at hl 0 rfl) ?_
    refine lv_iload hx hb dL_law_644 (lv_at hl 4 rfl) ?_
    refine lv_iconst (v := 2) hx hb dL_law_646 (by decide) ?_
    refine lv_iadd hx hb dL_law_647 ?_
    refine va_sld hx hb hX hbl hbA X.2.2.2.1 hi2 dL_law_648 ?_
    refine lv_aload_n hx hb dL_law_649 rfl (lv_at hl 3 rfl) ?_
    refine gl_help (n := 4) (As := [.ref x, .int 0, .int (xs (v4 + 2).toNatClampNeg), .ref q9]) (rest := []) (m1 := (1 + (ka τ - ka σ))) (m2 := (6 + (sl τ - sl σ))) S X (k2_L_run l hlt dC dI x q9 ad kc sv sa va h1 H.size) mG_1791 mG_1790 mG_213 mG_1789 (by decide +kernel) rfl rfl hl.1 (Nat.le_of_ble_eq_true rfl) dL_law_650 hc ⟨Nat.le_of_ble_eq_true rfl, Nat.le_of_ble_eq_true rfl⟩ (fun ad kc sv sa va H locs X => ?_)
    refine lv_istore (lv' := [(5, .int kx), (0, .ref b), (1, .ref x), (2, .ref (am 0)), (3, .ref q9), (4, .int v4)]) hx hb dL_law_653 hl (by decide) rfl (fun ls hl => ?_)
    refine lv_aload_n hx hb dL_law_655 rfl (lv_at hl 3 rfl) ?_
    refine lv_aload_n hx hb dL_law_656 rfl (lv_at hl 1 rfl) ?_
    refine lv_iload hx hb dL_law_657 (lv_at hl 5 rfl) ?_
    refine lv_iconst (v := 1) hx hb dL_law_659 (by decide) ?_
    refine lv_iadd hx hb dL_law_660 ?_
    refine va_sld hx hb hX hbl hbA X.2.2.2.1 hi1 dL_law_661 ?_
    refine lv_if_eq (tgt := 669) hx hb dL_law_662 (by decide) (fun c662 => ?_) (fun c662 => ?_)
    · refine lv_iconst (v := 0) hx hb dL_law_669 (by decide) ?_
      refine lv_aload_n hx hb dL_law_670 rfl (lv_at hl 1 rfl) ?_
      refine lv_iload hx hb dL_law_671 (lv_at hl 5 rfl) ?_
      refine lv_iconst (v := 2) hx hb dL_law_673 (by decide) ?_
      refine lv_iadd hx hb dL_law_674 ?_
      refine va_sld hx hb hX hbl hbA X.2.2.2.1 hi2 dL_law_675 ?_
      refine gl_mi (As := [.int 0, .int (xs (v4 + 2).toNatClampNeg)]) (rest := []) (ci := 15) S X (k2_X12_run l dC dI am km h2 H.size) cw_X12_run mG_2776 rfl rfl rfl rfl rfl hl.1 (Nat.le_of_ble_eq_true rfl) dL_law_676 ⟨hc.1, hc.2⟩ ⟨Nat.le_of_ble_eq_true rfl, Nat.le_of_ble_eq_true rfl⟩ (fun H locs X => ?_)
      refine lv_istore (lv' := [(6, .int rm), (5, .int kx), (0, .ref b), (1, .ref x), (2, .ref (am 0)), (3, .ref q9), (4, .int v4)]) hx hb dL_law_679 hl (by decide) rfl (fun ls hl => ?_)
      refine lv_aload_n hx hb dL_law_681 rfl (lv_at hl 4 rfl) ?_
      refine gl_mi (As := []) (rest := []) (ci := 15) S X (k2_X12_thrown l dC dI am km (show f_X12_thrown μ1 = some (kx, μ1) from by rw [← ht]; rfl) H.size) cw_X12_thrown mG_2460 rfl rfl rfl rfl rfl hl.1 (Nat.le_of_ble_eq_true rfl) dL_law_682 ⟨hc.1, hc.2⟩ ⟨Nat.le_of_ble_eq_true rfl, Nat.le_of_ble_eq_true rfl⟩ (fun H locs X => ?_)
      refine lv_iload hx hb dL_law_685 (lv_at hl 1 rfl) ?_
      refine lv_icmp_eq (tgt := 692) hx hb dL_law_687 (by decide) (fun c687 => ?_) (fun c687 => ?_)
      · refine lv_iload hx hb dL_law_692 (lv_at hl 1 rfl) ?_
        refine lv_if_ne (tgt := 709) hx hb dL_law_694 (by decide) (fun c694 => ?_) (fun c694 => ?_)
        · refine lv_goto (tgt := 936) hx hb dL_law_709 (by decide) ?_
          exact cont _ _ _ _ _ _ _ _ X (lv_sub hl [2, 3, 4, 5, 6] rfl)
        · have hk0 : kx = 0 := c694
          refine lv_aload_n hx hb dL_law_697 rfl (lv_at hl 5 rfl) ?_
          refine lv_iconst (v := 0) hx hb dL_law_698 (by decide) ?_
          refine va_lald hx hb X.1 X.2.1 3 1 rfl rfl (vp_in_iff.mpr (by decide)) dL_law_699 ?_
          refine lv_iload hx hb dL_law_700 (lv_at hl 0 rfl) ?_
          refine lv_i2l (v := (rm).toInt64) hx hb dL_law_702 rfl ?_
          refine W.lcmp hx hb dL_law_703 ?_
          refine lv_if_eq (tgt := 709) hx hb dL_law_704 (by decide) (fun c704 => ?_) (fun c704 => ?_)
          · refine lv_goto (tgt := 936) hx hb dL_law_709 (by decide) ?_
            exact cont _ _ _ _ _ _ _ _ X (lv_sub hl [2, 3, 4, 5, 6] rfl)
          · exact absurd ((congrArg (fun z => lg_cmp z _) (ho hk0)).trans (lg_self _)) c704
      · exact absurd rfl c687
    · exact absurd c635 c662
  · rw [if_neg c635] at h1 h2
    refine lv_iconst (v := 1) hx hb dL_law_638 (by decide) ?_
    refine lv_goto (tgt := 643) hx hb dL_law_639 (by decide) ?_
    refine lv_aload_n hx hb dL_law_643 rfl (lv_at hl 0 rfl) ?_
    refine lv_iload hx hb dL_law_644 (lv_at hl 4 rfl) ?_
    refine lv_iconst (v := 2) hx hb dL_law_646 (by decide) ?_
    refine lv_iadd hx hb dL_law_647 ?_
    refine va_sld hx hb hX hbl hbA X.2.2.2.1 hi2 dL_law_648 ?_
    refine lv_aload_n hx hb dL_law_649 rfl (lv_at hl 3 rfl) ?_
    refine gl_help (n := 4) (As := [.ref x, .int 1, .int (xs (v4 + 2).toNatClampNeg), .ref q9]) (rest := []) (m1 := (1 + (ka τ - ka σ))) (m2 := (6 + (sl τ - sl σ))) S X (k2_L_run l hlt dC dI x q9 ad kc sv sa va h1 H.size) mG_1791 mG_1790 mG_213 mG_1789 (by decide +kernel) rfl rfl hl.1 (Nat.le_of_ble_eq_true rfl) dL_law_650 hc ⟨Nat.le_of_ble_eq_true rfl, Nat.le_of_ble_eq_true rfl⟩ (fun ad kc sv sa va H locs X => ?_)
    refine lv_istore (lv' := [(5, .int kx), (0, .ref b), (1, .ref x), (2, .ref (am 0)), (3, .ref q9), (4, .int v4)]) hx hb dL_law_653 hl (by decide) rfl (fun ls hl => ?_)
    refine lv_aload_n hx hb dL_law_655 rfl (lv_at hl 3 rfl) ?_
    refine lv_aload_n hx hb dL_law_656 rfl (lv_at hl 1 rfl) ?_
    refine lv_iload hx hb dL_law_657 (lv_at hl 5 rfl) ?_
    refine lv_iconst (v := 1) hx hb dL_law_659 (by decide) ?_
    refine lv_iadd hx hb dL_law_660 ?_
    refine va_sld hx hb hX hbl hbA X.2.2.2.1 hi1 dL_law_661 ?_
    refine lv_if_eq (tgt := 669) hx hb dL_law_662 (by decide) (fun c662 => ?_) (fun c662 => ?_)
    · exact absurd c662 c635
    · refine lv_iconst (v := 1) hx hb dL_law_665 (by decide) ?_
      refine lv_goto (tgt := 670) hx hb dL_law_666 (by decide) ?_
      refine lv_aload_n hx hb dL_law_670 rfl (lv_at hl 1 rfl) ?_
      refine lv_iload hx hb dL_law_671 (lv_at hl 5 rfl) ?_
      refine lv_iconst (v := 2) hx hb dL_law_673 (by decide) ?_
      refine lv_iadd hx hb dL_law_674 ?_
      refine va_sld hx hb hX hbl hbA X.2.2.2.1 hi2 dL_law_675 ?_
      refine gl_mi (As := [.int 1, .int (xs (v4 + 2).toNatClampNeg)]) (rest := []) (ci := 15) S X (k2_X12_run l dC dI am km h2 H.size) cw_X12_run mG_2776 rfl rfl rfl rfl rfl hl.1 (Nat.le_of_ble_eq_true rfl) dL_law_676 ⟨hc.1, hc.2⟩ ⟨Nat.le_of_ble_eq_true rfl, Nat.le_of_ble_eq_true rfl⟩ (fun H locs X => ?_)
      refine lv_istore (lv' := [(6, .int rm), (5, .int kx), (0, .ref b), (1, .ref x), (2, .ref (am 0)), (3, .ref q9), (4, .int v4)]) hx hb dL_law_679 hl (by decide) rfl (fun ls hl => ?_)
      refine lv_aload_n hx hb dL_law_681 rfl (lv_at hl 4 rfl) ?_
      refine gl_mi (As := []) (rest := []) (ci := 15) S X (k2_X12_thrown l dC dI am km (show f_X12_thrown μ1 = some (kx, μ1) from by rw [← ht]; rfl) H.size) cw_X12_thrown mG_2460 rfl rfl rfl rfl rfl hl.1 (Nat.le_of_ble_eq_true rfl) dL_law_682 ⟨hc.1, hc.2⟩ ⟨Nat.le_of_ble_eq_true rfl, Nat.le_of_ble_eq_true rfl⟩ (fun H locs X => ?_)
      refine lv_iload hx hb dL_law_685 (lv_at hl 1 rfl) ?_
      refine lv_icmp_eq (tgt := 692) hx hb dL_law_687 (by decide) (fun c687 => ?_) (fun c687 => ?_)
      · refine lv_iload hx hb dL_law_692 (lv_at hl 1 rfl) ?_
        refine lv_if_ne (tgt := 709) hx hb dL_law_694 (by decide) (fun c694 => ?_) (fun c694 => ?_)
        · refine lv_goto (tgt := 936) hx hb dL_law_709 (by decide) ?_
          exact cont _ _ _ _ _ _ _ _ X (lv_sub hl [2, 3, 4, 5, 6] rfl)
        · have hk0 : kx = 0 := c694
          refine lv_aload_n hx hb dL_law_697 rfl (lv_at hl 5 rfl) ?_
          refine lv_iconst (v := 0) hx hb dL_law_698 (by decide) ?_
          refine va_lald hx hb X.1 X.2.1 3 1 rfl rfl (vp_in_iff.mpr (by decide)) dL_law_699 ?_
          refine lv_iload hx hb dL_law_700 (lv_at hl 0 rfl) ?_
          refine lv_i2l (v := (rm).toInt64) hx hb dL_law_702 rfl ?_
          refine W.lcmp hx hb dL_law_703 ?_
          refine lv_if_eq (tgt := 709) hx hb dL_law_704 (by decide) (fun c704 => ?_) (fun c704 => ?_)
          · refine lv_goto (tgt := 936) hx hb dL_law_709 (by decide) ?_
            exact cont _ _ _ _ _ _ _ _ X (lv_sub hl [2, 3, 4, 5, 6] rfl)
          · exact absurd ((congrArg (fun z => lg_cmp z _) (ho hk0)).trans (lg_self _)) c704
      · exact absurd rfl c687
set_option maxHeartbeats 4000000 in
set_option maxRecDepth 100000 in
theorem lg_11 (hlt : l.stackTraces = false) (S : CallFix p m c cL_law 7 s args uG RL) (hX : va_X b L xs s s.heap) (hbl : b < s.heap.size) (hbA : ¬ A b) (hi1 : vp_in (v4 + 1) L) (hi2 : vp_in (v4 + 2) L) (h1 : h_L_result ((xs (v4 + 1).toNatClampNeg)) σ = some (kx, τ)) (h2 : f_X12_result ((xs (v4 + 1).toNatClampNeg)) μ = some (rm, μ1)) (ht : gI μ1 0 = kx) (ho : kx = 0 → gB τ 30 (0 : Int32).toNatClampNeg = (rm).toInt64)
    (hc : cells + 1 ≤ room_1.cells ∧ slots + 6 ≤ room_1.slots) (X : gL (dC, dI) x q9 ad kc sv sa va σ am km μ ak A s H locs) (hl : lv_has ls 7 [(0, .ref b), (1, .ref x), (2, .ref (am 0)), (3, .ref q9), (4, .int v4)])
    (cont : ∀ (ad : Nat → Nat) (kc : Nat → ClassId) (sv : Value) (sa va : Nat) (H : Heap) (locs : List Loc) (ls : Array Slot), gL (dC, dI) x q9 ad kc sv sa va τ am km μ1 ak A s H locs → lv_has ls 7 [(0, .ref b), (1, .ref x), (2, .ref (am 0)), (3, .ref q9), (4, .int v4)] → W p l e room_1 s m args below meth c H locs (cells + 1) (slots + 6) Q (F0 m 936 ls [])) : W p l e room_1 s m args below meth c H locs cells slots Q (F0 m 712 ls []) := by
  have hx := S.1
  have hb := S.2.1
  refine lv_aload_n hx hb dL_law_712 rfl (lv_at hl 1 rfl) ?_
  refine lv_aload_n hx hb dL_law_713 rfl (lv_at hl 0 rfl) ?_
  refine lv_iload hx hb dL_law_714 (lv_at hl 4 rfl) ?_
  refine lv_iconst (v := 1) hx hb dL_law_716 (by decide) ?_
  refine lv_iadd hx hb dL_law_717 ?_
  refine va_sld hx hb hX hbl hbA X.2.2.2.1 hi1 dL_law_718 ?_
  refine lv_aload_n hx hb dL_law_719 rfl (lv_at hl 3 rfl) ?_
  refine gl_help (n := 3) (As := [.ref x, .int (xs (v4 + 1).toNatClampNeg), .ref q9]) (rest := []) (m1 := 1) (m2 := 6) S X (k2_L_result l hlt dC dI x q9 ad kc sv sa va h1 H.size) mG_2014 mG_2013 mG_213 mG_2012 (by decide +kernel) rfl rfl hl.1 (Nat.le_of_ble_eq_true rfl) dL_law_720 hc ⟨Nat.le_of_ble_eq_true rfl, Nat.le_of_ble_eq_true rfl⟩ (fun ad kc sv sa va H locs X => ?_)
  refine lv_istore (lv' := [(5, .int kx), (0, .ref b), (1, .ref x), (2, .ref (am 0)), (3, .ref q9), (4, .int v4)]) hx hb dL_law_723 hl (by decide) rfl (fun ls hl => ?_)
  refine lv_aload_n hx hb dL_law_725 rfl (lv_at hl 3 rfl) ?_
  refine lv_aload_n hx hb dL_law_726 rfl (lv_at hl 1 rfl) ?_
  refine lv_iload hx hb dL_law_727 (lv_at hl 5 rfl) ?_
  refine lv_iconst (v := 1) hx hb dL_law_729 (by decide) ?_
  refine lv_iadd hx hb dL_law_730 ?_
  refine va_sld hx hb hX hbl hbA X.2.2.2.1 hi1 dL_law_731 ?_
  refine gl_mi (As := [.int (xs (v4 + 1).toNatClampNeg)]) (rest := []) (ci := 15) S X (k2_X12_result l dC dI am km h2 H.size) cw_X12_result mG_2979 rfl rfl rfl rfl rfl hl.1 (Nat.le_of_ble_eq_true rfl) dL_law_732 ⟨hc.1, hc.2⟩ ⟨Nat.le_of_ble_eq_true rfl, Nat.le_of_ble_eq_true rfl⟩ (fun H locs X => ?_)
  refine lv_istore (lv' := [(6, .int rm), (5, .int kx), (0, .ref b), (1, .ref x), (2, .ref (am 0)), (3, .ref q9), (4, .int v4)]) hx hb dL_law_735 hl (by decide) rfl (fun ls hl => ?_)
  refine lv_aload_n hx hb dL_law_737 rfl (lv_at hl 4 rfl) ?_
  refine gl_mi (As := []) (rest := []) (ci := 15) S X (k2_X12_thrown l dC dI am km (show f_X12_thrown μ1 = some (kx, μ1) from by rw [← ht]; rfl) H.size) cw_X12_thrown mG_2460 rfl rfl rfl rfl rfl hl.1 (Nat.le_of_ble_eq_true rfl) dL_law_738 ⟨hc.1, hc.2⟩ ⟨Nat.le_of_ble_eq_true rfl, Nat.le_of_ble_eq_true rfl⟩ (fun H locs X => ?_)
  refine lv_iload hx hb dL_law_741 (lv_at hl 1 rfl) ?_
  refine lv_icmp_eq (tgt := 748) hx hb dL_law_743 (by decide) (fun c743 => ?_) (fun c743 => ?_)
  · refine lv_iload hx hb dL_law_748 (lv_at hl 1 rfl) ?_
    refine lv_if_ne (tgt := 765) hx hb dL_law_750 (by decide) (fun c750 => ?_) (fun c750 => ?_)
    · refine lv_goto (tgt := 936) hx hb dL_law_765 (by decide) ?_
      exact cont _ _ _ _ _ _ _ _ X (lv_sub hl [2, 3, 4, 5, 6] rfl)
    · have hk0 : kx = 0 := c750
      refine lv_aload_n hx hb dL_law_753 rfl (lv_at hl 5 rfl) ?_
      refine lv_iconst (v := 0) hx hb dL_law_754 (by decide) ?_
      refine va_lald hx hb X.1 X.2.1 3 1 rfl rfl (vp_in_iff.mpr (by decide)) dL_law_755 ?_
      refine lv_iload hx hb dL_law_756 (lv_at hl 0 rfl) ?_
      refine lv_i2l (v := (rm).toInt64) hx hb dL_law_758 rfl ?_
      refine W.lcmp hx hb dL_law_759 ?_
      refine lv_if_eq (tgt := 765) hx hb dL_law_760 (by decide) (fun c760 => ?_) (fun c760 => ?_)
      · refine lv_goto (tgt := 936) hx hb dL_law_765 (by decide) ?_
        exact cont _ _ _ _ _ _ _ _ X (lv_sub hl [2, 3, 4, 5, 6] rfl)
      · exact absurd ((congrArg (fun z => lg_cmp z _) (ho hk0)).trans (lg_self _)) c760
  · exact absurd rfl c743
set_option maxHeartbeats 4000000 in
set_option maxRecDepth 100000 in
theorem lg_12 (hlt : l.stackTraces = false) (S : CallFix p m c cL_law 7 s args uG RL) (hX : va_X b L xs s s.heap) (hbl : b < s.heap.size) (hbA : ¬ A b) (hi1 : vp_in (v4 + 1) L) (hi2 : vp_in (v4 + 2) L) (h1 : h_L_number ((xs (v4 + 1).toNatClampNeg)) σ = some (kx, τ)) (h2 : f_X12_number ((xs (v4 + 1).toNatClampNeg)) μ = some (rm, μ1)) (ht : gI μ1 0 = kx) (ho : kx = 0 → gB τ 30 (0 : Int32).toNatClampNeg = (rm).toInt64)
    (hc : cells + 1 ≤ room_1.cells ∧ slots + 6 ≤ room_1.slots) (X : gL (dC, dI) x q9 ad kc sv sa va σ am km μ ak A s H locs) (hl : lv_has ls 7 [(0, .ref b), (1, .ref x), (2, .ref (am 0)), (3, .ref q9), (4, .int v4)])
    (cont : ∀ (ad : Nat → Nat) (kc : Nat → ClassId) (sv : Value) (sa va : Nat) (H : Heap) (locs : List Loc) (ls : Array Slot), gL (dC, dI) x q9 ad kc sv sa va τ am km μ1 ak A s H locs → lv_has ls 7 [(0, .ref b), (1, .ref x), (2, .ref (am 0)), (3, .ref q9), (4, .int v4)] → W p l e room_1 s m args below meth c H locs (cells + 1) (slots + 6) Q (F0 m 936 ls [])) : W p l e room_1 s m args below meth c H locs cells slots Q (F0 m 768 ls []) := by
  have hx := S.1
  have hb := S.2.1
  refine lv_aload_n hx hb dL_law_768 rfl (lv_at hl 1 rfl) ?_
  refine lv_aload_n hx hb dL_law_769 rfl (lv_at hl 0 rfl) ?_
  refine lv_iload hx hb dL_law_770 (lv_at hl 4 rfl) ?_
  refine lv_iconst (v := 1) hx hb dL_law_772 (by decide) ?_
  refine lv_iadd hx hb dL_law_773 ?_
  refine va_sld hx hb hX hbl hbA X.2.2.2.1 hi1 dL_law_774 ?_
  refine lv_aload_n hx hb dL_law_775 rfl (lv_at hl 3 rfl) ?_
  refine gl_help (n := 3) (As := [.ref x, .int (xs (v4 + 1).toNatClampNeg), .ref q9]) (rest := []) (m1 := 1) (m2 := 6) S X (k2_L_number l hlt dC dI x q9 ad kc sv sa va h1 H.size) mG_2021 mG_2020 mG_213 mG_2019 (by decide +kernel) rfl rfl hl.1 (Nat.le_of_ble_eq_true rfl) dL_law_776 hc ⟨Nat.le_of_ble_eq_true rfl, Nat.le_of_ble_eq_true rfl⟩ (fun ad kc sv sa va H locs X => ?_)
  refine lv_istore (lv' := [(5, .int kx), (0, .ref b), (1, .ref x), (2, .ref (am 0)), (3, .ref q9), (4, .int v4)]) hx hb dL_law_779 hl (by decide) rfl (fun ls hl => ?_)
  refine lv_aload_n hx hb dL_law_781 rfl (lv_at hl 3 rfl) ?_
  refine lv_aload_n hx hb dL_law_782 rfl (lv_at hl 1 rfl) ?_
  refine lv_iload hx hb dL_law_783 (lv_at hl 5 rfl) ?_
  refine lv_iconst (v := 1) hx hb dL_law_785 (by decide) ?_
  refine lv_iadd hx hb dL_law_786 ?_
  refine va_sld hx hb hX hbl hbA X.2.2.2.1 hi1 dL_law_787 ?_
  refine gl_mi (As := [.int (xs (v4 + 1).toNatClampNeg)]) (rest := []) (ci := 15) S X (k2_X12_number l dC dI am km h2 H.size) cw_X12_number mG_2983 rfl rfl rfl rfl rfl hl.1 (Nat.le_of_ble_eq_true rfl) dL_law_788 ⟨hc.1, hc.2⟩ ⟨Nat.le_of_ble_eq_true rfl, Nat.le_of_ble_eq_true rfl⟩ (fun H locs X => ?_)
  refine lv_istore (lv' := [(6, .int rm), (5, .int kx), (0, .ref b), (1, .ref x), (2, .ref (am 0)), (3, .ref q9), (4, .int v4)]) hx hb dL_law_791 hl (by decide) rfl (fun ls hl => ?_)
  refine lv_aload_n hx hb dL_law_793 rfl (lv_at hl 4 rfl) ?_
  refine gl_mi (As := []) (rest := []) (ci := 15) S X (k2_X12_thrown l dC dI am km (show f_X12_thrown μ1 = some (kx, μ1) from by rw [← ht]; rfl) H.size) cw_X12_thrown mG_2460 rfl rfl rfl rfl rfl hl.1 (Nat.le_of_ble_eq_true rfl) dL_law_794 ⟨hc.1, hc.2⟩ ⟨Nat.le_of_ble_eq_true rfl, Nat.le_of_ble_eq_true rfl⟩ (fun H locs X => ?_)
  refine lv_iload hx hb dL_law_797 (lv_at hl 1 rfl) ?_
  refine lv_icmp_eq (tgt := 804) hx hb dL_law_799 (by decide) (fun c799 => ?_) (fun c799 => ?_)
  · refine lv_iload hx hb dL_law_804 (lv_at hl 1 rfl) ?_
    refine lv_if_ne (tgt := 821) hx hb dL_law_806 (by decide) (fun c806 => ?_) (fun c806 => ?_)
    · refine lv_goto (tgt := 936) hx hb dL_law_821 (by decide) ?_
      exact cont _ _ _ _ _ _ _ _ X (lv_sub hl [2, 3, 4, 5, 6] rfl)
    · have hk0 : kx = 0 := c806
      refine lv_aload_n hx hb dL_law_809 rfl (lv_at hl 5 rfl) ?_
      refine lv_iconst (v := 0) hx hb dL_law_810 (by decide) ?_
      refine va_lald hx hb X.1 X.2.1 3 1 rfl rfl (vp_in_iff.mpr (by decide)) dL_law_811 ?_
      refine lv_iload hx hb dL_law_812 (lv_at hl 0 rfl) ?_
      refine lv_i2l (v := (rm).toInt64) hx hb dL_law_814 rfl ?_
      refine W.lcmp hx hb dL_law_815 ?_
      refine lv_if_eq (tgt := 821) hx hb dL_law_816 (by decide) (fun c816 => ?_) (fun c816 => ?_)
      · refine lv_goto (tgt := 936) hx hb dL_law_821 (by decide) ?_
        exact cont _ _ _ _ _ _ _ _ X (lv_sub hl [2, 3, 4, 5, 6] rfl)
      · exact absurd ((congrArg (fun z => lg_cmp z _) (ho hk0)).trans (lg_self _)) c816
  · exact absurd rfl c799
set_option maxHeartbeats 4000000 in
set_option maxRecDepth 100000 in
theorem lg_13 (hlt : l.stackTraces = false) (S : CallFix p m c cL_law 7 s args uG RL) (hX : va_X b L xs s s.heap) (hbl : b < s.heap.size) (hbA : ¬ A b) (hi1 : vp_in (v4 + 1) L) (hi2 : vp_in (v4 + 2) L) (h1 : h_L_called ((xs (v4 + 1).toNatClampNeg)) σ = some (kx, τ)) (h2 : f_X12_called ((xs (v4 + 1).toNatClampNeg)) μ = some (rm, μ1)) (ht : gI μ1 0 = kx) (ho : kx = 0 → gB τ 30 (0 : Int32).toNatClampNeg = (rm).toInt64)
    (hc : cells + 1 ≤ room_1.cells ∧ slots + 6 ≤ room_1.slots) (X : gL (dC, dI) x q9 ad kc sv sa va σ am km μ ak A s H locs) (hl : lv_has ls 7 [(0, .ref b), (1, .ref x), (2, .ref (am 0)), (3, .ref q9), (4, .int v4)])
    (cont : ∀ (ad : Nat → Nat) (kc : Nat → ClassId) (sv : Value) (sa va : Nat) (H : Heap) (locs : List Loc) (ls : Array Slot), gL (dC, dI) x q9 ad kc sv sa va τ am km μ1 ak A s H locs → lv_has ls 7 [(0, .ref b), (1, .ref x), (2, .ref (am 0)), (3, .ref q9), (4, .int v4)] → W p l e room_1 s m args below meth c H locs (cells + 1) (slots + 6) Q (F0 m 936 ls [])) : W p l e room_1 s m args below meth c H locs cells slots Q (F0 m 824 ls []) := by
  have hx := S.1
  have hb := S.2.1
  refine lv_aload_n hx hb dL_law_824 rfl (lv_at hl 1 rfl) ?_
  refine lv_aload_n hx hb dL_law_825 rfl (lv_at hl 0 rfl) ?_
  refine lv_iload hx hb dL_law_826 (lv_at hl 4 rfl) ?_
  refine lv_iconst (v := 1) hx hb dL_law_828 (by decide) ?_
  refine lv_iadd hx hb dL_law_829 ?_
  refine va_sld hx hb hX hbl hbA X.2.2.2.1 hi1 dL_law_830 ?_
  refine lv_aload_n hx hb dL_law_831 rfl (lv_at hl 3 rfl) ?_
  refine gl_help (n := 3) (As := [.ref x, .int (xs (v4 + 1).toNatClampNeg), .ref q9]) (rest := []) (m1 := 1) (m2 := 6) S X (k2_L_called l hlt dC dI x q9 ad kc sv sa va h1 H.size) mG_2028 mG_2027 mG_213 mG_2026 (by decide +kernel) rfl rfl hl.1 (Nat.le_of_ble_eq_true rfl) dL_law_832 hc ⟨Nat.le_of_ble_eq_true rfl, Nat.le_of_ble_eq_true rfl⟩ (fun ad kc sv sa va H locs X => ?_)
  refine lv_istore (lv' := [(5, .int kx), (0, .ref b), (1, .ref x), (2, .ref (am 0)), (3, .ref q9), (4, .int v4)]) hx hb dL_law_835 hl (by decide) rfl (fun ls hl => ?_)
  refine lv_aload_n hx hb dL_law_837 rfl (lv_at hl 3 rfl) ?_
  refine lv_aload_n hx hb dL_law_838 rfl (lv_at hl 1 rfl) ?_
  refine lv_iload hx hb dL_law_839 (lv_at hl 5 rfl) ?_
  refine lv_iconst (v := 1) hx hb dL_law_841 (by decide) ?_
  refine lv_iadd hx hb dL_law_842 ?_
  refine va_sld hx hb hX hbl hbA X.2.2.2.1 hi1 dL_law_843 ?_
  refine gl_mi (As := [.int (xs (v4 + 1).toNatClampNeg)]) (rest := []) (ci := 15) S X (k2_X12_called l dC dI am km h2 H.size) cw_X12_called mG_2987 rfl rfl rfl rfl rfl hl.1 (Nat.le_of_ble_eq_true rfl) dL_law_844 ⟨hc.1, hc.2⟩ ⟨Nat.le_of_ble_eq_true rfl, Nat.le_of_ble_eq_true rfl⟩ (fun H locs X => ?_)
  refine lv_istore (lv' := [(6, .int rm), (5, .int kx), (0, .ref b), (1, .ref x), (2, .ref (am 0)), (3, .ref q9), (4, .int v4)]) hx hb dL_law_847 hl (by decide) rfl (fun ls hl => ?_)
  refine lv_aload_n hx hb dL_law_849 rfl (lv_at hl 4 rfl) ?_
  refine gl_mi (As := []) (rest := []) (ci := 15) S X (k2_X12_thrown l dC dI am km (show f_X12_thrown μ1 = some (kx, μ1) from by rw [← ht]; rfl) H.size) cw_X12_thrown mG_2460 rfl rfl rfl rfl rfl hl.1 (Nat.le_of_ble_eq_true rfl) dL_law_850 ⟨hc.1, hc.2⟩ ⟨Nat.le_of_ble_eq_true rfl, Nat.le_of_ble_eq_true rfl⟩ (fun H locs X => ?_)
  refine lv_iload hx hb dL_law_853 (lv_at hl 1 rfl) ?_
  refine lv_icmp_eq (tgt := 860) hx hb dL_law_855 (by decide) (fun c855 => ?_) (fun c855 => ?_)
  · refine lv_iload hx hb dL_law_860 (lv_at hl 1 rfl) ?_
    refine lv_if_ne (tgt := 877) hx hb dL_law_862 (by decide) (fun c862 => ?_) (fun c862 => ?_)
    · refine lv_goto (tgt := 936) hx hb dL_law_877 (by decide) ?_
      exact cont _ _ _ _ _ _ _ _ X (lv_sub hl [2, 3, 4, 5, 6] rfl)
    · have hk0 : kx = 0 := c862
      refine lv_aload_n hx hb dL_law_865 rfl (lv_at hl 5 rfl) ?_
      refine lv_iconst (v := 0) hx hb dL_law_866 (by decide) ?_
      refine va_lald hx hb X.1 X.2.1 3 1 rfl rfl (vp_in_iff.mpr (by decide)) dL_law_867 ?_
      refine lv_iload hx hb dL_law_868 (lv_at hl 0 rfl) ?_
      refine lv_i2l (v := (rm).toInt64) hx hb dL_law_870 rfl ?_
      refine W.lcmp hx hb dL_law_871 ?_
      refine lv_if_eq (tgt := 877) hx hb dL_law_872 (by decide) (fun c872 => ?_) (fun c872 => ?_)
      · refine lv_goto (tgt := 936) hx hb dL_law_877 (by decide) ?_
        exact cont _ _ _ _ _ _ _ _ X (lv_sub hl [2, 3, 4, 5, 6] rfl)
      · exact absurd ((congrArg (fun z => lg_cmp z _) (ho hk0)).trans (lg_self _)) c872
  · exact absurd rfl c855
set_option maxHeartbeats 4000000 in
set_option maxRecDepth 100000 in
theorem lg_14 (hlt : l.stackTraces = false) (S : CallFix p m c cL_law 7 s args uG RL) (hX : va_X b L xs s s.heap) (hbl : b < s.heap.size) (hbA : ¬ A b) (hi1 : vp_in (v4 + 1) L) (hi2 : vp_in (v4 + 2) L) (h1 : h_L_about ((xs (v4 + 1).toNatClampNeg)) σ = some (kx, τ)) (h2 : f_X12_about ((xs (v4 + 1).toNatClampNeg)) μ = some (rm, μ1)) (ht : gI μ1 0 = kx) (ho : kx = 0 → gB τ 30 (0 : Int32).toNatClampNeg = (rm).toInt64)
    (hc : cells + 1 ≤ room_1.cells ∧ slots + 6 ≤ room_1.slots) (X : gL (dC, dI) x q9 ad kc sv sa va σ am km μ ak A s H locs) (hl : lv_has ls 7 [(0, .ref b), (1, .ref x), (2, .ref (am 0)), (3, .ref q9), (4, .int v4)])
    (cont : ∀ (ad : Nat → Nat) (kc : Nat → ClassId) (sv : Value) (sa va : Nat) (H : Heap) (locs : List Loc) (ls : Array Slot), gL (dC, dI) x q9 ad kc sv sa va τ am km μ1 ak A s H locs → lv_has ls 7 [(0, .ref b), (1, .ref x), (2, .ref (am 0)), (3, .ref q9), (4, .int v4)] → W p l e room_1 s m args below meth c H locs (cells + 1) (slots + 6) Q (F0 m 936 ls [])) : W p l e room_1 s m args below meth c H locs cells slots Q (F0 m 880 ls []) := by
  have hx := S.1
  have hb := S.2.1
  refine lv_aload_n hx hb dL_law_880 rfl (lv_at hl 1 rfl) ?_
  refine lv_aload_n hx hb dL_law_881 rfl (lv_at hl 0 rfl) ?_
  refine lv_iload hx hb dL_law_882 (lv_at hl 4 rfl) ?_
  refine lv_iconst (v := 1) hx hb dL_law_884 (by decide) ?_
  refine lv_iadd hx hb dL_law_885 ?_
  refine va_sld hx hb hX hbl hbA X.2.2.2.1 hi1 dL_law_886 ?_
  refine lv_aload_n hx hb dL_law_887 rfl (lv_at hl 3 rfl) ?_
  refine gl_help (n := 3) (As := [.ref x, .int (xs (v4 + 1).toNatClampNeg), .ref q9]) (rest := []) (m1 := 1) (m2 := 6) S X (k2_L_about l hlt dC dI x q9 ad kc sv sa va h1 H.size) mG_2035 mG_2034 mG_213 mG_2033 (by decide +kernel) rfl rfl hl.1 (Nat.le_of_ble_eq_true rfl) dL_law_888 hc ⟨Nat.le_of_ble_eq_true rfl, Nat.le_of_ble_eq_true rfl⟩ (fun ad kc sv sa va H locs X => ?_)
  refine lv_istore (lv' := [(5, .int kx), (0, .ref b), (1, .ref x), (2, .ref (am 0)), (3, .ref q9), (4, .int v4)]) hx hb dL_law_891 hl (by decide) rfl (fun ls hl => ?_)
  refine lv_aload_n hx hb dL_law_893 rfl (lv_at hl 3 rfl) ?_
  refine lv_aload_n hx hb dL_law_894 rfl (lv_at hl 1 rfl) ?_
  refine lv_iload hx hb dL_law_895 (lv_at hl 5 rfl) ?_
  refine lv_iconst (v := 1) hx hb dL_law_897 (by decide) ?_
  refine lv_iadd hx hb dL_law_898 ?_
  refine va_sld hx hb hX hbl hbA X.2.2.2.1 hi1 dL_law_899 ?_
  refine gl_mi (As := [.int (xs (v4 + 1).toNatClampNeg)]) (rest := []) (ci := 15) S X (k2_X12_about l dC dI am km h2 H.size) cw_X12_about mG_2991 rfl rfl rfl rfl rfl hl.1 (Nat.le_of_ble_eq_true rfl) dL_law_900 ⟨hc.1, hc.2⟩ ⟨Nat.le_of_ble_eq_true rfl, Nat.le_of_ble_eq_true rfl⟩ (fun H locs X => ?_)
  refine lv_istore (lv' := [(6, .int rm), (5, .int kx), (0, .ref b), (1, .ref x), (2, .ref (am 0)), (3, .ref q9), (4, .int v4)]) hx hb dL_law_903 hl (by decide) rfl (fun ls hl => ?_)
  refine lv_aload_n hx hb dL_law_905 rfl (lv_at hl 4 rfl) ?_
  refine gl_mi (As := []) (rest := []) (ci := 15) S X (k2_X12_thrown l dC dI am km (show f_X12_thrown μ1 = some (kx, μ1) from by rw [← ht]; rfl) H.size) cw_X12_thrown mG_2460 rfl rfl rfl rfl rfl hl.1 (Nat.le_of_ble_eq_true rfl) dL_law_906 ⟨hc.1, hc.2⟩ ⟨Nat.le_of_ble_eq_true rfl, Nat.le_of_ble_eq_true rfl⟩ (fun H locs X => ?_)
  refine lv_iload hx hb dL_law_909 (lv_at hl 1 rfl) ?_
  refine lv_icmp_eq (tgt := 916) hx hb dL_law_911 (by decide) (fun c911 => ?_) (fun c911 => ?_)
  · refine lv_iload hx hb dL_law_916 (lv_at hl 1 rfl) ?_
    refine lv_if_ne (tgt := 933) hx hb dL_law_918 (by decide) (fun c918 => ?_) (fun c918 => ?_)
    · refine lv_goto (tgt := 936) hx hb dL_law_933 (by decide) ?_
      exact cont _ _ _ _ _ _ _ _ X (lv_sub hl [2, 3, 4, 5, 6] rfl)
    · have hk0 : kx = 0 := c918
      refine lv_aload_n hx hb dL_law_921 rfl (lv_at hl 5 rfl) ?_
      refine lv_iconst (v := 0) hx hb dL_law_922 (by decide) ?_
      refine va_lald hx hb X.1 X.2.1 3 1 rfl rfl (vp_in_iff.mpr (by decide)) dL_law_923 ?_
      refine lv_iload hx hb dL_law_924 (lv_at hl 0 rfl) ?_
      refine lv_i2l (v := (rm).toInt64) hx hb dL_law_926 rfl ?_
      refine W.lcmp hx hb dL_law_927 ?_
      refine lv_if_eq (tgt := 933) hx hb dL_law_928 (by decide) (fun c928 => ?_) (fun c928 => ?_)
      · refine lv_goto (tgt := 936) hx hb dL_law_933 (by decide) ?_
        exact cont _ _ _ _ _ _ _ _ X (lv_sub hl [2, 3, 4, 5, 6] rfl)
      · exact absurd ((congrArg (fun z => lg_cmp z _) (ho hk0)).trans (lg_self _)) c928
  · exact absurd rfl c911
end SEM7

