
theorem mG_1 : Cond.selects "LazyForge$Words" yX10_passBlanks yX10_passBlanks ∈ uG := uG_at 1 (by decide +kernel) (by decide +kernel)
theorem mG_8 : Cond.selects "LazyForge$Reader" yX5_refuse yX5_refuse ∈ uG := uG_at 8 (by decide +kernel) (by decide +kernel)
theorem mG_10 : Cond.selects "LazyForge$Reader" yX5_readFunction yX5_readFunction ∈ uG := uG_at 10 (by decide +kernel) (by decide +kernel)
theorem mG_518 : Cond.fieldLink "LazyForge$Reader" 62 "LazyForge$Words" "kind" "I" ∈ uG := uG_at 518 (by decide +kernel) (by decide +kernel)
theorem mG_520 : Cond.fieldLink "LazyForge$Words" 28 "LazyForge$Words" "place" "I" ∈ uG := uG_at 520 (by decide +kernel) (by decide +kernel)
theorem mG_546 : Cond.fieldLink "LazyForge$Reader" 50 "LazyForge$Reader" "parts" "I" ∈ uG := uG_at 546 (by decide +kernel) (by decide +kernel)
theorem mG_548 : Cond.fieldLink "LazyForge$Reader" 53 "LazyForge$Reader" "open" "I" ∈ uG := uG_at 548 (by decide +kernel) (by decide +kernel)
theorem mG_549 : Cond.fieldLink "LazyForge$Reader" 56 "LazyForge$Reader" "here" "I" ∈ uG := uG_at 549 (by decide +kernel) (by decide +kernel)
theorem mG_896 : Cond.methodLink "LazyForge$Reader" 32 yX9_clear ∈ uG := uG_at 896 (by decide +kernel) (by decide +kernel)
theorem mG_897 : Cond.instanceMethod yX9_clear ∈ uG := uG_at 897 (by decide +kernel) (by decide +kernel)
theorem mG_898 : Cond.selects "LazyForge$Tree" yX9_clear yX9_clear ∈ uG := uG_at 898 (by decide +kernel) (by decide +kernel)
theorem mG_899 : Cond.code yX9_clear prog_11_method_2_code 1 none ∈ uG := uG_at 899 (by decide +kernel) (by decide +kernel)
theorem mG_900 : Cond.methodLink "LazyForge$Reader" 37 yX4_clear ∈ uG := uG_at 900 (by decide +kernel) (by decide +kernel)
theorem mG_901 : Cond.instanceMethod yX4_clear ∈ uG := uG_at 901 (by decide +kernel) (by decide +kernel)
theorem mG_902 : Cond.selects "LazyForge$Program" yX4_clear yX4_clear ∈ uG := uG_at 902 (by decide +kernel) (by decide +kernel)
theorem mG_903 : Cond.code yX4_clear prog_6_method_2_code 1 none ∈ uG := uG_at 903 (by decide +kernel) (by decide +kernel)
theorem mG_910 : Cond.methodLink "LazyForge$Reader" 40 yX6_clear ∈ uG := uG_at 910 (by decide +kernel) (by decide +kernel)
theorem mG_911 : Cond.instanceMethod yX6_clear ∈ uG := uG_at 911 (by decide +kernel) (by decide +kernel)
theorem mG_912 : Cond.selects "LazyForge$Scopes" yX6_clear yX6_clear ∈ uG := uG_at 912 (by decide +kernel) (by decide +kernel)
theorem mG_913 : Cond.code yX6_clear prog_8_method_2_code 1 none ∈ uG := uG_at 913 (by decide +kernel) (by decide +kernel)
theorem mG_914 : Cond.methodLink "LazyForge$Reader" 59 yX10_begin ∈ uG := uG_at 914 (by decide +kernel) (by decide +kernel)
theorem mG_915 : Cond.instanceMethod yX10_begin ∈ uG := uG_at 915 (by decide +kernel) (by decide +kernel)
theorem mG_916 : Cond.selects "LazyForge$Words" yX10_begin yX10_begin ∈ uG := uG_at 916 (by decide +kernel) (by decide +kernel)
theorem mG_917 : Cond.code yX10_begin prog_12_method_2_code 1 none ∈ uG := uG_at 917 (by decide +kernel) (by decide +kernel)
theorem mG_918 : Cond.methodLink "LazyForge$Words" 22 yX10_advance ∈ uG := uG_at 918 (by decide +kernel) (by decide +kernel)
theorem mG_919 : Cond.instanceMethod yX10_advance ∈ uG := uG_at 919 (by decide +kernel) (by decide +kernel)
theorem mG_920 : Cond.selects "LazyForge$Words" yX10_advance yX10_advance ∈ uG := uG_at 920 (by decide +kernel) (by decide +kernel)
theorem mG_921 : Cond.code yX10_advance prog_12_method_4_code 2 none ∈ uG := uG_at 921 (by decide +kernel) (by decide +kernel)
theorem mG_922 : Cond.methodLink "LazyForge$Words" 25 yX10_passBlanks ∈ uG := uG_at 922 (by decide +kernel) (by decide +kernel)
theorem mG_924 : Cond.instanceMethod yX10_passBlanks ∈ uG := uG_at 924 (by decide +kernel) (by decide +kernel)
theorem mG_925 : Cond.code yX10_passBlanks prog_12_method_5_code 3 none ∈ uG := uG_at 925 (by decide +kernel) (by decide +kernel)
theorem mG_1059 : Cond.methodLink "LazyForge$Reader" 80 yX5_refuse ∈ uG := uG_at 1059 (by decide +kernel) (by decide +kernel)
theorem mG_1061 : Cond.instanceMethod yX5_refuse ∈ uG := uG_at 1061 (by decide +kernel) (by decide +kernel)
theorem mG_1062 : Cond.code yX5_refuse prog_7_method_3_code 2 none ∈ uG := uG_at 1062 (by decide +kernel) (by decide +kernel)
theorem mG_1076 : Cond.methodLink "LazyForge$Reader" 68 yX5_readFunction ∈ uG := uG_at 1076 (by decide +kernel) (by decide +kernel)
theorem mG_1078 : Cond.instanceMethod yX5_readFunction ∈ uG := uG_at 1078 (by decide +kernel) (by decide +kernel)
theorem mG_1079 : Cond.code yX5_readFunction prog_7_method_9_code 2 none ∈ uG := uG_at 1079 (by decide +kernel) (by decide +kernel)
theorem dX10_advance_0 : decode cX10_advance 0 = .ok (.aload_n 0, 1) := by decide +kernel
theorem dX10_advance_1 : decode cX10_advance 1 = .ok (.getfield 19, 3) := by decide +kernel
theorem dX10_advance_4 : decode cX10_advance 4 = .ok (.ifCond .ne 4, 3) := by decide +kernel
theorem dX10_advance_7 : decode cX10_advance 7 = .ok (.return_, 1) := by decide +kernel
theorem dX10_advance_8 : decode cX10_advance 8 = .ok (.aload_n 0, 1) := by decide +kernel
theorem dX10_advance_9 : decode cX10_advance 9 = .ok (.invokevirtual 25, 3) := by decide +kernel
theorem dX10_advance_12 : decode cX10_advance 12 = .ok (.aload_n 0, 1) := by decide +kernel
theorem dX10_advance_13 : decode cX10_advance 13 = .ok (.aload_n 0, 1) := by decide +kernel
theorem dX10_advance_14 : decode cX10_advance 14 = .ok (.getfield 15, 3) := by decide +kernel
theorem dX10_advance_17 : decode cX10_advance 17 = .ok (.putfield 28, 3) := by decide +kernel
theorem dX10_advance_20 : decode cX10_advance 20 = .ok (.aload_n 0, 1) := by decide +kernel
theorem dX10_advance_21 : decode cX10_advance 21 = .ok (.getfield 9, 3) := by decide +kernel
theorem dX10_advance_24 : decode cX10_advance 24 = .ok (.aload_n 0, 1) := by decide +kernel
theorem dX10_advance_25 : decode cX10_advance 25 = .ok (.getfield 15, 3) := by decide +kernel
theorem dX10_advance_28 : decode cX10_advance 28 = .ok (.invokevirtual 31, 3) := by decide +kernel
theorem dX10_advance_31 : decode cX10_advance 31 = .ok (.istore_n 1, 1) := by decide +kernel
theorem dX10_advance_32 : decode cX10_advance 32 = .ok (.iload_n 1, 1) := by decide +kernel
theorem dX10_advance_33 : decode cX10_advance 33 = .ok (.iconst (-1), 1) := by decide +kernel
theorem dX10_advance_34 : decode cX10_advance 34 = .ok (.if_icmp .ne 11, 3) := by decide +kernel
theorem dX10_advance_37 : decode cX10_advance 37 = .ok (.aload_n 0, 1) := by decide +kernel
theorem dX10_advance_38 : decode cX10_advance 38 = .ok (.iconst 1, 1) := by decide +kernel
theorem dX10_advance_39 : decode cX10_advance 39 = .ok (.putfield 19, 3) := by decide +kernel
theorem dX10_advance_42 : decode cX10_advance 42 = .ok (.goto 44, 3) := by decide +kernel
theorem dX10_advance_45 : decode cX10_advance 45 = .ok (.iload_n 1, 1) := by decide +kernel
theorem dX10_advance_46 : decode cX10_advance 46 = .ok (.invokestatic 37, 3) := by decide +kernel
theorem dX10_advance_49 : decode cX10_advance 49 = .ok (.ifCond .ne 10, 3) := by decide +kernel
theorem dX10_advance_52 : decode cX10_advance 52 = .ok (.iload_n 1, 1) := by decide +kernel
theorem dX10_advance_53 : decode cX10_advance 53 = .ok (.invokestatic 41, 3) := by decide +kernel
theorem dX10_advance_56 : decode cX10_advance 56 = .ok (.ifCond .eq 11, 3) := by decide +kernel
theorem dX10_advance_59 : decode cX10_advance 59 = .ok (.aload_n 0, 1) := by decide +kernel
theorem dX10_advance_60 : decode cX10_advance 60 = .ok (.iload_n 1, 1) := by decide +kernel
theorem dX10_advance_61 : decode cX10_advance 61 = .ok (.invokevirtual 44, 3) := by decide +kernel
theorem dX10_advance_64 : decode cX10_advance 64 = .ok (.goto 22, 3) := by decide +kernel
theorem dX10_advance_67 : decode cX10_advance 67 = .ok (.iload_n 1, 1) := by decide +kernel
theorem dX10_advance_68 : decode cX10_advance 68 = .ok (.invokestatic 48, 3) := by decide +kernel
theorem dX10_advance_71 : decode cX10_advance 71 = .ok (.ifCond .eq 10, 3) := by decide +kernel
theorem dX10_advance_74 : decode cX10_advance 74 = .ok (.aload_n 0, 1) := by decide +kernel
theorem dX10_advance_75 : decode cX10_advance 75 = .ok (.invokevirtual 51, 3) := by decide +kernel
theorem dX10_advance_78 : decode cX10_advance 78 = .ok (.goto 8, 3) := by decide +kernel
theorem dX10_advance_81 : decode cX10_advance 81 = .ok (.aload_n 0, 1) := by decide +kernel
theorem dX10_advance_82 : decode cX10_advance 82 = .ok (.iload_n 1, 1) := by decide +kernel
theorem dX10_advance_83 : decode cX10_advance 83 = .ok (.invokevirtual 54, 3) := by decide +kernel
theorem dX10_advance_86 : decode cX10_advance 86 = .ok (.return_, 1) := by decide +kernel
theorem dX10_begin_0 : decode cX10_begin 0 = .ok (.aload_n 0, 1) := by decide +kernel
theorem dX10_begin_1 : decode cX10_begin 1 = .ok (.iconst 0, 1) := by decide +kernel
theorem dX10_begin_2 : decode cX10_begin 2 = .ok (.putfield 15, 3) := by decide +kernel
theorem dX10_begin_5 : decode cX10_begin 5 = .ok (.aload_n 0, 1) := by decide +kernel
theorem dX10_begin_6 : decode cX10_begin 6 = .ok (.iconst 2, 1) := by decide +kernel
theorem dX10_begin_7 : decode cX10_begin 7 = .ok (.putfield 19, 3) := by decide +kernel
theorem dX10_begin_10 : decode cX10_begin 10 = .ok (.aload_n 0, 1) := by decide +kernel
theorem dX10_begin_11 : decode cX10_begin 11 = .ok (.invokevirtual 22, 3) := by decide +kernel
theorem dX10_begin_14 : decode cX10_begin 14 = .ok (.return_, 1) := by decide +kernel
theorem dX5_readFunction_0 : decode cX5_readFunction 0 = .ok (.aload_n 0, 1) := by decide +kernel
theorem dX5_readFunction_1 : decode cX5_readFunction 1 = .ok (.getfield 14, 3) := by decide +kernel
theorem dX5_readFunction_4 : decode cX5_readFunction 4 = .ok (.getfield 62, 3) := by decide +kernel
theorem dX5_readFunction_7 : decode cX5_readFunction 7 = .ok (.iconst 3, 1) := by decide +kernel
theorem dX5_readFunction_8 : decode cX5_readFunction 8 = .ok (.if_icmp .eq 11, 3) := by decide +kernel
theorem dX5_readFunction_11 : decode cX5_readFunction 11 = .ok (.aload_n 0, 1) := by decide +kernel
theorem dX5_readFunction_12 : decode cX5_readFunction 12 = .ok (.iconst 1, 1) := by decide +kernel
theorem dX5_readFunction_13 : decode cX5_readFunction 13 = .ok (.invokevirtual 80, 3) := by decide +kernel
theorem dX5_readFunction_16 : decode cX5_readFunction 16 = .ok (.goto 46, 3) := by decide +kernel
theorem dX5_readFunction_19 : decode cX5_readFunction 19 = .ok (.aload_n 0, 1) := by decide +kernel
theorem dX5_readFunction_20 : decode cX5_readFunction 20 = .ok (.getfield 24, 3) := by decide +kernel
theorem dX5_readFunction_23 : decode cX5_readFunction 23 = .ok (.aload_n 0, 1) := by decide +kernel
theorem dX5_readFunction_24 : decode cX5_readFunction 24 = .ok (.getfield 14, 3) := by decide +kernel
theorem dX5_readFunction_27 : decode cX5_readFunction 27 = .ok (.getfield 90, 3) := by decide +kernel
theorem dX5_readFunction_30 : decode cX5_readFunction 30 = .ok (.invokevirtual 108, 3) := by decide +kernel
theorem dX5_readFunction_33 : decode cX5_readFunction 33 = .ok (.iconst (-1), 1) := by decide +kernel
theorem dX5_readFunction_34 : decode cX5_readFunction 34 = .ok (.if_icmp .eq 11, 3) := by decide +kernel
theorem dX5_readFunction_37 : decode cX5_readFunction 37 = .ok (.aload_n 0, 1) := by decide +kernel
theorem dX5_readFunction_38 : decode cX5_readFunction 38 = .ok (.iconst 2, 1) := by decide +kernel
theorem dX5_readFunction_39 : decode cX5_readFunction 39 = .ok (.invokevirtual 80, 3) := by decide +kernel
theorem dX5_readFunction_42 : decode cX5_readFunction 42 = .ok (.goto 20, 3) := by decide +kernel
theorem dX5_readFunction_45 : decode cX5_readFunction 45 = .ok (.aload_n 0, 1) := by decide +kernel
theorem dX5_readFunction_46 : decode cX5_readFunction 46 = .ok (.getfield 24, 3) := by decide +kernel
theorem dX5_readFunction_49 : decode cX5_readFunction 49 = .ok (.getfield 111, 3) := by decide +kernel
theorem dX5_readFunction_52 : decode cX5_readFunction 52 = .ok (.bipush 30, 2) := by decide +kernel
theorem dX5_readFunction_54 : decode cX5_readFunction 54 = .ok (.if_icmp .lt 8, 3) := by decide +kernel
theorem dX5_readFunction_57 : decode cX5_readFunction 57 = .ok (.aload_n 0, 1) := by decide +kernel
theorem dX5_readFunction_58 : decode cX5_readFunction 58 = .ok (.iconst 4, 1) := by decide +kernel
theorem dX5_readFunction_59 : decode cX5_readFunction 59 = .ok (.invokevirtual 80, 3) := by decide +kernel
theorem dX5_readFunction_62 : decode cX5_readFunction 62 = .ok (.aload_n 0, 1) := by decide +kernel
theorem dX5_readFunction_63 : decode cX5_readFunction 63 = .ok (.getfield 14, 3) := by decide +kernel
theorem dX5_readFunction_66 : decode cX5_readFunction 66 = .ok (.getfield 62, 3) := by decide +kernel
theorem dX5_readFunction_69 : decode cX5_readFunction 69 = .ok (.ifCond .ne 4, 3) := by decide +kernel
theorem dX5_readFunction_72 : decode cX5_readFunction 72 = .ok (.return_, 1) := by decide +kernel
theorem dX5_readFunction_73 : decode cX5_readFunction 73 = .ok (.aload_n 0, 1) := by decide +kernel
theorem dX5_readFunction_74 : decode cX5_readFunction 74 = .ok (.getfield 28, 3) := by decide +kernel
theorem dX5_readFunction_77 : decode cX5_readFunction 77 = .ok (.iconst (-1), 1) := by decide +kernel
theorem dX5_readFunction_78 : decode cX5_readFunction 78 = .ok (.aload_n 0, 1) := by decide +kernel
theorem dX5_readFunction_79 : decode cX5_readFunction 79 = .ok (.getfield 14, 3) := by decide +kernel
theorem dX5_readFunction_82 : decode cX5_readFunction 82 = .ok (.getfield 71, 3) := by decide +kernel
theorem dX5_readFunction_85 : decode cX5_readFunction 85 = .ok (.iconst 1, 1) := by decide +kernel
theorem dX5_readFunction_86 : decode cX5_readFunction 86 = .ok (.invokevirtual 114, 3) := by decide +kernel
theorem dX5_readFunction_89 : decode cX5_readFunction 89 = .ok (.istore_n 1, 1) := by decide +kernel
theorem dX5_readFunction_90 : decode cX5_readFunction 90 = .ok (.aload_n 0, 1) := by decide +kernel
theorem dX5_readFunction_91 : decode cX5_readFunction 91 = .ok (.getfield 24, 3) := by decide +kernel
theorem dX5_readFunction_94 : decode cX5_readFunction 94 = .ok (.aload_n 0, 1) := by decide +kernel
theorem dX5_readFunction_95 : decode cX5_readFunction 95 = .ok (.getfield 14, 3) := by decide +kernel
theorem dX5_readFunction_98 : decode cX5_readFunction 98 = .ok (.getfield 90, 3) := by decide +kernel
theorem dX5_readFunction_101 : decode cX5_readFunction 101 = .ok (.iload_n 1, 1) := by decide +kernel
theorem dX5_readFunction_102 : decode cX5_readFunction 102 = .ok (.invokevirtual 118, 3) := by decide +kernel
theorem dX5_readFunction_105 : decode cX5_readFunction 105 = .ok (.aload_n 0, 1) := by decide +kernel
theorem dX5_readFunction_106 : decode cX5_readFunction 106 = .ok (.getfield 14, 3) := by decide +kernel
theorem dX5_readFunction_109 : decode cX5_readFunction 109 = .ok (.invokevirtual 77, 3) := by decide +kernel
theorem dX5_readFunction_112 : decode cX5_readFunction 112 = .ok (.aload_n 0, 1) := by decide +kernel
theorem dX5_readFunction_113 : decode cX5_readFunction 113 = .ok (.iload_n 1, 1) := by decide +kernel
theorem dX5_readFunction_114 : decode cX5_readFunction 114 = .ok (.invokevirtual 121, 3) := by decide +kernel
theorem dX5_readFunction_117 : decode cX5_readFunction 117 = .ok (.aload_n 0, 1) := by decide +kernel
theorem dX5_readFunction_118 : decode cX5_readFunction 118 = .ok (.bipush 61, 2) := by decide +kernel
theorem dX5_readFunction_120 : decode cX5_readFunction 120 = .ok (.invokevirtual 87, 3) := by decide +kernel
theorem dX5_readFunction_123 : decode cX5_readFunction 123 = .ok (.aload_n 0, 1) := by decide +kernel
theorem dX5_readFunction_124 : decode cX5_readFunction 124 = .ok (.getfield 28, 3) := by decide +kernel
theorem dX5_readFunction_127 : decode cX5_readFunction 127 = .ok (.getfield 124, 3) := by decide +kernel
theorem dX5_readFunction_130 : decode cX5_readFunction 130 = .ok (.iload_n 1, 1) := by decide +kernel
theorem dX5_readFunction_131 : decode cX5_readFunction 131 = .ok (.aload_n 0, 1) := by decide +kernel
theorem dX5_readFunction_132 : decode cX5_readFunction 132 = .ok (.iload_n 1, 1) := by decide +kernel
theorem dX5_readFunction_133 : decode cX5_readFunction 133 = .ok (.invokevirtual 128, 3) := by decide +kernel
theorem dX5_readFunction_136 : decode cX5_readFunction 136 = .ok (.iastore, 1) := by decide +kernel
theorem dX5_readFunction_137 : decode cX5_readFunction 137 = .ok (.aload_n 0, 1) := by decide +kernel
theorem dX5_readFunction_138 : decode cX5_readFunction 138 = .ok (.bipush 59, 2) := by decide +kernel
theorem dX5_readFunction_140 : decode cX5_readFunction 140 = .ok (.invokevirtual 87, 3) := by decide +kernel
theorem dX5_readFunction_143 : decode cX5_readFunction 143 = .ok (.return_, 1) := by decide +kernel
theorem dX5_readText_0 : decode cX5_readText 0 = .ok (.aload_n 0, 1) := by decide +kernel
theorem dX5_readText_1 : decode cX5_readText 1 = .ok (.getfield 20, 3) := by decide +kernel
theorem dX5_readText_4 : decode cX5_readText 4 = .ok (.invokevirtual 32, 3) := by decide +kernel
theorem dX5_readText_7 : decode cX5_readText 7 = .ok (.aload_n 0, 1) := by decide +kernel
theorem dX5_readText_8 : decode cX5_readText 8 = .ok (.getfield 24, 3) := by decide +kernel
theorem dX5_readText_11 : decode cX5_readText 11 = .ok (.invokevirtual 37, 3) := by decide +kernel
theorem dX5_readText_14 : decode cX5_readText 14 = .ok (.aload_n 0, 1) := by decide +kernel
theorem dX5_readText_15 : decode cX5_readText 15 = .ok (.getfield 28, 3) := by decide +kernel
theorem dX5_readText_18 : decode cX5_readText 18 = .ok (.invokevirtual 40, 3) := by decide +kernel
theorem dX5_readText_21 : decode cX5_readText 21 = .ok (.aload_n 0, 1) := by decide +kernel
theorem dX5_readText_22 : decode cX5_readText 22 = .ok (.iconst 0, 1) := by decide +kernel
theorem dX5_readText_23 : decode cX5_readText 23 = .ok (.putfield 43, 3) := by decide +kernel
theorem dX5_readText_26 : decode cX5_readText 26 = .ok (.aload_n 0, 1) := by decide +kernel
theorem dX5_readText_27 : decode cX5_readText 27 = .ok (.iconst (-1), 1) := by decide +kernel
theorem dX5_readText_28 : decode cX5_readText 28 = .ok (.putfield 47, 3) := by decide +kernel
theorem dX5_readText_31 : decode cX5_readText 31 = .ok (.aload_n 0, 1) := by decide +kernel
theorem dX5_readText_32 : decode cX5_readText 32 = .ok (.iconst 0, 1) := by decide +kernel
theorem dX5_readText_33 : decode cX5_readText 33 = .ok (.putfield 50, 3) := by decide +kernel
theorem dX5_readText_36 : decode cX5_readText 36 = .ok (.aload_n 0, 1) := by decide +kernel
theorem dX5_readText_37 : decode cX5_readText 37 = .ok (.iconst 0, 1) := by decide +kernel
theorem dX5_readText_38 : decode cX5_readText 38 = .ok (.putfield 53, 3) := by decide +kernel
theorem dX5_readText_41 : decode cX5_readText 41 = .ok (.aload_n 0, 1) := by decide +kernel
theorem dX5_readText_42 : decode cX5_readText 42 = .ok (.iconst (-1), 1) := by decide +kernel
theorem dX5_readText_43 : decode cX5_readText 43 = .ok (.putfield 56, 3) := by decide +kernel
theorem dX5_readText_46 : decode cX5_readText 46 = .ok (.aload_n 0, 1) := by decide +kernel
theorem dX5_readText_47 : decode cX5_readText 47 = .ok (.getfield 14, 3) := by decide +kernel
theorem dX5_readText_50 : decode cX5_readText 50 = .ok (.invokevirtual 59, 3) := by decide +kernel
theorem dX5_readText_53 : decode cX5_readText 53 = .ok (.iconst 0, 1) := by decide +kernel
theorem dX5_readText_54 : decode cX5_readText 54 = .ok (.istore_n 1, 1) := by decide +kernel
theorem dX5_readText_55 : decode cX5_readText 55 = .ok (.iload_n 1, 1) := by decide +kernel
theorem dX5_readText_56 : decode cX5_readText 56 = .ok (.sipush 3001, 3) := by decide +kernel
theorem dX5_readText_59 : decode cX5_readText 59 = .ok (.if_icmp .ge 25, 3) := by decide +kernel
theorem dX5_readText_62 : decode cX5_readText 62 = .ok (.aload_n 0, 1) := by decide +kernel
theorem dX5_readText_63 : decode cX5_readText 63 = .ok (.getfield 14, 3) := by decide +kernel
theorem dX5_readText_66 : decode cX5_readText 66 = .ok (.getfield 62, 3) := by decide +kernel
theorem dX5_readText_69 : decode cX5_readText 69 = .ok (.bipush 6, 2) := by decide +kernel
theorem dX5_readText_71 : decode cX5_readText 71 = .ok (.if_icmp .ne 13, 3) := by decide +kernel
theorem dX5_readText_74 : decode cX5_readText 74 = .ok (.aload_n 0, 1) := by decide +kernel
theorem dX5_readText_75 : decode cX5_readText 75 = .ok (.invokevirtual 65, 3) := by decide +kernel
theorem dX5_readText_78 : decode cX5_readText 78 = .ok (.iinc 1 1, 3) := by decide +kernel
theorem dX5_readText_81 : decode cX5_readText 81 = .ok (.goto (-26), 3) := by decide +kernel
theorem dX5_readText_84 : decode cX5_readText 84 = .ok (.aload_n 0, 1) := by decide +kernel
theorem dX5_readText_85 : decode cX5_readText 85 = .ok (.invokevirtual 68, 3) := by decide +kernel
theorem dX5_readText_88 : decode cX5_readText 88 = .ok (.iconst 0, 1) := by decide +kernel
theorem dX5_readText_89 : decode cX5_readText 89 = .ok (.istore_n 1, 1) := by decide +kernel
theorem dX5_readText_90 : decode cX5_readText 90 = .ok (.iload_n 1, 1) := by decide +kernel
theorem dX5_readText_91 : decode cX5_readText 91 = .ok (.bipush 30, 2) := by decide +kernel
theorem dX5_readText_93 : decode cX5_readText 93 = .ok (.if_icmp .ge 34, 3) := by decide +kernel
theorem dX5_readText_96 : decode cX5_readText 96 = .ok (.aload_n 0, 1) := by decide +kernel
theorem dX5_readText_97 : decode cX5_readText 97 = .ok (.getfield 14, 3) := by decide +kernel
theorem dX5_readText_100 : decode cX5_readText 100 = .ok (.getfield 62, 3) := by decide +kernel
theorem dX5_readText_103 : decode cX5_readText 103 = .ok (.iconst 1, 1) := by decide +kernel
theorem dX5_readText_104 : decode cX5_readText 104 = .ok (.if_icmp .eq 23, 3) := by decide +kernel
theorem dX5_readText_107 : decode cX5_readText 107 = .ok (.aload_n 0, 1) := by decide +kernel
theorem dX5_readText_108 : decode cX5_readText 108 = .ok (.getfield 14, 3) := by decide +kernel
theorem dX5_readText_111 : decode cX5_readText 111 = .ok (.getfield 62, 3) := by decide +kernel
theorem dX5_readText_114 : decode cX5_readText 114 = .ok (.ifCond .eq 13, 3) := by decide +kernel
theorem dX5_readText_117 : decode cX5_readText 117 = .ok (.aload_n 0, 1) := by decide +kernel
theorem dX5_readText_118 : decode cX5_readText 118 = .ok (.invokevirtual 68, 3) := by decide +kernel
theorem dX5_readText_121 : decode cX5_readText 121 = .ok (.iinc 1 1, 3) := by decide +kernel
theorem dX5_readText_124 : decode cX5_readText 124 = .ok (.goto (-34), 3) := by decide +kernel
theorem dX5_readText_127 : decode cX5_readText 127 = .ok (.return_, 1) := by decide +kernel
set_option maxHeartbeats 4000000 in
set_option maxRecDepth 100000 in
/-- Words.advance() where no word is left -/
theorem kX10_advance_end (l : Launch) (dC : Nat → ClassId) (dI : Nat → Nat → Nat) (sz : Nat) (w tx a : Nat) (kd pl nu : Int32) (nm : Int64) (r cap n : Nat) (lo : Int32) (f : Nat → Int32) (cB : ClassId) (hn : n ≤ cap) (hc : cap < 2 ^ 31) (ha : a ≤ n) (hend : skp f n (n - a) false a = n) (hkd : ¬ kd = 0) : Met l yX10_advance (Cond.code yX10_advance cX10_advance 2 none :: uG) ({ frames := 2, cells := 0, slots := 0, locals := 43 }) (va_Pc [.ref w] (fun U => U.heap.size = sz ∧ va_P (dC, dI) vwCl [(w, .inr (13, [.ref tx, .int (nI a), .int kd, .int pl, .int nu, .long nm])), (tx, .inr (11, [.ref r, .int (nI n), .int lo])), (r, .inl (cB, cap, .inl f))] U.heap ∧ va_K (dC, dI) vwCl [(cB, .byte)] U ∧ va_D (fun _ => True) [(w, .inr (13, [.ref tx, .int (nI a), .int kd, .int pl, .int nu, .long nm])), (tx, .inr (11, [.ref r, .int (nI n), .int lo])), (r, .inl (cB, cap, .inl f))])) (va_Qv (S := Unit) (fun _ => True) (fun _ t => va_P (dC, dI) vwCl [(w, .inr (13, [.ref tx, .int (nI n), .int 1, .int (nI n), .int nu, .long nm])), (tx, .inr (11, [.ref r, .int (nI n), .int lo])), (r, .inl (cB, cap, .inl f))] t.heap ∧ va_K (dC, dI) vwCl [(cB, .byte)] t ∧ va_D (va_A [(w, .inr (13, [.ref tx, .int (nI a), .int kd, .int pl, .int nu, .long nm])), (tx, .inr (11, [.ref r, .int (nI n), .int lo])), (r, .inl (cB, cap, .inl f))] sz) [(w, .inr (13, [.ref tx, .int (nI n), .int 1, .int (nI n), .int nu, .long nm])), (tx, .inr (11, [.ref r, .int (nI n), .int lo])), (r, .inl (cB, cap, .inl f))]) (va_A [(w, .inr (13, [.ref tx, .int (nI a), .int kd, .int pl, .int nu, .long nm])), (tx, .inr (11, [.ref r, .int (nI n), .int lo])), (r, .inl (cB, cap, .inl f))] sz)) 0 0 (va_A [(w, .inr (13, [.ref tx, .int (nI a), .int kd, .int pl, .int nu, .long nm])), (tx, .inr (11, [.ref r, .int (nI n), .int lo])), (r, .inl (cB, cap, .inl f))] sz) := by
  refine Met.ofW (cc := cX10_advance) (maxL := 2) (ret := none) (by decide) rfl ?_
  intro pG eV s m args below meth c s₁ B hml hv
  obtain ⟨rfl, hsz, hP, hK, hD0⟩ := hv
  have hx := B.exec
  have hb := B.bytes
  have hr := B.returns
  have hts := atoms_spec (ws := Cond.code yX10_advance cX10_advance 2 none :: uG) B.pre
  have hu := fun (w : Cond) (h : w ∈ uG) => hts w (List.mem_cons_of_mem _ h)
  have hown : s.vm.findClass RX10 = some m.cls := findClass_of_methodNamed B.named
  have hlocks := B.notSynchronized
  subst hsz
  have hD := hD0.self (sz := s.heap.size)
  generalize hAe : va_A [(w, .inr (13, [.ref tx, .int (nI a), .int kd, .int pl, .int nu, .long nm])), (tx, .inr (11, [.ref r, .int (nI n), .int lo])), (r, .inl (cB, cap, .inl f))] s.heap.size = A at hD ⊢
  have hA : ∀ q : Nat, s.heap.size ≤ q → A q := fun q h => by rw [← hAe]; exact Or.inr h
  have hS : va_S A s.heap s.heap [] := va_S.rf
  have hP : va_P (dC, dI) vwCl [(w, .inr (13, [.ref tx, .int (nI a), .int kd, .int pl, .int nu, .long nm])), (tx, .inr (11, [.ref r, .int (nI n), .int lo])), (r, .inl (cB, cap, .inl f))] s.heap := hP
  have hD : va_D A [(w, .inr (13, [.ref tx, .int (nI a), .int kd, .int pl, .int nu, .long nm])), (tx, .inr (11, [.ref r, .int (nI n), .int lo])), (r, .inl (cB, cap, .inl f))] := hD
  have hl := lv_entry ([.ref w]) (n := 2) (Nat.le_of_ble_eq_true rfl)
  rw [lg_entry_eq]
  generalize (lg_sl ([.ref w]) ++ List.replicate (2 - (lg_sl ([.ref w])).length) Slot.unset).toArray = ls at hl ⊢
  have hl : lv_has ls 2 [(0, .ref w)] := hl
  refine lv_aload_n hx hb dX10_advance_0 rfl (lv_at hl 0 rfl) ?_
  refine va_get (D := (dC, dI)) (ci := 13) (v := .int kd) (C := RX10) (T := TX10) (N := 6) hx hb hu iuX10 hown hK hP 0 rfl rfl 2 (by decide) (hu _ mG_517) (fun _ h9 => h9) rfl dX10_advance_1 ?_
  refine lv_if_ne (tgt := 8) hx hb dX10_advance_4 (by decide) (fun c4 => ?_) (fun c4 => ?_)
  · refine lv_aload_n hx hb dX10_advance_8 rfl (lv_at hl 0 rfl) ?_
    have hPc := hP.sub (ws' := [(w, .inr (13, [.ref tx, .int (nI a), .int kd, .int pl, .int nu, .long nm])), (tx, .inr (11, [.ref r, .int (nI n), .int lo])), (r, .inl (cB, cap, .inl f))]) [0, 1, 2] rfl
    have hDc := hD.sub (ws' := [(w, .inr (13, [.ref tx, .int (nI a), .int kd, .int pl, .int nu, .long nm])), (tx, .inr (11, [.ref r, .int (nI n), .int lo])), (r, .inl (cB, cap, .inl f))]) [0, 1, 2] (by decide) rfl
    have hKc := hK.sub (tys' := [(cB, .byte)]) [0] rfl
    have hFc := va_free (wc := [(w, .inr (13, [.ref tx, .int (nI a), .int kd, .int pl, .int nu, .long nm])), (tx, .inr (11, [.ref r, .int (nI n), .int lo])), (r, .inl (cB, cap, .inl f))]) hD hS hA [0, 1, 2] rfl
    refine va_callv (va_runV (As := []) (rest := []) ⟨hx, hb, hml, hown, hu⟩ (kX10_passBlanks l dC dI s.heap.size w tx a kd pl nu nm r cap n lo f cB hn hc ha) (cwV 0 hu (uG_V (fun _ h => h) mG_925 mG_922 mG_924 mG_1 mG_220) rfl rfl rfl (by decide +kernel) ⟨Nat.le_of_ble_eq_true rfl, Nat.le_of_ble_eq_true rfl⟩) ⟨fun a U g mk q => by obtain ⟨q0, q1, qP, qK, qD⟩ := q; exact ⟨q0, q1, qP, va_K.moved (u := U) (U := U.calling g mk a) (Vm.Alike.refl U.vm) qK, qD⟩, va_recv hKc hPc (ci := 13) (q0 := 0) rfl rfl, fun U hU hW => ⟨rfl, by rw [hU], by rw [hU]; exact hPc, va_K.moved hW.alike hKc, hDc.weaken (fun _ _ _ _ => trivial)⟩⟩ rfl rfl hl.1 rfl (lv_room (Nat.le_of_ble_eq_true rfl)) dX10_advance_9 ⟨Nat.le_of_ble_eq_true rfl, Nat.le_of_ble_eq_true rfl⟩) hS (fun q _ h => hFc q h) hFc (fun u t H1 locs ht hvm hw hB hz1 hk1 hS => ?_)
    obtain ⟨hP1, hK1, hD1⟩ := hB
    rw [ht] at hP1
    obtain ⟨hP, hD⟩ := va_join (wr := []) (w1 := [(w, .inr (13, [.ref tx, .int (nI (skp f n (n - a) false a)), .int kd, .int pl, .int nu, .long nm])), (tx, .inr (11, [.ref r, .int (nI n), .int lo])), (r, .inl (cB, cap, .inl f))]) hP hD [0, 1, 2] [] rfl rfl (by decide) (by decide) hk1 hFc hP1 hD1
    generalize H1 = H at hP hS ⊢
    have hP : va_P (dC, dI) vwCl [(w, .inr (13, [.ref tx, .int (nI (skp f n (n - a) false a)), .int kd, .int pl, .int nu, .long nm])), (tx, .inr (11, [.ref r, .int (nI n), .int lo])), (r, .inl (cB, cap, .inl f))] H := hP
    have hD : va_D A [(w, .inr (13, [.ref tx, .int (nI (skp f n (n - a) false a)), .int kd, .int pl, .int nu, .long nm])), (tx, .inr (11, [.ref r, .int (nI n), .int lo])), (r, .inl (cB, cap, .inl f))] := hD
    rw [hend] at hP hD
    have hP : va_P (dC, dI) vwCl [(w, .inr (13, [.ref tx, .int (nI n), .int kd, .int pl, .int nu, .long nm])), (tx, .inr (11, [.ref r, .int (nI n), .int lo])), (r, .inl (cB, cap, .inl f))] H := hP
    have hD : va_D A [(w, .inr (13, [.ref tx, .int (nI n), .int kd, .int pl, .int nu, .long nm])), (tx, .inr (11, [.ref r, .int (nI n), .int lo])), (r, .inl (cB, cap, .inl f))] := hD
    refine lv_aload_n hx hb dX10_advance_12 rfl (lv_at hl 0 rfl) ?_
    refine lv_aload_n hx hb dX10_advance_13 rfl (lv_at hl 0 rfl) ?_
    refine va_get (D := (dC, dI)) (ci := 13) (v := .int (nI n)) (C := RX10) (T := TX10) (N := 6) hx hb hu iuX10 hown hK hP 0 rfl rfl 1 (by decide) (hu _ mG_516) (fun _ h9 => h9) rfl dX10_advance_14 ?_
    refine va_put (D := (dC, dI)) (ci := 13) (v := .int (nI n)) (ty := (tyX10 3)) (C := RX10) (T := TX10) (N := 6) hx hb hu iuX10 tyX10 tyX10_ok nmX10 hown hK hP hD hS 0 rfl rfl 3 (by decide) (hu _ mG_520) (fun _ h9 => h9) rfl (by decide +kernel) (rfl) (rfl) (Nat.le_of_ble_eq_true rfl) dX10_advance_17 (fun H locs hP hD hS => ?_)
    have hP : va_P (dC, dI) vwCl [(w, .inr (13, [.ref tx, .int (nI n), .int kd, .int (nI n), .int nu, .long nm])), (tx, .inr (11, [.ref r, .int (nI n), .int lo])), (r, .inl (cB, cap, .inl f))] H := hP
    have hD : va_D A [(w, .inr (13, [.ref tx, .int (nI n), .int kd, .int (nI n), .int nu, .long nm])), (tx, .inr (11, [.ref r, .int (nI n), .int lo])), (r, .inl (cB, cap, .inl f))] := hD
    refine lv_aload_n hx hb dX10_advance_20 rfl (lv_at hl 0 rfl) ?_
    refine va_get (D := (dC, dI)) (ci := 13) (v := .ref tx) (C := RX10) (T := TX10) (N := 6) hx hb hu iuX10 hown hK hP 0 rfl rfl 0 (by decide) (hu _ mG_515) (fun _ h9 => h9) rfl dX10_advance_21 ?_
    refine lv_aload_n hx hb dX10_advance_24 rfl (lv_at hl 0 rfl) ?_
    refine va_get (D := (dC, dI)) (ci := 13) (v := .int (nI n)) (C := RX10) (T := TX10) (N := 6) hx hb hu iuX10 hown hK hP 0 rfl rfl 1 (by decide) (hu _ mG_516) (fun _ h9 => h9) rfl dX10_advance_25 ?_
    have hPc := hP.sub (ws' := [(tx, .inr (11, [.ref r, .int (nI n), .int lo])), (r, .inl (cB, cap, .inl f))]) [1, 2] rfl
    have hDc := hD.sub (ws' := [(tx, .inr (11, [.ref r, .int (nI n), .int lo])), (r, .inl (cB, cap, .inl f))]) [1, 2] (by decide) rfl
    have hKc := hK.sub (tys' := [(cB, .byte)]) [0] rfl
    have hFc := va_free (wc := [(tx, .inr (11, [.ref r, .int (nI n), .int lo])), (r, .inl (cB, cap, .inl f))]) hD hS hA [1, 2] rfl
    refine va_calli (va_runV (As := [.int (nI n)]) (rest := []) ⟨hx, hb, hml, hown, hu⟩ (kX8_signAt l dC dI H.size tx r cap n lo f cB (nI n) hn hc) (cwV 1 hu (uG_V (fun _ h => h) mG_929 mG_926 mG_927 mG_928 mG_215) rfl rfl rfl (by decide +kernel) ⟨Nat.le_of_ble_eq_true rfl, Nat.le_of_ble_eq_true rfl⟩) ⟨fun a U g mk q => by obtain ⟨q0, q1, qP, qK, qD⟩ := q; exact ⟨q0, q1, qP, va_K.moved (u := U) (U := U.calling g mk a) (Vm.Alike.refl U.vm) qK, qD⟩, va_recv hKc hPc (ci := 11) (q0 := 0) rfl rfl, fun U hU hW => ⟨rfl, by rw [hU], by rw [hU]; exact hPc, va_K.moved hW.alike hKc, hDc.weaken (fun _ _ _ _ => trivial)⟩⟩ rfl rfl hl.1 rfl (lv_room (Nat.le_of_ble_eq_true rfl)) dX10_advance_28 ⟨Nat.le_of_ble_eq_true rfl, Nat.le_of_ble_eq_true rfl⟩) hS (fun q _ h => hFc q h) hFc (fun r28 u t H1 locs ht hvm hw hB hz1 hk1 hS => ?_)
    obtain ⟨hP1, hK1, hD1⟩ := hB
    rw [ht] at hP1
    obtain ⟨hP, hD⟩ := va_join (wr := [(w, .inr (13, [.ref tx, .int (nI n), .int kd, .int (nI n), .int nu, .long nm]))]) (w1 := [(tx, .inr (11, [.ref r, .int (nI n), .int lo])), (r, .inl (cB, cap, .inl f))]) hP hD [1, 2] [0] rfl rfl (by decide) (by decide) hk1 hFc hP1 hD1
    generalize H1 = H at hP hS ⊢
    have hP : va_P (dC, dI) vwCl [(w, .inr (13, [.ref tx, .int (nI n), .int kd, .int (nI n), .int nu, .long nm])), (tx, .inr (11, [.ref r, .int (nI n), .int lo])), (r, .inl (cB, cap, .inl f))] H := hP
    have hD : va_D A [(w, .inr (13, [.ref tx, .int (nI n), .int kd, .int (nI n), .int nu, .long nm])), (tx, .inr (11, [.ref r, .int (nI n), .int lo])), (r, .inl (cB, cap, .inl f))] := hD
    have er28 : r28 = (if ¬ nI n < 0 ∧ nI n < nI n then f (nI n).toNatClampNeg else (-1)) := hw
    subst er28
    rw [show (if ¬ nI n < 0 ∧ nI n < nI n then f (nI n).toNatClampNeg else (-1)) = -1 from if_neg (fun h => Int32.lt_irrefl h.2)]
    refine lv_istore_n (lv' := [(1, .int (-1)), (0, .ref w)]) hx hb dX10_advance_31 rfl hl (by decide) rfl (fun ls hl => ?_)
    refine lv_iload_n hx hb dX10_advance_32 rfl (lv_at hl 0 rfl) ?_
    refine lv_iconst (v := (-1)) hx hb dX10_advance_33 (by decide) ?_
    refine lv_icmp_ne (tgt := 45) hx hb dX10_advance_34 (by decide) (fun c34 => ?_) (fun c34 => ?_)
    · exact absurd (by decide) c34
    · refine lv_aload_n hx hb dX10_advance_37 rfl (lv_at hl 1 rfl) ?_
      refine lv_iconst (v := 1) hx hb dX10_advance_38 (by decide) ?_
      refine va_put (D := (dC, dI)) (ci := 13) (v := .int 1) (ty := (tyX10 2)) (C := RX10) (T := TX10) (N := 6) hx hb hu iuX10 tyX10 tyX10_ok nmX10 hown hK hP hD hS 0 rfl rfl 2 (by decide) (hu _ mG_517) (fun _ h9 => h9) rfl (by decide +kernel) (rfl) (rfl) (Nat.le_of_ble_eq_true rfl) dX10_advance_39 (fun H locs hP hD hS => ?_)
      have hP : va_P (dC, dI) vwCl [(w, .inr (13, [.ref tx, .int (nI n), .int 1, .int (nI n), .int nu, .long nm])), (tx, .inr (11, [.ref r, .int (nI n), .int lo])), (r, .inl (cB, cap, .inl f))] H := hP
      have hD : va_D A [(w, .inr (13, [.ref tx, .int (nI n), .int 1, .int (nI n), .int nu, .long nm])), (tx, .inr (11, [.ref r, .int (nI n), .int lo])), (r, .inl (cB, cap, .inl f))] := hD
      refine lv_goto (tgt := 86) hx hb dX10_advance_42 (by decide) ?_
      have hP9 : va_P (dC, dI) vwCl [(w, .inr (13, [.ref tx, .int (nI n), .int 1, .int (nI n), .int nu, .long nm])), (tx, .inr (11, [.ref r, .int (nI n), .int lo])), (r, .inl (cB, cap, .inl f))] H := by exact hP.sub [0, 1, 2] rfl
      have hD9 : va_D A [(w, .inr (13, [.ref tx, .int (nI n), .int 1, .int (nI n), .int nu, .long nm])), (tx, .inr (11, [.ref r, .int (nI n), .int lo])), (r, .inl (cB, cap, .inl f))] := by exact hD.sub [0, 1, 2] (by decide) rfl
      have hK9 := hK.sub (tys' := [(cB, .byte)]) [0] rfl
      exact W.vret hx hb hr (fun t ht hW => ⟨⟨(), rfl, trivial, by rw [ht]; exact hP9, va_K.moved hW.alike hK9, hD9⟩, hS.F ht⟩) hS.2.2 dX10_advance_86
  · exact absurd c4 hkd
set_option maxHeartbeats 4000000 in
set_option maxRecDepth 100000 in
/-- Words.begin() on an empty text -/
theorem kX10_begin_0 (l : Launch) (dC : Nat → ClassId) (dI : Nat → Nat → Nat) (sz : Nat) (w tx : Nat) (at0 kd pl nu : Int32) (nm : Int64) (r cap : Nat) (lo : Int32) (f : Nat → Int32) (cB : ClassId) (hc : cap < 2 ^ 31) : Met l yX10_begin (Cond.code yX10_begin cX10_begin 1 none :: uG) ({ frames := 3, cells := 0, slots := 0, locals := 64 }) (va_Pc [.ref w] (fun U => U.heap.size = sz ∧ va_P (dC, dI) vwCl [(w, .inr (13, [.ref tx, .int at0, .int kd, .int pl, .int nu, .long nm])), (tx, .inr (11, [.ref r, .int (nI 0), .int lo])), (r, .inl (cB, cap, .inl f))] U.heap ∧ va_K (dC, dI) vwCl [(cB, .byte)] U ∧ va_D (fun _ => True) [(w, .inr (13, [.ref tx, .int at0, .int kd, .int pl, .int nu, .long nm])), (tx, .inr (11, [.ref r, .int (nI 0), .int lo])), (r, .inl (cB, cap, .inl f))])) (va_Qv (S := Unit) (fun _ => True) (fun _ t => va_P (dC, dI) vwCl [(w, .inr (13, [.ref tx, .int (nI 0), .int 1, .int (nI 0), .int nu, .long nm])), (tx, .inr (11, [.ref r, .int (nI 0), .int lo])), (r, .inl (cB, cap, .inl f))] t.heap ∧ va_K (dC, dI) vwCl [(cB, .byte)] t ∧ va_D (va_A [(w, .inr (13, [.ref tx, .int at0, .int kd, .int pl, .int nu, .long nm])), (tx, .inr (11, [.ref r, .int (nI 0), .int lo])), (r, .inl (cB, cap, .inl f))] sz) [(w, .inr (13, [.ref tx, .int (nI 0), .int 1, .int (nI 0), .int nu, .long nm])), (tx, .inr (11, [.ref r, .int (nI 0), .int lo])), (r, .inl (cB, cap, .inl f))]) (va_A [(w, .inr (13, [.ref tx, .int at0, .int kd, .int pl, .int nu, .long nm])), (tx, .inr (11, [.ref r, .int (nI 0), .int lo])), (r, .inl (cB, cap, .inl f))] sz)) 0 0 (va_A [(w, .inr (13, [.ref tx, .int at0, .int kd, .int pl, .int nu, .long nm])), (tx, .inr (11, [.ref r, .int (nI 0), .int lo])), (r, .inl (cB, cap, .inl f))] sz) := by
  refine Met.ofW (cc := cX10_begin) (maxL := 1) (ret := none) (by decide) rfl ?_
  intro pG eV s m args below meth c s₁ B hml hv
  obtain ⟨rfl, hsz, hP, hK, hD0⟩ := hv
  have hx := B.exec
  have hb := B.bytes
  have hr := B.returns
  have hts := atoms_spec (ws := Cond.code yX10_begin cX10_begin 1 none :: uG) B.pre
  have hu := fun (w : Cond) (h : w ∈ uG) => hts w (List.mem_cons_of_mem _ h)
  have hown : s.vm.findClass RX10 = some m.cls := findClass_of_methodNamed B.named
  have hlocks := B.notSynchronized
  subst hsz
  have hD := hD0.self (sz := s.heap.size)
  generalize hAe : va_A [(w, .inr (13, [.ref tx, .int at0, .int kd, .int pl, .int nu, .long nm])), (tx, .inr (11, [.ref r, .int (nI 0), .int lo])), (r, .inl (cB, cap, .inl f))] s.heap.size = A at hD ⊢
  have hA : ∀ q : Nat, s.heap.size ≤ q → A q := fun q h => by rw [← hAe]; exact Or.inr h
  have hS : va_S A s.heap s.heap [] := va_S.rf
  have hP : va_P (dC, dI) vwCl [(w, .inr (13, [.ref tx, .int at0, .int kd, .int pl, .int nu, .long nm])), (tx, .inr (11, [.ref r, .int (nI 0), .int lo])), (r, .inl (cB, cap, .inl f))] s.heap := hP
  have hD : va_D A [(w, .inr (13, [.ref tx, .int at0, .int kd, .int pl, .int nu, .long nm])), (tx, .inr (11, [.ref r, .int (nI 0), .int lo])), (r, .inl (cB, cap, .inl f))] := hD
  have hl := lv_entry ([.ref w]) (n := 1) (Nat.le_of_ble_eq_true rfl)
  rw [lg_entry_eq]
  generalize (lg_sl ([.ref w]) ++ List.replicate (1 - (lg_sl ([.ref w])).length) Slot.unset).toArray = ls at hl ⊢
  have hl : lv_has ls 1 [(0, .ref w)] := hl
  refine lv_aload_n hx hb dX10_begin_0 rfl (lv_at hl 0 rfl) ?_
  refine lv_iconst (v := 0) hx hb dX10_begin_1 (by decide) ?_
  refine va_put (D := (dC, dI)) (ci := 13) (v := .int 0) (ty := (tyX10 1)) (C := RX10) (T := TX10) (N := 6) hx hb hu iuX10 tyX10 tyX10_ok nmX10 hown hK hP hD hS 0 rfl rfl 1 (by decide) (hu _ mG_516) (fun _ h9 => h9) rfl (by decide +kernel) (rfl) (rfl) (Nat.le_of_ble_eq_true rfl) dX10_begin_2 (fun H locs hP hD hS => ?_)
  have hP : va_P (dC, dI) vwCl [(w, .inr (13, [.ref tx, .int 0, .int kd, .int pl, .int nu, .long nm])), (tx, .inr (11, [.ref r, .int (nI 0), .int lo])), (r, .inl (cB, cap, .inl f))] H := hP
  have hD : va_D A [(w, .inr (13, [.ref tx, .int 0, .int kd, .int pl, .int nu, .long nm])), (tx, .inr (11, [.ref r, .int (nI 0), .int lo])), (r, .inl (cB, cap, .inl f))] := hD
  refine lv_aload_n hx hb dX10_begin_5 rfl (lv_at hl 0 rfl) ?_
  refine lv_iconst (v := 2) hx hb dX10_begin_6 (by decide) ?_
  refine va_put (D := (dC, dI)) (ci := 13) (v := .int 2) (ty := (tyX10 2)) (C := RX10) (T := TX10) (N := 6) hx hb hu iuX10 tyX10 tyX10_ok nmX10 hown hK hP hD hS 0 rfl rfl 2 (by decide) (hu _ mG_517) (fun _ h9 => h9) rfl (by decide +kernel) (rfl) (rfl) (Nat.le_of_ble_eq_true rfl) dX10_begin_7 (fun H locs hP hD hS => ?_)
  have hP : va_P (dC, dI) vwCl [(w, .inr (13, [.ref tx, .int 0, .int 2, .int pl, .int nu, .long nm])), (tx, .inr (11, [.ref r, .int (nI 0), .int lo])), (r, .inl (cB, cap, .inl f))] H := hP
  have hD : va_D A [(w, .inr (13, [.ref tx, .int 0, .int 2, .int pl, .int nu, .long nm])), (tx, .inr (11, [.ref r, .int (nI 0), .int lo])), (r, .inl (cB, cap, .inl f))] := hD
  have hP : va_P (dC, dI) vwCl [(w, .inr (13, [.ref tx, .int (nI 0), .int 2, .int pl, .int nu, .long nm])), (tx, .inr (11, [.ref r, .int (nI 0), .int lo])), (r, .inl (cB, cap, .inl f))] H := by rw [nI_0]; exact hP
  have hD : va_D A [(w, .inr (13, [.ref tx, .int (nI 0), .int 2, .int pl, .int nu, .long nm])), (tx, .inr (11, [.ref r, .int (nI 0), .int lo])), (r, .inl (cB, cap, .inl f))] := by rw [nI_0]; exact hD
  refine lv_aload_n hx hb dX10_begin_10 rfl (lv_at hl 0 rfl) ?_
  have hPc := hP.sub (ws' := [(w, .inr (13, [.ref tx, .int (nI 0), .int 2, .int pl, .int nu, .long nm])), (tx, .inr (11, [.ref r, .int (nI 0), .int lo])), (r, .inl (cB, cap, .inl f))]) [0, 1, 2] rfl
  have hDc := hD.sub (ws' := [(w, .inr (13, [.ref tx, .int (nI 0), .int 2, .int pl, .int nu, .long nm])), (tx, .inr (11, [.ref r, .int (nI 0), .int lo])), (r, .inl (cB, cap, .inl f))]) [0, 1, 2] (by decide) rfl
  have hKc := hK.sub (tys' := [(cB, .byte)]) [0] rfl
  have hFc := va_free (wc := [(w, .inr (13, [.ref tx, .int (nI 0), .int 2, .int pl, .int nu, .long nm])), (tx, .inr (11, [.ref r, .int (nI 0), .int lo])), (r, .inl (cB, cap, .inl f))]) hD hS hA [0, 1, 2] rfl
  refine va_callv (va_runV (As := []) (rest := []) ⟨hx, hb, hml, hown, hu⟩ (kX10_advance_end l dC dI H.size w tx 0 2 pl nu nm r cap 0 lo f cB (Nat.zero_le _) hc (Nat.le_refl _) rfl (by decide)) (cwV 0 hu (uG_V (fun _ h => h) mG_921 mG_918 mG_919 mG_920 mG_220) rfl rfl rfl (by decide +kernel) ⟨Nat.le_of_ble_eq_true rfl, Nat.le_of_ble_eq_true rfl⟩) ⟨fun a U g mk q => by obtain ⟨q0, q1, qP, qK, qD⟩ := q; exact ⟨q0, q1, qP, va_K.moved (u := U) (U := U.calling g mk a) (Vm.Alike.refl U.vm) qK, qD⟩, va_recv hKc hPc (ci := 13) (q0 := 0) rfl rfl, fun U hU hW => ⟨rfl, by rw [hU], by rw [hU]; exact hPc, va_K.moved hW.alike hKc, hDc.weaken (fun _ _ _ _ => trivial)⟩⟩ rfl rfl hl.1 rfl (lv_room (Nat.le_of_ble_eq_true rfl)) dX10_begin_11 ⟨Nat.le_of_ble_eq_true rfl, Nat.le_of_ble_eq_true rfl⟩) hS (fun q _ h => hFc q h) hFc (fun u t H1 locs ht hvm hw hB hz1 hk1 hS => ?_)
  obtain ⟨hP1, hK1, hD1⟩ := hB
  rw [ht] at hP1
  obtain ⟨hP, hD⟩ := va_join (wr := []) (w1 := [(w, .inr (13, [.ref tx, .int (nI 0), .int 1, .int (nI 0), .int nu, .long nm])), (tx, .inr (11, [.ref r, .int (nI 0), .int lo])), (r, .inl (cB, cap, .inl f))]) hP hD [0, 1, 2] [] rfl rfl (by decide) (by decide) hk1 hFc hP1 hD1
  generalize H1 = H at hP hS ⊢
  have hP : va_P (dC, dI) vwCl [(w, .inr (13, [.ref tx, .int (nI 0), .int 1, .int (nI 0), .int nu, .long nm])), (tx, .inr (11, [.ref r, .int (nI 0), .int lo])), (r, .inl (cB, cap, .inl f))] H := hP
  have hD : va_D A [(w, .inr (13, [.ref tx, .int (nI 0), .int 1, .int (nI 0), .int nu, .long nm])), (tx, .inr (11, [.ref r, .int (nI 0), .int lo])), (r, .inl (cB, cap, .inl f))] := hD
  have hP9 : va_P (dC, dI) vwCl [(w, .inr (13, [.ref tx, .int (nI 0), .int 1, .int (nI 0), .int nu, .long nm])), (tx, .inr (11, [.ref r, .int (nI 0), .int lo])), (r, .inl (cB, cap, .inl f))] H := by exact hP
  have hD9 : va_D A [(w, .inr (13, [.ref tx, .int (nI 0), .int 1, .int (nI 0), .int nu, .long nm])), (tx, .inr (11, [.ref r, .int (nI 0), .int lo])), (r, .inl (cB, cap, .inl f))] := by exact hD
  have hK9 := hK.sub (tys' := [(cB, .byte)]) [0] rfl
  exact W.vret hx hb hr (fun t ht hW => ⟨⟨(), rfl, trivial, by rw [ht]; exact hP9, va_K.moved hW.alike hK9, hD9⟩, hS.F ht⟩) hS.2.2 dX10_begin_14
set_option maxHeartbeats 4000000 in
set_option maxRecDepth 100000 in
/-- Reader.readFunction() at the end of the text -/
theorem kX5_readFunction_end (l : Launch) (dC : Nat → ClassId) (dI : Nat → Nat → Nat) (sz : Nat) (rd w tr pr sc : Nat) (rl ra ro rh : Int32) (tx : Nat) (at0 pl nu : Int32) (nm : Int64) : Met l yX5_readFunction (Cond.code yX5_readFunction cX5_readFunction 2 none :: uG) ({ frames := 2, cells := 0, slots := 0, locals := 41 }) (va_Pc [.ref rd] (fun U => U.heap.size = sz ∧ va_P (dC, dI) vwCl [(rd, .inr (8, [.ref w, .ref tr, .ref pr, .ref sc, .int 0, .int rl, .int ra, .int ro, .int rh])), (w, .inr (13, [.ref tx, .int at0, .int 1, .int pl, .int nu, .long nm]))] U.heap ∧ va_K (dC, dI) vwCl [] U ∧ va_D (fun _ => True) [(rd, .inr (8, [.ref w, .ref tr, .ref pr, .ref sc, .int 0, .int rl, .int ra, .int ro, .int rh])), (w, .inr (13, [.ref tx, .int at0, .int 1, .int pl, .int nu, .long nm]))])) (va_Qv (S := Unit) (fun _ => True) (fun _ t => va_P (dC, dI) vwCl [(rd, .inr (8, [.ref w, .ref tr, .ref pr, .ref sc, .int 1, .int pl, .int ra, .int ro, .int rh])), (w, .inr (13, [.ref tx, .int at0, .int 0, .int pl, .int nu, .long nm]))] t.heap ∧ va_K (dC, dI) vwCl [] t ∧ va_D (va_A [(rd, .inr (8, [.ref w, .ref tr, .ref pr, .ref sc, .int 0, .int rl, .int ra, .int ro, .int rh])), (w, .inr (13, [.ref tx, .int at0, .int 1, .int pl, .int nu, .long nm]))] sz) [(rd, .inr (8, [.ref w, .ref tr, .ref pr, .ref sc, .int 1, .int pl, .int ra, .int ro, .int rh])), (w, .inr (13, [.ref tx, .int at0, .int 0, .int pl, .int nu, .long nm]))]) (va_A [(rd, .inr (8, [.ref w, .ref tr, .ref pr, .ref sc, .int 0, .int rl, .int ra, .int ro, .int rh])), (w, .inr (13, [.ref tx, .int at0, .int 1, .int pl, .int nu, .long nm]))] sz)) 0 0 (va_A [(rd, .inr (8, [.ref w, .ref tr, .ref pr, .ref sc, .int 0, .int rl, .int ra, .int ro, .int rh])), (w, .inr (13, [.ref tx, .int at0, .int 1, .int pl, .int nu, .long nm]))] sz) := by
  refine Met.ofW (cc := cX5_readFunction) (maxL := 2) (ret := none) (by decide) rfl ?_
  intro pG eV s m args below meth c s₁ B hml hv
  obtain ⟨rfl, hsz, hP, hK, hD0⟩ := hv
  have hx := B.exec
  have hb := B.bytes
  have hr := B.returns
  have hts := atoms_spec (ws := Cond.code yX5_readFunction cX5_readFunction 2 none :: uG) B.pre
  have hu := fun (w : Cond) (h : w ∈ uG) => hts w (List.mem_cons_of_mem _ h)
  have hown : s.vm.findClass RX5 = some m.cls := findClass_of_methodNamed B.named
  have hlocks := B.notSynchronized
  subst hsz
  have hD := hD0.self (sz := s.heap.size)
  generalize hAe : va_A [(rd, .inr (8, [.ref w, .ref tr, .ref pr, .ref sc, .int 0, .int rl, .int ra, .int ro, .int rh])), (w, .inr (13, [.ref tx, .int at0, .int 1, .int pl, .int nu, .long nm]))] s.heap.size = A at hD ⊢
  have hA : ∀ q : Nat, s.heap.size ≤ q → A q := fun q h => by rw [← hAe]; exact Or.inr h
  have hS : va_S A s.heap s.heap [] := va_S.rf
  have hP : va_P (dC, dI) vwCl [(rd, .inr (8, [.ref w, .ref tr, .ref pr, .ref sc, .int 0, .int rl, .int ra, .int ro, .int rh])), (w, .inr (13, [.ref tx, .int at0, .int 1, .int pl, .int nu, .long nm]))] s.heap := hP
  have hD : va_D A [(rd, .inr (8, [.ref w, .ref tr, .ref pr, .ref sc, .int 0, .int rl, .int ra, .int ro, .int rh])), (w, .inr (13, [.ref tx, .int at0, .int 1, .int pl, .int nu, .long nm]))] := hD
  have hl := lv_entry ([.ref rd]) (n := 2) (Nat.le_of_ble_eq_true rfl)
  rw [lg_entry_eq]
  generalize (lg_sl ([.ref rd]) ++ List.replicate (2 - (lg_sl ([.ref rd])).length) Slot.unset).toArray = ls at hl ⊢
  have hl : lv_has ls 2 [(0, .ref rd)] := hl
  refine lv_aload_n hx hb dX5_readFunction_0 rfl (lv_at hl 0 rfl) ?_
  refine va_get (D := (dC, dI)) (ci := 8) (v := .ref w) (C := RX5) (T := TX5) (N := 9) hx hb hu iuX5 hown hK hP 0 rfl rfl 0 (by decide) (hu _ mG_538) (fun _ h9 => h9) rfl dX5_readFunction_1 ?_
  refine va_get (D := (dC, dI)) (ci := 13) (v := .int 1) (C := RX10) (T := TX10) (N := 6) hx hb hu iuX10 hown hK hP 1 rfl rfl 2 (by decide) (hu _ mG_518) (fun _ h9 => h9) rfl dX5_readFunction_4 ?_
  refine lv_iconst (v := 3) hx hb dX5_readFunction_7 (by decide) ?_
  refine lv_icmp_eq (tgt := 19) hx hb dX5_readFunction_8 (by decide) (fun c8 => ?_) (fun c8 => ?_)
  · exact absurd c8 (by decide)
  · refine lv_aload_n hx hb dX5_readFunction_11 rfl (lv_at hl 0 rfl) ?_
    refine lv_iconst (v := 1) hx hb dX5_readFunction_12 (by decide) ?_
    have hPc := hP.sub (ws' := [(rd, .inr (8, [.ref w, .ref tr, .ref pr, .ref sc, .int 0, .int rl, .int ra, .int ro, .int rh])), (w, .inr (13, [.ref tx, .int at0, .int 1, .int pl, .int nu, .long nm]))]) [0, 1] rfl
    have hDc := hD.sub (ws' := [(rd, .inr (8, [.ref w, .ref tr, .ref pr, .ref sc, .int 0, .int rl, .int ra, .int ro, .int rh])), (w, .inr (13, [.ref tx, .int at0, .int 1, .int pl, .int nu, .long nm]))]) [0, 1] (by decide) rfl
    have hKc := hK.sub (tys' := []) [] rfl
    have hFc := va_free (wc := [(rd, .inr (8, [.ref w, .ref tr, .ref pr, .ref sc, .int 0, .int rl, .int ra, .int ro, .int rh])), (w, .inr (13, [.ref tx, .int at0, .int 1, .int pl, .int nu, .long nm]))]) hD hS hA [0, 1] rfl
    refine va_callv (va_runV (As := [.int 1]) (rest := []) ⟨hx, hb, hml, hown, hu⟩ (kX5_refuse l dC dI s.heap.size rd w tr pr sc 0 rl ra ro rh tx at0 1 pl nu nm 1) (cwV 1 hu (uG_V (fun _ h => h) mG_1062 mG_1059 mG_1061 mG_8 mG_219) rfl rfl rfl (by decide +kernel) ⟨Nat.le_of_ble_eq_true rfl, Nat.le_of_ble_eq_true rfl⟩) ⟨fun a U g mk q => by obtain ⟨q0, q1, qP, qK, qD⟩ := q; exact ⟨q0, q1, qP, va_K.moved (u := U) (U := U.calling g mk a) (Vm.Alike.refl U.vm) qK, qD⟩, va_recv hKc hPc (ci := 8) (q0 := 0) rfl rfl, fun U hU hW => ⟨rfl, by rw [hU], by rw [hU]; exact hPc, va_K.moved hW.alike hKc, hDc.weaken (fun _ _ _ _ => trivial)⟩⟩ rfl rfl hl.1 rfl (lv_room (Nat.le_of_ble_eq_true rfl)) dX5_readFunction_13 ⟨Nat.le_of_ble_eq_true rfl, Nat.le_of_ble_eq_true rfl⟩) hS (fun q _ h => hFc q h) hFc (fun u t H1 locs ht hvm hw hB hz1 hk1 hS => ?_)
    obtain ⟨hP1, hK1, hD1⟩ := hB
    rw [ht] at hP1
    obtain ⟨hP, hD⟩ := va_join (wr := []) (w1 := [(rd, .inr (8, [.ref w, .ref tr, .ref pr, .ref sc, .int (if (0 : Int32) = 0 then 1 else 0), .int (if (0 : Int32) = 0 then pl else rl), .int ra, .int ro, .int rh])), (w, .inr (13, [.ref tx, .int at0, .int (if (0 : Int32) = 0 then 0 else 1), .int pl, .int nu, .long nm]))]) hP hD [0, 1] [] rfl rfl (by decide) (by decide) hk1 hFc hP1 hD1
    generalize H1 = H at hP hS ⊢
    have hP : va_P (dC, dI) vwCl [(rd, .inr (8, [.ref w, .ref tr, .ref pr, .ref sc, .int (if (0 : Int32) = 0 then 1 else 0), .int (if (0 : Int32) = 0 then pl else rl), .int ra, .int ro, .int rh])), (w, .inr (13, [.ref tx, .int at0, .int (if (0 : Int32) = 0 then 0 else 1), .int pl, .int nu, .long nm]))] H := hP
    have hD : va_D A [(rd, .inr (8, [.ref w, .ref tr, .ref pr, .ref sc, .int (if (0 : Int32) = 0 then 1 else 0), .int (if (0 : Int32) = 0 then pl else rl), .int ra, .int ro, .int rh])), (w, .inr (13, [.ref tx, .int at0, .int (if (0 : Int32) = 0 then 0 else 1), .int pl, .int nu, .long nm]))] := hD
    have hP : va_P (dC, dI) vwCl [(rd, .inr (8, [.ref w, .ref tr, .ref pr, .ref sc, .int 1, .int pl, .int ra, .int ro, .int rh])), (w, .inr (13, [.ref tx, .int at0, .int 0, .int pl, .int nu, .long nm]))] H := hP
    have hD : va_D A [(rd, .inr (8, [.ref w, .ref tr, .ref pr, .ref sc, .int 1, .int pl, .int ra, .int ro, .int rh])), (w, .inr (13, [.ref tx, .int at0, .int 0, .int pl, .int nu, .long nm]))] := hD
    refine lv_goto (tgt := 62) hx hb dX5_readFunction_16 (by decide) ?_
    refine lv_aload_n hx hb dX5_readFunction_62 rfl (lv_at hl 0 rfl) ?_
    refine va_get (D := (dC, dI)) (ci := 8) (v := .ref w) (C := RX5) (T := TX5) (N := 9) hx hb hu iuX5 hown hK hP 0 rfl rfl 0 (by decide) (hu _ mG_538) (fun _ h9 => h9) rfl dX5_readFunction_63 ?_
    refine va_get (D := (dC, dI)) (ci := 13) (v := .int 0) (C := RX10) (T := TX10) (N := 6) hx hb hu iuX10 hown hK hP 1 rfl rfl 2 (by decide) (hu _ mG_518) (fun _ h9 => h9) rfl dX5_readFunction_66 ?_
    refine lv_if_ne (tgt := 73) hx hb dX5_readFunction_69 (by decide) (fun c69 => ?_) (fun c69 => ?_)
    · exact absurd (by decide) c69
    · have hP9 : va_P (dC, dI) vwCl [(rd, .inr (8, [.ref w, .ref tr, .ref pr, .ref sc, .int 1, .int pl, .int ra, .int ro, .int rh])), (w, .inr (13, [.ref tx, .int at0, .int 0, .int pl, .int nu, .long nm]))] H := by exact hP
      have hD9 : va_D A [(rd, .inr (8, [.ref w, .ref tr, .ref pr, .ref sc, .int 1, .int pl, .int ra, .int ro, .int rh])), (w, .inr (13, [.ref tx, .int at0, .int 0, .int pl, .int nu, .long nm]))] := by exact hD
      have hK9 := hK.sub (tys' := []) [] rfl
      exact W.vret hx hb hr (fun t ht hW => ⟨⟨(), rfl, trivial, by rw [ht]; exact hP9, va_K.moved hW.alike hK9, hD9⟩, hS.F ht⟩) hS.2.2 dX5_readFunction_72
set_option maxHeartbeats 4000000 in
set_option maxRecDepth 100000 in
/-- Reader.readText() on an empty text -/
theorem kX5_readText_0 (l : Launch) (dC : Nat → ClassId) (dI : Nat → Nat → Nat) (sz : Nat) (rd w : Nat) (rk rl ra ro rh : Int32) (tx : Nat) (at0 kd pl nu : Int32) (nm : Int64) (r cap : Nat) (lo : Int32) (f : Nat → Int32) (cB : ClassId) (tr t0 t1 t2 t3 t4 t5 t6 t7 : Nat) (tc : Int32) (pr p0 p1 p3 p7 p8 p9 p10 p11 p12 p13 p14 p15 p16 : Nat) (tp fn mn : Int32) (cn : Int32) (g0 : Nat → Int64) (g1 : Nat → Int32) (cL cI : ClassId) (sc s0 s1 s2 s3 s4 s5 s6 s7 s9 s10 s11 s12 s13 : Nat) (sc8 sc14 : Int32) (hc : cap < 2 ^ 31) : Met l yX5_readText (Cond.code yX5_readText cX5_readText 2 none :: uG) ({ frames := 4, cells := 0, slots := 0, locals := 84 }) (va_Pc [.ref rd] (fun U => U.heap.size = sz ∧ va_P (dC, dI) vwCl [(rd, .inr (8, [.ref w, .ref tr, .ref pr, .ref sc, .int rk, .int rl, .int ra, .int ro, .int rh])), (w, .inr (13, [.ref tx, .int at0, .int kd, .int pl, .int nu, .long nm])), (tx, .inr (11, [.ref r, .int (nI 0), .int lo])), (r, .inl (cB, cap, .inl f)), (tr, .inr (12, [.ref t0, .ref t1, .ref t2, .ref t3, .ref t4, .ref t5, .ref t6, .ref t7, .int tc])), (pr, .inr (7, [.ref p0, .ref p1, .int cn, .ref p3, .int tp, .int fn, .int mn, .ref p7, .ref p8, .ref p9, .ref p10, .ref p11, .ref p12, .ref p13, .ref p14, .ref p15, .ref p16])), (p0, .inl (cL, 30, .inr (.inl g0))), (p1, .inl (cI, 30, .inl g1)), (sc, .inr (9, [.ref s0, .ref s1, .ref s2, .ref s3, .ref s4, .ref s5, .ref s6, .ref s7, .int sc8, .ref s9, .ref s10, .ref s11, .ref s12, .ref s13, .int sc14]))] U.heap ∧ va_K (dC, dI) vwCl [(cB, .byte), (cL, .long), (cI, .int)] U ∧ va_D (fun _ => True) [(rd, .inr (8, [.ref w, .ref tr, .ref pr, .ref sc, .int rk, .int rl, .int ra, .int ro, .int rh])), (w, .inr (13, [.ref tx, .int at0, .int kd, .int pl, .int nu, .long nm])), (tx, .inr (11, [.ref r, .int (nI 0), .int lo])), (r, .inl (cB, cap, .inl f)), (tr, .inr (12, [.ref t0, .ref t1, .ref t2, .ref t3, .ref t4, .ref t5, .ref t6, .ref t7, .int tc])), (pr, .inr (7, [.ref p0, .ref p1, .int cn, .ref p3, .int tp, .int fn, .int mn, .ref p7, .ref p8, .ref p9, .ref p10, .ref p11, .ref p12, .ref p13, .ref p14, .ref p15, .ref p16])), (p0, .inl (cL, 30, .inr (.inl g0))), (p1, .inl (cI, 30, .inl g1)), (sc, .inr (9, [.ref s0, .ref s1, .ref s2, .ref s3, .ref s4, .ref s5, .ref s6, .ref s7, .int sc8, .ref s9, .ref s10, .ref s11, .ref s12, .ref s13, .int sc14]))])) (va_Qv (S := Unit) (fun _ => True) (fun _ t => va_P (dC, dI) vwCl [(rd, .inr (8, [.ref w, .ref tr, .ref pr, .ref sc, .int 1, .int (nI 0), .int 0, .int 0, .int (-1)])), (w, .inr (13, [.ref tx, .int (nI 0), .int 0, .int (nI 0), .int nu, .long nm])), (tx, .inr (11, [.ref r, .int (nI 0), .int lo])), (r, .inl (cB, cap, .inl f)), (tr, .inr (12, [.ref t0, .ref t1, .ref t2, .ref t3, .ref t4, .ref t5, .ref t6, .ref t7, .int 0])), (pr, .inr (7, [.ref p0, .ref p1, .int (nI 2), .ref p3, .int 0, .int 0, .int (-1), .ref p7, .ref p8, .ref p9, .ref p10, .ref p11, .ref p12, .ref p13, .ref p14, .ref p15, .ref p16])), (p0, .inl (cL, 30, .inr (.inl (vp_updL (vp_updL g0 0 302282208101) 1 1416787301)))), (p1, .inl (cI, 30, .inl (upd (upd g1 0 0) 1 0))), (sc, .inr (9, [.ref s0, .ref s1, .ref s2, .ref s3, .ref s4, .ref s5, .ref s6, .ref s7, .int 0, .ref s9, .ref s10, .ref s11, .ref s12, .ref s13, .int 0]))] t.heap ∧ va_K (dC, dI) vwCl [(cB, .byte), (cL, .long), (cI, .int)] t ∧ va_D (va_A [(rd, .inr (8, [.ref w, .ref tr, .ref pr, .ref sc, .int rk, .int rl, .int ra, .int ro, .int rh])), (w, .inr (13, [.ref tx, .int at0, .int kd, .int pl, .int nu, .long nm])), (tx, .inr (11, [.ref r, .int (nI 0), .int lo])), (r, .inl (cB, cap, .inl f)), (tr, .inr (12, [.ref t0, .ref t1, .ref t2, .ref t3, .ref t4, .ref t5, .ref t6, .ref t7, .int tc])), (pr, .inr (7, [.ref p0, .ref p1, .int cn, .ref p3, .int tp, .int fn, .int mn, .ref p7, .ref p8, .ref p9, .ref p10, .ref p11, .ref p12, .ref p13, .ref p14, .ref p15, .ref p16])), (p0, .inl (cL, 30, .inr (.inl g0))), (p1, .inl (cI, 30, .inl g1)), (sc, .inr (9, [.ref s0, .ref s1, .ref s2, .ref s3, .ref s4, .ref s5, .ref s6, .ref s7, .int sc8, .ref s9, .ref s10, .ref s11, .ref s12, .ref s13, .int sc14]))] sz) [(rd, .inr (8, [.ref w, .ref tr, .ref pr, .ref sc, .int 1, .int (nI 0), .int 0, .int 0, .int (-1)])), (w, .inr (13, [.ref tx, .int (nI 0), .int 0, .int (nI 0), .int nu, .long nm])), (tx, .inr (11, [.ref r, .int (nI 0), .int lo])), (r, .inl (cB, cap, .inl f)), (tr, .inr (12, [.ref t0, .ref t1, .ref t2, .ref t3, .ref t4, .ref t5, .ref t6, .ref t7, .int 0])), (pr, .inr (7, [.ref p0, .ref p1, .int (nI 2), .ref p3, .int 0, .int 0, .int (-1), .ref p7, .ref p8, .ref p9, .ref p10, .ref p11, .ref p12, .ref p13, .ref p14, .ref p15, .ref p16])), (p0, .inl (cL, 30, .inr (.inl (vp_updL (vp_updL g0 0 302282208101) 1 1416787301)))), (p1, .inl (cI, 30, .inl (upd (upd g1 0 0) 1 0))), (sc, .inr (9, [.ref s0, .ref s1, .ref s2, .ref s3, .ref s4, .ref s5, .ref s6, .ref s7, .int 0, .ref s9, .ref s10, .ref s11, .ref s12, .ref s13, .int 0]))]) (va_A [(rd, .inr (8, [.ref w, .ref tr, .ref pr, .ref sc, .int rk, .int rl, .int ra, .int ro, .int rh])), (w, .inr (13, [.ref tx, .int at0, .int kd, .int pl, .int nu, .long nm])), (tx, .inr (11, [.ref r, .int (nI 0), .int lo])), (r, .inl (cB, cap, .inl f)), (tr, .inr (12, [.ref t0, .ref t1, .ref t2, .ref t3, .ref t4, .ref t5, .ref t6, .ref t7, .int tc])), (pr, .inr (7, [.ref p0, .ref p1, .int cn, .ref p3, .int tp, .int fn, .int mn, .ref p7, .ref p8, .ref p9, .ref p10, .ref p11, .ref p12, .ref p13, .ref p14, .ref p15, .ref p16])), (p0, .inl (cL, 30, .inr (.inl g0))), (p1, .inl (cI, 30, .inl g1)), (sc, .inr (9, [.ref s0, .ref s1, .ref s2, .ref s3, .ref s4, .ref s5, .ref s6, .ref s7, .int sc8, .ref s9, .ref s10, .ref s11, .ref s12, .ref s13, .int sc14]))] sz)) 0 0 (va_A [(rd, .inr (8, [.ref w, .ref tr, .ref pr, .ref sc, .int rk, .int rl, .int ra, .int ro, .int rh])), (w, .inr (13, [.ref tx, .int at0, .int kd, .int pl, .int nu, .long nm])), (tx, .inr (11, [.ref r, .int (nI 0), .int lo])), (r, .inl (cB, cap, .inl f)), (tr, .inr (12, [.ref t0, .ref t1, .ref t2, .ref t3, .ref t4, .ref t5, .ref t6, .ref t7, .int tc])), (pr, .inr (7, [.ref p0, .ref p1, .int cn, .ref p3, .int tp, .int fn, .int mn, .ref p7, .ref p8, .ref p9, .ref p10, .ref p11, .ref p12, .ref p13, .ref p14, .ref p15, .ref p16])), (p0, .inl (cL, 30, .inr (.inl g0))), (p1, .inl (cI, 30, .inl g1)), (sc, .inr (9, [.ref s0, .ref s1, .ref s2, .ref s3, .ref s4, .ref s5, .ref s6, .ref s7, .int sc8, .ref s9, .ref s10, .ref s11, .ref s12, .ref s13, .int sc14]))] sz) := by
  refine Met.ofW (cc := cX5_readText) (maxL := 2) (ret := none) (by decide) rfl ?_
  intro pG eV s m args below meth c s₁ B hml hv
  obtain ⟨rfl, hsz, hP, hK, hD0⟩ := hv
  have hx := B.exec
  have hb := B.bytes
  have hr := B.returns
  have hts := atoms_spec (ws := Cond.code yX5_readText cX5_readText 2 none :: uG) B.pre
  have hu := fun (w : Cond) (h : w ∈ uG) => hts w (List.mem_cons_of_mem _ h)
  have hown : s.vm.findClass RX5 = some m.cls := findClass_of_methodNamed B.named
  have hlocks := B.notSynchronized
  subst hsz
  have hD := hD0.self (sz := s.heap.size)
  generalize hAe : va_A [(rd, .inr (8, [.ref w, .ref tr, .ref pr, .ref sc, .int rk, .int rl, .int ra, .int ro, .int rh])), (w, .inr (13, [.ref tx, .int at0, .int kd, .int pl, .int nu, .long nm])), (tx, .inr (11, [.ref r, .int (nI 0), .int lo])), (r, .inl (cB, cap, .inl f)), (tr, .inr (12, [.ref t0, .ref t1, .ref t2, .ref t3, .ref t4, .ref t5, .ref t6, .ref t7, .int tc])), (pr, .inr (7, [.ref p0, .ref p1, .int cn, .ref p3, .int tp, .int fn, .int mn, .ref p7, .ref p8, .ref p9, .ref p10, .ref p11, .ref p12, .ref p13, .ref p14, .ref p15, .ref p16])), (p0, .inl (cL, 30, .inr (.inl g0))), (p1, .inl (cI, 30, .inl g1)), (sc, .inr (9, [.ref s0, .ref s1, .ref s2, .ref s3, .ref s4, .ref s5, .ref s6, .ref s7, .int sc8, .ref s9, .ref s10, .ref s11, .ref s12, .ref s13, .int sc14]))] s.heap.size = A at hD ⊢
  have hA : ∀ q : Nat, s.heap.size ≤ q → A q := fun q h => by rw [← hAe]; exact Or.inr h
  have hS : va_S A s.heap s.heap [] := va_S.rf
  have hP : va_P (dC, dI) vwCl [(rd, .inr (8, [.ref w, .ref tr, .ref pr, .ref sc, .int rk, .int rl, .int ra, .int ro, .int rh])), (w, .inr (13, [.ref tx, .int at0, .int kd, .int pl, .int nu, .long nm])), (tx, .inr (11, [.ref r, .int (nI 0), .int lo])), (r, .inl (cB, cap, .inl f)), (tr, .inr (12, [.ref t0, .ref t1, .ref t2, .ref t3, .ref t4, .ref t5, .ref t6, .ref t7, .int tc])), (pr, .inr (7, [.ref p0, .ref p1, .int cn, .ref p3, .int tp, .int fn, .int mn, .ref p7, .ref p8, .ref p9, .ref p10, .ref p11, .ref p12, .ref p13, .ref p14, .ref p15, .ref p16])), (p0, .inl (cL, 30, .inr (.inl g0))), (p1, .inl (cI, 30, .inl g1)), (sc, .inr (9, [.ref s0, .ref s1, .ref s2, .ref s3, .ref s4, .ref s5, .ref s6, .ref s7, .int sc8, .ref s9, .ref s10, .ref s11, .ref s12, .ref s13, .int sc14]))] s.heap := hP
  have hD : va_D A [(rd, .inr (8, [.ref w, .ref tr, .ref pr, .ref sc, .int rk, .int rl, .int ra, .int ro, .int rh])), (w, .inr (13, [.ref tx, .int at0, .int kd, .int pl, .int nu, .long nm])), (tx, .inr (11, [.ref r, .int (nI 0), .int lo])), (r, .inl (cB, cap, .inl f)), (tr, .inr (12, [.ref t0, .ref t1, .ref t2, .ref t3, .ref t4, .ref t5, .ref t6, .ref t7, .int tc])), (pr, .inr (7, [.ref p0, .ref p1, .int cn, .ref p3, .int tp, .int fn, .int mn, .ref p7, .ref p8, .ref p9, .ref p10, .ref p11, .ref p12, .ref p13, .ref p14, .ref p15, .ref p16])), (p0, .inl (cL, 30, .inr (.inl g0))), (p1, .inl (cI, 30, .inl g1)), (sc, .inr (9, [.ref s0, .ref s1, .ref s2, .ref s3, .ref s4, .ref s5, .ref s6, .ref s7, .int sc8, .ref s9, .ref s10, .ref s11, .ref s12, .ref s13, .int sc14]))] := hD
  have hl := lv_entry ([.ref rd]) (n := 2) (Nat.le_of_ble_eq_true rfl)
  rw [lg_entry_eq]
  generalize (lg_sl ([.ref rd]) ++ List.replicate (2 - (lg_sl ([.ref rd])).length) Slot.unset).toArray = ls at hl ⊢
  have hl : lv_has ls 2 [(0, .ref rd)] := hl
  refine lv_aload_n hx hb dX5_readText_0 rfl (lv_at hl 0 rfl) ?_
  refine va_get (D := (dC, dI)) (ci := 8) (v := .ref tr) (C := RX5) (T := TX5) (N := 9) hx hb hu iuX5 hown hK hP 0 rfl rfl 1 (by decide) (hu _ mG_539) (fun _ h9 => h9) rfl dX5_readText_1 ?_
  have hPc := hP.sub (ws' := [(tr, .inr (12, [.ref t0, .ref t1, .ref t2, .ref t3, .ref t4, .ref t5, .ref t6, .ref t7, .int tc]))]) [4] rfl
  have hDc := hD.sub (ws' := [(tr, .inr (12, [.ref t0, .ref t1, .ref t2, .ref t3, .ref t4, .ref t5, .ref t6, .ref t7, .int tc]))]) [4] (by decide) rfl
  have hKc := hK.sub (tys' := []) [] rfl
  have hFc := va_free (wc := [(tr, .inr (12, [.ref t0, .ref t1, .ref t2, .ref t3, .ref t4, .ref t5, .ref t6, .ref t7, .int tc]))]) hD hS hA [4] rfl
  refine va_callv (va_runV (As := []) (rest := []) ⟨hx, hb, hml, hown, hu⟩ (kX9_clear l dC dI s.heap.size tr t0 t1 t2 t3 t4 t5 t6 t7 tc) (cwV 0 hu (uG_V (fun _ h => h) mG_899 mG_896 mG_897 mG_898 mG_217) rfl rfl rfl (by decide +kernel) ⟨Nat.le_of_ble_eq_true rfl, Nat.le_of_ble_eq_true rfl⟩) ⟨fun a U g mk q => by obtain ⟨q0, q1, qP, qK, qD⟩ := q; exact ⟨q0, q1, qP, va_K.moved (u := U) (U := U.calling g mk a) (Vm.Alike.refl U.vm) qK, qD⟩, va_recv hKc hPc (ci := 12) (q0 := 0) rfl rfl, fun U hU hW => ⟨rfl, by rw [hU], by rw [hU]; exact hPc, va_K.moved hW.alike hKc, hDc.weaken (fun _ _ _ _ => trivial)⟩⟩ rfl rfl hl.1 rfl (lv_room (Nat.le_of_ble_eq_true rfl)) dX5_readText_4 ⟨Nat.le_of_ble_eq_true rfl, Nat.le_of_ble_eq_true rfl⟩) hS (fun q _ h => hFc q h) hFc (fun u t H1 locs ht hvm hw hB hz1 hk1 hS => ?_)
  obtain ⟨hP1, hK1, hD1⟩ := hB
  rw [ht] at hP1
  obtain ⟨hP, hD⟩ := va_join (wr := [(rd, .inr (8, [.ref w, .ref tr, .ref pr, .ref sc, .int rk, .int rl, .int ra, .int ro, .int rh])), (w, .inr (13, [.ref tx, .int at0, .int kd, .int pl, .int nu, .long nm])), (tx, .inr (11, [.ref r, .int (nI 0), .int lo])), (r, .inl (cB, cap, .inl f)), (pr, .inr (7, [.ref p0, .ref p1, .int cn, .ref p3, .int tp, .int fn, .int mn, .ref p7, .ref p8, .ref p9, .ref p10, .ref p11, .ref p12, .ref p13, .ref p14, .ref p15, .ref p16])), (p0, .inl (cL, 30, .inr (.inl g0))), (p1, .inl (cI, 30, .inl g1)), (sc, .inr (9, [.ref s0, .ref s1, .ref s2, .ref s3, .ref s4, .ref s5, .ref s6, .ref s7, .int sc8, .ref s9, .ref s10, .ref s11, .ref s12, .ref s13, .int sc14]))]) (w1 := [(tr, .inr (12, [.ref t0, .ref t1, .ref t2, .ref t3, .ref t4, .ref t5, .ref t6, .ref t7, .int 0]))]) hP hD [4] [0, 1, 2, 3, 5, 6, 7, 8] rfl rfl (by decide) (by decide) hk1 hFc hP1 hD1
  generalize H1 = H at hP hS ⊢
  have hP : va_P (dC, dI) vwCl [(rd, .inr (8, [.ref w, .ref tr, .ref pr, .ref sc, .int rk, .int rl, .int ra, .int ro, .int rh])), (w, .inr (13, [.ref tx, .int at0, .int kd, .int pl, .int nu, .long nm])), (tx, .inr (11, [.ref r, .int (nI 0), .int lo])), (r, .inl (cB, cap, .inl f)), (pr, .inr (7, [.ref p0, .ref p1, .int cn, .ref p3, .int tp, .int fn, .int mn, .ref p7, .ref p8, .ref p9, .ref p10, .ref p11, .ref p12, .ref p13, .ref p14, .ref p15, .ref p16])), (p0, .inl (cL, 30, .inr (.inl g0))), (p1, .inl (cI, 30, .inl g1)), (sc, .inr (9, [.ref s0, .ref s1, .ref s2, .ref s3, .ref s4, .ref s5, .ref s6, .ref s7, .int sc8, .ref s9, .ref s10, .ref s11, .ref s12, .ref s13, .int sc14])), (tr, .inr (12, [.ref t0, .ref t1, .ref t2, .ref t3, .ref t4, .ref t5, .ref t6, .ref t7, .int 0]))] H := hP
  have hD : va_D A [(rd, .inr (8, [.ref w, .ref tr, .ref pr, .ref sc, .int rk, .int rl, .int ra, .int ro, .int rh])), (w, .inr (13, [.ref tx, .int at0, .int kd, .int pl, .int nu, .long nm])), (tx, .inr (11, [.ref r, .int (nI 0), .int lo])), (r, .inl (cB, cap, .inl f)), (pr, .inr (7, [.ref p0, .ref p1, .int cn, .ref p3, .int tp, .int fn, .int mn, .ref p7, .ref p8, .ref p9, .ref p10, .ref p11, .ref p12, .ref p13, .ref p14, .ref p15, .ref p16])), (p0, .inl (cL, 30, .inr (.inl g0))), (p1, .inl (cI, 30, .inl g1)), (sc, .inr (9, [.ref s0, .ref s1, .ref s2, .ref s3, .ref s4, .ref s5, .ref s6, .ref s7, .int sc8, .ref s9, .ref s10, .ref s11, .ref s12, .ref s13, .int sc14])), (tr, .inr (12, [.ref t0, .ref t1, .ref t2, .ref t3, .ref t4, .ref t5, .ref t6, .ref t7, .int 0]))] := hD
  refine lv_aload_n hx hb dX5_readText_7 rfl (lv_at hl 0 rfl) ?_
  refine va_get (D := (dC, dI)) (ci := 8) (v := .ref pr) (C := RX5) (T := TX5) (N := 9) hx hb hu iuX5 hown hK hP 0 rfl rfl 2 (by decide) (hu _ mG_540) (fun _ h9 => h9) rfl dX5_readText_8 ?_
  have hPc := hP.sub (ws' := [(pr, .inr (7, [.ref p0, .ref p1, .int cn, .ref p3, .int tp, .int fn, .int mn, .ref p7, .ref p8, .ref p9, .ref p10, .ref p11, .ref p12, .ref p13, .ref p14, .ref p15, .ref p16])), (p0, .inl (cL, 30, .inr (.inl g0))), (p1, .inl (cI, 30, .inl g1))]) [4, 5, 6] rfl
  have hDc := hD.sub (ws' := [(pr, .inr (7, [.ref p0, .ref p1, .int cn, .ref p3, .int tp, .int fn, .int mn, .ref p7, .ref p8, .ref p9, .ref p10, .ref p11, .ref p12, .ref p13, .ref p14, .ref p15, .ref p16])), (p0, .inl (cL, 30, .inr (.inl g0))), (p1, .inl (cI, 30, .inl g1))]) [4, 5, 6] (by decide) rfl
  have hKc := hK.sub (tys' := [(cL, .long), (cI, .int)]) [1, 2] rfl
  have hFc := va_free (wc := [(pr, .inr (7, [.ref p0, .ref p1, .int cn, .ref p3, .int tp, .int fn, .int mn, .ref p7, .ref p8, .ref p9, .ref p10, .ref p11, .ref p12, .ref p13, .ref p14, .ref p15, .ref p16])), (p0, .inl (cL, 30, .inr (.inl g0))), (p1, .inl (cI, 30, .inl g1))]) hD hS hA [4, 5, 6] rfl
  refine va_callv (va_runV (As := []) (rest := []) ⟨hx, hb, hml, hown, hu⟩ (kX4_clear l dC dI H.size pr p0 p1 p3 p7 p8 p9 p10 p11 p12 p13 p14 p15 p16 tp fn mn cn g0 g1 cL cI) (cwV 0 hu (uG_V (fun _ h => h) mG_903 mG_900 mG_901 mG_902 mG_216) rfl rfl rfl (by decide +kernel) ⟨Nat.le_of_ble_eq_true rfl, Nat.le_of_ble_eq_true rfl⟩) ⟨fun a U g mk q => by obtain ⟨q0, q1, qP, qK, qD⟩ := q; exact ⟨q0, q1, qP, va_K.moved (u := U) (U := U.calling g mk a) (Vm.Alike.refl U.vm) qK, qD⟩, va_recv hKc hPc (ci := 7) (q0 := 0) rfl rfl, fun U hU hW => ⟨rfl, by rw [hU], by rw [hU]; exact hPc, va_K.moved hW.alike hKc, hDc.weaken (fun _ _ _ _ => trivial)⟩⟩ rfl rfl hl.1 rfl (lv_room (Nat.le_of_ble_eq_true rfl)) dX5_readText_11 ⟨Nat.le_of_ble_eq_true rfl, Nat.le_of_ble_eq_true rfl⟩) hS (fun q _ h => hFc q h) hFc (fun u t H1 locs ht hvm hw hB hz1 hk1 hS => ?_)
  obtain ⟨hP1, hK1, hD1⟩ := hB
  rw [ht] at hP1
  obtain ⟨hP, hD⟩ := va_join (wr := [(rd, .inr (8, [.ref w, .ref tr, .ref pr, .ref sc, .int rk, .int rl, .int ra, .int ro, .int rh])), (w, .inr (13, [.ref tx, .int at0, .int kd, .int pl, .int nu, .long nm])), (tx, .inr (11, [.ref r, .int (nI 0), .int lo])), (r, .inl (cB, cap, .inl f)), (sc, .inr (9, [.ref s0, .ref s1, .ref s2, .ref s3, .ref s4, .ref s5, .ref s6, .ref s7, .int sc8, .ref s9, .ref s10, .ref s11, .ref s12, .ref s13, .int sc14])), (tr, .inr (12, [.ref t0, .ref t1, .ref t2, .ref t3, .ref t4, .ref t5, .ref t6, .ref t7, .int 0]))]) (w1 := [(pr, .inr (7, [.ref p0, .ref p1, .int (nI 2), .ref p3, .int 0, .int 0, .int (-1), .ref p7, .ref p8, .ref p9, .ref p10, .ref p11, .ref p12, .ref p13, .ref p14, .ref p15, .ref p16])), (p0, .inl (cL, 30, .inr (.inl (vp_updL (vp_updL g0 0 302282208101) 1 1416787301)))), (p1, .inl (cI, 30, .inl (upd (upd g1 0 0) 1 0)))]) hP hD [4, 5, 6] [0, 1, 2, 3, 7, 8] rfl rfl (by decide) (by decide) hk1 hFc hP1 hD1
  generalize H1 = H at hP hS ⊢
  have hP : va_P (dC, dI) vwCl [(rd, .inr (8, [.ref w, .ref tr, .ref pr, .ref sc, .int rk, .int rl, .int ra, .int ro, .int rh])), (w, .inr (13, [.ref tx, .int at0, .int kd, .int pl, .int nu, .long nm])), (tx, .inr (11, [.ref r, .int (nI 0), .int lo])), (r, .inl (cB, cap, .inl f)), (sc, .inr (9, [.ref s0, .ref s1, .ref s2, .ref s3, .ref s4, .ref s5, .ref s6, .ref s7, .int sc8, .ref s9, .ref s10, .ref s11, .ref s12, .ref s13, .int sc14])), (tr, .inr (12, [.ref t0, .ref t1, .ref t2, .ref t3, .ref t4, .ref t5, .ref t6, .ref t7, .int 0])), (pr, .inr (7, [.ref p0, .ref p1, .int (nI 2), .ref p3, .int 0, .int 0, .int (-1), .ref p7, .ref p8, .ref p9, .ref p10, .ref p11, .ref p12, .ref p13, .ref p14, .ref p15, .ref p16])), (p0, .inl (cL, 30, .inr (.inl (vp_updL (vp_updL g0 0 302282208101) 1 1416787301)))), (p1, .inl (cI, 30, .inl (upd (upd g1 0 0) 1 0)))] H := hP
  have hD : va_D A [(rd, .inr (8, [.ref w, .ref tr, .ref pr, .ref sc, .int rk, .int rl, .int ra, .int ro, .int rh])), (w, .inr (13, [.ref tx, .int at0, .int kd, .int pl, .int nu, .long nm])), (tx, .inr (11, [.ref r, .int (nI 0), .int lo])), (r, .inl (cB, cap, .inl f)), (sc, .inr (9, [.ref s0, .ref s1, .ref s2, .ref s3, .ref s4, .ref s5, .ref s6, .ref s7, .int sc8, .ref s9, .ref s10, .ref s11, .ref s12, .ref s13, .int sc14])), (tr, .inr (12, [.ref t0, .ref t1, .ref t2, .ref t3, .ref t4, .ref t5, .ref t6, .ref t7, .int 0])), (pr, .inr (7, [.ref p0, .ref p1, .int (nI 2), .ref p3, .int 0, .int 0, .int (-1), .ref p7, .ref p8, .ref p9, .ref p10, .ref p11, .ref p12, .ref p13, .ref p14, .ref p15, .ref p16])), (p0, .inl (cL, 30, .inr (.inl (vp_updL (vp_updL g0 0 302282208101) 1 1416787301)))), (p1, .inl (cI, 30, .inl (upd (upd g1 0 0) 1 0)))] := hD
  refine lv_aload_n hx hb dX5_readText_14 rfl (lv_at hl 0 rfl) ?_
  refine va_get (D := (dC, dI)) (ci := 8) (v := .ref sc) (C := RX5) (T := TX5) (N := 9) hx hb hu iuX5 hown hK hP 0 rfl rfl 3 (by decide) (hu _ mG_541) (fun _ h9 => h9) rfl dX5_readText_15 ?_
  have hPc := hP.sub (ws' := [(sc, .inr (9, [.ref s0, .ref s1, .ref s2, .ref s3, .ref s4, .ref s5, .ref s6, .ref s7, .int sc8, .ref s9, .ref s10, .ref s11, .ref s12, .ref s13, .int sc14]))]) [4] rfl
  have hDc := hD.sub (ws' := [(sc, .inr (9, [.ref s0, .ref s1, .ref s2, .ref s3, .ref s4, .ref s5, .ref s6, .ref s7, .int sc8, .ref s9, .ref s10, .ref s11, .ref s12, .ref s13, .int sc14]))]) [4] (by decide) rfl
  have hKc := hK.sub (tys' := []) [] rfl
  have hFc := va_free (wc := [(sc, .inr (9, [.ref s0, .ref s1, .ref s2, .ref s3, .ref s4, .ref s5, .ref s6, .ref s7, .int sc8, .ref s9, .ref s10, .ref s11, .ref s12, .ref s13, .int sc14]))]) hD hS hA [4] rfl
  refine va_callv (va_runV (As := []) (rest := []) ⟨hx, hb, hml, hown, hu⟩ (kX6_clear l dC dI H.size sc s0 s1 s2 s3 s4 s5 s6 s7 s9 s10 s11 s12 s13 sc8 sc14) (cwV 0 hu (uG_V (fun _ h => h) mG_913 mG_910 mG_911 mG_912 mG_218) rfl rfl rfl (by decide +kernel) ⟨Nat.le_of_ble_eq_true rfl, Nat.le_of_ble_eq_true rfl⟩) ⟨fun a U g mk q => by obtain ⟨q0, q1, qP, qK, qD⟩ := q; exact ⟨q0, q1, qP, va_K.moved (u := U) (U := U.calling g mk a) (Vm.Alike.refl U.vm) qK, qD⟩, va_recv hKc hPc (ci := 9) (q0 := 0) rfl rfl, fun U hU hW => ⟨rfl, by rw [hU], by rw [hU]; exact hPc, va_K.moved hW.alike hKc, hDc.weaken (fun _ _ _ _ => trivial)⟩⟩ rfl rfl hl.1 rfl (lv_room (Nat.le_of_ble_eq_true rfl)) dX5_readText_18 ⟨Nat.le_of_ble_eq_true rfl, Nat.le_of_ble_eq_true rfl⟩) hS (fun q _ h => hFc q h) hFc (fun u t H1 locs ht hvm hw hB hz1 hk1 hS => ?_)
  obtain ⟨hP1, hK1, hD1⟩ := hB
  rw [ht] at hP1
  obtain ⟨hP, hD⟩ := va_join (wr := [(rd, .inr (8, [.ref w, .ref tr, .ref pr, .ref sc, .int rk, .int rl, .int ra, .int ro, .int rh])), (w, .inr (13, [.ref tx, .int at0, .int kd, .int pl, .int nu, .long nm])), (tx, .inr (11, [.ref r, .int (nI 0), .int lo])), (r, .inl (cB, cap, .inl f)), (tr, .inr (12, [.ref t0, .ref t1, .ref t2, .ref t3, .ref t4, .ref t5, .ref t6, .ref t7, .int 0])), (pr, .inr (7, [.ref p0, .ref p1, .int (nI 2), .ref p3, .int 0, .int 0, .int (-1), .ref p7, .ref p8, .ref p9, .ref p10, .ref p11, .ref p12, .ref p13, .ref p14, .ref p15, .ref p16])), (p0, .inl (cL, 30, .inr (.inl (vp_updL (vp_updL g0 0 302282208101) 1 1416787301)))), (p1, .inl (cI, 30, .inl (upd (upd g1 0 0) 1 0)))]) (w1 := [(sc, .inr (9, [.ref s0, .ref s1, .ref s2, .ref s3, .ref s4, .ref s5, .ref s6, .ref s7, .int 0, .ref s9, .ref s10, .ref s11, .ref s12, .ref s13, .int 0]))]) hP hD [4] [0, 1, 2, 3, 5, 6, 7, 8] rfl rfl (by decide) (by decide) hk1 hFc hP1 hD1
  generalize H1 = H at hP hS ⊢
  have hP : va_P (dC, dI) vwCl [(rd, .inr (8, [.ref w, .ref tr, .ref pr, .ref sc, .int rk, .int rl, .int ra, .int ro, .int rh])), (w, .inr (13, [.ref tx, .int at0, .int kd, .int pl, .int nu, .long nm])), (tx, .inr (11, [.ref r, .int (nI 0), .int lo])), (r, .inl (cB, cap, .inl f)), (tr, .inr (12, [.ref t0, .ref t1, .ref t2, .ref t3, .ref t4, .ref t5, .ref t6, .ref t7, .int 0])), (pr, .inr (7, [.ref p0, .ref p1, .int (nI 2), .ref p3, .int 0, .int 0, .int (-1), .ref p7, .ref p8, .ref p9, .ref p10, .ref p11, .ref p12, .ref p13, .ref p14, .ref p15, .ref p16])), (p0, .inl (cL, 30, .inr (.inl (vp_updL (vp_updL g0 0 302282208101) 1 1416787301)))), (p1, .inl (cI, 30, .inl (upd (upd g1 0 0) 1 0))), (sc, .inr (9, [.ref s0, .ref s1, .ref s2, .ref s3, .ref s4, .ref s5, .ref s6, .ref s7, .int 0, .ref s9, .ref s10, .ref s11, .ref s12, .ref s13, .int 0]))] H := hP
  have hD : va_D A [(rd, .inr (8, [.ref w, .ref tr, .ref pr, .ref sc, .int rk, .int rl, .int ra, .int ro, .int rh])), (w, .inr (13, [.ref tx, .int at0, .int kd, .int pl, .int nu, .long nm])), (tx, .inr (11, [.ref r, .int (nI 0), .int lo])), (r, .inl (cB, cap, .inl f)), (tr, .inr (12, [.ref t0, .ref t1, .ref t2, .ref t3, .ref t4, .ref t5, .ref t6, .ref t7, .int 0])), (pr, .inr (7, [.ref p0, .ref p1, .int (nI 2), .ref p3, .int 0, .int 0, .int (-1), .ref p7, .ref p8, .ref p9, .ref p10, .ref p11, .ref p12, .ref p13, .ref p14, .ref p15, .ref p16])), (p0, .inl (cL, 30, .inr (.inl (vp_updL (vp_updL g0 0 302282208101) 1 1416787301)))), (p1, .inl (cI, 30, .inl (upd (upd g1 0 0) 1 0))), (sc, .inr (9, [.ref s0, .ref s1, .ref s2, .ref s3, .ref s4, .ref s5, .ref s6, .ref s7, .int 0, .ref s9, .ref s10, .ref s11, .ref s12, .ref s13, .int 0]))] := hD
  refine lv_aload_n hx hb dX5_readText_21 rfl (lv_at hl 0 rfl) ?_
  refine lv_iconst (v := 0) hx hb dX5_readText_22 (by decide) ?_
  refine va_put (D := (dC, dI)) (ci := 8) (v := .int 0) (ty := (tyX5 4)) (C := RX5) (T := TX5) (N := 9) hx hb hu iuX5 tyX5 tyX5_ok nmX5 hown hK hP hD hS 0 rfl rfl 4 (by decide) (hu _ mG_542) (fun _ h9 => h9) rfl (by decide +kernel) (rfl) (rfl) (Nat.le_of_ble_eq_true rfl) dX5_readText_23 (fun H locs hP hD hS => ?_)
  have hP : va_P (dC, dI) vwCl [(rd, .inr (8, [.ref w, .ref tr, .ref pr, .ref sc, .int 0, .int rl, .int ra, .int ro, .int rh])), (w, .inr (13, [.ref tx, .int at0, .int kd, .int pl, .int nu, .long nm])), (tx, .inr (11, [.ref r, .int (nI 0), .int lo])), (r, .inl (cB, cap, .inl f)), (tr, .inr (12, [.ref t0, .ref t1, .ref t2, .ref t3, .ref t4, .ref t5, .ref t6, .ref t7, .int 0])), (pr, .inr (7, [.ref p0, .ref p1, .int (nI 2), .ref p3, .int 0, .int 0, .int (-1), .ref p7, .ref p8, .ref p9, .ref p10, .ref p11, .ref p12, .ref p13, .ref p14, .ref p15, .ref p16])), (p0, .inl (cL, 30, .inr (.inl (vp_updL (vp_updL g0 0 302282208101) 1 1416787301)))), (p1, .inl (cI, 30, .inl (upd (upd g1 0 0) 1 0))), (sc, .inr (9, [.ref s0, .ref s1, .ref s2, .ref s3, .ref s4, .ref s5, .ref s6, .ref s7, .int 0, .ref s9, .ref s10, .ref s11, .ref s12, .ref s13, .int 0]))] H := hP
  have hD : va_D A [(rd, .inr (8, [.ref w, .ref tr, .ref pr, .ref sc, .int 0, .int rl, .int ra, .int ro, .int rh])), (w, .inr (13, [.ref tx, .int at0, .int kd, .int pl, .int nu, .long nm])), (tx, .inr (11, [.ref r, .int (nI 0), .int lo])), (r, .inl (cB, cap, .inl f)), (tr, .inr (12, [.ref t0, .ref t1, .ref t2, .ref t3, .ref t4, .ref t5, .ref t6, .ref t7, .int 0])), (pr, .inr (7, [.ref p0, .ref p1, .int (nI 2), .ref p3, .int 0, .int 0, .int (-1), .ref p7, .ref p8, .ref p9, .ref p10, .ref p11, .ref p12, .ref p13, .ref p14, .ref p15, .ref p16])), (p0, .inl (cL, 30, .inr (.inl (vp_updL (vp_updL g0 0 302282208101) 1 1416787301)))), (p1, .inl (cI, 30, .inl (upd (upd g1 0 0) 1 0))), (sc, .inr (9, [.ref s0, .ref s1, .ref s2, .ref s3, .ref s4, .ref s5, .ref s6, .ref s7, .int 0, .ref s9, .ref s10, .ref s11, .ref s12, .ref s13, .int 0]))] := hD
  refine lv_aload_n hx hb dX5_readText_26 rfl (lv_at hl 0 rfl) ?_
  refine lv_iconst (v := (-1)) hx hb dX5_readText_27 (by decide) ?_
  refine va_put (D := (dC, dI)) (ci := 8) (v := .int (-1)) (ty := (tyX5 5)) (C := RX5) (T := TX5) (N := 9) hx hb hu iuX5 tyX5 tyX5_ok nmX5 hown hK hP hD hS 0 rfl rfl 5 (by decide) (hu _ mG_544) (fun _ h9 => h9) rfl (by decide +kernel) (rfl) (rfl) (Nat.le_of_ble_eq_true rfl) dX5_readText_28 (fun H locs hP hD hS => ?_)
  have hP : va_P (dC, dI) vwCl [(rd, .inr (8, [.ref w, .ref tr, .ref pr, .ref sc, .int 0, .int (-1), .int ra, .int ro, .int rh])), (w, .inr (13, [.ref tx, .int at0, .int kd, .int pl, .int nu, .long nm])), (tx, .inr (11, [.ref r, .int (nI 0), .int lo])), (r, .inl (cB, cap, .inl f)), (tr, .inr (12, [.ref t0, .ref t1, .ref t2, .ref t3, .ref t4, .ref t5, .ref t6, .ref t7, .int 0])), (pr, .inr (7, [.ref p0, .ref p1, .int (nI 2), .ref p3, .int 0, .int 0, .int (-1), .ref p7, .ref p8, .ref p9, .ref p10, .ref p11, .ref p12, .ref p13, .ref p14, .ref p15, .ref p16])), (p0, .inl (cL, 30, .inr (.inl (vp_updL (vp_updL g0 0 302282208101) 1 1416787301)))), (p1, .inl (cI, 30, .inl (upd (upd g1 0 0) 1 0))), (sc, .inr (9, [.ref s0, .ref s1, .ref s2, .ref s3, .ref s4, .ref s5, .ref s6, .ref s7, .int 0, .ref s9, .ref s10, .ref s11, .ref s12, .ref s13, .int 0]))] H := hP
  have hD : va_D A [(rd, .inr (8, [.ref w, .ref tr, .ref pr, .ref sc, .int 0, .int (-1), .int ra, .int ro, .int rh])), (w, .inr (13, [.ref tx, .int at0, .int kd, .int pl, .int nu, .long nm])), (tx, .inr (11, [.ref r, .int (nI 0), .int lo])), (r, .inl (cB, cap, .inl f)), (tr, .inr (12, [.ref t0, .ref t1, .ref t2, .ref t3, .ref t4, .ref t5, .ref t6, .ref t7, .int 0])), (pr, .inr (7, [.ref p0, .ref p1, .int (nI 2), .ref p3, .int 0, .int 0, .int (-1), .ref p7, .ref p8, .ref p9, .ref p10, .ref p11, .ref p12, .ref p13, .ref p14, .ref p15, .ref p16])), (p0, .inl (cL, 30, .inr (.inl (vp_updL (vp_updL g0 0 302282208101) 1 1416787301)))), (p1, .inl (cI, 30, .inl (upd (upd g1 0 0) 1 0))), (sc, .inr (9, [.ref s0, .ref s1, .ref s2, .ref s3, .ref s4, .ref s5, .ref s6, .ref s7, .int 0, .ref s9, .ref s10, .ref s11, .ref s12, .ref s13, .int 0]))] := hD
  refine lv_aload_n hx hb dX5_readText_31 rfl (lv_at hl 0 rfl) ?_
  refine lv_iconst (v := 0) hx hb dX5_readText_32 (by decide) ?_
  refine va_put (D := (dC, dI)) (ci := 8) (v := .int 0) (ty := (tyX5 6)) (C := RX5) (T := TX5) (N := 9) hx hb hu iuX5 tyX5 tyX5_ok nmX5 hown hK hP hD hS 0 rfl rfl 6 (by decide) (hu _ mG_546) (fun _ h9 => h9) rfl (by decide +kernel) (rfl) (rfl) (Nat.le_of_ble_eq_true rfl) dX5_readText_33 (fun H locs hP hD hS => ?_)
  have hP : va_P (dC, dI) vwCl [(rd, .inr (8, [.ref w, .ref tr, .ref pr, .ref sc, .int 0, .int (-1), .int 0, .int ro, .int rh])), (w, .inr (13, [.ref tx, .int at0, .int kd, .int pl, .int nu, .long nm])), (tx, .inr (11, [.ref r, .int (nI 0), .int lo])), (r, .inl (cB, cap, .inl f)), (tr, .inr (12, [.ref t0, .ref t1, .ref t2, .ref t3, .ref t4, .ref t5, .ref t6, .ref t7, .int 0])), (pr, .inr (7, [.ref p0, .ref p1, .int (nI 2), .ref p3, .int 0, .int 0, .int (-1), .ref p7, .ref p8, .ref p9, .ref p10, .ref p11, .ref p12, .ref p13, .ref p14, .ref p15, .ref p16])), (p0, .inl (cL, 30, .inr (.inl (vp_updL (vp_updL g0 0 302282208101) 1 1416787301)))), (p1, .inl (cI, 30, .inl (upd (upd g1 0 0) 1 0))), (sc, .inr (9, [.ref s0, .ref s1, .ref s2, .ref s3, .ref s4, .ref s5, .ref s6, .ref s7, .int 0, .ref s9, .ref s10, .ref s11, .ref s12, .ref s13, .int 0]))] H := hP
  have hD : va_D A [(rd, .inr (8, [.ref w, .ref tr, .ref pr, .ref sc, .int 0, .int (-1), .int 0, .int ro, .int rh])), (w, .inr (13, [.ref tx, .int at0, .int kd, .int pl, .int nu, .long nm])), (tx, .inr (11, [.ref r, .int (nI 0), .int lo])), (r, .inl (cB, cap, .inl f)), (tr, .inr (12, [.ref t0, .ref t1, .ref t2, .ref t3, .ref t4, .ref t5, .ref t6, .ref t7, .int 0])), (pr, .inr (7, [.ref p0, .ref p1, .int (nI 2), .ref p3, .int 0, .int 0, .int (-1), .ref p7, .ref p8, .ref p9, .ref p10, .ref p11, .ref p12, .ref p13, .ref p14, .ref p15, .ref p16])), (p0, .inl (cL, 30, .inr (.inl (vp_updL (vp_updL g0 0 302282208101) 1 1416787301)))), (p1, .inl (cI, 30, .inl (upd (upd g1 0 0) 1 0))), (sc, .inr (9, [.ref s0, .ref s1, .ref s2, .ref s3, .ref s4, .ref s5, .ref s6, .ref s7, .int 0, .ref s9, .ref s10, .ref s11, .ref s12, .ref s13, .int 0]))] := hD
  refine lv_aload_n hx hb dX5_readText_36 rfl (lv_at hl 0 rfl) ?_
  refine lv_iconst (v := 0) hx hb dX5_readText_37 (by decide) ?_
  refine va_put (D := (dC, dI)) (ci := 8) (v := .int 0) (ty := (tyX5 7)) (C := RX5) (T := TX5) (N := 9) hx hb hu iuX5 tyX5 tyX5_ok nmX5 hown hK hP hD hS 0 rfl rfl 7 (by decide) (hu _ mG_548) (fun _ h9 => h9) rfl (by decide +kernel) (rfl) (rfl) (Nat.le_of_ble_eq_true rfl) dX5_readText_38 (fun H locs hP hD hS => ?_)
  have hP : va_P (dC, dI) vwCl [(rd, .inr (8, [.ref w, .ref tr, .ref pr, .ref sc, .int 0, .int (-1), .int 0, .int 0, .int rh])), (w, .inr (13, [.ref tx, .int at0, .int kd, .int pl, .int nu, .long nm])), (tx, .inr (11, [.ref r, .int (nI 0), .int lo])), (r, .inl (cB, cap, .inl f)), (tr, .inr (12, [.ref t0, .ref t1, .ref t2, .ref t3, .ref t4, .ref t5, .ref t6, .ref t7, .int 0])), (pr, .inr (7, [.ref p0, .ref p1, .int (nI 2), .ref p3, .int 0, .int 0, .int (-1), .ref p7, .ref p8, .ref p9, .ref p10, .ref p11, .ref p12, .ref p13, .ref p14, .ref p15, .ref p16])), (p0, .inl (cL, 30, .inr (.inl (vp_updL (vp_updL g0 0 302282208101) 1 1416787301)))), (p1, .inl (cI, 30, .inl (upd (upd g1 0 0) 1 0))), (sc, .inr (9, [.ref s0, .ref s1, .ref s2, .ref s3, .ref s4, .ref s5, .ref s6, .ref s7, .int 0, .ref s9, .ref s10, .ref s11, .ref s12, .ref s13, .int 0]))] H := hP
  have hD : va_D A [(rd, .inr (8, [.ref w, .ref tr, .ref pr, .ref sc, .int 0, .int (-1), .int 0, .int 0, .int rh])), (w, .inr (13, [.ref tx, .int at0, .int kd, .int pl, .int nu, .long nm])), (tx, .inr (11, [.ref r, .int (nI 0), .int lo])), (r, .inl (cB, cap, .inl f)), (tr, .inr (12, [.ref t0, .ref t1, .ref t2, .ref t3, .ref t4, .ref t5, .ref t6, .ref t7, .int 0])), (pr, .inr (7, [.ref p0, .ref p1, .int (nI 2), .ref p3, .int 0, .int 0, .int (-1), .ref p7, .ref p8, .ref p9, .ref p10, .ref p11, .ref p12, .ref p13, .ref p14, .ref p15, .ref p16])), (p0, .inl (cL, 30, .inr (.inl (vp_updL (vp_updL g0 0 302282208101) 1 1416787301)))), (p1, .inl (cI, 30, .inl (upd (upd g1 0 0) 1 0))), (sc, .inr (9, [.ref s0, .ref s1, .ref s2, .ref s3, .ref s4, .ref s5, .ref s6, .ref s7, .int 0, .ref s9, .ref s10, .ref s11, .ref s12, .ref s13, .int 0]))] := hD
  refine lv_aload_n hx hb dX5_readText_41 rfl (lv_at hl 0 rfl) ?_
  refine lv_iconst (v := (-1)) hx hb dX5_readText_42 (by decide) ?_
  refine va_put (D := (dC, dI)) (ci := 8) (v := .int (-1)) (ty := (tyX5 8)) (C := RX5) (T := TX5) (N := 9) hx hb hu iuX5 tyX5 tyX5_ok nmX5 hown hK hP hD hS 0 rfl rfl 8 (by decide) (hu _ mG_549) (fun _ h9 => h9) rfl (by decide +kernel) (rfl) (rfl) (Nat.le_of_ble_eq_true rfl) dX5_readText_43 (fun H locs hP hD hS => ?_)
  have hP : va_P (dC, dI) vwCl [(rd, .inr (8, [.ref w, .ref tr, .ref pr, .ref sc, .int 0, .int (-1), .int 0, .int 0, .int (-1)])), (w, .inr (13, [.ref tx, .int at0, .int kd, .int pl, .int nu, .long nm])), (tx, .inr (11, [.ref r, .int (nI 0), .int lo])), (r, .inl (cB, cap, .inl f)), (tr, .inr (12, [.ref t0, .ref t1, .ref t2, .ref t3, .ref t4, .ref t5, .ref t6, .ref t7, .int 0])), (pr, .inr (7, [.ref p0, .ref p1, .int (nI 2), .ref p3, .int 0, .int 0, .int (-1), .ref p7, .ref p8, .ref p9, .ref p10, .ref p11, .ref p12, .ref p13, .ref p14, .ref p15, .ref p16])), (p0, .inl (cL, 30, .inr (.inl (vp_updL (vp_updL g0 0 302282208101) 1 1416787301)))), (p1, .inl (cI, 30, .inl (upd (upd g1 0 0) 1 0))), (sc, .inr (9, [.ref s0, .ref s1, .ref s2, .ref s3, .ref s4, .ref s5, .ref s6, .ref s7, .int 0, .ref s9, .ref s10, .ref s11, .ref s12, .ref s13, .int 0]))] H := hP
  have hD : va_D A [(rd, .inr (8, [.ref w, .ref tr, .ref pr, .ref sc, .int 0, .int (-1), .int 0, .int 0, .int (-1)])), (w, .inr (13, [.ref tx, .int at0, .int kd, .int pl, .int nu, .long nm])), (tx, .inr (11, [.ref r, .int (nI 0), .int lo])), (r, .inl (cB, cap, .inl f)), (tr, .inr (12, [.ref t0, .ref t1, .ref t2, .ref t3, .ref t4, .ref t5, .ref t6, .ref t7, .int 0])), (pr, .inr (7, [.ref p0, .ref p1, .int (nI 2), .ref p3, .int 0, .int 0, .int (-1), .ref p7, .ref p8, .ref p9, .ref p10, .ref p11, .ref p12, .ref p13, .ref p14, .ref p15, .ref p16])), (p0, .inl (cL, 30, .inr (.inl (vp_updL (vp_updL g0 0 302282208101) 1 1416787301)))), (p1, .inl (cI, 30, .inl (upd (upd g1 0 0) 1 0))), (sc, .inr (9, [.ref s0, .ref s1, .ref s2, .ref s3, .ref s4, .ref s5, .ref s6, .ref s7, .int 0, .ref s9, .ref s10, .ref s11, .ref s12, .ref s13, .int 0]))] := hD
  refine lv_aload_n hx hb dX5_readText_46 rfl (lv_at hl 0 rfl) ?_
  refine va_get (D := (dC, dI)) (ci := 8) (v := .ref w) (C := RX5) (T := TX5) (N := 9) hx hb hu iuX5 hown hK hP 0 rfl rfl 0 (by decide) (hu _ mG_538) (fun _ h9 => h9) rfl dX5_readText_47 ?_
  have hPc := hP.sub (ws' := [(w, .inr (13, [.ref tx, .int at0, .int kd, .int pl, .int nu, .long nm])), (tx, .inr (11, [.ref r, .int (nI 0), .int lo])), (r, .inl (cB, cap, .inl f))]) [1, 2, 3] rfl
  have hDc := hD.sub (ws' := [(w, .inr (13, [.ref tx, .int at0, .int kd, .int pl, .int nu, .long nm])), (tx, .inr (11, [.ref r, .int (nI 0), .int lo])), (r, .inl (cB, cap, .inl f))]) [1, 2, 3] (by decide) rfl
  have hKc := hK.sub (tys' := [(cB, .byte)]) [0] rfl
  have hFc := va_free (wc := [(w, .inr (13, [.ref tx, .int at0, .int kd, .int pl, .int nu, .long nm])), (tx, .inr (11, [.ref r, .int (nI 0), .int lo])), (r, .inl (cB, cap, .inl f))]) hD hS hA [1, 2, 3] rfl
  refine va_callv (va_runV (As := []) (rest := []) ⟨hx, hb, hml, hown, hu⟩ (kX10_begin_0 l dC dI H.size w tx at0 kd pl nu nm r cap lo f cB hc) (cwV 0 hu (uG_V (fun _ h => h) mG_917 mG_914 mG_915 mG_916 mG_220) rfl rfl rfl (by decide +kernel) ⟨Nat.le_of_ble_eq_true rfl, Nat.le_of_ble_eq_true rfl⟩) ⟨fun a U g mk q => by obtain ⟨q0, q1, qP, qK, qD⟩ := q; exact ⟨q0, q1, qP, va_K.moved (u := U) (U := U.calling g mk a) (Vm.Alike.refl U.vm) qK, qD⟩, va_recv hKc hPc (ci := 13) (q0 := 0) rfl rfl, fun U hU hW => ⟨rfl, by rw [hU], by rw [hU]; exact hPc, va_K.moved hW.alike hKc, hDc.weaken (fun _ _ _ _ => trivial)⟩⟩ rfl rfl hl.1 rfl (lv_room (Nat.le_of_ble_eq_true rfl)) dX5_readText_50 ⟨Nat.le_of_ble_eq_true rfl, Nat.le_of_ble_eq_true rfl⟩) hS (fun q _ h => hFc q h) hFc (fun u t H1 locs ht hvm hw hB hz1 hk1 hS => ?_)
  obtain ⟨hP1, hK1, hD1⟩ := hB
  rw [ht] at hP1
  obtain ⟨hP, hD⟩ := va_join (wr := [(rd, .inr (8, [.ref w, .ref tr, .ref pr, .ref sc, .int 0, .int (-1), .int 0, .int 0, .int (-1)])), (tr, .inr (12, [.ref t0, .ref t1, .ref t2, .ref t3, .ref t4, .ref t5, .ref t6, .ref t7, .int 0])), (pr, .inr (7, [.ref p0, .ref p1, .int (nI 2), .ref p3, .int 0, .int 0, .int (-1), .ref p7, .ref p8, .ref p9, .ref p10, .ref p11, .ref p12, .ref p13, .ref p14, .ref p15, .ref p16])), (p0, .inl (cL, 30, .inr (.inl (vp_updL (vp_updL g0 0 302282208101) 1 1416787301)))), (p1, .inl (cI, 30, .inl (upd (upd g1 0 0) 1 0))), (sc, .inr (9, [.ref s0, .ref s1, .ref s2, .ref s3, .ref s4, .ref s5, .ref s6, .ref s7, .int 0, .ref s9, .ref s10, .ref s11, .ref s12, .ref s13, .int 0]))]) (w1 := [(w, .inr (13, [.ref tx, .int (nI 0), .int 1, .int (nI 0), .int nu, .long nm])), (tx, .inr (11, [.ref r, .int (nI 0), .int lo])), (r, .inl (cB, cap, .inl f))]) hP hD [1, 2, 3] [0, 4, 5, 6, 7, 8] rfl rfl (by decide) (by decide) hk1 hFc hP1 hD1
  generalize H1 = H at hP hS ⊢
  have hP : va_P (dC, dI) vwCl [(rd, .inr (8, [.ref w, .ref tr, .ref pr, .ref sc, .int 0, .int (-1), .int 0, .int 0, .int (-1)])), (tr, .inr (12, [.ref t0, .ref t1, .ref t2, .ref t3, .ref t4, .ref t5, .ref t6, .ref t7, .int 0])), (pr, .inr (7, [.ref p0, .ref p1, .int (nI 2), .ref p3, .int 0, .int 0, .int (-1), .ref p7, .ref p8, .ref p9, .ref p10, .ref p11, .ref p12, .ref p13, .ref p14, .ref p15, .ref p16])), (p0, .inl (cL, 30, .inr (.inl (vp_updL (vp_updL g0 0 302282208101) 1 1416787301)))), (p1, .inl (cI, 30, .inl (upd (upd g1 0 0) 1 0))), (sc, .inr (9, [.ref s0, .ref s1, .ref s2, .ref s3, .ref s4, .ref s5, .ref s6, .ref s7, .int 0, .ref s9, .ref s10, .ref s11, .ref s12, .ref s13, .int 0])), (w, .inr (13, [.ref tx, .int (nI 0), .int 1, .int (nI 0), .int nu, .long nm])), (tx, .inr (11, [.ref r, .int (nI 0), .int lo])), (r, .inl (cB, cap, .inl f))] H := hP
  have hD : va_D A [(rd, .inr (8, [.ref w, .ref tr, .ref pr, .ref sc, .int 0, .int (-1), .int 0, .int 0, .int (-1)])), (tr, .inr (12, [.ref t0, .ref t1, .ref t2, .ref t3, .ref t4, .ref t5, .ref t6, .ref t7, .int 0])), (pr, .inr (7, [.ref p0, .ref p1, .int (nI 2), .ref p3, .int 0, .int 0, .int (-1), .ref p7, .ref p8, .ref p9, .ref p10, .ref p11, .ref p12, .ref p13, .ref p14, .ref p15, .ref p16])), (p0, .inl (cL, 30, .inr (.inl (vp_updL (vp_updL g0 0 302282208101) 1 1416787301)))), (p1, .inl (cI, 30, .inl (upd (upd g1 0 0) 1 0))), (sc, .inr (9, [.ref s0, .ref s1, .ref s2, .ref s3, .ref s4, .ref s5, .ref s6, .ref s7, .int 0, .ref s9, .ref s10, .ref s11, .ref s12, .ref s13, .int 0])), (w, .inr (13, [.ref tx, .int (nI 0), .int 1, .int (nI 0), .int nu, .long nm])), (tx, .inr (11, [.ref r, .int (nI 0), .int lo])), (r, .inl (cB, cap, .inl f))] := hD
  refine lv_iconst (v := 0) hx hb dX5_readText_53 (by decide) ?_
  refine lv_istore_n (lv' := [(1, .int 0), (0, .ref rd)]) hx hb dX5_readText_54 rfl hl (by decide) rfl (fun ls hl => ?_)
  refine lv_iload_n hx hb dX5_readText_55 rfl (lv_at hl 0 rfl) ?_
  refine lv_sipush (v := 3001) hx hb dX5_readText_56 (by decide) ?_
  refine lv_icmp_ge (tgt := 84) hx hb dX5_readText_59 (by decide) (fun c59 => ?_) (fun c59 => ?_)
  · exact absurd c59 (by decide)
  · refine lv_aload_n hx hb dX5_readText_62 rfl (lv_at hl 1 rfl) ?_
    refine va_get (D := (dC, dI)) (ci := 8) (v := .ref w) (C := RX5) (T := TX5) (N := 9) hx hb hu iuX5 hown hK hP 0 rfl rfl 0 (by decide) (hu _ mG_538) (fun _ h9 => h9) rfl dX5_readText_63 ?_
    refine va_get (D := (dC, dI)) (ci := 13) (v := .int 1) (C := RX10) (T := TX10) (N := 6) hx hb hu iuX10 hown hK hP 6 rfl rfl 2 (by decide) (hu _ mG_518) (fun _ h9 => h9) rfl dX5_readText_66 ?_
    refine lv_bipush (v := 6) hx hb dX5_readText_69 (by decide) ?_
    refine lv_icmp_ne (tgt := 84) hx hb dX5_readText_71 (by decide) (fun c71 => ?_) (fun c71 => ?_)
    · refine lv_aload_n hx hb dX5_readText_84 rfl (lv_at hl 1 rfl) ?_
      have hPc := hP.sub (ws' := [(rd, .inr (8, [.ref w, .ref tr, .ref pr, .ref sc, .int 0, .int (-1), .int 0, .int 0, .int (-1)])), (w, .inr (13, [.ref tx, .int (nI 0), .int 1, .int (nI 0), .int nu, .long nm]))]) [0, 6] rfl
      have hDc := hD.sub (ws' := [(rd, .inr (8, [.ref w, .ref tr, .ref pr, .ref sc, .int 0, .int (-1), .int 0, .int 0, .int (-1)])), (w, .inr (13, [.ref tx, .int (nI 0), .int 1, .int (nI 0), .int nu, .long nm]))]) [0, 6] (by decide) rfl
      have hKc := hK.sub (tys' := []) [] rfl
      have hFc := va_free (wc := [(rd, .inr (8, [.ref w, .ref tr, .ref pr, .ref sc, .int 0, .int (-1), .int 0, .int 0, .int (-1)])), (w, .inr (13, [.ref tx, .int (nI 0), .int 1, .int (nI 0), .int nu, .long nm]))]) hD hS hA [0, 6] rfl
      refine va_callv (va_runV (As := []) (rest := []) ⟨hx, hb, hml, hown, hu⟩ (kX5_readFunction_end l dC dI H.size rd w tr pr sc (-1) 0 0 (-1) tx (nI 0) (nI 0) nu nm) (cwV 0 hu (uG_V (fun _ h => h) mG_1079 mG_1076 mG_1078 mG_10 mG_219) rfl rfl rfl (by decide +kernel) ⟨Nat.le_of_ble_eq_true rfl, Nat.le_of_ble_eq_true rfl⟩) ⟨fun a U g mk q => by obtain ⟨q0, q1, qP, qK, qD⟩ := q; exact ⟨q0, q1, qP, va_K.moved (u := U) (U := U.calling g mk a) (Vm.Alike.refl U.vm) qK, qD⟩, va_recv hKc hPc (ci := 8) (q0 := 0) rfl rfl, fun U hU hW => ⟨rfl, by rw [hU], by rw [hU]; exact hPc, va_K.moved hW.alike hKc, hDc.weaken (fun _ _ _ _ => trivial)⟩⟩ rfl rfl hl.1 rfl (lv_room (Nat.le_of_ble_eq_true rfl)) dX5_readText_85 ⟨Nat.le_of_ble_eq_true rfl, Nat.le_of_ble_eq_true rfl⟩) hS (fun q _ h => hFc q h) hFc (fun u t H1 locs ht hvm hw hB hz1 hk1 hS => ?_)
      obtain ⟨hP1, hK1, hD1⟩ := hB
      rw [ht] at hP1
      obtain ⟨hP, hD⟩ := va_join (wr := [(tr, .inr (12, [.ref t0, .ref t1, .ref t2, .ref t3, .ref t4, .ref t5, .ref t6, .ref t7, .int 0])), (pr, .inr (7, [.ref p0, .ref p1, .int (nI 2), .ref p3, .int 0, .int 0, .int (-1), .ref p7, .ref p8, .ref p9, .ref p10, .ref p11, .ref p12, .ref p13, .ref p14, .ref p15, .ref p16])), (p0, .inl (cL, 30, .inr (.inl (vp_updL (vp_updL g0 0 302282208101) 1 1416787301)))), (p1, .inl (cI, 30, .inl (upd (upd g1 0 0) 1 0))), (sc, .inr (9, [.ref s0, .ref s1, .ref s2, .ref s3, .ref s4, .ref s5, .ref s6, .ref s7, .int 0, .ref s9, .ref s10, .ref s11, .ref s12, .ref s13, .int 0])), (tx, .inr (11, [.ref r, .int (nI 0), .int lo])), (r, .inl (cB, cap, .inl f))]) (w1 := [(rd, .inr (8, [.ref w, .ref tr, .ref pr, .ref sc, .int 1, .int (nI 0), .int 0, .int 0, .int (-1)])), (w, .inr (13, [.ref tx, .int (nI 0), .int 0, .int (nI 0), .int nu, .long nm]))]) hP hD [0, 6] [1, 2, 3, 4, 5, 7, 8] rfl rfl (by decide) (by decide) hk1 hFc hP1 hD1
      generalize H1 = H at hP hS ⊢
      have hP : va_P (dC, dI) vwCl [(tr, .inr (12, [.ref t0, .ref t1, .ref t2, .ref t3, .ref t4, .ref t5, .ref t6, .ref t7, .int 0])), (pr, .inr (7, [.ref p0, .ref p1, .int (nI 2), .ref p3, .int 0, .int 0, .int (-1), .ref p7, .ref p8, .ref p9, .ref p10, .ref p11, .ref p12, .ref p13, .ref p14, .ref p15, .ref p16])), (p0, .inl (cL, 30, .inr (.inl (vp_updL (vp_updL g0 0 302282208101) 1 1416787301)))), (p1, .inl (cI, 30, .inl (upd (upd g1 0 0) 1 0))), (sc, .inr (9, [.ref s0, .ref s1, .ref s2, .ref s3, .ref s4, .ref s5, .ref s6, .ref s7, .int 0, .ref s9, .ref s10, .ref s11, .ref s12, .ref s13, .int 0])), (tx, .inr (11, [.ref r, .int (nI 0), .int lo])), (r, .inl (cB, cap, .inl f)), (rd, .inr (8, [.ref w, .ref tr, .ref pr, .ref sc, .int 1, .int (nI 0), .int 0, .int 0, .int (-1)])), (w, .inr (13, [.ref tx, .int (nI 0), .int 0, .int (nI 0), .int nu, .long nm]))] H := hP
      have hD : va_D A [(tr, .inr (12, [.ref t0, .ref t1, .ref t2, .ref t3, .ref t4, .ref t5, .ref t6, .ref t7, .int 0])), (pr, .inr (7, [.ref p0, .ref p1, .int (nI 2), .ref p3, .int 0, .int 0, .int (-1), .ref p7, .ref p8, .ref p9, .ref p10, .ref p11, .ref p12, .ref p13, .ref p14, .ref p15, .ref p16])), (p0, .inl (cL, 30, .inr (.inl (vp_updL (vp_updL g0 0 302282208101) 1 1416787301)))), (p1, .inl (cI, 30, .inl (upd (upd g1 0 0) 1 0))), (sc, .inr (9, [.ref s0, .ref s1, .ref s2, .ref s3, .ref s4, .ref s5, .ref s6, .ref s7, .int 0, .ref s9, .ref s10, .ref s11, .ref s12, .ref s13, .int 0])), (tx, .inr (11, [.ref r, .int (nI 0), .int lo])), (r, .inl (cB, cap, .inl f)), (rd, .inr (8, [.ref w, .ref tr, .ref pr, .ref sc, .int 1, .int (nI 0), .int 0, .int 0, .int (-1)])), (w, .inr (13, [.ref tx, .int (nI 0), .int 0, .int (nI 0), .int nu, .long nm]))] := hD
      refine lv_iconst (v := 0) hx hb dX5_readText_88 (by decide) ?_
      refine lv_istore_n (lv' := [(1, .int 0), (0, .ref rd)]) hx hb dX5_readText_89 rfl hl (by decide) rfl (fun ls hl => ?_)
      refine lv_iload_n hx hb dX5_readText_90 rfl (lv_at hl 0 rfl) ?_
      refine lv_bipush (v := 30) hx hb dX5_readText_91 (by decide) ?_
      refine lv_icmp_ge (tgt := 127) hx hb dX5_readText_93 (by decide) (fun c93 => ?_) (fun c93 => ?_)
      · exact absurd c93 (by decide)
      · refine lv_aload_n hx hb dX5_readText_96 rfl (lv_at hl 1 rfl) ?_
        refine va_get (D := (dC, dI)) (ci := 8) (v := .ref w) (C := RX5) (T := TX5) (N := 9) hx hb hu iuX5 hown hK hP 7 rfl rfl 0 (by decide) (hu _ mG_538) (fun _ h9 => h9) rfl dX5_readText_97 ?_
        refine va_get (D := (dC, dI)) (ci := 13) (v := .int 0) (C := RX10) (T := TX10) (N := 6) hx hb hu iuX10 hown hK hP 8 rfl rfl 2 (by decide) (hu _ mG_518) (fun _ h9 => h9) rfl dX5_readText_100 ?_
        refine lv_iconst (v := 1) hx hb dX5_readText_103 (by decide) ?_
        refine lv_icmp_eq (tgt := 127) hx hb dX5_readText_104 (by decide) (fun c104 => ?_) (fun c104 => ?_)
        · exact absurd c104 (by decide)
        · refine lv_aload_n hx hb dX5_readText_107 rfl (lv_at hl 1 rfl) ?_
          refine va_get (D := (dC, dI)) (ci := 8) (v := .ref w) (C := RX5) (T := TX5) (N := 9) hx hb hu iuX5 hown hK hP 7 rfl rfl 0 (by decide) (hu _ mG_538) (fun _ h9 => h9) rfl dX5_readText_108 ?_
          refine va_get (D := (dC, dI)) (ci := 13) (v := .int 0) (C := RX10) (T := TX10) (N := 6) hx hb hu iuX10 hown hK hP 8 rfl rfl 2 (by decide) (hu _ mG_518) (fun _ h9 => h9) rfl dX5_readText_111 ?_
          refine lv_if_eq (tgt := 127) hx hb dX5_readText_114 (by decide) (fun c114 => ?_) (fun c114 => ?_)
          · have hP9 : va_P (dC, dI) vwCl [(rd, .inr (8, [.ref w, .ref tr, .ref pr, .ref sc, .int 1, .int (nI 0), .int 0, .int 0, .int (-1)])), (w, .inr (13, [.ref tx, .int (nI 0), .int 0, .int (nI 0), .int nu, .long nm])), (tx, .inr (11, [.ref r, .int (nI 0), .int lo])), (r, .inl (cB, cap, .inl f)), (tr, .inr (12, [.ref t0, .ref t1, .ref t2, .ref t3, .ref t4, .ref t5, .ref t6, .ref t7, .int 0])), (pr, .inr (7, [.ref p0, .ref p1, .int (nI 2), .ref p3, .int 0, .int 0, .int (-1), .ref p7, .ref p8, .ref p9, .ref p10, .ref p11, .ref p12, .ref p13, .ref p14, .ref p15, .ref p16])), (p0, .inl (cL, 30, .inr (.inl (vp_updL (vp_updL g0 0 302282208101) 1 1416787301)))), (p1, .inl (cI, 30, .inl (upd (upd g1 0 0) 1 0))), (sc, .inr (9, [.ref s0, .ref s1, .ref s2, .ref s3, .ref s4, .ref s5, .ref s6, .ref s7, .int 0, .ref s9, .ref s10, .ref s11, .ref s12, .ref s13, .int 0]))] H := by exact hP.sub [7, 8, 5, 6, 0, 1, 2, 3, 4] rfl
            have hD9 : va_D A [(rd, .inr (8, [.ref w, .ref tr, .ref pr, .ref sc, .int 1, .int (nI 0), .int 0, .int 0, .int (-1)])), (w, .inr (13, [.ref tx, .int (nI 0), .int 0, .int (nI 0), .int nu, .long nm])), (tx, .inr (11, [.ref r, .int (nI 0), .int lo])), (r, .inl (cB, cap, .inl f)), (tr, .inr (12, [.ref t0, .ref t1, .ref t2, .ref t3, .ref t4, .ref t5, .ref t6, .ref t7, .int 0])), (pr, .inr (7, [.ref p0, .ref p1, .int (nI 2), .ref p3, .int 0, .int 0, .int (-1), .ref p7, .ref p8, .ref p9, .ref p10, .ref p11, .ref p12, .ref p13, .ref p14, .ref p15, .ref p16])), (p0, .inl (cL, 30, .inr (.inl (vp_updL (vp_updL g0 0 302282208101) 1 1416787301)))), (p1, .inl (cI, 30, .inl (upd (upd g1 0 0) 1 0))), (sc, .inr (9, [.ref s0, .ref s1, .ref s2, .ref s3, .ref s4, .ref s5, .ref s6, .ref s7, .int 0, .ref s9, .ref s10, .ref s11, .ref s12, .ref s13, .int 0]))] := by exact hD.sub [7, 8, 5, 6, 0, 1, 2, 3, 4] (by decide) rfl
            have hK9 := hK.sub (tys' := [(cB, .byte), (cL, .long), (cI, .int)]) [0, 1, 2] rfl
            exact W.vret hx hb hr (fun t ht hW => ⟨⟨(), rfl, trivial, by rw [ht]; exact hP9, va_K.moved hW.alike hK9, hD9⟩, hS.F ht⟩) hS.2.2 dX5_readText_127
          · exact absurd (by decide) c114
    · exact absurd c71 (by decide)
