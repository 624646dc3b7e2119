
theorem mG_1 : Cond.selects "LazyForge$Words" yX10_passBlanks yX10_passBlanks ∈ uG := uG_at 1 (by decide +kernel) (by decide +kernel)
theorem mG_2 : Cond.selects "LazyForge$Words" yX10_readName yX10_readName ∈ uG := uG_at 2 (by decide +kernel) (by decide +kernel)
theorem mG_3 : Cond.selects "LazyForge$Words" yX10_kindOfName yX10_kindOfName ∈ uG := uG_at 3 (by decide +kernel) (by decide +kernel)
theorem mG_4 : Cond.selects "LazyForge$Words" yX10_readNumber yX10_readNumber ∈ uG := uG_at 4 (by decide +kernel) (by decide +kernel)
theorem mG_5 : Cond.selects "LazyForge$Words" yX10_readSign yX10_readSign ∈ uG := uG_at 5 (by decide +kernel) (by decide +kernel)
theorem mG_233 : Cond.initialized "java/lang/String" ∈ uG := uG_at 233 (by decide +kernel) (by decide +kernel)
theorem mG_234 : Cond.initialized "java/lang/StringLatin1" ∈ uG := uG_at 234 (by decide +kernel) (by decide +kernel)
theorem mG_235 : Cond.initialized "java/lang/Math" ∈ uG := uG_at 235 (by decide +kernel) (by decide +kernel)
theorem mG_237 : Cond.initialized "jdk/internal/util/Preconditions" ∈ uG := uG_at 237 (by decide +kernel) (by decide +kernel)
theorem mG_265 : Cond.fieldLink "LazyForge$Words" 57 "LazyForge$Signs" "count" "I" ∈ uG := uG_at 265 (by decide +kernel) (by decide +kernel)
theorem mG_516 : Cond.fieldLink "LazyForge$Words" 15 "LazyForge$Words" "at" "I" ∈ uG := uG_at 516 (by decide +kernel) (by decide +kernel)
theorem mG_517 : Cond.fieldLink "LazyForge$Words" 19 "LazyForge$Words" "kind" "I" ∈ uG := uG_at 517 (by decide +kernel) (by decide +kernel)
theorem mG_520 : Cond.fieldLink "LazyForge$Words" 28 "LazyForge$Words" "place" "I" ∈ uG := uG_at 520 (by decide +kernel) (by decide +kernel)
theorem mG_522 : Cond.fieldLink "LazyForge$Words" 84 "LazyForge$Words" "number" "I" ∈ uG := uG_at 522 (by decide +kernel) (by decide +kernel)
theorem mG_523 : Cond.fieldLink "LazyForge$Words" 60 "LazyForge$Words" "name" "J" ∈ uG := uG_at 523 (by decide +kernel) (by decide +kernel)
theorem mG_776 : Cond.methodLink "LazyForge$Signs" 33 yX8_add ∈ uG := uG_at 776 (by decide +kernel) (by decide +kernel)
theorem mG_777 : Cond.instanceMethod yX8_add ∈ uG := uG_at 777 (by decide +kernel) (by decide +kernel)
theorem mG_778 : Cond.selects "LazyForge$Signs" yX8_add yX8_add ∈ uG := uG_at 778 (by decide +kernel) (by decide +kernel)
theorem mG_779 : Cond.code yX8_add prog_10_method_3_code 2 none ∈ uG := uG_at 779 (by decide +kernel) (by decide +kernel)
theorem mG_918 : Cond.methodLink "LazyForge$Words" 22 yX10_advance ∈ uG := uG_at 918 (by decide +kernel) (by decide +kernel)
theorem mG_919 : Cond.instanceMethod yX10_advance ∈ uG := uG_at 919 (by decide +kernel) (by decide +kernel)
theorem mG_920 : Cond.selects "LazyForge$Words" yX10_advance yX10_advance ∈ uG := uG_at 920 (by decide +kernel) (by decide +kernel)
theorem mG_921 : Cond.code yX10_advance prog_12_method_4_code 2 none ∈ uG := uG_at 921 (by decide +kernel) (by decide +kernel)
theorem mG_922 : Cond.methodLink "LazyForge$Words" 25 yX10_passBlanks ∈ uG := uG_at 922 (by decide +kernel) (by decide +kernel)
theorem mG_924 : Cond.instanceMethod yX10_passBlanks ∈ uG := uG_at 924 (by decide +kernel) (by decide +kernel)
theorem mG_925 : Cond.code yX10_passBlanks prog_12_method_5_code 3 none ∈ uG := uG_at 925 (by decide +kernel) (by decide +kernel)
theorem mG_926 : Cond.methodLink "LazyForge$Words" 31 yX8_signAt ∈ uG := uG_at 926 (by decide +kernel) (by decide +kernel)
theorem mG_927 : Cond.instanceMethod yX8_signAt ∈ uG := uG_at 927 (by decide +kernel) (by decide +kernel)
theorem mG_928 : Cond.selects "LazyForge$Signs" yX8_signAt yX8_signAt ∈ uG := uG_at 928 (by decide +kernel) (by decide +kernel)
theorem mG_929 : Cond.code yX8_signAt prog_10_method_7_code 2 (some .int) ∈ uG := uG_at 929 (by decide +kernel) (by decide +kernel)
theorem mG_930 : Cond.methodLink "LazyForge$Words" 37 yX10_isSmall ∈ uG := uG_at 930 (by decide +kernel) (by decide +kernel)
theorem mG_931 : Cond.static yX10_isSmall ∈ uG := uG_at 931 (by decide +kernel) (by decide +kernel)
theorem mG_932 : Cond.code yX10_isSmall prog_12_method_10_code 1 (some .boolean) ∈ uG := uG_at 932 (by decide +kernel) (by decide +kernel)
theorem mG_933 : Cond.methodLink "LazyForge$Words" 41 yX10_isGreat ∈ uG := uG_at 933 (by decide +kernel) (by decide +kernel)
theorem mG_934 : Cond.static yX10_isGreat ∈ uG := uG_at 934 (by decide +kernel) (by decide +kernel)
theorem mG_935 : Cond.code yX10_isGreat prog_12_method_11_code 1 (some .boolean) ∈ uG := uG_at 935 (by decide +kernel) (by decide +kernel)
theorem mG_936 : Cond.methodLink "LazyForge$Words" 44 yX10_readName ∈ uG := uG_at 936 (by decide +kernel) (by decide +kernel)
theorem mG_938 : Cond.instanceMethod yX10_readName ∈ uG := uG_at 938 (by decide +kernel) (by decide +kernel)
theorem mG_939 : Cond.code yX10_readName prog_12_method_6_code 4 none ∈ uG := uG_at 939 (by decide +kernel) (by decide +kernel)
theorem mG_940 : Cond.methodLink "LazyForge$Words" 48 yX10_isDigit ∈ uG := uG_at 940 (by decide +kernel) (by decide +kernel)
theorem mG_941 : Cond.static yX10_isDigit ∈ uG := uG_at 941 (by decide +kernel) (by decide +kernel)
theorem mG_942 : Cond.code yX10_isDigit prog_12_method_12_code 1 (some .boolean) ∈ uG := uG_at 942 (by decide +kernel) (by decide +kernel)
theorem mG_943 : Cond.methodLink "LazyForge$Words" 64 yX10_kindOfName ∈ uG := uG_at 943 (by decide +kernel) (by decide +kernel)
theorem mG_945 : Cond.instanceMethod yX10_kindOfName ∈ uG := uG_at 945 (by decide +kernel) (by decide +kernel)
theorem mG_946 : Cond.code yX10_kindOfName prog_12_method_7_code 1 (some .int) ∈ uG := uG_at 946 (by decide +kernel) (by decide +kernel)
theorem mG_947 : Cond.constantLong "LazyForge$Words" 68 1684108385 ∈ uG := uG_at 947 (by decide +kernel) (by decide +kernel)
theorem mG_948 : Cond.constantLong "LazyForge$Words" 70 7103860 ∈ uG := uG_at 948 (by decide +kernel) (by decide +kernel)
theorem mG_949 : Cond.constantLong "LazyForge$Words" 72 26990 ∈ uG := uG_at 949 (by decide +kernel) (by decide +kernel)
theorem mG_950 : Cond.constantLong "LazyForge$Words" 74 1667330917 ∈ uG := uG_at 950 (by decide +kernel) (by decide +kernel)
theorem mG_951 : Cond.constantLong "LazyForge$Words" 76 28518 ∈ uG := uG_at 951 (by decide +kernel) (by decide +kernel)
theorem mG_952 : Cond.constantLong "LazyForge$Words" 78 1717660012 ∈ uG := uG_at 952 (by decide +kernel) (by decide +kernel)
theorem mG_953 : Cond.methodLink "LazyForge$Words" 51 yX10_readNumber ∈ uG := uG_at 953 (by decide +kernel) (by decide +kernel)
theorem mG_955 : Cond.instanceMethod yX10_readNumber ∈ uG := uG_at 955 (by decide +kernel) (by decide +kernel)
theorem mG_956 : Cond.code yX10_readNumber prog_12_method_8_code 5 none ∈ uG := uG_at 956 (by decide +kernel) (by decide +kernel)
theorem mG_957 : Cond.constantLong "LazyForge$Words" 80 10 ∈ uG := uG_at 957 (by decide +kernel) (by decide +kernel)
theorem mG_958 : Cond.constantLong "LazyForge$Words" 82 2147483647 ∈ uG := uG_at 958 (by decide +kernel) (by decide +kernel)
theorem mG_959 : Cond.methodLink "LazyForge$Words" 54 yX10_readSign ∈ uG := uG_at 959 (by decide +kernel) (by decide +kernel)
theorem mG_961 : Cond.instanceMethod yX10_readSign ∈ uG := uG_at 961 (by decide +kernel) (by decide +kernel)
theorem mG_962 : Cond.code yX10_readSign prog_12_method_9_code 3 none ∈ uG := uG_at 962 (by decide +kernel) (by decide +kernel)
theorem mG_964 : Cond.methodLink "LazyForge$Words" 89 yJ0_indexOf_0f7a4 ∈ uG := uG_at 964 (by decide +kernel) (by decide +kernel)
theorem mG_965 : Cond.instanceMethod yJ0_indexOf_0f7a4 ∈ uG := uG_at 965 (by decide +kernel) (by decide +kernel)
theorem mG_966 : Cond.selects "java/lang/String" yJ0_indexOf_0f7a4 yJ0_indexOf_0f7a4 ∈ uG := uG_at 966 (by decide +kernel) (by decide +kernel)
theorem mG_967 : Cond.code yJ0_indexOf_0f7a4 prog_27_method_79_code 2 (some .int) ∈ uG := uG_at 967 (by decide +kernel) (by decide +kernel)
theorem mG_968 : Cond.methodLink "java/lang/String" 633 yJ0_indexOf_7cf53 ∈ uG := uG_at 968 (by decide +kernel) (by decide +kernel)
theorem mG_969 : Cond.instanceMethod yJ0_indexOf_7cf53 ∈ uG := uG_at 969 (by decide +kernel) (by decide +kernel)
theorem mG_970 : Cond.selects "java/lang/String" yJ0_indexOf_7cf53 yJ0_indexOf_7cf53 ∈ uG := uG_at 970 (by decide +kernel) (by decide +kernel)
theorem mG_971 : Cond.code yJ0_indexOf_7cf53 prog_27_method_80_code 3 (some .int) ∈ uG := uG_at 971 (by decide +kernel) (by decide +kernel)
theorem mG_972 : Cond.methodLink "java/lang/String" 492 yJ0_isLatin1_aae02 ∈ uG := uG_at 972 (by decide +kernel) (by decide +kernel)
theorem mG_973 : Cond.instanceMethod yJ0_isLatin1_aae02 ∈ uG := uG_at 973 (by decide +kernel) (by decide +kernel)
theorem mG_974 : Cond.selects "java/lang/String" yJ0_isLatin1_aae02 yJ0_isLatin1_aae02 ∈ uG := uG_at 974 (by decide +kernel) (by decide +kernel)
theorem mG_975 : Cond.code yJ0_isLatin1_aae02 prog_27_method_154_code 1 (some .boolean) ∈ uG := uG_at 975 (by decide +kernel) (by decide +kernel)
theorem mG_976 : Cond.fieldLink "java/lang/String" 38 "java/lang/String" "COMPACT_STRINGS" "Z" ∈ uG := uG_at 976 (by decide +kernel) (by decide +kernel)
theorem mG_978 : Cond.methodLink "java/lang/String" 505 yJ0_length_8abf5 ∈ uG := uG_at 978 (by decide +kernel) (by decide +kernel)
theorem mG_979 : Cond.instanceMethod yJ0_length_8abf5 ∈ uG := uG_at 979 (by decide +kernel) (by decide +kernel)
theorem mG_980 : Cond.selects "java/lang/String" yJ0_length_8abf5 yJ0_length_8abf5 ∈ uG := uG_at 980 (by decide +kernel) (by decide +kernel)
theorem mG_981 : Cond.code yJ0_length_8abf5 prog_27_method_54_code 1 (some .int) ∈ uG := uG_at 981 (by decide +kernel) (by decide +kernel)
theorem mG_982 : Cond.methodLink "java/lang/String" 335 yJ0_coder_7d493 ∈ uG := uG_at 982 (by decide +kernel) (by decide +kernel)
theorem mG_983 : Cond.instanceMethod yJ0_coder_7d493 ∈ uG := uG_at 983 (by decide +kernel) (by decide +kernel)
theorem mG_984 : Cond.selects "java/lang/String" yJ0_coder_7d493 yJ0_coder_7d493 ∈ uG := uG_at 984 (by decide +kernel) (by decide +kernel)
theorem mG_985 : Cond.code yJ0_coder_7d493 prog_27_method_152_code 1 (some .byte) ∈ uG := uG_at 985 (by decide +kernel) (by decide +kernel)
theorem mG_986 : Cond.methodLink "java/lang/String" 637 yJ1_indexOf_4cfef ∈ uG := uG_at 986 (by decide +kernel) (by decide +kernel)
theorem mG_987 : Cond.static yJ1_indexOf_4cfef ∈ uG := uG_at 987 (by decide +kernel) (by decide +kernel)
theorem mG_988 : Cond.code yJ1_indexOf_4cfef prog_29_method_22_code 4 (some .int) ∈ uG := uG_at 988 (by decide +kernel) (by decide +kernel)
theorem mG_989 : Cond.methodLink "java/lang/StringLatin1" 88 yJ1_canEncode_9a6ad ∈ uG := uG_at 989 (by decide +kernel) (by decide +kernel)
theorem mG_990 : Cond.static yJ1_canEncode_9a6ad ∈ uG := uG_at 990 (by decide +kernel) (by decide +kernel)
theorem mG_991 : Cond.code yJ1_canEncode_9a6ad prog_29_method_4_code 1 (some .boolean) ∈ uG := uG_at 991 (by decide +kernel) (by decide +kernel)
theorem mG_992 : Cond.methodLink "java/lang/StringLatin1" 92 yJ9_max_7cf53 ∈ uG := uG_at 992 (by decide +kernel) (by decide +kernel)
theorem mG_993 : Cond.static yJ9_max_7cf53 ∈ uG := uG_at 993 (by decide +kernel) (by decide +kernel)
theorem mG_994 : Cond.code yJ9_max_7cf53 prog_25_method_65_code 2 (some .int) ∈ uG := uG_at 994 (by decide +kernel) (by decide +kernel)
theorem mG_995 : Cond.methodLink "java/lang/StringLatin1" 38 yJ9_min_7cf53 ∈ uG := uG_at 995 (by decide +kernel) (by decide +kernel)
theorem mG_996 : Cond.static yJ9_min_7cf53 ∈ uG := uG_at 996 (by decide +kernel) (by decide +kernel)
theorem mG_997 : Cond.code yJ9_min_7cf53 prog_25_method_69_code 2 (some .int) ∈ uG := uG_at 997 (by decide +kernel) (by decide +kernel)
theorem mG_998 : Cond.methodLink "java/lang/StringLatin1" 95 yJ1_indexOfChar_4cfef ∈ uG := uG_at 998 (by decide +kernel) (by decide +kernel)
theorem mG_999 : Cond.static yJ1_indexOfChar_4cfef ∈ uG := uG_at 999 (by decide +kernel) (by decide +kernel)
theorem mG_1000 : Cond.code yJ1_indexOfChar_4cfef prog_29_method_23_code 6 (some .int) ∈ uG := uG_at 1000 (by decide +kernel) (by decide +kernel)
theorem mG_1019 : Cond.fieldLink "java/lang/String" 1053 "jdk/internal/util/Preconditions" "SIOOBE_FORMATTER" "Ljava/util/function/BiFunction;" ∈ uG := uG_at 1019 (by decide +kernel) (by decide +kernel)
theorem mG_1530 : Cond.fieldLink "java/lang/String" 9 "java/lang/String" "value" "[B" ∈ uG := uG_at 1530 (by decide +kernel) (by decide +kernel)
theorem mG_1531 : Cond.fieldLink "java/lang/String" 15 "java/lang/String" "coder" "B" ∈ uG := uG_at 1531 (by decide +kernel) (by decide +kernel)
theorem mG_1656 : Cond.methodLink "LazyForge$Signs" 23 yJ0_length_8abf5 ∈ uG := uG_at 1656 (by decide +kernel) (by decide +kernel)
theorem mG_1657 : Cond.methodLink "LazyForge$Signs" 29 yJ0_charAt_5068e ∈ uG := uG_at 1657 (by decide +kernel) (by decide +kernel)
theorem mG_1658 : Cond.instanceMethod yJ0_charAt_5068e ∈ uG := uG_at 1658 (by decide +kernel) (by decide +kernel)
theorem mG_1659 : Cond.selects "java/lang/String" yJ0_charAt_5068e yJ0_charAt_5068e ∈ uG := uG_at 1659 (by decide +kernel) (by decide +kernel)
theorem mG_1660 : Cond.code yJ0_charAt_5068e prog_27_method_56_code 2 (some .char) ∈ uG := uG_at 1660 (by decide +kernel) (by decide +kernel)
theorem mG_1661 : Cond.methodLink "java/lang/String" 495 yJ1_charAt_3b067 ∈ uG := uG_at 1661 (by decide +kernel) (by decide +kernel)
theorem mG_1662 : Cond.static yJ1_charAt_3b067 ∈ uG := uG_at 1662 (by decide +kernel) (by decide +kernel)
theorem mG_1663 : Cond.code yJ1_charAt_3b067 prog_29_method_2_code 2 (some .char) ∈ uG := uG_at 1663 (by decide +kernel) (by decide +kernel)
theorem mG_1664 : Cond.methodLink "java/lang/StringLatin1" 9 yJ0_checkIndex_df160 ∈ uG := uG_at 1664 (by decide +kernel) (by decide +kernel)
theorem mG_1665 : Cond.static yJ0_checkIndex_df160 ∈ uG := uG_at 1665 (by decide +kernel) (by decide +kernel)
theorem mG_1666 : Cond.code yJ0_checkIndex_df160 prog_27_method_155_code 2 none ∈ uG := uG_at 1666 (by decide +kernel) (by decide +kernel)
theorem mG_1667 : Cond.methodLink "java/lang/String" 1059 yJ3_checkIndex_8e157 ∈ uG := uG_at 1667 (by decide +kernel) (by decide +kernel)
theorem mG_1668 : Cond.static yJ3_checkIndex_8e157 ∈ uG := uG_at 1668 (by decide +kernel) (by decide +kernel)
theorem mG_1669 : Cond.code yJ3_checkIndex_8e157 prog_36_method_11_code 3 (some .int) ∈ uG := uG_at 1669 (by decide +kernel) (by decide +kernel)
theorem dJ0_charAt_5068e_0 : decode cJ0_charAt_5068e 0 = .ok (.aload_n 0, 1) := by decide +kernel
theorem dJ0_charAt_5068e_1 : decode cJ0_charAt_5068e 1 = .ok (.invokevirtual 492, 3) := by decide +kernel
theorem dJ0_charAt_5068e_4 : decode cJ0_charAt_5068e 4 = .ok (.ifCond .eq 12, 3) := by decide +kernel
theorem dJ0_charAt_5068e_7 : decode cJ0_charAt_5068e 7 = .ok (.aload_n 0, 1) := by decide +kernel
theorem dJ0_charAt_5068e_8 : decode cJ0_charAt_5068e 8 = .ok (.getfield 9, 3) := by decide +kernel
theorem dJ0_charAt_5068e_11 : decode cJ0_charAt_5068e 11 = .ok (.iload_n 1, 1) := by decide +kernel
theorem dJ0_charAt_5068e_12 : decode cJ0_charAt_5068e 12 = .ok (.invokestatic 495, 3) := by decide +kernel
theorem dJ0_charAt_5068e_15 : decode cJ0_charAt_5068e 15 = .ok (.ireturn, 1) := by decide +kernel
theorem dJ0_charAt_5068e_16 : decode cJ0_charAt_5068e 16 = .ok (.aload_n 0, 1) := by decide +kernel
theorem dJ0_charAt_5068e_17 : decode cJ0_charAt_5068e 17 = .ok (.getfield 9, 3) := by decide +kernel
theorem dJ0_charAt_5068e_20 : decode cJ0_charAt_5068e 20 = .ok (.iload_n 1, 1) := by decide +kernel
theorem dJ0_charAt_5068e_21 : decode cJ0_charAt_5068e 21 = .ok (.invokestatic 498, 3) := by decide +kernel
theorem dJ0_charAt_5068e_24 : decode cJ0_charAt_5068e 24 = .ok (.ireturn, 1) := by decide +kernel
theorem dJ0_checkIndex_df160_0 : decode cJ0_checkIndex_df160 0 = .ok (.iload_n 0, 1) := by decide +kernel
theorem dJ0_checkIndex_df160_1 : decode cJ0_checkIndex_df160 1 = .ok (.iload_n 1, 1) := by decide +kernel
theorem dJ0_checkIndex_df160_2 : decode cJ0_checkIndex_df160 2 = .ok (.getstatic 1053, 3) := by decide +kernel
theorem dJ0_checkIndex_df160_5 : decode cJ0_checkIndex_df160 5 = .ok (.invokestatic 1059, 3) := by decide +kernel
theorem dJ0_checkIndex_df160_8 : decode cJ0_checkIndex_df160 8 = .ok (.pop, 1) := by decide +kernel
theorem dJ0_checkIndex_df160_9 : decode cJ0_checkIndex_df160 9 = .ok (.return_, 1) := by decide +kernel
theorem dJ0_coder_7d493_0 : decode cJ0_coder_7d493 0 = .ok (.getstatic 38, 3) := by decide +kernel
theorem dJ0_coder_7d493_3 : decode cJ0_coder_7d493 3 = .ok (.ifCond .eq 10, 3) := by decide +kernel
theorem dJ0_coder_7d493_6 : decode cJ0_coder_7d493 6 = .ok (.aload_n 0, 1) := by decide +kernel
theorem dJ0_coder_7d493_7 : decode cJ0_coder_7d493 7 = .ok (.getfield 15, 3) := by decide +kernel
theorem dJ0_coder_7d493_10 : decode cJ0_coder_7d493 10 = .ok (.goto 4, 3) := by decide +kernel
theorem dJ0_coder_7d493_13 : decode cJ0_coder_7d493 13 = .ok (.iconst 1, 1) := by decide +kernel
theorem dJ0_coder_7d493_14 : decode cJ0_coder_7d493 14 = .ok (.ireturn, 1) := by decide +kernel
theorem dJ0_indexOf_0f7a4_0 : decode cJ0_indexOf_0f7a4 0 = .ok (.aload_n 0, 1) := by decide +kernel
theorem dJ0_indexOf_0f7a4_1 : decode cJ0_indexOf_0f7a4 1 = .ok (.iload_n 1, 1) := by decide +kernel
theorem dJ0_indexOf_0f7a4_2 : decode cJ0_indexOf_0f7a4 2 = .ok (.iconst 0, 1) := by decide +kernel
theorem dJ0_indexOf_0f7a4_3 : decode cJ0_indexOf_0f7a4 3 = .ok (.invokevirtual 633, 3) := by decide +kernel
theorem dJ0_indexOf_0f7a4_6 : decode cJ0_indexOf_0f7a4 6 = .ok (.ireturn, 1) := by decide +kernel
theorem dJ0_indexOf_7cf53_0 : decode cJ0_indexOf_7cf53 0 = .ok (.aload_n 0, 1) := by decide +kernel
theorem dJ0_indexOf_7cf53_1 : decode cJ0_indexOf_7cf53 1 = .ok (.invokevirtual 492, 3) := by decide +kernel
theorem dJ0_indexOf_7cf53_4 : decode cJ0_indexOf_7cf53 4 = .ok (.ifCond .eq 19, 3) := by decide +kernel
theorem dJ0_indexOf_7cf53_7 : decode cJ0_indexOf_7cf53 7 = .ok (.aload_n 0, 1) := by decide +kernel
theorem dJ0_indexOf_7cf53_8 : decode cJ0_indexOf_7cf53 8 = .ok (.getfield 9, 3) := by decide +kernel
theorem dJ0_indexOf_7cf53_11 : decode cJ0_indexOf_7cf53 11 = .ok (.iload_n 1, 1) := by decide +kernel
theorem dJ0_indexOf_7cf53_12 : decode cJ0_indexOf_7cf53 12 = .ok (.iload_n 2, 1) := by decide +kernel
theorem dJ0_indexOf_7cf53_13 : decode cJ0_indexOf_7cf53 13 = .ok (.aload_n 0, 1) := by decide +kernel
theorem dJ0_indexOf_7cf53_14 : decode cJ0_indexOf_7cf53 14 = .ok (.invokevirtual 505, 3) := by decide +kernel
theorem dJ0_indexOf_7cf53_17 : decode cJ0_indexOf_7cf53 17 = .ok (.invokestatic 637, 3) := by decide +kernel
theorem dJ0_indexOf_7cf53_20 : decode cJ0_indexOf_7cf53 20 = .ok (.goto 16, 3) := by decide +kernel
theorem dJ0_indexOf_7cf53_23 : decode cJ0_indexOf_7cf53 23 = .ok (.aload_n 0, 1) := by decide +kernel
theorem dJ0_indexOf_7cf53_24 : decode cJ0_indexOf_7cf53 24 = .ok (.getfield 9, 3) := by decide +kernel
theorem dJ0_indexOf_7cf53_27 : decode cJ0_indexOf_7cf53 27 = .ok (.iload_n 1, 1) := by decide +kernel
theorem dJ0_indexOf_7cf53_28 : decode cJ0_indexOf_7cf53 28 = .ok (.iload_n 2, 1) := by decide +kernel
theorem dJ0_indexOf_7cf53_29 : decode cJ0_indexOf_7cf53 29 = .ok (.aload_n 0, 1) := by decide +kernel
theorem dJ0_indexOf_7cf53_30 : decode cJ0_indexOf_7cf53 30 = .ok (.invokevirtual 505, 3) := by decide +kernel
theorem dJ0_indexOf_7cf53_33 : decode cJ0_indexOf_7cf53 33 = .ok (.invokestatic 640, 3) := by decide +kernel
theorem dJ0_indexOf_7cf53_36 : decode cJ0_indexOf_7cf53 36 = .ok (.ireturn, 1) := by decide +kernel
theorem dJ0_isLatin1_aae02_0 : decode cJ0_isLatin1_aae02 0 = .ok (.getstatic 38, 3) := by decide +kernel
theorem dJ0_isLatin1_aae02_3 : decode cJ0_isLatin1_aae02 3 = .ok (.ifCond .eq 14, 3) := by decide +kernel
theorem dJ0_isLatin1_aae02_6 : decode cJ0_isLatin1_aae02 6 = .ok (.aload_n 0, 1) := by decide +kernel
theorem dJ0_isLatin1_aae02_7 : decode cJ0_isLatin1_aae02 7 = .ok (.getfield 15, 3) := by decide +kernel
theorem dJ0_isLatin1_aae02_10 : decode cJ0_isLatin1_aae02 10 = .ok (.ifCond .ne 7, 3) := by decide +kernel
theorem dJ0_isLatin1_aae02_13 : decode cJ0_isLatin1_aae02 13 = .ok (.iconst 1, 1) := by decide +kernel
theorem dJ0_isLatin1_aae02_14 : decode cJ0_isLatin1_aae02 14 = .ok (.goto 4, 3) := by decide +kernel
theorem dJ0_isLatin1_aae02_17 : decode cJ0_isLatin1_aae02 17 = .ok (.iconst 0, 1) := by decide +kernel
theorem dJ0_isLatin1_aae02_18 : decode cJ0_isLatin1_aae02 18 = .ok (.ireturn, 1) := by decide +kernel
theorem dJ0_length_8abf5_0 : decode cJ0_length_8abf5 0 = .ok (.aload_n 0, 1) := by decide +kernel
theorem dJ0_length_8abf5_1 : decode cJ0_length_8abf5 1 = .ok (.getfield 9, 3) := by decide +kernel
theorem dJ0_length_8abf5_4 : decode cJ0_length_8abf5 4 = .ok (.arraylength, 1) := by decide +kernel
theorem dJ0_length_8abf5_5 : decode cJ0_length_8abf5 5 = .ok (.aload_n 0, 1) := by decide +kernel
theorem dJ0_length_8abf5_6 : decode cJ0_length_8abf5 6 = .ok (.invokevirtual 335, 3) := by decide +kernel
theorem dJ0_length_8abf5_9 : decode cJ0_length_8abf5 9 = .ok (.ishr, 1) := by decide +kernel
theorem dJ0_length_8abf5_10 : decode cJ0_length_8abf5 10 = .ok (.ireturn, 1) := by decide +kernel
theorem dJ1_canEncode_9a6ad_0 : decode cJ1_canEncode_9a6ad 0 = .ok (.iload_n 0, 1) := by decide +kernel
theorem dJ1_canEncode_9a6ad_1 : decode cJ1_canEncode_9a6ad 1 = .ok (.ifCond .lt 14, 3) := by decide +kernel
theorem dJ1_canEncode_9a6ad_4 : decode cJ1_canEncode_9a6ad 4 = .ok (.iload_n 0, 1) := by decide +kernel
theorem dJ1_canEncode_9a6ad_5 : decode cJ1_canEncode_9a6ad 5 = .ok (.sipush 255, 3) := by decide +kernel
theorem dJ1_canEncode_9a6ad_8 : decode cJ1_canEncode_9a6ad 8 = .ok (.if_icmp .gt 7, 3) := by decide +kernel
theorem dJ1_canEncode_9a6ad_11 : decode cJ1_canEncode_9a6ad 11 = .ok (.iconst 1, 1) := by decide +kernel
theorem dJ1_canEncode_9a6ad_12 : decode cJ1_canEncode_9a6ad 12 = .ok (.goto 4, 3) := by decide +kernel
theorem dJ1_canEncode_9a6ad_15 : decode cJ1_canEncode_9a6ad 15 = .ok (.iconst 0, 1) := by decide +kernel
theorem dJ1_canEncode_9a6ad_16 : decode cJ1_canEncode_9a6ad 16 = .ok (.ireturn, 1) := by decide +kernel
theorem dJ1_charAt_3b067_0 : decode cJ1_charAt_3b067 0 = .ok (.iload_n 1, 1) := by decide +kernel
theorem dJ1_charAt_3b067_1 : decode cJ1_charAt_3b067 1 = .ok (.aload_n 0, 1) := by decide +kernel
theorem dJ1_charAt_3b067_2 : decode cJ1_charAt_3b067 2 = .ok (.arraylength, 1) := by decide +kernel
theorem dJ1_charAt_3b067_3 : decode cJ1_charAt_3b067 3 = .ok (.invokestatic 9, 3) := by decide +kernel
theorem dJ1_charAt_3b067_6 : decode cJ1_charAt_3b067 6 = .ok (.aload_n 0, 1) := by decide +kernel
theorem dJ1_charAt_3b067_7 : decode cJ1_charAt_3b067 7 = .ok (.iload_n 1, 1) := by decide +kernel
theorem dJ1_charAt_3b067_8 : decode cJ1_charAt_3b067 8 = .ok (.baload, 1) := by decide +kernel
theorem dJ1_charAt_3b067_9 : decode cJ1_charAt_3b067 9 = .ok (.sipush 255, 3) := by decide +kernel
theorem dJ1_charAt_3b067_12 : decode cJ1_charAt_3b067 12 = .ok (.iand, 1) := by decide +kernel
theorem dJ1_charAt_3b067_13 : decode cJ1_charAt_3b067 13 = .ok (.i2c, 1) := by decide +kernel
theorem dJ1_charAt_3b067_14 : decode cJ1_charAt_3b067 14 = .ok (.ireturn, 1) := by decide +kernel
theorem dJ1_indexOfChar_4cfef_0 : decode cJ1_indexOfChar_4cfef 0 = .ok (.iload_n 1, 1) := by decide +kernel
theorem dJ1_indexOfChar_4cfef_1 : decode cJ1_indexOfChar_4cfef 1 = .ok (.i2b, 1) := by decide +kernel
theorem dJ1_indexOfChar_4cfef_2 : decode cJ1_indexOfChar_4cfef 2 = .ok (.istore 4, 2) := by decide +kernel
theorem dJ1_indexOfChar_4cfef_4 : decode cJ1_indexOfChar_4cfef 4 = .ok (.iload_n 2, 1) := by decide +kernel
theorem dJ1_indexOfChar_4cfef_5 : decode cJ1_indexOfChar_4cfef 5 = .ok (.istore 5, 2) := by decide +kernel
theorem dJ1_indexOfChar_4cfef_7 : decode cJ1_indexOfChar_4cfef 7 = .ok (.iload 5, 2) := by decide +kernel
theorem dJ1_indexOfChar_4cfef_9 : decode cJ1_indexOfChar_4cfef 9 = .ok (.iload_n 3, 1) := by decide +kernel
theorem dJ1_indexOfChar_4cfef_10 : decode cJ1_indexOfChar_4cfef 10 = .ok (.if_icmp .ge 21, 3) := by decide +kernel
theorem dJ1_indexOfChar_4cfef_13 : decode cJ1_indexOfChar_4cfef 13 = .ok (.aload_n 0, 1) := by decide +kernel
theorem dJ1_indexOfChar_4cfef_14 : decode cJ1_indexOfChar_4cfef 14 = .ok (.iload 5, 2) := by decide +kernel
theorem dJ1_indexOfChar_4cfef_16 : decode cJ1_indexOfChar_4cfef 16 = .ok (.baload, 1) := by decide +kernel
theorem dJ1_indexOfChar_4cfef_17 : decode cJ1_indexOfChar_4cfef 17 = .ok (.iload 4, 2) := by decide +kernel
theorem dJ1_indexOfChar_4cfef_19 : decode cJ1_indexOfChar_4cfef 19 = .ok (.if_icmp .ne 6, 3) := by decide +kernel
theorem dJ1_indexOfChar_4cfef_22 : decode cJ1_indexOfChar_4cfef 22 = .ok (.iload 5, 2) := by decide +kernel
theorem dJ1_indexOfChar_4cfef_24 : decode cJ1_indexOfChar_4cfef 24 = .ok (.ireturn, 1) := by decide +kernel
theorem dJ1_indexOfChar_4cfef_25 : decode cJ1_indexOfChar_4cfef 25 = .ok (.iinc 5 1, 3) := by decide +kernel
theorem dJ1_indexOfChar_4cfef_28 : decode cJ1_indexOfChar_4cfef 28 = .ok (.goto (-21), 3) := by decide +kernel
theorem dJ1_indexOfChar_4cfef_31 : decode cJ1_indexOfChar_4cfef 31 = .ok (.iconst (-1), 1) := by decide +kernel
theorem dJ1_indexOfChar_4cfef_32 : decode cJ1_indexOfChar_4cfef 32 = .ok (.ireturn, 1) := by decide +kernel
theorem dJ1_indexOf_4cfef_0 : decode cJ1_indexOf_4cfef 0 = .ok (.iload_n 1, 1) := by decide +kernel
theorem dJ1_indexOf_4cfef_1 : decode cJ1_indexOf_4cfef 1 = .ok (.invokestatic 88, 3) := by decide +kernel
theorem dJ1_indexOf_4cfef_4 : decode cJ1_indexOf_4cfef 4 = .ok (.ifCond .ne 5, 3) := by decide +kernel
theorem dJ1_indexOf_4cfef_7 : decode cJ1_indexOf_4cfef 7 = .ok (.iconst (-1), 1) := by decide +kernel
theorem dJ1_indexOf_4cfef_8 : decode cJ1_indexOf_4cfef 8 = .ok (.ireturn, 1) := by decide +kernel
theorem dJ1_indexOf_4cfef_9 : decode cJ1_indexOf_4cfef 9 = .ok (.iload_n 2, 1) := by decide +kernel
theorem dJ1_indexOf_4cfef_10 : decode cJ1_indexOf_4cfef 10 = .ok (.iconst 0, 1) := by decide +kernel
theorem dJ1_indexOf_4cfef_11 : decode cJ1_indexOf_4cfef 11 = .ok (.invokestatic 92, 3) := by decide +kernel
theorem dJ1_indexOf_4cfef_14 : decode cJ1_indexOf_4cfef 14 = .ok (.istore_n 2, 1) := by decide +kernel
theorem dJ1_indexOf_4cfef_15 : decode cJ1_indexOf_4cfef 15 = .ok (.iload_n 3, 1) := by decide +kernel
theorem dJ1_indexOf_4cfef_16 : decode cJ1_indexOf_4cfef 16 = .ok (.aload_n 0, 1) := by decide +kernel
theorem dJ1_indexOf_4cfef_17 : decode cJ1_indexOf_4cfef 17 = .ok (.arraylength, 1) := by decide +kernel
theorem dJ1_indexOf_4cfef_18 : decode cJ1_indexOf_4cfef 18 = .ok (.invokestatic 38, 3) := by decide +kernel
theorem dJ1_indexOf_4cfef_21 : decode cJ1_indexOf_4cfef 21 = .ok (.istore_n 3, 1) := by decide +kernel
theorem dJ1_indexOf_4cfef_22 : decode cJ1_indexOf_4cfef 22 = .ok (.iload_n 2, 1) := by decide +kernel
theorem dJ1_indexOf_4cfef_23 : decode cJ1_indexOf_4cfef 23 = .ok (.iload_n 3, 1) := by decide +kernel
theorem dJ1_indexOf_4cfef_24 : decode cJ1_indexOf_4cfef 24 = .ok (.if_icmp .lt 5, 3) := by decide +kernel
theorem dJ1_indexOf_4cfef_27 : decode cJ1_indexOf_4cfef 27 = .ok (.iconst (-1), 1) := by decide +kernel
theorem dJ1_indexOf_4cfef_28 : decode cJ1_indexOf_4cfef 28 = .ok (.ireturn, 1) := by decide +kernel
theorem dJ1_indexOf_4cfef_29 : decode cJ1_indexOf_4cfef 29 = .ok (.aload_n 0, 1) := by decide +kernel
theorem dJ1_indexOf_4cfef_30 : decode cJ1_indexOf_4cfef 30 = .ok (.iload_n 1, 1) := by decide +kernel
theorem dJ1_indexOf_4cfef_31 : decode cJ1_indexOf_4cfef 31 = .ok (.iload_n 2, 1) := by decide +kernel
theorem dJ1_indexOf_4cfef_32 : decode cJ1_indexOf_4cfef 32 = .ok (.iload_n 3, 1) := by decide +kernel
theorem dJ1_indexOf_4cfef_33 : decode cJ1_indexOf_4cfef 33 = .ok (.invokestatic 95, 3) := by decide +kernel
theorem dJ1_indexOf_4cfef_36 : decode cJ1_indexOf_4cfef 36 = .ok (.ireturn, 1) := by decide +kernel
theorem dJ3_checkIndex_8e157_0 : decode cJ3_checkIndex_8e157 0 = .ok (.iload_n 0, 1) := by decide +kernel
theorem dJ3_checkIndex_8e157_1 : decode cJ3_checkIndex_8e157 1 = .ok (.ifCond .lt 8, 3) := by decide +kernel
theorem dJ3_checkIndex_8e157_4 : decode cJ3_checkIndex_8e157 4 = .ok (.iload_n 0, 1) := by decide +kernel
theorem dJ3_checkIndex_8e157_5 : decode cJ3_checkIndex_8e157 5 = .ok (.iload_n 1, 1) := by decide +kernel
theorem dJ3_checkIndex_8e157_6 : decode cJ3_checkIndex_8e157 6 = .ok (.if_icmp .lt 10, 3) := by decide +kernel
theorem dJ3_checkIndex_8e157_9 : decode cJ3_checkIndex_8e157 9 = .ok (.aload_n 2, 1) := by decide +kernel
theorem dJ3_checkIndex_8e157_10 : decode cJ3_checkIndex_8e157 10 = .ok (.iload_n 0, 1) := by decide +kernel
theorem dJ3_checkIndex_8e157_11 : decode cJ3_checkIndex_8e157 11 = .ok (.iload_n 1, 1) := by decide +kernel
theorem dJ3_checkIndex_8e157_12 : decode cJ3_checkIndex_8e157 12 = .ok (.invokestatic 95, 3) := by decide +kernel
theorem dJ3_checkIndex_8e157_15 : decode cJ3_checkIndex_8e157 15 = .ok (.athrow, 1) := by decide +kernel
theorem dJ3_checkIndex_8e157_16 : decode cJ3_checkIndex_8e157 16 = .ok (.iload_n 0, 1) := by decide +kernel
theorem dJ3_checkIndex_8e157_17 : decode cJ3_checkIndex_8e157 17 = .ok (.ireturn, 1) := by decide +kernel
theorem dX10_advance_0 : decode cX10_advance 0 = .ok (.aload_n 0, 1) := by decide +kernel
theorem dX10_advance_1 : decode cX10_advance 1 = .ok (.getfield 19, 3) := by decide +kernel
theorem dX10_advance_4 : decode cX10_advance 4 = .ok (.ifCond .ne 4, 3) := by decide +kernel
theorem dX10_advance_7 : decode cX10_advance 7 = .ok (.return_, 1) := by decide +kernel
theorem dX10_advance_8 : decode cX10_advance 8 = .ok (.aload_n 0, 1) := by decide +kernel
theorem dX10_advance_9 : decode cX10_advance 9 = .ok (.invokevirtual 25, 3) := by decide +kernel
theorem dX10_advance_12 : decode cX10_advance 12 = .ok (.aload_n 0, 1) := by decide +kernel
theorem dX10_advance_13 : decode cX10_advance 13 = .ok (.aload_n 0, 1) := by decide +kernel
theorem dX10_advance_14 : decode cX10_advance 14 = .ok (.getfield 15, 3) := by decide +kernel
theorem dX10_advance_17 : decode cX10_advance 17 = .ok (.putfield 28, 3) := by decide +kernel
theorem dX10_advance_20 : decode cX10_advance 20 = .ok (.aload_n 0, 1) := by decide +kernel
theorem dX10_advance_21 : decode cX10_advance 21 = .ok (.getfield 9, 3) := by decide +kernel
theorem dX10_advance_24 : decode cX10_advance 24 = .ok (.aload_n 0, 1) := by decide +kernel
theorem dX10_advance_25 : decode cX10_advance 25 = .ok (.getfield 15, 3) := by decide +kernel
theorem dX10_advance_28 : decode cX10_advance 28 = .ok (.invokevirtual 31, 3) := by decide +kernel
theorem dX10_advance_31 : decode cX10_advance 31 = .ok (.istore_n 1, 1) := by decide +kernel
theorem dX10_advance_32 : decode cX10_advance 32 = .ok (.iload_n 1, 1) := by decide +kernel
theorem dX10_advance_33 : decode cX10_advance 33 = .ok (.iconst (-1), 1) := by decide +kernel
theorem dX10_advance_34 : decode cX10_advance 34 = .ok (.if_icmp .ne 11, 3) := by decide +kernel
theorem dX10_advance_37 : decode cX10_advance 37 = .ok (.aload_n 0, 1) := by decide +kernel
theorem dX10_advance_38 : decode cX10_advance 38 = .ok (.iconst 1, 1) := by decide +kernel
theorem dX10_advance_39 : decode cX10_advance 39 = .ok (.putfield 19, 3) := by decide +kernel
theorem dX10_advance_42 : decode cX10_advance 42 = .ok (.goto 44, 3) := by decide +kernel
theorem dX10_advance_45 : decode cX10_advance 45 = .ok (.iload_n 1, 1) := by decide +kernel
theorem dX10_advance_46 : decode cX10_advance 46 = .ok (.invokestatic 37, 3) := by decide +kernel
theorem dX10_advance_49 : decode cX10_advance 49 = .ok (.ifCond .ne 10, 3) := by decide +kernel
theorem dX10_advance_52 : decode cX10_advance 52 = .ok (.iload_n 1, 1) := by decide +kernel
theorem dX10_advance_53 : decode cX10_advance 53 = .ok (.invokestatic 41, 3) := by decide +kernel
theorem dX10_advance_56 : decode cX10_advance 56 = .ok (.ifCond .eq 11, 3) := by decide +kernel
theorem dX10_advance_59 : decode cX10_advance 59 = .ok (.aload_n 0, 1) := by decide +kernel
theorem dX10_advance_60 : decode cX10_advance 60 = .ok (.iload_n 1, 1) := by decide +kernel
theorem dX10_advance_61 : decode cX10_advance 61 = .ok (.invokevirtual 44, 3) := by decide +kernel
theorem dX10_advance_64 : decode cX10_advance 64 = .ok (.goto 22, 3) := by decide +kernel
theorem dX10_advance_67 : decode cX10_advance 67 = .ok (.iload_n 1, 1) := by decide +kernel
theorem dX10_advance_68 : decode cX10_advance 68 = .ok (.invokestatic 48, 3) := by decide +kernel
theorem dX10_advance_71 : decode cX10_advance 71 = .ok (.ifCond .eq 10, 3) := by decide +kernel
theorem dX10_advance_74 : decode cX10_advance 74 = .ok (.aload_n 0, 1) := by decide +kernel
theorem dX10_advance_75 : decode cX10_advance 75 = .ok (.invokevirtual 51, 3) := by decide +kernel
theorem dX10_advance_78 : decode cX10_advance 78 = .ok (.goto 8, 3) := by decide +kernel
theorem dX10_advance_81 : decode cX10_advance 81 = .ok (.aload_n 0, 1) := by decide +kernel
theorem dX10_advance_82 : decode cX10_advance 82 = .ok (.iload_n 1, 1) := by decide +kernel
theorem dX10_advance_83 : decode cX10_advance 83 = .ok (.invokevirtual 54, 3) := by decide +kernel
theorem dX10_advance_86 : decode cX10_advance 86 = .ok (.return_, 1) := by decide +kernel
theorem dX10_begin_0 : decode cX10_begin 0 = .ok (.aload_n 0, 1) := by decide +kernel
theorem dX10_begin_1 : decode cX10_begin 1 = .ok (.iconst 0, 1) := by decide +kernel
theorem dX10_begin_2 : decode cX10_begin 2 = .ok (.putfield 15, 3) := by decide +kernel
theorem dX10_begin_5 : decode cX10_begin 5 = .ok (.aload_n 0, 1) := by decide +kernel
theorem dX10_begin_6 : decode cX10_begin 6 = .ok (.iconst 2, 1) := by decide +kernel
theorem dX10_begin_7 : decode cX10_begin 7 = .ok (.putfield 19, 3) := by decide +kernel
theorem dX10_begin_10 : decode cX10_begin 10 = .ok (.aload_n 0, 1) := by decide +kernel
theorem dX10_begin_11 : decode cX10_begin 11 = .ok (.invokevirtual 22, 3) := by decide +kernel
theorem dX10_begin_14 : decode cX10_begin 14 = .ok (.return_, 1) := by decide +kernel
theorem dX10_isDigit_0 : decode cX10_isDigit 0 = .ok (.iload_n 0, 1) := by decide +kernel
theorem dX10_isDigit_1 : decode cX10_isDigit 1 = .ok (.bipush 48, 2) := by decide +kernel
theorem dX10_isDigit_3 : decode cX10_isDigit 3 = .ok (.if_icmp .lt 13, 3) := by decide +kernel
theorem dX10_isDigit_6 : decode cX10_isDigit 6 = .ok (.iload_n 0, 1) := by decide +kernel
theorem dX10_isDigit_7 : decode cX10_isDigit 7 = .ok (.bipush 57, 2) := by decide +kernel
theorem dX10_isDigit_9 : decode cX10_isDigit 9 = .ok (.if_icmp .gt 7, 3) := by decide +kernel
theorem dX10_isDigit_12 : decode cX10_isDigit 12 = .ok (.iconst 1, 1) := by decide +kernel
theorem dX10_isDigit_13 : decode cX10_isDigit 13 = .ok (.goto 4, 3) := by decide +kernel
theorem dX10_isDigit_16 : decode cX10_isDigit 16 = .ok (.iconst 0, 1) := by decide +kernel
theorem dX10_isDigit_17 : decode cX10_isDigit 17 = .ok (.ireturn, 1) := by decide +kernel
theorem dX10_isGreat_0 : decode cX10_isGreat 0 = .ok (.iload_n 0, 1) := by decide +kernel
theorem dX10_isGreat_1 : decode cX10_isGreat 1 = .ok (.bipush 65, 2) := by decide +kernel
theorem dX10_isGreat_3 : decode cX10_isGreat 3 = .ok (.if_icmp .lt 13, 3) := by decide +kernel
theorem dX10_isGreat_6 : decode cX10_isGreat 6 = .ok (.iload_n 0, 1) := by decide +kernel
theorem dX10_isGreat_7 : decode cX10_isGreat 7 = .ok (.bipush 90, 2) := by decide +kernel
theorem dX10_isGreat_9 : decode cX10_isGreat 9 = .ok (.if_icmp .gt 7, 3) := by decide +kernel
theorem dX10_isGreat_12 : decode cX10_isGreat 12 = .ok (.iconst 1, 1) := by decide +kernel
theorem dX10_isGreat_13 : decode cX10_isGreat 13 = .ok (.goto 4, 3) := by decide +kernel
theorem dX10_isGreat_16 : decode cX10_isGreat 16 = .ok (.iconst 0, 1) := by decide +kernel
theorem dX10_isGreat_17 : decode cX10_isGreat 17 = .ok (.ireturn, 1) := by decide +kernel
theorem dX10_isSmall_0 : decode cX10_isSmall 0 = .ok (.iload_n 0, 1) := by decide +kernel
theorem dX10_isSmall_1 : decode cX10_isSmall 1 = .ok (.bipush 97, 2) := by decide +kernel
theorem dX10_isSmall_3 : decode cX10_isSmall 3 = .ok (.if_icmp .lt 13, 3) := by decide +kernel
theorem dX10_isSmall_6 : decode cX10_isSmall 6 = .ok (.iload_n 0, 1) := by decide +kernel
theorem dX10_isSmall_7 : decode cX10_isSmall 7 = .ok (.bipush 122, 2) := by decide +kernel
theorem dX10_isSmall_9 : decode cX10_isSmall 9 = .ok (.if_icmp .gt 7, 3) := by decide +kernel
theorem dX10_isSmall_12 : decode cX10_isSmall 12 = .ok (.iconst 1, 1) := by decide +kernel
theorem dX10_isSmall_13 : decode cX10_isSmall 13 = .ok (.goto 4, 3) := by decide +kernel
theorem dX10_isSmall_16 : decode cX10_isSmall 16 = .ok (.iconst 0, 1) := by decide +kernel
theorem dX10_isSmall_17 : decode cX10_isSmall 17 = .ok (.ireturn, 1) := by decide +kernel
theorem dX10_kindOfName_0 : decode cX10_kindOfName 0 = .ok (.aload_n 0, 1) := by decide +kernel
theorem dX10_kindOfName_1 : decode cX10_kindOfName 1 = .ok (.getfield 60, 3) := by decide +kernel
theorem dX10_kindOfName_4 : decode cX10_kindOfName 4 = .ok (.ldc2_w 68, 3) := by decide +kernel
theorem dX10_kindOfName_7 : decode cX10_kindOfName 7 = .ok (.lcmp, 1) := by decide +kernel
theorem dX10_kindOfName_8 : decode cX10_kindOfName 8 = .ok (.ifCond .ne 6, 3) := by decide +kernel
theorem dX10_kindOfName_11 : decode cX10_kindOfName 11 = .ok (.bipush 6, 2) := by decide +kernel
theorem dX10_kindOfName_13 : decode cX10_kindOfName 13 = .ok (.ireturn, 1) := by decide +kernel
theorem dX10_kindOfName_14 : decode cX10_kindOfName 14 = .ok (.aload_n 0, 1) := by decide +kernel
theorem dX10_kindOfName_15 : decode cX10_kindOfName 15 = .ok (.getfield 60, 3) := by decide +kernel
theorem dX10_kindOfName_18 : decode cX10_kindOfName 18 = .ok (.ldc2_w 70, 3) := by decide +kernel
theorem dX10_kindOfName_21 : decode cX10_kindOfName 21 = .ok (.lcmp, 1) := by decide +kernel
theorem dX10_kindOfName_22 : decode cX10_kindOfName 22 = .ok (.ifCond .ne 6, 3) := by decide +kernel
theorem dX10_kindOfName_25 : decode cX10_kindOfName 25 = .ok (.bipush 7, 2) := by decide +kernel
theorem dX10_kindOfName_27 : decode cX10_kindOfName 27 = .ok (.ireturn, 1) := by decide +kernel
theorem dX10_kindOfName_28 : decode cX10_kindOfName 28 = .ok (.aload_n 0, 1) := by decide +kernel
theorem dX10_kindOfName_29 : decode cX10_kindOfName 29 = .ok (.getfield 60, 3) := by decide +kernel
theorem dX10_kindOfName_32 : decode cX10_kindOfName 32 = .ok (.ldc2_w 72, 3) := by decide +kernel
theorem dX10_kindOfName_35 : decode cX10_kindOfName 35 = .ok (.lcmp, 1) := by decide +kernel
theorem dX10_kindOfName_36 : decode cX10_kindOfName 36 = .ok (.ifCond .ne 6, 3) := by decide +kernel
theorem dX10_kindOfName_39 : decode cX10_kindOfName 39 = .ok (.bipush 8, 2) := by decide +kernel
theorem dX10_kindOfName_41 : decode cX10_kindOfName 41 = .ok (.ireturn, 1) := by decide +kernel
theorem dX10_kindOfName_42 : decode cX10_kindOfName 42 = .ok (.aload_n 0, 1) := by decide +kernel
theorem dX10_kindOfName_43 : decode cX10_kindOfName 43 = .ok (.getfield 60, 3) := by decide +kernel
theorem dX10_kindOfName_46 : decode cX10_kindOfName 46 = .ok (.ldc2_w 74, 3) := by decide +kernel
theorem dX10_kindOfName_49 : decode cX10_kindOfName 49 = .ok (.lcmp, 1) := by decide +kernel
theorem dX10_kindOfName_50 : decode cX10_kindOfName 50 = .ok (.ifCond .ne 6, 3) := by decide +kernel
theorem dX10_kindOfName_53 : decode cX10_kindOfName 53 = .ok (.bipush 9, 2) := by decide +kernel
theorem dX10_kindOfName_55 : decode cX10_kindOfName 55 = .ok (.ireturn, 1) := by decide +kernel
theorem dX10_kindOfName_56 : decode cX10_kindOfName 56 = .ok (.aload_n 0, 1) := by decide +kernel
theorem dX10_kindOfName_57 : decode cX10_kindOfName 57 = .ok (.getfield 60, 3) := by decide +kernel
theorem dX10_kindOfName_60 : decode cX10_kindOfName 60 = .ok (.ldc2_w 76, 3) := by decide +kernel
theorem dX10_kindOfName_63 : decode cX10_kindOfName 63 = .ok (.lcmp, 1) := by decide +kernel
theorem dX10_kindOfName_64 : decode cX10_kindOfName 64 = .ok (.ifCond .ne 6, 3) := by decide +kernel
theorem dX10_kindOfName_67 : decode cX10_kindOfName 67 = .ok (.bipush 10, 2) := by decide +kernel
theorem dX10_kindOfName_69 : decode cX10_kindOfName 69 = .ok (.ireturn, 1) := by decide +kernel
theorem dX10_kindOfName_70 : decode cX10_kindOfName 70 = .ok (.aload_n 0, 1) := by decide +kernel
theorem dX10_kindOfName_71 : decode cX10_kindOfName 71 = .ok (.getfield 60, 3) := by decide +kernel
theorem dX10_kindOfName_74 : decode cX10_kindOfName 74 = .ok (.ldc2_w 78, 3) := by decide +kernel
theorem dX10_kindOfName_77 : decode cX10_kindOfName 77 = .ok (.lcmp, 1) := by decide +kernel
theorem dX10_kindOfName_78 : decode cX10_kindOfName 78 = .ok (.ifCond .ne 8, 3) := by decide +kernel
theorem dX10_kindOfName_81 : decode cX10_kindOfName 81 = .ok (.bipush 11, 2) := by decide +kernel
theorem dX10_kindOfName_83 : decode cX10_kindOfName 83 = .ok (.goto 4, 3) := by decide +kernel
theorem dX10_kindOfName_86 : decode cX10_kindOfName 86 = .ok (.iconst 3, 1) := by decide +kernel
theorem dX10_kindOfName_87 : decode cX10_kindOfName 87 = .ok (.ireturn, 1) := by decide +kernel
theorem dX10_passBlanks_0 : decode cX10_passBlanks 0 = .ok (.iconst 0, 1) := by decide +kernel
theorem dX10_passBlanks_1 : decode cX10_passBlanks 1 = .ok (.istore_n 1, 1) := by decide +kernel
theorem dX10_passBlanks_2 : decode cX10_passBlanks 2 = .ok (.aload_n 0, 1) := by decide +kernel
theorem dX10_passBlanks_3 : decode cX10_passBlanks 3 = .ok (.getfield 15, 3) := by decide +kernel
theorem dX10_passBlanks_6 : decode cX10_passBlanks 6 = .ok (.aload_n 0, 1) := by decide +kernel
theorem dX10_passBlanks_7 : decode cX10_passBlanks 7 = .ok (.getfield 9, 3) := by decide +kernel
theorem dX10_passBlanks_10 : decode cX10_passBlanks 10 = .ok (.getfield 57, 3) := by decide +kernel
theorem dX10_passBlanks_13 : decode cX10_passBlanks 13 = .ok (.if_icmp .ge 61, 3) := by decide +kernel
theorem dX10_passBlanks_16 : decode cX10_passBlanks 16 = .ok (.aload_n 0, 1) := by decide +kernel
theorem dX10_passBlanks_17 : decode cX10_passBlanks 17 = .ok (.getfield 9, 3) := by decide +kernel
theorem dX10_passBlanks_20 : decode cX10_passBlanks 20 = .ok (.aload_n 0, 1) := by decide +kernel
theorem dX10_passBlanks_21 : decode cX10_passBlanks 21 = .ok (.getfield 15, 3) := by decide +kernel
theorem dX10_passBlanks_24 : decode cX10_passBlanks 24 = .ok (.invokevirtual 31, 3) := by decide +kernel
theorem dX10_passBlanks_27 : decode cX10_passBlanks 27 = .ok (.istore_n 2, 1) := by decide +kernel
theorem dX10_passBlanks_28 : decode cX10_passBlanks 28 = .ok (.iload_n 2, 1) := by decide +kernel
theorem dX10_passBlanks_29 : decode cX10_passBlanks 29 = .ok (.bipush 10, 2) := by decide +kernel
theorem dX10_passBlanks_31 : decode cX10_passBlanks 31 = .ok (.if_icmp .ne 8, 3) := by decide +kernel
theorem dX10_passBlanks_34 : decode cX10_passBlanks 34 = .ok (.iconst 0, 1) := by decide +kernel
theorem dX10_passBlanks_35 : decode cX10_passBlanks 35 = .ok (.istore_n 1, 1) := by decide +kernel
theorem dX10_passBlanks_36 : decode cX10_passBlanks 36 = .ok (.goto 25, 3) := by decide +kernel
theorem dX10_passBlanks_39 : decode cX10_passBlanks 39 = .ok (.iload_n 2, 1) := by decide +kernel
theorem dX10_passBlanks_40 : decode cX10_passBlanks 40 = .ok (.bipush 35, 2) := by decide +kernel
theorem dX10_passBlanks_42 : decode cX10_passBlanks 42 = .ok (.if_icmp .ne 8, 3) := by decide +kernel
theorem dX10_passBlanks_45 : decode cX10_passBlanks 45 = .ok (.iconst 1, 1) := by decide +kernel
theorem dX10_passBlanks_46 : decode cX10_passBlanks 46 = .ok (.istore_n 1, 1) := by decide +kernel
theorem dX10_passBlanks_47 : decode cX10_passBlanks 47 = .ok (.goto 14, 3) := by decide +kernel
theorem dX10_passBlanks_50 : decode cX10_passBlanks 50 = .ok (.iload_n 2, 1) := by decide +kernel
theorem dX10_passBlanks_51 : decode cX10_passBlanks 51 = .ok (.bipush 32, 2) := by decide +kernel
theorem dX10_passBlanks_53 : decode cX10_passBlanks 53 = .ok (.if_icmp .eq 8, 3) := by decide +kernel
theorem dX10_passBlanks_56 : decode cX10_passBlanks 56 = .ok (.iload_n 1, 1) := by decide +kernel
theorem dX10_passBlanks_57 : decode cX10_passBlanks 57 = .ok (.ifCond .ne 4, 3) := by decide +kernel
theorem dX10_passBlanks_60 : decode cX10_passBlanks 60 = .ok (.return_, 1) := by decide +kernel
theorem dX10_passBlanks_61 : decode cX10_passBlanks 61 = .ok (.aload_n 0, 1) := by decide +kernel
theorem dX10_passBlanks_62 : decode cX10_passBlanks 62 = .ok (.dup, 1) := by decide +kernel
theorem dX10_passBlanks_63 : decode cX10_passBlanks 63 = .ok (.getfield 15, 3) := by decide +kernel
theorem dX10_passBlanks_66 : decode cX10_passBlanks 66 = .ok (.iconst 1, 1) := by decide +kernel
theorem dX10_passBlanks_67 : decode cX10_passBlanks 67 = .ok (.iadd, 1) := by decide +kernel
theorem dX10_passBlanks_68 : decode cX10_passBlanks 68 = .ok (.putfield 15, 3) := by decide +kernel
theorem dX10_passBlanks_71 : decode cX10_passBlanks 71 = .ok (.goto (-69), 3) := by decide +kernel
theorem dX10_passBlanks_74 : decode cX10_passBlanks 74 = .ok (.return_, 1) := by decide +kernel
theorem dX10_readName_0 : decode cX10_readName 0 = .ok (.aload_n 0, 1) := by decide +kernel
theorem dX10_readName_1 : decode cX10_readName 1 = .ok (.lconst 0, 1) := by decide +kernel
theorem dX10_readName_2 : decode cX10_readName 2 = .ok (.putfield 60, 3) := by decide +kernel
theorem dX10_readName_5 : decode cX10_readName 5 = .ok (.iconst 0, 1) := by decide +kernel
theorem dX10_readName_6 : decode cX10_readName 6 = .ok (.istore_n 2, 1) := by decide +kernel
theorem dX10_readName_7 : decode cX10_readName 7 = .ok (.iload_n 1, 1) := by decide +kernel
theorem dX10_readName_8 : decode cX10_readName 8 = .ok (.istore_n 3, 1) := by decide +kernel
theorem dX10_readName_9 : decode cX10_readName 9 = .ok (.aload_n 0, 1) := by decide +kernel
theorem dX10_readName_10 : decode cX10_readName 10 = .ok (.getfield 15, 3) := by decide +kernel
theorem dX10_readName_13 : decode cX10_readName 13 = .ok (.aload_n 0, 1) := by decide +kernel
theorem dX10_readName_14 : decode cX10_readName 14 = .ok (.getfield 9, 3) := by decide +kernel
theorem dX10_readName_17 : decode cX10_readName 17 = .ok (.getfield 57, 3) := by decide +kernel
theorem dX10_readName_20 : decode cX10_readName 20 = .ok (.if_icmp .ge 63, 3) := by decide +kernel
theorem dX10_readName_23 : decode cX10_readName 23 = .ok (.iload_n 2, 1) := by decide +kernel
theorem dX10_readName_24 : decode cX10_readName 24 = .ok (.ifCond .eq 17, 3) := by decide +kernel
theorem dX10_readName_27 : decode cX10_readName 27 = .ok (.iload_n 3, 1) := by decide +kernel
theorem dX10_readName_28 : decode cX10_readName 28 = .ok (.invokestatic 37, 3) := by decide +kernel
theorem dX10_readName_31 : decode cX10_readName 31 = .ok (.ifCond .ne 10, 3) := by decide +kernel
theorem dX10_readName_34 : decode cX10_readName 34 = .ok (.iload_n 3, 1) := by decide +kernel
theorem dX10_readName_35 : decode cX10_readName 35 = .ok (.invokestatic 48, 3) := by decide +kernel
theorem dX10_readName_38 : decode cX10_readName 38 = .ok (.ifCond .eq 45, 3) := by decide +kernel
theorem dX10_readName_41 : decode cX10_readName 41 = .ok (.aload_n 0, 1) := by decide +kernel
theorem dX10_readName_42 : decode cX10_readName 42 = .ok (.aload_n 0, 1) := by decide +kernel
theorem dX10_readName_43 : decode cX10_readName 43 = .ok (.getfield 60, 3) := by decide +kernel
theorem dX10_readName_46 : decode cX10_readName 46 = .ok (.bipush 8, 2) := by decide +kernel
theorem dX10_readName_48 : decode cX10_readName 48 = .ok (.lshl, 1) := by decide +kernel
theorem dX10_readName_49 : decode cX10_readName 49 = .ok (.iload_n 3, 1) := by decide +kernel
theorem dX10_readName_50 : decode cX10_readName 50 = .ok (.i2l, 1) := by decide +kernel
theorem dX10_readName_51 : decode cX10_readName 51 = .ok (.lor, 1) := by decide +kernel
theorem dX10_readName_52 : decode cX10_readName 52 = .ok (.putfield 60, 3) := by decide +kernel
theorem dX10_readName_55 : decode cX10_readName 55 = .ok (.aload_n 0, 1) := by decide +kernel
theorem dX10_readName_56 : decode cX10_readName 56 = .ok (.dup, 1) := by decide +kernel
theorem dX10_readName_57 : decode cX10_readName 57 = .ok (.getfield 15, 3) := by decide +kernel
theorem dX10_readName_60 : decode cX10_readName 60 = .ok (.iconst 1, 1) := by decide +kernel
theorem dX10_readName_61 : decode cX10_readName 61 = .ok (.iadd, 1) := by decide +kernel
theorem dX10_readName_62 : decode cX10_readName 62 = .ok (.putfield 15, 3) := by decide +kernel
theorem dX10_readName_65 : decode cX10_readName 65 = .ok (.aload_n 0, 1) := by decide +kernel
theorem dX10_readName_66 : decode cX10_readName 66 = .ok (.getfield 9, 3) := by decide +kernel
theorem dX10_readName_69 : decode cX10_readName 69 = .ok (.aload_n 0, 1) := by decide +kernel
theorem dX10_readName_70 : decode cX10_readName 70 = .ok (.getfield 15, 3) := by decide +kernel
theorem dX10_readName_73 : decode cX10_readName 73 = .ok (.invokevirtual 31, 3) := by decide +kernel
theorem dX10_readName_76 : decode cX10_readName 76 = .ok (.istore_n 3, 1) := by decide +kernel
theorem dX10_readName_77 : decode cX10_readName 77 = .ok (.iinc 2 1, 3) := by decide +kernel
theorem dX10_readName_80 : decode cX10_readName 80 = .ok (.goto (-71), 3) := by decide +kernel
theorem dX10_readName_83 : decode cX10_readName 83 = .ok (.iload_n 2, 1) := by decide +kernel
theorem dX10_readName_84 : decode cX10_readName 84 = .ok (.bipush 8, 2) := by decide +kernel
theorem dX10_readName_86 : decode cX10_readName 86 = .ok (.if_icmp .le 11, 3) := by decide +kernel
theorem dX10_readName_89 : decode cX10_readName 89 = .ok (.aload_n 0, 1) := by decide +kernel
theorem dX10_readName_90 : decode cX10_readName 90 = .ok (.iconst 2, 1) := by decide +kernel
theorem dX10_readName_91 : decode cX10_readName 91 = .ok (.putfield 19, 3) := by decide +kernel
theorem dX10_readName_94 : decode cX10_readName 94 = .ok (.goto 22, 3) := by decide +kernel
theorem dX10_readName_97 : decode cX10_readName 97 = .ok (.aload_n 0, 1) := by decide +kernel
theorem dX10_readName_98 : decode cX10_readName 98 = .ok (.iload_n 1, 1) := by decide +kernel
theorem dX10_readName_99 : decode cX10_readName 99 = .ok (.invokestatic 41, 3) := by decide +kernel
theorem dX10_readName_102 : decode cX10_readName 102 = .ok (.ifCond .eq 7, 3) := by decide +kernel
theorem dX10_readName_105 : decode cX10_readName 105 = .ok (.iconst 4, 1) := by decide +kernel
theorem dX10_readName_106 : decode cX10_readName 106 = .ok (.goto 7, 3) := by decide +kernel
theorem dX10_readName_109 : decode cX10_readName 109 = .ok (.aload_n 0, 1) := by decide +kernel
theorem dX10_readName_110 : decode cX10_readName 110 = .ok (.invokevirtual 64, 3) := by decide +kernel
theorem dX10_readName_113 : decode cX10_readName 113 = .ok (.putfield 19, 3) := by decide +kernel
theorem dX10_readName_116 : decode cX10_readName 116 = .ok (.return_, 1) := by decide +kernel
theorem dX10_readNumber_0 : decode cX10_readNumber 0 = .ok (.lconst 0, 1) := by decide +kernel
theorem dX10_readNumber_1 : decode cX10_readNumber 1 = .ok (.lstore_n 1, 1) := by decide +kernel
theorem dX10_readNumber_2 : decode cX10_readNumber 2 = .ok (.iconst 0, 1) := by decide +kernel
theorem dX10_readNumber_3 : decode cX10_readNumber 3 = .ok (.istore_n 3, 1) := by decide +kernel
theorem dX10_readNumber_4 : decode cX10_readNumber 4 = .ok (.aload_n 0, 1) := by decide +kernel
theorem dX10_readNumber_5 : decode cX10_readNumber 5 = .ok (.getfield 15, 3) := by decide +kernel
theorem dX10_readNumber_8 : decode cX10_readNumber 8 = .ok (.aload_n 0, 1) := by decide +kernel
theorem dX10_readNumber_9 : decode cX10_readNumber 9 = .ok (.getfield 9, 3) := by decide +kernel
theorem dX10_readNumber_12 : decode cX10_readNumber 12 = .ok (.getfield 57, 3) := by decide +kernel
theorem dX10_readNumber_15 : decode cX10_readNumber 15 = .ok (.if_icmp .ge 64, 3) := by decide +kernel
theorem dX10_readNumber_18 : decode cX10_readNumber 18 = .ok (.aload_n 0, 1) := by decide +kernel
theorem dX10_readNumber_19 : decode cX10_readNumber 19 = .ok (.getfield 9, 3) := by decide +kernel
theorem dX10_readNumber_22 : decode cX10_readNumber 22 = .ok (.aload_n 0, 1) := by decide +kernel
theorem dX10_readNumber_23 : decode cX10_readNumber 23 = .ok (.getfield 15, 3) := by decide +kernel
theorem dX10_readNumber_26 : decode cX10_readNumber 26 = .ok (.invokevirtual 31, 3) := by decide +kernel
theorem dX10_readNumber_29 : decode cX10_readNumber 29 = .ok (.invokestatic 48, 3) := by decide +kernel
theorem dX10_readNumber_32 : decode cX10_readNumber 32 = .ok (.ifCond .eq 47, 3) := by decide +kernel
theorem dX10_readNumber_35 : decode cX10_readNumber 35 = .ok (.iinc 3 1, 3) := by decide +kernel
theorem dX10_readNumber_38 : decode cX10_readNumber 38 = .ok (.iload_n 3, 1) := by decide +kernel
theorem dX10_readNumber_39 : decode cX10_readNumber 39 = .ok (.bipush 10, 2) := by decide +kernel
theorem dX10_readNumber_41 : decode cX10_readNumber 41 = .ok (.if_icmp .gt 25, 3) := by decide +kernel
theorem dX10_readNumber_44 : decode cX10_readNumber 44 = .ok (.lload_n 1, 1) := by decide +kernel
theorem dX10_readNumber_45 : decode cX10_readNumber 45 = .ok (.ldc2_w 80, 3) := by decide +kernel
theorem dX10_readNumber_48 : decode cX10_readNumber 48 = .ok (.lmul, 1) := by decide +kernel
theorem dX10_readNumber_49 : decode cX10_readNumber 49 = .ok (.aload_n 0, 1) := by decide +kernel
theorem dX10_readNumber_50 : decode cX10_readNumber 50 = .ok (.getfield 9, 3) := by decide +kernel
theorem dX10_readNumber_53 : decode cX10_readNumber 53 = .ok (.aload_n 0, 1) := by decide +kernel
theorem dX10_readNumber_54 : decode cX10_readNumber 54 = .ok (.getfield 15, 3) := by decide +kernel
theorem dX10_readNumber_57 : decode cX10_readNumber 57 = .ok (.invokevirtual 31, 3) := by decide +kernel
theorem dX10_readNumber_60 : decode cX10_readNumber 60 = .ok (.bipush 48, 2) := by decide +kernel
theorem dX10_readNumber_62 : decode cX10_readNumber 62 = .ok (.isub, 1) := by decide +kernel
theorem dX10_readNumber_63 : decode cX10_readNumber 63 = .ok (.i2l, 1) := by decide +kernel
theorem dX10_readNumber_64 : decode cX10_readNumber 64 = .ok (.ladd, 1) := by decide +kernel
theorem dX10_readNumber_65 : decode cX10_readNumber 65 = .ok (.lstore_n 1, 1) := by decide +kernel
theorem dX10_readNumber_66 : decode cX10_readNumber 66 = .ok (.aload_n 0, 1) := by decide +kernel
theorem dX10_readNumber_67 : decode cX10_readNumber 67 = .ok (.dup, 1) := by decide +kernel
theorem dX10_readNumber_68 : decode cX10_readNumber 68 = .ok (.getfield 15, 3) := by decide +kernel
theorem dX10_readNumber_71 : decode cX10_readNumber 71 = .ok (.iconst 1, 1) := by decide +kernel
theorem dX10_readNumber_72 : decode cX10_readNumber 72 = .ok (.iadd, 1) := by decide +kernel
theorem dX10_readNumber_73 : decode cX10_readNumber 73 = .ok (.putfield 15, 3) := by decide +kernel
theorem dX10_readNumber_76 : decode cX10_readNumber 76 = .ok (.goto (-72), 3) := by decide +kernel
theorem dX10_readNumber_79 : decode cX10_readNumber 79 = .ok (.iload_n 3, 1) := by decide +kernel
theorem dX10_readNumber_80 : decode cX10_readNumber 80 = .ok (.bipush 10, 2) := by decide +kernel
theorem dX10_readNumber_82 : decode cX10_readNumber 82 = .ok (.if_icmp .gt 15, 3) := by decide +kernel
theorem dX10_readNumber_85 : decode cX10_readNumber 85 = .ok (.lload_n 1, 1) := by decide +kernel
theorem dX10_readNumber_86 : decode cX10_readNumber 86 = .ok (.ldc2_w 82, 3) := by decide +kernel
theorem dX10_readNumber_89 : decode cX10_readNumber 89 = .ok (.lcmp, 1) := by decide +kernel
theorem dX10_readNumber_90 : decode cX10_readNumber 90 = .ok (.ifCond .gt 7, 3) := by decide +kernel
theorem dX10_readNumber_93 : decode cX10_readNumber 93 = .ok (.iconst 1, 1) := by decide +kernel
theorem dX10_readNumber_94 : decode cX10_readNumber 94 = .ok (.goto 4, 3) := by decide +kernel
theorem dX10_readNumber_97 : decode cX10_readNumber 97 = .ok (.iconst 0, 1) := by decide +kernel
theorem dX10_readNumber_98 : decode cX10_readNumber 98 = .ok (.istore 4, 2) := by decide +kernel
theorem dX10_readNumber_100 : decode cX10_readNumber 100 = .ok (.aload_n 0, 1) := by decide +kernel
theorem dX10_readNumber_101 : decode cX10_readNumber 101 = .ok (.iload 4, 2) := by decide +kernel
theorem dX10_readNumber_103 : decode cX10_readNumber 103 = .ok (.ifCond .eq 7, 3) := by decide +kernel
theorem dX10_readNumber_106 : decode cX10_readNumber 106 = .ok (.iconst 5, 1) := by decide +kernel
theorem dX10_readNumber_107 : decode cX10_readNumber 107 = .ok (.goto 4, 3) := by decide +kernel
theorem dX10_readNumber_110 : decode cX10_readNumber 110 = .ok (.iconst 2, 1) := by decide +kernel
theorem dX10_readNumber_111 : decode cX10_readNumber 111 = .ok (.putfield 19, 3) := by decide +kernel
theorem dX10_readNumber_114 : decode cX10_readNumber 114 = .ok (.aload_n 0, 1) := by decide +kernel
theorem dX10_readNumber_115 : decode cX10_readNumber 115 = .ok (.iload 4, 2) := by decide +kernel
theorem dX10_readNumber_117 : decode cX10_readNumber 117 = .ok (.ifCond .eq 8, 3) := by decide +kernel
theorem dX10_readNumber_120 : decode cX10_readNumber 120 = .ok (.lload_n 1, 1) := by decide +kernel
theorem dX10_readNumber_121 : decode cX10_readNumber 121 = .ok (.l2i, 1) := by decide +kernel
theorem dX10_readNumber_122 : decode cX10_readNumber 122 = .ok (.goto 4, 3) := by decide +kernel
theorem dX10_readNumber_125 : decode cX10_readNumber 125 = .ok (.iconst 0, 1) := by decide +kernel
theorem dX10_readNumber_126 : decode cX10_readNumber 126 = .ok (.putfield 84, 3) := by decide +kernel
theorem dX10_readNumber_129 : decode cX10_readNumber 129 = .ok (.return_, 1) := by decide +kernel
theorem dX10_readSign_0 : decode cX10_readSign 0 = .ok (.aload_n 0, 1) := by decide +kernel
theorem dX10_readSign_1 : decode cX10_readSign 1 = .ok (.getfield 9, 3) := by decide +kernel
theorem dX10_readSign_4 : decode cX10_readSign 4 = .ok (.aload_n 0, 1) := by decide +kernel
theorem dX10_readSign_5 : decode cX10_readSign 5 = .ok (.getfield 15, 3) := by decide +kernel
theorem dX10_readSign_8 : decode cX10_readSign 8 = .ok (.iconst 1, 1) := by decide +kernel
theorem dX10_readSign_9 : decode cX10_readSign 9 = .ok (.iadd, 1) := by decide +kernel
theorem dX10_readSign_10 : decode cX10_readSign 10 = .ok (.invokevirtual 31, 3) := by decide +kernel
theorem dX10_readSign_13 : decode cX10_readSign 13 = .ok (.istore_n 2, 1) := by decide +kernel
theorem dX10_readSign_14 : decode cX10_readSign 14 = .ok (.iload_n 1, 1) := by decide +kernel
theorem dX10_readSign_15 : decode cX10_readSign 15 = .ok (.bipush 45, 2) := by decide +kernel
theorem dX10_readSign_17 : decode cX10_readSign 17 = .ok (.if_icmp .ne 19, 3) := by decide +kernel
theorem dX10_readSign_20 : decode cX10_readSign 20 = .ok (.iload_n 2, 1) := by decide +kernel
theorem dX10_readSign_21 : decode cX10_readSign 21 = .ok (.bipush 62, 2) := by decide +kernel
theorem dX10_readSign_23 : decode cX10_readSign 23 = .ok (.if_icmp .ne 13, 3) := by decide +kernel
theorem dX10_readSign_26 : decode cX10_readSign 26 = .ok (.aload_n 0, 1) := by decide +kernel
theorem dX10_readSign_27 : decode cX10_readSign 27 = .ok (.sipush 128, 3) := by decide +kernel
theorem dX10_readSign_30 : decode cX10_readSign 30 = .ok (.putfield 19, 3) := by decide +kernel
theorem dX10_readSign_33 : decode cX10_readSign 33 = .ok (.goto 66, 3) := by decide +kernel
theorem dX10_readSign_36 : decode cX10_readSign 36 = .ok (.iload_n 1, 1) := by decide +kernel
theorem dX10_readSign_37 : decode cX10_readSign 37 = .ok (.bipush 61, 2) := by decide +kernel
theorem dX10_readSign_39 : decode cX10_readSign 39 = .ok (.if_icmp .ne 19, 3) := by decide +kernel
theorem dX10_readSign_42 : decode cX10_readSign 42 = .ok (.iload_n 2, 1) := by decide +kernel
theorem dX10_readSign_43 : decode cX10_readSign 43 = .ok (.bipush 61, 2) := by decide +kernel
theorem dX10_readSign_45 : decode cX10_readSign 45 = .ok (.if_icmp .ne 13, 3) := by decide +kernel
theorem dX10_readSign_48 : decode cX10_readSign 48 = .ok (.aload_n 0, 1) := by decide +kernel
theorem dX10_readSign_49 : decode cX10_readSign 49 = .ok (.sipush 129, 3) := by decide +kernel
theorem dX10_readSign_52 : decode cX10_readSign 52 = .ok (.putfield 19, 3) := by decide +kernel
theorem dX10_readSign_55 : decode cX10_readSign 55 = .ok (.goto 44, 3) := by decide +kernel
theorem dX10_readSign_58 : decode cX10_readSign 58 = .ok (.iload_n 1, 1) := by decide +kernel
theorem dX10_readSign_59 : decode cX10_readSign 59 = .ok (.bipush 60, 2) := by decide +kernel
theorem dX10_readSign_61 : decode cX10_readSign 61 = .ok (.if_icmp .ne 19, 3) := by decide +kernel
theorem dX10_readSign_64 : decode cX10_readSign 64 = .ok (.iload_n 2, 1) := by decide +kernel
theorem dX10_readSign_65 : decode cX10_readSign 65 = .ok (.bipush 61, 2) := by decide +kernel
theorem dX10_readSign_67 : decode cX10_readSign 67 = .ok (.if_icmp .ne 13, 3) := by decide +kernel
theorem dX10_readSign_70 : decode cX10_readSign 70 = .ok (.aload_n 0, 1) := by decide +kernel
theorem dX10_readSign_71 : decode cX10_readSign 71 = .ok (.sipush 130, 3) := by decide +kernel
theorem dX10_readSign_74 : decode cX10_readSign 74 = .ok (.putfield 19, 3) := by decide +kernel
theorem dX10_readSign_77 : decode cX10_readSign 77 = .ok (.goto 22, 3) := by decide +kernel
theorem dX10_readSign_80 : decode cX10_readSign 80 = .ok (.aload_n 0, 1) := by decide +kernel
theorem dX10_readSign_81 : decode cX10_readSign 81 = .ok (.ldc 87, 2) := by decide +kernel
theorem dX10_readSign_83 : decode cX10_readSign 83 = .ok (.iload_n 1, 1) := by decide +kernel
theorem dX10_readSign_84 : decode cX10_readSign 84 = .ok (.i2c, 1) := by decide +kernel
theorem dX10_readSign_85 : decode cX10_readSign 85 = .ok (.invokevirtual 89, 3) := by decide +kernel
theorem dX10_readSign_88 : decode cX10_readSign 88 = .ok (.ifCond .lt 7, 3) := by decide +kernel
theorem dX10_readSign_91 : decode cX10_readSign 91 = .ok (.iload_n 1, 1) := by decide +kernel
theorem dX10_readSign_92 : decode cX10_readSign 92 = .ok (.goto 4, 3) := by decide +kernel
theorem dX10_readSign_95 : decode cX10_readSign 95 = .ok (.iconst 2, 1) := by decide +kernel
theorem dX10_readSign_96 : decode cX10_readSign 96 = .ok (.putfield 19, 3) := by decide +kernel
theorem dX10_readSign_99 : decode cX10_readSign 99 = .ok (.aload_n 0, 1) := by decide +kernel
theorem dX10_readSign_100 : decode cX10_readSign 100 = .ok (.dup, 1) := by decide +kernel
theorem dX10_readSign_101 : decode cX10_readSign 101 = .ok (.getfield 15, 3) := by decide +kernel
theorem dX10_readSign_104 : decode cX10_readSign 104 = .ok (.aload_n 0, 1) := by decide +kernel
theorem dX10_readSign_105 : decode cX10_readSign 105 = .ok (.getfield 19, 3) := by decide +kernel
theorem dX10_readSign_108 : decode cX10_readSign 108 = .ok (.sipush 128, 3) := by decide +kernel
theorem dX10_readSign_111 : decode cX10_readSign 111 = .ok (.if_icmp .lt 7, 3) := by decide +kernel
theorem dX10_readSign_114 : decode cX10_readSign 114 = .ok (.iconst 2, 1) := by decide +kernel
theorem dX10_readSign_115 : decode cX10_readSign 115 = .ok (.goto 4, 3) := by decide +kernel
theorem dX10_readSign_118 : decode cX10_readSign 118 = .ok (.iconst 1, 1) := by decide +kernel
theorem dX10_readSign_119 : decode cX10_readSign 119 = .ok (.iadd, 1) := by decide +kernel
theorem dX10_readSign_120 : decode cX10_readSign 120 = .ok (.putfield 15, 3) := by decide +kernel
theorem dX10_readSign_123 : decode cX10_readSign 123 = .ok (.return_, 1) := by decide +kernel
theorem dX10_stop_0 : decode cX10_stop 0 = .ok (.aload_n 0, 1) := by decide +kernel
theorem dX10_stop_1 : decode cX10_stop 1 = .ok (.iconst 0, 1) := by decide +kernel
theorem dX10_stop_2 : decode cX10_stop 2 = .ok (.putfield 19, 3) := by decide +kernel
theorem dX10_stop_5 : decode cX10_stop 5 = .ok (.return_, 1) := by decide +kernel
theorem dX8_addName_0 : decode cX8_addName 0 = .ok (.bipush 56, 2) := by decide +kernel
theorem dX8_addName_2 : decode cX8_addName 2 = .ok (.istore_n 3, 1) := by decide +kernel
theorem dX8_addName_3 : decode cX8_addName 3 = .ok (.iload_n 3, 1) := by decide +kernel
theorem dX8_addName_4 : decode cX8_addName 4 = .ok (.ifCond .lt 30, 3) := by decide +kernel
theorem dX8_addName_7 : decode cX8_addName 7 = .ok (.lload_n 1, 1) := by decide +kernel
theorem dX8_addName_8 : decode cX8_addName 8 = .ok (.iload_n 3, 1) := by decide +kernel
theorem dX8_addName_9 : decode cX8_addName 9 = .ok (.lushr, 1) := by decide +kernel
theorem dX8_addName_10 : decode cX8_addName 10 = .ok (.l2i, 1) := by decide +kernel
theorem dX8_addName_11 : decode cX8_addName 11 = .ok (.sipush 255, 3) := by decide +kernel
theorem dX8_addName_14 : decode cX8_addName 14 = .ok (.iand, 1) := by decide +kernel
theorem dX8_addName_15 : decode cX8_addName 15 = .ok (.istore 4, 2) := by decide +kernel
theorem dX8_addName_17 : decode cX8_addName 17 = .ok (.iload 4, 2) := by decide +kernel
theorem dX8_addName_19 : decode cX8_addName 19 = .ok (.ifCond .eq 9, 3) := by decide +kernel
theorem dX8_addName_22 : decode cX8_addName 22 = .ok (.aload_n 0, 1) := by decide +kernel
theorem dX8_addName_23 : decode cX8_addName 23 = .ok (.iload 4, 2) := by decide +kernel
theorem dX8_addName_25 : decode cX8_addName 25 = .ok (.invokevirtual 33, 3) := by decide +kernel
theorem dX8_addName_28 : decode cX8_addName 28 = .ok (.iinc 3 (-8), 3) := by decide +kernel
theorem dX8_addName_31 : decode cX8_addName 31 = .ok (.goto (-28), 3) := by decide +kernel
theorem dX8_addName_34 : decode cX8_addName 34 = .ok (.return_, 1) := by decide +kernel
theorem dX8_addNumber_0 : decode cX8_addNumber 0 = .ok (.iconst 1, 1) := by decide +kernel
theorem dX8_addNumber_1 : decode cX8_addNumber 1 = .ok (.istore_n 2, 1) := by decide +kernel
theorem dX8_addNumber_2 : decode cX8_addNumber 2 = .ok (.iconst 0, 1) := by decide +kernel
theorem dX8_addNumber_3 : decode cX8_addNumber 3 = .ok (.istore_n 3, 1) := by decide +kernel
theorem dX8_addNumber_4 : decode cX8_addNumber 4 = .ok (.iload_n 3, 1) := by decide +kernel
theorem dX8_addNumber_5 : decode cX8_addNumber 5 = .ok (.bipush 9, 2) := by decide +kernel
theorem dX8_addNumber_7 : decode cX8_addNumber 7 = .ok (.if_icmp .ge 22, 3) := by decide +kernel
theorem dX8_addNumber_10 : decode cX8_addNumber 10 = .ok (.iload_n 1, 1) := by decide +kernel
theorem dX8_addNumber_11 : decode cX8_addNumber 11 = .ok (.iload_n 2, 1) := by decide +kernel
theorem dX8_addNumber_12 : decode cX8_addNumber 12 = .ok (.idiv, 1) := by decide +kernel
theorem dX8_addNumber_13 : decode cX8_addNumber 13 = .ok (.bipush 10, 2) := by decide +kernel
theorem dX8_addNumber_15 : decode cX8_addNumber 15 = .ok (.if_icmp .lt 14, 3) := by decide +kernel
theorem dX8_addNumber_18 : decode cX8_addNumber 18 = .ok (.iload_n 2, 1) := by decide +kernel
theorem dX8_addNumber_19 : decode cX8_addNumber 19 = .ok (.bipush 10, 2) := by decide +kernel
theorem dX8_addNumber_21 : decode cX8_addNumber 21 = .ok (.imul, 1) := by decide +kernel
theorem dX8_addNumber_22 : decode cX8_addNumber 22 = .ok (.istore_n 2, 1) := by decide +kernel
theorem dX8_addNumber_23 : decode cX8_addNumber 23 = .ok (.iinc 3 1, 3) := by decide +kernel
theorem dX8_addNumber_26 : decode cX8_addNumber 26 = .ok (.goto (-22), 3) := by decide +kernel
theorem dX8_addNumber_29 : decode cX8_addNumber 29 = .ok (.iload_n 2, 1) := by decide +kernel
theorem dX8_addNumber_30 : decode cX8_addNumber 30 = .ok (.ifCond .le 24, 3) := by decide +kernel
theorem dX8_addNumber_33 : decode cX8_addNumber 33 = .ok (.aload_n 0, 1) := by decide +kernel
theorem dX8_addNumber_34 : decode cX8_addNumber 34 = .ok (.bipush 48, 2) := by decide +kernel
theorem dX8_addNumber_36 : decode cX8_addNumber 36 = .ok (.iload_n 1, 1) := by decide +kernel
theorem dX8_addNumber_37 : decode cX8_addNumber 37 = .ok (.iload_n 2, 1) := by decide +kernel
theorem dX8_addNumber_38 : decode cX8_addNumber 38 = .ok (.idiv, 1) := by decide +kernel
theorem dX8_addNumber_39 : decode cX8_addNumber 39 = .ok (.bipush 10, 2) := by decide +kernel
theorem dX8_addNumber_41 : decode cX8_addNumber 41 = .ok (.irem, 1) := by decide +kernel
theorem dX8_addNumber_42 : decode cX8_addNumber 42 = .ok (.iadd, 1) := by decide +kernel
theorem dX8_addNumber_43 : decode cX8_addNumber 43 = .ok (.invokevirtual 33, 3) := by decide +kernel
theorem dX8_addNumber_46 : decode cX8_addNumber 46 = .ok (.iload_n 2, 1) := by decide +kernel
theorem dX8_addNumber_47 : decode cX8_addNumber 47 = .ok (.bipush 10, 2) := by decide +kernel
theorem dX8_addNumber_49 : decode cX8_addNumber 49 = .ok (.idiv, 1) := by decide +kernel
theorem dX8_addNumber_50 : decode cX8_addNumber 50 = .ok (.istore_n 2, 1) := by decide +kernel
theorem dX8_addNumber_51 : decode cX8_addNumber 51 = .ok (.goto (-22), 3) := by decide +kernel
theorem dX8_addNumber_54 : decode cX8_addNumber 54 = .ok (.return_, 1) := by decide +kernel
theorem dX8_addText_0 : decode cX8_addText 0 = .ok (.iconst 0, 1) := by decide +kernel
theorem dX8_addText_1 : decode cX8_addText 1 = .ok (.istore_n 2, 1) := by decide +kernel
theorem dX8_addText_2 : decode cX8_addText 2 = .ok (.iload_n 2, 1) := by decide +kernel
theorem dX8_addText_3 : decode cX8_addText 3 = .ok (.aload_n 1, 1) := by decide +kernel
theorem dX8_addText_4 : decode cX8_addText 4 = .ok (.invokevirtual 23, 3) := by decide +kernel
theorem dX8_addText_7 : decode cX8_addText 7 = .ok (.if_icmp .ge 18, 3) := by decide +kernel
theorem dX8_addText_10 : decode cX8_addText 10 = .ok (.aload_n 0, 1) := by decide +kernel
theorem dX8_addText_11 : decode cX8_addText 11 = .ok (.aload_n 1, 1) := by decide +kernel
theorem dX8_addText_12 : decode cX8_addText 12 = .ok (.iload_n 2, 1) := by decide +kernel
theorem dX8_addText_13 : decode cX8_addText 13 = .ok (.invokevirtual 29, 3) := by decide +kernel
theorem dX8_addText_16 : decode cX8_addText 16 = .ok (.invokevirtual 33, 3) := by decide +kernel
theorem dX8_addText_19 : decode cX8_addText 19 = .ok (.iinc 2 1, 3) := by decide +kernel
theorem dX8_addText_22 : decode cX8_addText 22 = .ok (.goto (-20), 3) := by decide +kernel
theorem dX8_addText_25 : decode cX8_addText 25 = .ok (.return_, 1) := by decide +kernel
theorem cw_J0_charAt_5068e : CWV yJ0_charAt_5068e cJ0_charAt_5068e 2 (some .char) RJ0 1 := ⟨mG_1660, mG_1658, mG_1659, mG_233, by decide +kernel⟩
theorem cw_J0_checkIndex_df160 : CWS yJ0_checkIndex_df160 cJ0_checkIndex_df160 2 none RJ0 2 := ⟨mG_1666, mG_1665, mG_233, by decide +kernel⟩
theorem cw_J0_coder_7d493 : CWV yJ0_coder_7d493 cJ0_coder_7d493 1 (some .byte) RJ0 0 := ⟨mG_985, mG_983, mG_984, mG_233, by decide +kernel⟩
theorem cw_J0_indexOf_0f7a4 : CWV yJ0_indexOf_0f7a4 cJ0_indexOf_0f7a4 2 (some .int) RJ0 1 := ⟨mG_967, mG_965, mG_966, mG_233, by decide +kernel⟩
theorem cw_J0_indexOf_7cf53 : CWV yJ0_indexOf_7cf53 cJ0_indexOf_7cf53 3 (some .int) RJ0 2 := ⟨mG_971, mG_969, mG_970, mG_233, by decide +kernel⟩
theorem cw_J0_isLatin1_aae02 : CWV yJ0_isLatin1_aae02 cJ0_isLatin1_aae02 1 (some .boolean) RJ0 0 := ⟨mG_975, mG_973, mG_974, mG_233, by decide +kernel⟩
theorem cw_J0_length_8abf5 : CWV yJ0_length_8abf5 cJ0_length_8abf5 1 (some .int) RJ0 0 := ⟨mG_981, mG_979, mG_980, mG_233, by decide +kernel⟩
theorem cw_J1_canEncode_9a6ad : CWS yJ1_canEncode_9a6ad cJ1_canEncode_9a6ad 1 (some .boolean) RJ1 1 := ⟨mG_991, mG_990, mG_234, by decide +kernel⟩
theorem cw_J1_charAt_3b067 : CWS yJ1_charAt_3b067 cJ1_charAt_3b067 2 (some .char) RJ1 2 := ⟨mG_1663, mG_1662, mG_234, by decide +kernel⟩
theorem cw_J1_indexOfChar_4cfef : CWS yJ1_indexOfChar_4cfef cJ1_indexOfChar_4cfef 6 (some .int) RJ1 4 := ⟨mG_1000, mG_999, mG_234, by decide +kernel⟩
theorem cw_J1_indexOf_4cfef : CWS yJ1_indexOf_4cfef cJ1_indexOf_4cfef 4 (some .int) RJ1 4 := ⟨mG_988, mG_987, mG_234, by decide +kernel⟩
theorem cw_J3_checkIndex_8e157 : CWS yJ3_checkIndex_8e157 cJ3_checkIndex_8e157 3 (some .int) RJ3 3 := ⟨mG_1669, mG_1668, mG_237, by decide +kernel⟩
theorem cw_X10_advance : CWV yX10_advance cX10_advance 2 none RX10 0 := ⟨mG_921, mG_919, mG_920, mG_220, by decide +kernel⟩
theorem cw_X10_isDigit : CWS yX10_isDigit cX10_isDigit 1 (some .boolean) RX10 1 := ⟨mG_942, mG_941, mG_220, by decide +kernel⟩
theorem cw_X10_isGreat : CWS yX10_isGreat cX10_isGreat 1 (some .boolean) RX10 1 := ⟨mG_935, mG_934, mG_220, by decide +kernel⟩
theorem cw_X10_isSmall : CWS yX10_isSmall cX10_isSmall 1 (some .boolean) RX10 1 := ⟨mG_932, mG_931, mG_220, by decide +kernel⟩
theorem cw_X10_kindOfName : CWV yX10_kindOfName cX10_kindOfName 1 (some .int) RX10 0 := ⟨mG_946, mG_945, mG_3, mG_220, by decide +kernel⟩
theorem cw_X10_passBlanks : CWV yX10_passBlanks cX10_passBlanks 3 none RX10 0 := ⟨mG_925, mG_924, mG_1, mG_220, by decide +kernel⟩
theorem cw_X10_readName : CWV yX10_readName cX10_readName 4 none RX10 1 := ⟨mG_939, mG_938, mG_2, mG_220, by decide +kernel⟩
theorem cw_X10_readNumber : CWV yX10_readNumber cX10_readNumber 5 none RX10 0 := ⟨mG_956, mG_955, mG_4, mG_220, by decide +kernel⟩
theorem cw_X10_readSign : CWV yX10_readSign cX10_readSign 3 none RX10 1 := ⟨mG_962, mG_961, mG_5, mG_220, by decide +kernel⟩
theorem cw_X8_add : CWV yX8_add cX8_add 2 none RX8 1 := ⟨mG_779, mG_777, mG_778, mG_215, by decide +kernel⟩
theorem cw_X8_signAt : CWV yX8_signAt cX8_signAt 2 (some .int) RX8 1 := ⟨mG_929, mG_927, mG_928, mG_215, by decide +kernel⟩
section MX8_clear_text
variable {p : Program} {l : Launch} {e : Env} {R : Room} {s : State} {m : MethodId} {args : Array Value} {below : List Frame} {meth : Method} {c : Code} {dC : Nat → ClassId} {dI : Nat → Nat → Nat} {ak : Nat → Nat} {A : Nat → Prop} {ad : Nat → Nat} {kc : Nat → ClassId} {sv : Value} {r : Unit} {τ : S5}
set_option maxHeartbeats 4000000 in
set_option maxRecDepth 100000 in
theorem w_X8_clear_text {σ : S5}  {H : Heap} {locs : List Loc} {ls : Array Slot} (S : CallFix p m c cX8_clear 1 s args uG RX8) (hr : meth.sig.returnType = none) (hk : meth.locks = false) (hR : 0 ≤ R.frames ∧ 0 ≤ R.locals)
    (X : gX (dC, dI) (tC kc) (wC ad kc sv) (zC ak) A s σ H locs) (hl : lv_has ls 1 [(0, .ref (ad 0))]) (hg : f_X8_clear_text  σ = some (r, τ)) : W p l e R s m args below meth c H locs 0 0 (MQ below (gQv (dC, dI) (tC kc) (wC ad kc sv) A r τ) args s 0 0 A) (F0 m 0 ls []) := by
  have hx := S.1
  have hb := S.2.1
  have hown := S.2.2.2.1
  have hu := S.2.2.2.2
  unfold f_X8_clear_text at hg
  refine lv_aload_n hx hb dX8_clear_0 rfl (lv_at hl 0 rfl) ?_
  refine lv_iconst (v := 0) hx hb dX8_clear_1 (by decide) ?_
  refine wcpI_0 S X mG_263 dX8_clear_2 (fun H locs X => ?_)
  refine lv_aload_n hx hb dX8_clear_5 rfl (lv_at hl 0 rfl) ?_
  refine lv_iconst (v := 0) hx hb dX8_clear_6 (by decide) ?_
  refine wcpI_1 S X mG_266 (Or.inl rfl) dX8_clear_7 (fun H locs X => ?_)
  obtain ⟨-, rfl⟩ := fin_some hg
  exact gr_v S hr hk X dX8_clear_10
end MX8_clear_text
set_option maxRecDepth 100000 in
theorem k2_X8_clear_text (l : Launch) (dC : Nat → ClassId) (dI : Nat → Nat → Nat) {ak : Nat → Nat} (ad : Nat → Nat) (kc : Nat → ClassId) (sv : Value) {σ τ : S5}  {r : Unit} (hg : f_X8_clear_text  σ = some (r, τ)) (sz : Nat) : Met l yX8_clear (Cond.code yX8_clear cX8_clear 1 none :: uG) { frames := 0, cells := 0, slots := 0, locals := 0 } (gPc (dC, dI) (tC kc) (wC ad kc sv) (zC ak) [.ref (ad 0)] σ sz) (gQv (dC, dI) (tC kc) (wC ad kc sv) (va_A (wC ad kc sv σ) sz) r τ) 0 0 (va_A (wC ad kc sv σ) sz) :=
  g_start (by decide) (Nat.le_of_ble_eq_true rfl) (fun p e s m below meth c ls S hr hk X hl => w_X8_clear_text S hr hk ⟨Nat.le_refl _, Nat.le_refl _⟩ X hl hg)
section MX8_add_text
variable {p : Program} {l : Launch} {e : Env} {R : Room} {s : State} {m : MethodId} {args : Array Value} {below : List Frame} {meth : Method} {c : Code} {dC : Nat → ClassId} {dI : Nat → Nat → Nat} {ak : Nat → Nat} {A : Nat → Prop} {ad : Nat → Nat} {kc : Nat → ClassId} {sv : Value} {r : Unit} {τ : S5}
set_option maxHeartbeats 4000000 in
set_option maxRecDepth 100000 in
theorem w_X8_add_text {σ : S5} {a1 : Int32} {H : Heap} {locs : List Loc} {ls : Array Slot} (S : CallFix p m c cX8_add 2 s args uG RX8) (hr : meth.sig.returnType = none) (hk : meth.locks = false) (hR : 0 ≤ R.frames ∧ 0 ≤ R.locals)
    (X : gX (dC, dI) (tC kc) (wC ad kc sv) (zC ak) A s σ H locs) (hl : lv_has ls 2 [(0, .ref (ad 0)), (1, .int a1)]) (hg : f_X8_add_text a1 σ = some (r, τ)) : W p l e R s m args below meth c H locs 0 0 (MQ below (gQv (dC, dI) (tC kc) (wC ad kc sv) A r τ) args s 0 0 A) (F0 m 0 ls []) := by
  have hx := S.1
  have hb := S.2.1
  have hown := S.2.2.2.1
  have hu := S.2.2.2.2
  unfold f_X8_add_text at hg
  refine lv_aload_n hx hb dX8_add_0 rfl (lv_at hl 0 rfl) ?_
  refine wcgI_0 (v := (gI σ 0)) S X mG_263 rfl dX8_add_1 ?_
  refine lv_aload_n hx hb dX8_add_4 rfl (lv_at hl 0 rfl) ?_
  refine wcgR_0_0 S X mG_262 dX8_add_5 ?_
  refine wcnA_0 S X dX8_add_8 ?_
  refine lv_icmp_lt (tgt := 18) hx hb dX8_add_9 (by decide) (fun c9 => ?_) (fun c9 => ?_)
  · have hg := (if_pos c9).symm.trans hg
    refine lv_aload_n hx hb dX8_add_18 rfl (lv_at hl 0 rfl) ?_
    refine wcgR_0_0 S X mG_262 dX8_add_19 ?_
    refine lv_aload_n hx hb dX8_add_22 rfl (lv_at hl 0 rfl) ?_
    refine wcgI_0 (v := (gI σ 0)) S X mG_263 rfl dX8_add_23 ?_
    refine lv_iload_n hx hb dX8_add_26 rfl (lv_at hl 1 rfl) ?_
    refine lv_i2b (v := ((a1).toInt8.toInt32)) hx hb dX8_add_27 rfl ?_
    obtain ⟨hi28, hg⟩ := gd_some hg
    refine wcsA_0 S X hi28 dX8_add_28 (fun H locs X => ?_)
    refine lv_aload_n hx hb dX8_add_29 rfl (lv_at hl 0 rfl) ?_
    refine lv_dup hx hb dX8_add_30 rfl ?_
    refine wcgI_0 (v := (gI σ 0)) S X mG_263 rfl dX8_add_31 ?_
    refine lv_iconst (v := 1) hx hb dX8_add_34 (by decide) ?_
    refine lv_iadd hx hb dX8_add_35 ?_
    refine wcpI_0 S X mG_263 dX8_add_36 (fun H locs X => ?_)
    obtain ⟨-, rfl⟩ := fin_some hg
    exact gr_v S hr hk X dX8_add_39
  · have hg := (if_neg c9).symm.trans hg
    refine lv_aload_n hx hb dX8_add_12 rfl (lv_at hl 0 rfl) ?_
    refine lv_iconst (v := 1) hx hb dX8_add_13 (by decide) ?_
    refine wcpI_1 S X mG_266 (Or.inr rfl) dX8_add_14 (fun H locs X => ?_)
    obtain ⟨-, rfl⟩ := fin_some hg
    exact gr_v S hr hk X dX8_add_17
end MX8_add_text
set_option maxRecDepth 100000 in
theorem k2_X8_add_text (l : Launch) (dC : Nat → ClassId) (dI : Nat → Nat → Nat) {ak : Nat → Nat} (ad : Nat → Nat) (kc : Nat → ClassId) (sv : Value) {σ τ : S5} {a1 : Int32} {r : Unit} (hg : f_X8_add_text a1 σ = some (r, τ)) (sz : Nat) : Met l yX8_add (Cond.code yX8_add cX8_add 2 none :: uG) { frames := 0, cells := 0, slots := 0, locals := 0 } (gPc (dC, dI) (tC kc) (wC ad kc sv) (zC ak) [.ref (ad 0), .int a1] σ sz) (gQv (dC, dI) (tC kc) (wC ad kc sv) (va_A (wC ad kc sv σ) sz) r τ) 0 0 (va_A (wC ad kc sv σ) sz) :=
  g_start (by decide) (Nat.le_of_ble_eq_true rfl) (fun p e s m below meth c ls S hr hk X hl => w_X8_add_text S hr hk ⟨Nat.le_refl _, Nat.le_refl _⟩ X hl hg)
section MX8_clear_draft
variable {p : Program} {l : Launch} {e : Env} {R : Room} {s : State} {m : MethodId} {args : Array Value} {below : List Frame} {meth : Method} {c : Code} {dC : Nat → ClassId} {dI : Nat → Nat → Nat} {ak : Nat → Nat} {A : Nat → Prop} {ad : Nat → Nat} {kc : Nat → ClassId} {sv : Value} {r : Unit} {τ : S5}
set_option maxHeartbeats 4000000 in
set_option maxRecDepth 100000 in
theorem w_X8_clear_draft {σ : S5}  {H : Heap} {locs : List Loc} {ls : Array Slot} (S : CallFix p m c cX8_clear 1 s args uG RX8) (hr : meth.sig.returnType = none) (hk : meth.locks = false) (hR : 0 ≤ R.frames ∧ 0 ≤ R.locals)
    (X : gX (dC, dI) (tC kc) (wC ad kc sv) (zC ak) A s σ H locs) (hl : lv_has ls 1 [(0, .ref (ad 1))]) (hg : f_X8_clear_draft  σ = some (r, τ)) : W p l e R s m args below meth c H locs 0 0 (MQ below (gQv (dC, dI) (tC kc) (wC ad kc sv) A r τ) args s 0 0 A) (F0 m 0 ls []) := by
  have hx := S.1
  have hb := S.2.1
  have hown := S.2.2.2.1
  have hu := S.2.2.2.2
  unfold f_X8_clear_draft at hg
  refine lv_aload_n hx hb dX8_clear_0 rfl (lv_at hl 0 rfl) ?_
  refine lv_iconst (v := 0) hx hb dX8_clear_1 (by decide) ?_
  refine wcpI_2 S X mG_263 dX8_clear_2 (fun H locs X => ?_)
  refine lv_aload_n hx hb dX8_clear_5 rfl (lv_at hl 0 rfl) ?_
  refine lv_iconst (v := 0) hx hb dX8_clear_6 (by decide) ?_
  refine wcpI_3 S X mG_266 (Or.inl rfl) dX8_clear_7 (fun H locs X => ?_)
  obtain ⟨-, rfl⟩ := fin_some hg
  exact gr_v S hr hk X dX8_clear_10
end MX8_clear_draft
set_option maxRecDepth 100000 in
theorem k2_X8_clear_draft (l : Launch) (dC : Nat → ClassId) (dI : Nat → Nat → Nat) {ak : Nat → Nat} (ad : Nat → Nat) (kc : Nat → ClassId) (sv : Value) {σ τ : S5}  {r : Unit} (hg : f_X8_clear_draft  σ = some (r, τ)) (sz : Nat) : Met l yX8_clear (Cond.code yX8_clear cX8_clear 1 none :: uG) { frames := 0, cells := 0, slots := 0, locals := 0 } (gPc (dC, dI) (tC kc) (wC ad kc sv) (zC ak) [.ref (ad 1)] σ sz) (gQv (dC, dI) (tC kc) (wC ad kc sv) (va_A (wC ad kc sv σ) sz) r τ) 0 0 (va_A (wC ad kc sv σ) sz) :=
  g_start (by decide) (Nat.le_of_ble_eq_true rfl) (fun p e s m below meth c ls S hr hk X hl => w_X8_clear_draft S hr hk ⟨Nat.le_refl _, Nat.le_refl _⟩ X hl hg)
section MX8_add_draft
variable {p : Program} {l : Launch} {e : Env} {R : Room} {s : State} {m : MethodId} {args : Array Value} {below : List Frame} {meth : Method} {c : Code} {dC : Nat → ClassId} {dI : Nat → Nat → Nat} {ak : Nat → Nat} {A : Nat → Prop} {ad : Nat → Nat} {kc : Nat → ClassId} {sv : Value} {r : Unit} {τ : S5}
set_option maxHeartbeats 4000000 in
set_option maxRecDepth 100000 in
theorem w_X8_add_draft {σ : S5} {a1 : Int32} {H : Heap} {locs : List Loc} {ls : Array Slot} (S : CallFix p m c cX8_add 2 s args uG RX8) (hr : meth.sig.returnType = none) (hk : meth.locks = false) (hR : 0 ≤ R.frames ∧ 0 ≤ R.locals)
    (X : gX (dC, dI) (tC kc) (wC ad kc sv) (zC ak) A s σ H locs) (hl : lv_has ls 2 [(0, .ref (ad 1)), (1, .int a1)]) (hg : f_X8_add_draft a1 σ = some (r, τ)) : W p l e R s m args below meth c H locs 0 0 (MQ below (gQv (dC, dI) (tC kc) (wC ad kc sv) A r τ) args s 0 0 A) (F0 m 0 ls []) := by
  have hx := S.1
  have hb := S.2.1
  have hown := S.2.2.2.1
  have hu := S.2.2.2.2
  unfold f_X8_add_draft at hg
  refine lv_aload_n hx hb dX8_add_0 rfl (lv_at hl 0 rfl) ?_
  refine wcgI_2 (v := (gI σ 2)) S X mG_263 rfl dX8_add_1 ?_
  refine lv_aload_n hx hb dX8_add_4 rfl (lv_at hl 0 rfl) ?_
  refine wcgR_1_0 S X mG_262 dX8_add_5 ?_
  refine wcnA_1 S X dX8_add_8 ?_
  refine lv_icmp_lt (tgt := 18) hx hb dX8_add_9 (by decide) (fun c9 => ?_) (fun c9 => ?_)
  · have hg := (if_pos c9).symm.trans hg
    refine lv_aload_n hx hb dX8_add_18 rfl (lv_at hl 0 rfl) ?_
    refine wcgR_1_0 S X mG_262 dX8_add_19 ?_
    refine lv_aload_n hx hb dX8_add_22 rfl (lv_at hl 0 rfl) ?_
    refine wcgI_2 (v := (gI σ 2)) S X mG_263 rfl dX8_add_23 ?_
    refine lv_iload_n hx hb dX8_add_26 rfl (lv_at hl 1 rfl) ?_
    refine lv_i2b (v := ((a1).toInt8.toInt32)) hx hb dX8_add_27 rfl ?_
    obtain ⟨hi28, hg⟩ := gd_some hg
    refine wcsA_1 S X hi28 dX8_add_28 (fun H locs X => ?_)
    refine lv_aload_n hx hb dX8_add_29 rfl (lv_at hl 0 rfl) ?_
    refine lv_dup hx hb dX8_add_30 rfl ?_
    refine wcgI_2 (v := (gI σ 2)) S X mG_263 rfl dX8_add_31 ?_
    refine lv_iconst (v := 1) hx hb dX8_add_34 (by decide) ?_
    refine lv_iadd hx hb dX8_add_35 ?_
    refine wcpI_2 S X mG_263 dX8_add_36 (fun H locs X => ?_)
    obtain ⟨-, rfl⟩ := fin_some hg
    exact gr_v S hr hk X dX8_add_39
  · have hg := (if_neg c9).symm.trans hg
    refine lv_aload_n hx hb dX8_add_12 rfl (lv_at hl 0 rfl) ?_
    refine lv_iconst (v := 1) hx hb dX8_add_13 (by decide) ?_
    refine wcpI_3 S X mG_266 (Or.inr rfl) dX8_add_14 (fun H locs X => ?_)
    obtain ⟨-, rfl⟩ := fin_some hg
    exact gr_v S hr hk X dX8_add_17
end MX8_add_draft
set_option maxRecDepth 100000 in
theorem k2_X8_add_draft (l : Launch) (dC : Nat → ClassId) (dI : Nat → Nat → Nat) {ak : Nat → Nat} (ad : Nat → Nat) (kc : Nat → ClassId) (sv : Value) {σ τ : S5} {a1 : Int32} {r : Unit} (hg : f_X8_add_draft a1 σ = some (r, τ)) (sz : Nat) : Met l yX8_add (Cond.code yX8_add cX8_add 2 none :: uG) { frames := 0, cells := 0, slots := 0, locals := 0 } (gPc (dC, dI) (tC kc) (wC ad kc sv) (zC ak) [.ref (ad 1), .int a1] σ sz) (gQv (dC, dI) (tC kc) (wC ad kc sv) (va_A (wC ad kc sv σ) sz) r τ) 0 0 (va_A (wC ad kc sv σ) sz) :=
  g_start (by decide) (Nat.le_of_ble_eq_true rfl) (fun p e s m below meth c ls S hr hk X hl => w_X8_add_draft S hr hk ⟨Nat.le_refl _, Nat.le_refl _⟩ X hl hg)
section MX8_addNumber_draft
variable {p : Program} {l : Launch} {e : Env} {R : Room} {s : State} {m : MethodId} {args : Array Value} {below : List Frame} {meth : Method} {c : Code} {dC : Nat → ClassId} {dI : Nat → Nat → Nat} {ak : Nat → Nat} {A : Nat → Prop} {ad : Nat → Nat} {kc : Nat → ClassId} {sv : Value} {r : Unit} {τ : S5}
set_option maxHeartbeats 4000000 in
set_option maxRecDepth 100000 in
theorem w_X8_addNumber_draft_B29 {σ : S5} {rec29 : Int32 → Int32 → S5 → Option (Unit × S5)} {v1 : Int32} {v2 : Int32} {H : Heap} {locs : List Loc} {ls : Array Slot} (S : CallFix p m c cX8_addNumber 4 s args uG RX8) (hr : meth.sig.returnType = none) (hk : meth.locks = false) (hR : 1 ≤ R.frames ∧ 21 ≤ R.locals)
    (hrec29 : ∀ (v1 : Int32) (v2 : Int32) (σ : S5) (H : Heap) (locs : List Loc) (ls : Array Slot), gX (dC, dI) (tC kc) (wC ad kc sv) (zC ak) A s σ H locs → lv_has ls 4 [(0, .ref (ad 1)), (1, .int v1), (2, .int v2)] → rec29 v1 v2 σ = some (r, τ) → W p l e R s m args below meth c H locs 0 0 (MQ below (gQv (dC, dI) (tC kc) (wC ad kc sv) A r τ) args s 0 0 A) (F0 m 29 ls []))
    (X : gX (dC, dI) (tC kc) (wC ad kc sv) (zC ak) A s σ H locs) (hl : lv_has ls 4 [(0, .ref (ad 1)), (1, .int v1), (2, .int v2)]) (hg : f_X8_addNumber_draft_B29 rec29 v1 v2 σ = some (r, τ)) : W p l e R s m args below meth c H locs 0 0 (MQ below (gQv (dC, dI) (tC kc) (wC ad kc sv) A r τ) args s 0 0 A) (F0 m 29 ls []) := by
  have hx := S.1
  have hb := S.2.1
  have hown := S.2.2.2.1
  have hu := S.2.2.2.2
  unfold f_X8_addNumber_draft_B29 at hg
  refine lv_iload_n hx hb dX8_addNumber_29 rfl (lv_at hl 2 rfl) ?_
  refine lv_if_le (tgt := 54) hx hb dX8_addNumber_30 (by decide) (fun c30 => ?_) (fun c30 => ?_)
  · have hg := (if_pos c30).symm.trans hg
    obtain ⟨-, rfl⟩ := fin_some hg
    exact gr_v S hr hk X dX8_addNumber_54
  · have hg := (if_neg c30).symm.trans hg
    refine lv_aload_n hx hb dX8_addNumber_33 rfl (lv_at hl 0 rfl) ?_
    refine lv_bipush (v := 48) hx hb dX8_addNumber_34 (by decide) ?_
    refine lv_iload_n hx hb dX8_addNumber_36 rfl (lv_at hl 1 rfl) ?_
    refine lv_iload_n hx hb dX8_addNumber_37 rfl (lv_at hl 2 rfl) ?_
    obtain ⟨hz38, hg⟩ := gz_some hg
    refine lv_idiv hx hb dX8_addNumber_38 (hz38) ?_
    refine lv_bipush (v := 10) hx hb dX8_addNumber_39 (by decide) ?_
    refine lv_irem hx hb dX8_addNumber_41 (by decide) ?_
    refine lv_iadd hx hb dX8_addNumber_42 ?_
    obtain ⟨r43, τ43, hq43, hg⟩ := bd_some hg
    refine gc_Vv (As := [.int (48 + ((v1 / v2) - (v1 / v2) / 10 * 10))]) (rest := []) (q0 := 1) (ci := 11) S X (k2_X8_add_draft l dC dI ad kc sv hq43 H.size) cw_X8_add mG_776 rfl rfl rfl rfl rfl hl.1 (Nat.le_of_ble_eq_true rfl) dX8_addNumber_43 ⟨by omega, by omega⟩ (fun H locs X => ?_)
    refine lv_iload_n hx hb dX8_addNumber_46 rfl (lv_at hl 2 rfl) ?_
    refine lv_bipush (v := 10) hx hb dX8_addNumber_47 (by decide) ?_
    refine lv_idiv hx hb dX8_addNumber_49 (by decide) ?_
    refine lv_istore_n (lv' := [(2, .int (v2 / 10)), (0, .ref (ad 1)), (1, .int v1)]) hx hb dX8_addNumber_50 rfl hl (by decide) rfl (fun ls hl => ?_)
    refine lv_goto (tgt := 29) hx hb dX8_addNumber_51 (by decide) ?_
    exact hrec29 _ _ _ _ _ _ X (lv_sub hl [1, 2, 0] rfl) hg
set_option maxHeartbeats 4000000 in
set_option maxRecDepth 100000 in
theorem w_X8_addNumber_draft_L29 (S : CallFix p m c cX8_addNumber 4 s args uG RX8) (hr : meth.sig.returnType = none) (hk : meth.locks = false) (hR : 1 ≤ R.frames ∧ 21 ≤ R.locals) : ∀ (n : Nat) (v1 : Int32) (v2 : Int32) (σ : S5) (H : Heap) (locs : List Loc) (ls : Array Slot), gX (dC, dI) (tC kc) (wC ad kc sv) (zC ak) A s σ H locs → lv_has ls 4 [(0, .ref (ad 1)), (1, .int v1), (2, .int v2)] → f_X8_addNumber_draft_L29  n v1 v2 σ = some (r, τ) → W p l e R s m args below meth c H locs 0 0 (MQ below (gQv (dC, dI) (tC kc) (wC ad kc sv) A r τ) args s 0 0 A) (F0 m 29 ls []) := by
  intro n
  induction n with
  | zero => intro v1 v2 σ H locs ls X hl hg; cases hg
  | succ n ih => intro v1 v2 σ H locs ls X hl hg; exact w_X8_addNumber_draft_B29 S hr hk hR ih X hl hg
set_option maxHeartbeats 4000000 in
set_option maxRecDepth 100000 in
theorem w_X8_addNumber_draft_B4 {σ : S5} {rec4 : Int32 → Int32 → Int32 → S5 → Option (Unit × S5)} {v1 : Int32} {v2 : Int32} {v3 : Int32} {H : Heap} {locs : List Loc} {ls : Array Slot} (S : CallFix p m c cX8_addNumber 4 s args uG RX8) (hr : meth.sig.returnType = none) (hk : meth.locks = false) (hR : 1 ≤ R.frames ∧ 21 ≤ R.locals)
    (hrec4 : ∀ (v1 : Int32) (v2 : Int32) (v3 : Int32) (σ : S5) (H : Heap) (locs : List Loc) (ls : Array Slot), gX (dC, dI) (tC kc) (wC ad kc sv) (zC ak) A s σ H locs → lv_has ls 4 [(0, .ref (ad 1)), (1, .int v1), (2, .int v2), (3, .int v3)] → rec4 v1 v2 v3 σ = some (r, τ) → W p l e R s m args below meth c H locs 0 0 (MQ below (gQv (dC, dI) (tC kc) (wC ad kc sv) A r τ) args s 0 0 A) (F0 m 4 ls []))
    (X : gX (dC, dI) (tC kc) (wC ad kc sv) (zC ak) A s σ H locs) (hl : lv_has ls 4 [(0, .ref (ad 1)), (1, .int v1), (2, .int v2), (3, .int v3)]) (hg : f_X8_addNumber_draft_B4 rec4 v1 v2 v3 σ = some (r, τ)) : W p l e R s m args below meth c H locs 0 0 (MQ below (gQv (dC, dI) (tC kc) (wC ad kc sv) A r τ) args s 0 0 A) (F0 m 4 ls []) := by
  have hx := S.1
  have hb := S.2.1
  have hown := S.2.2.2.1
  have hu := S.2.2.2.2
  unfold f_X8_addNumber_draft_B4 at hg
  refine lv_iload_n hx hb dX8_addNumber_4 rfl (lv_at hl 3 rfl) ?_
  refine lv_bipush (v := 9) hx hb dX8_addNumber_5 (by decide) ?_
  refine lv_icmp_ge (tgt := 29) hx hb dX8_addNumber_7 (by decide) (fun c7 => ?_) (fun c7 => ?_)
  · have hg := (if_pos c7).symm.trans hg
    exact w_X8_addNumber_draft_L29 S hr hk hR _ _ _ _ _ _ _ X (lv_sub hl [0, 1, 2] rfl) hg
  · have hg := (if_neg c7).symm.trans hg
    refine lv_iload_n hx hb dX8_addNumber_10 rfl (lv_at hl 1 rfl) ?_
    refine lv_iload_n hx hb dX8_addNumber_11 rfl (lv_at hl 2 rfl) ?_
    obtain ⟨hz12, hg⟩ := gz_some hg
    refine lv_idiv hx hb dX8_addNumber_12 (hz12) ?_
    refine lv_bipush (v := 10) hx hb dX8_addNumber_13 (by decide) ?_
    refine lv_icmp_lt (tgt := 29) hx hb dX8_addNumber_15 (by decide) (fun c15 => ?_) (fun c15 => ?_)
    · have hg := (if_pos c15).symm.trans hg
      exact w_X8_addNumber_draft_L29 S hr hk hR _ _ _ _ _ _ _ X (lv_sub hl [0, 1, 2] rfl) hg
    · have hg := (if_neg c15).symm.trans hg
      refine lv_iload_n hx hb dX8_addNumber_18 rfl (lv_at hl 2 rfl) ?_
      refine lv_bipush (v := 10) hx hb dX8_addNumber_19 (by decide) ?_
      refine lv_imul hx hb dX8_addNumber_21 ?_
      refine lv_istore_n (lv' := [(2, .int (v2 * 10)), (0, .ref (ad 1)), (1, .int v1), (3, .int v3)]) hx hb dX8_addNumber_22 rfl hl (by decide) rfl (fun ls hl => ?_)
      refine lv_iinc (v := (v3 + 1)) (lv' := [(3, .int (v3 + 1)), (2, .int (v2 * 10)), (0, .ref (ad 1)), (1, .int v1)]) hx hb dX8_addNumber_23 hl (k := 3) rfl (by rfl) (by decide) rfl (fun ls hl => ?_)
      refine lv_goto (tgt := 4) hx hb dX8_addNumber_26 (by decide) ?_
      exact hrec4 _ _ _ _ _ _ _ X (lv_sub hl [2, 3, 1, 0] rfl) hg
set_option maxHeartbeats 4000000 in
set_option maxRecDepth 100000 in
theorem w_X8_addNumber_draft_L4 (S : CallFix p m c cX8_addNumber 4 s args uG RX8) (hr : meth.sig.returnType = none) (hk : meth.locks = false) (hR : 1 ≤ R.frames ∧ 21 ≤ R.locals) : ∀ (n : Nat) (v1 : Int32) (v2 : Int32) (v3 : Int32) (σ : S5) (H : Heap) (locs : List Loc) (ls : Array Slot), gX (dC, dI) (tC kc) (wC ad kc sv) (zC ak) A s σ H locs → lv_has ls 4 [(0, .ref (ad 1)), (1, .int v1), (2, .int v2), (3, .int v3)] → f_X8_addNumber_draft_L4  n v1 v2 v3 σ = some (r, τ) → W p l e R s m args below meth c H locs 0 0 (MQ below (gQv (dC, dI) (tC kc) (wC ad kc sv) A r τ) args s 0 0 A) (F0 m 4 ls []) := by
  intro n
  induction n with
  | zero => intro v1 v2 v3 σ H locs ls X hl hg; cases hg
  | succ n ih => intro v1 v2 v3 σ H locs ls X hl hg; exact w_X8_addNumber_draft_B4 S hr hk hR ih X hl hg
set_option maxHeartbeats 4000000 in
set_option maxRecDepth 100000 in
theorem w_X8_addNumber_draft {σ : S5} {a1 : Int32} {H : Heap} {locs : List Loc} {ls : Array Slot} (S : CallFix p m c cX8_addNumber 4 s args uG RX8) (hr : meth.sig.returnType = none) (hk : meth.locks = false) (hR : 1 ≤ R.frames ∧ 21 ≤ R.locals)
    (X : gX (dC, dI) (tC kc) (wC ad kc sv) (zC ak) A s σ H locs) (hl : lv_has ls 4 [(0, .ref (ad 1)), (1, .int a1)]) (hg : f_X8_addNumber_draft a1 σ = some (r, τ)) : W p l e R s m args below meth c H locs 0 0 (MQ below (gQv (dC, dI) (tC kc) (wC ad kc sv) A r τ) args s 0 0 A) (F0 m 0 ls []) := by
  have hx := S.1
  have hb := S.2.1
  have hown := S.2.2.2.1
  have hu := S.2.2.2.2
  unfold f_X8_addNumber_draft at hg
  refine lv_iconst (v := 1) hx hb dX8_addNumber_0 (by decide) ?_
  refine lv_istore_n (lv' := [(2, .int 1), (0, .ref (ad 1)), (1, .int a1)]) hx hb dX8_addNumber_1 rfl hl (by decide) rfl (fun ls hl => ?_)
  refine lv_iconst (v := 0) hx hb dX8_addNumber_2 (by decide) ?_
  refine lv_istore_n (lv' := [(3, .int 0), (2, .int 1), (0, .ref (ad 1)), (1, .int a1)]) hx hb dX8_addNumber_3 rfl hl (by decide) rfl (fun ls hl => ?_)
  exact w_X8_addNumber_draft_L4 S hr hk hR _ _ _ _ _ _ _ _ X (lv_sub hl [2, 3, 1, 0] rfl) hg
end MX8_addNumber_draft
set_option maxRecDepth 100000 in
theorem k2_X8_addNumber_draft (l : Launch) (dC : Nat → ClassId) (dI : Nat → Nat → Nat) {ak : Nat → Nat} (ad : Nat → Nat) (kc : Nat → ClassId) (sv : Value) {σ τ : S5} {a1 : Int32} {r : Unit} (hg : f_X8_addNumber_draft a1 σ = some (r, τ)) (sz : Nat) : Met l yX8_addNumber (Cond.code yX8_addNumber cX8_addNumber 4 none :: uG) { frames := 1, cells := 0, slots := 0, locals := 21 } (gPc (dC, dI) (tC kc) (wC ad kc sv) (zC ak) [.ref (ad 1), .int a1] σ sz) (gQv (dC, dI) (tC kc) (wC ad kc sv) (va_A (wC ad kc sv σ) sz) r τ) 0 0 (va_A (wC ad kc sv σ) sz) :=
  g_start (by decide) (Nat.le_of_ble_eq_true rfl) (fun p e s m below meth c ls S hr hk X hl => w_X8_addNumber_draft S hr hk ⟨Nat.le_refl _, Nat.le_refl _⟩ X hl hg)
section MX8_addName_draft
variable {p : Program} {l : Launch} {e : Env} {R : Room} {s : State} {m : MethodId} {args : Array Value} {below : List Frame} {meth : Method} {c : Code} {dC : Nat → ClassId} {dI : Nat → Nat → Nat} {ak : Nat → Nat} {A : Nat → Prop} {ad : Nat → Nat} {kc : Nat → ClassId} {sv : Value} {r : Unit} {τ : S5}
set_option maxHeartbeats 4000000 in
set_option maxRecDepth 100000 in
theorem w_X8_addName_draft_b28 {σ : S5} {rec3 : Int64 → Int32 → S5 → Option (Unit × S5)} {v1 : Int64} {v3 : Int32} {H : Heap} {locs : List Loc} {ls : Array Slot} (S : CallFix p m c cX8_addName 5 s args uG RX8) (hr : meth.sig.returnType = none) (hk : meth.locks = false) (hR : 1 ≤ R.frames ∧ 21 ≤ R.locals)
    (hrec3 : ∀ (v1 : Int64) (v3 : Int32) (σ : S5) (H : Heap) (locs : List Loc) (ls : Array Slot), gX (dC, dI) (tC kc) (wC ad kc sv) (zC ak) A s σ H locs → lv_has ls 5 [(0, .ref (ad 1)), (1, .long v1), (3, .int v3)] → rec3 v1 v3 σ = some (r, τ) → W p l e R s m args below meth c H locs 0 0 (MQ below (gQv (dC, dI) (tC kc) (wC ad kc sv) A r τ) args s 0 0 A) (F0 m 3 ls []))
    (X : gX (dC, dI) (tC kc) (wC ad kc sv) (zC ak) A s σ H locs) (hl : lv_has ls 5 [(0, .ref (ad 1)), (1, .long v1), (3, .int v3)]) (hg : f_X8_addName_draft_b28 rec3 v1 v3 σ = some (r, τ)) : W p l e R s m args below meth c H locs 0 0 (MQ below (gQv (dC, dI) (tC kc) (wC ad kc sv) A r τ) args s 0 0 A) (F0 m 28 ls []) := by
  have hx := S.1
  have hb := S.2.1
  have hown := S.2.2.2.1
  have hu := S.2.2.2.2
  unfold f_X8_addName_draft_b28 at hg
  refine lv_iinc (v := (v3 + (-8))) (lv' := [(3, .int (v3 + (-8))), (0, .ref (ad 1)), (1, .long v1)]) hx hb dX8_addName_28 hl (k := 2) rfl (by rfl) (by decide) rfl (fun ls hl => ?_)
  refine lv_goto (tgt := 3) hx hb dX8_addName_31 (by decide) ?_
  exact hrec3 _ _ _ _ _ _ X (lv_sub hl [1, 2, 0] rfl) hg
set_option maxHeartbeats 4000000 in
set_option maxRecDepth 100000 in
theorem w_X8_addName_draft_B3 {σ : S5} {rec3 : Int64 → Int32 → S5 → Option (Unit × S5)} {v1 : Int64} {v3 : Int32} {H : Heap} {locs : List Loc} {ls : Array Slot} (S : CallFix p m c cX8_addName 5 s args uG RX8) (hr : meth.sig.returnType = none) (hk : meth.locks = false) (hR : 1 ≤ R.frames ∧ 21 ≤ R.locals)
    (hrec3 : ∀ (v1 : Int64) (v3 : Int32) (σ : S5) (H : Heap) (locs : List Loc) (ls : Array Slot), gX (dC, dI) (tC kc) (wC ad kc sv) (zC ak) A s σ H locs → lv_has ls 5 [(0, .ref (ad 1)), (1, .long v1), (3, .int v3)] → rec3 v1 v3 σ = some (r, τ) → W p l e R s m args below meth c H locs 0 0 (MQ below (gQv (dC, dI) (tC kc) (wC ad kc sv) A r τ) args s 0 0 A) (F0 m 3 ls []))
    (X : gX (dC, dI) (tC kc) (wC ad kc sv) (zC ak) A s σ H locs) (hl : lv_has ls 5 [(0, .ref (ad 1)), (1, .long v1), (3, .int v3)]) (hg : f_X8_addName_draft_B3 rec3 v1 v3 σ = some (r, τ)) : W p l e R s m args below meth c H locs 0 0 (MQ below (gQv (dC, dI) (tC kc) (wC ad kc sv) A r τ) args s 0 0 A) (F0 m 3 ls []) := by
  have hx := S.1
  have hb := S.2.1
  have hown := S.2.2.2.1
  have hu := S.2.2.2.2
  unfold f_X8_addName_draft_B3 at hg
  refine lv_iload_n hx hb dX8_addName_3 rfl (lv_at hl 2 rfl) ?_
  refine lv_if_lt (tgt := 34) hx hb dX8_addName_4 (by decide) (fun c4 => ?_) (fun c4 => ?_)
  · have hg := (if_pos c4).symm.trans hg
    obtain ⟨-, rfl⟩ := fin_some hg
    exact gr_v S hr hk X dX8_addName_34
  · have hg := (if_neg c4).symm.trans hg
    refine lv_lload_n hx hb dX8_addName_7 rfl (lv_at hl 1 rfl) ?_
    refine lv_iload_n hx hb dX8_addName_8 rfl (lv_at hl 2 rfl) ?_
    refine lv_lushr (v := (j_lushr v1 v3)) hx hb dX8_addName_9 rfl ?_
    refine lv_l2i (v := (((j_lushr v1 v3) : Int64).toInt32)) hx hb dX8_addName_10 rfl ?_
    refine lv_sipush (v := 255) hx hb dX8_addName_11 (by decide) ?_
    refine lv_iand hx hb dX8_addName_14 ?_
    refine lv_istore (lv' := [(4, .int ((((j_lushr v1 v3) : Int64).toInt32) &&& 255)), (0, .ref (ad 1)), (1, .long v1), (3, .int v3)]) hx hb dX8_addName_15 hl (by decide) rfl (fun ls hl => ?_)
    refine lv_iload hx hb dX8_addName_17 (lv_at hl 0 rfl) ?_
    refine lv_if_eq (tgt := 28) hx hb dX8_addName_19 (by decide) (fun c19 => ?_) (fun c19 => ?_)
    · have hg := (if_pos c19).symm.trans hg
      exact w_X8_addName_draft_b28 S hr hk hR hrec3 X (lv_sub hl [1, 2, 3] rfl) hg
    · have hg := (if_neg c19).symm.trans hg
      refine lv_aload_n hx hb dX8_addName_22 rfl (lv_at hl 1 rfl) ?_
      refine lv_iload hx hb dX8_addName_23 (lv_at hl 0 rfl) ?_
      obtain ⟨r25, τ25, hq25, hg⟩ := bd_some hg
      refine gc_Vv (As := [.int ((((j_lushr v1 v3) : Int64).toInt32) &&& 255)]) (rest := []) (q0 := 1) (ci := 11) S X (k2_X8_add_draft l dC dI ad kc sv hq25 H.size) cw_X8_add mG_776 rfl rfl rfl rfl rfl hl.1 (Nat.le_of_ble_eq_true rfl) dX8_addName_25 ⟨by omega, by omega⟩ (fun H locs X => ?_)
      exact w_X8_addName_draft_b28 S hr hk hR hrec3 X (lv_sub hl [1, 2, 3] rfl) hg
set_option maxHeartbeats 4000000 in
set_option maxRecDepth 100000 in
theorem w_X8_addName_draft_L3 (S : CallFix p m c cX8_addName 5 s args uG RX8) (hr : meth.sig.returnType = none) (hk : meth.locks = false) (hR : 1 ≤ R.frames ∧ 21 ≤ R.locals) : ∀ (n : Nat) (v1 : Int64) (v3 : Int32) (σ : S5) (H : Heap) (locs : List Loc) (ls : Array Slot), gX (dC, dI) (tC kc) (wC ad kc sv) (zC ak) A s σ H locs → lv_has ls 5 [(0, .ref (ad 1)), (1, .long v1), (3, .int v3)] → f_X8_addName_draft_L3  n v1 v3 σ = some (r, τ) → W p l e R s m args below meth c H locs 0 0 (MQ below (gQv (dC, dI) (tC kc) (wC ad kc sv) A r τ) args s 0 0 A) (F0 m 3 ls []) := by
  intro n
  induction n with
  | zero => intro v1 v3 σ H locs ls X hl hg; cases hg
  | succ n ih => intro v1 v3 σ H locs ls X hl hg; exact w_X8_addName_draft_B3 S hr hk hR ih X hl hg
set_option maxHeartbeats 4000000 in
set_option maxRecDepth 100000 in
theorem w_X8_addName_draft {σ : S5} {a1 : Int64} {H : Heap} {locs : List Loc} {ls : Array Slot} (S : CallFix p m c cX8_addName 5 s args uG RX8) (hr : meth.sig.returnType = none) (hk : meth.locks = false) (hR : 1 ≤ R.frames ∧ 21 ≤ R.locals)
    (X : gX (dC, dI) (tC kc) (wC ad kc sv) (zC ak) A s σ H locs) (hl : lv_has ls 5 [(0, .ref (ad 1)), (1, .long a1)]) (hg : f_X8_addName_draft a1 σ = some (r, τ)) : W p l e R s m args below meth c H locs 0 0 (MQ below (gQv (dC, dI) (tC kc) (wC ad kc sv) A r τ) args s 0 0 A) (F0 m 0 ls []) := by
  have hx := S.1
  have hb := S.2.1
  have hown := S.2.2.2.1
  have hu := S.2.2.2.2
  unfold f_X8_addName_draft at hg
  refine lv_bipush (v := 56) hx hb dX8_addName_0 (by decide) ?_
  refine lv_istore_n (lv' := [(3, .int 56), (0, .ref (ad 1)), (1, .long a1)]) hx hb dX8_addName_2 rfl hl (by decide) rfl (fun ls hl => ?_)
  exact w_X8_addName_draft_L3 S hr hk hR _ _ _ _ _ _ _ X (lv_sub hl [1, 2, 0] rfl) hg
end MX8_addName_draft
set_option maxRecDepth 100000 in
theorem k2_X8_addName_draft (l : Launch) (dC : Nat → ClassId) (dI : Nat → Nat → Nat) {ak : Nat → Nat} (ad : Nat → Nat) (kc : Nat → ClassId) (sv : Value) {σ τ : S5} {a1 : Int64} {r : Unit} (hg : f_X8_addName_draft a1 σ = some (r, τ)) (sz : Nat) : Met l yX8_addName (Cond.code yX8_addName cX8_addName 5 none :: uG) { frames := 1, cells := 0, slots := 0, locals := 21 } (gPc (dC, dI) (tC kc) (wC ad kc sv) (zC ak) [.ref (ad 1), .long a1] σ sz) (gQv (dC, dI) (tC kc) (wC ad kc sv) (va_A (wC ad kc sv σ) sz) r τ) 0 0 (va_A (wC ad kc sv σ) sz) :=
  g_start (by decide) (Nat.le_of_ble_eq_true rfl) (fun p e s m below meth c ls S hr hk X hl => w_X8_addName_draft S hr hk ⟨Nat.le_refl _, Nat.le_refl _⟩ X hl hg)
section MX8_signAt_text
variable {p : Program} {l : Launch} {e : Env} {R : Room} {s : State} {m : MethodId} {args : Array Value} {below : List Frame} {meth : Method} {c : Code} {dC : Nat → ClassId} {dI : Nat → Nat → Nat} {ak : Nat → Nat} {A : Nat → Prop} {ad : Nat → Nat} {kc : Nat → ClassId} {sv : Value} {r : Int32} {τ : S5}
set_option maxHeartbeats 4000000 in
set_option maxRecDepth 100000 in
theorem w_X8_signAt_text {σ : S5} {a1 : Int32} {H : Heap} {locs : List Loc} {ls : Array Slot} (S : CallFix p m c cX8_signAt 2 s args uG RX8) (hr : meth.sig.returnType = (some .int)) (hk : meth.locks = false) (hR : 0 ≤ R.frames ∧ 0 ≤ R.locals)
    (X : gX (dC, dI) (tC kc) (wC ad kc sv) (zC ak) A s σ H locs) (hl : lv_has ls 2 [(0, .ref (ad 0)), (1, .int a1)]) (hg : f_X8_signAt_text a1 σ = some (r, τ)) : W p l e R s m args below meth c H locs 0 0 (MQ below (gQi (dC, dI) (tC kc) (wC ad kc sv) A r τ) args s 0 0 A) (F0 m 0 ls []) := by
  have hx := S.1
  have hb := S.2.1
  have hown := S.2.2.2.1
  have hu := S.2.2.2.2
  unfold f_X8_signAt_text at hg
  refine lv_iload_n hx hb dX8_signAt_0 rfl (lv_at hl 1 rfl) ?_
  refine lv_if_lt (tgt := 21) hx hb dX8_signAt_1 (by decide) (fun c1 => ?_) (fun c1 => ?_)
  · have hg := (if_pos c1).symm.trans hg
    refine lv_iconst (v := (-1)) hx hb dX8_signAt_21 (by decide) ?_
    obtain ⟨rfl, rfl⟩ := fin_some hg
    exact gr_i S hr hk X dX8_signAt_22
  · have hg := (if_neg c1).symm.trans hg
    refine lv_iload_n hx hb dX8_signAt_4 rfl (lv_at hl 1 rfl) ?_
    refine lv_aload_n hx hb dX8_signAt_5 rfl (lv_at hl 0 rfl) ?_
    refine wcgI_0 (v := (gI σ 0)) S X mG_263 rfl dX8_signAt_6 ?_
    refine lv_icmp_ge (tgt := 21) hx hb dX8_signAt_9 (by decide) (fun c9 => ?_) (fun c9 => ?_)
    · have hg := (if_pos c9).symm.trans hg
      refine lv_iconst (v := (-1)) hx hb dX8_signAt_21 (by decide) ?_
      obtain ⟨rfl, rfl⟩ := fin_some hg
      exact gr_i S hr hk X dX8_signAt_22
    · have hg := (if_neg c9).symm.trans hg
      refine lv_aload_n hx hb dX8_signAt_12 rfl (lv_at hl 0 rfl) ?_
      refine wcgR_0_0 S X mG_262 dX8_signAt_13 ?_
      refine lv_iload_n hx hb dX8_signAt_16 rfl (lv_at hl 1 rfl) ?_
      obtain ⟨hi17, hg⟩ := gd_some hg
      refine wclA_0 (v := (xA σ 0 a1)) S X hi17 rfl dX8_signAt_17 ?_
      refine lv_goto (tgt := 22) hx hb dX8_signAt_18 (by decide) ?_
      obtain ⟨rfl, rfl⟩ := fin_some hg
      exact gr_i S hr hk X dX8_signAt_22
end MX8_signAt_text
set_option maxRecDepth 100000 in
theorem k2_X8_signAt_text (l : Launch) (dC : Nat → ClassId) (dI : Nat → Nat → Nat) {ak : Nat → Nat} (ad : Nat → Nat) (kc : Nat → ClassId) (sv : Value) {σ τ : S5} {a1 : Int32} {r : Int32} (hg : f_X8_signAt_text a1 σ = some (r, τ)) (sz : Nat) : Met l yX8_signAt (Cond.code yX8_signAt cX8_signAt 2 (some .int) :: uG) { frames := 0, cells := 0, slots := 0, locals := 0 } (gPc (dC, dI) (tC kc) (wC ad kc sv) (zC ak) [.ref (ad 0), .int a1] σ sz) (gQi (dC, dI) (tC kc) (wC ad kc sv) (va_A (wC ad kc sv σ) sz) r τ) 0 0 (va_A (wC ad kc sv σ) sz) :=
  g_start (by decide) (Nat.le_of_ble_eq_true rfl) (fun p e s m below meth c ls S hr hk X hl => w_X8_signAt_text S hr hk ⟨Nat.le_refl _, Nat.le_refl _⟩ X hl hg)
section MJ0_coder_7d493
variable {p : Program} {l : Launch} {e : Env} {R : Room} {s : State} {m : MethodId} {args : Array Value} {below : List Frame} {meth : Method} {c : Code} {dC : Nat → ClassId} {dI : Nat → Nat → Nat} {ak : Nat → Nat} {A : Nat → Prop} {ad : Nat → Nat} {kc : Nat → ClassId} {sv : Value} {r : Int32} {τ : S5}
set_option maxHeartbeats 4000000 in
set_option maxRecDepth 100000 in
theorem w_J0_coder_7d493 {σ : S5} {zi : Nat} {H : Heap} {locs : List Loc} {ls : Array Slot} (S : CallFix p m c cJ0_coder_7d493 1 s args uG RJ0) (hr : meth.sig.returnType = (some .byte)) (hk : meth.locks = false) (hR : 0 ≤ R.frames ∧ 0 ≤ R.locals)
    (X : gX (dC, dI) (tC kc) (wC ad kc sv) (zC ak) A s σ H locs) (hl : lv_has ls 1 [(0, .ref (ak (2 * zi)))]) (hg : f_J0_coder_7d493 zi σ = some (r, τ)) : W p l e R s m args below meth c H locs 0 0 (MQ below (gQi (dC, dI) (tC kc) (wC ad kc sv) A r τ) args s 0 0 A) (F0 m 0 ls []) := by
  have hx := S.1
  have hb := S.2.1
  have hown := S.2.2.2.1
  have hu := S.2.2.2.2
  unfold f_J0_coder_7d493 at hg
  refine va_gets hx hb X.2.2.2.2.2.1.2.1 X.2.2.2.1 hown (hu _ mG_976) (fun _ h9 => h9) dJ0_coder_7d493_0 ?_
  refine lv_if_eq (tgt := 13) hx hb dJ0_coder_7d493_3 (by decide) (fun c3 => ?_) (fun c3 => ?_)
  · exact absurd c3 (by decide)
  · refine lv_aload_n hx hb dJ0_coder_7d493_6 rfl (lv_at hl 0 rfl) ?_
    obtain ⟨hs7, hg⟩ := gs_some hg
    refine vk_getf hx hb (X.2.2.2.2.2.1.1.1 zi hs7).2.1 X.2.2.2.1 hown (hu _ mG_1531) (fun _ h9 => h9) dJ0_coder_7d493_7 ?_
    refine lv_goto (tgt := 14) hx hb dJ0_coder_7d493_10 (by decide) ?_
    obtain ⟨rfl, rfl⟩ := fin_some hg
    exact gr_b S hr hk X rfl dJ0_coder_7d493_14
end MJ0_coder_7d493
set_option maxRecDepth 100000 in
theorem k2_J0_coder_7d493 (l : Launch) (dC : Nat → ClassId) (dI : Nat → Nat → Nat) {ak : Nat → Nat} (ad : Nat → Nat) (kc : Nat → ClassId) (sv : Value) {σ τ : S5} {zi : Nat} {r : Int32} (hg : f_J0_coder_7d493 zi σ = some (r, τ)) (sz : Nat) : Met l yJ0_coder_7d493 (Cond.code yJ0_coder_7d493 cJ0_coder_7d493 1 (some .byte) :: uG) { frames := 0, cells := 0, slots := 0, locals := 0 } (gPc (dC, dI) (tC kc) (wC ad kc sv) (zC ak) [.ref (ak (2 * zi))] σ sz) (gQi (dC, dI) (tC kc) (wC ad kc sv) (va_A (wC ad kc sv σ) sz) r τ) 0 0 (va_A (wC ad kc sv σ) sz) :=
  g_start (by decide) (Nat.le_of_ble_eq_true rfl) (fun p e s m below meth c ls S hr hk X hl => w_J0_coder_7d493 S hr hk ⟨Nat.le_refl _, Nat.le_refl _⟩ X hl hg)
section MJ0_isLatin1_aae02
variable {p : Program} {l : Launch} {e : Env} {R : Room} {s : State} {m : MethodId} {args : Array Value} {below : List Frame} {meth : Method} {c : Code} {dC : Nat → ClassId} {dI : Nat → Nat → Nat} {ak : Nat → Nat} {A : Nat → Prop} {ad : Nat → Nat} {kc : Nat → ClassId} {sv : Value} {r : Int32} {τ : S5}
set_option maxHeartbeats 4000000 in
set_option maxRecDepth 100000 in
theorem w_J0_isLatin1_aae02 {σ : S5} {zi : Nat} {H : Heap} {locs : List Loc} {ls : Array Slot} (S : CallFix p m c cJ0_isLatin1_aae02 1 s args uG RJ0) (hr : meth.sig.returnType = (some .boolean)) (hk : meth.locks = false) (hR : 0 ≤ R.frames ∧ 0 ≤ R.locals)
    (X : gX (dC, dI) (tC kc) (wC ad kc sv) (zC ak) A s σ H locs) (hl : lv_has ls 1 [(0, .ref (ak (2 * zi)))]) (hg : f_J0_isLatin1_aae02 zi σ = some (r, τ)) : W p l e R s m args below meth c H locs 0 0 (MQ below (gQi (dC, dI) (tC kc) (wC ad kc sv) A r τ) args s 0 0 A) (F0 m 0 ls []) := by
  have hx := S.1
  have hb := S.2.1
  have hown := S.2.2.2.1
  have hu := S.2.2.2.2
  unfold f_J0_isLatin1_aae02 at hg
  refine va_gets hx hb X.2.2.2.2.2.1.2.1 X.2.2.2.1 hown (hu _ mG_976) (fun _ h9 => h9) dJ0_isLatin1_aae02_0 ?_
  refine lv_if_eq (tgt := 17) hx hb dJ0_isLatin1_aae02_3 (by decide) (fun c3 => ?_) (fun c3 => ?_)
  · exact absurd c3 (by decide)
  · refine lv_aload_n hx hb dJ0_isLatin1_aae02_6 rfl (lv_at hl 0 rfl) ?_
    obtain ⟨hs7, hg⟩ := gs_some hg
    refine vk_getf hx hb (X.2.2.2.2.2.1.1.1 zi hs7).2.1 X.2.2.2.1 hown (hu _ mG_1531) (fun _ h9 => h9) dJ0_isLatin1_aae02_7 ?_
    refine lv_if_ne (tgt := 17) hx hb dJ0_isLatin1_aae02_10 (by decide) (fun c10 => ?_) (fun c10 => ?_)
    · exact absurd (by decide) c10
    · refine lv_iconst (v := 1) hx hb dJ0_isLatin1_aae02_13 (by decide) ?_
      refine lv_goto (tgt := 18) hx hb dJ0_isLatin1_aae02_14 (by decide) ?_
      obtain ⟨rfl, rfl⟩ := fin_some hg
      exact gr_z S hr hk X (Or.inr rfl) dJ0_isLatin1_aae02_18
end MJ0_isLatin1_aae02
set_option maxRecDepth 100000 in
theorem k2_J0_isLatin1_aae02 (l : Launch) (dC : Nat → ClassId) (dI : Nat → Nat → Nat) {ak : Nat → Nat} (ad : Nat → Nat) (kc : Nat → ClassId) (sv : Value) {σ τ : S5} {zi : Nat} {r : Int32} (hg : f_J0_isLatin1_aae02 zi σ = some (r, τ)) (sz : Nat) : Met l yJ0_isLatin1_aae02 (Cond.code yJ0_isLatin1_aae02 cJ0_isLatin1_aae02 1 (some .boolean) :: uG) { frames := 0, cells := 0, slots := 0, locals := 0 } (gPc (dC, dI) (tC kc) (wC ad kc sv) (zC ak) [.ref (ak (2 * zi))] σ sz) (gQi (dC, dI) (tC kc) (wC ad kc sv) (va_A (wC ad kc sv σ) sz) r τ) 0 0 (va_A (wC ad kc sv σ) sz) :=
  g_start (by decide) (Nat.le_of_ble_eq_true rfl) (fun p e s m below meth c ls S hr hk X hl => w_J0_isLatin1_aae02 S hr hk ⟨Nat.le_refl _, Nat.le_refl _⟩ X hl hg)
section MJ0_length_8abf5
variable {p : Program} {l : Launch} {e : Env} {R : Room} {s : State} {m : MethodId} {args : Array Value} {below : List Frame} {meth : Method} {c : Code} {dC : Nat → ClassId} {dI : Nat → Nat → Nat} {ak : Nat → Nat} {A : Nat → Prop} {ad : Nat → Nat} {kc : Nat → ClassId} {sv : Value} {r : Int32} {τ : S5}
set_option maxHeartbeats 4000000 in
set_option maxRecDepth 100000 in
theorem w_J0_length_8abf5 {σ : S5} {zi : Nat} {H : Heap} {locs : List Loc} {ls : Array Slot} (S : CallFix p m c cJ0_length_8abf5 1 s args uG RJ0) (hr : meth.sig.returnType = (some .int)) (hk : meth.locks = false) (hR : 1 ≤ R.frames ∧ 20 ≤ R.locals)
    (X : gX (dC, dI) (tC kc) (wC ad kc sv) (zC ak) A s σ H locs) (hl : lv_has ls 1 [(0, .ref (ak (2 * zi)))]) (hg : f_J0_length_8abf5 zi σ = some (r, τ)) : W p l e R s m args below meth c H locs 0 0 (MQ below (gQi (dC, dI) (tC kc) (wC ad kc sv) A r τ) args s 0 0 A) (F0 m 0 ls []) := by
  have hx := S.1
  have hb := S.2.1
  have hown := S.2.2.2.1
  have hu := S.2.2.2.2
  unfold f_J0_length_8abf5 at hg
  refine lv_aload_n hx hb dJ0_length_8abf5_0 rfl (lv_at hl 0 rfl) ?_
  obtain ⟨hs1, hg⟩ := gs_some hg
  refine vk_getf hx hb (X.2.2.2.2.2.1.1.1 zi hs1).2.2.1 X.2.2.2.1 hown (hu _ mG_1530) (fun _ h9 => h9) dJ0_length_8abf5_1 ?_
  obtain ⟨hs4, hg⟩ := gs_some hg
  refine va_tlen (v := (Int32.ofNat (sLen.getD zi 0))) hx hb (X.2.2.2.2.2.1.1.1 zi hs4).2.2.2 X.2.2.2.1 rfl dJ0_length_8abf5_4 ?_
  refine lv_aload_n hx hb dJ0_length_8abf5_5 rfl (lv_at hl 0 rfl) ?_
  obtain ⟨r6, τ6, hq6, hg⟩ := bd_some hg
  obtain ⟨hs6, hg⟩ := gs_some hg
  refine gc_Wi (As := []) (rest := [.int (Int32.ofNat (sLen.getD zi 0))]) S X (k2_J0_coder_7d493 l dC dI ad kc sv hq6 H.size) cw_J0_coder_7d493 mG_982 rfl (vk_recv (adK := fun i => ak (2 * i)) (i := zi) X.2.2.2.2.2.1.1 hs6 X.2.2.2.1) rfl hl.1 (Nat.le_of_ble_eq_true rfl) dJ0_length_8abf5_6 ⟨by omega, by omega⟩ (fun H locs X => ?_)
  refine lv_ishr hx hb dJ0_length_8abf5_9 ?_
  obtain ⟨rfl, rfl⟩ := fin_some hg
  exact gr_i S hr hk X dJ0_length_8abf5_10
end MJ0_length_8abf5
set_option maxRecDepth 100000 in
theorem k2_J0_length_8abf5 (l : Launch) (dC : Nat → ClassId) (dI : Nat → Nat → Nat) {ak : Nat → Nat} (ad : Nat → Nat) (kc : Nat → ClassId) (sv : Value) {σ τ : S5} {zi : Nat} {r : Int32} (hg : f_J0_length_8abf5 zi σ = some (r, τ)) (sz : Nat) : Met l yJ0_length_8abf5 (Cond.code yJ0_length_8abf5 cJ0_length_8abf5 1 (some .int) :: uG) { frames := 1, cells := 0, slots := 0, locals := 20 } (gPc (dC, dI) (tC kc) (wC ad kc sv) (zC ak) [.ref (ak (2 * zi))] σ sz) (gQi (dC, dI) (tC kc) (wC ad kc sv) (va_A (wC ad kc sv σ) sz) r τ) 0 0 (va_A (wC ad kc sv σ) sz) :=
  g_start (by decide) (Nat.le_of_ble_eq_true rfl) (fun p e s m below meth c ls S hr hk X hl => w_J0_length_8abf5 S hr hk ⟨Nat.le_refl _, Nat.le_refl _⟩ X hl hg)
section MJ3_checkIndex_8e157_nul
variable {p : Program} {l : Launch} {e : Env} {R : Room} {s : State} {m : MethodId} {args : Array Value} {below : List Frame} {meth : Method} {c : Code} {dC : Nat → ClassId} {dI : Nat → Nat → Nat} {ak : Nat → Nat} {A : Nat → Prop} {ad : Nat → Nat} {kc : Nat → ClassId} {sv : Value} {r : Int32} {τ : S5}
set_option maxHeartbeats 4000000 in
set_option maxRecDepth 100000 in
theorem w_J3_checkIndex_8e157_nul {σ : S5} {a0 : Int32} {a1 : Int32} {H : Heap} {locs : List Loc} {ls : Array Slot} (S : CallFix p m c cJ3_checkIndex_8e157 3 s args uG RJ3) (hr : meth.sig.returnType = (some .int)) (hk : meth.locks = false) (hR : 0 ≤ R.frames ∧ 0 ≤ R.locals)
    (X : gX (dC, dI) (tC kc) (wC ad kc sv) (zC ak) A s σ H locs) (hl : lv_has ls 3 [(0, .int a0), (1, .int a1), (2, .null)]) (hg : f_J3_checkIndex_8e157 a0 a1 σ = some (r, τ)) : W p l e R s m args below meth c H locs 0 0 (MQ below (gQi (dC, dI) (tC kc) (wC ad kc sv) A r τ) args s 0 0 A) (F0 m 0 ls []) := by
  have hx := S.1
  have hb := S.2.1
  have hown := S.2.2.2.1
  have hu := S.2.2.2.2
  unfold f_J3_checkIndex_8e157 at hg
  refine lv_iload_n hx hb dJ3_checkIndex_8e157_0 rfl (lv_at hl 0 rfl) ?_
  refine lv_if_lt (tgt := 9) hx hb dJ3_checkIndex_8e157_1 (by decide) (fun c1 => ?_) (fun c1 => ?_)
  · have hg := (if_pos c1).symm.trans hg
    cases hg
  · have hg := (if_neg c1).symm.trans hg
    refine lv_iload_n hx hb dJ3_checkIndex_8e157_4 rfl (lv_at hl 0 rfl) ?_
    refine lv_iload_n hx hb dJ3_checkIndex_8e157_5 rfl (lv_at hl 1 rfl) ?_
    refine lv_icmp_lt (tgt := 16) hx hb dJ3_checkIndex_8e157_6 (by decide) (fun c6 => ?_) (fun c6 => ?_)
    · have hg := (if_pos c6).symm.trans hg
      refine lv_iload_n hx hb dJ3_checkIndex_8e157_16 rfl (lv_at hl 0 rfl) ?_
      obtain ⟨rfl, rfl⟩ := fin_some hg
      exact gr_i S hr hk X dJ3_checkIndex_8e157_17
    · have hg := (if_neg c6).symm.trans hg
      cases hg
end MJ3_checkIndex_8e157_nul
set_option maxRecDepth 100000 in
theorem k2_J3_checkIndex_8e157_nul (l : Launch) (dC : Nat → ClassId) (dI : Nat → Nat → Nat) {ak : Nat → Nat} (ad : Nat → Nat) (kc : Nat → ClassId) (sv : Value) {σ τ : S5} {a0 : Int32} {a1 : Int32} {r : Int32} (hg : f_J3_checkIndex_8e157 a0 a1 σ = some (r, τ)) (sz : Nat) : Met l yJ3_checkIndex_8e157 (Cond.code yJ3_checkIndex_8e157 cJ3_checkIndex_8e157 3 (some .int) :: uG) { frames := 0, cells := 0, slots := 0, locals := 0 } (gPc (dC, dI) (tC kc) (wC ad kc sv) (zC ak) [.int a0, .int a1, .null] σ sz) (gQi (dC, dI) (tC kc) (wC ad kc sv) (va_A (wC ad kc sv σ) sz) r τ) 0 0 (va_A (wC ad kc sv σ) sz) :=
  g_start (by decide) (Nat.le_of_ble_eq_true rfl) (fun p e s m below meth c ls S hr hk X hl => w_J3_checkIndex_8e157_nul S hr hk ⟨Nat.le_refl _, Nat.le_refl _⟩ X hl hg)
section MJ3_checkIndex_8e157_anyr
variable {p : Program} {l : Launch} {e : Env} {R : Room} {s : State} {m : MethodId} {args : Array Value} {below : List Frame} {meth : Method} {c : Code} {dC : Nat → ClassId} {dI : Nat → Nat → Nat} {ak : Nat → Nat} {A : Nat → Prop} {ad : Nat → Nat} {kc : Nat → ClassId} {sv : Value} {r : Int32} {τ : S5} {vq : Nat}
set_option maxHeartbeats 4000000 in
set_option maxRecDepth 100000 in
theorem w_J3_checkIndex_8e157_anyr {σ : S5} {a0 : Int32} {a1 : Int32} {H : Heap} {locs : List Loc} {ls : Array Slot} (S : CallFix p m c cJ3_checkIndex_8e157 3 s args uG RJ3) (hr : meth.sig.returnType = (some .int)) (hk : meth.locks = false) (hR : 0 ≤ R.frames ∧ 0 ≤ R.locals)
    (X : gX (dC, dI) (tC kc) (wC ad kc sv) (zC ak) A s σ H locs) (hl : lv_has ls 3 [(0, .int a0), (1, .int a1), (2, .ref vq)]) (hg : f_J3_checkIndex_8e157 a0 a1 σ = some (r, τ)) : W p l e R s m args below meth c H locs 0 0 (MQ below (gQi (dC, dI) (tC kc) (wC ad kc sv) A r τ) args s 0 0 A) (F0 m 0 ls []) := by
  have hx := S.1
  have hb := S.2.1
  have hown := S.2.2.2.1
  have hu := S.2.2.2.2
  unfold f_J3_checkIndex_8e157 at hg
  refine lv_iload_n hx hb dJ3_checkIndex_8e157_0 rfl (lv_at hl 0 rfl) ?_
  refine lv_if_lt (tgt := 9) hx hb dJ3_checkIndex_8e157_1 (by decide) (fun c1 => ?_) (fun c1 => ?_)
  · have hg := (if_pos c1).symm.trans hg
    cases hg
  · have hg := (if_neg c1).symm.trans hg
    refine lv_iload_n hx hb dJ3_checkIndex_8e157_4 rfl (lv_at hl 0 rfl) ?_
    refine lv_iload_n hx hb dJ3_checkIndex_8e157_5 rfl (lv_at hl 1 rfl) ?_
    refine lv_icmp_lt (tgt := 16) hx hb dJ3_checkIndex_8e157_6 (by decide) (fun c6 => ?_) (fun c6 => ?_)
    · have hg := (if_pos c6).symm.trans hg
      refine lv_iload_n hx hb dJ3_checkIndex_8e157_16 rfl (lv_at hl 0 rfl) ?_
      obtain ⟨rfl, rfl⟩ := fin_some hg
      exact gr_i S hr hk X dJ3_checkIndex_8e157_17
    · have hg := (if_neg c6).symm.trans hg
      cases hg
end MJ3_checkIndex_8e157_anyr
set_option maxRecDepth 100000 in
theorem k2_J3_checkIndex_8e157_anyr (l : Launch) (dC : Nat → ClassId) (dI : Nat → Nat → Nat) {ak : Nat → Nat} (ad : Nat → Nat) (kc : Nat → ClassId) (sv : Value) {vq : Nat} {σ τ : S5} {a0 : Int32} {a1 : Int32} {r : Int32} (hg : f_J3_checkIndex_8e157 a0 a1 σ = some (r, τ)) (sz : Nat) : Met l yJ3_checkIndex_8e157 (Cond.code yJ3_checkIndex_8e157 cJ3_checkIndex_8e157 3 (some .int) :: uG) { frames := 0, cells := 0, slots := 0, locals := 0 } (gPc (dC, dI) (tC kc) (wC ad kc sv) (zC ak) [.int a0, .int a1, .ref vq] σ sz) (gQi (dC, dI) (tC kc) (wC ad kc sv) (va_A (wC ad kc sv σ) sz) r τ) 0 0 (va_A (wC ad kc sv σ) sz) :=
  g_start (by decide) (Nat.le_of_ble_eq_true rfl) (fun p e s m below meth c ls S hr hk X hl => w_J3_checkIndex_8e157_anyr S hr hk ⟨Nat.le_refl _, Nat.le_refl _⟩ X hl hg)
section MJ0_checkIndex_df160
variable {p : Program} {l : Launch} {e : Env} {R : Room} {s : State} {m : MethodId} {args : Array Value} {below : List Frame} {meth : Method} {c : Code} {dC : Nat → ClassId} {dI : Nat → Nat → Nat} {ak : Nat → Nat} {A : Nat → Prop} {ad : Nat → Nat} {kc : Nat → ClassId} {sv : Value} {r : Unit} {τ : S5}
set_option maxHeartbeats 4000000 in
set_option maxRecDepth 100000 in
theorem w_J0_checkIndex_df160 {σ : S5} {a0 : Int32} {a1 : Int32} {H : Heap} {locs : List Loc} {ls : Array Slot} (S : CallFix p m c cJ0_checkIndex_df160 2 s args uG RJ0) (hr : meth.sig.returnType = none) (hk : meth.locks = false) (hR : 1 ≤ R.frames ∧ 22 ≤ R.locals)
    (X : gX (dC, dI) (tC kc) (wC ad kc sv) (zC ak) A s σ H locs) (hl : lv_has ls 2 [(0, .int a0), (1, .int a1)]) (hg : f_J0_checkIndex_df160 a0 a1 σ = some (r, τ)) : W p l e R s m args below meth c H locs 0 0 (MQ below (gQv (dC, dI) (tC kc) (wC ad kc sv) A r τ) args s 0 0 A) (F0 m 0 ls []) := by
  have hx := S.1
  have hb := S.2.1
  have hown := S.2.2.2.1
  have hu := S.2.2.2.2
  unfold f_J0_checkIndex_df160 at hg
  refine lv_iload_n hx hb dJ0_checkIndex_df160_0 rfl (lv_at hl 0 rfl) ?_
  refine lv_iload_n hx hb dJ0_checkIndex_df160_1 rfl (lv_at hl 1 rfl) ?_
  rcases X.2.2.2.2.2.1.2.2.2.2.1 with hvq | ⟨vq, hvq⟩
  · refine va_gets hx hb hvq X.2.2.2.1 hown (hu _ mG_1019) (fun _ h9 => h9) dJ0_checkIndex_df160_2 ?_
    obtain ⟨r5, τ5, hq5, hg⟩ := bd_some hg
    refine gc_Ti (As := [.int a0, .int a1, .null]) (rest := []) S X (k2_J3_checkIndex_8e157_nul l dC dI ad kc sv hq5 H.size) cw_J3_checkIndex_8e157 mG_1667 rfl rfl hl.1 (Nat.le_of_ble_eq_true rfl) dJ0_checkIndex_df160_5 ⟨by omega, by omega⟩ (fun H locs X => ?_)
    refine lv_pop hx hb dJ0_checkIndex_df160_8 rfl ?_
    obtain ⟨-, rfl⟩ := fin_some hg
    exact gr_v S hr hk X dJ0_checkIndex_df160_9
  · refine va_gets hx hb hvq X.2.2.2.1 hown (hu _ mG_1019) (fun _ h9 => h9) dJ0_checkIndex_df160_2 ?_
    obtain ⟨r5, τ5, hq5, hg⟩ := bd_some hg
    refine gc_Ti (As := [.int a0, .int a1, .ref vq]) (rest := []) S X (k2_J3_checkIndex_8e157_anyr l dC dI ad kc sv hq5 H.size) cw_J3_checkIndex_8e157 mG_1667 rfl rfl hl.1 (Nat.le_of_ble_eq_true rfl) dJ0_checkIndex_df160_5 ⟨by omega, by omega⟩ (fun H locs X => ?_)
    refine lv_pop hx hb dJ0_checkIndex_df160_8 rfl ?_
    obtain ⟨-, rfl⟩ := fin_some hg
    exact gr_v S hr hk X dJ0_checkIndex_df160_9
end MJ0_checkIndex_df160
set_option maxRecDepth 100000 in
theorem k2_J0_checkIndex_df160 (l : Launch) (dC : Nat → ClassId) (dI : Nat → Nat → Nat) {ak : Nat → Nat} (ad : Nat → Nat) (kc : Nat → ClassId) (sv : Value) {σ τ : S5} {a0 : Int32} {a1 : Int32} {r : Unit} (hg : f_J0_checkIndex_df160 a0 a1 σ = some (r, τ)) (sz : Nat) : Met l yJ0_checkIndex_df160 (Cond.code yJ0_checkIndex_df160 cJ0_checkIndex_df160 2 none :: uG) { frames := 1, cells := 0, slots := 0, locals := 22 } (gPc (dC, dI) (tC kc) (wC ad kc sv) (zC ak) [.int a0, .int a1] σ sz) (gQv (dC, dI) (tC kc) (wC ad kc sv) (va_A (wC ad kc sv σ) sz) r τ) 0 0 (va_A (wC ad kc sv σ) sz) :=
  g_start (by decide) (Nat.le_of_ble_eq_true rfl) (fun p e s m below meth c ls S hr hk X hl => w_J0_checkIndex_df160 S hr hk ⟨Nat.le_refl _, Nat.le_refl _⟩ X hl hg)
section MJ1_canEncode_9a6ad
variable {p : Program} {l : Launch} {e : Env} {R : Room} {s : State} {m : MethodId} {args : Array Value} {below : List Frame} {meth : Method} {c : Code} {dC : Nat → ClassId} {dI : Nat → Nat → Nat} {ak : Nat → Nat} {A : Nat → Prop} {ad : Nat → Nat} {kc : Nat → ClassId} {sv : Value} {r : Int32} {τ : S5}
set_option maxHeartbeats 4000000 in
set_option maxRecDepth 100000 in
theorem w_J1_canEncode_9a6ad {σ : S5} {a0 : Int32} {H : Heap} {locs : List Loc} {ls : Array Slot} (S : CallFix p m c cJ1_canEncode_9a6ad 1 s args uG RJ1) (hr : meth.sig.returnType = (some .boolean)) (hk : meth.locks = false) (hR : 0 ≤ R.frames ∧ 0 ≤ R.locals)
    (X : gX (dC, dI) (tC kc) (wC ad kc sv) (zC ak) A s σ H locs) (hl : lv_has ls 1 [(0, .int a0)]) (hg : f_J1_canEncode_9a6ad a0 σ = some (r, τ)) : W p l e R s m args below meth c H locs 0 0 (MQ below (gQi (dC, dI) (tC kc) (wC ad kc sv) A r τ) args s 0 0 A) (F0 m 0 ls []) := by
  have hx := S.1
  have hb := S.2.1
  have hown := S.2.2.2.1
  have hu := S.2.2.2.2
  unfold f_J1_canEncode_9a6ad at hg
  refine lv_iload_n hx hb dJ1_canEncode_9a6ad_0 rfl (lv_at hl 0 rfl) ?_
  refine lv_if_lt (tgt := 15) hx hb dJ1_canEncode_9a6ad_1 (by decide) (fun c1 => ?_) (fun c1 => ?_)
  · have hg := (if_pos c1).symm.trans hg
    refine lv_iconst (v := 0) hx hb dJ1_canEncode_9a6ad_15 (by decide) ?_
    obtain ⟨rfl, rfl⟩ := fin_some hg
    exact gr_z S hr hk X (Or.inl rfl) dJ1_canEncode_9a6ad_16
  · have hg := (if_neg c1).symm.trans hg
    refine lv_iload_n hx hb dJ1_canEncode_9a6ad_4 rfl (lv_at hl 0 rfl) ?_
    refine lv_sipush (v := 255) hx hb dJ1_canEncode_9a6ad_5 (by decide) ?_
    refine lv_icmp_gt (tgt := 15) hx hb dJ1_canEncode_9a6ad_8 (by decide) (fun c8 => ?_) (fun c8 => ?_)
    · have hg := (if_pos c8).symm.trans hg
      refine lv_iconst (v := 0) hx hb dJ1_canEncode_9a6ad_15 (by decide) ?_
      obtain ⟨rfl, rfl⟩ := fin_some hg
      exact gr_z S hr hk X (Or.inl rfl) dJ1_canEncode_9a6ad_16
    · have hg := (if_neg c8).symm.trans hg
      refine lv_iconst (v := 1) hx hb dJ1_canEncode_9a6ad_11 (by decide) ?_
      refine lv_goto (tgt := 16) hx hb dJ1_canEncode_9a6ad_12 (by decide) ?_
      obtain ⟨rfl, rfl⟩ := fin_some hg
      exact gr_z S hr hk X (Or.inr rfl) dJ1_canEncode_9a6ad_16
end MJ1_canEncode_9a6ad
set_option maxRecDepth 100000 in
theorem k2_J1_canEncode_9a6ad (l : Launch) (dC : Nat → ClassId) (dI : Nat → Nat → Nat) {ak : Nat → Nat} (ad : Nat → Nat) (kc : Nat → ClassId) (sv : Value) {σ τ : S5} {a0 : Int32} {r : Int32} (hg : f_J1_canEncode_9a6ad a0 σ = some (r, τ)) (sz : Nat) : Met l yJ1_canEncode_9a6ad (Cond.code yJ1_canEncode_9a6ad cJ1_canEncode_9a6ad 1 (some .boolean) :: uG) { frames := 0, cells := 0, slots := 0, locals := 0 } (gPc (dC, dI) (tC kc) (wC ad kc sv) (zC ak) [.int a0] σ sz) (gQi (dC, dI) (tC kc) (wC ad kc sv) (va_A (wC ad kc sv σ) sz) r τ) 0 0 (va_A (wC ad kc sv σ) sz) :=
  g_start (by decide) (Nat.le_of_ble_eq_true rfl) (fun p e s m below meth c ls S hr hk X hl => w_J1_canEncode_9a6ad S hr hk ⟨Nat.le_refl _, Nat.le_refl _⟩ X hl hg)
section MJ1_charAt_3b067
variable {p : Program} {l : Launch} {e : Env} {R : Room} {s : State} {m : MethodId} {args : Array Value} {below : List Frame} {meth : Method} {c : Code} {dC : Nat → ClassId} {dI : Nat → Nat → Nat} {ak : Nat → Nat} {A : Nat → Prop} {ad : Nat → Nat} {kc : Nat → ClassId} {sv : Value} {r : Int32} {τ : S5}
set_option maxHeartbeats 4000000 in
set_option maxRecDepth 100000 in
theorem w_J1_charAt_3b067 {σ : S5} {zi : Nat} {a1 : Int32} {H : Heap} {locs : List Loc} {ls : Array Slot} (S : CallFix p m c cJ1_charAt_3b067 2 s args uG RJ1) (hr : meth.sig.returnType = (some .char)) (hk : meth.locks = false) (hR : 2 ≤ R.frames ∧ 43 ≤ R.locals)
    (X : gX (dC, dI) (tC kc) (wC ad kc sv) (zC ak) A s σ H locs) (hl : lv_has ls 2 [(0, .ref (ak (2 * zi + 1))), (1, .int a1)]) (hg : f_J1_charAt_3b067 zi a1 σ = some (r, τ)) : W p l e R s m args below meth c H locs 0 0 (MQ below (gQi (dC, dI) (tC kc) (wC ad kc sv) A r τ) args s 0 0 A) (F0 m 0 ls []) := by
  have hx := S.1
  have hb := S.2.1
  have hown := S.2.2.2.1
  have hu := S.2.2.2.2
  unfold f_J1_charAt_3b067 at hg
  refine lv_iload_n hx hb dJ1_charAt_3b067_0 rfl (lv_at hl 1 rfl) ?_
  refine lv_aload_n hx hb dJ1_charAt_3b067_1 rfl (lv_at hl 0 rfl) ?_
  obtain ⟨hs2, hg⟩ := gs_some hg
  refine va_tlen (v := (Int32.ofNat (sLen.getD zi 0))) hx hb (X.2.2.2.2.2.1.1.1 zi hs2).2.2.2 X.2.2.2.1 rfl dJ1_charAt_3b067_2 ?_
  obtain ⟨r3, τ3, hq3, hg⟩ := bd_some hg
  refine gc_Tv (As := [.int a1, .int (Int32.ofNat (sLen.getD zi 0))]) (rest := []) S X (k2_J0_checkIndex_df160 l dC dI ad kc sv hq3 H.size) cw_J0_checkIndex_df160 mG_1664 rfl rfl hl.1 (Nat.le_of_ble_eq_true rfl) dJ1_charAt_3b067_3 ⟨by omega, by omega⟩ (fun H locs X => ?_)
  refine lv_aload_n hx hb dJ1_charAt_3b067_6 rfl (lv_at hl 0 rfl) ?_
  refine lv_iload_n hx hb dJ1_charAt_3b067_7 rfl (lv_at hl 1 rfl) ?_
  obtain ⟨hs8, hg⟩ := gs_some hg
  obtain ⟨hi8, hg⟩ := gd_some hg
  refine va_tb (v := .int ((sByt.getD zi []).getD (a1).toNatClampNeg 0)) hx hb (X.2.2.2.2.2.1.1.1 zi hs8).2.2.2 X.2.2.2.1 hi8 rfl dJ1_charAt_3b067_8 ?_
  refine lv_sipush (v := 255) hx hb dJ1_charAt_3b067_9 (by decide) ?_
  refine lv_iand hx hb dJ1_charAt_3b067_12 ?_
  refine lv_i2c (v := ((((((sByt.getD zi []).getD (a1).toNatClampNeg 0) &&& 255)).toUInt32 % 65536).toInt32)) hx hb dJ1_charAt_3b067_13 rfl ?_
  obtain ⟨hn14, hg⟩ := gc_some hg
  obtain ⟨rfl, rfl⟩ := fin_some hg
  exact gr_c S hr hk X hn14 dJ1_charAt_3b067_14
end MJ1_charAt_3b067
set_option maxRecDepth 100000 in
theorem k2_J1_charAt_3b067 (l : Launch) (dC : Nat → ClassId) (dI : Nat → Nat → Nat) {ak : Nat → Nat} (ad : Nat → Nat) (kc : Nat → ClassId) (sv : Value) {σ τ : S5} {zi : Nat} {a1 : Int32} {r : Int32} (hg : f_J1_charAt_3b067 zi a1 σ = some (r, τ)) (sz : Nat) : Met l yJ1_charAt_3b067 (Cond.code yJ1_charAt_3b067 cJ1_charAt_3b067 2 (some .char) :: uG) { frames := 2, cells := 0, slots := 0, locals := 43 } (gPc (dC, dI) (tC kc) (wC ad kc sv) (zC ak) [.ref (ak (2 * zi + 1)), .int a1] σ sz) (gQi (dC, dI) (tC kc) (wC ad kc sv) (va_A (wC ad kc sv σ) sz) r τ) 0 0 (va_A (wC ad kc sv σ) sz) :=
  g_start (by decide) (Nat.le_of_ble_eq_true rfl) (fun p e s m below meth c ls S hr hk X hl => w_J1_charAt_3b067 S hr hk ⟨Nat.le_refl _, Nat.le_refl _⟩ X hl hg)
section MJ1_indexOfChar_4cfef
variable {p : Program} {l : Launch} {e : Env} {R : Room} {s : State} {m : MethodId} {args : Array Value} {below : List Frame} {meth : Method} {c : Code} {dC : Nat → ClassId} {dI : Nat → Nat → Nat} {ak : Nat → Nat} {A : Nat → Prop} {ad : Nat → Nat} {kc : Nat → ClassId} {sv : Value} {r : Int32} {τ : S5}
set_option maxHeartbeats 4000000 in
set_option maxRecDepth 100000 in
theorem w_J1_indexOfChar_4cfef_B7 {σ : S5} {rec7 : Nat → Int32 → Int32 → Int32 → S5 → Option (Int32 × S5)} {zi : Nat} {v3 : Int32} {v4 : Int32} {v5 : Int32} {H : Heap} {locs : List Loc} {ls : Array Slot} (S : CallFix p m c cJ1_indexOfChar_4cfef 6 s args uG RJ1) (hr : meth.sig.returnType = (some .int)) (hk : meth.locks = false) (hR : 0 ≤ R.frames ∧ 0 ≤ R.locals)
    (hrec7 : ∀ (zi : Nat) (v3 : Int32) (v4 : Int32) (v5 : Int32) (σ : S5) (H : Heap) (locs : List Loc) (ls : Array Slot), gX (dC, dI) (tC kc) (wC ad kc sv) (zC ak) A s σ H locs → lv_has ls 6 [(0, .ref (ak (2 * zi + 1))), (3, .int v3), (4, .int v4), (5, .int v5)] → rec7 zi v3 v4 v5 σ = some (r, τ) → W p l e R s m args below meth c H locs 0 0 (MQ below (gQi (dC, dI) (tC kc) (wC ad kc sv) A r τ) args s 0 0 A) (F0 m 7 ls []))
    (X : gX (dC, dI) (tC kc) (wC ad kc sv) (zC ak) A s σ H locs) (hl : lv_has ls 6 [(0, .ref (ak (2 * zi + 1))), (3, .int v3), (4, .int v4), (5, .int v5)]) (hg : f_J1_indexOfChar_4cfef_B7 rec7 zi v3 v4 v5 σ = some (r, τ)) : W p l e R s m args below meth c H locs 0 0 (MQ below (gQi (dC, dI) (tC kc) (wC ad kc sv) A r τ) args s 0 0 A) (F0 m 7 ls []) := by
  have hx := S.1
  have hb := S.2.1
  have hown := S.2.2.2.1
  have hu := S.2.2.2.2
  unfold f_J1_indexOfChar_4cfef_B7 at hg
  refine lv_iload hx hb dJ1_indexOfChar_4cfef_7 (lv_at hl 3 rfl) ?_
  refine lv_iload_n hx hb dJ1_indexOfChar_4cfef_9 rfl (lv_at hl 1 rfl) ?_
  refine lv_icmp_ge (tgt := 31) hx hb dJ1_indexOfChar_4cfef_10 (by decide) (fun c10 => ?_) (fun c10 => ?_)
  · have hg := (if_pos c10).symm.trans hg
    refine lv_iconst (v := (-1)) hx hb dJ1_indexOfChar_4cfef_31 (by decide) ?_
    obtain ⟨rfl, rfl⟩ := fin_some hg
    exact gr_i S hr hk X dJ1_indexOfChar_4cfef_32
  · have hg := (if_neg c10).symm.trans hg
    refine lv_aload_n hx hb dJ1_indexOfChar_4cfef_13 rfl (lv_at hl 0 rfl) ?_
    refine lv_iload hx hb dJ1_indexOfChar_4cfef_14 (lv_at hl 3 rfl) ?_
    obtain ⟨hs16, hg⟩ := gs_some hg
    obtain ⟨hi16, hg⟩ := gd_some hg
    refine va_tb (v := .int ((sByt.getD zi []).getD (v5).toNatClampNeg 0)) hx hb (X.2.2.2.2.2.1.1.1 zi hs16).2.2.2 X.2.2.2.1 hi16 rfl dJ1_indexOfChar_4cfef_16 ?_
    refine lv_iload hx hb dJ1_indexOfChar_4cfef_17 (lv_at hl 2 rfl) ?_
    refine lv_icmp_ne (tgt := 25) hx hb dJ1_indexOfChar_4cfef_19 (by decide) (fun c19 => ?_) (fun c19 => ?_)
    · have hg := (if_neg c19).symm.trans hg
      refine lv_iinc (v := (v5 + 1)) (lv' := [(5, .int (v5 + 1)), (0, .ref (ak (2 * zi + 1))), (3, .int v3), (4, .int v4)]) hx hb dJ1_indexOfChar_4cfef_25 hl (k := 3) rfl (by rfl) (by decide) rfl (fun ls hl => ?_)
      refine lv_goto (tgt := 7) hx hb dJ1_indexOfChar_4cfef_28 (by decide) ?_
      exact hrec7 _ _ _ _ _ _ _ _ X (lv_sub hl [1, 2, 3, 0] rfl) hg
    · have hg := (if_pos c19).symm.trans hg
      refine lv_iload hx hb dJ1_indexOfChar_4cfef_22 (lv_at hl 3 rfl) ?_
      obtain ⟨rfl, rfl⟩ := fin_some hg
      exact gr_i S hr hk X dJ1_indexOfChar_4cfef_24
set_option maxHeartbeats 4000000 in
set_option maxRecDepth 100000 in
theorem w_J1_indexOfChar_4cfef_L7 (S : CallFix p m c cJ1_indexOfChar_4cfef 6 s args uG RJ1) (hr : meth.sig.returnType = (some .int)) (hk : meth.locks = false) (hR : 0 ≤ R.frames ∧ 0 ≤ R.locals) : ∀ (n : Nat) (zi : Nat) (v3 : Int32) (v4 : Int32) (v5 : Int32) (σ : S5) (H : Heap) (locs : List Loc) (ls : Array Slot), gX (dC, dI) (tC kc) (wC ad kc sv) (zC ak) A s σ H locs → lv_has ls 6 [(0, .ref (ak (2 * zi + 1))), (3, .int v3), (4, .int v4), (5, .int v5)] → f_J1_indexOfChar_4cfef_L7  n zi v3 v4 v5 σ = some (r, τ) → W p l e R s m args below meth c H locs 0 0 (MQ below (gQi (dC, dI) (tC kc) (wC ad kc sv) A r τ) args s 0 0 A) (F0 m 7 ls []) := by
  intro n
  induction n with
  | zero => intro zi v3 v4 v5 σ H locs ls X hl hg; cases hg
  | succ n ih => intro zi v3 v4 v5 σ H locs ls X hl hg; exact w_J1_indexOfChar_4cfef_B7 S hr hk hR ih X hl hg
set_option maxHeartbeats 4000000 in
set_option maxRecDepth 100000 in
theorem w_J1_indexOfChar_4cfef {σ : S5} {zi : Nat} {a1 : Int32} {a2 : Int32} {a3 : Int32} {H : Heap} {locs : List Loc} {ls : Array Slot} (S : CallFix p m c cJ1_indexOfChar_4cfef 6 s args uG RJ1) (hr : meth.sig.returnType = (some .int)) (hk : meth.locks = false) (hR : 0 ≤ R.frames ∧ 0 ≤ R.locals)
    (X : gX (dC, dI) (tC kc) (wC ad kc sv) (zC ak) A s σ H locs) (hl : lv_has ls 6 [(0, .ref (ak (2 * zi + 1))), (1, .int a1), (2, .int a2), (3, .int a3)]) (hg : f_J1_indexOfChar_4cfef zi a1 a2 a3 σ = some (r, τ)) : W p l e R s m args below meth c H locs 0 0 (MQ below (gQi (dC, dI) (tC kc) (wC ad kc sv) A r τ) args s 0 0 A) (F0 m 0 ls []) := by
  have hx := S.1
  have hb := S.2.1
  have hown := S.2.2.2.1
  have hu := S.2.2.2.2
  unfold f_J1_indexOfChar_4cfef at hg
  refine lv_iload_n hx hb dJ1_indexOfChar_4cfef_0 rfl (lv_at hl 1 rfl) ?_
  refine lv_i2b (v := ((a1).toInt8.toInt32)) hx hb dJ1_indexOfChar_4cfef_1 rfl ?_
  refine lv_istore (lv' := [(4, .int ((a1).toInt8.toInt32)), (0, .ref (ak (2 * zi + 1))), (1, .int a1), (2, .int a2), (3, .int a3)]) hx hb dJ1_indexOfChar_4cfef_2 hl (by decide) rfl (fun ls hl => ?_)
  refine lv_iload_n hx hb dJ1_indexOfChar_4cfef_4 rfl (lv_at hl 3 rfl) ?_
  refine lv_istore (lv' := [(5, .int a2), (4, .int ((a1).toInt8.toInt32)), (0, .ref (ak (2 * zi + 1))), (1, .int a1), (2, .int a2), (3, .int a3)]) hx hb dJ1_indexOfChar_4cfef_5 hl (by decide) rfl (fun ls hl => ?_)
  exact w_J1_indexOfChar_4cfef_L7 S hr hk hR _ _ _ _ _ _ _ _ _ X (lv_sub hl [2, 5, 1, 0] rfl) hg
end MJ1_indexOfChar_4cfef
set_option maxRecDepth 100000 in
theorem k2_J1_indexOfChar_4cfef (l : Launch) (dC : Nat → ClassId) (dI : Nat → Nat → Nat) {ak : Nat → Nat} (ad : Nat → Nat) (kc : Nat → ClassId) (sv : Value) {σ τ : S5} {zi : Nat} {a1 : Int32} {a2 : Int32} {a3 : Int32} {r : Int32} (hg : f_J1_indexOfChar_4cfef zi a1 a2 a3 σ = some (r, τ)) (sz : Nat) : Met l yJ1_indexOfChar_4cfef (Cond.code yJ1_indexOfChar_4cfef cJ1_indexOfChar_4cfef 6 (some .int) :: uG) { frames := 0, cells := 0, slots := 0, locals := 0 } (gPc (dC, dI) (tC kc) (wC ad kc sv) (zC ak) [.ref (ak (2 * zi + 1)), .int a1, .int a2, .int a3] σ sz) (gQi (dC, dI) (tC kc) (wC ad kc sv) (va_A (wC ad kc sv σ) sz) r τ) 0 0 (va_A (wC ad kc sv σ) sz) :=
  g_start (by decide) (Nat.le_of_ble_eq_true rfl) (fun p e s m below meth c ls S hr hk X hl => w_J1_indexOfChar_4cfef S hr hk ⟨Nat.le_refl _, Nat.le_refl _⟩ X hl hg)
section MJ1_indexOf_4cfef
variable {p : Program} {l : Launch} {e : Env} {R : Room} {s : State} {m : MethodId} {args : Array Value} {below : List Frame} {meth : Method} {c : Code} {dC : Nat → ClassId} {dI : Nat → Nat → Nat} {ak : Nat → Nat} {A : Nat → Prop} {ad : Nat → Nat} {kc : Nat → ClassId} {sv : Value} {r : Int32} {τ : S5}
set_option maxHeartbeats 4000000 in
set_option maxRecDepth 100000 in
theorem w_J1_indexOf_4cfef {σ : S5} {zi : Nat} {a1 : Int32} {a2 : Int32} {a3 : Int32} {H : Heap} {locs : List Loc} {ls : Array Slot} (S : CallFix p m c cJ1_indexOf_4cfef 4 s args uG RJ1) (hr : meth.sig.returnType = (some .int)) (hk : meth.locks = false) (hR : 1 ≤ R.frames ∧ 25 ≤ R.locals)
    (X : gX (dC, dI) (tC kc) (wC ad kc sv) (zC ak) A s σ H locs) (hl : lv_has ls 4 [(0, .ref (ak (2 * zi + 1))), (1, .int a1), (2, .int a2), (3, .int a3)]) (hg : f_J1_indexOf_4cfef zi a1 a2 a3 σ = some (r, τ)) : W p l e R s m args below meth c H locs 0 0 (MQ below (gQi (dC, dI) (tC kc) (wC ad kc sv) A r τ) args s 0 0 A) (F0 m 0 ls []) := by
  have hx := S.1
  have hb := S.2.1
  have hown := S.2.2.2.1
  have hu := S.2.2.2.2
  unfold f_J1_indexOf_4cfef at hg
  refine lv_iload_n hx hb dJ1_indexOf_4cfef_0 rfl (lv_at hl 1 rfl) ?_
  obtain ⟨r1, τ1, hq1, hg⟩ := bd_some hg
  refine gc_Si (As := [.int a1]) (rest := []) S X (k2_J1_canEncode_9a6ad l dC dI ad kc sv hq1 H.size) cw_J1_canEncode_9a6ad mG_989 rfl rfl hl.1 (Nat.le_of_ble_eq_true rfl) dJ1_indexOf_4cfef_1 ⟨by omega, by omega⟩ (fun H locs X => ?_)
  refine lv_if_ne (tgt := 9) hx hb dJ1_indexOf_4cfef_4 (by decide) (fun c4 => ?_) (fun c4 => ?_)
  · have hg := (if_neg c4).symm.trans hg
    refine lv_iload_n hx hb dJ1_indexOf_4cfef_9 rfl (lv_at hl 2 rfl) ?_
    refine lv_iconst (v := 0) hx hb dJ1_indexOf_4cfef_10 (by decide) ?_
    refine va_mmax (R := R) (rest := []) (x := a2) (y := 0) hx hb (S.2.2.1.trans hl.1.symm) hown (hu _ mG_992) (hu _ mG_993) (hu _ mG_235) (hu _ mG_994) (by omega) (show 0 + 13 ≤ R.locals by omega) (Nat.zero_le _) (Nat.zero_le _) dJ1_indexOf_4cfef_11 ?_
    refine lv_istore_n (lv' := [(2, .int (if a2 < 0 then 0 else a2)), (0, .ref (ak (2 * zi + 1))), (1, .int a1), (3, .int a3)]) hx hb dJ1_indexOf_4cfef_14 rfl hl (by decide) rfl (fun ls hl => ?_)
    refine lv_iload_n hx hb dJ1_indexOf_4cfef_15 rfl (lv_at hl 3 rfl) ?_
    refine lv_aload_n hx hb dJ1_indexOf_4cfef_16 rfl (lv_at hl 1 rfl) ?_
    obtain ⟨hs17, hg⟩ := gs_some hg
    refine va_tlen (v := (Int32.ofNat (sLen.getD zi 0))) hx hb (X.2.2.2.2.2.1.1.1 zi hs17).2.2.2 X.2.2.2.1 rfl dJ1_indexOf_4cfef_17 ?_
    refine va_mmin (R := R) (rest := []) (x := a3) (y := (Int32.ofNat (sLen.getD zi 0))) hx hb (S.2.2.1.trans hl.1.symm) hown (hu _ mG_995) (hu _ mG_996) (hu _ mG_235) (hu _ mG_997) (by omega) (show 0 + 13 ≤ R.locals by omega) (Nat.zero_le _) (Nat.zero_le _) dJ1_indexOf_4cfef_18 ?_
    refine lv_istore_n (lv' := [(3, .int (if (Int32.ofNat (sLen.getD zi 0)) < a3 then (Int32.ofNat (sLen.getD zi 0)) else a3)), (2, .int (if a2 < 0 then 0 else a2)), (0, .ref (ak (2 * zi + 1))), (1, .int a1)]) hx hb dJ1_indexOf_4cfef_21 rfl hl (by decide) rfl (fun ls hl => ?_)
    refine lv_iload_n hx hb dJ1_indexOf_4cfef_22 rfl (lv_at hl 1 rfl) ?_
    refine lv_iload_n hx hb dJ1_indexOf_4cfef_23 rfl (lv_at hl 0 rfl) ?_
    refine lv_icmp_lt (tgt := 29) hx hb dJ1_indexOf_4cfef_24 (by decide) (fun c24 => ?_) (fun c24 => ?_)
    · have hg := (if_pos c24).symm.trans hg
      refine lv_aload_n hx hb dJ1_indexOf_4cfef_29 rfl (lv_at hl 2 rfl) ?_
      refine lv_iload_n hx hb dJ1_indexOf_4cfef_30 rfl (lv_at hl 3 rfl) ?_
      refine lv_iload_n hx hb dJ1_indexOf_4cfef_31 rfl (lv_at hl 1 rfl) ?_
      refine lv_iload_n hx hb dJ1_indexOf_4cfef_32 rfl (lv_at hl 0 rfl) ?_
      obtain ⟨r33, τ33, hq33, hg⟩ := bd_some hg
      refine gc_Si (As := [.ref (ak (2 * zi + 1)), .int a1, .int (if a2 < 0 then 0 else a2), .int (if (Int32.ofNat (sLen.getD zi 0)) < a3 then (Int32.ofNat (sLen.getD zi 0)) else a3)]) (rest := []) S X (k2_J1_indexOfChar_4cfef l dC dI ad kc sv hq33 H.size) cw_J1_indexOfChar_4cfef mG_998 rfl rfl hl.1 (Nat.le_of_ble_eq_true rfl) dJ1_indexOf_4cfef_33 ⟨by omega, by omega⟩ (fun H locs X => ?_)
      obtain ⟨rfl, rfl⟩ := fin_some hg
      exact gr_i S hr hk X dJ1_indexOf_4cfef_36
    · have hg := (if_neg c24).symm.trans hg
      refine lv_iconst (v := (-1)) hx hb dJ1_indexOf_4cfef_27 (by decide) ?_
      obtain ⟨rfl, rfl⟩ := fin_some hg
      exact gr_i S hr hk X dJ1_indexOf_4cfef_28
  · have hg := (if_pos c4).symm.trans hg
    refine lv_iconst (v := (-1)) hx hb dJ1_indexOf_4cfef_7 (by decide) ?_
    obtain ⟨rfl, rfl⟩ := fin_some hg
    exact gr_i S hr hk X dJ1_indexOf_4cfef_8
end MJ1_indexOf_4cfef
set_option maxRecDepth 100000 in
theorem k2_J1_indexOf_4cfef (l : Launch) (dC : Nat → ClassId) (dI : Nat → Nat → Nat) {ak : Nat → Nat} (ad : Nat → Nat) (kc : Nat → ClassId) (sv : Value) {σ τ : S5} {zi : Nat} {a1 : Int32} {a2 : Int32} {a3 : Int32} {r : Int32} (hg : f_J1_indexOf_4cfef zi a1 a2 a3 σ = some (r, τ)) (sz : Nat) : Met l yJ1_indexOf_4cfef (Cond.code yJ1_indexOf_4cfef cJ1_indexOf_4cfef 4 (some .int) :: uG) { frames := 1, cells := 0, slots := 0, locals := 25 } (gPc (dC, dI) (tC kc) (wC ad kc sv) (zC ak) [.ref (ak (2 * zi + 1)), .int a1, .int a2, .int a3] σ sz) (gQi (dC, dI) (tC kc) (wC ad kc sv) (va_A (wC ad kc sv σ) sz) r τ) 0 0 (va_A (wC ad kc sv σ) sz) :=
  g_start (by decide) (Nat.le_of_ble_eq_true rfl) (fun p e s m below meth c ls S hr hk X hl => w_J1_indexOf_4cfef S hr hk ⟨Nat.le_refl _, Nat.le_refl _⟩ X hl hg)
section MJ0_charAt_5068e
variable {p : Program} {l : Launch} {e : Env} {R : Room} {s : State} {m : MethodId} {args : Array Value} {below : List Frame} {meth : Method} {c : Code} {dC : Nat → ClassId} {dI : Nat → Nat → Nat} {ak : Nat → Nat} {A : Nat → Prop} {ad : Nat → Nat} {kc : Nat → ClassId} {sv : Value} {r : Int32} {τ : S5}
set_option maxHeartbeats 4000000 in
set_option maxRecDepth 100000 in
theorem w_J0_charAt_5068e {σ : S5} {zi : Nat} {a1 : Int32} {H : Heap} {locs : List Loc} {ls : Array Slot} (S : CallFix p m c cJ0_charAt_5068e 2 s args uG RJ0) (hr : meth.sig.returnType = (some .char)) (hk : meth.locks = false) (hR : 3 ≤ R.frames ∧ 64 ≤ R.locals)
    (X : gX (dC, dI) (tC kc) (wC ad kc sv) (zC ak) A s σ H locs) (hl : lv_has ls 2 [(0, .ref (ak (2 * zi))), (1, .int a1)]) (hg : f_J0_charAt_5068e zi a1 σ = some (r, τ)) : W p l e R s m args below meth c H locs 0 0 (MQ below (gQi (dC, dI) (tC kc) (wC ad kc sv) A r τ) args s 0 0 A) (F0 m 0 ls []) := by
  have hx := S.1
  have hb := S.2.1
  have hown := S.2.2.2.1
  have hu := S.2.2.2.2
  unfold f_J0_charAt_5068e at hg
  refine lv_aload_n hx hb dJ0_charAt_5068e_0 rfl (lv_at hl 0 rfl) ?_
  obtain ⟨r1, τ1, hq1, hg⟩ := bd_some hg
  obtain ⟨hs1, hg⟩ := gs_some hg
  refine gc_Wi (As := []) (rest := []) S X (k2_J0_isLatin1_aae02 l dC dI ad kc sv hq1 H.size) cw_J0_isLatin1_aae02 mG_972 rfl (vk_recv (adK := fun i => ak (2 * i)) (i := zi) X.2.2.2.2.2.1.1 hs1 X.2.2.2.1) rfl hl.1 (Nat.le_of_ble_eq_true rfl) dJ0_charAt_5068e_1 ⟨by omega, by omega⟩ (fun H locs X => ?_)
  refine lv_if_eq (tgt := 16) hx hb dJ0_charAt_5068e_4 (by decide) (fun c4 => ?_) (fun c4 => ?_)
  · have hg := (if_pos c4).symm.trans hg
    cases hg
  · have hg := (if_neg c4).symm.trans hg
    refine lv_aload_n hx hb dJ0_charAt_5068e_7 rfl (lv_at hl 0 rfl) ?_
    obtain ⟨hs8, hg⟩ := gs_some hg
    refine vk_getf hx hb (X.2.2.2.2.2.1.1.1 zi hs8).2.2.1 X.2.2.2.1 hown (hu _ mG_1530) (fun _ h9 => h9) dJ0_charAt_5068e_8 ?_
    refine lv_iload_n hx hb dJ0_charAt_5068e_11 rfl (lv_at hl 1 rfl) ?_
    obtain ⟨r12, τ12, hq12, hg⟩ := bd_some hg
    refine gc_Ti (As := [.ref (ak (2 * zi + 1)), .int a1]) (rest := []) S X (k2_J1_charAt_3b067 l dC dI ad kc sv hq12 H.size) cw_J1_charAt_3b067 mG_1661 rfl rfl hl.1 (Nat.le_of_ble_eq_true rfl) dJ0_charAt_5068e_12 ⟨by omega, by omega⟩ (fun H locs X => ?_)
    obtain ⟨hn15, hg⟩ := gc_some hg
    obtain ⟨rfl, rfl⟩ := fin_some hg
    exact gr_c S hr hk X hn15 dJ0_charAt_5068e_15
end MJ0_charAt_5068e
set_option maxRecDepth 100000 in
theorem k2_J0_charAt_5068e (l : Launch) (dC : Nat → ClassId) (dI : Nat → Nat → Nat) {ak : Nat → Nat} (ad : Nat → Nat) (kc : Nat → ClassId) (sv : Value) {σ τ : S5} {zi : Nat} {a1 : Int32} {r : Int32} (hg : f_J0_charAt_5068e zi a1 σ = some (r, τ)) (sz : Nat) : Met l yJ0_charAt_5068e (Cond.code yJ0_charAt_5068e cJ0_charAt_5068e 2 (some .char) :: uG) { frames := 3, cells := 0, slots := 0, locals := 64 } (gPc (dC, dI) (tC kc) (wC ad kc sv) (zC ak) [.ref (ak (2 * zi)), .int a1] σ sz) (gQi (dC, dI) (tC kc) (wC ad kc sv) (va_A (wC ad kc sv σ) sz) r τ) 0 0 (va_A (wC ad kc sv σ) sz) :=
  g_start (by decide) (Nat.le_of_ble_eq_true rfl) (fun p e s m below meth c ls S hr hk X hl => w_J0_charAt_5068e S hr hk ⟨Nat.le_refl _, Nat.le_refl _⟩ X hl hg)
section MJ0_indexOf_7cf53
variable {p : Program} {l : Launch} {e : Env} {R : Room} {s : State} {m : MethodId} {args : Array Value} {below : List Frame} {meth : Method} {c : Code} {dC : Nat → ClassId} {dI : Nat → Nat → Nat} {ak : Nat → Nat} {A : Nat → Prop} {ad : Nat → Nat} {kc : Nat → ClassId} {sv : Value} {r : Int32} {τ : S5}
set_option maxHeartbeats 4000000 in
set_option maxRecDepth 100000 in
theorem w_J0_indexOf_7cf53 {σ : S5} {zi : Nat} {a1 : Int32} {a2 : Int32} {H : Heap} {locs : List Loc} {ls : Array Slot} (S : CallFix p m c cJ0_indexOf_7cf53 3 s args uG RJ0) (hr : meth.sig.returnType = (some .int)) (hk : meth.locks = false) (hR : 2 ≤ R.frames ∧ 48 ≤ R.locals)
    (X : gX (dC, dI) (tC kc) (wC ad kc sv) (zC ak) A s σ H locs) (hl : lv_has ls 3 [(0, .ref (ak (2 * zi))), (1, .int a1), (2, .int a2)]) (hg : f_J0_indexOf_7cf53 zi a1 a2 σ = some (r, τ)) : W p l e R s m args below meth c H locs 0 0 (MQ below (gQi (dC, dI) (tC kc) (wC ad kc sv) A r τ) args s 0 0 A) (F0 m 0 ls []) := by
  have hx := S.1
  have hb := S.2.1
  have hown := S.2.2.2.1
  have hu := S.2.2.2.2
  unfold f_J0_indexOf_7cf53 at hg
  refine lv_aload_n hx hb dJ0_indexOf_7cf53_0 rfl (lv_at hl 0 rfl) ?_
  obtain ⟨r1, τ1, hq1, hg⟩ := bd_some hg
  obtain ⟨hs1, hg⟩ := gs_some hg
  refine gc_Wi (As := []) (rest := []) S X (k2_J0_isLatin1_aae02 l dC dI ad kc sv hq1 H.size) cw_J0_isLatin1_aae02 mG_972 rfl (vk_recv (adK := fun i => ak (2 * i)) (i := zi) X.2.2.2.2.2.1.1 hs1 X.2.2.2.1) rfl hl.1 (Nat.le_of_ble_eq_true rfl) dJ0_indexOf_7cf53_1 ⟨by omega, by omega⟩ (fun H locs X => ?_)
  refine lv_if_eq (tgt := 23) hx hb dJ0_indexOf_7cf53_4 (by decide) (fun c4 => ?_) (fun c4 => ?_)
  · have hg := (if_pos c4).symm.trans hg
    cases hg
  · have hg := (if_neg c4).symm.trans hg
    refine lv_aload_n hx hb dJ0_indexOf_7cf53_7 rfl (lv_at hl 0 rfl) ?_
    obtain ⟨hs8, hg⟩ := gs_some hg
    refine vk_getf hx hb (X.2.2.2.2.2.1.1.1 zi hs8).2.2.1 X.2.2.2.1 hown (hu _ mG_1530) (fun _ h9 => h9) dJ0_indexOf_7cf53_8 ?_
    refine lv_iload_n hx hb dJ0_indexOf_7cf53_11 rfl (lv_at hl 1 rfl) ?_
    refine lv_iload_n hx hb dJ0_indexOf_7cf53_12 rfl (lv_at hl 2 rfl) ?_
    refine lv_aload_n hx hb dJ0_indexOf_7cf53_13 rfl (lv_at hl 0 rfl) ?_
    obtain ⟨r14, τ14, hq14, hg⟩ := bd_some hg
    obtain ⟨hs14, hg⟩ := gs_some hg
    refine gc_Wi (As := []) (rest := [.int a2, .int a1, .ref (ak (2 * zi + 1))]) S X (k2_J0_length_8abf5 l dC dI ad kc sv hq14 H.size) cw_J0_length_8abf5 mG_978 rfl (vk_recv (adK := fun i => ak (2 * i)) (i := zi) X.2.2.2.2.2.1.1 hs14 X.2.2.2.1) rfl hl.1 (Nat.le_of_ble_eq_true rfl) dJ0_indexOf_7cf53_14 ⟨by omega, by omega⟩ (fun H locs X => ?_)
    obtain ⟨r17, τ17, hq17, hg⟩ := bd_some hg
    refine gc_Ti (As := [.ref (ak (2 * zi + 1)), .int a1, .int a2, .int r14]) (rest := []) S X (k2_J1_indexOf_4cfef l dC dI ad kc sv hq17 H.size) cw_J1_indexOf_4cfef mG_986 rfl rfl hl.1 (Nat.le_of_ble_eq_true rfl) dJ0_indexOf_7cf53_17 ⟨by omega, by omega⟩ (fun H locs X => ?_)
    refine lv_goto (tgt := 36) hx hb dJ0_indexOf_7cf53_20 (by decide) ?_
    obtain ⟨rfl, rfl⟩ := fin_some hg
    exact gr_i S hr hk X dJ0_indexOf_7cf53_36
end MJ0_indexOf_7cf53
set_option maxRecDepth 100000 in
theorem k2_J0_indexOf_7cf53 (l : Launch) (dC : Nat → ClassId) (dI : Nat → Nat → Nat) {ak : Nat → Nat} (ad : Nat → Nat) (kc : Nat → ClassId) (sv : Value) {σ τ : S5} {zi : Nat} {a1 : Int32} {a2 : Int32} {r : Int32} (hg : f_J0_indexOf_7cf53 zi a1 a2 σ = some (r, τ)) (sz : Nat) : Met l yJ0_indexOf_7cf53 (Cond.code yJ0_indexOf_7cf53 cJ0_indexOf_7cf53 3 (some .int) :: uG) { frames := 2, cells := 0, slots := 0, locals := 48 } (gPc (dC, dI) (tC kc) (wC ad kc sv) (zC ak) [.ref (ak (2 * zi)), .int a1, .int a2] σ sz) (gQi (dC, dI) (tC kc) (wC ad kc sv) (va_A (wC ad kc sv σ) sz) r τ) 0 0 (va_A (wC ad kc sv σ) sz) :=
  g_start (by decide) (Nat.le_of_ble_eq_true rfl) (fun p e s m below meth c ls S hr hk X hl => w_J0_indexOf_7cf53 S hr hk ⟨Nat.le_refl _, Nat.le_refl _⟩ X hl hg)
section MJ0_indexOf_0f7a4
variable {p : Program} {l : Launch} {e : Env} {R : Room} {s : State} {m : MethodId} {args : Array Value} {below : List Frame} {meth : Method} {c : Code} {dC : Nat → ClassId} {dI : Nat → Nat → Nat} {ak : Nat → Nat} {A : Nat → Prop} {ad : Nat → Nat} {kc : Nat → ClassId} {sv : Value} {r : Int32} {τ : S5}
set_option maxHeartbeats 4000000 in
set_option maxRecDepth 100000 in
theorem w_J0_indexOf_0f7a4 {σ : S5} {zi : Nat} {a1 : Int32} {H : Heap} {locs : List Loc} {ls : Array Slot} (S : CallFix p m c cJ0_indexOf_0f7a4 2 s args uG RJ0) (hr : meth.sig.returnType = (some .int)) (hk : meth.locks = false) (hR : 3 ≤ R.frames ∧ 70 ≤ R.locals)
    (X : gX (dC, dI) (tC kc) (wC ad kc sv) (zC ak) A s σ H locs) (hl : lv_has ls 2 [(0, .ref (ak (2 * zi))), (1, .int a1)]) (hg : f_J0_indexOf_0f7a4 zi a1 σ = some (r, τ)) : W p l e R s m args below meth c H locs 0 0 (MQ below (gQi (dC, dI) (tC kc) (wC ad kc sv) A r τ) args s 0 0 A) (F0 m 0 ls []) := by
  have hx := S.1
  have hb := S.2.1
  have hown := S.2.2.2.1
  have hu := S.2.2.2.2
  unfold f_J0_indexOf_0f7a4 at hg
  refine lv_aload_n hx hb dJ0_indexOf_0f7a4_0 rfl (lv_at hl 0 rfl) ?_
  refine lv_iload_n hx hb dJ0_indexOf_0f7a4_1 rfl (lv_at hl 1 rfl) ?_
  refine lv_iconst (v := 0) hx hb dJ0_indexOf_0f7a4_2 (by decide) ?_
  obtain ⟨r3, τ3, hq3, hg⟩ := bd_some hg
  obtain ⟨hs3, hg⟩ := gs_some hg
  refine gc_Wi (As := [.int a1, .int 0]) (rest := []) S X (k2_J0_indexOf_7cf53 l dC dI ad kc sv hq3 H.size) cw_J0_indexOf_7cf53 mG_968 rfl (vk_recv (adK := fun i => ak (2 * i)) (i := zi) X.2.2.2.2.2.1.1 hs3 X.2.2.2.1) rfl hl.1 (Nat.le_of_ble_eq_true rfl) dJ0_indexOf_0f7a4_3 ⟨by omega, by omega⟩ (fun H locs X => ?_)
  obtain ⟨rfl, rfl⟩ := fin_some hg
  exact gr_i S hr hk X dJ0_indexOf_0f7a4_6
end MJ0_indexOf_0f7a4
set_option maxRecDepth 100000 in
theorem k2_J0_indexOf_0f7a4 (l : Launch) (dC : Nat → ClassId) (dI : Nat → Nat → Nat) {ak : Nat → Nat} (ad : Nat → Nat) (kc : Nat → ClassId) (sv : Value) {σ τ : S5} {zi : Nat} {a1 : Int32} {r : Int32} (hg : f_J0_indexOf_0f7a4 zi a1 σ = some (r, τ)) (sz : Nat) : Met l yJ0_indexOf_0f7a4 (Cond.code yJ0_indexOf_0f7a4 cJ0_indexOf_0f7a4 2 (some .int) :: uG) { frames := 3, cells := 0, slots := 0, locals := 70 } (gPc (dC, dI) (tC kc) (wC ad kc sv) (zC ak) [.ref (ak (2 * zi)), .int a1] σ sz) (gQi (dC, dI) (tC kc) (wC ad kc sv) (va_A (wC ad kc sv σ) sz) r τ) 0 0 (va_A (wC ad kc sv σ) sz) :=
  g_start (by decide) (Nat.le_of_ble_eq_true rfl) (fun p e s m below meth c ls S hr hk X hl => w_J0_indexOf_0f7a4 S hr hk ⟨Nat.le_refl _, Nat.le_refl _⟩ X hl hg)
section MX8_addText_draft
variable {p : Program} {l : Launch} {e : Env} {R : Room} {s : State} {m : MethodId} {args : Array Value} {below : List Frame} {meth : Method} {c : Code} {dC : Nat → ClassId} {dI : Nat → Nat → Nat} {ak : Nat → Nat} {A : Nat → Prop} {ad : Nat → Nat} {kc : Nat → ClassId} {sv : Value} {r : Unit} {τ : S5}
set_option maxHeartbeats 4000000 in
set_option maxRecDepth 100000 in
theorem w_X8_addText_draft_B2 {σ : S5} {rec2 : Nat → Int32 → S5 → Option (Unit × S5)} {zi : Nat} {v2 : Int32} {H : Heap} {locs : List Loc} {ls : Array Slot} (S : CallFix p m c cX8_addText 3 s args uG RX8) (hr : meth.sig.returnType = none) (hk : meth.locks = false) (hR : 4 ≤ R.frames ∧ 85 ≤ R.locals)
    (hrec2 : ∀ (zi : Nat) (v2 : Int32) (σ : S5) (H : Heap) (locs : List Loc) (ls : Array Slot), gX (dC, dI) (tC kc) (wC ad kc sv) (zC ak) A s σ H locs → lv_has ls 3 [(0, .ref (ad 1)), (1, .ref (ak (2 * zi))), (2, .int v2)] → rec2 zi v2 σ = some (r, τ) → W p l e R s m args below meth c H locs 0 0 (MQ below (gQv (dC, dI) (tC kc) (wC ad kc sv) A r τ) args s 0 0 A) (F0 m 2 ls []))
    (X : gX (dC, dI) (tC kc) (wC ad kc sv) (zC ak) A s σ H locs) (hl : lv_has ls 3 [(0, .ref (ad 1)), (1, .ref (ak (2 * zi))), (2, .int v2)]) (hg : f_X8_addText_draft_B2 rec2 zi v2 σ = some (r, τ)) : W p l e R s m args below meth c H locs 0 0 (MQ below (gQv (dC, dI) (tC kc) (wC ad kc sv) A r τ) args s 0 0 A) (F0 m 2 ls []) := by
  have hx := S.1
  have hb := S.2.1
  have hown := S.2.2.2.1
  have hu := S.2.2.2.2
  unfold f_X8_addText_draft_B2 at hg
  refine lv_iload_n hx hb dX8_addText_2 rfl (lv_at hl 2 rfl) ?_
  refine lv_aload_n hx hb dX8_addText_3 rfl (lv_at hl 1 rfl) ?_
  obtain ⟨r4, τ4, hq4, hg⟩ := bd_some hg
  obtain ⟨hs4, hg⟩ := gs_some hg
  refine gc_Wi (As := []) (rest := [.int v2]) S X (k2_J0_length_8abf5 l dC dI ad kc sv hq4 H.size) cw_J0_length_8abf5 mG_1656 rfl (vk_recv (adK := fun i => ak (2 * i)) (i := zi) X.2.2.2.2.2.1.1 hs4 X.2.2.2.1) rfl hl.1 (Nat.le_of_ble_eq_true rfl) dX8_addText_4 ⟨by omega, by omega⟩ (fun H locs X => ?_)
  refine lv_icmp_ge (tgt := 25) hx hb dX8_addText_7 (by decide) (fun c7 => ?_) (fun c7 => ?_)
  · have hg := (if_pos c7).symm.trans hg
    obtain ⟨-, rfl⟩ := fin_some hg
    exact gr_v S hr hk X dX8_addText_25
  · have hg := (if_neg c7).symm.trans hg
    refine lv_aload_n hx hb dX8_addText_10 rfl (lv_at hl 0 rfl) ?_
    refine lv_aload_n hx hb dX8_addText_11 rfl (lv_at hl 1 rfl) ?_
    refine lv_iload_n hx hb dX8_addText_12 rfl (lv_at hl 2 rfl) ?_
    obtain ⟨r13, τ13, hq13, hg⟩ := bd_some hg
    obtain ⟨hs13, hg⟩ := gs_some hg
    refine gc_Wi (As := [.int v2]) (rest := [.ref (ad 1)]) S X (k2_J0_charAt_5068e l dC dI ad kc sv hq13 H.size) cw_J0_charAt_5068e mG_1657 rfl (vk_recv (adK := fun i => ak (2 * i)) (i := zi) X.2.2.2.2.2.1.1 hs13 X.2.2.2.1) rfl hl.1 (Nat.le_of_ble_eq_true rfl) dX8_addText_13 ⟨by omega, by omega⟩ (fun H locs X => ?_)
    obtain ⟨r16, τ16, hq16, hg⟩ := bd_some hg
    refine gc_Vv (As := [.int r13]) (rest := []) (q0 := 1) (ci := 11) S X (k2_X8_add_draft l dC dI ad kc sv hq16 H.size) cw_X8_add mG_776 rfl rfl rfl rfl rfl hl.1 (Nat.le_of_ble_eq_true rfl) dX8_addText_16 ⟨by omega, by omega⟩ (fun H locs X => ?_)
    refine lv_iinc (v := (v2 + 1)) (lv' := [(2, .int (v2 + 1)), (0, .ref (ad 1)), (1, .ref (ak (2 * zi)))]) hx hb dX8_addText_19 hl (k := 2) rfl (by rfl) (by decide) rfl (fun ls hl => ?_)
    refine lv_goto (tgt := 2) hx hb dX8_addText_22 (by decide) ?_
    exact hrec2 _ _ _ _ _ _ X (lv_sub hl [1, 2, 0] rfl) hg
set_option maxHeartbeats 4000000 in
set_option maxRecDepth 100000 in
theorem w_X8_addText_draft_L2 (S : CallFix p m c cX8_addText 3 s args uG RX8) (hr : meth.sig.returnType = none) (hk : meth.locks = false) (hR : 4 ≤ R.frames ∧ 85 ≤ R.locals) : ∀ (n : Nat) (zi : Nat) (v2 : Int32) (σ : S5) (H : Heap) (locs : List Loc) (ls : Array Slot), gX (dC, dI) (tC kc) (wC ad kc sv) (zC ak) A s σ H locs → lv_has ls 3 [(0, .ref (ad 1)), (1, .ref (ak (2 * zi))), (2, .int v2)] → f_X8_addText_draft_L2  n zi v2 σ = some (r, τ) → W p l e R s m args below meth c H locs 0 0 (MQ below (gQv (dC, dI) (tC kc) (wC ad kc sv) A r τ) args s 0 0 A) (F0 m 2 ls []) := by
  intro n
  induction n with
  | zero => intro zi v2 σ H locs ls X hl hg; cases hg
  | succ n ih => intro zi v2 σ H locs ls X hl hg; exact w_X8_addText_draft_B2 S hr hk hR ih X hl hg
set_option maxHeartbeats 4000000 in
set_option maxRecDepth 100000 in
theorem w_X8_addText_draft {σ : S5} {zi : Nat} {H : Heap} {locs : List Loc} {ls : Array Slot} (S : CallFix p m c cX8_addText 3 s args uG RX8) (hr : meth.sig.returnType = none) (hk : meth.locks = false) (hR : 4 ≤ R.frames ∧ 85 ≤ R.locals)
    (X : gX (dC, dI) (tC kc) (wC ad kc sv) (zC ak) A s σ H locs) (hl : lv_has ls 3 [(0, .ref (ad 1)), (1, .ref (ak (2 * zi)))]) (hg : f_X8_addText_draft zi σ = some (r, τ)) : W p l e R s m args below meth c H locs 0 0 (MQ below (gQv (dC, dI) (tC kc) (wC ad kc sv) A r τ) args s 0 0 A) (F0 m 0 ls []) := by
  have hx := S.1
  have hb := S.2.1
  have hown := S.2.2.2.1
  have hu := S.2.2.2.2
  unfold f_X8_addText_draft at hg
  refine lv_iconst (v := 0) hx hb dX8_addText_0 (by decide) ?_
  refine lv_istore_n (lv' := [(2, .int 0), (0, .ref (ad 1)), (1, .ref (ak (2 * zi)))]) hx hb dX8_addText_1 rfl hl (by decide) rfl (fun ls hl => ?_)
  exact w_X8_addText_draft_L2 S hr hk hR _ _ _ _ _ _ _ X (lv_sub hl [1, 2, 0] rfl) hg
end MX8_addText_draft
set_option maxRecDepth 100000 in
theorem k2_X8_addText_draft (l : Launch) (dC : Nat → ClassId) (dI : Nat → Nat → Nat) {ak : Nat → Nat} (ad : Nat → Nat) (kc : Nat → ClassId) (sv : Value) {σ τ : S5} {zi : Nat} {r : Unit} (hg : f_X8_addText_draft zi σ = some (r, τ)) (sz : Nat) : Met l yX8_addText (Cond.code yX8_addText cX8_addText 3 none :: uG) { frames := 4, cells := 0, slots := 0, locals := 85 } (gPc (dC, dI) (tC kc) (wC ad kc sv) (zC ak) [.ref (ad 1), .ref (ak (2 * zi))] σ sz) (gQv (dC, dI) (tC kc) (wC ad kc sv) (va_A (wC ad kc sv σ) sz) r τ) 0 0 (va_A (wC ad kc sv σ) sz) :=
  g_start (by decide) (Nat.le_of_ble_eq_true rfl) (fun p e s m below meth c ls S hr hk X hl => w_X8_addText_draft S hr hk ⟨Nat.le_refl _, Nat.le_refl _⟩ X hl hg)
section MX10_isSmall
variable {p : Program} {l : Launch} {e : Env} {R : Room} {s : State} {m : MethodId} {args : Array Value} {below : List Frame} {meth : Method} {c : Code} {dC : Nat → ClassId} {dI : Nat → Nat → Nat} {ak : Nat → Nat} {A : Nat → Prop} {ad : Nat → Nat} {kc : Nat → ClassId} {sv : Value} {r : Int32} {τ : S5}
set_option maxHeartbeats 4000000 in
set_option maxRecDepth 100000 in
theorem w_X10_isSmall {σ : S5} {a0 : Int32} {H : Heap} {locs : List Loc} {ls : Array Slot} (S : CallFix p m c cX10_isSmall 1 s args uG RX10) (hr : meth.sig.returnType = (some .boolean)) (hk : meth.locks = false) (hR : 0 ≤ R.frames ∧ 0 ≤ R.locals)
    (X : gX (dC, dI) (tC kc) (wC ad kc sv) (zC ak) A s σ H locs) (hl : lv_has ls 1 [(0, .int a0)]) (hg : f_X10_isSmall a0 σ = some (r, τ)) : W p l e R s m args below meth c H locs 0 0 (MQ below (gQi (dC, dI) (tC kc) (wC ad kc sv) A r τ) args s 0 0 A) (F0 m 0 ls []) := by
  have hx := S.1
  have hb := S.2.1
  have hown := S.2.2.2.1
  have hu := S.2.2.2.2
  unfold f_X10_isSmall at hg
  refine lv_iload_n hx hb dX10_isSmall_0 rfl (lv_at hl 0 rfl) ?_
  refine lv_bipush (v := 97) hx hb dX10_isSmall_1 (by decide) ?_
  refine lv_icmp_lt (tgt := 16) hx hb dX10_isSmall_3 (by decide) (fun c3 => ?_) (fun c3 => ?_)
  · have hg := (if_pos c3).symm.trans hg
    refine lv_iconst (v := 0) hx hb dX10_isSmall_16 (by decide) ?_
    obtain ⟨rfl, rfl⟩ := fin_some hg
    exact gr_z S hr hk X (Or.inl rfl) dX10_isSmall_17
  · have hg := (if_neg c3).symm.trans hg
    refine lv_iload_n hx hb dX10_isSmall_6 rfl (lv_at hl 0 rfl) ?_
    refine lv_bipush (v := 122) hx hb dX10_isSmall_7 (by decide) ?_
    refine lv_icmp_gt (tgt := 16) hx hb dX10_isSmall_9 (by decide) (fun c9 => ?_) (fun c9 => ?_)
    · have hg := (if_pos c9).symm.trans hg
      refine lv_iconst (v := 0) hx hb dX10_isSmall_16 (by decide) ?_
      obtain ⟨rfl, rfl⟩ := fin_some hg
      exact gr_z S hr hk X (Or.inl rfl) dX10_isSmall_17
    · have hg := (if_neg c9).symm.trans hg
      refine lv_iconst (v := 1) hx hb dX10_isSmall_12 (by decide) ?_
      refine lv_goto (tgt := 17) hx hb dX10_isSmall_13 (by decide) ?_
      obtain ⟨rfl, rfl⟩ := fin_some hg
      exact gr_z S hr hk X (Or.inr rfl) dX10_isSmall_17
end MX10_isSmall
set_option maxRecDepth 100000 in
theorem k2_X10_isSmall (l : Launch) (dC : Nat → ClassId) (dI : Nat → Nat → Nat) {ak : Nat → Nat} (ad : Nat → Nat) (kc : Nat → ClassId) (sv : Value) {σ τ : S5} {a0 : Int32} {r : Int32} (hg : f_X10_isSmall a0 σ = some (r, τ)) (sz : Nat) : Met l yX10_isSmall (Cond.code yX10_isSmall cX10_isSmall 1 (some .boolean) :: uG) { frames := 0, cells := 0, slots := 0, locals := 0 } (gPc (dC, dI) (tC kc) (wC ad kc sv) (zC ak) [.int a0] σ sz) (gQi (dC, dI) (tC kc) (wC ad kc sv) (va_A (wC ad kc sv σ) sz) r τ) 0 0 (va_A (wC ad kc sv σ) sz) :=
  g_start (by decide) (Nat.le_of_ble_eq_true rfl) (fun p e s m below meth c ls S hr hk X hl => w_X10_isSmall S hr hk ⟨Nat.le_refl _, Nat.le_refl _⟩ X hl hg)
section MX10_isGreat
variable {p : Program} {l : Launch} {e : Env} {R : Room} {s : State} {m : MethodId} {args : Array Value} {below : List Frame} {meth : Method} {c : Code} {dC : Nat → ClassId} {dI : Nat → Nat → Nat} {ak : Nat → Nat} {A : Nat → Prop} {ad : Nat → Nat} {kc : Nat → ClassId} {sv : Value} {r : Int32} {τ : S5}
set_option maxHeartbeats 4000000 in
set_option maxRecDepth 100000 in
theorem w_X10_isGreat {σ : S5} {a0 : Int32} {H : Heap} {locs : List Loc} {ls : Array Slot} (S : CallFix p m c cX10_isGreat 1 s args uG RX10) (hr : meth.sig.returnType = (some .boolean)) (hk : meth.locks = false) (hR : 0 ≤ R.frames ∧ 0 ≤ R.locals)
    (X : gX (dC, dI) (tC kc) (wC ad kc sv) (zC ak) A s σ H locs) (hl : lv_has ls 1 [(0, .int a0)]) (hg : f_X10_isGreat a0 σ = some (r, τ)) : W p l e R s m args below meth c H locs 0 0 (MQ below (gQi (dC, dI) (tC kc) (wC ad kc sv) A r τ) args s 0 0 A) (F0 m 0 ls []) := by
  have hx := S.1
  have hb := S.2.1
  have hown := S.2.2.2.1
  have hu := S.2.2.2.2
  unfold f_X10_isGreat at hg
  refine lv_iload_n hx hb dX10_isGreat_0 rfl (lv_at hl 0 rfl) ?_
  refine lv_bipush (v := 65) hx hb dX10_isGreat_1 (by decide) ?_
  refine lv_icmp_lt (tgt := 16) hx hb dX10_isGreat_3 (by decide) (fun c3 => ?_) (fun c3 => ?_)
  · have hg := (if_pos c3).symm.trans hg
    refine lv_iconst (v := 0) hx hb dX10_isGreat_16 (by decide) ?_
    obtain ⟨rfl, rfl⟩ := fin_some hg
    exact gr_z S hr hk X (Or.inl rfl) dX10_isGreat_17
  · have hg := (if_neg c3).symm.trans hg
    refine lv_iload_n hx hb dX10_isGreat_6 rfl (lv_at hl 0 rfl) ?_
    refine lv_bipush (v := 90) hx hb dX10_isGreat_7 (by decide) ?_
    refine lv_icmp_gt (tgt := 16) hx hb dX10_isGreat_9 (by decide) (fun c9 => ?_) (fun c9 => ?_)
    · have hg := (if_pos c9).symm.trans hg
      refine lv_iconst (v := 0) hx hb dX10_isGreat_16 (by decide) ?_
      obtain ⟨rfl, rfl⟩ := fin_some hg
      exact gr_z S hr hk X (Or.inl rfl) dX10_isGreat_17
    · have hg := (if_neg c9).symm.trans hg
      refine lv_iconst (v := 1) hx hb dX10_isGreat_12 (by decide) ?_
      refine lv_goto (tgt := 17) hx hb dX10_isGreat_13 (by decide) ?_
      obtain ⟨rfl, rfl⟩ := fin_some hg
      exact gr_z S hr hk X (Or.inr rfl) dX10_isGreat_17
end MX10_isGreat
set_option maxRecDepth 100000 in
theorem k2_X10_isGreat (l : Launch) (dC : Nat → ClassId) (dI : Nat → Nat → Nat) {ak : Nat → Nat} (ad : Nat → Nat) (kc : Nat → ClassId) (sv : Value) {σ τ : S5} {a0 : Int32} {r : Int32} (hg : f_X10_isGreat a0 σ = some (r, τ)) (sz : Nat) : Met l yX10_isGreat (Cond.code yX10_isGreat cX10_isGreat 1 (some .boolean) :: uG) { frames := 0, cells := 0, slots := 0, locals := 0 } (gPc (dC, dI) (tC kc) (wC ad kc sv) (zC ak) [.int a0] σ sz) (gQi (dC, dI) (tC kc) (wC ad kc sv) (va_A (wC ad kc sv σ) sz) r τ) 0 0 (va_A (wC ad kc sv σ) sz) :=
  g_start (by decide) (Nat.le_of_ble_eq_true rfl) (fun p e s m below meth c ls S hr hk X hl => w_X10_isGreat S hr hk ⟨Nat.le_refl _, Nat.le_refl _⟩ X hl hg)
section MX10_isDigit
variable {p : Program} {l : Launch} {e : Env} {R : Room} {s : State} {m : MethodId} {args : Array Value} {below : List Frame} {meth : Method} {c : Code} {dC : Nat → ClassId} {dI : Nat → Nat → Nat} {ak : Nat → Nat} {A : Nat → Prop} {ad : Nat → Nat} {kc : Nat → ClassId} {sv : Value} {r : Int32} {τ : S5}
set_option maxHeartbeats 4000000 in
set_option maxRecDepth 100000 in
theorem w_X10_isDigit {σ : S5} {a0 : Int32} {H : Heap} {locs : List Loc} {ls : Array Slot} (S : CallFix p m c cX10_isDigit 1 s args uG RX10) (hr : meth.sig.returnType = (some .boolean)) (hk : meth.locks = false) (hR : 0 ≤ R.frames ∧ 0 ≤ R.locals)
    (X : gX (dC, dI) (tC kc) (wC ad kc sv) (zC ak) A s σ H locs) (hl : lv_has ls 1 [(0, .int a0)]) (hg : f_X10_isDigit a0 σ = some (r, τ)) : W p l e R s m args below meth c H locs 0 0 (MQ below (gQi (dC, dI) (tC kc) (wC ad kc sv) A r τ) args s 0 0 A) (F0 m 0 ls []) := by
  have hx := S.1
  have hb := S.2.1
  have hown := S.2.2.2.1
  have hu := S.2.2.2.2
  unfold f_X10_isDigit at hg
  refine lv_iload_n hx hb dX10_isDigit_0 rfl (lv_at hl 0 rfl) ?_
  refine lv_bipush (v := 48) hx hb dX10_isDigit_1 (by decide) ?_
  refine lv_icmp_lt (tgt := 16) hx hb dX10_isDigit_3 (by decide) (fun c3 => ?_) (fun c3 => ?_)
  · have hg := (if_pos c3).symm.trans hg
    refine lv_iconst (v := 0) hx hb dX10_isDigit_16 (by decide) ?_
    obtain ⟨rfl, rfl⟩ := fin_some hg
    exact gr_z S hr hk X (Or.inl rfl) dX10_isDigit_17
  · have hg := (if_neg c3).symm.trans hg
    refine lv_iload_n hx hb dX10_isDigit_6 rfl (lv_at hl 0 rfl) ?_
    refine lv_bipush (v := 57) hx hb dX10_isDigit_7 (by decide) ?_
    refine lv_icmp_gt (tgt := 16) hx hb dX10_isDigit_9 (by decide) (fun c9 => ?_) (fun c9 => ?_)
    · have hg := (if_pos c9).symm.trans hg
      refine lv_iconst (v := 0) hx hb dX10_isDigit_16 (by decide) ?_
      obtain ⟨rfl, rfl⟩ := fin_some hg
      exact gr_z S hr hk X (Or.inl rfl) dX10_isDigit_17
    · have hg := (if_neg c9).symm.trans hg
      refine lv_iconst (v := 1) hx hb dX10_isDigit_12 (by decide) ?_
      refine lv_goto (tgt := 17) hx hb dX10_isDigit_13 (by decide) ?_
      obtain ⟨rfl, rfl⟩ := fin_some hg
      exact gr_z S hr hk X (Or.inr rfl) dX10_isDigit_17
end MX10_isDigit
set_option maxRecDepth 100000 in
theorem k2_X10_isDigit (l : Launch) (dC : Nat → ClassId) (dI : Nat → Nat → Nat) {ak : Nat → Nat} (ad : Nat → Nat) (kc : Nat → ClassId) (sv : Value) {σ τ : S5} {a0 : Int32} {r : Int32} (hg : f_X10_isDigit a0 σ = some (r, τ)) (sz : Nat) : Met l yX10_isDigit (Cond.code yX10_isDigit cX10_isDigit 1 (some .boolean) :: uG) { frames := 0, cells := 0, slots := 0, locals := 0 } (gPc (dC, dI) (tC kc) (wC ad kc sv) (zC ak) [.int a0] σ sz) (gQi (dC, dI) (tC kc) (wC ad kc sv) (va_A (wC ad kc sv σ) sz) r τ) 0 0 (va_A (wC ad kc sv σ) sz) :=
  g_start (by decide) (Nat.le_of_ble_eq_true rfl) (fun p e s m below meth c ls S hr hk X hl => w_X10_isDigit S hr hk ⟨Nat.le_refl _, Nat.le_refl _⟩ X hl hg)
section MX10_stop
variable {p : Program} {l : Launch} {e : Env} {R : Room} {s : State} {m : MethodId} {args : Array Value} {below : List Frame} {meth : Method} {c : Code} {dC : Nat → ClassId} {dI : Nat → Nat → Nat} {ak : Nat → Nat} {A : Nat → Prop} {ad : Nat → Nat} {kc : Nat → ClassId} {sv : Value} {r : Unit} {τ : S5}
set_option maxHeartbeats 4000000 in
set_option maxRecDepth 100000 in
theorem w_X10_stop {σ : S5}  {H : Heap} {locs : List Loc} {ls : Array Slot} (S : CallFix p m c cX10_stop 1 s args uG RX10) (hr : meth.sig.returnType = none) (hk : meth.locks = false) (hR : 0 ≤ R.frames ∧ 0 ≤ R.locals)
    (X : gX (dC, dI) (tC kc) (wC ad kc sv) (zC ak) A s σ H locs) (hl : lv_has ls 1 [(0, .ref (ad 6))]) (hg : f_X10_stop  σ = some (r, τ)) : W p l e R s m args below meth c H locs 0 0 (MQ below (gQv (dC, dI) (tC kc) (wC ad kc sv) A r τ) args s 0 0 A) (F0 m 0 ls []) := by
  have hx := S.1
  have hb := S.2.1
  have hown := S.2.2.2.1
  have hu := S.2.2.2.2
  unfold f_X10_stop at hg
  refine lv_aload_n hx hb dX10_stop_0 rfl (lv_at hl 0 rfl) ?_
  refine lv_iconst (v := 0) hx hb dX10_stop_1 (by decide) ?_
  refine wcpI_17 S X mG_517 dX10_stop_2 (fun H locs X => ?_)
  obtain ⟨-, rfl⟩ := fin_some hg
  exact gr_v S hr hk X dX10_stop_5
end MX10_stop
set_option maxRecDepth 100000 in
theorem k2_X10_stop (l : Launch) (dC : Nat → ClassId) (dI : Nat → Nat → Nat) {ak : Nat → Nat} (ad : Nat → Nat) (kc : Nat → ClassId) (sv : Value) {σ τ : S5}  {r : Unit} (hg : f_X10_stop  σ = some (r, τ)) (sz : Nat) : Met l yX10_stop (Cond.code yX10_stop cX10_stop 1 none :: uG) { frames := 0, cells := 0, slots := 0, locals := 0 } (gPc (dC, dI) (tC kc) (wC ad kc sv) (zC ak) [.ref (ad 6)] σ sz) (gQv (dC, dI) (tC kc) (wC ad kc sv) (va_A (wC ad kc sv σ) sz) r τ) 0 0 (va_A (wC ad kc sv σ) sz) :=
  g_start (by decide) (Nat.le_of_ble_eq_true rfl) (fun p e s m below meth c ls S hr hk X hl => w_X10_stop S hr hk ⟨Nat.le_refl _, Nat.le_refl _⟩ X hl hg)
section MX10_passBlanks
variable {p : Program} {l : Launch} {e : Env} {R : Room} {s : State} {m : MethodId} {args : Array Value} {below : List Frame} {meth : Method} {c : Code} {dC : Nat → ClassId} {dI : Nat → Nat → Nat} {ak : Nat → Nat} {A : Nat → Prop} {ad : Nat → Nat} {kc : Nat → ClassId} {sv : Value} {r : Unit} {τ : S5}
set_option maxHeartbeats 4000000 in
set_option maxRecDepth 100000 in
theorem w_X10_passBlanks_b61 {σ : S5} {rec2 : Int32 → S5 → Option (Unit × S5)} {v1 : Int32} {H : Heap} {locs : List Loc} {ls : Array Slot} (S : CallFix p m c cX10_passBlanks 3 s args uG RX10) (hr : meth.sig.returnType = none) (hk : meth.locks = false) (hR : 1 ≤ R.frames ∧ 21 ≤ R.locals)
    (hrec2 : ∀ (v1 : Int32) (σ : S5) (H : Heap) (locs : List Loc) (ls : Array Slot), gX (dC, dI) (tC kc) (wC ad kc sv) (zC ak) A s σ H locs → lv_has ls 3 [(0, .ref (ad 6)), (1, .int v1)] → rec2 v1 σ = some (r, τ) → W p l e R s m args below meth c H locs 0 0 (MQ below (gQv (dC, dI) (tC kc) (wC ad kc sv) A r τ) args s 0 0 A) (F0 m 2 ls []))
    (X : gX (dC, dI) (tC kc) (wC ad kc sv) (zC ak) A s σ H locs) (hl : lv_has ls 3 [(0, .ref (ad 6)), (1, .int v1)]) (hg : f_X10_passBlanks_b61 rec2 v1 σ = some (r, τ)) : W p l e R s m args below meth c H locs 0 0 (MQ below (gQv (dC, dI) (tC kc) (wC ad kc sv) A r τ) args s 0 0 A) (F0 m 61 ls []) := by
  have hx := S.1
  have hb := S.2.1
  have hown := S.2.2.2.1
  have hu := S.2.2.2.2
  unfold f_X10_passBlanks_b61 at hg
  refine lv_aload_n hx hb dX10_passBlanks_61 rfl (lv_at hl 0 rfl) ?_
  refine lv_dup hx hb dX10_passBlanks_62 rfl ?_
  refine wcgI_16 (v := (gI σ 16)) S X mG_516 rfl dX10_passBlanks_63 ?_
  refine lv_iconst (v := 1) hx hb dX10_passBlanks_66 (by decide) ?_
  refine lv_iadd hx hb dX10_passBlanks_67 ?_
  refine wcpI_16 S X mG_516 dX10_passBlanks_68 (fun H locs X => ?_)
  refine lv_goto (tgt := 2) hx hb dX10_passBlanks_71 (by decide) ?_
  exact hrec2 _ _ _ _ _ X (lv_sub hl [0, 1] rfl) hg
set_option maxHeartbeats 4000000 in
set_option maxRecDepth 100000 in
theorem w_X10_passBlanks_B2 {σ : S5} {rec2 : Int32 → S5 → Option (Unit × S5)} {v1 : Int32} {H : Heap} {locs : List Loc} {ls : Array Slot} (S : CallFix p m c cX10_passBlanks 3 s args uG RX10) (hr : meth.sig.returnType = none) (hk : meth.locks = false) (hR : 1 ≤ R.frames ∧ 21 ≤ R.locals)
    (hrec2 : ∀ (v1 : Int32) (σ : S5) (H : Heap) (locs : List Loc) (ls : Array Slot), gX (dC, dI) (tC kc) (wC ad kc sv) (zC ak) A s σ H locs → lv_has ls 3 [(0, .ref (ad 6)), (1, .int v1)] → rec2 v1 σ = some (r, τ) → W p l e R s m args below meth c H locs 0 0 (MQ below (gQv (dC, dI) (tC kc) (wC ad kc sv) A r τ) args s 0 0 A) (F0 m 2 ls []))
    (X : gX (dC, dI) (tC kc) (wC ad kc sv) (zC ak) A s σ H locs) (hl : lv_has ls 3 [(0, .ref (ad 6)), (1, .int v1)]) (hg : f_X10_passBlanks_B2 rec2 v1 σ = some (r, τ)) : W p l e R s m args below meth c H locs 0 0 (MQ below (gQv (dC, dI) (tC kc) (wC ad kc sv) A r τ) args s 0 0 A) (F0 m 2 ls []) := by
  have hx := S.1
  have hb := S.2.1
  have hown := S.2.2.2.1
  have hu := S.2.2.2.2
  unfold f_X10_passBlanks_B2 at hg
  refine lv_aload_n hx hb dX10_passBlanks_2 rfl (lv_at hl 0 rfl) ?_
  refine wcgI_16 (v := (gI σ 16)) S X mG_516 rfl dX10_passBlanks_3 ?_
  refine lv_aload_n hx hb dX10_passBlanks_6 rfl (lv_at hl 0 rfl) ?_
  refine wcgR_6_0 S X mG_515 dX10_passBlanks_7 ?_
  refine wcgI_0 (v := (gI σ 0)) S X mG_265 rfl dX10_passBlanks_10 ?_
  refine lv_icmp_ge (tgt := 74) hx hb dX10_passBlanks_13 (by decide) (fun c13 => ?_) (fun c13 => ?_)
  · have hg := (if_pos c13).symm.trans hg
    obtain ⟨-, rfl⟩ := fin_some hg
    exact gr_v S hr hk X dX10_passBlanks_74
  · have hg := (if_neg c13).symm.trans hg
    refine lv_aload_n hx hb dX10_passBlanks_16 rfl (lv_at hl 0 rfl) ?_
    refine wcgR_6_0 S X mG_515 dX10_passBlanks_17 ?_
    refine lv_aload_n hx hb dX10_passBlanks_20 rfl (lv_at hl 0 rfl) ?_
    refine wcgI_16 (v := (gI σ 16)) S X mG_516 rfl dX10_passBlanks_21 ?_
    obtain ⟨r24, τ24, hq24, hg⟩ := bd_some hg
    refine gc_Vi (As := [.int (gI σ 16)]) (rest := []) (q0 := 0) (ci := 11) S X (k2_X8_signAt_text l dC dI ad kc sv hq24 H.size) cw_X8_signAt mG_926 rfl rfl rfl rfl rfl hl.1 (Nat.le_of_ble_eq_true rfl) dX10_passBlanks_24 ⟨by omega, by omega⟩ (fun H locs X => ?_)
    refine lv_istore_n (lv' := [(2, .int r24), (0, .ref (ad 6)), (1, .int v1)]) hx hb dX10_passBlanks_27 rfl hl (by decide) rfl (fun ls hl => ?_)
    refine lv_iload_n hx hb dX10_passBlanks_28 rfl (lv_at hl 0 rfl) ?_
    refine lv_bipush (v := 10) hx hb dX10_passBlanks_29 (by decide) ?_
    refine lv_icmp_ne (tgt := 39) hx hb dX10_passBlanks_31 (by decide) (fun c31 => ?_) (fun c31 => ?_)
    · have hg := (if_neg c31).symm.trans hg
      refine lv_iload_n hx hb dX10_passBlanks_39 rfl (lv_at hl 0 rfl) ?_
      refine lv_bipush (v := 35) hx hb dX10_passBlanks_40 (by decide) ?_
      refine lv_icmp_ne (tgt := 50) hx hb dX10_passBlanks_42 (by decide) (fun c42 => ?_) (fun c42 => ?_)
      · have hg := (if_neg c42).symm.trans hg
        refine lv_iload_n hx hb dX10_passBlanks_50 rfl (lv_at hl 0 rfl) ?_
        refine lv_bipush (v := 32) hx hb dX10_passBlanks_51 (by decide) ?_
        refine lv_icmp_eq (tgt := 61) hx hb dX10_passBlanks_53 (by decide) (fun c53 => ?_) (fun c53 => ?_)
        · have hg := (if_pos c53).symm.trans hg
          exact w_X10_passBlanks_b61 S hr hk hR hrec2 X (lv_sub hl [1, 2] rfl) hg
        · have hg := (if_neg c53).symm.trans hg
          refine lv_iload_n hx hb dX10_passBlanks_56 rfl (lv_at hl 2 rfl) ?_
          refine lv_if_ne (tgt := 61) hx hb dX10_passBlanks_57 (by decide) (fun c57 => ?_) (fun c57 => ?_)
          · have hg := (if_neg c57).symm.trans hg
            exact w_X10_passBlanks_b61 S hr hk hR hrec2 X (lv_sub hl [1, 2] rfl) hg
          · have hg := (if_pos c57).symm.trans hg
            obtain ⟨-, rfl⟩ := fin_some hg
            exact gr_v S hr hk X dX10_passBlanks_60
      · have hg := (if_pos c42).symm.trans hg
        refine lv_iconst (v := 1) hx hb dX10_passBlanks_45 (by decide) ?_
        refine lv_istore_n (lv' := [(1, .int 1), (2, .int r24), (0, .ref (ad 6))]) hx hb dX10_passBlanks_46 rfl hl (by decide) rfl (fun ls hl => ?_)
        refine lv_goto (tgt := 61) hx hb dX10_passBlanks_47 (by decide) ?_
        exact w_X10_passBlanks_b61 S hr hk hR hrec2 X (lv_sub hl [2, 0] rfl) hg
    · have hg := (if_pos c31).symm.trans hg
      refine lv_iconst (v := 0) hx hb dX10_passBlanks_34 (by decide) ?_
      refine lv_istore_n (lv' := [(1, .int 0), (2, .int r24), (0, .ref (ad 6))]) hx hb dX10_passBlanks_35 rfl hl (by decide) rfl (fun ls hl => ?_)
      refine lv_goto (tgt := 61) hx hb dX10_passBlanks_36 (by decide) ?_
      exact w_X10_passBlanks_b61 S hr hk hR hrec2 X (lv_sub hl [2, 0] rfl) hg
set_option maxHeartbeats 4000000 in
set_option maxRecDepth 100000 in
theorem w_X10_passBlanks_L2 (S : CallFix p m c cX10_passBlanks 3 s args uG RX10) (hr : meth.sig.returnType = none) (hk : meth.locks = false) (hR : 1 ≤ R.frames ∧ 21 ≤ R.locals) : ∀ (n : Nat) (v1 : Int32) (σ : S5) (H : Heap) (locs : List Loc) (ls : Array Slot), gX (dC, dI) (tC kc) (wC ad kc sv) (zC ak) A s σ H locs → lv_has ls 3 [(0, .ref (ad 6)), (1, .int v1)] → f_X10_passBlanks_L2  n v1 σ = some (r, τ) → W p l e R s m args below meth c H locs 0 0 (MQ below (gQv (dC, dI) (tC kc) (wC ad kc sv) A r τ) args s 0 0 A) (F0 m 2 ls []) := by
  intro n
  induction n with
  | zero => intro v1 σ H locs ls X hl hg; cases hg
  | succ n ih => intro v1 σ H locs ls X hl hg; exact w_X10_passBlanks_B2 S hr hk hR ih X hl hg
set_option maxHeartbeats 4000000 in
set_option maxRecDepth 100000 in
theorem w_X10_passBlanks {σ : S5}  {H : Heap} {locs : List Loc} {ls : Array Slot} (S : CallFix p m c cX10_passBlanks 3 s args uG RX10) (hr : meth.sig.returnType = none) (hk : meth.locks = false) (hR : 1 ≤ R.frames ∧ 21 ≤ R.locals)
    (X : gX (dC, dI) (tC kc) (wC ad kc sv) (zC ak) A s σ H locs) (hl : lv_has ls 3 [(0, .ref (ad 6))]) (hg : f_X10_passBlanks  σ = some (r, τ)) : W p l e R s m args below meth c H locs 0 0 (MQ below (gQv (dC, dI) (tC kc) (wC ad kc sv) A r τ) args s 0 0 A) (F0 m 0 ls []) := by
  have hx := S.1
  have hb := S.2.1
  have hown := S.2.2.2.1
  have hu := S.2.2.2.2
  unfold f_X10_passBlanks at hg
  refine lv_iconst (v := 0) hx hb dX10_passBlanks_0 (by decide) ?_
  refine lv_istore_n (lv' := [(1, .int 0), (0, .ref (ad 6))]) hx hb dX10_passBlanks_1 rfl hl (by decide) rfl (fun ls hl => ?_)
  exact w_X10_passBlanks_L2 S hr hk hR _ _ _ _ _ _ X (lv_sub hl [1, 0] rfl) hg
end MX10_passBlanks
set_option maxRecDepth 100000 in
theorem k2_X10_passBlanks (l : Launch) (dC : Nat → ClassId) (dI : Nat → Nat → Nat) {ak : Nat → Nat} (ad : Nat → Nat) (kc : Nat → ClassId) (sv : Value) {σ τ : S5}  {r : Unit} (hg : f_X10_passBlanks  σ = some (r, τ)) (sz : Nat) : Met l yX10_passBlanks (Cond.code yX10_passBlanks cX10_passBlanks 3 none :: uG) { frames := 1, cells := 0, slots := 0, locals := 21 } (gPc (dC, dI) (tC kc) (wC ad kc sv) (zC ak) [.ref (ad 6)] σ sz) (gQv (dC, dI) (tC kc) (wC ad kc sv) (va_A (wC ad kc sv σ) sz) r τ) 0 0 (va_A (wC ad kc sv σ) sz) :=
  g_start (by decide) (Nat.le_of_ble_eq_true rfl) (fun p e s m below meth c ls S hr hk X hl => w_X10_passBlanks S hr hk ⟨Nat.le_refl _, Nat.le_refl _⟩ X hl hg)
section MX10_kindOfName
variable {p : Program} {l : Launch} {e : Env} {R : Room} {s : State} {m : MethodId} {args : Array Value} {below : List Frame} {meth : Method} {c : Code} {dC : Nat → ClassId} {dI : Nat → Nat → Nat} {ak : Nat → Nat} {A : Nat → Prop} {ad : Nat → Nat} {kc : Nat → ClassId} {sv : Value} {r : Int32} {τ : S5}
set_option maxHeartbeats 4000000 in
set_option maxRecDepth 100000 in
theorem w_X10_kindOfName {σ : S5}  {H : Heap} {locs : List Loc} {ls : Array Slot} (S : CallFix p m c cX10_kindOfName 1 s args uG RX10) (hr : meth.sig.returnType = (some .int)) (hk : meth.locks = false) (hR : 0 ≤ R.frames ∧ 0 ≤ R.locals)
    (X : gX (dC, dI) (tC kc) (wC ad kc sv) (zC ak) A s σ H locs) (hl : lv_has ls 1 [(0, .ref (ad 6))]) (hg : f_X10_kindOfName  σ = some (r, τ)) : W p l e R s m args below meth c H locs 0 0 (MQ below (gQi (dC, dI) (tC kc) (wC ad kc sv) A r τ) args s 0 0 A) (F0 m 0 ls []) := by
  have hx := S.1
  have hb := S.2.1
  have hown := S.2.2.2.1
  have hu := S.2.2.2.2
  unfold f_X10_kindOfName at hg
  refine lv_aload_n hx hb dX10_kindOfName_0 rfl (lv_at hl 0 rfl) ?_
  refine wcgJ_0 (v := (gJ σ 0)) S X mG_523 rfl dX10_kindOfName_1 ?_
  refine lv_ldc2 (own := RX10) (v := 1684108385) hx hb hown (hu _ mG_947) dX10_kindOfName_4 ?_
  refine W.lcmp hx hb dX10_kindOfName_7 ?_
  refine lv_if_ne (tgt := 14) hx hb dX10_kindOfName_8 (by decide) (fun c8 => ?_) (fun c8 => ?_)
  · have hg := (if_neg c8).symm.trans hg
    refine lv_aload_n hx hb dX10_kindOfName_14 rfl (lv_at hl 0 rfl) ?_
    refine wcgJ_0 (v := (gJ σ 0)) S X mG_523 rfl dX10_kindOfName_15 ?_
    refine lv_ldc2 (own := RX10) (v := 7103860) hx hb hown (hu _ mG_948) dX10_kindOfName_18 ?_
    refine W.lcmp hx hb dX10_kindOfName_21 ?_
    refine lv_if_ne (tgt := 28) hx hb dX10_kindOfName_22 (by decide) (fun c22 => ?_) (fun c22 => ?_)
    · have hg := (if_neg c22).symm.trans hg
      refine lv_aload_n hx hb dX10_kindOfName_28 rfl (lv_at hl 0 rfl) ?_
      refine wcgJ_0 (v := (gJ σ 0)) S X mG_523 rfl dX10_kindOfName_29 ?_
      refine lv_ldc2 (own := RX10) (v := 26990) hx hb hown (hu _ mG_949) dX10_kindOfName_32 ?_
      refine W.lcmp hx hb dX10_kindOfName_35 ?_
      refine lv_if_ne (tgt := 42) hx hb dX10_kindOfName_36 (by decide) (fun c36 => ?_) (fun c36 => ?_)
      · have hg := (if_neg c36).symm.trans hg
        refine lv_aload_n hx hb dX10_kindOfName_42 rfl (lv_at hl 0 rfl) ?_
        refine wcgJ_0 (v := (gJ σ 0)) S X mG_523 rfl dX10_kindOfName_43 ?_
        refine lv_ldc2 (own := RX10) (v := 1667330917) hx hb hown (hu _ mG_950) dX10_kindOfName_46 ?_
        refine W.lcmp hx hb dX10_kindOfName_49 ?_
        refine lv_if_ne (tgt := 56) hx hb dX10_kindOfName_50 (by decide) (fun c50 => ?_) (fun c50 => ?_)
        · have hg := (if_neg c50).symm.trans hg
          refine lv_aload_n hx hb dX10_kindOfName_56 rfl (lv_at hl 0 rfl) ?_
          refine wcgJ_0 (v := (gJ σ 0)) S X mG_523 rfl dX10_kindOfName_57 ?_
          refine lv_ldc2 (own := RX10) (v := 28518) hx hb hown (hu _ mG_951) dX10_kindOfName_60 ?_
          refine W.lcmp hx hb dX10_kindOfName_63 ?_
          refine lv_if_ne (tgt := 70) hx hb dX10_kindOfName_64 (by decide) (fun c64 => ?_) (fun c64 => ?_)
          · have hg := (if_neg c64).symm.trans hg
            refine lv_aload_n hx hb dX10_kindOfName_70 rfl (lv_at hl 0 rfl) ?_
            refine wcgJ_0 (v := (gJ σ 0)) S X mG_523 rfl dX10_kindOfName_71 ?_
            refine lv_ldc2 (own := RX10) (v := 1717660012) hx hb hown (hu _ mG_952) dX10_kindOfName_74 ?_
            refine W.lcmp hx hb dX10_kindOfName_77 ?_
            refine lv_if_ne (tgt := 86) hx hb dX10_kindOfName_78 (by decide) (fun c78 => ?_) (fun c78 => ?_)
            · have hg := (if_neg c78).symm.trans hg
              refine lv_iconst (v := 3) hx hb dX10_kindOfName_86 (by decide) ?_
              obtain ⟨rfl, rfl⟩ := fin_some hg
              exact gr_i S hr hk X dX10_kindOfName_87
            · have hg := (if_pos c78).symm.trans hg
              refine lv_bipush (v := 11) hx hb dX10_kindOfName_81 (by decide) ?_
              refine lv_goto (tgt := 87) hx hb dX10_kindOfName_83 (by decide) ?_
              obtain ⟨rfl, rfl⟩ := fin_some hg
              exact gr_i S hr hk X dX10_kindOfName_87
          · have hg := (if_pos c64).symm.trans hg
            refine lv_bipush (v := 10) hx hb dX10_kindOfName_67 (by decide) ?_
            obtain ⟨rfl, rfl⟩ := fin_some hg
            exact gr_i S hr hk X dX10_kindOfName_69
        · have hg := (if_pos c50).symm.trans hg
          refine lv_bipush (v := 9) hx hb dX10_kindOfName_53 (by decide) ?_
          obtain ⟨rfl, rfl⟩ := fin_some hg
          exact gr_i S hr hk X dX10_kindOfName_55
      · have hg := (if_pos c36).symm.trans hg
        refine lv_bipush (v := 8) hx hb dX10_kindOfName_39 (by decide) ?_
        obtain ⟨rfl, rfl⟩ := fin_some hg
        exact gr_i S hr hk X dX10_kindOfName_41
    · have hg := (if_pos c22).symm.trans hg
      refine lv_bipush (v := 7) hx hb dX10_kindOfName_25 (by decide) ?_
      obtain ⟨rfl, rfl⟩ := fin_some hg
      exact gr_i S hr hk X dX10_kindOfName_27
  · have hg := (if_pos c8).symm.trans hg
    refine lv_bipush (v := 6) hx hb dX10_kindOfName_11 (by decide) ?_
    obtain ⟨rfl, rfl⟩ := fin_some hg
    exact gr_i S hr hk X dX10_kindOfName_13
end MX10_kindOfName
set_option maxRecDepth 100000 in
theorem k2_X10_kindOfName (l : Launch) (dC : Nat → ClassId) (dI : Nat → Nat → Nat) {ak : Nat → Nat} (ad : Nat → Nat) (kc : Nat → ClassId) (sv : Value) {σ τ : S5}  {r : Int32} (hg : f_X10_kindOfName  σ = some (r, τ)) (sz : Nat) : Met l yX10_kindOfName (Cond.code yX10_kindOfName cX10_kindOfName 1 (some .int) :: uG) { frames := 0, cells := 0, slots := 0, locals := 0 } (gPc (dC, dI) (tC kc) (wC ad kc sv) (zC ak) [.ref (ad 6)] σ sz) (gQi (dC, dI) (tC kc) (wC ad kc sv) (va_A (wC ad kc sv σ) sz) r τ) 0 0 (va_A (wC ad kc sv σ) sz) :=
  g_start (by decide) (Nat.le_of_ble_eq_true rfl) (fun p e s m below meth c ls S hr hk X hl => w_X10_kindOfName S hr hk ⟨Nat.le_refl _, Nat.le_refl _⟩ X hl hg)
section MX10_readName
variable {p : Program} {l : Launch} {e : Env} {R : Room} {s : State} {m : MethodId} {args : Array Value} {below : List Frame} {meth : Method} {c : Code} {dC : Nat → ClassId} {dI : Nat → Nat → Nat} {ak : Nat → Nat} {A : Nat → Prop} {ad : Nat → Nat} {kc : Nat → ClassId} {sv : Value} {r : Unit} {τ : S5}
set_option maxHeartbeats 4000000 in
set_option maxRecDepth 100000 in
theorem w_X10_readName_b113 {σ : S5} {u0 : Int32} {H : Heap} {locs : List Loc} {ls : Array Slot} (S : CallFix p m c cX10_readName 4 s args uG RX10) (hr : meth.sig.returnType = none) (hk : meth.locks = false) (hR : 1 ≤ R.frames ∧ 21 ≤ R.locals)
    (X : gX (dC, dI) (tC kc) (wC ad kc sv) (zC ak) A s σ H locs) (hl : lv_has ls 4 []) (hg : f_X10_readName_b113 u0 σ = some (r, τ)) : W p l e R s m args below meth c H locs 0 0 (MQ below (gQv (dC, dI) (tC kc) (wC ad kc sv) A r τ) args s 0 0 A) (F0 m 113 ls [.int u0, .ref (ad 6)]) := by
  have hx := S.1
  have hb := S.2.1
  have hown := S.2.2.2.1
  have hu := S.2.2.2.2
  unfold f_X10_readName_b113 at hg
  refine wcpI_17 S X mG_517 dX10_readName_113 (fun H locs X => ?_)
  obtain ⟨-, rfl⟩ := fin_some hg
  exact gr_v S hr hk X dX10_readName_116
set_option maxHeartbeats 4000000 in
set_option maxRecDepth 100000 in
theorem w_X10_readName_b83 {σ : S5} {v1 : Int32} {v2 : Int32} {H : Heap} {locs : List Loc} {ls : Array Slot} (S : CallFix p m c cX10_readName 4 s args uG RX10) (hr : meth.sig.returnType = none) (hk : meth.locks = false) (hR : 1 ≤ R.frames ∧ 21 ≤ R.locals)
    (X : gX (dC, dI) (tC kc) (wC ad kc sv) (zC ak) A s σ H locs) (hl : lv_has ls 4 [(0, .ref (ad 6)), (1, .int v1), (2, .int v2)]) (hg : f_X10_readName_b83 v1 v2 σ = some (r, τ)) : W p l e R s m args below meth c H locs 0 0 (MQ below (gQv (dC, dI) (tC kc) (wC ad kc sv) A r τ) args s 0 0 A) (F0 m 83 ls []) := by
  have hx := S.1
  have hb := S.2.1
  have hown := S.2.2.2.1
  have hu := S.2.2.2.2
  unfold f_X10_readName_b83 at hg
  refine lv_iload_n hx hb dX10_readName_83 rfl (lv_at hl 2 rfl) ?_
  refine lv_bipush (v := 8) hx hb dX10_readName_84 (by decide) ?_
  refine lv_icmp_le (tgt := 97) hx hb dX10_readName_86 (by decide) (fun c86 => ?_) (fun c86 => ?_)
  · have hg := (if_pos c86).symm.trans hg
    refine lv_aload_n hx hb dX10_readName_97 rfl (lv_at hl 0 rfl) ?_
    refine lv_iload_n hx hb dX10_readName_98 rfl (lv_at hl 1 rfl) ?_
    obtain ⟨r99, τ99, hq99, hg⟩ := bd_some hg
    refine gc_Si (As := [.int v1]) (rest := [.ref (ad 6)]) S X (k2_X10_isGreat l dC dI ad kc sv hq99 H.size) cw_X10_isGreat mG_933 rfl rfl hl.1 (Nat.le_of_ble_eq_true rfl) dX10_readName_99 ⟨by omega, by omega⟩ (fun H locs X => ?_)
    refine lv_if_eq (tgt := 109) hx hb dX10_readName_102 (by decide) (fun c102 => ?_) (fun c102 => ?_)
    · have hg := (if_pos c102).symm.trans hg
      refine lv_aload_n hx hb dX10_readName_109 rfl (lv_at hl 0 rfl) ?_
      obtain ⟨r110, τ110, hq110, hg⟩ := bd_some hg
      refine gc_Vi (As := []) (rest := [.ref (ad 6)]) (q0 := 6) (ci := 13) S X (k2_X10_kindOfName l dC dI ad kc sv hq110 H.size) cw_X10_kindOfName mG_943 rfl rfl rfl rfl rfl hl.1 (Nat.le_of_ble_eq_true rfl) dX10_readName_110 ⟨by omega, by omega⟩ (fun H locs X => ?_)
      exact w_X10_readName_b113 S hr hk hR X (lv_sub hl [] rfl) hg
    · have hg := (if_neg c102).symm.trans hg
      refine lv_iconst (v := 4) hx hb dX10_readName_105 (by decide) ?_
      refine lv_goto (tgt := 113) hx hb dX10_readName_106 (by decide) ?_
      exact w_X10_readName_b113 S hr hk hR X (lv_sub hl [] rfl) hg
  · have hg := (if_neg c86).symm.trans hg
    refine lv_aload_n hx hb dX10_readName_89 rfl (lv_at hl 0 rfl) ?_
    refine lv_iconst (v := 2) hx hb dX10_readName_90 (by decide) ?_
    refine wcpI_17 S X mG_517 dX10_readName_91 (fun H locs X => ?_)
    refine lv_goto (tgt := 116) hx hb dX10_readName_94 (by decide) ?_
    obtain ⟨-, rfl⟩ := fin_some hg
    exact gr_v S hr hk X dX10_readName_116
set_option maxHeartbeats 4000000 in
set_option maxRecDepth 100000 in
theorem w_X10_readName_b41 {σ : S5} {rec9 : Int32 → Int32 → Int32 → S5 → Option (Unit × S5)} {v1 : Int32} {v2 : Int32} {v3 : Int32} {H : Heap} {locs : List Loc} {ls : Array Slot} (S : CallFix p m c cX10_readName 4 s args uG RX10) (hr : meth.sig.returnType = none) (hk : meth.locks = false) (hR : 1 ≤ R.frames ∧ 21 ≤ R.locals)
    (hrec9 : ∀ (v1 : Int32) (v2 : Int32) (v3 : Int32) (σ : S5) (H : Heap) (locs : List Loc) (ls : Array Slot), gX (dC, dI) (tC kc) (wC ad kc sv) (zC ak) A s σ H locs → lv_has ls 4 [(0, .ref (ad 6)), (1, .int v1), (2, .int v2), (3, .int v3)] → rec9 v1 v2 v3 σ = some (r, τ) → W p l e R s m args below meth c H locs 0 0 (MQ below (gQv (dC, dI) (tC kc) (wC ad kc sv) A r τ) args s 0 0 A) (F0 m 9 ls []))
    (X : gX (dC, dI) (tC kc) (wC ad kc sv) (zC ak) A s σ H locs) (hl : lv_has ls 4 [(0, .ref (ad 6)), (1, .int v1), (2, .int v2), (3, .int v3)]) (hg : f_X10_readName_b41 rec9 v1 v2 v3 σ = some (r, τ)) : W p l e R s m args below meth c H locs 0 0 (MQ below (gQv (dC, dI) (tC kc) (wC ad kc sv) A r τ) args s 0 0 A) (F0 m 41 ls []) := by
  have hx := S.1
  have hb := S.2.1
  have hown := S.2.2.2.1
  have hu := S.2.2.2.2
  unfold f_X10_readName_b41 at hg
  refine lv_aload_n hx hb dX10_readName_41 rfl (lv_at hl 0 rfl) ?_
  refine lv_aload_n hx hb dX10_readName_42 rfl (lv_at hl 0 rfl) ?_
  refine wcgJ_0 (v := (gJ σ 0)) S X mG_523 rfl dX10_readName_43 ?_
  refine lv_bipush (v := 8) hx hb dX10_readName_46 (by decide) ?_
  refine lv_lshl (v := (j_lshl (gJ σ 0) 8)) hx hb dX10_readName_48 rfl ?_
  refine lv_iload_n hx hb dX10_readName_49 rfl (lv_at hl 3 rfl) ?_
  refine lv_i2l (v := ((v3).toInt64)) hx hb dX10_readName_50 rfl ?_
  refine lv_lor hx hb dX10_readName_51 ?_
  refine wcpJ_0 S X mG_523 dX10_readName_52 (fun H locs X => ?_)
  refine lv_aload_n hx hb dX10_readName_55 rfl (lv_at hl 0 rfl) ?_
  refine lv_dup hx hb dX10_readName_56 rfl ?_
  refine wcgI_16 (v := (gI σ 16)) S X mG_516 rfl dX10_readName_57 ?_
  refine lv_iconst (v := 1) hx hb dX10_readName_60 (by decide) ?_
  refine lv_iadd hx hb dX10_readName_61 ?_
  refine wcpI_16 S X mG_516 dX10_readName_62 (fun H locs X => ?_)
  refine lv_aload_n hx hb dX10_readName_65 rfl (lv_at hl 0 rfl) ?_
  refine wcgR_6_0 S X mG_515 dX10_readName_66 ?_
  refine lv_aload_n hx hb dX10_readName_69 rfl (lv_at hl 0 rfl) ?_
  refine wcgI_16 (v := ((gI σ 16) + 1)) S X mG_516 rfl dX10_readName_70 ?_
  obtain ⟨r73, τ73, hq73, hg⟩ := bd_some hg
  refine gc_Vi (As := [.int ((gI σ 16) + 1)]) (rest := []) (q0 := 0) (ci := 11) S X (k2_X8_signAt_text l dC dI ad kc sv hq73 H.size) cw_X8_signAt mG_926 rfl rfl rfl rfl rfl hl.1 (Nat.le_of_ble_eq_true rfl) dX10_readName_73 ⟨by omega, by omega⟩ (fun H locs X => ?_)
  refine lv_istore_n (lv' := [(3, .int r73), (0, .ref (ad 6)), (1, .int v1), (2, .int v2)]) hx hb dX10_readName_76 rfl hl (by decide) rfl (fun ls hl => ?_)
  refine lv_iinc (v := (v2 + 1)) (lv' := [(2, .int (v2 + 1)), (3, .int r73), (0, .ref (ad 6)), (1, .int v1)]) hx hb dX10_readName_77 hl (k := 3) rfl (by rfl) (by decide) rfl (fun ls hl => ?_)
  refine lv_goto (tgt := 9) hx hb dX10_readName_80 (by decide) ?_
  exact hrec9 _ _ _ _ _ _ _ X (lv_sub hl [2, 3, 0, 1] rfl) hg
set_option maxHeartbeats 4000000 in
set_option maxRecDepth 100000 in
theorem w_X10_readName_B9 {σ : S5} {rec9 : Int32 → Int32 → Int32 → S5 → Option (Unit × S5)} {v1 : Int32} {v2 : Int32} {v3 : Int32} {H : Heap} {locs : List Loc} {ls : Array Slot} (S : CallFix p m c cX10_readName 4 s args uG RX10) (hr : meth.sig.returnType = none) (hk : meth.locks = false) (hR : 1 ≤ R.frames ∧ 21 ≤ R.locals)
    (hrec9 : ∀ (v1 : Int32) (v2 : Int32) (v3 : Int32) (σ : S5) (H : Heap) (locs : List Loc) (ls : Array Slot), gX (dC, dI) (tC kc) (wC ad kc sv) (zC ak) A s σ H locs → lv_has ls 4 [(0, .ref (ad 6)), (1, .int v1), (2, .int v2), (3, .int v3)] → rec9 v1 v2 v3 σ = some (r, τ) → W p l e R s m args below meth c H locs 0 0 (MQ below (gQv (dC, dI) (tC kc) (wC ad kc sv) A r τ) args s 0 0 A) (F0 m 9 ls []))
    (X : gX (dC, dI) (tC kc) (wC ad kc sv) (zC ak) A s σ H locs) (hl : lv_has ls 4 [(0, .ref (ad 6)), (1, .int v1), (2, .int v2), (3, .int v3)]) (hg : f_X10_readName_B9 rec9 v1 v2 v3 σ = some (r, τ)) : W p l e R s m args below meth c H locs 0 0 (MQ below (gQv (dC, dI) (tC kc) (wC ad kc sv) A r τ) args s 0 0 A) (F0 m 9 ls []) := by
  have hx := S.1
  have hb := S.2.1
  have hown := S.2.2.2.1
  have hu := S.2.2.2.2
  unfold f_X10_readName_B9 at hg
  refine lv_aload_n hx hb dX10_readName_9 rfl (lv_at hl 0 rfl) ?_
  refine wcgI_16 (v := (gI σ 16)) S X mG_516 rfl dX10_readName_10 ?_
  refine lv_aload_n hx hb dX10_readName_13 rfl (lv_at hl 0 rfl) ?_
  refine wcgR_6_0 S X mG_515 dX10_readName_14 ?_
  refine wcgI_0 (v := (gI σ 0)) S X mG_265 rfl dX10_readName_17 ?_
  refine lv_icmp_ge (tgt := 83) hx hb dX10_readName_20 (by decide) (fun c20 => ?_) (fun c20 => ?_)
  · have hg := (if_pos c20).symm.trans hg
    exact w_X10_readName_b83 S hr hk hR X (lv_sub hl [0, 1, 2] rfl) hg
  · have hg := (if_neg c20).symm.trans hg
    refine lv_iload_n hx hb dX10_readName_23 rfl (lv_at hl 2 rfl) ?_
    refine lv_if_eq (tgt := 41) hx hb dX10_readName_24 (by decide) (fun c24 => ?_) (fun c24 => ?_)
    · have hg := (if_pos c24).symm.trans hg
      exact w_X10_readName_b41 S hr hk hR hrec9 X (lv_sub hl [0, 1, 2, 3] rfl) hg
    · have hg := (if_neg c24).symm.trans hg
      refine lv_iload_n hx hb dX10_readName_27 rfl (lv_at hl 3 rfl) ?_
      obtain ⟨r28, τ28, hq28, hg⟩ := bd_some hg
      refine gc_Si (As := [.int v3]) (rest := []) S X (k2_X10_isSmall l dC dI ad kc sv hq28 H.size) cw_X10_isSmall mG_930 rfl rfl hl.1 (Nat.le_of_ble_eq_true rfl) dX10_readName_28 ⟨by omega, by omega⟩ (fun H locs X => ?_)
      refine lv_if_ne (tgt := 41) hx hb dX10_readName_31 (by decide) (fun c31 => ?_) (fun c31 => ?_)
      · have hg := (if_neg c31).symm.trans hg
        exact w_X10_readName_b41 S hr hk hR hrec9 X (lv_sub hl [0, 1, 2, 3] rfl) hg
      · have hg := (if_pos c31).symm.trans hg
        refine lv_iload_n hx hb dX10_readName_34 rfl (lv_at hl 3 rfl) ?_
        obtain ⟨r35, τ35, hq35, hg⟩ := bd_some hg
        refine gc_Si (As := [.int v3]) (rest := []) S X (k2_X10_isDigit l dC dI ad kc sv hq35 H.size) cw_X10_isDigit mG_940 rfl rfl hl.1 (Nat.le_of_ble_eq_true rfl) dX10_readName_35 ⟨by omega, by omega⟩ (fun H locs X => ?_)
        refine lv_if_eq (tgt := 83) hx hb dX10_readName_38 (by decide) (fun c38 => ?_) (fun c38 => ?_)
        · have hg := (if_pos c38).symm.trans hg
          exact w_X10_readName_b83 S hr hk hR X (lv_sub hl [0, 1, 2] rfl) hg
        · have hg := (if_neg c38).symm.trans hg
          exact w_X10_readName_b41 S hr hk hR hrec9 X (lv_sub hl [0, 1, 2, 3] rfl) hg
set_option maxHeartbeats 4000000 in
set_option maxRecDepth 100000 in
theorem w_X10_readName_L9 (S : CallFix p m c cX10_readName 4 s args uG RX10) (hr : meth.sig.returnType = none) (hk : meth.locks = false) (hR : 1 ≤ R.frames ∧ 21 ≤ R.locals) : ∀ (n : Nat) (v1 : Int32) (v2 : Int32) (v3 : Int32) (σ : S5) (H : Heap) (locs : List Loc) (ls : Array Slot), gX (dC, dI) (tC kc) (wC ad kc sv) (zC ak) A s σ H locs → lv_has ls 4 [(0, .ref (ad 6)), (1, .int v1), (2, .int v2), (3, .int v3)] → f_X10_readName_L9  n v1 v2 v3 σ = some (r, τ) → W p l e R s m args below meth c H locs 0 0 (MQ below (gQv (dC, dI) (tC kc) (wC ad kc sv) A r τ) args s 0 0 A) (F0 m 9 ls []) := by
  intro n
  induction n with
  | zero => intro v1 v2 v3 σ H locs ls X hl hg; cases hg
  | succ n ih => intro v1 v2 v3 σ H locs ls X hl hg; exact w_X10_readName_B9 S hr hk hR ih X hl hg
set_option maxHeartbeats 4000000 in
set_option maxRecDepth 100000 in
theorem w_X10_readName {σ : S5} {a1 : Int32} {H : Heap} {locs : List Loc} {ls : Array Slot} (S : CallFix p m c cX10_readName 4 s args uG RX10) (hr : meth.sig.returnType = none) (hk : meth.locks = false) (hR : 1 ≤ R.frames ∧ 21 ≤ R.locals)
    (X : gX (dC, dI) (tC kc) (wC ad kc sv) (zC ak) A s σ H locs) (hl : lv_has ls 4 [(0, .ref (ad 6)), (1, .int a1)]) (hg : f_X10_readName a1 σ = some (r, τ)) : W p l e R s m args below meth c H locs 0 0 (MQ below (gQv (dC, dI) (tC kc) (wC ad kc sv) A r τ) args s 0 0 A) (F0 m 0 ls []) := by
  have hx := S.1
  have hb := S.2.1
  have hown := S.2.2.2.1
  have hu := S.2.2.2.2
  unfold f_X10_readName at hg
  refine lv_aload_n hx hb dX10_readName_0 rfl (lv_at hl 0 rfl) ?_
  refine lv_lconst (v := 0) hx hb dX10_readName_1 rfl ?_
  refine wcpJ_0 S X mG_523 dX10_readName_2 (fun H locs X => ?_)
  refine lv_iconst (v := 0) hx hb dX10_readName_5 (by decide) ?_
  refine lv_istore_n (lv' := [(2, .int 0), (0, .ref (ad 6)), (1, .int a1)]) hx hb dX10_readName_6 rfl hl (by decide) rfl (fun ls hl => ?_)
  refine lv_iload_n hx hb dX10_readName_7 rfl (lv_at hl 2 rfl) ?_
  refine lv_istore_n (lv' := [(3, .int a1), (2, .int 0), (0, .ref (ad 6)), (1, .int a1)]) hx hb dX10_readName_8 rfl hl (by decide) rfl (fun ls hl => ?_)
  exact w_X10_readName_L9 S hr hk hR _ _ _ _ _ _ _ _ X (lv_sub hl [2, 3, 1, 0] rfl) hg
end MX10_readName
set_option maxRecDepth 100000 in
theorem k2_X10_readName (l : Launch) (dC : Nat → ClassId) (dI : Nat → Nat → Nat) {ak : Nat → Nat} (ad : Nat → Nat) (kc : Nat → ClassId) (sv : Value) {σ τ : S5} {a1 : Int32} {r : Unit} (hg : f_X10_readName a1 σ = some (r, τ)) (sz : Nat) : Met l yX10_readName (Cond.code yX10_readName cX10_readName 4 none :: uG) { frames := 1, cells := 0, slots := 0, locals := 21 } (gPc (dC, dI) (tC kc) (wC ad kc sv) (zC ak) [.ref (ad 6), .int a1] σ sz) (gQv (dC, dI) (tC kc) (wC ad kc sv) (va_A (wC ad kc sv σ) sz) r τ) 0 0 (va_A (wC ad kc sv σ) sz) :=
  g_start (by decide) (Nat.le_of_ble_eq_true rfl) (fun p e s m below meth c ls S hr hk X hl => w_X10_readName S hr hk ⟨Nat.le_refl _, Nat.le_refl _⟩ X hl hg)
section MX10_readNumber
variable {p : Program} {l : Launch} {e : Env} {R : Room} {s : State} {m : MethodId} {args : Array Value} {below : List Frame} {meth : Method} {c : Code} {dC : Nat → ClassId} {dI : Nat → Nat → Nat} {ak : Nat → Nat} {A : Nat → Prop} {ad : Nat → Nat} {kc : Nat → ClassId} {sv : Value} {r : Unit} {τ : S5}
set_option maxHeartbeats 4000000 in
set_option maxRecDepth 100000 in
theorem w_X10_readNumber_b126 {σ : S5} {u0 : Int32} {H : Heap} {locs : List Loc} {ls : Array Slot} (S : CallFix p m c cX10_readNumber 5 s args uG RX10) (hr : meth.sig.returnType = none) (hk : meth.locks = false) (hR : 1 ≤ R.frames ∧ 21 ≤ R.locals)
    (X : gX (dC, dI) (tC kc) (wC ad kc sv) (zC ak) A s σ H locs) (hl : lv_has ls 5 []) (hg : f_X10_readNumber_b126 u0 σ = some (r, τ)) : W p l e R s m args below meth c H locs 0 0 (MQ below (gQv (dC, dI) (tC kc) (wC ad kc sv) A r τ) args s 0 0 A) (F0 m 126 ls [.int u0, .ref (ad 6)]) := by
  have hx := S.1
  have hb := S.2.1
  have hown := S.2.2.2.1
  have hu := S.2.2.2.2
  unfold f_X10_readNumber_b126 at hg
  refine wcpI_19 S X mG_522 dX10_readNumber_126 (fun H locs X => ?_)
  obtain ⟨-, rfl⟩ := fin_some hg
  exact gr_v S hr hk X dX10_readNumber_129
set_option maxHeartbeats 4000000 in
set_option maxRecDepth 100000 in
theorem w_X10_readNumber_b111 {σ : S5} {v1 : Int64} {v4 : Int32} {u0 : Int32} {H : Heap} {locs : List Loc} {ls : Array Slot} (S : CallFix p m c cX10_readNumber 5 s args uG RX10) (hr : meth.sig.returnType = none) (hk : meth.locks = false) (hR : 1 ≤ R.frames ∧ 21 ≤ R.locals)
    (X : gX (dC, dI) (tC kc) (wC ad kc sv) (zC ak) A s σ H locs) (hl : lv_has ls 5 [(0, .ref (ad 6)), (1, .long v1), (4, .int v4)]) (hg : f_X10_readNumber_b111 v1 v4 u0 σ = some (r, τ)) : W p l e R s m args below meth c H locs 0 0 (MQ below (gQv (dC, dI) (tC kc) (wC ad kc sv) A r τ) args s 0 0 A) (F0 m 111 ls [.int u0, .ref (ad 6)]) := by
  have hx := S.1
  have hb := S.2.1
  have hown := S.2.2.2.1
  have hu := S.2.2.2.2
  unfold f_X10_readNumber_b111 at hg
  refine wcpI_17 S X mG_517 dX10_readNumber_111 (fun H locs X => ?_)
  refine lv_aload_n hx hb dX10_readNumber_114 rfl (lv_at hl 0 rfl) ?_
  refine lv_iload hx hb dX10_readNumber_115 (lv_at hl 2 rfl) ?_
  refine lv_if_eq (tgt := 125) hx hb dX10_readNumber_117 (by decide) (fun c117 => ?_) (fun c117 => ?_)
  · have hg := (if_pos c117).symm.trans hg
    refine lv_iconst (v := 0) hx hb dX10_readNumber_125 (by decide) ?_
    exact w_X10_readNumber_b126 S hr hk hR X (lv_sub hl [] rfl) hg
  · have hg := (if_neg c117).symm.trans hg
    refine lv_lload_n hx hb dX10_readNumber_120 rfl (lv_at hl 1 rfl) ?_
    refine lv_l2i (v := ((v1 : Int64).toInt32)) hx hb dX10_readNumber_121 rfl ?_
    refine lv_goto (tgt := 126) hx hb dX10_readNumber_122 (by decide) ?_
    exact w_X10_readNumber_b126 S hr hk hR X (lv_sub hl [] rfl) hg
set_option maxHeartbeats 4000000 in
set_option maxRecDepth 100000 in
theorem w_X10_readNumber_b98 {σ : S5} {v1 : Int64} {u0 : Int32} {H : Heap} {locs : List Loc} {ls : Array Slot} (S : CallFix p m c cX10_readNumber 5 s args uG RX10) (hr : meth.sig.returnType = none) (hk : meth.locks = false) (hR : 1 ≤ R.frames ∧ 21 ≤ R.locals)
    (X : gX (dC, dI) (tC kc) (wC ad kc sv) (zC ak) A s σ H locs) (hl : lv_has ls 5 [(0, .ref (ad 6)), (1, .long v1)]) (hg : f_X10_readNumber_b98 v1 u0 σ = some (r, τ)) : W p l e R s m args below meth c H locs 0 0 (MQ below (gQv (dC, dI) (tC kc) (wC ad kc sv) A r τ) args s 0 0 A) (F0 m 98 ls [.int u0]) := by
  have hx := S.1
  have hb := S.2.1
  have hown := S.2.2.2.1
  have hu := S.2.2.2.2
  unfold f_X10_readNumber_b98 at hg
  refine lv_istore (lv' := [(4, .int u0), (0, .ref (ad 6)), (1, .long v1)]) hx hb dX10_readNumber_98 hl (by decide) rfl (fun ls hl => ?_)
  refine lv_aload_n hx hb dX10_readNumber_100 rfl (lv_at hl 1 rfl) ?_
  refine lv_iload hx hb dX10_readNumber_101 (lv_at hl 0 rfl) ?_
  refine lv_if_eq (tgt := 110) hx hb dX10_readNumber_103 (by decide) (fun c103 => ?_) (fun c103 => ?_)
  · have hg := (if_pos c103).symm.trans hg
    refine lv_iconst (v := 2) hx hb dX10_readNumber_110 (by decide) ?_
    exact w_X10_readNumber_b111 S hr hk hR X (lv_sub hl [1, 2, 0] rfl) hg
  · have hg := (if_neg c103).symm.trans hg
    refine lv_iconst (v := 5) hx hb dX10_readNumber_106 (by decide) ?_
    refine lv_goto (tgt := 111) hx hb dX10_readNumber_107 (by decide) ?_
    exact w_X10_readNumber_b111 S hr hk hR X (lv_sub hl [1, 2, 0] rfl) hg
set_option maxHeartbeats 4000000 in
set_option maxRecDepth 100000 in
theorem w_X10_readNumber_b97 {σ : S5} {v1 : Int64} {H : Heap} {locs : List Loc} {ls : Array Slot} (S : CallFix p m c cX10_readNumber 5 s args uG RX10) (hr : meth.sig.returnType = none) (hk : meth.locks = false) (hR : 1 ≤ R.frames ∧ 21 ≤ R.locals)
    (X : gX (dC, dI) (tC kc) (wC ad kc sv) (zC ak) A s σ H locs) (hl : lv_has ls 5 [(0, .ref (ad 6)), (1, .long v1)]) (hg : f_X10_readNumber_b97 v1 σ = some (r, τ)) : W p l e R s m args below meth c H locs 0 0 (MQ below (gQv (dC, dI) (tC kc) (wC ad kc sv) A r τ) args s 0 0 A) (F0 m 97 ls []) := by
  have hx := S.1
  have hb := S.2.1
  have hown := S.2.2.2.1
  have hu := S.2.2.2.2
  unfold f_X10_readNumber_b97 at hg
  refine lv_iconst (v := 0) hx hb dX10_readNumber_97 (by decide) ?_
  exact w_X10_readNumber_b98 S hr hk hR X (lv_sub hl [0, 1] rfl) hg
set_option maxHeartbeats 4000000 in
set_option maxRecDepth 100000 in
theorem w_X10_readNumber_b79 {σ : S5} {v1 : Int64} {v3 : Int32} {H : Heap} {locs : List Loc} {ls : Array Slot} (S : CallFix p m c cX10_readNumber 5 s args uG RX10) (hr : meth.sig.returnType = none) (hk : meth.locks = false) (hR : 1 ≤ R.frames ∧ 21 ≤ R.locals)
    (X : gX (dC, dI) (tC kc) (wC ad kc sv) (zC ak) A s σ H locs) (hl : lv_has ls 5 [(0, .ref (ad 6)), (1, .long v1), (3, .int v3)]) (hg : f_X10_readNumber_b79 v1 v3 σ = some (r, τ)) : W p l e R s m args below meth c H locs 0 0 (MQ below (gQv (dC, dI) (tC kc) (wC ad kc sv) A r τ) args s 0 0 A) (F0 m 79 ls []) := by
  have hx := S.1
  have hb := S.2.1
  have hown := S.2.2.2.1
  have hu := S.2.2.2.2
  unfold f_X10_readNumber_b79 at hg
  refine lv_iload_n hx hb dX10_readNumber_79 rfl (lv_at hl 2 rfl) ?_
  refine lv_bipush (v := 10) hx hb dX10_readNumber_80 (by decide) ?_
  refine lv_icmp_gt (tgt := 97) hx hb dX10_readNumber_82 (by decide) (fun c82 => ?_) (fun c82 => ?_)
  · have hg := (if_pos c82).symm.trans hg
    exact w_X10_readNumber_b97 S hr hk hR X (lv_sub hl [0, 1] rfl) hg
  · have hg := (if_neg c82).symm.trans hg
    refine lv_lload_n hx hb dX10_readNumber_85 rfl (lv_at hl 1 rfl) ?_
    refine lv_ldc2 (own := RX10) (v := 2147483647) hx hb hown (hu _ mG_958) dX10_readNumber_86 ?_
    refine W.lcmp hx hb dX10_readNumber_89 ?_
    refine lv_if_gt (tgt := 97) hx hb dX10_readNumber_90 (by decide) (fun c90 => ?_) (fun c90 => ?_)
    · have hg := (if_pos c90).symm.trans hg
      exact w_X10_readNumber_b97 S hr hk hR X (lv_sub hl [0, 1] rfl) hg
    · have hg := (if_neg c90).symm.trans hg
      refine lv_iconst (v := 1) hx hb dX10_readNumber_93 (by decide) ?_
      refine lv_goto (tgt := 98) hx hb dX10_readNumber_94 (by decide) ?_
      exact w_X10_readNumber_b98 S hr hk hR X (lv_sub hl [0, 1] rfl) hg
set_option maxHeartbeats 4000000 in
set_option maxRecDepth 100000 in
theorem w_X10_readNumber_b66 {σ : S5} {rec4 : Int64 → Int32 → S5 → Option (Unit × S5)} {v1 : Int64} {v3 : Int32} {H : Heap} {locs : List Loc} {ls : Array Slot} (S : CallFix p m c cX10_readNumber 5 s args uG RX10) (hr : meth.sig.returnType = none) (hk : meth.locks = false) (hR : 1 ≤ R.frames ∧ 21 ≤ R.locals)
    (hrec4 : ∀ (v1 : Int64) (v3 : Int32) (σ : S5) (H : Heap) (locs : List Loc) (ls : Array Slot), gX (dC, dI) (tC kc) (wC ad kc sv) (zC ak) A s σ H locs → lv_has ls 5 [(0, .ref (ad 6)), (1, .long v1), (3, .int v3)] → rec4 v1 v3 σ = some (r, τ) → W p l e R s m args below meth c H locs 0 0 (MQ below (gQv (dC, dI) (tC kc) (wC ad kc sv) A r τ) args s 0 0 A) (F0 m 4 ls []))
    (X : gX (dC, dI) (tC kc) (wC ad kc sv) (zC ak) A s σ H locs) (hl : lv_has ls 5 [(0, .ref (ad 6)), (1, .long v1), (3, .int v3)]) (hg : f_X10_readNumber_b66 rec4 v1 v3 σ = some (r, τ)) : W p l e R s m args below meth c H locs 0 0 (MQ below (gQv (dC, dI) (tC kc) (wC ad kc sv) A r τ) args s 0 0 A) (F0 m 66 ls []) := by
  have hx := S.1
  have hb := S.2.1
  have hown := S.2.2.2.1
  have hu := S.2.2.2.2
  unfold f_X10_readNumber_b66 at hg
  refine lv_aload_n hx hb dX10_readNumber_66 rfl (lv_at hl 0 rfl) ?_
  refine lv_dup hx hb dX10_readNumber_67 rfl ?_
  refine wcgI_16 (v := (gI σ 16)) S X mG_516 rfl dX10_readNumber_68 ?_
  refine lv_iconst (v := 1) hx hb dX10_readNumber_71 (by decide) ?_
  refine lv_iadd hx hb dX10_readNumber_72 ?_
  refine wcpI_16 S X mG_516 dX10_readNumber_73 (fun H locs X => ?_)
  refine lv_goto (tgt := 4) hx hb dX10_readNumber_76 (by decide) ?_
  exact hrec4 _ _ _ _ _ _ X (lv_sub hl [0, 1, 2] rfl) hg
set_option maxHeartbeats 4000000 in
set_option maxRecDepth 100000 in
theorem w_X10_readNumber_B4 {σ : S5} {rec4 : Int64 → Int32 → S5 → Option (Unit × S5)} {v1 : Int64} {v3 : Int32} {H : Heap} {locs : List Loc} {ls : Array Slot} (S : CallFix p m c cX10_readNumber 5 s args uG RX10) (hr : meth.sig.returnType = none) (hk : meth.locks = false) (hR : 1 ≤ R.frames ∧ 21 ≤ R.locals)
    (hrec4 : ∀ (v1 : Int64) (v3 : Int32) (σ : S5) (H : Heap) (locs : List Loc) (ls : Array Slot), gX (dC, dI) (tC kc) (wC ad kc sv) (zC ak) A s σ H locs → lv_has ls 5 [(0, .ref (ad 6)), (1, .long v1), (3, .int v3)] → rec4 v1 v3 σ = some (r, τ) → W p l e R s m args below meth c H locs 0 0 (MQ below (gQv (dC, dI) (tC kc) (wC ad kc sv) A r τ) args s 0 0 A) (F0 m 4 ls []))
    (X : gX (dC, dI) (tC kc) (wC ad kc sv) (zC ak) A s σ H locs) (hl : lv_has ls 5 [(0, .ref (ad 6)), (1, .long v1), (3, .int v3)]) (hg : f_X10_readNumber_B4 rec4 v1 v3 σ = some (r, τ)) : W p l e R s m args below meth c H locs 0 0 (MQ below (gQv (dC, dI) (tC kc) (wC ad kc sv) A r τ) args s 0 0 A) (F0 m 4 ls []) := by
  have hx := S.1
  have hb := S.2.1
  have hown := S.2.2.2.1
  have hu := S.2.2.2.2
  unfold f_X10_readNumber_B4 at hg
  refine lv_aload_n hx hb dX10_readNumber_4 rfl (lv_at hl 0 rfl) ?_
  refine wcgI_16 (v := (gI σ 16)) S X mG_516 rfl dX10_readNumber_5 ?_
  refine lv_aload_n hx hb dX10_readNumber_8 rfl (lv_at hl 0 rfl) ?_
  refine wcgR_6_0 S X mG_515 dX10_readNumber_9 ?_
  refine wcgI_0 (v := (gI σ 0)) S X mG_265 rfl dX10_readNumber_12 ?_
  refine lv_icmp_ge (tgt := 79) hx hb dX10_readNumber_15 (by decide) (fun c15 => ?_) (fun c15 => ?_)
  · have hg := (if_pos c15).symm.trans hg
    exact w_X10_readNumber_b79 S hr hk hR X (lv_sub hl [0, 1, 2] rfl) hg
  · have hg := (if_neg c15).symm.trans hg
    refine lv_aload_n hx hb dX10_readNumber_18 rfl (lv_at hl 0 rfl) ?_
    refine wcgR_6_0 S X mG_515 dX10_readNumber_19 ?_
    refine lv_aload_n hx hb dX10_readNumber_22 rfl (lv_at hl 0 rfl) ?_
    refine wcgI_16 (v := (gI σ 16)) S X mG_516 rfl dX10_readNumber_23 ?_
    obtain ⟨r26, τ26, hq26, hg⟩ := bd_some hg
    refine gc_Vi (As := [.int (gI σ 16)]) (rest := []) (q0 := 0) (ci := 11) S X (k2_X8_signAt_text l dC dI ad kc sv hq26 H.size) cw_X8_signAt mG_926 rfl rfl rfl rfl rfl hl.1 (Nat.le_of_ble_eq_true rfl) dX10_readNumber_26 ⟨by omega, by omega⟩ (fun H locs X => ?_)
    obtain ⟨r29, τ29, hq29, hg⟩ := bd_some hg
    refine gc_Si (As := [.int r26]) (rest := []) S X (k2_X10_isDigit l dC dI ad kc sv hq29 H.size) cw_X10_isDigit mG_940 rfl rfl hl.1 (Nat.le_of_ble_eq_true rfl) dX10_readNumber_29 ⟨by omega, by omega⟩ (fun H locs X => ?_)
    refine lv_if_eq (tgt := 79) hx hb dX10_readNumber_32 (by decide) (fun c32 => ?_) (fun c32 => ?_)
    · have hg := (if_pos c32).symm.trans hg
      exact w_X10_readNumber_b79 S hr hk hR X (lv_sub hl [0, 1, 2] rfl) hg
    · have hg := (if_neg c32).symm.trans hg
      refine lv_iinc (v := (v3 + 1)) (lv' := [(3, .int (v3 + 1)), (0, .ref (ad 6)), (1, .long v1)]) hx hb dX10_readNumber_35 hl (k := 2) rfl (by rfl) (by decide) rfl (fun ls hl => ?_)
      refine lv_iload_n hx hb dX10_readNumber_38 rfl (lv_at hl 0 rfl) ?_
      refine lv_bipush (v := 10) hx hb dX10_readNumber_39 (by decide) ?_
      refine lv_icmp_gt (tgt := 66) hx hb dX10_readNumber_41 (by decide) (fun c41 => ?_) (fun c41 => ?_)
      · have hg := (if_pos c41).symm.trans hg
        exact w_X10_readNumber_b66 S hr hk hR hrec4 X (lv_sub hl [1, 2, 0] rfl) hg
      · have hg := (if_neg c41).symm.trans hg
        refine lv_lload_n hx hb dX10_readNumber_44 rfl (lv_at hl 2 rfl) ?_
        refine lv_ldc2 (own := RX10) (v := 10) hx hb hown (hu _ mG_957) dX10_readNumber_45 ?_
        refine lv_lmul hx hb dX10_readNumber_48 ?_
        refine lv_aload_n hx hb dX10_readNumber_49 rfl (lv_at hl 1 rfl) ?_
        refine wcgR_6_0 S X mG_515 dX10_readNumber_50 ?_
        refine lv_aload_n hx hb dX10_readNumber_53 rfl (lv_at hl 1 rfl) ?_
        refine wcgI_16 (v := (gI τ29 16)) S X mG_516 rfl dX10_readNumber_54 ?_
        obtain ⟨r57, τ57, hq57, hg⟩ := bd_some hg
        refine gc_Vi (As := [.int (gI τ29 16)]) (rest := [.long (v1 * 10)]) (q0 := 0) (ci := 11) S X (k2_X8_signAt_text l dC dI ad kc sv hq57 H.size) cw_X8_signAt mG_926 rfl rfl rfl rfl rfl hl.1 (Nat.le_of_ble_eq_true rfl) dX10_readNumber_57 ⟨by omega, by omega⟩ (fun H locs X => ?_)
        refine lv_bipush (v := 48) hx hb dX10_readNumber_60 (by decide) ?_
        refine lv_isub hx hb dX10_readNumber_62 ?_
        refine lv_i2l (v := (((r57 - 48)).toInt64)) hx hb dX10_readNumber_63 rfl ?_
        refine lv_ladd hx hb dX10_readNumber_64 ?_
        refine lv_lstore_n (lv' := [(1, .long ((v1 * 10) + (((r57 - 48)).toInt64))), (3, .int (v3 + 1)), (0, .ref (ad 6))]) hx hb dX10_readNumber_65 rfl hl (by decide) rfl (fun ls hl => ?_)
        exact w_X10_readNumber_b66 S hr hk hR hrec4 X (lv_sub hl [2, 0, 1] rfl) hg
set_option maxHeartbeats 4000000 in
set_option maxRecDepth 100000 in
theorem w_X10_readNumber_L4 (S : CallFix p m c cX10_readNumber 5 s args uG RX10) (hr : meth.sig.returnType = none) (hk : meth.locks = false) (hR : 1 ≤ R.frames ∧ 21 ≤ R.locals) : ∀ (n : Nat) (v1 : Int64) (v3 : Int32) (σ : S5) (H : Heap) (locs : List Loc) (ls : Array Slot), gX (dC, dI) (tC kc) (wC ad kc sv) (zC ak) A s σ H locs → lv_has ls 5 [(0, .ref (ad 6)), (1, .long v1), (3, .int v3)] → f_X10_readNumber_L4  n v1 v3 σ = some (r, τ) → W p l e R s m args below meth c H locs 0 0 (MQ below (gQv (dC, dI) (tC kc) (wC ad kc sv) A r τ) args s 0 0 A) (F0 m 4 ls []) := by
  intro n
  induction n with
  | zero => intro v1 v3 σ H locs ls X hl hg; cases hg
  | succ n ih => intro v1 v3 σ H locs ls X hl hg; exact w_X10_readNumber_B4 S hr hk hR ih X hl hg
set_option maxHeartbeats 4000000 in
set_option maxRecDepth 100000 in
theorem w_X10_readNumber {σ : S5}  {H : Heap} {locs : List Loc} {ls : Array Slot} (S : CallFix p m c cX10_readNumber 5 s args uG RX10) (hr : meth.sig.returnType = none) (hk : meth.locks = false) (hR : 1 ≤ R.frames ∧ 21 ≤ R.locals)
    (X : gX (dC, dI) (tC kc) (wC ad kc sv) (zC ak) A s σ H locs) (hl : lv_has ls 5 [(0, .ref (ad 6))]) (hg : f_X10_readNumber  σ = some (r, τ)) : W p l e R s m args below meth c H locs 0 0 (MQ below (gQv (dC, dI) (tC kc) (wC ad kc sv) A r τ) args s 0 0 A) (F0 m 0 ls []) := by
  have hx := S.1
  have hb := S.2.1
  have hown := S.2.2.2.1
  have hu := S.2.2.2.2
  unfold f_X10_readNumber at hg
  refine lv_lconst (v := 0) hx hb dX10_readNumber_0 rfl ?_
  refine lv_lstore_n (lv' := [(1, .long 0), (0, .ref (ad 6))]) hx hb dX10_readNumber_1 rfl hl (by decide) rfl (fun ls hl => ?_)
  refine lv_iconst (v := 0) hx hb dX10_readNumber_2 (by decide) ?_
  refine lv_istore_n (lv' := [(3, .int 0), (1, .long 0), (0, .ref (ad 6))]) hx hb dX10_readNumber_3 rfl hl (by decide) rfl (fun ls hl => ?_)
  exact w_X10_readNumber_L4 S hr hk hR _ _ _ _ _ _ _ X (lv_sub hl [2, 1, 0] rfl) hg
end MX10_readNumber
set_option maxRecDepth 100000 in
theorem k2_X10_readNumber (l : Launch) (dC : Nat → ClassId) (dI : Nat → Nat → Nat) {ak : Nat → Nat} (ad : Nat → Nat) (kc : Nat → ClassId) (sv : Value) {σ τ : S5}  {r : Unit} (hg : f_X10_readNumber  σ = some (r, τ)) (sz : Nat) : Met l yX10_readNumber (Cond.code yX10_readNumber cX10_readNumber 5 none :: uG) { frames := 1, cells := 0, slots := 0, locals := 21 } (gPc (dC, dI) (tC kc) (wC ad kc sv) (zC ak) [.ref (ad 6)] σ sz) (gQv (dC, dI) (tC kc) (wC ad kc sv) (va_A (wC ad kc sv σ) sz) r τ) 0 0 (va_A (wC ad kc sv σ) sz) :=
  g_start (by decide) (Nat.le_of_ble_eq_true rfl) (fun p e s m below meth c ls S hr hk X hl => w_X10_readNumber S hr hk ⟨Nat.le_refl _, Nat.le_refl _⟩ X hl hg)
section MX10_readSign
variable {p : Program} {l : Launch} {e : Env} {R : Room} {s : State} {m : MethodId} {args : Array Value} {below : List Frame} {meth : Method} {c : Code} {dC : Nat → ClassId} {dI : Nat → Nat → Nat} {ak : Nat → Nat} {A : Nat → Prop} {ad : Nat → Nat} {kc : Nat → ClassId} {sv : Value} {r : Unit} {τ : S5}
set_option maxHeartbeats 4000000 in
set_option maxRecDepth 100000 in
theorem w_X10_readSign_b119 {σ : S5} {u0 : Int32} {u1 : Int32} {H : Heap} {locs : List Loc} {ls : Array Slot} (S : CallFix p m c cX10_readSign 3 s args uG RX10) (hr : meth.sig.returnType = none) (hk : meth.locks = false) (hR : 4 ≤ R.frames ∧ 91 ≤ R.locals)
    (X : gX (dC, dI) (tC kc) (wC ad kc sv) (zC ak) A s σ H locs) (hl : lv_has ls 3 []) (hg : f_X10_readSign_b119 u0 u1 σ = some (r, τ)) : W p l e R s m args below meth c H locs 0 0 (MQ below (gQv (dC, dI) (tC kc) (wC ad kc sv) A r τ) args s 0 0 A) (F0 m 119 ls [.int u0, .int u1, .ref (ad 6)]) := by
  have hx := S.1
  have hb := S.2.1
  have hown := S.2.2.2.1
  have hu := S.2.2.2.2
  unfold f_X10_readSign_b119 at hg
  refine lv_iadd hx hb dX10_readSign_119 ?_
  refine wcpI_16 S X mG_516 dX10_readSign_120 (fun H locs X => ?_)
  obtain ⟨-, rfl⟩ := fin_some hg
  exact gr_v S hr hk X dX10_readSign_123
set_option maxHeartbeats 4000000 in
set_option maxRecDepth 100000 in
theorem w_X10_readSign_b99 {σ : S5}  {H : Heap} {locs : List Loc} {ls : Array Slot} (S : CallFix p m c cX10_readSign 3 s args uG RX10) (hr : meth.sig.returnType = none) (hk : meth.locks = false) (hR : 4 ≤ R.frames ∧ 91 ≤ R.locals)
    (X : gX (dC, dI) (tC kc) (wC ad kc sv) (zC ak) A s σ H locs) (hl : lv_has ls 3 [(0, .ref (ad 6))]) (hg : f_X10_readSign_b99  σ = some (r, τ)) : W p l e R s m args below meth c H locs 0 0 (MQ below (gQv (dC, dI) (tC kc) (wC ad kc sv) A r τ) args s 0 0 A) (F0 m 99 ls []) := by
  have hx := S.1
  have hb := S.2.1
  have hown := S.2.2.2.1
  have hu := S.2.2.2.2
  unfold f_X10_readSign_b99 at hg
  refine lv_aload_n hx hb dX10_readSign_99 rfl (lv_at hl 0 rfl) ?_
  refine lv_dup hx hb dX10_readSign_100 rfl ?_
  refine wcgI_16 (v := (gI σ 16)) S X mG_516 rfl dX10_readSign_101 ?_
  refine lv_aload_n hx hb dX10_readSign_104 rfl (lv_at hl 0 rfl) ?_
  refine wcgI_17 (v := (gI σ 17)) S X mG_517 rfl dX10_readSign_105 ?_
  refine lv_sipush (v := 128) hx hb dX10_readSign_108 (by decide) ?_
  refine lv_icmp_lt (tgt := 118) hx hb dX10_readSign_111 (by decide) (fun c111 => ?_) (fun c111 => ?_)
  · have hg := (if_pos c111).symm.trans hg
    refine lv_iconst (v := 1) hx hb dX10_readSign_118 (by decide) ?_
    exact w_X10_readSign_b119 S hr hk hR X (lv_sub hl [] rfl) hg
  · have hg := (if_neg c111).symm.trans hg
    refine lv_iconst (v := 2) hx hb dX10_readSign_114 (by decide) ?_
    refine lv_goto (tgt := 119) hx hb dX10_readSign_115 (by decide) ?_
    exact w_X10_readSign_b119 S hr hk hR X (lv_sub hl [] rfl) hg
set_option maxHeartbeats 4000000 in
set_option maxRecDepth 100000 in
theorem w_X10_readSign_b96 {σ : S5} {u0 : Int32} {H : Heap} {locs : List Loc} {ls : Array Slot} (S : CallFix p m c cX10_readSign 3 s args uG RX10) (hr : meth.sig.returnType = none) (hk : meth.locks = false) (hR : 4 ≤ R.frames ∧ 91 ≤ R.locals)
    (X : gX (dC, dI) (tC kc) (wC ad kc sv) (zC ak) A s σ H locs) (hl : lv_has ls 3 [(0, .ref (ad 6))]) (hg : f_X10_readSign_b96 u0 σ = some (r, τ)) : W p l e R s m args below meth c H locs 0 0 (MQ below (gQv (dC, dI) (tC kc) (wC ad kc sv) A r τ) args s 0 0 A) (F0 m 96 ls [.int u0, .ref (ad 6)]) := by
  have hx := S.1
  have hb := S.2.1
  have hown := S.2.2.2.1
  have hu := S.2.2.2.2
  unfold f_X10_readSign_b96 at hg
  refine wcpI_17 S X mG_517 dX10_readSign_96 (fun H locs X => ?_)
  exact w_X10_readSign_b99 S hr hk hR X (lv_sub hl [0] rfl) hg
set_option maxHeartbeats 4000000 in
set_option maxRecDepth 100000 in
theorem w_X10_readSign_b80 {σ : S5} {v1 : Int32} {H : Heap} {locs : List Loc} {ls : Array Slot} (S : CallFix p m c cX10_readSign 3 s args uG RX10) (hr : meth.sig.returnType = none) (hk : meth.locks = false) (hR : 4 ≤ R.frames ∧ 91 ≤ R.locals)
    (X : gX (dC, dI) (tC kc) (wC ad kc sv) (zC ak) A s σ H locs) (hl : lv_has ls 3 [(0, .ref (ad 6)), (1, .int v1)]) (hg : f_X10_readSign_b80 v1 σ = some (r, τ)) : W p l e R s m args below meth c H locs 0 0 (MQ below (gQv (dC, dI) (tC kc) (wC ad kc sv) A r τ) args s 0 0 A) (F0 m 80 ls []) := by
  have hx := S.1
  have hb := S.2.1
  have hown := S.2.2.2.1
  have hu := S.2.2.2.2
  unfold f_X10_readSign_b80 at hg
  refine lv_aload_n hx hb dX10_readSign_80 rfl (lv_at hl 0 rfl) ?_
  refine va_ldcS hx hb hown (zR_0 X) dX10_readSign_81 ?_
  refine lv_iload_n hx hb dX10_readSign_83 rfl (lv_at hl 1 rfl) ?_
  refine lv_i2c (v := (((v1).toUInt32 % 65536).toInt32)) hx hb dX10_readSign_84 rfl ?_
  obtain ⟨r85, τ85, hq85, hg⟩ := bd_some hg
  obtain ⟨hs85, hg⟩ := gs_some hg
  refine gc_Wi (As := [.int (((v1).toUInt32 % 65536).toInt32)]) (rest := [.ref (ad 6)]) S X (k2_J0_indexOf_0f7a4 l dC dI ad kc sv hq85 H.size) cw_J0_indexOf_0f7a4 mG_964 rfl (vk_recv (adK := fun i => ak (2 * i)) (i := 0) X.2.2.2.2.2.1.1 hs85 X.2.2.2.1) rfl hl.1 (Nat.le_of_ble_eq_true rfl) dX10_readSign_85 ⟨by omega, by omega⟩ (fun H locs X => ?_)
  refine lv_if_lt (tgt := 95) hx hb dX10_readSign_88 (by decide) (fun c88 => ?_) (fun c88 => ?_)
  · have hg := (if_pos c88).symm.trans hg
    refine lv_iconst (v := 2) hx hb dX10_readSign_95 (by decide) ?_
    exact w_X10_readSign_b96 S hr hk hR X (lv_sub hl [0] rfl) hg
  · have hg := (if_neg c88).symm.trans hg
    refine lv_iload_n hx hb dX10_readSign_91 rfl (lv_at hl 1 rfl) ?_
    refine lv_goto (tgt := 96) hx hb dX10_readSign_92 (by decide) ?_
    exact w_X10_readSign_b96 S hr hk hR X (lv_sub hl [0] rfl) hg
set_option maxHeartbeats 4000000 in
set_option maxRecDepth 100000 in
theorem w_X10_readSign_b58 {σ : S5} {v1 : Int32} {v2 : Int32} {H : Heap} {locs : List Loc} {ls : Array Slot} (S : CallFix p m c cX10_readSign 3 s args uG RX10) (hr : meth.sig.returnType = none) (hk : meth.locks = false) (hR : 4 ≤ R.frames ∧ 91 ≤ R.locals)
    (X : gX (dC, dI) (tC kc) (wC ad kc sv) (zC ak) A s σ H locs) (hl : lv_has ls 3 [(0, .ref (ad 6)), (1, .int v1), (2, .int v2)]) (hg : f_X10_readSign_b58 v1 v2 σ = some (r, τ)) : W p l e R s m args below meth c H locs 0 0 (MQ below (gQv (dC, dI) (tC kc) (wC ad kc sv) A r τ) args s 0 0 A) (F0 m 58 ls []) := by
  have hx := S.1
  have hb := S.2.1
  have hown := S.2.2.2.1
  have hu := S.2.2.2.2
  unfold f_X10_readSign_b58 at hg
  refine lv_iload_n hx hb dX10_readSign_58 rfl (lv_at hl 1 rfl) ?_
  refine lv_bipush (v := 60) hx hb dX10_readSign_59 (by decide) ?_
  refine lv_icmp_ne (tgt := 80) hx hb dX10_readSign_61 (by decide) (fun c61 => ?_) (fun c61 => ?_)
  · have hg := (if_neg c61).symm.trans hg
    exact w_X10_readSign_b80 S hr hk hR X (lv_sub hl [0, 1] rfl) hg
  · have hg := (if_pos c61).symm.trans hg
    refine lv_iload_n hx hb dX10_readSign_64 rfl (lv_at hl 2 rfl) ?_
    refine lv_bipush (v := 61) hx hb dX10_readSign_65 (by decide) ?_
    refine lv_icmp_ne (tgt := 80) hx hb dX10_readSign_67 (by decide) (fun c67 => ?_) (fun c67 => ?_)
    · have hg := (if_neg c67).symm.trans hg
      exact w_X10_readSign_b80 S hr hk hR X (lv_sub hl [0, 1] rfl) hg
    · have hg := (if_pos c67).symm.trans hg
      refine lv_aload_n hx hb dX10_readSign_70 rfl (lv_at hl 0 rfl) ?_
      refine lv_sipush (v := 130) hx hb dX10_readSign_71 (by decide) ?_
      refine wcpI_17 S X mG_517 dX10_readSign_74 (fun H locs X => ?_)
      refine lv_goto (tgt := 99) hx hb dX10_readSign_77 (by decide) ?_
      exact w_X10_readSign_b99 S hr hk hR X (lv_sub hl [0] rfl) hg
set_option maxHeartbeats 4000000 in
set_option maxRecDepth 100000 in
theorem w_X10_readSign_b36 {σ : S5} {v1 : Int32} {v2 : Int32} {H : Heap} {locs : List Loc} {ls : Array Slot} (S : CallFix p m c cX10_readSign 3 s args uG RX10) (hr : meth.sig.returnType = none) (hk : meth.locks = false) (hR : 4 ≤ R.frames ∧ 91 ≤ R.locals)
    (X : gX (dC, dI) (tC kc) (wC ad kc sv) (zC ak) A s σ H locs) (hl : lv_has ls 3 [(0, .ref (ad 6)), (1, .int v1), (2, .int v2)]) (hg : f_X10_readSign_b36 v1 v2 σ = some (r, τ)) : W p l e R s m args below meth c H locs 0 0 (MQ below (gQv (dC, dI) (tC kc) (wC ad kc sv) A r τ) args s 0 0 A) (F0 m 36 ls []) := by
  have hx := S.1
  have hb := S.2.1
  have hown := S.2.2.2.1
  have hu := S.2.2.2.2
  unfold f_X10_readSign_b36 at hg
  refine lv_iload_n hx hb dX10_readSign_36 rfl (lv_at hl 1 rfl) ?_
  refine lv_bipush (v := 61) hx hb dX10_readSign_37 (by decide) ?_
  refine lv_icmp_ne (tgt := 58) hx hb dX10_readSign_39 (by decide) (fun c39 => ?_) (fun c39 => ?_)
  · have hg := (if_neg c39).symm.trans hg
    exact w_X10_readSign_b58 S hr hk hR X (lv_sub hl [0, 1, 2] rfl) hg
  · have hg := (if_pos c39).symm.trans hg
    refine lv_iload_n hx hb dX10_readSign_42 rfl (lv_at hl 2 rfl) ?_
    refine lv_bipush (v := 61) hx hb dX10_readSign_43 (by decide) ?_
    refine lv_icmp_ne (tgt := 58) hx hb dX10_readSign_45 (by decide) (fun c45 => ?_) (fun c45 => ?_)
    · have hg := (if_neg c45).symm.trans hg
      exact w_X10_readSign_b58 S hr hk hR X (lv_sub hl [0, 1, 2] rfl) hg
    · have hg := (if_pos c45).symm.trans hg
      refine lv_aload_n hx hb dX10_readSign_48 rfl (lv_at hl 0 rfl) ?_
      refine lv_sipush (v := 129) hx hb dX10_readSign_49 (by decide) ?_
      refine wcpI_17 S X mG_517 dX10_readSign_52 (fun H locs X => ?_)
      refine lv_goto (tgt := 99) hx hb dX10_readSign_55 (by decide) ?_
      exact w_X10_readSign_b99 S hr hk hR X (lv_sub hl [0] rfl) hg
set_option maxHeartbeats 4000000 in
set_option maxRecDepth 100000 in
theorem w_X10_readSign {σ : S5} {a1 : Int32} {H : Heap} {locs : List Loc} {ls : Array Slot} (S : CallFix p m c cX10_readSign 3 s args uG RX10) (hr : meth.sig.returnType = none) (hk : meth.locks = false) (hR : 4 ≤ R.frames ∧ 91 ≤ R.locals)
    (X : gX (dC, dI) (tC kc) (wC ad kc sv) (zC ak) A s σ H locs) (hl : lv_has ls 3 [(0, .ref (ad 6)), (1, .int a1)]) (hg : f_X10_readSign a1 σ = some (r, τ)) : W p l e R s m args below meth c H locs 0 0 (MQ below (gQv (dC, dI) (tC kc) (wC ad kc sv) A r τ) args s 0 0 A) (F0 m 0 ls []) := by
  have hx := S.1
  have hb := S.2.1
  have hown := S.2.2.2.1
  have hu := S.2.2.2.2
  unfold f_X10_readSign at hg
  refine lv_aload_n hx hb dX10_readSign_0 rfl (lv_at hl 0 rfl) ?_
  refine wcgR_6_0 S X mG_515 dX10_readSign_1 ?_
  refine lv_aload_n hx hb dX10_readSign_4 rfl (lv_at hl 0 rfl) ?_
  refine wcgI_16 (v := (gI σ 16)) S X mG_516 rfl dX10_readSign_5 ?_
  refine lv_iconst (v := 1) hx hb dX10_readSign_8 (by decide) ?_
  refine lv_iadd hx hb dX10_readSign_9 ?_
  obtain ⟨r10, τ10, hq10, hg⟩ := bd_some hg
  refine gc_Vi (As := [.int ((gI σ 16) + 1)]) (rest := []) (q0 := 0) (ci := 11) S X (k2_X8_signAt_text l dC dI ad kc sv hq10 H.size) cw_X8_signAt mG_926 rfl rfl rfl rfl rfl hl.1 (Nat.le_of_ble_eq_true rfl) dX10_readSign_10 ⟨by omega, by omega⟩ (fun H locs X => ?_)
  refine lv_istore_n (lv' := [(2, .int r10), (0, .ref (ad 6)), (1, .int a1)]) hx hb dX10_readSign_13 rfl hl (by decide) rfl (fun ls hl => ?_)
  refine lv_iload_n hx hb dX10_readSign_14 rfl (lv_at hl 2 rfl) ?_
  refine lv_bipush (v := 45) hx hb dX10_readSign_15 (by decide) ?_
  refine lv_icmp_ne (tgt := 36) hx hb dX10_readSign_17 (by decide) (fun c17 => ?_) (fun c17 => ?_)
  · have hg := (if_neg c17).symm.trans hg
    exact w_X10_readSign_b36 S hr hk hR X (lv_sub hl [1, 2, 0] rfl) hg
  · have hg := (if_pos c17).symm.trans hg
    refine lv_iload_n hx hb dX10_readSign_20 rfl (lv_at hl 0 rfl) ?_
    refine lv_bipush (v := 62) hx hb dX10_readSign_21 (by decide) ?_
    refine lv_icmp_ne (tgt := 36) hx hb dX10_readSign_23 (by decide) (fun c23 => ?_) (fun c23 => ?_)
    · have hg := (if_neg c23).symm.trans hg
      exact w_X10_readSign_b36 S hr hk hR X (lv_sub hl [1, 2, 0] rfl) hg
    · have hg := (if_pos c23).symm.trans hg
      refine lv_aload_n hx hb dX10_readSign_26 rfl (lv_at hl 1 rfl) ?_
      refine lv_sipush (v := 128) hx hb dX10_readSign_27 (by decide) ?_
      refine wcpI_17 S X mG_517 dX10_readSign_30 (fun H locs X => ?_)
      refine lv_goto (tgt := 99) hx hb dX10_readSign_33 (by decide) ?_
      exact w_X10_readSign_b99 S hr hk hR X (lv_sub hl [1] rfl) hg
end MX10_readSign
set_option maxRecDepth 100000 in
theorem k2_X10_readSign (l : Launch) (dC : Nat → ClassId) (dI : Nat → Nat → Nat) {ak : Nat → Nat} (ad : Nat → Nat) (kc : Nat → ClassId) (sv : Value) {σ τ : S5} {a1 : Int32} {r : Unit} (hg : f_X10_readSign a1 σ = some (r, τ)) (sz : Nat) : Met l yX10_readSign (Cond.code yX10_readSign cX10_readSign 3 none :: uG) { frames := 4, cells := 0, slots := 0, locals := 91 } (gPc (dC, dI) (tC kc) (wC ad kc sv) (zC ak) [.ref (ad 6), .int a1] σ sz) (gQv (dC, dI) (tC kc) (wC ad kc sv) (va_A (wC ad kc sv σ) sz) r τ) 0 0 (va_A (wC ad kc sv σ) sz) :=
  g_start (by decide) (Nat.le_of_ble_eq_true rfl) (fun p e s m below meth c ls S hr hk X hl => w_X10_readSign S hr hk ⟨Nat.le_refl _, Nat.le_refl _⟩ X hl hg)
section MX10_advance
variable {p : Program} {l : Launch} {e : Env} {R : Room} {s : State} {m : MethodId} {args : Array Value} {below : List Frame} {meth : Method} {c : Code} {dC : Nat → ClassId} {dI : Nat → Nat → Nat} {ak : Nat → Nat} {A : Nat → Prop} {ad : Nat → Nat} {kc : Nat → ClassId} {sv : Value} {r : Unit} {τ : S5}
set_option maxHeartbeats 4000000 in
set_option maxRecDepth 100000 in
theorem w_X10_advance_b59 {σ : S5} {v1 : Int32} {H : Heap} {locs : List Loc} {ls : Array Slot} (S : CallFix p m c cX10_advance 2 s args uG RX10) (hr : meth.sig.returnType = none) (hk : meth.locks = false) (hR : 5 ≤ R.frames ∧ 113 ≤ R.locals)
    (X : gX (dC, dI) (tC kc) (wC ad kc sv) (zC ak) A s σ H locs) (hl : lv_has ls 2 [(0, .ref (ad 6)), (1, .int v1)]) (hg : f_X10_advance_b59 v1 σ = some (r, τ)) : W p l e R s m args below meth c H locs 0 0 (MQ below (gQv (dC, dI) (tC kc) (wC ad kc sv) A r τ) args s 0 0 A) (F0 m 59 ls []) := by
  have hx := S.1
  have hb := S.2.1
  have hown := S.2.2.2.1
  have hu := S.2.2.2.2
  unfold f_X10_advance_b59 at hg
  refine lv_aload_n hx hb dX10_advance_59 rfl (lv_at hl 0 rfl) ?_
  refine lv_iload_n hx hb dX10_advance_60 rfl (lv_at hl 1 rfl) ?_
  obtain ⟨r61, τ61, hq61, hg⟩ := bd_some hg
  refine gc_Vv (As := [.int v1]) (rest := []) (q0 := 6) (ci := 13) S X (k2_X10_readName l dC dI ad kc sv hq61 H.size) cw_X10_readName mG_936 rfl rfl rfl rfl rfl hl.1 (Nat.le_of_ble_eq_true rfl) dX10_advance_61 ⟨by omega, by omega⟩ (fun H locs X => ?_)
  refine lv_goto (tgt := 86) hx hb dX10_advance_64 (by decide) ?_
  obtain ⟨-, rfl⟩ := fin_some hg
  exact gr_v S hr hk X dX10_advance_86
set_option maxHeartbeats 4000000 in
set_option maxRecDepth 100000 in
theorem w_X10_advance {σ : S5}  {H : Heap} {locs : List Loc} {ls : Array Slot} (S : CallFix p m c cX10_advance 2 s args uG RX10) (hr : meth.sig.returnType = none) (hk : meth.locks = false) (hR : 5 ≤ R.frames ∧ 113 ≤ R.locals)
    (X : gX (dC, dI) (tC kc) (wC ad kc sv) (zC ak) A s σ H locs) (hl : lv_has ls 2 [(0, .ref (ad 6))]) (hg : f_X10_advance  σ = some (r, τ)) : W p l e R s m args below meth c H locs 0 0 (MQ below (gQv (dC, dI) (tC kc) (wC ad kc sv) A r τ) args s 0 0 A) (F0 m 0 ls []) := by
  have hx := S.1
  have hb := S.2.1
  have hown := S.2.2.2.1
  have hu := S.2.2.2.2
  unfold f_X10_advance at hg
  refine lv_aload_n hx hb dX10_advance_0 rfl (lv_at hl 0 rfl) ?_
  refine wcgI_17 (v := (gI σ 17)) S X mG_517 rfl dX10_advance_1 ?_
  refine lv_if_ne (tgt := 8) hx hb dX10_advance_4 (by decide) (fun c4 => ?_) (fun c4 => ?_)
  · have hg := (if_neg c4).symm.trans hg
    refine lv_aload_n hx hb dX10_advance_8 rfl (lv_at hl 0 rfl) ?_
    obtain ⟨r9, τ9, hq9, hg⟩ := bd_some hg
    refine gc_Vv (As := []) (rest := []) (q0 := 6) (ci := 13) S X (k2_X10_passBlanks l dC dI ad kc sv hq9 H.size) cw_X10_passBlanks mG_922 rfl rfl rfl rfl rfl hl.1 (Nat.le_of_ble_eq_true rfl) dX10_advance_9 ⟨by omega, by omega⟩ (fun H locs X => ?_)
    refine lv_aload_n hx hb dX10_advance_12 rfl (lv_at hl 0 rfl) ?_
    refine lv_aload_n hx hb dX10_advance_13 rfl (lv_at hl 0 rfl) ?_
    refine wcgI_16 (v := (gI τ9 16)) S X mG_516 rfl dX10_advance_14 ?_
    refine wcpI_18 S X mG_520 dX10_advance_17 (fun H locs X => ?_)
    refine lv_aload_n hx hb dX10_advance_20 rfl (lv_at hl 0 rfl) ?_
    refine wcgR_6_0 S X mG_515 dX10_advance_21 ?_
    refine lv_aload_n hx hb dX10_advance_24 rfl (lv_at hl 0 rfl) ?_
    refine wcgI_16 (v := (gI τ9 16)) S X mG_516 rfl dX10_advance_25 ?_
    obtain ⟨r28, τ28, hq28, hg⟩ := bd_some hg
    refine gc_Vi (As := [.int (gI τ9 16)]) (rest := []) (q0 := 0) (ci := 11) S X (k2_X8_signAt_text l dC dI ad kc sv hq28 H.size) cw_X8_signAt mG_926 rfl rfl rfl rfl rfl hl.1 (Nat.le_of_ble_eq_true rfl) dX10_advance_28 ⟨by omega, by omega⟩ (fun H locs X => ?_)
    refine lv_istore_n (lv' := [(1, .int r28), (0, .ref (ad 6))]) hx hb dX10_advance_31 rfl hl (by decide) rfl (fun ls hl => ?_)
    refine lv_iload_n hx hb dX10_advance_32 rfl (lv_at hl 0 rfl) ?_
    refine lv_iconst (v := (-1)) hx hb dX10_advance_33 (by decide) ?_
    refine lv_icmp_ne (tgt := 45) hx hb dX10_advance_34 (by decide) (fun c34 => ?_) (fun c34 => ?_)
    · have hg := (if_neg c34).symm.trans hg
      refine lv_iload_n hx hb dX10_advance_45 rfl (lv_at hl 0 rfl) ?_
      obtain ⟨r46, τ46, hq46, hg⟩ := bd_some hg
      refine gc_Si (As := [.int r28]) (rest := []) S X (k2_X10_isSmall l dC dI ad kc sv hq46 H.size) cw_X10_isSmall mG_930 rfl rfl hl.1 (Nat.le_of_ble_eq_true rfl) dX10_advance_46 ⟨by omega, by omega⟩ (fun H locs X => ?_)
      refine lv_if_ne (tgt := 59) hx hb dX10_advance_49 (by decide) (fun c49 => ?_) (fun c49 => ?_)
      · have hg := (if_neg c49).symm.trans hg
        exact w_X10_advance_b59 S hr hk hR X (lv_sub hl [1, 0] rfl) hg
      · have hg := (if_pos c49).symm.trans hg
        refine lv_iload_n hx hb dX10_advance_52 rfl (lv_at hl 0 rfl) ?_
        obtain ⟨r53, τ53, hq53, hg⟩ := bd_some hg
        refine gc_Si (As := [.int r28]) (rest := []) S X (k2_X10_isGreat l dC dI ad kc sv hq53 H.size) cw_X10_isGreat mG_933 rfl rfl hl.1 (Nat.le_of_ble_eq_true rfl) dX10_advance_53 ⟨by omega, by omega⟩ (fun H locs X => ?_)
        refine lv_if_eq (tgt := 67) hx hb dX10_advance_56 (by decide) (fun c56 => ?_) (fun c56 => ?_)
        · have hg := (if_pos c56).symm.trans hg
          refine lv_iload_n hx hb dX10_advance_67 rfl (lv_at hl 0 rfl) ?_
          obtain ⟨r68, τ68, hq68, hg⟩ := bd_some hg
          refine gc_Si (As := [.int r28]) (rest := []) S X (k2_X10_isDigit l dC dI ad kc sv hq68 H.size) cw_X10_isDigit mG_940 rfl rfl hl.1 (Nat.le_of_ble_eq_true rfl) dX10_advance_68 ⟨by omega, by omega⟩ (fun H locs X => ?_)
          refine lv_if_eq (tgt := 81) hx hb dX10_advance_71 (by decide) (fun c71 => ?_) (fun c71 => ?_)
          · have hg := (if_pos c71).symm.trans hg
            refine lv_aload_n hx hb dX10_advance_81 rfl (lv_at hl 1 rfl) ?_
            refine lv_iload_n hx hb dX10_advance_82 rfl (lv_at hl 0 rfl) ?_
            obtain ⟨r83, τ83, hq83, hg⟩ := bd_some hg
            refine gc_Vv (As := [.int r28]) (rest := []) (q0 := 6) (ci := 13) S X (k2_X10_readSign l dC dI ad kc sv hq83 H.size) cw_X10_readSign mG_959 rfl rfl rfl rfl rfl hl.1 (Nat.le_of_ble_eq_true rfl) dX10_advance_83 ⟨by omega, by omega⟩ (fun H locs X => ?_)
            obtain ⟨-, rfl⟩ := fin_some hg
            exact gr_v S hr hk X dX10_advance_86
          · have hg := (if_neg c71).symm.trans hg
            refine lv_aload_n hx hb dX10_advance_74 rfl (lv_at hl 1 rfl) ?_
            obtain ⟨r75, τ75, hq75, hg⟩ := bd_some hg
            refine gc_Vv (As := []) (rest := []) (q0 := 6) (ci := 13) S X (k2_X10_readNumber l dC dI ad kc sv hq75 H.size) cw_X10_readNumber mG_953 rfl rfl rfl rfl rfl hl.1 (Nat.le_of_ble_eq_true rfl) dX10_advance_75 ⟨by omega, by omega⟩ (fun H locs X => ?_)
            refine lv_goto (tgt := 86) hx hb dX10_advance_78 (by decide) ?_
            obtain ⟨-, rfl⟩ := fin_some hg
            exact gr_v S hr hk X dX10_advance_86
        · have hg := (if_neg c56).symm.trans hg
          exact w_X10_advance_b59 S hr hk hR X (lv_sub hl [1, 0] rfl) hg
    · have hg := (if_pos c34).symm.trans hg
      refine lv_aload_n hx hb dX10_advance_37 rfl (lv_at hl 1 rfl) ?_
      refine lv_iconst (v := 1) hx hb dX10_advance_38 (by decide) ?_
      refine wcpI_17 S X mG_517 dX10_advance_39 (fun H locs X => ?_)
      refine lv_goto (tgt := 86) hx hb dX10_advance_42 (by decide) ?_
      obtain ⟨-, rfl⟩ := fin_some hg
      exact gr_v S hr hk X dX10_advance_86
  · have hg := (if_pos c4).symm.trans hg
    obtain ⟨-, rfl⟩ := fin_some hg
    exact gr_v S hr hk X dX10_advance_7
end MX10_advance
set_option maxRecDepth 100000 in
theorem k2_X10_advance (l : Launch) (dC : Nat → ClassId) (dI : Nat → Nat → Nat) {ak : Nat → Nat} (ad : Nat → Nat) (kc : Nat → ClassId) (sv : Value) {σ τ : S5}  {r : Unit} (hg : f_X10_advance  σ = some (r, τ)) (sz : Nat) : Met l yX10_advance (Cond.code yX10_advance cX10_advance 2 none :: uG) { frames := 5, cells := 0, slots := 0, locals := 113 } (gPc (dC, dI) (tC kc) (wC ad kc sv) (zC ak) [.ref (ad 6)] σ sz) (gQv (dC, dI) (tC kc) (wC ad kc sv) (va_A (wC ad kc sv σ) sz) r τ) 0 0 (va_A (wC ad kc sv σ) sz) :=
  g_start (by decide) (Nat.le_of_ble_eq_true rfl) (fun p e s m below meth c ls S hr hk X hl => w_X10_advance S hr hk ⟨Nat.le_refl _, Nat.le_refl _⟩ X hl hg)
section MX10_begin
variable {p : Program} {l : Launch} {e : Env} {R : Room} {s : State} {m : MethodId} {args : Array Value} {below : List Frame} {meth : Method} {c : Code} {dC : Nat → ClassId} {dI : Nat → Nat → Nat} {ak : Nat → Nat} {A : Nat → Prop} {ad : Nat → Nat} {kc : Nat → ClassId} {sv : Value} {r : Unit} {τ : S5}
set_option maxHeartbeats 4000000 in
set_option maxRecDepth 100000 in
theorem w_X10_begin {σ : S5}  {H : Heap} {locs : List Loc} {ls : Array Slot} (S : CallFix p m c cX10_begin 1 s args uG RX10) (hr : meth.sig.returnType = none) (hk : meth.locks = false) (hR : 6 ≤ R.frames ∧ 134 ≤ R.locals)
    (X : gX (dC, dI) (tC kc) (wC ad kc sv) (zC ak) A s σ H locs) (hl : lv_has ls 1 [(0, .ref (ad 6))]) (hg : f_X10_begin  σ = some (r, τ)) : W p l e R s m args below meth c H locs 0 0 (MQ below (gQv (dC, dI) (tC kc) (wC ad kc sv) A r τ) args s 0 0 A) (F0 m 0 ls []) := by
  have hx := S.1
  have hb := S.2.1
  have hown := S.2.2.2.1
  have hu := S.2.2.2.2
  unfold f_X10_begin at hg
  refine lv_aload_n hx hb dX10_begin_0 rfl (lv_at hl 0 rfl) ?_
  refine lv_iconst (v := 0) hx hb dX10_begin_1 (by decide) ?_
  refine wcpI_16 S X mG_516 dX10_begin_2 (fun H locs X => ?_)
  refine lv_aload_n hx hb dX10_begin_5 rfl (lv_at hl 0 rfl) ?_
  refine lv_iconst (v := 2) hx hb dX10_begin_6 (by decide) ?_
  refine wcpI_17 S X mG_517 dX10_begin_7 (fun H locs X => ?_)
  refine lv_aload_n hx hb dX10_begin_10 rfl (lv_at hl 0 rfl) ?_
  obtain ⟨r11, τ11, hq11, hg⟩ := bd_some hg
  refine gc_Vv (As := []) (rest := []) (q0 := 6) (ci := 13) S X (k2_X10_advance l dC dI ad kc sv hq11 H.size) cw_X10_advance mG_918 rfl rfl rfl rfl rfl hl.1 (Nat.le_of_ble_eq_true rfl) dX10_begin_11 ⟨by omega, by omega⟩ (fun H locs X => ?_)
  obtain ⟨-, rfl⟩ := fin_some hg
  exact gr_v S hr hk X dX10_begin_14
end MX10_begin
set_option maxRecDepth 100000 in
theorem k2_X10_begin (l : Launch) (dC : Nat → ClassId) (dI : Nat → Nat → Nat) {ak : Nat → Nat} (ad : Nat → Nat) (kc : Nat → ClassId) (sv : Value) {σ τ : S5}  {r : Unit} (hg : f_X10_begin  σ = some (r, τ)) (sz : Nat) : Met l yX10_begin (Cond.code yX10_begin cX10_begin 1 none :: uG) { frames := 6, cells := 0, slots := 0, locals := 134 } (gPc (dC, dI) (tC kc) (wC ad kc sv) (zC ak) [.ref (ad 6)] σ sz) (gQv (dC, dI) (tC kc) (wC ad kc sv) (va_A (wC ad kc sv σ) sz) r τ) 0 0 (va_A (wC ad kc sv σ) sz) :=
  g_start (by decide) (Nat.le_of_ble_eq_true rfl) (fun p e s m below meth c ls S hr hk X hl => w_X10_begin S hr hk ⟨Nat.le_refl _, Nat.le_refl _⟩ X hl hg)
