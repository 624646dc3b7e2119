
theorem mG_6 : Cond.selects "LazyForge$Reader" yX5_readData yX5_readData ∈ uG := uG_at 6 (by decide +kernel) (by decide +kernel)
theorem mG_7 : Cond.selects "LazyForge$Reader" yX5_readConstructor yX5_readConstructor ∈ uG := uG_at 7 (by decide +kernel) (by decide +kernel)
theorem mG_8 : Cond.selects "LazyForge$Reader" yX5_refuse yX5_refuse ∈ uG := uG_at 8 (by decide +kernel) (by decide +kernel)
theorem mG_9 : Cond.selects "LazyForge$Reader" yX5_expect yX5_expect ∈ uG := uG_at 9 (by decide +kernel) (by decide +kernel)
theorem mG_10 : Cond.selects "LazyForge$Reader" yX5_readFunction yX5_readFunction ∈ uG := uG_at 10 (by decide +kernel) (by decide +kernel)
theorem mG_11 : Cond.selects "LazyForge$Reader" yX5_readParameters yX5_readParameters ∈ uG := uG_at 11 (by decide +kernel) (by decide +kernel)
theorem mG_12 : Cond.selects "LazyForge$Reader" yX5_declare yX5_declare ∈ uG := uG_at 12 (by decide +kernel) (by decide +kernel)
theorem mG_14 : Cond.selects "LazyForge$Reader" yX5_readWithin yX5_readWithin ∈ uG := uG_at 14 (by decide +kernel) (by decide +kernel)
theorem mG_15 : Cond.selects "LazyForge$Reader" yX5_readExpression yX5_readExpression ∈ uG := uG_at 15 (by decide +kernel) (by decide +kernel)
theorem mG_16 : Cond.selects "LazyForge$Reader" yX5_readLet yX5_readLet ∈ uG := uG_at 16 (by decide +kernel) (by decide +kernel)
theorem mG_17 : Cond.selects "LazyForge$Reader" yX5_opens yX5_opens ∈ uG := uG_at 17 (by decide +kernel) (by decide +kernel)
theorem mG_18 : Cond.selects "LazyForge$Reader" yX5_countPart yX5_countPart ∈ uG := uG_at 18 (by decide +kernel) (by decide +kernel)
theorem mG_19 : Cond.selects "LazyForge$Reader" yX5_readBinding yX5_readBinding ∈ uG := uG_at 19 (by decide +kernel) (by decide +kernel)
theorem mG_20 : Cond.selects "LazyForge$Reader" yX5_readLifted yX5_readLifted ∈ uG := uG_at 20 (by decide +kernel) (by decide +kernel)
theorem mG_21 : Cond.selects "LazyForge$Reader" yX5_readLambda yX5_readLambda ∈ uG := uG_at 21 (by decide +kernel) (by decide +kernel)
theorem mG_22 : Cond.selects "LazyForge$Reader" yX5_readCase yX5_readCase ∈ uG := uG_at 22 (by decide +kernel) (by decide +kernel)
theorem mG_23 : Cond.selects "LazyForge$Reader" yX5_readAlternative yX5_readAlternative ∈ uG := uG_at 23 (by decide +kernel) (by decide +kernel)
theorem mG_24 : Cond.selects "LazyForge$Reader" yX5_readComparison yX5_readComparison ∈ uG := uG_at 24 (by decide +kernel) (by decide +kernel)
theorem mG_25 : Cond.selects "LazyForge$Reader" yX5_readSum yX5_readSum ∈ uG := uG_at 25 (by decide +kernel) (by decide +kernel)
theorem mG_26 : Cond.selects "LazyForge$Reader" yX5_readProduct yX5_readProduct ∈ uG := uG_at 26 (by decide +kernel) (by decide +kernel)
theorem mG_27 : Cond.selects "LazyForge$Reader" yX5_readApplication yX5_readApplication ∈ uG := uG_at 27 (by decide +kernel) (by decide +kernel)
theorem mG_28 : Cond.selects "LazyForge$Reader" yX5_readBuild yX5_readBuild ∈ uG := uG_at 28 (by decide +kernel) (by decide +kernel)
theorem mG_29 : Cond.selects "LazyForge$Reader" yX5_atomStands yX5_atomStands ∈ uG := uG_at 29 (by decide +kernel) (by decide +kernel)
theorem mG_30 : Cond.selects "LazyForge$Reader" yX5_readAtom yX5_readAtom ∈ uG := uG_at 30 (by decide +kernel) (by decide +kernel)
theorem mG_31 : Cond.selects "LazyForge$Reader" yX5_readSign yX5_readSign ∈ uG := uG_at 31 (by decide +kernel) (by decide +kernel)
theorem mG_32 : Cond.selects "LazyForge$Reader" yX5_join yX5_join ∈ uG := uG_at 32 (by decide +kernel) (by decide +kernel)
theorem mG_289 : Cond.fieldLink "LazyForge$Reader" 188 "LazyForge$Program" "fields" "[I" ∈ uG := uG_at 289 (by decide +kernel) (by decide +kernel)
theorem mG_292 : Cond.fieldLink "LazyForge$Reader" 98 "LazyForge$Program" "constructors" "I" ∈ uG := uG_at 292 (by decide +kernel) (by decide +kernel)
theorem mG_298 : Cond.fieldLink "LazyForge$Reader" 111 "LazyForge$Program" "tops" "I" ∈ uG := uG_at 298 (by decide +kernel) (by decide +kernel)
theorem mG_403 : Cond.fieldLink "LazyForge$Reader" 172 "LazyForge$Tree" "next" "[I" ∈ uG := uG_at 403 (by decide +kernel) (by decide +kernel)
theorem mG_444 : Cond.fieldLink "LazyForge$Reader" 139 "LazyForge$Scopes" "names" "[I" ∈ uG := uG_at 444 (by decide +kernel) (by decide +kernel)
theorem mG_451 : Cond.fieldLink "LazyForge$Reader" 124 "LazyForge$Scopes" "root" "[I" ∈ uG := uG_at 451 (by decide +kernel) (by decide +kernel)
theorem mG_518 : Cond.fieldLink "LazyForge$Reader" 62 "LazyForge$Words" "kind" "I" ∈ uG := uG_at 518 (by decide +kernel) (by decide +kernel)
theorem mG_519 : Cond.fieldLink "LazyForge$Reader" 71 "LazyForge$Words" "place" "I" ∈ uG := uG_at 519 (by decide +kernel) (by decide +kernel)
theorem mG_521 : Cond.fieldLink "LazyForge$Reader" 101 "LazyForge$Words" "number" "I" ∈ uG := uG_at 521 (by decide +kernel) (by decide +kernel)
theorem mG_524 : Cond.fieldLink "LazyForge$Reader" 90 "LazyForge$Words" "name" "J" ∈ uG := uG_at 524 (by decide +kernel) (by decide +kernel)
theorem mG_542 : Cond.fieldLink "LazyForge$Reader" 43 "LazyForge$Reader" "faultKind" "I" ∈ uG := uG_at 542 (by decide +kernel) (by decide +kernel)
theorem mG_544 : Cond.fieldLink "LazyForge$Reader" 47 "LazyForge$Reader" "faultPlace" "I" ∈ uG := uG_at 544 (by decide +kernel) (by decide +kernel)
theorem mG_546 : Cond.fieldLink "LazyForge$Reader" 50 "LazyForge$Reader" "parts" "I" ∈ uG := uG_at 546 (by decide +kernel) (by decide +kernel)
theorem mG_548 : Cond.fieldLink "LazyForge$Reader" 53 "LazyForge$Reader" "open" "I" ∈ uG := uG_at 548 (by decide +kernel) (by decide +kernel)
theorem mG_549 : Cond.fieldLink "LazyForge$Reader" 56 "LazyForge$Reader" "here" "I" ∈ uG := uG_at 549 (by decide +kernel) (by decide +kernel)
theorem mG_896 : Cond.methodLink "LazyForge$Reader" 32 yX9_clear ∈ uG := uG_at 896 (by decide +kernel) (by decide +kernel)
theorem mG_897 : Cond.instanceMethod yX9_clear ∈ uG := uG_at 897 (by decide +kernel) (by decide +kernel)
theorem mG_898 : Cond.selects "LazyForge$Tree" yX9_clear yX9_clear ∈ uG := uG_at 898 (by decide +kernel) (by decide +kernel)
theorem mG_899 : Cond.code yX9_clear prog_11_method_2_code 1 none ∈ uG := uG_at 899 (by decide +kernel) (by decide +kernel)
theorem mG_900 : Cond.methodLink "LazyForge$Reader" 37 yX4_clear ∈ uG := uG_at 900 (by decide +kernel) (by decide +kernel)
theorem mG_901 : Cond.instanceMethod yX4_clear ∈ uG := uG_at 901 (by decide +kernel) (by decide +kernel)
theorem mG_902 : Cond.selects "LazyForge$Program" yX4_clear yX4_clear ∈ uG := uG_at 902 (by decide +kernel) (by decide +kernel)
theorem mG_903 : Cond.code yX4_clear prog_6_method_2_code 1 none ∈ uG := uG_at 903 (by decide +kernel) (by decide +kernel)
theorem mG_910 : Cond.methodLink "LazyForge$Reader" 40 yX6_clear ∈ uG := uG_at 910 (by decide +kernel) (by decide +kernel)
theorem mG_911 : Cond.instanceMethod yX6_clear ∈ uG := uG_at 911 (by decide +kernel) (by decide +kernel)
theorem mG_912 : Cond.selects "LazyForge$Scopes" yX6_clear yX6_clear ∈ uG := uG_at 912 (by decide +kernel) (by decide +kernel)
theorem mG_913 : Cond.code yX6_clear prog_8_method_2_code 1 none ∈ uG := uG_at 913 (by decide +kernel) (by decide +kernel)
theorem mG_914 : Cond.methodLink "LazyForge$Reader" 59 yX10_begin ∈ uG := uG_at 914 (by decide +kernel) (by decide +kernel)
theorem mG_915 : Cond.instanceMethod yX10_begin ∈ uG := uG_at 915 (by decide +kernel) (by decide +kernel)
theorem mG_916 : Cond.selects "LazyForge$Words" yX10_begin yX10_begin ∈ uG := uG_at 916 (by decide +kernel) (by decide +kernel)
theorem mG_917 : Cond.code yX10_begin prog_12_method_2_code 1 none ∈ uG := uG_at 917 (by decide +kernel) (by decide +kernel)
theorem mG_1050 : Cond.methodLink "LazyForge$Reader" 65 yX5_readData ∈ uG := uG_at 1050 (by decide +kernel) (by decide +kernel)
theorem mG_1052 : Cond.instanceMethod yX5_readData ∈ uG := uG_at 1052 (by decide +kernel) (by decide +kernel)
theorem mG_1053 : Cond.code yX5_readData prog_7_method_7_code 2 none ∈ uG := uG_at 1053 (by decide +kernel) (by decide +kernel)
theorem mG_1054 : Cond.methodLink "LazyForge$Reader" 77 yX10_advance ∈ uG := uG_at 1054 (by decide +kernel) (by decide +kernel)
theorem mG_1055 : Cond.methodLink "LazyForge$Reader" 84 yX5_readConstructor ∈ uG := uG_at 1055 (by decide +kernel) (by decide +kernel)
theorem mG_1057 : Cond.instanceMethod yX5_readConstructor ∈ uG := uG_at 1057 (by decide +kernel) (by decide +kernel)
theorem mG_1058 : Cond.code yX5_readConstructor prog_7_method_8_code 3 none ∈ uG := uG_at 1058 (by decide +kernel) (by decide +kernel)
theorem mG_1059 : Cond.methodLink "LazyForge$Reader" 80 yX5_refuse ∈ uG := uG_at 1059 (by decide +kernel) (by decide +kernel)
theorem mG_1061 : Cond.instanceMethod yX5_refuse ∈ uG := uG_at 1061 (by decide +kernel) (by decide +kernel)
theorem mG_1062 : Cond.code yX5_refuse prog_7_method_3_code 2 none ∈ uG := uG_at 1062 (by decide +kernel) (by decide +kernel)
theorem mG_1063 : Cond.methodLink "LazyForge$Reader" 74 yX10_stop ∈ uG := uG_at 1063 (by decide +kernel) (by decide +kernel)
theorem mG_1064 : Cond.instanceMethod yX10_stop ∈ uG := uG_at 1064 (by decide +kernel) (by decide +kernel)
theorem mG_1065 : Cond.selects "LazyForge$Words" yX10_stop yX10_stop ∈ uG := uG_at 1065 (by decide +kernel) (by decide +kernel)
theorem mG_1066 : Cond.code yX10_stop prog_12_method_3_code 1 none ∈ uG := uG_at 1066 (by decide +kernel) (by decide +kernel)
theorem mG_1067 : Cond.methodLink "LazyForge$Reader" 94 yX4_constructorOf ∈ uG := uG_at 1067 (by decide +kernel) (by decide +kernel)
theorem mG_1068 : Cond.instanceMethod yX4_constructorOf ∈ uG := uG_at 1068 (by decide +kernel) (by decide +kernel)
theorem mG_1069 : Cond.selects "LazyForge$Program" yX4_constructorOf yX4_constructorOf ∈ uG := uG_at 1069 (by decide +kernel) (by decide +kernel)
theorem mG_1070 : Cond.code yX4_constructorOf prog_6_method_4_code 4 (some .int) ∈ uG := uG_at 1070 (by decide +kernel) (by decide +kernel)
theorem mG_1071 : Cond.methodLink "LazyForge$Reader" 104 yX4_addConstructor ∈ uG := uG_at 1071 (by decide +kernel) (by decide +kernel)
theorem mG_1072 : Cond.methodLink "LazyForge$Reader" 87 yX5_expect ∈ uG := uG_at 1072 (by decide +kernel) (by decide +kernel)
theorem mG_1074 : Cond.instanceMethod yX5_expect ∈ uG := uG_at 1074 (by decide +kernel) (by decide +kernel)
theorem mG_1075 : Cond.code yX5_expect prog_7_method_4_code 2 none ∈ uG := uG_at 1075 (by decide +kernel) (by decide +kernel)
theorem mG_1076 : Cond.methodLink "LazyForge$Reader" 68 yX5_readFunction ∈ uG := uG_at 1076 (by decide +kernel) (by decide +kernel)
theorem mG_1078 : Cond.instanceMethod yX5_readFunction ∈ uG := uG_at 1078 (by decide +kernel) (by decide +kernel)
theorem mG_1079 : Cond.code yX5_readFunction prog_7_method_9_code 2 none ∈ uG := uG_at 1079 (by decide +kernel) (by decide +kernel)
theorem mG_1080 : Cond.methodLink "LazyForge$Reader" 108 yX4_topOf ∈ uG := uG_at 1080 (by decide +kernel) (by decide +kernel)
theorem mG_1081 : Cond.instanceMethod yX4_topOf ∈ uG := uG_at 1081 (by decide +kernel) (by decide +kernel)
theorem mG_1082 : Cond.selects "LazyForge$Program" yX4_topOf yX4_topOf ∈ uG := uG_at 1082 (by decide +kernel) (by decide +kernel)
theorem mG_1083 : Cond.code yX4_topOf prog_6_method_6_code 4 (some .int) ∈ uG := uG_at 1083 (by decide +kernel) (by decide +kernel)
theorem mG_1084 : Cond.methodLink "LazyForge$Reader" 114 yX6_add ∈ uG := uG_at 1084 (by decide +kernel) (by decide +kernel)
theorem mG_1085 : Cond.instanceMethod yX6_add ∈ uG := uG_at 1085 (by decide +kernel) (by decide +kernel)
theorem mG_1086 : Cond.selects "LazyForge$Scopes" yX6_add yX6_add ∈ uG := uG_at 1086 (by decide +kernel) (by decide +kernel)
theorem mG_1087 : Cond.code yX6_add prog_8_method_3_code 4 (some .int) ∈ uG := uG_at 1087 (by decide +kernel) (by decide +kernel)
theorem mG_1088 : Cond.methodLink "LazyForge$Reader" 118 yX4_addTop ∈ uG := uG_at 1088 (by decide +kernel) (by decide +kernel)
theorem mG_1089 : Cond.instanceMethod yX4_addTop ∈ uG := uG_at 1089 (by decide +kernel) (by decide +kernel)
theorem mG_1090 : Cond.selects "LazyForge$Program" yX4_addTop yX4_addTop ∈ uG := uG_at 1090 (by decide +kernel) (by decide +kernel)
theorem mG_1091 : Cond.code yX4_addTop prog_6_method_5_code 4 none ∈ uG := uG_at 1091 (by decide +kernel) (by decide +kernel)
theorem mG_1096 : Cond.methodLink "LazyForge$Reader" 121 yX5_readParameters ∈ uG := uG_at 1096 (by decide +kernel) (by decide +kernel)
theorem mG_1098 : Cond.instanceMethod yX5_readParameters ∈ uG := uG_at 1098 (by decide +kernel) (by decide +kernel)
theorem mG_1099 : Cond.code yX5_readParameters prog_7_method_10_code 3 none ∈ uG := uG_at 1099 (by decide +kernel) (by decide +kernel)
theorem mG_1100 : Cond.methodLink "LazyForge$Reader" 132 yX5_declare ∈ uG := uG_at 1100 (by decide +kernel) (by decide +kernel)
theorem mG_1102 : Cond.instanceMethod yX5_declare ∈ uG := uG_at 1102 (by decide +kernel) (by decide +kernel)
theorem mG_1103 : Cond.code yX5_declare prog_7_method_11_code 3 (some .int) ∈ uG := uG_at 1103 (by decide +kernel) (by decide +kernel)
theorem mG_1104 : Cond.methodLink "LazyForge$Reader" 135 yX6_has ∈ uG := uG_at 1104 (by decide +kernel) (by decide +kernel)
theorem mG_1105 : Cond.instanceMethod yX6_has ∈ uG := uG_at 1105 (by decide +kernel) (by decide +kernel)
theorem mG_1106 : Cond.selects "LazyForge$Scopes" yX6_has yX6_has ∈ uG := uG_at 1106 (by decide +kernel) (by decide +kernel)
theorem mG_1107 : Cond.code yX6_has prog_8_method_6_code 4 (some .boolean) ∈ uG := uG_at 1107 (by decide +kernel) (by decide +kernel)
theorem mG_1112 : Cond.methodLink "LazyForge$Reader" 142 yX6_addName ∈ uG := uG_at 1112 (by decide +kernel) (by decide +kernel)
theorem mG_1113 : Cond.instanceMethod yX6_addName ∈ uG := uG_at 1113 (by decide +kernel) (by decide +kernel)
theorem mG_1114 : Cond.selects "LazyForge$Scopes" yX6_addName yX6_addName ∈ uG := uG_at 1114 (by decide +kernel) (by decide +kernel)
theorem mG_1115 : Cond.code yX6_addName prog_8_method_5_code 5 (some .int) ∈ uG := uG_at 1115 (by decide +kernel) (by decide +kernel)
theorem mG_1116 : Cond.methodLink "LazyForge$Reader" 128 yX5_readWithin ∈ uG := uG_at 1116 (by decide +kernel) (by decide +kernel)
theorem mG_1118 : Cond.instanceMethod yX5_readWithin ∈ uG := uG_at 1118 (by decide +kernel) (by decide +kernel)
theorem mG_1119 : Cond.code yX5_readWithin prog_7_method_12_code 4 (some .int) ∈ uG := uG_at 1119 (by decide +kernel) (by decide +kernel)
theorem mG_1120 : Cond.methodLink "LazyForge$Reader" 146 yX5_readExpression ∈ uG := uG_at 1120 (by decide +kernel) (by decide +kernel)
theorem mG_1122 : Cond.instanceMethod yX5_readExpression ∈ uG := uG_at 1122 (by decide +kernel) (by decide +kernel)
theorem mG_1123 : Cond.code yX5_readExpression prog_7_method_13_code 1 (some .int) ∈ uG := uG_at 1123 (by decide +kernel) (by decide +kernel)
theorem mG_1124 : Cond.methodLink "LazyForge$Reader" 150 yX5_readLet ∈ uG := uG_at 1124 (by decide +kernel) (by decide +kernel)
theorem mG_1126 : Cond.instanceMethod yX5_readLet ∈ uG := uG_at 1126 (by decide +kernel) (by decide +kernel)
theorem mG_1127 : Cond.code yX5_readLet prog_7_method_14_code 7 (some .int) ∈ uG := uG_at 1127 (by decide +kernel) (by decide +kernel)
theorem mG_1128 : Cond.methodLink "LazyForge$Reader" 162 yX5_opens ∈ uG := uG_at 1128 (by decide +kernel) (by decide +kernel)
theorem mG_1130 : Cond.instanceMethod yX5_opens ∈ uG := uG_at 1130 (by decide +kernel) (by decide +kernel)
theorem mG_1131 : Cond.code yX5_opens prog_7_method_6_code 1 (some .boolean) ∈ uG := uG_at 1131 (by decide +kernel) (by decide +kernel)
theorem mG_1132 : Cond.methodLink "LazyForge$Reader" 166 yX5_countPart ∈ uG := uG_at 1132 (by decide +kernel) (by decide +kernel)
theorem mG_1134 : Cond.instanceMethod yX5_countPart ∈ uG := uG_at 1134 (by decide +kernel) (by decide +kernel)
theorem mG_1135 : Cond.code yX5_countPart prog_7_method_5_code 1 none ∈ uG := uG_at 1135 (by decide +kernel) (by decide +kernel)
theorem mG_1136 : Cond.methodLink "LazyForge$Reader" 169 yX5_readBinding ∈ uG := uG_at 1136 (by decide +kernel) (by decide +kernel)
theorem mG_1138 : Cond.instanceMethod yX5_readBinding ∈ uG := uG_at 1138 (by decide +kernel) (by decide +kernel)
theorem mG_1139 : Cond.code yX5_readBinding prog_7_method_15_code 4 (some .int) ∈ uG := uG_at 1139 (by decide +kernel) (by decide +kernel)
theorem mG_1140 : Cond.methodLink "LazyForge$Reader" 178 yX5_readLifted ∈ uG := uG_at 1140 (by decide +kernel) (by decide +kernel)
theorem mG_1142 : Cond.instanceMethod yX5_readLifted ∈ uG := uG_at 1142 (by decide +kernel) (by decide +kernel)
theorem mG_1143 : Cond.code yX5_readLifted prog_7_method_16_code 4 (some .int) ∈ uG := uG_at 1143 (by decide +kernel) (by decide +kernel)
theorem mG_1144 : Cond.methodLink "LazyForge$Reader" 181 yX9_addLeaf ∈ uG := uG_at 1144 (by decide +kernel) (by decide +kernel)
theorem mG_1145 : Cond.instanceMethod yX9_addLeaf ∈ uG := uG_at 1145 (by decide +kernel) (by decide +kernel)
theorem mG_1146 : Cond.selects "LazyForge$Tree" yX9_addLeaf yX9_addLeaf ∈ uG := uG_at 1146 (by decide +kernel) (by decide +kernel)
theorem mG_1147 : Cond.code yX9_addLeaf prog_11_method_4_code 3 (some .int) ∈ uG := uG_at 1147 (by decide +kernel) (by decide +kernel)
theorem mG_1152 : Cond.methodLink "LazyForge$Reader" 175 yX9_add ∈ uG := uG_at 1152 (by decide +kernel) (by decide +kernel)
theorem mG_1153 : Cond.methodLink "LazyForge$Reader" 153 yX5_readLambda ∈ uG := uG_at 1153 (by decide +kernel) (by decide +kernel)
theorem mG_1155 : Cond.instanceMethod yX5_readLambda ∈ uG := uG_at 1155 (by decide +kernel) (by decide +kernel)
theorem mG_1156 : Cond.code yX5_readLambda prog_7_method_17_code 2 (some .int) ∈ uG := uG_at 1156 (by decide +kernel) (by decide +kernel)
theorem mG_1157 : Cond.methodLink "LazyForge$Reader" 156 yX5_readCase ∈ uG := uG_at 1157 (by decide +kernel) (by decide +kernel)
theorem mG_1159 : Cond.instanceMethod yX5_readCase ∈ uG := uG_at 1159 (by decide +kernel) (by decide +kernel)
theorem mG_1160 : Cond.code yX5_readCase prog_7_method_18_code 5 (some .int) ∈ uG := uG_at 1160 (by decide +kernel) (by decide +kernel)
theorem mG_1161 : Cond.methodLink "LazyForge$Reader" 185 yX5_readAlternative ∈ uG := uG_at 1161 (by decide +kernel) (by decide +kernel)
theorem mG_1163 : Cond.instanceMethod yX5_readAlternative ∈ uG := uG_at 1163 (by decide +kernel) (by decide +kernel)
theorem mG_1164 : Cond.code yX5_readAlternative prog_7_method_19_code 7 (some .int) ∈ uG := uG_at 1164 (by decide +kernel) (by decide +kernel)
theorem mG_1165 : Cond.methodLink "LazyForge$Reader" 159 yX5_readComparison ∈ uG := uG_at 1165 (by decide +kernel) (by decide +kernel)
theorem mG_1167 : Cond.instanceMethod yX5_readComparison ∈ uG := uG_at 1167 (by decide +kernel) (by decide +kernel)
theorem mG_1168 : Cond.code yX5_readComparison prog_7_method_20_code 3 (some .int) ∈ uG := uG_at 1168 (by decide +kernel) (by decide +kernel)
theorem mG_1169 : Cond.methodLink "LazyForge$Reader" 191 yX5_readSum ∈ uG := uG_at 1169 (by decide +kernel) (by decide +kernel)
theorem mG_1171 : Cond.instanceMethod yX5_readSum ∈ uG := uG_at 1171 (by decide +kernel) (by decide +kernel)
theorem mG_1172 : Cond.code yX5_readSum prog_7_method_21_code 4 (some .int) ∈ uG := uG_at 1172 (by decide +kernel) (by decide +kernel)
theorem mG_1173 : Cond.methodLink "LazyForge$Reader" 201 yX5_readProduct ∈ uG := uG_at 1173 (by decide +kernel) (by decide +kernel)
theorem mG_1175 : Cond.instanceMethod yX5_readProduct ∈ uG := uG_at 1175 (by decide +kernel) (by decide +kernel)
theorem mG_1176 : Cond.code yX5_readProduct prog_7_method_22_code 4 (some .int) ∈ uG := uG_at 1176 (by decide +kernel) (by decide +kernel)
theorem mG_1177 : Cond.methodLink "LazyForge$Reader" 204 yX5_readApplication ∈ uG := uG_at 1177 (by decide +kernel) (by decide +kernel)
theorem mG_1179 : Cond.instanceMethod yX5_readApplication ∈ uG := uG_at 1179 (by decide +kernel) (by decide +kernel)
theorem mG_1180 : Cond.code yX5_readApplication prog_7_method_25_code 5 (some .int) ∈ uG := uG_at 1180 (by decide +kernel) (by decide +kernel)
theorem mG_1181 : Cond.methodLink "LazyForge$Reader" 207 yX5_readBuild ∈ uG := uG_at 1181 (by decide +kernel) (by decide +kernel)
theorem mG_1183 : Cond.instanceMethod yX5_readBuild ∈ uG := uG_at 1183 (by decide +kernel) (by decide +kernel)
theorem mG_1184 : Cond.code yX5_readBuild prog_7_method_26_code 6 (some .int) ∈ uG := uG_at 1184 (by decide +kernel) (by decide +kernel)
theorem mG_1185 : Cond.methodLink "LazyForge$Reader" 210 yX5_atomStands ∈ uG := uG_at 1185 (by decide +kernel) (by decide +kernel)
theorem mG_1187 : Cond.instanceMethod yX5_atomStands ∈ uG := uG_at 1187 (by decide +kernel) (by decide +kernel)
theorem mG_1188 : Cond.code yX5_atomStands prog_7_method_28_code 2 (some .boolean) ∈ uG := uG_at 1188 (by decide +kernel) (by decide +kernel)
theorem mG_1189 : Cond.methodLink "LazyForge$Reader" 216 yX5_isAtom ∈ uG := uG_at 1189 (by decide +kernel) (by decide +kernel)
theorem mG_1190 : Cond.static yX5_isAtom ∈ uG := uG_at 1190 (by decide +kernel) (by decide +kernel)
theorem mG_1191 : Cond.code yX5_isAtom prog_7_method_27_code 1 (some .boolean) ∈ uG := uG_at 1191 (by decide +kernel) (by decide +kernel)
theorem mG_1192 : Cond.methodLink "LazyForge$Reader" 213 yX5_readAtom ∈ uG := uG_at 1192 (by decide +kernel) (by decide +kernel)
theorem mG_1194 : Cond.instanceMethod yX5_readAtom ∈ uG := uG_at 1194 (by decide +kernel) (by decide +kernel)
theorem mG_1195 : Cond.code yX5_readAtom prog_7_method_29_code 3 (some .int) ∈ uG := uG_at 1195 (by decide +kernel) (by decide +kernel)
theorem mG_1196 : Cond.methodLink "LazyForge$Reader" 220 yX6_addUse ∈ uG := uG_at 1196 (by decide +kernel) (by decide +kernel)
theorem mG_1197 : Cond.instanceMethod yX6_addUse ∈ uG := uG_at 1197 (by decide +kernel) (by decide +kernel)
theorem mG_1198 : Cond.selects "LazyForge$Scopes" yX6_addUse yX6_addUse ∈ uG := uG_at 1198 (by decide +kernel) (by decide +kernel)
theorem mG_1199 : Cond.code yX6_addUse prog_8_method_9_code 6 none ∈ uG := uG_at 1199 (by decide +kernel) (by decide +kernel)
theorem mG_1200 : Cond.methodLink "LazyForge$Reader" 194 yX5_readSign ∈ uG := uG_at 1200 (by decide +kernel) (by decide +kernel)
theorem mG_1202 : Cond.instanceMethod yX5_readSign ∈ uG := uG_at 1202 (by decide +kernel) (by decide +kernel)
theorem mG_1203 : Cond.code yX5_readSign prog_7_method_23_code 2 (some .int) ∈ uG := uG_at 1203 (by decide +kernel) (by decide +kernel)
theorem mG_1204 : Cond.methodLink "LazyForge$Reader" 197 yX5_join ∈ uG := uG_at 1204 (by decide +kernel) (by decide +kernel)
theorem mG_1206 : Cond.instanceMethod yX5_join ∈ uG := uG_at 1206 (by decide +kernel) (by decide +kernel)
theorem mG_1207 : Cond.code yX5_join prog_7_method_24_code 4 (some .int) ∈ uG := uG_at 1207 (by decide +kernel) (by decide +kernel)
theorem dX5_atomStands_0 : decode cX5_atomStands 0 = .ok (.aload_n 0, 1) := by decide +kernel
theorem dX5_atomStands_1 : decode cX5_atomStands 1 = .ok (.getfield 14, 3) := by decide +kernel
theorem dX5_atomStands_4 : decode cX5_atomStands 4 = .ok (.getfield 62, 3) := by decide +kernel
theorem dX5_atomStands_7 : decode cX5_atomStands 7 = .ok (.iconst 4, 1) := by decide +kernel
theorem dX5_atomStands_8 : decode cX5_atomStands 8 = .ok (.if_icmp .ne 51, 3) := by decide +kernel
theorem dX5_atomStands_11 : decode cX5_atomStands 11 = .ok (.aload_n 0, 1) := by decide +kernel
theorem dX5_atomStands_12 : decode cX5_atomStands 12 = .ok (.getfield 24, 3) := by decide +kernel
theorem dX5_atomStands_15 : decode cX5_atomStands 15 = .ok (.aload_n 0, 1) := by decide +kernel
theorem dX5_atomStands_16 : decode cX5_atomStands 16 = .ok (.getfield 14, 3) := by decide +kernel
theorem dX5_atomStands_19 : decode cX5_atomStands 19 = .ok (.getfield 90, 3) := by decide +kernel
theorem dX5_atomStands_22 : decode cX5_atomStands 22 = .ok (.invokevirtual 94, 3) := by decide +kernel
theorem dX5_atomStands_25 : decode cX5_atomStands 25 = .ok (.istore_n 1, 1) := by decide +kernel
theorem dX5_atomStands_26 : decode cX5_atomStands 26 = .ok (.iload_n 1, 1) := by decide +kernel
theorem dX5_atomStands_27 : decode cX5_atomStands 27 = .ok (.iconst (-1), 1) := by decide +kernel
theorem dX5_atomStands_28 : decode cX5_atomStands 28 = .ok (.if_icmp .ne 11, 3) := by decide +kernel
theorem dX5_atomStands_31 : decode cX5_atomStands 31 = .ok (.aload_n 0, 1) := by decide +kernel
theorem dX5_atomStands_32 : decode cX5_atomStands 32 = .ok (.iconst 3, 1) := by decide +kernel
theorem dX5_atomStands_33 : decode cX5_atomStands 33 = .ok (.invokevirtual 80, 3) := by decide +kernel
theorem dX5_atomStands_36 : decode cX5_atomStands 36 = .ok (.goto 20, 3) := by decide +kernel
theorem dX5_atomStands_39 : decode cX5_atomStands 39 = .ok (.aload_n 0, 1) := by decide +kernel
theorem dX5_atomStands_40 : decode cX5_atomStands 40 = .ok (.getfield 24, 3) := by decide +kernel
theorem dX5_atomStands_43 : decode cX5_atomStands 43 = .ok (.getfield 188, 3) := by decide +kernel
theorem dX5_atomStands_46 : decode cX5_atomStands 46 = .ok (.iload_n 1, 1) := by decide +kernel
theorem dX5_atomStands_47 : decode cX5_atomStands 47 = .ok (.iaload, 1) := by decide +kernel
theorem dX5_atomStands_48 : decode cX5_atomStands 48 = .ok (.ifCond .le 8, 3) := by decide +kernel
theorem dX5_atomStands_51 : decode cX5_atomStands 51 = .ok (.aload_n 0, 1) := by decide +kernel
theorem dX5_atomStands_52 : decode cX5_atomStands 52 = .ok (.iconst 1, 1) := by decide +kernel
theorem dX5_atomStands_53 : decode cX5_atomStands 53 = .ok (.invokevirtual 80, 3) := by decide +kernel
theorem dX5_atomStands_56 : decode cX5_atomStands 56 = .ok (.goto 42, 3) := by decide +kernel
theorem dX5_atomStands_59 : decode cX5_atomStands 59 = .ok (.aload_n 0, 1) := by decide +kernel
theorem dX5_atomStands_60 : decode cX5_atomStands 60 = .ok (.getfield 14, 3) := by decide +kernel
theorem dX5_atomStands_63 : decode cX5_atomStands 63 = .ok (.getfield 62, 3) := by decide +kernel
theorem dX5_atomStands_66 : decode cX5_atomStands 66 = .ok (.invokestatic 216, 3) := by decide +kernel
theorem dX5_atomStands_69 : decode cX5_atomStands 69 = .ok (.ifCond .eq 24, 3) := by decide +kernel
theorem dX5_atomStands_72 : decode cX5_atomStands 72 = .ok (.aload_n 0, 1) := by decide +kernel
theorem dX5_atomStands_73 : decode cX5_atomStands 73 = .ok (.getfield 14, 3) := by decide +kernel
theorem dX5_atomStands_76 : decode cX5_atomStands 76 = .ok (.getfield 62, 3) := by decide +kernel
theorem dX5_atomStands_79 : decode cX5_atomStands 79 = .ok (.bipush 40, 2) := by decide +kernel
theorem dX5_atomStands_81 : decode cX5_atomStands 81 = .ok (.if_icmp .ne 17, 3) := by decide +kernel
theorem dX5_atomStands_84 : decode cX5_atomStands 84 = .ok (.aload_n 0, 1) := by decide +kernel
theorem dX5_atomStands_85 : decode cX5_atomStands 85 = .ok (.getfield 53, 3) := by decide +kernel
theorem dX5_atomStands_88 : decode cX5_atomStands 88 = .ok (.bipush 30, 2) := by decide +kernel
theorem dX5_atomStands_90 : decode cX5_atomStands 90 = .ok (.if_icmp .lt 8, 3) := by decide +kernel
theorem dX5_atomStands_93 : decode cX5_atomStands 93 = .ok (.aload_n 0, 1) := by decide +kernel
theorem dX5_atomStands_94 : decode cX5_atomStands 94 = .ok (.iconst 1, 1) := by decide +kernel
theorem dX5_atomStands_95 : decode cX5_atomStands 95 = .ok (.invokevirtual 80, 3) := by decide +kernel
theorem dX5_atomStands_98 : decode cX5_atomStands 98 = .ok (.aload_n 0, 1) := by decide +kernel
theorem dX5_atomStands_99 : decode cX5_atomStands 99 = .ok (.getfield 14, 3) := by decide +kernel
theorem dX5_atomStands_102 : decode cX5_atomStands 102 = .ok (.getfield 62, 3) := by decide +kernel
theorem dX5_atomStands_105 : decode cX5_atomStands 105 = .ok (.ifCond .eq 7, 3) := by decide +kernel
theorem dX5_atomStands_108 : decode cX5_atomStands 108 = .ok (.iconst 1, 1) := by decide +kernel
theorem dX5_atomStands_109 : decode cX5_atomStands 109 = .ok (.goto 4, 3) := by decide +kernel
theorem dX5_atomStands_112 : decode cX5_atomStands 112 = .ok (.iconst 0, 1) := by decide +kernel
theorem dX5_atomStands_113 : decode cX5_atomStands 113 = .ok (.ireturn, 1) := by decide +kernel
theorem dX5_countPart_0 : decode cX5_countPart 0 = .ok (.aload_n 0, 1) := by decide +kernel
theorem dX5_countPart_1 : decode cX5_countPart 1 = .ok (.getfield 50, 3) := by decide +kernel
theorem dX5_countPart_4 : decode cX5_countPart 4 = .ok (.sipush 600, 3) := by decide +kernel
theorem dX5_countPart_7 : decode cX5_countPart 7 = .ok (.if_icmp .lt 11, 3) := by decide +kernel
theorem dX5_countPart_10 : decode cX5_countPart 10 = .ok (.aload_n 0, 1) := by decide +kernel
theorem dX5_countPart_11 : decode cX5_countPart 11 = .ok (.iconst 4, 1) := by decide +kernel
theorem dX5_countPart_12 : decode cX5_countPart 12 = .ok (.invokevirtual 80, 3) := by decide +kernel
theorem dX5_countPart_15 : decode cX5_countPart 15 = .ok (.goto 23, 3) := by decide +kernel
theorem dX5_countPart_18 : decode cX5_countPart 18 = .ok (.aload_n 0, 1) := by decide +kernel
theorem dX5_countPart_19 : decode cX5_countPart 19 = .ok (.getfield 14, 3) := by decide +kernel
theorem dX5_countPart_22 : decode cX5_countPart 22 = .ok (.getfield 62, 3) := by decide +kernel
theorem dX5_countPart_25 : decode cX5_countPart 25 = .ok (.ifCond .eq 13, 3) := by decide +kernel
theorem dX5_countPart_28 : decode cX5_countPart 28 = .ok (.aload_n 0, 1) := by decide +kernel
theorem dX5_countPart_29 : decode cX5_countPart 29 = .ok (.dup, 1) := by decide +kernel
theorem dX5_countPart_30 : decode cX5_countPart 30 = .ok (.getfield 50, 3) := by decide +kernel
theorem dX5_countPart_33 : decode cX5_countPart 33 = .ok (.iconst 1, 1) := by decide +kernel
theorem dX5_countPart_34 : decode cX5_countPart 34 = .ok (.iadd, 1) := by decide +kernel
theorem dX5_countPart_35 : decode cX5_countPart 35 = .ok (.putfield 50, 3) := by decide +kernel
theorem dX5_countPart_38 : decode cX5_countPart 38 = .ok (.return_, 1) := by decide +kernel
theorem dX5_declare_0 : decode cX5_declare 0 = .ok (.iconst 0, 1) := by decide +kernel
theorem dX5_declare_1 : decode cX5_declare 1 = .ok (.istore_n 2, 1) := by decide +kernel
theorem dX5_declare_2 : decode cX5_declare 2 = .ok (.aload_n 0, 1) := by decide +kernel
theorem dX5_declare_3 : decode cX5_declare 3 = .ok (.getfield 14, 3) := by decide +kernel
theorem dX5_declare_6 : decode cX5_declare 6 = .ok (.getfield 62, 3) := by decide +kernel
theorem dX5_declare_9 : decode cX5_declare 9 = .ok (.iconst 3, 1) := by decide +kernel
theorem dX5_declare_10 : decode cX5_declare 10 = .ok (.if_icmp .eq 11, 3) := by decide +kernel
theorem dX5_declare_13 : decode cX5_declare 13 = .ok (.aload_n 0, 1) := by decide +kernel
theorem dX5_declare_14 : decode cX5_declare 14 = .ok (.iconst 1, 1) := by decide +kernel
theorem dX5_declare_15 : decode cX5_declare 15 = .ok (.invokevirtual 80, 3) := by decide +kernel
theorem dX5_declare_18 : decode cX5_declare 18 = .ok (.goto 73, 3) := by decide +kernel
theorem dX5_declare_21 : decode cX5_declare 21 = .ok (.aload_n 0, 1) := by decide +kernel
theorem dX5_declare_22 : decode cX5_declare 22 = .ok (.getfield 28, 3) := by decide +kernel
theorem dX5_declare_25 : decode cX5_declare 25 = .ok (.iload_n 1, 1) := by decide +kernel
theorem dX5_declare_26 : decode cX5_declare 26 = .ok (.aload_n 0, 1) := by decide +kernel
theorem dX5_declare_27 : decode cX5_declare 27 = .ok (.getfield 14, 3) := by decide +kernel
theorem dX5_declare_30 : decode cX5_declare 30 = .ok (.getfield 90, 3) := by decide +kernel
theorem dX5_declare_33 : decode cX5_declare 33 = .ok (.invokevirtual 135, 3) := by decide +kernel
theorem dX5_declare_36 : decode cX5_declare 36 = .ok (.ifCond .eq 11, 3) := by decide +kernel
theorem dX5_declare_39 : decode cX5_declare 39 = .ok (.aload_n 0, 1) := by decide +kernel
theorem dX5_declare_40 : decode cX5_declare 40 = .ok (.iconst 2, 1) := by decide +kernel
theorem dX5_declare_41 : decode cX5_declare 41 = .ok (.invokevirtual 80, 3) := by decide +kernel
theorem dX5_declare_44 : decode cX5_declare 44 = .ok (.goto 47, 3) := by decide +kernel
theorem dX5_declare_47 : decode cX5_declare 47 = .ok (.aload_n 0, 1) := by decide +kernel
theorem dX5_declare_48 : decode cX5_declare 48 = .ok (.getfield 28, 3) := by decide +kernel
theorem dX5_declare_51 : decode cX5_declare 51 = .ok (.getfield 139, 3) := by decide +kernel
theorem dX5_declare_54 : decode cX5_declare 54 = .ok (.iload_n 1, 1) := by decide +kernel
theorem dX5_declare_55 : decode cX5_declare 55 = .ok (.iaload, 1) := by decide +kernel
theorem dX5_declare_56 : decode cX5_declare 56 = .ok (.iconst 5, 1) := by decide +kernel
theorem dX5_declare_57 : decode cX5_declare 57 = .ok (.if_icmp .lt 11, 3) := by decide +kernel
theorem dX5_declare_60 : decode cX5_declare 60 = .ok (.aload_n 0, 1) := by decide +kernel
theorem dX5_declare_61 : decode cX5_declare 61 = .ok (.iconst 4, 1) := by decide +kernel
theorem dX5_declare_62 : decode cX5_declare 62 = .ok (.invokevirtual 80, 3) := by decide +kernel
theorem dX5_declare_65 : decode cX5_declare 65 = .ok (.goto 26, 3) := by decide +kernel
theorem dX5_declare_68 : decode cX5_declare 68 = .ok (.aload_n 0, 1) := by decide +kernel
theorem dX5_declare_69 : decode cX5_declare 69 = .ok (.getfield 28, 3) := by decide +kernel
theorem dX5_declare_72 : decode cX5_declare 72 = .ok (.iload_n 1, 1) := by decide +kernel
theorem dX5_declare_73 : decode cX5_declare 73 = .ok (.aload_n 0, 1) := by decide +kernel
theorem dX5_declare_74 : decode cX5_declare 74 = .ok (.getfield 14, 3) := by decide +kernel
theorem dX5_declare_77 : decode cX5_declare 77 = .ok (.getfield 90, 3) := by decide +kernel
theorem dX5_declare_80 : decode cX5_declare 80 = .ok (.invokevirtual 142, 3) := by decide +kernel
theorem dX5_declare_83 : decode cX5_declare 83 = .ok (.istore_n 2, 1) := by decide +kernel
theorem dX5_declare_84 : decode cX5_declare 84 = .ok (.aload_n 0, 1) := by decide +kernel
theorem dX5_declare_85 : decode cX5_declare 85 = .ok (.getfield 14, 3) := by decide +kernel
theorem dX5_declare_88 : decode cX5_declare 88 = .ok (.invokevirtual 77, 3) := by decide +kernel
theorem dX5_declare_91 : decode cX5_declare 91 = .ok (.iload_n 2, 1) := by decide +kernel
theorem dX5_declare_92 : decode cX5_declare 92 = .ok (.ireturn, 1) := by decide +kernel
theorem dX5_expect_0 : decode cX5_expect 0 = .ok (.aload_n 0, 1) := by decide +kernel
theorem dX5_expect_1 : decode cX5_expect 1 = .ok (.getfield 14, 3) := by decide +kernel
theorem dX5_expect_4 : decode cX5_expect 4 = .ok (.getfield 62, 3) := by decide +kernel
theorem dX5_expect_7 : decode cX5_expect 7 = .ok (.iload_n 1, 1) := by decide +kernel
theorem dX5_expect_8 : decode cX5_expect 8 = .ok (.if_icmp .ne 13, 3) := by decide +kernel
theorem dX5_expect_11 : decode cX5_expect 11 = .ok (.aload_n 0, 1) := by decide +kernel
theorem dX5_expect_12 : decode cX5_expect 12 = .ok (.getfield 14, 3) := by decide +kernel
theorem dX5_expect_15 : decode cX5_expect 15 = .ok (.invokevirtual 77, 3) := by decide +kernel
theorem dX5_expect_18 : decode cX5_expect 18 = .ok (.goto 8, 3) := by decide +kernel
theorem dX5_expect_21 : decode cX5_expect 21 = .ok (.aload_n 0, 1) := by decide +kernel
theorem dX5_expect_22 : decode cX5_expect 22 = .ok (.iconst 1, 1) := by decide +kernel
theorem dX5_expect_23 : decode cX5_expect 23 = .ok (.invokevirtual 80, 3) := by decide +kernel
theorem dX5_expect_26 : decode cX5_expect 26 = .ok (.return_, 1) := by decide +kernel
theorem dX5_isAtom_0 : decode cX5_isAtom 0 = .ok (.iload_n 0, 1) := by decide +kernel
theorem dX5_isAtom_1 : decode cX5_isAtom 1 = .ok (.iconst 3, 1) := by decide +kernel
theorem dX5_isAtom_2 : decode cX5_isAtom 2 = .ok (.if_icmp .eq 25, 3) := by decide +kernel
theorem dX5_isAtom_5 : decode cX5_isAtom 5 = .ok (.iload_n 0, 1) := by decide +kernel
theorem dX5_isAtom_6 : decode cX5_isAtom 6 = .ok (.iconst 4, 1) := by decide +kernel
theorem dX5_isAtom_7 : decode cX5_isAtom 7 = .ok (.if_icmp .eq 20, 3) := by decide +kernel
theorem dX5_isAtom_10 : decode cX5_isAtom 10 = .ok (.iload_n 0, 1) := by decide +kernel
theorem dX5_isAtom_11 : decode cX5_isAtom 11 = .ok (.iconst 5, 1) := by decide +kernel
theorem dX5_isAtom_12 : decode cX5_isAtom 12 = .ok (.if_icmp .eq 15, 3) := by decide +kernel
theorem dX5_isAtom_15 : decode cX5_isAtom 15 = .ok (.iload_n 0, 1) := by decide +kernel
theorem dX5_isAtom_16 : decode cX5_isAtom 16 = .ok (.bipush 11, 2) := by decide +kernel
theorem dX5_isAtom_18 : decode cX5_isAtom 18 = .ok (.if_icmp .eq 9, 3) := by decide +kernel
theorem dX5_isAtom_21 : decode cX5_isAtom 21 = .ok (.iload_n 0, 1) := by decide +kernel
theorem dX5_isAtom_22 : decode cX5_isAtom 22 = .ok (.bipush 40, 2) := by decide +kernel
theorem dX5_isAtom_24 : decode cX5_isAtom 24 = .ok (.if_icmp .ne 7, 3) := by decide +kernel
theorem dX5_isAtom_27 : decode cX5_isAtom 27 = .ok (.iconst 1, 1) := by decide +kernel
theorem dX5_isAtom_28 : decode cX5_isAtom 28 = .ok (.goto 4, 3) := by decide +kernel
theorem dX5_isAtom_31 : decode cX5_isAtom 31 = .ok (.iconst 0, 1) := by decide +kernel
theorem dX5_isAtom_32 : decode cX5_isAtom 32 = .ok (.ireturn, 1) := by decide +kernel
theorem dX5_join_0 : decode cX5_join 0 = .ok (.aload_n 0, 1) := by decide +kernel
theorem dX5_join_1 : decode cX5_join 1 = .ok (.getfield 20, 3) := by decide +kernel
theorem dX5_join_4 : decode cX5_join 4 = .ok (.getfield 172, 3) := by decide +kernel
theorem dX5_join_7 : decode cX5_join 7 = .ok (.iload_n 2, 1) := by decide +kernel
theorem dX5_join_8 : decode cX5_join 8 = .ok (.iload_n 3, 1) := by decide +kernel
theorem dX5_join_9 : decode cX5_join 9 = .ok (.iastore, 1) := by decide +kernel
theorem dX5_join_10 : decode cX5_join 10 = .ok (.aload_n 0, 1) := by decide +kernel
theorem dX5_join_11 : decode cX5_join 11 = .ok (.getfield 20, 3) := by decide +kernel
theorem dX5_join_14 : decode cX5_join 14 = .ok (.iconst 5, 1) := by decide +kernel
theorem dX5_join_15 : decode cX5_join 15 = .ok (.iload_n 1, 1) := by decide +kernel
theorem dX5_join_16 : decode cX5_join 16 = .ok (.iconst 0, 1) := by decide +kernel
theorem dX5_join_17 : decode cX5_join 17 = .ok (.iload_n 2, 1) := by decide +kernel
theorem dX5_join_18 : decode cX5_join 18 = .ok (.invokevirtual 175, 3) := by decide +kernel
theorem dX5_join_21 : decode cX5_join 21 = .ok (.ireturn, 1) := by decide +kernel
theorem dX5_opens_0 : decode cX5_opens 0 = .ok (.aload_n 0, 1) := by decide +kernel
theorem dX5_opens_1 : decode cX5_opens 1 = .ok (.getfield 53, 3) := by decide +kernel
theorem dX5_opens_4 : decode cX5_opens 4 = .ok (.bipush 30, 2) := by decide +kernel
theorem dX5_opens_6 : decode cX5_opens 6 = .ok (.if_icmp .lt 10, 3) := by decide +kernel
theorem dX5_opens_9 : decode cX5_opens 9 = .ok (.aload_n 0, 1) := by decide +kernel
theorem dX5_opens_10 : decode cX5_opens 10 = .ok (.iconst 1, 1) := by decide +kernel
theorem dX5_opens_11 : decode cX5_opens 11 = .ok (.invokevirtual 80, 3) := by decide +kernel
theorem dX5_opens_14 : decode cX5_opens 14 = .ok (.iconst 0, 1) := by decide +kernel
theorem dX5_opens_15 : decode cX5_opens 15 = .ok (.ireturn, 1) := by decide +kernel
theorem dX5_opens_16 : decode cX5_opens 16 = .ok (.aload_n 0, 1) := by decide +kernel
theorem dX5_opens_17 : decode cX5_opens 17 = .ok (.dup, 1) := by decide +kernel
theorem dX5_opens_18 : decode cX5_opens 18 = .ok (.getfield 53, 3) := by decide +kernel
theorem dX5_opens_21 : decode cX5_opens 21 = .ok (.iconst 1, 1) := by decide +kernel
theorem dX5_opens_22 : decode cX5_opens 22 = .ok (.iadd, 1) := by decide +kernel
theorem dX5_opens_23 : decode cX5_opens 23 = .ok (.putfield 53, 3) := by decide +kernel
theorem dX5_opens_26 : decode cX5_opens 26 = .ok (.iconst 1, 1) := by decide +kernel
theorem dX5_opens_27 : decode cX5_opens 27 = .ok (.ireturn, 1) := by decide +kernel
theorem dX5_readAlternative_0 : decode cX5_readAlternative 0 = .ok (.aload_n 0, 1) := by decide +kernel
theorem dX5_readAlternative_1 : decode cX5_readAlternative 1 = .ok (.getfield 14, 3) := by decide +kernel
theorem dX5_readAlternative_4 : decode cX5_readAlternative 4 = .ok (.getfield 62, 3) := by decide +kernel
theorem dX5_readAlternative_7 : decode cX5_readAlternative 7 = .ok (.istore_n 2, 1) := by decide +kernel
theorem dX5_readAlternative_8 : decode cX5_readAlternative 8 = .ok (.iload_n 2, 1) := by decide +kernel
theorem dX5_readAlternative_9 : decode cX5_readAlternative 9 = .ok (.iconst 4, 1) := by decide +kernel
theorem dX5_readAlternative_10 : decode cX5_readAlternative 10 = .ok (.if_icmp .ne 20, 3) := by decide +kernel
theorem dX5_readAlternative_13 : decode cX5_readAlternative 13 = .ok (.aload_n 0, 1) := by decide +kernel
theorem dX5_readAlternative_14 : decode cX5_readAlternative 14 = .ok (.getfield 24, 3) := by decide +kernel
theorem dX5_readAlternative_17 : decode cX5_readAlternative 17 = .ok (.aload_n 0, 1) := by decide +kernel
theorem dX5_readAlternative_18 : decode cX5_readAlternative 18 = .ok (.getfield 14, 3) := by decide +kernel
theorem dX5_readAlternative_21 : decode cX5_readAlternative 21 = .ok (.getfield 90, 3) := by decide +kernel
theorem dX5_readAlternative_24 : decode cX5_readAlternative 24 = .ok (.invokevirtual 94, 3) := by decide +kernel
theorem dX5_readAlternative_27 : decode cX5_readAlternative 27 = .ok (.goto 4, 3) := by decide +kernel
theorem dX5_readAlternative_30 : decode cX5_readAlternative 30 = .ok (.iconst (-1), 1) := by decide +kernel
theorem dX5_readAlternative_31 : decode cX5_readAlternative 31 = .ok (.istore_n 3, 1) := by decide +kernel
theorem dX5_readAlternative_32 : decode cX5_readAlternative 32 = .ok (.iload_n 2, 1) := by decide +kernel
theorem dX5_readAlternative_33 : decode cX5_readAlternative 33 = .ok (.iconst 4, 1) := by decide +kernel
theorem dX5_readAlternative_34 : decode cX5_readAlternative 34 = .ok (.if_icmp .eq 22, 3) := by decide +kernel
theorem dX5_readAlternative_37 : decode cX5_readAlternative 37 = .ok (.iload_n 2, 1) := by decide +kernel
theorem dX5_readAlternative_38 : decode cX5_readAlternative 38 = .ok (.iconst 5, 1) := by decide +kernel
theorem dX5_readAlternative_39 : decode cX5_readAlternative 39 = .ok (.if_icmp .eq 17, 3) := by decide +kernel
theorem dX5_readAlternative_42 : decode cX5_readAlternative 42 = .ok (.iload_n 2, 1) := by decide +kernel
theorem dX5_readAlternative_43 : decode cX5_readAlternative 43 = .ok (.bipush 95, 2) := by decide +kernel
theorem dX5_readAlternative_45 : decode cX5_readAlternative 45 = .ok (.if_icmp .eq 11, 3) := by decide +kernel
theorem dX5_readAlternative_48 : decode cX5_readAlternative 48 = .ok (.aload_n 0, 1) := by decide +kernel
theorem dX5_readAlternative_49 : decode cX5_readAlternative 49 = .ok (.iconst 1, 1) := by decide +kernel
theorem dX5_readAlternative_50 : decode cX5_readAlternative 50 = .ok (.invokevirtual 80, 3) := by decide +kernel
theorem dX5_readAlternative_53 : decode cX5_readAlternative 53 = .ok (.goto 32, 3) := by decide +kernel
theorem dX5_readAlternative_56 : decode cX5_readAlternative 56 = .ok (.iload_n 2, 1) := by decide +kernel
theorem dX5_readAlternative_57 : decode cX5_readAlternative 57 = .ok (.iconst 4, 1) := by decide +kernel
theorem dX5_readAlternative_58 : decode cX5_readAlternative 58 = .ok (.if_icmp .ne 16, 3) := by decide +kernel
theorem dX5_readAlternative_61 : decode cX5_readAlternative 61 = .ok (.iload_n 3, 1) := by decide +kernel
theorem dX5_readAlternative_62 : decode cX5_readAlternative 62 = .ok (.iconst (-1), 1) := by decide +kernel
theorem dX5_readAlternative_63 : decode cX5_readAlternative 63 = .ok (.if_icmp .ne 11, 3) := by decide +kernel
theorem dX5_readAlternative_66 : decode cX5_readAlternative 66 = .ok (.aload_n 0, 1) := by decide +kernel
theorem dX5_readAlternative_67 : decode cX5_readAlternative 67 = .ok (.iconst 3, 1) := by decide +kernel
theorem dX5_readAlternative_68 : decode cX5_readAlternative 68 = .ok (.invokevirtual 80, 3) := by decide +kernel
theorem dX5_readAlternative_71 : decode cX5_readAlternative 71 = .ok (.goto 14, 3) := by decide +kernel
theorem dX5_readAlternative_74 : decode cX5_readAlternative 74 = .ok (.iload_n 1, 1) := by decide +kernel
theorem dX5_readAlternative_75 : decode cX5_readAlternative 75 = .ok (.bipush 8, 2) := by decide +kernel
theorem dX5_readAlternative_77 : decode cX5_readAlternative 77 = .ok (.if_icmp .lt 8, 3) := by decide +kernel
theorem dX5_readAlternative_80 : decode cX5_readAlternative 80 = .ok (.aload_n 0, 1) := by decide +kernel
theorem dX5_readAlternative_81 : decode cX5_readAlternative 81 = .ok (.iconst 4, 1) := by decide +kernel
theorem dX5_readAlternative_82 : decode cX5_readAlternative 82 = .ok (.invokevirtual 80, 3) := by decide +kernel
theorem dX5_readAlternative_85 : decode cX5_readAlternative 85 = .ok (.aload_n 0, 1) := by decide +kernel
theorem dX5_readAlternative_86 : decode cX5_readAlternative 86 = .ok (.getfield 14, 3) := by decide +kernel
theorem dX5_readAlternative_89 : decode cX5_readAlternative 89 = .ok (.getfield 101, 3) := by decide +kernel
theorem dX5_readAlternative_92 : decode cX5_readAlternative 92 = .ok (.istore 4, 2) := by decide +kernel
theorem dX5_readAlternative_94 : decode cX5_readAlternative 94 = .ok (.aload_n 0, 1) := by decide +kernel
theorem dX5_readAlternative_95 : decode cX5_readAlternative 95 = .ok (.getfield 56, 3) := by decide +kernel
theorem dX5_readAlternative_98 : decode cX5_readAlternative 98 = .ok (.istore 5, 2) := by decide +kernel
theorem dX5_readAlternative_100 : decode cX5_readAlternative 100 = .ok (.aload_n 0, 1) := by decide +kernel
theorem dX5_readAlternative_101 : decode cX5_readAlternative 101 = .ok (.getfield 14, 3) := by decide +kernel
theorem dX5_readAlternative_104 : decode cX5_readAlternative 104 = .ok (.invokevirtual 77, 3) := by decide +kernel
theorem dX5_readAlternative_107 : decode cX5_readAlternative 107 = .ok (.iload_n 3, 1) := by decide +kernel
theorem dX5_readAlternative_108 : decode cX5_readAlternative 108 = .ok (.iconst (-1), 1) := by decide +kernel
theorem dX5_readAlternative_109 : decode cX5_readAlternative 109 = .ok (.if_icmp .eq 54, 3) := by decide +kernel
theorem dX5_readAlternative_112 : decode cX5_readAlternative 112 = .ok (.aload_n 0, 1) := by decide +kernel
theorem dX5_readAlternative_113 : decode cX5_readAlternative 113 = .ok (.getfield 28, 3) := by decide +kernel
theorem dX5_readAlternative_116 : decode cX5_readAlternative 116 = .ok (.aload_n 0, 1) := by decide +kernel
theorem dX5_readAlternative_117 : decode cX5_readAlternative 117 = .ok (.getfield 56, 3) := by decide +kernel
theorem dX5_readAlternative_120 : decode cX5_readAlternative 120 = .ok (.aload_n 0, 1) := by decide +kernel
theorem dX5_readAlternative_121 : decode cX5_readAlternative 121 = .ok (.getfield 14, 3) := by decide +kernel
theorem dX5_readAlternative_124 : decode cX5_readAlternative 124 = .ok (.getfield 71, 3) := by decide +kernel
theorem dX5_readAlternative_127 : decode cX5_readAlternative 127 = .ok (.iconst 0, 1) := by decide +kernel
theorem dX5_readAlternative_128 : decode cX5_readAlternative 128 = .ok (.invokevirtual 114, 3) := by decide +kernel
theorem dX5_readAlternative_131 : decode cX5_readAlternative 131 = .ok (.istore 5, 2) := by decide +kernel
theorem dX5_readAlternative_133 : decode cX5_readAlternative 133 = .ok (.iconst 0, 1) := by decide +kernel
theorem dX5_readAlternative_134 : decode cX5_readAlternative 134 = .ok (.istore 6, 2) := by decide +kernel
theorem dX5_readAlternative_136 : decode cX5_readAlternative 136 = .ok (.iload 6, 2) := by decide +kernel
theorem dX5_readAlternative_138 : decode cX5_readAlternative 138 = .ok (.aload_n 0, 1) := by decide +kernel
theorem dX5_readAlternative_139 : decode cX5_readAlternative 139 = .ok (.getfield 24, 3) := by decide +kernel
theorem dX5_readAlternative_142 : decode cX5_readAlternative 142 = .ok (.getfield 188, 3) := by decide +kernel
theorem dX5_readAlternative_145 : decode cX5_readAlternative 145 = .ok (.iload_n 3, 1) := by decide +kernel
theorem dX5_readAlternative_146 : decode cX5_readAlternative 146 = .ok (.iaload, 1) := by decide +kernel
theorem dX5_readAlternative_147 : decode cX5_readAlternative 147 = .ok (.if_icmp .ge 16, 3) := by decide +kernel
theorem dX5_readAlternative_150 : decode cX5_readAlternative 150 = .ok (.aload_n 0, 1) := by decide +kernel
theorem dX5_readAlternative_151 : decode cX5_readAlternative 151 = .ok (.iload 5, 2) := by decide +kernel
theorem dX5_readAlternative_153 : decode cX5_readAlternative 153 = .ok (.invokevirtual 132, 3) := by decide +kernel
theorem dX5_readAlternative_156 : decode cX5_readAlternative 156 = .ok (.pop, 1) := by decide +kernel
theorem dX5_readAlternative_157 : decode cX5_readAlternative 157 = .ok (.iinc 6 1, 3) := by decide +kernel
theorem dX5_readAlternative_160 : decode cX5_readAlternative 160 = .ok (.goto (-24), 3) := by decide +kernel
theorem dX5_readAlternative_163 : decode cX5_readAlternative 163 = .ok (.aload_n 0, 1) := by decide +kernel
theorem dX5_readAlternative_164 : decode cX5_readAlternative 164 = .ok (.sipush 128, 3) := by decide +kernel
theorem dX5_readAlternative_167 : decode cX5_readAlternative 167 = .ok (.invokevirtual 87, 3) := by decide +kernel
theorem dX5_readAlternative_170 : decode cX5_readAlternative 170 = .ok (.aload_n 0, 1) := by decide +kernel
theorem dX5_readAlternative_171 : decode cX5_readAlternative 171 = .ok (.iload 5, 2) := by decide +kernel
theorem dX5_readAlternative_173 : decode cX5_readAlternative 173 = .ok (.invokevirtual 128, 3) := by decide +kernel
theorem dX5_readAlternative_176 : decode cX5_readAlternative 176 = .ok (.istore 6, 2) := by decide +kernel
theorem dX5_readAlternative_178 : decode cX5_readAlternative 178 = .ok (.iload_n 2, 1) := by decide +kernel
theorem dX5_readAlternative_179 : decode cX5_readAlternative 179 = .ok (.iconst 4, 1) := by decide +kernel
theorem dX5_readAlternative_180 : decode cX5_readAlternative 180 = .ok (.if_icmp .ne 18, 3) := by decide +kernel
theorem dX5_readAlternative_183 : decode cX5_readAlternative 183 = .ok (.aload_n 0, 1) := by decide +kernel
theorem dX5_readAlternative_184 : decode cX5_readAlternative 184 = .ok (.getfield 20, 3) := by decide +kernel
theorem dX5_readAlternative_187 : decode cX5_readAlternative 187 = .ok (.bipush 11, 2) := by decide +kernel
theorem dX5_readAlternative_189 : decode cX5_readAlternative 189 = .ok (.iload_n 3, 1) := by decide +kernel
theorem dX5_readAlternative_190 : decode cX5_readAlternative 190 = .ok (.iload 5, 2) := by decide +kernel
theorem dX5_readAlternative_192 : decode cX5_readAlternative 192 = .ok (.iload 6, 2) := by decide +kernel
theorem dX5_readAlternative_194 : decode cX5_readAlternative 194 = .ok (.invokevirtual 175, 3) := by decide +kernel
theorem dX5_readAlternative_197 : decode cX5_readAlternative 197 = .ok (.ireturn, 1) := by decide +kernel
theorem dX5_readAlternative_198 : decode cX5_readAlternative 198 = .ok (.aload_n 0, 1) := by decide +kernel
theorem dX5_readAlternative_199 : decode cX5_readAlternative 199 = .ok (.getfield 20, 3) := by decide +kernel
theorem dX5_readAlternative_202 : decode cX5_readAlternative 202 = .ok (.iload_n 2, 1) := by decide +kernel
theorem dX5_readAlternative_203 : decode cX5_readAlternative 203 = .ok (.iconst 5, 1) := by decide +kernel
theorem dX5_readAlternative_204 : decode cX5_readAlternative 204 = .ok (.if_icmp .ne 8, 3) := by decide +kernel
theorem dX5_readAlternative_207 : decode cX5_readAlternative 207 = .ok (.bipush 12, 2) := by decide +kernel
theorem dX5_readAlternative_209 : decode cX5_readAlternative 209 = .ok (.goto 5, 3) := by decide +kernel
theorem dX5_readAlternative_212 : decode cX5_readAlternative 212 = .ok (.bipush 13, 2) := by decide +kernel
theorem dX5_readAlternative_214 : decode cX5_readAlternative 214 = .ok (.iload 4, 2) := by decide +kernel
theorem dX5_readAlternative_216 : decode cX5_readAlternative 216 = .ok (.iconst 0, 1) := by decide +kernel
theorem dX5_readAlternative_217 : decode cX5_readAlternative 217 = .ok (.iload 6, 2) := by decide +kernel
theorem dX5_readAlternative_219 : decode cX5_readAlternative 219 = .ok (.invokevirtual 175, 3) := by decide +kernel
theorem dX5_readAlternative_222 : decode cX5_readAlternative 222 = .ok (.ireturn, 1) := by decide +kernel
theorem dX5_readApplication_0 : decode cX5_readApplication 0 = .ok (.aload_n 0, 1) := by decide +kernel
theorem dX5_readApplication_1 : decode cX5_readApplication 1 = .ok (.getfield 14, 3) := by decide +kernel
theorem dX5_readApplication_4 : decode cX5_readApplication 4 = .ok (.getfield 62, 3) := by decide +kernel
theorem dX5_readApplication_7 : decode cX5_readApplication 7 = .ok (.iconst 4, 1) := by decide +kernel
theorem dX5_readApplication_8 : decode cX5_readApplication 8 = .ok (.if_icmp .ne 41, 3) := by decide +kernel
theorem dX5_readApplication_11 : decode cX5_readApplication 11 = .ok (.aload_n 0, 1) := by decide +kernel
theorem dX5_readApplication_12 : decode cX5_readApplication 12 = .ok (.getfield 24, 3) := by decide +kernel
theorem dX5_readApplication_15 : decode cX5_readApplication 15 = .ok (.aload_n 0, 1) := by decide +kernel
theorem dX5_readApplication_16 : decode cX5_readApplication 16 = .ok (.getfield 14, 3) := by decide +kernel
theorem dX5_readApplication_19 : decode cX5_readApplication 19 = .ok (.getfield 90, 3) := by decide +kernel
theorem dX5_readApplication_22 : decode cX5_readApplication 22 = .ok (.invokevirtual 94, 3) := by decide +kernel
theorem dX5_readApplication_25 : decode cX5_readApplication 25 = .ok (.istore_n 1, 1) := by decide +kernel
theorem dX5_readApplication_26 : decode cX5_readApplication 26 = .ok (.iload_n 1, 1) := by decide +kernel
theorem dX5_readApplication_27 : decode cX5_readApplication 27 = .ok (.iconst (-1), 1) := by decide +kernel
theorem dX5_readApplication_28 : decode cX5_readApplication 28 = .ok (.if_icmp .eq 21, 3) := by decide +kernel
theorem dX5_readApplication_31 : decode cX5_readApplication 31 = .ok (.aload_n 0, 1) := by decide +kernel
theorem dX5_readApplication_32 : decode cX5_readApplication 32 = .ok (.getfield 24, 3) := by decide +kernel
theorem dX5_readApplication_35 : decode cX5_readApplication 35 = .ok (.getfield 188, 3) := by decide +kernel
theorem dX5_readApplication_38 : decode cX5_readApplication 38 = .ok (.iload_n 1, 1) := by decide +kernel
theorem dX5_readApplication_39 : decode cX5_readApplication 39 = .ok (.iaload, 1) := by decide +kernel
theorem dX5_readApplication_40 : decode cX5_readApplication 40 = .ok (.ifCond .le 9, 3) := by decide +kernel
theorem dX5_readApplication_43 : decode cX5_readApplication 43 = .ok (.aload_n 0, 1) := by decide +kernel
theorem dX5_readApplication_44 : decode cX5_readApplication 44 = .ok (.iload_n 1, 1) := by decide +kernel
theorem dX5_readApplication_45 : decode cX5_readApplication 45 = .ok (.invokevirtual 207, 3) := by decide +kernel
theorem dX5_readApplication_48 : decode cX5_readApplication 48 = .ok (.ireturn, 1) := by decide +kernel
theorem dX5_readApplication_49 : decode cX5_readApplication 49 = .ok (.aload_n 0, 1) := by decide +kernel
theorem dX5_readApplication_50 : decode cX5_readApplication 50 = .ok (.invokevirtual 210, 3) := by decide +kernel
theorem dX5_readApplication_53 : decode cX5_readApplication 53 = .ok (.ifCond .ne 5, 3) := by decide +kernel
theorem dX5_readApplication_56 : decode cX5_readApplication 56 = .ok (.iconst 0, 1) := by decide +kernel
theorem dX5_readApplication_57 : decode cX5_readApplication 57 = .ok (.ireturn, 1) := by decide +kernel
theorem dX5_readApplication_58 : decode cX5_readApplication 58 = .ok (.aload_n 0, 1) := by decide +kernel
theorem dX5_readApplication_59 : decode cX5_readApplication 59 = .ok (.invokevirtual 213, 3) := by decide +kernel
theorem dX5_readApplication_62 : decode cX5_readApplication 62 = .ok (.istore_n 1, 1) := by decide +kernel
theorem dX5_readApplication_63 : decode cX5_readApplication 63 = .ok (.iload_n 1, 1) := by decide +kernel
theorem dX5_readApplication_64 : decode cX5_readApplication 64 = .ok (.istore_n 2, 1) := by decide +kernel
theorem dX5_readApplication_65 : decode cX5_readApplication 65 = .ok (.iconst 0, 1) := by decide +kernel
theorem dX5_readApplication_66 : decode cX5_readApplication 66 = .ok (.istore_n 3, 1) := by decide +kernel
theorem dX5_readApplication_67 : decode cX5_readApplication 67 = .ok (.iload_n 3, 1) := by decide +kernel
theorem dX5_readApplication_68 : decode cX5_readApplication 68 = .ok (.iconst 5, 1) := by decide +kernel
theorem dX5_readApplication_69 : decode cX5_readApplication 69 = .ok (.if_icmp .gt 70, 3) := by decide +kernel
theorem dX5_readApplication_72 : decode cX5_readApplication 72 = .ok (.aload_n 0, 1) := by decide +kernel
theorem dX5_readApplication_73 : decode cX5_readApplication 73 = .ok (.getfield 14, 3) := by decide +kernel
theorem dX5_readApplication_76 : decode cX5_readApplication 76 = .ok (.getfield 62, 3) := by decide +kernel
theorem dX5_readApplication_79 : decode cX5_readApplication 79 = .ok (.invokestatic 216, 3) := by decide +kernel
theorem dX5_readApplication_82 : decode cX5_readApplication 82 = .ok (.ifCond .eq 57, 3) := by decide +kernel
theorem dX5_readApplication_85 : decode cX5_readApplication 85 = .ok (.aload_n 0, 1) := by decide +kernel
theorem dX5_readApplication_86 : decode cX5_readApplication 86 = .ok (.invokevirtual 210, 3) := by decide +kernel
theorem dX5_readApplication_89 : decode cX5_readApplication 89 = .ok (.ifCond .eq 50, 3) := by decide +kernel
theorem dX5_readApplication_92 : decode cX5_readApplication 92 = .ok (.iload_n 3, 1) := by decide +kernel
theorem dX5_readApplication_93 : decode cX5_readApplication 93 = .ok (.iconst 5, 1) := by decide +kernel
theorem dX5_readApplication_94 : decode cX5_readApplication 94 = .ok (.if_icmp .ne 11, 3) := by decide +kernel
theorem dX5_readApplication_97 : decode cX5_readApplication 97 = .ok (.aload_n 0, 1) := by decide +kernel
theorem dX5_readApplication_98 : decode cX5_readApplication 98 = .ok (.iconst 4, 1) := by decide +kernel
theorem dX5_readApplication_99 : decode cX5_readApplication 99 = .ok (.invokevirtual 80, 3) := by decide +kernel
theorem dX5_readApplication_102 : decode cX5_readApplication 102 = .ok (.goto 11, 3) := by decide +kernel
theorem dX5_readApplication_105 : decode cX5_readApplication 105 = .ok (.iload_n 3, 1) := by decide +kernel
theorem dX5_readApplication_106 : decode cX5_readApplication 106 = .ok (.ifCond .ne 7, 3) := by decide +kernel
theorem dX5_readApplication_109 : decode cX5_readApplication 109 = .ok (.aload_n 0, 1) := by decide +kernel
theorem dX5_readApplication_110 : decode cX5_readApplication 110 = .ok (.invokevirtual 166, 3) := by decide +kernel
theorem dX5_readApplication_113 : decode cX5_readApplication 113 = .ok (.aload_n 0, 1) := by decide +kernel
theorem dX5_readApplication_114 : decode cX5_readApplication 114 = .ok (.invokevirtual 213, 3) := by decide +kernel
theorem dX5_readApplication_117 : decode cX5_readApplication 117 = .ok (.istore 4, 2) := by decide +kernel
theorem dX5_readApplication_119 : decode cX5_readApplication 119 = .ok (.aload_n 0, 1) := by decide +kernel
theorem dX5_readApplication_120 : decode cX5_readApplication 120 = .ok (.getfield 20, 3) := by decide +kernel
theorem dX5_readApplication_123 : decode cX5_readApplication 123 = .ok (.getfield 172, 3) := by decide +kernel
theorem dX5_readApplication_126 : decode cX5_readApplication 126 = .ok (.iload_n 2, 1) := by decide +kernel
theorem dX5_readApplication_127 : decode cX5_readApplication 127 = .ok (.iload 4, 2) := by decide +kernel
theorem dX5_readApplication_129 : decode cX5_readApplication 129 = .ok (.iastore, 1) := by decide +kernel
theorem dX5_readApplication_130 : decode cX5_readApplication 130 = .ok (.iload 4, 2) := by decide +kernel
theorem dX5_readApplication_132 : decode cX5_readApplication 132 = .ok (.istore_n 2, 1) := by decide +kernel
theorem dX5_readApplication_133 : decode cX5_readApplication 133 = .ok (.iinc 3 1, 3) := by decide +kernel
theorem dX5_readApplication_136 : decode cX5_readApplication 136 = .ok (.goto (-69), 3) := by decide +kernel
theorem dX5_readApplication_139 : decode cX5_readApplication 139 = .ok (.iload_n 3, 1) := by decide +kernel
theorem dX5_readApplication_140 : decode cX5_readApplication 140 = .ok (.ifCond .ne 7, 3) := by decide +kernel
theorem dX5_readApplication_143 : decode cX5_readApplication 143 = .ok (.iload_n 1, 1) := by decide +kernel
theorem dX5_readApplication_144 : decode cX5_readApplication 144 = .ok (.goto 15, 3) := by decide +kernel
theorem dX5_readApplication_147 : decode cX5_readApplication 147 = .ok (.aload_n 0, 1) := by decide +kernel
theorem dX5_readApplication_148 : decode cX5_readApplication 148 = .ok (.getfield 20, 3) := by decide +kernel
theorem dX5_readApplication_151 : decode cX5_readApplication 151 = .ok (.bipush 8, 2) := by decide +kernel
theorem dX5_readApplication_153 : decode cX5_readApplication 153 = .ok (.iconst 0, 1) := by decide +kernel
theorem dX5_readApplication_154 : decode cX5_readApplication 154 = .ok (.iload_n 3, 1) := by decide +kernel
theorem dX5_readApplication_155 : decode cX5_readApplication 155 = .ok (.iload_n 1, 1) := by decide +kernel
theorem dX5_readApplication_156 : decode cX5_readApplication 156 = .ok (.invokevirtual 175, 3) := by decide +kernel
theorem dX5_readApplication_159 : decode cX5_readApplication 159 = .ok (.ireturn, 1) := by decide +kernel
theorem dX5_readAtom_0 : decode cX5_readAtom 0 = .ok (.aload_n 0, 1) := by decide +kernel
theorem dX5_readAtom_1 : decode cX5_readAtom 1 = .ok (.getfield 14, 3) := by decide +kernel
theorem dX5_readAtom_4 : decode cX5_readAtom 4 = .ok (.getfield 62, 3) := by decide +kernel
theorem dX5_readAtom_7 : decode cX5_readAtom 7 = .ok (.istore_n 1, 1) := by decide +kernel
theorem dX5_readAtom_8 : decode cX5_readAtom 8 = .ok (.iload_n 1, 1) := by decide +kernel
theorem dX5_readAtom_9 : decode cX5_readAtom 9 = .ok (.ifCond .ne 5, 3) := by decide +kernel
theorem dX5_readAtom_12 : decode cX5_readAtom 12 = .ok (.iconst 0, 1) := by decide +kernel
theorem dX5_readAtom_13 : decode cX5_readAtom 13 = .ok (.ireturn, 1) := by decide +kernel
theorem dX5_readAtom_14 : decode cX5_readAtom 14 = .ok (.iload_n 1, 1) := by decide +kernel
theorem dX5_readAtom_15 : decode cX5_readAtom 15 = .ok (.bipush 40, 2) := by decide +kernel
theorem dX5_readAtom_17 : decode cX5_readAtom 17 = .ok (.if_icmp .ne 43, 3) := by decide +kernel
theorem dX5_readAtom_20 : decode cX5_readAtom 20 = .ok (.aload_n 0, 1) := by decide +kernel
theorem dX5_readAtom_21 : decode cX5_readAtom 21 = .ok (.dup, 1) := by decide +kernel
theorem dX5_readAtom_22 : decode cX5_readAtom 22 = .ok (.getfield 53, 3) := by decide +kernel
theorem dX5_readAtom_25 : decode cX5_readAtom 25 = .ok (.iconst 1, 1) := by decide +kernel
theorem dX5_readAtom_26 : decode cX5_readAtom 26 = .ok (.iadd, 1) := by decide +kernel
theorem dX5_readAtom_27 : decode cX5_readAtom 27 = .ok (.putfield 53, 3) := by decide +kernel
theorem dX5_readAtom_30 : decode cX5_readAtom 30 = .ok (.aload_n 0, 1) := by decide +kernel
theorem dX5_readAtom_31 : decode cX5_readAtom 31 = .ok (.getfield 14, 3) := by decide +kernel
theorem dX5_readAtom_34 : decode cX5_readAtom 34 = .ok (.invokevirtual 77, 3) := by decide +kernel
theorem dX5_readAtom_37 : decode cX5_readAtom 37 = .ok (.aload_n 0, 1) := by decide +kernel
theorem dX5_readAtom_38 : decode cX5_readAtom 38 = .ok (.invokevirtual 146, 3) := by decide +kernel
theorem dX5_readAtom_41 : decode cX5_readAtom 41 = .ok (.istore_n 2, 1) := by decide +kernel
theorem dX5_readAtom_42 : decode cX5_readAtom 42 = .ok (.aload_n 0, 1) := by decide +kernel
theorem dX5_readAtom_43 : decode cX5_readAtom 43 = .ok (.bipush 41, 2) := by decide +kernel
theorem dX5_readAtom_45 : decode cX5_readAtom 45 = .ok (.invokevirtual 87, 3) := by decide +kernel
theorem dX5_readAtom_48 : decode cX5_readAtom 48 = .ok (.aload_n 0, 1) := by decide +kernel
theorem dX5_readAtom_49 : decode cX5_readAtom 49 = .ok (.dup, 1) := by decide +kernel
theorem dX5_readAtom_50 : decode cX5_readAtom 50 = .ok (.getfield 53, 3) := by decide +kernel
theorem dX5_readAtom_53 : decode cX5_readAtom 53 = .ok (.iconst 1, 1) := by decide +kernel
theorem dX5_readAtom_54 : decode cX5_readAtom 54 = .ok (.isub, 1) := by decide +kernel
theorem dX5_readAtom_55 : decode cX5_readAtom 55 = .ok (.putfield 53, 3) := by decide +kernel
theorem dX5_readAtom_58 : decode cX5_readAtom 58 = .ok (.iload_n 2, 1) := by decide +kernel
theorem dX5_readAtom_59 : decode cX5_readAtom 59 = .ok (.ireturn, 1) := by decide +kernel
theorem dX5_readAtom_60 : decode cX5_readAtom 60 = .ok (.aload_n 0, 1) := by decide +kernel
theorem dX5_readAtom_61 : decode cX5_readAtom 61 = .ok (.invokevirtual 166, 3) := by decide +kernel
theorem dX5_readAtom_64 : decode cX5_readAtom 64 = .ok (.aload_n 0, 1) := by decide +kernel
theorem dX5_readAtom_65 : decode cX5_readAtom 65 = .ok (.getfield 14, 3) := by decide +kernel
theorem dX5_readAtom_68 : decode cX5_readAtom 68 = .ok (.getfield 62, 3) := by decide +kernel
theorem dX5_readAtom_71 : decode cX5_readAtom 71 = .ok (.ifCond .ne 5, 3) := by decide +kernel
theorem dX5_readAtom_74 : decode cX5_readAtom 74 = .ok (.iconst 0, 1) := by decide +kernel
theorem dX5_readAtom_75 : decode cX5_readAtom 75 = .ok (.ireturn, 1) := by decide +kernel
theorem dX5_readAtom_76 : decode cX5_readAtom 76 = .ok (.iload_n 1, 1) := by decide +kernel
theorem dX5_readAtom_77 : decode cX5_readAtom 77 = .ok (.iconst 3, 1) := by decide +kernel
theorem dX5_readAtom_78 : decode cX5_readAtom 78 = .ok (.if_icmp .ne 42, 3) := by decide +kernel
theorem dX5_readAtom_81 : decode cX5_readAtom 81 = .ok (.aload_n 0, 1) := by decide +kernel
theorem dX5_readAtom_82 : decode cX5_readAtom 82 = .ok (.getfield 20, 3) := by decide +kernel
theorem dX5_readAtom_85 : decode cX5_readAtom 85 = .ok (.iconst 3, 1) := by decide +kernel
theorem dX5_readAtom_86 : decode cX5_readAtom 86 = .ok (.iconst 0, 1) := by decide +kernel
theorem dX5_readAtom_87 : decode cX5_readAtom 87 = .ok (.invokevirtual 181, 3) := by decide +kernel
theorem dX5_readAtom_90 : decode cX5_readAtom 90 = .ok (.istore_n 2, 1) := by decide +kernel
theorem dX5_readAtom_91 : decode cX5_readAtom 91 = .ok (.aload_n 0, 1) := by decide +kernel
theorem dX5_readAtom_92 : decode cX5_readAtom 92 = .ok (.getfield 28, 3) := by decide +kernel
theorem dX5_readAtom_95 : decode cX5_readAtom 95 = .ok (.aload_n 0, 1) := by decide +kernel
theorem dX5_readAtom_96 : decode cX5_readAtom 96 = .ok (.getfield 14, 3) := by decide +kernel
theorem dX5_readAtom_99 : decode cX5_readAtom 99 = .ok (.getfield 90, 3) := by decide +kernel
theorem dX5_readAtom_102 : decode cX5_readAtom 102 = .ok (.aload_n 0, 1) := by decide +kernel
theorem dX5_readAtom_103 : decode cX5_readAtom 103 = .ok (.getfield 56, 3) := by decide +kernel
theorem dX5_readAtom_106 : decode cX5_readAtom 106 = .ok (.aload_n 0, 1) := by decide +kernel
theorem dX5_readAtom_107 : decode cX5_readAtom 107 = .ok (.getfield 14, 3) := by decide +kernel
theorem dX5_readAtom_110 : decode cX5_readAtom 110 = .ok (.getfield 71, 3) := by decide +kernel
theorem dX5_readAtom_113 : decode cX5_readAtom 113 = .ok (.iload_n 2, 1) := by decide +kernel
theorem dX5_readAtom_114 : decode cX5_readAtom 114 = .ok (.invokevirtual 220, 3) := by decide +kernel
theorem dX5_readAtom_117 : decode cX5_readAtom 117 = .ok (.goto 68, 3) := by decide +kernel
theorem dX5_readAtom_120 : decode cX5_readAtom 120 = .ok (.iload_n 1, 1) := by decide +kernel
theorem dX5_readAtom_121 : decode cX5_readAtom 121 = .ok (.iconst 5, 1) := by decide +kernel
theorem dX5_readAtom_122 : decode cX5_readAtom 122 = .ok (.if_icmp .ne 22, 3) := by decide +kernel
theorem dX5_readAtom_125 : decode cX5_readAtom 125 = .ok (.aload_n 0, 1) := by decide +kernel
theorem dX5_readAtom_126 : decode cX5_readAtom 126 = .ok (.getfield 20, 3) := by decide +kernel
theorem dX5_readAtom_129 : decode cX5_readAtom 129 = .ok (.iconst 0, 1) := by decide +kernel
theorem dX5_readAtom_130 : decode cX5_readAtom 130 = .ok (.aload_n 0, 1) := by decide +kernel
theorem dX5_readAtom_131 : decode cX5_readAtom 131 = .ok (.getfield 14, 3) := by decide +kernel
theorem dX5_readAtom_134 : decode cX5_readAtom 134 = .ok (.getfield 101, 3) := by decide +kernel
theorem dX5_readAtom_137 : decode cX5_readAtom 137 = .ok (.invokevirtual 181, 3) := by decide +kernel
theorem dX5_readAtom_140 : decode cX5_readAtom 140 = .ok (.istore_n 2, 1) := by decide +kernel
theorem dX5_readAtom_141 : decode cX5_readAtom 141 = .ok (.goto 44, 3) := by decide +kernel
theorem dX5_readAtom_144 : decode cX5_readAtom 144 = .ok (.iload_n 1, 1) := by decide +kernel
theorem dX5_readAtom_145 : decode cX5_readAtom 145 = .ok (.iconst 4, 1) := by decide +kernel
theorem dX5_readAtom_146 : decode cX5_readAtom 146 = .ok (.if_icmp .ne 29, 3) := by decide +kernel
theorem dX5_readAtom_149 : decode cX5_readAtom 149 = .ok (.aload_n 0, 1) := by decide +kernel
theorem dX5_readAtom_150 : decode cX5_readAtom 150 = .ok (.getfield 20, 3) := by decide +kernel
theorem dX5_readAtom_153 : decode cX5_readAtom 153 = .ok (.iconst 1, 1) := by decide +kernel
theorem dX5_readAtom_154 : decode cX5_readAtom 154 = .ok (.aload_n 0, 1) := by decide +kernel
theorem dX5_readAtom_155 : decode cX5_readAtom 155 = .ok (.getfield 24, 3) := by decide +kernel
theorem dX5_readAtom_158 : decode cX5_readAtom 158 = .ok (.aload_n 0, 1) := by decide +kernel
theorem dX5_readAtom_159 : decode cX5_readAtom 159 = .ok (.getfield 14, 3) := by decide +kernel
theorem dX5_readAtom_162 : decode cX5_readAtom 162 = .ok (.getfield 90, 3) := by decide +kernel
theorem dX5_readAtom_165 : decode cX5_readAtom 165 = .ok (.invokevirtual 94, 3) := by decide +kernel
theorem dX5_readAtom_168 : decode cX5_readAtom 168 = .ok (.invokevirtual 181, 3) := by decide +kernel
theorem dX5_readAtom_171 : decode cX5_readAtom 171 = .ok (.istore_n 2, 1) := by decide +kernel
theorem dX5_readAtom_172 : decode cX5_readAtom 172 = .ok (.goto 13, 3) := by decide +kernel
theorem dX5_readAtom_175 : decode cX5_readAtom 175 = .ok (.aload_n 0, 1) := by decide +kernel
theorem dX5_readAtom_176 : decode cX5_readAtom 176 = .ok (.getfield 20, 3) := by decide +kernel
theorem dX5_readAtom_179 : decode cX5_readAtom 179 = .ok (.iconst 4, 1) := by decide +kernel
theorem dX5_readAtom_180 : decode cX5_readAtom 180 = .ok (.iconst 0, 1) := by decide +kernel
theorem dX5_readAtom_181 : decode cX5_readAtom 181 = .ok (.invokevirtual 181, 3) := by decide +kernel
theorem dX5_readAtom_184 : decode cX5_readAtom 184 = .ok (.istore_n 2, 1) := by decide +kernel
theorem dX5_readAtom_185 : decode cX5_readAtom 185 = .ok (.aload_n 0, 1) := by decide +kernel
theorem dX5_readAtom_186 : decode cX5_readAtom 186 = .ok (.getfield 14, 3) := by decide +kernel
theorem dX5_readAtom_189 : decode cX5_readAtom 189 = .ok (.invokevirtual 77, 3) := by decide +kernel
theorem dX5_readAtom_192 : decode cX5_readAtom 192 = .ok (.iload_n 2, 1) := by decide +kernel
theorem dX5_readAtom_193 : decode cX5_readAtom 193 = .ok (.ireturn, 1) := by decide +kernel
theorem dX5_readBinding_0 : decode cX5_readBinding 0 = .ok (.aload_n 0, 1) := by decide +kernel
theorem dX5_readBinding_1 : decode cX5_readBinding 1 = .ok (.getfield 14, 3) := by decide +kernel
theorem dX5_readBinding_4 : decode cX5_readBinding 4 = .ok (.getfield 71, 3) := by decide +kernel
theorem dX5_readBinding_7 : decode cX5_readBinding 7 = .ok (.istore_n 1, 1) := by decide +kernel
theorem dX5_readBinding_8 : decode cX5_readBinding 8 = .ok (.aload_n 0, 1) := by decide +kernel
theorem dX5_readBinding_9 : decode cX5_readBinding 9 = .ok (.aload_n 0, 1) := by decide +kernel
theorem dX5_readBinding_10 : decode cX5_readBinding 10 = .ok (.getfield 56, 3) := by decide +kernel
theorem dX5_readBinding_13 : decode cX5_readBinding 13 = .ok (.invokevirtual 132, 3) := by decide +kernel
theorem dX5_readBinding_16 : decode cX5_readBinding 16 = .ok (.istore_n 2, 1) := by decide +kernel
theorem dX5_readBinding_17 : decode cX5_readBinding 17 = .ok (.aload_n 0, 1) := by decide +kernel
theorem dX5_readBinding_18 : decode cX5_readBinding 18 = .ok (.getfield 14, 3) := by decide +kernel
theorem dX5_readBinding_21 : decode cX5_readBinding 21 = .ok (.getfield 62, 3) := by decide +kernel
theorem dX5_readBinding_24 : decode cX5_readBinding 24 = .ok (.iconst 3, 1) := by decide +kernel
theorem dX5_readBinding_25 : decode cX5_readBinding 25 = .ok (.if_icmp .ne 16, 3) := by decide +kernel
theorem dX5_readBinding_28 : decode cX5_readBinding 28 = .ok (.aload_n 0, 1) := by decide +kernel
theorem dX5_readBinding_29 : decode cX5_readBinding 29 = .ok (.invokevirtual 166, 3) := by decide +kernel
theorem dX5_readBinding_32 : decode cX5_readBinding 32 = .ok (.aload_n 0, 1) := by decide +kernel
theorem dX5_readBinding_33 : decode cX5_readBinding 33 = .ok (.iload_n 1, 1) := by decide +kernel
theorem dX5_readBinding_34 : decode cX5_readBinding 34 = .ok (.invokevirtual 178, 3) := by decide +kernel
theorem dX5_readBinding_37 : decode cX5_readBinding 37 = .ok (.istore_n 3, 1) := by decide +kernel
theorem dX5_readBinding_38 : decode cX5_readBinding 38 = .ok (.goto 14, 3) := by decide +kernel
theorem dX5_readBinding_41 : decode cX5_readBinding 41 = .ok (.aload_n 0, 1) := by decide +kernel
theorem dX5_readBinding_42 : decode cX5_readBinding 42 = .ok (.bipush 61, 2) := by decide +kernel
theorem dX5_readBinding_44 : decode cX5_readBinding 44 = .ok (.invokevirtual 87, 3) := by decide +kernel
theorem dX5_readBinding_47 : decode cX5_readBinding 47 = .ok (.aload_n 0, 1) := by decide +kernel
theorem dX5_readBinding_48 : decode cX5_readBinding 48 = .ok (.invokevirtual 146, 3) := by decide +kernel
theorem dX5_readBinding_51 : decode cX5_readBinding 51 = .ok (.istore_n 3, 1) := by decide +kernel
theorem dX5_readBinding_52 : decode cX5_readBinding 52 = .ok (.aload_n 0, 1) := by decide +kernel
theorem dX5_readBinding_53 : decode cX5_readBinding 53 = .ok (.getfield 20, 3) := by decide +kernel
theorem dX5_readBinding_56 : decode cX5_readBinding 56 = .ok (.bipush 10, 2) := by decide +kernel
theorem dX5_readBinding_58 : decode cX5_readBinding 58 = .ok (.iload_n 2, 1) := by decide +kernel
theorem dX5_readBinding_59 : decode cX5_readBinding 59 = .ok (.iconst 0, 1) := by decide +kernel
theorem dX5_readBinding_60 : decode cX5_readBinding 60 = .ok (.iload_n 3, 1) := by decide +kernel
theorem dX5_readBinding_61 : decode cX5_readBinding 61 = .ok (.invokevirtual 175, 3) := by decide +kernel
theorem dX5_readBinding_64 : decode cX5_readBinding 64 = .ok (.ireturn, 1) := by decide +kernel
theorem dX5_readBuild_0 : decode cX5_readBuild 0 = .ok (.aload_n 0, 1) := by decide +kernel
theorem dX5_readBuild_1 : decode cX5_readBuild 1 = .ok (.getfield 14, 3) := by decide +kernel
theorem dX5_readBuild_4 : decode cX5_readBuild 4 = .ok (.invokevirtual 77, 3) := by decide +kernel
theorem dX5_readBuild_7 : decode cX5_readBuild 7 = .ok (.iconst (-1), 1) := by decide +kernel
theorem dX5_readBuild_8 : decode cX5_readBuild 8 = .ok (.istore_n 2, 1) := by decide +kernel
theorem dX5_readBuild_9 : decode cX5_readBuild 9 = .ok (.iconst (-1), 1) := by decide +kernel
theorem dX5_readBuild_10 : decode cX5_readBuild 10 = .ok (.istore_n 3, 1) := by decide +kernel
theorem dX5_readBuild_11 : decode cX5_readBuild 11 = .ok (.iconst 0, 1) := by decide +kernel
theorem dX5_readBuild_12 : decode cX5_readBuild 12 = .ok (.istore 4, 2) := by decide +kernel
theorem dX5_readBuild_14 : decode cX5_readBuild 14 = .ok (.iload 4, 2) := by decide +kernel
theorem dX5_readBuild_16 : decode cX5_readBuild 16 = .ok (.aload_n 0, 1) := by decide +kernel
theorem dX5_readBuild_17 : decode cX5_readBuild 17 = .ok (.getfield 24, 3) := by decide +kernel
theorem dX5_readBuild_20 : decode cX5_readBuild 20 = .ok (.getfield 188, 3) := by decide +kernel
theorem dX5_readBuild_23 : decode cX5_readBuild 23 = .ok (.iload_n 1, 1) := by decide +kernel
theorem dX5_readBuild_24 : decode cX5_readBuild 24 = .ok (.iaload, 1) := by decide +kernel
theorem dX5_readBuild_25 : decode cX5_readBuild 25 = .ok (.if_icmp .ge 56, 3) := by decide +kernel
theorem dX5_readBuild_28 : decode cX5_readBuild 28 = .ok (.aload_n 0, 1) := by decide +kernel
theorem dX5_readBuild_29 : decode cX5_readBuild 29 = .ok (.invokevirtual 210, 3) := by decide +kernel
theorem dX5_readBuild_32 : decode cX5_readBuild 32 = .ok (.ifCond .eq 49, 3) := by decide +kernel
theorem dX5_readBuild_35 : decode cX5_readBuild 35 = .ok (.iload 4, 2) := by decide +kernel
theorem dX5_readBuild_37 : decode cX5_readBuild 37 = .ok (.ifCond .ne 7, 3) := by decide +kernel
theorem dX5_readBuild_40 : decode cX5_readBuild 40 = .ok (.aload_n 0, 1) := by decide +kernel
theorem dX5_readBuild_41 : decode cX5_readBuild 41 = .ok (.invokevirtual 166, 3) := by decide +kernel
theorem dX5_readBuild_44 : decode cX5_readBuild 44 = .ok (.aload_n 0, 1) := by decide +kernel
theorem dX5_readBuild_45 : decode cX5_readBuild 45 = .ok (.invokevirtual 213, 3) := by decide +kernel
theorem dX5_readBuild_48 : decode cX5_readBuild 48 = .ok (.istore 5, 2) := by decide +kernel
theorem dX5_readBuild_50 : decode cX5_readBuild 50 = .ok (.iload_n 3, 1) := by decide +kernel
theorem dX5_readBuild_51 : decode cX5_readBuild 51 = .ok (.iconst (-1), 1) := by decide +kernel
theorem dX5_readBuild_52 : decode cX5_readBuild 52 = .ok (.if_icmp .ne 9, 3) := by decide +kernel
theorem dX5_readBuild_55 : decode cX5_readBuild 55 = .ok (.iload 5, 2) := by decide +kernel
theorem dX5_readBuild_57 : decode cX5_readBuild 57 = .ok (.istore_n 2, 1) := by decide +kernel
theorem dX5_readBuild_58 : decode cX5_readBuild 58 = .ok (.goto 14, 3) := by decide +kernel
theorem dX5_readBuild_61 : decode cX5_readBuild 61 = .ok (.aload_n 0, 1) := by decide +kernel
theorem dX5_readBuild_62 : decode cX5_readBuild 62 = .ok (.getfield 20, 3) := by decide +kernel
theorem dX5_readBuild_65 : decode cX5_readBuild 65 = .ok (.getfield 172, 3) := by decide +kernel
theorem dX5_readBuild_68 : decode cX5_readBuild 68 = .ok (.iload_n 3, 1) := by decide +kernel
theorem dX5_readBuild_69 : decode cX5_readBuild 69 = .ok (.iload 5, 2) := by decide +kernel
theorem dX5_readBuild_71 : decode cX5_readBuild 71 = .ok (.iastore, 1) := by decide +kernel
theorem dX5_readBuild_72 : decode cX5_readBuild 72 = .ok (.iload 5, 2) := by decide +kernel
theorem dX5_readBuild_74 : decode cX5_readBuild 74 = .ok (.istore_n 3, 1) := by decide +kernel
theorem dX5_readBuild_75 : decode cX5_readBuild 75 = .ok (.iinc 4 1, 3) := by decide +kernel
theorem dX5_readBuild_78 : decode cX5_readBuild 78 = .ok (.goto (-64), 3) := by decide +kernel
theorem dX5_readBuild_81 : decode cX5_readBuild 81 = .ok (.aload_n 0, 1) := by decide +kernel
theorem dX5_readBuild_82 : decode cX5_readBuild 82 = .ok (.getfield 20, 3) := by decide +kernel
theorem dX5_readBuild_85 : decode cX5_readBuild 85 = .ok (.bipush 9, 2) := by decide +kernel
theorem dX5_readBuild_87 : decode cX5_readBuild 87 = .ok (.iload_n 1, 1) := by decide +kernel
theorem dX5_readBuild_88 : decode cX5_readBuild 88 = .ok (.iconst 0, 1) := by decide +kernel
theorem dX5_readBuild_89 : decode cX5_readBuild 89 = .ok (.iload_n 2, 1) := by decide +kernel
theorem dX5_readBuild_90 : decode cX5_readBuild 90 = .ok (.invokevirtual 175, 3) := by decide +kernel
theorem dX5_readBuild_93 : decode cX5_readBuild 93 = .ok (.ireturn, 1) := by decide +kernel
theorem dX5_readCase_0 : decode cX5_readCase 0 = .ok (.aload_n 0, 1) := by decide +kernel
theorem dX5_readCase_1 : decode cX5_readCase 1 = .ok (.invokevirtual 162, 3) := by decide +kernel
theorem dX5_readCase_4 : decode cX5_readCase 4 = .ok (.ifCond .ne 5, 3) := by decide +kernel
theorem dX5_readCase_7 : decode cX5_readCase 7 = .ok (.iconst 0, 1) := by decide +kernel
theorem dX5_readCase_8 : decode cX5_readCase 8 = .ok (.ireturn, 1) := by decide +kernel
theorem dX5_readCase_9 : decode cX5_readCase 9 = .ok (.aload_n 0, 1) := by decide +kernel
theorem dX5_readCase_10 : decode cX5_readCase 10 = .ok (.invokevirtual 166, 3) := by decide +kernel
theorem dX5_readCase_13 : decode cX5_readCase 13 = .ok (.aload_n 0, 1) := by decide +kernel
theorem dX5_readCase_14 : decode cX5_readCase 14 = .ok (.getfield 14, 3) := by decide +kernel
theorem dX5_readCase_17 : decode cX5_readCase 17 = .ok (.invokevirtual 77, 3) := by decide +kernel
theorem dX5_readCase_20 : decode cX5_readCase 20 = .ok (.aload_n 0, 1) := by decide +kernel
theorem dX5_readCase_21 : decode cX5_readCase 21 = .ok (.invokevirtual 146, 3) := by decide +kernel
theorem dX5_readCase_24 : decode cX5_readCase 24 = .ok (.istore_n 1, 1) := by decide +kernel
theorem dX5_readCase_25 : decode cX5_readCase 25 = .ok (.aload_n 0, 1) := by decide +kernel
theorem dX5_readCase_26 : decode cX5_readCase 26 = .ok (.bipush 10, 2) := by decide +kernel
theorem dX5_readCase_28 : decode cX5_readCase 28 = .ok (.invokevirtual 87, 3) := by decide +kernel
theorem dX5_readCase_31 : decode cX5_readCase 31 = .ok (.aload_n 0, 1) := by decide +kernel
theorem dX5_readCase_32 : decode cX5_readCase 32 = .ok (.bipush 123, 2) := by decide +kernel
theorem dX5_readCase_34 : decode cX5_readCase 34 = .ok (.invokevirtual 87, 3) := by decide +kernel
theorem dX5_readCase_37 : decode cX5_readCase 37 = .ok (.aload_n 0, 1) := by decide +kernel
theorem dX5_readCase_38 : decode cX5_readCase 38 = .ok (.iconst 0, 1) := by decide +kernel
theorem dX5_readCase_39 : decode cX5_readCase 39 = .ok (.invokevirtual 185, 3) := by decide +kernel
theorem dX5_readCase_42 : decode cX5_readCase 42 = .ok (.istore_n 2, 1) := by decide +kernel
theorem dX5_readCase_43 : decode cX5_readCase 43 = .ok (.aload_n 0, 1) := by decide +kernel
theorem dX5_readCase_44 : decode cX5_readCase 44 = .ok (.getfield 20, 3) := by decide +kernel
theorem dX5_readCase_47 : decode cX5_readCase 47 = .ok (.getfield 172, 3) := by decide +kernel
theorem dX5_readCase_50 : decode cX5_readCase 50 = .ok (.iload_n 1, 1) := by decide +kernel
theorem dX5_readCase_51 : decode cX5_readCase 51 = .ok (.iload_n 2, 1) := by decide +kernel
theorem dX5_readCase_52 : decode cX5_readCase 52 = .ok (.iastore, 1) := by decide +kernel
theorem dX5_readCase_53 : decode cX5_readCase 53 = .ok (.iconst 1, 1) := by decide +kernel
theorem dX5_readCase_54 : decode cX5_readCase 54 = .ok (.istore_n 3, 1) := by decide +kernel
theorem dX5_readCase_55 : decode cX5_readCase 55 = .ok (.iload_n 3, 1) := by decide +kernel
theorem dX5_readCase_56 : decode cX5_readCase 56 = .ok (.bipush 8, 2) := by decide +kernel
theorem dX5_readCase_58 : decode cX5_readCase 58 = .ok (.if_icmp .gt 49, 3) := by decide +kernel
theorem dX5_readCase_61 : decode cX5_readCase 61 = .ok (.aload_n 0, 1) := by decide +kernel
theorem dX5_readCase_62 : decode cX5_readCase 62 = .ok (.getfield 14, 3) := by decide +kernel
theorem dX5_readCase_65 : decode cX5_readCase 65 = .ok (.getfield 62, 3) := by decide +kernel
theorem dX5_readCase_68 : decode cX5_readCase 68 = .ok (.bipush 59, 2) := by decide +kernel
theorem dX5_readCase_70 : decode cX5_readCase 70 = .ok (.if_icmp .ne 37, 3) := by decide +kernel
theorem dX5_readCase_73 : decode cX5_readCase 73 = .ok (.aload_n 0, 1) := by decide +kernel
theorem dX5_readCase_74 : decode cX5_readCase 74 = .ok (.getfield 14, 3) := by decide +kernel
theorem dX5_readCase_77 : decode cX5_readCase 77 = .ok (.invokevirtual 77, 3) := by decide +kernel
theorem dX5_readCase_80 : decode cX5_readCase 80 = .ok (.aload_n 0, 1) := by decide +kernel
theorem dX5_readCase_81 : decode cX5_readCase 81 = .ok (.iload_n 3, 1) := by decide +kernel
theorem dX5_readCase_82 : decode cX5_readCase 82 = .ok (.invokevirtual 185, 3) := by decide +kernel
theorem dX5_readCase_85 : decode cX5_readCase 85 = .ok (.istore 4, 2) := by decide +kernel
theorem dX5_readCase_87 : decode cX5_readCase 87 = .ok (.aload_n 0, 1) := by decide +kernel
theorem dX5_readCase_88 : decode cX5_readCase 88 = .ok (.getfield 20, 3) := by decide +kernel
theorem dX5_readCase_91 : decode cX5_readCase 91 = .ok (.getfield 172, 3) := by decide +kernel
theorem dX5_readCase_94 : decode cX5_readCase 94 = .ok (.iload_n 2, 1) := by decide +kernel
theorem dX5_readCase_95 : decode cX5_readCase 95 = .ok (.iload 4, 2) := by decide +kernel
theorem dX5_readCase_97 : decode cX5_readCase 97 = .ok (.iastore, 1) := by decide +kernel
theorem dX5_readCase_98 : decode cX5_readCase 98 = .ok (.iload 4, 2) := by decide +kernel
theorem dX5_readCase_100 : decode cX5_readCase 100 = .ok (.istore_n 2, 1) := by decide +kernel
theorem dX5_readCase_101 : decode cX5_readCase 101 = .ok (.iinc 3 1, 3) := by decide +kernel
theorem dX5_readCase_104 : decode cX5_readCase 104 = .ok (.goto (-49), 3) := by decide +kernel
theorem dX5_readCase_107 : decode cX5_readCase 107 = .ok (.aload_n 0, 1) := by decide +kernel
theorem dX5_readCase_108 : decode cX5_readCase 108 = .ok (.bipush 125, 2) := by decide +kernel
theorem dX5_readCase_110 : decode cX5_readCase 110 = .ok (.invokevirtual 87, 3) := by decide +kernel
theorem dX5_readCase_113 : decode cX5_readCase 113 = .ok (.aload_n 0, 1) := by decide +kernel
theorem dX5_readCase_114 : decode cX5_readCase 114 = .ok (.dup, 1) := by decide +kernel
theorem dX5_readCase_115 : decode cX5_readCase 115 = .ok (.getfield 53, 3) := by decide +kernel
theorem dX5_readCase_118 : decode cX5_readCase 118 = .ok (.iconst 1, 1) := by decide +kernel
theorem dX5_readCase_119 : decode cX5_readCase 119 = .ok (.isub, 1) := by decide +kernel
theorem dX5_readCase_120 : decode cX5_readCase 120 = .ok (.putfield 53, 3) := by decide +kernel
theorem dX5_readCase_123 : decode cX5_readCase 123 = .ok (.aload_n 0, 1) := by decide +kernel
theorem dX5_readCase_124 : decode cX5_readCase 124 = .ok (.getfield 20, 3) := by decide +kernel
theorem dX5_readCase_127 : decode cX5_readCase 127 = .ok (.bipush 6, 2) := by decide +kernel
theorem dX5_readCase_129 : decode cX5_readCase 129 = .ok (.iconst 0, 1) := by decide +kernel
theorem dX5_readCase_130 : decode cX5_readCase 130 = .ok (.iconst 0, 1) := by decide +kernel
theorem dX5_readCase_131 : decode cX5_readCase 131 = .ok (.iload_n 1, 1) := by decide +kernel
theorem dX5_readCase_132 : decode cX5_readCase 132 = .ok (.invokevirtual 175, 3) := by decide +kernel
theorem dX5_readCase_135 : decode cX5_readCase 135 = .ok (.ireturn, 1) := by decide +kernel
theorem dX5_readComparison_0 : decode cX5_readComparison 0 = .ok (.aload_n 0, 1) := by decide +kernel
theorem dX5_readComparison_1 : decode cX5_readComparison 1 = .ok (.invokevirtual 191, 3) := by decide +kernel
theorem dX5_readComparison_4 : decode cX5_readComparison 4 = .ok (.istore_n 1, 1) := by decide +kernel
theorem dX5_readComparison_5 : decode cX5_readComparison 5 = .ok (.aload_n 0, 1) := by decide +kernel
theorem dX5_readComparison_6 : decode cX5_readComparison 6 = .ok (.getfield 14, 3) := by decide +kernel
theorem dX5_readComparison_9 : decode cX5_readComparison 9 = .ok (.getfield 62, 3) := by decide +kernel
theorem dX5_readComparison_12 : decode cX5_readComparison 12 = .ok (.sipush 129, 3) := by decide +kernel
theorem dX5_readComparison_15 : decode cX5_readComparison 15 = .ok (.if_icmp .eq 28, 3) := by decide +kernel
theorem dX5_readComparison_18 : decode cX5_readComparison 18 = .ok (.aload_n 0, 1) := by decide +kernel
theorem dX5_readComparison_19 : decode cX5_readComparison 19 = .ok (.getfield 14, 3) := by decide +kernel
theorem dX5_readComparison_22 : decode cX5_readComparison 22 = .ok (.getfield 62, 3) := by decide +kernel
theorem dX5_readComparison_25 : decode cX5_readComparison 25 = .ok (.bipush 60, 2) := by decide +kernel
theorem dX5_readComparison_27 : decode cX5_readComparison 27 = .ok (.if_icmp .eq 16, 3) := by decide +kernel
theorem dX5_readComparison_30 : decode cX5_readComparison 30 = .ok (.aload_n 0, 1) := by decide +kernel
theorem dX5_readComparison_31 : decode cX5_readComparison 31 = .ok (.getfield 14, 3) := by decide +kernel
theorem dX5_readComparison_34 : decode cX5_readComparison 34 = .ok (.getfield 62, 3) := by decide +kernel
theorem dX5_readComparison_37 : decode cX5_readComparison 37 = .ok (.sipush 130, 3) := by decide +kernel
theorem dX5_readComparison_40 : decode cX5_readComparison 40 = .ok (.if_icmp .ne 19, 3) := by decide +kernel
theorem dX5_readComparison_43 : decode cX5_readComparison 43 = .ok (.aload_n 0, 1) := by decide +kernel
theorem dX5_readComparison_44 : decode cX5_readComparison 44 = .ok (.invokevirtual 194, 3) := by decide +kernel
theorem dX5_readComparison_47 : decode cX5_readComparison 47 = .ok (.istore_n 2, 1) := by decide +kernel
theorem dX5_readComparison_48 : decode cX5_readComparison 48 = .ok (.aload_n 0, 1) := by decide +kernel
theorem dX5_readComparison_49 : decode cX5_readComparison 49 = .ok (.iload_n 2, 1) := by decide +kernel
theorem dX5_readComparison_50 : decode cX5_readComparison 50 = .ok (.iload_n 1, 1) := by decide +kernel
theorem dX5_readComparison_51 : decode cX5_readComparison 51 = .ok (.aload_n 0, 1) := by decide +kernel
theorem dX5_readComparison_52 : decode cX5_readComparison 52 = .ok (.invokevirtual 191, 3) := by decide +kernel
theorem dX5_readComparison_55 : decode cX5_readComparison 55 = .ok (.invokevirtual 197, 3) := by decide +kernel
theorem dX5_readComparison_58 : decode cX5_readComparison 58 = .ok (.istore_n 1, 1) := by decide +kernel
theorem dX5_readComparison_59 : decode cX5_readComparison 59 = .ok (.iload_n 1, 1) := by decide +kernel
theorem dX5_readComparison_60 : decode cX5_readComparison 60 = .ok (.ireturn, 1) := by decide +kernel
theorem dX5_readConstructor_0 : decode cX5_readConstructor 0 = .ok (.aload_n 0, 1) := by decide +kernel
theorem dX5_readConstructor_1 : decode cX5_readConstructor 1 = .ok (.getfield 14, 3) := by decide +kernel
theorem dX5_readConstructor_4 : decode cX5_readConstructor 4 = .ok (.getfield 90, 3) := by decide +kernel
theorem dX5_readConstructor_7 : decode cX5_readConstructor 7 = .ok (.lstore_n 1, 1) := by decide +kernel
theorem dX5_readConstructor_8 : decode cX5_readConstructor 8 = .ok (.aload_n 0, 1) := by decide +kernel
theorem dX5_readConstructor_9 : decode cX5_readConstructor 9 = .ok (.getfield 14, 3) := by decide +kernel
theorem dX5_readConstructor_12 : decode cX5_readConstructor 12 = .ok (.getfield 62, 3) := by decide +kernel
theorem dX5_readConstructor_15 : decode cX5_readConstructor 15 = .ok (.iconst 4, 1) := by decide +kernel
theorem dX5_readConstructor_16 : decode cX5_readConstructor 16 = .ok (.if_icmp .eq 11, 3) := by decide +kernel
theorem dX5_readConstructor_19 : decode cX5_readConstructor 19 = .ok (.aload_n 0, 1) := by decide +kernel
theorem dX5_readConstructor_20 : decode cX5_readConstructor 20 = .ok (.iconst 1, 1) := by decide +kernel
theorem dX5_readConstructor_21 : decode cX5_readConstructor 21 = .ok (.invokevirtual 80, 3) := by decide +kernel
theorem dX5_readConstructor_24 : decode cX5_readConstructor 24 = .ok (.goto 40, 3) := by decide +kernel
theorem dX5_readConstructor_27 : decode cX5_readConstructor 27 = .ok (.aload_n 0, 1) := by decide +kernel
theorem dX5_readConstructor_28 : decode cX5_readConstructor 28 = .ok (.getfield 24, 3) := by decide +kernel
theorem dX5_readConstructor_31 : decode cX5_readConstructor 31 = .ok (.lload_n 1, 1) := by decide +kernel
theorem dX5_readConstructor_32 : decode cX5_readConstructor 32 = .ok (.invokevirtual 94, 3) := by decide +kernel
theorem dX5_readConstructor_35 : decode cX5_readConstructor 35 = .ok (.iconst (-1), 1) := by decide +kernel
theorem dX5_readConstructor_36 : decode cX5_readConstructor 36 = .ok (.if_icmp .eq 11, 3) := by decide +kernel
theorem dX5_readConstructor_39 : decode cX5_readConstructor 39 = .ok (.aload_n 0, 1) := by decide +kernel
theorem dX5_readConstructor_40 : decode cX5_readConstructor 40 = .ok (.iconst 2, 1) := by decide +kernel
theorem dX5_readConstructor_41 : decode cX5_readConstructor 41 = .ok (.invokevirtual 80, 3) := by decide +kernel
theorem dX5_readConstructor_44 : decode cX5_readConstructor 44 = .ok (.goto 20, 3) := by decide +kernel
theorem dX5_readConstructor_47 : decode cX5_readConstructor 47 = .ok (.aload_n 0, 1) := by decide +kernel
theorem dX5_readConstructor_48 : decode cX5_readConstructor 48 = .ok (.getfield 24, 3) := by decide +kernel
theorem dX5_readConstructor_51 : decode cX5_readConstructor 51 = .ok (.getfield 98, 3) := by decide +kernel
theorem dX5_readConstructor_54 : decode cX5_readConstructor 54 = .ok (.bipush 30, 2) := by decide +kernel
theorem dX5_readConstructor_56 : decode cX5_readConstructor 56 = .ok (.if_icmp .lt 8, 3) := by decide +kernel
theorem dX5_readConstructor_59 : decode cX5_readConstructor 59 = .ok (.aload_n 0, 1) := by decide +kernel
theorem dX5_readConstructor_60 : decode cX5_readConstructor 60 = .ok (.iconst 4, 1) := by decide +kernel
theorem dX5_readConstructor_61 : decode cX5_readConstructor 61 = .ok (.invokevirtual 80, 3) := by decide +kernel
theorem dX5_readConstructor_64 : decode cX5_readConstructor 64 = .ok (.aload_n 0, 1) := by decide +kernel
theorem dX5_readConstructor_65 : decode cX5_readConstructor 65 = .ok (.getfield 14, 3) := by decide +kernel
theorem dX5_readConstructor_68 : decode cX5_readConstructor 68 = .ok (.invokevirtual 77, 3) := by decide +kernel
theorem dX5_readConstructor_71 : decode cX5_readConstructor 71 = .ok (.aload_n 0, 1) := by decide +kernel
theorem dX5_readConstructor_72 : decode cX5_readConstructor 72 = .ok (.getfield 14, 3) := by decide +kernel
theorem dX5_readConstructor_75 : decode cX5_readConstructor 75 = .ok (.getfield 62, 3) := by decide +kernel
theorem dX5_readConstructor_78 : decode cX5_readConstructor 78 = .ok (.iconst 5, 1) := by decide +kernel
theorem dX5_readConstructor_79 : decode cX5_readConstructor 79 = .ok (.if_icmp .ne 14, 3) := by decide +kernel
theorem dX5_readConstructor_82 : decode cX5_readConstructor 82 = .ok (.aload_n 0, 1) := by decide +kernel
theorem dX5_readConstructor_83 : decode cX5_readConstructor 83 = .ok (.getfield 14, 3) := by decide +kernel
theorem dX5_readConstructor_86 : decode cX5_readConstructor 86 = .ok (.getfield 101, 3) := by decide +kernel
theorem dX5_readConstructor_89 : decode cX5_readConstructor 89 = .ok (.iconst 4, 1) := by decide +kernel
theorem dX5_readConstructor_90 : decode cX5_readConstructor 90 = .ok (.if_icmp .le 9, 3) := by decide +kernel
theorem dX5_readConstructor_93 : decode cX5_readConstructor 93 = .ok (.aload_n 0, 1) := by decide +kernel
theorem dX5_readConstructor_94 : decode cX5_readConstructor 94 = .ok (.iconst 1, 1) := by decide +kernel
theorem dX5_readConstructor_95 : decode cX5_readConstructor 95 = .ok (.invokevirtual 80, 3) := by decide +kernel
theorem dX5_readConstructor_98 : decode cX5_readConstructor 98 = .ok (.return_, 1) := by decide +kernel
theorem dX5_readConstructor_99 : decode cX5_readConstructor 99 = .ok (.aload_n 0, 1) := by decide +kernel
theorem dX5_readConstructor_100 : decode cX5_readConstructor 100 = .ok (.getfield 24, 3) := by decide +kernel
theorem dX5_readConstructor_103 : decode cX5_readConstructor 103 = .ok (.lload_n 1, 1) := by decide +kernel
theorem dX5_readConstructor_104 : decode cX5_readConstructor 104 = .ok (.aload_n 0, 1) := by decide +kernel
theorem dX5_readConstructor_105 : decode cX5_readConstructor 105 = .ok (.getfield 14, 3) := by decide +kernel
theorem dX5_readConstructor_108 : decode cX5_readConstructor 108 = .ok (.getfield 101, 3) := by decide +kernel
theorem dX5_readConstructor_111 : decode cX5_readConstructor 111 = .ok (.invokevirtual 104, 3) := by decide +kernel
theorem dX5_readConstructor_114 : decode cX5_readConstructor 114 = .ok (.aload_n 0, 1) := by decide +kernel
theorem dX5_readConstructor_115 : decode cX5_readConstructor 115 = .ok (.getfield 14, 3) := by decide +kernel
theorem dX5_readConstructor_118 : decode cX5_readConstructor 118 = .ok (.invokevirtual 77, 3) := by decide +kernel
theorem dX5_readConstructor_121 : decode cX5_readConstructor 121 = .ok (.return_, 1) := by decide +kernel
theorem dX5_readData_0 : decode cX5_readData 0 = .ok (.aload_n 0, 1) := by decide +kernel
theorem dX5_readData_1 : decode cX5_readData 1 = .ok (.getfield 14, 3) := by decide +kernel
theorem dX5_readData_4 : decode cX5_readData 4 = .ok (.invokevirtual 77, 3) := by decide +kernel
theorem dX5_readData_7 : decode cX5_readData 7 = .ok (.aload_n 0, 1) := by decide +kernel
theorem dX5_readData_8 : decode cX5_readData 8 = .ok (.invokevirtual 84, 3) := by decide +kernel
theorem dX5_readData_11 : decode cX5_readData 11 = .ok (.iconst 0, 1) := by decide +kernel
theorem dX5_readData_12 : decode cX5_readData 12 = .ok (.istore_n 1, 1) := by decide +kernel
theorem dX5_readData_13 : decode cX5_readData 13 = .ok (.iload_n 1, 1) := by decide +kernel
theorem dX5_readData_14 : decode cX5_readData 14 = .ok (.sipush 3001, 3) := by decide +kernel
theorem dX5_readData_17 : decode cX5_readData 17 = .ok (.if_icmp .ge 32, 3) := by decide +kernel
theorem dX5_readData_20 : decode cX5_readData 20 = .ok (.aload_n 0, 1) := by decide +kernel
theorem dX5_readData_21 : decode cX5_readData 21 = .ok (.getfield 14, 3) := by decide +kernel
theorem dX5_readData_24 : decode cX5_readData 24 = .ok (.getfield 62, 3) := by decide +kernel
theorem dX5_readData_27 : decode cX5_readData 27 = .ok (.bipush 124, 2) := by decide +kernel
theorem dX5_readData_29 : decode cX5_readData 29 = .ok (.if_icmp .ne 20, 3) := by decide +kernel
theorem dX5_readData_32 : decode cX5_readData 32 = .ok (.aload_n 0, 1) := by decide +kernel
theorem dX5_readData_33 : decode cX5_readData 33 = .ok (.getfield 14, 3) := by decide +kernel
theorem dX5_readData_36 : decode cX5_readData 36 = .ok (.invokevirtual 77, 3) := by decide +kernel
theorem dX5_readData_39 : decode cX5_readData 39 = .ok (.aload_n 0, 1) := by decide +kernel
theorem dX5_readData_40 : decode cX5_readData 40 = .ok (.invokevirtual 84, 3) := by decide +kernel
theorem dX5_readData_43 : decode cX5_readData 43 = .ok (.iinc 1 1, 3) := by decide +kernel
theorem dX5_readData_46 : decode cX5_readData 46 = .ok (.goto (-33), 3) := by decide +kernel
theorem dX5_readData_49 : decode cX5_readData 49 = .ok (.aload_n 0, 1) := by decide +kernel
theorem dX5_readData_50 : decode cX5_readData 50 = .ok (.bipush 59, 2) := by decide +kernel
theorem dX5_readData_52 : decode cX5_readData 52 = .ok (.invokevirtual 87, 3) := by decide +kernel
theorem dX5_readData_55 : decode cX5_readData 55 = .ok (.return_, 1) := by decide +kernel
theorem dX5_readExpression_0 : decode cX5_readExpression 0 = .ok (.aload_n 0, 1) := by decide +kernel
theorem dX5_readExpression_1 : decode cX5_readExpression 1 = .ok (.getfield 14, 3) := by decide +kernel
theorem dX5_readExpression_4 : decode cX5_readExpression 4 = .ok (.getfield 62, 3) := by decide +kernel
theorem dX5_readExpression_7 : decode cX5_readExpression 7 = .ok (.lookupswitch 48 #[(7, 33), (9, 43), (92, 38)], 33) := by decide +kernel
theorem dX5_readExpression_40 : decode cX5_readExpression 40 = .ok (.aload_n 0, 1) := by decide +kernel
theorem dX5_readExpression_41 : decode cX5_readExpression 41 = .ok (.invokevirtual 150, 3) := by decide +kernel
theorem dX5_readExpression_44 : decode cX5_readExpression 44 = .ok (.ireturn, 1) := by decide +kernel
theorem dX5_readExpression_45 : decode cX5_readExpression 45 = .ok (.aload_n 0, 1) := by decide +kernel
theorem dX5_readExpression_46 : decode cX5_readExpression 46 = .ok (.invokevirtual 153, 3) := by decide +kernel
theorem dX5_readExpression_49 : decode cX5_readExpression 49 = .ok (.ireturn, 1) := by decide +kernel
theorem dX5_readExpression_50 : decode cX5_readExpression 50 = .ok (.aload_n 0, 1) := by decide +kernel
theorem dX5_readExpression_51 : decode cX5_readExpression 51 = .ok (.invokevirtual 156, 3) := by decide +kernel
theorem dX5_readExpression_54 : decode cX5_readExpression 54 = .ok (.ireturn, 1) := by decide +kernel
theorem dX5_readExpression_55 : decode cX5_readExpression 55 = .ok (.aload_n 0, 1) := by decide +kernel
theorem dX5_readExpression_56 : decode cX5_readExpression 56 = .ok (.invokevirtual 159, 3) := by decide +kernel
theorem dX5_readExpression_59 : decode cX5_readExpression 59 = .ok (.ireturn, 1) := by decide +kernel
theorem dX5_readFunction_0 : decode cX5_readFunction 0 = .ok (.aload_n 0, 1) := by decide +kernel
theorem dX5_readFunction_1 : decode cX5_readFunction 1 = .ok (.getfield 14, 3) := by decide +kernel
theorem dX5_readFunction_4 : decode cX5_readFunction 4 = .ok (.getfield 62, 3) := by decide +kernel
theorem dX5_readFunction_7 : decode cX5_readFunction 7 = .ok (.iconst 3, 1) := by decide +kernel
theorem dX5_readFunction_8 : decode cX5_readFunction 8 = .ok (.if_icmp .eq 11, 3) := by decide +kernel
theorem dX5_readFunction_11 : decode cX5_readFunction 11 = .ok (.aload_n 0, 1) := by decide +kernel
theorem dX5_readFunction_12 : decode cX5_readFunction 12 = .ok (.iconst 1, 1) := by decide +kernel
theorem dX5_readFunction_13 : decode cX5_readFunction 13 = .ok (.invokevirtual 80, 3) := by decide +kernel
theorem dX5_readFunction_16 : decode cX5_readFunction 16 = .ok (.goto 46, 3) := by decide +kernel
theorem dX5_readFunction_19 : decode cX5_readFunction 19 = .ok (.aload_n 0, 1) := by decide +kernel
theorem dX5_readFunction_20 : decode cX5_readFunction 20 = .ok (.getfield 24, 3) := by decide +kernel
theorem dX5_readFunction_23 : decode cX5_readFunction 23 = .ok (.aload_n 0, 1) := by decide +kernel
theorem dX5_readFunction_24 : decode cX5_readFunction 24 = .ok (.getfield 14, 3) := by decide +kernel
theorem dX5_readFunction_27 : decode cX5_readFunction 27 = .ok (.getfield 90, 3) := by decide +kernel
theorem dX5_readFunction_30 : decode cX5_readFunction 30 = .ok (.invokevirtual 108, 3) := by decide +kernel
theorem dX5_readFunction_33 : decode cX5_readFunction 33 = .ok (.iconst (-1), 1) := by decide +kernel
theorem dX5_readFunction_34 : decode cX5_readFunction 34 = .ok (.if_icmp .eq 11, 3) := by decide +kernel
theorem dX5_readFunction_37 : decode cX5_readFunction 37 = .ok (.aload_n 0, 1) := by decide +kernel
theorem dX5_readFunction_38 : decode cX5_readFunction 38 = .ok (.iconst 2, 1) := by decide +kernel
theorem dX5_readFunction_39 : decode cX5_readFunction 39 = .ok (.invokevirtual 80, 3) := by decide +kernel
theorem dX5_readFunction_42 : decode cX5_readFunction 42 = .ok (.goto 20, 3) := by decide +kernel
theorem dX5_readFunction_45 : decode cX5_readFunction 45 = .ok (.aload_n 0, 1) := by decide +kernel
theorem dX5_readFunction_46 : decode cX5_readFunction 46 = .ok (.getfield 24, 3) := by decide +kernel
theorem dX5_readFunction_49 : decode cX5_readFunction 49 = .ok (.getfield 111, 3) := by decide +kernel
theorem dX5_readFunction_52 : decode cX5_readFunction 52 = .ok (.bipush 30, 2) := by decide +kernel
theorem dX5_readFunction_54 : decode cX5_readFunction 54 = .ok (.if_icmp .lt 8, 3) := by decide +kernel
theorem dX5_readFunction_57 : decode cX5_readFunction 57 = .ok (.aload_n 0, 1) := by decide +kernel
theorem dX5_readFunction_58 : decode cX5_readFunction 58 = .ok (.iconst 4, 1) := by decide +kernel
theorem dX5_readFunction_59 : decode cX5_readFunction 59 = .ok (.invokevirtual 80, 3) := by decide +kernel
theorem dX5_readFunction_62 : decode cX5_readFunction 62 = .ok (.aload_n 0, 1) := by decide +kernel
theorem dX5_readFunction_63 : decode cX5_readFunction 63 = .ok (.getfield 14, 3) := by decide +kernel
theorem dX5_readFunction_66 : decode cX5_readFunction 66 = .ok (.getfield 62, 3) := by decide +kernel
theorem dX5_readFunction_69 : decode cX5_readFunction 69 = .ok (.ifCond .ne 4, 3) := by decide +kernel
theorem dX5_readFunction_72 : decode cX5_readFunction 72 = .ok (.return_, 1) := by decide +kernel
theorem dX5_readFunction_73 : decode cX5_readFunction 73 = .ok (.aload_n 0, 1) := by decide +kernel
theorem dX5_readFunction_74 : decode cX5_readFunction 74 = .ok (.getfield 28, 3) := by decide +kernel
theorem dX5_readFunction_77 : decode cX5_readFunction 77 = .ok (.iconst (-1), 1) := by decide +kernel
theorem dX5_readFunction_78 : decode cX5_readFunction 78 = .ok (.aload_n 0, 1) := by decide +kernel
theorem dX5_readFunction_79 : decode cX5_readFunction 79 = .ok (.getfield 14, 3) := by decide +kernel
theorem dX5_readFunction_82 : decode cX5_readFunction 82 = .ok (.getfield 71, 3) := by decide +kernel
theorem dX5_readFunction_85 : decode cX5_readFunction 85 = .ok (.iconst 1, 1) := by decide +kernel
theorem dX5_readFunction_86 : decode cX5_readFunction 86 = .ok (.invokevirtual 114, 3) := by decide +kernel
theorem dX5_readFunction_89 : decode cX5_readFunction 89 = .ok (.istore_n 1, 1) := by decide +kernel
theorem dX5_readFunction_90 : decode cX5_readFunction 90 = .ok (.aload_n 0, 1) := by decide +kernel
theorem dX5_readFunction_91 : decode cX5_readFunction 91 = .ok (.getfield 24, 3) := by decide +kernel
theorem dX5_readFunction_94 : decode cX5_readFunction 94 = .ok (.aload_n 0, 1) := by decide +kernel
theorem dX5_readFunction_95 : decode cX5_readFunction 95 = .ok (.getfield 14, 3) := by decide +kernel
theorem dX5_readFunction_98 : decode cX5_readFunction 98 = .ok (.getfield 90, 3) := by decide +kernel
theorem dX5_readFunction_101 : decode cX5_readFunction 101 = .ok (.iload_n 1, 1) := by decide +kernel
theorem dX5_readFunction_102 : decode cX5_readFunction 102 = .ok (.invokevirtual 118, 3) := by decide +kernel
theorem dX5_readFunction_105 : decode cX5_readFunction 105 = .ok (.aload_n 0, 1) := by decide +kernel
theorem dX5_readFunction_106 : decode cX5_readFunction 106 = .ok (.getfield 14, 3) := by decide +kernel
theorem dX5_readFunction_109 : decode cX5_readFunction 109 = .ok (.invokevirtual 77, 3) := by decide +kernel
theorem dX5_readFunction_112 : decode cX5_readFunction 112 = .ok (.aload_n 0, 1) := by decide +kernel
theorem dX5_readFunction_113 : decode cX5_readFunction 113 = .ok (.iload_n 1, 1) := by decide +kernel
theorem dX5_readFunction_114 : decode cX5_readFunction 114 = .ok (.invokevirtual 121, 3) := by decide +kernel
theorem dX5_readFunction_117 : decode cX5_readFunction 117 = .ok (.aload_n 0, 1) := by decide +kernel
theorem dX5_readFunction_118 : decode cX5_readFunction 118 = .ok (.bipush 61, 2) := by decide +kernel
theorem dX5_readFunction_120 : decode cX5_readFunction 120 = .ok (.invokevirtual 87, 3) := by decide +kernel
theorem dX5_readFunction_123 : decode cX5_readFunction 123 = .ok (.aload_n 0, 1) := by decide +kernel
theorem dX5_readFunction_124 : decode cX5_readFunction 124 = .ok (.getfield 28, 3) := by decide +kernel
theorem dX5_readFunction_127 : decode cX5_readFunction 127 = .ok (.getfield 124, 3) := by decide +kernel
theorem dX5_readFunction_130 : decode cX5_readFunction 130 = .ok (.iload_n 1, 1) := by decide +kernel
theorem dX5_readFunction_131 : decode cX5_readFunction 131 = .ok (.aload_n 0, 1) := by decide +kernel
theorem dX5_readFunction_132 : decode cX5_readFunction 132 = .ok (.iload_n 1, 1) := by decide +kernel
theorem dX5_readFunction_133 : decode cX5_readFunction 133 = .ok (.invokevirtual 128, 3) := by decide +kernel
theorem dX5_readFunction_136 : decode cX5_readFunction 136 = .ok (.iastore, 1) := by decide +kernel
theorem dX5_readFunction_137 : decode cX5_readFunction 137 = .ok (.aload_n 0, 1) := by decide +kernel
theorem dX5_readFunction_138 : decode cX5_readFunction 138 = .ok (.bipush 59, 2) := by decide +kernel
theorem dX5_readFunction_140 : decode cX5_readFunction 140 = .ok (.invokevirtual 87, 3) := by decide +kernel
theorem dX5_readFunction_143 : decode cX5_readFunction 143 = .ok (.return_, 1) := by decide +kernel
theorem dX5_readLambda_0 : decode cX5_readLambda 0 = .ok (.aload_n 0, 1) := by decide +kernel
theorem dX5_readLambda_1 : decode cX5_readLambda 1 = .ok (.invokevirtual 162, 3) := by decide +kernel
theorem dX5_readLambda_4 : decode cX5_readLambda 4 = .ok (.ifCond .ne 5, 3) := by decide +kernel
theorem dX5_readLambda_7 : decode cX5_readLambda 7 = .ok (.iconst 0, 1) := by decide +kernel
theorem dX5_readLambda_8 : decode cX5_readLambda 8 = .ok (.ireturn, 1) := by decide +kernel
theorem dX5_readLambda_9 : decode cX5_readLambda 9 = .ok (.aload_n 0, 1) := by decide +kernel
theorem dX5_readLambda_10 : decode cX5_readLambda 10 = .ok (.invokevirtual 166, 3) := by decide +kernel
theorem dX5_readLambda_13 : decode cX5_readLambda 13 = .ok (.aload_n 0, 1) := by decide +kernel
theorem dX5_readLambda_14 : decode cX5_readLambda 14 = .ok (.aload_n 0, 1) := by decide +kernel
theorem dX5_readLambda_15 : decode cX5_readLambda 15 = .ok (.getfield 14, 3) := by decide +kernel
theorem dX5_readLambda_18 : decode cX5_readLambda 18 = .ok (.getfield 71, 3) := by decide +kernel
theorem dX5_readLambda_21 : decode cX5_readLambda 21 = .ok (.invokevirtual 178, 3) := by decide +kernel
theorem dX5_readLambda_24 : decode cX5_readLambda 24 = .ok (.istore_n 1, 1) := by decide +kernel
theorem dX5_readLambda_25 : decode cX5_readLambda 25 = .ok (.aload_n 0, 1) := by decide +kernel
theorem dX5_readLambda_26 : decode cX5_readLambda 26 = .ok (.dup, 1) := by decide +kernel
theorem dX5_readLambda_27 : decode cX5_readLambda 27 = .ok (.getfield 53, 3) := by decide +kernel
theorem dX5_readLambda_30 : decode cX5_readLambda 30 = .ok (.iconst 1, 1) := by decide +kernel
theorem dX5_readLambda_31 : decode cX5_readLambda 31 = .ok (.isub, 1) := by decide +kernel
theorem dX5_readLambda_32 : decode cX5_readLambda 32 = .ok (.putfield 53, 3) := by decide +kernel
theorem dX5_readLambda_35 : decode cX5_readLambda 35 = .ok (.iload_n 1, 1) := by decide +kernel
theorem dX5_readLambda_36 : decode cX5_readLambda 36 = .ok (.ireturn, 1) := by decide +kernel
theorem dX5_readLet_0 : decode cX5_readLet 0 = .ok (.aload_n 0, 1) := by decide +kernel
theorem dX5_readLet_1 : decode cX5_readLet 1 = .ok (.invokevirtual 162, 3) := by decide +kernel
theorem dX5_readLet_4 : decode cX5_readLet 4 = .ok (.ifCond .ne 5, 3) := by decide +kernel
theorem dX5_readLet_7 : decode cX5_readLet 7 = .ok (.iconst 0, 1) := by decide +kernel
theorem dX5_readLet_8 : decode cX5_readLet 8 = .ok (.ireturn, 1) := by decide +kernel
theorem dX5_readLet_9 : decode cX5_readLet 9 = .ok (.aload_n 0, 1) := by decide +kernel
theorem dX5_readLet_10 : decode cX5_readLet 10 = .ok (.invokevirtual 166, 3) := by decide +kernel
theorem dX5_readLet_13 : decode cX5_readLet 13 = .ok (.aload_n 0, 1) := by decide +kernel
theorem dX5_readLet_14 : decode cX5_readLet 14 = .ok (.getfield 56, 3) := by decide +kernel
theorem dX5_readLet_17 : decode cX5_readLet 17 = .ok (.istore_n 1, 1) := by decide +kernel
theorem dX5_readLet_18 : decode cX5_readLet 18 = .ok (.aload_n 0, 1) := by decide +kernel
theorem dX5_readLet_19 : decode cX5_readLet 19 = .ok (.getfield 28, 3) := by decide +kernel
theorem dX5_readLet_22 : decode cX5_readLet 22 = .ok (.aload_n 0, 1) := by decide +kernel
theorem dX5_readLet_23 : decode cX5_readLet 23 = .ok (.getfield 56, 3) := by decide +kernel
theorem dX5_readLet_26 : decode cX5_readLet 26 = .ok (.aload_n 0, 1) := by decide +kernel
theorem dX5_readLet_27 : decode cX5_readLet 27 = .ok (.getfield 14, 3) := by decide +kernel
theorem dX5_readLet_30 : decode cX5_readLet 30 = .ok (.getfield 71, 3) := by decide +kernel
theorem dX5_readLet_33 : decode cX5_readLet 33 = .ok (.iconst 0, 1) := by decide +kernel
theorem dX5_readLet_34 : decode cX5_readLet 34 = .ok (.invokevirtual 114, 3) := by decide +kernel
theorem dX5_readLet_37 : decode cX5_readLet 37 = .ok (.istore_n 2, 1) := by decide +kernel
theorem dX5_readLet_38 : decode cX5_readLet 38 = .ok (.aload_n 0, 1) := by decide +kernel
theorem dX5_readLet_39 : decode cX5_readLet 39 = .ok (.iload_n 2, 1) := by decide +kernel
theorem dX5_readLet_40 : decode cX5_readLet 40 = .ok (.putfield 56, 3) := by decide +kernel
theorem dX5_readLet_43 : decode cX5_readLet 43 = .ok (.aload_n 0, 1) := by decide +kernel
theorem dX5_readLet_44 : decode cX5_readLet 44 = .ok (.getfield 14, 3) := by decide +kernel
theorem dX5_readLet_47 : decode cX5_readLet 47 = .ok (.invokevirtual 77, 3) := by decide +kernel
theorem dX5_readLet_50 : decode cX5_readLet 50 = .ok (.aload_n 0, 1) := by decide +kernel
theorem dX5_readLet_51 : decode cX5_readLet 51 = .ok (.invokevirtual 169, 3) := by decide +kernel
theorem dX5_readLet_54 : decode cX5_readLet 54 = .ok (.istore_n 3, 1) := by decide +kernel
theorem dX5_readLet_55 : decode cX5_readLet 55 = .ok (.iload_n 3, 1) := by decide +kernel
theorem dX5_readLet_56 : decode cX5_readLet 56 = .ok (.istore 4, 2) := by decide +kernel
theorem dX5_readLet_58 : decode cX5_readLet 58 = .ok (.iconst 0, 1) := by decide +kernel
theorem dX5_readLet_59 : decode cX5_readLet 59 = .ok (.istore 5, 2) := by decide +kernel
theorem dX5_readLet_61 : decode cX5_readLet 61 = .ok (.iload 5, 2) := by decide +kernel
theorem dX5_readLet_63 : decode cX5_readLet 63 = .ok (.iconst 5, 1) := by decide +kernel
theorem dX5_readLet_64 : decode cX5_readLet 64 = .ok (.if_icmp .gt 50, 3) := by decide +kernel
theorem dX5_readLet_67 : decode cX5_readLet 67 = .ok (.aload_n 0, 1) := by decide +kernel
theorem dX5_readLet_68 : decode cX5_readLet 68 = .ok (.getfield 14, 3) := by decide +kernel
theorem dX5_readLet_71 : decode cX5_readLet 71 = .ok (.getfield 62, 3) := by decide +kernel
theorem dX5_readLet_74 : decode cX5_readLet 74 = .ok (.bipush 44, 2) := by decide +kernel
theorem dX5_readLet_76 : decode cX5_readLet 76 = .ok (.if_icmp .ne 38, 3) := by decide +kernel
theorem dX5_readLet_79 : decode cX5_readLet 79 = .ok (.aload_n 0, 1) := by decide +kernel
theorem dX5_readLet_80 : decode cX5_readLet 80 = .ok (.getfield 14, 3) := by decide +kernel
theorem dX5_readLet_83 : decode cX5_readLet 83 = .ok (.invokevirtual 77, 3) := by decide +kernel
theorem dX5_readLet_86 : decode cX5_readLet 86 = .ok (.aload_n 0, 1) := by decide +kernel
theorem dX5_readLet_87 : decode cX5_readLet 87 = .ok (.invokevirtual 169, 3) := by decide +kernel
theorem dX5_readLet_90 : decode cX5_readLet 90 = .ok (.istore 6, 2) := by decide +kernel
theorem dX5_readLet_92 : decode cX5_readLet 92 = .ok (.aload_n 0, 1) := by decide +kernel
theorem dX5_readLet_93 : decode cX5_readLet 93 = .ok (.getfield 20, 3) := by decide +kernel
theorem dX5_readLet_96 : decode cX5_readLet 96 = .ok (.getfield 172, 3) := by decide +kernel
theorem dX5_readLet_99 : decode cX5_readLet 99 = .ok (.iload 4, 2) := by decide +kernel
theorem dX5_readLet_101 : decode cX5_readLet 101 = .ok (.iload 6, 2) := by decide +kernel
theorem dX5_readLet_103 : decode cX5_readLet 103 = .ok (.iastore, 1) := by decide +kernel
theorem dX5_readLet_104 : decode cX5_readLet 104 = .ok (.iload 6, 2) := by decide +kernel
theorem dX5_readLet_106 : decode cX5_readLet 106 = .ok (.istore 4, 2) := by decide +kernel
theorem dX5_readLet_108 : decode cX5_readLet 108 = .ok (.iinc 5 1, 3) := by decide +kernel
theorem dX5_readLet_111 : decode cX5_readLet 111 = .ok (.goto (-50), 3) := by decide +kernel
theorem dX5_readLet_114 : decode cX5_readLet 114 = .ok (.aload_n 0, 1) := by decide +kernel
theorem dX5_readLet_115 : decode cX5_readLet 115 = .ok (.bipush 8, 2) := by decide +kernel
theorem dX5_readLet_117 : decode cX5_readLet 117 = .ok (.invokevirtual 87, 3) := by decide +kernel
theorem dX5_readLet_120 : decode cX5_readLet 120 = .ok (.aload_n 0, 1) := by decide +kernel
theorem dX5_readLet_121 : decode cX5_readLet 121 = .ok (.invokevirtual 146, 3) := by decide +kernel
theorem dX5_readLet_124 : decode cX5_readLet 124 = .ok (.istore 5, 2) := by decide +kernel
theorem dX5_readLet_126 : decode cX5_readLet 126 = .ok (.aload_n 0, 1) := by decide +kernel
theorem dX5_readLet_127 : decode cX5_readLet 127 = .ok (.getfield 20, 3) := by decide +kernel
theorem dX5_readLet_130 : decode cX5_readLet 130 = .ok (.getfield 172, 3) := by decide +kernel
theorem dX5_readLet_133 : decode cX5_readLet 133 = .ok (.iload 5, 2) := by decide +kernel
theorem dX5_readLet_135 : decode cX5_readLet 135 = .ok (.iload_n 3, 1) := by decide +kernel
theorem dX5_readLet_136 : decode cX5_readLet 136 = .ok (.iastore, 1) := by decide +kernel
theorem dX5_readLet_137 : decode cX5_readLet 137 = .ok (.aload_n 0, 1) := by decide +kernel
theorem dX5_readLet_138 : decode cX5_readLet 138 = .ok (.iload_n 1, 1) := by decide +kernel
theorem dX5_readLet_139 : decode cX5_readLet 139 = .ok (.putfield 56, 3) := by decide +kernel
theorem dX5_readLet_142 : decode cX5_readLet 142 = .ok (.aload_n 0, 1) := by decide +kernel
theorem dX5_readLet_143 : decode cX5_readLet 143 = .ok (.dup, 1) := by decide +kernel
theorem dX5_readLet_144 : decode cX5_readLet 144 = .ok (.getfield 53, 3) := by decide +kernel
theorem dX5_readLet_147 : decode cX5_readLet 147 = .ok (.iconst 1, 1) := by decide +kernel
theorem dX5_readLet_148 : decode cX5_readLet 148 = .ok (.isub, 1) := by decide +kernel
theorem dX5_readLet_149 : decode cX5_readLet 149 = .ok (.putfield 53, 3) := by decide +kernel
theorem dX5_readLet_152 : decode cX5_readLet 152 = .ok (.aload_n 0, 1) := by decide +kernel
theorem dX5_readLet_153 : decode cX5_readLet 153 = .ok (.getfield 20, 3) := by decide +kernel
theorem dX5_readLet_156 : decode cX5_readLet 156 = .ok (.bipush 7, 2) := by decide +kernel
theorem dX5_readLet_158 : decode cX5_readLet 158 = .ok (.iconst 0, 1) := by decide +kernel
theorem dX5_readLet_159 : decode cX5_readLet 159 = .ok (.iload_n 2, 1) := by decide +kernel
theorem dX5_readLet_160 : decode cX5_readLet 160 = .ok (.iload 5, 2) := by decide +kernel
theorem dX5_readLet_162 : decode cX5_readLet 162 = .ok (.invokevirtual 175, 3) := by decide +kernel
theorem dX5_readLet_165 : decode cX5_readLet 165 = .ok (.ireturn, 1) := by decide +kernel
theorem dX5_readLifted_0 : decode cX5_readLifted 0 = .ok (.aload_n 0, 1) := by decide +kernel
theorem dX5_readLifted_1 : decode cX5_readLifted 1 = .ok (.getfield 14, 3) := by decide +kernel
theorem dX5_readLifted_4 : decode cX5_readLifted 4 = .ok (.getfield 62, 3) := by decide +kernel
theorem dX5_readLifted_7 : decode cX5_readLifted 7 = .ok (.bipush 92, 2) := by decide +kernel
theorem dX5_readLifted_9 : decode cX5_readLifted 9 = .ok (.if_icmp .ne 7, 3) := by decide +kernel
theorem dX5_readLifted_12 : decode cX5_readLifted 12 = .ok (.iconst 1, 1) := by decide +kernel
theorem dX5_readLifted_13 : decode cX5_readLifted 13 = .ok (.goto 4, 3) := by decide +kernel
theorem dX5_readLifted_16 : decode cX5_readLifted 16 = .ok (.iconst 0, 1) := by decide +kernel
theorem dX5_readLifted_17 : decode cX5_readLifted 17 = .ok (.istore_n 2, 1) := by decide +kernel
theorem dX5_readLifted_18 : decode cX5_readLifted 18 = .ok (.aload_n 0, 1) := by decide +kernel
theorem dX5_readLifted_19 : decode cX5_readLifted 19 = .ok (.getfield 28, 3) := by decide +kernel
theorem dX5_readLifted_22 : decode cX5_readLifted 22 = .ok (.aload_n 0, 1) := by decide +kernel
theorem dX5_readLifted_23 : decode cX5_readLifted 23 = .ok (.getfield 56, 3) := by decide +kernel
theorem dX5_readLifted_26 : decode cX5_readLifted 26 = .ok (.iload_n 1, 1) := by decide +kernel
theorem dX5_readLifted_27 : decode cX5_readLifted 27 = .ok (.iconst 1, 1) := by decide +kernel
theorem dX5_readLifted_28 : decode cX5_readLifted 28 = .ok (.invokevirtual 114, 3) := by decide +kernel
theorem dX5_readLifted_31 : decode cX5_readLifted 31 = .ok (.istore_n 3, 1) := by decide +kernel
theorem dX5_readLifted_32 : decode cX5_readLifted 32 = .ok (.iload_n 2, 1) := by decide +kernel
theorem dX5_readLifted_33 : decode cX5_readLifted 33 = .ok (.ifCond .eq 16, 3) := by decide +kernel
theorem dX5_readLifted_36 : decode cX5_readLifted 36 = .ok (.aload_n 0, 1) := by decide +kernel
theorem dX5_readLifted_37 : decode cX5_readLifted 37 = .ok (.getfield 14, 3) := by decide +kernel
theorem dX5_readLifted_40 : decode cX5_readLifted 40 = .ok (.invokevirtual 77, 3) := by decide +kernel
theorem dX5_readLifted_43 : decode cX5_readLifted 43 = .ok (.aload_n 0, 1) := by decide +kernel
theorem dX5_readLifted_44 : decode cX5_readLifted 44 = .ok (.iload_n 3, 1) := by decide +kernel
theorem dX5_readLifted_45 : decode cX5_readLifted 45 = .ok (.invokevirtual 132, 3) := by decide +kernel
theorem dX5_readLifted_48 : decode cX5_readLifted 48 = .ok (.pop, 1) := by decide +kernel
theorem dX5_readLifted_49 : decode cX5_readLifted 49 = .ok (.aload_n 0, 1) := by decide +kernel
theorem dX5_readLifted_50 : decode cX5_readLifted 50 = .ok (.iload_n 3, 1) := by decide +kernel
theorem dX5_readLifted_51 : decode cX5_readLifted 51 = .ok (.invokevirtual 121, 3) := by decide +kernel
theorem dX5_readLifted_54 : decode cX5_readLifted 54 = .ok (.aload_n 0, 1) := by decide +kernel
theorem dX5_readLifted_55 : decode cX5_readLifted 55 = .ok (.iload_n 2, 1) := by decide +kernel
theorem dX5_readLifted_56 : decode cX5_readLifted 56 = .ok (.ifCond .eq 8, 3) := by decide +kernel
theorem dX5_readLifted_59 : decode cX5_readLifted 59 = .ok (.bipush 46, 2) := by decide +kernel
theorem dX5_readLifted_61 : decode cX5_readLifted 61 = .ok (.goto 5, 3) := by decide +kernel
theorem dX5_readLifted_64 : decode cX5_readLifted 64 = .ok (.bipush 61, 2) := by decide +kernel
theorem dX5_readLifted_66 : decode cX5_readLifted 66 = .ok (.invokevirtual 87, 3) := by decide +kernel
theorem dX5_readLifted_69 : decode cX5_readLifted 69 = .ok (.aload_n 0, 1) := by decide +kernel
theorem dX5_readLifted_70 : decode cX5_readLifted 70 = .ok (.getfield 28, 3) := by decide +kernel
theorem dX5_readLifted_73 : decode cX5_readLifted 73 = .ok (.getfield 124, 3) := by decide +kernel
theorem dX5_readLifted_76 : decode cX5_readLifted 76 = .ok (.iload_n 3, 1) := by decide +kernel
theorem dX5_readLifted_77 : decode cX5_readLifted 77 = .ok (.aload_n 0, 1) := by decide +kernel
theorem dX5_readLifted_78 : decode cX5_readLifted 78 = .ok (.iload_n 3, 1) := by decide +kernel
theorem dX5_readLifted_79 : decode cX5_readLifted 79 = .ok (.invokevirtual 128, 3) := by decide +kernel
theorem dX5_readLifted_82 : decode cX5_readLifted 82 = .ok (.iastore, 1) := by decide +kernel
theorem dX5_readLifted_83 : decode cX5_readLifted 83 = .ok (.aload_n 0, 1) := by decide +kernel
theorem dX5_readLifted_84 : decode cX5_readLifted 84 = .ok (.getfield 20, 3) := by decide +kernel
theorem dX5_readLifted_87 : decode cX5_readLifted 87 = .ok (.bipush 14, 2) := by decide +kernel
theorem dX5_readLifted_89 : decode cX5_readLifted 89 = .ok (.iload_n 3, 1) := by decide +kernel
theorem dX5_readLifted_90 : decode cX5_readLifted 90 = .ok (.invokevirtual 181, 3) := by decide +kernel
theorem dX5_readLifted_93 : decode cX5_readLifted 93 = .ok (.ireturn, 1) := by decide +kernel
theorem dX5_readParameters_0 : decode cX5_readParameters 0 = .ok (.iconst 0, 1) := by decide +kernel
theorem dX5_readParameters_1 : decode cX5_readParameters 1 = .ok (.istore_n 2, 1) := by decide +kernel
theorem dX5_readParameters_2 : decode cX5_readParameters 2 = .ok (.iload_n 2, 1) := by decide +kernel
theorem dX5_readParameters_3 : decode cX5_readParameters 3 = .ok (.iconst 5, 1) := by decide +kernel
theorem dX5_readParameters_4 : decode cX5_readParameters 4 = .ok (.if_icmp .gt 26, 3) := by decide +kernel
theorem dX5_readParameters_7 : decode cX5_readParameters 7 = .ok (.aload_n 0, 1) := by decide +kernel
theorem dX5_readParameters_8 : decode cX5_readParameters 8 = .ok (.getfield 14, 3) := by decide +kernel
theorem dX5_readParameters_11 : decode cX5_readParameters 11 = .ok (.getfield 62, 3) := by decide +kernel
theorem dX5_readParameters_14 : decode cX5_readParameters 14 = .ok (.iconst 3, 1) := by decide +kernel
theorem dX5_readParameters_15 : decode cX5_readParameters 15 = .ok (.if_icmp .ne 15, 3) := by decide +kernel
theorem dX5_readParameters_18 : decode cX5_readParameters 18 = .ok (.aload_n 0, 1) := by decide +kernel
theorem dX5_readParameters_19 : decode cX5_readParameters 19 = .ok (.iload_n 1, 1) := by decide +kernel
theorem dX5_readParameters_20 : decode cX5_readParameters 20 = .ok (.invokevirtual 132, 3) := by decide +kernel
theorem dX5_readParameters_23 : decode cX5_readParameters 23 = .ok (.pop, 1) := by decide +kernel
theorem dX5_readParameters_24 : decode cX5_readParameters 24 = .ok (.iinc 2 1, 3) := by decide +kernel
theorem dX5_readParameters_27 : decode cX5_readParameters 27 = .ok (.goto (-25), 3) := by decide +kernel
theorem dX5_readParameters_30 : decode cX5_readParameters 30 = .ok (.return_, 1) := by decide +kernel
theorem dX5_readProduct_0 : decode cX5_readProduct 0 = .ok (.aload_n 0, 1) := by decide +kernel
theorem dX5_readProduct_1 : decode cX5_readProduct 1 = .ok (.invokevirtual 204, 3) := by decide +kernel
theorem dX5_readProduct_4 : decode cX5_readProduct 4 = .ok (.istore_n 1, 1) := by decide +kernel
theorem dX5_readProduct_5 : decode cX5_readProduct 5 = .ok (.iconst 0, 1) := by decide +kernel
theorem dX5_readProduct_6 : decode cX5_readProduct 6 = .ok (.istore_n 2, 1) := by decide +kernel
theorem dX5_readProduct_7 : decode cX5_readProduct 7 = .ok (.iload_n 2, 1) := by decide +kernel
theorem dX5_readProduct_8 : decode cX5_readProduct 8 = .ok (.sipush 3001, 3) := by decide +kernel
theorem dX5_readProduct_11 : decode cX5_readProduct 11 = .ok (.if_icmp .ge 61, 3) := by decide +kernel
theorem dX5_readProduct_14 : decode cX5_readProduct 14 = .ok (.aload_n 0, 1) := by decide +kernel
theorem dX5_readProduct_15 : decode cX5_readProduct 15 = .ok (.getfield 14, 3) := by decide +kernel
theorem dX5_readProduct_18 : decode cX5_readProduct 18 = .ok (.getfield 62, 3) := by decide +kernel
theorem dX5_readProduct_21 : decode cX5_readProduct 21 = .ok (.bipush 42, 2) := by decide +kernel
theorem dX5_readProduct_23 : decode cX5_readProduct 23 = .ok (.if_icmp .eq 27, 3) := by decide +kernel
theorem dX5_readProduct_26 : decode cX5_readProduct 26 = .ok (.aload_n 0, 1) := by decide +kernel
theorem dX5_readProduct_27 : decode cX5_readProduct 27 = .ok (.getfield 14, 3) := by decide +kernel
theorem dX5_readProduct_30 : decode cX5_readProduct 30 = .ok (.getfield 62, 3) := by decide +kernel
theorem dX5_readProduct_33 : decode cX5_readProduct 33 = .ok (.bipush 47, 2) := by decide +kernel
theorem dX5_readProduct_35 : decode cX5_readProduct 35 = .ok (.if_icmp .eq 15, 3) := by decide +kernel
theorem dX5_readProduct_38 : decode cX5_readProduct 38 = .ok (.aload_n 0, 1) := by decide +kernel
theorem dX5_readProduct_39 : decode cX5_readProduct 39 = .ok (.getfield 14, 3) := by decide +kernel
theorem dX5_readProduct_42 : decode cX5_readProduct 42 = .ok (.getfield 62, 3) := by decide +kernel
theorem dX5_readProduct_45 : decode cX5_readProduct 45 = .ok (.bipush 37, 2) := by decide +kernel
theorem dX5_readProduct_47 : decode cX5_readProduct 47 = .ok (.if_icmp .ne 25, 3) := by decide +kernel
theorem dX5_readProduct_50 : decode cX5_readProduct 50 = .ok (.aload_n 0, 1) := by decide +kernel
theorem dX5_readProduct_51 : decode cX5_readProduct 51 = .ok (.invokevirtual 194, 3) := by decide +kernel
theorem dX5_readProduct_54 : decode cX5_readProduct 54 = .ok (.istore_n 3, 1) := by decide +kernel
theorem dX5_readProduct_55 : decode cX5_readProduct 55 = .ok (.aload_n 0, 1) := by decide +kernel
theorem dX5_readProduct_56 : decode cX5_readProduct 56 = .ok (.iload_n 3, 1) := by decide +kernel
theorem dX5_readProduct_57 : decode cX5_readProduct 57 = .ok (.iload_n 1, 1) := by decide +kernel
theorem dX5_readProduct_58 : decode cX5_readProduct 58 = .ok (.aload_n 0, 1) := by decide +kernel
theorem dX5_readProduct_59 : decode cX5_readProduct 59 = .ok (.invokevirtual 204, 3) := by decide +kernel
theorem dX5_readProduct_62 : decode cX5_readProduct 62 = .ok (.invokevirtual 197, 3) := by decide +kernel
theorem dX5_readProduct_65 : decode cX5_readProduct 65 = .ok (.istore_n 1, 1) := by decide +kernel
theorem dX5_readProduct_66 : decode cX5_readProduct 66 = .ok (.iinc 2 1, 3) := by decide +kernel
theorem dX5_readProduct_69 : decode cX5_readProduct 69 = .ok (.goto (-62), 3) := by decide +kernel
theorem dX5_readProduct_72 : decode cX5_readProduct 72 = .ok (.iload_n 1, 1) := by decide +kernel
theorem dX5_readProduct_73 : decode cX5_readProduct 73 = .ok (.ireturn, 1) := by decide +kernel
theorem dX5_readSign_0 : decode cX5_readSign 0 = .ok (.aload_n 0, 1) := by decide +kernel
theorem dX5_readSign_1 : decode cX5_readSign 1 = .ok (.getfield 14, 3) := by decide +kernel
theorem dX5_readSign_4 : decode cX5_readSign 4 = .ok (.getfield 62, 3) := by decide +kernel
theorem dX5_readSign_7 : decode cX5_readSign 7 = .ok (.istore_n 1, 1) := by decide +kernel
theorem dX5_readSign_8 : decode cX5_readSign 8 = .ok (.aload_n 0, 1) := by decide +kernel
theorem dX5_readSign_9 : decode cX5_readSign 9 = .ok (.invokevirtual 166, 3) := by decide +kernel
theorem dX5_readSign_12 : decode cX5_readSign 12 = .ok (.aload_n 0, 1) := by decide +kernel
theorem dX5_readSign_13 : decode cX5_readSign 13 = .ok (.getfield 14, 3) := by decide +kernel
theorem dX5_readSign_16 : decode cX5_readSign 16 = .ok (.invokevirtual 77, 3) := by decide +kernel
theorem dX5_readSign_19 : decode cX5_readSign 19 = .ok (.iload_n 1, 1) := by decide +kernel
theorem dX5_readSign_20 : decode cX5_readSign 20 = .ok (.ireturn, 1) := by decide +kernel
theorem dX5_readSum_0 : decode cX5_readSum 0 = .ok (.aload_n 0, 1) := by decide +kernel
theorem dX5_readSum_1 : decode cX5_readSum 1 = .ok (.invokevirtual 201, 3) := by decide +kernel
theorem dX5_readSum_4 : decode cX5_readSum 4 = .ok (.istore_n 1, 1) := by decide +kernel
theorem dX5_readSum_5 : decode cX5_readSum 5 = .ok (.iconst 0, 1) := by decide +kernel
theorem dX5_readSum_6 : decode cX5_readSum 6 = .ok (.istore_n 2, 1) := by decide +kernel
theorem dX5_readSum_7 : decode cX5_readSum 7 = .ok (.iload_n 2, 1) := by decide +kernel
theorem dX5_readSum_8 : decode cX5_readSum 8 = .ok (.sipush 3001, 3) := by decide +kernel
theorem dX5_readSum_11 : decode cX5_readSum 11 = .ok (.if_icmp .ge 49, 3) := by decide +kernel
theorem dX5_readSum_14 : decode cX5_readSum 14 = .ok (.aload_n 0, 1) := by decide +kernel
theorem dX5_readSum_15 : decode cX5_readSum 15 = .ok (.getfield 14, 3) := by decide +kernel
theorem dX5_readSum_18 : decode cX5_readSum 18 = .ok (.getfield 62, 3) := by decide +kernel
theorem dX5_readSum_21 : decode cX5_readSum 21 = .ok (.bipush 43, 2) := by decide +kernel
theorem dX5_readSum_23 : decode cX5_readSum 23 = .ok (.if_icmp .eq 15, 3) := by decide +kernel
theorem dX5_readSum_26 : decode cX5_readSum 26 = .ok (.aload_n 0, 1) := by decide +kernel
theorem dX5_readSum_27 : decode cX5_readSum 27 = .ok (.getfield 14, 3) := by decide +kernel
theorem dX5_readSum_30 : decode cX5_readSum 30 = .ok (.getfield 62, 3) := by decide +kernel
theorem dX5_readSum_33 : decode cX5_readSum 33 = .ok (.bipush 45, 2) := by decide +kernel
theorem dX5_readSum_35 : decode cX5_readSum 35 = .ok (.if_icmp .ne 25, 3) := by decide +kernel
theorem dX5_readSum_38 : decode cX5_readSum 38 = .ok (.aload_n 0, 1) := by decide +kernel
theorem dX5_readSum_39 : decode cX5_readSum 39 = .ok (.invokevirtual 194, 3) := by decide +kernel
theorem dX5_readSum_42 : decode cX5_readSum 42 = .ok (.istore_n 3, 1) := by decide +kernel
theorem dX5_readSum_43 : decode cX5_readSum 43 = .ok (.aload_n 0, 1) := by decide +kernel
theorem dX5_readSum_44 : decode cX5_readSum 44 = .ok (.iload_n 3, 1) := by decide +kernel
theorem dX5_readSum_45 : decode cX5_readSum 45 = .ok (.iload_n 1, 1) := by decide +kernel
theorem dX5_readSum_46 : decode cX5_readSum 46 = .ok (.aload_n 0, 1) := by decide +kernel
theorem dX5_readSum_47 : decode cX5_readSum 47 = .ok (.invokevirtual 201, 3) := by decide +kernel
theorem dX5_readSum_50 : decode cX5_readSum 50 = .ok (.invokevirtual 197, 3) := by decide +kernel
theorem dX5_readSum_53 : decode cX5_readSum 53 = .ok (.istore_n 1, 1) := by decide +kernel
theorem dX5_readSum_54 : decode cX5_readSum 54 = .ok (.iinc 2 1, 3) := by decide +kernel
theorem dX5_readSum_57 : decode cX5_readSum 57 = .ok (.goto (-50), 3) := by decide +kernel
theorem dX5_readSum_60 : decode cX5_readSum 60 = .ok (.iload_n 1, 1) := by decide +kernel
theorem dX5_readSum_61 : decode cX5_readSum 61 = .ok (.ireturn, 1) := by decide +kernel
theorem dX5_readText_0 : decode cX5_readText 0 = .ok (.aload_n 0, 1) := by decide +kernel
theorem dX5_readText_1 : decode cX5_readText 1 = .ok (.getfield 20, 3) := by decide +kernel
theorem dX5_readText_4 : decode cX5_readText 4 = .ok (.invokevirtual 32, 3) := by decide +kernel
theorem dX5_readText_7 : decode cX5_readText 7 = .ok (.aload_n 0, 1) := by decide +kernel
theorem dX5_readText_8 : decode cX5_readText 8 = .ok (.getfield 24, 3) := by decide +kernel
theorem dX5_readText_11 : decode cX5_readText 11 = .ok (.invokevirtual 37, 3) := by decide +kernel
theorem dX5_readText_14 : decode cX5_readText 14 = .ok (.aload_n 0, 1) := by decide +kernel
theorem dX5_readText_15 : decode cX5_readText 15 = .ok (.getfield 28, 3) := by decide +kernel
theorem dX5_readText_18 : decode cX5_readText 18 = .ok (.invokevirtual 40, 3) := by decide +kernel
theorem dX5_readText_21 : decode cX5_readText 21 = .ok (.aload_n 0, 1) := by decide +kernel
theorem dX5_readText_22 : decode cX5_readText 22 = .ok (.iconst 0, 1) := by decide +kernel
theorem dX5_readText_23 : decode cX5_readText 23 = .ok (.putfield 43, 3) := by decide +kernel
theorem dX5_readText_26 : decode cX5_readText 26 = .ok (.aload_n 0, 1) := by decide +kernel
theorem dX5_readText_27 : decode cX5_readText 27 = .ok (.iconst (-1), 1) := by decide +kernel
theorem dX5_readText_28 : decode cX5_readText 28 = .ok (.putfield 47, 3) := by decide +kernel
theorem dX5_readText_31 : decode cX5_readText 31 = .ok (.aload_n 0, 1) := by decide +kernel
theorem dX5_readText_32 : decode cX5_readText 32 = .ok (.iconst 0, 1) := by decide +kernel
theorem dX5_readText_33 : decode cX5_readText 33 = .ok (.putfield 50, 3) := by decide +kernel
theorem dX5_readText_36 : decode cX5_readText 36 = .ok (.aload_n 0, 1) := by decide +kernel
theorem dX5_readText_37 : decode cX5_readText 37 = .ok (.iconst 0, 1) := by decide +kernel
theorem dX5_readText_38 : decode cX5_readText 38 = .ok (.putfield 53, 3) := by decide +kernel
theorem dX5_readText_41 : decode cX5_readText 41 = .ok (.aload_n 0, 1) := by decide +kernel
theorem dX5_readText_42 : decode cX5_readText 42 = .ok (.iconst (-1), 1) := by decide +kernel
theorem dX5_readText_43 : decode cX5_readText 43 = .ok (.putfield 56, 3) := by decide +kernel
theorem dX5_readText_46 : decode cX5_readText 46 = .ok (.aload_n 0, 1) := by decide +kernel
theorem dX5_readText_47 : decode cX5_readText 47 = .ok (.getfield 14, 3) := by decide +kernel
theorem dX5_readText_50 : decode cX5_readText 50 = .ok (.invokevirtual 59, 3) := by decide +kernel
theorem dX5_readText_53 : decode cX5_readText 53 = .ok (.iconst 0, 1) := by decide +kernel
theorem dX5_readText_54 : decode cX5_readText 54 = .ok (.istore_n 1, 1) := by decide +kernel
theorem dX5_readText_55 : decode cX5_readText 55 = .ok (.iload_n 1, 1) := by decide +kernel
theorem dX5_readText_56 : decode cX5_readText 56 = .ok (.sipush 3001, 3) := by decide +kernel
theorem dX5_readText_59 : decode cX5_readText 59 = .ok (.if_icmp .ge 25, 3) := by decide +kernel
theorem dX5_readText_62 : decode cX5_readText 62 = .ok (.aload_n 0, 1) := by decide +kernel
theorem dX5_readText_63 : decode cX5_readText 63 = .ok (.getfield 14, 3) := by decide +kernel
theorem dX5_readText_66 : decode cX5_readText 66 = .ok (.getfield 62, 3) := by decide +kernel
theorem dX5_readText_69 : decode cX5_readText 69 = .ok (.bipush 6, 2) := by decide +kernel
theorem dX5_readText_71 : decode cX5_readText 71 = .ok (.if_icmp .ne 13, 3) := by decide +kernel
theorem dX5_readText_74 : decode cX5_readText 74 = .ok (.aload_n 0, 1) := by decide +kernel
theorem dX5_readText_75 : decode cX5_readText 75 = .ok (.invokevirtual 65, 3) := by decide +kernel
theorem dX5_readText_78 : decode cX5_readText 78 = .ok (.iinc 1 1, 3) := by decide +kernel
theorem dX5_readText_81 : decode cX5_readText 81 = .ok (.goto (-26), 3) := by decide +kernel
theorem dX5_readText_84 : decode cX5_readText 84 = .ok (.aload_n 0, 1) := by decide +kernel
theorem dX5_readText_85 : decode cX5_readText 85 = .ok (.invokevirtual 68, 3) := by decide +kernel
theorem dX5_readText_88 : decode cX5_readText 88 = .ok (.iconst 0, 1) := by decide +kernel
theorem dX5_readText_89 : decode cX5_readText 89 = .ok (.istore_n 1, 1) := by decide +kernel
theorem dX5_readText_90 : decode cX5_readText 90 = .ok (.iload_n 1, 1) := by decide +kernel
theorem dX5_readText_91 : decode cX5_readText 91 = .ok (.bipush 30, 2) := by decide +kernel
theorem dX5_readText_93 : decode cX5_readText 93 = .ok (.if_icmp .ge 34, 3) := by decide +kernel
theorem dX5_readText_96 : decode cX5_readText 96 = .ok (.aload_n 0, 1) := by decide +kernel
theorem dX5_readText_97 : decode cX5_readText 97 = .ok (.getfield 14, 3) := by decide +kernel
theorem dX5_readText_100 : decode cX5_readText 100 = .ok (.getfield 62, 3) := by decide +kernel
theorem dX5_readText_103 : decode cX5_readText 103 = .ok (.iconst 1, 1) := by decide +kernel
theorem dX5_readText_104 : decode cX5_readText 104 = .ok (.if_icmp .eq 23, 3) := by decide +kernel
theorem dX5_readText_107 : decode cX5_readText 107 = .ok (.aload_n 0, 1) := by decide +kernel
theorem dX5_readText_108 : decode cX5_readText 108 = .ok (.getfield 14, 3) := by decide +kernel
theorem dX5_readText_111 : decode cX5_readText 111 = .ok (.getfield 62, 3) := by decide +kernel
theorem dX5_readText_114 : decode cX5_readText 114 = .ok (.ifCond .eq 13, 3) := by decide +kernel
theorem dX5_readText_117 : decode cX5_readText 117 = .ok (.aload_n 0, 1) := by decide +kernel
theorem dX5_readText_118 : decode cX5_readText 118 = .ok (.invokevirtual 68, 3) := by decide +kernel
theorem dX5_readText_121 : decode cX5_readText 121 = .ok (.iinc 1 1, 3) := by decide +kernel
theorem dX5_readText_124 : decode cX5_readText 124 = .ok (.goto (-34), 3) := by decide +kernel
theorem dX5_readText_127 : decode cX5_readText 127 = .ok (.return_, 1) := by decide +kernel
theorem dX5_readWithin_0 : decode cX5_readWithin 0 = .ok (.aload_n 0, 1) := by decide +kernel
theorem dX5_readWithin_1 : decode cX5_readWithin 1 = .ok (.getfield 56, 3) := by decide +kernel
theorem dX5_readWithin_4 : decode cX5_readWithin 4 = .ok (.istore_n 2, 1) := by decide +kernel
theorem dX5_readWithin_5 : decode cX5_readWithin 5 = .ok (.aload_n 0, 1) := by decide +kernel
theorem dX5_readWithin_6 : decode cX5_readWithin 6 = .ok (.iload_n 1, 1) := by decide +kernel
theorem dX5_readWithin_7 : decode cX5_readWithin 7 = .ok (.putfield 56, 3) := by decide +kernel
theorem dX5_readWithin_10 : decode cX5_readWithin 10 = .ok (.aload_n 0, 1) := by decide +kernel
theorem dX5_readWithin_11 : decode cX5_readWithin 11 = .ok (.invokevirtual 146, 3) := by decide +kernel
theorem dX5_readWithin_14 : decode cX5_readWithin 14 = .ok (.istore_n 3, 1) := by decide +kernel
theorem dX5_readWithin_15 : decode cX5_readWithin 15 = .ok (.aload_n 0, 1) := by decide +kernel
theorem dX5_readWithin_16 : decode cX5_readWithin 16 = .ok (.iload_n 2, 1) := by decide +kernel
theorem dX5_readWithin_17 : decode cX5_readWithin 17 = .ok (.putfield 56, 3) := by decide +kernel
theorem dX5_readWithin_20 : decode cX5_readWithin 20 = .ok (.iload_n 3, 1) := by decide +kernel
theorem dX5_readWithin_21 : decode cX5_readWithin 21 = .ok (.ireturn, 1) := by decide +kernel
theorem dX5_refuse_0 : decode cX5_refuse 0 = .ok (.aload_n 0, 1) := by decide +kernel
theorem dX5_refuse_1 : decode cX5_refuse 1 = .ok (.getfield 43, 3) := by decide +kernel
theorem dX5_refuse_4 : decode cX5_refuse 4 = .ok (.ifCond .ne 26, 3) := by decide +kernel
theorem dX5_refuse_7 : decode cX5_refuse 7 = .ok (.aload_n 0, 1) := by decide +kernel
theorem dX5_refuse_8 : decode cX5_refuse 8 = .ok (.iload_n 1, 1) := by decide +kernel
theorem dX5_refuse_9 : decode cX5_refuse 9 = .ok (.putfield 43, 3) := by decide +kernel
theorem dX5_refuse_12 : decode cX5_refuse 12 = .ok (.aload_n 0, 1) := by decide +kernel
theorem dX5_refuse_13 : decode cX5_refuse 13 = .ok (.aload_n 0, 1) := by decide +kernel
theorem dX5_refuse_14 : decode cX5_refuse 14 = .ok (.getfield 14, 3) := by decide +kernel
theorem dX5_refuse_17 : decode cX5_refuse 17 = .ok (.getfield 71, 3) := by decide +kernel
theorem dX5_refuse_20 : decode cX5_refuse 20 = .ok (.putfield 47, 3) := by decide +kernel
theorem dX5_refuse_23 : decode cX5_refuse 23 = .ok (.aload_n 0, 1) := by decide +kernel
theorem dX5_refuse_24 : decode cX5_refuse 24 = .ok (.getfield 14, 3) := by decide +kernel
theorem dX5_refuse_27 : decode cX5_refuse 27 = .ok (.invokevirtual 74, 3) := by decide +kernel
theorem dX5_refuse_30 : decode cX5_refuse 30 = .ok (.return_, 1) := by decide +kernel
theorem cw_X10_begin : CWV yX10_begin cX10_begin 1 none RX10 0 := ⟨mG_917, mG_915, mG_916, mG_220, by decide +kernel⟩
theorem cw_X10_stop : CWV yX10_stop cX10_stop 1 none RX10 0 := ⟨mG_1066, mG_1064, mG_1065, mG_220, by decide +kernel⟩
theorem cw_X4_addTop : CWV yX4_addTop cX4_addTop 4 none RX4 2 := ⟨mG_1091, mG_1089, mG_1090, mG_216, by decide +kernel⟩
theorem cw_X4_clear : CWV yX4_clear cX4_clear 1 none RX4 0 := ⟨mG_903, mG_901, mG_902, mG_216, by decide +kernel⟩
theorem cw_X4_constructorOf : CWV yX4_constructorOf cX4_constructorOf 4 (some .int) RX4 1 := ⟨mG_1070, mG_1068, mG_1069, mG_216, by decide +kernel⟩
theorem cw_X4_topOf : CWV yX4_topOf cX4_topOf 4 (some .int) RX4 1 := ⟨mG_1083, mG_1081, mG_1082, mG_216, by decide +kernel⟩
theorem cw_X5_atomStands : CWV yX5_atomStands cX5_atomStands 2 (some .boolean) RX5 0 := ⟨mG_1188, mG_1187, mG_29, mG_219, by decide +kernel⟩
theorem cw_X5_countPart : CWV yX5_countPart cX5_countPart 1 none RX5 0 := ⟨mG_1135, mG_1134, mG_18, mG_219, by decide +kernel⟩
theorem cw_X5_declare : CWV yX5_declare cX5_declare 3 (some .int) RX5 1 := ⟨mG_1103, mG_1102, mG_12, mG_219, by decide +kernel⟩
theorem cw_X5_expect : CWV yX5_expect cX5_expect 2 none RX5 1 := ⟨mG_1075, mG_1074, mG_9, mG_219, by decide +kernel⟩
theorem cw_X5_isAtom : CWS yX5_isAtom cX5_isAtom 1 (some .boolean) RX5 1 := ⟨mG_1191, mG_1190, mG_219, by decide +kernel⟩
theorem cw_X5_join : CWV yX5_join cX5_join 4 (some .int) RX5 3 := ⟨mG_1207, mG_1206, mG_32, mG_219, by decide +kernel⟩
theorem cw_X5_opens : CWV yX5_opens cX5_opens 1 (some .boolean) RX5 0 := ⟨mG_1131, mG_1130, mG_17, mG_219, by decide +kernel⟩
theorem cw_X5_readAlternative : CWV yX5_readAlternative cX5_readAlternative 7 (some .int) RX5 1 := ⟨mG_1164, mG_1163, mG_23, mG_219, by decide +kernel⟩
theorem cw_X5_readApplication : CWV yX5_readApplication cX5_readApplication 5 (some .int) RX5 0 := ⟨mG_1180, mG_1179, mG_27, mG_219, by decide +kernel⟩
theorem cw_X5_readAtom : CWV yX5_readAtom cX5_readAtom 3 (some .int) RX5 0 := ⟨mG_1195, mG_1194, mG_30, mG_219, by decide +kernel⟩
theorem cw_X5_readBinding : CWV yX5_readBinding cX5_readBinding 4 (some .int) RX5 0 := ⟨mG_1139, mG_1138, mG_19, mG_219, by decide +kernel⟩
theorem cw_X5_readBuild : CWV yX5_readBuild cX5_readBuild 6 (some .int) RX5 1 := ⟨mG_1184, mG_1183, mG_28, mG_219, by decide +kernel⟩
theorem cw_X5_readCase : CWV yX5_readCase cX5_readCase 5 (some .int) RX5 0 := ⟨mG_1160, mG_1159, mG_22, mG_219, by decide +kernel⟩
theorem cw_X5_readComparison : CWV yX5_readComparison cX5_readComparison 3 (some .int) RX5 0 := ⟨mG_1168, mG_1167, mG_24, mG_219, by decide +kernel⟩
theorem cw_X5_readConstructor : CWV yX5_readConstructor cX5_readConstructor 3 none RX5 0 := ⟨mG_1058, mG_1057, mG_7, mG_219, by decide +kernel⟩
theorem cw_X5_readData : CWV yX5_readData cX5_readData 2 none RX5 0 := ⟨mG_1053, mG_1052, mG_6, mG_219, by decide +kernel⟩
theorem cw_X5_readExpression : CWV yX5_readExpression cX5_readExpression 1 (some .int) RX5 0 := ⟨mG_1123, mG_1122, mG_15, mG_219, by decide +kernel⟩
theorem cw_X5_readFunction : CWV yX5_readFunction cX5_readFunction 2 none RX5 0 := ⟨mG_1079, mG_1078, mG_10, mG_219, by decide +kernel⟩
theorem cw_X5_readLambda : CWV yX5_readLambda cX5_readLambda 2 (some .int) RX5 0 := ⟨mG_1156, mG_1155, mG_21, mG_219, by decide +kernel⟩
theorem cw_X5_readLet : CWV yX5_readLet cX5_readLet 7 (some .int) RX5 0 := ⟨mG_1127, mG_1126, mG_16, mG_219, by decide +kernel⟩
theorem cw_X5_readLifted : CWV yX5_readLifted cX5_readLifted 4 (some .int) RX5 1 := ⟨mG_1143, mG_1142, mG_20, mG_219, by decide +kernel⟩
theorem cw_X5_readParameters : CWV yX5_readParameters cX5_readParameters 3 none RX5 1 := ⟨mG_1099, mG_1098, mG_11, mG_219, by decide +kernel⟩
theorem cw_X5_readProduct : CWV yX5_readProduct cX5_readProduct 4 (some .int) RX5 0 := ⟨mG_1176, mG_1175, mG_26, mG_219, by decide +kernel⟩
theorem cw_X5_readSign : CWV yX5_readSign cX5_readSign 2 (some .int) RX5 0 := ⟨mG_1203, mG_1202, mG_31, mG_219, by decide +kernel⟩
theorem cw_X5_readSum : CWV yX5_readSum cX5_readSum 4 (some .int) RX5 0 := ⟨mG_1172, mG_1171, mG_25, mG_219, by decide +kernel⟩
theorem cw_X5_readWithin : CWV yX5_readWithin cX5_readWithin 4 (some .int) RX5 1 := ⟨mG_1119, mG_1118, mG_14, mG_219, by decide +kernel⟩
theorem cw_X5_refuse : CWV yX5_refuse cX5_refuse 2 none RX5 1 := ⟨mG_1062, mG_1061, mG_8, mG_219, by decide +kernel⟩
theorem cw_X6_add : CWV yX6_add cX6_add 4 (some .int) RX6 3 := ⟨mG_1087, mG_1085, mG_1086, mG_218, by decide +kernel⟩
theorem cw_X6_addName : CWV yX6_addName cX6_addName 5 (some .int) RX6 2 := ⟨mG_1115, mG_1113, mG_1114, mG_218, by decide +kernel⟩
theorem cw_X6_addUse : CWV yX6_addUse cX6_addUse 6 none RX6 4 := ⟨mG_1199, mG_1197, mG_1198, mG_218, by decide +kernel⟩
theorem cw_X6_clear : CWV yX6_clear cX6_clear 1 none RX6 0 := ⟨mG_913, mG_911, mG_912, mG_218, by decide +kernel⟩
theorem cw_X6_has : CWV yX6_has cX6_has 4 (some .boolean) RX6 2 := ⟨mG_1107, mG_1105, mG_1106, mG_218, by decide +kernel⟩
theorem cw_X9_addLeaf : CWV yX9_addLeaf cX9_addLeaf 3 (some .int) RX9 2 := ⟨mG_1147, mG_1145, mG_1146, mG_217, by decide +kernel⟩
theorem cw_X9_clear : CWV yX9_clear cX9_clear 1 none RX9 0 := ⟨mG_899, mG_897, mG_898, mG_217, by decide +kernel⟩
section MX5_refuse
variable {p : Program} {l : Launch} {e : Env} {R : Room} {s : State} {m : MethodId} {args : Array Value} {below : List Frame} {meth : Method} {c : Code} {dC : Nat → ClassId} {dI : Nat → Nat → Nat} {ak : Nat → Nat} {A : Nat → Prop} {ad : Nat → Nat} {kc : Nat → ClassId} {sv : Value} {r : Unit} {τ : S5}
set_option maxHeartbeats 4000000 in
set_option maxRecDepth 100000 in
theorem w_X5_refuse {σ : S5} {a1 : Int32} {H : Heap} {locs : List Loc} {ls : Array Slot} (S : CallFix p m c cX5_refuse 2 s args uG RX5) (hr : meth.sig.returnType = none) (hk : meth.locks = false) (hR : 1 ≤ R.frames ∧ 20 ≤ R.locals)
    (X : gX (dC, dI) (tC kc) (wC ad kc sv) (zC ak) A s σ H locs) (hl : lv_has ls 2 [(0, .ref (ad 5)), (1, .int a1)]) (hg : f_X5_refuse a1 σ = some (r, τ)) : W p l e R s m args below meth c H locs 0 0 (MQ below (gQv (dC, dI) (tC kc) (wC ad kc sv) A r τ) args s 0 0 A) (F0 m 0 ls []) := by
  have hx := S.1
  have hb := S.2.1
  have hown := S.2.2.2.1
  have hu := S.2.2.2.2
  unfold f_X5_refuse at hg
  refine lv_aload_n hx hb dX5_refuse_0 rfl (lv_at hl 0 rfl) ?_
  refine wcgI_11 (v := (gI σ 11)) S X mG_542 rfl dX5_refuse_1 ?_
  refine lv_if_ne (tgt := 30) hx hb dX5_refuse_4 (by decide) (fun c4 => ?_) (fun c4 => ?_)
  · have hg := (if_neg c4).symm.trans hg
    obtain ⟨-, rfl⟩ := fin_some hg
    exact gr_v S hr hk X dX5_refuse_30
  · have hg := (if_pos c4).symm.trans hg
    refine lv_aload_n hx hb dX5_refuse_7 rfl (lv_at hl 0 rfl) ?_
    refine lv_iload_n hx hb dX5_refuse_8 rfl (lv_at hl 1 rfl) ?_
    refine wcpI_11 S X mG_542 dX5_refuse_9 (fun H locs X => ?_)
    refine lv_aload_n hx hb dX5_refuse_12 rfl (lv_at hl 0 rfl) ?_
    refine lv_aload_n hx hb dX5_refuse_13 rfl (lv_at hl 0 rfl) ?_
    refine wcgR_5_0 S X mG_538 dX5_refuse_14 ?_
    refine wcgI_18 (v := (gI σ 18)) S X mG_519 rfl dX5_refuse_17 ?_
    refine wcpI_12 S X mG_544 dX5_refuse_20 (fun H locs X => ?_)
    refine lv_aload_n hx hb dX5_refuse_23 rfl (lv_at hl 0 rfl) ?_
    refine wcgR_5_0 S X mG_538 dX5_refuse_24 ?_
    obtain ⟨r27, τ27, hq27, hg⟩ := bd_some hg
    refine gc_Vv (As := []) (rest := []) (q0 := 6) (ci := 13) S X (k2_X10_stop l dC dI ad kc sv hq27 H.size) cw_X10_stop mG_1063 rfl rfl rfl rfl rfl hl.1 (Nat.le_of_ble_eq_true rfl) dX5_refuse_27 ⟨by omega, by omega⟩ (fun H locs X => ?_)
    obtain ⟨-, rfl⟩ := fin_some hg
    exact gr_v S hr hk X dX5_refuse_30
end MX5_refuse
set_option maxRecDepth 100000 in
theorem k2_X5_refuse (l : Launch) (dC : Nat → ClassId) (dI : Nat → Nat → Nat) {ak : Nat → Nat} (ad : Nat → Nat) (kc : Nat → ClassId) (sv : Value) {σ τ : S5} {a1 : Int32} {r : Unit} (hg : f_X5_refuse a1 σ = some (r, τ)) (sz : Nat) : Met l yX5_refuse (Cond.code yX5_refuse cX5_refuse 2 none :: uG) { frames := 1, cells := 0, slots := 0, locals := 20 } (gPc (dC, dI) (tC kc) (wC ad kc sv) (zC ak) [.ref (ad 5), .int a1] σ sz) (gQv (dC, dI) (tC kc) (wC ad kc sv) (va_A (wC ad kc sv σ) sz) r τ) 0 0 (va_A (wC ad kc sv σ) sz) :=
  g_start (by decide) (Nat.le_of_ble_eq_true rfl) (fun p e s m below meth c ls S hr hk X hl => w_X5_refuse S hr hk ⟨Nat.le_refl _, Nat.le_refl _⟩ X hl hg)
section MX5_expect
variable {p : Program} {l : Launch} {e : Env} {R : Room} {s : State} {m : MethodId} {args : Array Value} {below : List Frame} {meth : Method} {c : Code} {dC : Nat → ClassId} {dI : Nat → Nat → Nat} {ak : Nat → Nat} {A : Nat → Prop} {ad : Nat → Nat} {kc : Nat → ClassId} {sv : Value} {r : Unit} {τ : S5}
set_option maxHeartbeats 4000000 in
set_option maxRecDepth 100000 in
theorem w_X5_expect {σ : S5} {a1 : Int32} {H : Heap} {locs : List Loc} {ls : Array Slot} (S : CallFix p m c cX5_expect 2 s args uG RX5) (hr : meth.sig.returnType = none) (hk : meth.locks = false) (hR : 6 ≤ R.frames ∧ 134 ≤ R.locals)
    (X : gX (dC, dI) (tC kc) (wC ad kc sv) (zC ak) A s σ H locs) (hl : lv_has ls 2 [(0, .ref (ad 5)), (1, .int a1)]) (hg : f_X5_expect a1 σ = some (r, τ)) : W p l e R s m args below meth c H locs 0 0 (MQ below (gQv (dC, dI) (tC kc) (wC ad kc sv) A r τ) args s 0 0 A) (F0 m 0 ls []) := by
  have hx := S.1
  have hb := S.2.1
  have hown := S.2.2.2.1
  have hu := S.2.2.2.2
  unfold f_X5_expect at hg
  refine lv_aload_n hx hb dX5_expect_0 rfl (lv_at hl 0 rfl) ?_
  refine wcgR_5_0 S X mG_538 dX5_expect_1 ?_
  refine wcgI_17 (v := (gI σ 17)) S X mG_518 rfl dX5_expect_4 ?_
  refine lv_iload_n hx hb dX5_expect_7 rfl (lv_at hl 1 rfl) ?_
  refine lv_icmp_ne (tgt := 21) hx hb dX5_expect_8 (by decide) (fun c8 => ?_) (fun c8 => ?_)
  · have hg := (if_neg c8).symm.trans hg
    refine lv_aload_n hx hb dX5_expect_21 rfl (lv_at hl 0 rfl) ?_
    refine lv_iconst (v := 1) hx hb dX5_expect_22 (by decide) ?_
    obtain ⟨r23, τ23, hq23, hg⟩ := bd_some hg
    refine gc_Vv (As := [.int 1]) (rest := []) (q0 := 5) (ci := 8) S X (k2_X5_refuse l dC dI ad kc sv hq23 H.size) cw_X5_refuse mG_1059 rfl rfl rfl rfl rfl hl.1 (Nat.le_of_ble_eq_true rfl) dX5_expect_23 ⟨by omega, by omega⟩ (fun H locs X => ?_)
    obtain ⟨-, rfl⟩ := fin_some hg
    exact gr_v S hr hk X dX5_expect_26
  · have hg := (if_pos c8).symm.trans hg
    refine lv_aload_n hx hb dX5_expect_11 rfl (lv_at hl 0 rfl) ?_
    refine wcgR_5_0 S X mG_538 dX5_expect_12 ?_
    obtain ⟨r15, τ15, hq15, hg⟩ := bd_some hg
    refine gc_Vv (As := []) (rest := []) (q0 := 6) (ci := 13) S X (k2_X10_advance l dC dI ad kc sv hq15 H.size) cw_X10_advance mG_1054 rfl rfl rfl rfl rfl hl.1 (Nat.le_of_ble_eq_true rfl) dX5_expect_15 ⟨by omega, by omega⟩ (fun H locs X => ?_)
    refine lv_goto (tgt := 26) hx hb dX5_expect_18 (by decide) ?_
    obtain ⟨-, rfl⟩ := fin_some hg
    exact gr_v S hr hk X dX5_expect_26
end MX5_expect
set_option maxRecDepth 100000 in
theorem k2_X5_expect (l : Launch) (dC : Nat → ClassId) (dI : Nat → Nat → Nat) {ak : Nat → Nat} (ad : Nat → Nat) (kc : Nat → ClassId) (sv : Value) {σ τ : S5} {a1 : Int32} {r : Unit} (hg : f_X5_expect a1 σ = some (r, τ)) (sz : Nat) : Met l yX5_expect (Cond.code yX5_expect cX5_expect 2 none :: uG) { frames := 6, cells := 0, slots := 0, locals := 134 } (gPc (dC, dI) (tC kc) (wC ad kc sv) (zC ak) [.ref (ad 5), .int a1] σ sz) (gQv (dC, dI) (tC kc) (wC ad kc sv) (va_A (wC ad kc sv σ) sz) r τ) 0 0 (va_A (wC ad kc sv σ) sz) :=
  g_start (by decide) (Nat.le_of_ble_eq_true rfl) (fun p e s m below meth c ls S hr hk X hl => w_X5_expect S hr hk ⟨Nat.le_refl _, Nat.le_refl _⟩ X hl hg)
section MX5_countPart
variable {p : Program} {l : Launch} {e : Env} {R : Room} {s : State} {m : MethodId} {args : Array Value} {below : List Frame} {meth : Method} {c : Code} {dC : Nat → ClassId} {dI : Nat → Nat → Nat} {ak : Nat → Nat} {A : Nat → Prop} {ad : Nat → Nat} {kc : Nat → ClassId} {sv : Value} {r : Unit} {τ : S5}
set_option maxHeartbeats 4000000 in
set_option maxRecDepth 100000 in
theorem w_X5_countPart {σ : S5}  {H : Heap} {locs : List Loc} {ls : Array Slot} (S : CallFix p m c cX5_countPart 1 s args uG RX5) (hr : meth.sig.returnType = none) (hk : meth.locks = false) (hR : 2 ≤ R.frames ∧ 41 ≤ R.locals)
    (X : gX (dC, dI) (tC kc) (wC ad kc sv) (zC ak) A s σ H locs) (hl : lv_has ls 1 [(0, .ref (ad 5))]) (hg : f_X5_countPart  σ = some (r, τ)) : W p l e R s m args below meth c H locs 0 0 (MQ below (gQv (dC, dI) (tC kc) (wC ad kc sv) A r τ) args s 0 0 A) (F0 m 0 ls []) := by
  have hx := S.1
  have hb := S.2.1
  have hown := S.2.2.2.1
  have hu := S.2.2.2.2
  unfold f_X5_countPart at hg
  refine lv_aload_n hx hb dX5_countPart_0 rfl (lv_at hl 0 rfl) ?_
  refine wcgI_13 (v := (gI σ 13)) S X mG_546 rfl dX5_countPart_1 ?_
  refine lv_sipush (v := 600) hx hb dX5_countPart_4 (by decide) ?_
  refine lv_icmp_lt (tgt := 18) hx hb dX5_countPart_7 (by decide) (fun c7 => ?_) (fun c7 => ?_)
  · have hg := (if_pos c7).symm.trans hg
    refine lv_aload_n hx hb dX5_countPart_18 rfl (lv_at hl 0 rfl) ?_
    refine wcgR_5_0 S X mG_538 dX5_countPart_19 ?_
    refine wcgI_17 (v := (gI σ 17)) S X mG_518 rfl dX5_countPart_22 ?_
    refine lv_if_eq (tgt := 38) hx hb dX5_countPart_25 (by decide) (fun c25 => ?_) (fun c25 => ?_)
    · have hg := (if_pos c25).symm.trans hg
      obtain ⟨-, rfl⟩ := fin_some hg
      exact gr_v S hr hk X dX5_countPart_38
    · have hg := (if_neg c25).symm.trans hg
      refine lv_aload_n hx hb dX5_countPart_28 rfl (lv_at hl 0 rfl) ?_
      refine lv_dup hx hb dX5_countPart_29 rfl ?_
      refine wcgI_13 (v := (gI σ 13)) S X mG_546 rfl dX5_countPart_30 ?_
      refine lv_iconst (v := 1) hx hb dX5_countPart_33 (by decide) ?_
      refine lv_iadd hx hb dX5_countPart_34 ?_
      refine wcpI_13 S X mG_546 dX5_countPart_35 (fun H locs X => ?_)
      obtain ⟨-, rfl⟩ := fin_some hg
      exact gr_v S hr hk X dX5_countPart_38
  · have hg := (if_neg c7).symm.trans hg
    refine lv_aload_n hx hb dX5_countPart_10 rfl (lv_at hl 0 rfl) ?_
    refine lv_iconst (v := 4) hx hb dX5_countPart_11 (by decide) ?_
    obtain ⟨r12, τ12, hq12, hg⟩ := bd_some hg
    refine gc_Vv (As := [.int 4]) (rest := []) (q0 := 5) (ci := 8) S X (k2_X5_refuse l dC dI ad kc sv hq12 H.size) cw_X5_refuse mG_1059 rfl rfl rfl rfl rfl hl.1 (Nat.le_of_ble_eq_true rfl) dX5_countPart_12 ⟨by omega, by omega⟩ (fun H locs X => ?_)
    refine lv_goto (tgt := 38) hx hb dX5_countPart_15 (by decide) ?_
    obtain ⟨-, rfl⟩ := fin_some hg
    exact gr_v S hr hk X dX5_countPart_38
end MX5_countPart
set_option maxRecDepth 100000 in
theorem k2_X5_countPart (l : Launch) (dC : Nat → ClassId) (dI : Nat → Nat → Nat) {ak : Nat → Nat} (ad : Nat → Nat) (kc : Nat → ClassId) (sv : Value) {σ τ : S5}  {r : Unit} (hg : f_X5_countPart  σ = some (r, τ)) (sz : Nat) : Met l yX5_countPart (Cond.code yX5_countPart cX5_countPart 1 none :: uG) { frames := 2, cells := 0, slots := 0, locals := 41 } (gPc (dC, dI) (tC kc) (wC ad kc sv) (zC ak) [.ref (ad 5)] σ sz) (gQv (dC, dI) (tC kc) (wC ad kc sv) (va_A (wC ad kc sv σ) sz) r τ) 0 0 (va_A (wC ad kc sv σ) sz) :=
  g_start (by decide) (Nat.le_of_ble_eq_true rfl) (fun p e s m below meth c ls S hr hk X hl => w_X5_countPart S hr hk ⟨Nat.le_refl _, Nat.le_refl _⟩ X hl hg)
section MX5_opens
variable {p : Program} {l : Launch} {e : Env} {R : Room} {s : State} {m : MethodId} {args : Array Value} {below : List Frame} {meth : Method} {c : Code} {dC : Nat → ClassId} {dI : Nat → Nat → Nat} {ak : Nat → Nat} {A : Nat → Prop} {ad : Nat → Nat} {kc : Nat → ClassId} {sv : Value} {r : Int32} {τ : S5}
set_option maxHeartbeats 4000000 in
set_option maxRecDepth 100000 in
theorem w_X5_opens {σ : S5}  {H : Heap} {locs : List Loc} {ls : Array Slot} (S : CallFix p m c cX5_opens 1 s args uG RX5) (hr : meth.sig.returnType = (some .boolean)) (hk : meth.locks = false) (hR : 2 ≤ R.frames ∧ 41 ≤ R.locals)
    (X : gX (dC, dI) (tC kc) (wC ad kc sv) (zC ak) A s σ H locs) (hl : lv_has ls 1 [(0, .ref (ad 5))]) (hg : f_X5_opens  σ = some (r, τ)) : W p l e R s m args below meth c H locs 0 0 (MQ below (gQi (dC, dI) (tC kc) (wC ad kc sv) A r τ) args s 0 0 A) (F0 m 0 ls []) := by
  have hx := S.1
  have hb := S.2.1
  have hown := S.2.2.2.1
  have hu := S.2.2.2.2
  unfold f_X5_opens at hg
  refine lv_aload_n hx hb dX5_opens_0 rfl (lv_at hl 0 rfl) ?_
  refine wcgI_14 (v := (gI σ 14)) S X mG_548 rfl dX5_opens_1 ?_
  refine lv_bipush (v := 30) hx hb dX5_opens_4 (by decide) ?_
  refine lv_icmp_lt (tgt := 16) hx hb dX5_opens_6 (by decide) (fun c6 => ?_) (fun c6 => ?_)
  · have hg := (if_pos c6).symm.trans hg
    refine lv_aload_n hx hb dX5_opens_16 rfl (lv_at hl 0 rfl) ?_
    refine lv_dup hx hb dX5_opens_17 rfl ?_
    refine wcgI_14 (v := (gI σ 14)) S X mG_548 rfl dX5_opens_18 ?_
    refine lv_iconst (v := 1) hx hb dX5_opens_21 (by decide) ?_
    refine lv_iadd hx hb dX5_opens_22 ?_
    refine wcpI_14 S X mG_548 dX5_opens_23 (fun H locs X => ?_)
    refine lv_iconst (v := 1) hx hb dX5_opens_26 (by decide) ?_
    obtain ⟨rfl, rfl⟩ := fin_some hg
    exact gr_z S hr hk X (Or.inr rfl) dX5_opens_27
  · have hg := (if_neg c6).symm.trans hg
    refine lv_aload_n hx hb dX5_opens_9 rfl (lv_at hl 0 rfl) ?_
    refine lv_iconst (v := 1) hx hb dX5_opens_10 (by decide) ?_
    obtain ⟨r11, τ11, hq11, hg⟩ := bd_some hg
    refine gc_Vv (As := [.int 1]) (rest := []) (q0 := 5) (ci := 8) S X (k2_X5_refuse l dC dI ad kc sv hq11 H.size) cw_X5_refuse mG_1059 rfl rfl rfl rfl rfl hl.1 (Nat.le_of_ble_eq_true rfl) dX5_opens_11 ⟨by omega, by omega⟩ (fun H locs X => ?_)
    refine lv_iconst (v := 0) hx hb dX5_opens_14 (by decide) ?_
    obtain ⟨rfl, rfl⟩ := fin_some hg
    exact gr_z S hr hk X (Or.inl rfl) dX5_opens_15
end MX5_opens
set_option maxRecDepth 100000 in
theorem k2_X5_opens (l : Launch) (dC : Nat → ClassId) (dI : Nat → Nat → Nat) {ak : Nat → Nat} (ad : Nat → Nat) (kc : Nat → ClassId) (sv : Value) {σ τ : S5}  {r : Int32} (hg : f_X5_opens  σ = some (r, τ)) (sz : Nat) : Met l yX5_opens (Cond.code yX5_opens cX5_opens 1 (some .boolean) :: uG) { frames := 2, cells := 0, slots := 0, locals := 41 } (gPc (dC, dI) (tC kc) (wC ad kc sv) (zC ak) [.ref (ad 5)] σ sz) (gQi (dC, dI) (tC kc) (wC ad kc sv) (va_A (wC ad kc sv σ) sz) r τ) 0 0 (va_A (wC ad kc sv σ) sz) :=
  g_start (by decide) (Nat.le_of_ble_eq_true rfl) (fun p e s m below meth c ls S hr hk X hl => w_X5_opens S hr hk ⟨Nat.le_refl _, Nat.le_refl _⟩ X hl hg)
section MX5_readConstructor
variable {p : Program} {l : Launch} {e : Env} {R : Room} {s : State} {m : MethodId} {args : Array Value} {below : List Frame} {meth : Method} {c : Code} {dC : Nat → ClassId} {dI : Nat → Nat → Nat} {ak : Nat → Nat} {A : Nat → Prop} {ad : Nat → Nat} {kc : Nat → ClassId} {sv : Value} {r : Unit} {τ : S5}
set_option maxHeartbeats 4000000 in
set_option maxRecDepth 100000 in
theorem w_X5_readConstructor_b93 {σ : S5}  {H : Heap} {locs : List Loc} {ls : Array Slot} (S : CallFix p m c cX5_readConstructor 3 s args uG RX5) (hr : meth.sig.returnType = none) (hk : meth.locks = false) (hR : 6 ≤ R.frames ∧ 134 ≤ R.locals)
    (X : gX (dC, dI) (tC kc) (wC ad kc sv) (zC ak) A s σ H locs) (hl : lv_has ls 3 [(0, .ref (ad 5))]) (hg : f_X5_readConstructor_b93  σ = some (r, τ)) : W p l e R s m args below meth c H locs 0 0 (MQ below (gQv (dC, dI) (tC kc) (wC ad kc sv) A r τ) args s 0 0 A) (F0 m 93 ls []) := by
  have hx := S.1
  have hb := S.2.1
  have hown := S.2.2.2.1
  have hu := S.2.2.2.2
  unfold f_X5_readConstructor_b93 at hg
  refine lv_aload_n hx hb dX5_readConstructor_93 rfl (lv_at hl 0 rfl) ?_
  refine lv_iconst (v := 1) hx hb dX5_readConstructor_94 (by decide) ?_
  obtain ⟨r95, τ95, hq95, hg⟩ := bd_some hg
  refine gc_Vv (As := [.int 1]) (rest := []) (q0 := 5) (ci := 8) S X (k2_X5_refuse l dC dI ad kc sv hq95 H.size) cw_X5_refuse mG_1059 rfl rfl rfl rfl rfl hl.1 (Nat.le_of_ble_eq_true rfl) dX5_readConstructor_95 ⟨by omega, by omega⟩ (fun H locs X => ?_)
  obtain ⟨-, rfl⟩ := fin_some hg
  exact gr_v S hr hk X dX5_readConstructor_98
set_option maxHeartbeats 4000000 in
set_option maxRecDepth 100000 in
theorem w_X5_readConstructor_b64 {σ : S5} {v1 : Int64} {H : Heap} {locs : List Loc} {ls : Array Slot} (S : CallFix p m c cX5_readConstructor 3 s args uG RX5) (hr : meth.sig.returnType = none) (hk : meth.locks = false) (hR : 6 ≤ R.frames ∧ 134 ≤ R.locals)
    (X : gX (dC, dI) (tC kc) (wC ad kc sv) (zC ak) A s σ H locs) (hl : lv_has ls 3 [(0, .ref (ad 5)), (1, .long v1)]) (hg : f_X5_readConstructor_b64 v1 σ = some (r, τ)) : W p l e R s m args below meth c H locs 0 0 (MQ below (gQv (dC, dI) (tC kc) (wC ad kc sv) A r τ) args s 0 0 A) (F0 m 64 ls []) := by
  have hx := S.1
  have hb := S.2.1
  have hown := S.2.2.2.1
  have hu := S.2.2.2.2
  unfold f_X5_readConstructor_b64 at hg
  refine lv_aload_n hx hb dX5_readConstructor_64 rfl (lv_at hl 0 rfl) ?_
  refine wcgR_5_0 S X mG_538 dX5_readConstructor_65 ?_
  obtain ⟨r68, τ68, hq68, hg⟩ := bd_some hg
  refine gc_Vv (As := []) (rest := []) (q0 := 6) (ci := 13) S X (k2_X10_advance l dC dI ad kc sv hq68 H.size) cw_X10_advance mG_1054 rfl rfl rfl rfl rfl hl.1 (Nat.le_of_ble_eq_true rfl) dX5_readConstructor_68 ⟨by omega, by omega⟩ (fun H locs X => ?_)
  refine lv_aload_n hx hb dX5_readConstructor_71 rfl (lv_at hl 0 rfl) ?_
  refine wcgR_5_0 S X mG_538 dX5_readConstructor_72 ?_
  refine wcgI_17 (v := (gI τ68 17)) S X mG_518 rfl dX5_readConstructor_75 ?_
  refine lv_iconst (v := 5) hx hb dX5_readConstructor_78 (by decide) ?_
  refine lv_icmp_ne (tgt := 93) hx hb dX5_readConstructor_79 (by decide) (fun c79 => ?_) (fun c79 => ?_)
  · have hg := (if_neg c79).symm.trans hg
    exact w_X5_readConstructor_b93 S hr hk hR X (lv_sub hl [0] rfl) hg
  · have hg := (if_pos c79).symm.trans hg
    refine lv_aload_n hx hb dX5_readConstructor_82 rfl (lv_at hl 0 rfl) ?_
    refine wcgR_5_0 S X mG_538 dX5_readConstructor_83 ?_
    refine wcgI_19 (v := (gI τ68 19)) S X mG_521 rfl dX5_readConstructor_86 ?_
    refine lv_iconst (v := 4) hx hb dX5_readConstructor_89 (by decide) ?_
    refine lv_icmp_le (tgt := 99) hx hb dX5_readConstructor_90 (by decide) (fun c90 => ?_) (fun c90 => ?_)
    · have hg := (if_pos c90).symm.trans hg
      refine lv_aload_n hx hb dX5_readConstructor_99 rfl (lv_at hl 0 rfl) ?_
      refine wcgR_5_2 S X mG_540 dX5_readConstructor_100 ?_
      refine lv_lload_n hx hb dX5_readConstructor_103 rfl (lv_at hl 1 rfl) ?_
      refine lv_aload_n hx hb dX5_readConstructor_104 rfl (lv_at hl 0 rfl) ?_
      refine wcgR_5_0 S X mG_538 dX5_readConstructor_105 ?_
      refine wcgI_19 (v := (gI τ68 19)) S X mG_521 rfl dX5_readConstructor_108 ?_
      obtain ⟨r111, τ111, hq111, hg⟩ := bd_some hg
      refine gc_Vv (As := [.long v1, .int (gI τ68 19)]) (rest := []) (q0 := 2) (ci := 7) S X (k2_X4_addConstructor l dC dI ad kc sv hq111 H.size) cw_X4_addConstructor mG_1071 rfl rfl rfl rfl rfl hl.1 (Nat.le_of_ble_eq_true rfl) dX5_readConstructor_111 ⟨by omega, by omega⟩ (fun H locs X => ?_)
      refine lv_aload_n hx hb dX5_readConstructor_114 rfl (lv_at hl 0 rfl) ?_
      refine wcgR_5_0 S X mG_538 dX5_readConstructor_115 ?_
      obtain ⟨r118, τ118, hq118, hg⟩ := bd_some hg
      refine gc_Vv (As := []) (rest := []) (q0 := 6) (ci := 13) S X (k2_X10_advance l dC dI ad kc sv hq118 H.size) cw_X10_advance mG_1054 rfl rfl rfl rfl rfl hl.1 (Nat.le_of_ble_eq_true rfl) dX5_readConstructor_118 ⟨by omega, by omega⟩ (fun H locs X => ?_)
      obtain ⟨-, rfl⟩ := fin_some hg
      exact gr_v S hr hk X dX5_readConstructor_121
    · have hg := (if_neg c90).symm.trans hg
      exact w_X5_readConstructor_b93 S hr hk hR X (lv_sub hl [0] rfl) hg
set_option maxHeartbeats 4000000 in
set_option maxRecDepth 100000 in
theorem w_X5_readConstructor {σ : S5}  {H : Heap} {locs : List Loc} {ls : Array Slot} (S : CallFix p m c cX5_readConstructor 3 s args uG RX5) (hr : meth.sig.returnType = none) (hk : meth.locks = false) (hR : 6 ≤ R.frames ∧ 134 ≤ R.locals)
    (X : gX (dC, dI) (tC kc) (wC ad kc sv) (zC ak) A s σ H locs) (hl : lv_has ls 3 [(0, .ref (ad 5))]) (hg : f_X5_readConstructor  σ = some (r, τ)) : W p l e R s m args below meth c H locs 0 0 (MQ below (gQv (dC, dI) (tC kc) (wC ad kc sv) A r τ) args s 0 0 A) (F0 m 0 ls []) := by
  have hx := S.1
  have hb := S.2.1
  have hown := S.2.2.2.1
  have hu := S.2.2.2.2
  unfold f_X5_readConstructor at hg
  refine lv_aload_n hx hb dX5_readConstructor_0 rfl (lv_at hl 0 rfl) ?_
  refine wcgR_5_0 S X mG_538 dX5_readConstructor_1 ?_
  refine wcgJ_0 (v := (gJ σ 0)) S X mG_524 rfl dX5_readConstructor_4 ?_
  refine lv_lstore_n (lv' := [(1, .long (gJ σ 0)), (0, .ref (ad 5))]) hx hb dX5_readConstructor_7 rfl hl (by decide) rfl (fun ls hl => ?_)
  refine lv_aload_n hx hb dX5_readConstructor_8 rfl (lv_at hl 1 rfl) ?_
  refine wcgR_5_0 S X mG_538 dX5_readConstructor_9 ?_
  refine wcgI_17 (v := (gI σ 17)) S X mG_518 rfl dX5_readConstructor_12 ?_
  refine lv_iconst (v := 4) hx hb dX5_readConstructor_15 (by decide) ?_
  refine lv_icmp_eq (tgt := 27) hx hb dX5_readConstructor_16 (by decide) (fun c16 => ?_) (fun c16 => ?_)
  · have hg := (if_pos c16).symm.trans hg
    refine lv_aload_n hx hb dX5_readConstructor_27 rfl (lv_at hl 1 rfl) ?_
    refine wcgR_5_2 S X mG_540 dX5_readConstructor_28 ?_
    refine lv_lload_n hx hb dX5_readConstructor_31 rfl (lv_at hl 0 rfl) ?_
    obtain ⟨r32, τ32, hq32, hg⟩ := bd_some hg
    refine gc_Vi (As := [.long (gJ σ 0)]) (rest := []) (q0 := 2) (ci := 7) S X (k2_X4_constructorOf l dC dI ad kc sv hq32 H.size) cw_X4_constructorOf mG_1067 rfl rfl rfl rfl rfl hl.1 (Nat.le_of_ble_eq_true rfl) dX5_readConstructor_32 ⟨by omega, by omega⟩ (fun H locs X => ?_)
    refine lv_iconst (v := (-1)) hx hb dX5_readConstructor_35 (by decide) ?_
    refine lv_icmp_eq (tgt := 47) hx hb dX5_readConstructor_36 (by decide) (fun c36 => ?_) (fun c36 => ?_)
    · have hg := (if_pos c36).symm.trans hg
      refine lv_aload_n hx hb dX5_readConstructor_47 rfl (lv_at hl 1 rfl) ?_
      refine wcgR_5_2 S X mG_540 dX5_readConstructor_48 ?_
      refine wcgI_4 (v := (gI τ32 4)) S X mG_292 rfl dX5_readConstructor_51 ?_
      refine lv_bipush (v := 30) hx hb dX5_readConstructor_54 (by decide) ?_
      refine lv_icmp_lt (tgt := 64) hx hb dX5_readConstructor_56 (by decide) (fun c56 => ?_) (fun c56 => ?_)
      · have hg := (if_pos c56).symm.trans hg
        exact w_X5_readConstructor_b64 S hr hk hR X (lv_sub hl [1, 0] rfl) hg
      · have hg := (if_neg c56).symm.trans hg
        refine lv_aload_n hx hb dX5_readConstructor_59 rfl (lv_at hl 1 rfl) ?_
        refine lv_iconst (v := 4) hx hb dX5_readConstructor_60 (by decide) ?_
        obtain ⟨r61, τ61, hq61, hg⟩ := bd_some hg
        refine gc_Vv (As := [.int 4]) (rest := []) (q0 := 5) (ci := 8) S X (k2_X5_refuse l dC dI ad kc sv hq61 H.size) cw_X5_refuse mG_1059 rfl rfl rfl rfl rfl hl.1 (Nat.le_of_ble_eq_true rfl) dX5_readConstructor_61 ⟨by omega, by omega⟩ (fun H locs X => ?_)
        exact w_X5_readConstructor_b64 S hr hk hR X (lv_sub hl [1, 0] rfl) hg
    · have hg := (if_neg c36).symm.trans hg
      refine lv_aload_n hx hb dX5_readConstructor_39 rfl (lv_at hl 1 rfl) ?_
      refine lv_iconst (v := 2) hx hb dX5_readConstructor_40 (by decide) ?_
      obtain ⟨r41, τ41, hq41, hg⟩ := bd_some hg
      refine gc_Vv (As := [.int 2]) (rest := []) (q0 := 5) (ci := 8) S X (k2_X5_refuse l dC dI ad kc sv hq41 H.size) cw_X5_refuse mG_1059 rfl rfl rfl rfl rfl hl.1 (Nat.le_of_ble_eq_true rfl) dX5_readConstructor_41 ⟨by omega, by omega⟩ (fun H locs X => ?_)
      refine lv_goto (tgt := 64) hx hb dX5_readConstructor_44 (by decide) ?_
      exact w_X5_readConstructor_b64 S hr hk hR X (lv_sub hl [1, 0] rfl) hg
  · have hg := (if_neg c16).symm.trans hg
    refine lv_aload_n hx hb dX5_readConstructor_19 rfl (lv_at hl 1 rfl) ?_
    refine lv_iconst (v := 1) hx hb dX5_readConstructor_20 (by decide) ?_
    obtain ⟨r21, τ21, hq21, hg⟩ := bd_some hg
    refine gc_Vv (As := [.int 1]) (rest := []) (q0 := 5) (ci := 8) S X (k2_X5_refuse l dC dI ad kc sv hq21 H.size) cw_X5_refuse mG_1059 rfl rfl rfl rfl rfl hl.1 (Nat.le_of_ble_eq_true rfl) dX5_readConstructor_21 ⟨by omega, by omega⟩ (fun H locs X => ?_)
    refine lv_goto (tgt := 64) hx hb dX5_readConstructor_24 (by decide) ?_
    exact w_X5_readConstructor_b64 S hr hk hR X (lv_sub hl [1, 0] rfl) hg
end MX5_readConstructor
set_option maxRecDepth 100000 in
theorem k2_X5_readConstructor (l : Launch) (dC : Nat → ClassId) (dI : Nat → Nat → Nat) {ak : Nat → Nat} (ad : Nat → Nat) (kc : Nat → ClassId) (sv : Value) {σ τ : S5}  {r : Unit} (hg : f_X5_readConstructor  σ = some (r, τ)) (sz : Nat) : Met l yX5_readConstructor (Cond.code yX5_readConstructor cX5_readConstructor 3 none :: uG) { frames := 6, cells := 0, slots := 0, locals := 134 } (gPc (dC, dI) (tC kc) (wC ad kc sv) (zC ak) [.ref (ad 5)] σ sz) (gQv (dC, dI) (tC kc) (wC ad kc sv) (va_A (wC ad kc sv σ) sz) r τ) 0 0 (va_A (wC ad kc sv σ) sz) :=
  g_start (by decide) (Nat.le_of_ble_eq_true rfl) (fun p e s m below meth c ls S hr hk X hl => w_X5_readConstructor S hr hk ⟨Nat.le_refl _, Nat.le_refl _⟩ X hl hg)
section MX5_readData
variable {p : Program} {l : Launch} {e : Env} {R : Room} {s : State} {m : MethodId} {args : Array Value} {below : List Frame} {meth : Method} {c : Code} {dC : Nat → ClassId} {dI : Nat → Nat → Nat} {ak : Nat → Nat} {A : Nat → Prop} {ad : Nat → Nat} {kc : Nat → ClassId} {sv : Value} {r : Unit} {τ : S5}
set_option maxHeartbeats 4000000 in
set_option maxRecDepth 100000 in
theorem w_X5_readData_b49 {σ : S5}  {H : Heap} {locs : List Loc} {ls : Array Slot} (S : CallFix p m c cX5_readData 2 s args uG RX5) (hr : meth.sig.returnType = none) (hk : meth.locks = false) (hR : 7 ≤ R.frames ∧ 156 ≤ R.locals)
    (X : gX (dC, dI) (tC kc) (wC ad kc sv) (zC ak) A s σ H locs) (hl : lv_has ls 2 [(0, .ref (ad 5))]) (hg : f_X5_readData_b49  σ = some (r, τ)) : W p l e R s m args below meth c H locs 0 0 (MQ below (gQv (dC, dI) (tC kc) (wC ad kc sv) A r τ) args s 0 0 A) (F0 m 49 ls []) := by
  have hx := S.1
  have hb := S.2.1
  have hown := S.2.2.2.1
  have hu := S.2.2.2.2
  unfold f_X5_readData_b49 at hg
  refine lv_aload_n hx hb dX5_readData_49 rfl (lv_at hl 0 rfl) ?_
  refine lv_bipush (v := 59) hx hb dX5_readData_50 (by decide) ?_
  obtain ⟨r52, τ52, hq52, hg⟩ := bd_some hg
  refine gc_Vv (As := [.int 59]) (rest := []) (q0 := 5) (ci := 8) S X (k2_X5_expect l dC dI ad kc sv hq52 H.size) cw_X5_expect mG_1072 rfl rfl rfl rfl rfl hl.1 (Nat.le_of_ble_eq_true rfl) dX5_readData_52 ⟨by omega, by omega⟩ (fun H locs X => ?_)
  obtain ⟨-, rfl⟩ := fin_some hg
  exact gr_v S hr hk X dX5_readData_55
set_option maxHeartbeats 4000000 in
set_option maxRecDepth 100000 in
theorem w_X5_readData_B13 {σ : S5} {rec13 : Int32 → S5 → Option (Unit × S5)} {v1 : Int32} {H : Heap} {locs : List Loc} {ls : Array Slot} (S : CallFix p m c cX5_readData 2 s args uG RX5) (hr : meth.sig.returnType = none) (hk : meth.locks = false) (hR : 7 ≤ R.frames ∧ 156 ≤ R.locals)
    (hrec13 : ∀ (v1 : Int32) (σ : S5) (H : Heap) (locs : List Loc) (ls : Array Slot), gX (dC, dI) (tC kc) (wC ad kc sv) (zC ak) A s σ H locs → lv_has ls 2 [(0, .ref (ad 5)), (1, .int v1)] → rec13 v1 σ = some (r, τ) → W p l e R s m args below meth c H locs 0 0 (MQ below (gQv (dC, dI) (tC kc) (wC ad kc sv) A r τ) args s 0 0 A) (F0 m 13 ls []))
    (X : gX (dC, dI) (tC kc) (wC ad kc sv) (zC ak) A s σ H locs) (hl : lv_has ls 2 [(0, .ref (ad 5)), (1, .int v1)]) (hg : f_X5_readData_B13 rec13 v1 σ = some (r, τ)) : W p l e R s m args below meth c H locs 0 0 (MQ below (gQv (dC, dI) (tC kc) (wC ad kc sv) A r τ) args s 0 0 A) (F0 m 13 ls []) := by
  have hx := S.1
  have hb := S.2.1
  have hown := S.2.2.2.1
  have hu := S.2.2.2.2
  unfold f_X5_readData_B13 at hg
  refine lv_iload_n hx hb dX5_readData_13 rfl (lv_at hl 1 rfl) ?_
  refine lv_sipush (v := 3001) hx hb dX5_readData_14 (by decide) ?_
  refine lv_icmp_ge (tgt := 49) hx hb dX5_readData_17 (by decide) (fun c17 => ?_) (fun c17 => ?_)
  · have hg := (if_pos c17).symm.trans hg
    exact w_X5_readData_b49 S hr hk hR X (lv_sub hl [0] rfl) hg
  · have hg := (if_neg c17).symm.trans hg
    refine lv_aload_n hx hb dX5_readData_20 rfl (lv_at hl 0 rfl) ?_
    refine wcgR_5_0 S X mG_538 dX5_readData_21 ?_
    refine wcgI_17 (v := (gI σ 17)) S X mG_518 rfl dX5_readData_24 ?_
    refine lv_bipush (v := 124) hx hb dX5_readData_27 (by decide) ?_
    refine lv_icmp_ne (tgt := 49) hx hb dX5_readData_29 (by decide) (fun c29 => ?_) (fun c29 => ?_)
    · have hg := (if_neg c29).symm.trans hg
      exact w_X5_readData_b49 S hr hk hR X (lv_sub hl [0] rfl) hg
    · have hg := (if_pos c29).symm.trans hg
      refine lv_aload_n hx hb dX5_readData_32 rfl (lv_at hl 0 rfl) ?_
      refine wcgR_5_0 S X mG_538 dX5_readData_33 ?_
      obtain ⟨r36, τ36, hq36, hg⟩ := bd_some hg
      refine gc_Vv (As := []) (rest := []) (q0 := 6) (ci := 13) S X (k2_X10_advance l dC dI ad kc sv hq36 H.size) cw_X10_advance mG_1054 rfl rfl rfl rfl rfl hl.1 (Nat.le_of_ble_eq_true rfl) dX5_readData_36 ⟨by omega, by omega⟩ (fun H locs X => ?_)
      refine lv_aload_n hx hb dX5_readData_39 rfl (lv_at hl 0 rfl) ?_
      obtain ⟨r40, τ40, hq40, hg⟩ := bd_some hg
      refine gc_Vv (As := []) (rest := []) (q0 := 5) (ci := 8) S X (k2_X5_readConstructor l dC dI ad kc sv hq40 H.size) cw_X5_readConstructor mG_1055 rfl rfl rfl rfl rfl hl.1 (Nat.le_of_ble_eq_true rfl) dX5_readData_40 ⟨by omega, by omega⟩ (fun H locs X => ?_)
      refine lv_iinc (v := (v1 + 1)) (lv' := [(1, .int (v1 + 1)), (0, .ref (ad 5))]) hx hb dX5_readData_43 hl (k := 1) rfl (by rfl) (by decide) rfl (fun ls hl => ?_)
      refine lv_goto (tgt := 13) hx hb dX5_readData_46 (by decide) ?_
      exact hrec13 _ _ _ _ _ X (lv_sub hl [1, 0] rfl) hg
set_option maxHeartbeats 4000000 in
set_option maxRecDepth 100000 in
theorem w_X5_readData_L13 (S : CallFix p m c cX5_readData 2 s args uG RX5) (hr : meth.sig.returnType = none) (hk : meth.locks = false) (hR : 7 ≤ R.frames ∧ 156 ≤ R.locals) : ∀ (n : Nat) (v1 : Int32) (σ : S5) (H : Heap) (locs : List Loc) (ls : Array Slot), gX (dC, dI) (tC kc) (wC ad kc sv) (zC ak) A s σ H locs → lv_has ls 2 [(0, .ref (ad 5)), (1, .int v1)] → f_X5_readData_L13  n v1 σ = some (r, τ) → W p l e R s m args below meth c H locs 0 0 (MQ below (gQv (dC, dI) (tC kc) (wC ad kc sv) A r τ) args s 0 0 A) (F0 m 13 ls []) := by
  intro n
  induction n with
  | zero => intro v1 σ H locs ls X hl hg; cases hg
  | succ n ih => intro v1 σ H locs ls X hl hg; exact w_X5_readData_B13 S hr hk hR ih X hl hg
set_option maxHeartbeats 4000000 in
set_option maxRecDepth 100000 in
theorem w_X5_readData {σ : S5}  {H : Heap} {locs : List Loc} {ls : Array Slot} (S : CallFix p m c cX5_readData 2 s args uG RX5) (hr : meth.sig.returnType = none) (hk : meth.locks = false) (hR : 7 ≤ R.frames ∧ 156 ≤ R.locals)
    (X : gX (dC, dI) (tC kc) (wC ad kc sv) (zC ak) A s σ H locs) (hl : lv_has ls 2 [(0, .ref (ad 5))]) (hg : f_X5_readData  σ = some (r, τ)) : W p l e R s m args below meth c H locs 0 0 (MQ below (gQv (dC, dI) (tC kc) (wC ad kc sv) A r τ) args s 0 0 A) (F0 m 0 ls []) := by
  have hx := S.1
  have hb := S.2.1
  have hown := S.2.2.2.1
  have hu := S.2.2.2.2
  unfold f_X5_readData at hg
  refine lv_aload_n hx hb dX5_readData_0 rfl (lv_at hl 0 rfl) ?_
  refine wcgR_5_0 S X mG_538 dX5_readData_1 ?_
  obtain ⟨r4, τ4, hq4, hg⟩ := bd_some hg
  refine gc_Vv (As := []) (rest := []) (q0 := 6) (ci := 13) S X (k2_X10_advance l dC dI ad kc sv hq4 H.size) cw_X10_advance mG_1054 rfl rfl rfl rfl rfl hl.1 (Nat.le_of_ble_eq_true rfl) dX5_readData_4 ⟨by omega, by omega⟩ (fun H locs X => ?_)
  refine lv_aload_n hx hb dX5_readData_7 rfl (lv_at hl 0 rfl) ?_
  obtain ⟨r8, τ8, hq8, hg⟩ := bd_some hg
  refine gc_Vv (As := []) (rest := []) (q0 := 5) (ci := 8) S X (k2_X5_readConstructor l dC dI ad kc sv hq8 H.size) cw_X5_readConstructor mG_1055 rfl rfl rfl rfl rfl hl.1 (Nat.le_of_ble_eq_true rfl) dX5_readData_8 ⟨by omega, by omega⟩ (fun H locs X => ?_)
  refine lv_iconst (v := 0) hx hb dX5_readData_11 (by decide) ?_
  refine lv_istore_n (lv' := [(1, .int 0), (0, .ref (ad 5))]) hx hb dX5_readData_12 rfl hl (by decide) rfl (fun ls hl => ?_)
  exact w_X5_readData_L13 S hr hk hR _ _ _ _ _ _ X (lv_sub hl [1, 0] rfl) hg
end MX5_readData
set_option maxRecDepth 100000 in
theorem k2_X5_readData (l : Launch) (dC : Nat → ClassId) (dI : Nat → Nat → Nat) {ak : Nat → Nat} (ad : Nat → Nat) (kc : Nat → ClassId) (sv : Value) {σ τ : S5}  {r : Unit} (hg : f_X5_readData  σ = some (r, τ)) (sz : Nat) : Met l yX5_readData (Cond.code yX5_readData cX5_readData 2 none :: uG) { frames := 7, cells := 0, slots := 0, locals := 156 } (gPc (dC, dI) (tC kc) (wC ad kc sv) (zC ak) [.ref (ad 5)] σ sz) (gQv (dC, dI) (tC kc) (wC ad kc sv) (va_A (wC ad kc sv σ) sz) r τ) 0 0 (va_A (wC ad kc sv σ) sz) :=
  g_start (by decide) (Nat.le_of_ble_eq_true rfl) (fun p e s m below meth c ls S hr hk X hl => w_X5_readData S hr hk ⟨Nat.le_refl _, Nat.le_refl _⟩ X hl hg)
section MX5_declare
variable {p : Program} {l : Launch} {e : Env} {R : Room} {s : State} {m : MethodId} {args : Array Value} {below : List Frame} {meth : Method} {c : Code} {dC : Nat → ClassId} {dI : Nat → Nat → Nat} {ak : Nat → Nat} {A : Nat → Prop} {ad : Nat → Nat} {kc : Nat → ClassId} {sv : Value} {r : Int32} {τ : S5}
set_option maxHeartbeats 4000000 in
set_option maxRecDepth 100000 in
theorem w_X5_declare {σ : S5} {a1 : Int32} {H : Heap} {locs : List Loc} {ls : Array Slot} (S : CallFix p m c cX5_declare 3 s args uG RX5) (hr : meth.sig.returnType = (some .int)) (hk : meth.locks = false) (hR : 6 ≤ R.frames ∧ 134 ≤ R.locals)
    (X : gX (dC, dI) (tC kc) (wC ad kc sv) (zC ak) A s σ H locs) (hl : lv_has ls 3 [(0, .ref (ad 5)), (1, .int a1)]) (hg : f_X5_declare a1 σ = some (r, τ)) : W p l e R s m args below meth c H locs 0 0 (MQ below (gQi (dC, dI) (tC kc) (wC ad kc sv) A r τ) args s 0 0 A) (F0 m 0 ls []) := by
  have hx := S.1
  have hb := S.2.1
  have hown := S.2.2.2.1
  have hu := S.2.2.2.2
  unfold f_X5_declare at hg
  refine lv_iconst (v := 0) hx hb dX5_declare_0 (by decide) ?_
  refine lv_istore_n (lv' := [(2, .int 0), (0, .ref (ad 5)), (1, .int a1)]) hx hb dX5_declare_1 rfl hl (by decide) rfl (fun ls hl => ?_)
  refine lv_aload_n hx hb dX5_declare_2 rfl (lv_at hl 1 rfl) ?_
  refine wcgR_5_0 S X mG_538 dX5_declare_3 ?_
  refine wcgI_17 (v := (gI σ 17)) S X mG_518 rfl dX5_declare_6 ?_
  refine lv_iconst (v := 3) hx hb dX5_declare_9 (by decide) ?_
  refine lv_icmp_eq (tgt := 21) hx hb dX5_declare_10 (by decide) (fun c10 => ?_) (fun c10 => ?_)
  · have hg := (if_pos c10).symm.trans hg
    refine lv_aload_n hx hb dX5_declare_21 rfl (lv_at hl 1 rfl) ?_
    refine wcgR_5_3 S X mG_541 dX5_declare_22 ?_
    refine lv_iload_n hx hb dX5_declare_25 rfl (lv_at hl 2 rfl) ?_
    refine lv_aload_n hx hb dX5_declare_26 rfl (lv_at hl 1 rfl) ?_
    refine wcgR_5_0 S X mG_538 dX5_declare_27 ?_
    refine wcgJ_0 (v := (gJ σ 0)) S X mG_524 rfl dX5_declare_30 ?_
    obtain ⟨r33, τ33, hq33, hg⟩ := bd_some hg
    refine gc_Vi (As := [.int a1, .long (gJ σ 0)]) (rest := []) (q0 := 4) (ci := 9) S X (k2_X6_has l dC dI ad kc sv hq33 H.size) cw_X6_has mG_1104 rfl rfl rfl rfl rfl hl.1 (Nat.le_of_ble_eq_true rfl) dX5_declare_33 ⟨by omega, by omega⟩ (fun H locs X => ?_)
    refine lv_if_eq (tgt := 47) hx hb dX5_declare_36 (by decide) (fun c36 => ?_) (fun c36 => ?_)
    · have hg := (if_pos c36).symm.trans hg
      refine lv_aload_n hx hb dX5_declare_47 rfl (lv_at hl 1 rfl) ?_
      refine wcgR_5_3 S X mG_541 dX5_declare_48 ?_
      refine wcgR_4_1 S X mG_444 dX5_declare_51 ?_
      refine lv_iload_n hx hb dX5_declare_54 rfl (lv_at hl 2 rfl) ?_
      obtain ⟨hi55, hg⟩ := gd_some hg
      refine wclA_20 (v := (xA τ33 20 a1)) S X hi55 rfl dX5_declare_55 ?_
      refine lv_iconst (v := 5) hx hb dX5_declare_56 (by decide) ?_
      refine lv_icmp_lt (tgt := 68) hx hb dX5_declare_57 (by decide) (fun c57 => ?_) (fun c57 => ?_)
      · have hg := (if_pos c57).symm.trans hg
        refine lv_aload_n hx hb dX5_declare_68 rfl (lv_at hl 1 rfl) ?_
        refine wcgR_5_3 S X mG_541 dX5_declare_69 ?_
        refine lv_iload_n hx hb dX5_declare_72 rfl (lv_at hl 2 rfl) ?_
        refine lv_aload_n hx hb dX5_declare_73 rfl (lv_at hl 1 rfl) ?_
        refine wcgR_5_0 S X mG_538 dX5_declare_74 ?_
        refine wcgJ_0 (v := (gJ τ33 0)) S X mG_524 rfl dX5_declare_77 ?_
        obtain ⟨r80, τ80, hq80, hg⟩ := bd_some hg
        refine gc_Vi (As := [.int a1, .long (gJ τ33 0)]) (rest := []) (q0 := 4) (ci := 9) S X (k2_X6_addName l dC dI ad kc sv hq80 H.size) cw_X6_addName mG_1112 rfl rfl rfl rfl rfl hl.1 (Nat.le_of_ble_eq_true rfl) dX5_declare_80 ⟨by omega, by omega⟩ (fun H locs X => ?_)
        refine lv_istore_n (lv' := [(2, .int r80), (0, .ref (ad 5)), (1, .int a1)]) hx hb dX5_declare_83 rfl hl (by decide) rfl (fun ls hl => ?_)
        refine lv_aload_n hx hb dX5_declare_84 rfl (lv_at hl 1 rfl) ?_
        refine wcgR_5_0 S X mG_538 dX5_declare_85 ?_
        obtain ⟨r88, τ88, hq88, hg⟩ := bd_some hg
        refine gc_Vv (As := []) (rest := []) (q0 := 6) (ci := 13) S X (k2_X10_advance l dC dI ad kc sv hq88 H.size) cw_X10_advance mG_1054 rfl rfl rfl rfl rfl hl.1 (Nat.le_of_ble_eq_true rfl) dX5_declare_88 ⟨by omega, by omega⟩ (fun H locs X => ?_)
        refine lv_iload_n hx hb dX5_declare_91 rfl (lv_at hl 0 rfl) ?_
        obtain ⟨rfl, rfl⟩ := fin_some hg
        exact gr_i S hr hk X dX5_declare_92
      · have hg := (if_neg c57).symm.trans hg
        refine lv_aload_n hx hb dX5_declare_60 rfl (lv_at hl 1 rfl) ?_
        refine lv_iconst (v := 4) hx hb dX5_declare_61 (by decide) ?_
        obtain ⟨r62, τ62, hq62, hg⟩ := bd_some hg
        refine gc_Vv (As := [.int 4]) (rest := []) (q0 := 5) (ci := 8) S X (k2_X5_refuse l dC dI ad kc sv hq62 H.size) cw_X5_refuse mG_1059 rfl rfl rfl rfl rfl hl.1 (Nat.le_of_ble_eq_true rfl) dX5_declare_62 ⟨by omega, by omega⟩ (fun H locs X => ?_)
        refine lv_goto (tgt := 91) hx hb dX5_declare_65 (by decide) ?_
        refine lv_iload_n hx hb dX5_declare_91 rfl (lv_at hl 0 rfl) ?_
        obtain ⟨rfl, rfl⟩ := fin_some hg
        exact gr_i S hr hk X dX5_declare_92
    · have hg := (if_neg c36).symm.trans hg
      refine lv_aload_n hx hb dX5_declare_39 rfl (lv_at hl 1 rfl) ?_
      refine lv_iconst (v := 2) hx hb dX5_declare_40 (by decide) ?_
      obtain ⟨r41, τ41, hq41, hg⟩ := bd_some hg
      refine gc_Vv (As := [.int 2]) (rest := []) (q0 := 5) (ci := 8) S X (k2_X5_refuse l dC dI ad kc sv hq41 H.size) cw_X5_refuse mG_1059 rfl rfl rfl rfl rfl hl.1 (Nat.le_of_ble_eq_true rfl) dX5_declare_41 ⟨by omega, by omega⟩ (fun H locs X => ?_)
      refine lv_goto (tgt := 91) hx hb dX5_declare_44 (by decide) ?_
      refine lv_iload_n hx hb dX5_declare_91 rfl (lv_at hl 0 rfl) ?_
      obtain ⟨rfl, rfl⟩ := fin_some hg
      exact gr_i S hr hk X dX5_declare_92
  · have hg := (if_neg c10).symm.trans hg
    refine lv_aload_n hx hb dX5_declare_13 rfl (lv_at hl 1 rfl) ?_
    refine lv_iconst (v := 1) hx hb dX5_declare_14 (by decide) ?_
    obtain ⟨r15, τ15, hq15, hg⟩ := bd_some hg
    refine gc_Vv (As := [.int 1]) (rest := []) (q0 := 5) (ci := 8) S X (k2_X5_refuse l dC dI ad kc sv hq15 H.size) cw_X5_refuse mG_1059 rfl rfl rfl rfl rfl hl.1 (Nat.le_of_ble_eq_true rfl) dX5_declare_15 ⟨by omega, by omega⟩ (fun H locs X => ?_)
    refine lv_goto (tgt := 91) hx hb dX5_declare_18 (by decide) ?_
    refine lv_iload_n hx hb dX5_declare_91 rfl (lv_at hl 0 rfl) ?_
    obtain ⟨rfl, rfl⟩ := fin_some hg
    exact gr_i S hr hk X dX5_declare_92
end MX5_declare
set_option maxRecDepth 100000 in
theorem k2_X5_declare (l : Launch) (dC : Nat → ClassId) (dI : Nat → Nat → Nat) {ak : Nat → Nat} (ad : Nat → Nat) (kc : Nat → ClassId) (sv : Value) {σ τ : S5} {a1 : Int32} {r : Int32} (hg : f_X5_declare a1 σ = some (r, τ)) (sz : Nat) : Met l yX5_declare (Cond.code yX5_declare cX5_declare 3 (some .int) :: uG) { frames := 6, cells := 0, slots := 0, locals := 134 } (gPc (dC, dI) (tC kc) (wC ad kc sv) (zC ak) [.ref (ad 5), .int a1] σ sz) (gQi (dC, dI) (tC kc) (wC ad kc sv) (va_A (wC ad kc sv σ) sz) r τ) 0 0 (va_A (wC ad kc sv σ) sz) :=
  g_start (by decide) (Nat.le_of_ble_eq_true rfl) (fun p e s m below meth c ls S hr hk X hl => w_X5_declare S hr hk ⟨Nat.le_refl _, Nat.le_refl _⟩ X hl hg)
section MX5_readParameters
variable {p : Program} {l : Launch} {e : Env} {R : Room} {s : State} {m : MethodId} {args : Array Value} {below : List Frame} {meth : Method} {c : Code} {dC : Nat → ClassId} {dI : Nat → Nat → Nat} {ak : Nat → Nat} {A : Nat → Prop} {ad : Nat → Nat} {kc : Nat → ClassId} {sv : Value} {r : Unit} {τ : S5}
set_option maxHeartbeats 4000000 in
set_option maxRecDepth 100000 in
theorem w_X5_readParameters_B2 {σ : S5} {rec2 : Int32 → Int32 → S5 → Option (Unit × S5)} {v1 : Int32} {v2 : Int32} {H : Heap} {locs : List Loc} {ls : Array Slot} (S : CallFix p m c cX5_readParameters 3 s args uG RX5) (hr : meth.sig.returnType = none) (hk : meth.locks = false) (hR : 7 ≤ R.frames ∧ 156 ≤ R.locals)
    (hrec2 : ∀ (v1 : Int32) (v2 : Int32) (σ : S5) (H : Heap) (locs : List Loc) (ls : Array Slot), gX (dC, dI) (tC kc) (wC ad kc sv) (zC ak) A s σ H locs → lv_has ls 3 [(0, .ref (ad 5)), (1, .int v1), (2, .int v2)] → rec2 v1 v2 σ = some (r, τ) → W p l e R s m args below meth c H locs 0 0 (MQ below (gQv (dC, dI) (tC kc) (wC ad kc sv) A r τ) args s 0 0 A) (F0 m 2 ls []))
    (X : gX (dC, dI) (tC kc) (wC ad kc sv) (zC ak) A s σ H locs) (hl : lv_has ls 3 [(0, .ref (ad 5)), (1, .int v1), (2, .int v2)]) (hg : f_X5_readParameters_B2 rec2 v1 v2 σ = some (r, τ)) : W p l e R s m args below meth c H locs 0 0 (MQ below (gQv (dC, dI) (tC kc) (wC ad kc sv) A r τ) args s 0 0 A) (F0 m 2 ls []) := by
  have hx := S.1
  have hb := S.2.1
  have hown := S.2.2.2.1
  have hu := S.2.2.2.2
  unfold f_X5_readParameters_B2 at hg
  refine lv_iload_n hx hb dX5_readParameters_2 rfl (lv_at hl 2 rfl) ?_
  refine lv_iconst (v := 5) hx hb dX5_readParameters_3 (by decide) ?_
  refine lv_icmp_gt (tgt := 30) hx hb dX5_readParameters_4 (by decide) (fun c4 => ?_) (fun c4 => ?_)
  · have hg := (if_pos c4).symm.trans hg
    obtain ⟨-, rfl⟩ := fin_some hg
    exact gr_v S hr hk X dX5_readParameters_30
  · have hg := (if_neg c4).symm.trans hg
    refine lv_aload_n hx hb dX5_readParameters_7 rfl (lv_at hl 0 rfl) ?_
    refine wcgR_5_0 S X mG_538 dX5_readParameters_8 ?_
    refine wcgI_17 (v := (gI σ 17)) S X mG_518 rfl dX5_readParameters_11 ?_
    refine lv_iconst (v := 3) hx hb dX5_readParameters_14 (by decide) ?_
    refine lv_icmp_ne (tgt := 30) hx hb dX5_readParameters_15 (by decide) (fun c15 => ?_) (fun c15 => ?_)
    · have hg := (if_neg c15).symm.trans hg
      obtain ⟨-, rfl⟩ := fin_some hg
      exact gr_v S hr hk X dX5_readParameters_30
    · have hg := (if_pos c15).symm.trans hg
      refine lv_aload_n hx hb dX5_readParameters_18 rfl (lv_at hl 0 rfl) ?_
      refine lv_iload_n hx hb dX5_readParameters_19 rfl (lv_at hl 1 rfl) ?_
      obtain ⟨r20, τ20, hq20, hg⟩ := bd_some hg
      refine gc_Vi (As := [.int v1]) (rest := []) (q0 := 5) (ci := 8) S X (k2_X5_declare l dC dI ad kc sv hq20 H.size) cw_X5_declare mG_1100 rfl rfl rfl rfl rfl hl.1 (Nat.le_of_ble_eq_true rfl) dX5_readParameters_20 ⟨by omega, by omega⟩ (fun H locs X => ?_)
      refine lv_pop hx hb dX5_readParameters_23 rfl ?_
      refine lv_iinc (v := (v2 + 1)) (lv' := [(2, .int (v2 + 1)), (0, .ref (ad 5)), (1, .int v1)]) hx hb dX5_readParameters_24 hl (k := 2) rfl (by rfl) (by decide) rfl (fun ls hl => ?_)
      refine lv_goto (tgt := 2) hx hb dX5_readParameters_27 (by decide) ?_
      exact hrec2 _ _ _ _ _ _ X (lv_sub hl [1, 2, 0] rfl) hg
set_option maxHeartbeats 4000000 in
set_option maxRecDepth 100000 in
theorem w_X5_readParameters_L2 (S : CallFix p m c cX5_readParameters 3 s args uG RX5) (hr : meth.sig.returnType = none) (hk : meth.locks = false) (hR : 7 ≤ R.frames ∧ 156 ≤ R.locals) : ∀ (n : Nat) (v1 : Int32) (v2 : Int32) (σ : S5) (H : Heap) (locs : List Loc) (ls : Array Slot), gX (dC, dI) (tC kc) (wC ad kc sv) (zC ak) A s σ H locs → lv_has ls 3 [(0, .ref (ad 5)), (1, .int v1), (2, .int v2)] → f_X5_readParameters_L2  n v1 v2 σ = some (r, τ) → W p l e R s m args below meth c H locs 0 0 (MQ below (gQv (dC, dI) (tC kc) (wC ad kc sv) A r τ) args s 0 0 A) (F0 m 2 ls []) := by
  intro n
  induction n with
  | zero => intro v1 v2 σ H locs ls X hl hg; cases hg
  | succ n ih => intro v1 v2 σ H locs ls X hl hg; exact w_X5_readParameters_B2 S hr hk hR ih X hl hg
set_option maxHeartbeats 4000000 in
set_option maxRecDepth 100000 in
theorem w_X5_readParameters {σ : S5} {a1 : Int32} {H : Heap} {locs : List Loc} {ls : Array Slot} (S : CallFix p m c cX5_readParameters 3 s args uG RX5) (hr : meth.sig.returnType = none) (hk : meth.locks = false) (hR : 7 ≤ R.frames ∧ 156 ≤ R.locals)
    (X : gX (dC, dI) (tC kc) (wC ad kc sv) (zC ak) A s σ H locs) (hl : lv_has ls 3 [(0, .ref (ad 5)), (1, .int a1)]) (hg : f_X5_readParameters a1 σ = some (r, τ)) : W p l e R s m args below meth c H locs 0 0 (MQ below (gQv (dC, dI) (tC kc) (wC ad kc sv) A r τ) args s 0 0 A) (F0 m 0 ls []) := by
  have hx := S.1
  have hb := S.2.1
  have hown := S.2.2.2.1
  have hu := S.2.2.2.2
  unfold f_X5_readParameters at hg
  refine lv_iconst (v := 0) hx hb dX5_readParameters_0 (by decide) ?_
  refine lv_istore_n (lv' := [(2, .int 0), (0, .ref (ad 5)), (1, .int a1)]) hx hb dX5_readParameters_1 rfl hl (by decide) rfl (fun ls hl => ?_)
  exact w_X5_readParameters_L2 S hr hk hR _ _ _ _ _ _ _ X (lv_sub hl [1, 2, 0] rfl) hg
end MX5_readParameters
set_option maxRecDepth 100000 in
theorem k2_X5_readParameters (l : Launch) (dC : Nat → ClassId) (dI : Nat → Nat → Nat) {ak : Nat → Nat} (ad : Nat → Nat) (kc : Nat → ClassId) (sv : Value) {σ τ : S5} {a1 : Int32} {r : Unit} (hg : f_X5_readParameters a1 σ = some (r, τ)) (sz : Nat) : Met l yX5_readParameters (Cond.code yX5_readParameters cX5_readParameters 3 none :: uG) { frames := 7, cells := 0, slots := 0, locals := 156 } (gPc (dC, dI) (tC kc) (wC ad kc sv) (zC ak) [.ref (ad 5), .int a1] σ sz) (gQv (dC, dI) (tC kc) (wC ad kc sv) (va_A (wC ad kc sv σ) sz) r τ) 0 0 (va_A (wC ad kc sv σ) sz) :=
  g_start (by decide) (Nat.le_of_ble_eq_true rfl) (fun p e s m below meth c ls S hr hk X hl => w_X5_readParameters S hr hk ⟨Nat.le_refl _, Nat.le_refl _⟩ X hl hg)
section MX5_isAtom
variable {p : Program} {l : Launch} {e : Env} {R : Room} {s : State} {m : MethodId} {args : Array Value} {below : List Frame} {meth : Method} {c : Code} {dC : Nat → ClassId} {dI : Nat → Nat → Nat} {ak : Nat → Nat} {A : Nat → Prop} {ad : Nat → Nat} {kc : Nat → ClassId} {sv : Value} {r : Int32} {τ : S5}
set_option maxHeartbeats 4000000 in
set_option maxRecDepth 100000 in
theorem w_X5_isAtom_b27 {σ : S5}  {H : Heap} {locs : List Loc} {ls : Array Slot} (S : CallFix p m c cX5_isAtom 1 s args uG RX5) (hr : meth.sig.returnType = (some .boolean)) (hk : meth.locks = false) (hR : 0 ≤ R.frames ∧ 0 ≤ R.locals)
    (X : gX (dC, dI) (tC kc) (wC ad kc sv) (zC ak) A s σ H locs) (hl : lv_has ls 1 []) (hg : f_X5_isAtom_b27  σ = some (r, τ)) : W p l e R s m args below meth c H locs 0 0 (MQ below (gQi (dC, dI) (tC kc) (wC ad kc sv) A r τ) args s 0 0 A) (F0 m 27 ls []) := by
  have hx := S.1
  have hb := S.2.1
  have hown := S.2.2.2.1
  have hu := S.2.2.2.2
  unfold f_X5_isAtom_b27 at hg
  refine lv_iconst (v := 1) hx hb dX5_isAtom_27 (by decide) ?_
  refine lv_goto (tgt := 32) hx hb dX5_isAtom_28 (by decide) ?_
  obtain ⟨rfl, rfl⟩ := fin_some hg
  exact gr_z S hr hk X (Or.inr rfl) dX5_isAtom_32
set_option maxHeartbeats 4000000 in
set_option maxRecDepth 100000 in
theorem w_X5_isAtom {σ : S5} {a0 : Int32} {H : Heap} {locs : List Loc} {ls : Array Slot} (S : CallFix p m c cX5_isAtom 1 s args uG RX5) (hr : meth.sig.returnType = (some .boolean)) (hk : meth.locks = false) (hR : 0 ≤ R.frames ∧ 0 ≤ R.locals)
    (X : gX (dC, dI) (tC kc) (wC ad kc sv) (zC ak) A s σ H locs) (hl : lv_has ls 1 [(0, .int a0)]) (hg : f_X5_isAtom a0 σ = some (r, τ)) : W p l e R s m args below meth c H locs 0 0 (MQ below (gQi (dC, dI) (tC kc) (wC ad kc sv) A r τ) args s 0 0 A) (F0 m 0 ls []) := by
  have hx := S.1
  have hb := S.2.1
  have hown := S.2.2.2.1
  have hu := S.2.2.2.2
  unfold f_X5_isAtom at hg
  refine lv_iload_n hx hb dX5_isAtom_0 rfl (lv_at hl 0 rfl) ?_
  refine lv_iconst (v := 3) hx hb dX5_isAtom_1 (by decide) ?_
  refine lv_icmp_eq (tgt := 27) hx hb dX5_isAtom_2 (by decide) (fun c2 => ?_) (fun c2 => ?_)
  · have hg := (if_pos c2).symm.trans hg
    exact w_X5_isAtom_b27 S hr hk hR X (lv_sub hl [] rfl) hg
  · have hg := (if_neg c2).symm.trans hg
    refine lv_iload_n hx hb dX5_isAtom_5 rfl (lv_at hl 0 rfl) ?_
    refine lv_iconst (v := 4) hx hb dX5_isAtom_6 (by decide) ?_
    refine lv_icmp_eq (tgt := 27) hx hb dX5_isAtom_7 (by decide) (fun c7 => ?_) (fun c7 => ?_)
    · have hg := (if_pos c7).symm.trans hg
      exact w_X5_isAtom_b27 S hr hk hR X (lv_sub hl [] rfl) hg
    · have hg := (if_neg c7).symm.trans hg
      refine lv_iload_n hx hb dX5_isAtom_10 rfl (lv_at hl 0 rfl) ?_
      refine lv_iconst (v := 5) hx hb dX5_isAtom_11 (by decide) ?_
      refine lv_icmp_eq (tgt := 27) hx hb dX5_isAtom_12 (by decide) (fun c12 => ?_) (fun c12 => ?_)
      · have hg := (if_pos c12).symm.trans hg
        exact w_X5_isAtom_b27 S hr hk hR X (lv_sub hl [] rfl) hg
      · have hg := (if_neg c12).symm.trans hg
        refine lv_iload_n hx hb dX5_isAtom_15 rfl (lv_at hl 0 rfl) ?_
        refine lv_bipush (v := 11) hx hb dX5_isAtom_16 (by decide) ?_
        refine lv_icmp_eq (tgt := 27) hx hb dX5_isAtom_18 (by decide) (fun c18 => ?_) (fun c18 => ?_)
        · have hg := (if_pos c18).symm.trans hg
          exact w_X5_isAtom_b27 S hr hk hR X (lv_sub hl [] rfl) hg
        · have hg := (if_neg c18).symm.trans hg
          refine lv_iload_n hx hb dX5_isAtom_21 rfl (lv_at hl 0 rfl) ?_
          refine lv_bipush (v := 40) hx hb dX5_isAtom_22 (by decide) ?_
          refine lv_icmp_ne (tgt := 31) hx hb dX5_isAtom_24 (by decide) (fun c24 => ?_) (fun c24 => ?_)
          · have hg := (if_neg c24).symm.trans hg
            refine lv_iconst (v := 0) hx hb dX5_isAtom_31 (by decide) ?_
            obtain ⟨rfl, rfl⟩ := fin_some hg
            exact gr_z S hr hk X (Or.inl rfl) dX5_isAtom_32
          · have hg := (if_pos c24).symm.trans hg
            exact w_X5_isAtom_b27 S hr hk hR X (lv_sub hl [] rfl) hg
end MX5_isAtom
set_option maxRecDepth 100000 in
theorem k2_X5_isAtom (l : Launch) (dC : Nat → ClassId) (dI : Nat → Nat → Nat) {ak : Nat → Nat} (ad : Nat → Nat) (kc : Nat → ClassId) (sv : Value) {σ τ : S5} {a0 : Int32} {r : Int32} (hg : f_X5_isAtom a0 σ = some (r, τ)) (sz : Nat) : Met l yX5_isAtom (Cond.code yX5_isAtom cX5_isAtom 1 (some .boolean) :: uG) { frames := 0, cells := 0, slots := 0, locals := 0 } (gPc (dC, dI) (tC kc) (wC ad kc sv) (zC ak) [.int a0] σ sz) (gQi (dC, dI) (tC kc) (wC ad kc sv) (va_A (wC ad kc sv σ) sz) r τ) 0 0 (va_A (wC ad kc sv σ) sz) :=
  g_start (by decide) (Nat.le_of_ble_eq_true rfl) (fun p e s m below meth c ls S hr hk X hl => w_X5_isAtom S hr hk ⟨Nat.le_refl _, Nat.le_refl _⟩ X hl hg)
section MX5_atomStands
variable {p : Program} {l : Launch} {e : Env} {R : Room} {s : State} {m : MethodId} {args : Array Value} {below : List Frame} {meth : Method} {c : Code} {dC : Nat → ClassId} {dI : Nat → Nat → Nat} {ak : Nat → Nat} {A : Nat → Prop} {ad : Nat → Nat} {kc : Nat → ClassId} {sv : Value} {r : Int32} {τ : S5}
set_option maxHeartbeats 4000000 in
set_option maxRecDepth 100000 in
theorem w_X5_atomStands_b98 {σ : S5}  {H : Heap} {locs : List Loc} {ls : Array Slot} (S : CallFix p m c cX5_atomStands 2 s args uG RX5) (hr : meth.sig.returnType = (some .boolean)) (hk : meth.locks = false) (hR : 2 ≤ R.frames ∧ 41 ≤ R.locals)
    (X : gX (dC, dI) (tC kc) (wC ad kc sv) (zC ak) A s σ H locs) (hl : lv_has ls 2 [(0, .ref (ad 5))]) (hg : f_X5_atomStands_b98  σ = some (r, τ)) : W p l e R s m args below meth c H locs 0 0 (MQ below (gQi (dC, dI) (tC kc) (wC ad kc sv) A r τ) args s 0 0 A) (F0 m 98 ls []) := by
  have hx := S.1
  have hb := S.2.1
  have hown := S.2.2.2.1
  have hu := S.2.2.2.2
  unfold f_X5_atomStands_b98 at hg
  refine lv_aload_n hx hb dX5_atomStands_98 rfl (lv_at hl 0 rfl) ?_
  refine wcgR_5_0 S X mG_538 dX5_atomStands_99 ?_
  refine wcgI_17 (v := (gI σ 17)) S X mG_518 rfl dX5_atomStands_102 ?_
  refine lv_if_eq (tgt := 112) hx hb dX5_atomStands_105 (by decide) (fun c105 => ?_) (fun c105 => ?_)
  · have hg := (if_pos c105).symm.trans hg
    refine lv_iconst (v := 0) hx hb dX5_atomStands_112 (by decide) ?_
    obtain ⟨rfl, rfl⟩ := fin_some hg
    exact gr_z S hr hk X (Or.inl rfl) dX5_atomStands_113
  · have hg := (if_neg c105).symm.trans hg
    refine lv_iconst (v := 1) hx hb dX5_atomStands_108 (by decide) ?_
    refine lv_goto (tgt := 113) hx hb dX5_atomStands_109 (by decide) ?_
    obtain ⟨rfl, rfl⟩ := fin_some hg
    exact gr_z S hr hk X (Or.inr rfl) dX5_atomStands_113
set_option maxHeartbeats 4000000 in
set_option maxRecDepth 100000 in
theorem w_X5_atomStands_b93 {σ : S5}  {H : Heap} {locs : List Loc} {ls : Array Slot} (S : CallFix p m c cX5_atomStands 2 s args uG RX5) (hr : meth.sig.returnType = (some .boolean)) (hk : meth.locks = false) (hR : 2 ≤ R.frames ∧ 41 ≤ R.locals)
    (X : gX (dC, dI) (tC kc) (wC ad kc sv) (zC ak) A s σ H locs) (hl : lv_has ls 2 [(0, .ref (ad 5))]) (hg : f_X5_atomStands_b93  σ = some (r, τ)) : W p l e R s m args below meth c H locs 0 0 (MQ below (gQi (dC, dI) (tC kc) (wC ad kc sv) A r τ) args s 0 0 A) (F0 m 93 ls []) := by
  have hx := S.1
  have hb := S.2.1
  have hown := S.2.2.2.1
  have hu := S.2.2.2.2
  unfold f_X5_atomStands_b93 at hg
  refine lv_aload_n hx hb dX5_atomStands_93 rfl (lv_at hl 0 rfl) ?_
  refine lv_iconst (v := 1) hx hb dX5_atomStands_94 (by decide) ?_
  obtain ⟨r95, τ95, hq95, hg⟩ := bd_some hg
  refine gc_Vv (As := [.int 1]) (rest := []) (q0 := 5) (ci := 8) S X (k2_X5_refuse l dC dI ad kc sv hq95 H.size) cw_X5_refuse mG_1059 rfl rfl rfl rfl rfl hl.1 (Nat.le_of_ble_eq_true rfl) dX5_atomStands_95 ⟨by omega, by omega⟩ (fun H locs X => ?_)
  exact w_X5_atomStands_b98 S hr hk hR X (lv_sub hl [0] rfl) hg
set_option maxHeartbeats 4000000 in
set_option maxRecDepth 100000 in
theorem w_X5_atomStands_b56 {σ : S5}  {H : Heap} {locs : List Loc} {ls : Array Slot} (S : CallFix p m c cX5_atomStands 2 s args uG RX5) (hr : meth.sig.returnType = (some .boolean)) (hk : meth.locks = false) (hR : 2 ≤ R.frames ∧ 41 ≤ R.locals)
    (X : gX (dC, dI) (tC kc) (wC ad kc sv) (zC ak) A s σ H locs) (hl : lv_has ls 2 [(0, .ref (ad 5))]) (hg : f_X5_atomStands_b56  σ = some (r, τ)) : W p l e R s m args below meth c H locs 0 0 (MQ below (gQi (dC, dI) (tC kc) (wC ad kc sv) A r τ) args s 0 0 A) (F0 m 56 ls []) := by
  have hx := S.1
  have hb := S.2.1
  have hown := S.2.2.2.1
  have hu := S.2.2.2.2
  unfold f_X5_atomStands_b56 at hg
  refine lv_goto (tgt := 98) hx hb dX5_atomStands_56 (by decide) ?_
  exact w_X5_atomStands_b98 S hr hk hR X (lv_sub hl [0] rfl) hg
set_option maxHeartbeats 4000000 in
set_option maxRecDepth 100000 in
theorem w_X5_atomStands {σ : S5}  {H : Heap} {locs : List Loc} {ls : Array Slot} (S : CallFix p m c cX5_atomStands 2 s args uG RX5) (hr : meth.sig.returnType = (some .boolean)) (hk : meth.locks = false) (hR : 2 ≤ R.frames ∧ 41 ≤ R.locals)
    (X : gX (dC, dI) (tC kc) (wC ad kc sv) (zC ak) A s σ H locs) (hl : lv_has ls 2 [(0, .ref (ad 5))]) (hg : f_X5_atomStands  σ = some (r, τ)) : W p l e R s m args below meth c H locs 0 0 (MQ below (gQi (dC, dI) (tC kc) (wC ad kc sv) A r τ) args s 0 0 A) (F0 m 0 ls []) := by
  have hx := S.1
  have hb := S.2.1
  have hown := S.2.2.2.1
  have hu := S.2.2.2.2
  unfold f_X5_atomStands at hg
  refine lv_aload_n hx hb dX5_atomStands_0 rfl (lv_at hl 0 rfl) ?_
  refine wcgR_5_0 S X mG_538 dX5_atomStands_1 ?_
  refine wcgI_17 (v := (gI σ 17)) S X mG_518 rfl dX5_atomStands_4 ?_
  refine lv_iconst (v := 4) hx hb dX5_atomStands_7 (by decide) ?_
  refine lv_icmp_ne (tgt := 59) hx hb dX5_atomStands_8 (by decide) (fun c8 => ?_) (fun c8 => ?_)
  · have hg := (if_neg c8).symm.trans hg
    refine lv_aload_n hx hb dX5_atomStands_59 rfl (lv_at hl 0 rfl) ?_
    refine wcgR_5_0 S X mG_538 dX5_atomStands_60 ?_
    refine wcgI_17 (v := (gI σ 17)) S X mG_518 rfl dX5_atomStands_63 ?_
    obtain ⟨r66, τ66, hq66, hg⟩ := bd_some hg
    refine gc_Si (As := [.int (gI σ 17)]) (rest := []) S X (k2_X5_isAtom l dC dI ad kc sv hq66 H.size) cw_X5_isAtom mG_1189 rfl rfl hl.1 (Nat.le_of_ble_eq_true rfl) dX5_atomStands_66 ⟨by omega, by omega⟩ (fun H locs X => ?_)
    refine lv_if_eq (tgt := 93) hx hb dX5_atomStands_69 (by decide) (fun c69 => ?_) (fun c69 => ?_)
    · have hg := (if_pos c69).symm.trans hg
      exact w_X5_atomStands_b93 S hr hk hR X (lv_sub hl [0] rfl) hg
    · have hg := (if_neg c69).symm.trans hg
      refine lv_aload_n hx hb dX5_atomStands_72 rfl (lv_at hl 0 rfl) ?_
      refine wcgR_5_0 S X mG_538 dX5_atomStands_73 ?_
      refine wcgI_17 (v := (gI τ66 17)) S X mG_518 rfl dX5_atomStands_76 ?_
      refine lv_bipush (v := 40) hx hb dX5_atomStands_79 (by decide) ?_
      refine lv_icmp_ne (tgt := 98) hx hb dX5_atomStands_81 (by decide) (fun c81 => ?_) (fun c81 => ?_)
      · have hg := (if_neg c81).symm.trans hg
        exact w_X5_atomStands_b98 S hr hk hR X (lv_sub hl [0] rfl) hg
      · have hg := (if_pos c81).symm.trans hg
        refine lv_aload_n hx hb dX5_atomStands_84 rfl (lv_at hl 0 rfl) ?_
        refine wcgI_14 (v := (gI τ66 14)) S X mG_548 rfl dX5_atomStands_85 ?_
        refine lv_bipush (v := 30) hx hb dX5_atomStands_88 (by decide) ?_
        refine lv_icmp_lt (tgt := 98) hx hb dX5_atomStands_90 (by decide) (fun c90 => ?_) (fun c90 => ?_)
        · have hg := (if_pos c90).symm.trans hg
          exact w_X5_atomStands_b98 S hr hk hR X (lv_sub hl [0] rfl) hg
        · have hg := (if_neg c90).symm.trans hg
          exact w_X5_atomStands_b93 S hr hk hR X (lv_sub hl [0] rfl) hg
  · have hg := (if_pos c8).symm.trans hg
    refine lv_aload_n hx hb dX5_atomStands_11 rfl (lv_at hl 0 rfl) ?_
    refine wcgR_5_2 S X mG_540 dX5_atomStands_12 ?_
    refine lv_aload_n hx hb dX5_atomStands_15 rfl (lv_at hl 0 rfl) ?_
    refine wcgR_5_0 S X mG_538 dX5_atomStands_16 ?_
    refine wcgJ_0 (v := (gJ σ 0)) S X mG_524 rfl dX5_atomStands_19 ?_
    obtain ⟨r22, τ22, hq22, hg⟩ := bd_some hg
    refine gc_Vi (As := [.long (gJ σ 0)]) (rest := []) (q0 := 2) (ci := 7) S X (k2_X4_constructorOf l dC dI ad kc sv hq22 H.size) cw_X4_constructorOf mG_1067 rfl rfl rfl rfl rfl hl.1 (Nat.le_of_ble_eq_true rfl) dX5_atomStands_22 ⟨by omega, by omega⟩ (fun H locs X => ?_)
    refine lv_istore_n (lv' := [(1, .int r22), (0, .ref (ad 5))]) hx hb dX5_atomStands_25 rfl hl (by decide) rfl (fun ls hl => ?_)
    refine lv_iload_n hx hb dX5_atomStands_26 rfl (lv_at hl 0 rfl) ?_
    refine lv_iconst (v := (-1)) hx hb dX5_atomStands_27 (by decide) ?_
    refine lv_icmp_ne (tgt := 39) hx hb dX5_atomStands_28 (by decide) (fun c28 => ?_) (fun c28 => ?_)
    · have hg := (if_neg c28).symm.trans hg
      refine lv_aload_n hx hb dX5_atomStands_39 rfl (lv_at hl 1 rfl) ?_
      refine wcgR_5_2 S X mG_540 dX5_atomStands_40 ?_
      refine wcgR_2_1 S X mG_289 dX5_atomStands_43 ?_
      refine lv_iload_n hx hb dX5_atomStands_46 rfl (lv_at hl 0 rfl) ?_
      obtain ⟨hi47, hg⟩ := gd_some hg
      refine wclA_2 (v := (xA τ22 2 r22)) S X hi47 rfl dX5_atomStands_47 ?_
      refine lv_if_le (tgt := 56) hx hb dX5_atomStands_48 (by decide) (fun c48 => ?_) (fun c48 => ?_)
      · have hg := (if_pos c48).symm.trans hg
        exact w_X5_atomStands_b56 S hr hk hR X (lv_sub hl [1] rfl) hg
      · have hg := (if_neg c48).symm.trans hg
        refine lv_aload_n hx hb dX5_atomStands_51 rfl (lv_at hl 1 rfl) ?_
        refine lv_iconst (v := 1) hx hb dX5_atomStands_52 (by decide) ?_
        obtain ⟨r53, τ53, hq53, hg⟩ := bd_some hg
        refine gc_Vv (As := [.int 1]) (rest := []) (q0 := 5) (ci := 8) S X (k2_X5_refuse l dC dI ad kc sv hq53 H.size) cw_X5_refuse mG_1059 rfl rfl rfl rfl rfl hl.1 (Nat.le_of_ble_eq_true rfl) dX5_atomStands_53 ⟨by omega, by omega⟩ (fun H locs X => ?_)
        exact w_X5_atomStands_b56 S hr hk hR X (lv_sub hl [1] rfl) hg
    · have hg := (if_pos c28).symm.trans hg
      refine lv_aload_n hx hb dX5_atomStands_31 rfl (lv_at hl 1 rfl) ?_
      refine lv_iconst (v := 3) hx hb dX5_atomStands_32 (by decide) ?_
      obtain ⟨r33, τ33, hq33, hg⟩ := bd_some hg
      refine gc_Vv (As := [.int 3]) (rest := []) (q0 := 5) (ci := 8) S X (k2_X5_refuse l dC dI ad kc sv hq33 H.size) cw_X5_refuse mG_1059 rfl rfl rfl rfl rfl hl.1 (Nat.le_of_ble_eq_true rfl) dX5_atomStands_33 ⟨by omega, by omega⟩ (fun H locs X => ?_)
      refine lv_goto (tgt := 56) hx hb dX5_atomStands_36 (by decide) ?_
      exact w_X5_atomStands_b56 S hr hk hR X (lv_sub hl [1] rfl) hg
end MX5_atomStands
set_option maxRecDepth 100000 in
theorem k2_X5_atomStands (l : Launch) (dC : Nat → ClassId) (dI : Nat → Nat → Nat) {ak : Nat → Nat} (ad : Nat → Nat) (kc : Nat → ClassId) (sv : Value) {σ τ : S5}  {r : Int32} (hg : f_X5_atomStands  σ = some (r, τ)) (sz : Nat) : Met l yX5_atomStands (Cond.code yX5_atomStands cX5_atomStands 2 (some .boolean) :: uG) { frames := 2, cells := 0, slots := 0, locals := 41 } (gPc (dC, dI) (tC kc) (wC ad kc sv) (zC ak) [.ref (ad 5)] σ sz) (gQi (dC, dI) (tC kc) (wC ad kc sv) (va_A (wC ad kc sv σ) sz) r τ) 0 0 (va_A (wC ad kc sv σ) sz) :=
  g_start (by decide) (Nat.le_of_ble_eq_true rfl) (fun p e s m below meth c ls S hr hk X hl => w_X5_atomStands S hr hk ⟨Nat.le_refl _, Nat.le_refl _⟩ X hl hg)
section MX5_readSign
variable {p : Program} {l : Launch} {e : Env} {R : Room} {s : State} {m : MethodId} {args : Array Value} {below : List Frame} {meth : Method} {c : Code} {dC : Nat → ClassId} {dI : Nat → Nat → Nat} {ak : Nat → Nat} {A : Nat → Prop} {ad : Nat → Nat} {kc : Nat → ClassId} {sv : Value} {r : Int32} {τ : S5}
set_option maxHeartbeats 4000000 in
set_option maxRecDepth 100000 in
theorem w_X5_readSign {σ : S5}  {H : Heap} {locs : List Loc} {ls : Array Slot} (S : CallFix p m c cX5_readSign 2 s args uG RX5) (hr : meth.sig.returnType = (some .int)) (hk : meth.locks = false) (hR : 6 ≤ R.frames ∧ 134 ≤ R.locals)
    (X : gX (dC, dI) (tC kc) (wC ad kc sv) (zC ak) A s σ H locs) (hl : lv_has ls 2 [(0, .ref (ad 5))]) (hg : f_X5_readSign  σ = some (r, τ)) : W p l e R s m args below meth c H locs 0 0 (MQ below (gQi (dC, dI) (tC kc) (wC ad kc sv) A r τ) args s 0 0 A) (F0 m 0 ls []) := by
  have hx := S.1
  have hb := S.2.1
  have hown := S.2.2.2.1
  have hu := S.2.2.2.2
  unfold f_X5_readSign at hg
  refine lv_aload_n hx hb dX5_readSign_0 rfl (lv_at hl 0 rfl) ?_
  refine wcgR_5_0 S X mG_538 dX5_readSign_1 ?_
  refine wcgI_17 (v := (gI σ 17)) S X mG_518 rfl dX5_readSign_4 ?_
  refine lv_istore_n (lv' := [(1, .int (gI σ 17)), (0, .ref (ad 5))]) hx hb dX5_readSign_7 rfl hl (by decide) rfl (fun ls hl => ?_)
  refine lv_aload_n hx hb dX5_readSign_8 rfl (lv_at hl 1 rfl) ?_
  obtain ⟨r9, τ9, hq9, hg⟩ := bd_some hg
  refine gc_Vv (As := []) (rest := []) (q0 := 5) (ci := 8) S X (k2_X5_countPart l dC dI ad kc sv hq9 H.size) cw_X5_countPart mG_1132 rfl rfl rfl rfl rfl hl.1 (Nat.le_of_ble_eq_true rfl) dX5_readSign_9 ⟨by omega, by omega⟩ (fun H locs X => ?_)
  refine lv_aload_n hx hb dX5_readSign_12 rfl (lv_at hl 1 rfl) ?_
  refine wcgR_5_0 S X mG_538 dX5_readSign_13 ?_
  obtain ⟨r16, τ16, hq16, hg⟩ := bd_some hg
  refine gc_Vv (As := []) (rest := []) (q0 := 6) (ci := 13) S X (k2_X10_advance l dC dI ad kc sv hq16 H.size) cw_X10_advance mG_1054 rfl rfl rfl rfl rfl hl.1 (Nat.le_of_ble_eq_true rfl) dX5_readSign_16 ⟨by omega, by omega⟩ (fun H locs X => ?_)
  refine lv_iload_n hx hb dX5_readSign_19 rfl (lv_at hl 0 rfl) ?_
  obtain ⟨rfl, rfl⟩ := fin_some hg
  exact gr_i S hr hk X dX5_readSign_20
end MX5_readSign
set_option maxRecDepth 100000 in
theorem k2_X5_readSign (l : Launch) (dC : Nat → ClassId) (dI : Nat → Nat → Nat) {ak : Nat → Nat} (ad : Nat → Nat) (kc : Nat → ClassId) (sv : Value) {σ τ : S5}  {r : Int32} (hg : f_X5_readSign  σ = some (r, τ)) (sz : Nat) : Met l yX5_readSign (Cond.code yX5_readSign cX5_readSign 2 (some .int) :: uG) { frames := 6, cells := 0, slots := 0, locals := 134 } (gPc (dC, dI) (tC kc) (wC ad kc sv) (zC ak) [.ref (ad 5)] σ sz) (gQi (dC, dI) (tC kc) (wC ad kc sv) (va_A (wC ad kc sv σ) sz) r τ) 0 0 (va_A (wC ad kc sv σ) sz) :=
  g_start (by decide) (Nat.le_of_ble_eq_true rfl) (fun p e s m below meth c ls S hr hk X hl => w_X5_readSign S hr hk ⟨Nat.le_refl _, Nat.le_refl _⟩ X hl hg)
section MX5_join
variable {p : Program} {l : Launch} {e : Env} {R : Room} {s : State} {m : MethodId} {args : Array Value} {below : List Frame} {meth : Method} {c : Code} {dC : Nat → ClassId} {dI : Nat → Nat → Nat} {ak : Nat → Nat} {A : Nat → Prop} {ad : Nat → Nat} {kc : Nat → ClassId} {sv : Value} {r : Int32} {τ : S5}
set_option maxHeartbeats 4000000 in
set_option maxRecDepth 100000 in
theorem w_X5_join {σ : S5} {a1 : Int32} {a2 : Int32} {a3 : Int32} {H : Heap} {locs : List Loc} {ls : Array Slot} (S : CallFix p m c cX5_join 4 s args uG RX5) (hr : meth.sig.returnType = (some .int)) (hk : meth.locks = false) (hR : 1 ≤ R.frames ∧ 24 ≤ R.locals)
    (X : gX (dC, dI) (tC kc) (wC ad kc sv) (zC ak) A s σ H locs) (hl : lv_has ls 4 [(0, .ref (ad 5)), (1, .int a1), (2, .int a2), (3, .int a3)]) (hg : f_X5_join a1 a2 a3 σ = some (r, τ)) : W p l e R s m args below meth c H locs 0 0 (MQ below (gQi (dC, dI) (tC kc) (wC ad kc sv) A r τ) args s 0 0 A) (F0 m 0 ls []) := by
  have hx := S.1
  have hb := S.2.1
  have hown := S.2.2.2.1
  have hu := S.2.2.2.2
  unfold f_X5_join at hg
  refine lv_aload_n hx hb dX5_join_0 rfl (lv_at hl 0 rfl) ?_
  refine wcgR_5_1 S X mG_539 dX5_join_1 ?_
  refine wcgR_3_4 S X mG_403 dX5_join_4 ?_
  refine lv_iload_n hx hb dX5_join_7 rfl (lv_at hl 2 rfl) ?_
  refine lv_iload_n hx hb dX5_join_8 rfl (lv_at hl 3 rfl) ?_
  obtain ⟨hi9, hg⟩ := gd_some hg
  refine wcsA_17 S X hi9 dX5_join_9 (fun H locs X => ?_)
  refine lv_aload_n hx hb dX5_join_10 rfl (lv_at hl 0 rfl) ?_
  refine wcgR_5_1 S X mG_539 dX5_join_11 ?_
  refine lv_iconst (v := 5) hx hb dX5_join_14 (by decide) ?_
  refine lv_iload_n hx hb dX5_join_15 rfl (lv_at hl 1 rfl) ?_
  refine lv_iconst (v := 0) hx hb dX5_join_16 (by decide) ?_
  refine lv_iload_n hx hb dX5_join_17 rfl (lv_at hl 2 rfl) ?_
  obtain ⟨r18, τ18, hq18, hg⟩ := bd_some hg
  refine gc_Vi (As := [.int 5, .int a1, .int 0, .int a2]) (rest := []) (q0 := 3) (ci := 12) S X (k2_X9_add l dC dI ad kc sv hq18 H.size) cw_X9_add mG_1152 rfl rfl rfl rfl rfl hl.1 (Nat.le_of_ble_eq_true rfl) dX5_join_18 ⟨by omega, by omega⟩ (fun H locs X => ?_)
  obtain ⟨rfl, rfl⟩ := fin_some hg
  exact gr_i S hr hk X dX5_join_21
end MX5_join
set_option maxRecDepth 100000 in
theorem k2_X5_join (l : Launch) (dC : Nat → ClassId) (dI : Nat → Nat → Nat) {ak : Nat → Nat} (ad : Nat → Nat) (kc : Nat → ClassId) (sv : Value) {σ τ : S5} {a1 : Int32} {a2 : Int32} {a3 : Int32} {r : Int32} (hg : f_X5_join a1 a2 a3 σ = some (r, τ)) (sz : Nat) : Met l yX5_join (Cond.code yX5_join cX5_join 4 (some .int) :: uG) { frames := 1, cells := 0, slots := 0, locals := 24 } (gPc (dC, dI) (tC kc) (wC ad kc sv) (zC ak) [.ref (ad 5), .int a1, .int a2, .int a3] σ sz) (gQi (dC, dI) (tC kc) (wC ad kc sv) (va_A (wC ad kc sv σ) sz) r τ) 0 0 (va_A (wC ad kc sv σ) sz) :=
  g_start (by decide) (Nat.le_of_ble_eq_true rfl) (fun p e s m below meth c ls S hr hk X hl => w_X5_join S hr hk ⟨Nat.le_refl _, Nat.le_refl _⟩ X hl hg)
section MX5_readAtom
variable {p : Program} {l : Launch} {e : Env} {R : Room} {s : State} {m : MethodId} {args : Array Value} {below : List Frame} {meth : Method} {c : Code} {dC : Nat → ClassId} {dI : Nat → Nat → Nat} {ak : Nat → Nat} {A : Nat → Prop} {ad : Nat → Nat} {kc : Nat → ClassId} {sv : Value} {r : Int32} {τ : S5} {fE lE : Nat}
set_option maxHeartbeats 4000000 in
set_option maxRecDepth 100000 in
theorem w_X5_readAtom_b185 {σ : S5} {E : S5 → Option (Int32 × S5)} {v2 : Int32} {H : Heap} {locs : List Loc} {ls : Array Slot} (S : CallFix p m c cX5_readAtom 3 s args uG RX5) (hr : meth.sig.returnType = (some .int)) (hk : meth.locks = false) (hR : fE + 7 ≤ R.frames ∧ lE + 155 ≤ R.locals)
    (hE : ∀ (σ τ : S5) (r : Int32), E σ = some (r, τ) → ∀ sz : Nat, Met l yX5_readExpression (Cond.code yX5_readExpression cX5_readExpression 1 (some .int) :: uG) { frames := fE, cells := 0, slots := 0, locals := lE } (gPc (dC, dI) (tC kc) (wC ad kc sv) (zC ak) [.ref (ad 5)] σ sz) (gQi (dC, dI) (tC kc) (wC ad kc sv) (va_A (wC ad kc sv σ) sz) r τ) 0 0 (va_A (wC ad kc sv σ) sz))
    (X : gX (dC, dI) (tC kc) (wC ad kc sv) (zC ak) A s σ H locs) (hl : lv_has ls 3 [(0, .ref (ad 5)), (2, .int v2)]) (hg : f_X5_readAtom_b185 E v2 σ = some (r, τ)) : W p l e R s m args below meth c H locs 0 0 (MQ below (gQi (dC, dI) (tC kc) (wC ad kc sv) A r τ) args s 0 0 A) (F0 m 185 ls []) := by
  have hx := S.1
  have hb := S.2.1
  have hown := S.2.2.2.1
  have hu := S.2.2.2.2
  unfold f_X5_readAtom_b185 at hg
  refine lv_aload_n hx hb dX5_readAtom_185 rfl (lv_at hl 0 rfl) ?_
  refine wcgR_5_0 S X mG_538 dX5_readAtom_186 ?_
  obtain ⟨r189, τ189, hq189, hg⟩ := bd_some hg
  refine gc_Vv (As := []) (rest := []) (q0 := 6) (ci := 13) S X (k2_X10_advance l dC dI ad kc sv hq189 H.size) cw_X10_advance mG_1054 rfl rfl rfl rfl rfl hl.1 (Nat.le_of_ble_eq_true rfl) dX5_readAtom_189 ⟨by omega, by omega⟩ (fun H locs X => ?_)
  refine lv_iload_n hx hb dX5_readAtom_192 rfl (lv_at hl 1 rfl) ?_
  obtain ⟨rfl, rfl⟩ := fin_some hg
  exact gr_i S hr hk X dX5_readAtom_193
set_option maxHeartbeats 4000000 in
set_option maxRecDepth 100000 in
theorem w_X5_readAtom {σ : S5} {E : S5 → Option (Int32 × S5)}  {H : Heap} {locs : List Loc} {ls : Array Slot} (S : CallFix p m c cX5_readAtom 3 s args uG RX5) (hr : meth.sig.returnType = (some .int)) (hk : meth.locks = false) (hR : fE + 7 ≤ R.frames ∧ lE + 155 ≤ R.locals)
    (hE : ∀ (σ τ : S5) (r : Int32), E σ = some (r, τ) → ∀ sz : Nat, Met l yX5_readExpression (Cond.code yX5_readExpression cX5_readExpression 1 (some .int) :: uG) { frames := fE, cells := 0, slots := 0, locals := lE } (gPc (dC, dI) (tC kc) (wC ad kc sv) (zC ak) [.ref (ad 5)] σ sz) (gQi (dC, dI) (tC kc) (wC ad kc sv) (va_A (wC ad kc sv σ) sz) r τ) 0 0 (va_A (wC ad kc sv σ) sz))
    (X : gX (dC, dI) (tC kc) (wC ad kc sv) (zC ak) A s σ H locs) (hl : lv_has ls 3 [(0, .ref (ad 5))]) (hg : f_X5_readAtom E σ = some (r, τ)) : W p l e R s m args below meth c H locs 0 0 (MQ below (gQi (dC, dI) (tC kc) (wC ad kc sv) A r τ) args s 0 0 A) (F0 m 0 ls []) := by
  have hx := S.1
  have hb := S.2.1
  have hown := S.2.2.2.1
  have hu := S.2.2.2.2
  unfold f_X5_readAtom at hg
  refine lv_aload_n hx hb dX5_readAtom_0 rfl (lv_at hl 0 rfl) ?_
  refine wcgR_5_0 S X mG_538 dX5_readAtom_1 ?_
  refine wcgI_17 (v := (gI σ 17)) S X mG_518 rfl dX5_readAtom_4 ?_
  refine lv_istore_n (lv' := [(1, .int (gI σ 17)), (0, .ref (ad 5))]) hx hb dX5_readAtom_7 rfl hl (by decide) rfl (fun ls hl => ?_)
  refine lv_iload_n hx hb dX5_readAtom_8 rfl (lv_at hl 0 rfl) ?_
  refine lv_if_ne (tgt := 14) hx hb dX5_readAtom_9 (by decide) (fun c9 => ?_) (fun c9 => ?_)
  · have hg := (if_neg c9).symm.trans hg
    refine lv_iload_n hx hb dX5_readAtom_14 rfl (lv_at hl 0 rfl) ?_
    refine lv_bipush (v := 40) hx hb dX5_readAtom_15 (by decide) ?_
    refine lv_icmp_ne (tgt := 60) hx hb dX5_readAtom_17 (by decide) (fun c17 => ?_) (fun c17 => ?_)
    · have hg := (if_neg c17).symm.trans hg
      refine lv_aload_n hx hb dX5_readAtom_60 rfl (lv_at hl 1 rfl) ?_
      obtain ⟨r61, τ61, hq61, hg⟩ := bd_some hg
      refine gc_Vv (As := []) (rest := []) (q0 := 5) (ci := 8) S X (k2_X5_countPart l dC dI ad kc sv hq61 H.size) cw_X5_countPart mG_1132 rfl rfl rfl rfl rfl hl.1 (Nat.le_of_ble_eq_true rfl) dX5_readAtom_61 ⟨by omega, by omega⟩ (fun H locs X => ?_)
      refine lv_aload_n hx hb dX5_readAtom_64 rfl (lv_at hl 1 rfl) ?_
      refine wcgR_5_0 S X mG_538 dX5_readAtom_65 ?_
      refine wcgI_17 (v := (gI τ61 17)) S X mG_518 rfl dX5_readAtom_68 ?_
      refine lv_if_ne (tgt := 76) hx hb dX5_readAtom_71 (by decide) (fun c71 => ?_) (fun c71 => ?_)
      · have hg := (if_neg c71).symm.trans hg
        refine lv_iload_n hx hb dX5_readAtom_76 rfl (lv_at hl 0 rfl) ?_
        refine lv_iconst (v := 3) hx hb dX5_readAtom_77 (by decide) ?_
        refine lv_icmp_ne (tgt := 120) hx hb dX5_readAtom_78 (by decide) (fun c78 => ?_) (fun c78 => ?_)
        · have hg := (if_neg c78).symm.trans hg
          refine lv_iload_n hx hb dX5_readAtom_120 rfl (lv_at hl 0 rfl) ?_
          refine lv_iconst (v := 5) hx hb dX5_readAtom_121 (by decide) ?_
          refine lv_icmp_ne (tgt := 144) hx hb dX5_readAtom_122 (by decide) (fun c122 => ?_) (fun c122 => ?_)
          · have hg := (if_neg c122).symm.trans hg
            refine lv_iload_n hx hb dX5_readAtom_144 rfl (lv_at hl 0 rfl) ?_
            refine lv_iconst (v := 4) hx hb dX5_readAtom_145 (by decide) ?_
            refine lv_icmp_ne (tgt := 175) hx hb dX5_readAtom_146 (by decide) (fun c146 => ?_) (fun c146 => ?_)
            · have hg := (if_neg c146).symm.trans hg
              refine lv_aload_n hx hb dX5_readAtom_175 rfl (lv_at hl 1 rfl) ?_
              refine wcgR_5_1 S X mG_539 dX5_readAtom_176 ?_
              refine lv_iconst (v := 4) hx hb dX5_readAtom_179 (by decide) ?_
              refine lv_iconst (v := 0) hx hb dX5_readAtom_180 (by decide) ?_
              obtain ⟨r181, τ181, hq181, hg⟩ := bd_some hg
              refine gc_Vi (As := [.int 4, .int 0]) (rest := []) (q0 := 3) (ci := 12) S X (k2_X9_addLeaf l dC dI ad kc sv hq181 H.size) cw_X9_addLeaf mG_1144 rfl rfl rfl rfl rfl hl.1 (Nat.le_of_ble_eq_true rfl) dX5_readAtom_181 ⟨by omega, by omega⟩ (fun H locs X => ?_)
              refine lv_istore_n (lv' := [(2, .int r181), (1, .int (gI σ 17)), (0, .ref (ad 5))]) hx hb dX5_readAtom_184 rfl hl (by decide) rfl (fun ls hl => ?_)
              exact w_X5_readAtom_b185 S hr hk hR hE X (lv_sub hl [2, 0] rfl) hg
            · have hg := (if_pos c146).symm.trans hg
              refine lv_aload_n hx hb dX5_readAtom_149 rfl (lv_at hl 1 rfl) ?_
              refine wcgR_5_1 S X mG_539 dX5_readAtom_150 ?_
              refine lv_iconst (v := 1) hx hb dX5_readAtom_153 (by decide) ?_
              refine lv_aload_n hx hb dX5_readAtom_154 rfl (lv_at hl 1 rfl) ?_
              refine wcgR_5_2 S X mG_540 dX5_readAtom_155 ?_
              refine lv_aload_n hx hb dX5_readAtom_158 rfl (lv_at hl 1 rfl) ?_
              refine wcgR_5_0 S X mG_538 dX5_readAtom_159 ?_
              refine wcgJ_0 (v := (gJ τ61 0)) S X mG_524 rfl dX5_readAtom_162 ?_
              obtain ⟨r165, τ165, hq165, hg⟩ := bd_some hg
              refine gc_Vi (As := [.long (gJ τ61 0)]) (rest := [.int 1, .ref (ad 3)]) (q0 := 2) (ci := 7) S X (k2_X4_constructorOf l dC dI ad kc sv hq165 H.size) cw_X4_constructorOf mG_1067 rfl rfl rfl rfl rfl hl.1 (Nat.le_of_ble_eq_true rfl) dX5_readAtom_165 ⟨by omega, by omega⟩ (fun H locs X => ?_)
              obtain ⟨r168, τ168, hq168, hg⟩ := bd_some hg
              refine gc_Vi (As := [.int 1, .int r165]) (rest := []) (q0 := 3) (ci := 12) S X (k2_X9_addLeaf l dC dI ad kc sv hq168 H.size) cw_X9_addLeaf mG_1144 rfl rfl rfl rfl rfl hl.1 (Nat.le_of_ble_eq_true rfl) dX5_readAtom_168 ⟨by omega, by omega⟩ (fun H locs X => ?_)
              refine lv_istore_n (lv' := [(2, .int r168), (1, .int (gI σ 17)), (0, .ref (ad 5))]) hx hb dX5_readAtom_171 rfl hl (by decide) rfl (fun ls hl => ?_)
              refine lv_goto (tgt := 185) hx hb dX5_readAtom_172 (by decide) ?_
              exact w_X5_readAtom_b185 S hr hk hR hE X (lv_sub hl [2, 0] rfl) hg
          · have hg := (if_pos c122).symm.trans hg
            refine lv_aload_n hx hb dX5_readAtom_125 rfl (lv_at hl 1 rfl) ?_
            refine wcgR_5_1 S X mG_539 dX5_readAtom_126 ?_
            refine lv_iconst (v := 0) hx hb dX5_readAtom_129 (by decide) ?_
            refine lv_aload_n hx hb dX5_readAtom_130 rfl (lv_at hl 1 rfl) ?_
            refine wcgR_5_0 S X mG_538 dX5_readAtom_131 ?_
            refine wcgI_19 (v := (gI τ61 19)) S X mG_521 rfl dX5_readAtom_134 ?_
            obtain ⟨r137, τ137, hq137, hg⟩ := bd_some hg
            refine gc_Vi (As := [.int 0, .int (gI τ61 19)]) (rest := []) (q0 := 3) (ci := 12) S X (k2_X9_addLeaf l dC dI ad kc sv hq137 H.size) cw_X9_addLeaf mG_1144 rfl rfl rfl rfl rfl hl.1 (Nat.le_of_ble_eq_true rfl) dX5_readAtom_137 ⟨by omega, by omega⟩ (fun H locs X => ?_)
            refine lv_istore_n (lv' := [(2, .int r137), (1, .int (gI σ 17)), (0, .ref (ad 5))]) hx hb dX5_readAtom_140 rfl hl (by decide) rfl (fun ls hl => ?_)
            refine lv_goto (tgt := 185) hx hb dX5_readAtom_141 (by decide) ?_
            exact w_X5_readAtom_b185 S hr hk hR hE X (lv_sub hl [2, 0] rfl) hg
        · have hg := (if_pos c78).symm.trans hg
          refine lv_aload_n hx hb dX5_readAtom_81 rfl (lv_at hl 1 rfl) ?_
          refine wcgR_5_1 S X mG_539 dX5_readAtom_82 ?_
          refine lv_iconst (v := 3) hx hb dX5_readAtom_85 (by decide) ?_
          refine lv_iconst (v := 0) hx hb dX5_readAtom_86 (by decide) ?_
          obtain ⟨r87, τ87, hq87, hg⟩ := bd_some hg
          refine gc_Vi (As := [.int 3, .int 0]) (rest := []) (q0 := 3) (ci := 12) S X (k2_X9_addLeaf l dC dI ad kc sv hq87 H.size) cw_X9_addLeaf mG_1144 rfl rfl rfl rfl rfl hl.1 (Nat.le_of_ble_eq_true rfl) dX5_readAtom_87 ⟨by omega, by omega⟩ (fun H locs X => ?_)
          refine lv_istore_n (lv' := [(2, .int r87), (1, .int (gI σ 17)), (0, .ref (ad 5))]) hx hb dX5_readAtom_90 rfl hl (by decide) rfl (fun ls hl => ?_)
          refine lv_aload_n hx hb dX5_readAtom_91 rfl (lv_at hl 2 rfl) ?_
          refine wcgR_5_3 S X mG_541 dX5_readAtom_92 ?_
          refine lv_aload_n hx hb dX5_readAtom_95 rfl (lv_at hl 2 rfl) ?_
          refine wcgR_5_0 S X mG_538 dX5_readAtom_96 ?_
          refine wcgJ_0 (v := (gJ τ87 0)) S X mG_524 rfl dX5_readAtom_99 ?_
          refine lv_aload_n hx hb dX5_readAtom_102 rfl (lv_at hl 2 rfl) ?_
          refine wcgI_15 (v := (gI τ87 15)) S X mG_549 rfl dX5_readAtom_103 ?_
          refine lv_aload_n hx hb dX5_readAtom_106 rfl (lv_at hl 2 rfl) ?_
          refine wcgR_5_0 S X mG_538 dX5_readAtom_107 ?_
          refine wcgI_18 (v := (gI τ87 18)) S X mG_519 rfl dX5_readAtom_110 ?_
          refine lv_iload_n hx hb dX5_readAtom_113 rfl (lv_at hl 0 rfl) ?_
          obtain ⟨r114, τ114, hq114, hg⟩ := bd_some hg
          refine gc_Vv (As := [.long (gJ τ87 0), .int (gI τ87 15), .int (gI τ87 18), .int r87]) (rest := []) (q0 := 4) (ci := 9) S X (k2_X6_addUse l dC dI ad kc sv hq114 H.size) cw_X6_addUse mG_1196 rfl rfl rfl rfl rfl hl.1 (Nat.le_of_ble_eq_true rfl) dX5_readAtom_114 ⟨by omega, by omega⟩ (fun H locs X => ?_)
          refine lv_goto (tgt := 185) hx hb dX5_readAtom_117 (by decide) ?_
          exact w_X5_readAtom_b185 S hr hk hR hE X (lv_sub hl [2, 0] rfl) hg
      · have hg := (if_pos c71).symm.trans hg
        refine lv_iconst (v := 0) hx hb dX5_readAtom_74 (by decide) ?_
        obtain ⟨rfl, rfl⟩ := fin_some hg
        exact gr_i S hr hk X dX5_readAtom_75
    · have hg := (if_pos c17).symm.trans hg
      refine lv_aload_n hx hb dX5_readAtom_20 rfl (lv_at hl 1 rfl) ?_
      refine lv_dup hx hb dX5_readAtom_21 rfl ?_
      refine wcgI_14 (v := (gI σ 14)) S X mG_548 rfl dX5_readAtom_22 ?_
      refine lv_iconst (v := 1) hx hb dX5_readAtom_25 (by decide) ?_
      refine lv_iadd hx hb dX5_readAtom_26 ?_
      refine wcpI_14 S X mG_548 dX5_readAtom_27 (fun H locs X => ?_)
      refine lv_aload_n hx hb dX5_readAtom_30 rfl (lv_at hl 1 rfl) ?_
      refine wcgR_5_0 S X mG_538 dX5_readAtom_31 ?_
      obtain ⟨r34, τ34, hq34, hg⟩ := bd_some hg
      refine gc_Vv (As := []) (rest := []) (q0 := 6) (ci := 13) S X (k2_X10_advance l dC dI ad kc sv hq34 H.size) cw_X10_advance mG_1054 rfl rfl rfl rfl rfl hl.1 (Nat.le_of_ble_eq_true rfl) dX5_readAtom_34 ⟨by omega, by omega⟩ (fun H locs X => ?_)
      refine lv_aload_n hx hb dX5_readAtom_37 rfl (lv_at hl 1 rfl) ?_
      obtain ⟨r38, τ38, hq38, hg⟩ := bd_some hg
      refine gc_Vi (As := []) (rest := []) (q0 := 5) (ci := 8) S X (hE _ _ _ hq38 H.size) cw_X5_readExpression mG_1120 rfl rfl rfl rfl rfl hl.1 (Nat.le_of_ble_eq_true rfl) dX5_readAtom_38 ⟨by omega, by omega⟩ (fun H locs X => ?_)
      refine lv_istore_n (lv' := [(2, .int r38), (1, .int (gI σ 17)), (0, .ref (ad 5))]) hx hb dX5_readAtom_41 rfl hl (by decide) rfl (fun ls hl => ?_)
      refine lv_aload_n hx hb dX5_readAtom_42 rfl (lv_at hl 2 rfl) ?_
      refine lv_bipush (v := 41) hx hb dX5_readAtom_43 (by decide) ?_
      obtain ⟨r45, τ45, hq45, hg⟩ := bd_some hg
      refine gc_Vv (As := [.int 41]) (rest := []) (q0 := 5) (ci := 8) S X (k2_X5_expect l dC dI ad kc sv hq45 H.size) cw_X5_expect mG_1072 rfl rfl rfl rfl rfl hl.1 (Nat.le_of_ble_eq_true rfl) dX5_readAtom_45 ⟨by omega, by omega⟩ (fun H locs X => ?_)
      refine lv_aload_n hx hb dX5_readAtom_48 rfl (lv_at hl 2 rfl) ?_
      refine lv_dup hx hb dX5_readAtom_49 rfl ?_
      refine wcgI_14 (v := (gI τ45 14)) S X mG_548 rfl dX5_readAtom_50 ?_
      refine lv_iconst (v := 1) hx hb dX5_readAtom_53 (by decide) ?_
      refine lv_isub hx hb dX5_readAtom_54 ?_
      refine wcpI_14 S X mG_548 dX5_readAtom_55 (fun H locs X => ?_)
      refine lv_iload_n hx hb dX5_readAtom_58 rfl (lv_at hl 0 rfl) ?_
      obtain ⟨rfl, rfl⟩ := fin_some hg
      exact gr_i S hr hk X dX5_readAtom_59
  · have hg := (if_pos c9).symm.trans hg
    refine lv_iconst (v := 0) hx hb dX5_readAtom_12 (by decide) ?_
    obtain ⟨rfl, rfl⟩ := fin_some hg
    exact gr_i S hr hk X dX5_readAtom_13
end MX5_readAtom
set_option maxRecDepth 100000 in
theorem k2_X5_readAtom (l : Launch) (dC : Nat → ClassId) (dI : Nat → Nat → Nat) {ak : Nat → Nat} (ad : Nat → Nat) (kc : Nat → ClassId) (sv : Value) {E : S5 → Option (Int32 × S5)} {fE lE : Nat} {σ τ : S5}  {r : Int32} (hE : ∀ (σ τ : S5) (r : Int32), E σ = some (r, τ) → ∀ sz : Nat, Met l yX5_readExpression (Cond.code yX5_readExpression cX5_readExpression 1 (some .int) :: uG) { frames := fE, cells := 0, slots := 0, locals := lE } (gPc (dC, dI) (tC kc) (wC ad kc sv) (zC ak) [.ref (ad 5)] σ sz) (gQi (dC, dI) (tC kc) (wC ad kc sv) (va_A (wC ad kc sv σ) sz) r τ) 0 0 (va_A (wC ad kc sv σ) sz)) (hg : f_X5_readAtom E  σ = some (r, τ)) (sz : Nat) : Met l yX5_readAtom (Cond.code yX5_readAtom cX5_readAtom 3 (some .int) :: uG) { frames := fE + 7, cells := 0, slots := 0, locals := lE + 155 } (gPc (dC, dI) (tC kc) (wC ad kc sv) (zC ak) [.ref (ad 5)] σ sz) (gQi (dC, dI) (tC kc) (wC ad kc sv) (va_A (wC ad kc sv σ) sz) r τ) 0 0 (va_A (wC ad kc sv σ) sz) :=
  g_start (by decide) (Nat.le_of_ble_eq_true rfl) (fun p e s m below meth c ls S hr hk X hl => w_X5_readAtom S hr hk ⟨Nat.le_refl _, Nat.le_refl _⟩ hE X hl hg)
section MX5_readBuild
variable {p : Program} {l : Launch} {e : Env} {R : Room} {s : State} {m : MethodId} {args : Array Value} {below : List Frame} {meth : Method} {c : Code} {dC : Nat → ClassId} {dI : Nat → Nat → Nat} {ak : Nat → Nat} {A : Nat → Prop} {ad : Nat → Nat} {kc : Nat → ClassId} {sv : Value} {r : Int32} {τ : S5} {fE lE : Nat}
set_option maxHeartbeats 4000000 in
set_option maxRecDepth 100000 in
theorem w_X5_readBuild_b81 {σ : S5} {E : S5 → Option (Int32 × S5)} {v1 : Int32} {v2 : Int32} {H : Heap} {locs : List Loc} {ls : Array Slot} (S : CallFix p m c cX5_readBuild 6 s args uG RX5) (hr : meth.sig.returnType = (some .int)) (hk : meth.locks = false) (hR : fE + 8 ≤ R.frames ∧ lE + 177 ≤ R.locals)
    (hE : ∀ (σ τ : S5) (r : Int32), E σ = some (r, τ) → ∀ sz : Nat, Met l yX5_readExpression (Cond.code yX5_readExpression cX5_readExpression 1 (some .int) :: uG) { frames := fE, cells := 0, slots := 0, locals := lE } (gPc (dC, dI) (tC kc) (wC ad kc sv) (zC ak) [.ref (ad 5)] σ sz) (gQi (dC, dI) (tC kc) (wC ad kc sv) (va_A (wC ad kc sv σ) sz) r τ) 0 0 (va_A (wC ad kc sv σ) sz))
    (X : gX (dC, dI) (tC kc) (wC ad kc sv) (zC ak) A s σ H locs) (hl : lv_has ls 6 [(0, .ref (ad 5)), (1, .int v1), (2, .int v2)]) (hg : f_X5_readBuild_b81 E v1 v2 σ = some (r, τ)) : W p l e R s m args below meth c H locs 0 0 (MQ below (gQi (dC, dI) (tC kc) (wC ad kc sv) A r τ) args s 0 0 A) (F0 m 81 ls []) := by
  have hx := S.1
  have hb := S.2.1
  have hown := S.2.2.2.1
  have hu := S.2.2.2.2
  unfold f_X5_readBuild_b81 at hg
  refine lv_aload_n hx hb dX5_readBuild_81 rfl (lv_at hl 0 rfl) ?_
  refine wcgR_5_1 S X mG_539 dX5_readBuild_82 ?_
  refine lv_bipush (v := 9) hx hb dX5_readBuild_85 (by decide) ?_
  refine lv_iload_n hx hb dX5_readBuild_87 rfl (lv_at hl 1 rfl) ?_
  refine lv_iconst (v := 0) hx hb dX5_readBuild_88 (by decide) ?_
  refine lv_iload_n hx hb dX5_readBuild_89 rfl (lv_at hl 2 rfl) ?_
  obtain ⟨r90, τ90, hq90, hg⟩ := bd_some hg
  refine gc_Vi (As := [.int 9, .int v1, .int 0, .int v2]) (rest := []) (q0 := 3) (ci := 12) S X (k2_X9_add l dC dI ad kc sv hq90 H.size) cw_X9_add mG_1152 rfl rfl rfl rfl rfl hl.1 (Nat.le_of_ble_eq_true rfl) dX5_readBuild_90 ⟨by omega, by omega⟩ (fun H locs X => ?_)
  obtain ⟨rfl, rfl⟩ := fin_some hg
  exact gr_i S hr hk X dX5_readBuild_93
set_option maxHeartbeats 4000000 in
set_option maxRecDepth 100000 in
theorem w_X5_readBuild_b72 {σ : S5} {E : S5 → Option (Int32 × S5)} {rec14 : Int32 → Int32 → Int32 → Int32 → S5 → Option (Int32 × S5)} {v1 : Int32} {v2 : Int32} {v4 : Int32} {v5 : Int32} {H : Heap} {locs : List Loc} {ls : Array Slot} (S : CallFix p m c cX5_readBuild 6 s args uG RX5) (hr : meth.sig.returnType = (some .int)) (hk : meth.locks = false) (hR : fE + 8 ≤ R.frames ∧ lE + 177 ≤ R.locals)
    (hE : ∀ (σ τ : S5) (r : Int32), E σ = some (r, τ) → ∀ sz : Nat, Met l yX5_readExpression (Cond.code yX5_readExpression cX5_readExpression 1 (some .int) :: uG) { frames := fE, cells := 0, slots := 0, locals := lE } (gPc (dC, dI) (tC kc) (wC ad kc sv) (zC ak) [.ref (ad 5)] σ sz) (gQi (dC, dI) (tC kc) (wC ad kc sv) (va_A (wC ad kc sv σ) sz) r τ) 0 0 (va_A (wC ad kc sv σ) sz))
    (hrec14 : ∀ (v1 : Int32) (v2 : Int32) (v3 : Int32) (v4 : Int32) (σ : S5) (H : Heap) (locs : List Loc) (ls : Array Slot), gX (dC, dI) (tC kc) (wC ad kc sv) (zC ak) A s σ H locs → lv_has ls 6 [(0, .ref (ad 5)), (1, .int v1), (2, .int v2), (3, .int v3), (4, .int v4)] → rec14 v1 v2 v3 v4 σ = some (r, τ) → W p l e R s m args below meth c H locs 0 0 (MQ below (gQi (dC, dI) (tC kc) (wC ad kc sv) A r τ) args s 0 0 A) (F0 m 14 ls []))
    (X : gX (dC, dI) (tC kc) (wC ad kc sv) (zC ak) A s σ H locs) (hl : lv_has ls 6 [(0, .ref (ad 5)), (1, .int v1), (2, .int v2), (4, .int v4), (5, .int v5)]) (hg : f_X5_readBuild_b72 E rec14 v1 v2 v4 v5 σ = some (r, τ)) : W p l e R s m args below meth c H locs 0 0 (MQ below (gQi (dC, dI) (tC kc) (wC ad kc sv) A r τ) args s 0 0 A) (F0 m 72 ls []) := by
  have hx := S.1
  have hb := S.2.1
  have hown := S.2.2.2.1
  have hu := S.2.2.2.2
  unfold f_X5_readBuild_b72 at hg
  refine lv_iload hx hb dX5_readBuild_72 (lv_at hl 4 rfl) ?_
  refine lv_istore_n (lv' := [(3, .int v5), (0, .ref (ad 5)), (1, .int v1), (2, .int v2), (4, .int v4), (5, .int v5)]) hx hb dX5_readBuild_74 rfl hl (by decide) rfl (fun ls hl => ?_)
  refine lv_iinc (v := (v4 + 1)) (lv' := [(4, .int (v4 + 1)), (3, .int v5), (0, .ref (ad 5)), (1, .int v1), (2, .int v2), (5, .int v5)]) hx hb dX5_readBuild_75 hl (k := 4) rfl (by rfl) (by decide) rfl (fun ls hl => ?_)
  refine lv_goto (tgt := 14) hx hb dX5_readBuild_78 (by decide) ?_
  exact hrec14 _ _ _ _ _ _ _ _ X (lv_sub hl [2, 3, 4, 1, 0] rfl) hg
set_option maxHeartbeats 4000000 in
set_option maxRecDepth 100000 in
theorem w_X5_readBuild_b44 {σ : S5} {E : S5 → Option (Int32 × S5)} {rec14 : Int32 → Int32 → Int32 → Int32 → S5 → Option (Int32 × S5)} {v1 : Int32} {v2 : Int32} {v3 : Int32} {v4 : Int32} {H : Heap} {locs : List Loc} {ls : Array Slot} (S : CallFix p m c cX5_readBuild 6 s args uG RX5) (hr : meth.sig.returnType = (some .int)) (hk : meth.locks = false) (hR : fE + 8 ≤ R.frames ∧ lE + 177 ≤ R.locals)
    (hE : ∀ (σ τ : S5) (r : Int32), E σ = some (r, τ) → ∀ sz : Nat, Met l yX5_readExpression (Cond.code yX5_readExpression cX5_readExpression 1 (some .int) :: uG) { frames := fE, cells := 0, slots := 0, locals := lE } (gPc (dC, dI) (tC kc) (wC ad kc sv) (zC ak) [.ref (ad 5)] σ sz) (gQi (dC, dI) (tC kc) (wC ad kc sv) (va_A (wC ad kc sv σ) sz) r τ) 0 0 (va_A (wC ad kc sv σ) sz))
    (hrec14 : ∀ (v1 : Int32) (v2 : Int32) (v3 : Int32) (v4 : Int32) (σ : S5) (H : Heap) (locs : List Loc) (ls : Array Slot), gX (dC, dI) (tC kc) (wC ad kc sv) (zC ak) A s σ H locs → lv_has ls 6 [(0, .ref (ad 5)), (1, .int v1), (2, .int v2), (3, .int v3), (4, .int v4)] → rec14 v1 v2 v3 v4 σ = some (r, τ) → W p l e R s m args below meth c H locs 0 0 (MQ below (gQi (dC, dI) (tC kc) (wC ad kc sv) A r τ) args s 0 0 A) (F0 m 14 ls []))
    (X : gX (dC, dI) (tC kc) (wC ad kc sv) (zC ak) A s σ H locs) (hl : lv_has ls 6 [(0, .ref (ad 5)), (1, .int v1), (2, .int v2), (3, .int v3), (4, .int v4)]) (hg : f_X5_readBuild_b44 E rec14 v1 v2 v3 v4 σ = some (r, τ)) : W p l e R s m args below meth c H locs 0 0 (MQ below (gQi (dC, dI) (tC kc) (wC ad kc sv) A r τ) args s 0 0 A) (F0 m 44 ls []) := by
  have hx := S.1
  have hb := S.2.1
  have hown := S.2.2.2.1
  have hu := S.2.2.2.2
  unfold f_X5_readBuild_b44 at hg
  refine lv_aload_n hx hb dX5_readBuild_44 rfl (lv_at hl 0 rfl) ?_
  obtain ⟨r45, τ45, hq45, hg⟩ := bd_some hg
  refine gc_Vi (As := []) (rest := []) (q0 := 5) (ci := 8) S X (k2_X5_readAtom l dC dI ad kc sv hE hq45 H.size) cw_X5_readAtom mG_1192 rfl rfl rfl rfl rfl hl.1 (Nat.le_of_ble_eq_true rfl) dX5_readBuild_45 ⟨by omega, by omega⟩ (fun H locs X => ?_)
  refine lv_istore (lv' := [(5, .int r45), (0, .ref (ad 5)), (1, .int v1), (2, .int v2), (3, .int v3), (4, .int v4)]) hx hb dX5_readBuild_48 hl (by decide) rfl (fun ls hl => ?_)
  refine lv_iload_n hx hb dX5_readBuild_50 rfl (lv_at hl 4 rfl) ?_
  refine lv_iconst (v := (-1)) hx hb dX5_readBuild_51 (by decide) ?_
  refine lv_icmp_ne (tgt := 61) hx hb dX5_readBuild_52 (by decide) (fun c52 => ?_) (fun c52 => ?_)
  · have hg := (if_neg c52).symm.trans hg
    refine lv_aload_n hx hb dX5_readBuild_61 rfl (lv_at hl 1 rfl) ?_
    refine wcgR_5_1 S X mG_539 dX5_readBuild_62 ?_
    refine wcgR_3_4 S X mG_403 dX5_readBuild_65 ?_
    refine lv_iload_n hx hb dX5_readBuild_68 rfl (lv_at hl 4 rfl) ?_
    refine lv_iload hx hb dX5_readBuild_69 (lv_at hl 0 rfl) ?_
    obtain ⟨hi71, hg⟩ := gd_some hg
    refine wcsA_17 S X hi71 dX5_readBuild_71 (fun H locs X => ?_)
    exact w_X5_readBuild_b72 S hr hk hR hE hrec14 X (lv_sub hl [1, 2, 3, 5, 0] rfl) hg
  · have hg := (if_pos c52).symm.trans hg
    refine lv_iload hx hb dX5_readBuild_55 (lv_at hl 0 rfl) ?_
    refine lv_istore_n (lv' := [(2, .int r45), (5, .int r45), (0, .ref (ad 5)), (1, .int v1), (3, .int v3), (4, .int v4)]) hx hb dX5_readBuild_57 rfl hl (by decide) rfl (fun ls hl => ?_)
    refine lv_goto (tgt := 72) hx hb dX5_readBuild_58 (by decide) ?_
    exact w_X5_readBuild_b72 S hr hk hR hE hrec14 X (lv_sub hl [2, 3, 0, 5, 1] rfl) hg
set_option maxHeartbeats 4000000 in
set_option maxRecDepth 100000 in
theorem w_X5_readBuild_B14 {σ : S5} {E : S5 → Option (Int32 × S5)} {rec14 : Int32 → Int32 → Int32 → Int32 → S5 → Option (Int32 × S5)} {v1 : Int32} {v2 : Int32} {v3 : Int32} {v4 : Int32} {H : Heap} {locs : List Loc} {ls : Array Slot} (S : CallFix p m c cX5_readBuild 6 s args uG RX5) (hr : meth.sig.returnType = (some .int)) (hk : meth.locks = false) (hR : fE + 8 ≤ R.frames ∧ lE + 177 ≤ R.locals)
    (hE : ∀ (σ τ : S5) (r : Int32), E σ = some (r, τ) → ∀ sz : Nat, Met l yX5_readExpression (Cond.code yX5_readExpression cX5_readExpression 1 (some .int) :: uG) { frames := fE, cells := 0, slots := 0, locals := lE } (gPc (dC, dI) (tC kc) (wC ad kc sv) (zC ak) [.ref (ad 5)] σ sz) (gQi (dC, dI) (tC kc) (wC ad kc sv) (va_A (wC ad kc sv σ) sz) r τ) 0 0 (va_A (wC ad kc sv σ) sz))
    (hrec14 : ∀ (v1 : Int32) (v2 : Int32) (v3 : Int32) (v4 : Int32) (σ : S5) (H : Heap) (locs : List Loc) (ls : Array Slot), gX (dC, dI) (tC kc) (wC ad kc sv) (zC ak) A s σ H locs → lv_has ls 6 [(0, .ref (ad 5)), (1, .int v1), (2, .int v2), (3, .int v3), (4, .int v4)] → rec14 v1 v2 v3 v4 σ = some (r, τ) → W p l e R s m args below meth c H locs 0 0 (MQ below (gQi (dC, dI) (tC kc) (wC ad kc sv) A r τ) args s 0 0 A) (F0 m 14 ls []))
    (X : gX (dC, dI) (tC kc) (wC ad kc sv) (zC ak) A s σ H locs) (hl : lv_has ls 6 [(0, .ref (ad 5)), (1, .int v1), (2, .int v2), (3, .int v3), (4, .int v4)]) (hg : f_X5_readBuild_B14 E rec14 v1 v2 v3 v4 σ = some (r, τ)) : W p l e R s m args below meth c H locs 0 0 (MQ below (gQi (dC, dI) (tC kc) (wC ad kc sv) A r τ) args s 0 0 A) (F0 m 14 ls []) := by
  have hx := S.1
  have hb := S.2.1
  have hown := S.2.2.2.1
  have hu := S.2.2.2.2
  unfold f_X5_readBuild_B14 at hg
  refine lv_iload hx hb dX5_readBuild_14 (lv_at hl 4 rfl) ?_
  refine lv_aload_n hx hb dX5_readBuild_16 rfl (lv_at hl 0 rfl) ?_
  refine wcgR_5_2 S X mG_540 dX5_readBuild_17 ?_
  refine wcgR_2_1 S X mG_289 dX5_readBuild_20 ?_
  refine lv_iload_n hx hb dX5_readBuild_23 rfl (lv_at hl 1 rfl) ?_
  obtain ⟨hi24, hg⟩ := gd_some hg
  refine wclA_2 (v := (xA σ 2 v1)) S X hi24 rfl dX5_readBuild_24 ?_
  refine lv_icmp_ge (tgt := 81) hx hb dX5_readBuild_25 (by decide) (fun c25 => ?_) (fun c25 => ?_)
  · have hg := (if_pos c25).symm.trans hg
    exact w_X5_readBuild_b81 S hr hk hR hE X (lv_sub hl [0, 1, 2] rfl) hg
  · have hg := (if_neg c25).symm.trans hg
    refine lv_aload_n hx hb dX5_readBuild_28 rfl (lv_at hl 0 rfl) ?_
    obtain ⟨r29, τ29, hq29, hg⟩ := bd_some hg
    refine gc_Vi (As := []) (rest := []) (q0 := 5) (ci := 8) S X (k2_X5_atomStands l dC dI ad kc sv hq29 H.size) cw_X5_atomStands mG_1185 rfl rfl rfl rfl rfl hl.1 (Nat.le_of_ble_eq_true rfl) dX5_readBuild_29 ⟨by omega, by omega⟩ (fun H locs X => ?_)
    refine lv_if_eq (tgt := 81) hx hb dX5_readBuild_32 (by decide) (fun c32 => ?_) (fun c32 => ?_)
    · have hg := (if_pos c32).symm.trans hg
      exact w_X5_readBuild_b81 S hr hk hR hE X (lv_sub hl [0, 1, 2] rfl) hg
    · have hg := (if_neg c32).symm.trans hg
      refine lv_iload hx hb dX5_readBuild_35 (lv_at hl 4 rfl) ?_
      refine lv_if_ne (tgt := 44) hx hb dX5_readBuild_37 (by decide) (fun c37 => ?_) (fun c37 => ?_)
      · have hg := (if_neg c37).symm.trans hg
        exact w_X5_readBuild_b44 S hr hk hR hE hrec14 X (lv_sub hl [0, 1, 2, 3, 4] rfl) hg
      · have hg := (if_pos c37).symm.trans hg
        refine lv_aload_n hx hb dX5_readBuild_40 rfl (lv_at hl 0 rfl) ?_
        obtain ⟨r41, τ41, hq41, hg⟩ := bd_some hg
        refine gc_Vv (As := []) (rest := []) (q0 := 5) (ci := 8) S X (k2_X5_countPart l dC dI ad kc sv hq41 H.size) cw_X5_countPart mG_1132 rfl rfl rfl rfl rfl hl.1 (Nat.le_of_ble_eq_true rfl) dX5_readBuild_41 ⟨by omega, by omega⟩ (fun H locs X => ?_)
        exact w_X5_readBuild_b44 S hr hk hR hE hrec14 X (lv_sub hl [0, 1, 2, 3, 4] rfl) hg
set_option maxHeartbeats 4000000 in
set_option maxRecDepth 100000 in
theorem w_X5_readBuild_L14 {E : S5 → Option (Int32 × S5)} (S : CallFix p m c cX5_readBuild 6 s args uG RX5) (hr : meth.sig.returnType = (some .int)) (hk : meth.locks = false) (hR : fE + 8 ≤ R.frames ∧ lE + 177 ≤ R.locals)
    (hE : ∀ (σ τ : S5) (r : Int32), E σ = some (r, τ) → ∀ sz : Nat, Met l yX5_readExpression (Cond.code yX5_readExpression cX5_readExpression 1 (some .int) :: uG) { frames := fE, cells := 0, slots := 0, locals := lE } (gPc (dC, dI) (tC kc) (wC ad kc sv) (zC ak) [.ref (ad 5)] σ sz) (gQi (dC, dI) (tC kc) (wC ad kc sv) (va_A (wC ad kc sv σ) sz) r τ) 0 0 (va_A (wC ad kc sv σ) sz)) : ∀ (n : Nat) (v1 : Int32) (v2 : Int32) (v3 : Int32) (v4 : Int32) (σ : S5) (H : Heap) (locs : List Loc) (ls : Array Slot), gX (dC, dI) (tC kc) (wC ad kc sv) (zC ak) A s σ H locs → lv_has ls 6 [(0, .ref (ad 5)), (1, .int v1), (2, .int v2), (3, .int v3), (4, .int v4)] → f_X5_readBuild_L14 E n v1 v2 v3 v4 σ = some (r, τ) → W p l e R s m args below meth c H locs 0 0 (MQ below (gQi (dC, dI) (tC kc) (wC ad kc sv) A r τ) args s 0 0 A) (F0 m 14 ls []) := by
  intro n
  induction n with
  | zero => intro v1 v2 v3 v4 σ H locs ls X hl hg; cases hg
  | succ n ih => intro v1 v2 v3 v4 σ H locs ls X hl hg; exact w_X5_readBuild_B14 S hr hk hR hE ih X hl hg
set_option maxHeartbeats 4000000 in
set_option maxRecDepth 100000 in
theorem w_X5_readBuild {σ : S5} {E : S5 → Option (Int32 × S5)} {a1 : Int32} {H : Heap} {locs : List Loc} {ls : Array Slot} (S : CallFix p m c cX5_readBuild 6 s args uG RX5) (hr : meth.sig.returnType = (some .int)) (hk : meth.locks = false) (hR : fE + 8 ≤ R.frames ∧ lE + 177 ≤ R.locals)
    (hE : ∀ (σ τ : S5) (r : Int32), E σ = some (r, τ) → ∀ sz : Nat, Met l yX5_readExpression (Cond.code yX5_readExpression cX5_readExpression 1 (some .int) :: uG) { frames := fE, cells := 0, slots := 0, locals := lE } (gPc (dC, dI) (tC kc) (wC ad kc sv) (zC ak) [.ref (ad 5)] σ sz) (gQi (dC, dI) (tC kc) (wC ad kc sv) (va_A (wC ad kc sv σ) sz) r τ) 0 0 (va_A (wC ad kc sv σ) sz))
    (X : gX (dC, dI) (tC kc) (wC ad kc sv) (zC ak) A s σ H locs) (hl : lv_has ls 6 [(0, .ref (ad 5)), (1, .int a1)]) (hg : f_X5_readBuild E a1 σ = some (r, τ)) : W p l e R s m args below meth c H locs 0 0 (MQ below (gQi (dC, dI) (tC kc) (wC ad kc sv) A r τ) args s 0 0 A) (F0 m 0 ls []) := by
  have hx := S.1
  have hb := S.2.1
  have hown := S.2.2.2.1
  have hu := S.2.2.2.2
  unfold f_X5_readBuild at hg
  refine lv_aload_n hx hb dX5_readBuild_0 rfl (lv_at hl 0 rfl) ?_
  refine wcgR_5_0 S X mG_538 dX5_readBuild_1 ?_
  obtain ⟨r4, τ4, hq4, hg⟩ := bd_some hg
  refine gc_Vv (As := []) (rest := []) (q0 := 6) (ci := 13) S X (k2_X10_advance l dC dI ad kc sv hq4 H.size) cw_X10_advance mG_1054 rfl rfl rfl rfl rfl hl.1 (Nat.le_of_ble_eq_true rfl) dX5_readBuild_4 ⟨by omega, by omega⟩ (fun H locs X => ?_)
  refine lv_iconst (v := (-1)) hx hb dX5_readBuild_7 (by decide) ?_
  refine lv_istore_n (lv' := [(2, .int (-1)), (0, .ref (ad 5)), (1, .int a1)]) hx hb dX5_readBuild_8 rfl hl (by decide) rfl (fun ls hl => ?_)
  refine lv_iconst (v := (-1)) hx hb dX5_readBuild_9 (by decide) ?_
  refine lv_istore_n (lv' := [(3, .int (-1)), (2, .int (-1)), (0, .ref (ad 5)), (1, .int a1)]) hx hb dX5_readBuild_10 rfl hl (by decide) rfl (fun ls hl => ?_)
  refine lv_iconst (v := 0) hx hb dX5_readBuild_11 (by decide) ?_
  refine lv_istore (lv' := [(4, .int 0), (3, .int (-1)), (2, .int (-1)), (0, .ref (ad 5)), (1, .int a1)]) hx hb dX5_readBuild_12 hl (by decide) rfl (fun ls hl => ?_)
  exact w_X5_readBuild_L14 S hr hk hR hE _ _ _ _ _ _ _ _ _ X (lv_sub hl [3, 4, 2, 1, 0] rfl) hg
end MX5_readBuild
set_option maxRecDepth 100000 in
theorem k2_X5_readBuild (l : Launch) (dC : Nat → ClassId) (dI : Nat → Nat → Nat) {ak : Nat → Nat} (ad : Nat → Nat) (kc : Nat → ClassId) (sv : Value) {E : S5 → Option (Int32 × S5)} {fE lE : Nat} {σ τ : S5} {a1 : Int32} {r : Int32} (hE : ∀ (σ τ : S5) (r : Int32), E σ = some (r, τ) → ∀ sz : Nat, Met l yX5_readExpression (Cond.code yX5_readExpression cX5_readExpression 1 (some .int) :: uG) { frames := fE, cells := 0, slots := 0, locals := lE } (gPc (dC, dI) (tC kc) (wC ad kc sv) (zC ak) [.ref (ad 5)] σ sz) (gQi (dC, dI) (tC kc) (wC ad kc sv) (va_A (wC ad kc sv σ) sz) r τ) 0 0 (va_A (wC ad kc sv σ) sz)) (hg : f_X5_readBuild E a1 σ = some (r, τ)) (sz : Nat) : Met l yX5_readBuild (Cond.code yX5_readBuild cX5_readBuild 6 (some .int) :: uG) { frames := fE + 8, cells := 0, slots := 0, locals := lE + 177 } (gPc (dC, dI) (tC kc) (wC ad kc sv) (zC ak) [.ref (ad 5), .int a1] σ sz) (gQi (dC, dI) (tC kc) (wC ad kc sv) (va_A (wC ad kc sv σ) sz) r τ) 0 0 (va_A (wC ad kc sv σ) sz) :=
  g_start (by decide) (Nat.le_of_ble_eq_true rfl) (fun p e s m below meth c ls S hr hk X hl => w_X5_readBuild S hr hk ⟨Nat.le_refl _, Nat.le_refl _⟩ hE X hl hg)
section MX5_readApplication
variable {p : Program} {l : Launch} {e : Env} {R : Room} {s : State} {m : MethodId} {args : Array Value} {below : List Frame} {meth : Method} {c : Code} {dC : Nat → ClassId} {dI : Nat → Nat → Nat} {ak : Nat → Nat} {A : Nat → Prop} {ad : Nat → Nat} {kc : Nat → ClassId} {sv : Value} {r : Int32} {τ : S5} {fE lE : Nat}
set_option maxHeartbeats 4000000 in
set_option maxRecDepth 100000 in
theorem w_X5_readApplication_b139 {σ : S5} {E : S5 → Option (Int32 × S5)} {v1 : Int32} {v3 : Int32} {H : Heap} {locs : List Loc} {ls : Array Slot} (S : CallFix p m c cX5_readApplication 5 s args uG RX5) (hr : meth.sig.returnType = (some .int)) (hk : meth.locks = false) (hR : fE + 9 ≤ R.frames ∧ lE + 202 ≤ R.locals)
    (hE : ∀ (σ τ : S5) (r : Int32), E σ = some (r, τ) → ∀ sz : Nat, Met l yX5_readExpression (Cond.code yX5_readExpression cX5_readExpression 1 (some .int) :: uG) { frames := fE, cells := 0, slots := 0, locals := lE } (gPc (dC, dI) (tC kc) (wC ad kc sv) (zC ak) [.ref (ad 5)] σ sz) (gQi (dC, dI) (tC kc) (wC ad kc sv) (va_A (wC ad kc sv σ) sz) r τ) 0 0 (va_A (wC ad kc sv σ) sz))
    (X : gX (dC, dI) (tC kc) (wC ad kc sv) (zC ak) A s σ H locs) (hl : lv_has ls 5 [(0, .ref (ad 5)), (1, .int v1), (3, .int v3)]) (hg : f_X5_readApplication_b139 E v1 v3 σ = some (r, τ)) : W p l e R s m args below meth c H locs 0 0 (MQ below (gQi (dC, dI) (tC kc) (wC ad kc sv) A r τ) args s 0 0 A) (F0 m 139 ls []) := by
  have hx := S.1
  have hb := S.2.1
  have hown := S.2.2.2.1
  have hu := S.2.2.2.2
  unfold f_X5_readApplication_b139 at hg
  refine lv_iload_n hx hb dX5_readApplication_139 rfl (lv_at hl 2 rfl) ?_
  refine lv_if_ne (tgt := 147) hx hb dX5_readApplication_140 (by decide) (fun c140 => ?_) (fun c140 => ?_)
  · have hg := (if_neg c140).symm.trans hg
    refine lv_aload_n hx hb dX5_readApplication_147 rfl (lv_at hl 0 rfl) ?_
    refine wcgR_5_1 S X mG_539 dX5_readApplication_148 ?_
    refine lv_bipush (v := 8) hx hb dX5_readApplication_151 (by decide) ?_
    refine lv_iconst (v := 0) hx hb dX5_readApplication_153 (by decide) ?_
    refine lv_iload_n hx hb dX5_readApplication_154 rfl (lv_at hl 2 rfl) ?_
    refine lv_iload_n hx hb dX5_readApplication_155 rfl (lv_at hl 1 rfl) ?_
    obtain ⟨r156, τ156, hq156, hg⟩ := bd_some hg
    refine gc_Vi (As := [.int 8, .int 0, .int v3, .int v1]) (rest := []) (q0 := 3) (ci := 12) S X (k2_X9_add l dC dI ad kc sv hq156 H.size) cw_X9_add mG_1152 rfl rfl rfl rfl rfl hl.1 (Nat.le_of_ble_eq_true rfl) dX5_readApplication_156 ⟨by omega, by omega⟩ (fun H locs X => ?_)
    obtain ⟨rfl, rfl⟩ := fin_some hg
    exact gr_i S hr hk X dX5_readApplication_159
  · have hg := (if_pos c140).symm.trans hg
    refine lv_iload_n hx hb dX5_readApplication_143 rfl (lv_at hl 1 rfl) ?_
    refine lv_goto (tgt := 159) hx hb dX5_readApplication_144 (by decide) ?_
    obtain ⟨rfl, rfl⟩ := fin_some hg
    exact gr_i S hr hk X dX5_readApplication_159
set_option maxHeartbeats 4000000 in
set_option maxRecDepth 100000 in
theorem w_X5_readApplication_b113 {σ : S5} {E : S5 → Option (Int32 × S5)} {rec67 : Int32 → Int32 → Int32 → S5 → Option (Int32 × S5)} {v1 : Int32} {v2 : Int32} {v3 : Int32} {H : Heap} {locs : List Loc} {ls : Array Slot} (S : CallFix p m c cX5_readApplication 5 s args uG RX5) (hr : meth.sig.returnType = (some .int)) (hk : meth.locks = false) (hR : fE + 9 ≤ R.frames ∧ lE + 202 ≤ R.locals)
    (hE : ∀ (σ τ : S5) (r : Int32), E σ = some (r, τ) → ∀ sz : Nat, Met l yX5_readExpression (Cond.code yX5_readExpression cX5_readExpression 1 (some .int) :: uG) { frames := fE, cells := 0, slots := 0, locals := lE } (gPc (dC, dI) (tC kc) (wC ad kc sv) (zC ak) [.ref (ad 5)] σ sz) (gQi (dC, dI) (tC kc) (wC ad kc sv) (va_A (wC ad kc sv σ) sz) r τ) 0 0 (va_A (wC ad kc sv σ) sz))
    (hrec67 : ∀ (v1 : Int32) (v2 : Int32) (v3 : Int32) (σ : S5) (H : Heap) (locs : List Loc) (ls : Array Slot), gX (dC, dI) (tC kc) (wC ad kc sv) (zC ak) A s σ H locs → lv_has ls 5 [(0, .ref (ad 5)), (1, .int v1), (2, .int v2), (3, .int v3)] → rec67 v1 v2 v3 σ = some (r, τ) → W p l e R s m args below meth c H locs 0 0 (MQ below (gQi (dC, dI) (tC kc) (wC ad kc sv) A r τ) args s 0 0 A) (F0 m 67 ls []))
    (X : gX (dC, dI) (tC kc) (wC ad kc sv) (zC ak) A s σ H locs) (hl : lv_has ls 5 [(0, .ref (ad 5)), (1, .int v1), (2, .int v2), (3, .int v3)]) (hg : f_X5_readApplication_b113 E rec67 v1 v2 v3 σ = some (r, τ)) : W p l e R s m args below meth c H locs 0 0 (MQ below (gQi (dC, dI) (tC kc) (wC ad kc sv) A r τ) args s 0 0 A) (F0 m 113 ls []) := by
  have hx := S.1
  have hb := S.2.1
  have hown := S.2.2.2.1
  have hu := S.2.2.2.2
  unfold f_X5_readApplication_b113 at hg
  refine lv_aload_n hx hb dX5_readApplication_113 rfl (lv_at hl 0 rfl) ?_
  obtain ⟨r114, τ114, hq114, hg⟩ := bd_some hg
  refine gc_Vi (As := []) (rest := []) (q0 := 5) (ci := 8) S X (k2_X5_readAtom l dC dI ad kc sv hE hq114 H.size) cw_X5_readAtom mG_1192 rfl rfl rfl rfl rfl hl.1 (Nat.le_of_ble_eq_true rfl) dX5_readApplication_114 ⟨by omega, by omega⟩ (fun H locs X => ?_)
  refine lv_istore (lv' := [(4, .int r114), (0, .ref (ad 5)), (1, .int v1), (2, .int v2), (3, .int v3)]) hx hb dX5_readApplication_117 hl (by decide) rfl (fun ls hl => ?_)
  refine lv_aload_n hx hb dX5_readApplication_119 rfl (lv_at hl 1 rfl) ?_
  refine wcgR_5_1 S X mG_539 dX5_readApplication_120 ?_
  refine wcgR_3_4 S X mG_403 dX5_readApplication_123 ?_
  refine lv_iload_n hx hb dX5_readApplication_126 rfl (lv_at hl 3 rfl) ?_
  refine lv_iload hx hb dX5_readApplication_127 (lv_at hl 0 rfl) ?_
  obtain ⟨hi129, hg⟩ := gd_some hg
  refine wcsA_17 S X hi129 dX5_readApplication_129 (fun H locs X => ?_)
  refine lv_iload hx hb dX5_readApplication_130 (lv_at hl 0 rfl) ?_
  refine lv_istore_n (lv' := [(2, .int r114), (4, .int r114), (0, .ref (ad 5)), (1, .int v1), (3, .int v3)]) hx hb dX5_readApplication_132 rfl hl (by decide) rfl (fun ls hl => ?_)
  refine lv_iinc (v := (v3 + 1)) (lv' := [(3, .int (v3 + 1)), (2, .int r114), (4, .int r114), (0, .ref (ad 5)), (1, .int v1)]) hx hb dX5_readApplication_133 hl (k := 4) rfl (by rfl) (by decide) rfl (fun ls hl => ?_)
  refine lv_goto (tgt := 67) hx hb dX5_readApplication_136 (by decide) ?_
  exact hrec67 _ _ _ _ _ _ _ X (lv_sub hl [3, 4, 1, 0] rfl) hg
set_option maxHeartbeats 4000000 in
set_option maxRecDepth 100000 in
theorem w_X5_readApplication_B67 {σ : S5} {E : S5 → Option (Int32 × S5)} {rec67 : Int32 → Int32 → Int32 → S5 → Option (Int32 × S5)} {v1 : Int32} {v2 : Int32} {v3 : Int32} {H : Heap} {locs : List Loc} {ls : Array Slot} (S : CallFix p m c cX5_readApplication 5 s args uG RX5) (hr : meth.sig.returnType = (some .int)) (hk : meth.locks = false) (hR : fE + 9 ≤ R.frames ∧ lE + 202 ≤ R.locals)
    (hE : ∀ (σ τ : S5) (r : Int32), E σ = some (r, τ) → ∀ sz : Nat, Met l yX5_readExpression (Cond.code yX5_readExpression cX5_readExpression 1 (some .int) :: uG) { frames := fE, cells := 0, slots := 0, locals := lE } (gPc (dC, dI) (tC kc) (wC ad kc sv) (zC ak) [.ref (ad 5)] σ sz) (gQi (dC, dI) (tC kc) (wC ad kc sv) (va_A (wC ad kc sv σ) sz) r τ) 0 0 (va_A (wC ad kc sv σ) sz))
    (hrec67 : ∀ (v1 : Int32) (v2 : Int32) (v3 : Int32) (σ : S5) (H : Heap) (locs : List Loc) (ls : Array Slot), gX (dC, dI) (tC kc) (wC ad kc sv) (zC ak) A s σ H locs → lv_has ls 5 [(0, .ref (ad 5)), (1, .int v1), (2, .int v2), (3, .int v3)] → rec67 v1 v2 v3 σ = some (r, τ) → W p l e R s m args below meth c H locs 0 0 (MQ below (gQi (dC, dI) (tC kc) (wC ad kc sv) A r τ) args s 0 0 A) (F0 m 67 ls []))
    (X : gX (dC, dI) (tC kc) (wC ad kc sv) (zC ak) A s σ H locs) (hl : lv_has ls 5 [(0, .ref (ad 5)), (1, .int v1), (2, .int v2), (3, .int v3)]) (hg : f_X5_readApplication_B67 E rec67 v1 v2 v3 σ = some (r, τ)) : W p l e R s m args below meth c H locs 0 0 (MQ below (gQi (dC, dI) (tC kc) (wC ad kc sv) A r τ) args s 0 0 A) (F0 m 67 ls []) := by
  have hx := S.1
  have hb := S.2.1
  have hown := S.2.2.2.1
  have hu := S.2.2.2.2
  unfold f_X5_readApplication_B67 at hg
  refine lv_iload_n hx hb dX5_readApplication_67 rfl (lv_at hl 3 rfl) ?_
  refine lv_iconst (v := 5) hx hb dX5_readApplication_68 (by decide) ?_
  refine lv_icmp_gt (tgt := 139) hx hb dX5_readApplication_69 (by decide) (fun c69 => ?_) (fun c69 => ?_)
  · have hg := (if_pos c69).symm.trans hg
    exact w_X5_readApplication_b139 S hr hk hR hE X (lv_sub hl [0, 1, 3] rfl) hg
  · have hg := (if_neg c69).symm.trans hg
    refine lv_aload_n hx hb dX5_readApplication_72 rfl (lv_at hl 0 rfl) ?_
    refine wcgR_5_0 S X mG_538 dX5_readApplication_73 ?_
    refine wcgI_17 (v := (gI σ 17)) S X mG_518 rfl dX5_readApplication_76 ?_
    obtain ⟨r79, τ79, hq79, hg⟩ := bd_some hg
    refine gc_Si (As := [.int (gI σ 17)]) (rest := []) S X (k2_X5_isAtom l dC dI ad kc sv hq79 H.size) cw_X5_isAtom mG_1189 rfl rfl hl.1 (Nat.le_of_ble_eq_true rfl) dX5_readApplication_79 ⟨by omega, by omega⟩ (fun H locs X => ?_)
    refine lv_if_eq (tgt := 139) hx hb dX5_readApplication_82 (by decide) (fun c82 => ?_) (fun c82 => ?_)
    · have hg := (if_pos c82).symm.trans hg
      exact w_X5_readApplication_b139 S hr hk hR hE X (lv_sub hl [0, 1, 3] rfl) hg
    · have hg := (if_neg c82).symm.trans hg
      refine lv_aload_n hx hb dX5_readApplication_85 rfl (lv_at hl 0 rfl) ?_
      obtain ⟨r86, τ86, hq86, hg⟩ := bd_some hg
      refine gc_Vi (As := []) (rest := []) (q0 := 5) (ci := 8) S X (k2_X5_atomStands l dC dI ad kc sv hq86 H.size) cw_X5_atomStands mG_1185 rfl rfl rfl rfl rfl hl.1 (Nat.le_of_ble_eq_true rfl) dX5_readApplication_86 ⟨by omega, by omega⟩ (fun H locs X => ?_)
      refine lv_if_eq (tgt := 139) hx hb dX5_readApplication_89 (by decide) (fun c89 => ?_) (fun c89 => ?_)
      · have hg := (if_pos c89).symm.trans hg
        exact w_X5_readApplication_b139 S hr hk hR hE X (lv_sub hl [0, 1, 3] rfl) hg
      · have hg := (if_neg c89).symm.trans hg
        refine lv_iload_n hx hb dX5_readApplication_92 rfl (lv_at hl 3 rfl) ?_
        refine lv_iconst (v := 5) hx hb dX5_readApplication_93 (by decide) ?_
        refine lv_icmp_ne (tgt := 105) hx hb dX5_readApplication_94 (by decide) (fun c94 => ?_) (fun c94 => ?_)
        · have hg := (if_neg c94).symm.trans hg
          refine lv_iload_n hx hb dX5_readApplication_105 rfl (lv_at hl 3 rfl) ?_
          refine lv_if_ne (tgt := 113) hx hb dX5_readApplication_106 (by decide) (fun c106 => ?_) (fun c106 => ?_)
          · have hg := (if_neg c106).symm.trans hg
            exact w_X5_readApplication_b113 S hr hk hR hE hrec67 X (lv_sub hl [0, 1, 2, 3] rfl) hg
          · have hg := (if_pos c106).symm.trans hg
            refine lv_aload_n hx hb dX5_readApplication_109 rfl (lv_at hl 0 rfl) ?_
            obtain ⟨r110, τ110, hq110, hg⟩ := bd_some hg
            refine gc_Vv (As := []) (rest := []) (q0 := 5) (ci := 8) S X (k2_X5_countPart l dC dI ad kc sv hq110 H.size) cw_X5_countPart mG_1132 rfl rfl rfl rfl rfl hl.1 (Nat.le_of_ble_eq_true rfl) dX5_readApplication_110 ⟨by omega, by omega⟩ (fun H locs X => ?_)
            exact w_X5_readApplication_b113 S hr hk hR hE hrec67 X (lv_sub hl [0, 1, 2, 3] rfl) hg
        · have hg := (if_pos c94).symm.trans hg
          refine lv_aload_n hx hb dX5_readApplication_97 rfl (lv_at hl 0 rfl) ?_
          refine lv_iconst (v := 4) hx hb dX5_readApplication_98 (by decide) ?_
          obtain ⟨r99, τ99, hq99, hg⟩ := bd_some hg
          refine gc_Vv (As := [.int 4]) (rest := []) (q0 := 5) (ci := 8) S X (k2_X5_refuse l dC dI ad kc sv hq99 H.size) cw_X5_refuse mG_1059 rfl rfl rfl rfl rfl hl.1 (Nat.le_of_ble_eq_true rfl) dX5_readApplication_99 ⟨by omega, by omega⟩ (fun H locs X => ?_)
          refine lv_goto (tgt := 113) hx hb dX5_readApplication_102 (by decide) ?_
          exact w_X5_readApplication_b113 S hr hk hR hE hrec67 X (lv_sub hl [0, 1, 2, 3] rfl) hg
set_option maxHeartbeats 4000000 in
set_option maxRecDepth 100000 in
theorem w_X5_readApplication_L67 {E : S5 → Option (Int32 × S5)} (S : CallFix p m c cX5_readApplication 5 s args uG RX5) (hr : meth.sig.returnType = (some .int)) (hk : meth.locks = false) (hR : fE + 9 ≤ R.frames ∧ lE + 202 ≤ R.locals)
    (hE : ∀ (σ τ : S5) (r : Int32), E σ = some (r, τ) → ∀ sz : Nat, Met l yX5_readExpression (Cond.code yX5_readExpression cX5_readExpression 1 (some .int) :: uG) { frames := fE, cells := 0, slots := 0, locals := lE } (gPc (dC, dI) (tC kc) (wC ad kc sv) (zC ak) [.ref (ad 5)] σ sz) (gQi (dC, dI) (tC kc) (wC ad kc sv) (va_A (wC ad kc sv σ) sz) r τ) 0 0 (va_A (wC ad kc sv σ) sz)) : ∀ (n : Nat) (v1 : Int32) (v2 : Int32) (v3 : Int32) (σ : S5) (H : Heap) (locs : List Loc) (ls : Array Slot), gX (dC, dI) (tC kc) (wC ad kc sv) (zC ak) A s σ H locs → lv_has ls 5 [(0, .ref (ad 5)), (1, .int v1), (2, .int v2), (3, .int v3)] → f_X5_readApplication_L67 E n v1 v2 v3 σ = some (r, τ) → W p l e R s m args below meth c H locs 0 0 (MQ below (gQi (dC, dI) (tC kc) (wC ad kc sv) A r τ) args s 0 0 A) (F0 m 67 ls []) := by
  intro n
  induction n with
  | zero => intro v1 v2 v3 σ H locs ls X hl hg; cases hg
  | succ n ih => intro v1 v2 v3 σ H locs ls X hl hg; exact w_X5_readApplication_B67 S hr hk hR hE ih X hl hg
set_option maxHeartbeats 4000000 in
set_option maxRecDepth 100000 in
theorem w_X5_readApplication_b49 {σ : S5} {E : S5 → Option (Int32 × S5)}  {H : Heap} {locs : List Loc} {ls : Array Slot} (S : CallFix p m c cX5_readApplication 5 s args uG RX5) (hr : meth.sig.returnType = (some .int)) (hk : meth.locks = false) (hR : fE + 9 ≤ R.frames ∧ lE + 202 ≤ R.locals)
    (hE : ∀ (σ τ : S5) (r : Int32), E σ = some (r, τ) → ∀ sz : Nat, Met l yX5_readExpression (Cond.code yX5_readExpression cX5_readExpression 1 (some .int) :: uG) { frames := fE, cells := 0, slots := 0, locals := lE } (gPc (dC, dI) (tC kc) (wC ad kc sv) (zC ak) [.ref (ad 5)] σ sz) (gQi (dC, dI) (tC kc) (wC ad kc sv) (va_A (wC ad kc sv σ) sz) r τ) 0 0 (va_A (wC ad kc sv σ) sz))
    (X : gX (dC, dI) (tC kc) (wC ad kc sv) (zC ak) A s σ H locs) (hl : lv_has ls 5 [(0, .ref (ad 5))]) (hg : f_X5_readApplication_b49 E σ = some (r, τ)) : W p l e R s m args below meth c H locs 0 0 (MQ below (gQi (dC, dI) (tC kc) (wC ad kc sv) A r τ) args s 0 0 A) (F0 m 49 ls []) := by
  have hx := S.1
  have hb := S.2.1
  have hown := S.2.2.2.1
  have hu := S.2.2.2.2
  unfold f_X5_readApplication_b49 at hg
  refine lv_aload_n hx hb dX5_readApplication_49 rfl (lv_at hl 0 rfl) ?_
  obtain ⟨r50, τ50, hq50, hg⟩ := bd_some hg
  refine gc_Vi (As := []) (rest := []) (q0 := 5) (ci := 8) S X (k2_X5_atomStands l dC dI ad kc sv hq50 H.size) cw_X5_atomStands mG_1185 rfl rfl rfl rfl rfl hl.1 (Nat.le_of_ble_eq_true rfl) dX5_readApplication_50 ⟨by omega, by omega⟩ (fun H locs X => ?_)
  refine lv_if_ne (tgt := 58) hx hb dX5_readApplication_53 (by decide) (fun c53 => ?_) (fun c53 => ?_)
  · have hg := (if_neg c53).symm.trans hg
    refine lv_aload_n hx hb dX5_readApplication_58 rfl (lv_at hl 0 rfl) ?_
    obtain ⟨r59, τ59, hq59, hg⟩ := bd_some hg
    refine gc_Vi (As := []) (rest := []) (q0 := 5) (ci := 8) S X (k2_X5_readAtom l dC dI ad kc sv hE hq59 H.size) cw_X5_readAtom mG_1192 rfl rfl rfl rfl rfl hl.1 (Nat.le_of_ble_eq_true rfl) dX5_readApplication_59 ⟨by omega, by omega⟩ (fun H locs X => ?_)
    refine lv_istore_n (lv' := [(1, .int r59), (0, .ref (ad 5))]) hx hb dX5_readApplication_62 rfl hl (by decide) rfl (fun ls hl => ?_)
    refine lv_iload_n hx hb dX5_readApplication_63 rfl (lv_at hl 0 rfl) ?_
    refine lv_istore_n (lv' := [(2, .int r59), (1, .int r59), (0, .ref (ad 5))]) hx hb dX5_readApplication_64 rfl hl (by decide) rfl (fun ls hl => ?_)
    refine lv_iconst (v := 0) hx hb dX5_readApplication_65 (by decide) ?_
    refine lv_istore_n (lv' := [(3, .int 0), (2, .int r59), (1, .int r59), (0, .ref (ad 5))]) hx hb dX5_readApplication_66 rfl hl (by decide) rfl (fun ls hl => ?_)
    exact w_X5_readApplication_L67 S hr hk hR hE _ _ _ _ _ _ _ _ X (lv_sub hl [3, 2, 1, 0] rfl) hg
  · have hg := (if_pos c53).symm.trans hg
    refine lv_iconst (v := 0) hx hb dX5_readApplication_56 (by decide) ?_
    obtain ⟨rfl, rfl⟩ := fin_some hg
    exact gr_i S hr hk X dX5_readApplication_57
set_option maxHeartbeats 4000000 in
set_option maxRecDepth 100000 in
theorem w_X5_readApplication {σ : S5} {E : S5 → Option (Int32 × S5)}  {H : Heap} {locs : List Loc} {ls : Array Slot} (S : CallFix p m c cX5_readApplication 5 s args uG RX5) (hr : meth.sig.returnType = (some .int)) (hk : meth.locks = false) (hR : fE + 9 ≤ R.frames ∧ lE + 202 ≤ R.locals)
    (hE : ∀ (σ τ : S5) (r : Int32), E σ = some (r, τ) → ∀ sz : Nat, Met l yX5_readExpression (Cond.code yX5_readExpression cX5_readExpression 1 (some .int) :: uG) { frames := fE, cells := 0, slots := 0, locals := lE } (gPc (dC, dI) (tC kc) (wC ad kc sv) (zC ak) [.ref (ad 5)] σ sz) (gQi (dC, dI) (tC kc) (wC ad kc sv) (va_A (wC ad kc sv σ) sz) r τ) 0 0 (va_A (wC ad kc sv σ) sz))
    (X : gX (dC, dI) (tC kc) (wC ad kc sv) (zC ak) A s σ H locs) (hl : lv_has ls 5 [(0, .ref (ad 5))]) (hg : f_X5_readApplication E σ = some (r, τ)) : W p l e R s m args below meth c H locs 0 0 (MQ below (gQi (dC, dI) (tC kc) (wC ad kc sv) A r τ) args s 0 0 A) (F0 m 0 ls []) := by
  have hx := S.1
  have hb := S.2.1
  have hown := S.2.2.2.1
  have hu := S.2.2.2.2
  unfold f_X5_readApplication at hg
  refine lv_aload_n hx hb dX5_readApplication_0 rfl (lv_at hl 0 rfl) ?_
  refine wcgR_5_0 S X mG_538 dX5_readApplication_1 ?_
  refine wcgI_17 (v := (gI σ 17)) S X mG_518 rfl dX5_readApplication_4 ?_
  refine lv_iconst (v := 4) hx hb dX5_readApplication_7 (by decide) ?_
  refine lv_icmp_ne (tgt := 49) hx hb dX5_readApplication_8 (by decide) (fun c8 => ?_) (fun c8 => ?_)
  · have hg := (if_neg c8).symm.trans hg
    exact w_X5_readApplication_b49 S hr hk hR hE X (lv_sub hl [0] rfl) hg
  · have hg := (if_pos c8).symm.trans hg
    refine lv_aload_n hx hb dX5_readApplication_11 rfl (lv_at hl 0 rfl) ?_
    refine wcgR_5_2 S X mG_540 dX5_readApplication_12 ?_
    refine lv_aload_n hx hb dX5_readApplication_15 rfl (lv_at hl 0 rfl) ?_
    refine wcgR_5_0 S X mG_538 dX5_readApplication_16 ?_
    refine wcgJ_0 (v := (gJ σ 0)) S X mG_524 rfl dX5_readApplication_19 ?_
    obtain ⟨r22, τ22, hq22, hg⟩ := bd_some hg
    refine gc_Vi (As := [.long (gJ σ 0)]) (rest := []) (q0 := 2) (ci := 7) S X (k2_X4_constructorOf l dC dI ad kc sv hq22 H.size) cw_X4_constructorOf mG_1067 rfl rfl rfl rfl rfl hl.1 (Nat.le_of_ble_eq_true rfl) dX5_readApplication_22 ⟨by omega, by omega⟩ (fun H locs X => ?_)
    refine lv_istore_n (lv' := [(1, .int r22), (0, .ref (ad 5))]) hx hb dX5_readApplication_25 rfl hl (by decide) rfl (fun ls hl => ?_)
    refine lv_iload_n hx hb dX5_readApplication_26 rfl (lv_at hl 0 rfl) ?_
    refine lv_iconst (v := (-1)) hx hb dX5_readApplication_27 (by decide) ?_
    refine lv_icmp_eq (tgt := 49) hx hb dX5_readApplication_28 (by decide) (fun c28 => ?_) (fun c28 => ?_)
    · have hg := (if_pos c28).symm.trans hg
      exact w_X5_readApplication_b49 S hr hk hR hE X (lv_sub hl [1] rfl) hg
    · have hg := (if_neg c28).symm.trans hg
      refine lv_aload_n hx hb dX5_readApplication_31 rfl (lv_at hl 1 rfl) ?_
      refine wcgR_5_2 S X mG_540 dX5_readApplication_32 ?_
      refine wcgR_2_1 S X mG_289 dX5_readApplication_35 ?_
      refine lv_iload_n hx hb dX5_readApplication_38 rfl (lv_at hl 0 rfl) ?_
      obtain ⟨hi39, hg⟩ := gd_some hg
      refine wclA_2 (v := (xA τ22 2 r22)) S X hi39 rfl dX5_readApplication_39 ?_
      refine lv_if_le (tgt := 49) hx hb dX5_readApplication_40 (by decide) (fun c40 => ?_) (fun c40 => ?_)
      · have hg := (if_pos c40).symm.trans hg
        exact w_X5_readApplication_b49 S hr hk hR hE X (lv_sub hl [1] rfl) hg
      · have hg := (if_neg c40).symm.trans hg
        refine lv_aload_n hx hb dX5_readApplication_43 rfl (lv_at hl 1 rfl) ?_
        refine lv_iload_n hx hb dX5_readApplication_44 rfl (lv_at hl 0 rfl) ?_
        obtain ⟨r45, τ45, hq45, hg⟩ := bd_some hg
        refine gc_Vi (As := [.int r22]) (rest := []) (q0 := 5) (ci := 8) S X (k2_X5_readBuild l dC dI ad kc sv hE hq45 H.size) cw_X5_readBuild mG_1181 rfl rfl rfl rfl rfl hl.1 (Nat.le_of_ble_eq_true rfl) dX5_readApplication_45 ⟨by omega, by omega⟩ (fun H locs X => ?_)
        obtain ⟨rfl, rfl⟩ := fin_some hg
        exact gr_i S hr hk X dX5_readApplication_48
end MX5_readApplication
set_option maxRecDepth 100000 in
theorem k2_X5_readApplication (l : Launch) (dC : Nat → ClassId) (dI : Nat → Nat → Nat) {ak : Nat → Nat} (ad : Nat → Nat) (kc : Nat → ClassId) (sv : Value) {E : S5 → Option (Int32 × S5)} {fE lE : Nat} {σ τ : S5}  {r : Int32} (hE : ∀ (σ τ : S5) (r : Int32), E σ = some (r, τ) → ∀ sz : Nat, Met l yX5_readExpression (Cond.code yX5_readExpression cX5_readExpression 1 (some .int) :: uG) { frames := fE, cells := 0, slots := 0, locals := lE } (gPc (dC, dI) (tC kc) (wC ad kc sv) (zC ak) [.ref (ad 5)] σ sz) (gQi (dC, dI) (tC kc) (wC ad kc sv) (va_A (wC ad kc sv σ) sz) r τ) 0 0 (va_A (wC ad kc sv σ) sz)) (hg : f_X5_readApplication E  σ = some (r, τ)) (sz : Nat) : Met l yX5_readApplication (Cond.code yX5_readApplication cX5_readApplication 5 (some .int) :: uG) { frames := fE + 9, cells := 0, slots := 0, locals := lE + 202 } (gPc (dC, dI) (tC kc) (wC ad kc sv) (zC ak) [.ref (ad 5)] σ sz) (gQi (dC, dI) (tC kc) (wC ad kc sv) (va_A (wC ad kc sv σ) sz) r τ) 0 0 (va_A (wC ad kc sv σ) sz) :=
  g_start (by decide) (Nat.le_of_ble_eq_true rfl) (fun p e s m below meth c ls S hr hk X hl => w_X5_readApplication S hr hk ⟨Nat.le_refl _, Nat.le_refl _⟩ hE X hl hg)
section MX5_readProduct
variable {p : Program} {l : Launch} {e : Env} {R : Room} {s : State} {m : MethodId} {args : Array Value} {below : List Frame} {meth : Method} {c : Code} {dC : Nat → ClassId} {dI : Nat → Nat → Nat} {ak : Nat → Nat} {A : Nat → Prop} {ad : Nat → Nat} {kc : Nat → ClassId} {sv : Value} {r : Int32} {τ : S5} {fE lE : Nat}
set_option maxHeartbeats 4000000 in
set_option maxRecDepth 100000 in
theorem w_X5_readProduct_b50 {σ : S5} {E : S5 → Option (Int32 × S5)} {rec7 : Int32 → Int32 → S5 → Option (Int32 × S5)} {v1 : Int32} {v2 : Int32} {H : Heap} {locs : List Loc} {ls : Array Slot} (S : CallFix p m c cX5_readProduct 4 s args uG RX5) (hr : meth.sig.returnType = (some .int)) (hk : meth.locks = false) (hR : fE + 10 ≤ R.frames ∧ lE + 226 ≤ R.locals)
    (hE : ∀ (σ τ : S5) (r : Int32), E σ = some (r, τ) → ∀ sz : Nat, Met l yX5_readExpression (Cond.code yX5_readExpression cX5_readExpression 1 (some .int) :: uG) { frames := fE, cells := 0, slots := 0, locals := lE } (gPc (dC, dI) (tC kc) (wC ad kc sv) (zC ak) [.ref (ad 5)] σ sz) (gQi (dC, dI) (tC kc) (wC ad kc sv) (va_A (wC ad kc sv σ) sz) r τ) 0 0 (va_A (wC ad kc sv σ) sz))
    (hrec7 : ∀ (v1 : Int32) (v2 : Int32) (σ : S5) (H : Heap) (locs : List Loc) (ls : Array Slot), gX (dC, dI) (tC kc) (wC ad kc sv) (zC ak) A s σ H locs → lv_has ls 4 [(0, .ref (ad 5)), (1, .int v1), (2, .int v2)] → rec7 v1 v2 σ = some (r, τ) → W p l e R s m args below meth c H locs 0 0 (MQ below (gQi (dC, dI) (tC kc) (wC ad kc sv) A r τ) args s 0 0 A) (F0 m 7 ls []))
    (X : gX (dC, dI) (tC kc) (wC ad kc sv) (zC ak) A s σ H locs) (hl : lv_has ls 4 [(0, .ref (ad 5)), (1, .int v1), (2, .int v2)]) (hg : f_X5_readProduct_b50 E rec7 v1 v2 σ = some (r, τ)) : W p l e R s m args below meth c H locs 0 0 (MQ below (gQi (dC, dI) (tC kc) (wC ad kc sv) A r τ) args s 0 0 A) (F0 m 50 ls []) := by
  have hx := S.1
  have hb := S.2.1
  have hown := S.2.2.2.1
  have hu := S.2.2.2.2
  unfold f_X5_readProduct_b50 at hg
  refine lv_aload_n hx hb dX5_readProduct_50 rfl (lv_at hl 0 rfl) ?_
  obtain ⟨r51, τ51, hq51, hg⟩ := bd_some hg
  refine gc_Vi (As := []) (rest := []) (q0 := 5) (ci := 8) S X (k2_X5_readSign l dC dI ad kc sv hq51 H.size) cw_X5_readSign mG_1200 rfl rfl rfl rfl rfl hl.1 (Nat.le_of_ble_eq_true rfl) dX5_readProduct_51 ⟨by omega, by omega⟩ (fun H locs X => ?_)
  refine lv_istore_n (lv' := [(3, .int r51), (0, .ref (ad 5)), (1, .int v1), (2, .int v2)]) hx hb dX5_readProduct_54 rfl hl (by decide) rfl (fun ls hl => ?_)
  refine lv_aload_n hx hb dX5_readProduct_55 rfl (lv_at hl 1 rfl) ?_
  refine lv_iload_n hx hb dX5_readProduct_56 rfl (lv_at hl 0 rfl) ?_
  refine lv_iload_n hx hb dX5_readProduct_57 rfl (lv_at hl 2 rfl) ?_
  refine lv_aload_n hx hb dX5_readProduct_58 rfl (lv_at hl 1 rfl) ?_
  obtain ⟨r59, τ59, hq59, hg⟩ := bd_some hg
  refine gc_Vi (As := []) (rest := [.int v1, .int r51, .ref (ad 5)]) (q0 := 5) (ci := 8) S X (k2_X5_readApplication l dC dI ad kc sv hE hq59 H.size) cw_X5_readApplication mG_1177 rfl rfl rfl rfl rfl hl.1 (Nat.le_of_ble_eq_true rfl) dX5_readProduct_59 ⟨by omega, by omega⟩ (fun H locs X => ?_)
  obtain ⟨r62, τ62, hq62, hg⟩ := bd_some hg
  refine gc_Vi (As := [.int r51, .int v1, .int r59]) (rest := []) (q0 := 5) (ci := 8) S X (k2_X5_join l dC dI ad kc sv hq62 H.size) cw_X5_join mG_1204 rfl rfl rfl rfl rfl hl.1 (Nat.le_of_ble_eq_true rfl) dX5_readProduct_62 ⟨by omega, by omega⟩ (fun H locs X => ?_)
  refine lv_istore_n (lv' := [(1, .int r62), (3, .int r51), (0, .ref (ad 5)), (2, .int v2)]) hx hb dX5_readProduct_65 rfl hl (by decide) rfl (fun ls hl => ?_)
  refine lv_iinc (v := (v2 + 1)) (lv' := [(2, .int (v2 + 1)), (1, .int r62), (3, .int r51), (0, .ref (ad 5))]) hx hb dX5_readProduct_66 hl (k := 3) rfl (by rfl) (by decide) rfl (fun ls hl => ?_)
  refine lv_goto (tgt := 7) hx hb dX5_readProduct_69 (by decide) ?_
  exact hrec7 _ _ _ _ _ _ X (lv_sub hl [3, 1, 0] rfl) hg
set_option maxHeartbeats 4000000 in
set_option maxRecDepth 100000 in
theorem w_X5_readProduct_B7 {σ : S5} {E : S5 → Option (Int32 × S5)} {rec7 : Int32 → Int32 → S5 → Option (Int32 × S5)} {v1 : Int32} {v2 : Int32} {H : Heap} {locs : List Loc} {ls : Array Slot} (S : CallFix p m c cX5_readProduct 4 s args uG RX5) (hr : meth.sig.returnType = (some .int)) (hk : meth.locks = false) (hR : fE + 10 ≤ R.frames ∧ lE + 226 ≤ R.locals)
    (hE : ∀ (σ τ : S5) (r : Int32), E σ = some (r, τ) → ∀ sz : Nat, Met l yX5_readExpression (Cond.code yX5_readExpression cX5_readExpression 1 (some .int) :: uG) { frames := fE, cells := 0, slots := 0, locals := lE } (gPc (dC, dI) (tC kc) (wC ad kc sv) (zC ak) [.ref (ad 5)] σ sz) (gQi (dC, dI) (tC kc) (wC ad kc sv) (va_A (wC ad kc sv σ) sz) r τ) 0 0 (va_A (wC ad kc sv σ) sz))
    (hrec7 : ∀ (v1 : Int32) (v2 : Int32) (σ : S5) (H : Heap) (locs : List Loc) (ls : Array Slot), gX (dC, dI) (tC kc) (wC ad kc sv) (zC ak) A s σ H locs → lv_has ls 4 [(0, .ref (ad 5)), (1, .int v1), (2, .int v2)] → rec7 v1 v2 σ = some (r, τ) → W p l e R s m args below meth c H locs 0 0 (MQ below (gQi (dC, dI) (tC kc) (wC ad kc sv) A r τ) args s 0 0 A) (F0 m 7 ls []))
    (X : gX (dC, dI) (tC kc) (wC ad kc sv) (zC ak) A s σ H locs) (hl : lv_has ls 4 [(0, .ref (ad 5)), (1, .int v1), (2, .int v2)]) (hg : f_X5_readProduct_B7 E rec7 v1 v2 σ = some (r, τ)) : W p l e R s m args below meth c H locs 0 0 (MQ below (gQi (dC, dI) (tC kc) (wC ad kc sv) A r τ) args s 0 0 A) (F0 m 7 ls []) := by
  have hx := S.1
  have hb := S.2.1
  have hown := S.2.2.2.1
  have hu := S.2.2.2.2
  unfold f_X5_readProduct_B7 at hg
  refine lv_iload_n hx hb dX5_readProduct_7 rfl (lv_at hl 2 rfl) ?_
  refine lv_sipush (v := 3001) hx hb dX5_readProduct_8 (by decide) ?_
  refine lv_icmp_ge (tgt := 72) hx hb dX5_readProduct_11 (by decide) (fun c11 => ?_) (fun c11 => ?_)
  · have hg := (if_pos c11).symm.trans hg
    refine lv_iload_n hx hb dX5_readProduct_72 rfl (lv_at hl 1 rfl) ?_
    obtain ⟨rfl, rfl⟩ := fin_some hg
    exact gr_i S hr hk X dX5_readProduct_73
  · have hg := (if_neg c11).symm.trans hg
    refine lv_aload_n hx hb dX5_readProduct_14 rfl (lv_at hl 0 rfl) ?_
    refine wcgR_5_0 S X mG_538 dX5_readProduct_15 ?_
    refine wcgI_17 (v := (gI σ 17)) S X mG_518 rfl dX5_readProduct_18 ?_
    refine lv_bipush (v := 42) hx hb dX5_readProduct_21 (by decide) ?_
    refine lv_icmp_eq (tgt := 50) hx hb dX5_readProduct_23 (by decide) (fun c23 => ?_) (fun c23 => ?_)
    · have hg := (if_pos c23).symm.trans hg
      exact w_X5_readProduct_b50 S hr hk hR hE hrec7 X (lv_sub hl [0, 1, 2] rfl) hg
    · have hg := (if_neg c23).symm.trans hg
      refine lv_aload_n hx hb dX5_readProduct_26 rfl (lv_at hl 0 rfl) ?_
      refine wcgR_5_0 S X mG_538 dX5_readProduct_27 ?_
      refine wcgI_17 (v := (gI σ 17)) S X mG_518 rfl dX5_readProduct_30 ?_
      refine lv_bipush (v := 47) hx hb dX5_readProduct_33 (by decide) ?_
      refine lv_icmp_eq (tgt := 50) hx hb dX5_readProduct_35 (by decide) (fun c35 => ?_) (fun c35 => ?_)
      · have hg := (if_pos c35).symm.trans hg
        exact w_X5_readProduct_b50 S hr hk hR hE hrec7 X (lv_sub hl [0, 1, 2] rfl) hg
      · have hg := (if_neg c35).symm.trans hg
        refine lv_aload_n hx hb dX5_readProduct_38 rfl (lv_at hl 0 rfl) ?_
        refine wcgR_5_0 S X mG_538 dX5_readProduct_39 ?_
        refine wcgI_17 (v := (gI σ 17)) S X mG_518 rfl dX5_readProduct_42 ?_
        refine lv_bipush (v := 37) hx hb dX5_readProduct_45 (by decide) ?_
        refine lv_icmp_ne (tgt := 72) hx hb dX5_readProduct_47 (by decide) (fun c47 => ?_) (fun c47 => ?_)
        · have hg := (if_neg c47).symm.trans hg
          refine lv_iload_n hx hb dX5_readProduct_72 rfl (lv_at hl 1 rfl) ?_
          obtain ⟨rfl, rfl⟩ := fin_some hg
          exact gr_i S hr hk X dX5_readProduct_73
        · have hg := (if_pos c47).symm.trans hg
          exact w_X5_readProduct_b50 S hr hk hR hE hrec7 X (lv_sub hl [0, 1, 2] rfl) hg
set_option maxHeartbeats 4000000 in
set_option maxRecDepth 100000 in
theorem w_X5_readProduct_L7 {E : S5 → Option (Int32 × S5)} (S : CallFix p m c cX5_readProduct 4 s args uG RX5) (hr : meth.sig.returnType = (some .int)) (hk : meth.locks = false) (hR : fE + 10 ≤ R.frames ∧ lE + 226 ≤ R.locals)
    (hE : ∀ (σ τ : S5) (r : Int32), E σ = some (r, τ) → ∀ sz : Nat, Met l yX5_readExpression (Cond.code yX5_readExpression cX5_readExpression 1 (some .int) :: uG) { frames := fE, cells := 0, slots := 0, locals := lE } (gPc (dC, dI) (tC kc) (wC ad kc sv) (zC ak) [.ref (ad 5)] σ sz) (gQi (dC, dI) (tC kc) (wC ad kc sv) (va_A (wC ad kc sv σ) sz) r τ) 0 0 (va_A (wC ad kc sv σ) sz)) : ∀ (n : Nat) (v1 : Int32) (v2 : Int32) (σ : S5) (H : Heap) (locs : List Loc) (ls : Array Slot), gX (dC, dI) (tC kc) (wC ad kc sv) (zC ak) A s σ H locs → lv_has ls 4 [(0, .ref (ad 5)), (1, .int v1), (2, .int v2)] → f_X5_readProduct_L7 E n v1 v2 σ = some (r, τ) → W p l e R s m args below meth c H locs 0 0 (MQ below (gQi (dC, dI) (tC kc) (wC ad kc sv) A r τ) args s 0 0 A) (F0 m 7 ls []) := by
  intro n
  induction n with
  | zero => intro v1 v2 σ H locs ls X hl hg; cases hg
  | succ n ih => intro v1 v2 σ H locs ls X hl hg; exact w_X5_readProduct_B7 S hr hk hR hE ih X hl hg
set_option maxHeartbeats 4000000 in
set_option maxRecDepth 100000 in
theorem w_X5_readProduct {σ : S5} {E : S5 → Option (Int32 × S5)}  {H : Heap} {locs : List Loc} {ls : Array Slot} (S : CallFix p m c cX5_readProduct 4 s args uG RX5) (hr : meth.sig.returnType = (some .int)) (hk : meth.locks = false) (hR : fE + 10 ≤ R.frames ∧ lE + 226 ≤ R.locals)
    (hE : ∀ (σ τ : S5) (r : Int32), E σ = some (r, τ) → ∀ sz : Nat, Met l yX5_readExpression (Cond.code yX5_readExpression cX5_readExpression 1 (some .int) :: uG) { frames := fE, cells := 0, slots := 0, locals := lE } (gPc (dC, dI) (tC kc) (wC ad kc sv) (zC ak) [.ref (ad 5)] σ sz) (gQi (dC, dI) (tC kc) (wC ad kc sv) (va_A (wC ad kc sv σ) sz) r τ) 0 0 (va_A (wC ad kc sv σ) sz))
    (X : gX (dC, dI) (tC kc) (wC ad kc sv) (zC ak) A s σ H locs) (hl : lv_has ls 4 [(0, .ref (ad 5))]) (hg : f_X5_readProduct E σ = some (r, τ)) : W p l e R s m args below meth c H locs 0 0 (MQ below (gQi (dC, dI) (tC kc) (wC ad kc sv) A r τ) args s 0 0 A) (F0 m 0 ls []) := by
  have hx := S.1
  have hb := S.2.1
  have hown := S.2.2.2.1
  have hu := S.2.2.2.2
  unfold f_X5_readProduct at hg
  refine lv_aload_n hx hb dX5_readProduct_0 rfl (lv_at hl 0 rfl) ?_
  obtain ⟨r1, τ1, hq1, hg⟩ := bd_some hg
  refine gc_Vi (As := []) (rest := []) (q0 := 5) (ci := 8) S X (k2_X5_readApplication l dC dI ad kc sv hE hq1 H.size) cw_X5_readApplication mG_1177 rfl rfl rfl rfl rfl hl.1 (Nat.le_of_ble_eq_true rfl) dX5_readProduct_1 ⟨by omega, by omega⟩ (fun H locs X => ?_)
  refine lv_istore_n (lv' := [(1, .int r1), (0, .ref (ad 5))]) hx hb dX5_readProduct_4 rfl hl (by decide) rfl (fun ls hl => ?_)
  refine lv_iconst (v := 0) hx hb dX5_readProduct_5 (by decide) ?_
  refine lv_istore_n (lv' := [(2, .int 0), (1, .int r1), (0, .ref (ad 5))]) hx hb dX5_readProduct_6 rfl hl (by decide) rfl (fun ls hl => ?_)
  exact w_X5_readProduct_L7 S hr hk hR hE _ _ _ _ _ _ _ X (lv_sub hl [2, 1, 0] rfl) hg
end MX5_readProduct
set_option maxRecDepth 100000 in
theorem k2_X5_readProduct (l : Launch) (dC : Nat → ClassId) (dI : Nat → Nat → Nat) {ak : Nat → Nat} (ad : Nat → Nat) (kc : Nat → ClassId) (sv : Value) {E : S5 → Option (Int32 × S5)} {fE lE : Nat} {σ τ : S5}  {r : Int32} (hE : ∀ (σ τ : S5) (r : Int32), E σ = some (r, τ) → ∀ sz : Nat, Met l yX5_readExpression (Cond.code yX5_readExpression cX5_readExpression 1 (some .int) :: uG) { frames := fE, cells := 0, slots := 0, locals := lE } (gPc (dC, dI) (tC kc) (wC ad kc sv) (zC ak) [.ref (ad 5)] σ sz) (gQi (dC, dI) (tC kc) (wC ad kc sv) (va_A (wC ad kc sv σ) sz) r τ) 0 0 (va_A (wC ad kc sv σ) sz)) (hg : f_X5_readProduct E  σ = some (r, τ)) (sz : Nat) : Met l yX5_readProduct (Cond.code yX5_readProduct cX5_readProduct 4 (some .int) :: uG) { frames := fE + 10, cells := 0, slots := 0, locals := lE + 226 } (gPc (dC, dI) (tC kc) (wC ad kc sv) (zC ak) [.ref (ad 5)] σ sz) (gQi (dC, dI) (tC kc) (wC ad kc sv) (va_A (wC ad kc sv σ) sz) r τ) 0 0 (va_A (wC ad kc sv σ) sz) :=
  g_start (by decide) (Nat.le_of_ble_eq_true rfl) (fun p e s m below meth c ls S hr hk X hl => w_X5_readProduct S hr hk ⟨Nat.le_refl _, Nat.le_refl _⟩ hE X hl hg)
section MX5_readSum
variable {p : Program} {l : Launch} {e : Env} {R : Room} {s : State} {m : MethodId} {args : Array Value} {below : List Frame} {meth : Method} {c : Code} {dC : Nat → ClassId} {dI : Nat → Nat → Nat} {ak : Nat → Nat} {A : Nat → Prop} {ad : Nat → Nat} {kc : Nat → ClassId} {sv : Value} {r : Int32} {τ : S5} {fE lE : Nat}
set_option maxHeartbeats 4000000 in
set_option maxRecDepth 100000 in
theorem w_X5_readSum_b38 {σ : S5} {E : S5 → Option (Int32 × S5)} {rec7 : Int32 → Int32 → S5 → Option (Int32 × S5)} {v1 : Int32} {v2 : Int32} {H : Heap} {locs : List Loc} {ls : Array Slot} (S : CallFix p m c cX5_readSum 4 s args uG RX5) (hr : meth.sig.returnType = (some .int)) (hk : meth.locks = false) (hR : fE + 11 ≤ R.frames ∧ lE + 249 ≤ R.locals)
    (hE : ∀ (σ τ : S5) (r : Int32), E σ = some (r, τ) → ∀ sz : Nat, Met l yX5_readExpression (Cond.code yX5_readExpression cX5_readExpression 1 (some .int) :: uG) { frames := fE, cells := 0, slots := 0, locals := lE } (gPc (dC, dI) (tC kc) (wC ad kc sv) (zC ak) [.ref (ad 5)] σ sz) (gQi (dC, dI) (tC kc) (wC ad kc sv) (va_A (wC ad kc sv σ) sz) r τ) 0 0 (va_A (wC ad kc sv σ) sz))
    (hrec7 : ∀ (v1 : Int32) (v2 : Int32) (σ : S5) (H : Heap) (locs : List Loc) (ls : Array Slot), gX (dC, dI) (tC kc) (wC ad kc sv) (zC ak) A s σ H locs → lv_has ls 4 [(0, .ref (ad 5)), (1, .int v1), (2, .int v2)] → rec7 v1 v2 σ = some (r, τ) → W p l e R s m args below meth c H locs 0 0 (MQ below (gQi (dC, dI) (tC kc) (wC ad kc sv) A r τ) args s 0 0 A) (F0 m 7 ls []))
    (X : gX (dC, dI) (tC kc) (wC ad kc sv) (zC ak) A s σ H locs) (hl : lv_has ls 4 [(0, .ref (ad 5)), (1, .int v1), (2, .int v2)]) (hg : f_X5_readSum_b38 E rec7 v1 v2 σ = some (r, τ)) : W p l e R s m args below meth c H locs 0 0 (MQ below (gQi (dC, dI) (tC kc) (wC ad kc sv) A r τ) args s 0 0 A) (F0 m 38 ls []) := by
  have hx := S.1
  have hb := S.2.1
  have hown := S.2.2.2.1
  have hu := S.2.2.2.2
  unfold f_X5_readSum_b38 at hg
  refine lv_aload_n hx hb dX5_readSum_38 rfl (lv_at hl 0 rfl) ?_
  obtain ⟨r39, τ39, hq39, hg⟩ := bd_some hg
  refine gc_Vi (As := []) (rest := []) (q0 := 5) (ci := 8) S X (k2_X5_readSign l dC dI ad kc sv hq39 H.size) cw_X5_readSign mG_1200 rfl rfl rfl rfl rfl hl.1 (Nat.le_of_ble_eq_true rfl) dX5_readSum_39 ⟨by omega, by omega⟩ (fun H locs X => ?_)
  refine lv_istore_n (lv' := [(3, .int r39), (0, .ref (ad 5)), (1, .int v1), (2, .int v2)]) hx hb dX5_readSum_42 rfl hl (by decide) rfl (fun ls hl => ?_)
  refine lv_aload_n hx hb dX5_readSum_43 rfl (lv_at hl 1 rfl) ?_
  refine lv_iload_n hx hb dX5_readSum_44 rfl (lv_at hl 0 rfl) ?_
  refine lv_iload_n hx hb dX5_readSum_45 rfl (lv_at hl 2 rfl) ?_
  refine lv_aload_n hx hb dX5_readSum_46 rfl (lv_at hl 1 rfl) ?_
  obtain ⟨r47, τ47, hq47, hg⟩ := bd_some hg
  refine gc_Vi (As := []) (rest := [.int v1, .int r39, .ref (ad 5)]) (q0 := 5) (ci := 8) S X (k2_X5_readProduct l dC dI ad kc sv hE hq47 H.size) cw_X5_readProduct mG_1173 rfl rfl rfl rfl rfl hl.1 (Nat.le_of_ble_eq_true rfl) dX5_readSum_47 ⟨by omega, by omega⟩ (fun H locs X => ?_)
  obtain ⟨r50, τ50, hq50, hg⟩ := bd_some hg
  refine gc_Vi (As := [.int r39, .int v1, .int r47]) (rest := []) (q0 := 5) (ci := 8) S X (k2_X5_join l dC dI ad kc sv hq50 H.size) cw_X5_join mG_1204 rfl rfl rfl rfl rfl hl.1 (Nat.le_of_ble_eq_true rfl) dX5_readSum_50 ⟨by omega, by omega⟩ (fun H locs X => ?_)
  refine lv_istore_n (lv' := [(1, .int r50), (3, .int r39), (0, .ref (ad 5)), (2, .int v2)]) hx hb dX5_readSum_53 rfl hl (by decide) rfl (fun ls hl => ?_)
  refine lv_iinc (v := (v2 + 1)) (lv' := [(2, .int (v2 + 1)), (1, .int r50), (3, .int r39), (0, .ref (ad 5))]) hx hb dX5_readSum_54 hl (k := 3) rfl (by rfl) (by decide) rfl (fun ls hl => ?_)
  refine lv_goto (tgt := 7) hx hb dX5_readSum_57 (by decide) ?_
  exact hrec7 _ _ _ _ _ _ X (lv_sub hl [3, 1, 0] rfl) hg
set_option maxHeartbeats 4000000 in
set_option maxRecDepth 100000 in
theorem w_X5_readSum_B7 {σ : S5} {E : S5 → Option (Int32 × S5)} {rec7 : Int32 → Int32 → S5 → Option (Int32 × S5)} {v1 : Int32} {v2 : Int32} {H : Heap} {locs : List Loc} {ls : Array Slot} (S : CallFix p m c cX5_readSum 4 s args uG RX5) (hr : meth.sig.returnType = (some .int)) (hk : meth.locks = false) (hR : fE + 11 ≤ R.frames ∧ lE + 249 ≤ R.locals)
    (hE : ∀ (σ τ : S5) (r : Int32), E σ = some (r, τ) → ∀ sz : Nat, Met l yX5_readExpression (Cond.code yX5_readExpression cX5_readExpression 1 (some .int) :: uG) { frames := fE, cells := 0, slots := 0, locals := lE } (gPc (dC, dI) (tC kc) (wC ad kc sv) (zC ak) [.ref (ad 5)] σ sz) (gQi (dC, dI) (tC kc) (wC ad kc sv) (va_A (wC ad kc sv σ) sz) r τ) 0 0 (va_A (wC ad kc sv σ) sz))
    (hrec7 : ∀ (v1 : Int32) (v2 : Int32) (σ : S5) (H : Heap) (locs : List Loc) (ls : Array Slot), gX (dC, dI) (tC kc) (wC ad kc sv) (zC ak) A s σ H locs → lv_has ls 4 [(0, .ref (ad 5)), (1, .int v1), (2, .int v2)] → rec7 v1 v2 σ = some (r, τ) → W p l e R s m args below meth c H locs 0 0 (MQ below (gQi (dC, dI) (tC kc) (wC ad kc sv) A r τ) args s 0 0 A) (F0 m 7 ls []))
    (X : gX (dC, dI) (tC kc) (wC ad kc sv) (zC ak) A s σ H locs) (hl : lv_has ls 4 [(0, .ref (ad 5)), (1, .int v1), (2, .int v2)]) (hg : f_X5_readSum_B7 E rec7 v1 v2 σ = some (r, τ)) : W p l e R s m args below meth c H locs 0 0 (MQ below (gQi (dC, dI) (tC kc) (wC ad kc sv) A r τ) args s 0 0 A) (F0 m 7 ls []) := by
  have hx := S.1
  have hb := S.2.1
  have hown := S.2.2.2.1
  have hu := S.2.2.2.2
  unfold f_X5_readSum_B7 at hg
  refine lv_iload_n hx hb dX5_readSum_7 rfl (lv_at hl 2 rfl) ?_
  refine lv_sipush (v := 3001) hx hb dX5_readSum_8 (by decide) ?_
  refine lv_icmp_ge (tgt := 60) hx hb dX5_readSum_11 (by decide) (fun c11 => ?_) (fun c11 => ?_)
  · have hg := (if_pos c11).symm.trans hg
    refine lv_iload_n hx hb dX5_readSum_60 rfl (lv_at hl 1 rfl) ?_
    obtain ⟨rfl, rfl⟩ := fin_some hg
    exact gr_i S hr hk X dX5_readSum_61
  · have hg := (if_neg c11).symm.trans hg
    refine lv_aload_n hx hb dX5_readSum_14 rfl (lv_at hl 0 rfl) ?_
    refine wcgR_5_0 S X mG_538 dX5_readSum_15 ?_
    refine wcgI_17 (v := (gI σ 17)) S X mG_518 rfl dX5_readSum_18 ?_
    refine lv_bipush (v := 43) hx hb dX5_readSum_21 (by decide) ?_
    refine lv_icmp_eq (tgt := 38) hx hb dX5_readSum_23 (by decide) (fun c23 => ?_) (fun c23 => ?_)
    · have hg := (if_pos c23).symm.trans hg
      exact w_X5_readSum_b38 S hr hk hR hE hrec7 X (lv_sub hl [0, 1, 2] rfl) hg
    · have hg := (if_neg c23).symm.trans hg
      refine lv_aload_n hx hb dX5_readSum_26 rfl (lv_at hl 0 rfl) ?_
      refine wcgR_5_0 S X mG_538 dX5_readSum_27 ?_
      refine wcgI_17 (v := (gI σ 17)) S X mG_518 rfl dX5_readSum_30 ?_
      refine lv_bipush (v := 45) hx hb dX5_readSum_33 (by decide) ?_
      refine lv_icmp_ne (tgt := 60) hx hb dX5_readSum_35 (by decide) (fun c35 => ?_) (fun c35 => ?_)
      · have hg := (if_neg c35).symm.trans hg
        refine lv_iload_n hx hb dX5_readSum_60 rfl (lv_at hl 1 rfl) ?_
        obtain ⟨rfl, rfl⟩ := fin_some hg
        exact gr_i S hr hk X dX5_readSum_61
      · have hg := (if_pos c35).symm.trans hg
        exact w_X5_readSum_b38 S hr hk hR hE hrec7 X (lv_sub hl [0, 1, 2] rfl) hg
set_option maxHeartbeats 4000000 in
set_option maxRecDepth 100000 in
theorem w_X5_readSum_L7 {E : S5 → Option (Int32 × S5)} (S : CallFix p m c cX5_readSum 4 s args uG RX5) (hr : meth.sig.returnType = (some .int)) (hk : meth.locks = false) (hR : fE + 11 ≤ R.frames ∧ lE + 249 ≤ R.locals)
    (hE : ∀ (σ τ : S5) (r : Int32), E σ = some (r, τ) → ∀ sz : Nat, Met l yX5_readExpression (Cond.code yX5_readExpression cX5_readExpression 1 (some .int) :: uG) { frames := fE, cells := 0, slots := 0, locals := lE } (gPc (dC, dI) (tC kc) (wC ad kc sv) (zC ak) [.ref (ad 5)] σ sz) (gQi (dC, dI) (tC kc) (wC ad kc sv) (va_A (wC ad kc sv σ) sz) r τ) 0 0 (va_A (wC ad kc sv σ) sz)) : ∀ (n : Nat) (v1 : Int32) (v2 : Int32) (σ : S5) (H : Heap) (locs : List Loc) (ls : Array Slot), gX (dC, dI) (tC kc) (wC ad kc sv) (zC ak) A s σ H locs → lv_has ls 4 [(0, .ref (ad 5)), (1, .int v1), (2, .int v2)] → f_X5_readSum_L7 E n v1 v2 σ = some (r, τ) → W p l e R s m args below meth c H locs 0 0 (MQ below (gQi (dC, dI) (tC kc) (wC ad kc sv) A r τ) args s 0 0 A) (F0 m 7 ls []) := by
  intro n
  induction n with
  | zero => intro v1 v2 σ H locs ls X hl hg; cases hg
  | succ n ih => intro v1 v2 σ H locs ls X hl hg; exact w_X5_readSum_B7 S hr hk hR hE ih X hl hg
set_option maxHeartbeats 4000000 in
set_option maxRecDepth 100000 in
theorem w_X5_readSum {σ : S5} {E : S5 → Option (Int32 × S5)}  {H : Heap} {locs : List Loc} {ls : Array Slot} (S : CallFix p m c cX5_readSum 4 s args uG RX5) (hr : meth.sig.returnType = (some .int)) (hk : meth.locks = false) (hR : fE + 11 ≤ R.frames ∧ lE + 249 ≤ R.locals)
    (hE : ∀ (σ τ : S5) (r : Int32), E σ = some (r, τ) → ∀ sz : Nat, Met l yX5_readExpression (Cond.code yX5_readExpression cX5_readExpression 1 (some .int) :: uG) { frames := fE, cells := 0, slots := 0, locals := lE } (gPc (dC, dI) (tC kc) (wC ad kc sv) (zC ak) [.ref (ad 5)] σ sz) (gQi (dC, dI) (tC kc) (wC ad kc sv) (va_A (wC ad kc sv σ) sz) r τ) 0 0 (va_A (wC ad kc sv σ) sz))
    (X : gX (dC, dI) (tC kc) (wC ad kc sv) (zC ak) A s σ H locs) (hl : lv_has ls 4 [(0, .ref (ad 5))]) (hg : f_X5_readSum E σ = some (r, τ)) : W p l e R s m args below meth c H locs 0 0 (MQ below (gQi (dC, dI) (tC kc) (wC ad kc sv) A r τ) args s 0 0 A) (F0 m 0 ls []) := by
  have hx := S.1
  have hb := S.2.1
  have hown := S.2.2.2.1
  have hu := S.2.2.2.2
  unfold f_X5_readSum at hg
  refine lv_aload_n hx hb dX5_readSum_0 rfl (lv_at hl 0 rfl) ?_
  obtain ⟨r1, τ1, hq1, hg⟩ := bd_some hg
  refine gc_Vi (As := []) (rest := []) (q0 := 5) (ci := 8) S X (k2_X5_readProduct l dC dI ad kc sv hE hq1 H.size) cw_X5_readProduct mG_1173 rfl rfl rfl rfl rfl hl.1 (Nat.le_of_ble_eq_true rfl) dX5_readSum_1 ⟨by omega, by omega⟩ (fun H locs X => ?_)
  refine lv_istore_n (lv' := [(1, .int r1), (0, .ref (ad 5))]) hx hb dX5_readSum_4 rfl hl (by decide) rfl (fun ls hl => ?_)
  refine lv_iconst (v := 0) hx hb dX5_readSum_5 (by decide) ?_
  refine lv_istore_n (lv' := [(2, .int 0), (1, .int r1), (0, .ref (ad 5))]) hx hb dX5_readSum_6 rfl hl (by decide) rfl (fun ls hl => ?_)
  exact w_X5_readSum_L7 S hr hk hR hE _ _ _ _ _ _ _ X (lv_sub hl [2, 1, 0] rfl) hg
end MX5_readSum
set_option maxRecDepth 100000 in
theorem k2_X5_readSum (l : Launch) (dC : Nat → ClassId) (dI : Nat → Nat → Nat) {ak : Nat → Nat} (ad : Nat → Nat) (kc : Nat → ClassId) (sv : Value) {E : S5 → Option (Int32 × S5)} {fE lE : Nat} {σ τ : S5}  {r : Int32} (hE : ∀ (σ τ : S5) (r : Int32), E σ = some (r, τ) → ∀ sz : Nat, Met l yX5_readExpression (Cond.code yX5_readExpression cX5_readExpression 1 (some .int) :: uG) { frames := fE, cells := 0, slots := 0, locals := lE } (gPc (dC, dI) (tC kc) (wC ad kc sv) (zC ak) [.ref (ad 5)] σ sz) (gQi (dC, dI) (tC kc) (wC ad kc sv) (va_A (wC ad kc sv σ) sz) r τ) 0 0 (va_A (wC ad kc sv σ) sz)) (hg : f_X5_readSum E  σ = some (r, τ)) (sz : Nat) : Met l yX5_readSum (Cond.code yX5_readSum cX5_readSum 4 (some .int) :: uG) { frames := fE + 11, cells := 0, slots := 0, locals := lE + 249 } (gPc (dC, dI) (tC kc) (wC ad kc sv) (zC ak) [.ref (ad 5)] σ sz) (gQi (dC, dI) (tC kc) (wC ad kc sv) (va_A (wC ad kc sv σ) sz) r τ) 0 0 (va_A (wC ad kc sv σ) sz) :=
  g_start (by decide) (Nat.le_of_ble_eq_true rfl) (fun p e s m below meth c ls S hr hk X hl => w_X5_readSum S hr hk ⟨Nat.le_refl _, Nat.le_refl _⟩ hE X hl hg)
section MX5_readComparison
variable {p : Program} {l : Launch} {e : Env} {R : Room} {s : State} {m : MethodId} {args : Array Value} {below : List Frame} {meth : Method} {c : Code} {dC : Nat → ClassId} {dI : Nat → Nat → Nat} {ak : Nat → Nat} {A : Nat → Prop} {ad : Nat → Nat} {kc : Nat → ClassId} {sv : Value} {r : Int32} {τ : S5} {fE lE : Nat}
set_option maxHeartbeats 4000000 in
set_option maxRecDepth 100000 in
theorem w_X5_readComparison_b43 {σ : S5} {E : S5 → Option (Int32 × S5)} {v1 : Int32} {H : Heap} {locs : List Loc} {ls : Array Slot} (S : CallFix p m c cX5_readComparison 3 s args uG RX5) (hr : meth.sig.returnType = (some .int)) (hk : meth.locks = false) (hR : fE + 12 ≤ R.frames ∧ lE + 272 ≤ R.locals)
    (hE : ∀ (σ τ : S5) (r : Int32), E σ = some (r, τ) → ∀ sz : Nat, Met l yX5_readExpression (Cond.code yX5_readExpression cX5_readExpression 1 (some .int) :: uG) { frames := fE, cells := 0, slots := 0, locals := lE } (gPc (dC, dI) (tC kc) (wC ad kc sv) (zC ak) [.ref (ad 5)] σ sz) (gQi (dC, dI) (tC kc) (wC ad kc sv) (va_A (wC ad kc sv σ) sz) r τ) 0 0 (va_A (wC ad kc sv σ) sz))
    (X : gX (dC, dI) (tC kc) (wC ad kc sv) (zC ak) A s σ H locs) (hl : lv_has ls 3 [(0, .ref (ad 5)), (1, .int v1)]) (hg : f_X5_readComparison_b43 E v1 σ = some (r, τ)) : W p l e R s m args below meth c H locs 0 0 (MQ below (gQi (dC, dI) (tC kc) (wC ad kc sv) A r τ) args s 0 0 A) (F0 m 43 ls []) := by
  have hx := S.1
  have hb := S.2.1
  have hown := S.2.2.2.1
  have hu := S.2.2.2.2
  unfold f_X5_readComparison_b43 at hg
  refine lv_aload_n hx hb dX5_readComparison_43 rfl (lv_at hl 0 rfl) ?_
  obtain ⟨r44, τ44, hq44, hg⟩ := bd_some hg
  refine gc_Vi (As := []) (rest := []) (q0 := 5) (ci := 8) S X (k2_X5_readSign l dC dI ad kc sv hq44 H.size) cw_X5_readSign mG_1200 rfl rfl rfl rfl rfl hl.1 (Nat.le_of_ble_eq_true rfl) dX5_readComparison_44 ⟨by omega, by omega⟩ (fun H locs X => ?_)
  refine lv_istore_n (lv' := [(2, .int r44), (0, .ref (ad 5)), (1, .int v1)]) hx hb dX5_readComparison_47 rfl hl (by decide) rfl (fun ls hl => ?_)
  refine lv_aload_n hx hb dX5_readComparison_48 rfl (lv_at hl 1 rfl) ?_
  refine lv_iload_n hx hb dX5_readComparison_49 rfl (lv_at hl 0 rfl) ?_
  refine lv_iload_n hx hb dX5_readComparison_50 rfl (lv_at hl 2 rfl) ?_
  refine lv_aload_n hx hb dX5_readComparison_51 rfl (lv_at hl 1 rfl) ?_
  obtain ⟨r52, τ52, hq52, hg⟩ := bd_some hg
  refine gc_Vi (As := []) (rest := [.int v1, .int r44, .ref (ad 5)]) (q0 := 5) (ci := 8) S X (k2_X5_readSum l dC dI ad kc sv hE hq52 H.size) cw_X5_readSum mG_1169 rfl rfl rfl rfl rfl hl.1 (Nat.le_of_ble_eq_true rfl) dX5_readComparison_52 ⟨by omega, by omega⟩ (fun H locs X => ?_)
  obtain ⟨r55, τ55, hq55, hg⟩ := bd_some hg
  refine gc_Vi (As := [.int r44, .int v1, .int r52]) (rest := []) (q0 := 5) (ci := 8) S X (k2_X5_join l dC dI ad kc sv hq55 H.size) cw_X5_join mG_1204 rfl rfl rfl rfl rfl hl.1 (Nat.le_of_ble_eq_true rfl) dX5_readComparison_55 ⟨by omega, by omega⟩ (fun H locs X => ?_)
  refine lv_istore_n (lv' := [(1, .int r55), (2, .int r44), (0, .ref (ad 5))]) hx hb dX5_readComparison_58 rfl hl (by decide) rfl (fun ls hl => ?_)
  refine lv_iload_n hx hb dX5_readComparison_59 rfl (lv_at hl 0 rfl) ?_
  obtain ⟨rfl, rfl⟩ := fin_some hg
  exact gr_i S hr hk X dX5_readComparison_60
set_option maxHeartbeats 4000000 in
set_option maxRecDepth 100000 in
theorem w_X5_readComparison {σ : S5} {E : S5 → Option (Int32 × S5)}  {H : Heap} {locs : List Loc} {ls : Array Slot} (S : CallFix p m c cX5_readComparison 3 s args uG RX5) (hr : meth.sig.returnType = (some .int)) (hk : meth.locks = false) (hR : fE + 12 ≤ R.frames ∧ lE + 272 ≤ R.locals)
    (hE : ∀ (σ τ : S5) (r : Int32), E σ = some (r, τ) → ∀ sz : Nat, Met l yX5_readExpression (Cond.code yX5_readExpression cX5_readExpression 1 (some .int) :: uG) { frames := fE, cells := 0, slots := 0, locals := lE } (gPc (dC, dI) (tC kc) (wC ad kc sv) (zC ak) [.ref (ad 5)] σ sz) (gQi (dC, dI) (tC kc) (wC ad kc sv) (va_A (wC ad kc sv σ) sz) r τ) 0 0 (va_A (wC ad kc sv σ) sz))
    (X : gX (dC, dI) (tC kc) (wC ad kc sv) (zC ak) A s σ H locs) (hl : lv_has ls 3 [(0, .ref (ad 5))]) (hg : f_X5_readComparison E σ = some (r, τ)) : W p l e R s m args below meth c H locs 0 0 (MQ below (gQi (dC, dI) (tC kc) (wC ad kc sv) A r τ) args s 0 0 A) (F0 m 0 ls []) := by
  have hx := S.1
  have hb := S.2.1
  have hown := S.2.2.2.1
  have hu := S.2.2.2.2
  unfold f_X5_readComparison at hg
  refine lv_aload_n hx hb dX5_readComparison_0 rfl (lv_at hl 0 rfl) ?_
  obtain ⟨r1, τ1, hq1, hg⟩ := bd_some hg
  refine gc_Vi (As := []) (rest := []) (q0 := 5) (ci := 8) S X (k2_X5_readSum l dC dI ad kc sv hE hq1 H.size) cw_X5_readSum mG_1169 rfl rfl rfl rfl rfl hl.1 (Nat.le_of_ble_eq_true rfl) dX5_readComparison_1 ⟨by omega, by omega⟩ (fun H locs X => ?_)
  refine lv_istore_n (lv' := [(1, .int r1), (0, .ref (ad 5))]) hx hb dX5_readComparison_4 rfl hl (by decide) rfl (fun ls hl => ?_)
  refine lv_aload_n hx hb dX5_readComparison_5 rfl (lv_at hl 1 rfl) ?_
  refine wcgR_5_0 S X mG_538 dX5_readComparison_6 ?_
  refine wcgI_17 (v := (gI τ1 17)) S X mG_518 rfl dX5_readComparison_9 ?_
  refine lv_sipush (v := 129) hx hb dX5_readComparison_12 (by decide) ?_
  refine lv_icmp_eq (tgt := 43) hx hb dX5_readComparison_15 (by decide) (fun c15 => ?_) (fun c15 => ?_)
  · have hg := (if_pos c15).symm.trans hg
    exact w_X5_readComparison_b43 S hr hk hR hE X (lv_sub hl [1, 0] rfl) hg
  · have hg := (if_neg c15).symm.trans hg
    refine lv_aload_n hx hb dX5_readComparison_18 rfl (lv_at hl 1 rfl) ?_
    refine wcgR_5_0 S X mG_538 dX5_readComparison_19 ?_
    refine wcgI_17 (v := (gI τ1 17)) S X mG_518 rfl dX5_readComparison_22 ?_
    refine lv_bipush (v := 60) hx hb dX5_readComparison_25 (by decide) ?_
    refine lv_icmp_eq (tgt := 43) hx hb dX5_readComparison_27 (by decide) (fun c27 => ?_) (fun c27 => ?_)
    · have hg := (if_pos c27).symm.trans hg
      exact w_X5_readComparison_b43 S hr hk hR hE X (lv_sub hl [1, 0] rfl) hg
    · have hg := (if_neg c27).symm.trans hg
      refine lv_aload_n hx hb dX5_readComparison_30 rfl (lv_at hl 1 rfl) ?_
      refine wcgR_5_0 S X mG_538 dX5_readComparison_31 ?_
      refine wcgI_17 (v := (gI τ1 17)) S X mG_518 rfl dX5_readComparison_34 ?_
      refine lv_sipush (v := 130) hx hb dX5_readComparison_37 (by decide) ?_
      refine lv_icmp_ne (tgt := 59) hx hb dX5_readComparison_40 (by decide) (fun c40 => ?_) (fun c40 => ?_)
      · have hg := (if_neg c40).symm.trans hg
        refine lv_iload_n hx hb dX5_readComparison_59 rfl (lv_at hl 0 rfl) ?_
        obtain ⟨rfl, rfl⟩ := fin_some hg
        exact gr_i S hr hk X dX5_readComparison_60
      · have hg := (if_pos c40).symm.trans hg
        exact w_X5_readComparison_b43 S hr hk hR hE X (lv_sub hl [1, 0] rfl) hg
end MX5_readComparison
set_option maxRecDepth 100000 in
theorem k2_X5_readComparison (l : Launch) (dC : Nat → ClassId) (dI : Nat → Nat → Nat) {ak : Nat → Nat} (ad : Nat → Nat) (kc : Nat → ClassId) (sv : Value) {E : S5 → Option (Int32 × S5)} {fE lE : Nat} {σ τ : S5}  {r : Int32} (hE : ∀ (σ τ : S5) (r : Int32), E σ = some (r, τ) → ∀ sz : Nat, Met l yX5_readExpression (Cond.code yX5_readExpression cX5_readExpression 1 (some .int) :: uG) { frames := fE, cells := 0, slots := 0, locals := lE } (gPc (dC, dI) (tC kc) (wC ad kc sv) (zC ak) [.ref (ad 5)] σ sz) (gQi (dC, dI) (tC kc) (wC ad kc sv) (va_A (wC ad kc sv σ) sz) r τ) 0 0 (va_A (wC ad kc sv σ) sz)) (hg : f_X5_readComparison E  σ = some (r, τ)) (sz : Nat) : Met l yX5_readComparison (Cond.code yX5_readComparison cX5_readComparison 3 (some .int) :: uG) { frames := fE + 12, cells := 0, slots := 0, locals := lE + 272 } (gPc (dC, dI) (tC kc) (wC ad kc sv) (zC ak) [.ref (ad 5)] σ sz) (gQi (dC, dI) (tC kc) (wC ad kc sv) (va_A (wC ad kc sv σ) sz) r τ) 0 0 (va_A (wC ad kc sv σ) sz) :=
  g_start (by decide) (Nat.le_of_ble_eq_true rfl) (fun p e s m below meth c ls S hr hk X hl => w_X5_readComparison S hr hk ⟨Nat.le_refl _, Nat.le_refl _⟩ hE X hl hg)
section MX5_readWithin
variable {p : Program} {l : Launch} {e : Env} {R : Room} {s : State} {m : MethodId} {args : Array Value} {below : List Frame} {meth : Method} {c : Code} {dC : Nat → ClassId} {dI : Nat → Nat → Nat} {ak : Nat → Nat} {A : Nat → Prop} {ad : Nat → Nat} {kc : Nat → ClassId} {sv : Value} {r : Int32} {τ : S5} {fE lE : Nat}
set_option maxHeartbeats 4000000 in
set_option maxRecDepth 100000 in
theorem w_X5_readWithin {σ : S5} {E : S5 → Option (Int32 × S5)} {a1 : Int32} {H : Heap} {locs : List Loc} {ls : Array Slot} (S : CallFix p m c cX5_readWithin 4 s args uG RX5) (hr : meth.sig.returnType = (some .int)) (hk : meth.locks = false) (hR : fE + 1 ≤ R.frames ∧ lE + 20 ≤ R.locals)
    (hE : ∀ (σ τ : S5) (r : Int32), E σ = some (r, τ) → ∀ sz : Nat, Met l yX5_readExpression (Cond.code yX5_readExpression cX5_readExpression 1 (some .int) :: uG) { frames := fE, cells := 0, slots := 0, locals := lE } (gPc (dC, dI) (tC kc) (wC ad kc sv) (zC ak) [.ref (ad 5)] σ sz) (gQi (dC, dI) (tC kc) (wC ad kc sv) (va_A (wC ad kc sv σ) sz) r τ) 0 0 (va_A (wC ad kc sv σ) sz))
    (X : gX (dC, dI) (tC kc) (wC ad kc sv) (zC ak) A s σ H locs) (hl : lv_has ls 4 [(0, .ref (ad 5)), (1, .int a1)]) (hg : f_X5_readWithin E a1 σ = some (r, τ)) : W p l e R s m args below meth c H locs 0 0 (MQ below (gQi (dC, dI) (tC kc) (wC ad kc sv) A r τ) args s 0 0 A) (F0 m 0 ls []) := by
  have hx := S.1
  have hb := S.2.1
  have hown := S.2.2.2.1
  have hu := S.2.2.2.2
  unfold f_X5_readWithin at hg
  refine lv_aload_n hx hb dX5_readWithin_0 rfl (lv_at hl 0 rfl) ?_
  refine wcgI_15 (v := (gI σ 15)) S X mG_549 rfl dX5_readWithin_1 ?_
  refine lv_istore_n (lv' := [(2, .int (gI σ 15)), (0, .ref (ad 5)), (1, .int a1)]) hx hb dX5_readWithin_4 rfl hl (by decide) rfl (fun ls hl => ?_)
  refine lv_aload_n hx hb dX5_readWithin_5 rfl (lv_at hl 1 rfl) ?_
  refine lv_iload_n hx hb dX5_readWithin_6 rfl (lv_at hl 2 rfl) ?_
  refine wcpI_15 S X mG_549 dX5_readWithin_7 (fun H locs X => ?_)
  refine lv_aload_n hx hb dX5_readWithin_10 rfl (lv_at hl 1 rfl) ?_
  obtain ⟨r11, τ11, hq11, hg⟩ := bd_some hg
  refine gc_Vi (As := []) (rest := []) (q0 := 5) (ci := 8) S X (hE _ _ _ hq11 H.size) cw_X5_readExpression mG_1120 rfl rfl rfl rfl rfl hl.1 (Nat.le_of_ble_eq_true rfl) dX5_readWithin_11 ⟨by omega, by omega⟩ (fun H locs X => ?_)
  refine lv_istore_n (lv' := [(3, .int r11), (2, .int (gI σ 15)), (0, .ref (ad 5)), (1, .int a1)]) hx hb dX5_readWithin_14 rfl hl (by decide) rfl (fun ls hl => ?_)
  refine lv_aload_n hx hb dX5_readWithin_15 rfl (lv_at hl 2 rfl) ?_
  refine lv_iload_n hx hb dX5_readWithin_16 rfl (lv_at hl 1 rfl) ?_
  refine wcpI_15 S X mG_549 dX5_readWithin_17 (fun H locs X => ?_)
  refine lv_iload_n hx hb dX5_readWithin_20 rfl (lv_at hl 0 rfl) ?_
  obtain ⟨rfl, rfl⟩ := fin_some hg
  exact gr_i S hr hk X dX5_readWithin_21
end MX5_readWithin
set_option maxRecDepth 100000 in
theorem k2_X5_readWithin (l : Launch) (dC : Nat → ClassId) (dI : Nat → Nat → Nat) {ak : Nat → Nat} (ad : Nat → Nat) (kc : Nat → ClassId) (sv : Value) {E : S5 → Option (Int32 × S5)} {fE lE : Nat} {σ τ : S5} {a1 : Int32} {r : Int32} (hE : ∀ (σ τ : S5) (r : Int32), E σ = some (r, τ) → ∀ sz : Nat, Met l yX5_readExpression (Cond.code yX5_readExpression cX5_readExpression 1 (some .int) :: uG) { frames := fE, cells := 0, slots := 0, locals := lE } (gPc (dC, dI) (tC kc) (wC ad kc sv) (zC ak) [.ref (ad 5)] σ sz) (gQi (dC, dI) (tC kc) (wC ad kc sv) (va_A (wC ad kc sv σ) sz) r τ) 0 0 (va_A (wC ad kc sv σ) sz)) (hg : f_X5_readWithin E a1 σ = some (r, τ)) (sz : Nat) : Met l yX5_readWithin (Cond.code yX5_readWithin cX5_readWithin 4 (some .int) :: uG) { frames := fE + 1, cells := 0, slots := 0, locals := lE + 20 } (gPc (dC, dI) (tC kc) (wC ad kc sv) (zC ak) [.ref (ad 5), .int a1] σ sz) (gQi (dC, dI) (tC kc) (wC ad kc sv) (va_A (wC ad kc sv σ) sz) r τ) 0 0 (va_A (wC ad kc sv σ) sz) :=
  g_start (by decide) (Nat.le_of_ble_eq_true rfl) (fun p e s m below meth c ls S hr hk X hl => w_X5_readWithin S hr hk ⟨Nat.le_refl _, Nat.le_refl _⟩ hE X hl hg)
section MX5_readLifted
variable {p : Program} {l : Launch} {e : Env} {R : Room} {s : State} {m : MethodId} {args : Array Value} {below : List Frame} {meth : Method} {c : Code} {dC : Nat → ClassId} {dI : Nat → Nat → Nat} {ak : Nat → Nat} {A : Nat → Prop} {ad : Nat → Nat} {kc : Nat → ClassId} {sv : Value} {r : Int32} {τ : S5} {fE lE : Nat}
set_option maxHeartbeats 4000000 in
set_option maxRecDepth 100000 in
theorem w_X5_readLifted_b66 {σ : S5} {E : S5 → Option (Int32 × S5)} {v3 : Int32} {u0 : Int32} {H : Heap} {locs : List Loc} {ls : Array Slot} (S : CallFix p m c cX5_readLifted 4 s args uG RX5) (hr : meth.sig.returnType = (some .int)) (hk : meth.locks = false) (hR : fE + 8 ≤ R.frames ∧ lE + 178 ≤ R.locals)
    (hE : ∀ (σ τ : S5) (r : Int32), E σ = some (r, τ) → ∀ sz : Nat, Met l yX5_readExpression (Cond.code yX5_readExpression cX5_readExpression 1 (some .int) :: uG) { frames := fE, cells := 0, slots := 0, locals := lE } (gPc (dC, dI) (tC kc) (wC ad kc sv) (zC ak) [.ref (ad 5)] σ sz) (gQi (dC, dI) (tC kc) (wC ad kc sv) (va_A (wC ad kc sv σ) sz) r τ) 0 0 (va_A (wC ad kc sv σ) sz))
    (X : gX (dC, dI) (tC kc) (wC ad kc sv) (zC ak) A s σ H locs) (hl : lv_has ls 4 [(0, .ref (ad 5)), (3, .int v3)]) (hg : f_X5_readLifted_b66 E v3 u0 σ = some (r, τ)) : W p l e R s m args below meth c H locs 0 0 (MQ below (gQi (dC, dI) (tC kc) (wC ad kc sv) A r τ) args s 0 0 A) (F0 m 66 ls [.int u0, .ref (ad 5)]) := by
  have hx := S.1
  have hb := S.2.1
  have hown := S.2.2.2.1
  have hu := S.2.2.2.2
  unfold f_X5_readLifted_b66 at hg
  obtain ⟨r66, τ66, hq66, hg⟩ := bd_some hg
  refine gc_Vv (As := [.int u0]) (rest := []) (q0 := 5) (ci := 8) S X (k2_X5_expect l dC dI ad kc sv hq66 H.size) cw_X5_expect mG_1072 rfl rfl rfl rfl rfl hl.1 (Nat.le_of_ble_eq_true rfl) dX5_readLifted_66 ⟨by omega, by omega⟩ (fun H locs X => ?_)
  refine lv_aload_n hx hb dX5_readLifted_69 rfl (lv_at hl 0 rfl) ?_
  refine wcgR_5_3 S X mG_541 dX5_readLifted_70 ?_
  refine wcgR_4_4 S X mG_451 dX5_readLifted_73 ?_
  refine lv_iload_n hx hb dX5_readLifted_76 rfl (lv_at hl 1 rfl) ?_
  refine lv_aload_n hx hb dX5_readLifted_77 rfl (lv_at hl 0 rfl) ?_
  refine lv_iload_n hx hb dX5_readLifted_78 rfl (lv_at hl 1 rfl) ?_
  obtain ⟨r79, τ79, hq79, hg⟩ := bd_some hg
  refine gc_Vi (As := [.int v3]) (rest := [.int v3, .ref (ad 37)]) (q0 := 5) (ci := 8) S X (k2_X5_readWithin l dC dI ad kc sv hE hq79 H.size) cw_X5_readWithin mG_1116 rfl rfl rfl rfl rfl hl.1 (Nat.le_of_ble_eq_true rfl) dX5_readLifted_79 ⟨by omega, by omega⟩ (fun H locs X => ?_)
  obtain ⟨hi82, hg⟩ := gd_some hg
  refine wcsA_23 S X hi82 dX5_readLifted_82 (fun H locs X => ?_)
  refine lv_aload_n hx hb dX5_readLifted_83 rfl (lv_at hl 0 rfl) ?_
  refine wcgR_5_1 S X mG_539 dX5_readLifted_84 ?_
  refine lv_bipush (v := 14) hx hb dX5_readLifted_87 (by decide) ?_
  refine lv_iload_n hx hb dX5_readLifted_89 rfl (lv_at hl 1 rfl) ?_
  obtain ⟨r90, τ90, hq90, hg⟩ := bd_some hg
  refine gc_Vi (As := [.int 14, .int v3]) (rest := []) (q0 := 3) (ci := 12) S X (k2_X9_addLeaf l dC dI ad kc sv hq90 H.size) cw_X9_addLeaf mG_1144 rfl rfl rfl rfl rfl hl.1 (Nat.le_of_ble_eq_true rfl) dX5_readLifted_90 ⟨by omega, by omega⟩ (fun H locs X => ?_)
  obtain ⟨rfl, rfl⟩ := fin_some hg
  exact gr_i S hr hk X dX5_readLifted_93
set_option maxHeartbeats 4000000 in
set_option maxRecDepth 100000 in
theorem w_X5_readLifted_b49 {σ : S5} {E : S5 → Option (Int32 × S5)} {v2 : Int32} {v3 : Int32} {H : Heap} {locs : List Loc} {ls : Array Slot} (S : CallFix p m c cX5_readLifted 4 s args uG RX5) (hr : meth.sig.returnType = (some .int)) (hk : meth.locks = false) (hR : fE + 8 ≤ R.frames ∧ lE + 178 ≤ R.locals)
    (hE : ∀ (σ τ : S5) (r : Int32), E σ = some (r, τ) → ∀ sz : Nat, Met l yX5_readExpression (Cond.code yX5_readExpression cX5_readExpression 1 (some .int) :: uG) { frames := fE, cells := 0, slots := 0, locals := lE } (gPc (dC, dI) (tC kc) (wC ad kc sv) (zC ak) [.ref (ad 5)] σ sz) (gQi (dC, dI) (tC kc) (wC ad kc sv) (va_A (wC ad kc sv σ) sz) r τ) 0 0 (va_A (wC ad kc sv σ) sz))
    (X : gX (dC, dI) (tC kc) (wC ad kc sv) (zC ak) A s σ H locs) (hl : lv_has ls 4 [(0, .ref (ad 5)), (2, .int v2), (3, .int v3)]) (hg : f_X5_readLifted_b49 E v2 v3 σ = some (r, τ)) : W p l e R s m args below meth c H locs 0 0 (MQ below (gQi (dC, dI) (tC kc) (wC ad kc sv) A r τ) args s 0 0 A) (F0 m 49 ls []) := by
  have hx := S.1
  have hb := S.2.1
  have hown := S.2.2.2.1
  have hu := S.2.2.2.2
  unfold f_X5_readLifted_b49 at hg
  refine lv_aload_n hx hb dX5_readLifted_49 rfl (lv_at hl 0 rfl) ?_
  refine lv_iload_n hx hb dX5_readLifted_50 rfl (lv_at hl 2 rfl) ?_
  obtain ⟨r51, τ51, hq51, hg⟩ := bd_some hg
  refine gc_Vv (As := [.int v3]) (rest := []) (q0 := 5) (ci := 8) S X (k2_X5_readParameters l dC dI ad kc sv hq51 H.size) cw_X5_readParameters mG_1096 rfl rfl rfl rfl rfl hl.1 (Nat.le_of_ble_eq_true rfl) dX5_readLifted_51 ⟨by omega, by omega⟩ (fun H locs X => ?_)
  refine lv_aload_n hx hb dX5_readLifted_54 rfl (lv_at hl 0 rfl) ?_
  refine lv_iload_n hx hb dX5_readLifted_55 rfl (lv_at hl 1 rfl) ?_
  refine lv_if_eq (tgt := 64) hx hb dX5_readLifted_56 (by decide) (fun c56 => ?_) (fun c56 => ?_)
  · have hg := (if_pos c56).symm.trans hg
    refine lv_bipush (v := 61) hx hb dX5_readLifted_64 (by decide) ?_
    exact w_X5_readLifted_b66 S hr hk hR hE X (lv_sub hl [0, 2] rfl) hg
  · have hg := (if_neg c56).symm.trans hg
    refine lv_bipush (v := 46) hx hb dX5_readLifted_59 (by decide) ?_
    refine lv_goto (tgt := 66) hx hb dX5_readLifted_61 (by decide) ?_
    exact w_X5_readLifted_b66 S hr hk hR hE X (lv_sub hl [0, 2] rfl) hg
set_option maxHeartbeats 4000000 in
set_option maxRecDepth 100000 in
theorem w_X5_readLifted_b17 {σ : S5} {E : S5 → Option (Int32 × S5)} {v1 : Int32} {u0 : Int32} {H : Heap} {locs : List Loc} {ls : Array Slot} (S : CallFix p m c cX5_readLifted 4 s args uG RX5) (hr : meth.sig.returnType = (some .int)) (hk : meth.locks = false) (hR : fE + 8 ≤ R.frames ∧ lE + 178 ≤ R.locals)
    (hE : ∀ (σ τ : S5) (r : Int32), E σ = some (r, τ) → ∀ sz : Nat, Met l yX5_readExpression (Cond.code yX5_readExpression cX5_readExpression 1 (some .int) :: uG) { frames := fE, cells := 0, slots := 0, locals := lE } (gPc (dC, dI) (tC kc) (wC ad kc sv) (zC ak) [.ref (ad 5)] σ sz) (gQi (dC, dI) (tC kc) (wC ad kc sv) (va_A (wC ad kc sv σ) sz) r τ) 0 0 (va_A (wC ad kc sv σ) sz))
    (X : gX (dC, dI) (tC kc) (wC ad kc sv) (zC ak) A s σ H locs) (hl : lv_has ls 4 [(0, .ref (ad 5)), (1, .int v1)]) (hg : f_X5_readLifted_b17 E v1 u0 σ = some (r, τ)) : W p l e R s m args below meth c H locs 0 0 (MQ below (gQi (dC, dI) (tC kc) (wC ad kc sv) A r τ) args s 0 0 A) (F0 m 17 ls [.int u0]) := by
  have hx := S.1
  have hb := S.2.1
  have hown := S.2.2.2.1
  have hu := S.2.2.2.2
  unfold f_X5_readLifted_b17 at hg
  refine lv_istore_n (lv' := [(2, .int u0), (0, .ref (ad 5)), (1, .int v1)]) hx hb dX5_readLifted_17 rfl hl (by decide) rfl (fun ls hl => ?_)
  refine lv_aload_n hx hb dX5_readLifted_18 rfl (lv_at hl 1 rfl) ?_
  refine wcgR_5_3 S X mG_541 dX5_readLifted_19 ?_
  refine lv_aload_n hx hb dX5_readLifted_22 rfl (lv_at hl 1 rfl) ?_
  refine wcgI_15 (v := (gI σ 15)) S X mG_549 rfl dX5_readLifted_23 ?_
  refine lv_iload_n hx hb dX5_readLifted_26 rfl (lv_at hl 2 rfl) ?_
  refine lv_iconst (v := 1) hx hb dX5_readLifted_27 (by decide) ?_
  obtain ⟨r28, τ28, hq28, hg⟩ := bd_some hg
  refine gc_Vi (As := [.int (gI σ 15), .int v1, .int 1]) (rest := []) (q0 := 4) (ci := 9) S X (k2_X6_add l dC dI ad kc sv hq28 H.size) cw_X6_add mG_1084 rfl rfl rfl rfl rfl hl.1 (Nat.le_of_ble_eq_true rfl) dX5_readLifted_28 ⟨by omega, by omega⟩ (fun H locs X => ?_)
  refine lv_istore_n (lv' := [(3, .int r28), (2, .int u0), (0, .ref (ad 5)), (1, .int v1)]) hx hb dX5_readLifted_31 rfl hl (by decide) rfl (fun ls hl => ?_)
  refine lv_iload_n hx hb dX5_readLifted_32 rfl (lv_at hl 1 rfl) ?_
  refine lv_if_eq (tgt := 49) hx hb dX5_readLifted_33 (by decide) (fun c33 => ?_) (fun c33 => ?_)
  · have hg := (if_pos c33).symm.trans hg
    exact w_X5_readLifted_b49 S hr hk hR hE X (lv_sub hl [2, 1, 0] rfl) hg
  · have hg := (if_neg c33).symm.trans hg
    refine lv_aload_n hx hb dX5_readLifted_36 rfl (lv_at hl 2 rfl) ?_
    refine wcgR_5_0 S X mG_538 dX5_readLifted_37 ?_
    obtain ⟨r40, τ40, hq40, hg⟩ := bd_some hg
    refine gc_Vv (As := []) (rest := []) (q0 := 6) (ci := 13) S X (k2_X10_advance l dC dI ad kc sv hq40 H.size) cw_X10_advance mG_1054 rfl rfl rfl rfl rfl hl.1 (Nat.le_of_ble_eq_true rfl) dX5_readLifted_40 ⟨by omega, by omega⟩ (fun H locs X => ?_)
    refine lv_aload_n hx hb dX5_readLifted_43 rfl (lv_at hl 2 rfl) ?_
    refine lv_iload_n hx hb dX5_readLifted_44 rfl (lv_at hl 0 rfl) ?_
    obtain ⟨r45, τ45, hq45, hg⟩ := bd_some hg
    refine gc_Vi (As := [.int r28]) (rest := []) (q0 := 5) (ci := 8) S X (k2_X5_declare l dC dI ad kc sv hq45 H.size) cw_X5_declare mG_1100 rfl rfl rfl rfl rfl hl.1 (Nat.le_of_ble_eq_true rfl) dX5_readLifted_45 ⟨by omega, by omega⟩ (fun H locs X => ?_)
    refine lv_pop hx hb dX5_readLifted_48 rfl ?_
    exact w_X5_readLifted_b49 S hr hk hR hE X (lv_sub hl [2, 1, 0] rfl) hg
set_option maxHeartbeats 4000000 in
set_option maxRecDepth 100000 in
theorem w_X5_readLifted {σ : S5} {E : S5 → Option (Int32 × S5)} {a1 : Int32} {H : Heap} {locs : List Loc} {ls : Array Slot} (S : CallFix p m c cX5_readLifted 4 s args uG RX5) (hr : meth.sig.returnType = (some .int)) (hk : meth.locks = false) (hR : fE + 8 ≤ R.frames ∧ lE + 178 ≤ R.locals)
    (hE : ∀ (σ τ : S5) (r : Int32), E σ = some (r, τ) → ∀ sz : Nat, Met l yX5_readExpression (Cond.code yX5_readExpression cX5_readExpression 1 (some .int) :: uG) { frames := fE, cells := 0, slots := 0, locals := lE } (gPc (dC, dI) (tC kc) (wC ad kc sv) (zC ak) [.ref (ad 5)] σ sz) (gQi (dC, dI) (tC kc) (wC ad kc sv) (va_A (wC ad kc sv σ) sz) r τ) 0 0 (va_A (wC ad kc sv σ) sz))
    (X : gX (dC, dI) (tC kc) (wC ad kc sv) (zC ak) A s σ H locs) (hl : lv_has ls 4 [(0, .ref (ad 5)), (1, .int a1)]) (hg : f_X5_readLifted E a1 σ = some (r, τ)) : W p l e R s m args below meth c H locs 0 0 (MQ below (gQi (dC, dI) (tC kc) (wC ad kc sv) A r τ) args s 0 0 A) (F0 m 0 ls []) := by
  have hx := S.1
  have hb := S.2.1
  have hown := S.2.2.2.1
  have hu := S.2.2.2.2
  unfold f_X5_readLifted at hg
  refine lv_aload_n hx hb dX5_readLifted_0 rfl (lv_at hl 0 rfl) ?_
  refine wcgR_5_0 S X mG_538 dX5_readLifted_1 ?_
  refine wcgI_17 (v := (gI σ 17)) S X mG_518 rfl dX5_readLifted_4 ?_
  refine lv_bipush (v := 92) hx hb dX5_readLifted_7 (by decide) ?_
  refine lv_icmp_ne (tgt := 16) hx hb dX5_readLifted_9 (by decide) (fun c9 => ?_) (fun c9 => ?_)
  · have hg := (if_neg c9).symm.trans hg
    refine lv_iconst (v := 0) hx hb dX5_readLifted_16 (by decide) ?_
    exact w_X5_readLifted_b17 S hr hk hR hE X (lv_sub hl [0, 1] rfl) hg
  · have hg := (if_pos c9).symm.trans hg
    refine lv_iconst (v := 1) hx hb dX5_readLifted_12 (by decide) ?_
    refine lv_goto (tgt := 17) hx hb dX5_readLifted_13 (by decide) ?_
    exact w_X5_readLifted_b17 S hr hk hR hE X (lv_sub hl [0, 1] rfl) hg
end MX5_readLifted
set_option maxRecDepth 100000 in
theorem k2_X5_readLifted (l : Launch) (dC : Nat → ClassId) (dI : Nat → Nat → Nat) {ak : Nat → Nat} (ad : Nat → Nat) (kc : Nat → ClassId) (sv : Value) {E : S5 → Option (Int32 × S5)} {fE lE : Nat} {σ τ : S5} {a1 : Int32} {r : Int32} (hE : ∀ (σ τ : S5) (r : Int32), E σ = some (r, τ) → ∀ sz : Nat, Met l yX5_readExpression (Cond.code yX5_readExpression cX5_readExpression 1 (some .int) :: uG) { frames := fE, cells := 0, slots := 0, locals := lE } (gPc (dC, dI) (tC kc) (wC ad kc sv) (zC ak) [.ref (ad 5)] σ sz) (gQi (dC, dI) (tC kc) (wC ad kc sv) (va_A (wC ad kc sv σ) sz) r τ) 0 0 (va_A (wC ad kc sv σ) sz)) (hg : f_X5_readLifted E a1 σ = some (r, τ)) (sz : Nat) : Met l yX5_readLifted (Cond.code yX5_readLifted cX5_readLifted 4 (some .int) :: uG) { frames := fE + 8, cells := 0, slots := 0, locals := lE + 178 } (gPc (dC, dI) (tC kc) (wC ad kc sv) (zC ak) [.ref (ad 5), .int a1] σ sz) (gQi (dC, dI) (tC kc) (wC ad kc sv) (va_A (wC ad kc sv σ) sz) r τ) 0 0 (va_A (wC ad kc sv σ) sz) :=
  g_start (by decide) (Nat.le_of_ble_eq_true rfl) (fun p e s m below meth c ls S hr hk X hl => w_X5_readLifted S hr hk ⟨Nat.le_refl _, Nat.le_refl _⟩ hE X hl hg)
section MX5_readBinding
variable {p : Program} {l : Launch} {e : Env} {R : Room} {s : State} {m : MethodId} {args : Array Value} {below : List Frame} {meth : Method} {c : Code} {dC : Nat → ClassId} {dI : Nat → Nat → Nat} {ak : Nat → Nat} {A : Nat → Prop} {ad : Nat → Nat} {kc : Nat → ClassId} {sv : Value} {r : Int32} {τ : S5} {fE lE : Nat}
set_option maxHeartbeats 4000000 in
set_option maxRecDepth 100000 in
theorem w_X5_readBinding_b52 {σ : S5} {E : S5 → Option (Int32 × S5)} {v2 : Int32} {v3 : Int32} {H : Heap} {locs : List Loc} {ls : Array Slot} (S : CallFix p m c cX5_readBinding 4 s args uG RX5) (hr : meth.sig.returnType = (some .int)) (hk : meth.locks = false) (hR : fE + 9 ≤ R.frames ∧ lE + 201 ≤ R.locals)
    (hE : ∀ (σ τ : S5) (r : Int32), E σ = some (r, τ) → ∀ sz : Nat, Met l yX5_readExpression (Cond.code yX5_readExpression cX5_readExpression 1 (some .int) :: uG) { frames := fE, cells := 0, slots := 0, locals := lE } (gPc (dC, dI) (tC kc) (wC ad kc sv) (zC ak) [.ref (ad 5)] σ sz) (gQi (dC, dI) (tC kc) (wC ad kc sv) (va_A (wC ad kc sv σ) sz) r τ) 0 0 (va_A (wC ad kc sv σ) sz))
    (X : gX (dC, dI) (tC kc) (wC ad kc sv) (zC ak) A s σ H locs) (hl : lv_has ls 4 [(0, .ref (ad 5)), (2, .int v2), (3, .int v3)]) (hg : f_X5_readBinding_b52 E v2 v3 σ = some (r, τ)) : W p l e R s m args below meth c H locs 0 0 (MQ below (gQi (dC, dI) (tC kc) (wC ad kc sv) A r τ) args s 0 0 A) (F0 m 52 ls []) := by
  have hx := S.1
  have hb := S.2.1
  have hown := S.2.2.2.1
  have hu := S.2.2.2.2
  unfold f_X5_readBinding_b52 at hg
  refine lv_aload_n hx hb dX5_readBinding_52 rfl (lv_at hl 0 rfl) ?_
  refine wcgR_5_1 S X mG_539 dX5_readBinding_53 ?_
  refine lv_bipush (v := 10) hx hb dX5_readBinding_56 (by decide) ?_
  refine lv_iload_n hx hb dX5_readBinding_58 rfl (lv_at hl 1 rfl) ?_
  refine lv_iconst (v := 0) hx hb dX5_readBinding_59 (by decide) ?_
  refine lv_iload_n hx hb dX5_readBinding_60 rfl (lv_at hl 2 rfl) ?_
  obtain ⟨r61, τ61, hq61, hg⟩ := bd_some hg
  refine gc_Vi (As := [.int 10, .int v2, .int 0, .int v3]) (rest := []) (q0 := 3) (ci := 12) S X (k2_X9_add l dC dI ad kc sv hq61 H.size) cw_X9_add mG_1152 rfl rfl rfl rfl rfl hl.1 (Nat.le_of_ble_eq_true rfl) dX5_readBinding_61 ⟨by omega, by omega⟩ (fun H locs X => ?_)
  obtain ⟨rfl, rfl⟩ := fin_some hg
  exact gr_i S hr hk X dX5_readBinding_64
set_option maxHeartbeats 4000000 in
set_option maxRecDepth 100000 in
theorem w_X5_readBinding {σ : S5} {E : S5 → Option (Int32 × S5)}  {H : Heap} {locs : List Loc} {ls : Array Slot} (S : CallFix p m c cX5_readBinding 4 s args uG RX5) (hr : meth.sig.returnType = (some .int)) (hk : meth.locks = false) (hR : fE + 9 ≤ R.frames ∧ lE + 201 ≤ R.locals)
    (hE : ∀ (σ τ : S5) (r : Int32), E σ = some (r, τ) → ∀ sz : Nat, Met l yX5_readExpression (Cond.code yX5_readExpression cX5_readExpression 1 (some .int) :: uG) { frames := fE, cells := 0, slots := 0, locals := lE } (gPc (dC, dI) (tC kc) (wC ad kc sv) (zC ak) [.ref (ad 5)] σ sz) (gQi (dC, dI) (tC kc) (wC ad kc sv) (va_A (wC ad kc sv σ) sz) r τ) 0 0 (va_A (wC ad kc sv σ) sz))
    (X : gX (dC, dI) (tC kc) (wC ad kc sv) (zC ak) A s σ H locs) (hl : lv_has ls 4 [(0, .ref (ad 5))]) (hg : f_X5_readBinding E σ = some (r, τ)) : W p l e R s m args below meth c H locs 0 0 (MQ below (gQi (dC, dI) (tC kc) (wC ad kc sv) A r τ) args s 0 0 A) (F0 m 0 ls []) := by
  have hx := S.1
  have hb := S.2.1
  have hown := S.2.2.2.1
  have hu := S.2.2.2.2
  unfold f_X5_readBinding at hg
  refine lv_aload_n hx hb dX5_readBinding_0 rfl (lv_at hl 0 rfl) ?_
  refine wcgR_5_0 S X mG_538 dX5_readBinding_1 ?_
  refine wcgI_18 (v := (gI σ 18)) S X mG_519 rfl dX5_readBinding_4 ?_
  refine lv_istore_n (lv' := [(1, .int (gI σ 18)), (0, .ref (ad 5))]) hx hb dX5_readBinding_7 rfl hl (by decide) rfl (fun ls hl => ?_)
  refine lv_aload_n hx hb dX5_readBinding_8 rfl (lv_at hl 1 rfl) ?_
  refine lv_aload_n hx hb dX5_readBinding_9 rfl (lv_at hl 1 rfl) ?_
  refine wcgI_15 (v := (gI σ 15)) S X mG_549 rfl dX5_readBinding_10 ?_
  obtain ⟨r13, τ13, hq13, hg⟩ := bd_some hg
  refine gc_Vi (As := [.int (gI σ 15)]) (rest := []) (q0 := 5) (ci := 8) S X (k2_X5_declare l dC dI ad kc sv hq13 H.size) cw_X5_declare mG_1100 rfl rfl rfl rfl rfl hl.1 (Nat.le_of_ble_eq_true rfl) dX5_readBinding_13 ⟨by omega, by omega⟩ (fun H locs X => ?_)
  refine lv_istore_n (lv' := [(2, .int r13), (1, .int (gI σ 18)), (0, .ref (ad 5))]) hx hb dX5_readBinding_16 rfl hl (by decide) rfl (fun ls hl => ?_)
  refine lv_aload_n hx hb dX5_readBinding_17 rfl (lv_at hl 2 rfl) ?_
  refine wcgR_5_0 S X mG_538 dX5_readBinding_18 ?_
  refine wcgI_17 (v := (gI τ13 17)) S X mG_518 rfl dX5_readBinding_21 ?_
  refine lv_iconst (v := 3) hx hb dX5_readBinding_24 (by decide) ?_
  refine lv_icmp_ne (tgt := 41) hx hb dX5_readBinding_25 (by decide) (fun c25 => ?_) (fun c25 => ?_)
  · have hg := (if_neg c25).symm.trans hg
    refine lv_aload_n hx hb dX5_readBinding_41 rfl (lv_at hl 2 rfl) ?_
    refine lv_bipush (v := 61) hx hb dX5_readBinding_42 (by decide) ?_
    obtain ⟨r44, τ44, hq44, hg⟩ := bd_some hg
    refine gc_Vv (As := [.int 61]) (rest := []) (q0 := 5) (ci := 8) S X (k2_X5_expect l dC dI ad kc sv hq44 H.size) cw_X5_expect mG_1072 rfl rfl rfl rfl rfl hl.1 (Nat.le_of_ble_eq_true rfl) dX5_readBinding_44 ⟨by omega, by omega⟩ (fun H locs X => ?_)
    refine lv_aload_n hx hb dX5_readBinding_47 rfl (lv_at hl 2 rfl) ?_
    obtain ⟨r48, τ48, hq48, hg⟩ := bd_some hg
    refine gc_Vi (As := []) (rest := []) (q0 := 5) (ci := 8) S X (hE _ _ _ hq48 H.size) cw_X5_readExpression mG_1120 rfl rfl rfl rfl rfl hl.1 (Nat.le_of_ble_eq_true rfl) dX5_readBinding_48 ⟨by omega, by omega⟩ (fun H locs X => ?_)
    refine lv_istore_n (lv' := [(3, .int r48), (2, .int r13), (1, .int (gI σ 18)), (0, .ref (ad 5))]) hx hb dX5_readBinding_51 rfl hl (by decide) rfl (fun ls hl => ?_)
    exact w_X5_readBinding_b52 S hr hk hR hE X (lv_sub hl [3, 1, 0] rfl) hg
  · have hg := (if_pos c25).symm.trans hg
    refine lv_aload_n hx hb dX5_readBinding_28 rfl (lv_at hl 2 rfl) ?_
    obtain ⟨r29, τ29, hq29, hg⟩ := bd_some hg
    refine gc_Vv (As := []) (rest := []) (q0 := 5) (ci := 8) S X (k2_X5_countPart l dC dI ad kc sv hq29 H.size) cw_X5_countPart mG_1132 rfl rfl rfl rfl rfl hl.1 (Nat.le_of_ble_eq_true rfl) dX5_readBinding_29 ⟨by omega, by omega⟩ (fun H locs X => ?_)
    refine lv_aload_n hx hb dX5_readBinding_32 rfl (lv_at hl 2 rfl) ?_
    refine lv_iload_n hx hb dX5_readBinding_33 rfl (lv_at hl 1 rfl) ?_
    obtain ⟨r34, τ34, hq34, hg⟩ := bd_some hg
    refine gc_Vi (As := [.int (gI σ 18)]) (rest := []) (q0 := 5) (ci := 8) S X (k2_X5_readLifted l dC dI ad kc sv hE hq34 H.size) cw_X5_readLifted mG_1140 rfl rfl rfl rfl rfl hl.1 (Nat.le_of_ble_eq_true rfl) dX5_readBinding_34 ⟨by omega, by omega⟩ (fun H locs X => ?_)
    refine lv_istore_n (lv' := [(3, .int r34), (2, .int r13), (1, .int (gI σ 18)), (0, .ref (ad 5))]) hx hb dX5_readBinding_37 rfl hl (by decide) rfl (fun ls hl => ?_)
    refine lv_goto (tgt := 52) hx hb dX5_readBinding_38 (by decide) ?_
    exact w_X5_readBinding_b52 S hr hk hR hE X (lv_sub hl [3, 1, 0] rfl) hg
end MX5_readBinding
set_option maxRecDepth 100000 in
theorem k2_X5_readBinding (l : Launch) (dC : Nat → ClassId) (dI : Nat → Nat → Nat) {ak : Nat → Nat} (ad : Nat → Nat) (kc : Nat → ClassId) (sv : Value) {E : S5 → Option (Int32 × S5)} {fE lE : Nat} {σ τ : S5}  {r : Int32} (hE : ∀ (σ τ : S5) (r : Int32), E σ = some (r, τ) → ∀ sz : Nat, Met l yX5_readExpression (Cond.code yX5_readExpression cX5_readExpression 1 (some .int) :: uG) { frames := fE, cells := 0, slots := 0, locals := lE } (gPc (dC, dI) (tC kc) (wC ad kc sv) (zC ak) [.ref (ad 5)] σ sz) (gQi (dC, dI) (tC kc) (wC ad kc sv) (va_A (wC ad kc sv σ) sz) r τ) 0 0 (va_A (wC ad kc sv σ) sz)) (hg : f_X5_readBinding E  σ = some (r, τ)) (sz : Nat) : Met l yX5_readBinding (Cond.code yX5_readBinding cX5_readBinding 4 (some .int) :: uG) { frames := fE + 9, cells := 0, slots := 0, locals := lE + 201 } (gPc (dC, dI) (tC kc) (wC ad kc sv) (zC ak) [.ref (ad 5)] σ sz) (gQi (dC, dI) (tC kc) (wC ad kc sv) (va_A (wC ad kc sv σ) sz) r τ) 0 0 (va_A (wC ad kc sv σ) sz) :=
  g_start (by decide) (Nat.le_of_ble_eq_true rfl) (fun p e s m below meth c ls S hr hk X hl => w_X5_readBinding S hr hk ⟨Nat.le_refl _, Nat.le_refl _⟩ hE X hl hg)
section MX5_readLet
variable {p : Program} {l : Launch} {e : Env} {R : Room} {s : State} {m : MethodId} {args : Array Value} {below : List Frame} {meth : Method} {c : Code} {dC : Nat → ClassId} {dI : Nat → Nat → Nat} {ak : Nat → Nat} {A : Nat → Prop} {ad : Nat → Nat} {kc : Nat → ClassId} {sv : Value} {r : Int32} {τ : S5} {fE lE : Nat}
set_option maxHeartbeats 4000000 in
set_option maxRecDepth 100000 in
theorem w_X5_readLet_b114 {σ : S5} {E : S5 → Option (Int32 × S5)} {v1 : Int32} {v2 : Int32} {v3 : Int32} {H : Heap} {locs : List Loc} {ls : Array Slot} (S : CallFix p m c cX5_readLet 7 s args uG RX5) (hr : meth.sig.returnType = (some .int)) (hk : meth.locks = false) (hR : fE + 10 ≤ R.frames ∧ lE + 224 ≤ R.locals)
    (hE : ∀ (σ τ : S5) (r : Int32), E σ = some (r, τ) → ∀ sz : Nat, Met l yX5_readExpression (Cond.code yX5_readExpression cX5_readExpression 1 (some .int) :: uG) { frames := fE, cells := 0, slots := 0, locals := lE } (gPc (dC, dI) (tC kc) (wC ad kc sv) (zC ak) [.ref (ad 5)] σ sz) (gQi (dC, dI) (tC kc) (wC ad kc sv) (va_A (wC ad kc sv σ) sz) r τ) 0 0 (va_A (wC ad kc sv σ) sz))
    (X : gX (dC, dI) (tC kc) (wC ad kc sv) (zC ak) A s σ H locs) (hl : lv_has ls 7 [(0, .ref (ad 5)), (1, .int v1), (2, .int v2), (3, .int v3)]) (hg : f_X5_readLet_b114 E v1 v2 v3 σ = some (r, τ)) : W p l e R s m args below meth c H locs 0 0 (MQ below (gQi (dC, dI) (tC kc) (wC ad kc sv) A r τ) args s 0 0 A) (F0 m 114 ls []) := by
  have hx := S.1
  have hb := S.2.1
  have hown := S.2.2.2.1
  have hu := S.2.2.2.2
  unfold f_X5_readLet_b114 at hg
  refine lv_aload_n hx hb dX5_readLet_114 rfl (lv_at hl 0 rfl) ?_
  refine lv_bipush (v := 8) hx hb dX5_readLet_115 (by decide) ?_
  obtain ⟨r117, τ117, hq117, hg⟩ := bd_some hg
  refine gc_Vv (As := [.int 8]) (rest := []) (q0 := 5) (ci := 8) S X (k2_X5_expect l dC dI ad kc sv hq117 H.size) cw_X5_expect mG_1072 rfl rfl rfl rfl rfl hl.1 (Nat.le_of_ble_eq_true rfl) dX5_readLet_117 ⟨by omega, by omega⟩ (fun H locs X => ?_)
  refine lv_aload_n hx hb dX5_readLet_120 rfl (lv_at hl 0 rfl) ?_
  obtain ⟨r121, τ121, hq121, hg⟩ := bd_some hg
  refine gc_Vi (As := []) (rest := []) (q0 := 5) (ci := 8) S X (hE _ _ _ hq121 H.size) cw_X5_readExpression mG_1120 rfl rfl rfl rfl rfl hl.1 (Nat.le_of_ble_eq_true rfl) dX5_readLet_121 ⟨by omega, by omega⟩ (fun H locs X => ?_)
  refine lv_istore (lv' := [(5, .int r121), (0, .ref (ad 5)), (1, .int v1), (2, .int v2), (3, .int v3)]) hx hb dX5_readLet_124 hl (by decide) rfl (fun ls hl => ?_)
  refine lv_aload_n hx hb dX5_readLet_126 rfl (lv_at hl 1 rfl) ?_
  refine wcgR_5_1 S X mG_539 dX5_readLet_127 ?_
  refine wcgR_3_4 S X mG_403 dX5_readLet_130 ?_
  refine lv_iload hx hb dX5_readLet_133 (lv_at hl 0 rfl) ?_
  refine lv_iload_n hx hb dX5_readLet_135 rfl (lv_at hl 4 rfl) ?_
  obtain ⟨hi136, hg⟩ := gd_some hg
  refine wcsA_17 S X hi136 dX5_readLet_136 (fun H locs X => ?_)
  refine lv_aload_n hx hb dX5_readLet_137 rfl (lv_at hl 1 rfl) ?_
  refine lv_iload_n hx hb dX5_readLet_138 rfl (lv_at hl 2 rfl) ?_
  refine wcpI_15 S X mG_549 dX5_readLet_139 (fun H locs X => ?_)
  refine lv_aload_n hx hb dX5_readLet_142 rfl (lv_at hl 1 rfl) ?_
  refine lv_dup hx hb dX5_readLet_143 rfl ?_
  refine wcgI_14 (v := (gI τ121 14)) S X mG_548 rfl dX5_readLet_144 ?_
  refine lv_iconst (v := 1) hx hb dX5_readLet_147 (by decide) ?_
  refine lv_isub hx hb dX5_readLet_148 ?_
  refine wcpI_14 S X mG_548 dX5_readLet_149 (fun H locs X => ?_)
  refine lv_aload_n hx hb dX5_readLet_152 rfl (lv_at hl 1 rfl) ?_
  refine wcgR_5_1 S X mG_539 dX5_readLet_153 ?_
  refine lv_bipush (v := 7) hx hb dX5_readLet_156 (by decide) ?_
  refine lv_iconst (v := 0) hx hb dX5_readLet_158 (by decide) ?_
  refine lv_iload_n hx hb dX5_readLet_159 rfl (lv_at hl 3 rfl) ?_
  refine lv_iload hx hb dX5_readLet_160 (lv_at hl 0 rfl) ?_
  obtain ⟨r162, τ162, hq162, hg⟩ := bd_some hg
  refine gc_Vi (As := [.int 7, .int 0, .int v2, .int r121]) (rest := []) (q0 := 3) (ci := 12) S X (k2_X9_add l dC dI ad kc sv hq162 H.size) cw_X9_add mG_1152 rfl rfl rfl rfl rfl hl.1 (Nat.le_of_ble_eq_true rfl) dX5_readLet_162 ⟨by omega, by omega⟩ (fun H locs X => ?_)
  obtain ⟨rfl, rfl⟩ := fin_some hg
  exact gr_i S hr hk X dX5_readLet_165
set_option maxHeartbeats 4000000 in
set_option maxRecDepth 100000 in
theorem w_X5_readLet_B61 {σ : S5} {E : S5 → Option (Int32 × S5)} {rec61 : Int32 → Int32 → Int32 → Int32 → Int32 → S5 → Option (Int32 × S5)} {v1 : Int32} {v2 : Int32} {v3 : Int32} {v4 : Int32} {v5 : Int32} {H : Heap} {locs : List Loc} {ls : Array Slot} (S : CallFix p m c cX5_readLet 7 s args uG RX5) (hr : meth.sig.returnType = (some .int)) (hk : meth.locks = false) (hR : fE + 10 ≤ R.frames ∧ lE + 224 ≤ R.locals)
    (hE : ∀ (σ τ : S5) (r : Int32), E σ = some (r, τ) → ∀ sz : Nat, Met l yX5_readExpression (Cond.code yX5_readExpression cX5_readExpression 1 (some .int) :: uG) { frames := fE, cells := 0, slots := 0, locals := lE } (gPc (dC, dI) (tC kc) (wC ad kc sv) (zC ak) [.ref (ad 5)] σ sz) (gQi (dC, dI) (tC kc) (wC ad kc sv) (va_A (wC ad kc sv σ) sz) r τ) 0 0 (va_A (wC ad kc sv σ) sz))
    (hrec61 : ∀ (v1 : Int32) (v2 : Int32) (v3 : Int32) (v4 : Int32) (v5 : Int32) (σ : S5) (H : Heap) (locs : List Loc) (ls : Array Slot), gX (dC, dI) (tC kc) (wC ad kc sv) (zC ak) A s σ H locs → lv_has ls 7 [(0, .ref (ad 5)), (1, .int v1), (2, .int v2), (3, .int v3), (4, .int v4), (5, .int v5)] → rec61 v1 v2 v3 v4 v5 σ = some (r, τ) → W p l e R s m args below meth c H locs 0 0 (MQ below (gQi (dC, dI) (tC kc) (wC ad kc sv) A r τ) args s 0 0 A) (F0 m 61 ls []))
    (X : gX (dC, dI) (tC kc) (wC ad kc sv) (zC ak) A s σ H locs) (hl : lv_has ls 7 [(0, .ref (ad 5)), (1, .int v1), (2, .int v2), (3, .int v3), (4, .int v4), (5, .int v5)]) (hg : f_X5_readLet_B61 E rec61 v1 v2 v3 v4 v5 σ = some (r, τ)) : W p l e R s m args below meth c H locs 0 0 (MQ below (gQi (dC, dI) (tC kc) (wC ad kc sv) A r τ) args s 0 0 A) (F0 m 61 ls []) := by
  have hx := S.1
  have hb := S.2.1
  have hown := S.2.2.2.1
  have hu := S.2.2.2.2
  unfold f_X5_readLet_B61 at hg
  refine lv_iload hx hb dX5_readLet_61 (lv_at hl 5 rfl) ?_
  refine lv_iconst (v := 5) hx hb dX5_readLet_63 (by decide) ?_
  refine lv_icmp_gt (tgt := 114) hx hb dX5_readLet_64 (by decide) (fun c64 => ?_) (fun c64 => ?_)
  · have hg := (if_pos c64).symm.trans hg
    exact w_X5_readLet_b114 S hr hk hR hE X (lv_sub hl [0, 1, 2, 3] rfl) hg
  · have hg := (if_neg c64).symm.trans hg
    refine lv_aload_n hx hb dX5_readLet_67 rfl (lv_at hl 0 rfl) ?_
    refine wcgR_5_0 S X mG_538 dX5_readLet_68 ?_
    refine wcgI_17 (v := (gI σ 17)) S X mG_518 rfl dX5_readLet_71 ?_
    refine lv_bipush (v := 44) hx hb dX5_readLet_74 (by decide) ?_
    refine lv_icmp_ne (tgt := 114) hx hb dX5_readLet_76 (by decide) (fun c76 => ?_) (fun c76 => ?_)
    · have hg := (if_neg c76).symm.trans hg
      exact w_X5_readLet_b114 S hr hk hR hE X (lv_sub hl [0, 1, 2, 3] rfl) hg
    · have hg := (if_pos c76).symm.trans hg
      refine lv_aload_n hx hb dX5_readLet_79 rfl (lv_at hl 0 rfl) ?_
      refine wcgR_5_0 S X mG_538 dX5_readLet_80 ?_
      obtain ⟨r83, τ83, hq83, hg⟩ := bd_some hg
      refine gc_Vv (As := []) (rest := []) (q0 := 6) (ci := 13) S X (k2_X10_advance l dC dI ad kc sv hq83 H.size) cw_X10_advance mG_1054 rfl rfl rfl rfl rfl hl.1 (Nat.le_of_ble_eq_true rfl) dX5_readLet_83 ⟨by omega, by omega⟩ (fun H locs X => ?_)
      refine lv_aload_n hx hb dX5_readLet_86 rfl (lv_at hl 0 rfl) ?_
      obtain ⟨r87, τ87, hq87, hg⟩ := bd_some hg
      refine gc_Vi (As := []) (rest := []) (q0 := 5) (ci := 8) S X (k2_X5_readBinding l dC dI ad kc sv hE hq87 H.size) cw_X5_readBinding mG_1136 rfl rfl rfl rfl rfl hl.1 (Nat.le_of_ble_eq_true rfl) dX5_readLet_87 ⟨by omega, by omega⟩ (fun H locs X => ?_)
      refine lv_istore (lv' := [(6, .int r87), (0, .ref (ad 5)), (1, .int v1), (2, .int v2), (3, .int v3), (4, .int v4), (5, .int v5)]) hx hb dX5_readLet_90 hl (by decide) rfl (fun ls hl => ?_)
      refine lv_aload_n hx hb dX5_readLet_92 rfl (lv_at hl 1 rfl) ?_
      refine wcgR_5_1 S X mG_539 dX5_readLet_93 ?_
      refine wcgR_3_4 S X mG_403 dX5_readLet_96 ?_
      refine lv_iload hx hb dX5_readLet_99 (lv_at hl 5 rfl) ?_
      refine lv_iload hx hb dX5_readLet_101 (lv_at hl 0 rfl) ?_
      obtain ⟨hi103, hg⟩ := gd_some hg
      refine wcsA_17 S X hi103 dX5_readLet_103 (fun H locs X => ?_)
      refine lv_iload hx hb dX5_readLet_104 (lv_at hl 0 rfl) ?_
      refine lv_istore (lv' := [(4, .int r87), (6, .int r87), (0, .ref (ad 5)), (1, .int v1), (2, .int v2), (3, .int v3), (5, .int v5)]) hx hb dX5_readLet_106 hl (by decide) rfl (fun ls hl => ?_)
      refine lv_iinc (v := (v5 + 1)) (lv' := [(5, .int (v5 + 1)), (4, .int r87), (6, .int r87), (0, .ref (ad 5)), (1, .int v1), (2, .int v2), (3, .int v3)]) hx hb dX5_readLet_108 hl (k := 6) rfl (by rfl) (by decide) rfl (fun ls hl => ?_)
      refine lv_goto (tgt := 61) hx hb dX5_readLet_111 (by decide) ?_
      exact hrec61 _ _ _ _ _ _ _ _ _ X (lv_sub hl [3, 4, 5, 6, 1, 0] rfl) hg
set_option maxHeartbeats 4000000 in
set_option maxRecDepth 100000 in
theorem w_X5_readLet_L61 {E : S5 → Option (Int32 × S5)} (S : CallFix p m c cX5_readLet 7 s args uG RX5) (hr : meth.sig.returnType = (some .int)) (hk : meth.locks = false) (hR : fE + 10 ≤ R.frames ∧ lE + 224 ≤ R.locals)
    (hE : ∀ (σ τ : S5) (r : Int32), E σ = some (r, τ) → ∀ sz : Nat, Met l yX5_readExpression (Cond.code yX5_readExpression cX5_readExpression 1 (some .int) :: uG) { frames := fE, cells := 0, slots := 0, locals := lE } (gPc (dC, dI) (tC kc) (wC ad kc sv) (zC ak) [.ref (ad 5)] σ sz) (gQi (dC, dI) (tC kc) (wC ad kc sv) (va_A (wC ad kc sv σ) sz) r τ) 0 0 (va_A (wC ad kc sv σ) sz)) : ∀ (n : Nat) (v1 : Int32) (v2 : Int32) (v3 : Int32) (v4 : Int32) (v5 : Int32) (σ : S5) (H : Heap) (locs : List Loc) (ls : Array Slot), gX (dC, dI) (tC kc) (wC ad kc sv) (zC ak) A s σ H locs → lv_has ls 7 [(0, .ref (ad 5)), (1, .int v1), (2, .int v2), (3, .int v3), (4, .int v4), (5, .int v5)] → f_X5_readLet_L61 E n v1 v2 v3 v4 v5 σ = some (r, τ) → W p l e R s m args below meth c H locs 0 0 (MQ below (gQi (dC, dI) (tC kc) (wC ad kc sv) A r τ) args s 0 0 A) (F0 m 61 ls []) := by
  intro n
  induction n with
  | zero => intro v1 v2 v3 v4 v5 σ H locs ls X hl hg; cases hg
  | succ n ih => intro v1 v2 v3 v4 v5 σ H locs ls X hl hg; exact w_X5_readLet_B61 S hr hk hR hE ih X hl hg
set_option maxHeartbeats 4000000 in
set_option maxRecDepth 100000 in
theorem w_X5_readLet {σ : S5} {E : S5 → Option (Int32 × S5)}  {H : Heap} {locs : List Loc} {ls : Array Slot} (S : CallFix p m c cX5_readLet 7 s args uG RX5) (hr : meth.sig.returnType = (some .int)) (hk : meth.locks = false) (hR : fE + 10 ≤ R.frames ∧ lE + 224 ≤ R.locals)
    (hE : ∀ (σ τ : S5) (r : Int32), E σ = some (r, τ) → ∀ sz : Nat, Met l yX5_readExpression (Cond.code yX5_readExpression cX5_readExpression 1 (some .int) :: uG) { frames := fE, cells := 0, slots := 0, locals := lE } (gPc (dC, dI) (tC kc) (wC ad kc sv) (zC ak) [.ref (ad 5)] σ sz) (gQi (dC, dI) (tC kc) (wC ad kc sv) (va_A (wC ad kc sv σ) sz) r τ) 0 0 (va_A (wC ad kc sv σ) sz))
    (X : gX (dC, dI) (tC kc) (wC ad kc sv) (zC ak) A s σ H locs) (hl : lv_has ls 7 [(0, .ref (ad 5))]) (hg : f_X5_readLet E σ = some (r, τ)) : W p l e R s m args below meth c H locs 0 0 (MQ below (gQi (dC, dI) (tC kc) (wC ad kc sv) A r τ) args s 0 0 A) (F0 m 0 ls []) := by
  have hx := S.1
  have hb := S.2.1
  have hown := S.2.2.2.1
  have hu := S.2.2.2.2
  unfold f_X5_readLet at hg
  refine lv_aload_n hx hb dX5_readLet_0 rfl (lv_at hl 0 rfl) ?_
  obtain ⟨r1, τ1, hq1, hg⟩ := bd_some hg
  refine gc_Vi (As := []) (rest := []) (q0 := 5) (ci := 8) S X (k2_X5_opens l dC dI ad kc sv hq1 H.size) cw_X5_opens mG_1128 rfl rfl rfl rfl rfl hl.1 (Nat.le_of_ble_eq_true rfl) dX5_readLet_1 ⟨by omega, by omega⟩ (fun H locs X => ?_)
  refine lv_if_ne (tgt := 9) hx hb dX5_readLet_4 (by decide) (fun c4 => ?_) (fun c4 => ?_)
  · have hg := (if_neg c4).symm.trans hg
    refine lv_aload_n hx hb dX5_readLet_9 rfl (lv_at hl 0 rfl) ?_
    obtain ⟨r10, τ10, hq10, hg⟩ := bd_some hg
    refine gc_Vv (As := []) (rest := []) (q0 := 5) (ci := 8) S X (k2_X5_countPart l dC dI ad kc sv hq10 H.size) cw_X5_countPart mG_1132 rfl rfl rfl rfl rfl hl.1 (Nat.le_of_ble_eq_true rfl) dX5_readLet_10 ⟨by omega, by omega⟩ (fun H locs X => ?_)
    refine lv_aload_n hx hb dX5_readLet_13 rfl (lv_at hl 0 rfl) ?_
    refine wcgI_15 (v := (gI τ10 15)) S X mG_549 rfl dX5_readLet_14 ?_
    refine lv_istore_n (lv' := [(1, .int (gI τ10 15)), (0, .ref (ad 5))]) hx hb dX5_readLet_17 rfl hl (by decide) rfl (fun ls hl => ?_)
    refine lv_aload_n hx hb dX5_readLet_18 rfl (lv_at hl 1 rfl) ?_
    refine wcgR_5_3 S X mG_541 dX5_readLet_19 ?_
    refine lv_aload_n hx hb dX5_readLet_22 rfl (lv_at hl 1 rfl) ?_
    refine wcgI_15 (v := (gI τ10 15)) S X mG_549 rfl dX5_readLet_23 ?_
    refine lv_aload_n hx hb dX5_readLet_26 rfl (lv_at hl 1 rfl) ?_
    refine wcgR_5_0 S X mG_538 dX5_readLet_27 ?_
    refine wcgI_18 (v := (gI τ10 18)) S X mG_519 rfl dX5_readLet_30 ?_
    refine lv_iconst (v := 0) hx hb dX5_readLet_33 (by decide) ?_
    obtain ⟨r34, τ34, hq34, hg⟩ := bd_some hg
    refine gc_Vi (As := [.int (gI τ10 15), .int (gI τ10 18), .int 0]) (rest := []) (q0 := 4) (ci := 9) S X (k2_X6_add l dC dI ad kc sv hq34 H.size) cw_X6_add mG_1084 rfl rfl rfl rfl rfl hl.1 (Nat.le_of_ble_eq_true rfl) dX5_readLet_34 ⟨by omega, by omega⟩ (fun H locs X => ?_)
    refine lv_istore_n (lv' := [(2, .int r34), (1, .int (gI τ10 15)), (0, .ref (ad 5))]) hx hb dX5_readLet_37 rfl hl (by decide) rfl (fun ls hl => ?_)
    refine lv_aload_n hx hb dX5_readLet_38 rfl (lv_at hl 2 rfl) ?_
    refine lv_iload_n hx hb dX5_readLet_39 rfl (lv_at hl 0 rfl) ?_
    refine wcpI_15 S X mG_549 dX5_readLet_40 (fun H locs X => ?_)
    refine lv_aload_n hx hb dX5_readLet_43 rfl (lv_at hl 2 rfl) ?_
    refine wcgR_5_0 S X mG_538 dX5_readLet_44 ?_
    obtain ⟨r47, τ47, hq47, hg⟩ := bd_some hg
    refine gc_Vv (As := []) (rest := []) (q0 := 6) (ci := 13) S X (k2_X10_advance l dC dI ad kc sv hq47 H.size) cw_X10_advance mG_1054 rfl rfl rfl rfl rfl hl.1 (Nat.le_of_ble_eq_true rfl) dX5_readLet_47 ⟨by omega, by omega⟩ (fun H locs X => ?_)
    refine lv_aload_n hx hb dX5_readLet_50 rfl (lv_at hl 2 rfl) ?_
    obtain ⟨r51, τ51, hq51, hg⟩ := bd_some hg
    refine gc_Vi (As := []) (rest := []) (q0 := 5) (ci := 8) S X (k2_X5_readBinding l dC dI ad kc sv hE hq51 H.size) cw_X5_readBinding mG_1136 rfl rfl rfl rfl rfl hl.1 (Nat.le_of_ble_eq_true rfl) dX5_readLet_51 ⟨by omega, by omega⟩ (fun H locs X => ?_)
    refine lv_istore_n (lv' := [(3, .int r51), (2, .int r34), (1, .int (gI τ10 15)), (0, .ref (ad 5))]) hx hb dX5_readLet_54 rfl hl (by decide) rfl (fun ls hl => ?_)
    refine lv_iload_n hx hb dX5_readLet_55 rfl (lv_at hl 0 rfl) ?_
    refine lv_istore (lv' := [(4, .int r51), (3, .int r51), (2, .int r34), (1, .int (gI τ10 15)), (0, .ref (ad 5))]) hx hb dX5_readLet_56 hl (by decide) rfl (fun ls hl => ?_)
    refine lv_iconst (v := 0) hx hb dX5_readLet_58 (by decide) ?_
    refine lv_istore (lv' := [(5, .int 0), (4, .int r51), (3, .int r51), (2, .int r34), (1, .int (gI τ10 15)), (0, .ref (ad 5))]) hx hb dX5_readLet_59 hl (by decide) rfl (fun ls hl => ?_)
    exact w_X5_readLet_L61 S hr hk hR hE _ _ _ _ _ _ _ _ _ _ X (lv_sub hl [5, 4, 3, 2, 1, 0] rfl) hg
  · have hg := (if_pos c4).symm.trans hg
    refine lv_iconst (v := 0) hx hb dX5_readLet_7 (by decide) ?_
    obtain ⟨rfl, rfl⟩ := fin_some hg
    exact gr_i S hr hk X dX5_readLet_8
end MX5_readLet
set_option maxRecDepth 100000 in
theorem k2_X5_readLet (l : Launch) (dC : Nat → ClassId) (dI : Nat → Nat → Nat) {ak : Nat → Nat} (ad : Nat → Nat) (kc : Nat → ClassId) (sv : Value) {E : S5 → Option (Int32 × S5)} {fE lE : Nat} {σ τ : S5}  {r : Int32} (hE : ∀ (σ τ : S5) (r : Int32), E σ = some (r, τ) → ∀ sz : Nat, Met l yX5_readExpression (Cond.code yX5_readExpression cX5_readExpression 1 (some .int) :: uG) { frames := fE, cells := 0, slots := 0, locals := lE } (gPc (dC, dI) (tC kc) (wC ad kc sv) (zC ak) [.ref (ad 5)] σ sz) (gQi (dC, dI) (tC kc) (wC ad kc sv) (va_A (wC ad kc sv σ) sz) r τ) 0 0 (va_A (wC ad kc sv σ) sz)) (hg : f_X5_readLet E  σ = some (r, τ)) (sz : Nat) : Met l yX5_readLet (Cond.code yX5_readLet cX5_readLet 7 (some .int) :: uG) { frames := fE + 10, cells := 0, slots := 0, locals := lE + 224 } (gPc (dC, dI) (tC kc) (wC ad kc sv) (zC ak) [.ref (ad 5)] σ sz) (gQi (dC, dI) (tC kc) (wC ad kc sv) (va_A (wC ad kc sv σ) sz) r τ) 0 0 (va_A (wC ad kc sv σ) sz) :=
  g_start (by decide) (Nat.le_of_ble_eq_true rfl) (fun p e s m below meth c ls S hr hk X hl => w_X5_readLet S hr hk ⟨Nat.le_refl _, Nat.le_refl _⟩ hE X hl hg)
section MX5_readLambda
variable {p : Program} {l : Launch} {e : Env} {R : Room} {s : State} {m : MethodId} {args : Array Value} {below : List Frame} {meth : Method} {c : Code} {dC : Nat → ClassId} {dI : Nat → Nat → Nat} {ak : Nat → Nat} {A : Nat → Prop} {ad : Nat → Nat} {kc : Nat → ClassId} {sv : Value} {r : Int32} {τ : S5} {fE lE : Nat}
set_option maxHeartbeats 4000000 in
set_option maxRecDepth 100000 in
theorem w_X5_readLambda {σ : S5} {E : S5 → Option (Int32 × S5)}  {H : Heap} {locs : List Loc} {ls : Array Slot} (S : CallFix p m c cX5_readLambda 2 s args uG RX5) (hr : meth.sig.returnType = (some .int)) (hk : meth.locks = false) (hR : fE + 9 ≤ R.frames ∧ lE + 201 ≤ R.locals)
    (hE : ∀ (σ τ : S5) (r : Int32), E σ = some (r, τ) → ∀ sz : Nat, Met l yX5_readExpression (Cond.code yX5_readExpression cX5_readExpression 1 (some .int) :: uG) { frames := fE, cells := 0, slots := 0, locals := lE } (gPc (dC, dI) (tC kc) (wC ad kc sv) (zC ak) [.ref (ad 5)] σ sz) (gQi (dC, dI) (tC kc) (wC ad kc sv) (va_A (wC ad kc sv σ) sz) r τ) 0 0 (va_A (wC ad kc sv σ) sz))
    (X : gX (dC, dI) (tC kc) (wC ad kc sv) (zC ak) A s σ H locs) (hl : lv_has ls 2 [(0, .ref (ad 5))]) (hg : f_X5_readLambda E σ = some (r, τ)) : W p l e R s m args below meth c H locs 0 0 (MQ below (gQi (dC, dI) (tC kc) (wC ad kc sv) A r τ) args s 0 0 A) (F0 m 0 ls []) := by
  have hx := S.1
  have hb := S.2.1
  have hown := S.2.2.2.1
  have hu := S.2.2.2.2
  unfold f_X5_readLambda at hg
  refine lv_aload_n hx hb dX5_readLambda_0 rfl (lv_at hl 0 rfl) ?_
  obtain ⟨r1, τ1, hq1, hg⟩ := bd_some hg
  refine gc_Vi (As := []) (rest := []) (q0 := 5) (ci := 8) S X (k2_X5_opens l dC dI ad kc sv hq1 H.size) cw_X5_opens mG_1128 rfl rfl rfl rfl rfl hl.1 (Nat.le_of_ble_eq_true rfl) dX5_readLambda_1 ⟨by omega, by omega⟩ (fun H locs X => ?_)
  refine lv_if_ne (tgt := 9) hx hb dX5_readLambda_4 (by decide) (fun c4 => ?_) (fun c4 => ?_)
  · have hg := (if_neg c4).symm.trans hg
    refine lv_aload_n hx hb dX5_readLambda_9 rfl (lv_at hl 0 rfl) ?_
    obtain ⟨r10, τ10, hq10, hg⟩ := bd_some hg
    refine gc_Vv (As := []) (rest := []) (q0 := 5) (ci := 8) S X (k2_X5_countPart l dC dI ad kc sv hq10 H.size) cw_X5_countPart mG_1132 rfl rfl rfl rfl rfl hl.1 (Nat.le_of_ble_eq_true rfl) dX5_readLambda_10 ⟨by omega, by omega⟩ (fun H locs X => ?_)
    refine lv_aload_n hx hb dX5_readLambda_13 rfl (lv_at hl 0 rfl) ?_
    refine lv_aload_n hx hb dX5_readLambda_14 rfl (lv_at hl 0 rfl) ?_
    refine wcgR_5_0 S X mG_538 dX5_readLambda_15 ?_
    refine wcgI_18 (v := (gI τ10 18)) S X mG_519 rfl dX5_readLambda_18 ?_
    obtain ⟨r21, τ21, hq21, hg⟩ := bd_some hg
    refine gc_Vi (As := [.int (gI τ10 18)]) (rest := []) (q0 := 5) (ci := 8) S X (k2_X5_readLifted l dC dI ad kc sv hE hq21 H.size) cw_X5_readLifted mG_1140 rfl rfl rfl rfl rfl hl.1 (Nat.le_of_ble_eq_true rfl) dX5_readLambda_21 ⟨by omega, by omega⟩ (fun H locs X => ?_)
    refine lv_istore_n (lv' := [(1, .int r21), (0, .ref (ad 5))]) hx hb dX5_readLambda_24 rfl hl (by decide) rfl (fun ls hl => ?_)
    refine lv_aload_n hx hb dX5_readLambda_25 rfl (lv_at hl 1 rfl) ?_
    refine lv_dup hx hb dX5_readLambda_26 rfl ?_
    refine wcgI_14 (v := (gI τ21 14)) S X mG_548 rfl dX5_readLambda_27 ?_
    refine lv_iconst (v := 1) hx hb dX5_readLambda_30 (by decide) ?_
    refine lv_isub hx hb dX5_readLambda_31 ?_
    refine wcpI_14 S X mG_548 dX5_readLambda_32 (fun H locs X => ?_)
    refine lv_iload_n hx hb dX5_readLambda_35 rfl (lv_at hl 0 rfl) ?_
    obtain ⟨rfl, rfl⟩ := fin_some hg
    exact gr_i S hr hk X dX5_readLambda_36
  · have hg := (if_pos c4).symm.trans hg
    refine lv_iconst (v := 0) hx hb dX5_readLambda_7 (by decide) ?_
    obtain ⟨rfl, rfl⟩ := fin_some hg
    exact gr_i S hr hk X dX5_readLambda_8
end MX5_readLambda
set_option maxRecDepth 100000 in
theorem k2_X5_readLambda (l : Launch) (dC : Nat → ClassId) (dI : Nat → Nat → Nat) {ak : Nat → Nat} (ad : Nat → Nat) (kc : Nat → ClassId) (sv : Value) {E : S5 → Option (Int32 × S5)} {fE lE : Nat} {σ τ : S5}  {r : Int32} (hE : ∀ (σ τ : S5) (r : Int32), E σ = some (r, τ) → ∀ sz : Nat, Met l yX5_readExpression (Cond.code yX5_readExpression cX5_readExpression 1 (some .int) :: uG) { frames := fE, cells := 0, slots := 0, locals := lE } (gPc (dC, dI) (tC kc) (wC ad kc sv) (zC ak) [.ref (ad 5)] σ sz) (gQi (dC, dI) (tC kc) (wC ad kc sv) (va_A (wC ad kc sv σ) sz) r τ) 0 0 (va_A (wC ad kc sv σ) sz)) (hg : f_X5_readLambda E  σ = some (r, τ)) (sz : Nat) : Met l yX5_readLambda (Cond.code yX5_readLambda cX5_readLambda 2 (some .int) :: uG) { frames := fE + 9, cells := 0, slots := 0, locals := lE + 201 } (gPc (dC, dI) (tC kc) (wC ad kc sv) (zC ak) [.ref (ad 5)] σ sz) (gQi (dC, dI) (tC kc) (wC ad kc sv) (va_A (wC ad kc sv σ) sz) r τ) 0 0 (va_A (wC ad kc sv σ) sz) :=
  g_start (by decide) (Nat.le_of_ble_eq_true rfl) (fun p e s m below meth c ls S hr hk X hl => w_X5_readLambda S hr hk ⟨Nat.le_refl _, Nat.le_refl _⟩ hE X hl hg)
section MX5_readAlternative
variable {p : Program} {l : Launch} {e : Env} {R : Room} {s : State} {m : MethodId} {args : Array Value} {below : List Frame} {meth : Method} {c : Code} {dC : Nat → ClassId} {dI : Nat → Nat → Nat} {ak : Nat → Nat} {A : Nat → Prop} {ad : Nat → Nat} {kc : Nat → ClassId} {sv : Value} {r : Int32} {τ : S5} {fE lE : Nat}
set_option maxHeartbeats 4000000 in
set_option maxRecDepth 100000 in
theorem w_X5_readAlternative_b214 {σ : S5} {E : S5 → Option (Int32 × S5)} {v4 : Int32} {v6 : Int32} {u0 : Int32} {H : Heap} {locs : List Loc} {ls : Array Slot} (S : CallFix p m c cX5_readAlternative 7 s args uG RX5) (hr : meth.sig.returnType = (some .int)) (hk : meth.locks = false) (hR : fE + 7 ≤ R.frames ∧ lE + 156 ≤ R.locals)
    (hE : ∀ (σ τ : S5) (r : Int32), E σ = some (r, τ) → ∀ sz : Nat, Met l yX5_readExpression (Cond.code yX5_readExpression cX5_readExpression 1 (some .int) :: uG) { frames := fE, cells := 0, slots := 0, locals := lE } (gPc (dC, dI) (tC kc) (wC ad kc sv) (zC ak) [.ref (ad 5)] σ sz) (gQi (dC, dI) (tC kc) (wC ad kc sv) (va_A (wC ad kc sv σ) sz) r τ) 0 0 (va_A (wC ad kc sv σ) sz))
    (X : gX (dC, dI) (tC kc) (wC ad kc sv) (zC ak) A s σ H locs) (hl : lv_has ls 7 [(4, .int v4), (6, .int v6)]) (hg : f_X5_readAlternative_b214 E v4 v6 u0 σ = some (r, τ)) : W p l e R s m args below meth c H locs 0 0 (MQ below (gQi (dC, dI) (tC kc) (wC ad kc sv) A r τ) args s 0 0 A) (F0 m 214 ls [.int u0, .ref (ad 3)]) := by
  have hx := S.1
  have hb := S.2.1
  have hown := S.2.2.2.1
  have hu := S.2.2.2.2
  unfold f_X5_readAlternative_b214 at hg
  refine lv_iload hx hb dX5_readAlternative_214 (lv_at hl 0 rfl) ?_
  refine lv_iconst (v := 0) hx hb dX5_readAlternative_216 (by decide) ?_
  refine lv_iload hx hb dX5_readAlternative_217 (lv_at hl 1 rfl) ?_
  obtain ⟨r219, τ219, hq219, hg⟩ := bd_some hg
  refine gc_Vi (As := [.int u0, .int v4, .int 0, .int v6]) (rest := []) (q0 := 3) (ci := 12) S X (k2_X9_add l dC dI ad kc sv hq219 H.size) cw_X9_add mG_1152 rfl rfl rfl rfl rfl hl.1 (Nat.le_of_ble_eq_true rfl) dX5_readAlternative_219 ⟨by omega, by omega⟩ (fun H locs X => ?_)
  obtain ⟨rfl, rfl⟩ := fin_some hg
  exact gr_i S hr hk X dX5_readAlternative_222
set_option maxHeartbeats 4000000 in
set_option maxRecDepth 100000 in
theorem w_X5_readAlternative_b163 {σ : S5} {E : S5 → Option (Int32 × S5)} {v2 : Int32} {v3 : Int32} {v4 : Int32} {v5 : Int32} {H : Heap} {locs : List Loc} {ls : Array Slot} (S : CallFix p m c cX5_readAlternative 7 s args uG RX5) (hr : meth.sig.returnType = (some .int)) (hk : meth.locks = false) (hR : fE + 7 ≤ R.frames ∧ lE + 156 ≤ R.locals)
    (hE : ∀ (σ τ : S5) (r : Int32), E σ = some (r, τ) → ∀ sz : Nat, Met l yX5_readExpression (Cond.code yX5_readExpression cX5_readExpression 1 (some .int) :: uG) { frames := fE, cells := 0, slots := 0, locals := lE } (gPc (dC, dI) (tC kc) (wC ad kc sv) (zC ak) [.ref (ad 5)] σ sz) (gQi (dC, dI) (tC kc) (wC ad kc sv) (va_A (wC ad kc sv σ) sz) r τ) 0 0 (va_A (wC ad kc sv σ) sz))
    (X : gX (dC, dI) (tC kc) (wC ad kc sv) (zC ak) A s σ H locs) (hl : lv_has ls 7 [(0, .ref (ad 5)), (2, .int v2), (3, .int v3), (4, .int v4), (5, .int v5)]) (hg : f_X5_readAlternative_b163 E v2 v3 v4 v5 σ = some (r, τ)) : W p l e R s m args below meth c H locs 0 0 (MQ below (gQi (dC, dI) (tC kc) (wC ad kc sv) A r τ) args s 0 0 A) (F0 m 163 ls []) := by
  have hx := S.1
  have hb := S.2.1
  have hown := S.2.2.2.1
  have hu := S.2.2.2.2
  unfold f_X5_readAlternative_b163 at hg
  refine lv_aload_n hx hb dX5_readAlternative_163 rfl (lv_at hl 0 rfl) ?_
  refine lv_sipush (v := 128) hx hb dX5_readAlternative_164 (by decide) ?_
  obtain ⟨r167, τ167, hq167, hg⟩ := bd_some hg
  refine gc_Vv (As := [.int 128]) (rest := []) (q0 := 5) (ci := 8) S X (k2_X5_expect l dC dI ad kc sv hq167 H.size) cw_X5_expect mG_1072 rfl rfl rfl rfl rfl hl.1 (Nat.le_of_ble_eq_true rfl) dX5_readAlternative_167 ⟨by omega, by omega⟩ (fun H locs X => ?_)
  refine lv_aload_n hx hb dX5_readAlternative_170 rfl (lv_at hl 0 rfl) ?_
  refine lv_iload hx hb dX5_readAlternative_171 (lv_at hl 4 rfl) ?_
  obtain ⟨r173, τ173, hq173, hg⟩ := bd_some hg
  refine gc_Vi (As := [.int v5]) (rest := []) (q0 := 5) (ci := 8) S X (k2_X5_readWithin l dC dI ad kc sv hE hq173 H.size) cw_X5_readWithin mG_1116 rfl rfl rfl rfl rfl hl.1 (Nat.le_of_ble_eq_true rfl) dX5_readAlternative_173 ⟨by omega, by omega⟩ (fun H locs X => ?_)
  refine lv_istore (lv' := [(6, .int r173), (0, .ref (ad 5)), (2, .int v2), (3, .int v3), (4, .int v4), (5, .int v5)]) hx hb dX5_readAlternative_176 hl (by decide) rfl (fun ls hl => ?_)
  refine lv_iload_n hx hb dX5_readAlternative_178 rfl (lv_at hl 2 rfl) ?_
  refine lv_iconst (v := 4) hx hb dX5_readAlternative_179 (by decide) ?_
  refine lv_icmp_ne (tgt := 198) hx hb dX5_readAlternative_180 (by decide) (fun c180 => ?_) (fun c180 => ?_)
  · have hg := (if_neg c180).symm.trans hg
    refine lv_aload_n hx hb dX5_readAlternative_198 rfl (lv_at hl 1 rfl) ?_
    refine wcgR_5_1 S X mG_539 dX5_readAlternative_199 ?_
    refine lv_iload_n hx hb dX5_readAlternative_202 rfl (lv_at hl 2 rfl) ?_
    refine lv_iconst (v := 5) hx hb dX5_readAlternative_203 (by decide) ?_
    refine lv_icmp_ne (tgt := 212) hx hb dX5_readAlternative_204 (by decide) (fun c204 => ?_) (fun c204 => ?_)
    · have hg := (if_neg c204).symm.trans hg
      refine lv_bipush (v := 13) hx hb dX5_readAlternative_212 (by decide) ?_
      exact w_X5_readAlternative_b214 S hr hk hR hE X (lv_sub hl [4, 0] rfl) hg
    · have hg := (if_pos c204).symm.trans hg
      refine lv_bipush (v := 12) hx hb dX5_readAlternative_207 (by decide) ?_
      refine lv_goto (tgt := 214) hx hb dX5_readAlternative_209 (by decide) ?_
      exact w_X5_readAlternative_b214 S hr hk hR hE X (lv_sub hl [4, 0] rfl) hg
  · have hg := (if_pos c180).symm.trans hg
    refine lv_aload_n hx hb dX5_readAlternative_183 rfl (lv_at hl 1 rfl) ?_
    refine wcgR_5_1 S X mG_539 dX5_readAlternative_184 ?_
    refine lv_bipush (v := 11) hx hb dX5_readAlternative_187 (by decide) ?_
    refine lv_iload_n hx hb dX5_readAlternative_189 rfl (lv_at hl 3 rfl) ?_
    refine lv_iload hx hb dX5_readAlternative_190 (lv_at hl 5 rfl) ?_
    refine lv_iload hx hb dX5_readAlternative_192 (lv_at hl 0 rfl) ?_
    obtain ⟨r194, τ194, hq194, hg⟩ := bd_some hg
    refine gc_Vi (As := [.int 11, .int v3, .int v5, .int r173]) (rest := []) (q0 := 3) (ci := 12) S X (k2_X9_add l dC dI ad kc sv hq194 H.size) cw_X9_add mG_1152 rfl rfl rfl rfl rfl hl.1 (Nat.le_of_ble_eq_true rfl) dX5_readAlternative_194 ⟨by omega, by omega⟩ (fun H locs X => ?_)
    obtain ⟨rfl, rfl⟩ := fin_some hg
    exact gr_i S hr hk X dX5_readAlternative_197
set_option maxHeartbeats 4000000 in
set_option maxRecDepth 100000 in
theorem w_X5_readAlternative_B136 {σ : S5} {E : S5 → Option (Int32 × S5)} {rec136 : Int32 → Int32 → Int32 → Int32 → Int32 → S5 → Option (Int32 × S5)} {v2 : Int32} {v3 : Int32} {v4 : Int32} {v5 : Int32} {v6 : Int32} {H : Heap} {locs : List Loc} {ls : Array Slot} (S : CallFix p m c cX5_readAlternative 7 s args uG RX5) (hr : meth.sig.returnType = (some .int)) (hk : meth.locks = false) (hR : fE + 7 ≤ R.frames ∧ lE + 156 ≤ R.locals)
    (hE : ∀ (σ τ : S5) (r : Int32), E σ = some (r, τ) → ∀ sz : Nat, Met l yX5_readExpression (Cond.code yX5_readExpression cX5_readExpression 1 (some .int) :: uG) { frames := fE, cells := 0, slots := 0, locals := lE } (gPc (dC, dI) (tC kc) (wC ad kc sv) (zC ak) [.ref (ad 5)] σ sz) (gQi (dC, dI) (tC kc) (wC ad kc sv) (va_A (wC ad kc sv σ) sz) r τ) 0 0 (va_A (wC ad kc sv σ) sz))
    (hrec136 : ∀ (v2 : Int32) (v3 : Int32) (v4 : Int32) (v5 : Int32) (v6 : Int32) (σ : S5) (H : Heap) (locs : List Loc) (ls : Array Slot), gX (dC, dI) (tC kc) (wC ad kc sv) (zC ak) A s σ H locs → lv_has ls 7 [(0, .ref (ad 5)), (2, .int v2), (3, .int v3), (4, .int v4), (5, .int v5), (6, .int v6)] → rec136 v2 v3 v4 v5 v6 σ = some (r, τ) → W p l e R s m args below meth c H locs 0 0 (MQ below (gQi (dC, dI) (tC kc) (wC ad kc sv) A r τ) args s 0 0 A) (F0 m 136 ls []))
    (X : gX (dC, dI) (tC kc) (wC ad kc sv) (zC ak) A s σ H locs) (hl : lv_has ls 7 [(0, .ref (ad 5)), (2, .int v2), (3, .int v3), (4, .int v4), (5, .int v5), (6, .int v6)]) (hg : f_X5_readAlternative_B136 E rec136 v2 v3 v4 v5 v6 σ = some (r, τ)) : W p l e R s m args below meth c H locs 0 0 (MQ below (gQi (dC, dI) (tC kc) (wC ad kc sv) A r τ) args s 0 0 A) (F0 m 136 ls []) := by
  have hx := S.1
  have hb := S.2.1
  have hown := S.2.2.2.1
  have hu := S.2.2.2.2
  unfold f_X5_readAlternative_B136 at hg
  refine lv_iload hx hb dX5_readAlternative_136 (lv_at hl 5 rfl) ?_
  refine lv_aload_n hx hb dX5_readAlternative_138 rfl (lv_at hl 0 rfl) ?_
  refine wcgR_5_2 S X mG_540 dX5_readAlternative_139 ?_
  refine wcgR_2_1 S X mG_289 dX5_readAlternative_142 ?_
  refine lv_iload_n hx hb dX5_readAlternative_145 rfl (lv_at hl 2 rfl) ?_
  obtain ⟨hi146, hg⟩ := gd_some hg
  refine wclA_2 (v := (xA σ 2 v3)) S X hi146 rfl dX5_readAlternative_146 ?_
  refine lv_icmp_ge (tgt := 163) hx hb dX5_readAlternative_147 (by decide) (fun c147 => ?_) (fun c147 => ?_)
  · have hg := (if_pos c147).symm.trans hg
    exact w_X5_readAlternative_b163 S hr hk hR hE X (lv_sub hl [0, 1, 2, 3, 4] rfl) hg
  · have hg := (if_neg c147).symm.trans hg
    refine lv_aload_n hx hb dX5_readAlternative_150 rfl (lv_at hl 0 rfl) ?_
    refine lv_iload hx hb dX5_readAlternative_151 (lv_at hl 4 rfl) ?_
    obtain ⟨r153, τ153, hq153, hg⟩ := bd_some hg
    refine gc_Vi (As := [.int v5]) (rest := []) (q0 := 5) (ci := 8) S X (k2_X5_declare l dC dI ad kc sv hq153 H.size) cw_X5_declare mG_1100 rfl rfl rfl rfl rfl hl.1 (Nat.le_of_ble_eq_true rfl) dX5_readAlternative_153 ⟨by omega, by omega⟩ (fun H locs X => ?_)
    refine lv_pop hx hb dX5_readAlternative_156 rfl ?_
    refine lv_iinc (v := (v6 + 1)) (lv' := [(6, .int (v6 + 1)), (0, .ref (ad 5)), (2, .int v2), (3, .int v3), (4, .int v4), (5, .int v5)]) hx hb dX5_readAlternative_157 hl (k := 5) rfl (by rfl) (by decide) rfl (fun ls hl => ?_)
    refine lv_goto (tgt := 136) hx hb dX5_readAlternative_160 (by decide) ?_
    exact hrec136 _ _ _ _ _ _ _ _ _ X (lv_sub hl [1, 2, 3, 4, 5, 0] rfl) hg
set_option maxHeartbeats 4000000 in
set_option maxRecDepth 100000 in
theorem w_X5_readAlternative_L136 {E : S5 → Option (Int32 × S5)} (S : CallFix p m c cX5_readAlternative 7 s args uG RX5) (hr : meth.sig.returnType = (some .int)) (hk : meth.locks = false) (hR : fE + 7 ≤ R.frames ∧ lE + 156 ≤ R.locals)
    (hE : ∀ (σ τ : S5) (r : Int32), E σ = some (r, τ) → ∀ sz : Nat, Met l yX5_readExpression (Cond.code yX5_readExpression cX5_readExpression 1 (some .int) :: uG) { frames := fE, cells := 0, slots := 0, locals := lE } (gPc (dC, dI) (tC kc) (wC ad kc sv) (zC ak) [.ref (ad 5)] σ sz) (gQi (dC, dI) (tC kc) (wC ad kc sv) (va_A (wC ad kc sv σ) sz) r τ) 0 0 (va_A (wC ad kc sv σ) sz)) : ∀ (n : Nat) (v2 : Int32) (v3 : Int32) (v4 : Int32) (v5 : Int32) (v6 : Int32) (σ : S5) (H : Heap) (locs : List Loc) (ls : Array Slot), gX (dC, dI) (tC kc) (wC ad kc sv) (zC ak) A s σ H locs → lv_has ls 7 [(0, .ref (ad 5)), (2, .int v2), (3, .int v3), (4, .int v4), (5, .int v5), (6, .int v6)] → f_X5_readAlternative_L136 E n v2 v3 v4 v5 v6 σ = some (r, τ) → W p l e R s m args below meth c H locs 0 0 (MQ below (gQi (dC, dI) (tC kc) (wC ad kc sv) A r τ) args s 0 0 A) (F0 m 136 ls []) := by
  intro n
  induction n with
  | zero => intro v2 v3 v4 v5 v6 σ H locs ls X hl hg; cases hg
  | succ n ih => intro v2 v3 v4 v5 v6 σ H locs ls X hl hg; exact w_X5_readAlternative_B136 S hr hk hR hE ih X hl hg
set_option maxHeartbeats 4000000 in
set_option maxRecDepth 100000 in
theorem w_X5_readAlternative_b85 {σ : S5} {E : S5 → Option (Int32 × S5)} {v2 : Int32} {v3 : Int32} {H : Heap} {locs : List Loc} {ls : Array Slot} (S : CallFix p m c cX5_readAlternative 7 s args uG RX5) (hr : meth.sig.returnType = (some .int)) (hk : meth.locks = false) (hR : fE + 7 ≤ R.frames ∧ lE + 156 ≤ R.locals)
    (hE : ∀ (σ τ : S5) (r : Int32), E σ = some (r, τ) → ∀ sz : Nat, Met l yX5_readExpression (Cond.code yX5_readExpression cX5_readExpression 1 (some .int) :: uG) { frames := fE, cells := 0, slots := 0, locals := lE } (gPc (dC, dI) (tC kc) (wC ad kc sv) (zC ak) [.ref (ad 5)] σ sz) (gQi (dC, dI) (tC kc) (wC ad kc sv) (va_A (wC ad kc sv σ) sz) r τ) 0 0 (va_A (wC ad kc sv σ) sz))
    (X : gX (dC, dI) (tC kc) (wC ad kc sv) (zC ak) A s σ H locs) (hl : lv_has ls 7 [(0, .ref (ad 5)), (2, .int v2), (3, .int v3)]) (hg : f_X5_readAlternative_b85 E v2 v3 σ = some (r, τ)) : W p l e R s m args below meth c H locs 0 0 (MQ below (gQi (dC, dI) (tC kc) (wC ad kc sv) A r τ) args s 0 0 A) (F0 m 85 ls []) := by
  have hx := S.1
  have hb := S.2.1
  have hown := S.2.2.2.1
  have hu := S.2.2.2.2
  unfold f_X5_readAlternative_b85 at hg
  refine lv_aload_n hx hb dX5_readAlternative_85 rfl (lv_at hl 0 rfl) ?_
  refine wcgR_5_0 S X mG_538 dX5_readAlternative_86 ?_
  refine wcgI_19 (v := (gI σ 19)) S X mG_521 rfl dX5_readAlternative_89 ?_
  refine lv_istore (lv' := [(4, .int (gI σ 19)), (0, .ref (ad 5)), (2, .int v2), (3, .int v3)]) hx hb dX5_readAlternative_92 hl (by decide) rfl (fun ls hl => ?_)
  refine lv_aload_n hx hb dX5_readAlternative_94 rfl (lv_at hl 1 rfl) ?_
  refine wcgI_15 (v := (gI σ 15)) S X mG_549 rfl dX5_readAlternative_95 ?_
  refine lv_istore (lv' := [(5, .int (gI σ 15)), (4, .int (gI σ 19)), (0, .ref (ad 5)), (2, .int v2), (3, .int v3)]) hx hb dX5_readAlternative_98 hl (by decide) rfl (fun ls hl => ?_)
  refine lv_aload_n hx hb dX5_readAlternative_100 rfl (lv_at hl 2 rfl) ?_
  refine wcgR_5_0 S X mG_538 dX5_readAlternative_101 ?_
  obtain ⟨r104, τ104, hq104, hg⟩ := bd_some hg
  refine gc_Vv (As := []) (rest := []) (q0 := 6) (ci := 13) S X (k2_X10_advance l dC dI ad kc sv hq104 H.size) cw_X10_advance mG_1054 rfl rfl rfl rfl rfl hl.1 (Nat.le_of_ble_eq_true rfl) dX5_readAlternative_104 ⟨by omega, by omega⟩ (fun H locs X => ?_)
  refine lv_iload_n hx hb dX5_readAlternative_107 rfl (lv_at hl 4 rfl) ?_
  refine lv_iconst (v := (-1)) hx hb dX5_readAlternative_108 (by decide) ?_
  refine lv_icmp_eq (tgt := 163) hx hb dX5_readAlternative_109 (by decide) (fun c109 => ?_) (fun c109 => ?_)
  · have hg := (if_pos c109).symm.trans hg
    exact w_X5_readAlternative_b163 S hr hk hR hE X (lv_sub hl [2, 3, 4, 1, 0] rfl) hg
  · have hg := (if_neg c109).symm.trans hg
    refine lv_aload_n hx hb dX5_readAlternative_112 rfl (lv_at hl 2 rfl) ?_
    refine wcgR_5_3 S X mG_541 dX5_readAlternative_113 ?_
    refine lv_aload_n hx hb dX5_readAlternative_116 rfl (lv_at hl 2 rfl) ?_
    refine wcgI_15 (v := (gI τ104 15)) S X mG_549 rfl dX5_readAlternative_117 ?_
    refine lv_aload_n hx hb dX5_readAlternative_120 rfl (lv_at hl 2 rfl) ?_
    refine wcgR_5_0 S X mG_538 dX5_readAlternative_121 ?_
    refine wcgI_18 (v := (gI τ104 18)) S X mG_519 rfl dX5_readAlternative_124 ?_
    refine lv_iconst (v := 0) hx hb dX5_readAlternative_127 (by decide) ?_
    obtain ⟨r128, τ128, hq128, hg⟩ := bd_some hg
    refine gc_Vi (As := [.int (gI τ104 15), .int (gI τ104 18), .int 0]) (rest := []) (q0 := 4) (ci := 9) S X (k2_X6_add l dC dI ad kc sv hq128 H.size) cw_X6_add mG_1084 rfl rfl rfl rfl rfl hl.1 (Nat.le_of_ble_eq_true rfl) dX5_readAlternative_128 ⟨by omega, by omega⟩ (fun H locs X => ?_)
    refine lv_istore (lv' := [(5, .int r128), (4, .int (gI σ 19)), (0, .ref (ad 5)), (2, .int v2), (3, .int v3)]) hx hb dX5_readAlternative_131 hl (by decide) rfl (fun ls hl => ?_)
    refine lv_iconst (v := 0) hx hb dX5_readAlternative_133 (by decide) ?_
    refine lv_istore (lv' := [(6, .int 0), (5, .int r128), (4, .int (gI σ 19)), (0, .ref (ad 5)), (2, .int v2), (3, .int v3)]) hx hb dX5_readAlternative_134 hl (by decide) rfl (fun ls hl => ?_)
    exact w_X5_readAlternative_L136 S hr hk hR hE _ _ _ _ _ _ _ _ _ _ X (lv_sub hl [3, 4, 5, 2, 1, 0] rfl) hg
set_option maxHeartbeats 4000000 in
set_option maxRecDepth 100000 in
theorem w_X5_readAlternative_b74 {σ : S5} {E : S5 → Option (Int32 × S5)} {v1 : Int32} {v2 : Int32} {v3 : Int32} {H : Heap} {locs : List Loc} {ls : Array Slot} (S : CallFix p m c cX5_readAlternative 7 s args uG RX5) (hr : meth.sig.returnType = (some .int)) (hk : meth.locks = false) (hR : fE + 7 ≤ R.frames ∧ lE + 156 ≤ R.locals)
    (hE : ∀ (σ τ : S5) (r : Int32), E σ = some (r, τ) → ∀ sz : Nat, Met l yX5_readExpression (Cond.code yX5_readExpression cX5_readExpression 1 (some .int) :: uG) { frames := fE, cells := 0, slots := 0, locals := lE } (gPc (dC, dI) (tC kc) (wC ad kc sv) (zC ak) [.ref (ad 5)] σ sz) (gQi (dC, dI) (tC kc) (wC ad kc sv) (va_A (wC ad kc sv σ) sz) r τ) 0 0 (va_A (wC ad kc sv σ) sz))
    (X : gX (dC, dI) (tC kc) (wC ad kc sv) (zC ak) A s σ H locs) (hl : lv_has ls 7 [(0, .ref (ad 5)), (1, .int v1), (2, .int v2), (3, .int v3)]) (hg : f_X5_readAlternative_b74 E v1 v2 v3 σ = some (r, τ)) : W p l e R s m args below meth c H locs 0 0 (MQ below (gQi (dC, dI) (tC kc) (wC ad kc sv) A r τ) args s 0 0 A) (F0 m 74 ls []) := by
  have hx := S.1
  have hb := S.2.1
  have hown := S.2.2.2.1
  have hu := S.2.2.2.2
  unfold f_X5_readAlternative_b74 at hg
  refine lv_iload_n hx hb dX5_readAlternative_74 rfl (lv_at hl 1 rfl) ?_
  refine lv_bipush (v := 8) hx hb dX5_readAlternative_75 (by decide) ?_
  refine lv_icmp_lt (tgt := 85) hx hb dX5_readAlternative_77 (by decide) (fun c77 => ?_) (fun c77 => ?_)
  · have hg := (if_pos c77).symm.trans hg
    exact w_X5_readAlternative_b85 S hr hk hR hE X (lv_sub hl [0, 2, 3] rfl) hg
  · have hg := (if_neg c77).symm.trans hg
    refine lv_aload_n hx hb dX5_readAlternative_80 rfl (lv_at hl 0 rfl) ?_
    refine lv_iconst (v := 4) hx hb dX5_readAlternative_81 (by decide) ?_
    obtain ⟨r82, τ82, hq82, hg⟩ := bd_some hg
    refine gc_Vv (As := [.int 4]) (rest := []) (q0 := 5) (ci := 8) S X (k2_X5_refuse l dC dI ad kc sv hq82 H.size) cw_X5_refuse mG_1059 rfl rfl rfl rfl rfl hl.1 (Nat.le_of_ble_eq_true rfl) dX5_readAlternative_82 ⟨by omega, by omega⟩ (fun H locs X => ?_)
    exact w_X5_readAlternative_b85 S hr hk hR hE X (lv_sub hl [0, 2, 3] rfl) hg
set_option maxHeartbeats 4000000 in
set_option maxRecDepth 100000 in
theorem w_X5_readAlternative_b56 {σ : S5} {E : S5 → Option (Int32 × S5)} {v1 : Int32} {v2 : Int32} {v3 : Int32} {H : Heap} {locs : List Loc} {ls : Array Slot} (S : CallFix p m c cX5_readAlternative 7 s args uG RX5) (hr : meth.sig.returnType = (some .int)) (hk : meth.locks = false) (hR : fE + 7 ≤ R.frames ∧ lE + 156 ≤ R.locals)
    (hE : ∀ (σ τ : S5) (r : Int32), E σ = some (r, τ) → ∀ sz : Nat, Met l yX5_readExpression (Cond.code yX5_readExpression cX5_readExpression 1 (some .int) :: uG) { frames := fE, cells := 0, slots := 0, locals := lE } (gPc (dC, dI) (tC kc) (wC ad kc sv) (zC ak) [.ref (ad 5)] σ sz) (gQi (dC, dI) (tC kc) (wC ad kc sv) (va_A (wC ad kc sv σ) sz) r τ) 0 0 (va_A (wC ad kc sv σ) sz))
    (X : gX (dC, dI) (tC kc) (wC ad kc sv) (zC ak) A s σ H locs) (hl : lv_has ls 7 [(0, .ref (ad 5)), (1, .int v1), (2, .int v2), (3, .int v3)]) (hg : f_X5_readAlternative_b56 E v1 v2 v3 σ = some (r, τ)) : W p l e R s m args below meth c H locs 0 0 (MQ below (gQi (dC, dI) (tC kc) (wC ad kc sv) A r τ) args s 0 0 A) (F0 m 56 ls []) := by
  have hx := S.1
  have hb := S.2.1
  have hown := S.2.2.2.1
  have hu := S.2.2.2.2
  unfold f_X5_readAlternative_b56 at hg
  refine lv_iload_n hx hb dX5_readAlternative_56 rfl (lv_at hl 2 rfl) ?_
  refine lv_iconst (v := 4) hx hb dX5_readAlternative_57 (by decide) ?_
  refine lv_icmp_ne (tgt := 74) hx hb dX5_readAlternative_58 (by decide) (fun c58 => ?_) (fun c58 => ?_)
  · have hg := (if_neg c58).symm.trans hg
    exact w_X5_readAlternative_b74 S hr hk hR hE X (lv_sub hl [0, 1, 2, 3] rfl) hg
  · have hg := (if_pos c58).symm.trans hg
    refine lv_iload_n hx hb dX5_readAlternative_61 rfl (lv_at hl 3 rfl) ?_
    refine lv_iconst (v := (-1)) hx hb dX5_readAlternative_62 (by decide) ?_
    refine lv_icmp_ne (tgt := 74) hx hb dX5_readAlternative_63 (by decide) (fun c63 => ?_) (fun c63 => ?_)
    · have hg := (if_neg c63).symm.trans hg
      exact w_X5_readAlternative_b74 S hr hk hR hE X (lv_sub hl [0, 1, 2, 3] rfl) hg
    · have hg := (if_pos c63).symm.trans hg
      refine lv_aload_n hx hb dX5_readAlternative_66 rfl (lv_at hl 0 rfl) ?_
      refine lv_iconst (v := 3) hx hb dX5_readAlternative_67 (by decide) ?_
      obtain ⟨r68, τ68, hq68, hg⟩ := bd_some hg
      refine gc_Vv (As := [.int 3]) (rest := []) (q0 := 5) (ci := 8) S X (k2_X5_refuse l dC dI ad kc sv hq68 H.size) cw_X5_refuse mG_1059 rfl rfl rfl rfl rfl hl.1 (Nat.le_of_ble_eq_true rfl) dX5_readAlternative_68 ⟨by omega, by omega⟩ (fun H locs X => ?_)
      refine lv_goto (tgt := 85) hx hb dX5_readAlternative_71 (by decide) ?_
      exact w_X5_readAlternative_b85 S hr hk hR hE X (lv_sub hl [0, 2, 3] rfl) hg
set_option maxHeartbeats 4000000 in
set_option maxRecDepth 100000 in
theorem w_X5_readAlternative_b31 {σ : S5} {E : S5 → Option (Int32 × S5)} {v1 : Int32} {v2 : Int32} {u0 : Int32} {H : Heap} {locs : List Loc} {ls : Array Slot} (S : CallFix p m c cX5_readAlternative 7 s args uG RX5) (hr : meth.sig.returnType = (some .int)) (hk : meth.locks = false) (hR : fE + 7 ≤ R.frames ∧ lE + 156 ≤ R.locals)
    (hE : ∀ (σ τ : S5) (r : Int32), E σ = some (r, τ) → ∀ sz : Nat, Met l yX5_readExpression (Cond.code yX5_readExpression cX5_readExpression 1 (some .int) :: uG) { frames := fE, cells := 0, slots := 0, locals := lE } (gPc (dC, dI) (tC kc) (wC ad kc sv) (zC ak) [.ref (ad 5)] σ sz) (gQi (dC, dI) (tC kc) (wC ad kc sv) (va_A (wC ad kc sv σ) sz) r τ) 0 0 (va_A (wC ad kc sv σ) sz))
    (X : gX (dC, dI) (tC kc) (wC ad kc sv) (zC ak) A s σ H locs) (hl : lv_has ls 7 [(0, .ref (ad 5)), (1, .int v1), (2, .int v2)]) (hg : f_X5_readAlternative_b31 E v1 v2 u0 σ = some (r, τ)) : W p l e R s m args below meth c H locs 0 0 (MQ below (gQi (dC, dI) (tC kc) (wC ad kc sv) A r τ) args s 0 0 A) (F0 m 31 ls [.int u0]) := by
  have hx := S.1
  have hb := S.2.1
  have hown := S.2.2.2.1
  have hu := S.2.2.2.2
  unfold f_X5_readAlternative_b31 at hg
  refine lv_istore_n (lv' := [(3, .int u0), (0, .ref (ad 5)), (1, .int v1), (2, .int v2)]) hx hb dX5_readAlternative_31 rfl hl (by decide) rfl (fun ls hl => ?_)
  refine lv_iload_n hx hb dX5_readAlternative_32 rfl (lv_at hl 3 rfl) ?_
  refine lv_iconst (v := 4) hx hb dX5_readAlternative_33 (by decide) ?_
  refine lv_icmp_eq (tgt := 56) hx hb dX5_readAlternative_34 (by decide) (fun c34 => ?_) (fun c34 => ?_)
  · have hg := (if_pos c34).symm.trans hg
    exact w_X5_readAlternative_b56 S hr hk hR hE X (lv_sub hl [1, 2, 3, 0] rfl) hg
  · have hg := (if_neg c34).symm.trans hg
    refine lv_iload_n hx hb dX5_readAlternative_37 rfl (lv_at hl 3 rfl) ?_
    refine lv_iconst (v := 5) hx hb dX5_readAlternative_38 (by decide) ?_
    refine lv_icmp_eq (tgt := 56) hx hb dX5_readAlternative_39 (by decide) (fun c39 => ?_) (fun c39 => ?_)
    · have hg := (if_pos c39).symm.trans hg
      exact w_X5_readAlternative_b56 S hr hk hR hE X (lv_sub hl [1, 2, 3, 0] rfl) hg
    · have hg := (if_neg c39).symm.trans hg
      refine lv_iload_n hx hb dX5_readAlternative_42 rfl (lv_at hl 3 rfl) ?_
      refine lv_bipush (v := 95) hx hb dX5_readAlternative_43 (by decide) ?_
      refine lv_icmp_eq (tgt := 56) hx hb dX5_readAlternative_45 (by decide) (fun c45 => ?_) (fun c45 => ?_)
      · have hg := (if_pos c45).symm.trans hg
        exact w_X5_readAlternative_b56 S hr hk hR hE X (lv_sub hl [1, 2, 3, 0] rfl) hg
      · have hg := (if_neg c45).symm.trans hg
        refine lv_aload_n hx hb dX5_readAlternative_48 rfl (lv_at hl 1 rfl) ?_
        refine lv_iconst (v := 1) hx hb dX5_readAlternative_49 (by decide) ?_
        obtain ⟨r50, τ50, hq50, hg⟩ := bd_some hg
        refine gc_Vv (As := [.int 1]) (rest := []) (q0 := 5) (ci := 8) S X (k2_X5_refuse l dC dI ad kc sv hq50 H.size) cw_X5_refuse mG_1059 rfl rfl rfl rfl rfl hl.1 (Nat.le_of_ble_eq_true rfl) dX5_readAlternative_50 ⟨by omega, by omega⟩ (fun H locs X => ?_)
        refine lv_goto (tgt := 85) hx hb dX5_readAlternative_53 (by decide) ?_
        exact w_X5_readAlternative_b85 S hr hk hR hE X (lv_sub hl [1, 3, 0] rfl) hg
set_option maxHeartbeats 4000000 in
set_option maxRecDepth 100000 in
theorem w_X5_readAlternative {σ : S5} {E : S5 → Option (Int32 × S5)} {a1 : Int32} {H : Heap} {locs : List Loc} {ls : Array Slot} (S : CallFix p m c cX5_readAlternative 7 s args uG RX5) (hr : meth.sig.returnType = (some .int)) (hk : meth.locks = false) (hR : fE + 7 ≤ R.frames ∧ lE + 156 ≤ R.locals)
    (hE : ∀ (σ τ : S5) (r : Int32), E σ = some (r, τ) → ∀ sz : Nat, Met l yX5_readExpression (Cond.code yX5_readExpression cX5_readExpression 1 (some .int) :: uG) { frames := fE, cells := 0, slots := 0, locals := lE } (gPc (dC, dI) (tC kc) (wC ad kc sv) (zC ak) [.ref (ad 5)] σ sz) (gQi (dC, dI) (tC kc) (wC ad kc sv) (va_A (wC ad kc sv σ) sz) r τ) 0 0 (va_A (wC ad kc sv σ) sz))
    (X : gX (dC, dI) (tC kc) (wC ad kc sv) (zC ak) A s σ H locs) (hl : lv_has ls 7 [(0, .ref (ad 5)), (1, .int a1)]) (hg : f_X5_readAlternative E a1 σ = some (r, τ)) : W p l e R s m args below meth c H locs 0 0 (MQ below (gQi (dC, dI) (tC kc) (wC ad kc sv) A r τ) args s 0 0 A) (F0 m 0 ls []) := by
  have hx := S.1
  have hb := S.2.1
  have hown := S.2.2.2.1
  have hu := S.2.2.2.2
  unfold f_X5_readAlternative at hg
  refine lv_aload_n hx hb dX5_readAlternative_0 rfl (lv_at hl 0 rfl) ?_
  refine wcgR_5_0 S X mG_538 dX5_readAlternative_1 ?_
  refine wcgI_17 (v := (gI σ 17)) S X mG_518 rfl dX5_readAlternative_4 ?_
  refine lv_istore_n (lv' := [(2, .int (gI σ 17)), (0, .ref (ad 5)), (1, .int a1)]) hx hb dX5_readAlternative_7 rfl hl (by decide) rfl (fun ls hl => ?_)
  refine lv_iload_n hx hb dX5_readAlternative_8 rfl (lv_at hl 0 rfl) ?_
  refine lv_iconst (v := 4) hx hb dX5_readAlternative_9 (by decide) ?_
  refine lv_icmp_ne (tgt := 30) hx hb dX5_readAlternative_10 (by decide) (fun c10 => ?_) (fun c10 => ?_)
  · have hg := (if_neg c10).symm.trans hg
    refine lv_iconst (v := (-1)) hx hb dX5_readAlternative_30 (by decide) ?_
    exact w_X5_readAlternative_b31 S hr hk hR hE X (lv_sub hl [1, 2, 0] rfl) hg
  · have hg := (if_pos c10).symm.trans hg
    refine lv_aload_n hx hb dX5_readAlternative_13 rfl (lv_at hl 1 rfl) ?_
    refine wcgR_5_2 S X mG_540 dX5_readAlternative_14 ?_
    refine lv_aload_n hx hb dX5_readAlternative_17 rfl (lv_at hl 1 rfl) ?_
    refine wcgR_5_0 S X mG_538 dX5_readAlternative_18 ?_
    refine wcgJ_0 (v := (gJ σ 0)) S X mG_524 rfl dX5_readAlternative_21 ?_
    obtain ⟨r24, τ24, hq24, hg⟩ := bd_some hg
    refine gc_Vi (As := [.long (gJ σ 0)]) (rest := []) (q0 := 2) (ci := 7) S X (k2_X4_constructorOf l dC dI ad kc sv hq24 H.size) cw_X4_constructorOf mG_1067 rfl rfl rfl rfl rfl hl.1 (Nat.le_of_ble_eq_true rfl) dX5_readAlternative_24 ⟨by omega, by omega⟩ (fun H locs X => ?_)
    refine lv_goto (tgt := 31) hx hb dX5_readAlternative_27 (by decide) ?_
    exact w_X5_readAlternative_b31 S hr hk hR hE X (lv_sub hl [1, 2, 0] rfl) hg
end MX5_readAlternative
set_option maxRecDepth 100000 in
theorem k2_X5_readAlternative (l : Launch) (dC : Nat → ClassId) (dI : Nat → Nat → Nat) {ak : Nat → Nat} (ad : Nat → Nat) (kc : Nat → ClassId) (sv : Value) {E : S5 → Option (Int32 × S5)} {fE lE : Nat} {σ τ : S5} {a1 : Int32} {r : Int32} (hE : ∀ (σ τ : S5) (r : Int32), E σ = some (r, τ) → ∀ sz : Nat, Met l yX5_readExpression (Cond.code yX5_readExpression cX5_readExpression 1 (some .int) :: uG) { frames := fE, cells := 0, slots := 0, locals := lE } (gPc (dC, dI) (tC kc) (wC ad kc sv) (zC ak) [.ref (ad 5)] σ sz) (gQi (dC, dI) (tC kc) (wC ad kc sv) (va_A (wC ad kc sv σ) sz) r τ) 0 0 (va_A (wC ad kc sv σ) sz)) (hg : f_X5_readAlternative E a1 σ = some (r, τ)) (sz : Nat) : Met l yX5_readAlternative (Cond.code yX5_readAlternative cX5_readAlternative 7 (some .int) :: uG) { frames := fE + 7, cells := 0, slots := 0, locals := lE + 156 } (gPc (dC, dI) (tC kc) (wC ad kc sv) (zC ak) [.ref (ad 5), .int a1] σ sz) (gQi (dC, dI) (tC kc) (wC ad kc sv) (va_A (wC ad kc sv σ) sz) r τ) 0 0 (va_A (wC ad kc sv σ) sz) :=
  g_start (by decide) (Nat.le_of_ble_eq_true rfl) (fun p e s m below meth c ls S hr hk X hl => w_X5_readAlternative S hr hk ⟨Nat.le_refl _, Nat.le_refl _⟩ hE X hl hg)
section MX5_readCase
variable {p : Program} {l : Launch} {e : Env} {R : Room} {s : State} {m : MethodId} {args : Array Value} {below : List Frame} {meth : Method} {c : Code} {dC : Nat → ClassId} {dI : Nat → Nat → Nat} {ak : Nat → Nat} {A : Nat → Prop} {ad : Nat → Nat} {kc : Nat → ClassId} {sv : Value} {r : Int32} {τ : S5} {fE lE : Nat}
set_option maxHeartbeats 4000000 in
set_option maxRecDepth 100000 in
theorem w_X5_readCase_b107 {σ : S5} {E : S5 → Option (Int32 × S5)} {v1 : Int32} {H : Heap} {locs : List Loc} {ls : Array Slot} (S : CallFix p m c cX5_readCase 5 s args uG RX5) (hr : meth.sig.returnType = (some .int)) (hk : meth.locks = false) (hR : fE + 8 ≤ R.frames ∧ lE + 182 ≤ R.locals)
    (hE : ∀ (σ τ : S5) (r : Int32), E σ = some (r, τ) → ∀ sz : Nat, Met l yX5_readExpression (Cond.code yX5_readExpression cX5_readExpression 1 (some .int) :: uG) { frames := fE, cells := 0, slots := 0, locals := lE } (gPc (dC, dI) (tC kc) (wC ad kc sv) (zC ak) [.ref (ad 5)] σ sz) (gQi (dC, dI) (tC kc) (wC ad kc sv) (va_A (wC ad kc sv σ) sz) r τ) 0 0 (va_A (wC ad kc sv σ) sz))
    (X : gX (dC, dI) (tC kc) (wC ad kc sv) (zC ak) A s σ H locs) (hl : lv_has ls 5 [(0, .ref (ad 5)), (1, .int v1)]) (hg : f_X5_readCase_b107 E v1 σ = some (r, τ)) : W p l e R s m args below meth c H locs 0 0 (MQ below (gQi (dC, dI) (tC kc) (wC ad kc sv) A r τ) args s 0 0 A) (F0 m 107 ls []) := by
  have hx := S.1
  have hb := S.2.1
  have hown := S.2.2.2.1
  have hu := S.2.2.2.2
  unfold f_X5_readCase_b107 at hg
  refine lv_aload_n hx hb dX5_readCase_107 rfl (lv_at hl 0 rfl) ?_
  refine lv_bipush (v := 125) hx hb dX5_readCase_108 (by decide) ?_
  obtain ⟨r110, τ110, hq110, hg⟩ := bd_some hg
  refine gc_Vv (As := [.int 125]) (rest := []) (q0 := 5) (ci := 8) S X (k2_X5_expect l dC dI ad kc sv hq110 H.size) cw_X5_expect mG_1072 rfl rfl rfl rfl rfl hl.1 (Nat.le_of_ble_eq_true rfl) dX5_readCase_110 ⟨by omega, by omega⟩ (fun H locs X => ?_)
  refine lv_aload_n hx hb dX5_readCase_113 rfl (lv_at hl 0 rfl) ?_
  refine lv_dup hx hb dX5_readCase_114 rfl ?_
  refine wcgI_14 (v := (gI τ110 14)) S X mG_548 rfl dX5_readCase_115 ?_
  refine lv_iconst (v := 1) hx hb dX5_readCase_118 (by decide) ?_
  refine lv_isub hx hb dX5_readCase_119 ?_
  refine wcpI_14 S X mG_548 dX5_readCase_120 (fun H locs X => ?_)
  refine lv_aload_n hx hb dX5_readCase_123 rfl (lv_at hl 0 rfl) ?_
  refine wcgR_5_1 S X mG_539 dX5_readCase_124 ?_
  refine lv_bipush (v := 6) hx hb dX5_readCase_127 (by decide) ?_
  refine lv_iconst (v := 0) hx hb dX5_readCase_129 (by decide) ?_
  refine lv_iconst (v := 0) hx hb dX5_readCase_130 (by decide) ?_
  refine lv_iload_n hx hb dX5_readCase_131 rfl (lv_at hl 1 rfl) ?_
  obtain ⟨r132, τ132, hq132, hg⟩ := bd_some hg
  refine gc_Vi (As := [.int 6, .int 0, .int 0, .int v1]) (rest := []) (q0 := 3) (ci := 12) S X (k2_X9_add l dC dI ad kc sv hq132 H.size) cw_X9_add mG_1152 rfl rfl rfl rfl rfl hl.1 (Nat.le_of_ble_eq_true rfl) dX5_readCase_132 ⟨by omega, by omega⟩ (fun H locs X => ?_)
  obtain ⟨rfl, rfl⟩ := fin_some hg
  exact gr_i S hr hk X dX5_readCase_135
set_option maxHeartbeats 4000000 in
set_option maxRecDepth 100000 in
theorem w_X5_readCase_B55 {σ : S5} {E : S5 → Option (Int32 × S5)} {rec55 : Int32 → Int32 → Int32 → S5 → Option (Int32 × S5)} {v1 : Int32} {v2 : Int32} {v3 : Int32} {H : Heap} {locs : List Loc} {ls : Array Slot} (S : CallFix p m c cX5_readCase 5 s args uG RX5) (hr : meth.sig.returnType = (some .int)) (hk : meth.locks = false) (hR : fE + 8 ≤ R.frames ∧ lE + 182 ≤ R.locals)
    (hE : ∀ (σ τ : S5) (r : Int32), E σ = some (r, τ) → ∀ sz : Nat, Met l yX5_readExpression (Cond.code yX5_readExpression cX5_readExpression 1 (some .int) :: uG) { frames := fE, cells := 0, slots := 0, locals := lE } (gPc (dC, dI) (tC kc) (wC ad kc sv) (zC ak) [.ref (ad 5)] σ sz) (gQi (dC, dI) (tC kc) (wC ad kc sv) (va_A (wC ad kc sv σ) sz) r τ) 0 0 (va_A (wC ad kc sv σ) sz))
    (hrec55 : ∀ (v1 : Int32) (v2 : Int32) (v3 : Int32) (σ : S5) (H : Heap) (locs : List Loc) (ls : Array Slot), gX (dC, dI) (tC kc) (wC ad kc sv) (zC ak) A s σ H locs → lv_has ls 5 [(0, .ref (ad 5)), (1, .int v1), (2, .int v2), (3, .int v3)] → rec55 v1 v2 v3 σ = some (r, τ) → W p l e R s m args below meth c H locs 0 0 (MQ below (gQi (dC, dI) (tC kc) (wC ad kc sv) A r τ) args s 0 0 A) (F0 m 55 ls []))
    (X : gX (dC, dI) (tC kc) (wC ad kc sv) (zC ak) A s σ H locs) (hl : lv_has ls 5 [(0, .ref (ad 5)), (1, .int v1), (2, .int v2), (3, .int v3)]) (hg : f_X5_readCase_B55 E rec55 v1 v2 v3 σ = some (r, τ)) : W p l e R s m args below meth c H locs 0 0 (MQ below (gQi (dC, dI) (tC kc) (wC ad kc sv) A r τ) args s 0 0 A) (F0 m 55 ls []) := by
  have hx := S.1
  have hb := S.2.1
  have hown := S.2.2.2.1
  have hu := S.2.2.2.2
  unfold f_X5_readCase_B55 at hg
  refine lv_iload_n hx hb dX5_readCase_55 rfl (lv_at hl 3 rfl) ?_
  refine lv_bipush (v := 8) hx hb dX5_readCase_56 (by decide) ?_
  refine lv_icmp_gt (tgt := 107) hx hb dX5_readCase_58 (by decide) (fun c58 => ?_) (fun c58 => ?_)
  · have hg := (if_pos c58).symm.trans hg
    exact w_X5_readCase_b107 S hr hk hR hE X (lv_sub hl [0, 1] rfl) hg
  · have hg := (if_neg c58).symm.trans hg
    refine lv_aload_n hx hb dX5_readCase_61 rfl (lv_at hl 0 rfl) ?_
    refine wcgR_5_0 S X mG_538 dX5_readCase_62 ?_
    refine wcgI_17 (v := (gI σ 17)) S X mG_518 rfl dX5_readCase_65 ?_
    refine lv_bipush (v := 59) hx hb dX5_readCase_68 (by decide) ?_
    refine lv_icmp_ne (tgt := 107) hx hb dX5_readCase_70 (by decide) (fun c70 => ?_) (fun c70 => ?_)
    · have hg := (if_neg c70).symm.trans hg
      exact w_X5_readCase_b107 S hr hk hR hE X (lv_sub hl [0, 1] rfl) hg
    · have hg := (if_pos c70).symm.trans hg
      refine lv_aload_n hx hb dX5_readCase_73 rfl (lv_at hl 0 rfl) ?_
      refine wcgR_5_0 S X mG_538 dX5_readCase_74 ?_
      obtain ⟨r77, τ77, hq77, hg⟩ := bd_some hg
      refine gc_Vv (As := []) (rest := []) (q0 := 6) (ci := 13) S X (k2_X10_advance l dC dI ad kc sv hq77 H.size) cw_X10_advance mG_1054 rfl rfl rfl rfl rfl hl.1 (Nat.le_of_ble_eq_true rfl) dX5_readCase_77 ⟨by omega, by omega⟩ (fun H locs X => ?_)
      refine lv_aload_n hx hb dX5_readCase_80 rfl (lv_at hl 0 rfl) ?_
      refine lv_iload_n hx hb dX5_readCase_81 rfl (lv_at hl 3 rfl) ?_
      obtain ⟨r82, τ82, hq82, hg⟩ := bd_some hg
      refine gc_Vi (As := [.int v3]) (rest := []) (q0 := 5) (ci := 8) S X (k2_X5_readAlternative l dC dI ad kc sv hE hq82 H.size) cw_X5_readAlternative mG_1161 rfl rfl rfl rfl rfl hl.1 (Nat.le_of_ble_eq_true rfl) dX5_readCase_82 ⟨by omega, by omega⟩ (fun H locs X => ?_)
      refine lv_istore (lv' := [(4, .int r82), (0, .ref (ad 5)), (1, .int v1), (2, .int v2), (3, .int v3)]) hx hb dX5_readCase_85 hl (by decide) rfl (fun ls hl => ?_)
      refine lv_aload_n hx hb dX5_readCase_87 rfl (lv_at hl 1 rfl) ?_
      refine wcgR_5_1 S X mG_539 dX5_readCase_88 ?_
      refine wcgR_3_4 S X mG_403 dX5_readCase_91 ?_
      refine lv_iload_n hx hb dX5_readCase_94 rfl (lv_at hl 3 rfl) ?_
      refine lv_iload hx hb dX5_readCase_95 (lv_at hl 0 rfl) ?_
      obtain ⟨hi97, hg⟩ := gd_some hg
      refine wcsA_17 S X hi97 dX5_readCase_97 (fun H locs X => ?_)
      refine lv_iload hx hb dX5_readCase_98 (lv_at hl 0 rfl) ?_
      refine lv_istore_n (lv' := [(2, .int r82), (4, .int r82), (0, .ref (ad 5)), (1, .int v1), (3, .int v3)]) hx hb dX5_readCase_100 rfl hl (by decide) rfl (fun ls hl => ?_)
      refine lv_iinc (v := (v3 + 1)) (lv' := [(3, .int (v3 + 1)), (2, .int r82), (4, .int r82), (0, .ref (ad 5)), (1, .int v1)]) hx hb dX5_readCase_101 hl (k := 4) rfl (by rfl) (by decide) rfl (fun ls hl => ?_)
      refine lv_goto (tgt := 55) hx hb dX5_readCase_104 (by decide) ?_
      exact hrec55 _ _ _ _ _ _ _ X (lv_sub hl [3, 4, 1, 0] rfl) hg
set_option maxHeartbeats 4000000 in
set_option maxRecDepth 100000 in
theorem w_X5_readCase_L55 {E : S5 → Option (Int32 × S5)} (S : CallFix p m c cX5_readCase 5 s args uG RX5) (hr : meth.sig.returnType = (some .int)) (hk : meth.locks = false) (hR : fE + 8 ≤ R.frames ∧ lE + 182 ≤ R.locals)
    (hE : ∀ (σ τ : S5) (r : Int32), E σ = some (r, τ) → ∀ sz : Nat, Met l yX5_readExpression (Cond.code yX5_readExpression cX5_readExpression 1 (some .int) :: uG) { frames := fE, cells := 0, slots := 0, locals := lE } (gPc (dC, dI) (tC kc) (wC ad kc sv) (zC ak) [.ref (ad 5)] σ sz) (gQi (dC, dI) (tC kc) (wC ad kc sv) (va_A (wC ad kc sv σ) sz) r τ) 0 0 (va_A (wC ad kc sv σ) sz)) : ∀ (n : Nat) (v1 : Int32) (v2 : Int32) (v3 : Int32) (σ : S5) (H : Heap) (locs : List Loc) (ls : Array Slot), gX (dC, dI) (tC kc) (wC ad kc sv) (zC ak) A s σ H locs → lv_has ls 5 [(0, .ref (ad 5)), (1, .int v1), (2, .int v2), (3, .int v3)] → f_X5_readCase_L55 E n v1 v2 v3 σ = some (r, τ) → W p l e R s m args below meth c H locs 0 0 (MQ below (gQi (dC, dI) (tC kc) (wC ad kc sv) A r τ) args s 0 0 A) (F0 m 55 ls []) := by
  intro n
  induction n with
  | zero => intro v1 v2 v3 σ H locs ls X hl hg; cases hg
  | succ n ih => intro v1 v2 v3 σ H locs ls X hl hg; exact w_X5_readCase_B55 S hr hk hR hE ih X hl hg
set_option maxHeartbeats 4000000 in
set_option maxRecDepth 100000 in
theorem w_X5_readCase {σ : S5} {E : S5 → Option (Int32 × S5)}  {H : Heap} {locs : List Loc} {ls : Array Slot} (S : CallFix p m c cX5_readCase 5 s args uG RX5) (hr : meth.sig.returnType = (some .int)) (hk : meth.locks = false) (hR : fE + 8 ≤ R.frames ∧ lE + 182 ≤ R.locals)
    (hE : ∀ (σ τ : S5) (r : Int32), E σ = some (r, τ) → ∀ sz : Nat, Met l yX5_readExpression (Cond.code yX5_readExpression cX5_readExpression 1 (some .int) :: uG) { frames := fE, cells := 0, slots := 0, locals := lE } (gPc (dC, dI) (tC kc) (wC ad kc sv) (zC ak) [.ref (ad 5)] σ sz) (gQi (dC, dI) (tC kc) (wC ad kc sv) (va_A (wC ad kc sv σ) sz) r τ) 0 0 (va_A (wC ad kc sv σ) sz))
    (X : gX (dC, dI) (tC kc) (wC ad kc sv) (zC ak) A s σ H locs) (hl : lv_has ls 5 [(0, .ref (ad 5))]) (hg : f_X5_readCase E σ = some (r, τ)) : W p l e R s m args below meth c H locs 0 0 (MQ below (gQi (dC, dI) (tC kc) (wC ad kc sv) A r τ) args s 0 0 A) (F0 m 0 ls []) := by
  have hx := S.1
  have hb := S.2.1
  have hown := S.2.2.2.1
  have hu := S.2.2.2.2
  unfold f_X5_readCase at hg
  refine lv_aload_n hx hb dX5_readCase_0 rfl (lv_at hl 0 rfl) ?_
  obtain ⟨r1, τ1, hq1, hg⟩ := bd_some hg
  refine gc_Vi (As := []) (rest := []) (q0 := 5) (ci := 8) S X (k2_X5_opens l dC dI ad kc sv hq1 H.size) cw_X5_opens mG_1128 rfl rfl rfl rfl rfl hl.1 (Nat.le_of_ble_eq_true rfl) dX5_readCase_1 ⟨by omega, by omega⟩ (fun H locs X => ?_)
  refine lv_if_ne (tgt := 9) hx hb dX5_readCase_4 (by decide) (fun c4 => ?_) (fun c4 => ?_)
  · have hg := (if_neg c4).symm.trans hg
    refine lv_aload_n hx hb dX5_readCase_9 rfl (lv_at hl 0 rfl) ?_
    obtain ⟨r10, τ10, hq10, hg⟩ := bd_some hg
    refine gc_Vv (As := []) (rest := []) (q0 := 5) (ci := 8) S X (k2_X5_countPart l dC dI ad kc sv hq10 H.size) cw_X5_countPart mG_1132 rfl rfl rfl rfl rfl hl.1 (Nat.le_of_ble_eq_true rfl) dX5_readCase_10 ⟨by omega, by omega⟩ (fun H locs X => ?_)
    refine lv_aload_n hx hb dX5_readCase_13 rfl (lv_at hl 0 rfl) ?_
    refine wcgR_5_0 S X mG_538 dX5_readCase_14 ?_
    obtain ⟨r17, τ17, hq17, hg⟩ := bd_some hg
    refine gc_Vv (As := []) (rest := []) (q0 := 6) (ci := 13) S X (k2_X10_advance l dC dI ad kc sv hq17 H.size) cw_X10_advance mG_1054 rfl rfl rfl rfl rfl hl.1 (Nat.le_of_ble_eq_true rfl) dX5_readCase_17 ⟨by omega, by omega⟩ (fun H locs X => ?_)
    refine lv_aload_n hx hb dX5_readCase_20 rfl (lv_at hl 0 rfl) ?_
    obtain ⟨r21, τ21, hq21, hg⟩ := bd_some hg
    refine gc_Vi (As := []) (rest := []) (q0 := 5) (ci := 8) S X (hE _ _ _ hq21 H.size) cw_X5_readExpression mG_1120 rfl rfl rfl rfl rfl hl.1 (Nat.le_of_ble_eq_true rfl) dX5_readCase_21 ⟨by omega, by omega⟩ (fun H locs X => ?_)
    refine lv_istore_n (lv' := [(1, .int r21), (0, .ref (ad 5))]) hx hb dX5_readCase_24 rfl hl (by decide) rfl (fun ls hl => ?_)
    refine lv_aload_n hx hb dX5_readCase_25 rfl (lv_at hl 1 rfl) ?_
    refine lv_bipush (v := 10) hx hb dX5_readCase_26 (by decide) ?_
    obtain ⟨r28, τ28, hq28, hg⟩ := bd_some hg
    refine gc_Vv (As := [.int 10]) (rest := []) (q0 := 5) (ci := 8) S X (k2_X5_expect l dC dI ad kc sv hq28 H.size) cw_X5_expect mG_1072 rfl rfl rfl rfl rfl hl.1 (Nat.le_of_ble_eq_true rfl) dX5_readCase_28 ⟨by omega, by omega⟩ (fun H locs X => ?_)
    refine lv_aload_n hx hb dX5_readCase_31 rfl (lv_at hl 1 rfl) ?_
    refine lv_bipush (v := 123) hx hb dX5_readCase_32 (by decide) ?_
    obtain ⟨r34, τ34, hq34, hg⟩ := bd_some hg
    refine gc_Vv (As := [.int 123]) (rest := []) (q0 := 5) (ci := 8) S X (k2_X5_expect l dC dI ad kc sv hq34 H.size) cw_X5_expect mG_1072 rfl rfl rfl rfl rfl hl.1 (Nat.le_of_ble_eq_true rfl) dX5_readCase_34 ⟨by omega, by omega⟩ (fun H locs X => ?_)
    refine lv_aload_n hx hb dX5_readCase_37 rfl (lv_at hl 1 rfl) ?_
    refine lv_iconst (v := 0) hx hb dX5_readCase_38 (by decide) ?_
    obtain ⟨r39, τ39, hq39, hg⟩ := bd_some hg
    refine gc_Vi (As := [.int 0]) (rest := []) (q0 := 5) (ci := 8) S X (k2_X5_readAlternative l dC dI ad kc sv hE hq39 H.size) cw_X5_readAlternative mG_1161 rfl rfl rfl rfl rfl hl.1 (Nat.le_of_ble_eq_true rfl) dX5_readCase_39 ⟨by omega, by omega⟩ (fun H locs X => ?_)
    refine lv_istore_n (lv' := [(2, .int r39), (1, .int r21), (0, .ref (ad 5))]) hx hb dX5_readCase_42 rfl hl (by decide) rfl (fun ls hl => ?_)
    refine lv_aload_n hx hb dX5_readCase_43 rfl (lv_at hl 2 rfl) ?_
    refine wcgR_5_1 S X mG_539 dX5_readCase_44 ?_
    refine wcgR_3_4 S X mG_403 dX5_readCase_47 ?_
    refine lv_iload_n hx hb dX5_readCase_50 rfl (lv_at hl 1 rfl) ?_
    refine lv_iload_n hx hb dX5_readCase_51 rfl (lv_at hl 0 rfl) ?_
    obtain ⟨hi52, hg⟩ := gd_some hg
    refine wcsA_17 S X hi52 dX5_readCase_52 (fun H locs X => ?_)
    refine lv_iconst (v := 1) hx hb dX5_readCase_53 (by decide) ?_
    refine lv_istore_n (lv' := [(3, .int 1), (2, .int r39), (1, .int r21), (0, .ref (ad 5))]) hx hb dX5_readCase_54 rfl hl (by decide) rfl (fun ls hl => ?_)
    exact w_X5_readCase_L55 S hr hk hR hE _ _ _ _ _ _ _ _ X (lv_sub hl [3, 2, 1, 0] rfl) hg
  · have hg := (if_pos c4).symm.trans hg
    refine lv_iconst (v := 0) hx hb dX5_readCase_7 (by decide) ?_
    obtain ⟨rfl, rfl⟩ := fin_some hg
    exact gr_i S hr hk X dX5_readCase_8
end MX5_readCase
set_option maxRecDepth 100000 in
theorem k2_X5_readCase (l : Launch) (dC : Nat → ClassId) (dI : Nat → Nat → Nat) {ak : Nat → Nat} (ad : Nat → Nat) (kc : Nat → ClassId) (sv : Value) {E : S5 → Option (Int32 × S5)} {fE lE : Nat} {σ τ : S5}  {r : Int32} (hE : ∀ (σ τ : S5) (r : Int32), E σ = some (r, τ) → ∀ sz : Nat, Met l yX5_readExpression (Cond.code yX5_readExpression cX5_readExpression 1 (some .int) :: uG) { frames := fE, cells := 0, slots := 0, locals := lE } (gPc (dC, dI) (tC kc) (wC ad kc sv) (zC ak) [.ref (ad 5)] σ sz) (gQi (dC, dI) (tC kc) (wC ad kc sv) (va_A (wC ad kc sv σ) sz) r τ) 0 0 (va_A (wC ad kc sv σ) sz)) (hg : f_X5_readCase E  σ = some (r, τ)) (sz : Nat) : Met l yX5_readCase (Cond.code yX5_readCase cX5_readCase 5 (some .int) :: uG) { frames := fE + 8, cells := 0, slots := 0, locals := lE + 182 } (gPc (dC, dI) (tC kc) (wC ad kc sv) (zC ak) [.ref (ad 5)] σ sz) (gQi (dC, dI) (tC kc) (wC ad kc sv) (va_A (wC ad kc sv σ) sz) r τ) 0 0 (va_A (wC ad kc sv σ) sz) :=
  g_start (by decide) (Nat.le_of_ble_eq_true rfl) (fun p e s m below meth c ls S hr hk X hl => w_X5_readCase S hr hk ⟨Nat.le_refl _, Nat.le_refl _⟩ hE X hl hg)
section MX5_readExpression
variable {p : Program} {l : Launch} {e : Env} {R : Room} {s : State} {m : MethodId} {args : Array Value} {below : List Frame} {meth : Method} {c : Code} {dC : Nat → ClassId} {dI : Nat → Nat → Nat} {ak : Nat → Nat} {A : Nat → Prop} {ad : Nat → Nat} {kc : Nat → ClassId} {sv : Value} {r : Int32} {τ : S5} {fE lE : Nat}
set_option maxHeartbeats 4000000 in
set_option maxRecDepth 100000 in
theorem w_X5_readExpression {σ : S5} {E : S5 → Option (Int32 × S5)}  {H : Heap} {locs : List Loc} {ls : Array Slot} (S : CallFix p m c cX5_readExpression 1 s args uG RX5) (hr : meth.sig.returnType = (some .int)) (hk : meth.locks = false) (hR : fE + 13 ≤ R.frames ∧ lE + 294 ≤ R.locals)
    (hE : ∀ (σ τ : S5) (r : Int32), E σ = some (r, τ) → ∀ sz : Nat, Met l yX5_readExpression (Cond.code yX5_readExpression cX5_readExpression 1 (some .int) :: uG) { frames := fE, cells := 0, slots := 0, locals := lE } (gPc (dC, dI) (tC kc) (wC ad kc sv) (zC ak) [.ref (ad 5)] σ sz) (gQi (dC, dI) (tC kc) (wC ad kc sv) (va_A (wC ad kc sv σ) sz) r τ) 0 0 (va_A (wC ad kc sv σ) sz))
    (X : gX (dC, dI) (tC kc) (wC ad kc sv) (zC ak) A s σ H locs) (hl : lv_has ls 1 [(0, .ref (ad 5))]) (hg : f_X5_readExpression E σ = some (r, τ)) : W p l e R s m args below meth c H locs 0 0 (MQ below (gQi (dC, dI) (tC kc) (wC ad kc sv) A r τ) args s 0 0 A) (F0 m 0 ls []) := by
  have hx := S.1
  have hb := S.2.1
  have hown := S.2.2.2.1
  have hu := S.2.2.2.2
  unfold f_X5_readExpression at hg
  refine lv_aload_n hx hb dX5_readExpression_0 rfl (lv_at hl 0 rfl) ?_
  refine wcgR_5_0 S X mG_538 dX5_readExpression_1 ?_
  refine wcgI_17 (v := (gI σ 17)) S X mG_518 rfl dX5_readExpression_4 ?_
  by_cases hs0 : (gI σ 17) = 7
  · have hg := (if_pos hs0).symm.trans hg
    refine lv_lookup (off := 33) (tgt := 40) hx hb dX5_readExpression_7 (by decide) (by rw [hs0]; decide) (by decide) ?_
    refine lv_aload_n hx hb dX5_readExpression_40 rfl (lv_at hl 0 rfl) ?_
    obtain ⟨r41, τ41, hq41, hg⟩ := bd_some hg
    refine gc_Vi (As := []) (rest := []) (q0 := 5) (ci := 8) S X (k2_X5_readLet l dC dI ad kc sv hE hq41 H.size) cw_X5_readLet mG_1124 rfl rfl rfl rfl rfl hl.1 (Nat.le_of_ble_eq_true rfl) dX5_readExpression_41 ⟨by omega, by omega⟩ (fun H locs X => ?_)
    obtain ⟨rfl, rfl⟩ := fin_some hg
    exact gr_i S hr hk X dX5_readExpression_44
  have hg := (if_neg hs0).symm.trans hg
  by_cases hs1 : (gI σ 17) = 9
  · have hg := (if_pos hs1).symm.trans hg
    refine lv_lookup (off := 43) (tgt := 50) hx hb dX5_readExpression_7 (by decide) (by rw [hs1]; decide) (by decide) ?_
    refine lv_aload_n hx hb dX5_readExpression_50 rfl (lv_at hl 0 rfl) ?_
    obtain ⟨r51, τ51, hq51, hg⟩ := bd_some hg
    refine gc_Vi (As := []) (rest := []) (q0 := 5) (ci := 8) S X (k2_X5_readCase l dC dI ad kc sv hE hq51 H.size) cw_X5_readCase mG_1157 rfl rfl rfl rfl rfl hl.1 (Nat.le_of_ble_eq_true rfl) dX5_readExpression_51 ⟨by omega, by omega⟩ (fun H locs X => ?_)
    obtain ⟨rfl, rfl⟩ := fin_some hg
    exact gr_i S hr hk X dX5_readExpression_54
  have hg := (if_neg hs1).symm.trans hg
  by_cases hs2 : (gI σ 17) = 92
  · have hg := (if_pos hs2).symm.trans hg
    refine lv_lookup (off := 38) (tgt := 45) hx hb dX5_readExpression_7 (by decide) (by rw [hs2]; decide) (by decide) ?_
    refine lv_aload_n hx hb dX5_readExpression_45 rfl (lv_at hl 0 rfl) ?_
    obtain ⟨r46, τ46, hq46, hg⟩ := bd_some hg
    refine gc_Vi (As := []) (rest := []) (q0 := 5) (ci := 8) S X (k2_X5_readLambda l dC dI ad kc sv hE hq46 H.size) cw_X5_readLambda mG_1153 rfl rfl rfl rfl rfl hl.1 (Nat.le_of_ble_eq_true rfl) dX5_readExpression_46 ⟨by omega, by omega⟩ (fun H locs X => ?_)
    obtain ⟨rfl, rfl⟩ := fin_some hg
    exact gr_i S hr hk X dX5_readExpression_49
  have hg := (if_neg hs2).symm.trans hg
  refine lv_lookup (off := 48) (tgt := 55) hx hb dX5_readExpression_7 (by decide) (by show Op.lookupswitch.offset [(7, 33), (9, 43), (92, 38)] 48 ((gI σ 17)).toInt = 48; simp only [Op.lookupswitch.offset, lk_ne (a := 7) hs0 (by decide), lk_ne (a := 9) hs1 (by decide), lk_ne (a := 92) hs2 (by decide), if_false]) (by decide) ?_
  refine lv_aload_n hx hb dX5_readExpression_55 rfl (lv_at hl 0 rfl) ?_
  obtain ⟨r56, τ56, hq56, hg⟩ := bd_some hg
  refine gc_Vi (As := []) (rest := []) (q0 := 5) (ci := 8) S X (k2_X5_readComparison l dC dI ad kc sv hE hq56 H.size) cw_X5_readComparison mG_1165 rfl rfl rfl rfl rfl hl.1 (Nat.le_of_ble_eq_true rfl) dX5_readExpression_56 ⟨by omega, by omega⟩ (fun H locs X => ?_)
  obtain ⟨rfl, rfl⟩ := fin_some hg
  exact gr_i S hr hk X dX5_readExpression_59
end MX5_readExpression
set_option maxRecDepth 100000 in
theorem k2_X5_readExpression (l : Launch) (dC : Nat → ClassId) (dI : Nat → Nat → Nat) {ak : Nat → Nat} (ad : Nat → Nat) (kc : Nat → ClassId) (sv : Value) {E : S5 → Option (Int32 × S5)} {fE lE : Nat} {σ τ : S5}  {r : Int32} (hE : ∀ (σ τ : S5) (r : Int32), E σ = some (r, τ) → ∀ sz : Nat, Met l yX5_readExpression (Cond.code yX5_readExpression cX5_readExpression 1 (some .int) :: uG) { frames := fE, cells := 0, slots := 0, locals := lE } (gPc (dC, dI) (tC kc) (wC ad kc sv) (zC ak) [.ref (ad 5)] σ sz) (gQi (dC, dI) (tC kc) (wC ad kc sv) (va_A (wC ad kc sv σ) sz) r τ) 0 0 (va_A (wC ad kc sv σ) sz)) (hg : f_X5_readExpression E  σ = some (r, τ)) (sz : Nat) : Met l yX5_readExpression (Cond.code yX5_readExpression cX5_readExpression 1 (some .int) :: uG) { frames := fE + 13, cells := 0, slots := 0, locals := lE + 294 } (gPc (dC, dI) (tC kc) (wC ad kc sv) (zC ak) [.ref (ad 5)] σ sz) (gQi (dC, dI) (tC kc) (wC ad kc sv) (va_A (wC ad kc sv σ) sz) r τ) 0 0 (va_A (wC ad kc sv σ) sz) :=
  g_start (by decide) (Nat.le_of_ble_eq_true rfl) (fun p e s m below meth c ls S hr hk X hl => w_X5_readExpression S hr hk ⟨Nat.le_refl _, Nat.le_refl _⟩ hE X hl hg)
section MX5_readFunction
variable {p : Program} {l : Launch} {e : Env} {R : Room} {s : State} {m : MethodId} {args : Array Value} {below : List Frame} {meth : Method} {c : Code} {dC : Nat → ClassId} {dI : Nat → Nat → Nat} {ak : Nat → Nat} {A : Nat → Prop} {ad : Nat → Nat} {kc : Nat → ClassId} {sv : Value} {r : Unit} {τ : S5} {fE lE : Nat}
set_option maxHeartbeats 4000000 in
set_option maxRecDepth 100000 in
theorem w_X5_readFunction_b62 {σ : S5} {E : S5 → Option (Int32 × S5)}  {H : Heap} {locs : List Loc} {ls : Array Slot} (S : CallFix p m c cX5_readFunction 2 s args uG RX5) (hr : meth.sig.returnType = none) (hk : meth.locks = false) (hR : fE + 8 ≤ R.frames ∧ lE + 178 ≤ R.locals)
    (hE : ∀ (σ τ : S5) (r : Int32), E σ = some (r, τ) → ∀ sz : Nat, Met l yX5_readExpression (Cond.code yX5_readExpression cX5_readExpression 1 (some .int) :: uG) { frames := fE, cells := 0, slots := 0, locals := lE } (gPc (dC, dI) (tC kc) (wC ad kc sv) (zC ak) [.ref (ad 5)] σ sz) (gQi (dC, dI) (tC kc) (wC ad kc sv) (va_A (wC ad kc sv σ) sz) r τ) 0 0 (va_A (wC ad kc sv σ) sz))
    (X : gX (dC, dI) (tC kc) (wC ad kc sv) (zC ak) A s σ H locs) (hl : lv_has ls 2 [(0, .ref (ad 5))]) (hg : f_X5_readFunction_b62 E σ = some (r, τ)) : W p l e R s m args below meth c H locs 0 0 (MQ below (gQv (dC, dI) (tC kc) (wC ad kc sv) A r τ) args s 0 0 A) (F0 m 62 ls []) := by
  have hx := S.1
  have hb := S.2.1
  have hown := S.2.2.2.1
  have hu := S.2.2.2.2
  unfold f_X5_readFunction_b62 at hg
  refine lv_aload_n hx hb dX5_readFunction_62 rfl (lv_at hl 0 rfl) ?_
  refine wcgR_5_0 S X mG_538 dX5_readFunction_63 ?_
  refine wcgI_17 (v := (gI σ 17)) S X mG_518 rfl dX5_readFunction_66 ?_
  refine lv_if_ne (tgt := 73) hx hb dX5_readFunction_69 (by decide) (fun c69 => ?_) (fun c69 => ?_)
  · have hg := (if_neg c69).symm.trans hg
    refine lv_aload_n hx hb dX5_readFunction_73 rfl (lv_at hl 0 rfl) ?_
    refine wcgR_5_3 S X mG_541 dX5_readFunction_74 ?_
    refine lv_iconst (v := (-1)) hx hb dX5_readFunction_77 (by decide) ?_
    refine lv_aload_n hx hb dX5_readFunction_78 rfl (lv_at hl 0 rfl) ?_
    refine wcgR_5_0 S X mG_538 dX5_readFunction_79 ?_
    refine wcgI_18 (v := (gI σ 18)) S X mG_519 rfl dX5_readFunction_82 ?_
    refine lv_iconst (v := 1) hx hb dX5_readFunction_85 (by decide) ?_
    obtain ⟨r86, τ86, hq86, hg⟩ := bd_some hg
    refine gc_Vi (As := [.int (-1), .int (gI σ 18), .int 1]) (rest := []) (q0 := 4) (ci := 9) S X (k2_X6_add l dC dI ad kc sv hq86 H.size) cw_X6_add mG_1084 rfl rfl rfl rfl rfl hl.1 (Nat.le_of_ble_eq_true rfl) dX5_readFunction_86 ⟨by omega, by omega⟩ (fun H locs X => ?_)
    refine lv_istore_n (lv' := [(1, .int r86), (0, .ref (ad 5))]) hx hb dX5_readFunction_89 rfl hl (by decide) rfl (fun ls hl => ?_)
    refine lv_aload_n hx hb dX5_readFunction_90 rfl (lv_at hl 1 rfl) ?_
    refine wcgR_5_2 S X mG_540 dX5_readFunction_91 ?_
    refine lv_aload_n hx hb dX5_readFunction_94 rfl (lv_at hl 1 rfl) ?_
    refine wcgR_5_0 S X mG_538 dX5_readFunction_95 ?_
    refine wcgJ_0 (v := (gJ τ86 0)) S X mG_524 rfl dX5_readFunction_98 ?_
    refine lv_iload_n hx hb dX5_readFunction_101 rfl (lv_at hl 0 rfl) ?_
    obtain ⟨r102, τ102, hq102, hg⟩ := bd_some hg
    refine gc_Vv (As := [.long (gJ τ86 0), .int r86]) (rest := []) (q0 := 2) (ci := 7) S X (k2_X4_addTop l dC dI ad kc sv hq102 H.size) cw_X4_addTop mG_1088 rfl rfl rfl rfl rfl hl.1 (Nat.le_of_ble_eq_true rfl) dX5_readFunction_102 ⟨by omega, by omega⟩ (fun H locs X => ?_)
    refine lv_aload_n hx hb dX5_readFunction_105 rfl (lv_at hl 1 rfl) ?_
    refine wcgR_5_0 S X mG_538 dX5_readFunction_106 ?_
    obtain ⟨r109, τ109, hq109, hg⟩ := bd_some hg
    refine gc_Vv (As := []) (rest := []) (q0 := 6) (ci := 13) S X (k2_X10_advance l dC dI ad kc sv hq109 H.size) cw_X10_advance mG_1054 rfl rfl rfl rfl rfl hl.1 (Nat.le_of_ble_eq_true rfl) dX5_readFunction_109 ⟨by omega, by omega⟩ (fun H locs X => ?_)
    refine lv_aload_n hx hb dX5_readFunction_112 rfl (lv_at hl 1 rfl) ?_
    refine lv_iload_n hx hb dX5_readFunction_113 rfl (lv_at hl 0 rfl) ?_
    obtain ⟨r114, τ114, hq114, hg⟩ := bd_some hg
    refine gc_Vv (As := [.int r86]) (rest := []) (q0 := 5) (ci := 8) S X (k2_X5_readParameters l dC dI ad kc sv hq114 H.size) cw_X5_readParameters mG_1096 rfl rfl rfl rfl rfl hl.1 (Nat.le_of_ble_eq_true rfl) dX5_readFunction_114 ⟨by omega, by omega⟩ (fun H locs X => ?_)
    refine lv_aload_n hx hb dX5_readFunction_117 rfl (lv_at hl 1 rfl) ?_
    refine lv_bipush (v := 61) hx hb dX5_readFunction_118 (by decide) ?_
    obtain ⟨r120, τ120, hq120, hg⟩ := bd_some hg
    refine gc_Vv (As := [.int 61]) (rest := []) (q0 := 5) (ci := 8) S X (k2_X5_expect l dC dI ad kc sv hq120 H.size) cw_X5_expect mG_1072 rfl rfl rfl rfl rfl hl.1 (Nat.le_of_ble_eq_true rfl) dX5_readFunction_120 ⟨by omega, by omega⟩ (fun H locs X => ?_)
    refine lv_aload_n hx hb dX5_readFunction_123 rfl (lv_at hl 1 rfl) ?_
    refine wcgR_5_3 S X mG_541 dX5_readFunction_124 ?_
    refine wcgR_4_4 S X mG_451 dX5_readFunction_127 ?_
    refine lv_iload_n hx hb dX5_readFunction_130 rfl (lv_at hl 0 rfl) ?_
    refine lv_aload_n hx hb dX5_readFunction_131 rfl (lv_at hl 1 rfl) ?_
    refine lv_iload_n hx hb dX5_readFunction_132 rfl (lv_at hl 0 rfl) ?_
    obtain ⟨r133, τ133, hq133, hg⟩ := bd_some hg
    refine gc_Vi (As := [.int r86]) (rest := [.int r86, .ref (ad 37)]) (q0 := 5) (ci := 8) S X (k2_X5_readWithin l dC dI ad kc sv hE hq133 H.size) cw_X5_readWithin mG_1116 rfl rfl rfl rfl rfl hl.1 (Nat.le_of_ble_eq_true rfl) dX5_readFunction_133 ⟨by omega, by omega⟩ (fun H locs X => ?_)
    obtain ⟨hi136, hg⟩ := gd_some hg
    refine wcsA_23 S X hi136 dX5_readFunction_136 (fun H locs X => ?_)
    refine lv_aload_n hx hb dX5_readFunction_137 rfl (lv_at hl 1 rfl) ?_
    refine lv_bipush (v := 59) hx hb dX5_readFunction_138 (by decide) ?_
    obtain ⟨r140, τ140, hq140, hg⟩ := bd_some hg
    refine gc_Vv (As := [.int 59]) (rest := []) (q0 := 5) (ci := 8) S X (k2_X5_expect l dC dI ad kc sv hq140 H.size) cw_X5_expect mG_1072 rfl rfl rfl rfl rfl hl.1 (Nat.le_of_ble_eq_true rfl) dX5_readFunction_140 ⟨by omega, by omega⟩ (fun H locs X => ?_)
    obtain ⟨-, rfl⟩ := fin_some hg
    exact gr_v S hr hk X dX5_readFunction_143
  · have hg := (if_pos c69).symm.trans hg
    obtain ⟨-, rfl⟩ := fin_some hg
    exact gr_v S hr hk X dX5_readFunction_72
set_option maxHeartbeats 4000000 in
set_option maxRecDepth 100000 in
theorem w_X5_readFunction {σ : S5} {E : S5 → Option (Int32 × S5)}  {H : Heap} {locs : List Loc} {ls : Array Slot} (S : CallFix p m c cX5_readFunction 2 s args uG RX5) (hr : meth.sig.returnType = none) (hk : meth.locks = false) (hR : fE + 8 ≤ R.frames ∧ lE + 178 ≤ R.locals)
    (hE : ∀ (σ τ : S5) (r : Int32), E σ = some (r, τ) → ∀ sz : Nat, Met l yX5_readExpression (Cond.code yX5_readExpression cX5_readExpression 1 (some .int) :: uG) { frames := fE, cells := 0, slots := 0, locals := lE } (gPc (dC, dI) (tC kc) (wC ad kc sv) (zC ak) [.ref (ad 5)] σ sz) (gQi (dC, dI) (tC kc) (wC ad kc sv) (va_A (wC ad kc sv σ) sz) r τ) 0 0 (va_A (wC ad kc sv σ) sz))
    (X : gX (dC, dI) (tC kc) (wC ad kc sv) (zC ak) A s σ H locs) (hl : lv_has ls 2 [(0, .ref (ad 5))]) (hg : f_X5_readFunction E σ = some (r, τ)) : W p l e R s m args below meth c H locs 0 0 (MQ below (gQv (dC, dI) (tC kc) (wC ad kc sv) A r τ) args s 0 0 A) (F0 m 0 ls []) := by
  have hx := S.1
  have hb := S.2.1
  have hown := S.2.2.2.1
  have hu := S.2.2.2.2
  unfold f_X5_readFunction at hg
  refine lv_aload_n hx hb dX5_readFunction_0 rfl (lv_at hl 0 rfl) ?_
  refine wcgR_5_0 S X mG_538 dX5_readFunction_1 ?_
  refine wcgI_17 (v := (gI σ 17)) S X mG_518 rfl dX5_readFunction_4 ?_
  refine lv_iconst (v := 3) hx hb dX5_readFunction_7 (by decide) ?_
  refine lv_icmp_eq (tgt := 19) hx hb dX5_readFunction_8 (by decide) (fun c8 => ?_) (fun c8 => ?_)
  · have hg := (if_pos c8).symm.trans hg
    refine lv_aload_n hx hb dX5_readFunction_19 rfl (lv_at hl 0 rfl) ?_
    refine wcgR_5_2 S X mG_540 dX5_readFunction_20 ?_
    refine lv_aload_n hx hb dX5_readFunction_23 rfl (lv_at hl 0 rfl) ?_
    refine wcgR_5_0 S X mG_538 dX5_readFunction_24 ?_
    refine wcgJ_0 (v := (gJ σ 0)) S X mG_524 rfl dX5_readFunction_27 ?_
    obtain ⟨r30, τ30, hq30, hg⟩ := bd_some hg
    refine gc_Vi (As := [.long (gJ σ 0)]) (rest := []) (q0 := 2) (ci := 7) S X (k2_X4_topOf l dC dI ad kc sv hq30 H.size) cw_X4_topOf mG_1080 rfl rfl rfl rfl rfl hl.1 (Nat.le_of_ble_eq_true rfl) dX5_readFunction_30 ⟨by omega, by omega⟩ (fun H locs X => ?_)
    refine lv_iconst (v := (-1)) hx hb dX5_readFunction_33 (by decide) ?_
    refine lv_icmp_eq (tgt := 45) hx hb dX5_readFunction_34 (by decide) (fun c34 => ?_) (fun c34 => ?_)
    · have hg := (if_pos c34).symm.trans hg
      refine lv_aload_n hx hb dX5_readFunction_45 rfl (lv_at hl 0 rfl) ?_
      refine wcgR_5_2 S X mG_540 dX5_readFunction_46 ?_
      refine wcgI_5 (v := (gI τ30 5)) S X mG_298 rfl dX5_readFunction_49 ?_
      refine lv_bipush (v := 30) hx hb dX5_readFunction_52 (by decide) ?_
      refine lv_icmp_lt (tgt := 62) hx hb dX5_readFunction_54 (by decide) (fun c54 => ?_) (fun c54 => ?_)
      · have hg := (if_pos c54).symm.trans hg
        exact w_X5_readFunction_b62 S hr hk hR hE X (lv_sub hl [0] rfl) hg
      · have hg := (if_neg c54).symm.trans hg
        refine lv_aload_n hx hb dX5_readFunction_57 rfl (lv_at hl 0 rfl) ?_
        refine lv_iconst (v := 4) hx hb dX5_readFunction_58 (by decide) ?_
        obtain ⟨r59, τ59, hq59, hg⟩ := bd_some hg
        refine gc_Vv (As := [.int 4]) (rest := []) (q0 := 5) (ci := 8) S X (k2_X5_refuse l dC dI ad kc sv hq59 H.size) cw_X5_refuse mG_1059 rfl rfl rfl rfl rfl hl.1 (Nat.le_of_ble_eq_true rfl) dX5_readFunction_59 ⟨by omega, by omega⟩ (fun H locs X => ?_)
        exact w_X5_readFunction_b62 S hr hk hR hE X (lv_sub hl [0] rfl) hg
    · have hg := (if_neg c34).symm.trans hg
      refine lv_aload_n hx hb dX5_readFunction_37 rfl (lv_at hl 0 rfl) ?_
      refine lv_iconst (v := 2) hx hb dX5_readFunction_38 (by decide) ?_
      obtain ⟨r39, τ39, hq39, hg⟩ := bd_some hg
      refine gc_Vv (As := [.int 2]) (rest := []) (q0 := 5) (ci := 8) S X (k2_X5_refuse l dC dI ad kc sv hq39 H.size) cw_X5_refuse mG_1059 rfl rfl rfl rfl rfl hl.1 (Nat.le_of_ble_eq_true rfl) dX5_readFunction_39 ⟨by omega, by omega⟩ (fun H locs X => ?_)
      refine lv_goto (tgt := 62) hx hb dX5_readFunction_42 (by decide) ?_
      exact w_X5_readFunction_b62 S hr hk hR hE X (lv_sub hl [0] rfl) hg
  · have hg := (if_neg c8).symm.trans hg
    refine lv_aload_n hx hb dX5_readFunction_11 rfl (lv_at hl 0 rfl) ?_
    refine lv_iconst (v := 1) hx hb dX5_readFunction_12 (by decide) ?_
    obtain ⟨r13, τ13, hq13, hg⟩ := bd_some hg
    refine gc_Vv (As := [.int 1]) (rest := []) (q0 := 5) (ci := 8) S X (k2_X5_refuse l dC dI ad kc sv hq13 H.size) cw_X5_refuse mG_1059 rfl rfl rfl rfl rfl hl.1 (Nat.le_of_ble_eq_true rfl) dX5_readFunction_13 ⟨by omega, by omega⟩ (fun H locs X => ?_)
    refine lv_goto (tgt := 62) hx hb dX5_readFunction_16 (by decide) ?_
    exact w_X5_readFunction_b62 S hr hk hR hE X (lv_sub hl [0] rfl) hg
end MX5_readFunction
set_option maxRecDepth 100000 in
theorem k2_X5_readFunction (l : Launch) (dC : Nat → ClassId) (dI : Nat → Nat → Nat) {ak : Nat → Nat} (ad : Nat → Nat) (kc : Nat → ClassId) (sv : Value) {E : S5 → Option (Int32 × S5)} {fE lE : Nat} {σ τ : S5}  {r : Unit} (hE : ∀ (σ τ : S5) (r : Int32), E σ = some (r, τ) → ∀ sz : Nat, Met l yX5_readExpression (Cond.code yX5_readExpression cX5_readExpression 1 (some .int) :: uG) { frames := fE, cells := 0, slots := 0, locals := lE } (gPc (dC, dI) (tC kc) (wC ad kc sv) (zC ak) [.ref (ad 5)] σ sz) (gQi (dC, dI) (tC kc) (wC ad kc sv) (va_A (wC ad kc sv σ) sz) r τ) 0 0 (va_A (wC ad kc sv σ) sz)) (hg : f_X5_readFunction E  σ = some (r, τ)) (sz : Nat) : Met l yX5_readFunction (Cond.code yX5_readFunction cX5_readFunction 2 none :: uG) { frames := fE + 8, cells := 0, slots := 0, locals := lE + 178 } (gPc (dC, dI) (tC kc) (wC ad kc sv) (zC ak) [.ref (ad 5)] σ sz) (gQv (dC, dI) (tC kc) (wC ad kc sv) (va_A (wC ad kc sv σ) sz) r τ) 0 0 (va_A (wC ad kc sv σ) sz) :=
  g_start (by decide) (Nat.le_of_ble_eq_true rfl) (fun p e s m below meth c ls S hr hk X hl => w_X5_readFunction S hr hk ⟨Nat.le_refl _, Nat.le_refl _⟩ hE X hl hg)
section MX5_readText
variable {p : Program} {l : Launch} {e : Env} {R : Room} {s : State} {m : MethodId} {args : Array Value} {below : List Frame} {meth : Method} {c : Code} {dC : Nat → ClassId} {dI : Nat → Nat → Nat} {ak : Nat → Nat} {A : Nat → Prop} {ad : Nat → Nat} {kc : Nat → ClassId} {sv : Value} {r : Unit} {τ : S5} {fE lE : Nat}
set_option maxHeartbeats 4000000 in
set_option maxRecDepth 100000 in
theorem w_X5_readText_B90 {σ : S5} {E : S5 → Option (Int32 × S5)} {rec90 : Int32 → S5 → Option (Unit × S5)} {v1 : Int32} {H : Heap} {locs : List Loc} {ls : Array Slot} (S : CallFix p m c cX5_readText 2 s args uG RX5) (hr : meth.sig.returnType = none) (hk : meth.locks = false) (hR : fE + 9 ≤ R.frames ∧ lE + 199 ≤ R.locals)
    (hE : ∀ (σ τ : S5) (r : Int32), E σ = some (r, τ) → ∀ sz : Nat, Met l yX5_readExpression (Cond.code yX5_readExpression cX5_readExpression 1 (some .int) :: uG) { frames := fE, cells := 0, slots := 0, locals := lE } (gPc (dC, dI) (tC kc) (wC ad kc sv) (zC ak) [.ref (ad 5)] σ sz) (gQi (dC, dI) (tC kc) (wC ad kc sv) (va_A (wC ad kc sv σ) sz) r τ) 0 0 (va_A (wC ad kc sv σ) sz))
    (hrec90 : ∀ (v1 : Int32) (σ : S5) (H : Heap) (locs : List Loc) (ls : Array Slot), gX (dC, dI) (tC kc) (wC ad kc sv) (zC ak) A s σ H locs → lv_has ls 2 [(0, .ref (ad 5)), (1, .int v1)] → rec90 v1 σ = some (r, τ) → W p l e R s m args below meth c H locs 0 0 (MQ below (gQv (dC, dI) (tC kc) (wC ad kc sv) A r τ) args s 0 0 A) (F0 m 90 ls []))
    (X : gX (dC, dI) (tC kc) (wC ad kc sv) (zC ak) A s σ H locs) (hl : lv_has ls 2 [(0, .ref (ad 5)), (1, .int v1)]) (hg : f_X5_readText_B90 E rec90 v1 σ = some (r, τ)) : W p l e R s m args below meth c H locs 0 0 (MQ below (gQv (dC, dI) (tC kc) (wC ad kc sv) A r τ) args s 0 0 A) (F0 m 90 ls []) := by
  have hx := S.1
  have hb := S.2.1
  have hown := S.2.2.2.1
  have hu := S.2.2.2.2
  unfold f_X5_readText_B90 at hg
  refine lv_iload_n hx hb dX5_readText_90 rfl (lv_at hl 1 rfl) ?_
  refine lv_bipush (v := 30) hx hb dX5_readText_91 (by decide) ?_
  refine lv_icmp_ge (tgt := 127) hx hb dX5_readText_93 (by decide) (fun c93 => ?_) (fun c93 => ?_)
  · have hg := (if_pos c93).symm.trans hg
    obtain ⟨-, rfl⟩ := fin_some hg
    exact gr_v S hr hk X dX5_readText_127
  · have hg := (if_neg c93).symm.trans hg
    refine lv_aload_n hx hb dX5_readText_96 rfl (lv_at hl 0 rfl) ?_
    refine wcgR_5_0 S X mG_538 dX5_readText_97 ?_
    refine wcgI_17 (v := (gI σ 17)) S X mG_518 rfl dX5_readText_100 ?_
    refine lv_iconst (v := 1) hx hb dX5_readText_103 (by decide) ?_
    refine lv_icmp_eq (tgt := 127) hx hb dX5_readText_104 (by decide) (fun c104 => ?_) (fun c104 => ?_)
    · have hg := (if_pos c104).symm.trans hg
      obtain ⟨-, rfl⟩ := fin_some hg
      exact gr_v S hr hk X dX5_readText_127
    · have hg := (if_neg c104).symm.trans hg
      refine lv_aload_n hx hb dX5_readText_107 rfl (lv_at hl 0 rfl) ?_
      refine wcgR_5_0 S X mG_538 dX5_readText_108 ?_
      refine wcgI_17 (v := (gI σ 17)) S X mG_518 rfl dX5_readText_111 ?_
      refine lv_if_eq (tgt := 127) hx hb dX5_readText_114 (by decide) (fun c114 => ?_) (fun c114 => ?_)
      · have hg := (if_pos c114).symm.trans hg
        obtain ⟨-, rfl⟩ := fin_some hg
        exact gr_v S hr hk X dX5_readText_127
      · have hg := (if_neg c114).symm.trans hg
        refine lv_aload_n hx hb dX5_readText_117 rfl (lv_at hl 0 rfl) ?_
        obtain ⟨r118, τ118, hq118, hg⟩ := bd_some hg
        refine gc_Vv (As := []) (rest := []) (q0 := 5) (ci := 8) S X (k2_X5_readFunction l dC dI ad kc sv hE hq118 H.size) cw_X5_readFunction mG_1076 rfl rfl rfl rfl rfl hl.1 (Nat.le_of_ble_eq_true rfl) dX5_readText_118 ⟨by omega, by omega⟩ (fun H locs X => ?_)
        refine lv_iinc (v := (v1 + 1)) (lv' := [(1, .int (v1 + 1)), (0, .ref (ad 5))]) hx hb dX5_readText_121 hl (k := 1) rfl (by rfl) (by decide) rfl (fun ls hl => ?_)
        refine lv_goto (tgt := 90) hx hb dX5_readText_124 (by decide) ?_
        exact hrec90 _ _ _ _ _ X (lv_sub hl [1, 0] rfl) hg
set_option maxHeartbeats 4000000 in
set_option maxRecDepth 100000 in
theorem w_X5_readText_L90 {E : S5 → Option (Int32 × S5)} (S : CallFix p m c cX5_readText 2 s args uG RX5) (hr : meth.sig.returnType = none) (hk : meth.locks = false) (hR : fE + 9 ≤ R.frames ∧ lE + 199 ≤ R.locals)
    (hE : ∀ (σ τ : S5) (r : Int32), E σ = some (r, τ) → ∀ sz : Nat, Met l yX5_readExpression (Cond.code yX5_readExpression cX5_readExpression 1 (some .int) :: uG) { frames := fE, cells := 0, slots := 0, locals := lE } (gPc (dC, dI) (tC kc) (wC ad kc sv) (zC ak) [.ref (ad 5)] σ sz) (gQi (dC, dI) (tC kc) (wC ad kc sv) (va_A (wC ad kc sv σ) sz) r τ) 0 0 (va_A (wC ad kc sv σ) sz)) : ∀ (n : Nat) (v1 : Int32) (σ : S5) (H : Heap) (locs : List Loc) (ls : Array Slot), gX (dC, dI) (tC kc) (wC ad kc sv) (zC ak) A s σ H locs → lv_has ls 2 [(0, .ref (ad 5)), (1, .int v1)] → f_X5_readText_L90 E n v1 σ = some (r, τ) → W p l e R s m args below meth c H locs 0 0 (MQ below (gQv (dC, dI) (tC kc) (wC ad kc sv) A r τ) args s 0 0 A) (F0 m 90 ls []) := by
  intro n
  induction n with
  | zero => intro v1 σ H locs ls X hl hg; cases hg
  | succ n ih => intro v1 σ H locs ls X hl hg; exact w_X5_readText_B90 S hr hk hR hE ih X hl hg
set_option maxHeartbeats 4000000 in
set_option maxRecDepth 100000 in
theorem w_X5_readText_b84 {σ : S5} {E : S5 → Option (Int32 × S5)}  {H : Heap} {locs : List Loc} {ls : Array Slot} (S : CallFix p m c cX5_readText 2 s args uG RX5) (hr : meth.sig.returnType = none) (hk : meth.locks = false) (hR : fE + 9 ≤ R.frames ∧ lE + 199 ≤ R.locals)
    (hE : ∀ (σ τ : S5) (r : Int32), E σ = some (r, τ) → ∀ sz : Nat, Met l yX5_readExpression (Cond.code yX5_readExpression cX5_readExpression 1 (some .int) :: uG) { frames := fE, cells := 0, slots := 0, locals := lE } (gPc (dC, dI) (tC kc) (wC ad kc sv) (zC ak) [.ref (ad 5)] σ sz) (gQi (dC, dI) (tC kc) (wC ad kc sv) (va_A (wC ad kc sv σ) sz) r τ) 0 0 (va_A (wC ad kc sv σ) sz))
    (X : gX (dC, dI) (tC kc) (wC ad kc sv) (zC ak) A s σ H locs) (hl : lv_has ls 2 [(0, .ref (ad 5))]) (hg : f_X5_readText_b84 E σ = some (r, τ)) : W p l e R s m args below meth c H locs 0 0 (MQ below (gQv (dC, dI) (tC kc) (wC ad kc sv) A r τ) args s 0 0 A) (F0 m 84 ls []) := by
  have hx := S.1
  have hb := S.2.1
  have hown := S.2.2.2.1
  have hu := S.2.2.2.2
  unfold f_X5_readText_b84 at hg
  refine lv_aload_n hx hb dX5_readText_84 rfl (lv_at hl 0 rfl) ?_
  obtain ⟨r85, τ85, hq85, hg⟩ := bd_some hg
  refine gc_Vv (As := []) (rest := []) (q0 := 5) (ci := 8) S X (k2_X5_readFunction l dC dI ad kc sv hE hq85 H.size) cw_X5_readFunction mG_1076 rfl rfl rfl rfl rfl hl.1 (Nat.le_of_ble_eq_true rfl) dX5_readText_85 ⟨by omega, by omega⟩ (fun H locs X => ?_)
  refine lv_iconst (v := 0) hx hb dX5_readText_88 (by decide) ?_
  refine lv_istore_n (lv' := [(1, .int 0), (0, .ref (ad 5))]) hx hb dX5_readText_89 rfl hl (by decide) rfl (fun ls hl => ?_)
  exact w_X5_readText_L90 S hr hk hR hE _ _ _ _ _ _ X (lv_sub hl [1, 0] rfl) hg
set_option maxHeartbeats 4000000 in
set_option maxRecDepth 100000 in
theorem w_X5_readText_B55 {σ : S5} {E : S5 → Option (Int32 × S5)} {rec55 : Int32 → S5 → Option (Unit × S5)} {v1 : Int32} {H : Heap} {locs : List Loc} {ls : Array Slot} (S : CallFix p m c cX5_readText 2 s args uG RX5) (hr : meth.sig.returnType = none) (hk : meth.locks = false) (hR : fE + 9 ≤ R.frames ∧ lE + 199 ≤ R.locals)
    (hE : ∀ (σ τ : S5) (r : Int32), E σ = some (r, τ) → ∀ sz : Nat, Met l yX5_readExpression (Cond.code yX5_readExpression cX5_readExpression 1 (some .int) :: uG) { frames := fE, cells := 0, slots := 0, locals := lE } (gPc (dC, dI) (tC kc) (wC ad kc sv) (zC ak) [.ref (ad 5)] σ sz) (gQi (dC, dI) (tC kc) (wC ad kc sv) (va_A (wC ad kc sv σ) sz) r τ) 0 0 (va_A (wC ad kc sv σ) sz))
    (hrec55 : ∀ (v1 : Int32) (σ : S5) (H : Heap) (locs : List Loc) (ls : Array Slot), gX (dC, dI) (tC kc) (wC ad kc sv) (zC ak) A s σ H locs → lv_has ls 2 [(0, .ref (ad 5)), (1, .int v1)] → rec55 v1 σ = some (r, τ) → W p l e R s m args below meth c H locs 0 0 (MQ below (gQv (dC, dI) (tC kc) (wC ad kc sv) A r τ) args s 0 0 A) (F0 m 55 ls []))
    (X : gX (dC, dI) (tC kc) (wC ad kc sv) (zC ak) A s σ H locs) (hl : lv_has ls 2 [(0, .ref (ad 5)), (1, .int v1)]) (hg : f_X5_readText_B55 E rec55 v1 σ = some (r, τ)) : W p l e R s m args below meth c H locs 0 0 (MQ below (gQv (dC, dI) (tC kc) (wC ad kc sv) A r τ) args s 0 0 A) (F0 m 55 ls []) := by
  have hx := S.1
  have hb := S.2.1
  have hown := S.2.2.2.1
  have hu := S.2.2.2.2
  unfold f_X5_readText_B55 at hg
  refine lv_iload_n hx hb dX5_readText_55 rfl (lv_at hl 1 rfl) ?_
  refine lv_sipush (v := 3001) hx hb dX5_readText_56 (by decide) ?_
  refine lv_icmp_ge (tgt := 84) hx hb dX5_readText_59 (by decide) (fun c59 => ?_) (fun c59 => ?_)
  · have hg := (if_pos c59).symm.trans hg
    exact w_X5_readText_b84 S hr hk hR hE X (lv_sub hl [0] rfl) hg
  · have hg := (if_neg c59).symm.trans hg
    refine lv_aload_n hx hb dX5_readText_62 rfl (lv_at hl 0 rfl) ?_
    refine wcgR_5_0 S X mG_538 dX5_readText_63 ?_
    refine wcgI_17 (v := (gI σ 17)) S X mG_518 rfl dX5_readText_66 ?_
    refine lv_bipush (v := 6) hx hb dX5_readText_69 (by decide) ?_
    refine lv_icmp_ne (tgt := 84) hx hb dX5_readText_71 (by decide) (fun c71 => ?_) (fun c71 => ?_)
    · have hg := (if_neg c71).symm.trans hg
      exact w_X5_readText_b84 S hr hk hR hE X (lv_sub hl [0] rfl) hg
    · have hg := (if_pos c71).symm.trans hg
      refine lv_aload_n hx hb dX5_readText_74 rfl (lv_at hl 0 rfl) ?_
      obtain ⟨r75, τ75, hq75, hg⟩ := bd_some hg
      refine gc_Vv (As := []) (rest := []) (q0 := 5) (ci := 8) S X (k2_X5_readData l dC dI ad kc sv hq75 H.size) cw_X5_readData mG_1050 rfl rfl rfl rfl rfl hl.1 (Nat.le_of_ble_eq_true rfl) dX5_readText_75 ⟨by omega, by omega⟩ (fun H locs X => ?_)
      refine lv_iinc (v := (v1 + 1)) (lv' := [(1, .int (v1 + 1)), (0, .ref (ad 5))]) hx hb dX5_readText_78 hl (k := 1) rfl (by rfl) (by decide) rfl (fun ls hl => ?_)
      refine lv_goto (tgt := 55) hx hb dX5_readText_81 (by decide) ?_
      exact hrec55 _ _ _ _ _ X (lv_sub hl [1, 0] rfl) hg
set_option maxHeartbeats 4000000 in
set_option maxRecDepth 100000 in
theorem w_X5_readText_L55 {E : S5 → Option (Int32 × S5)} (S : CallFix p m c cX5_readText 2 s args uG RX5) (hr : meth.sig.returnType = none) (hk : meth.locks = false) (hR : fE + 9 ≤ R.frames ∧ lE + 199 ≤ R.locals)
    (hE : ∀ (σ τ : S5) (r : Int32), E σ = some (r, τ) → ∀ sz : Nat, Met l yX5_readExpression (Cond.code yX5_readExpression cX5_readExpression 1 (some .int) :: uG) { frames := fE, cells := 0, slots := 0, locals := lE } (gPc (dC, dI) (tC kc) (wC ad kc sv) (zC ak) [.ref (ad 5)] σ sz) (gQi (dC, dI) (tC kc) (wC ad kc sv) (va_A (wC ad kc sv σ) sz) r τ) 0 0 (va_A (wC ad kc sv σ) sz)) : ∀ (n : Nat) (v1 : Int32) (σ : S5) (H : Heap) (locs : List Loc) (ls : Array Slot), gX (dC, dI) (tC kc) (wC ad kc sv) (zC ak) A s σ H locs → lv_has ls 2 [(0, .ref (ad 5)), (1, .int v1)] → f_X5_readText_L55 E n v1 σ = some (r, τ) → W p l e R s m args below meth c H locs 0 0 (MQ below (gQv (dC, dI) (tC kc) (wC ad kc sv) A r τ) args s 0 0 A) (F0 m 55 ls []) := by
  intro n
  induction n with
  | zero => intro v1 σ H locs ls X hl hg; cases hg
  | succ n ih => intro v1 σ H locs ls X hl hg; exact w_X5_readText_B55 S hr hk hR hE ih X hl hg
set_option maxHeartbeats 4000000 in
set_option maxRecDepth 100000 in
theorem w_X5_readText {σ : S5} {E : S5 → Option (Int32 × S5)}  {H : Heap} {locs : List Loc} {ls : Array Slot} (S : CallFix p m c cX5_readText 2 s args uG RX5) (hr : meth.sig.returnType = none) (hk : meth.locks = false) (hR : fE + 9 ≤ R.frames ∧ lE + 199 ≤ R.locals)
    (hE : ∀ (σ τ : S5) (r : Int32), E σ = some (r, τ) → ∀ sz : Nat, Met l yX5_readExpression (Cond.code yX5_readExpression cX5_readExpression 1 (some .int) :: uG) { frames := fE, cells := 0, slots := 0, locals := lE } (gPc (dC, dI) (tC kc) (wC ad kc sv) (zC ak) [.ref (ad 5)] σ sz) (gQi (dC, dI) (tC kc) (wC ad kc sv) (va_A (wC ad kc sv σ) sz) r τ) 0 0 (va_A (wC ad kc sv σ) sz))
    (X : gX (dC, dI) (tC kc) (wC ad kc sv) (zC ak) A s σ H locs) (hl : lv_has ls 2 [(0, .ref (ad 5))]) (hg : f_X5_readText E σ = some (r, τ)) : W p l e R s m args below meth c H locs 0 0 (MQ below (gQv (dC, dI) (tC kc) (wC ad kc sv) A r τ) args s 0 0 A) (F0 m 0 ls []) := by
  have hx := S.1
  have hb := S.2.1
  have hown := S.2.2.2.1
  have hu := S.2.2.2.2
  unfold f_X5_readText at hg
  refine lv_aload_n hx hb dX5_readText_0 rfl (lv_at hl 0 rfl) ?_
  refine wcgR_5_1 S X mG_539 dX5_readText_1 ?_
  obtain ⟨r4, τ4, hq4, hg⟩ := bd_some hg
  refine gc_Vv (As := []) (rest := []) (q0 := 3) (ci := 12) S X (k2_X9_clear l dC dI ad kc sv hq4 H.size) cw_X9_clear mG_896 rfl rfl rfl rfl rfl hl.1 (Nat.le_of_ble_eq_true rfl) dX5_readText_4 ⟨by omega, by omega⟩ (fun H locs X => ?_)
  refine lv_aload_n hx hb dX5_readText_7 rfl (lv_at hl 0 rfl) ?_
  refine wcgR_5_2 S X mG_540 dX5_readText_8 ?_
  obtain ⟨r11, τ11, hq11, hg⟩ := bd_some hg
  refine gc_Vv (As := []) (rest := []) (q0 := 2) (ci := 7) S X (k2_X4_clear l dC dI ad kc sv hq11 H.size) cw_X4_clear mG_900 rfl rfl rfl rfl rfl hl.1 (Nat.le_of_ble_eq_true rfl) dX5_readText_11 ⟨by omega, by omega⟩ (fun H locs X => ?_)
  refine lv_aload_n hx hb dX5_readText_14 rfl (lv_at hl 0 rfl) ?_
  refine wcgR_5_3 S X mG_541 dX5_readText_15 ?_
  obtain ⟨r18, τ18, hq18, hg⟩ := bd_some hg
  refine gc_Vv (As := []) (rest := []) (q0 := 4) (ci := 9) S X (k2_X6_clear l dC dI ad kc sv hq18 H.size) cw_X6_clear mG_910 rfl rfl rfl rfl rfl hl.1 (Nat.le_of_ble_eq_true rfl) dX5_readText_18 ⟨by omega, by omega⟩ (fun H locs X => ?_)
  refine lv_aload_n hx hb dX5_readText_21 rfl (lv_at hl 0 rfl) ?_
  refine lv_iconst (v := 0) hx hb dX5_readText_22 (by decide) ?_
  refine wcpI_11 S X mG_542 dX5_readText_23 (fun H locs X => ?_)
  refine lv_aload_n hx hb dX5_readText_26 rfl (lv_at hl 0 rfl) ?_
  refine lv_iconst (v := (-1)) hx hb dX5_readText_27 (by decide) ?_
  refine wcpI_12 S X mG_544 dX5_readText_28 (fun H locs X => ?_)
  refine lv_aload_n hx hb dX5_readText_31 rfl (lv_at hl 0 rfl) ?_
  refine lv_iconst (v := 0) hx hb dX5_readText_32 (by decide) ?_
  refine wcpI_13 S X mG_546 dX5_readText_33 (fun H locs X => ?_)
  refine lv_aload_n hx hb dX5_readText_36 rfl (lv_at hl 0 rfl) ?_
  refine lv_iconst (v := 0) hx hb dX5_readText_37 (by decide) ?_
  refine wcpI_14 S X mG_548 dX5_readText_38 (fun H locs X => ?_)
  refine lv_aload_n hx hb dX5_readText_41 rfl (lv_at hl 0 rfl) ?_
  refine lv_iconst (v := (-1)) hx hb dX5_readText_42 (by decide) ?_
  refine wcpI_15 S X mG_549 dX5_readText_43 (fun H locs X => ?_)
  refine lv_aload_n hx hb dX5_readText_46 rfl (lv_at hl 0 rfl) ?_
  refine wcgR_5_0 S X mG_538 dX5_readText_47 ?_
  obtain ⟨r50, τ50, hq50, hg⟩ := bd_some hg
  refine gc_Vv (As := []) (rest := []) (q0 := 6) (ci := 13) S X (k2_X10_begin l dC dI ad kc sv hq50 H.size) cw_X10_begin mG_914 rfl rfl rfl rfl rfl hl.1 (Nat.le_of_ble_eq_true rfl) dX5_readText_50 ⟨by omega, by omega⟩ (fun H locs X => ?_)
  refine lv_iconst (v := 0) hx hb dX5_readText_53 (by decide) ?_
  refine lv_istore_n (lv' := [(1, .int 0), (0, .ref (ad 5))]) hx hb dX5_readText_54 rfl hl (by decide) rfl (fun ls hl => ?_)
  exact w_X5_readText_L55 S hr hk hR hE _ _ _ _ _ _ X (lv_sub hl [1, 0] rfl) hg
end MX5_readText
set_option maxRecDepth 100000 in
theorem k2_X5_readText (l : Launch) (dC : Nat → ClassId) (dI : Nat → Nat → Nat) {ak : Nat → Nat} (ad : Nat → Nat) (kc : Nat → ClassId) (sv : Value) {E : S5 → Option (Int32 × S5)} {fE lE : Nat} {σ τ : S5}  {r : Unit} (hE : ∀ (σ τ : S5) (r : Int32), E σ = some (r, τ) → ∀ sz : Nat, Met l yX5_readExpression (Cond.code yX5_readExpression cX5_readExpression 1 (some .int) :: uG) { frames := fE, cells := 0, slots := 0, locals := lE } (gPc (dC, dI) (tC kc) (wC ad kc sv) (zC ak) [.ref (ad 5)] σ sz) (gQi (dC, dI) (tC kc) (wC ad kc sv) (va_A (wC ad kc sv σ) sz) r τ) 0 0 (va_A (wC ad kc sv σ) sz)) (hg : f_X5_readText E  σ = some (r, τ)) (sz : Nat) : Met l yX5_readText (Cond.code yX5_readText cX5_readText 2 none :: uG) { frames := fE + 9, cells := 0, slots := 0, locals := lE + 199 } (gPc (dC, dI) (tC kc) (wC ad kc sv) (zC ak) [.ref (ad 5)] σ sz) (gQv (dC, dI) (tC kc) (wC ad kc sv) (va_A (wC ad kc sv σ) sz) r τ) 0 0 (va_A (wC ad kc sv σ) sz) :=
  g_start (by decide) (Nat.le_of_ble_eq_true rfl) (fun p e s m below meth c ls S hr hk X hl => w_X5_readText S hr hk ⟨Nat.le_refl _, Nat.le_refl _⟩ hE X hl hg)
