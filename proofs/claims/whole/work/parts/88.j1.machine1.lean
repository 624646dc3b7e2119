theorem sw_0_9 (x : Int32) : (x.toInt < 0 ∨ 9 < x.toInt) ∨ x = 0 ∨ x = 1 ∨ x = 2 ∨ x = 3 ∨ x = 4 ∨ x = 5 ∨ x = 6 ∨ x = 7 ∨ x = 8 ∨ x = 9 := by
  by_cases h : x.toInt < 0 ∨ 9 < x.toInt
  · exact Or.inl h
  · have h2 : x.toInt = 0 ∨ x.toInt = 1 ∨ x.toInt = 2 ∨ x.toInt = 3 ∨ x.toInt = 4 ∨ x.toInt = 5 ∨ x.toInt = 6 ∨ x.toInt = 7 ∨ x.toInt = 8 ∨ x.toInt = 9 := by omega
    refine Or.inr ?_
    rcases h2 with h | h | h | h | h | h | h | h | h | h
    · exact Or.inl (Int32.toInt_inj.mp (h.trans (by decide)))
    · exact Or.inr (Or.inl (Int32.toInt_inj.mp (h.trans (by decide))))
    · exact Or.inr (Or.inr (Or.inl (Int32.toInt_inj.mp (h.trans (by decide)))))
    · exact Or.inr (Or.inr (Or.inr (Or.inl (Int32.toInt_inj.mp (h.trans (by decide))))))
    · exact Or.inr (Or.inr (Or.inr (Or.inr (Or.inl (Int32.toInt_inj.mp (h.trans (by decide)))))))
    · exact Or.inr (Or.inr (Or.inr (Or.inr (Or.inr (Or.inl (Int32.toInt_inj.mp (h.trans (by decide))))))))
    · exact Or.inr (Or.inr (Or.inr (Or.inr (Or.inr (Or.inr (Or.inl (Int32.toInt_inj.mp (h.trans (by decide)))))))))
    · exact Or.inr (Or.inr (Or.inr (Or.inr (Or.inr (Or.inr (Or.inr (Or.inl (Int32.toInt_inj.mp (h.trans (by decide))))))))))
    · exact Or.inr (Or.inr (Or.inr (Or.inr (Or.inr (Or.inr (Or.inr (Or.inr (Or.inl (Int32.toInt_inj.mp (h.trans (by decide)))))))))))
    · exact Or.inr (Or.inr (Or.inr (Or.inr (Or.inr (Or.inr (Or.inr (Or.inr (Or.inr (Int32.toInt_inj.mp (h.trans (by decide)))))))))))
theorem swo_0_9 {x : Int32} (h : x.toInt < 0 ∨ 9 < x.toInt) : ¬ x = 0 ∧ ¬ x = 1 ∧ ¬ x = 2 ∧ ¬ x = 3 ∧ ¬ x = 4 ∧ ¬ x = 5 ∧ ¬ x = 6 ∧ ¬ x = 7 ∧ ¬ x = 8 ∧ ¬ x = 9 := by
  refine ⟨?_, ?_, ?_, ?_, ?_, ?_, ?_, ?_, ?_, ?_⟩ <;> (intro e; rw [e] at h; revert h; decide)


theorem mG_73 : Cond.selects "LazyForge$Machine" yX3_give yX3_give ∈ uG := uG_at 73 (by decide +kernel) (by decide +kernel)
theorem mG_74 : Cond.selects "LazyForge$Machine" yX3_endWith yX3_endWith ∈ uG := uG_at 74 (by decide +kernel) (by decide +kernel)
theorem mG_78 : Cond.selects "LazyForge$Machine" yX3_workOn yX3_workOn ∈ uG := uG_at 78 (by decide +kernel) (by decide +kernel)
theorem mG_80 : Cond.selects "LazyForge$Machine" yX3_keep yX3_keep ∈ uG := uG_at 80 (by decide +kernel) (by decide +kernel)
theorem mG_81 : Cond.selects "LazyForge$Machine" yX3_begin yX3_begin ∈ uG := uG_at 81 (by decide +kernel) (by decide +kernel)
theorem mG_82 : Cond.selects "LazyForge$Machine" yX3_made yX3_made ∈ uG := uG_at 82 (by decide +kernel) (by decide +kernel)
theorem mG_83 : Cond.selects "LazyForge$Machine" yX3_isPartOfCall yX3_isPartOfCall ∈ uG := uG_at 83 (by decide +kernel) (by decide +kernel)
theorem mG_84 : Cond.selects "LazyForge$Machine" yX3_fill yX3_fill ∈ uG := uG_at 84 (by decide +kernel) (by decide +kernel)
theorem mG_85 : Cond.selects "LazyForge$Machine" yX3_isOver yX3_isOver ∈ uG := uG_at 85 (by decide +kernel) (by decide +kernel)
theorem mG_86 : Cond.selects "LazyForge$Machine" yX3_keepRow yX3_keepRow ∈ uG := uG_at 86 (by decide +kernel) (by decide +kernel)
theorem mG_87 : Cond.selects "LazyForge$Machine" yX3_storeVariables yX3_storeVariables ∈ uG := uG_at 87 (by decide +kernel) (by decide +kernel)
theorem mG_95 : Cond.selects "LazyForge$Machine" yX3_giveInt yX3_giveInt ∈ uG := uG_at 95 (by decide +kernel) (by decide +kernel)
theorem mG_96 : Cond.selects "LazyForge$Machine" yX3_giveTruth yX3_giveTruth ∈ uG := uG_at 96 (by decide +kernel) (by decide +kernel)
theorem mG_97 : Cond.selects "LazyForge$Machine" yX3_divide yX3_divide ∈ uG := uG_at 97 (by decide +kernel) (by decide +kernel)
theorem mG_99 : Cond.selects "LazyForge$Machine" yX3_fits yX3_fits ∈ uG := uG_at 99 (by decide +kernel) (by decide +kernel)
theorem mG_247 : Cond.initialized "java/lang/Long" ∈ uG := uG_at 247 (by decide +kernel) (by decide +kernel)
theorem mG_288 : Cond.fieldLink "LazyForge$Machine" 206 "LazyForge$Program" "fields" "[I" ∈ uG := uG_at 288 (by decide +kernel) (by decide +kernel)
theorem mG_310 : Cond.fieldLink "LazyForge$Machine" 82 "LazyForge$Program" "parameters" "[I" ∈ uG := uG_at 310 (by decide +kernel) (by decide +kernel)
theorem mG_320 : Cond.fieldLink "LazyForge$Machine" 134 "LazyForge$Program" "variables" "[I" ∈ uG := uG_at 320 (by decide +kernel) (by decide +kernel)
theorem mG_383 : Cond.fieldLink "LazyForge$Machine" 140 "LazyForge$Tree" "kind" "[I" ∈ uG := uG_at 383 (by decide +kernel) (by decide +kernel)
theorem mG_388 : Cond.fieldLink "LazyForge$Machine" 136 "LazyForge$Tree" "value" "[I" ∈ uG := uG_at 388 (by decide +kernel) (by decide +kernel)
theorem mG_394 : Cond.fieldLink "LazyForge$Machine" 219 "LazyForge$Tree" "slot" "[I" ∈ uG := uG_at 394 (by decide +kernel) (by decide +kernel)
theorem mG_398 : Cond.fieldLink "LazyForge$Machine" 158 "LazyForge$Tree" "kid" "[I" ∈ uG := uG_at 398 (by decide +kernel) (by decide +kernel)
theorem mG_405 : Cond.fieldLink "LazyForge$Machine" 240 "LazyForge$Tree" "next" "[I" ∈ uG := uG_at 405 (by decide +kernel) (by decide +kernel)
theorem mG_412 : Cond.fieldLink "LazyForge$Machine" 193 "LazyForge$Tree" "used" "[J" ∈ uG := uG_at 412 (by decide +kernel) (by decide +kernel)
theorem mG_653 : Cond.fieldLink "LazyForge$Machine" 181 "LazyForge$Cells" "row" "[J" ∈ uG := uG_at 653 (by decide +kernel) (by decide +kernel)
theorem mG_671 : Cond.fieldLink "LazyForge$Machine" 65 "LazyForge$Machine" "top" "I" ∈ uG := uG_at 671 (by decide +kernel) (by decide +kernel)
theorem mG_673 : Cond.fieldLink "LazyForge$Machine" 68 "LazyForge$Machine" "base" "I" ∈ uG := uG_at 673 (by decide +kernel) (by decide +kernel)
theorem mG_674 : Cond.fieldLink "LazyForge$Machine" 71 "LazyForge$Machine" "edge" "I" ∈ uG := uG_at 674 (by decide +kernel) (by decide +kernel)
theorem mG_675 : Cond.fieldLink "LazyForge$Machine" 74 "LazyForge$Machine" "function" "I" ∈ uG := uG_at 675 (by decide +kernel) (by decide +kernel)
theorem mG_676 : Cond.fieldLink "LazyForge$Machine" 127 "LazyForge$Machine" "node" "I" ∈ uG := uG_at 676 (by decide +kernel) (by decide +kernel)
theorem mG_677 : Cond.fieldLink "LazyForge$Machine" 124 "LazyForge$Machine" "value" "J" ∈ uG := uG_at 677 (by decide +kernel) (by decide +kernel)
theorem mG_678 : Cond.fieldLink "LazyForge$Machine" 111 "LazyForge$Machine" "working" "Z" ∈ uG := uG_at 678 (by decide +kernel) (by decide +kernel)
theorem mG_889 : Cond.methodLink "LazyForge$Machine" 48 yJ7_fill_53178 ∈ uG := uG_at 889 (by decide +kernel) (by decide +kernel)
theorem mG_890 : Cond.static yJ7_fill_53178 ∈ uG := uG_at 890 (by decide +kernel) (by decide +kernel)
theorem mG_891 : Cond.code yJ7_fill_53178 prog_34_method_103_code 4 none ∈ uG := uG_at 891 (by decide +kernel) (by decide +kernel)
theorem mG_1802 : Cond.methodLink "LazyForge$Machine" 88 yX0_makeSuspension ∈ uG := uG_at 1802 (by decide +kernel) (by decide +kernel)
theorem mG_1803 : Cond.instanceMethod yX0_makeSuspension ∈ uG := uG_at 1803 (by decide +kernel) (by decide +kernel)
theorem mG_1804 : Cond.selects "LazyForge$Cells" yX0_makeSuspension yX0_makeSuspension ∈ uG := uG_at 1804 (by decide +kernel) (by decide +kernel)
theorem mG_1805 : Cond.code yX0_makeSuspension prog_2_method_7_code 5 (some .int) ∈ uG := uG_at 1805 (by decide +kernel) (by decide +kernel)
theorem mG_1826 : Cond.methodLink "LazyForge$Machine" 103 yX0_value ∈ uG := uG_at 1826 (by decide +kernel) (by decide +kernel)
theorem mG_1827 : Cond.static yX0_value ∈ uG := uG_at 1827 (by decide +kernel) (by decide +kernel)
theorem mG_1828 : Cond.code yX0_value prog_2_method_2_code 2 (some .long) ∈ uG := uG_at 1828 (by decide +kernel) (by decide +kernel)
theorem mG_1834 : Cond.methodLink "LazyForge$Machine" 170 yX0_tag ∈ uG := uG_at 1834 (by decide +kernel) (by decide +kernel)
theorem mG_1835 : Cond.static yX0_tag ∈ uG := uG_at 1835 (by decide +kernel) (by decide +kernel)
theorem mG_1836 : Cond.code yX0_tag prog_2_method_3_code 2 (some .int) ∈ uG := uG_at 1836 (by decide +kernel) (by decide +kernel)
theorem mG_1837 : Cond.methodLink "LazyForge$Machine" 147 yX3_give ∈ uG := uG_at 1837 (by decide +kernel) (by decide +kernel)
theorem mG_1839 : Cond.instanceMethod yX3_give ∈ uG := uG_at 1839 (by decide +kernel) (by decide +kernel)
theorem mG_1840 : Cond.code yX3_give prog_5_method_9_code 3 none ∈ uG := uG_at 1840 (by decide +kernel) (by decide +kernel)
theorem mG_1846 : Cond.methodLink "LazyForge$Machine" 154 yX3_endWith ∈ uG := uG_at 1846 (by decide +kernel) (by decide +kernel)
theorem mG_1848 : Cond.instanceMethod yX3_endWith ∈ uG := uG_at 1848 (by decide +kernel) (by decide +kernel)
theorem mG_1849 : Cond.code yX3_endWith prog_5_method_4_code 3 none ∈ uG := uG_at 1849 (by decide +kernel) (by decide +kernel)
theorem mG_1879 : Cond.methodLink "LazyForge$Machine" 161 yX3_workOn ∈ uG := uG_at 1879 (by decide +kernel) (by decide +kernel)
theorem mG_1881 : Cond.instanceMethod yX3_workOn ∈ uG := uG_at 1881 (by decide +kernel) (by decide +kernel)
theorem mG_1882 : Cond.code yX3_workOn prog_5_method_10_code 2 none ∈ uG := uG_at 1882 (by decide +kernel) (by decide +kernel)
theorem mG_1888 : Cond.methodLink "LazyForge$Machine" 143 yX3_keep ∈ uG := uG_at 1888 (by decide +kernel) (by decide +kernel)
theorem mG_1890 : Cond.instanceMethod yX3_keep ∈ uG := uG_at 1890 (by decide +kernel) (by decide +kernel)
theorem mG_1891 : Cond.code yX3_keep prog_5_method_18_code 4 (some .long) ∈ uG := uG_at 1891 (by decide +kernel) (by decide +kernel)
theorem mG_1892 : Cond.methodLink "LazyForge$Machine" 150 yX3_begin ∈ uG := uG_at 1892 (by decide +kernel) (by decide +kernel)
theorem mG_1894 : Cond.instanceMethod yX3_begin ∈ uG := uG_at 1894 (by decide +kernel) (by decide +kernel)
theorem mG_1895 : Cond.code yX3_begin prog_5_method_19_code 4 (some .long) ∈ uG := uG_at 1895 (by decide +kernel) (by decide +kernel)
theorem mG_1896 : Cond.methodLink "LazyForge$Machine" 209 yX0_makeObject ∈ uG := uG_at 1896 (by decide +kernel) (by decide +kernel)
theorem mG_1897 : Cond.instanceMethod yX0_makeObject ∈ uG := uG_at 1897 (by decide +kernel) (by decide +kernel)
theorem mG_1898 : Cond.selects "LazyForge$Cells" yX0_makeObject yX0_makeObject ∈ uG := uG_at 1898 (by decide +kernel) (by decide +kernel)
theorem mG_1899 : Cond.code yX0_makeObject prog_2_method_5_code 4 (some .int) ∈ uG := uG_at 1899 (by decide +kernel) (by decide +kernel)
theorem mG_1900 : Cond.methodLink "LazyForge$Machine" 213 yX3_made ∈ uG := uG_at 1900 (by decide +kernel) (by decide +kernel)
theorem mG_1902 : Cond.instanceMethod yX3_made ∈ uG := uG_at 1902 (by decide +kernel) (by decide +kernel)
theorem mG_1903 : Cond.code yX3_made prog_5_method_20_code 3 (some .long) ∈ uG := uG_at 1903 (by decide +kernel) (by decide +kernel)
theorem mG_1904 : Cond.methodLink "LazyForge$Machine" 216 yX3_isPartOfCall ∈ uG := uG_at 1904 (by decide +kernel) (by decide +kernel)
theorem mG_1906 : Cond.instanceMethod yX3_isPartOfCall ∈ uG := uG_at 1906 (by decide +kernel) (by decide +kernel)
theorem mG_1907 : Cond.code yX3_isPartOfCall prog_5_method_21_code 3 (some .boolean) ∈ uG := uG_at 1907 (by decide +kernel) (by decide +kernel)
theorem mG_1908 : Cond.methodLink "LazyForge$Machine" 222 yX0_makePart ∈ uG := uG_at 1908 (by decide +kernel) (by decide +kernel)
theorem mG_1909 : Cond.instanceMethod yX0_makePart ∈ uG := uG_at 1909 (by decide +kernel) (by decide +kernel)
theorem mG_1910 : Cond.selects "LazyForge$Cells" yX0_makePart yX0_makePart ∈ uG := uG_at 1910 (by decide +kernel) (by decide +kernel)
theorem mG_1911 : Cond.code yX0_makePart prog_2_method_6_code 4 (some .int) ∈ uG := uG_at 1911 (by decide +kernel) (by decide +kernel)
theorem mG_1912 : Cond.methodLink "LazyForge$Machine" 225 yJ13_bitCount_95d88 ∈ uG := uG_at 1912 (by decide +kernel) (by decide +kernel)
theorem mG_1913 : Cond.static yJ13_bitCount_95d88 ∈ uG := uG_at 1913 (by decide +kernel) (by decide +kernel)
theorem mG_1914 : Cond.code yJ13_bitCount_95d88 prog_24_method_50_code 2 (some .int) ∈ uG := uG_at 1914 (by decide +kernel) (by decide +kernel)
theorem mG_1918 : Cond.methodLink "LazyForge$Machine" 203 yX3_fill ∈ uG := uG_at 1918 (by decide +kernel) (by decide +kernel)
theorem mG_1920 : Cond.instanceMethod yX3_fill ∈ uG := uG_at 1920 (by decide +kernel) (by decide +kernel)
theorem mG_1921 : Cond.code yX3_fill prog_5_method_22_code 7 none ∈ uG := uG_at 1921 (by decide +kernel) (by decide +kernel)
theorem mG_1922 : Cond.methodLink "LazyForge$Machine" 230 yX3_isOver ∈ uG := uG_at 1922 (by decide +kernel) (by decide +kernel)
theorem mG_1924 : Cond.instanceMethod yX3_isOver ∈ uG := uG_at 1924 (by decide +kernel) (by decide +kernel)
theorem mG_1925 : Cond.code yX3_isOver prog_5_method_5_code 1 (some .boolean) ∈ uG := uG_at 1925 (by decide +kernel) (by decide +kernel)
theorem mG_1926 : Cond.methodLink "LazyForge$Machine" 234 yX3_keepRow ∈ uG := uG_at 1926 (by decide +kernel) (by decide +kernel)
theorem mG_1928 : Cond.instanceMethod yX3_keepRow ∈ uG := uG_at 1928 (by decide +kernel) (by decide +kernel)
theorem mG_1929 : Cond.code yX3_keepRow prog_5_method_23_code 5 none ∈ uG := uG_at 1929 (by decide +kernel) (by decide +kernel)
theorem mG_1930 : Cond.methodLink "LazyForge$Machine" 237 yX3_storeVariables ∈ uG := uG_at 1930 (by decide +kernel) (by decide +kernel)
theorem mG_1932 : Cond.instanceMethod yX3_storeVariables ∈ uG := uG_at 1932 (by decide +kernel) (by decide +kernel)
theorem mG_1933 : Cond.code yX3_storeVariables prog_5_method_17_code 6 none ∈ uG := uG_at 1933 (by decide +kernel) (by decide +kernel)
theorem mG_1964 : Cond.methodLink "LazyForge$Machine" 281 yX3_giveInt ∈ uG := uG_at 1964 (by decide +kernel) (by decide +kernel)
theorem mG_1966 : Cond.instanceMethod yX3_giveInt ∈ uG := uG_at 1966 (by decide +kernel) (by decide +kernel)
theorem mG_1967 : Cond.code yX3_giveInt prog_5_method_31_code 2 none ∈ uG := uG_at 1967 (by decide +kernel) (by decide +kernel)
theorem mG_1968 : Cond.methodLink "LazyForge$Machine" 284 yX3_giveTruth ∈ uG := uG_at 1968 (by decide +kernel) (by decide +kernel)
theorem mG_1970 : Cond.instanceMethod yX3_giveTruth ∈ uG := uG_at 1970 (by decide +kernel) (by decide +kernel)
theorem mG_1971 : Cond.code yX3_giveTruth prog_5_method_32_code 2 none ∈ uG := uG_at 1971 (by decide +kernel) (by decide +kernel)
theorem mG_1972 : Cond.methodLink "LazyForge$Machine" 288 yX3_divide ∈ uG := uG_at 1972 (by decide +kernel) (by decide +kernel)
theorem mG_1974 : Cond.instanceMethod yX3_divide ∈ uG := uG_at 1974 (by decide +kernel) (by decide +kernel)
theorem mG_1975 : Cond.code yX3_divide prog_5_method_30_code 4 none ∈ uG := uG_at 1975 (by decide +kernel) (by decide +kernel)
theorem mG_1980 : Cond.methodLink "LazyForge$Machine" 291 yX3_fits ∈ uG := uG_at 1980 (by decide +kernel) (by decide +kernel)
theorem mG_1982 : Cond.instanceMethod yX3_fits ∈ uG := uG_at 1982 (by decide +kernel) (by decide +kernel)
theorem mG_1983 : Cond.code yX3_fits prog_5_method_34_code 6 (some .boolean) ∈ uG := uG_at 1983 (by decide +kernel) (by decide +kernel)
theorem dX3_addNumbers_0 : decode cX3_addNumbers 0 = .ok (.aload_n 0, 1) := by decide +kernel
theorem dX3_addNumbers_1 : decode cX3_addNumbers 1 = .ok (.getfield 13, 3) := by decide +kernel
theorem dX3_addNumbers_4 : decode cX3_addNumbers 4 = .ok (.bipush 9, 2) := by decide +kernel
theorem dX3_addNumbers_6 : decode cX3_addNumbers 6 = .ok (.iaload, 1) := by decide +kernel
theorem dX3_addNumbers_7 : decode cX3_addNumbers 7 = .ok (.istore 4, 2) := by decide +kernel
theorem dX3_addNumbers_9 : decode cX3_addNumbers 9 = .ok (.iload 4, 2) := by decide +kernel
theorem dX3_addNumbers_11 : decode cX3_addNumbers 11 = .ok (.iload_n 1, 1) := by decide +kernel
theorem dX3_addNumbers_12 : decode cX3_addNumbers 12 = .ok (.iadd, 1) := by decide +kernel
theorem dX3_addNumbers_13 : decode cX3_addNumbers 13 = .ok (.sipush 1000, 3) := by decide +kernel
theorem dX3_addNumbers_16 : decode cX3_addNumbers 16 = .ok (.if_icmp .le 10, 3) := by decide +kernel
theorem dX3_addNumbers_19 : decode cX3_addNumbers 19 = .ok (.aload_n 0, 1) := by decide +kernel
theorem dX3_addNumbers_20 : decode cX3_addNumbers 20 = .ok (.iconst 3, 1) := by decide +kernel
theorem dX3_addNumbers_21 : decode cX3_addNumbers 21 = .ok (.iconst 3, 1) := by decide +kernel
theorem dX3_addNumbers_22 : decode cX3_addNumbers 22 = .ok (.invokevirtual 154, 3) := by decide +kernel
theorem dX3_addNumbers_25 : decode cX3_addNumbers 25 = .ok (.return_, 1) := by decide +kernel
theorem dX3_addNumbers_26 : decode cX3_addNumbers 26 = .ok (.aload_n 0, 1) := by decide +kernel
theorem dX3_addNumbers_27 : decode cX3_addNumbers 27 = .ok (.getfield 20, 3) := by decide +kernel
theorem dX3_addNumbers_30 : decode cX3_addNumbers 30 = .ok (.iload 4, 2) := by decide +kernel
theorem dX3_addNumbers_32 : decode cX3_addNumbers 32 = .ok (.iload_n 2, 1) := by decide +kernel
theorem dX3_addNumbers_33 : decode cX3_addNumbers 33 = .ok (.iastore, 1) := by decide +kernel
theorem dX3_addNumbers_34 : decode cX3_addNumbers 34 = .ok (.iload_n 1, 1) := by decide +kernel
theorem dX3_addNumbers_35 : decode cX3_addNumbers 35 = .ok (.iconst 1, 1) := by decide +kernel
theorem dX3_addNumbers_36 : decode cX3_addNumbers 36 = .ok (.if_icmp .le 13, 3) := by decide +kernel
theorem dX3_addNumbers_39 : decode cX3_addNumbers 39 = .ok (.aload_n 0, 1) := by decide +kernel
theorem dX3_addNumbers_40 : decode cX3_addNumbers 40 = .ok (.getfield 20, 3) := by decide +kernel
theorem dX3_addNumbers_43 : decode cX3_addNumbers 43 = .ok (.iload 4, 2) := by decide +kernel
theorem dX3_addNumbers_45 : decode cX3_addNumbers 45 = .ok (.iconst 1, 1) := by decide +kernel
theorem dX3_addNumbers_46 : decode cX3_addNumbers 46 = .ok (.iadd, 1) := by decide +kernel
theorem dX3_addNumbers_47 : decode cX3_addNumbers 47 = .ok (.iload_n 3, 1) := by decide +kernel
theorem dX3_addNumbers_48 : decode cX3_addNumbers 48 = .ok (.iastore, 1) := by decide +kernel
theorem dX3_addNumbers_49 : decode cX3_addNumbers 49 = .ok (.aload_n 0, 1) := by decide +kernel
theorem dX3_addNumbers_50 : decode cX3_addNumbers 50 = .ok (.getfield 13, 3) := by decide +kernel
theorem dX3_addNumbers_53 : decode cX3_addNumbers 53 = .ok (.bipush 9, 2) := by decide +kernel
theorem dX3_addNumbers_55 : decode cX3_addNumbers 55 = .ok (.iload 4, 2) := by decide +kernel
theorem dX3_addNumbers_57 : decode cX3_addNumbers 57 = .ok (.iload_n 1, 1) := by decide +kernel
theorem dX3_addNumbers_58 : decode cX3_addNumbers 58 = .ok (.iadd, 1) := by decide +kernel
theorem dX3_addNumbers_59 : decode cX3_addNumbers 59 = .ok (.iastore, 1) := by decide +kernel
theorem dX3_addNumbers_60 : decode cX3_addNumbers 60 = .ok (.return_, 1) := by decide +kernel
theorem dX3_begin_0 : decode cX3_begin 0 = .ok (.aload_n 0, 1) := by decide +kernel
theorem dX3_begin_1 : decode cX3_begin 1 = .ok (.getfield 33, 3) := by decide +kernel
theorem dX3_begin_4 : decode cX3_begin 4 = .ok (.getfield 136, 3) := by decide +kernel
theorem dX3_begin_7 : decode cX3_begin 7 = .ok (.iload_n 1, 1) := by decide +kernel
theorem dX3_begin_8 : decode cX3_begin 8 = .ok (.iaload, 1) := by decide +kernel
theorem dX3_begin_9 : decode cX3_begin 9 = .ok (.istore_n 3, 1) := by decide +kernel
theorem dX3_begin_10 : decode cX3_begin 10 = .ok (.aload_n 0, 1) := by decide +kernel
theorem dX3_begin_11 : decode cX3_begin 11 = .ok (.getfield 33, 3) := by decide +kernel
theorem dX3_begin_14 : decode cX3_begin 14 = .ok (.getfield 140, 3) := by decide +kernel
theorem dX3_begin_17 : decode cX3_begin 17 = .ok (.iload_n 1, 1) := by decide +kernel
theorem dX3_begin_18 : decode cX3_begin 18 = .ok (.iaload, 1) := by decide +kernel
theorem dX3_begin_19 : decode cX3_begin 19 = .ok (.tableswitch 181 0 9 #[53, 59, 65, 118, 181, 181, 181, 181, 134, 95], 53) := by decide +kernel
theorem dX3_begin_72 : decode cX3_begin 72 = .ok (.iconst 1, 1) := by decide +kernel
theorem dX3_begin_73 : decode cX3_begin 73 = .ok (.iload_n 3, 1) := by decide +kernel
theorem dX3_begin_74 : decode cX3_begin 74 = .ok (.invokestatic 103, 3) := by decide +kernel
theorem dX3_begin_77 : decode cX3_begin 77 = .ok (.lreturn, 1) := by decide +kernel
theorem dX3_begin_78 : decode cX3_begin 78 = .ok (.iconst 3, 1) := by decide +kernel
theorem dX3_begin_79 : decode cX3_begin 79 = .ok (.iload_n 3, 1) := by decide +kernel
theorem dX3_begin_80 : decode cX3_begin 80 = .ok (.invokestatic 103, 3) := by decide +kernel
theorem dX3_begin_83 : decode cX3_begin 83 = .ok (.lreturn, 1) := by decide +kernel
theorem dX3_begin_84 : decode cX3_begin 84 = .ok (.aload_n 0, 1) := by decide +kernel
theorem dX3_begin_85 : decode cX3_begin 85 = .ok (.getfield 37, 3) := by decide +kernel
theorem dX3_begin_88 : decode cX3_begin 88 = .ok (.getfield 82, 3) := by decide +kernel
theorem dX3_begin_91 : decode cX3_begin 91 = .ok (.iload_n 3, 1) := by decide +kernel
theorem dX3_begin_92 : decode cX3_begin 92 = .ok (.iaload, 1) := by decide +kernel
theorem dX3_begin_93 : decode cX3_begin 93 = .ok (.ifCond .le 9, 3) := by decide +kernel
theorem dX3_begin_96 : decode cX3_begin 96 = .ok (.iconst 2, 1) := by decide +kernel
theorem dX3_begin_97 : decode cX3_begin 97 = .ok (.iload_n 3, 1) := by decide +kernel
theorem dX3_begin_98 : decode cX3_begin 98 = .ok (.invokestatic 103, 3) := by decide +kernel
theorem dX3_begin_101 : decode cX3_begin 101 = .ok (.lreturn, 1) := by decide +kernel
theorem dX3_begin_102 : decode cX3_begin 102 = .ok (.bipush 6, 2) := by decide +kernel
theorem dX3_begin_104 : decode cX3_begin 104 = .ok (.aload_n 0, 1) := by decide +kernel
theorem dX3_begin_105 : decode cX3_begin 105 = .ok (.getfield 23, 3) := by decide +kernel
theorem dX3_begin_108 : decode cX3_begin 108 = .ok (.iload_n 3, 1) := by decide +kernel
theorem dX3_begin_109 : decode cX3_begin 109 = .ok (.iaload, 1) := by decide +kernel
theorem dX3_begin_110 : decode cX3_begin 110 = .ok (.invokestatic 103, 3) := by decide +kernel
theorem dX3_begin_113 : decode cX3_begin 113 = .ok (.lreturn, 1) := by decide +kernel
theorem dX3_begin_114 : decode cX3_begin 114 = .ok (.aload_n 0, 1) := by decide +kernel
theorem dX3_begin_115 : decode cX3_begin 115 = .ok (.iconst 4, 1) := by decide +kernel
theorem dX3_begin_116 : decode cX3_begin 116 = .ok (.aload_n 0, 1) := by decide +kernel
theorem dX3_begin_117 : decode cX3_begin 117 = .ok (.getfield 44, 3) := by decide +kernel
theorem dX3_begin_120 : decode cX3_begin 120 = .ok (.iload_n 3, 1) := by decide +kernel
theorem dX3_begin_121 : decode cX3_begin 121 = .ok (.aload_n 0, 1) := by decide +kernel
theorem dX3_begin_122 : decode cX3_begin 122 = .ok (.getfield 37, 3) := by decide +kernel
theorem dX3_begin_125 : decode cX3_begin 125 = .ok (.getfield 206, 3) := by decide +kernel
theorem dX3_begin_128 : decode cX3_begin 128 = .ok (.iload_n 3, 1) := by decide +kernel
theorem dX3_begin_129 : decode cX3_begin 129 = .ok (.iaload, 1) := by decide +kernel
theorem dX3_begin_130 : decode cX3_begin 130 = .ok (.invokevirtual 209, 3) := by decide +kernel
theorem dX3_begin_133 : decode cX3_begin 133 = .ok (.invokevirtual 213, 3) := by decide +kernel
theorem dX3_begin_136 : decode cX3_begin 136 = .ok (.lreturn, 1) := by decide +kernel
theorem dX3_begin_137 : decode cX3_begin 137 = .ok (.iload_n 2, 1) := by decide +kernel
theorem dX3_begin_138 : decode cX3_begin 138 = .ok (.ifCond .ne 62, 3) := by decide +kernel
theorem dX3_begin_141 : decode cX3_begin 141 = .ok (.aload_n 0, 1) := by decide +kernel
theorem dX3_begin_142 : decode cX3_begin 142 = .ok (.getfield 30, 3) := by decide +kernel
theorem dX3_begin_145 : decode cX3_begin 145 = .ok (.aload_n 0, 1) := by decide +kernel
theorem dX3_begin_146 : decode cX3_begin 146 = .ok (.getfield 68, 3) := by decide +kernel
theorem dX3_begin_149 : decode cX3_begin 149 = .ok (.iload_n 3, 1) := by decide +kernel
theorem dX3_begin_150 : decode cX3_begin 150 = .ok (.iadd, 1) := by decide +kernel
theorem dX3_begin_151 : decode cX3_begin 151 = .ok (.laload, 1) := by decide +kernel
theorem dX3_begin_152 : decode cX3_begin 152 = .ok (.lreturn, 1) := by decide +kernel
theorem dX3_begin_153 : decode cX3_begin 153 = .ok (.aload_n 0, 1) := by decide +kernel
theorem dX3_begin_154 : decode cX3_begin 154 = .ok (.iload_n 1, 1) := by decide +kernel
theorem dX3_begin_155 : decode cX3_begin 155 = .ok (.invokevirtual 216, 3) := by decide +kernel
theorem dX3_begin_158 : decode cX3_begin 158 = .ok (.ifCond .eq 42, 3) := by decide +kernel
theorem dX3_begin_161 : decode cX3_begin 161 = .ok (.aload_n 0, 1) := by decide +kernel
theorem dX3_begin_162 : decode cX3_begin 162 = .ok (.iconst 5, 1) := by decide +kernel
theorem dX3_begin_163 : decode cX3_begin 163 = .ok (.aload_n 0, 1) := by decide +kernel
theorem dX3_begin_164 : decode cX3_begin 164 = .ok (.getfield 44, 3) := by decide +kernel
theorem dX3_begin_167 : decode cX3_begin 167 = .ok (.aload_n 0, 1) := by decide +kernel
theorem dX3_begin_168 : decode cX3_begin 168 = .ok (.getfield 33, 3) := by decide +kernel
theorem dX3_begin_171 : decode cX3_begin 171 = .ok (.getfield 136, 3) := by decide +kernel
theorem dX3_begin_174 : decode cX3_begin 174 = .ok (.aload_n 0, 1) := by decide +kernel
theorem dX3_begin_175 : decode cX3_begin 175 = .ok (.getfield 33, 3) := by decide +kernel
theorem dX3_begin_178 : decode cX3_begin 178 = .ok (.getfield 158, 3) := by decide +kernel
theorem dX3_begin_181 : decode cX3_begin 181 = .ok (.iload_n 1, 1) := by decide +kernel
theorem dX3_begin_182 : decode cX3_begin 182 = .ok (.iaload, 1) := by decide +kernel
theorem dX3_begin_183 : decode cX3_begin 183 = .ok (.iaload, 1) := by decide +kernel
theorem dX3_begin_184 : decode cX3_begin 184 = .ok (.aload_n 0, 1) := by decide +kernel
theorem dX3_begin_185 : decode cX3_begin 185 = .ok (.getfield 33, 3) := by decide +kernel
theorem dX3_begin_188 : decode cX3_begin 188 = .ok (.getfield 219, 3) := by decide +kernel
theorem dX3_begin_191 : decode cX3_begin 191 = .ok (.iload_n 1, 1) := by decide +kernel
theorem dX3_begin_192 : decode cX3_begin 192 = .ok (.iaload, 1) := by decide +kernel
theorem dX3_begin_193 : decode cX3_begin 193 = .ok (.invokevirtual 222, 3) := by decide +kernel
theorem dX3_begin_196 : decode cX3_begin 196 = .ok (.invokevirtual 213, 3) := by decide +kernel
theorem dX3_begin_199 : decode cX3_begin 199 = .ok (.lreturn, 1) := by decide +kernel
theorem dX3_begin_200 : decode cX3_begin 200 = .ok (.aload_n 0, 1) := by decide +kernel
theorem dX3_begin_201 : decode cX3_begin 201 = .ok (.bipush 6, 2) := by decide +kernel
theorem dX3_begin_203 : decode cX3_begin 203 = .ok (.aload_n 0, 1) := by decide +kernel
theorem dX3_begin_204 : decode cX3_begin 204 = .ok (.getfield 44, 3) := by decide +kernel
theorem dX3_begin_207 : decode cX3_begin 207 = .ok (.aload_n 0, 1) := by decide +kernel
theorem dX3_begin_208 : decode cX3_begin 208 = .ok (.getfield 74, 3) := by decide +kernel
theorem dX3_begin_211 : decode cX3_begin 211 = .ok (.iload_n 1, 1) := by decide +kernel
theorem dX3_begin_212 : decode cX3_begin 212 = .ok (.aload_n 0, 1) := by decide +kernel
theorem dX3_begin_213 : decode cX3_begin 213 = .ok (.getfield 33, 3) := by decide +kernel
theorem dX3_begin_216 : decode cX3_begin 216 = .ok (.getfield 193, 3) := by decide +kernel
theorem dX3_begin_219 : decode cX3_begin 219 = .ok (.iload_n 1, 1) := by decide +kernel
theorem dX3_begin_220 : decode cX3_begin 220 = .ok (.laload, 1) := by decide +kernel
theorem dX3_begin_221 : decode cX3_begin 221 = .ok (.invokestatic 225, 3) := by decide +kernel
theorem dX3_begin_224 : decode cX3_begin 224 = .ok (.invokevirtual 88, 3) := by decide +kernel
theorem dX3_begin_227 : decode cX3_begin 227 = .ok (.invokevirtual 213, 3) := by decide +kernel
theorem dX3_begin_230 : decode cX3_begin 230 = .ok (.lreturn, 1) := by decide +kernel
theorem dX3_choose_0 : decode cX3_choose 0 = .ok (.iconst 0, 1) := by decide +kernel
theorem dX3_choose_1 : decode cX3_choose 1 = .ok (.istore_n 2, 1) := by decide +kernel
theorem dX3_choose_2 : decode cX3_choose 2 = .ok (.iload_n 1, 1) := by decide +kernel
theorem dX3_choose_3 : decode cX3_choose 3 = .ok (.istore_n 3, 1) := by decide +kernel
theorem dX3_choose_4 : decode cX3_choose 4 = .ok (.iload_n 2, 1) := by decide +kernel
theorem dX3_choose_5 : decode cX3_choose 5 = .ok (.bipush 10, 2) := by decide +kernel
theorem dX3_choose_7 : decode cX3_choose 7 = .ok (.if_icmp .ge 46, 3) := by decide +kernel
theorem dX3_choose_10 : decode cX3_choose 10 = .ok (.iload_n 3, 1) := by decide +kernel
theorem dX3_choose_11 : decode cX3_choose 11 = .ok (.iconst (-1), 1) := by decide +kernel
theorem dX3_choose_12 : decode cX3_choose 12 = .ok (.if_icmp .eq 41, 3) := by decide +kernel
theorem dX3_choose_15 : decode cX3_choose 15 = .ok (.aload_n 0, 1) := by decide +kernel
theorem dX3_choose_16 : decode cX3_choose 16 = .ok (.iload_n 3, 1) := by decide +kernel
theorem dX3_choose_17 : decode cX3_choose 17 = .ok (.invokevirtual 291, 3) := by decide +kernel
theorem dX3_choose_20 : decode cX3_choose 20 = .ok (.ifCond .eq 17, 3) := by decide +kernel
theorem dX3_choose_23 : decode cX3_choose 23 = .ok (.aload_n 0, 1) := by decide +kernel
theorem dX3_choose_24 : decode cX3_choose 24 = .ok (.aload_n 0, 1) := by decide +kernel
theorem dX3_choose_25 : decode cX3_choose 25 = .ok (.getfield 33, 3) := by decide +kernel
theorem dX3_choose_28 : decode cX3_choose 28 = .ok (.getfield 158, 3) := by decide +kernel
theorem dX3_choose_31 : decode cX3_choose 31 = .ok (.iload_n 3, 1) := by decide +kernel
theorem dX3_choose_32 : decode cX3_choose 32 = .ok (.iaload, 1) := by decide +kernel
theorem dX3_choose_33 : decode cX3_choose 33 = .ok (.invokevirtual 161, 3) := by decide +kernel
theorem dX3_choose_36 : decode cX3_choose 36 = .ok (.return_, 1) := by decide +kernel
theorem dX3_choose_37 : decode cX3_choose 37 = .ok (.iinc 2 1, 3) := by decide +kernel
theorem dX3_choose_40 : decode cX3_choose 40 = .ok (.aload_n 0, 1) := by decide +kernel
theorem dX3_choose_41 : decode cX3_choose 41 = .ok (.getfield 33, 3) := by decide +kernel
theorem dX3_choose_44 : decode cX3_choose 44 = .ok (.getfield 240, 3) := by decide +kernel
theorem dX3_choose_47 : decode cX3_choose 47 = .ok (.iload_n 3, 1) := by decide +kernel
theorem dX3_choose_48 : decode cX3_choose 48 = .ok (.iaload, 1) := by decide +kernel
theorem dX3_choose_49 : decode cX3_choose 49 = .ok (.istore_n 3, 1) := by decide +kernel
theorem dX3_choose_50 : decode cX3_choose 50 = .ok (.goto (-46), 3) := by decide +kernel
theorem dX3_choose_53 : decode cX3_choose 53 = .ok (.aload_n 0, 1) := by decide +kernel
theorem dX3_choose_54 : decode cX3_choose 54 = .ok (.iconst 2, 1) := by decide +kernel
theorem dX3_choose_55 : decode cX3_choose 55 = .ok (.iconst 1, 1) := by decide +kernel
theorem dX3_choose_56 : decode cX3_choose 56 = .ok (.invokevirtual 154, 3) := by decide +kernel
theorem dX3_choose_59 : decode cX3_choose 59 = .ok (.return_, 1) := by decide +kernel
theorem dX3_closeVariables_0 : decode cX3_closeVariables 0 = .ok (.aload_n 0, 1) := by decide +kernel
theorem dX3_closeVariables_1 : decode cX3_closeVariables 1 = .ok (.aload_n 0, 1) := by decide +kernel
theorem dX3_closeVariables_2 : decode cX3_closeVariables 2 = .ok (.getfield 68, 3) := by decide +kernel
theorem dX3_closeVariables_5 : decode cX3_closeVariables 5 = .ok (.putfield 71, 3) := by decide +kernel
theorem dX3_closeVariables_8 : decode cX3_closeVariables 8 = .ok (.aload_n 0, 1) := by decide +kernel
theorem dX3_closeVariables_9 : decode cX3_closeVariables 9 = .ok (.iload_n 1, 1) := by decide +kernel
theorem dX3_closeVariables_10 : decode cX3_closeVariables 10 = .ok (.putfield 68, 3) := by decide +kernel
theorem dX3_closeVariables_13 : decode cX3_closeVariables 13 = .ok (.aload_n 0, 1) := by decide +kernel
theorem dX3_closeVariables_14 : decode cX3_closeVariables 14 = .ok (.iload_n 2, 1) := by decide +kernel
theorem dX3_closeVariables_15 : decode cX3_closeVariables 15 = .ok (.putfield 74, 3) := by decide +kernel
theorem dX3_closeVariables_18 : decode cX3_closeVariables 18 = .ok (.return_, 1) := by decide +kernel
theorem dX3_divide_0 : decode cX3_divide 0 = .ok (.iload_n 3, 1) := by decide +kernel
theorem dX3_divide_1 : decode cX3_divide 1 = .ok (.ifCond .ne 12, 3) := by decide +kernel
theorem dX3_divide_4 : decode cX3_divide 4 = .ok (.aload_n 0, 1) := by decide +kernel
theorem dX3_divide_5 : decode cX3_divide 5 = .ok (.iconst 2, 1) := by decide +kernel
theorem dX3_divide_6 : decode cX3_divide 6 = .ok (.iconst 2, 1) := by decide +kernel
theorem dX3_divide_7 : decode cX3_divide 7 = .ok (.invokevirtual 154, 3) := by decide +kernel
theorem dX3_divide_10 : decode cX3_divide 10 = .ok (.goto 22, 3) := by decide +kernel
theorem dX3_divide_13 : decode cX3_divide 13 = .ok (.aload_n 0, 1) := by decide +kernel
theorem dX3_divide_14 : decode cX3_divide 14 = .ok (.iload_n 1, 1) := by decide +kernel
theorem dX3_divide_15 : decode cX3_divide 15 = .ok (.bipush 47, 2) := by decide +kernel
theorem dX3_divide_17 : decode cX3_divide 17 = .ok (.if_icmp .ne 9, 3) := by decide +kernel
theorem dX3_divide_20 : decode cX3_divide 20 = .ok (.iload_n 2, 1) := by decide +kernel
theorem dX3_divide_21 : decode cX3_divide 21 = .ok (.iload_n 3, 1) := by decide +kernel
theorem dX3_divide_22 : decode cX3_divide 22 = .ok (.idiv, 1) := by decide +kernel
theorem dX3_divide_23 : decode cX3_divide 23 = .ok (.goto 6, 3) := by decide +kernel
theorem dX3_divide_26 : decode cX3_divide 26 = .ok (.iload_n 2, 1) := by decide +kernel
theorem dX3_divide_27 : decode cX3_divide 27 = .ok (.iload_n 3, 1) := by decide +kernel
theorem dX3_divide_28 : decode cX3_divide 28 = .ok (.irem, 1) := by decide +kernel
theorem dX3_divide_29 : decode cX3_divide 29 = .ok (.invokevirtual 281, 3) := by decide +kernel
theorem dX3_divide_32 : decode cX3_divide 32 = .ok (.return_, 1) := by decide +kernel
theorem dX3_endWith_0 : decode cX3_endWith 0 = .ok (.aload_n 0, 1) := by decide +kernel
theorem dX3_endWith_1 : decode cX3_endWith 1 = .ok (.getfield 13, 3) := by decide +kernel
theorem dX3_endWith_4 : decode cX3_endWith 4 = .ok (.iconst 0, 1) := by decide +kernel
theorem dX3_endWith_5 : decode cX3_endWith 5 = .ok (.iaload, 1) := by decide +kernel
theorem dX3_endWith_6 : decode cX3_endWith 6 = .ok (.ifCond .ne 17, 3) := by decide +kernel
theorem dX3_endWith_9 : decode cX3_endWith 9 = .ok (.aload_n 0, 1) := by decide +kernel
theorem dX3_endWith_10 : decode cX3_endWith 10 = .ok (.getfield 13, 3) := by decide +kernel
theorem dX3_endWith_13 : decode cX3_endWith 13 = .ok (.iconst 0, 1) := by decide +kernel
theorem dX3_endWith_14 : decode cX3_endWith 14 = .ok (.iload_n 1, 1) := by decide +kernel
theorem dX3_endWith_15 : decode cX3_endWith 15 = .ok (.iastore, 1) := by decide +kernel
theorem dX3_endWith_16 : decode cX3_endWith 16 = .ok (.aload_n 0, 1) := by decide +kernel
theorem dX3_endWith_17 : decode cX3_endWith 17 = .ok (.getfield 13, 3) := by decide +kernel
theorem dX3_endWith_20 : decode cX3_endWith 20 = .ok (.iconst 1, 1) := by decide +kernel
theorem dX3_endWith_21 : decode cX3_endWith 21 = .ok (.iload_n 2, 1) := by decide +kernel
theorem dX3_endWith_22 : decode cX3_endWith 22 = .ok (.iastore, 1) := by decide +kernel
theorem dX3_endWith_23 : decode cX3_endWith 23 = .ok (.return_, 1) := by decide +kernel
theorem dX3_extendPart_0 : decode cX3_extendPart 0 = .ok (.aload_n 0, 1) := by decide +kernel
theorem dX3_extendPart_1 : decode cX3_extendPart 1 = .ok (.getfield 44, 3) := by decide +kernel
theorem dX3_extendPart_4 : decode cX3_extendPart 4 = .ok (.iload_n 1, 1) := by decide +kernel
theorem dX3_extendPart_5 : decode cX3_extendPart 5 = .ok (.iload_n 3, 1) := by decide +kernel
theorem dX3_extendPart_6 : decode cX3_extendPart 6 = .ok (.iload 4, 2) := by decide +kernel
theorem dX3_extendPart_8 : decode cX3_extendPart 8 = .ok (.iadd, 1) := by decide +kernel
theorem dX3_extendPart_9 : decode cX3_extendPart 9 = .ok (.invokevirtual 222, 3) := by decide +kernel
theorem dX3_extendPart_12 : decode cX3_extendPart 12 = .ok (.istore 5, 2) := by decide +kernel
theorem dX3_extendPart_14 : decode cX3_extendPart 14 = .ok (.aload_n 0, 1) := by decide +kernel
theorem dX3_extendPart_15 : decode cX3_extendPart 15 = .ok (.iconst 5, 1) := by decide +kernel
theorem dX3_extendPart_16 : decode cX3_extendPart 16 = .ok (.iload 5, 2) := by decide +kernel
theorem dX3_extendPart_18 : decode cX3_extendPart 18 = .ok (.invokevirtual 213, 3) := by decide +kernel
theorem dX3_extendPart_21 : decode cX3_extendPart 21 = .ok (.lstore 6, 2) := by decide +kernel
theorem dX3_extendPart_23 : decode cX3_extendPart 23 = .ok (.aload_n 0, 1) := by decide +kernel
theorem dX3_extendPart_24 : decode cX3_extendPart 24 = .ok (.invokevirtual 230, 3) := by decide +kernel
theorem dX3_extendPart_27 : decode cX3_extendPart 27 = .ok (.ifCond .eq 4, 3) := by decide +kernel
theorem dX3_extendPart_30 : decode cX3_extendPart 30 = .ok (.return_, 1) := by decide +kernel
theorem dX3_extendPart_31 : decode cX3_extendPart 31 = .ok (.iconst 0, 1) := by decide +kernel
theorem dX3_extendPart_32 : decode cX3_extendPart 32 = .ok (.istore 8, 2) := by decide +kernel
theorem dX3_extendPart_34 : decode cX3_extendPart 34 = .ok (.iload 8, 2) := by decide +kernel
theorem dX3_extendPart_36 : decode cX3_extendPart 36 = .ok (.iload_n 3, 1) := by decide +kernel
theorem dX3_extendPart_37 : decode cX3_extendPart 37 = .ok (.if_icmp .ge 38, 3) := by decide +kernel
theorem dX3_extendPart_40 : decode cX3_extendPart 40 = .ok (.aload_n 0, 1) := by decide +kernel
theorem dX3_extendPart_41 : decode cX3_extendPart 41 = .ok (.getfield 44, 3) := by decide +kernel
theorem dX3_extendPart_44 : decode cX3_extendPart 44 = .ok (.getfield 181, 3) := by decide +kernel
theorem dX3_extendPart_47 : decode cX3_extendPart 47 = .ok (.iload 5, 2) := by decide +kernel
theorem dX3_extendPart_49 : decode cX3_extendPart 49 = .ok (.iconst 2, 1) := by decide +kernel
theorem dX3_extendPart_50 : decode cX3_extendPart 50 = .ok (.iadd, 1) := by decide +kernel
theorem dX3_extendPart_51 : decode cX3_extendPart 51 = .ok (.iload 8, 2) := by decide +kernel
theorem dX3_extendPart_53 : decode cX3_extendPart 53 = .ok (.iadd, 1) := by decide +kernel
theorem dX3_extendPart_54 : decode cX3_extendPart 54 = .ok (.aload_n 0, 1) := by decide +kernel
theorem dX3_extendPart_55 : decode cX3_extendPart 55 = .ok (.getfield 44, 3) := by decide +kernel
theorem dX3_extendPart_58 : decode cX3_extendPart 58 = .ok (.getfield 181, 3) := by decide +kernel
theorem dX3_extendPart_61 : decode cX3_extendPart 61 = .ok (.iload_n 2, 1) := by decide +kernel
theorem dX3_extendPart_62 : decode cX3_extendPart 62 = .ok (.iconst 2, 1) := by decide +kernel
theorem dX3_extendPart_63 : decode cX3_extendPart 63 = .ok (.iadd, 1) := by decide +kernel
theorem dX3_extendPart_64 : decode cX3_extendPart 64 = .ok (.iload 8, 2) := by decide +kernel
theorem dX3_extendPart_66 : decode cX3_extendPart 66 = .ok (.iadd, 1) := by decide +kernel
theorem dX3_extendPart_67 : decode cX3_extendPart 67 = .ok (.laload, 1) := by decide +kernel
theorem dX3_extendPart_68 : decode cX3_extendPart 68 = .ok (.lastore, 1) := by decide +kernel
theorem dX3_extendPart_69 : decode cX3_extendPart 69 = .ok (.iinc 8 1, 3) := by decide +kernel
theorem dX3_extendPart_72 : decode cX3_extendPart 72 = .ok (.goto (-38), 3) := by decide +kernel
theorem dX3_extendPart_75 : decode cX3_extendPart 75 = .ok (.iconst 0, 1) := by decide +kernel
theorem dX3_extendPart_76 : decode cX3_extendPart 76 = .ok (.istore 8, 2) := by decide +kernel
theorem dX3_extendPart_78 : decode cX3_extendPart 78 = .ok (.iload 8, 2) := by decide +kernel
theorem dX3_extendPart_80 : decode cX3_extendPart 80 = .ok (.iload 4, 2) := by decide +kernel
theorem dX3_extendPart_82 : decode cX3_extendPart 82 = .ok (.if_icmp .ge 41, 3) := by decide +kernel
theorem dX3_extendPart_85 : decode cX3_extendPart 85 = .ok (.aload_n 0, 1) := by decide +kernel
theorem dX3_extendPart_86 : decode cX3_extendPart 86 = .ok (.getfield 44, 3) := by decide +kernel
theorem dX3_extendPart_89 : decode cX3_extendPart 89 = .ok (.getfield 181, 3) := by decide +kernel
theorem dX3_extendPart_92 : decode cX3_extendPart 92 = .ok (.iload 5, 2) := by decide +kernel
theorem dX3_extendPart_94 : decode cX3_extendPart 94 = .ok (.iconst 2, 1) := by decide +kernel
theorem dX3_extendPart_95 : decode cX3_extendPart 95 = .ok (.iadd, 1) := by decide +kernel
theorem dX3_extendPart_96 : decode cX3_extendPart 96 = .ok (.iload_n 3, 1) := by decide +kernel
theorem dX3_extendPart_97 : decode cX3_extendPart 97 = .ok (.iadd, 1) := by decide +kernel
theorem dX3_extendPart_98 : decode cX3_extendPart 98 = .ok (.iload 8, 2) := by decide +kernel
theorem dX3_extendPart_100 : decode cX3_extendPart 100 = .ok (.iadd, 1) := by decide +kernel
theorem dX3_extendPart_101 : decode cX3_extendPart 101 = .ok (.aload_n 0, 1) := by decide +kernel
theorem dX3_extendPart_102 : decode cX3_extendPart 102 = .ok (.getfield 26, 3) := by decide +kernel
theorem dX3_extendPart_105 : decode cX3_extendPart 105 = .ok (.aload_n 0, 1) := by decide +kernel
theorem dX3_extendPart_106 : decode cX3_extendPart 106 = .ok (.getfield 65, 3) := by decide +kernel
theorem dX3_extendPart_109 : decode cX3_extendPart 109 = .ok (.iload 4, 2) := by decide +kernel
theorem dX3_extendPart_111 : decode cX3_extendPart 111 = .ok (.isub, 1) := by decide +kernel
theorem dX3_extendPart_112 : decode cX3_extendPart 112 = .ok (.iload 8, 2) := by decide +kernel
theorem dX3_extendPart_114 : decode cX3_extendPart 114 = .ok (.iadd, 1) := by decide +kernel
theorem dX3_extendPart_115 : decode cX3_extendPart 115 = .ok (.laload, 1) := by decide +kernel
theorem dX3_extendPart_116 : decode cX3_extendPart 116 = .ok (.lastore, 1) := by decide +kernel
theorem dX3_extendPart_117 : decode cX3_extendPart 117 = .ok (.iinc 8 1, 3) := by decide +kernel
theorem dX3_extendPart_120 : decode cX3_extendPart 120 = .ok (.goto (-42), 3) := by decide +kernel
theorem dX3_extendPart_123 : decode cX3_extendPart 123 = .ok (.aload_n 0, 1) := by decide +kernel
theorem dX3_extendPart_124 : decode cX3_extendPart 124 = .ok (.dup, 1) := by decide +kernel
theorem dX3_extendPart_125 : decode cX3_extendPart 125 = .ok (.getfield 65, 3) := by decide +kernel
theorem dX3_extendPart_128 : decode cX3_extendPart 128 = .ok (.iload 4, 2) := by decide +kernel
theorem dX3_extendPart_130 : decode cX3_extendPart 130 = .ok (.isub, 1) := by decide +kernel
theorem dX3_extendPart_131 : decode cX3_extendPart 131 = .ok (.putfield 65, 3) := by decide +kernel
theorem dX3_extendPart_134 : decode cX3_extendPart 134 = .ok (.aload_n 0, 1) := by decide +kernel
theorem dX3_extendPart_135 : decode cX3_extendPart 135 = .ok (.lload 6, 2) := by decide +kernel
theorem dX3_extendPart_137 : decode cX3_extendPart 137 = .ok (.invokevirtual 147, 3) := by decide +kernel
theorem dX3_extendPart_140 : decode cX3_extendPart 140 = .ok (.return_, 1) := by decide +kernel
theorem dX3_fill_0 : decode cX3_fill 0 = .ok (.aload_n 0, 1) := by decide +kernel
theorem dX3_fill_1 : decode cX3_fill 1 = .ok (.invokevirtual 230, 3) := by decide +kernel
theorem dX3_fill_4 : decode cX3_fill 4 = .ok (.ifCond .eq 4, 3) := by decide +kernel
theorem dX3_fill_7 : decode cX3_fill 7 = .ok (.return_, 1) := by decide +kernel
theorem dX3_fill_8 : decode cX3_fill 8 = .ok (.lload_n 2, 1) := by decide +kernel
theorem dX3_fill_9 : decode cX3_fill 9 = .ok (.l2i, 1) := by decide +kernel
theorem dX3_fill_10 : decode cX3_fill 10 = .ok (.istore 5, 2) := by decide +kernel
theorem dX3_fill_12 : decode cX3_fill 12 = .ok (.aload_n 0, 1) := by decide +kernel
theorem dX3_fill_13 : decode cX3_fill 13 = .ok (.getfield 33, 3) := by decide +kernel
theorem dX3_fill_16 : decode cX3_fill 16 = .ok (.getfield 158, 3) := by decide +kernel
theorem dX3_fill_19 : decode cX3_fill 19 = .ok (.iload_n 1, 1) := by decide +kernel
theorem dX3_fill_20 : decode cX3_fill 20 = .ok (.iaload, 1) := by decide +kernel
theorem dX3_fill_21 : decode cX3_fill 21 = .ok (.istore 6, 2) := by decide +kernel
theorem dX3_fill_23 : decode cX3_fill 23 = .ok (.aload_n 0, 1) := by decide +kernel
theorem dX3_fill_24 : decode cX3_fill 24 = .ok (.getfield 33, 3) := by decide +kernel
theorem dX3_fill_27 : decode cX3_fill 27 = .ok (.getfield 140, 3) := by decide +kernel
theorem dX3_fill_30 : decode cX3_fill 30 = .ok (.iload_n 1, 1) := by decide +kernel
theorem dX3_fill_31 : decode cX3_fill 31 = .ok (.iaload, 1) := by decide +kernel
theorem dX3_fill_32 : decode cX3_fill 32 = .ok (.tableswitch 97 0 9 #[56, 56, 56, 72, 97, 97, 97, 97, 97, 59], 56) := by decide +kernel
theorem dX3_fill_88 : decode cX3_fill 88 = .ok (.goto 101, 3) := by decide +kernel
theorem dX3_fill_91 : decode cX3_fill 91 = .ok (.aload_n 0, 1) := by decide +kernel
theorem dX3_fill_92 : decode cX3_fill 92 = .ok (.iload 6, 2) := by decide +kernel
theorem dX3_fill_94 : decode cX3_fill 94 = .ok (.iload 5, 2) := by decide +kernel
theorem dX3_fill_96 : decode cX3_fill 96 = .ok (.iconst 1, 1) := by decide +kernel
theorem dX3_fill_97 : decode cX3_fill 97 = .ok (.iadd, 1) := by decide +kernel
theorem dX3_fill_98 : decode cX3_fill 98 = .ok (.invokevirtual 234, 3) := by decide +kernel
theorem dX3_fill_101 : decode cX3_fill 101 = .ok (.goto 88, 3) := by decide +kernel
theorem dX3_fill_104 : decode cX3_fill 104 = .ok (.iload 4, 2) := by decide +kernel
theorem dX3_fill_106 : decode cX3_fill 106 = .ok (.ifCond .eq 83, 3) := by decide +kernel
theorem dX3_fill_109 : decode cX3_fill 109 = .ok (.aload_n 0, 1) := by decide +kernel
theorem dX3_fill_110 : decode cX3_fill 110 = .ok (.iload 5, 2) := by decide +kernel
theorem dX3_fill_112 : decode cX3_fill 112 = .ok (.iconst 1, 1) := by decide +kernel
theorem dX3_fill_113 : decode cX3_fill 113 = .ok (.iadd, 1) := by decide +kernel
theorem dX3_fill_114 : decode cX3_fill 114 = .ok (.aload_n 0, 1) := by decide +kernel
theorem dX3_fill_115 : decode cX3_fill 115 = .ok (.getfield 33, 3) := by decide +kernel
theorem dX3_fill_118 : decode cX3_fill 118 = .ok (.getfield 193, 3) := by decide +kernel
theorem dX3_fill_121 : decode cX3_fill 121 = .ok (.iload_n 1, 1) := by decide +kernel
theorem dX3_fill_122 : decode cX3_fill 122 = .ok (.laload, 1) := by decide +kernel
theorem dX3_fill_123 : decode cX3_fill 123 = .ok (.invokevirtual 237, 3) := by decide +kernel
theorem dX3_fill_126 : decode cX3_fill 126 = .ok (.goto 63, 3) := by decide +kernel
theorem dX3_fill_129 : decode cX3_fill 129 = .ok (.aload_n 0, 1) := by decide +kernel
theorem dX3_fill_130 : decode cX3_fill 130 = .ok (.getfield 33, 3) := by decide +kernel
theorem dX3_fill_133 : decode cX3_fill 133 = .ok (.getfield 140, 3) := by decide +kernel
theorem dX3_fill_136 : decode cX3_fill 136 = .ok (.iload_n 1, 1) := by decide +kernel
theorem dX3_fill_137 : decode cX3_fill 137 = .ok (.iaload, 1) := by decide +kernel
theorem dX3_fill_138 : decode cX3_fill 138 = .ok (.bipush 8, 2) := by decide +kernel
theorem dX3_fill_140 : decode cX3_fill 140 = .ok (.if_icmp .ne 32, 3) := by decide +kernel
theorem dX3_fill_143 : decode cX3_fill 143 = .ok (.aload_n 0, 1) := by decide +kernel
theorem dX3_fill_144 : decode cX3_fill 144 = .ok (.iload_n 1, 1) := by decide +kernel
theorem dX3_fill_145 : decode cX3_fill 145 = .ok (.invokevirtual 216, 3) := by decide +kernel
theorem dX3_fill_148 : decode cX3_fill 148 = .ok (.ifCond .eq 24, 3) := by decide +kernel
theorem dX3_fill_151 : decode cX3_fill 151 = .ok (.aload_n 0, 1) := by decide +kernel
theorem dX3_fill_152 : decode cX3_fill 152 = .ok (.aload_n 0, 1) := by decide +kernel
theorem dX3_fill_153 : decode cX3_fill 153 = .ok (.getfield 33, 3) := by decide +kernel
theorem dX3_fill_156 : decode cX3_fill 156 = .ok (.getfield 240, 3) := by decide +kernel
theorem dX3_fill_159 : decode cX3_fill 159 = .ok (.iload 6, 2) := by decide +kernel
theorem dX3_fill_161 : decode cX3_fill 161 = .ok (.iaload, 1) := by decide +kernel
theorem dX3_fill_162 : decode cX3_fill 162 = .ok (.iload 5, 2) := by decide +kernel
theorem dX3_fill_164 : decode cX3_fill 164 = .ok (.iconst 2, 1) := by decide +kernel
theorem dX3_fill_165 : decode cX3_fill 165 = .ok (.iadd, 1) := by decide +kernel
theorem dX3_fill_166 : decode cX3_fill 166 = .ok (.invokevirtual 234, 3) := by decide +kernel
theorem dX3_fill_169 : decode cX3_fill 169 = .ok (.goto 20, 3) := by decide +kernel
theorem dX3_fill_172 : decode cX3_fill 172 = .ok (.aload_n 0, 1) := by decide +kernel
theorem dX3_fill_173 : decode cX3_fill 173 = .ok (.iload 5, 2) := by decide +kernel
theorem dX3_fill_175 : decode cX3_fill 175 = .ok (.iconst 1, 1) := by decide +kernel
theorem dX3_fill_176 : decode cX3_fill 176 = .ok (.iadd, 1) := by decide +kernel
theorem dX3_fill_177 : decode cX3_fill 177 = .ok (.aload_n 0, 1) := by decide +kernel
theorem dX3_fill_178 : decode cX3_fill 178 = .ok (.getfield 33, 3) := by decide +kernel
theorem dX3_fill_181 : decode cX3_fill 181 = .ok (.getfield 193, 3) := by decide +kernel
theorem dX3_fill_184 : decode cX3_fill 184 = .ok (.iload_n 1, 1) := by decide +kernel
theorem dX3_fill_185 : decode cX3_fill 185 = .ok (.laload, 1) := by decide +kernel
theorem dX3_fill_186 : decode cX3_fill 186 = .ok (.invokevirtual 237, 3) := by decide +kernel
theorem dX3_fill_189 : decode cX3_fill 189 = .ok (.return_, 1) := by decide +kernel
theorem dX3_fits_0 : decode cX3_fits 0 = .ok (.aload_n 0, 1) := by decide +kernel
theorem dX3_fits_1 : decode cX3_fits 1 = .ok (.getfield 33, 3) := by decide +kernel
theorem dX3_fits_4 : decode cX3_fits 4 = .ok (.getfield 136, 3) := by decide +kernel
theorem dX3_fits_7 : decode cX3_fits 7 = .ok (.iload_n 1, 1) := by decide +kernel
theorem dX3_fits_8 : decode cX3_fits 8 = .ok (.iaload, 1) := by decide +kernel
theorem dX3_fits_9 : decode cX3_fits 9 = .ok (.istore_n 2, 1) := by decide +kernel
theorem dX3_fits_10 : decode cX3_fits 10 = .ok (.aload_n 0, 1) := by decide +kernel
theorem dX3_fits_11 : decode cX3_fits 11 = .ok (.getfield 124, 3) := by decide +kernel
theorem dX3_fits_14 : decode cX3_fits 14 = .ok (.invokestatic 170, 3) := by decide +kernel
theorem dX3_fits_17 : decode cX3_fits 17 = .ok (.istore_n 3, 1) := by decide +kernel
theorem dX3_fits_18 : decode cX3_fits 18 = .ok (.aload_n 0, 1) := by decide +kernel
theorem dX3_fits_19 : decode cX3_fits 19 = .ok (.getfield 124, 3) := by decide +kernel
theorem dX3_fits_22 : decode cX3_fits 22 = .ok (.l2i, 1) := by decide +kernel
theorem dX3_fits_23 : decode cX3_fits 23 = .ok (.istore 4, 2) := by decide +kernel
theorem dX3_fits_25 : decode cX3_fits 25 = .ok (.aload_n 0, 1) := by decide +kernel
theorem dX3_fits_26 : decode cX3_fits 26 = .ok (.getfield 33, 3) := by decide +kernel
theorem dX3_fits_29 : decode cX3_fits 29 = .ok (.getfield 140, 3) := by decide +kernel
theorem dX3_fits_32 : decode cX3_fits 32 = .ok (.iload_n 1, 1) := by decide +kernel
theorem dX3_fits_33 : decode cX3_fits 33 = .ok (.iaload, 1) := by decide +kernel
theorem dX3_fits_34 : decode cX3_fits 34 = .ok (.bipush 13, 2) := by decide +kernel
theorem dX3_fits_36 : decode cX3_fits 36 = .ok (.if_icmp .ne 5, 3) := by decide +kernel
theorem dX3_fits_39 : decode cX3_fits 39 = .ok (.iconst 1, 1) := by decide +kernel
theorem dX3_fits_40 : decode cX3_fits 40 = .ok (.ireturn, 1) := by decide +kernel
theorem dX3_fits_41 : decode cX3_fits 41 = .ok (.aload_n 0, 1) := by decide +kernel
theorem dX3_fits_42 : decode cX3_fits 42 = .ok (.getfield 33, 3) := by decide +kernel
theorem dX3_fits_45 : decode cX3_fits 45 = .ok (.getfield 140, 3) := by decide +kernel
theorem dX3_fits_48 : decode cX3_fits 48 = .ok (.iload_n 1, 1) := by decide +kernel
theorem dX3_fits_49 : decode cX3_fits 49 = .ok (.iaload, 1) := by decide +kernel
theorem dX3_fits_50 : decode cX3_fits 50 = .ok (.bipush 12, 2) := by decide +kernel
theorem dX3_fits_52 : decode cX3_fits 52 = .ok (.if_icmp .ne 20, 3) := by decide +kernel
theorem dX3_fits_55 : decode cX3_fits 55 = .ok (.iload_n 3, 1) := by decide +kernel
theorem dX3_fits_56 : decode cX3_fits 56 = .ok (.iconst 1, 1) := by decide +kernel
theorem dX3_fits_57 : decode cX3_fits 57 = .ok (.if_icmp .ne 13, 3) := by decide +kernel
theorem dX3_fits_60 : decode cX3_fits 60 = .ok (.iload 4, 2) := by decide +kernel
theorem dX3_fits_62 : decode cX3_fits 62 = .ok (.iload_n 2, 1) := by decide +kernel
theorem dX3_fits_63 : decode cX3_fits 63 = .ok (.if_icmp .ne 7, 3) := by decide +kernel
theorem dX3_fits_66 : decode cX3_fits 66 = .ok (.iconst 1, 1) := by decide +kernel
theorem dX3_fits_67 : decode cX3_fits 67 = .ok (.goto 4, 3) := by decide +kernel
theorem dX3_fits_70 : decode cX3_fits 70 = .ok (.iconst 0, 1) := by decide +kernel
theorem dX3_fits_71 : decode cX3_fits 71 = .ok (.ireturn, 1) := by decide +kernel
theorem dX3_fits_72 : decode cX3_fits 72 = .ok (.iload_n 3, 1) := by decide +kernel
theorem dX3_fits_73 : decode cX3_fits 73 = .ok (.iconst 3, 1) := by decide +kernel
theorem dX3_fits_74 : decode cX3_fits 74 = .ok (.if_icmp .ne 15, 3) := by decide +kernel
theorem dX3_fits_77 : decode cX3_fits 77 = .ok (.iload 4, 2) := by decide +kernel
theorem dX3_fits_79 : decode cX3_fits 79 = .ok (.iload_n 2, 1) := by decide +kernel
theorem dX3_fits_80 : decode cX3_fits 80 = .ok (.if_icmp .ne 7, 3) := by decide +kernel
theorem dX3_fits_83 : decode cX3_fits 83 = .ok (.iconst 1, 1) := by decide +kernel
theorem dX3_fits_84 : decode cX3_fits 84 = .ok (.goto 4, 3) := by decide +kernel
theorem dX3_fits_87 : decode cX3_fits 87 = .ok (.iconst 0, 1) := by decide +kernel
theorem dX3_fits_88 : decode cX3_fits 88 = .ok (.ireturn, 1) := by decide +kernel
theorem dX3_fits_89 : decode cX3_fits 89 = .ok (.iload_n 3, 1) := by decide +kernel
theorem dX3_fits_90 : decode cX3_fits 90 = .ok (.iconst 4, 1) := by decide +kernel
theorem dX3_fits_91 : decode cX3_fits 91 = .ok (.if_icmp .ne 19, 3) := by decide +kernel
theorem dX3_fits_94 : decode cX3_fits 94 = .ok (.aload_n 0, 1) := by decide +kernel
theorem dX3_fits_95 : decode cX3_fits 95 = .ok (.getfield 44, 3) := by decide +kernel
theorem dX3_fits_98 : decode cX3_fits 98 = .ok (.getfield 181, 3) := by decide +kernel
theorem dX3_fits_101 : decode cX3_fits 101 = .ok (.iload 4, 2) := by decide +kernel
theorem dX3_fits_103 : decode cX3_fits 103 = .ok (.laload, 1) := by decide +kernel
theorem dX3_fits_104 : decode cX3_fits 104 = .ok (.iload_n 2, 1) := by decide +kernel
theorem dX3_fits_105 : decode cX3_fits 105 = .ok (.i2l, 1) := by decide +kernel
theorem dX3_fits_106 : decode cX3_fits 106 = .ok (.lcmp, 1) := by decide +kernel
theorem dX3_fits_107 : decode cX3_fits 107 = .ok (.ifCond .eq 5, 3) := by decide +kernel
theorem dX3_fits_110 : decode cX3_fits 110 = .ok (.iconst 0, 1) := by decide +kernel
theorem dX3_fits_111 : decode cX3_fits 111 = .ok (.ireturn, 1) := by decide +kernel
theorem dX3_fits_112 : decode cX3_fits 112 = .ok (.iconst 0, 1) := by decide +kernel
theorem dX3_fits_113 : decode cX3_fits 113 = .ok (.istore 5, 2) := by decide +kernel
theorem dX3_fits_115 : decode cX3_fits 115 = .ok (.iload 5, 2) := by decide +kernel
theorem dX3_fits_117 : decode cX3_fits 117 = .ok (.aload_n 0, 1) := by decide +kernel
theorem dX3_fits_118 : decode cX3_fits 118 = .ok (.getfield 37, 3) := by decide +kernel
theorem dX3_fits_121 : decode cX3_fits 121 = .ok (.getfield 206, 3) := by decide +kernel
theorem dX3_fits_124 : decode cX3_fits 124 = .ok (.iload_n 2, 1) := by decide +kernel
theorem dX3_fits_125 : decode cX3_fits 125 = .ok (.iaload, 1) := by decide +kernel
theorem dX3_fits_126 : decode cX3_fits 126 = .ok (.if_icmp .ge 46, 3) := by decide +kernel
theorem dX3_fits_129 : decode cX3_fits 129 = .ok (.aload_n 0, 1) := by decide +kernel
theorem dX3_fits_130 : decode cX3_fits 130 = .ok (.getfield 30, 3) := by decide +kernel
theorem dX3_fits_133 : decode cX3_fits 133 = .ok (.aload_n 0, 1) := by decide +kernel
theorem dX3_fits_134 : decode cX3_fits 134 = .ok (.getfield 68, 3) := by decide +kernel
theorem dX3_fits_137 : decode cX3_fits 137 = .ok (.aload_n 0, 1) := by decide +kernel
theorem dX3_fits_138 : decode cX3_fits 138 = .ok (.getfield 33, 3) := by decide +kernel
theorem dX3_fits_141 : decode cX3_fits 141 = .ok (.getfield 219, 3) := by decide +kernel
theorem dX3_fits_144 : decode cX3_fits 144 = .ok (.iload_n 1, 1) := by decide +kernel
theorem dX3_fits_145 : decode cX3_fits 145 = .ok (.iaload, 1) := by decide +kernel
theorem dX3_fits_146 : decode cX3_fits 146 = .ok (.iadd, 1) := by decide +kernel
theorem dX3_fits_147 : decode cX3_fits 147 = .ok (.iload 5, 2) := by decide +kernel
theorem dX3_fits_149 : decode cX3_fits 149 = .ok (.iadd, 1) := by decide +kernel
theorem dX3_fits_150 : decode cX3_fits 150 = .ok (.aload_n 0, 1) := by decide +kernel
theorem dX3_fits_151 : decode cX3_fits 151 = .ok (.getfield 44, 3) := by decide +kernel
theorem dX3_fits_154 : decode cX3_fits 154 = .ok (.getfield 181, 3) := by decide +kernel
theorem dX3_fits_157 : decode cX3_fits 157 = .ok (.iload 4, 2) := by decide +kernel
theorem dX3_fits_159 : decode cX3_fits 159 = .ok (.iconst 1, 1) := by decide +kernel
theorem dX3_fits_160 : decode cX3_fits 160 = .ok (.iadd, 1) := by decide +kernel
theorem dX3_fits_161 : decode cX3_fits 161 = .ok (.iload 5, 2) := by decide +kernel
theorem dX3_fits_163 : decode cX3_fits 163 = .ok (.iadd, 1) := by decide +kernel
theorem dX3_fits_164 : decode cX3_fits 164 = .ok (.laload, 1) := by decide +kernel
theorem dX3_fits_165 : decode cX3_fits 165 = .ok (.lastore, 1) := by decide +kernel
theorem dX3_fits_166 : decode cX3_fits 166 = .ok (.iinc 5 1, 3) := by decide +kernel
theorem dX3_fits_169 : decode cX3_fits 169 = .ok (.goto (-54), 3) := by decide +kernel
theorem dX3_fits_172 : decode cX3_fits 172 = .ok (.iconst 1, 1) := by decide +kernel
theorem dX3_fits_173 : decode cX3_fits 173 = .ok (.ireturn, 1) := by decide +kernel
theorem dX3_forget_0 : decode cX3_forget 0 = .ok (.aload_n 0, 1) := by decide +kernel
theorem dX3_forget_1 : decode cX3_forget 1 = .ok (.getfield 13, 3) := by decide +kernel
theorem dX3_forget_4 : decode cX3_forget 4 = .ok (.iconst 0, 1) := by decide +kernel
theorem dX3_forget_5 : decode cX3_forget 5 = .ok (.invokestatic 48, 3) := by decide +kernel
theorem dX3_forget_8 : decode cX3_forget 8 = .ok (.aload_n 0, 1) := by decide +kernel
theorem dX3_forget_9 : decode cX3_forget 9 = .ok (.getfield 17, 3) := by decide +kernel
theorem dX3_forget_12 : decode cX3_forget 12 = .ok (.iconst 0, 1) := by decide +kernel
theorem dX3_forget_13 : decode cX3_forget 13 = .ok (.invokestatic 48, 3) := by decide +kernel
theorem dX3_forget_16 : decode cX3_forget 16 = .ok (.return_, 1) := by decide +kernel
theorem dX3_frame_0 : decode cX3_frame 0 = .ok (.iload_n 0, 1) := by decide +kernel
theorem dX3_frame_1 : decode cX3_frame 1 = .ok (.i2l, 1) := by decide +kernel
theorem dX3_frame_2 : decode cX3_frame 2 = .ok (.bipush 56, 2) := by decide +kernel
theorem dX3_frame_4 : decode cX3_frame 4 = .ok (.lshl, 1) := by decide +kernel
theorem dX3_frame_5 : decode cX3_frame 5 = .ok (.iload_n 1, 1) := by decide +kernel
theorem dX3_frame_6 : decode cX3_frame 6 = .ok (.i2l, 1) := by decide +kernel
theorem dX3_frame_7 : decode cX3_frame 7 = .ok (.bipush 28, 2) := by decide +kernel
theorem dX3_frame_9 : decode cX3_frame 9 = .ok (.lshl, 1) := by decide +kernel
theorem dX3_frame_10 : decode cX3_frame 10 = .ok (.lor, 1) := by decide +kernel
theorem dX3_frame_11 : decode cX3_frame 11 = .ok (.iload_n 2, 1) := by decide +kernel
theorem dX3_frame_12 : decode cX3_frame 12 = .ok (.i2l, 1) := by decide +kernel
theorem dX3_frame_13 : decode cX3_frame 13 = .ok (.lor, 1) := by decide +kernel
theorem dX3_frame_14 : decode cX3_frame 14 = .ok (.lreturn, 1) := by decide +kernel
theorem dX3_give_0 : decode cX3_give 0 = .ok (.aload_n 0, 1) := by decide +kernel
theorem dX3_give_1 : decode cX3_give 1 = .ok (.lload_n 1, 1) := by decide +kernel
theorem dX3_give_2 : decode cX3_give 2 = .ok (.putfield 124, 3) := by decide +kernel
theorem dX3_give_5 : decode cX3_give 5 = .ok (.aload_n 0, 1) := by decide +kernel
theorem dX3_give_6 : decode cX3_give 6 = .ok (.iconst 0, 1) := by decide +kernel
theorem dX3_give_7 : decode cX3_give 7 = .ok (.putfield 111, 3) := by decide +kernel
theorem dX3_give_10 : decode cX3_give 10 = .ok (.return_, 1) := by decide +kernel
theorem dX3_giveInt_0 : decode cX3_giveInt 0 = .ok (.aload_n 0, 1) := by decide +kernel
theorem dX3_giveInt_1 : decode cX3_giveInt 1 = .ok (.iconst 1, 1) := by decide +kernel
theorem dX3_giveInt_2 : decode cX3_giveInt 2 = .ok (.iload_n 1, 1) := by decide +kernel
theorem dX3_giveInt_3 : decode cX3_giveInt 3 = .ok (.invokestatic 103, 3) := by decide +kernel
theorem dX3_giveInt_6 : decode cX3_giveInt 6 = .ok (.invokevirtual 147, 3) := by decide +kernel
theorem dX3_giveInt_9 : decode cX3_giveInt 9 = .ok (.return_, 1) := by decide +kernel
theorem dX3_giveTruth_0 : decode cX3_giveTruth 0 = .ok (.aload_n 0, 1) := by decide +kernel
theorem dX3_giveTruth_1 : decode cX3_giveTruth 1 = .ok (.iconst 3, 1) := by decide +kernel
theorem dX3_giveTruth_2 : decode cX3_giveTruth 2 = .ok (.iload_n 1, 1) := by decide +kernel
theorem dX3_giveTruth_3 : decode cX3_giveTruth 3 = .ok (.ifCond .eq 7, 3) := by decide +kernel
theorem dX3_giveTruth_6 : decode cX3_giveTruth 6 = .ok (.iconst 1, 1) := by decide +kernel
theorem dX3_giveTruth_7 : decode cX3_giveTruth 7 = .ok (.goto 4, 3) := by decide +kernel
theorem dX3_giveTruth_10 : decode cX3_giveTruth 10 = .ok (.iconst 0, 1) := by decide +kernel
theorem dX3_giveTruth_11 : decode cX3_giveTruth 11 = .ok (.invokestatic 103, 3) := by decide +kernel
theorem dX3_giveTruth_14 : decode cX3_giveTruth 14 = .ok (.invokevirtual 147, 3) := by decide +kernel
theorem dX3_giveTruth_17 : decode cX3_giveTruth 17 = .ok (.return_, 1) := by decide +kernel
theorem dX3_isOver_0 : decode cX3_isOver 0 = .ok (.aload_n 0, 1) := by decide +kernel
theorem dX3_isOver_1 : decode cX3_isOver 1 = .ok (.getfield 13, 3) := by decide +kernel
theorem dX3_isOver_4 : decode cX3_isOver 4 = .ok (.iconst 0, 1) := by decide +kernel
theorem dX3_isOver_5 : decode cX3_isOver 5 = .ok (.iaload, 1) := by decide +kernel
theorem dX3_isOver_6 : decode cX3_isOver 6 = .ok (.ifCond .eq 7, 3) := by decide +kernel
theorem dX3_isOver_9 : decode cX3_isOver 9 = .ok (.iconst 1, 1) := by decide +kernel
theorem dX3_isOver_10 : decode cX3_isOver 10 = .ok (.goto 4, 3) := by decide +kernel
theorem dX3_isOver_13 : decode cX3_isOver 13 = .ok (.iconst 0, 1) := by decide +kernel
theorem dX3_isOver_14 : decode cX3_isOver 14 = .ok (.ireturn, 1) := by decide +kernel
theorem dX3_isPartOfCall_0 : decode cX3_isPartOfCall 0 = .ok (.aload_n 0, 1) := by decide +kernel
theorem dX3_isPartOfCall_1 : decode cX3_isPartOfCall 1 = .ok (.getfield 33, 3) := by decide +kernel
theorem dX3_isPartOfCall_4 : decode cX3_isPartOfCall 4 = .ok (.getfield 158, 3) := by decide +kernel
theorem dX3_isPartOfCall_7 : decode cX3_isPartOfCall 7 = .ok (.iload_n 1, 1) := by decide +kernel
theorem dX3_isPartOfCall_8 : decode cX3_isPartOfCall 8 = .ok (.iaload, 1) := by decide +kernel
theorem dX3_isPartOfCall_9 : decode cX3_isPartOfCall 9 = .ok (.istore_n 2, 1) := by decide +kernel
theorem dX3_isPartOfCall_10 : decode cX3_isPartOfCall 10 = .ok (.aload_n 0, 1) := by decide +kernel
theorem dX3_isPartOfCall_11 : decode cX3_isPartOfCall 11 = .ok (.getfield 33, 3) := by decide +kernel
theorem dX3_isPartOfCall_14 : decode cX3_isPartOfCall 14 = .ok (.getfield 140, 3) := by decide +kernel
theorem dX3_isPartOfCall_17 : decode cX3_isPartOfCall 17 = .ok (.iload_n 2, 1) := by decide +kernel
theorem dX3_isPartOfCall_18 : decode cX3_isPartOfCall 18 = .ok (.iaload, 1) := by decide +kernel
theorem dX3_isPartOfCall_19 : decode cX3_isPartOfCall 19 = .ok (.iconst 2, 1) := by decide +kernel
theorem dX3_isPartOfCall_20 : decode cX3_isPartOfCall 20 = .ok (.if_icmp .ne 36, 3) := by decide +kernel
theorem dX3_isPartOfCall_23 : decode cX3_isPartOfCall 23 = .ok (.aload_n 0, 1) := by decide +kernel
theorem dX3_isPartOfCall_24 : decode cX3_isPartOfCall 24 = .ok (.getfield 33, 3) := by decide +kernel
theorem dX3_isPartOfCall_27 : decode cX3_isPartOfCall 27 = .ok (.getfield 219, 3) := by decide +kernel
theorem dX3_isPartOfCall_30 : decode cX3_isPartOfCall 30 = .ok (.iload_n 1, 1) := by decide +kernel
theorem dX3_isPartOfCall_31 : decode cX3_isPartOfCall 31 = .ok (.iaload, 1) := by decide +kernel
theorem dX3_isPartOfCall_32 : decode cX3_isPartOfCall 32 = .ok (.aload_n 0, 1) := by decide +kernel
theorem dX3_isPartOfCall_33 : decode cX3_isPartOfCall 33 = .ok (.getfield 37, 3) := by decide +kernel
theorem dX3_isPartOfCall_36 : decode cX3_isPartOfCall 36 = .ok (.getfield 82, 3) := by decide +kernel
theorem dX3_isPartOfCall_39 : decode cX3_isPartOfCall 39 = .ok (.aload_n 0, 1) := by decide +kernel
theorem dX3_isPartOfCall_40 : decode cX3_isPartOfCall 40 = .ok (.getfield 33, 3) := by decide +kernel
theorem dX3_isPartOfCall_43 : decode cX3_isPartOfCall 43 = .ok (.getfield 136, 3) := by decide +kernel
theorem dX3_isPartOfCall_46 : decode cX3_isPartOfCall 46 = .ok (.iload_n 2, 1) := by decide +kernel
theorem dX3_isPartOfCall_47 : decode cX3_isPartOfCall 47 = .ok (.iaload, 1) := by decide +kernel
theorem dX3_isPartOfCall_48 : decode cX3_isPartOfCall 48 = .ok (.iaload, 1) := by decide +kernel
theorem dX3_isPartOfCall_49 : decode cX3_isPartOfCall 49 = .ok (.if_icmp .ge 7, 3) := by decide +kernel
theorem dX3_isPartOfCall_52 : decode cX3_isPartOfCall 52 = .ok (.iconst 1, 1) := by decide +kernel
theorem dX3_isPartOfCall_53 : decode cX3_isPartOfCall 53 = .ok (.goto 4, 3) := by decide +kernel
theorem dX3_isPartOfCall_56 : decode cX3_isPartOfCall 56 = .ok (.iconst 0, 1) := by decide +kernel
theorem dX3_isPartOfCall_57 : decode cX3_isPartOfCall 57 = .ok (.ireturn, 1) := by decide +kernel
theorem dX3_keep_0 : decode cX3_keep 0 = .ok (.aload_n 0, 1) := by decide +kernel
theorem dX3_keep_1 : decode cX3_keep 1 = .ok (.iload_n 1, 1) := by decide +kernel
theorem dX3_keep_2 : decode cX3_keep 2 = .ok (.iconst 0, 1) := by decide +kernel
theorem dX3_keep_3 : decode cX3_keep 3 = .ok (.invokevirtual 150, 3) := by decide +kernel
theorem dX3_keep_6 : decode cX3_keep 6 = .ok (.lstore_n 2, 1) := by decide +kernel
theorem dX3_keep_7 : decode cX3_keep 7 = .ok (.aload_n 0, 1) := by decide +kernel
theorem dX3_keep_8 : decode cX3_keep 8 = .ok (.iload_n 1, 1) := by decide +kernel
theorem dX3_keep_9 : decode cX3_keep 9 = .ok (.lload_n 2, 1) := by decide +kernel
theorem dX3_keep_10 : decode cX3_keep 10 = .ok (.iconst 0, 1) := by decide +kernel
theorem dX3_keep_11 : decode cX3_keep 11 = .ok (.invokevirtual 203, 3) := by decide +kernel
theorem dX3_keep_14 : decode cX3_keep 14 = .ok (.lload_n 2, 1) := by decide +kernel
theorem dX3_keep_15 : decode cX3_keep 15 = .ok (.lreturn, 1) := by decide +kernel
theorem dX3_keepRow_0 : decode cX3_keepRow 0 = .ok (.iconst 0, 1) := by decide +kernel
theorem dX3_keepRow_1 : decode cX3_keepRow 1 = .ok (.istore_n 3, 1) := by decide +kernel
theorem dX3_keepRow_2 : decode cX3_keepRow 2 = .ok (.iload_n 1, 1) := by decide +kernel
theorem dX3_keepRow_3 : decode cX3_keepRow 3 = .ok (.istore 4, 2) := by decide +kernel
theorem dX3_keepRow_5 : decode cX3_keepRow 5 = .ok (.iload_n 3, 1) := by decide +kernel
theorem dX3_keepRow_6 : decode cX3_keepRow 6 = .ok (.bipush 10, 2) := by decide +kernel
theorem dX3_keepRow_8 : decode cX3_keepRow 8 = .ok (.if_icmp .ge 51, 3) := by decide +kernel
theorem dX3_keepRow_11 : decode cX3_keepRow 11 = .ok (.iload 4, 2) := by decide +kernel
theorem dX3_keepRow_13 : decode cX3_keepRow 13 = .ok (.iconst (-1), 1) := by decide +kernel
theorem dX3_keepRow_14 : decode cX3_keepRow 14 = .ok (.if_icmp .eq 45, 3) := by decide +kernel
theorem dX3_keepRow_17 : decode cX3_keepRow 17 = .ok (.aload_n 0, 1) := by decide +kernel
theorem dX3_keepRow_18 : decode cX3_keepRow 18 = .ok (.invokevirtual 230, 3) := by decide +kernel
theorem dX3_keepRow_21 : decode cX3_keepRow 21 = .ok (.ifCond .ne 38, 3) := by decide +kernel
theorem dX3_keepRow_24 : decode cX3_keepRow 24 = .ok (.aload_n 0, 1) := by decide +kernel
theorem dX3_keepRow_25 : decode cX3_keepRow 25 = .ok (.getfield 44, 3) := by decide +kernel
theorem dX3_keepRow_28 : decode cX3_keepRow 28 = .ok (.getfield 181, 3) := by decide +kernel
theorem dX3_keepRow_31 : decode cX3_keepRow 31 = .ok (.iload_n 2, 1) := by decide +kernel
theorem dX3_keepRow_32 : decode cX3_keepRow 32 = .ok (.iload_n 3, 1) := by decide +kernel
theorem dX3_keepRow_33 : decode cX3_keepRow 33 = .ok (.iadd, 1) := by decide +kernel
theorem dX3_keepRow_34 : decode cX3_keepRow 34 = .ok (.aload_n 0, 1) := by decide +kernel
theorem dX3_keepRow_35 : decode cX3_keepRow 35 = .ok (.iload 4, 2) := by decide +kernel
theorem dX3_keepRow_37 : decode cX3_keepRow 37 = .ok (.invokevirtual 143, 3) := by decide +kernel
theorem dX3_keepRow_40 : decode cX3_keepRow 40 = .ok (.lastore, 1) := by decide +kernel
theorem dX3_keepRow_41 : decode cX3_keepRow 41 = .ok (.iinc 3 1, 3) := by decide +kernel
theorem dX3_keepRow_44 : decode cX3_keepRow 44 = .ok (.aload_n 0, 1) := by decide +kernel
theorem dX3_keepRow_45 : decode cX3_keepRow 45 = .ok (.getfield 33, 3) := by decide +kernel
theorem dX3_keepRow_48 : decode cX3_keepRow 48 = .ok (.getfield 240, 3) := by decide +kernel
theorem dX3_keepRow_51 : decode cX3_keepRow 51 = .ok (.iload 4, 2) := by decide +kernel
theorem dX3_keepRow_53 : decode cX3_keepRow 53 = .ok (.iaload, 1) := by decide +kernel
theorem dX3_keepRow_54 : decode cX3_keepRow 54 = .ok (.istore 4, 2) := by decide +kernel
theorem dX3_keepRow_56 : decode cX3_keepRow 56 = .ok (.goto (-51), 3) := by decide +kernel
theorem dX3_keepRow_59 : decode cX3_keepRow 59 = .ok (.return_, 1) := by decide +kernel
theorem dX3_loadVariables_0 : decode cX3_loadVariables 0 = .ok (.iload_n 1, 1) := by decide +kernel
theorem dX3_loadVariables_1 : decode cX3_loadVariables 1 = .ok (.istore 4, 2) := by decide +kernel
theorem dX3_loadVariables_3 : decode cX3_loadVariables 3 = .ok (.iconst 0, 1) := by decide +kernel
theorem dX3_loadVariables_4 : decode cX3_loadVariables 4 = .ok (.istore 5, 2) := by decide +kernel
theorem dX3_loadVariables_6 : decode cX3_loadVariables 6 = .ok (.iload 5, 2) := by decide +kernel
theorem dX3_loadVariables_8 : decode cX3_loadVariables 8 = .ok (.aload_n 0, 1) := by decide +kernel
theorem dX3_loadVariables_9 : decode cX3_loadVariables 9 = .ok (.getfield 37, 3) := by decide +kernel
theorem dX3_loadVariables_12 : decode cX3_loadVariables 12 = .ok (.getfield 134, 3) := by decide +kernel
theorem dX3_loadVariables_15 : decode cX3_loadVariables 15 = .ok (.aload_n 0, 1) := by decide +kernel
theorem dX3_loadVariables_16 : decode cX3_loadVariables 16 = .ok (.getfield 74, 3) := by decide +kernel
theorem dX3_loadVariables_19 : decode cX3_loadVariables 19 = .ok (.iaload, 1) := by decide +kernel
theorem dX3_loadVariables_20 : decode cX3_loadVariables 20 = .ok (.if_icmp .ge 45, 3) := by decide +kernel
theorem dX3_loadVariables_23 : decode cX3_loadVariables 23 = .ok (.lload_n 2, 1) := by decide +kernel
theorem dX3_loadVariables_24 : decode cX3_loadVariables 24 = .ok (.iload 5, 2) := by decide +kernel
theorem dX3_loadVariables_26 : decode cX3_loadVariables 26 = .ok (.lushr, 1) := by decide +kernel
theorem dX3_loadVariables_27 : decode cX3_loadVariables 27 = .ok (.lconst 1, 1) := by decide +kernel
theorem dX3_loadVariables_28 : decode cX3_loadVariables 28 = .ok (.land, 1) := by decide +kernel
theorem dX3_loadVariables_29 : decode cX3_loadVariables 29 = .ok (.lconst 0, 1) := by decide +kernel
theorem dX3_loadVariables_30 : decode cX3_loadVariables 30 = .ok (.lcmp, 1) := by decide +kernel
theorem dX3_loadVariables_31 : decode cX3_loadVariables 31 = .ok (.ifCond .eq 28, 3) := by decide +kernel
theorem dX3_loadVariables_34 : decode cX3_loadVariables 34 = .ok (.aload_n 0, 1) := by decide +kernel
theorem dX3_loadVariables_35 : decode cX3_loadVariables 35 = .ok (.getfield 30, 3) := by decide +kernel
theorem dX3_loadVariables_38 : decode cX3_loadVariables 38 = .ok (.aload_n 0, 1) := by decide +kernel
theorem dX3_loadVariables_39 : decode cX3_loadVariables 39 = .ok (.getfield 68, 3) := by decide +kernel
theorem dX3_loadVariables_42 : decode cX3_loadVariables 42 = .ok (.iload 5, 2) := by decide +kernel
theorem dX3_loadVariables_44 : decode cX3_loadVariables 44 = .ok (.iadd, 1) := by decide +kernel
theorem dX3_loadVariables_45 : decode cX3_loadVariables 45 = .ok (.aload_n 0, 1) := by decide +kernel
theorem dX3_loadVariables_46 : decode cX3_loadVariables 46 = .ok (.getfield 44, 3) := by decide +kernel
theorem dX3_loadVariables_49 : decode cX3_loadVariables 49 = .ok (.getfield 181, 3) := by decide +kernel
theorem dX3_loadVariables_52 : decode cX3_loadVariables 52 = .ok (.iload 4, 2) := by decide +kernel
theorem dX3_loadVariables_54 : decode cX3_loadVariables 54 = .ok (.laload, 1) := by decide +kernel
theorem dX3_loadVariables_55 : decode cX3_loadVariables 55 = .ok (.lastore, 1) := by decide +kernel
theorem dX3_loadVariables_56 : decode cX3_loadVariables 56 = .ok (.iinc 4 1, 3) := by decide +kernel
theorem dX3_loadVariables_59 : decode cX3_loadVariables 59 = .ok (.iinc 5 1, 3) := by decide +kernel
theorem dX3_loadVariables_62 : decode cX3_loadVariables 62 = .ok (.goto (-56), 3) := by decide +kernel
theorem dX3_loadVariables_65 : decode cX3_loadVariables 65 = .ok (.return_, 1) := by decide +kernel
theorem dX3_made_0 : decode cX3_made 0 = .ok (.iload_n 2, 1) := by decide +kernel
theorem dX3_made_1 : decode cX3_made 1 = .ok (.iconst (-1), 1) := by decide +kernel
theorem dX3_made_2 : decode cX3_made 2 = .ok (.if_icmp .ne 11, 3) := by decide +kernel
theorem dX3_made_5 : decode cX3_made 5 = .ok (.aload_n 0, 1) := by decide +kernel
theorem dX3_made_6 : decode cX3_made 6 = .ok (.iconst 3, 1) := by decide +kernel
theorem dX3_made_7 : decode cX3_made 7 = .ok (.iconst 2, 1) := by decide +kernel
theorem dX3_made_8 : decode cX3_made 8 = .ok (.invokevirtual 154, 3) := by decide +kernel
theorem dX3_made_11 : decode cX3_made 11 = .ok (.lconst 0, 1) := by decide +kernel
theorem dX3_made_12 : decode cX3_made 12 = .ok (.lreturn, 1) := by decide +kernel
theorem dX3_made_13 : decode cX3_made 13 = .ok (.iload_n 1, 1) := by decide +kernel
theorem dX3_made_14 : decode cX3_made 14 = .ok (.iload_n 2, 1) := by decide +kernel
theorem dX3_made_15 : decode cX3_made 15 = .ok (.invokestatic 103, 3) := by decide +kernel
theorem dX3_made_18 : decode cX3_made 18 = .ok (.lreturn, 1) := by decide +kernel
theorem dX3_operate_0 : decode cX3_operate 0 = .ok (.lload_n 2, 1) := by decide +kernel
theorem dX3_operate_1 : decode cX3_operate 1 = .ok (.invokestatic 170, 3) := by decide +kernel
theorem dX3_operate_4 : decode cX3_operate 4 = .ok (.iconst 1, 1) := by decide +kernel
theorem dX3_operate_5 : decode cX3_operate 5 = .ok (.if_icmp .ne 12, 3) := by decide +kernel
theorem dX3_operate_8 : decode cX3_operate 8 = .ok (.lload 4, 2) := by decide +kernel
theorem dX3_operate_10 : decode cX3_operate 10 = .ok (.invokestatic 170, 3) := by decide +kernel
theorem dX3_operate_13 : decode cX3_operate 13 = .ok (.iconst 1, 1) := by decide +kernel
theorem dX3_operate_14 : decode cX3_operate 14 = .ok (.if_icmp .eq 10, 3) := by decide +kernel
theorem dX3_operate_17 : decode cX3_operate 17 = .ok (.aload_n 0, 1) := by decide +kernel
theorem dX3_operate_18 : decode cX3_operate 18 = .ok (.iconst 2, 1) := by decide +kernel
theorem dX3_operate_19 : decode cX3_operate 19 = .ok (.iconst 4, 1) := by decide +kernel
theorem dX3_operate_20 : decode cX3_operate 20 = .ok (.invokevirtual 154, 3) := by decide +kernel
theorem dX3_operate_23 : decode cX3_operate 23 = .ok (.return_, 1) := by decide +kernel
theorem dX3_operate_24 : decode cX3_operate 24 = .ok (.lload_n 2, 1) := by decide +kernel
theorem dX3_operate_25 : decode cX3_operate 25 = .ok (.l2i, 1) := by decide +kernel
theorem dX3_operate_26 : decode cX3_operate 26 = .ok (.istore 6, 2) := by decide +kernel
theorem dX3_operate_28 : decode cX3_operate 28 = .ok (.lload 4, 2) := by decide +kernel
theorem dX3_operate_30 : decode cX3_operate 30 = .ok (.l2i, 1) := by decide +kernel
theorem dX3_operate_31 : decode cX3_operate 31 = .ok (.istore 7, 2) := by decide +kernel
theorem dX3_operate_33 : decode cX3_operate 33 = .ok (.iload_n 1, 1) := by decide +kernel
theorem dX3_operate_34 : decode cX3_operate 34 = .ok (.lookupswitch 151 #[(42, 82), (43, 58), (45, 70), (60, 94), (129, 113), (130, 132)], 58) := by decide +kernel
theorem dX3_operate_92 : decode cX3_operate 92 = .ok (.aload_n 0, 1) := by decide +kernel
theorem dX3_operate_93 : decode cX3_operate 93 = .ok (.iload 6, 2) := by decide +kernel
theorem dX3_operate_95 : decode cX3_operate 95 = .ok (.iload 7, 2) := by decide +kernel
theorem dX3_operate_97 : decode cX3_operate 97 = .ok (.iadd, 1) := by decide +kernel
theorem dX3_operate_98 : decode cX3_operate 98 = .ok (.invokevirtual 281, 3) := by decide +kernel
theorem dX3_operate_101 : decode cX3_operate 101 = .ok (.goto 93, 3) := by decide +kernel
theorem dX3_operate_104 : decode cX3_operate 104 = .ok (.aload_n 0, 1) := by decide +kernel
theorem dX3_operate_105 : decode cX3_operate 105 = .ok (.iload 6, 2) := by decide +kernel
theorem dX3_operate_107 : decode cX3_operate 107 = .ok (.iload 7, 2) := by decide +kernel
theorem dX3_operate_109 : decode cX3_operate 109 = .ok (.isub, 1) := by decide +kernel
theorem dX3_operate_110 : decode cX3_operate 110 = .ok (.invokevirtual 281, 3) := by decide +kernel
theorem dX3_operate_113 : decode cX3_operate 113 = .ok (.goto 81, 3) := by decide +kernel
theorem dX3_operate_116 : decode cX3_operate 116 = .ok (.aload_n 0, 1) := by decide +kernel
theorem dX3_operate_117 : decode cX3_operate 117 = .ok (.iload 6, 2) := by decide +kernel
theorem dX3_operate_119 : decode cX3_operate 119 = .ok (.iload 7, 2) := by decide +kernel
theorem dX3_operate_121 : decode cX3_operate 121 = .ok (.imul, 1) := by decide +kernel
theorem dX3_operate_122 : decode cX3_operate 122 = .ok (.invokevirtual 281, 3) := by decide +kernel
theorem dX3_operate_125 : decode cX3_operate 125 = .ok (.goto 69, 3) := by decide +kernel
theorem dX3_operate_128 : decode cX3_operate 128 = .ok (.aload_n 0, 1) := by decide +kernel
theorem dX3_operate_129 : decode cX3_operate 129 = .ok (.iload 6, 2) := by decide +kernel
theorem dX3_operate_131 : decode cX3_operate 131 = .ok (.iload 7, 2) := by decide +kernel
theorem dX3_operate_133 : decode cX3_operate 133 = .ok (.if_icmp .ge 7, 3) := by decide +kernel
theorem dX3_operate_136 : decode cX3_operate 136 = .ok (.iconst 1, 1) := by decide +kernel
theorem dX3_operate_137 : decode cX3_operate 137 = .ok (.goto 4, 3) := by decide +kernel
theorem dX3_operate_140 : decode cX3_operate 140 = .ok (.iconst 0, 1) := by decide +kernel
theorem dX3_operate_141 : decode cX3_operate 141 = .ok (.invokevirtual 284, 3) := by decide +kernel
theorem dX3_operate_144 : decode cX3_operate 144 = .ok (.goto 50, 3) := by decide +kernel
theorem dX3_operate_147 : decode cX3_operate 147 = .ok (.aload_n 0, 1) := by decide +kernel
theorem dX3_operate_148 : decode cX3_operate 148 = .ok (.iload 6, 2) := by decide +kernel
theorem dX3_operate_150 : decode cX3_operate 150 = .ok (.iload 7, 2) := by decide +kernel
theorem dX3_operate_152 : decode cX3_operate 152 = .ok (.if_icmp .ne 7, 3) := by decide +kernel
theorem dX3_operate_155 : decode cX3_operate 155 = .ok (.iconst 1, 1) := by decide +kernel
theorem dX3_operate_156 : decode cX3_operate 156 = .ok (.goto 4, 3) := by decide +kernel
theorem dX3_operate_159 : decode cX3_operate 159 = .ok (.iconst 0, 1) := by decide +kernel
theorem dX3_operate_160 : decode cX3_operate 160 = .ok (.invokevirtual 284, 3) := by decide +kernel
theorem dX3_operate_163 : decode cX3_operate 163 = .ok (.goto 31, 3) := by decide +kernel
theorem dX3_operate_166 : decode cX3_operate 166 = .ok (.aload_n 0, 1) := by decide +kernel
theorem dX3_operate_167 : decode cX3_operate 167 = .ok (.iload 6, 2) := by decide +kernel
theorem dX3_operate_169 : decode cX3_operate 169 = .ok (.iload 7, 2) := by decide +kernel
theorem dX3_operate_171 : decode cX3_operate 171 = .ok (.if_icmp .gt 7, 3) := by decide +kernel
theorem dX3_operate_174 : decode cX3_operate 174 = .ok (.iconst 1, 1) := by decide +kernel
theorem dX3_operate_175 : decode cX3_operate 175 = .ok (.goto 4, 3) := by decide +kernel
theorem dX3_operate_178 : decode cX3_operate 178 = .ok (.iconst 0, 1) := by decide +kernel
theorem dX3_operate_179 : decode cX3_operate 179 = .ok (.invokevirtual 284, 3) := by decide +kernel
theorem dX3_operate_182 : decode cX3_operate 182 = .ok (.goto 12, 3) := by decide +kernel
theorem dX3_operate_185 : decode cX3_operate 185 = .ok (.aload_n 0, 1) := by decide +kernel
theorem dX3_operate_186 : decode cX3_operate 186 = .ok (.iload_n 1, 1) := by decide +kernel
theorem dX3_operate_187 : decode cX3_operate 187 = .ok (.iload 6, 2) := by decide +kernel
theorem dX3_operate_189 : decode cX3_operate 189 = .ok (.iload 7, 2) := by decide +kernel
theorem dX3_operate_191 : decode cX3_operate 191 = .ok (.invokevirtual 288, 3) := by decide +kernel
theorem dX3_operate_194 : decode cX3_operate 194 = .ok (.return_, 1) := by decide +kernel
theorem dX3_pop_0 : decode cX3_pop 0 = .ok (.aload_n 0, 1) := by decide +kernel
theorem dX3_pop_1 : decode cX3_pop 1 = .ok (.getfield 65, 3) := by decide +kernel
theorem dX3_pop_4 : decode cX3_pop 4 = .ok (.ifCond .gt 5, 3) := by decide +kernel
theorem dX3_pop_7 : decode cX3_pop 7 = .ok (.lconst 0, 1) := by decide +kernel
theorem dX3_pop_8 : decode cX3_pop 8 = .ok (.lreturn, 1) := by decide +kernel
theorem dX3_pop_9 : decode cX3_pop 9 = .ok (.aload_n 0, 1) := by decide +kernel
theorem dX3_pop_10 : decode cX3_pop 10 = .ok (.dup, 1) := by decide +kernel
theorem dX3_pop_11 : decode cX3_pop 11 = .ok (.getfield 65, 3) := by decide +kernel
theorem dX3_pop_14 : decode cX3_pop 14 = .ok (.iconst 1, 1) := by decide +kernel
theorem dX3_pop_15 : decode cX3_pop 15 = .ok (.isub, 1) := by decide +kernel
theorem dX3_pop_16 : decode cX3_pop 16 = .ok (.putfield 65, 3) := by decide +kernel
theorem dX3_pop_19 : decode cX3_pop 19 = .ok (.aload_n 0, 1) := by decide +kernel
theorem dX3_pop_20 : decode cX3_pop 20 = .ok (.getfield 26, 3) := by decide +kernel
theorem dX3_pop_23 : decode cX3_pop 23 = .ok (.aload_n 0, 1) := by decide +kernel
theorem dX3_pop_24 : decode cX3_pop 24 = .ok (.getfield 65, 3) := by decide +kernel
theorem dX3_pop_27 : decode cX3_pop 27 = .ok (.laload, 1) := by decide +kernel
theorem dX3_pop_28 : decode cX3_pop 28 = .ok (.lreturn, 1) := by decide +kernel
theorem dX3_storeVariables_0 : decode cX3_storeVariables 0 = .ok (.iload_n 1, 1) := by decide +kernel
theorem dX3_storeVariables_1 : decode cX3_storeVariables 1 = .ok (.istore 4, 2) := by decide +kernel
theorem dX3_storeVariables_3 : decode cX3_storeVariables 3 = .ok (.iconst 0, 1) := by decide +kernel
theorem dX3_storeVariables_4 : decode cX3_storeVariables 4 = .ok (.istore 5, 2) := by decide +kernel
theorem dX3_storeVariables_6 : decode cX3_storeVariables 6 = .ok (.iload 5, 2) := by decide +kernel
theorem dX3_storeVariables_8 : decode cX3_storeVariables 8 = .ok (.aload_n 0, 1) := by decide +kernel
theorem dX3_storeVariables_9 : decode cX3_storeVariables 9 = .ok (.getfield 37, 3) := by decide +kernel
theorem dX3_storeVariables_12 : decode cX3_storeVariables 12 = .ok (.getfield 134, 3) := by decide +kernel
theorem dX3_storeVariables_15 : decode cX3_storeVariables 15 = .ok (.aload_n 0, 1) := by decide +kernel
theorem dX3_storeVariables_16 : decode cX3_storeVariables 16 = .ok (.getfield 74, 3) := by decide +kernel
theorem dX3_storeVariables_19 : decode cX3_storeVariables 19 = .ok (.iaload, 1) := by decide +kernel
theorem dX3_storeVariables_20 : decode cX3_storeVariables 20 = .ok (.if_icmp .ge 45, 3) := by decide +kernel
theorem dX3_storeVariables_23 : decode cX3_storeVariables 23 = .ok (.lload_n 2, 1) := by decide +kernel
theorem dX3_storeVariables_24 : decode cX3_storeVariables 24 = .ok (.iload 5, 2) := by decide +kernel
theorem dX3_storeVariables_26 : decode cX3_storeVariables 26 = .ok (.lushr, 1) := by decide +kernel
theorem dX3_storeVariables_27 : decode cX3_storeVariables 27 = .ok (.lconst 1, 1) := by decide +kernel
theorem dX3_storeVariables_28 : decode cX3_storeVariables 28 = .ok (.land, 1) := by decide +kernel
theorem dX3_storeVariables_29 : decode cX3_storeVariables 29 = .ok (.lconst 0, 1) := by decide +kernel
theorem dX3_storeVariables_30 : decode cX3_storeVariables 30 = .ok (.lcmp, 1) := by decide +kernel
theorem dX3_storeVariables_31 : decode cX3_storeVariables 31 = .ok (.ifCond .eq 28, 3) := by decide +kernel
theorem dX3_storeVariables_34 : decode cX3_storeVariables 34 = .ok (.aload_n 0, 1) := by decide +kernel
theorem dX3_storeVariables_35 : decode cX3_storeVariables 35 = .ok (.getfield 44, 3) := by decide +kernel
theorem dX3_storeVariables_38 : decode cX3_storeVariables 38 = .ok (.getfield 181, 3) := by decide +kernel
theorem dX3_storeVariables_41 : decode cX3_storeVariables 41 = .ok (.iload 4, 2) := by decide +kernel
theorem dX3_storeVariables_43 : decode cX3_storeVariables 43 = .ok (.aload_n 0, 1) := by decide +kernel
theorem dX3_storeVariables_44 : decode cX3_storeVariables 44 = .ok (.getfield 30, 3) := by decide +kernel
theorem dX3_storeVariables_47 : decode cX3_storeVariables 47 = .ok (.aload_n 0, 1) := by decide +kernel
theorem dX3_storeVariables_48 : decode cX3_storeVariables 48 = .ok (.getfield 68, 3) := by decide +kernel
theorem dX3_storeVariables_51 : decode cX3_storeVariables 51 = .ok (.iload 5, 2) := by decide +kernel
theorem dX3_storeVariables_53 : decode cX3_storeVariables 53 = .ok (.iadd, 1) := by decide +kernel
theorem dX3_storeVariables_54 : decode cX3_storeVariables 54 = .ok (.laload, 1) := by decide +kernel
theorem dX3_storeVariables_55 : decode cX3_storeVariables 55 = .ok (.lastore, 1) := by decide +kernel
theorem dX3_storeVariables_56 : decode cX3_storeVariables 56 = .ok (.iinc 4 1, 3) := by decide +kernel
theorem dX3_storeVariables_59 : decode cX3_storeVariables 59 = .ok (.iinc 5 1, 3) := by decide +kernel
theorem dX3_storeVariables_62 : decode cX3_storeVariables 62 = .ok (.goto (-56), 3) := by decide +kernel
theorem dX3_storeVariables_65 : decode cX3_storeVariables 65 = .ok (.return_, 1) := by decide +kernel
theorem dX3_workOn_0 : decode cX3_workOn 0 = .ok (.aload_n 0, 1) := by decide +kernel
theorem dX3_workOn_1 : decode cX3_workOn 1 = .ok (.iload_n 1, 1) := by decide +kernel
theorem dX3_workOn_2 : decode cX3_workOn 2 = .ok (.putfield 127, 3) := by decide +kernel
theorem dX3_workOn_5 : decode cX3_workOn 5 = .ok (.aload_n 0, 1) := by decide +kernel
theorem dX3_workOn_6 : decode cX3_workOn 6 = .ok (.iconst 1, 1) := by decide +kernel
theorem dX3_workOn_7 : decode cX3_workOn 7 = .ok (.putfield 111, 3) := by decide +kernel
theorem dX3_workOn_10 : decode cX3_workOn 10 = .ok (.return_, 1) := by decide +kernel
theorem cw_J13_bitCount_95d88 : CWS yJ13_bitCount_95d88 cJ13_bitCount_95d88 2 (some .int) RJ13 1 := ⟨mG_1914, mG_1913, mG_247, by decide +kernel⟩
theorem cw_J7_fill_53178 : CWS yJ7_fill_53178 cJ7_fill_53178 4 none RJ7 2 := ⟨mG_891, mG_890, mG_232, by decide +kernel⟩
theorem cw_X0_makeObject : CWV yX0_makeObject cX0_makeObject 4 (some .int) RX0 2 := ⟨mG_1899, mG_1897, mG_1898, mG_225, by decide +kernel⟩
theorem cw_X0_makePart : CWV yX0_makePart cX0_makePart 4 (some .int) RX0 2 := ⟨mG_1911, mG_1909, mG_1910, mG_225, by decide +kernel⟩
theorem cw_X0_makeSuspension : CWV yX0_makeSuspension cX0_makeSuspension 5 (some .int) RX0 3 := ⟨mG_1805, mG_1803, mG_1804, mG_225, by decide +kernel⟩
theorem cw_X0_tag : CWS yX0_tag cX0_tag 2 (some .int) RX0 1 := ⟨mG_1836, mG_1835, mG_225, by decide +kernel⟩
theorem cw_X0_value : CWS yX0_value cX0_value 2 (some .long) RX0 2 := ⟨mG_1828, mG_1827, mG_225, by decide +kernel⟩
theorem cw_X3_begin : CWV yX3_begin cX3_begin 4 (some .long) RX3 2 := ⟨mG_1895, mG_1894, mG_81, mG_224, by decide +kernel⟩
theorem cw_X3_divide : CWV yX3_divide cX3_divide 4 none RX3 3 := ⟨mG_1975, mG_1974, mG_97, mG_224, by decide +kernel⟩
theorem cw_X3_endWith : CWV yX3_endWith cX3_endWith 3 none RX3 2 := ⟨mG_1849, mG_1848, mG_74, mG_224, by decide +kernel⟩
theorem cw_X3_fill : CWV yX3_fill cX3_fill 7 none RX3 3 := ⟨mG_1921, mG_1920, mG_84, mG_224, by decide +kernel⟩
theorem cw_X3_fits : CWV yX3_fits cX3_fits 6 (some .boolean) RX3 1 := ⟨mG_1983, mG_1982, mG_99, mG_224, by decide +kernel⟩
theorem cw_X3_give : CWV yX3_give cX3_give 3 none RX3 1 := ⟨mG_1840, mG_1839, mG_73, mG_224, by decide +kernel⟩
theorem cw_X3_giveInt : CWV yX3_giveInt cX3_giveInt 2 none RX3 1 := ⟨mG_1967, mG_1966, mG_95, mG_224, by decide +kernel⟩
theorem cw_X3_giveTruth : CWV yX3_giveTruth cX3_giveTruth 2 none RX3 1 := ⟨mG_1971, mG_1970, mG_96, mG_224, by decide +kernel⟩
theorem cw_X3_isOver : CWV yX3_isOver cX3_isOver 1 (some .boolean) RX3 0 := ⟨mG_1925, mG_1924, mG_85, mG_224, by decide +kernel⟩
theorem cw_X3_isPartOfCall : CWV yX3_isPartOfCall cX3_isPartOfCall 3 (some .boolean) RX3 1 := ⟨mG_1907, mG_1906, mG_83, mG_224, by decide +kernel⟩
theorem cw_X3_keep : CWV yX3_keep cX3_keep 4 (some .long) RX3 1 := ⟨mG_1891, mG_1890, mG_80, mG_224, by decide +kernel⟩
theorem cw_X3_keepRow : CWV yX3_keepRow cX3_keepRow 5 none RX3 2 := ⟨mG_1929, mG_1928, mG_86, mG_224, by decide +kernel⟩
theorem cw_X3_made : CWV yX3_made cX3_made 3 (some .long) RX3 2 := ⟨mG_1903, mG_1902, mG_82, mG_224, by decide +kernel⟩
theorem cw_X3_storeVariables : CWV yX3_storeVariables cX3_storeVariables 6 none RX3 2 := ⟨mG_1933, mG_1932, mG_87, mG_224, by decide +kernel⟩
theorem cw_X3_workOn : CWV yX3_workOn cX3_workOn 2 none RX3 1 := ⟨mG_1882, mG_1881, mG_78, mG_224, by decide +kernel⟩
section MX3_frame
variable {p : Program} {l : Launch} {e : Env} {R : Room} {s : State} {m : MethodId} {args : Array Value} {below : List Frame} {meth : Method} {c : Code} {dC : Nat → ClassId} {dI : Nat → Nat → Nat} {Z : ZZ} {A : Nat → Prop} {ad : Nat → Nat} {kc : Nat → ClassId} {sa va : Nat} {r : Int64} {τ : S5}
set_option maxHeartbeats 4000000 in
set_option maxRecDepth 100000 in
theorem w_X3_frame {σ : S5} {a0 : Int32} {a1 : Int32} {a2 : Int32} {H : Heap} {locs : List Loc} {ls : Array Slot} (S : CallFix p m c cX3_frame 3 s args uG RX3) (hr : meth.sig.returnType = (some .long)) (hk : meth.locks = false) (hR : 0 ≤ R.frames ∧ 0 ≤ R.locals)
    (X : gX (dC, dI) (tK kc) (wK ad kc sa va) Z A s σ H locs) (hl : lv_has ls 3 [(0, .int a0), (1, .int a1), (2, .int a2)]) (hg : f_X3_frame a0 a1 a2 σ = some (r, τ)) : W p l e R s m args below meth c H locs 0 0 (MQ below (gQl (dC, dI) (tK kc) (wK ad kc sa va) A r τ) args s 0 0 A) (F0 m 0 ls []) := by
  have hx := S.1
  have hb := S.2.1
  have hown := S.2.2.2.1
  have hu := S.2.2.2.2
  unfold f_X3_frame at hg
  refine lv_iload_n hx hb dX3_frame_0 rfl (lv_at hl 0 rfl) ?_
  refine lv_i2l (v := ((a0).toInt64)) hx hb dX3_frame_1 rfl ?_
  refine lv_bipush (v := 56) hx hb dX3_frame_2 (by decide) ?_
  refine lv_lshl (v := (j_lshl ((a0).toInt64) 56)) hx hb dX3_frame_4 rfl ?_
  refine lv_iload_n hx hb dX3_frame_5 rfl (lv_at hl 1 rfl) ?_
  refine lv_i2l (v := ((a1).toInt64)) hx hb dX3_frame_6 rfl ?_
  refine lv_bipush (v := 28) hx hb dX3_frame_7 (by decide) ?_
  refine lv_lshl (v := (j_lshl ((a1).toInt64) 28)) hx hb dX3_frame_9 rfl ?_
  refine lv_lor hx hb dX3_frame_10 ?_
  refine lv_iload_n hx hb dX3_frame_11 rfl (lv_at hl 2 rfl) ?_
  refine lv_i2l (v := ((a2).toInt64)) hx hb dX3_frame_12 rfl ?_
  refine lv_lor hx hb dX3_frame_13 ?_
  obtain ⟨rfl, rfl⟩ := fin_some hg
  exact gr_l S hr hk X dX3_frame_14
end MX3_frame
set_option maxRecDepth 100000 in
theorem k2_X3_frame (l : Launch) (dC : Nat → ClassId) (dI : Nat → Nat → Nat) {Z : ZZ} (ad : Nat → Nat) (kc : Nat → ClassId) (sa va : Nat) {σ τ : S5} {a0 : Int32} {a1 : Int32} {a2 : Int32} {r : Int64} (hg : f_X3_frame a0 a1 a2 σ = some (r, τ)) (sz : Nat) : Met l yX3_frame (Cond.code yX3_frame cX3_frame 3 (some .long) :: uG) { frames := 0, cells := 0, slots := 0, locals := 0 } (gPc (dC, dI) (tK kc) (wK ad kc sa va) Z [.int a0, .int a1, .int a2] σ sz) (gQl (dC, dI) (tK kc) (wK ad kc sa va) (va_A (wK ad kc sa va σ) sz) r τ) 0 0 (va_A (wK ad kc sa va σ) sz) :=
  g_start (by decide) (Nat.le_of_ble_eq_true rfl) (fun p e s m below meth c ls S hr hk X hl => w_X3_frame S hr hk ⟨Nat.le_refl _, Nat.le_refl _⟩ X hl hg)
section MX3_forget
variable {p : Program} {l : Launch} {e : Env} {R : Room} {s : State} {m : MethodId} {args : Array Value} {below : List Frame} {meth : Method} {c : Code} {dC : Nat → ClassId} {dI : Nat → Nat → Nat} {Z : ZZ} {A : Nat → Prop} {ad : Nat → Nat} {kc : Nat → ClassId} {sa va : Nat} {r : Unit} {τ : S5}
set_option maxHeartbeats 4000000 in
set_option maxRecDepth 100000 in
theorem w_X3_forget {σ : S5}  {H : Heap} {locs : List Loc} {ls : Array Slot} (S : CallFix p m c cX3_forget 1 s args uG RX3) (hr : meth.sig.returnType = none) (hk : meth.locks = false) (hR : 1 ≤ R.frames ∧ 23 ≤ R.locals)
    (X : gX (dC, dI) (tK kc) (wK ad kc sa va) Z A s σ H locs) (hl : lv_has ls 1 [(0, .ref (ad 0))]) (hg : f_X3_forget  σ = some (r, τ)) : W p l e R s m args below meth c H locs 0 0 (MQ below (gQv (dC, dI) (tK kc) (wK ad kc sa va) A r τ) args s 0 0 A) (F0 m 0 ls []) := by
  have hx := S.1
  have hb := S.2.1
  have hown := S.2.2.2.1
  have hu := S.2.2.2.2
  unfold f_X3_forget at hg
  refine lv_aload_n hx hb dX3_forget_0 rfl (lv_at hl 0 rfl) ?_
  refine wkgR_0_2 S X mG_662 dX3_forget_1 ?_
  refine lv_iconst (v := 0) hx hb dX3_forget_4 (by decide) ?_
  obtain ⟨r5, τ5, hq5, hg⟩ := bd_some hg
  refine gc_Tv (As := [.ref (ad 4), .int 0]) (rest := []) S X (k2_J7_fill_53178_mach_counts l dC dI ad kc sa va hq5 H.size) cw_J7_fill_53178 mG_889 rfl rfl hl.1 (Nat.le_of_ble_eq_true rfl) dX3_forget_5 ⟨by omega, by omega⟩ (fun H locs X => ?_)
  refine lv_aload_n hx hb dX3_forget_8 rfl (lv_at hl 0 rfl) ?_
  refine wkgR_0_3 S X mG_664 dX3_forget_9 ?_
  refine lv_iconst (v := 0) hx hb dX3_forget_12 (by decide) ?_
  obtain ⟨r13, τ13, hq13, hg⟩ := bd_some hg
  refine gc_Tv (As := [.ref (ad 5), .int 0]) (rest := []) S X (k2_J7_fill_53178_mach_timesCalled l dC dI ad kc sa va hq13 H.size) cw_J7_fill_53178 mG_889 rfl rfl hl.1 (Nat.le_of_ble_eq_true rfl) dX3_forget_13 ⟨by omega, by omega⟩ (fun H locs X => ?_)
  obtain ⟨-, rfl⟩ := fin_some hg
  exact gr_v S hr hk X dX3_forget_16
end MX3_forget
set_option maxRecDepth 100000 in
theorem k2_X3_forget (l : Launch) (dC : Nat → ClassId) (dI : Nat → Nat → Nat) {Z : ZZ} (ad : Nat → Nat) (kc : Nat → ClassId) (sa va : Nat) {σ τ : S5}  {r : Unit} (hg : f_X3_forget  σ = some (r, τ)) (sz : Nat) : Met l yX3_forget (Cond.code yX3_forget cX3_forget 1 none :: uG) { frames := 1, cells := 0, slots := 0, locals := 23 } (gPc (dC, dI) (tK kc) (wK ad kc sa va) Z [.ref (ad 0)] σ sz) (gQv (dC, dI) (tK kc) (wK ad kc sa va) (va_A (wK ad kc sa va σ) sz) r τ) 0 0 (va_A (wK ad kc sa va σ) sz) :=
  g_start (by decide) (Nat.le_of_ble_eq_true rfl) (fun p e s m below meth c ls S hr hk X hl => w_X3_forget S hr hk ⟨Nat.le_refl _, Nat.le_refl _⟩ X hl hg)
section MX3_endWith
variable {p : Program} {l : Launch} {e : Env} {R : Room} {s : State} {m : MethodId} {args : Array Value} {below : List Frame} {meth : Method} {c : Code} {dC : Nat → ClassId} {dI : Nat → Nat → Nat} {Z : ZZ} {A : Nat → Prop} {ad : Nat → Nat} {kc : Nat → ClassId} {sa va : Nat} {r : Unit} {τ : S5}
set_option maxHeartbeats 4000000 in
set_option maxRecDepth 100000 in
theorem w_X3_endWith {σ : S5} {a1 : Int32} {a2 : Int32} {H : Heap} {locs : List Loc} {ls : Array Slot} (S : CallFix p m c cX3_endWith 3 s args uG RX3) (hr : meth.sig.returnType = none) (hk : meth.locks = false) (hR : 0 ≤ R.frames ∧ 0 ≤ R.locals)
    (X : gX (dC, dI) (tK kc) (wK ad kc sa va) Z A s σ H locs) (hl : lv_has ls 3 [(0, .ref (ad 0)), (1, .int a1), (2, .int a2)]) (hg : f_X3_endWith a1 a2 σ = some (r, τ)) : W p l e R s m args below meth c H locs 0 0 (MQ below (gQv (dC, dI) (tK kc) (wK ad kc sa va) A r τ) args s 0 0 A) (F0 m 0 ls []) := by
  have hx := S.1
  have hb := S.2.1
  have hown := S.2.2.2.1
  have hu := S.2.2.2.2
  unfold f_X3_endWith at hg
  refine lv_aload_n hx hb dX3_endWith_0 rfl (lv_at hl 0 rfl) ?_
  refine wkgR_0_2 S X mG_662 dX3_endWith_1 ?_
  refine lv_iconst (v := 0) hx hb dX3_endWith_4 (by decide) ?_
  refine wklA_40 (v := (xA σ 40 0)) S X (vp_in_iff.mpr (by decide)) rfl dX3_endWith_5 ?_
  refine lv_if_ne (tgt := 23) hx hb dX3_endWith_6 (by decide) (fun c6 => ?_) (fun c6 => ?_)
  · have hg := (if_neg c6).symm.trans hg
    obtain ⟨-, rfl⟩ := fin_some hg
    exact gr_v S hr hk X dX3_endWith_23
  · have hg := (if_pos c6).symm.trans hg
    refine lv_aload_n hx hb dX3_endWith_9 rfl (lv_at hl 0 rfl) ?_
    refine wkgR_0_2 S X mG_662 dX3_endWith_10 ?_
    refine lv_iconst (v := 0) hx hb dX3_endWith_13 (by decide) ?_
    refine lv_iload_n hx hb dX3_endWith_14 rfl (lv_at hl 1 rfl) ?_
    refine wksA_40 S X (vp_in_iff.mpr (by decide)) dX3_endWith_15 (fun H locs X => ?_)
    refine lv_aload_n hx hb dX3_endWith_16 rfl (lv_at hl 0 rfl) ?_
    refine wkgR_0_2 S X mG_662 dX3_endWith_17 ?_
    refine lv_iconst (v := 1) hx hb dX3_endWith_20 (by decide) ?_
    refine lv_iload_n hx hb dX3_endWith_21 rfl (lv_at hl 2 rfl) ?_
    refine wksA_40 S X (vp_in_iff.mpr (by decide)) dX3_endWith_22 (fun H locs X => ?_)
    obtain ⟨-, rfl⟩ := fin_some hg
    exact gr_v S hr hk X dX3_endWith_23
end MX3_endWith
set_option maxRecDepth 100000 in
theorem k2_X3_endWith (l : Launch) (dC : Nat → ClassId) (dI : Nat → Nat → Nat) {Z : ZZ} (ad : Nat → Nat) (kc : Nat → ClassId) (sa va : Nat) {σ τ : S5} {a1 : Int32} {a2 : Int32} {r : Unit} (hg : f_X3_endWith a1 a2 σ = some (r, τ)) (sz : Nat) : Met l yX3_endWith (Cond.code yX3_endWith cX3_endWith 3 none :: uG) { frames := 0, cells := 0, slots := 0, locals := 0 } (gPc (dC, dI) (tK kc) (wK ad kc sa va) Z [.ref (ad 0), .int a1, .int a2] σ sz) (gQv (dC, dI) (tK kc) (wK ad kc sa va) (va_A (wK ad kc sa va σ) sz) r τ) 0 0 (va_A (wK ad kc sa va σ) sz) :=
  g_start (by decide) (Nat.le_of_ble_eq_true rfl) (fun p e s m below meth c ls S hr hk X hl => w_X3_endWith S hr hk ⟨Nat.le_refl _, Nat.le_refl _⟩ X hl hg)
section MX3_isOver
variable {p : Program} {l : Launch} {e : Env} {R : Room} {s : State} {m : MethodId} {args : Array Value} {below : List Frame} {meth : Method} {c : Code} {dC : Nat → ClassId} {dI : Nat → Nat → Nat} {Z : ZZ} {A : Nat → Prop} {ad : Nat → Nat} {kc : Nat → ClassId} {sa va : Nat} {r : Int32} {τ : S5}
set_option maxHeartbeats 4000000 in
set_option maxRecDepth 100000 in
theorem w_X3_isOver {σ : S5}  {H : Heap} {locs : List Loc} {ls : Array Slot} (S : CallFix p m c cX3_isOver 1 s args uG RX3) (hr : meth.sig.returnType = (some .boolean)) (hk : meth.locks = false) (hR : 0 ≤ R.frames ∧ 0 ≤ R.locals)
    (X : gX (dC, dI) (tK kc) (wK ad kc sa va) Z A s σ H locs) (hl : lv_has ls 1 [(0, .ref (ad 0))]) (hg : f_X3_isOver  σ = some (r, τ)) : W p l e R s m args below meth c H locs 0 0 (MQ below (gQi (dC, dI) (tK kc) (wK ad kc sa va) A r τ) args s 0 0 A) (F0 m 0 ls []) := by
  have hx := S.1
  have hb := S.2.1
  have hown := S.2.2.2.1
  have hu := S.2.2.2.2
  unfold f_X3_isOver at hg
  refine lv_aload_n hx hb dX3_isOver_0 rfl (lv_at hl 0 rfl) ?_
  refine wkgR_0_2 S X mG_662 dX3_isOver_1 ?_
  refine lv_iconst (v := 0) hx hb dX3_isOver_4 (by decide) ?_
  refine wklA_40 (v := (xA σ 40 0)) S X (vp_in_iff.mpr (by decide)) rfl dX3_isOver_5 ?_
  refine lv_if_eq (tgt := 13) hx hb dX3_isOver_6 (by decide) (fun c6 => ?_) (fun c6 => ?_)
  · have hg := (if_pos c6).symm.trans hg
    refine lv_iconst (v := 0) hx hb dX3_isOver_13 (by decide) ?_
    obtain ⟨rfl, rfl⟩ := fin_some hg
    exact gr_z S hr hk X (Or.inl rfl) dX3_isOver_14
  · have hg := (if_neg c6).symm.trans hg
    refine lv_iconst (v := 1) hx hb dX3_isOver_9 (by decide) ?_
    refine lv_goto (tgt := 14) hx hb dX3_isOver_10 (by decide) ?_
    obtain ⟨rfl, rfl⟩ := fin_some hg
    exact gr_z S hr hk X (Or.inr rfl) dX3_isOver_14
end MX3_isOver
set_option maxRecDepth 100000 in
theorem k2_X3_isOver (l : Launch) (dC : Nat → ClassId) (dI : Nat → Nat → Nat) {Z : ZZ} (ad : Nat → Nat) (kc : Nat → ClassId) (sa va : Nat) {σ τ : S5}  {r : Int32} (hg : f_X3_isOver  σ = some (r, τ)) (sz : Nat) : Met l yX3_isOver (Cond.code yX3_isOver cX3_isOver 1 (some .boolean) :: uG) { frames := 0, cells := 0, slots := 0, locals := 0 } (gPc (dC, dI) (tK kc) (wK ad kc sa va) Z [.ref (ad 0)] σ sz) (gQi (dC, dI) (tK kc) (wK ad kc sa va) (va_A (wK ad kc sa va σ) sz) r τ) 0 0 (va_A (wK ad kc sa va σ) sz) :=
  g_start (by decide) (Nat.le_of_ble_eq_true rfl) (fun p e s m below meth c ls S hr hk X hl => w_X3_isOver S hr hk ⟨Nat.le_refl _, Nat.le_refl _⟩ X hl hg)
section MX3_pop
variable {p : Program} {l : Launch} {e : Env} {R : Room} {s : State} {m : MethodId} {args : Array Value} {below : List Frame} {meth : Method} {c : Code} {dC : Nat → ClassId} {dI : Nat → Nat → Nat} {Z : ZZ} {A : Nat → Prop} {ad : Nat → Nat} {kc : Nat → ClassId} {sa va : Nat} {r : Int64} {τ : S5}
set_option maxHeartbeats 4000000 in
set_option maxRecDepth 100000 in
theorem w_X3_pop {σ : S5}  {H : Heap} {locs : List Loc} {ls : Array Slot} (S : CallFix p m c cX3_pop 1 s args uG RX3) (hr : meth.sig.returnType = (some .long)) (hk : meth.locks = false) (hR : 0 ≤ R.frames ∧ 0 ≤ R.locals)
    (X : gX (dC, dI) (tK kc) (wK ad kc sa va) Z A s σ H locs) (hl : lv_has ls 1 [(0, .ref (ad 0))]) (hg : f_X3_pop  σ = some (r, τ)) : W p l e R s m args below meth c H locs 0 0 (MQ below (gQl (dC, dI) (tK kc) (wK ad kc sa va) A r τ) args s 0 0 A) (F0 m 0 ls []) := by
  have hx := S.1
  have hb := S.2.1
  have hown := S.2.2.2.1
  have hu := S.2.2.2.2
  unfold f_X3_pop at hg
  refine lv_aload_n hx hb dX3_pop_0 rfl (lv_at hl 0 rfl) ?_
  refine wkgI_40 (v := (gI σ 40)) S X mG_671 rfl dX3_pop_1 ?_
  refine lv_if_gt (tgt := 9) hx hb dX3_pop_4 (by decide) (fun c4 => ?_) (fun c4 => ?_)
  · have hg := (if_pos c4).symm.trans hg
    refine lv_aload_n hx hb dX3_pop_9 rfl (lv_at hl 0 rfl) ?_
    refine lv_dup hx hb dX3_pop_10 rfl ?_
    refine wkgI_40 (v := (gI σ 40)) S X mG_671 rfl dX3_pop_11 ?_
    refine lv_iconst (v := 1) hx hb dX3_pop_14 (by decide) ?_
    refine lv_isub hx hb dX3_pop_15 ?_
    refine wkpI_40 S X mG_671 dX3_pop_16 (fun H locs X => ?_)
    refine lv_aload_n hx hb dX3_pop_19 rfl (lv_at hl 0 rfl) ?_
    refine wkgR_0_7 S X mG_670 dX3_pop_20 ?_
    refine lv_aload_n hx hb dX3_pop_23 rfl (lv_at hl 0 rfl) ?_
    refine wkgI_40 (v := ((gI σ 40) - 1)) S X mG_671 rfl dX3_pop_24 ?_
    obtain ⟨hi27, hg⟩ := gd_some hg
    refine wklB_12 (v := (xB σ 12 ((gI σ 40) - 1))) S X hi27 rfl dX3_pop_27 ?_
    obtain ⟨rfl, rfl⟩ := fin_some hg
    exact gr_l S hr hk X dX3_pop_28
  · have hg := (if_neg c4).symm.trans hg
    refine lv_lconst (v := 0) hx hb dX3_pop_7 rfl ?_
    obtain ⟨rfl, rfl⟩ := fin_some hg
    exact gr_l S hr hk X dX3_pop_8
end MX3_pop
set_option maxRecDepth 100000 in
theorem k2_X3_pop (l : Launch) (dC : Nat → ClassId) (dI : Nat → Nat → Nat) {Z : ZZ} (ad : Nat → Nat) (kc : Nat → ClassId) (sa va : Nat) {σ τ : S5}  {r : Int64} (hg : f_X3_pop  σ = some (r, τ)) (sz : Nat) : Met l yX3_pop (Cond.code yX3_pop cX3_pop 1 (some .long) :: uG) { frames := 0, cells := 0, slots := 0, locals := 0 } (gPc (dC, dI) (tK kc) (wK ad kc sa va) Z [.ref (ad 0)] σ sz) (gQl (dC, dI) (tK kc) (wK ad kc sa va) (va_A (wK ad kc sa va σ) sz) r τ) 0 0 (va_A (wK ad kc sa va σ) sz) :=
  g_start (by decide) (Nat.le_of_ble_eq_true rfl) (fun p e s m below meth c ls S hr hk X hl => w_X3_pop S hr hk ⟨Nat.le_refl _, Nat.le_refl _⟩ X hl hg)
section MX3_give
variable {p : Program} {l : Launch} {e : Env} {R : Room} {s : State} {m : MethodId} {args : Array Value} {below : List Frame} {meth : Method} {c : Code} {dC : Nat → ClassId} {dI : Nat → Nat → Nat} {Z : ZZ} {A : Nat → Prop} {ad : Nat → Nat} {kc : Nat → ClassId} {sa va : Nat} {r : Unit} {τ : S5}
set_option maxHeartbeats 4000000 in
set_option maxRecDepth 100000 in
theorem w_X3_give {σ : S5} {a1 : Int64} {H : Heap} {locs : List Loc} {ls : Array Slot} (S : CallFix p m c cX3_give 3 s args uG RX3) (hr : meth.sig.returnType = none) (hk : meth.locks = false) (hR : 0 ≤ R.frames ∧ 0 ≤ R.locals)
    (X : gX (dC, dI) (tK kc) (wK ad kc sa va) Z A s σ H locs) (hl : lv_has ls 3 [(0, .ref (ad 0)), (1, .long a1)]) (hg : f_X3_give a1 σ = some (r, τ)) : W p l e R s m args below meth c H locs 0 0 (MQ below (gQv (dC, dI) (tK kc) (wK ad kc sa va) A r τ) args s 0 0 A) (F0 m 0 ls []) := by
  have hx := S.1
  have hb := S.2.1
  have hown := S.2.2.2.1
  have hu := S.2.2.2.2
  unfold f_X3_give at hg
  refine lv_aload_n hx hb dX3_give_0 rfl (lv_at hl 0 rfl) ?_
  refine lv_lload_n hx hb dX3_give_1 rfl (lv_at hl 1 rfl) ?_
  refine wkpJ_5 S X mG_677 dX3_give_2 (fun H locs X => ?_)
  refine lv_aload_n hx hb dX3_give_5 rfl (lv_at hl 0 rfl) ?_
  refine lv_iconst (v := 0) hx hb dX3_give_6 (by decide) ?_
  refine wkpI_45 S X mG_678 (Or.inl rfl) dX3_give_7 (fun H locs X => ?_)
  obtain ⟨-, rfl⟩ := fin_some hg
  exact gr_v S hr hk X dX3_give_10
end MX3_give
set_option maxRecDepth 100000 in
theorem k2_X3_give (l : Launch) (dC : Nat → ClassId) (dI : Nat → Nat → Nat) {Z : ZZ} (ad : Nat → Nat) (kc : Nat → ClassId) (sa va : Nat) {σ τ : S5} {a1 : Int64} {r : Unit} (hg : f_X3_give a1 σ = some (r, τ)) (sz : Nat) : Met l yX3_give (Cond.code yX3_give cX3_give 3 none :: uG) { frames := 0, cells := 0, slots := 0, locals := 0 } (gPc (dC, dI) (tK kc) (wK ad kc sa va) Z [.ref (ad 0), .long a1] σ sz) (gQv (dC, dI) (tK kc) (wK ad kc sa va) (va_A (wK ad kc sa va σ) sz) r τ) 0 0 (va_A (wK ad kc sa va σ) sz) :=
  g_start (by decide) (Nat.le_of_ble_eq_true rfl) (fun p e s m below meth c ls S hr hk X hl => w_X3_give S hr hk ⟨Nat.le_refl _, Nat.le_refl _⟩ X hl hg)
section MX3_workOn
variable {p : Program} {l : Launch} {e : Env} {R : Room} {s : State} {m : MethodId} {args : Array Value} {below : List Frame} {meth : Method} {c : Code} {dC : Nat → ClassId} {dI : Nat → Nat → Nat} {Z : ZZ} {A : Nat → Prop} {ad : Nat → Nat} {kc : Nat → ClassId} {sa va : Nat} {r : Unit} {τ : S5}
set_option maxHeartbeats 4000000 in
set_option maxRecDepth 100000 in
theorem w_X3_workOn {σ : S5} {a1 : Int32} {H : Heap} {locs : List Loc} {ls : Array Slot} (S : CallFix p m c cX3_workOn 2 s args uG RX3) (hr : meth.sig.returnType = none) (hk : meth.locks = false) (hR : 0 ≤ R.frames ∧ 0 ≤ R.locals)
    (X : gX (dC, dI) (tK kc) (wK ad kc sa va) Z A s σ H locs) (hl : lv_has ls 2 [(0, .ref (ad 0)), (1, .int a1)]) (hg : f_X3_workOn a1 σ = some (r, τ)) : W p l e R s m args below meth c H locs 0 0 (MQ below (gQv (dC, dI) (tK kc) (wK ad kc sa va) A r τ) args s 0 0 A) (F0 m 0 ls []) := by
  have hx := S.1
  have hb := S.2.1
  have hown := S.2.2.2.1
  have hu := S.2.2.2.2
  unfold f_X3_workOn at hg
  refine lv_aload_n hx hb dX3_workOn_0 rfl (lv_at hl 0 rfl) ?_
  refine lv_iload_n hx hb dX3_workOn_1 rfl (lv_at hl 1 rfl) ?_
  refine wkpI_44 S X mG_676 dX3_workOn_2 (fun H locs X => ?_)
  refine lv_aload_n hx hb dX3_workOn_5 rfl (lv_at hl 0 rfl) ?_
  refine lv_iconst (v := 1) hx hb dX3_workOn_6 (by decide) ?_
  refine wkpI_45 S X mG_678 (Or.inr rfl) dX3_workOn_7 (fun H locs X => ?_)
  obtain ⟨-, rfl⟩ := fin_some hg
  exact gr_v S hr hk X dX3_workOn_10
end MX3_workOn
set_option maxRecDepth 100000 in
theorem k2_X3_workOn (l : Launch) (dC : Nat → ClassId) (dI : Nat → Nat → Nat) {Z : ZZ} (ad : Nat → Nat) (kc : Nat → ClassId) (sa va : Nat) {σ τ : S5} {a1 : Int32} {r : Unit} (hg : f_X3_workOn a1 σ = some (r, τ)) (sz : Nat) : Met l yX3_workOn (Cond.code yX3_workOn cX3_workOn 2 none :: uG) { frames := 0, cells := 0, slots := 0, locals := 0 } (gPc (dC, dI) (tK kc) (wK ad kc sa va) Z [.ref (ad 0), .int a1] σ sz) (gQv (dC, dI) (tK kc) (wK ad kc sa va) (va_A (wK ad kc sa va σ) sz) r τ) 0 0 (va_A (wK ad kc sa va σ) sz) :=
  g_start (by decide) (Nat.le_of_ble_eq_true rfl) (fun p e s m below meth c ls S hr hk X hl => w_X3_workOn S hr hk ⟨Nat.le_refl _, Nat.le_refl _⟩ X hl hg)
section MX3_closeVariables
variable {p : Program} {l : Launch} {e : Env} {R : Room} {s : State} {m : MethodId} {args : Array Value} {below : List Frame} {meth : Method} {c : Code} {dC : Nat → ClassId} {dI : Nat → Nat → Nat} {Z : ZZ} {A : Nat → Prop} {ad : Nat → Nat} {kc : Nat → ClassId} {sa va : Nat} {r : Unit} {τ : S5}
set_option maxHeartbeats 4000000 in
set_option maxRecDepth 100000 in
theorem w_X3_closeVariables {σ : S5} {a1 : Int32} {a2 : Int32} {H : Heap} {locs : List Loc} {ls : Array Slot} (S : CallFix p m c cX3_closeVariables 3 s args uG RX3) (hr : meth.sig.returnType = none) (hk : meth.locks = false) (hR : 0 ≤ R.frames ∧ 0 ≤ R.locals)
    (X : gX (dC, dI) (tK kc) (wK ad kc sa va) Z A s σ H locs) (hl : lv_has ls 3 [(0, .ref (ad 0)), (1, .int a1), (2, .int a2)]) (hg : f_X3_closeVariables a1 a2 σ = some (r, τ)) : W p l e R s m args below meth c H locs 0 0 (MQ below (gQv (dC, dI) (tK kc) (wK ad kc sa va) A r τ) args s 0 0 A) (F0 m 0 ls []) := by
  have hx := S.1
  have hb := S.2.1
  have hown := S.2.2.2.1
  have hu := S.2.2.2.2
  unfold f_X3_closeVariables at hg
  refine lv_aload_n hx hb dX3_closeVariables_0 rfl (lv_at hl 0 rfl) ?_
  refine lv_aload_n hx hb dX3_closeVariables_1 rfl (lv_at hl 0 rfl) ?_
  refine wkgI_41 (v := (gI σ 41)) S X mG_673 rfl dX3_closeVariables_2 ?_
  refine wkpI_42 S X mG_674 dX3_closeVariables_5 (fun H locs X => ?_)
  refine lv_aload_n hx hb dX3_closeVariables_8 rfl (lv_at hl 0 rfl) ?_
  refine lv_iload_n hx hb dX3_closeVariables_9 rfl (lv_at hl 1 rfl) ?_
  refine wkpI_41 S X mG_673 dX3_closeVariables_10 (fun H locs X => ?_)
  refine lv_aload_n hx hb dX3_closeVariables_13 rfl (lv_at hl 0 rfl) ?_
  refine lv_iload_n hx hb dX3_closeVariables_14 rfl (lv_at hl 2 rfl) ?_
  refine wkpI_43 S X mG_675 dX3_closeVariables_15 (fun H locs X => ?_)
  obtain ⟨-, rfl⟩ := fin_some hg
  exact gr_v S hr hk X dX3_closeVariables_18
end MX3_closeVariables
set_option maxRecDepth 100000 in
theorem k2_X3_closeVariables (l : Launch) (dC : Nat → ClassId) (dI : Nat → Nat → Nat) {Z : ZZ} (ad : Nat → Nat) (kc : Nat → ClassId) (sa va : Nat) {σ τ : S5} {a1 : Int32} {a2 : Int32} {r : Unit} (hg : f_X3_closeVariables a1 a2 σ = some (r, τ)) (sz : Nat) : Met l yX3_closeVariables (Cond.code yX3_closeVariables cX3_closeVariables 3 none :: uG) { frames := 0, cells := 0, slots := 0, locals := 0 } (gPc (dC, dI) (tK kc) (wK ad kc sa va) Z [.ref (ad 0), .int a1, .int a2] σ sz) (gQv (dC, dI) (tK kc) (wK ad kc sa va) (va_A (wK ad kc sa va σ) sz) r τ) 0 0 (va_A (wK ad kc sa va σ) sz) :=
  g_start (by decide) (Nat.le_of_ble_eq_true rfl) (fun p e s m below meth c ls S hr hk X hl => w_X3_closeVariables S hr hk ⟨Nat.le_refl _, Nat.le_refl _⟩ X hl hg)
section MX3_loadVariables
variable {p : Program} {l : Launch} {e : Env} {R : Room} {s : State} {m : MethodId} {args : Array Value} {below : List Frame} {meth : Method} {c : Code} {dC : Nat → ClassId} {dI : Nat → Nat → Nat} {Z : ZZ} {A : Nat → Prop} {ad : Nat → Nat} {kc : Nat → ClassId} {sa va : Nat} {r : Unit} {τ : S5}
set_option maxHeartbeats 4000000 in
set_option maxRecDepth 100000 in
theorem w_X3_loadVariables_b59 {σ : S5} {rec6 : Int64 → Int32 → Int32 → S5 → Option (Unit × S5)} {v2 : Int64} {v4 : Int32} {v5 : Int32} {H : Heap} {locs : List Loc} {ls : Array Slot} (S : CallFix p m c cX3_loadVariables 6 s args uG RX3) (hr : meth.sig.returnType = none) (hk : meth.locks = false) (hR : 0 ≤ R.frames ∧ 0 ≤ R.locals)
    (hrec6 : ∀ (v2 : Int64) (v4 : Int32) (v5 : Int32) (σ : S5) (H : Heap) (locs : List Loc) (ls : Array Slot), gX (dC, dI) (tK kc) (wK ad kc sa va) Z A s σ H locs → lv_has ls 6 [(0, .ref (ad 0)), (2, .long v2), (4, .int v4), (5, .int v5)] → rec6 v2 v4 v5 σ = some (r, τ) → W p l e R s m args below meth c H locs 0 0 (MQ below (gQv (dC, dI) (tK kc) (wK ad kc sa va) A r τ) args s 0 0 A) (F0 m 6 ls []))
    (X : gX (dC, dI) (tK kc) (wK ad kc sa va) Z A s σ H locs) (hl : lv_has ls 6 [(0, .ref (ad 0)), (2, .long v2), (4, .int v4), (5, .int v5)]) (hg : f_X3_loadVariables_b59 rec6 v2 v4 v5 σ = some (r, τ)) : W p l e R s m args below meth c H locs 0 0 (MQ below (gQv (dC, dI) (tK kc) (wK ad kc sa va) A r τ) args s 0 0 A) (F0 m 59 ls []) := by
  have hx := S.1
  have hb := S.2.1
  have hown := S.2.2.2.1
  have hu := S.2.2.2.2
  unfold f_X3_loadVariables_b59 at hg
  refine lv_iinc (v := (v5 + 1)) (lv' := [(5, .int (v5 + 1)), (0, .ref (ad 0)), (2, .long v2), (4, .int v4)]) hx hb dX3_loadVariables_59 hl (k := 3) rfl (by rfl) (by decide) rfl (fun ls hl => ?_)
  refine lv_goto (tgt := 6) hx hb dX3_loadVariables_62 (by decide) ?_
  exact hrec6 _ _ _ _ _ _ _ X (lv_sub hl [1, 2, 3, 0] rfl) hg
set_option maxHeartbeats 4000000 in
set_option maxRecDepth 100000 in
theorem w_X3_loadVariables_B6 {σ : S5} {rec6 : Int64 → Int32 → Int32 → S5 → Option (Unit × S5)} {v2 : Int64} {v4 : Int32} {v5 : Int32} {H : Heap} {locs : List Loc} {ls : Array Slot} (S : CallFix p m c cX3_loadVariables 6 s args uG RX3) (hr : meth.sig.returnType = none) (hk : meth.locks = false) (hR : 0 ≤ R.frames ∧ 0 ≤ R.locals)
    (hrec6 : ∀ (v2 : Int64) (v4 : Int32) (v5 : Int32) (σ : S5) (H : Heap) (locs : List Loc) (ls : Array Slot), gX (dC, dI) (tK kc) (wK ad kc sa va) Z A s σ H locs → lv_has ls 6 [(0, .ref (ad 0)), (2, .long v2), (4, .int v4), (5, .int v5)] → rec6 v2 v4 v5 σ = some (r, τ) → W p l e R s m args below meth c H locs 0 0 (MQ below (gQv (dC, dI) (tK kc) (wK ad kc sa va) A r τ) args s 0 0 A) (F0 m 6 ls []))
    (X : gX (dC, dI) (tK kc) (wK ad kc sa va) Z A s σ H locs) (hl : lv_has ls 6 [(0, .ref (ad 0)), (2, .long v2), (4, .int v4), (5, .int v5)]) (hg : f_X3_loadVariables_B6 rec6 v2 v4 v5 σ = some (r, τ)) : W p l e R s m args below meth c H locs 0 0 (MQ below (gQv (dC, dI) (tK kc) (wK ad kc sa va) A r τ) args s 0 0 A) (F0 m 6 ls []) := by
  have hx := S.1
  have hb := S.2.1
  have hown := S.2.2.2.1
  have hu := S.2.2.2.2
  unfold f_X3_loadVariables_B6 at hg
  refine lv_iload hx hb dX3_loadVariables_6 (lv_at hl 3 rfl) ?_
  refine lv_aload_n hx hb dX3_loadVariables_8 rfl (lv_at hl 0 rfl) ?_
  refine wkgR_0_1 S X mG_661 dX3_loadVariables_9 ?_
  refine wkgR_2_10 S X mG_320 dX3_loadVariables_12 ?_
  refine lv_aload_n hx hb dX3_loadVariables_15 rfl (lv_at hl 0 rfl) ?_
  refine wkgI_43 (v := (gI σ 43)) S X mG_675 rfl dX3_loadVariables_16 ?_
  obtain ⟨hi19, hg⟩ := gd_some hg
  refine wklA_6 (v := (xA σ 6 (gI σ 43))) S X hi19 rfl dX3_loadVariables_19 ?_
  refine lv_icmp_ge (tgt := 65) hx hb dX3_loadVariables_20 (by decide) (fun c20 => ?_) (fun c20 => ?_)
  · have hg := (if_pos c20).symm.trans hg
    obtain ⟨-, rfl⟩ := fin_some hg
    exact gr_v S hr hk X dX3_loadVariables_65
  · have hg := (if_neg c20).symm.trans hg
    refine lv_lload_n hx hb dX3_loadVariables_23 rfl (lv_at hl 1 rfl) ?_
    refine lv_iload hx hb dX3_loadVariables_24 (lv_at hl 3 rfl) ?_
    refine lv_lushr (v := (j_lushr v2 v5)) hx hb dX3_loadVariables_26 rfl ?_
    refine lv_lconst (v := 1) hx hb dX3_loadVariables_27 rfl ?_
    refine lv_land hx hb dX3_loadVariables_28 ?_
    refine lv_lconst (v := 0) hx hb dX3_loadVariables_29 rfl ?_
    refine W.lcmp hx hb dX3_loadVariables_30 ?_
    refine lv_if_eq (tgt := 59) hx hb dX3_loadVariables_31 (by decide) (fun c31 => ?_) (fun c31 => ?_)
    · have hg := (if_pos c31).symm.trans hg
      exact w_X3_loadVariables_b59 S hr hk hR hrec6 X (lv_sub hl [0, 1, 2, 3] rfl) hg
    · have hg := (if_neg c31).symm.trans hg
      refine lv_aload_n hx hb dX3_loadVariables_34 rfl (lv_at hl 0 rfl) ?_
      refine wkgR_0_9 S X mG_672 dX3_loadVariables_35 ?_
      refine lv_aload_n hx hb dX3_loadVariables_38 rfl (lv_at hl 0 rfl) ?_
      refine wkgI_41 (v := (gI σ 41)) S X mG_673 rfl dX3_loadVariables_39 ?_
      refine lv_iload hx hb dX3_loadVariables_42 (lv_at hl 3 rfl) ?_
      refine lv_iadd hx hb dX3_loadVariables_44 ?_
      refine lv_aload_n hx hb dX3_loadVariables_45 rfl (lv_at hl 0 rfl) ?_
      refine wkgR_0_6 S X mG_669 dX3_loadVariables_46 ?_
      refine wkgR_1_0 S X mG_653 dX3_loadVariables_49 ?_
      refine lv_iload hx hb dX3_loadVariables_52 (lv_at hl 2 rfl) ?_
      obtain ⟨hi54, hg⟩ := gd_some hg
      refine wklB_14 (v := (xB σ 14 v4)) S X hi54 rfl dX3_loadVariables_54 ?_
      obtain ⟨hi55, hg⟩ := gd_some hg
      refine wksB_13 S X hi55 dX3_loadVariables_55 (fun H locs X => ?_)
      refine lv_iinc (v := (v4 + 1)) (lv' := [(4, .int (v4 + 1)), (0, .ref (ad 0)), (2, .long v2), (5, .int v5)]) hx hb dX3_loadVariables_56 hl (k := 2) rfl (by rfl) (by decide) rfl (fun ls hl => ?_)
      exact w_X3_loadVariables_b59 S hr hk hR hrec6 X (lv_sub hl [1, 2, 0, 3] rfl) hg
set_option maxHeartbeats 4000000 in
set_option maxRecDepth 100000 in
theorem w_X3_loadVariables_L6 (S : CallFix p m c cX3_loadVariables 6 s args uG RX3) (hr : meth.sig.returnType = none) (hk : meth.locks = false) (hR : 0 ≤ R.frames ∧ 0 ≤ R.locals) : ∀ (n : Nat) (v2 : Int64) (v4 : Int32) (v5 : Int32) (σ : S5) (H : Heap) (locs : List Loc) (ls : Array Slot), gX (dC, dI) (tK kc) (wK ad kc sa va) Z A s σ H locs → lv_has ls 6 [(0, .ref (ad 0)), (2, .long v2), (4, .int v4), (5, .int v5)] → f_X3_loadVariables_L6  n v2 v4 v5 σ = some (r, τ) → W p l e R s m args below meth c H locs 0 0 (MQ below (gQv (dC, dI) (tK kc) (wK ad kc sa va) A r τ) args s 0 0 A) (F0 m 6 ls []) := by
  intro n
  induction n with
  | zero => intro v2 v4 v5 σ H locs ls X hl hg; cases hg
  | succ n ih => intro v2 v4 v5 σ H locs ls X hl hg; exact w_X3_loadVariables_B6 S hr hk hR ih X hl hg
set_option maxHeartbeats 4000000 in
set_option maxRecDepth 100000 in
theorem w_X3_loadVariables {σ : S5} {a1 : Int32} {a2 : Int64} {H : Heap} {locs : List Loc} {ls : Array Slot} (S : CallFix p m c cX3_loadVariables 6 s args uG RX3) (hr : meth.sig.returnType = none) (hk : meth.locks = false) (hR : 0 ≤ R.frames ∧ 0 ≤ R.locals)
    (X : gX (dC, dI) (tK kc) (wK ad kc sa va) Z A s σ H locs) (hl : lv_has ls 6 [(0, .ref (ad 0)), (1, .int a1), (2, .long a2)]) (hg : f_X3_loadVariables a1 a2 σ = some (r, τ)) : W p l e R s m args below meth c H locs 0 0 (MQ below (gQv (dC, dI) (tK kc) (wK ad kc sa va) A r τ) args s 0 0 A) (F0 m 0 ls []) := by
  have hx := S.1
  have hb := S.2.1
  have hown := S.2.2.2.1
  have hu := S.2.2.2.2
  unfold f_X3_loadVariables at hg
  refine lv_iload_n hx hb dX3_loadVariables_0 rfl (lv_at hl 1 rfl) ?_
  refine lv_istore (lv' := [(4, .int a1), (0, .ref (ad 0)), (1, .int a1), (2, .long a2)]) hx hb dX3_loadVariables_1 hl (by decide) rfl (fun ls hl => ?_)
  refine lv_iconst (v := 0) hx hb dX3_loadVariables_3 (by decide) ?_
  refine lv_istore (lv' := [(5, .int 0), (4, .int a1), (0, .ref (ad 0)), (1, .int a1), (2, .long a2)]) hx hb dX3_loadVariables_4 hl (by decide) rfl (fun ls hl => ?_)
  exact w_X3_loadVariables_L6 S hr hk hR _ _ _ _ _ _ _ _ X (lv_sub hl [2, 4, 1, 0] rfl) hg
end MX3_loadVariables
set_option maxRecDepth 100000 in
theorem k2_X3_loadVariables (l : Launch) (dC : Nat → ClassId) (dI : Nat → Nat → Nat) {Z : ZZ} (ad : Nat → Nat) (kc : Nat → ClassId) (sa va : Nat) {σ τ : S5} {a1 : Int32} {a2 : Int64} {r : Unit} (hg : f_X3_loadVariables a1 a2 σ = some (r, τ)) (sz : Nat) : Met l yX3_loadVariables (Cond.code yX3_loadVariables cX3_loadVariables 6 none :: uG) { frames := 0, cells := 0, slots := 0, locals := 0 } (gPc (dC, dI) (tK kc) (wK ad kc sa va) Z [.ref (ad 0), .int a1, .long a2] σ sz) (gQv (dC, dI) (tK kc) (wK ad kc sa va) (va_A (wK ad kc sa va σ) sz) r τ) 0 0 (va_A (wK ad kc sa va σ) sz) :=
  g_start (by decide) (Nat.le_of_ble_eq_true rfl) (fun p e s m below meth c ls S hr hk X hl => w_X3_loadVariables S hr hk ⟨Nat.le_refl _, Nat.le_refl _⟩ X hl hg)
section MX3_storeVariables
variable {p : Program} {l : Launch} {e : Env} {R : Room} {s : State} {m : MethodId} {args : Array Value} {below : List Frame} {meth : Method} {c : Code} {dC : Nat → ClassId} {dI : Nat → Nat → Nat} {Z : ZZ} {A : Nat → Prop} {ad : Nat → Nat} {kc : Nat → ClassId} {sa va : Nat} {r : Unit} {τ : S5}
set_option maxHeartbeats 4000000 in
set_option maxRecDepth 100000 in
theorem w_X3_storeVariables_b59 {σ : S5} {rec6 : Int64 → Int32 → Int32 → S5 → Option (Unit × S5)} {v2 : Int64} {v4 : Int32} {v5 : Int32} {H : Heap} {locs : List Loc} {ls : Array Slot} (S : CallFix p m c cX3_storeVariables 6 s args uG RX3) (hr : meth.sig.returnType = none) (hk : meth.locks = false) (hR : 0 ≤ R.frames ∧ 0 ≤ R.locals)
    (hrec6 : ∀ (v2 : Int64) (v4 : Int32) (v5 : Int32) (σ : S5) (H : Heap) (locs : List Loc) (ls : Array Slot), gX (dC, dI) (tK kc) (wK ad kc sa va) Z A s σ H locs → lv_has ls 6 [(0, .ref (ad 0)), (2, .long v2), (4, .int v4), (5, .int v5)] → rec6 v2 v4 v5 σ = some (r, τ) → W p l e R s m args below meth c H locs 0 0 (MQ below (gQv (dC, dI) (tK kc) (wK ad kc sa va) A r τ) args s 0 0 A) (F0 m 6 ls []))
    (X : gX (dC, dI) (tK kc) (wK ad kc sa va) Z A s σ H locs) (hl : lv_has ls 6 [(0, .ref (ad 0)), (2, .long v2), (4, .int v4), (5, .int v5)]) (hg : f_X3_storeVariables_b59 rec6 v2 v4 v5 σ = some (r, τ)) : W p l e R s m args below meth c H locs 0 0 (MQ below (gQv (dC, dI) (tK kc) (wK ad kc sa va) A r τ) args s 0 0 A) (F0 m 59 ls []) := by
  have hx := S.1
  have hb := S.2.1
  have hown := S.2.2.2.1
  have hu := S.2.2.2.2
  unfold f_X3_storeVariables_b59 at hg
  refine lv_iinc (v := (v5 + 1)) (lv' := [(5, .int (v5 + 1)), (0, .ref (ad 0)), (2, .long v2), (4, .int v4)]) hx hb dX3_storeVariables_59 hl (k := 3) rfl (by rfl) (by decide) rfl (fun ls hl => ?_)
  refine lv_goto (tgt := 6) hx hb dX3_storeVariables_62 (by decide) ?_
  exact hrec6 _ _ _ _ _ _ _ X (lv_sub hl [1, 2, 3, 0] rfl) hg
set_option maxHeartbeats 4000000 in
set_option maxRecDepth 100000 in
theorem w_X3_storeVariables_B6 {σ : S5} {rec6 : Int64 → Int32 → Int32 → S5 → Option (Unit × S5)} {v2 : Int64} {v4 : Int32} {v5 : Int32} {H : Heap} {locs : List Loc} {ls : Array Slot} (S : CallFix p m c cX3_storeVariables 6 s args uG RX3) (hr : meth.sig.returnType = none) (hk : meth.locks = false) (hR : 0 ≤ R.frames ∧ 0 ≤ R.locals)
    (hrec6 : ∀ (v2 : Int64) (v4 : Int32) (v5 : Int32) (σ : S5) (H : Heap) (locs : List Loc) (ls : Array Slot), gX (dC, dI) (tK kc) (wK ad kc sa va) Z A s σ H locs → lv_has ls 6 [(0, .ref (ad 0)), (2, .long v2), (4, .int v4), (5, .int v5)] → rec6 v2 v4 v5 σ = some (r, τ) → W p l e R s m args below meth c H locs 0 0 (MQ below (gQv (dC, dI) (tK kc) (wK ad kc sa va) A r τ) args s 0 0 A) (F0 m 6 ls []))
    (X : gX (dC, dI) (tK kc) (wK ad kc sa va) Z A s σ H locs) (hl : lv_has ls 6 [(0, .ref (ad 0)), (2, .long v2), (4, .int v4), (5, .int v5)]) (hg : f_X3_storeVariables_B6 rec6 v2 v4 v5 σ = some (r, τ)) : W p l e R s m args below meth c H locs 0 0 (MQ below (gQv (dC, dI) (tK kc) (wK ad kc sa va) A r τ) args s 0 0 A) (F0 m 6 ls []) := by
  have hx := S.1
  have hb := S.2.1
  have hown := S.2.2.2.1
  have hu := S.2.2.2.2
  unfold f_X3_storeVariables_B6 at hg
  refine lv_iload hx hb dX3_storeVariables_6 (lv_at hl 3 rfl) ?_
  refine lv_aload_n hx hb dX3_storeVariables_8 rfl (lv_at hl 0 rfl) ?_
  refine wkgR_0_1 S X mG_661 dX3_storeVariables_9 ?_
  refine wkgR_2_10 S X mG_320 dX3_storeVariables_12 ?_
  refine lv_aload_n hx hb dX3_storeVariables_15 rfl (lv_at hl 0 rfl) ?_
  refine wkgI_43 (v := (gI σ 43)) S X mG_675 rfl dX3_storeVariables_16 ?_
  obtain ⟨hi19, hg⟩ := gd_some hg
  refine wklA_6 (v := (xA σ 6 (gI σ 43))) S X hi19 rfl dX3_storeVariables_19 ?_
  refine lv_icmp_ge (tgt := 65) hx hb dX3_storeVariables_20 (by decide) (fun c20 => ?_) (fun c20 => ?_)
  · have hg := (if_pos c20).symm.trans hg
    obtain ⟨-, rfl⟩ := fin_some hg
    exact gr_v S hr hk X dX3_storeVariables_65
  · have hg := (if_neg c20).symm.trans hg
    refine lv_lload_n hx hb dX3_storeVariables_23 rfl (lv_at hl 1 rfl) ?_
    refine lv_iload hx hb dX3_storeVariables_24 (lv_at hl 3 rfl) ?_
    refine lv_lushr (v := (j_lushr v2 v5)) hx hb dX3_storeVariables_26 rfl ?_
    refine lv_lconst (v := 1) hx hb dX3_storeVariables_27 rfl ?_
    refine lv_land hx hb dX3_storeVariables_28 ?_
    refine lv_lconst (v := 0) hx hb dX3_storeVariables_29 rfl ?_
    refine W.lcmp hx hb dX3_storeVariables_30 ?_
    refine lv_if_eq (tgt := 59) hx hb dX3_storeVariables_31 (by decide) (fun c31 => ?_) (fun c31 => ?_)
    · have hg := (if_pos c31).symm.trans hg
      exact w_X3_storeVariables_b59 S hr hk hR hrec6 X (lv_sub hl [0, 1, 2, 3] rfl) hg
    · have hg := (if_neg c31).symm.trans hg
      refine lv_aload_n hx hb dX3_storeVariables_34 rfl (lv_at hl 0 rfl) ?_
      refine wkgR_0_6 S X mG_669 dX3_storeVariables_35 ?_
      refine wkgR_1_0 S X mG_653 dX3_storeVariables_38 ?_
      refine lv_iload hx hb dX3_storeVariables_41 (lv_at hl 2 rfl) ?_
      refine lv_aload_n hx hb dX3_storeVariables_43 rfl (lv_at hl 0 rfl) ?_
      refine wkgR_0_9 S X mG_672 dX3_storeVariables_44 ?_
      refine lv_aload_n hx hb dX3_storeVariables_47 rfl (lv_at hl 0 rfl) ?_
      refine wkgI_41 (v := (gI σ 41)) S X mG_673 rfl dX3_storeVariables_48 ?_
      refine lv_iload hx hb dX3_storeVariables_51 (lv_at hl 3 rfl) ?_
      refine lv_iadd hx hb dX3_storeVariables_53 ?_
      obtain ⟨hi54, hg⟩ := gd_some hg
      refine wklB_13 (v := (xB σ 13 ((gI σ 41) + v5))) S X hi54 rfl dX3_storeVariables_54 ?_
      obtain ⟨hi55, hg⟩ := gd_some hg
      refine wksB_14 S X hi55 dX3_storeVariables_55 (fun H locs X => ?_)
      refine lv_iinc (v := (v4 + 1)) (lv' := [(4, .int (v4 + 1)), (0, .ref (ad 0)), (2, .long v2), (5, .int v5)]) hx hb dX3_storeVariables_56 hl (k := 2) rfl (by rfl) (by decide) rfl (fun ls hl => ?_)
      exact w_X3_storeVariables_b59 S hr hk hR hrec6 X (lv_sub hl [1, 2, 0, 3] rfl) hg
set_option maxHeartbeats 4000000 in
set_option maxRecDepth 100000 in
theorem w_X3_storeVariables_L6 (S : CallFix p m c cX3_storeVariables 6 s args uG RX3) (hr : meth.sig.returnType = none) (hk : meth.locks = false) (hR : 0 ≤ R.frames ∧ 0 ≤ R.locals) : ∀ (n : Nat) (v2 : Int64) (v4 : Int32) (v5 : Int32) (σ : S5) (H : Heap) (locs : List Loc) (ls : Array Slot), gX (dC, dI) (tK kc) (wK ad kc sa va) Z A s σ H locs → lv_has ls 6 [(0, .ref (ad 0)), (2, .long v2), (4, .int v4), (5, .int v5)] → f_X3_storeVariables_L6  n v2 v4 v5 σ = some (r, τ) → W p l e R s m args below meth c H locs 0 0 (MQ below (gQv (dC, dI) (tK kc) (wK ad kc sa va) A r τ) args s 0 0 A) (F0 m 6 ls []) := by
  intro n
  induction n with
  | zero => intro v2 v4 v5 σ H locs ls X hl hg; cases hg
  | succ n ih => intro v2 v4 v5 σ H locs ls X hl hg; exact w_X3_storeVariables_B6 S hr hk hR ih X hl hg
set_option maxHeartbeats 4000000 in
set_option maxRecDepth 100000 in
theorem w_X3_storeVariables {σ : S5} {a1 : Int32} {a2 : Int64} {H : Heap} {locs : List Loc} {ls : Array Slot} (S : CallFix p m c cX3_storeVariables 6 s args uG RX3) (hr : meth.sig.returnType = none) (hk : meth.locks = false) (hR : 0 ≤ R.frames ∧ 0 ≤ R.locals)
    (X : gX (dC, dI) (tK kc) (wK ad kc sa va) Z A s σ H locs) (hl : lv_has ls 6 [(0, .ref (ad 0)), (1, .int a1), (2, .long a2)]) (hg : f_X3_storeVariables a1 a2 σ = some (r, τ)) : W p l e R s m args below meth c H locs 0 0 (MQ below (gQv (dC, dI) (tK kc) (wK ad kc sa va) A r τ) args s 0 0 A) (F0 m 0 ls []) := by
  have hx := S.1
  have hb := S.2.1
  have hown := S.2.2.2.1
  have hu := S.2.2.2.2
  unfold f_X3_storeVariables at hg
  refine lv_iload_n hx hb dX3_storeVariables_0 rfl (lv_at hl 1 rfl) ?_
  refine lv_istore (lv' := [(4, .int a1), (0, .ref (ad 0)), (1, .int a1), (2, .long a2)]) hx hb dX3_storeVariables_1 hl (by decide) rfl (fun ls hl => ?_)
  refine lv_iconst (v := 0) hx hb dX3_storeVariables_3 (by decide) ?_
  refine lv_istore (lv' := [(5, .int 0), (4, .int a1), (0, .ref (ad 0)), (1, .int a1), (2, .long a2)]) hx hb dX3_storeVariables_4 hl (by decide) rfl (fun ls hl => ?_)
  exact w_X3_storeVariables_L6 S hr hk hR _ _ _ _ _ _ _ _ X (lv_sub hl [2, 4, 1, 0] rfl) hg
end MX3_storeVariables
set_option maxRecDepth 100000 in
theorem k2_X3_storeVariables (l : Launch) (dC : Nat → ClassId) (dI : Nat → Nat → Nat) {Z : ZZ} (ad : Nat → Nat) (kc : Nat → ClassId) (sa va : Nat) {σ τ : S5} {a1 : Int32} {a2 : Int64} {r : Unit} (hg : f_X3_storeVariables a1 a2 σ = some (r, τ)) (sz : Nat) : Met l yX3_storeVariables (Cond.code yX3_storeVariables cX3_storeVariables 6 none :: uG) { frames := 0, cells := 0, slots := 0, locals := 0 } (gPc (dC, dI) (tK kc) (wK ad kc sa va) Z [.ref (ad 0), .int a1, .long a2] σ sz) (gQv (dC, dI) (tK kc) (wK ad kc sa va) (va_A (wK ad kc sa va σ) sz) r τ) 0 0 (va_A (wK ad kc sa va σ) sz) :=
  g_start (by decide) (Nat.le_of_ble_eq_true rfl) (fun p e s m below meth c ls S hr hk X hl => w_X3_storeVariables S hr hk ⟨Nat.le_refl _, Nat.le_refl _⟩ X hl hg)
section MX3_made
variable {p : Program} {l : Launch} {e : Env} {R : Room} {s : State} {m : MethodId} {args : Array Value} {below : List Frame} {meth : Method} {c : Code} {dC : Nat → ClassId} {dI : Nat → Nat → Nat} {Z : ZZ} {A : Nat → Prop} {ad : Nat → Nat} {kc : Nat → ClassId} {sa va : Nat} {r : Int64} {τ : S5}
set_option maxHeartbeats 4000000 in
set_option maxRecDepth 100000 in
theorem w_X3_made {σ : S5} {a1 : Int32} {a2 : Int32} {H : Heap} {locs : List Loc} {ls : Array Slot} (S : CallFix p m c cX3_made 3 s args uG RX3) (hr : meth.sig.returnType = (some .long)) (hk : meth.locks = false) (hR : 1 ≤ R.frames ∧ 22 ≤ R.locals)
    (X : gX (dC, dI) (tK kc) (wK ad kc sa va) Z A s σ H locs) (hl : lv_has ls 3 [(0, .ref (ad 0)), (1, .int a1), (2, .int a2)]) (hg : f_X3_made a1 a2 σ = some (r, τ)) : W p l e R s m args below meth c H locs 0 0 (MQ below (gQl (dC, dI) (tK kc) (wK ad kc sa va) A r τ) args s 0 0 A) (F0 m 0 ls []) := by
  have hx := S.1
  have hb := S.2.1
  have hown := S.2.2.2.1
  have hu := S.2.2.2.2
  unfold f_X3_made at hg
  refine lv_iload_n hx hb dX3_made_0 rfl (lv_at hl 2 rfl) ?_
  refine lv_iconst (v := (-1)) hx hb dX3_made_1 (by decide) ?_
  refine lv_icmp_ne (tgt := 13) hx hb dX3_made_2 (by decide) (fun c2 => ?_) (fun c2 => ?_)
  · have hg := (if_neg c2).symm.trans hg
    refine lv_iload_n hx hb dX3_made_13 rfl (lv_at hl 1 rfl) ?_
    refine lv_iload_n hx hb dX3_made_14 rfl (lv_at hl 2 rfl) ?_
    obtain ⟨r15, τ15, hq15, hg⟩ := bd_some hg
    refine gc_Tl (As := [.int a1, .int a2]) (rest := []) S X (k2_X0_value l dC dI ad kc sa va hq15 H.size) cw_X0_value mG_1826 rfl rfl hl.1 (Nat.le_of_ble_eq_true rfl) dX3_made_15 ⟨by omega, by omega⟩ (fun H locs X => ?_)
    obtain ⟨rfl, rfl⟩ := fin_some hg
    exact gr_l S hr hk X dX3_made_18
  · have hg := (if_pos c2).symm.trans hg
    refine lv_aload_n hx hb dX3_made_5 rfl (lv_at hl 0 rfl) ?_
    refine lv_iconst (v := 3) hx hb dX3_made_6 (by decide) ?_
    refine lv_iconst (v := 2) hx hb dX3_made_7 (by decide) ?_
    obtain ⟨r8, τ8, hq8, hg⟩ := bd_some hg
    refine gc_Vv (As := [.int 3, .int 2]) (rest := []) (q0 := 0) (ci := 6) S X (k2_X3_endWith l dC dI ad kc sa va hq8 H.size) cw_X3_endWith mG_1846 rfl rfl rfl rfl rfl hl.1 (Nat.le_of_ble_eq_true rfl) dX3_made_8 ⟨by omega, by omega⟩ (fun H locs X => ?_)
    refine lv_lconst (v := 0) hx hb dX3_made_11 rfl ?_
    obtain ⟨rfl, rfl⟩ := fin_some hg
    exact gr_l S hr hk X dX3_made_12
end MX3_made
set_option maxRecDepth 100000 in
theorem k2_X3_made (l : Launch) (dC : Nat → ClassId) (dI : Nat → Nat → Nat) {Z : ZZ} (ad : Nat → Nat) (kc : Nat → ClassId) (sa va : Nat) {σ τ : S5} {a1 : Int32} {a2 : Int32} {r : Int64} (hg : f_X3_made a1 a2 σ = some (r, τ)) (sz : Nat) : Met l yX3_made (Cond.code yX3_made cX3_made 3 (some .long) :: uG) { frames := 1, cells := 0, slots := 0, locals := 22 } (gPc (dC, dI) (tK kc) (wK ad kc sa va) Z [.ref (ad 0), .int a1, .int a2] σ sz) (gQl (dC, dI) (tK kc) (wK ad kc sa va) (va_A (wK ad kc sa va σ) sz) r τ) 0 0 (va_A (wK ad kc sa va σ) sz) :=
  g_start (by decide) (Nat.le_of_ble_eq_true rfl) (fun p e s m below meth c ls S hr hk X hl => w_X3_made S hr hk ⟨Nat.le_refl _, Nat.le_refl _⟩ X hl hg)
section MX3_isPartOfCall
variable {p : Program} {l : Launch} {e : Env} {R : Room} {s : State} {m : MethodId} {args : Array Value} {below : List Frame} {meth : Method} {c : Code} {dC : Nat → ClassId} {dI : Nat → Nat → Nat} {Z : ZZ} {A : Nat → Prop} {ad : Nat → Nat} {kc : Nat → ClassId} {sa va : Nat} {r : Int32} {τ : S5}
set_option maxHeartbeats 4000000 in
set_option maxRecDepth 100000 in
theorem w_X3_isPartOfCall {σ : S5} {a1 : Int32} {H : Heap} {locs : List Loc} {ls : Array Slot} (S : CallFix p m c cX3_isPartOfCall 3 s args uG RX3) (hr : meth.sig.returnType = (some .boolean)) (hk : meth.locks = false) (hR : 0 ≤ R.frames ∧ 0 ≤ R.locals)
    (X : gX (dC, dI) (tK kc) (wK ad kc sa va) Z A s σ H locs) (hl : lv_has ls 3 [(0, .ref (ad 0)), (1, .int a1)]) (hg : f_X3_isPartOfCall a1 σ = some (r, τ)) : W p l e R s m args below meth c H locs 0 0 (MQ below (gQi (dC, dI) (tK kc) (wK ad kc sa va) A r τ) args s 0 0 A) (F0 m 0 ls []) := by
  have hx := S.1
  have hb := S.2.1
  have hown := S.2.2.2.1
  have hu := S.2.2.2.2
  unfold f_X3_isPartOfCall at hg
  refine lv_aload_n hx hb dX3_isPartOfCall_0 rfl (lv_at hl 0 rfl) ?_
  refine wkgR_0_0 S X mG_660 dX3_isPartOfCall_1 ?_
  refine wkgR_3_3 S X mG_398 dX3_isPartOfCall_4 ?_
  refine lv_iload_n hx hb dX3_isPartOfCall_7 rfl (lv_at hl 1 rfl) ?_
  obtain ⟨hi8, hg⟩ := gd_some hg
  refine wklA_16 (v := (xA σ 16 a1)) S X hi8 rfl dX3_isPartOfCall_8 ?_
  refine lv_istore_n (lv' := [(2, .int (xA σ 16 a1)), (0, .ref (ad 0)), (1, .int a1)]) hx hb dX3_isPartOfCall_9 rfl hl (by decide) rfl (fun ls hl => ?_)
  refine lv_aload_n hx hb dX3_isPartOfCall_10 rfl (lv_at hl 1 rfl) ?_
  refine wkgR_0_0 S X mG_660 dX3_isPartOfCall_11 ?_
  refine wkgR_3_0 S X mG_383 dX3_isPartOfCall_14 ?_
  refine lv_iload_n hx hb dX3_isPartOfCall_17 rfl (lv_at hl 0 rfl) ?_
  obtain ⟨hi18, hg⟩ := gd_some hg
  refine wklA_13 (v := (xA σ 13 (xA σ 16 a1))) S X hi18 rfl dX3_isPartOfCall_18 ?_
  refine lv_iconst (v := 2) hx hb dX3_isPartOfCall_19 (by decide) ?_
  refine lv_icmp_ne (tgt := 56) hx hb dX3_isPartOfCall_20 (by decide) (fun c20 => ?_) (fun c20 => ?_)
  · have hg := (if_neg c20).symm.trans hg
    refine lv_iconst (v := 0) hx hb dX3_isPartOfCall_56 (by decide) ?_
    obtain ⟨rfl, rfl⟩ := fin_some hg
    exact gr_z S hr hk X (Or.inl rfl) dX3_isPartOfCall_57
  · have hg := (if_pos c20).symm.trans hg
    refine lv_aload_n hx hb dX3_isPartOfCall_23 rfl (lv_at hl 1 rfl) ?_
    refine wkgR_0_0 S X mG_660 dX3_isPartOfCall_24 ?_
    refine wkgR_3_2 S X mG_394 dX3_isPartOfCall_27 ?_
    refine lv_iload_n hx hb dX3_isPartOfCall_30 rfl (lv_at hl 2 rfl) ?_
    obtain ⟨hi31, hg⟩ := gd_some hg
    refine wklA_15 (v := (xA σ 15 a1)) S X hi31 rfl dX3_isPartOfCall_31 ?_
    refine lv_aload_n hx hb dX3_isPartOfCall_32 rfl (lv_at hl 1 rfl) ?_
    refine wkgR_0_1 S X mG_661 dX3_isPartOfCall_33 ?_
    refine wkgR_2_7 S X mG_310 dX3_isPartOfCall_36 ?_
    refine lv_aload_n hx hb dX3_isPartOfCall_39 rfl (lv_at hl 1 rfl) ?_
    refine wkgR_0_0 S X mG_660 dX3_isPartOfCall_40 ?_
    refine wkgR_3_1 S X mG_388 dX3_isPartOfCall_43 ?_
    refine lv_iload_n hx hb dX3_isPartOfCall_46 rfl (lv_at hl 0 rfl) ?_
    obtain ⟨hi47, hg⟩ := gd_some hg
    refine wklA_14 (v := (xA σ 14 (xA σ 16 a1))) S X hi47 rfl dX3_isPartOfCall_47 ?_
    obtain ⟨hi48, hg⟩ := gd_some hg
    refine wklA_3 (v := (xA σ 3 (xA σ 14 (xA σ 16 a1)))) S X hi48 rfl dX3_isPartOfCall_48 ?_
    refine lv_icmp_ge (tgt := 56) hx hb dX3_isPartOfCall_49 (by decide) (fun c49 => ?_) (fun c49 => ?_)
    · have hg := (if_pos c49).symm.trans hg
      refine lv_iconst (v := 0) hx hb dX3_isPartOfCall_56 (by decide) ?_
      obtain ⟨rfl, rfl⟩ := fin_some hg
      exact gr_z S hr hk X (Or.inl rfl) dX3_isPartOfCall_57
    · have hg := (if_neg c49).symm.trans hg
      refine lv_iconst (v := 1) hx hb dX3_isPartOfCall_52 (by decide) ?_
      refine lv_goto (tgt := 57) hx hb dX3_isPartOfCall_53 (by decide) ?_
      obtain ⟨rfl, rfl⟩ := fin_some hg
      exact gr_z S hr hk X (Or.inr rfl) dX3_isPartOfCall_57
end MX3_isPartOfCall
set_option maxRecDepth 100000 in
theorem k2_X3_isPartOfCall (l : Launch) (dC : Nat → ClassId) (dI : Nat → Nat → Nat) {Z : ZZ} (ad : Nat → Nat) (kc : Nat → ClassId) (sa va : Nat) {σ τ : S5} {a1 : Int32} {r : Int32} (hg : f_X3_isPartOfCall a1 σ = some (r, τ)) (sz : Nat) : Met l yX3_isPartOfCall (Cond.code yX3_isPartOfCall cX3_isPartOfCall 3 (some .boolean) :: uG) { frames := 0, cells := 0, slots := 0, locals := 0 } (gPc (dC, dI) (tK kc) (wK ad kc sa va) Z [.ref (ad 0), .int a1] σ sz) (gQi (dC, dI) (tK kc) (wK ad kc sa va) (va_A (wK ad kc sa va σ) sz) r τ) 0 0 (va_A (wK ad kc sa va σ) sz) :=
  g_start (by decide) (Nat.le_of_ble_eq_true rfl) (fun p e s m below meth c ls S hr hk X hl => w_X3_isPartOfCall S hr hk ⟨Nat.le_refl _, Nat.le_refl _⟩ X hl hg)
section MX3_begin
variable {p : Program} {l : Launch} {e : Env} {R : Room} {s : State} {m : MethodId} {args : Array Value} {below : List Frame} {meth : Method} {c : Code} {dC : Nat → ClassId} {dI : Nat → Nat → Nat} {Z : ZZ} {A : Nat → Prop} {ad : Nat → Nat} {kc : Nat → ClassId} {sa va : Nat} {r : Int64} {τ : S5}
set_option maxHeartbeats 4000000 in
set_option maxRecDepth 100000 in
theorem w_X3_begin_b200 {σ : S5} {v1 : Int32} {H : Heap} {locs : List Loc} {ls : Array Slot} (S : CallFix p m c cX3_begin 4 s args uG RX3) (hr : meth.sig.returnType = (some .long)) (hk : meth.locks = false) (hR : 2 ≤ R.frames ∧ 47 ≤ R.locals)
    (X : gX (dC, dI) (tK kc) (wK ad kc sa va) Z A s σ H locs) (hl : lv_has ls 4 [(0, .ref (ad 0)), (1, .int v1)]) (hg : f_X3_begin_b200 v1 σ = some (r, τ)) : W p l e R s m args below meth c H locs 0 0 (MQ below (gQl (dC, dI) (tK kc) (wK ad kc sa va) A r τ) args s 0 0 A) (F0 m 200 ls []) := by
  have hx := S.1
  have hb := S.2.1
  have hown := S.2.2.2.1
  have hu := S.2.2.2.2
  unfold f_X3_begin_b200 at hg
  refine lv_aload_n hx hb dX3_begin_200 rfl (lv_at hl 0 rfl) ?_
  refine lv_bipush (v := 6) hx hb dX3_begin_201 (by decide) ?_
  refine lv_aload_n hx hb dX3_begin_203 rfl (lv_at hl 0 rfl) ?_
  refine wkgR_0_6 S X mG_669 dX3_begin_204 ?_
  refine lv_aload_n hx hb dX3_begin_207 rfl (lv_at hl 0 rfl) ?_
  refine wkgI_43 (v := (gI σ 43)) S X mG_675 rfl dX3_begin_208 ?_
  refine lv_iload_n hx hb dX3_begin_211 rfl (lv_at hl 1 rfl) ?_
  refine lv_aload_n hx hb dX3_begin_212 rfl (lv_at hl 0 rfl) ?_
  refine wkgR_0_0 S X mG_660 dX3_begin_213 ?_
  refine wkgR_3_7 S X mG_412 dX3_begin_216 ?_
  refine lv_iload_n hx hb dX3_begin_219 rfl (lv_at hl 1 rfl) ?_
  obtain ⟨hi220, hg⟩ := gd_some hg
  refine wklB_2 (v := (xB σ 2 v1)) S X hi220 rfl dX3_begin_220 ?_
  obtain ⟨r221, τ221, hq221, hg⟩ := bd_some hg
  refine gc_Ti (As := [.long (xB σ 2 v1)]) (rest := [.int v1, .int (gI σ 43), .ref (ad 1), .int 6, .ref (ad 0)]) S X (k2_J13_bitCount_95d88 l dC dI ad kc sa va hq221 H.size) cw_J13_bitCount_95d88 mG_1912 rfl rfl hl.1 (Nat.le_of_ble_eq_true rfl) dX3_begin_221 ⟨by omega, by omega⟩ (fun H locs X => ?_)
  obtain ⟨r224, τ224, hq224, hg⟩ := bd_some hg
  refine gc_Vi (As := [.int (gI σ 43), .int v1, .int r221]) (rest := [.int 6, .ref (ad 0)]) (q0 := 1) (ci := 3) S X (k2_X0_makeSuspension l dC dI ad kc sa va hq224 H.size) cw_X0_makeSuspension mG_1802 rfl rfl rfl rfl rfl hl.1 (Nat.le_of_ble_eq_true rfl) dX3_begin_224 ⟨by omega, by omega⟩ (fun H locs X => ?_)
  obtain ⟨r227, τ227, hq227, hg⟩ := bd_some hg
  refine gc_Vl (As := [.int 6, .int r224]) (rest := []) (q0 := 0) (ci := 6) S X (k2_X3_made l dC dI ad kc sa va hq227 H.size) cw_X3_made mG_1900 rfl rfl rfl rfl rfl hl.1 (Nat.le_of_ble_eq_true rfl) dX3_begin_227 ⟨by omega, by omega⟩ (fun H locs X => ?_)
  obtain ⟨rfl, rfl⟩ := fin_some hg
  exact gr_l S hr hk X dX3_begin_230
set_option maxHeartbeats 4000000 in
set_option maxRecDepth 100000 in
theorem w_X3_begin {σ : S5} {a1 : Int32} {a2 : Int32} {H : Heap} {locs : List Loc} {ls : Array Slot} (S : CallFix p m c cX3_begin 4 s args uG RX3) (hr : meth.sig.returnType = (some .long)) (hk : meth.locks = false) (hR : 2 ≤ R.frames ∧ 47 ≤ R.locals)
    (X : gX (dC, dI) (tK kc) (wK ad kc sa va) Z A s σ H locs) (hl : lv_has ls 4 [(0, .ref (ad 0)), (1, .int a1), (2, .int a2)]) (hg : f_X3_begin a1 a2 σ = some (r, τ)) : W p l e R s m args below meth c H locs 0 0 (MQ below (gQl (dC, dI) (tK kc) (wK ad kc sa va) A r τ) args s 0 0 A) (F0 m 0 ls []) := by
  have hx := S.1
  have hb := S.2.1
  have hown := S.2.2.2.1
  have hu := S.2.2.2.2
  unfold f_X3_begin at hg
  refine lv_aload_n hx hb dX3_begin_0 rfl (lv_at hl 0 rfl) ?_
  refine wkgR_0_0 S X mG_660 dX3_begin_1 ?_
  refine wkgR_3_1 S X mG_388 dX3_begin_4 ?_
  refine lv_iload_n hx hb dX3_begin_7 rfl (lv_at hl 1 rfl) ?_
  obtain ⟨hi8, hg⟩ := gd_some hg
  refine wklA_14 (v := (xA σ 14 a1)) S X hi8 rfl dX3_begin_8 ?_
  refine lv_istore_n (lv' := [(3, .int (xA σ 14 a1)), (0, .ref (ad 0)), (1, .int a1), (2, .int a2)]) hx hb dX3_begin_9 rfl hl (by decide) rfl (fun ls hl => ?_)
  refine lv_aload_n hx hb dX3_begin_10 rfl (lv_at hl 1 rfl) ?_
  refine wkgR_0_0 S X mG_660 dX3_begin_11 ?_
  refine wkgR_3_0 S X mG_383 dX3_begin_14 ?_
  refine lv_iload_n hx hb dX3_begin_17 rfl (lv_at hl 2 rfl) ?_
  obtain ⟨hi18, hg⟩ := gd_some hg
  refine wklA_13 (v := (xA σ 13 a1)) S X hi18 rfl dX3_begin_18 ?_
  rcases sw_0_9 ((xA σ 13 a1)) with hsw | hsw | hsw | hsw | hsw | hsw | hsw | hsw | hsw | hsw | hsw
  · refine lv_tableOut (tgt := 200) hx hb dX3_begin_19 hsw (by decide) ?_
    obtain ⟨hs0, hs1, hs2, hs3, hs4, hs5, hs6, hs7, hs8, hs9⟩ := swo_0_9 hsw
    have hg := (if_neg hs0).symm.trans hg
    have hg := (if_neg hs1).symm.trans hg
    have hg := (if_neg hs2).symm.trans hg
    have hg := (if_neg hs3).symm.trans hg
    have hg := (if_neg hs4).symm.trans hg
    have hg := (if_neg hs5).symm.trans hg
    have hg := (if_neg hs6).symm.trans hg
    have hg := (if_neg hs7).symm.trans hg
    have hg := (if_neg hs8).symm.trans hg
    have hg := (if_neg hs9).symm.trans hg
    exact w_X3_begin_b200 S hr hk hR X (lv_sub hl [1, 2] rfl) hg
  · refine lv_tableIn (off := 53) (tgt := 72) hx hb dX3_begin_19 (by rw [hsw]; decide) (by rw [hsw]; decide) (by rw [hsw]; decide) (by decide) ?_
    have hg := (if_pos hsw).symm.trans hg
    refine lv_iconst (v := 1) hx hb dX3_begin_72 (by decide) ?_
    refine lv_iload_n hx hb dX3_begin_73 rfl (lv_at hl 0 rfl) ?_
    obtain ⟨r74, τ74, hq74, hg⟩ := bd_some hg
    refine gc_Tl (As := [.int 1, .int (xA σ 14 a1)]) (rest := []) S X (k2_X0_value l dC dI ad kc sa va hq74 H.size) cw_X0_value mG_1826 rfl rfl hl.1 (Nat.le_of_ble_eq_true rfl) dX3_begin_74 ⟨by omega, by omega⟩ (fun H locs X => ?_)
    obtain ⟨rfl, rfl⟩ := fin_some hg
    exact gr_l S hr hk X dX3_begin_77
  · refine lv_tableIn (off := 59) (tgt := 78) hx hb dX3_begin_19 (by rw [hsw]; decide) (by rw [hsw]; decide) (by rw [hsw]; decide) (by decide) ?_
    have hg := (if_neg (by rw [hsw]; decide)).symm.trans hg
    have hg := (if_pos hsw).symm.trans hg
    refine lv_iconst (v := 3) hx hb dX3_begin_78 (by decide) ?_
    refine lv_iload_n hx hb dX3_begin_79 rfl (lv_at hl 0 rfl) ?_
    obtain ⟨r80, τ80, hq80, hg⟩ := bd_some hg
    refine gc_Tl (As := [.int 3, .int (xA σ 14 a1)]) (rest := []) S X (k2_X0_value l dC dI ad kc sa va hq80 H.size) cw_X0_value mG_1826 rfl rfl hl.1 (Nat.le_of_ble_eq_true rfl) dX3_begin_80 ⟨by omega, by omega⟩ (fun H locs X => ?_)
    obtain ⟨rfl, rfl⟩ := fin_some hg
    exact gr_l S hr hk X dX3_begin_83
  · refine lv_tableIn (off := 65) (tgt := 84) hx hb dX3_begin_19 (by rw [hsw]; decide) (by rw [hsw]; decide) (by rw [hsw]; decide) (by decide) ?_
    have hg := (if_neg (by rw [hsw]; decide)).symm.trans hg
    have hg := (if_neg (by rw [hsw]; decide)).symm.trans hg
    have hg := (if_pos hsw).symm.trans hg
    refine lv_aload_n hx hb dX3_begin_84 rfl (lv_at hl 1 rfl) ?_
    refine wkgR_0_1 S X mG_661 dX3_begin_85 ?_
    refine wkgR_2_7 S X mG_310 dX3_begin_88 ?_
    refine lv_iload_n hx hb dX3_begin_91 rfl (lv_at hl 0 rfl) ?_
    obtain ⟨hi92, hg⟩ := gd_some hg
    refine wklA_3 (v := (xA σ 3 (xA σ 14 a1))) S X hi92 rfl dX3_begin_92 ?_
    refine lv_if_le (tgt := 102) hx hb dX3_begin_93 (by decide) (fun c93 => ?_) (fun c93 => ?_)
    · have hg := (if_pos c93).symm.trans hg
      refine lv_bipush (v := 6) hx hb dX3_begin_102 (by decide) ?_
      refine lv_aload_n hx hb dX3_begin_104 rfl (lv_at hl 1 rfl) ?_
      refine wkgR_0_5 S X mG_668 dX3_begin_105 ?_
      refine lv_iload_n hx hb dX3_begin_108 rfl (lv_at hl 0 rfl) ?_
      obtain ⟨hi109, hg⟩ := gd_some hg
      refine wklA_43 (v := (xA σ 43 (xA σ 14 a1))) S X hi109 rfl dX3_begin_109 ?_
      obtain ⟨r110, τ110, hq110, hg⟩ := bd_some hg
      refine gc_Tl (As := [.int 6, .int (xA σ 43 (xA σ 14 a1))]) (rest := []) S X (k2_X0_value l dC dI ad kc sa va hq110 H.size) cw_X0_value mG_1826 rfl rfl hl.1 (Nat.le_of_ble_eq_true rfl) dX3_begin_110 ⟨by omega, by omega⟩ (fun H locs X => ?_)
      obtain ⟨rfl, rfl⟩ := fin_some hg
      exact gr_l S hr hk X dX3_begin_113
    · have hg := (if_neg c93).symm.trans hg
      refine lv_iconst (v := 2) hx hb dX3_begin_96 (by decide) ?_
      refine lv_iload_n hx hb dX3_begin_97 rfl (lv_at hl 0 rfl) ?_
      obtain ⟨r98, τ98, hq98, hg⟩ := bd_some hg
      refine gc_Tl (As := [.int 2, .int (xA σ 14 a1)]) (rest := []) S X (k2_X0_value l dC dI ad kc sa va hq98 H.size) cw_X0_value mG_1826 rfl rfl hl.1 (Nat.le_of_ble_eq_true rfl) dX3_begin_98 ⟨by omega, by omega⟩ (fun H locs X => ?_)
      obtain ⟨rfl, rfl⟩ := fin_some hg
      exact gr_l S hr hk X dX3_begin_101
  · refine lv_tableIn (off := 118) (tgt := 137) hx hb dX3_begin_19 (by rw [hsw]; decide) (by rw [hsw]; decide) (by rw [hsw]; decide) (by decide) ?_
    have hg := (if_neg (by rw [hsw]; decide)).symm.trans hg
    have hg := (if_neg (by rw [hsw]; decide)).symm.trans hg
    have hg := (if_neg (by rw [hsw]; decide)).symm.trans hg
    have hg := (if_pos hsw).symm.trans hg
    refine lv_iload_n hx hb dX3_begin_137 rfl (lv_at hl 3 rfl) ?_
    refine lv_if_ne (tgt := 200) hx hb dX3_begin_138 (by decide) (fun c138 => ?_) (fun c138 => ?_)
    · have hg := (if_neg c138).symm.trans hg
      exact w_X3_begin_b200 S hr hk hR X (lv_sub hl [1, 2] rfl) hg
    · have hg := (if_pos c138).symm.trans hg
      refine lv_aload_n hx hb dX3_begin_141 rfl (lv_at hl 1 rfl) ?_
      refine wkgR_0_9 S X mG_672 dX3_begin_142 ?_
      refine lv_aload_n hx hb dX3_begin_145 rfl (lv_at hl 1 rfl) ?_
      refine wkgI_41 (v := (gI σ 41)) S X mG_673 rfl dX3_begin_146 ?_
      refine lv_iload_n hx hb dX3_begin_149 rfl (lv_at hl 0 rfl) ?_
      refine lv_iadd hx hb dX3_begin_150 ?_
      obtain ⟨hi151, hg⟩ := gd_some hg
      refine wklB_13 (v := (xB σ 13 ((gI σ 41) + (xA σ 14 a1)))) S X hi151 rfl dX3_begin_151 ?_
      obtain ⟨rfl, rfl⟩ := fin_some hg
      exact gr_l S hr hk X dX3_begin_152
  · refine lv_tableIn (off := 181) (tgt := 200) hx hb dX3_begin_19 (by rw [hsw]; decide) (by rw [hsw]; decide) (by rw [hsw]; decide) (by decide) ?_
    have hg := (if_neg (by rw [hsw]; decide)).symm.trans hg
    have hg := (if_neg (by rw [hsw]; decide)).symm.trans hg
    have hg := (if_neg (by rw [hsw]; decide)).symm.trans hg
    have hg := (if_neg (by rw [hsw]; decide)).symm.trans hg
    have hg := (if_pos hsw).symm.trans hg
    exact w_X3_begin_b200 S hr hk hR X (lv_sub hl [1, 2] rfl) hg
  · refine lv_tableIn (off := 181) (tgt := 200) hx hb dX3_begin_19 (by rw [hsw]; decide) (by rw [hsw]; decide) (by rw [hsw]; decide) (by decide) ?_
    have hg := (if_neg (by rw [hsw]; decide)).symm.trans hg
    have hg := (if_neg (by rw [hsw]; decide)).symm.trans hg
    have hg := (if_neg (by rw [hsw]; decide)).symm.trans hg
    have hg := (if_neg (by rw [hsw]; decide)).symm.trans hg
    have hg := (if_neg (by rw [hsw]; decide)).symm.trans hg
    have hg := (if_pos hsw).symm.trans hg
    exact w_X3_begin_b200 S hr hk hR X (lv_sub hl [1, 2] rfl) hg
  · refine lv_tableIn (off := 181) (tgt := 200) hx hb dX3_begin_19 (by rw [hsw]; decide) (by rw [hsw]; decide) (by rw [hsw]; decide) (by decide) ?_
    have hg := (if_neg (by rw [hsw]; decide)).symm.trans hg
    have hg := (if_neg (by rw [hsw]; decide)).symm.trans hg
    have hg := (if_neg (by rw [hsw]; decide)).symm.trans hg
    have hg := (if_neg (by rw [hsw]; decide)).symm.trans hg
    have hg := (if_neg (by rw [hsw]; decide)).symm.trans hg
    have hg := (if_neg (by rw [hsw]; decide)).symm.trans hg
    have hg := (if_pos hsw).symm.trans hg
    exact w_X3_begin_b200 S hr hk hR X (lv_sub hl [1, 2] rfl) hg
  · refine lv_tableIn (off := 181) (tgt := 200) hx hb dX3_begin_19 (by rw [hsw]; decide) (by rw [hsw]; decide) (by rw [hsw]; decide) (by decide) ?_
    have hg := (if_neg (by rw [hsw]; decide)).symm.trans hg
    have hg := (if_neg (by rw [hsw]; decide)).symm.trans hg
    have hg := (if_neg (by rw [hsw]; decide)).symm.trans hg
    have hg := (if_neg (by rw [hsw]; decide)).symm.trans hg
    have hg := (if_neg (by rw [hsw]; decide)).symm.trans hg
    have hg := (if_neg (by rw [hsw]; decide)).symm.trans hg
    have hg := (if_neg (by rw [hsw]; decide)).symm.trans hg
    have hg := (if_pos hsw).symm.trans hg
    exact w_X3_begin_b200 S hr hk hR X (lv_sub hl [1, 2] rfl) hg
  · refine lv_tableIn (off := 134) (tgt := 153) hx hb dX3_begin_19 (by rw [hsw]; decide) (by rw [hsw]; decide) (by rw [hsw]; decide) (by decide) ?_
    have hg := (if_neg (by rw [hsw]; decide)).symm.trans hg
    have hg := (if_neg (by rw [hsw]; decide)).symm.trans hg
    have hg := (if_neg (by rw [hsw]; decide)).symm.trans hg
    have hg := (if_neg (by rw [hsw]; decide)).symm.trans hg
    have hg := (if_neg (by rw [hsw]; decide)).symm.trans hg
    have hg := (if_neg (by rw [hsw]; decide)).symm.trans hg
    have hg := (if_neg (by rw [hsw]; decide)).symm.trans hg
    have hg := (if_neg (by rw [hsw]; decide)).symm.trans hg
    have hg := (if_pos hsw).symm.trans hg
    refine lv_aload_n hx hb dX3_begin_153 rfl (lv_at hl 1 rfl) ?_
    refine lv_iload_n hx hb dX3_begin_154 rfl (lv_at hl 2 rfl) ?_
    obtain ⟨r155, τ155, hq155, hg⟩ := bd_some hg
    refine gc_Vi (As := [.int a1]) (rest := []) (q0 := 0) (ci := 6) S X (k2_X3_isPartOfCall l dC dI ad kc sa va hq155 H.size) cw_X3_isPartOfCall mG_1904 rfl rfl rfl rfl rfl hl.1 (Nat.le_of_ble_eq_true rfl) dX3_begin_155 ⟨by omega, by omega⟩ (fun H locs X => ?_)
    refine lv_if_eq (tgt := 200) hx hb dX3_begin_158 (by decide) (fun c158 => ?_) (fun c158 => ?_)
    · have hg := (if_pos c158).symm.trans hg
      exact w_X3_begin_b200 S hr hk hR X (lv_sub hl [1, 2] rfl) hg
    · have hg := (if_neg c158).symm.trans hg
      refine lv_aload_n hx hb dX3_begin_161 rfl (lv_at hl 1 rfl) ?_
      refine lv_iconst (v := 5) hx hb dX3_begin_162 (by decide) ?_
      refine lv_aload_n hx hb dX3_begin_163 rfl (lv_at hl 1 rfl) ?_
      refine wkgR_0_6 S X mG_669 dX3_begin_164 ?_
      refine lv_aload_n hx hb dX3_begin_167 rfl (lv_at hl 1 rfl) ?_
      refine wkgR_0_0 S X mG_660 dX3_begin_168 ?_
      refine wkgR_3_1 S X mG_388 dX3_begin_171 ?_
      refine lv_aload_n hx hb dX3_begin_174 rfl (lv_at hl 1 rfl) ?_
      refine wkgR_0_0 S X mG_660 dX3_begin_175 ?_
      refine wkgR_3_3 S X mG_398 dX3_begin_178 ?_
      refine lv_iload_n hx hb dX3_begin_181 rfl (lv_at hl 2 rfl) ?_
      obtain ⟨hi182, hg⟩ := gd_some hg
      refine wklA_16 (v := (xA τ155 16 a1)) S X hi182 rfl dX3_begin_182 ?_
      obtain ⟨hi183, hg⟩ := gd_some hg
      refine wklA_14 (v := (xA τ155 14 (xA τ155 16 a1))) S X hi183 rfl dX3_begin_183 ?_
      refine lv_aload_n hx hb dX3_begin_184 rfl (lv_at hl 1 rfl) ?_
      refine wkgR_0_0 S X mG_660 dX3_begin_185 ?_
      refine wkgR_3_2 S X mG_394 dX3_begin_188 ?_
      refine lv_iload_n hx hb dX3_begin_191 rfl (lv_at hl 2 rfl) ?_
      obtain ⟨hi192, hg⟩ := gd_some hg
      refine wklA_15 (v := (xA τ155 15 a1)) S X hi192 rfl dX3_begin_192 ?_
      obtain ⟨r193, τ193, hq193, hg⟩ := bd_some hg
      refine gc_Vi (As := [.int (xA τ155 14 (xA τ155 16 a1)), .int (xA τ155 15 a1)]) (rest := [.int 5, .ref (ad 0)]) (q0 := 1) (ci := 3) S X (k2_X0_makePart l dC dI ad kc sa va hq193 H.size) cw_X0_makePart mG_1908 rfl rfl rfl rfl rfl hl.1 (Nat.le_of_ble_eq_true rfl) dX3_begin_193 ⟨by omega, by omega⟩ (fun H locs X => ?_)
      obtain ⟨r196, τ196, hq196, hg⟩ := bd_some hg
      refine gc_Vl (As := [.int 5, .int r193]) (rest := []) (q0 := 0) (ci := 6) S X (k2_X3_made l dC dI ad kc sa va hq196 H.size) cw_X3_made mG_1900 rfl rfl rfl rfl rfl hl.1 (Nat.le_of_ble_eq_true rfl) dX3_begin_196 ⟨by omega, by omega⟩ (fun H locs X => ?_)
      obtain ⟨rfl, rfl⟩ := fin_some hg
      exact gr_l S hr hk X dX3_begin_199
  · refine lv_tableIn (off := 95) (tgt := 114) hx hb dX3_begin_19 (by rw [hsw]; decide) (by rw [hsw]; decide) (by rw [hsw]; decide) (by decide) ?_
    have hg := (if_neg (by rw [hsw]; decide)).symm.trans hg
    have hg := (if_neg (by rw [hsw]; decide)).symm.trans hg
    have hg := (if_neg (by rw [hsw]; decide)).symm.trans hg
    have hg := (if_neg (by rw [hsw]; decide)).symm.trans hg
    have hg := (if_neg (by rw [hsw]; decide)).symm.trans hg
    have hg := (if_neg (by rw [hsw]; decide)).symm.trans hg
    have hg := (if_neg (by rw [hsw]; decide)).symm.trans hg
    have hg := (if_neg (by rw [hsw]; decide)).symm.trans hg
    have hg := (if_neg (by rw [hsw]; decide)).symm.trans hg
    have hg := (if_pos hsw).symm.trans hg
    refine lv_aload_n hx hb dX3_begin_114 rfl (lv_at hl 1 rfl) ?_
    refine lv_iconst (v := 4) hx hb dX3_begin_115 (by decide) ?_
    refine lv_aload_n hx hb dX3_begin_116 rfl (lv_at hl 1 rfl) ?_
    refine wkgR_0_6 S X mG_669 dX3_begin_117 ?_
    refine lv_iload_n hx hb dX3_begin_120 rfl (lv_at hl 0 rfl) ?_
    refine lv_aload_n hx hb dX3_begin_121 rfl (lv_at hl 1 rfl) ?_
    refine wkgR_0_1 S X mG_661 dX3_begin_122 ?_
    refine wkgR_2_1 S X mG_288 dX3_begin_125 ?_
    refine lv_iload_n hx hb dX3_begin_128 rfl (lv_at hl 0 rfl) ?_
    obtain ⟨hi129, hg⟩ := gd_some hg
    refine wklA_2 (v := (xA σ 2 (xA σ 14 a1))) S X hi129 rfl dX3_begin_129 ?_
    obtain ⟨r130, τ130, hq130, hg⟩ := bd_some hg
    refine gc_Vi (As := [.int (xA σ 14 a1), .int (xA σ 2 (xA σ 14 a1))]) (rest := [.int 4, .ref (ad 0)]) (q0 := 1) (ci := 3) S X (k2_X0_makeObject l dC dI ad kc sa va hq130 H.size) cw_X0_makeObject mG_1896 rfl rfl rfl rfl rfl hl.1 (Nat.le_of_ble_eq_true rfl) dX3_begin_130 ⟨by omega, by omega⟩ (fun H locs X => ?_)
    obtain ⟨r133, τ133, hq133, hg⟩ := bd_some hg
    refine gc_Vl (As := [.int 4, .int r130]) (rest := []) (q0 := 0) (ci := 6) S X (k2_X3_made l dC dI ad kc sa va hq133 H.size) cw_X3_made mG_1900 rfl rfl rfl rfl rfl hl.1 (Nat.le_of_ble_eq_true rfl) dX3_begin_133 ⟨by omega, by omega⟩ (fun H locs X => ?_)
    obtain ⟨rfl, rfl⟩ := fin_some hg
    exact gr_l S hr hk X dX3_begin_136
end MX3_begin
set_option maxRecDepth 100000 in
theorem k2_X3_begin (l : Launch) (dC : Nat → ClassId) (dI : Nat → Nat → Nat) {Z : ZZ} (ad : Nat → Nat) (kc : Nat → ClassId) (sa va : Nat) {σ τ : S5} {a1 : Int32} {a2 : Int32} {r : Int64} (hg : f_X3_begin a1 a2 σ = some (r, τ)) (sz : Nat) : Met l yX3_begin (Cond.code yX3_begin cX3_begin 4 (some .long) :: uG) { frames := 2, cells := 0, slots := 0, locals := 47 } (gPc (dC, dI) (tK kc) (wK ad kc sa va) Z [.ref (ad 0), .int a1, .int a2] σ sz) (gQl (dC, dI) (tK kc) (wK ad kc sa va) (va_A (wK ad kc sa va σ) sz) r τ) 0 0 (va_A (wK ad kc sa va σ) sz) :=
  g_start (by decide) (Nat.le_of_ble_eq_true rfl) (fun p e s m below meth c ls S hr hk X hl => w_X3_begin S hr hk ⟨Nat.le_refl _, Nat.le_refl _⟩ X hl hg)
section MX3_giveInt
variable {p : Program} {l : Launch} {e : Env} {R : Room} {s : State} {m : MethodId} {args : Array Value} {below : List Frame} {meth : Method} {c : Code} {dC : Nat → ClassId} {dI : Nat → Nat → Nat} {Z : ZZ} {A : Nat → Prop} {ad : Nat → Nat} {kc : Nat → ClassId} {sa va : Nat} {r : Unit} {τ : S5}
set_option maxHeartbeats 4000000 in
set_option maxRecDepth 100000 in
theorem w_X3_giveInt {σ : S5} {a1 : Int32} {H : Heap} {locs : List Loc} {ls : Array Slot} (S : CallFix p m c cX3_giveInt 2 s args uG RX3) (hr : meth.sig.returnType = none) (hk : meth.locks = false) (hR : 1 ≤ R.frames ∧ 22 ≤ R.locals)
    (X : gX (dC, dI) (tK kc) (wK ad kc sa va) Z A s σ H locs) (hl : lv_has ls 2 [(0, .ref (ad 0)), (1, .int a1)]) (hg : f_X3_giveInt a1 σ = some (r, τ)) : W p l e R s m args below meth c H locs 0 0 (MQ below (gQv (dC, dI) (tK kc) (wK ad kc sa va) A r τ) args s 0 0 A) (F0 m 0 ls []) := by
  have hx := S.1
  have hb := S.2.1
  have hown := S.2.2.2.1
  have hu := S.2.2.2.2
  unfold f_X3_giveInt at hg
  refine lv_aload_n hx hb dX3_giveInt_0 rfl (lv_at hl 0 rfl) ?_
  refine lv_iconst (v := 1) hx hb dX3_giveInt_1 (by decide) ?_
  refine lv_iload_n hx hb dX3_giveInt_2 rfl (lv_at hl 1 rfl) ?_
  obtain ⟨r3, τ3, hq3, hg⟩ := bd_some hg
  refine gc_Tl (As := [.int 1, .int a1]) (rest := [.ref (ad 0)]) S X (k2_X0_value l dC dI ad kc sa va hq3 H.size) cw_X0_value mG_1826 rfl rfl hl.1 (Nat.le_of_ble_eq_true rfl) dX3_giveInt_3 ⟨by omega, by omega⟩ (fun H locs X => ?_)
  obtain ⟨r6, τ6, hq6, hg⟩ := bd_some hg
  refine gc_Vv (As := [.long r3]) (rest := []) (q0 := 0) (ci := 6) S X (k2_X3_give l dC dI ad kc sa va hq6 H.size) cw_X3_give mG_1837 rfl rfl rfl rfl rfl hl.1 (Nat.le_of_ble_eq_true rfl) dX3_giveInt_6 ⟨by omega, by omega⟩ (fun H locs X => ?_)
  obtain ⟨-, rfl⟩ := fin_some hg
  exact gr_v S hr hk X dX3_giveInt_9
end MX3_giveInt
set_option maxRecDepth 100000 in
theorem k2_X3_giveInt (l : Launch) (dC : Nat → ClassId) (dI : Nat → Nat → Nat) {Z : ZZ} (ad : Nat → Nat) (kc : Nat → ClassId) (sa va : Nat) {σ τ : S5} {a1 : Int32} {r : Unit} (hg : f_X3_giveInt a1 σ = some (r, τ)) (sz : Nat) : Met l yX3_giveInt (Cond.code yX3_giveInt cX3_giveInt 2 none :: uG) { frames := 1, cells := 0, slots := 0, locals := 22 } (gPc (dC, dI) (tK kc) (wK ad kc sa va) Z [.ref (ad 0), .int a1] σ sz) (gQv (dC, dI) (tK kc) (wK ad kc sa va) (va_A (wK ad kc sa va σ) sz) r τ) 0 0 (va_A (wK ad kc sa va σ) sz) :=
  g_start (by decide) (Nat.le_of_ble_eq_true rfl) (fun p e s m below meth c ls S hr hk X hl => w_X3_giveInt S hr hk ⟨Nat.le_refl _, Nat.le_refl _⟩ X hl hg)
section MX3_giveTruth
variable {p : Program} {l : Launch} {e : Env} {R : Room} {s : State} {m : MethodId} {args : Array Value} {below : List Frame} {meth : Method} {c : Code} {dC : Nat → ClassId} {dI : Nat → Nat → Nat} {Z : ZZ} {A : Nat → Prop} {ad : Nat → Nat} {kc : Nat → ClassId} {sa va : Nat} {r : Unit} {τ : S5}
set_option maxHeartbeats 4000000 in
set_option maxRecDepth 100000 in
theorem w_X3_giveTruth_b11 {σ : S5} {u0 : Int32} {u1 : Int32} {H : Heap} {locs : List Loc} {ls : Array Slot} (S : CallFix p m c cX3_giveTruth 2 s args uG RX3) (hr : meth.sig.returnType = none) (hk : meth.locks = false) (hR : 1 ≤ R.frames ∧ 22 ≤ R.locals)
    (X : gX (dC, dI) (tK kc) (wK ad kc sa va) Z A s σ H locs) (hl : lv_has ls 2 []) (hg : f_X3_giveTruth_b11 u0 u1 σ = some (r, τ)) : W p l e R s m args below meth c H locs 0 0 (MQ below (gQv (dC, dI) (tK kc) (wK ad kc sa va) A r τ) args s 0 0 A) (F0 m 11 ls [.int u0, .int u1, .ref (ad 0)]) := by
  have hx := S.1
  have hb := S.2.1
  have hown := S.2.2.2.1
  have hu := S.2.2.2.2
  unfold f_X3_giveTruth_b11 at hg
  obtain ⟨r11, τ11, hq11, hg⟩ := bd_some hg
  refine gc_Tl (As := [.int u1, .int u0]) (rest := [.ref (ad 0)]) S X (k2_X0_value l dC dI ad kc sa va hq11 H.size) cw_X0_value mG_1826 rfl rfl hl.1 (Nat.le_of_ble_eq_true rfl) dX3_giveTruth_11 ⟨by omega, by omega⟩ (fun H locs X => ?_)
  obtain ⟨r14, τ14, hq14, hg⟩ := bd_some hg
  refine gc_Vv (As := [.long r11]) (rest := []) (q0 := 0) (ci := 6) S X (k2_X3_give l dC dI ad kc sa va hq14 H.size) cw_X3_give mG_1837 rfl rfl rfl rfl rfl hl.1 (Nat.le_of_ble_eq_true rfl) dX3_giveTruth_14 ⟨by omega, by omega⟩ (fun H locs X => ?_)
  obtain ⟨-, rfl⟩ := fin_some hg
  exact gr_v S hr hk X dX3_giveTruth_17
set_option maxHeartbeats 4000000 in
set_option maxRecDepth 100000 in
theorem w_X3_giveTruth {σ : S5} {a1 : Int32} {H : Heap} {locs : List Loc} {ls : Array Slot} (S : CallFix p m c cX3_giveTruth 2 s args uG RX3) (hr : meth.sig.returnType = none) (hk : meth.locks = false) (hR : 1 ≤ R.frames ∧ 22 ≤ R.locals)
    (X : gX (dC, dI) (tK kc) (wK ad kc sa va) Z A s σ H locs) (hl : lv_has ls 2 [(0, .ref (ad 0)), (1, .int a1)]) (hg : f_X3_giveTruth a1 σ = some (r, τ)) : W p l e R s m args below meth c H locs 0 0 (MQ below (gQv (dC, dI) (tK kc) (wK ad kc sa va) A r τ) args s 0 0 A) (F0 m 0 ls []) := by
  have hx := S.1
  have hb := S.2.1
  have hown := S.2.2.2.1
  have hu := S.2.2.2.2
  unfold f_X3_giveTruth at hg
  refine lv_aload_n hx hb dX3_giveTruth_0 rfl (lv_at hl 0 rfl) ?_
  refine lv_iconst (v := 3) hx hb dX3_giveTruth_1 (by decide) ?_
  refine lv_iload_n hx hb dX3_giveTruth_2 rfl (lv_at hl 1 rfl) ?_
  refine lv_if_eq (tgt := 10) hx hb dX3_giveTruth_3 (by decide) (fun c3 => ?_) (fun c3 => ?_)
  · have hg := (if_pos c3).symm.trans hg
    refine lv_iconst (v := 0) hx hb dX3_giveTruth_10 (by decide) ?_
    exact w_X3_giveTruth_b11 S hr hk hR X (lv_sub hl [] rfl) hg
  · have hg := (if_neg c3).symm.trans hg
    refine lv_iconst (v := 1) hx hb dX3_giveTruth_6 (by decide) ?_
    refine lv_goto (tgt := 11) hx hb dX3_giveTruth_7 (by decide) ?_
    exact w_X3_giveTruth_b11 S hr hk hR X (lv_sub hl [] rfl) hg
end MX3_giveTruth
set_option maxRecDepth 100000 in
theorem k2_X3_giveTruth (l : Launch) (dC : Nat → ClassId) (dI : Nat → Nat → Nat) {Z : ZZ} (ad : Nat → Nat) (kc : Nat → ClassId) (sa va : Nat) {σ τ : S5} {a1 : Int32} {r : Unit} (hg : f_X3_giveTruth a1 σ = some (r, τ)) (sz : Nat) : Met l yX3_giveTruth (Cond.code yX3_giveTruth cX3_giveTruth 2 none :: uG) { frames := 1, cells := 0, slots := 0, locals := 22 } (gPc (dC, dI) (tK kc) (wK ad kc sa va) Z [.ref (ad 0), .int a1] σ sz) (gQv (dC, dI) (tK kc) (wK ad kc sa va) (va_A (wK ad kc sa va σ) sz) r τ) 0 0 (va_A (wK ad kc sa va σ) sz) :=
  g_start (by decide) (Nat.le_of_ble_eq_true rfl) (fun p e s m below meth c ls S hr hk X hl => w_X3_giveTruth S hr hk ⟨Nat.le_refl _, Nat.le_refl _⟩ X hl hg)
section MX3_divide
variable {p : Program} {l : Launch} {e : Env} {R : Room} {s : State} {m : MethodId} {args : Array Value} {below : List Frame} {meth : Method} {c : Code} {dC : Nat → ClassId} {dI : Nat → Nat → Nat} {Z : ZZ} {A : Nat → Prop} {ad : Nat → Nat} {kc : Nat → ClassId} {sa va : Nat} {r : Unit} {τ : S5}
set_option maxHeartbeats 4000000 in
set_option maxRecDepth 100000 in
theorem w_X3_divide_b29 {σ : S5} {u0 : Int32} {H : Heap} {locs : List Loc} {ls : Array Slot} (S : CallFix p m c cX3_divide 4 s args uG RX3) (hr : meth.sig.returnType = none) (hk : meth.locks = false) (hR : 2 ≤ R.frames ∧ 43 ≤ R.locals)
    (X : gX (dC, dI) (tK kc) (wK ad kc sa va) Z A s σ H locs) (hl : lv_has ls 4 []) (hg : f_X3_divide_b29 u0 σ = some (r, τ)) : W p l e R s m args below meth c H locs 0 0 (MQ below (gQv (dC, dI) (tK kc) (wK ad kc sa va) A r τ) args s 0 0 A) (F0 m 29 ls [.int u0, .ref (ad 0)]) := by
  have hx := S.1
  have hb := S.2.1
  have hown := S.2.2.2.1
  have hu := S.2.2.2.2
  unfold f_X3_divide_b29 at hg
  obtain ⟨r29, τ29, hq29, hg⟩ := bd_some hg
  refine gc_Vv (As := [.int u0]) (rest := []) (q0 := 0) (ci := 6) S X (k2_X3_giveInt l dC dI ad kc sa va hq29 H.size) cw_X3_giveInt mG_1964 rfl rfl rfl rfl rfl hl.1 (Nat.le_of_ble_eq_true rfl) dX3_divide_29 ⟨by omega, by omega⟩ (fun H locs X => ?_)
  obtain ⟨-, rfl⟩ := fin_some hg
  exact gr_v S hr hk X dX3_divide_32
set_option maxHeartbeats 4000000 in
set_option maxRecDepth 100000 in
theorem w_X3_divide {σ : S5} {a1 : Int32} {a2 : Int32} {a3 : Int32} {H : Heap} {locs : List Loc} {ls : Array Slot} (S : CallFix p m c cX3_divide 4 s args uG RX3) (hr : meth.sig.returnType = none) (hk : meth.locks = false) (hR : 2 ≤ R.frames ∧ 43 ≤ R.locals)
    (X : gX (dC, dI) (tK kc) (wK ad kc sa va) Z A s σ H locs) (hl : lv_has ls 4 [(0, .ref (ad 0)), (1, .int a1), (2, .int a2), (3, .int a3)]) (hg : f_X3_divide a1 a2 a3 σ = some (r, τ)) : W p l e R s m args below meth c H locs 0 0 (MQ below (gQv (dC, dI) (tK kc) (wK ad kc sa va) A r τ) args s 0 0 A) (F0 m 0 ls []) := by
  have hx := S.1
  have hb := S.2.1
  have hown := S.2.2.2.1
  have hu := S.2.2.2.2
  unfold f_X3_divide at hg
  refine lv_iload_n hx hb dX3_divide_0 rfl (lv_at hl 3 rfl) ?_
  refine lv_if_ne (tgt := 13) hx hb dX3_divide_1 (by decide) (fun c1 => ?_) (fun c1 => ?_)
  · have hg := (if_neg c1).symm.trans hg
    refine lv_aload_n hx hb dX3_divide_13 rfl (lv_at hl 0 rfl) ?_
    refine lv_iload_n hx hb dX3_divide_14 rfl (lv_at hl 1 rfl) ?_
    refine lv_bipush (v := 47) hx hb dX3_divide_15 (by decide) ?_
    refine lv_icmp_ne (tgt := 26) hx hb dX3_divide_17 (by decide) (fun c17 => ?_) (fun c17 => ?_)
    · have hg := (if_neg c17).symm.trans hg
      refine lv_iload_n hx hb dX3_divide_26 rfl (lv_at hl 2 rfl) ?_
      refine lv_iload_n hx hb dX3_divide_27 rfl (lv_at hl 3 rfl) ?_
      obtain ⟨hz28, hg⟩ := gz_some hg
      refine lv_irem hx hb dX3_divide_28 (hz28) ?_
      exact w_X3_divide_b29 S hr hk hR X (lv_sub hl [] rfl) hg
    · have hg := (if_pos c17).symm.trans hg
      refine lv_iload_n hx hb dX3_divide_20 rfl (lv_at hl 2 rfl) ?_
      refine lv_iload_n hx hb dX3_divide_21 rfl (lv_at hl 3 rfl) ?_
      obtain ⟨hz22, hg⟩ := gz_some hg
      refine lv_idiv hx hb dX3_divide_22 (hz22) ?_
      refine lv_goto (tgt := 29) hx hb dX3_divide_23 (by decide) ?_
      exact w_X3_divide_b29 S hr hk hR X (lv_sub hl [] rfl) hg
  · have hg := (if_pos c1).symm.trans hg
    refine lv_aload_n hx hb dX3_divide_4 rfl (lv_at hl 0 rfl) ?_
    refine lv_iconst (v := 2) hx hb dX3_divide_5 (by decide) ?_
    refine lv_iconst (v := 2) hx hb dX3_divide_6 (by decide) ?_
    obtain ⟨r7, τ7, hq7, hg⟩ := bd_some hg
    refine gc_Vv (As := [.int 2, .int 2]) (rest := []) (q0 := 0) (ci := 6) S X (k2_X3_endWith l dC dI ad kc sa va hq7 H.size) cw_X3_endWith mG_1846 rfl rfl rfl rfl rfl hl.1 (Nat.le_of_ble_eq_true rfl) dX3_divide_7 ⟨by omega, by omega⟩ (fun H locs X => ?_)
    refine lv_goto (tgt := 32) hx hb dX3_divide_10 (by decide) ?_
    obtain ⟨-, rfl⟩ := fin_some hg
    exact gr_v S hr hk X dX3_divide_32
end MX3_divide
set_option maxRecDepth 100000 in
theorem k2_X3_divide (l : Launch) (dC : Nat → ClassId) (dI : Nat → Nat → Nat) {Z : ZZ} (ad : Nat → Nat) (kc : Nat → ClassId) (sa va : Nat) {σ τ : S5} {a1 : Int32} {a2 : Int32} {a3 : Int32} {r : Unit} (hg : f_X3_divide a1 a2 a3 σ = some (r, τ)) (sz : Nat) : Met l yX3_divide (Cond.code yX3_divide cX3_divide 4 none :: uG) { frames := 2, cells := 0, slots := 0, locals := 43 } (gPc (dC, dI) (tK kc) (wK ad kc sa va) Z [.ref (ad 0), .int a1, .int a2, .int a3] σ sz) (gQv (dC, dI) (tK kc) (wK ad kc sa va) (va_A (wK ad kc sa va σ) sz) r τ) 0 0 (va_A (wK ad kc sa va σ) sz) :=
  g_start (by decide) (Nat.le_of_ble_eq_true rfl) (fun p e s m below meth c ls S hr hk X hl => w_X3_divide S hr hk ⟨Nat.le_refl _, Nat.le_refl _⟩ X hl hg)
section MX3_operate
variable {p : Program} {l : Launch} {e : Env} {R : Room} {s : State} {m : MethodId} {args : Array Value} {below : List Frame} {meth : Method} {c : Code} {dC : Nat → ClassId} {dI : Nat → Nat → Nat} {Z : ZZ} {A : Nat → Prop} {ad : Nat → Nat} {kc : Nat → ClassId} {sa va : Nat} {r : Unit} {τ : S5}
set_option maxHeartbeats 4000000 in
set_option maxRecDepth 100000 in
theorem w_X3_operate_b179 {σ : S5} {u0 : Int32} {H : Heap} {locs : List Loc} {ls : Array Slot} (S : CallFix p m c cX3_operate 8 s args uG RX3) (hr : meth.sig.returnType = none) (hk : meth.locks = false) (hR : 3 ≤ R.frames ∧ 66 ≤ R.locals)
    (X : gX (dC, dI) (tK kc) (wK ad kc sa va) Z A s σ H locs) (hl : lv_has ls 8 []) (hg : f_X3_operate_b179 u0 σ = some (r, τ)) : W p l e R s m args below meth c H locs 0 0 (MQ below (gQv (dC, dI) (tK kc) (wK ad kc sa va) A r τ) args s 0 0 A) (F0 m 179 ls [.int u0, .ref (ad 0)]) := by
  have hx := S.1
  have hb := S.2.1
  have hown := S.2.2.2.1
  have hu := S.2.2.2.2
  unfold f_X3_operate_b179 at hg
  obtain ⟨r179, τ179, hq179, hg⟩ := bd_some hg
  refine gc_Vv (As := [.int u0]) (rest := []) (q0 := 0) (ci := 6) S X (k2_X3_giveTruth l dC dI ad kc sa va hq179 H.size) cw_X3_giveTruth mG_1968 rfl rfl rfl rfl rfl hl.1 (Nat.le_of_ble_eq_true rfl) dX3_operate_179 ⟨by omega, by omega⟩ (fun H locs X => ?_)
  refine lv_goto (tgt := 194) hx hb dX3_operate_182 (by decide) ?_
  obtain ⟨-, rfl⟩ := fin_some hg
  exact gr_v S hr hk X dX3_operate_194
set_option maxHeartbeats 4000000 in
set_option maxRecDepth 100000 in
theorem w_X3_operate_b160 {σ : S5} {u0 : Int32} {H : Heap} {locs : List Loc} {ls : Array Slot} (S : CallFix p m c cX3_operate 8 s args uG RX3) (hr : meth.sig.returnType = none) (hk : meth.locks = false) (hR : 3 ≤ R.frames ∧ 66 ≤ R.locals)
    (X : gX (dC, dI) (tK kc) (wK ad kc sa va) Z A s σ H locs) (hl : lv_has ls 8 []) (hg : f_X3_operate_b160 u0 σ = some (r, τ)) : W p l e R s m args below meth c H locs 0 0 (MQ below (gQv (dC, dI) (tK kc) (wK ad kc sa va) A r τ) args s 0 0 A) (F0 m 160 ls [.int u0, .ref (ad 0)]) := by
  have hx := S.1
  have hb := S.2.1
  have hown := S.2.2.2.1
  have hu := S.2.2.2.2
  unfold f_X3_operate_b160 at hg
  obtain ⟨r160, τ160, hq160, hg⟩ := bd_some hg
  refine gc_Vv (As := [.int u0]) (rest := []) (q0 := 0) (ci := 6) S X (k2_X3_giveTruth l dC dI ad kc sa va hq160 H.size) cw_X3_giveTruth mG_1968 rfl rfl rfl rfl rfl hl.1 (Nat.le_of_ble_eq_true rfl) dX3_operate_160 ⟨by omega, by omega⟩ (fun H locs X => ?_)
  refine lv_goto (tgt := 194) hx hb dX3_operate_163 (by decide) ?_
  obtain ⟨-, rfl⟩ := fin_some hg
  exact gr_v S hr hk X dX3_operate_194
set_option maxHeartbeats 4000000 in
set_option maxRecDepth 100000 in
theorem w_X3_operate_b141 {σ : S5} {u0 : Int32} {H : Heap} {locs : List Loc} {ls : Array Slot} (S : CallFix p m c cX3_operate 8 s args uG RX3) (hr : meth.sig.returnType = none) (hk : meth.locks = false) (hR : 3 ≤ R.frames ∧ 66 ≤ R.locals)
    (X : gX (dC, dI) (tK kc) (wK ad kc sa va) Z A s σ H locs) (hl : lv_has ls 8 []) (hg : f_X3_operate_b141 u0 σ = some (r, τ)) : W p l e R s m args below meth c H locs 0 0 (MQ below (gQv (dC, dI) (tK kc) (wK ad kc sa va) A r τ) args s 0 0 A) (F0 m 141 ls [.int u0, .ref (ad 0)]) := by
  have hx := S.1
  have hb := S.2.1
  have hown := S.2.2.2.1
  have hu := S.2.2.2.2
  unfold f_X3_operate_b141 at hg
  obtain ⟨r141, τ141, hq141, hg⟩ := bd_some hg
  refine gc_Vv (As := [.int u0]) (rest := []) (q0 := 0) (ci := 6) S X (k2_X3_giveTruth l dC dI ad kc sa va hq141 H.size) cw_X3_giveTruth mG_1968 rfl rfl rfl rfl rfl hl.1 (Nat.le_of_ble_eq_true rfl) dX3_operate_141 ⟨by omega, by omega⟩ (fun H locs X => ?_)
  refine lv_goto (tgt := 194) hx hb dX3_operate_144 (by decide) ?_
  obtain ⟨-, rfl⟩ := fin_some hg
  exact gr_v S hr hk X dX3_operate_194
set_option maxHeartbeats 4000000 in
set_option maxRecDepth 100000 in
theorem w_X3_operate_b17 {σ : S5}  {H : Heap} {locs : List Loc} {ls : Array Slot} (S : CallFix p m c cX3_operate 8 s args uG RX3) (hr : meth.sig.returnType = none) (hk : meth.locks = false) (hR : 3 ≤ R.frames ∧ 66 ≤ R.locals)
    (X : gX (dC, dI) (tK kc) (wK ad kc sa va) Z A s σ H locs) (hl : lv_has ls 8 [(0, .ref (ad 0))]) (hg : f_X3_operate_b17  σ = some (r, τ)) : W p l e R s m args below meth c H locs 0 0 (MQ below (gQv (dC, dI) (tK kc) (wK ad kc sa va) A r τ) args s 0 0 A) (F0 m 17 ls []) := by
  have hx := S.1
  have hb := S.2.1
  have hown := S.2.2.2.1
  have hu := S.2.2.2.2
  unfold f_X3_operate_b17 at hg
  refine lv_aload_n hx hb dX3_operate_17 rfl (lv_at hl 0 rfl) ?_
  refine lv_iconst (v := 2) hx hb dX3_operate_18 (by decide) ?_
  refine lv_iconst (v := 4) hx hb dX3_operate_19 (by decide) ?_
  obtain ⟨r20, τ20, hq20, hg⟩ := bd_some hg
  refine gc_Vv (As := [.int 2, .int 4]) (rest := []) (q0 := 0) (ci := 6) S X (k2_X3_endWith l dC dI ad kc sa va hq20 H.size) cw_X3_endWith mG_1846 rfl rfl rfl rfl rfl hl.1 (Nat.le_of_ble_eq_true rfl) dX3_operate_20 ⟨by omega, by omega⟩ (fun H locs X => ?_)
  obtain ⟨-, rfl⟩ := fin_some hg
  exact gr_v S hr hk X dX3_operate_23
set_option maxHeartbeats 4000000 in
set_option maxRecDepth 100000 in
theorem w_X3_operate {σ : S5} {a1 : Int32} {a2 : Int64} {a4 : Int64} {H : Heap} {locs : List Loc} {ls : Array Slot} (S : CallFix p m c cX3_operate 8 s args uG RX3) (hr : meth.sig.returnType = none) (hk : meth.locks = false) (hR : 3 ≤ R.frames ∧ 66 ≤ R.locals)
    (X : gX (dC, dI) (tK kc) (wK ad kc sa va) Z A s σ H locs) (hl : lv_has ls 8 [(0, .ref (ad 0)), (1, .int a1), (2, .long a2), (4, .long a4)]) (hg : f_X3_operate a1 a2 a4 σ = some (r, τ)) : W p l e R s m args below meth c H locs 0 0 (MQ below (gQv (dC, dI) (tK kc) (wK ad kc sa va) A r τ) args s 0 0 A) (F0 m 0 ls []) := by
  have hx := S.1
  have hb := S.2.1
  have hown := S.2.2.2.1
  have hu := S.2.2.2.2
  unfold f_X3_operate at hg
  refine lv_lload_n hx hb dX3_operate_0 rfl (lv_at hl 2 rfl) ?_
  obtain ⟨r1, τ1, hq1, hg⟩ := bd_some hg
  refine gc_Ti (As := [.long a2]) (rest := []) S X (k2_X0_tag l dC dI ad kc sa va hq1 H.size) cw_X0_tag mG_1834 rfl rfl hl.1 (Nat.le_of_ble_eq_true rfl) dX3_operate_1 ⟨by omega, by omega⟩ (fun H locs X => ?_)
  refine lv_iconst (v := 1) hx hb dX3_operate_4 (by decide) ?_
  refine lv_icmp_ne (tgt := 17) hx hb dX3_operate_5 (by decide) (fun c5 => ?_) (fun c5 => ?_)
  · have hg := (if_neg c5).symm.trans hg
    exact w_X3_operate_b17 S hr hk hR X (lv_sub hl [0] rfl) hg
  · have hg := (if_pos c5).symm.trans hg
    refine lv_lload hx hb dX3_operate_8 (lv_at hl 3 rfl) ?_
    obtain ⟨r10, τ10, hq10, hg⟩ := bd_some hg
    refine gc_Ti (As := [.long a4]) (rest := []) S X (k2_X0_tag l dC dI ad kc sa va hq10 H.size) cw_X0_tag mG_1834 rfl rfl hl.1 (Nat.le_of_ble_eq_true rfl) dX3_operate_10 ⟨by omega, by omega⟩ (fun H locs X => ?_)
    refine lv_iconst (v := 1) hx hb dX3_operate_13 (by decide) ?_
    refine lv_icmp_eq (tgt := 24) hx hb dX3_operate_14 (by decide) (fun c14 => ?_) (fun c14 => ?_)
    · have hg := (if_pos c14).symm.trans hg
      refine lv_lload_n hx hb dX3_operate_24 rfl (lv_at hl 2 rfl) ?_
      refine lv_l2i (v := ((a2 : Int64).toInt32)) hx hb dX3_operate_25 rfl ?_
      refine lv_istore (lv' := [(6, .int ((a2 : Int64).toInt32)), (0, .ref (ad 0)), (1, .int a1), (2, .long a2), (4, .long a4)]) hx hb dX3_operate_26 hl (by decide) rfl (fun ls hl => ?_)
      refine lv_lload hx hb dX3_operate_28 (lv_at hl 4 rfl) ?_
      refine lv_l2i (v := ((a4 : Int64).toInt32)) hx hb dX3_operate_30 rfl ?_
      refine lv_istore (lv' := [(7, .int ((a4 : Int64).toInt32)), (6, .int ((a2 : Int64).toInt32)), (0, .ref (ad 0)), (1, .int a1), (2, .long a2), (4, .long a4)]) hx hb dX3_operate_31 hl (by decide) rfl (fun ls hl => ?_)
      refine lv_iload_n hx hb dX3_operate_33 rfl (lv_at hl 3 rfl) ?_
      by_cases hs0 : a1 = 42
      · have hg := (if_pos hs0).symm.trans hg
        refine lv_lookup (off := 82) (tgt := 116) hx hb dX3_operate_34 (by decide) (by rw [hs0]; decide) (by decide) ?_
        refine lv_aload_n hx hb dX3_operate_116 rfl (lv_at hl 2 rfl) ?_
        refine lv_iload hx hb dX3_operate_117 (lv_at hl 1 rfl) ?_
        refine lv_iload hx hb dX3_operate_119 (lv_at hl 0 rfl) ?_
        refine lv_imul hx hb dX3_operate_121 ?_
        obtain ⟨r122, τ122, hq122, hg⟩ := bd_some hg
        refine gc_Vv (As := [.int (((a2 : Int64).toInt32) * ((a4 : Int64).toInt32))]) (rest := []) (q0 := 0) (ci := 6) S X (k2_X3_giveInt l dC dI ad kc sa va hq122 H.size) cw_X3_giveInt mG_1964 rfl rfl rfl rfl rfl hl.1 (Nat.le_of_ble_eq_true rfl) dX3_operate_122 ⟨by omega, by omega⟩ (fun H locs X => ?_)
        refine lv_goto (tgt := 194) hx hb dX3_operate_125 (by decide) ?_
        obtain ⟨-, rfl⟩ := fin_some hg
        exact gr_v S hr hk X dX3_operate_194
      have hg := (if_neg hs0).symm.trans hg
      by_cases hs1 : a1 = 43
      · have hg := (if_pos hs1).symm.trans hg
        refine lv_lookup (off := 58) (tgt := 92) hx hb dX3_operate_34 (by decide) (by rw [hs1]; decide) (by decide) ?_
        refine lv_aload_n hx hb dX3_operate_92 rfl (lv_at hl 2 rfl) ?_
        refine lv_iload hx hb dX3_operate_93 (lv_at hl 1 rfl) ?_
        refine lv_iload hx hb dX3_operate_95 (lv_at hl 0 rfl) ?_
        refine lv_iadd hx hb dX3_operate_97 ?_
        obtain ⟨r98, τ98, hq98, hg⟩ := bd_some hg
        refine gc_Vv (As := [.int (((a2 : Int64).toInt32) + ((a4 : Int64).toInt32))]) (rest := []) (q0 := 0) (ci := 6) S X (k2_X3_giveInt l dC dI ad kc sa va hq98 H.size) cw_X3_giveInt mG_1964 rfl rfl rfl rfl rfl hl.1 (Nat.le_of_ble_eq_true rfl) dX3_operate_98 ⟨by omega, by omega⟩ (fun H locs X => ?_)
        refine lv_goto (tgt := 194) hx hb dX3_operate_101 (by decide) ?_
        obtain ⟨-, rfl⟩ := fin_some hg
        exact gr_v S hr hk X dX3_operate_194
      have hg := (if_neg hs1).symm.trans hg
      by_cases hs2 : a1 = 45
      · have hg := (if_pos hs2).symm.trans hg
        refine lv_lookup (off := 70) (tgt := 104) hx hb dX3_operate_34 (by decide) (by rw [hs2]; decide) (by decide) ?_
        refine lv_aload_n hx hb dX3_operate_104 rfl (lv_at hl 2 rfl) ?_
        refine lv_iload hx hb dX3_operate_105 (lv_at hl 1 rfl) ?_
        refine lv_iload hx hb dX3_operate_107 (lv_at hl 0 rfl) ?_
        refine lv_isub hx hb dX3_operate_109 ?_
        obtain ⟨r110, τ110, hq110, hg⟩ := bd_some hg
        refine gc_Vv (As := [.int (((a2 : Int64).toInt32) - ((a4 : Int64).toInt32))]) (rest := []) (q0 := 0) (ci := 6) S X (k2_X3_giveInt l dC dI ad kc sa va hq110 H.size) cw_X3_giveInt mG_1964 rfl rfl rfl rfl rfl hl.1 (Nat.le_of_ble_eq_true rfl) dX3_operate_110 ⟨by omega, by omega⟩ (fun H locs X => ?_)
        refine lv_goto (tgt := 194) hx hb dX3_operate_113 (by decide) ?_
        obtain ⟨-, rfl⟩ := fin_some hg
        exact gr_v S hr hk X dX3_operate_194
      have hg := (if_neg hs2).symm.trans hg
      by_cases hs3 : a1 = 60
      · have hg := (if_pos hs3).symm.trans hg
        refine lv_lookup (off := 94) (tgt := 128) hx hb dX3_operate_34 (by decide) (by rw [hs3]; decide) (by decide) ?_
        refine lv_aload_n hx hb dX3_operate_128 rfl (lv_at hl 2 rfl) ?_
        refine lv_iload hx hb dX3_operate_129 (lv_at hl 1 rfl) ?_
        refine lv_iload hx hb dX3_operate_131 (lv_at hl 0 rfl) ?_
        refine lv_icmp_ge (tgt := 140) hx hb dX3_operate_133 (by decide) (fun c133 => ?_) (fun c133 => ?_)
        · have hg := (if_pos c133).symm.trans hg
          refine lv_iconst (v := 0) hx hb dX3_operate_140 (by decide) ?_
          exact w_X3_operate_b141 S hr hk hR X (lv_sub hl [] rfl) hg
        · have hg := (if_neg c133).symm.trans hg
          refine lv_iconst (v := 1) hx hb dX3_operate_136 (by decide) ?_
          refine lv_goto (tgt := 141) hx hb dX3_operate_137 (by decide) ?_
          exact w_X3_operate_b141 S hr hk hR X (lv_sub hl [] rfl) hg
      have hg := (if_neg hs3).symm.trans hg
      by_cases hs4 : a1 = 129
      · have hg := (if_pos hs4).symm.trans hg
        refine lv_lookup (off := 113) (tgt := 147) hx hb dX3_operate_34 (by decide) (by rw [hs4]; decide) (by decide) ?_
        refine lv_aload_n hx hb dX3_operate_147 rfl (lv_at hl 2 rfl) ?_
        refine lv_iload hx hb dX3_operate_148 (lv_at hl 1 rfl) ?_
        refine lv_iload hx hb dX3_operate_150 (lv_at hl 0 rfl) ?_
        refine lv_icmp_ne (tgt := 159) hx hb dX3_operate_152 (by decide) (fun c152 => ?_) (fun c152 => ?_)
        · have hg := (if_neg c152).symm.trans hg
          refine lv_iconst (v := 0) hx hb dX3_operate_159 (by decide) ?_
          exact w_X3_operate_b160 S hr hk hR X (lv_sub hl [] rfl) hg
        · have hg := (if_pos c152).symm.trans hg
          refine lv_iconst (v := 1) hx hb dX3_operate_155 (by decide) ?_
          refine lv_goto (tgt := 160) hx hb dX3_operate_156 (by decide) ?_
          exact w_X3_operate_b160 S hr hk hR X (lv_sub hl [] rfl) hg
      have hg := (if_neg hs4).symm.trans hg
      by_cases hs5 : a1 = 130
      · have hg := (if_pos hs5).symm.trans hg
        refine lv_lookup (off := 132) (tgt := 166) hx hb dX3_operate_34 (by decide) (by rw [hs5]; decide) (by decide) ?_
        refine lv_aload_n hx hb dX3_operate_166 rfl (lv_at hl 2 rfl) ?_
        refine lv_iload hx hb dX3_operate_167 (lv_at hl 1 rfl) ?_
        refine lv_iload hx hb dX3_operate_169 (lv_at hl 0 rfl) ?_
        refine lv_icmp_gt (tgt := 178) hx hb dX3_operate_171 (by decide) (fun c171 => ?_) (fun c171 => ?_)
        · have hg := (if_pos c171).symm.trans hg
          refine lv_iconst (v := 0) hx hb dX3_operate_178 (by decide) ?_
          exact w_X3_operate_b179 S hr hk hR X (lv_sub hl [] rfl) hg
        · have hg := (if_neg c171).symm.trans hg
          refine lv_iconst (v := 1) hx hb dX3_operate_174 (by decide) ?_
          refine lv_goto (tgt := 179) hx hb dX3_operate_175 (by decide) ?_
          exact w_X3_operate_b179 S hr hk hR X (lv_sub hl [] rfl) hg
      have hg := (if_neg hs5).symm.trans hg
      refine lv_lookup (off := 151) (tgt := 185) hx hb dX3_operate_34 (by decide) (by show Op.lookupswitch.offset [(42, 82), (43, 58), (45, 70), (60, 94), (129, 113), (130, 132)] 151 (a1).toInt = 151; simp only [Op.lookupswitch.offset, lk_ne (a := 42) hs0 (by decide), lk_ne (a := 43) hs1 (by decide), lk_ne (a := 45) hs2 (by decide), lk_ne (a := 60) hs3 (by decide), lk_ne (a := 129) hs4 (by decide), lk_ne (a := 130) hs5 (by decide), if_false]) (by decide) ?_
      refine lv_aload_n hx hb dX3_operate_185 rfl (lv_at hl 2 rfl) ?_
      refine lv_iload_n hx hb dX3_operate_186 rfl (lv_at hl 3 rfl) ?_
      refine lv_iload hx hb dX3_operate_187 (lv_at hl 1 rfl) ?_
      refine lv_iload hx hb dX3_operate_189 (lv_at hl 0 rfl) ?_
      obtain ⟨r191, τ191, hq191, hg⟩ := bd_some hg
      refine gc_Vv (As := [.int a1, .int ((a2 : Int64).toInt32), .int ((a4 : Int64).toInt32)]) (rest := []) (q0 := 0) (ci := 6) S X (k2_X3_divide l dC dI ad kc sa va hq191 H.size) cw_X3_divide mG_1972 rfl rfl rfl rfl rfl hl.1 (Nat.le_of_ble_eq_true rfl) dX3_operate_191 ⟨by omega, by omega⟩ (fun H locs X => ?_)
      obtain ⟨-, rfl⟩ := fin_some hg
      exact gr_v S hr hk X dX3_operate_194
    · have hg := (if_neg c14).symm.trans hg
      exact w_X3_operate_b17 S hr hk hR X (lv_sub hl [0] rfl) hg
end MX3_operate
set_option maxRecDepth 100000 in
theorem k2_X3_operate (l : Launch) (dC : Nat → ClassId) (dI : Nat → Nat → Nat) {Z : ZZ} (ad : Nat → Nat) (kc : Nat → ClassId) (sa va : Nat) {σ τ : S5} {a1 : Int32} {a2 : Int64} {a4 : Int64} {r : Unit} (hg : f_X3_operate a1 a2 a4 σ = some (r, τ)) (sz : Nat) : Met l yX3_operate (Cond.code yX3_operate cX3_operate 8 none :: uG) { frames := 3, cells := 0, slots := 0, locals := 66 } (gPc (dC, dI) (tK kc) (wK ad kc sa va) Z [.ref (ad 0), .int a1, .long a2, .long a4] σ sz) (gQv (dC, dI) (tK kc) (wK ad kc sa va) (va_A (wK ad kc sa va σ) sz) r τ) 0 0 (va_A (wK ad kc sa va σ) sz) :=
  g_start (by decide) (Nat.le_of_ble_eq_true rfl) (fun p e s m below meth c ls S hr hk X hl => w_X3_operate S hr hk ⟨Nat.le_refl _, Nat.le_refl _⟩ X hl hg)
section MX3_fits
variable {p : Program} {l : Launch} {e : Env} {R : Room} {s : State} {m : MethodId} {args : Array Value} {below : List Frame} {meth : Method} {c : Code} {dC : Nat → ClassId} {dI : Nat → Nat → Nat} {Z : ZZ} {A : Nat → Prop} {ad : Nat → Nat} {kc : Nat → ClassId} {sa va : Nat} {r : Int32} {τ : S5}
set_option maxHeartbeats 4000000 in
set_option maxRecDepth 100000 in
theorem w_X3_fits_B115 {σ : S5} {rec115 : Int32 → Int32 → Int32 → Int32 → S5 → Option (Int32 × S5)} {v1 : Int32} {v2 : Int32} {v4 : Int32} {v5 : Int32} {H : Heap} {locs : List Loc} {ls : Array Slot} (S : CallFix p m c cX3_fits 6 s args uG RX3) (hr : meth.sig.returnType = (some .boolean)) (hk : meth.locks = false) (hR : 1 ≤ R.frames ∧ 21 ≤ R.locals)
    (hrec115 : ∀ (v1 : Int32) (v2 : Int32) (v4 : Int32) (v5 : Int32) (σ : S5) (H : Heap) (locs : List Loc) (ls : Array Slot), gX (dC, dI) (tK kc) (wK ad kc sa va) Z A s σ H locs → lv_has ls 6 [(0, .ref (ad 0)), (1, .int v1), (2, .int v2), (4, .int v4), (5, .int v5)] → rec115 v1 v2 v4 v5 σ = some (r, τ) → W p l e R s m args below meth c H locs 0 0 (MQ below (gQi (dC, dI) (tK kc) (wK ad kc sa va) A r τ) args s 0 0 A) (F0 m 115 ls []))
    (X : gX (dC, dI) (tK kc) (wK ad kc sa va) Z A s σ H locs) (hl : lv_has ls 6 [(0, .ref (ad 0)), (1, .int v1), (2, .int v2), (4, .int v4), (5, .int v5)]) (hg : f_X3_fits_B115 rec115 v1 v2 v4 v5 σ = some (r, τ)) : W p l e R s m args below meth c H locs 0 0 (MQ below (gQi (dC, dI) (tK kc) (wK ad kc sa va) A r τ) args s 0 0 A) (F0 m 115 ls []) := by
  have hx := S.1
  have hb := S.2.1
  have hown := S.2.2.2.1
  have hu := S.2.2.2.2
  unfold f_X3_fits_B115 at hg
  refine lv_iload hx hb dX3_fits_115 (lv_at hl 4 rfl) ?_
  refine lv_aload_n hx hb dX3_fits_117 rfl (lv_at hl 0 rfl) ?_
  refine wkgR_0_1 S X mG_661 dX3_fits_118 ?_
  refine wkgR_2_1 S X mG_288 dX3_fits_121 ?_
  refine lv_iload_n hx hb dX3_fits_124 rfl (lv_at hl 2 rfl) ?_
  obtain ⟨hi125, hg⟩ := gd_some hg
  refine wklA_2 (v := (xA σ 2 v2)) S X hi125 rfl dX3_fits_125 ?_
  refine lv_icmp_ge (tgt := 172) hx hb dX3_fits_126 (by decide) (fun c126 => ?_) (fun c126 => ?_)
  · have hg := (if_pos c126).symm.trans hg
    refine lv_iconst (v := 1) hx hb dX3_fits_172 (by decide) ?_
    obtain ⟨rfl, rfl⟩ := fin_some hg
    exact gr_z S hr hk X (Or.inr rfl) dX3_fits_173
  · have hg := (if_neg c126).symm.trans hg
    refine lv_aload_n hx hb dX3_fits_129 rfl (lv_at hl 0 rfl) ?_
    refine wkgR_0_9 S X mG_672 dX3_fits_130 ?_
    refine lv_aload_n hx hb dX3_fits_133 rfl (lv_at hl 0 rfl) ?_
    refine wkgI_41 (v := (gI σ 41)) S X mG_673 rfl dX3_fits_134 ?_
    refine lv_aload_n hx hb dX3_fits_137 rfl (lv_at hl 0 rfl) ?_
    refine wkgR_0_0 S X mG_660 dX3_fits_138 ?_
    refine wkgR_3_2 S X mG_394 dX3_fits_141 ?_
    refine lv_iload_n hx hb dX3_fits_144 rfl (lv_at hl 1 rfl) ?_
    obtain ⟨hi145, hg⟩ := gd_some hg
    refine wklA_15 (v := (xA σ 15 v1)) S X hi145 rfl dX3_fits_145 ?_
    refine lv_iadd hx hb dX3_fits_146 ?_
    refine lv_iload hx hb dX3_fits_147 (lv_at hl 4 rfl) ?_
    refine lv_iadd hx hb dX3_fits_149 ?_
    refine lv_aload_n hx hb dX3_fits_150 rfl (lv_at hl 0 rfl) ?_
    refine wkgR_0_6 S X mG_669 dX3_fits_151 ?_
    refine wkgR_1_0 S X mG_653 dX3_fits_154 ?_
    refine lv_iload hx hb dX3_fits_157 (lv_at hl 3 rfl) ?_
    refine lv_iconst (v := 1) hx hb dX3_fits_159 (by decide) ?_
    refine lv_iadd hx hb dX3_fits_160 ?_
    refine lv_iload hx hb dX3_fits_161 (lv_at hl 4 rfl) ?_
    refine lv_iadd hx hb dX3_fits_163 ?_
    obtain ⟨hi164, hg⟩ := gd_some hg
    refine wklB_14 (v := (xB σ 14 ((v4 + 1) + v5))) S X hi164 rfl dX3_fits_164 ?_
    obtain ⟨hi165, hg⟩ := gd_some hg
    refine wksB_13 S X hi165 dX3_fits_165 (fun H locs X => ?_)
    refine lv_iinc (v := (v5 + 1)) (lv' := [(5, .int (v5 + 1)), (0, .ref (ad 0)), (1, .int v1), (2, .int v2), (4, .int v4)]) hx hb dX3_fits_166 hl (k := 4) rfl (by rfl) (by decide) rfl (fun ls hl => ?_)
    refine lv_goto (tgt := 115) hx hb dX3_fits_169 (by decide) ?_
    exact hrec115 _ _ _ _ _ _ _ _ X (lv_sub hl [1, 2, 3, 4, 0] rfl) hg
set_option maxHeartbeats 4000000 in
set_option maxRecDepth 100000 in
theorem w_X3_fits_L115 (S : CallFix p m c cX3_fits 6 s args uG RX3) (hr : meth.sig.returnType = (some .boolean)) (hk : meth.locks = false) (hR : 1 ≤ R.frames ∧ 21 ≤ R.locals) : ∀ (n : Nat) (v1 : Int32) (v2 : Int32) (v4 : Int32) (v5 : Int32) (σ : S5) (H : Heap) (locs : List Loc) (ls : Array Slot), gX (dC, dI) (tK kc) (wK ad kc sa va) Z A s σ H locs → lv_has ls 6 [(0, .ref (ad 0)), (1, .int v1), (2, .int v2), (4, .int v4), (5, .int v5)] → f_X3_fits_L115  n v1 v2 v4 v5 σ = some (r, τ) → W p l e R s m args below meth c H locs 0 0 (MQ below (gQi (dC, dI) (tK kc) (wK ad kc sa va) A r τ) args s 0 0 A) (F0 m 115 ls []) := by
  intro n
  induction n with
  | zero => intro v1 v2 v4 v5 σ H locs ls X hl hg; cases hg
  | succ n ih => intro v1 v2 v4 v5 σ H locs ls X hl hg; exact w_X3_fits_B115 S hr hk hR ih X hl hg
set_option maxHeartbeats 4000000 in
set_option maxRecDepth 100000 in
theorem w_X3_fits {σ : S5} {a1 : Int32} {H : Heap} {locs : List Loc} {ls : Array Slot} (S : CallFix p m c cX3_fits 6 s args uG RX3) (hr : meth.sig.returnType = (some .boolean)) (hk : meth.locks = false) (hR : 1 ≤ R.frames ∧ 21 ≤ R.locals)
    (X : gX (dC, dI) (tK kc) (wK ad kc sa va) Z A s σ H locs) (hl : lv_has ls 6 [(0, .ref (ad 0)), (1, .int a1)]) (hg : f_X3_fits a1 σ = some (r, τ)) : W p l e R s m args below meth c H locs 0 0 (MQ below (gQi (dC, dI) (tK kc) (wK ad kc sa va) A r τ) args s 0 0 A) (F0 m 0 ls []) := by
  have hx := S.1
  have hb := S.2.1
  have hown := S.2.2.2.1
  have hu := S.2.2.2.2
  unfold f_X3_fits at hg
  refine lv_aload_n hx hb dX3_fits_0 rfl (lv_at hl 0 rfl) ?_
  refine wkgR_0_0 S X mG_660 dX3_fits_1 ?_
  refine wkgR_3_1 S X mG_388 dX3_fits_4 ?_
  refine lv_iload_n hx hb dX3_fits_7 rfl (lv_at hl 1 rfl) ?_
  obtain ⟨hi8, hg⟩ := gd_some hg
  refine wklA_14 (v := (xA σ 14 a1)) S X hi8 rfl dX3_fits_8 ?_
  refine lv_istore_n (lv' := [(2, .int (xA σ 14 a1)), (0, .ref (ad 0)), (1, .int a1)]) hx hb dX3_fits_9 rfl hl (by decide) rfl (fun ls hl => ?_)
  refine lv_aload_n hx hb dX3_fits_10 rfl (lv_at hl 1 rfl) ?_
  refine wkgJ_5 (v := (gJ σ 5)) S X mG_677 rfl dX3_fits_11 ?_
  obtain ⟨r14, τ14, hq14, hg⟩ := bd_some hg
  refine gc_Ti (As := [.long (gJ σ 5)]) (rest := []) S X (k2_X0_tag l dC dI ad kc sa va hq14 H.size) cw_X0_tag mG_1834 rfl rfl hl.1 (Nat.le_of_ble_eq_true rfl) dX3_fits_14 ⟨by omega, by omega⟩ (fun H locs X => ?_)
  refine lv_istore_n (lv' := [(3, .int r14), (2, .int (xA σ 14 a1)), (0, .ref (ad 0)), (1, .int a1)]) hx hb dX3_fits_17 rfl hl (by decide) rfl (fun ls hl => ?_)
  refine lv_aload_n hx hb dX3_fits_18 rfl (lv_at hl 2 rfl) ?_
  refine wkgJ_5 (v := (gJ τ14 5)) S X mG_677 rfl dX3_fits_19 ?_
  refine lv_l2i (v := (((gJ τ14 5) : Int64).toInt32)) hx hb dX3_fits_22 rfl ?_
  refine lv_istore (lv' := [(4, .int (((gJ τ14 5) : Int64).toInt32)), (3, .int r14), (2, .int (xA σ 14 a1)), (0, .ref (ad 0)), (1, .int a1)]) hx hb dX3_fits_23 hl (by decide) rfl (fun ls hl => ?_)
  refine lv_aload_n hx hb dX3_fits_25 rfl (lv_at hl 3 rfl) ?_
  refine wkgR_0_0 S X mG_660 dX3_fits_26 ?_
  refine wkgR_3_0 S X mG_383 dX3_fits_29 ?_
  refine lv_iload_n hx hb dX3_fits_32 rfl (lv_at hl 4 rfl) ?_
  obtain ⟨hi33, hg⟩ := gd_some hg
  refine wklA_13 (v := (xA τ14 13 a1)) S X hi33 rfl dX3_fits_33 ?_
  refine lv_bipush (v := 13) hx hb dX3_fits_34 (by decide) ?_
  refine lv_icmp_ne (tgt := 41) hx hb dX3_fits_36 (by decide) (fun c36 => ?_) (fun c36 => ?_)
  · have hg := (if_neg c36).symm.trans hg
    refine lv_aload_n hx hb dX3_fits_41 rfl (lv_at hl 3 rfl) ?_
    refine wkgR_0_0 S X mG_660 dX3_fits_42 ?_
    refine wkgR_3_0 S X mG_383 dX3_fits_45 ?_
    refine lv_iload_n hx hb dX3_fits_48 rfl (lv_at hl 4 rfl) ?_
    obtain ⟨hi49, hg⟩ := gd_some hg
    refine wklA_13 (v := (xA τ14 13 a1)) S X hi49 rfl dX3_fits_49 ?_
    refine lv_bipush (v := 12) hx hb dX3_fits_50 (by decide) ?_
    refine lv_icmp_ne (tgt := 72) hx hb dX3_fits_52 (by decide) (fun c52 => ?_) (fun c52 => ?_)
    · have hg := (if_neg c52).symm.trans hg
      refine lv_iload_n hx hb dX3_fits_72 rfl (lv_at hl 1 rfl) ?_
      refine lv_iconst (v := 3) hx hb dX3_fits_73 (by decide) ?_
      refine lv_icmp_ne (tgt := 89) hx hb dX3_fits_74 (by decide) (fun c74 => ?_) (fun c74 => ?_)
      · have hg := (if_neg c74).symm.trans hg
        refine lv_iload_n hx hb dX3_fits_89 rfl (lv_at hl 1 rfl) ?_
        refine lv_iconst (v := 4) hx hb dX3_fits_90 (by decide) ?_
        refine lv_icmp_ne (tgt := 110) hx hb dX3_fits_91 (by decide) (fun c91 => ?_) (fun c91 => ?_)
        · have hg := (if_neg c91).symm.trans hg
          refine lv_iconst (v := 0) hx hb dX3_fits_110 (by decide) ?_
          obtain ⟨rfl, rfl⟩ := fin_some hg
          exact gr_z S hr hk X (Or.inl rfl) dX3_fits_111
        · have hg := (if_pos c91).symm.trans hg
          refine lv_aload_n hx hb dX3_fits_94 rfl (lv_at hl 3 rfl) ?_
          refine wkgR_0_6 S X mG_669 dX3_fits_95 ?_
          refine wkgR_1_0 S X mG_653 dX3_fits_98 ?_
          refine lv_iload hx hb dX3_fits_101 (lv_at hl 0 rfl) ?_
          obtain ⟨hi103, hg⟩ := gd_some hg
          refine wklB_14 (v := (xB τ14 14 (((gJ τ14 5) : Int64).toInt32))) S X hi103 rfl dX3_fits_103 ?_
          refine lv_iload_n hx hb dX3_fits_104 rfl (lv_at hl 2 rfl) ?_
          refine lv_i2l (v := (((xA σ 14 a1)).toInt64)) hx hb dX3_fits_105 rfl ?_
          refine W.lcmp hx hb dX3_fits_106 ?_
          refine lv_if_eq (tgt := 112) hx hb dX3_fits_107 (by decide) (fun c107 => ?_) (fun c107 => ?_)
          · have hg := (if_pos c107).symm.trans hg
            refine lv_iconst (v := 0) hx hb dX3_fits_112 (by decide) ?_
            refine lv_istore (lv' := [(5, .int 0), (4, .int (((gJ τ14 5) : Int64).toInt32)), (3, .int r14), (2, .int (xA σ 14 a1)), (0, .ref (ad 0)), (1, .int a1)]) hx hb dX3_fits_113 hl (by decide) rfl (fun ls hl => ?_)
            exact w_X3_fits_L115 S hr hk hR _ _ _ _ _ _ _ _ _ X (lv_sub hl [4, 5, 3, 1, 0] rfl) hg
          · have hg := (if_neg c107).symm.trans hg
            refine lv_iconst (v := 0) hx hb dX3_fits_110 (by decide) ?_
            obtain ⟨rfl, rfl⟩ := fin_some hg
            exact gr_z S hr hk X (Or.inl rfl) dX3_fits_111
      · have hg := (if_pos c74).symm.trans hg
        refine lv_iload hx hb dX3_fits_77 (lv_at hl 0 rfl) ?_
        refine lv_iload_n hx hb dX3_fits_79 rfl (lv_at hl 2 rfl) ?_
        refine lv_icmp_ne (tgt := 87) hx hb dX3_fits_80 (by decide) (fun c80 => ?_) (fun c80 => ?_)
        · have hg := (if_neg c80).symm.trans hg
          refine lv_iconst (v := 0) hx hb dX3_fits_87 (by decide) ?_
          obtain ⟨rfl, rfl⟩ := fin_some hg
          exact gr_z S hr hk X (Or.inl rfl) dX3_fits_88
        · have hg := (if_pos c80).symm.trans hg
          refine lv_iconst (v := 1) hx hb dX3_fits_83 (by decide) ?_
          refine lv_goto (tgt := 88) hx hb dX3_fits_84 (by decide) ?_
          obtain ⟨rfl, rfl⟩ := fin_some hg
          exact gr_z S hr hk X (Or.inr rfl) dX3_fits_88
    · have hg := (if_pos c52).symm.trans hg
      refine lv_iload_n hx hb dX3_fits_55 rfl (lv_at hl 1 rfl) ?_
      refine lv_iconst (v := 1) hx hb dX3_fits_56 (by decide) ?_
      refine lv_icmp_ne (tgt := 70) hx hb dX3_fits_57 (by decide) (fun c57 => ?_) (fun c57 => ?_)
      · have hg := (if_neg c57).symm.trans hg
        refine lv_iconst (v := 0) hx hb dX3_fits_70 (by decide) ?_
        obtain ⟨rfl, rfl⟩ := fin_some hg
        exact gr_z S hr hk X (Or.inl rfl) dX3_fits_71
      · have hg := (if_pos c57).symm.trans hg
        refine lv_iload hx hb dX3_fits_60 (lv_at hl 0 rfl) ?_
        refine lv_iload_n hx hb dX3_fits_62 rfl (lv_at hl 2 rfl) ?_
        refine lv_icmp_ne (tgt := 70) hx hb dX3_fits_63 (by decide) (fun c63 => ?_) (fun c63 => ?_)
        · have hg := (if_neg c63).symm.trans hg
          refine lv_iconst (v := 0) hx hb dX3_fits_70 (by decide) ?_
          obtain ⟨rfl, rfl⟩ := fin_some hg
          exact gr_z S hr hk X (Or.inl rfl) dX3_fits_71
        · have hg := (if_pos c63).symm.trans hg
          refine lv_iconst (v := 1) hx hb dX3_fits_66 (by decide) ?_
          refine lv_goto (tgt := 71) hx hb dX3_fits_67 (by decide) ?_
          obtain ⟨rfl, rfl⟩ := fin_some hg
          exact gr_z S hr hk X (Or.inr rfl) dX3_fits_71
  · have hg := (if_pos c36).symm.trans hg
    refine lv_iconst (v := 1) hx hb dX3_fits_39 (by decide) ?_
    obtain ⟨rfl, rfl⟩ := fin_some hg
    exact gr_z S hr hk X (Or.inr rfl) dX3_fits_40
end MX3_fits
set_option maxRecDepth 100000 in
theorem k2_X3_fits (l : Launch) (dC : Nat → ClassId) (dI : Nat → Nat → Nat) {Z : ZZ} (ad : Nat → Nat) (kc : Nat → ClassId) (sa va : Nat) {σ τ : S5} {a1 : Int32} {r : Int32} (hg : f_X3_fits a1 σ = some (r, τ)) (sz : Nat) : Met l yX3_fits (Cond.code yX3_fits cX3_fits 6 (some .boolean) :: uG) { frames := 1, cells := 0, slots := 0, locals := 21 } (gPc (dC, dI) (tK kc) (wK ad kc sa va) Z [.ref (ad 0), .int a1] σ sz) (gQi (dC, dI) (tK kc) (wK ad kc sa va) (va_A (wK ad kc sa va σ) sz) r τ) 0 0 (va_A (wK ad kc sa va σ) sz) :=
  g_start (by decide) (Nat.le_of_ble_eq_true rfl) (fun p e s m below meth c ls S hr hk X hl => w_X3_fits S hr hk ⟨Nat.le_refl _, Nat.le_refl _⟩ X hl hg)
section MX3_choose
variable {p : Program} {l : Launch} {e : Env} {R : Room} {s : State} {m : MethodId} {args : Array Value} {below : List Frame} {meth : Method} {c : Code} {dC : Nat → ClassId} {dI : Nat → Nat → Nat} {Z : ZZ} {A : Nat → Prop} {ad : Nat → Nat} {kc : Nat → ClassId} {sa va : Nat} {r : Unit} {τ : S5}
set_option maxHeartbeats 4000000 in
set_option maxRecDepth 100000 in
theorem w_X3_choose_b53 {σ : S5}  {H : Heap} {locs : List Loc} {ls : Array Slot} (S : CallFix p m c cX3_choose 4 s args uG RX3) (hr : meth.sig.returnType = none) (hk : meth.locks = false) (hR : 2 ≤ R.frames ∧ 46 ≤ R.locals)
    (X : gX (dC, dI) (tK kc) (wK ad kc sa va) Z A s σ H locs) (hl : lv_has ls 4 [(0, .ref (ad 0))]) (hg : f_X3_choose_b53  σ = some (r, τ)) : W p l e R s m args below meth c H locs 0 0 (MQ below (gQv (dC, dI) (tK kc) (wK ad kc sa va) A r τ) args s 0 0 A) (F0 m 53 ls []) := by
  have hx := S.1
  have hb := S.2.1
  have hown := S.2.2.2.1
  have hu := S.2.2.2.2
  unfold f_X3_choose_b53 at hg
  refine lv_aload_n hx hb dX3_choose_53 rfl (lv_at hl 0 rfl) ?_
  refine lv_iconst (v := 2) hx hb dX3_choose_54 (by decide) ?_
  refine lv_iconst (v := 1) hx hb dX3_choose_55 (by decide) ?_
  obtain ⟨r56, τ56, hq56, hg⟩ := bd_some hg
  refine gc_Vv (As := [.int 2, .int 1]) (rest := []) (q0 := 0) (ci := 6) S X (k2_X3_endWith l dC dI ad kc sa va hq56 H.size) cw_X3_endWith mG_1846 rfl rfl rfl rfl rfl hl.1 (Nat.le_of_ble_eq_true rfl) dX3_choose_56 ⟨by omega, by omega⟩ (fun H locs X => ?_)
  obtain ⟨-, rfl⟩ := fin_some hg
  exact gr_v S hr hk X dX3_choose_59
set_option maxHeartbeats 4000000 in
set_option maxRecDepth 100000 in
theorem w_X3_choose_B4 {σ : S5} {rec4 : Int32 → Int32 → S5 → Option (Unit × S5)} {v2 : Int32} {v3 : Int32} {H : Heap} {locs : List Loc} {ls : Array Slot} (S : CallFix p m c cX3_choose 4 s args uG RX3) (hr : meth.sig.returnType = none) (hk : meth.locks = false) (hR : 2 ≤ R.frames ∧ 46 ≤ R.locals)
    (hrec4 : ∀ (v2 : Int32) (v3 : Int32) (σ : S5) (H : Heap) (locs : List Loc) (ls : Array Slot), gX (dC, dI) (tK kc) (wK ad kc sa va) Z A s σ H locs → lv_has ls 4 [(0, .ref (ad 0)), (2, .int v2), (3, .int v3)] → rec4 v2 v3 σ = some (r, τ) → W p l e R s m args below meth c H locs 0 0 (MQ below (gQv (dC, dI) (tK kc) (wK ad kc sa va) A r τ) args s 0 0 A) (F0 m 4 ls []))
    (X : gX (dC, dI) (tK kc) (wK ad kc sa va) Z A s σ H locs) (hl : lv_has ls 4 [(0, .ref (ad 0)), (2, .int v2), (3, .int v3)]) (hg : f_X3_choose_B4 rec4 v2 v3 σ = some (r, τ)) : W p l e R s m args below meth c H locs 0 0 (MQ below (gQv (dC, dI) (tK kc) (wK ad kc sa va) A r τ) args s 0 0 A) (F0 m 4 ls []) := by
  have hx := S.1
  have hb := S.2.1
  have hown := S.2.2.2.1
  have hu := S.2.2.2.2
  unfold f_X3_choose_B4 at hg
  refine lv_iload_n hx hb dX3_choose_4 rfl (lv_at hl 1 rfl) ?_
  refine lv_bipush (v := 10) hx hb dX3_choose_5 (by decide) ?_
  refine lv_icmp_ge (tgt := 53) hx hb dX3_choose_7 (by decide) (fun c7 => ?_) (fun c7 => ?_)
  · have hg := (if_pos c7).symm.trans hg
    exact w_X3_choose_b53 S hr hk hR X (lv_sub hl [0] rfl) hg
  · have hg := (if_neg c7).symm.trans hg
    refine lv_iload_n hx hb dX3_choose_10 rfl (lv_at hl 2 rfl) ?_
    refine lv_iconst (v := (-1)) hx hb dX3_choose_11 (by decide) ?_
    refine lv_icmp_eq (tgt := 53) hx hb dX3_choose_12 (by decide) (fun c12 => ?_) (fun c12 => ?_)
    · have hg := (if_pos c12).symm.trans hg
      exact w_X3_choose_b53 S hr hk hR X (lv_sub hl [0] rfl) hg
    · have hg := (if_neg c12).symm.trans hg
      refine lv_aload_n hx hb dX3_choose_15 rfl (lv_at hl 0 rfl) ?_
      refine lv_iload_n hx hb dX3_choose_16 rfl (lv_at hl 2 rfl) ?_
      obtain ⟨r17, τ17, hq17, hg⟩ := bd_some hg
      refine gc_Vi (As := [.int v3]) (rest := []) (q0 := 0) (ci := 6) S X (k2_X3_fits l dC dI ad kc sa va hq17 H.size) cw_X3_fits mG_1980 rfl rfl rfl rfl rfl hl.1 (Nat.le_of_ble_eq_true rfl) dX3_choose_17 ⟨by omega, by omega⟩ (fun H locs X => ?_)
      refine lv_if_eq (tgt := 37) hx hb dX3_choose_20 (by decide) (fun c20 => ?_) (fun c20 => ?_)
      · have hg := (if_pos c20).symm.trans hg
        refine lv_iinc (v := (v2 + 1)) (lv' := [(2, .int (v2 + 1)), (0, .ref (ad 0)), (3, .int v3)]) hx hb dX3_choose_37 hl (k := 1) rfl (by rfl) (by decide) rfl (fun ls hl => ?_)
        refine lv_aload_n hx hb dX3_choose_40 rfl (lv_at hl 1 rfl) ?_
        refine wkgR_0_0 S X mG_660 dX3_choose_41 ?_
        refine wkgR_3_4 S X mG_405 dX3_choose_44 ?_
        refine lv_iload_n hx hb dX3_choose_47 rfl (lv_at hl 2 rfl) ?_
        obtain ⟨hi48, hg⟩ := gd_some hg
        refine wklA_17 (v := (xA τ17 17 v3)) S X hi48 rfl dX3_choose_48 ?_
        refine lv_istore_n (lv' := [(3, .int (xA τ17 17 v3)), (2, .int (v2 + 1)), (0, .ref (ad 0))]) hx hb dX3_choose_49 rfl hl (by decide) rfl (fun ls hl => ?_)
        refine lv_goto (tgt := 4) hx hb dX3_choose_50 (by decide) ?_
        exact hrec4 _ _ _ _ _ _ X (lv_sub hl [2, 1, 0] rfl) hg
      · have hg := (if_neg c20).symm.trans hg
        refine lv_aload_n hx hb dX3_choose_23 rfl (lv_at hl 0 rfl) ?_
        refine lv_aload_n hx hb dX3_choose_24 rfl (lv_at hl 0 rfl) ?_
        refine wkgR_0_0 S X mG_660 dX3_choose_25 ?_
        refine wkgR_3_3 S X mG_398 dX3_choose_28 ?_
        refine lv_iload_n hx hb dX3_choose_31 rfl (lv_at hl 2 rfl) ?_
        obtain ⟨hi32, hg⟩ := gd_some hg
        refine wklA_16 (v := (xA τ17 16 v3)) S X hi32 rfl dX3_choose_32 ?_
        obtain ⟨r33, τ33, hq33, hg⟩ := bd_some hg
        refine gc_Vv (As := [.int (xA τ17 16 v3)]) (rest := []) (q0 := 0) (ci := 6) S X (k2_X3_workOn l dC dI ad kc sa va hq33 H.size) cw_X3_workOn mG_1879 rfl rfl rfl rfl rfl hl.1 (Nat.le_of_ble_eq_true rfl) dX3_choose_33 ⟨by omega, by omega⟩ (fun H locs X => ?_)
        obtain ⟨-, rfl⟩ := fin_some hg
        exact gr_v S hr hk X dX3_choose_36
set_option maxHeartbeats 4000000 in
set_option maxRecDepth 100000 in
theorem w_X3_choose_L4 (S : CallFix p m c cX3_choose 4 s args uG RX3) (hr : meth.sig.returnType = none) (hk : meth.locks = false) (hR : 2 ≤ R.frames ∧ 46 ≤ R.locals) : ∀ (n : Nat) (v2 : Int32) (v3 : Int32) (σ : S5) (H : Heap) (locs : List Loc) (ls : Array Slot), gX (dC, dI) (tK kc) (wK ad kc sa va) Z A s σ H locs → lv_has ls 4 [(0, .ref (ad 0)), (2, .int v2), (3, .int v3)] → f_X3_choose_L4  n v2 v3 σ = some (r, τ) → W p l e R s m args below meth c H locs 0 0 (MQ below (gQv (dC, dI) (tK kc) (wK ad kc sa va) A r τ) args s 0 0 A) (F0 m 4 ls []) := by
  intro n
  induction n with
  | zero => intro v2 v3 σ H locs ls X hl hg; cases hg
  | succ n ih => intro v2 v3 σ H locs ls X hl hg; exact w_X3_choose_B4 S hr hk hR ih X hl hg
set_option maxHeartbeats 4000000 in
set_option maxRecDepth 100000 in
theorem w_X3_choose {σ : S5} {a1 : Int32} {H : Heap} {locs : List Loc} {ls : Array Slot} (S : CallFix p m c cX3_choose 4 s args uG RX3) (hr : meth.sig.returnType = none) (hk : meth.locks = false) (hR : 2 ≤ R.frames ∧ 46 ≤ R.locals)
    (X : gX (dC, dI) (tK kc) (wK ad kc sa va) Z A s σ H locs) (hl : lv_has ls 4 [(0, .ref (ad 0)), (1, .int a1)]) (hg : f_X3_choose a1 σ = some (r, τ)) : W p l e R s m args below meth c H locs 0 0 (MQ below (gQv (dC, dI) (tK kc) (wK ad kc sa va) A r τ) args s 0 0 A) (F0 m 0 ls []) := by
  have hx := S.1
  have hb := S.2.1
  have hown := S.2.2.2.1
  have hu := S.2.2.2.2
  unfold f_X3_choose at hg
  refine lv_iconst (v := 0) hx hb dX3_choose_0 (by decide) ?_
  refine lv_istore_n (lv' := [(2, .int 0), (0, .ref (ad 0)), (1, .int a1)]) hx hb dX3_choose_1 rfl hl (by decide) rfl (fun ls hl => ?_)
  refine lv_iload_n hx hb dX3_choose_2 rfl (lv_at hl 2 rfl) ?_
  refine lv_istore_n (lv' := [(3, .int a1), (2, .int 0), (0, .ref (ad 0)), (1, .int a1)]) hx hb dX3_choose_3 rfl hl (by decide) rfl (fun ls hl => ?_)
  exact w_X3_choose_L4 S hr hk hR _ _ _ _ _ _ _ X (lv_sub hl [2, 1, 0] rfl) hg
end MX3_choose
set_option maxRecDepth 100000 in
theorem k2_X3_choose (l : Launch) (dC : Nat → ClassId) (dI : Nat → Nat → Nat) {Z : ZZ} (ad : Nat → Nat) (kc : Nat → ClassId) (sa va : Nat) {σ τ : S5} {a1 : Int32} {r : Unit} (hg : f_X3_choose a1 σ = some (r, τ)) (sz : Nat) : Met l yX3_choose (Cond.code yX3_choose cX3_choose 4 none :: uG) { frames := 2, cells := 0, slots := 0, locals := 46 } (gPc (dC, dI) (tK kc) (wK ad kc sa va) Z [.ref (ad 0), .int a1] σ sz) (gQv (dC, dI) (tK kc) (wK ad kc sa va) (va_A (wK ad kc sa va σ) sz) r τ) 0 0 (va_A (wK ad kc sa va σ) sz) :=
  g_start (by decide) (Nat.le_of_ble_eq_true rfl) (fun p e s m below meth c ls S hr hk X hl => w_X3_choose S hr hk ⟨Nat.le_refl _, Nat.le_refl _⟩ X hl hg)
section MX3_extendPart
variable {p : Program} {l : Launch} {e : Env} {R : Room} {s : State} {m : MethodId} {args : Array Value} {below : List Frame} {meth : Method} {c : Code} {dC : Nat → ClassId} {dI : Nat → Nat → Nat} {Z : ZZ} {A : Nat → Prop} {ad : Nat → Nat} {kc : Nat → ClassId} {sa va : Nat} {r : Unit} {τ : S5}
set_option maxHeartbeats 4000000 in
set_option maxRecDepth 100000 in
theorem w_X3_extendPart_B78 {σ : S5} {rec78 : Int32 → Int32 → Int32 → Int64 → Int32 → S5 → Option (Unit × S5)} {v3 : Int32} {v4 : Int32} {v5 : Int32} {v6 : Int64} {v8 : Int32} {H : Heap} {locs : List Loc} {ls : Array Slot} (S : CallFix p m c cX3_extendPart 9 s args uG RX3) (hr : meth.sig.returnType = none) (hk : meth.locks = false) (hR : 2 ≤ R.frames ∧ 46 ≤ R.locals)
    (hrec78 : ∀ (v3 : Int32) (v4 : Int32) (v5 : Int32) (v6 : Int64) (v8 : Int32) (σ : S5) (H : Heap) (locs : List Loc) (ls : Array Slot), gX (dC, dI) (tK kc) (wK ad kc sa va) Z A s σ H locs → lv_has ls 9 [(0, .ref (ad 0)), (3, .int v3), (4, .int v4), (5, .int v5), (6, .long v6), (8, .int v8)] → rec78 v3 v4 v5 v6 v8 σ = some (r, τ) → W p l e R s m args below meth c H locs 0 0 (MQ below (gQv (dC, dI) (tK kc) (wK ad kc sa va) A r τ) args s 0 0 A) (F0 m 78 ls []))
    (X : gX (dC, dI) (tK kc) (wK ad kc sa va) Z A s σ H locs) (hl : lv_has ls 9 [(0, .ref (ad 0)), (3, .int v3), (4, .int v4), (5, .int v5), (6, .long v6), (8, .int v8)]) (hg : f_X3_extendPart_B78 rec78 v3 v4 v5 v6 v8 σ = some (r, τ)) : W p l e R s m args below meth c H locs 0 0 (MQ below (gQv (dC, dI) (tK kc) (wK ad kc sa va) A r τ) args s 0 0 A) (F0 m 78 ls []) := by
  have hx := S.1
  have hb := S.2.1
  have hown := S.2.2.2.1
  have hu := S.2.2.2.2
  unfold f_X3_extendPart_B78 at hg
  refine lv_iload hx hb dX3_extendPart_78 (lv_at hl 5 rfl) ?_
  refine lv_iload hx hb dX3_extendPart_80 (lv_at hl 2 rfl) ?_
  refine lv_icmp_ge (tgt := 123) hx hb dX3_extendPart_82 (by decide) (fun c82 => ?_) (fun c82 => ?_)
  · have hg := (if_pos c82).symm.trans hg
    refine lv_aload_n hx hb dX3_extendPart_123 rfl (lv_at hl 0 rfl) ?_
    refine lv_dup hx hb dX3_extendPart_124 rfl ?_
    refine wkgI_40 (v := (gI σ 40)) S X mG_671 rfl dX3_extendPart_125 ?_
    refine lv_iload hx hb dX3_extendPart_128 (lv_at hl 2 rfl) ?_
    refine lv_isub hx hb dX3_extendPart_130 ?_
    refine wkpI_40 S X mG_671 dX3_extendPart_131 (fun H locs X => ?_)
    refine lv_aload_n hx hb dX3_extendPart_134 rfl (lv_at hl 0 rfl) ?_
    refine lv_lload hx hb dX3_extendPart_135 (lv_at hl 4 rfl) ?_
    obtain ⟨r137, τ137, hq137, hg⟩ := bd_some hg
    refine gc_Vv (As := [.long v6]) (rest := []) (q0 := 0) (ci := 6) S X (k2_X3_give l dC dI ad kc sa va hq137 H.size) cw_X3_give mG_1837 rfl rfl rfl rfl rfl hl.1 (Nat.le_of_ble_eq_true rfl) dX3_extendPart_137 ⟨by omega, by omega⟩ (fun H locs X => ?_)
    obtain ⟨-, rfl⟩ := fin_some hg
    exact gr_v S hr hk X dX3_extendPart_140
  · have hg := (if_neg c82).symm.trans hg
    refine lv_aload_n hx hb dX3_extendPart_85 rfl (lv_at hl 0 rfl) ?_
    refine wkgR_0_6 S X mG_669 dX3_extendPart_86 ?_
    refine wkgR_1_0 S X mG_653 dX3_extendPart_89 ?_
    refine lv_iload hx hb dX3_extendPart_92 (lv_at hl 3 rfl) ?_
    refine lv_iconst (v := 2) hx hb dX3_extendPart_94 (by decide) ?_
    refine lv_iadd hx hb dX3_extendPart_95 ?_
    refine lv_iload_n hx hb dX3_extendPart_96 rfl (lv_at hl 1 rfl) ?_
    refine lv_iadd hx hb dX3_extendPart_97 ?_
    refine lv_iload hx hb dX3_extendPart_98 (lv_at hl 5 rfl) ?_
    refine lv_iadd hx hb dX3_extendPart_100 ?_
    refine lv_aload_n hx hb dX3_extendPart_101 rfl (lv_at hl 0 rfl) ?_
    refine wkgR_0_7 S X mG_670 dX3_extendPart_102 ?_
    refine lv_aload_n hx hb dX3_extendPart_105 rfl (lv_at hl 0 rfl) ?_
    refine wkgI_40 (v := (gI σ 40)) S X mG_671 rfl dX3_extendPart_106 ?_
    refine lv_iload hx hb dX3_extendPart_109 (lv_at hl 2 rfl) ?_
    refine lv_isub hx hb dX3_extendPart_111 ?_
    refine lv_iload hx hb dX3_extendPart_112 (lv_at hl 5 rfl) ?_
    refine lv_iadd hx hb dX3_extendPart_114 ?_
    obtain ⟨hi115, hg⟩ := gd_some hg
    refine wklB_12 (v := (xB σ 12 (((gI σ 40) - v4) + v8))) S X hi115 rfl dX3_extendPart_115 ?_
    obtain ⟨hi116, hg⟩ := gd_some hg
    refine wksB_14 S X hi116 dX3_extendPart_116 (fun H locs X => ?_)
    refine lv_iinc (v := (v8 + 1)) (lv' := [(8, .int (v8 + 1)), (0, .ref (ad 0)), (3, .int v3), (4, .int v4), (5, .int v5), (6, .long v6)]) hx hb dX3_extendPart_117 hl (k := 5) rfl (by rfl) (by decide) rfl (fun ls hl => ?_)
    refine lv_goto (tgt := 78) hx hb dX3_extendPart_120 (by decide) ?_
    exact hrec78 _ _ _ _ _ _ _ _ _ X (lv_sub hl [1, 2, 3, 4, 5, 0] rfl) hg
set_option maxHeartbeats 4000000 in
set_option maxRecDepth 100000 in
theorem w_X3_extendPart_L78 (S : CallFix p m c cX3_extendPart 9 s args uG RX3) (hr : meth.sig.returnType = none) (hk : meth.locks = false) (hR : 2 ≤ R.frames ∧ 46 ≤ R.locals) : ∀ (n : Nat) (v3 : Int32) (v4 : Int32) (v5 : Int32) (v6 : Int64) (v8 : Int32) (σ : S5) (H : Heap) (locs : List Loc) (ls : Array Slot), gX (dC, dI) (tK kc) (wK ad kc sa va) Z A s σ H locs → lv_has ls 9 [(0, .ref (ad 0)), (3, .int v3), (4, .int v4), (5, .int v5), (6, .long v6), (8, .int v8)] → f_X3_extendPart_L78  n v3 v4 v5 v6 v8 σ = some (r, τ) → W p l e R s m args below meth c H locs 0 0 (MQ below (gQv (dC, dI) (tK kc) (wK ad kc sa va) A r τ) args s 0 0 A) (F0 m 78 ls []) := by
  intro n
  induction n with
  | zero => intro v3 v4 v5 v6 v8 σ H locs ls X hl hg; cases hg
  | succ n ih => intro v3 v4 v5 v6 v8 σ H locs ls X hl hg; exact w_X3_extendPart_B78 S hr hk hR ih X hl hg
set_option maxHeartbeats 4000000 in
set_option maxRecDepth 100000 in
theorem w_X3_extendPart_B34 {σ : S5} {rec34 : Int32 → Int32 → Int32 → Int32 → Int64 → Int32 → S5 → Option (Unit × S5)} {v2 : Int32} {v3 : Int32} {v4 : Int32} {v5 : Int32} {v6 : Int64} {v8 : Int32} {H : Heap} {locs : List Loc} {ls : Array Slot} (S : CallFix p m c cX3_extendPart 9 s args uG RX3) (hr : meth.sig.returnType = none) (hk : meth.locks = false) (hR : 2 ≤ R.frames ∧ 46 ≤ R.locals)
    (hrec34 : ∀ (v2 : Int32) (v3 : Int32) (v4 : Int32) (v5 : Int32) (v6 : Int64) (v8 : Int32) (σ : S5) (H : Heap) (locs : List Loc) (ls : Array Slot), gX (dC, dI) (tK kc) (wK ad kc sa va) Z A s σ H locs → lv_has ls 9 [(0, .ref (ad 0)), (2, .int v2), (3, .int v3), (4, .int v4), (5, .int v5), (6, .long v6), (8, .int v8)] → rec34 v2 v3 v4 v5 v6 v8 σ = some (r, τ) → W p l e R s m args below meth c H locs 0 0 (MQ below (gQv (dC, dI) (tK kc) (wK ad kc sa va) A r τ) args s 0 0 A) (F0 m 34 ls []))
    (X : gX (dC, dI) (tK kc) (wK ad kc sa va) Z A s σ H locs) (hl : lv_has ls 9 [(0, .ref (ad 0)), (2, .int v2), (3, .int v3), (4, .int v4), (5, .int v5), (6, .long v6), (8, .int v8)]) (hg : f_X3_extendPart_B34 rec34 v2 v3 v4 v5 v6 v8 σ = some (r, τ)) : W p l e R s m args below meth c H locs 0 0 (MQ below (gQv (dC, dI) (tK kc) (wK ad kc sa va) A r τ) args s 0 0 A) (F0 m 34 ls []) := by
  have hx := S.1
  have hb := S.2.1
  have hown := S.2.2.2.1
  have hu := S.2.2.2.2
  unfold f_X3_extendPart_B34 at hg
  refine lv_iload hx hb dX3_extendPart_34 (lv_at hl 6 rfl) ?_
  refine lv_iload_n hx hb dX3_extendPart_36 rfl (lv_at hl 2 rfl) ?_
  refine lv_icmp_ge (tgt := 75) hx hb dX3_extendPart_37 (by decide) (fun c37 => ?_) (fun c37 => ?_)
  · have hg := (if_pos c37).symm.trans hg
    refine lv_iconst (v := 0) hx hb dX3_extendPart_75 (by decide) ?_
    refine lv_istore (lv' := [(8, .int 0), (0, .ref (ad 0)), (2, .int v2), (3, .int v3), (4, .int v4), (5, .int v5), (6, .long v6)]) hx hb dX3_extendPart_76 hl (by decide) rfl (fun ls hl => ?_)
    exact w_X3_extendPart_L78 S hr hk hR _ _ _ _ _ _ _ _ _ _ X (lv_sub hl [1, 3, 4, 5, 6, 0] rfl) hg
  · have hg := (if_neg c37).symm.trans hg
    refine lv_aload_n hx hb dX3_extendPart_40 rfl (lv_at hl 0 rfl) ?_
    refine wkgR_0_6 S X mG_669 dX3_extendPart_41 ?_
    refine wkgR_1_0 S X mG_653 dX3_extendPart_44 ?_
    refine lv_iload hx hb dX3_extendPart_47 (lv_at hl 4 rfl) ?_
    refine lv_iconst (v := 2) hx hb dX3_extendPart_49 (by decide) ?_
    refine lv_iadd hx hb dX3_extendPart_50 ?_
    refine lv_iload hx hb dX3_extendPart_51 (lv_at hl 6 rfl) ?_
    refine lv_iadd hx hb dX3_extendPart_53 ?_
    refine lv_aload_n hx hb dX3_extendPart_54 rfl (lv_at hl 0 rfl) ?_
    refine wkgR_0_6 S X mG_669 dX3_extendPart_55 ?_
    refine wkgR_1_0 S X mG_653 dX3_extendPart_58 ?_
    refine lv_iload_n hx hb dX3_extendPart_61 rfl (lv_at hl 1 rfl) ?_
    refine lv_iconst (v := 2) hx hb dX3_extendPart_62 (by decide) ?_
    refine lv_iadd hx hb dX3_extendPart_63 ?_
    refine lv_iload hx hb dX3_extendPart_64 (lv_at hl 6 rfl) ?_
    refine lv_iadd hx hb dX3_extendPart_66 ?_
    obtain ⟨hi67, hg⟩ := gd_some hg
    refine wklB_14 (v := (xB σ 14 ((v2 + 2) + v8))) S X hi67 rfl dX3_extendPart_67 ?_
    obtain ⟨hi68, hg⟩ := gd_some hg
    refine wksB_14 S X hi68 dX3_extendPart_68 (fun H locs X => ?_)
    refine lv_iinc (v := (v8 + 1)) (lv' := [(8, .int (v8 + 1)), (0, .ref (ad 0)), (2, .int v2), (3, .int v3), (4, .int v4), (5, .int v5), (6, .long v6)]) hx hb dX3_extendPart_69 hl (k := 6) rfl (by rfl) (by decide) rfl (fun ls hl => ?_)
    refine lv_goto (tgt := 34) hx hb dX3_extendPart_72 (by decide) ?_
    exact hrec34 _ _ _ _ _ _ _ _ _ _ X (lv_sub hl [1, 2, 3, 4, 5, 6, 0] rfl) hg
set_option maxHeartbeats 4000000 in
set_option maxRecDepth 100000 in
theorem w_X3_extendPart_L34 (S : CallFix p m c cX3_extendPart 9 s args uG RX3) (hr : meth.sig.returnType = none) (hk : meth.locks = false) (hR : 2 ≤ R.frames ∧ 46 ≤ R.locals) : ∀ (n : Nat) (v2 : Int32) (v3 : Int32) (v4 : Int32) (v5 : Int32) (v6 : Int64) (v8 : Int32) (σ : S5) (H : Heap) (locs : List Loc) (ls : Array Slot), gX (dC, dI) (tK kc) (wK ad kc sa va) Z A s σ H locs → lv_has ls 9 [(0, .ref (ad 0)), (2, .int v2), (3, .int v3), (4, .int v4), (5, .int v5), (6, .long v6), (8, .int v8)] → f_X3_extendPart_L34  n v2 v3 v4 v5 v6 v8 σ = some (r, τ) → W p l e R s m args below meth c H locs 0 0 (MQ below (gQv (dC, dI) (tK kc) (wK ad kc sa va) A r τ) args s 0 0 A) (F0 m 34 ls []) := by
  intro n
  induction n with
  | zero => intro v2 v3 v4 v5 v6 v8 σ H locs ls X hl hg; cases hg
  | succ n ih => intro v2 v3 v4 v5 v6 v8 σ H locs ls X hl hg; exact w_X3_extendPart_B34 S hr hk hR ih X hl hg
set_option maxHeartbeats 4000000 in
set_option maxRecDepth 100000 in
theorem w_X3_extendPart {σ : S5} {a1 : Int32} {a2 : Int32} {a3 : Int32} {a4 : Int32} {H : Heap} {locs : List Loc} {ls : Array Slot} (S : CallFix p m c cX3_extendPart 9 s args uG RX3) (hr : meth.sig.returnType = none) (hk : meth.locks = false) (hR : 2 ≤ R.frames ∧ 46 ≤ R.locals)
    (X : gX (dC, dI) (tK kc) (wK ad kc sa va) Z A s σ H locs) (hl : lv_has ls 9 [(0, .ref (ad 0)), (1, .int a1), (2, .int a2), (3, .int a3), (4, .int a4)]) (hg : f_X3_extendPart a1 a2 a3 a4 σ = some (r, τ)) : W p l e R s m args below meth c H locs 0 0 (MQ below (gQv (dC, dI) (tK kc) (wK ad kc sa va) A r τ) args s 0 0 A) (F0 m 0 ls []) := by
  have hx := S.1
  have hb := S.2.1
  have hown := S.2.2.2.1
  have hu := S.2.2.2.2
  unfold f_X3_extendPart at hg
  refine lv_aload_n hx hb dX3_extendPart_0 rfl (lv_at hl 0 rfl) ?_
  refine wkgR_0_6 S X mG_669 dX3_extendPart_1 ?_
  refine lv_iload_n hx hb dX3_extendPart_4 rfl (lv_at hl 1 rfl) ?_
  refine lv_iload_n hx hb dX3_extendPart_5 rfl (lv_at hl 3 rfl) ?_
  refine lv_iload hx hb dX3_extendPart_6 (lv_at hl 4 rfl) ?_
  refine lv_iadd hx hb dX3_extendPart_8 ?_
  obtain ⟨r9, τ9, hq9, hg⟩ := bd_some hg
  refine gc_Vi (As := [.int a1, .int (a3 + a4)]) (rest := []) (q0 := 1) (ci := 3) S X (k2_X0_makePart l dC dI ad kc sa va hq9 H.size) cw_X0_makePart mG_1908 rfl rfl rfl rfl rfl hl.1 (Nat.le_of_ble_eq_true rfl) dX3_extendPart_9 ⟨by omega, by omega⟩ (fun H locs X => ?_)
  refine lv_istore (lv' := [(5, .int r9), (0, .ref (ad 0)), (1, .int a1), (2, .int a2), (3, .int a3), (4, .int a4)]) hx hb dX3_extendPart_12 hl (by decide) rfl (fun ls hl => ?_)
  refine lv_aload_n hx hb dX3_extendPart_14 rfl (lv_at hl 1 rfl) ?_
  refine lv_iconst (v := 5) hx hb dX3_extendPart_15 (by decide) ?_
  refine lv_iload hx hb dX3_extendPart_16 (lv_at hl 0 rfl) ?_
  obtain ⟨r18, τ18, hq18, hg⟩ := bd_some hg
  refine gc_Vl (As := [.int 5, .int r9]) (rest := []) (q0 := 0) (ci := 6) S X (k2_X3_made l dC dI ad kc sa va hq18 H.size) cw_X3_made mG_1900 rfl rfl rfl rfl rfl hl.1 (Nat.le_of_ble_eq_true rfl) dX3_extendPart_18 ⟨by omega, by omega⟩ (fun H locs X => ?_)
  refine lv_lstore (lv' := [(6, .long r18), (5, .int r9), (0, .ref (ad 0)), (1, .int a1), (2, .int a2), (3, .int a3), (4, .int a4)]) hx hb dX3_extendPart_21 hl (by decide) rfl (fun ls hl => ?_)
  refine lv_aload_n hx hb dX3_extendPart_23 rfl (lv_at hl 2 rfl) ?_
  obtain ⟨r24, τ24, hq24, hg⟩ := bd_some hg
  refine gc_Vi (As := []) (rest := []) (q0 := 0) (ci := 6) S X (k2_X3_isOver l dC dI ad kc sa va hq24 H.size) cw_X3_isOver mG_1922 rfl rfl rfl rfl rfl hl.1 (Nat.le_of_ble_eq_true rfl) dX3_extendPart_24 ⟨by omega, by omega⟩ (fun H locs X => ?_)
  refine lv_if_eq (tgt := 31) hx hb dX3_extendPart_27 (by decide) (fun c27 => ?_) (fun c27 => ?_)
  · have hg := (if_pos c27).symm.trans hg
    refine lv_iconst (v := 0) hx hb dX3_extendPart_31 (by decide) ?_
    refine lv_istore (lv' := [(8, .int 0), (6, .long r18), (5, .int r9), (0, .ref (ad 0)), (1, .int a1), (2, .int a2), (3, .int a3), (4, .int a4)]) hx hb dX3_extendPart_32 hl (by decide) rfl (fun ls hl => ?_)
    exact w_X3_extendPart_L34 S hr hk hR _ _ _ _ _ _ _ _ _ _ _ X (lv_sub hl [3, 5, 6, 7, 2, 1, 0] rfl) hg
  · have hg := (if_neg c27).symm.trans hg
    obtain ⟨-, rfl⟩ := fin_some hg
    exact gr_v S hr hk X dX3_extendPart_30
end MX3_extendPart
set_option maxRecDepth 100000 in
theorem k2_X3_extendPart (l : Launch) (dC : Nat → ClassId) (dI : Nat → Nat → Nat) {Z : ZZ} (ad : Nat → Nat) (kc : Nat → ClassId) (sa va : Nat) {σ τ : S5} {a1 : Int32} {a2 : Int32} {a3 : Int32} {a4 : Int32} {r : Unit} (hg : f_X3_extendPart a1 a2 a3 a4 σ = some (r, τ)) (sz : Nat) : Met l yX3_extendPart (Cond.code yX3_extendPart cX3_extendPart 9 none :: uG) { frames := 2, cells := 0, slots := 0, locals := 46 } (gPc (dC, dI) (tK kc) (wK ad kc sa va) Z [.ref (ad 0), .int a1, .int a2, .int a3, .int a4] σ sz) (gQv (dC, dI) (tK kc) (wK ad kc sa va) (va_A (wK ad kc sa va σ) sz) r τ) 0 0 (va_A (wK ad kc sa va σ) sz) :=
  g_start (by decide) (Nat.le_of_ble_eq_true rfl) (fun p e s m below meth c ls S hr hk X hl => w_X3_extendPart S hr hk ⟨Nat.le_refl _, Nat.le_refl _⟩ X hl hg)
section MX3_addNumbers
variable {p : Program} {l : Launch} {e : Env} {R : Room} {s : State} {m : MethodId} {args : Array Value} {below : List Frame} {meth : Method} {c : Code} {dC : Nat → ClassId} {dI : Nat → Nat → Nat} {Z : ZZ} {A : Nat → Prop} {ad : Nat → Nat} {kc : Nat → ClassId} {sa va : Nat} {r : Unit} {τ : S5}
set_option maxHeartbeats 4000000 in
set_option maxRecDepth 100000 in
theorem w_X3_addNumbers_b49 {σ : S5} {v1 : Int32} {v4 : Int32} {H : Heap} {locs : List Loc} {ls : Array Slot} (S : CallFix p m c cX3_addNumbers 5 s args uG RX3) (hr : meth.sig.returnType = none) (hk : meth.locks = false) (hR : 1 ≤ R.frames ∧ 22 ≤ R.locals)
    (X : gX (dC, dI) (tK kc) (wK ad kc sa va) Z A s σ H locs) (hl : lv_has ls 5 [(0, .ref (ad 0)), (1, .int v1), (4, .int v4)]) (hg : f_X3_addNumbers_b49 v1 v4 σ = some (r, τ)) : W p l e R s m args below meth c H locs 0 0 (MQ below (gQv (dC, dI) (tK kc) (wK ad kc sa va) A r τ) args s 0 0 A) (F0 m 49 ls []) := by
  have hx := S.1
  have hb := S.2.1
  have hown := S.2.2.2.1
  have hu := S.2.2.2.2
  unfold f_X3_addNumbers_b49 at hg
  refine lv_aload_n hx hb dX3_addNumbers_49 rfl (lv_at hl 0 rfl) ?_
  refine wkgR_0_2 S X mG_662 dX3_addNumbers_50 ?_
  refine lv_bipush (v := 9) hx hb dX3_addNumbers_53 (by decide) ?_
  refine lv_iload hx hb dX3_addNumbers_55 (lv_at hl 2 rfl) ?_
  refine lv_iload_n hx hb dX3_addNumbers_57 rfl (lv_at hl 1 rfl) ?_
  refine lv_iadd hx hb dX3_addNumbers_58 ?_
  refine wksA_40 S X (vp_in_iff.mpr (by decide)) dX3_addNumbers_59 (fun H locs X => ?_)
  obtain ⟨-, rfl⟩ := fin_some hg
  exact gr_v S hr hk X dX3_addNumbers_60
set_option maxHeartbeats 4000000 in
set_option maxRecDepth 100000 in
theorem w_X3_addNumbers {σ : S5} {a1 : Int32} {a2 : Int32} {a3 : Int32} {H : Heap} {locs : List Loc} {ls : Array Slot} (S : CallFix p m c cX3_addNumbers 5 s args uG RX3) (hr : meth.sig.returnType = none) (hk : meth.locks = false) (hR : 1 ≤ R.frames ∧ 22 ≤ R.locals)
    (X : gX (dC, dI) (tK kc) (wK ad kc sa va) Z A s σ H locs) (hl : lv_has ls 5 [(0, .ref (ad 0)), (1, .int a1), (2, .int a2), (3, .int a3)]) (hg : f_X3_addNumbers a1 a2 a3 σ = some (r, τ)) : W p l e R s m args below meth c H locs 0 0 (MQ below (gQv (dC, dI) (tK kc) (wK ad kc sa va) A r τ) args s 0 0 A) (F0 m 0 ls []) := by
  have hx := S.1
  have hb := S.2.1
  have hown := S.2.2.2.1
  have hu := S.2.2.2.2
  unfold f_X3_addNumbers at hg
  refine lv_aload_n hx hb dX3_addNumbers_0 rfl (lv_at hl 0 rfl) ?_
  refine wkgR_0_2 S X mG_662 dX3_addNumbers_1 ?_
  refine lv_bipush (v := 9) hx hb dX3_addNumbers_4 (by decide) ?_
  refine wklA_40 (v := (xA σ 40 9)) S X (vp_in_iff.mpr (by decide)) rfl dX3_addNumbers_6 ?_
  refine lv_istore (lv' := [(4, .int (xA σ 40 9)), (0, .ref (ad 0)), (1, .int a1), (2, .int a2), (3, .int a3)]) hx hb dX3_addNumbers_7 hl (by decide) rfl (fun ls hl => ?_)
  refine lv_iload hx hb dX3_addNumbers_9 (lv_at hl 0 rfl) ?_
  refine lv_iload_n hx hb dX3_addNumbers_11 rfl (lv_at hl 2 rfl) ?_
  refine lv_iadd hx hb dX3_addNumbers_12 ?_
  refine lv_sipush (v := 1000) hx hb dX3_addNumbers_13 (by decide) ?_
  refine lv_icmp_le (tgt := 26) hx hb dX3_addNumbers_16 (by decide) (fun c16 => ?_) (fun c16 => ?_)
  · have hg := (if_pos c16).symm.trans hg
    refine lv_aload_n hx hb dX3_addNumbers_26 rfl (lv_at hl 1 rfl) ?_
    refine wkgR_0_4 S X mG_666 dX3_addNumbers_27 ?_
    refine lv_iload hx hb dX3_addNumbers_30 (lv_at hl 0 rfl) ?_
    refine lv_iload_n hx hb dX3_addNumbers_32 rfl (lv_at hl 3 rfl) ?_
    obtain ⟨hi33, hg⟩ := gd_some hg
    refine wksA_42 S X hi33 dX3_addNumbers_33 (fun H locs X => ?_)
    refine lv_iload_n hx hb dX3_addNumbers_34 rfl (lv_at hl 2 rfl) ?_
    refine lv_iconst (v := 1) hx hb dX3_addNumbers_35 (by decide) ?_
    refine lv_icmp_le (tgt := 49) hx hb dX3_addNumbers_36 (by decide) (fun c36 => ?_) (fun c36 => ?_)
    · have hg := (if_pos c36).symm.trans hg
      exact w_X3_addNumbers_b49 S hr hk hR X (lv_sub hl [1, 2, 0] rfl) hg
    · have hg := (if_neg c36).symm.trans hg
      refine lv_aload_n hx hb dX3_addNumbers_39 rfl (lv_at hl 1 rfl) ?_
      refine wkgR_0_4 S X mG_666 dX3_addNumbers_40 ?_
      refine lv_iload hx hb dX3_addNumbers_43 (lv_at hl 0 rfl) ?_
      refine lv_iconst (v := 1) hx hb dX3_addNumbers_45 (by decide) ?_
      refine lv_iadd hx hb dX3_addNumbers_46 ?_
      refine lv_iload_n hx hb dX3_addNumbers_47 rfl (lv_at hl 4 rfl) ?_
      obtain ⟨hi48, hg⟩ := gd_some hg
      refine wksA_42 S X hi48 dX3_addNumbers_48 (fun H locs X => ?_)
      exact w_X3_addNumbers_b49 S hr hk hR X (lv_sub hl [1, 2, 0] rfl) hg
  · have hg := (if_neg c16).symm.trans hg
    refine lv_aload_n hx hb dX3_addNumbers_19 rfl (lv_at hl 1 rfl) ?_
    refine lv_iconst (v := 3) hx hb dX3_addNumbers_20 (by decide) ?_
    refine lv_iconst (v := 3) hx hb dX3_addNumbers_21 (by decide) ?_
    obtain ⟨r22, τ22, hq22, hg⟩ := bd_some hg
    refine gc_Vv (As := [.int 3, .int 3]) (rest := []) (q0 := 0) (ci := 6) S X (k2_X3_endWith l dC dI ad kc sa va hq22 H.size) cw_X3_endWith mG_1846 rfl rfl rfl rfl rfl hl.1 (Nat.le_of_ble_eq_true rfl) dX3_addNumbers_22 ⟨by omega, by omega⟩ (fun H locs X => ?_)
    obtain ⟨-, rfl⟩ := fin_some hg
    exact gr_v S hr hk X dX3_addNumbers_25
end MX3_addNumbers
set_option maxRecDepth 100000 in
theorem k2_X3_addNumbers (l : Launch) (dC : Nat → ClassId) (dI : Nat → Nat → Nat) {Z : ZZ} (ad : Nat → Nat) (kc : Nat → ClassId) (sa va : Nat) {σ τ : S5} {a1 : Int32} {a2 : Int32} {a3 : Int32} {r : Unit} (hg : f_X3_addNumbers a1 a2 a3 σ = some (r, τ)) (sz : Nat) : Met l yX3_addNumbers (Cond.code yX3_addNumbers cX3_addNumbers 5 none :: uG) { frames := 1, cells := 0, slots := 0, locals := 22 } (gPc (dC, dI) (tK kc) (wK ad kc sa va) Z [.ref (ad 0), .int a1, .int a2, .int a3] σ sz) (gQv (dC, dI) (tK kc) (wK ad kc sa va) (va_A (wK ad kc sa va σ) sz) r τ) 0 0 (va_A (wK ad kc sa va σ) sz) :=
  g_start (by decide) (Nat.le_of_ble_eq_true rfl) (fun p e s m below meth c ls S hr hk X hl => w_X3_addNumbers S hr hk ⟨Nat.le_refl _, Nat.le_refl _⟩ X hl hg)
section MX3_keepRow
variable {p : Program} {l : Launch} {e : Env} {R : Room} {s : State} {m : MethodId} {args : Array Value} {below : List Frame} {meth : Method} {c : Code} {dC : Nat → ClassId} {dI : Nat → Nat → Nat} {Z : ZZ} {A : Nat → Prop} {ad : Nat → Nat} {kc : Nat → ClassId} {sa va : Nat} {r : Unit} {τ : S5} {fE lE : Nat}
set_option maxHeartbeats 4000000 in
set_option maxRecDepth 100000 in
theorem w_X3_keepRow_B5 {σ : S5} {E : Int32 → S5 → Option (Int64 × S5)} {rec5 : Int32 → Int32 → Int32 → S5 → Option (Unit × S5)} {v2 : Int32} {v3 : Int32} {v4 : Int32} {H : Heap} {locs : List Loc} {ls : Array Slot} (S : CallFix p m c cX3_keepRow 5 s args uG RX3) (hr : meth.sig.returnType = none) (hk : meth.locks = false) (hR : fE + 1 ≤ R.frames ∧ lE + 23 ≤ R.locals)
    (hE : ∀ (a0 : Int32) (σ τ : S5) (r : Int64), E a0 σ = some (r, τ) → ∀ sz : Nat, Met l yX3_keep (Cond.code yX3_keep cX3_keep 4 (some .long) :: uG) { frames := fE, cells := 0, slots := 0, locals := lE } (gPc (dC, dI) (tK kc) (wK ad kc sa va) Z [.ref (ad 0), .int a0] σ sz) (gQl (dC, dI) (tK kc) (wK ad kc sa va) (va_A (wK ad kc sa va σ) sz) r τ) 0 0 (va_A (wK ad kc sa va σ) sz))
    (hrec5 : ∀ (v2 : Int32) (v3 : Int32) (v4 : Int32) (σ : S5) (H : Heap) (locs : List Loc) (ls : Array Slot), gX (dC, dI) (tK kc) (wK ad kc sa va) Z A s σ H locs → lv_has ls 5 [(0, .ref (ad 0)), (2, .int v2), (3, .int v3), (4, .int v4)] → rec5 v2 v3 v4 σ = some (r, τ) → W p l e R s m args below meth c H locs 0 0 (MQ below (gQv (dC, dI) (tK kc) (wK ad kc sa va) A r τ) args s 0 0 A) (F0 m 5 ls []))
    (X : gX (dC, dI) (tK kc) (wK ad kc sa va) Z A s σ H locs) (hl : lv_has ls 5 [(0, .ref (ad 0)), (2, .int v2), (3, .int v3), (4, .int v4)]) (hg : f_X3_keepRow_B5 E rec5 v2 v3 v4 σ = some (r, τ)) : W p l e R s m args below meth c H locs 0 0 (MQ below (gQv (dC, dI) (tK kc) (wK ad kc sa va) A r τ) args s 0 0 A) (F0 m 5 ls []) := by
  have hx := S.1
  have hb := S.2.1
  have hown := S.2.2.2.1
  have hu := S.2.2.2.2
  unfold f_X3_keepRow_B5 at hg
  refine lv_iload_n hx hb dX3_keepRow_5 rfl (lv_at hl 2 rfl) ?_
  refine lv_bipush (v := 10) hx hb dX3_keepRow_6 (by decide) ?_
  refine lv_icmp_ge (tgt := 59) hx hb dX3_keepRow_8 (by decide) (fun c8 => ?_) (fun c8 => ?_)
  · have hg := (if_pos c8).symm.trans hg
    obtain ⟨-, rfl⟩ := fin_some hg
    exact gr_v S hr hk X dX3_keepRow_59
  · have hg := (if_neg c8).symm.trans hg
    refine lv_iload hx hb dX3_keepRow_11 (lv_at hl 3 rfl) ?_
    refine lv_iconst (v := (-1)) hx hb dX3_keepRow_13 (by decide) ?_
    refine lv_icmp_eq (tgt := 59) hx hb dX3_keepRow_14 (by decide) (fun c14 => ?_) (fun c14 => ?_)
    · have hg := (if_pos c14).symm.trans hg
      obtain ⟨-, rfl⟩ := fin_some hg
      exact gr_v S hr hk X dX3_keepRow_59
    · have hg := (if_neg c14).symm.trans hg
      refine lv_aload_n hx hb dX3_keepRow_17 rfl (lv_at hl 0 rfl) ?_
      obtain ⟨r18, τ18, hq18, hg⟩ := bd_some hg
      refine gc_Vi (As := []) (rest := []) (q0 := 0) (ci := 6) S X (k2_X3_isOver l dC dI ad kc sa va hq18 H.size) cw_X3_isOver mG_1922 rfl rfl rfl rfl rfl hl.1 (Nat.le_of_ble_eq_true rfl) dX3_keepRow_18 ⟨by omega, by omega⟩ (fun H locs X => ?_)
      refine lv_if_ne (tgt := 59) hx hb dX3_keepRow_21 (by decide) (fun c21 => ?_) (fun c21 => ?_)
      · have hg := (if_neg c21).symm.trans hg
        obtain ⟨-, rfl⟩ := fin_some hg
        exact gr_v S hr hk X dX3_keepRow_59
      · have hg := (if_pos c21).symm.trans hg
        refine lv_aload_n hx hb dX3_keepRow_24 rfl (lv_at hl 0 rfl) ?_
        refine wkgR_0_6 S X mG_669 dX3_keepRow_25 ?_
        refine wkgR_1_0 S X mG_653 dX3_keepRow_28 ?_
        refine lv_iload_n hx hb dX3_keepRow_31 rfl (lv_at hl 1 rfl) ?_
        refine lv_iload_n hx hb dX3_keepRow_32 rfl (lv_at hl 2 rfl) ?_
        refine lv_iadd hx hb dX3_keepRow_33 ?_
        refine lv_aload_n hx hb dX3_keepRow_34 rfl (lv_at hl 0 rfl) ?_
        refine lv_iload hx hb dX3_keepRow_35 (lv_at hl 3 rfl) ?_
        obtain ⟨r37, τ37, hq37, hg⟩ := bd_some hg
        refine gc_Vl (As := [.int v4]) (rest := [.int (v2 + v3), .ref (ad 10)]) (q0 := 0) (ci := 6) S X (hE _ _ _ _ hq37 H.size) cw_X3_keep mG_1888 rfl rfl rfl rfl rfl hl.1 (Nat.le_of_ble_eq_true rfl) dX3_keepRow_37 ⟨by omega, by omega⟩ (fun H locs X => ?_)
        obtain ⟨hi40, hg⟩ := gd_some hg
        refine wksB_14 S X hi40 dX3_keepRow_40 (fun H locs X => ?_)
        refine lv_iinc (v := (v3 + 1)) (lv' := [(3, .int (v3 + 1)), (0, .ref (ad 0)), (2, .int v2), (4, .int v4)]) hx hb dX3_keepRow_41 hl (k := 2) rfl (by rfl) (by decide) rfl (fun ls hl => ?_)
        refine lv_aload_n hx hb dX3_keepRow_44 rfl (lv_at hl 1 rfl) ?_
        refine wkgR_0_0 S X mG_660 dX3_keepRow_45 ?_
        refine wkgR_3_4 S X mG_405 dX3_keepRow_48 ?_
        refine lv_iload hx hb dX3_keepRow_51 (lv_at hl 3 rfl) ?_
        obtain ⟨hi53, hg⟩ := gd_some hg
        refine wklA_17 (v := (xA τ37 17 v4)) S X hi53 rfl dX3_keepRow_53 ?_
        refine lv_istore (lv' := [(4, .int (xA τ37 17 v4)), (3, .int (v3 + 1)), (0, .ref (ad 0)), (2, .int v2)]) hx hb dX3_keepRow_54 hl (by decide) rfl (fun ls hl => ?_)
        refine lv_goto (tgt := 5) hx hb dX3_keepRow_56 (by decide) ?_
        exact hrec5 _ _ _ _ _ _ _ X (lv_sub hl [2, 3, 1, 0] rfl) hg
set_option maxHeartbeats 4000000 in
set_option maxRecDepth 100000 in
theorem w_X3_keepRow_L5 {E : Int32 → S5 → Option (Int64 × S5)} (S : CallFix p m c cX3_keepRow 5 s args uG RX3) (hr : meth.sig.returnType = none) (hk : meth.locks = false) (hR : fE + 1 ≤ R.frames ∧ lE + 23 ≤ R.locals)
    (hE : ∀ (a0 : Int32) (σ τ : S5) (r : Int64), E a0 σ = some (r, τ) → ∀ sz : Nat, Met l yX3_keep (Cond.code yX3_keep cX3_keep 4 (some .long) :: uG) { frames := fE, cells := 0, slots := 0, locals := lE } (gPc (dC, dI) (tK kc) (wK ad kc sa va) Z [.ref (ad 0), .int a0] σ sz) (gQl (dC, dI) (tK kc) (wK ad kc sa va) (va_A (wK ad kc sa va σ) sz) r τ) 0 0 (va_A (wK ad kc sa va σ) sz)) : ∀ (n : Nat) (v2 : Int32) (v3 : Int32) (v4 : Int32) (σ : S5) (H : Heap) (locs : List Loc) (ls : Array Slot), gX (dC, dI) (tK kc) (wK ad kc sa va) Z A s σ H locs → lv_has ls 5 [(0, .ref (ad 0)), (2, .int v2), (3, .int v3), (4, .int v4)] → f_X3_keepRow_L5 E n v2 v3 v4 σ = some (r, τ) → W p l e R s m args below meth c H locs 0 0 (MQ below (gQv (dC, dI) (tK kc) (wK ad kc sa va) A r τ) args s 0 0 A) (F0 m 5 ls []) := by
  intro n
  induction n with
  | zero => intro v2 v3 v4 σ H locs ls X hl hg; cases hg
  | succ n ih => intro v2 v3 v4 σ H locs ls X hl hg; exact w_X3_keepRow_B5 S hr hk hR hE ih X hl hg
set_option maxHeartbeats 4000000 in
set_option maxRecDepth 100000 in
theorem w_X3_keepRow {σ : S5} {E : Int32 → S5 → Option (Int64 × S5)} {a1 : Int32} {a2 : Int32} {H : Heap} {locs : List Loc} {ls : Array Slot} (S : CallFix p m c cX3_keepRow 5 s args uG RX3) (hr : meth.sig.returnType = none) (hk : meth.locks = false) (hR : fE + 1 ≤ R.frames ∧ lE + 23 ≤ R.locals)
    (hE : ∀ (a0 : Int32) (σ τ : S5) (r : Int64), E a0 σ = some (r, τ) → ∀ sz : Nat, Met l yX3_keep (Cond.code yX3_keep cX3_keep 4 (some .long) :: uG) { frames := fE, cells := 0, slots := 0, locals := lE } (gPc (dC, dI) (tK kc) (wK ad kc sa va) Z [.ref (ad 0), .int a0] σ sz) (gQl (dC, dI) (tK kc) (wK ad kc sa va) (va_A (wK ad kc sa va σ) sz) r τ) 0 0 (va_A (wK ad kc sa va σ) sz))
    (X : gX (dC, dI) (tK kc) (wK ad kc sa va) Z A s σ H locs) (hl : lv_has ls 5 [(0, .ref (ad 0)), (1, .int a1), (2, .int a2)]) (hg : f_X3_keepRow E a1 a2 σ = some (r, τ)) : W p l e R s m args below meth c H locs 0 0 (MQ below (gQv (dC, dI) (tK kc) (wK ad kc sa va) A r τ) args s 0 0 A) (F0 m 0 ls []) := by
  have hx := S.1
  have hb := S.2.1
  have hown := S.2.2.2.1
  have hu := S.2.2.2.2
  unfold f_X3_keepRow at hg
  refine lv_iconst (v := 0) hx hb dX3_keepRow_0 (by decide) ?_
  refine lv_istore_n (lv' := [(3, .int 0), (0, .ref (ad 0)), (1, .int a1), (2, .int a2)]) hx hb dX3_keepRow_1 rfl hl (by decide) rfl (fun ls hl => ?_)
  refine lv_iload_n hx hb dX3_keepRow_2 rfl (lv_at hl 2 rfl) ?_
  refine lv_istore (lv' := [(4, .int a1), (3, .int 0), (0, .ref (ad 0)), (1, .int a1), (2, .int a2)]) hx hb dX3_keepRow_3 hl (by decide) rfl (fun ls hl => ?_)
  exact w_X3_keepRow_L5 S hr hk hR hE _ _ _ _ _ _ _ _ X (lv_sub hl [2, 4, 1, 0] rfl) hg
end MX3_keepRow
set_option maxRecDepth 100000 in
theorem k2_X3_keepRow (l : Launch) (dC : Nat → ClassId) (dI : Nat → Nat → Nat) {Z : ZZ} (ad : Nat → Nat) (kc : Nat → ClassId) (sa va : Nat) {E : Int32 → S5 → Option (Int64 × S5)} {fE lE : Nat} {σ τ : S5} {a1 : Int32} {a2 : Int32} {r : Unit} (hE : ∀ (a0 : Int32) (σ τ : S5) (r : Int64), E a0 σ = some (r, τ) → ∀ sz : Nat, Met l yX3_keep (Cond.code yX3_keep cX3_keep 4 (some .long) :: uG) { frames := fE, cells := 0, slots := 0, locals := lE } (gPc (dC, dI) (tK kc) (wK ad kc sa va) Z [.ref (ad 0), .int a0] σ sz) (gQl (dC, dI) (tK kc) (wK ad kc sa va) (va_A (wK ad kc sa va σ) sz) r τ) 0 0 (va_A (wK ad kc sa va σ) sz)) (hg : f_X3_keepRow E a1 a2 σ = some (r, τ)) (sz : Nat) : Met l yX3_keepRow (Cond.code yX3_keepRow cX3_keepRow 5 none :: uG) { frames := fE + 1, cells := 0, slots := 0, locals := lE + 23 } (gPc (dC, dI) (tK kc) (wK ad kc sa va) Z [.ref (ad 0), .int a1, .int a2] σ sz) (gQv (dC, dI) (tK kc) (wK ad kc sa va) (va_A (wK ad kc sa va σ) sz) r τ) 0 0 (va_A (wK ad kc sa va σ) sz) :=
  g_start (by decide) (Nat.le_of_ble_eq_true rfl) (fun p e s m below meth c ls S hr hk X hl => w_X3_keepRow S hr hk ⟨Nat.le_refl _, Nat.le_refl _⟩ hE X hl hg)
section MX3_fill
variable {p : Program} {l : Launch} {e : Env} {R : Room} {s : State} {m : MethodId} {args : Array Value} {below : List Frame} {meth : Method} {c : Code} {dC : Nat → ClassId} {dI : Nat → Nat → Nat} {Z : ZZ} {A : Nat → Prop} {ad : Nat → Nat} {kc : Nat → ClassId} {sa va : Nat} {r : Unit} {τ : S5} {fE lE : Nat}
set_option maxHeartbeats 4000000 in
set_option maxRecDepth 100000 in
theorem w_X3_fill_b172 {σ : S5} {E : Int32 → S5 → Option (Int64 × S5)} {v1 : Int32} {v5 : Int32} {H : Heap} {locs : List Loc} {ls : Array Slot} (S : CallFix p m c cX3_fill 7 s args uG RX3) (hr : meth.sig.returnType = none) (hk : meth.locks = false) (hR : fE + 2 ≤ R.frames ∧ lE + 47 ≤ R.locals)
    (hE : ∀ (a0 : Int32) (σ τ : S5) (r : Int64), E a0 σ = some (r, τ) → ∀ sz : Nat, Met l yX3_keep (Cond.code yX3_keep cX3_keep 4 (some .long) :: uG) { frames := fE, cells := 0, slots := 0, locals := lE } (gPc (dC, dI) (tK kc) (wK ad kc sa va) Z [.ref (ad 0), .int a0] σ sz) (gQl (dC, dI) (tK kc) (wK ad kc sa va) (va_A (wK ad kc sa va σ) sz) r τ) 0 0 (va_A (wK ad kc sa va σ) sz))
    (X : gX (dC, dI) (tK kc) (wK ad kc sa va) Z A s σ H locs) (hl : lv_has ls 7 [(0, .ref (ad 0)), (1, .int v1), (5, .int v5)]) (hg : f_X3_fill_b172 E v1 v5 σ = some (r, τ)) : W p l e R s m args below meth c H locs 0 0 (MQ below (gQv (dC, dI) (tK kc) (wK ad kc sa va) A r τ) args s 0 0 A) (F0 m 172 ls []) := by
  have hx := S.1
  have hb := S.2.1
  have hown := S.2.2.2.1
  have hu := S.2.2.2.2
  unfold f_X3_fill_b172 at hg
  refine lv_aload_n hx hb dX3_fill_172 rfl (lv_at hl 0 rfl) ?_
  refine lv_iload hx hb dX3_fill_173 (lv_at hl 2 rfl) ?_
  refine lv_iconst (v := 1) hx hb dX3_fill_175 (by decide) ?_
  refine lv_iadd hx hb dX3_fill_176 ?_
  refine lv_aload_n hx hb dX3_fill_177 rfl (lv_at hl 0 rfl) ?_
  refine wkgR_0_0 S X mG_660 dX3_fill_178 ?_
  refine wkgR_3_7 S X mG_412 dX3_fill_181 ?_
  refine lv_iload_n hx hb dX3_fill_184 rfl (lv_at hl 1 rfl) ?_
  obtain ⟨hi185, hg⟩ := gd_some hg
  refine wklB_2 (v := (xB σ 2 v1)) S X hi185 rfl dX3_fill_185 ?_
  obtain ⟨r186, τ186, hq186, hg⟩ := bd_some hg
  refine gc_Vv (As := [.int (v5 + 1), .long (xB σ 2 v1)]) (rest := []) (q0 := 0) (ci := 6) S X (k2_X3_storeVariables l dC dI ad kc sa va hq186 H.size) cw_X3_storeVariables mG_1930 rfl rfl rfl rfl rfl hl.1 (Nat.le_of_ble_eq_true rfl) dX3_fill_186 ⟨by omega, by omega⟩ (fun H locs X => ?_)
  obtain ⟨-, rfl⟩ := fin_some hg
  exact gr_v S hr hk X dX3_fill_189
set_option maxHeartbeats 4000000 in
set_option maxRecDepth 100000 in
theorem w_X3_fill {σ : S5} {E : Int32 → S5 → Option (Int64 × S5)} {a1 : Int32} {a2 : Int64} {a4 : Int32} {H : Heap} {locs : List Loc} {ls : Array Slot} (S : CallFix p m c cX3_fill 7 s args uG RX3) (hr : meth.sig.returnType = none) (hk : meth.locks = false) (hR : fE + 2 ≤ R.frames ∧ lE + 47 ≤ R.locals)
    (hE : ∀ (a0 : Int32) (σ τ : S5) (r : Int64), E a0 σ = some (r, τ) → ∀ sz : Nat, Met l yX3_keep (Cond.code yX3_keep cX3_keep 4 (some .long) :: uG) { frames := fE, cells := 0, slots := 0, locals := lE } (gPc (dC, dI) (tK kc) (wK ad kc sa va) Z [.ref (ad 0), .int a0] σ sz) (gQl (dC, dI) (tK kc) (wK ad kc sa va) (va_A (wK ad kc sa va σ) sz) r τ) 0 0 (va_A (wK ad kc sa va σ) sz))
    (X : gX (dC, dI) (tK kc) (wK ad kc sa va) Z A s σ H locs) (hl : lv_has ls 7 [(0, .ref (ad 0)), (1, .int a1), (2, .long a2), (4, .int a4)]) (hg : f_X3_fill E a1 a2 a4 σ = some (r, τ)) : W p l e R s m args below meth c H locs 0 0 (MQ below (gQv (dC, dI) (tK kc) (wK ad kc sa va) A r τ) args s 0 0 A) (F0 m 0 ls []) := by
  have hx := S.1
  have hb := S.2.1
  have hown := S.2.2.2.1
  have hu := S.2.2.2.2
  unfold f_X3_fill at hg
  refine lv_aload_n hx hb dX3_fill_0 rfl (lv_at hl 0 rfl) ?_
  obtain ⟨r1, τ1, hq1, hg⟩ := bd_some hg
  refine gc_Vi (As := []) (rest := []) (q0 := 0) (ci := 6) S X (k2_X3_isOver l dC dI ad kc sa va hq1 H.size) cw_X3_isOver mG_1922 rfl rfl rfl rfl rfl hl.1 (Nat.le_of_ble_eq_true rfl) dX3_fill_1 ⟨by omega, by omega⟩ (fun H locs X => ?_)
  refine lv_if_eq (tgt := 8) hx hb dX3_fill_4 (by decide) (fun c4 => ?_) (fun c4 => ?_)
  · have hg := (if_pos c4).symm.trans hg
    refine lv_lload_n hx hb dX3_fill_8 rfl (lv_at hl 2 rfl) ?_
    refine lv_l2i (v := ((a2 : Int64).toInt32)) hx hb dX3_fill_9 rfl ?_
    refine lv_istore (lv' := [(5, .int ((a2 : Int64).toInt32)), (0, .ref (ad 0)), (1, .int a1), (2, .long a2), (4, .int a4)]) hx hb dX3_fill_10 hl (by decide) rfl (fun ls hl => ?_)
    refine lv_aload_n hx hb dX3_fill_12 rfl (lv_at hl 1 rfl) ?_
    refine wkgR_0_0 S X mG_660 dX3_fill_13 ?_
    refine wkgR_3_3 S X mG_398 dX3_fill_16 ?_
    refine lv_iload_n hx hb dX3_fill_19 rfl (lv_at hl 2 rfl) ?_
    obtain ⟨hi20, hg⟩ := gd_some hg
    refine wklA_16 (v := (xA τ1 16 a1)) S X hi20 rfl dX3_fill_20 ?_
    refine lv_istore (lv' := [(6, .int (xA τ1 16 a1)), (5, .int ((a2 : Int64).toInt32)), (0, .ref (ad 0)), (1, .int a1), (2, .long a2), (4, .int a4)]) hx hb dX3_fill_21 hl (by decide) rfl (fun ls hl => ?_)
    refine lv_aload_n hx hb dX3_fill_23 rfl (lv_at hl 2 rfl) ?_
    refine wkgR_0_0 S X mG_660 dX3_fill_24 ?_
    refine wkgR_3_0 S X mG_383 dX3_fill_27 ?_
    refine lv_iload_n hx hb dX3_fill_30 rfl (lv_at hl 3 rfl) ?_
    obtain ⟨hi31, hg⟩ := gd_some hg
    refine wklA_13 (v := (xA τ1 13 a1)) S X hi31 rfl dX3_fill_31 ?_
    rcases sw_0_9 ((xA τ1 13 a1)) with hsw | hsw | hsw | hsw | hsw | hsw | hsw | hsw | hsw | hsw | hsw
    · refine lv_tableOut (tgt := 129) hx hb dX3_fill_32 hsw (by decide) ?_
      obtain ⟨hs0, hs1, hs2, hs3, hs4, hs5, hs6, hs7, hs8, hs9⟩ := swo_0_9 hsw
      have hg := (if_neg hs0).symm.trans hg
      have hg := (if_neg hs1).symm.trans hg
      have hg := (if_neg hs2).symm.trans hg
      have hg := (if_neg hs3).symm.trans hg
      have hg := (if_neg hs4).symm.trans hg
      have hg := (if_neg hs5).symm.trans hg
      have hg := (if_neg hs6).symm.trans hg
      have hg := (if_neg hs7).symm.trans hg
      have hg := (if_neg hs8).symm.trans hg
      have hg := (if_neg hs9).symm.trans hg
      refine lv_aload_n hx hb dX3_fill_129 rfl (lv_at hl 2 rfl) ?_
      refine wkgR_0_0 S X mG_660 dX3_fill_130 ?_
      refine wkgR_3_0 S X mG_383 dX3_fill_133 ?_
      refine lv_iload_n hx hb dX3_fill_136 rfl (lv_at hl 3 rfl) ?_
      obtain ⟨hi137, hg⟩ := gd_some hg
      refine wklA_13 (v := (xA τ1 13 a1)) S X hi137 rfl dX3_fill_137 ?_
      refine lv_bipush (v := 8) hx hb dX3_fill_138 (by decide) ?_
      refine lv_icmp_ne (tgt := 172) hx hb dX3_fill_140 (by decide) (fun c140 => ?_) (fun c140 => ?_)
      · have hg := (if_neg c140).symm.trans hg
        exact w_X3_fill_b172 S hr hk hR hE X (lv_sub hl [2, 3, 1] rfl) hg
      · have hg := (if_pos c140).symm.trans hg
        refine lv_aload_n hx hb dX3_fill_143 rfl (lv_at hl 2 rfl) ?_
        refine lv_iload_n hx hb dX3_fill_144 rfl (lv_at hl 3 rfl) ?_
        obtain ⟨r145, τ145, hq145, hg⟩ := bd_some hg
        refine gc_Vi (As := [.int a1]) (rest := []) (q0 := 0) (ci := 6) S X (k2_X3_isPartOfCall l dC dI ad kc sa va hq145 H.size) cw_X3_isPartOfCall mG_1904 rfl rfl rfl rfl rfl hl.1 (Nat.le_of_ble_eq_true rfl) dX3_fill_145 ⟨by omega, by omega⟩ (fun H locs X => ?_)
        refine lv_if_eq (tgt := 172) hx hb dX3_fill_148 (by decide) (fun c148 => ?_) (fun c148 => ?_)
        · have hg := (if_pos c148).symm.trans hg
          exact w_X3_fill_b172 S hr hk hR hE X (lv_sub hl [2, 3, 1] rfl) hg
        · have hg := (if_neg c148).symm.trans hg
          refine lv_aload_n hx hb dX3_fill_151 rfl (lv_at hl 2 rfl) ?_
          refine lv_aload_n hx hb dX3_fill_152 rfl (lv_at hl 2 rfl) ?_
          refine wkgR_0_0 S X mG_660 dX3_fill_153 ?_
          refine wkgR_3_4 S X mG_405 dX3_fill_156 ?_
          refine lv_iload hx hb dX3_fill_159 (lv_at hl 0 rfl) ?_
          obtain ⟨hi161, hg⟩ := gd_some hg
          refine wklA_17 (v := (xA τ145 17 (xA τ1 16 a1))) S X hi161 rfl dX3_fill_161 ?_
          refine lv_iload hx hb dX3_fill_162 (lv_at hl 1 rfl) ?_
          refine lv_iconst (v := 2) hx hb dX3_fill_164 (by decide) ?_
          refine lv_iadd hx hb dX3_fill_165 ?_
          obtain ⟨r166, τ166, hq166, hg⟩ := bd_some hg
          refine gc_Vv (As := [.int (xA τ145 17 (xA τ1 16 a1)), .int (((a2 : Int64).toInt32) + 2)]) (rest := []) (q0 := 0) (ci := 6) S X (k2_X3_keepRow l dC dI ad kc sa va hE hq166 H.size) cw_X3_keepRow mG_1926 rfl rfl rfl rfl rfl hl.1 (Nat.le_of_ble_eq_true rfl) dX3_fill_166 ⟨by omega, by omega⟩ (fun H locs X => ?_)
          refine lv_goto (tgt := 189) hx hb dX3_fill_169 (by decide) ?_
          obtain ⟨-, rfl⟩ := fin_some hg
          exact gr_v S hr hk X dX3_fill_189
    · refine lv_tableIn (off := 56) (tgt := 88) hx hb dX3_fill_32 (by rw [hsw]; decide) (by rw [hsw]; decide) (by rw [hsw]; decide) (by decide) ?_
      have hg := (if_pos hsw).symm.trans hg
      refine lv_goto (tgt := 189) hx hb dX3_fill_88 (by decide) ?_
      obtain ⟨-, rfl⟩ := fin_some hg
      exact gr_v S hr hk X dX3_fill_189
    · refine lv_tableIn (off := 56) (tgt := 88) hx hb dX3_fill_32 (by rw [hsw]; decide) (by rw [hsw]; decide) (by rw [hsw]; decide) (by decide) ?_
      have hg := (if_neg (by rw [hsw]; decide)).symm.trans hg
      have hg := (if_pos hsw).symm.trans hg
      refine lv_goto (tgt := 189) hx hb dX3_fill_88 (by decide) ?_
      obtain ⟨-, rfl⟩ := fin_some hg
      exact gr_v S hr hk X dX3_fill_189
    · refine lv_tableIn (off := 56) (tgt := 88) hx hb dX3_fill_32 (by rw [hsw]; decide) (by rw [hsw]; decide) (by rw [hsw]; decide) (by decide) ?_
      have hg := (if_neg (by rw [hsw]; decide)).symm.trans hg
      have hg := (if_neg (by rw [hsw]; decide)).symm.trans hg
      have hg := (if_pos hsw).symm.trans hg
      refine lv_goto (tgt := 189) hx hb dX3_fill_88 (by decide) ?_
      obtain ⟨-, rfl⟩ := fin_some hg
      exact gr_v S hr hk X dX3_fill_189
    · refine lv_tableIn (off := 72) (tgt := 104) hx hb dX3_fill_32 (by rw [hsw]; decide) (by rw [hsw]; decide) (by rw [hsw]; decide) (by decide) ?_
      have hg := (if_neg (by rw [hsw]; decide)).symm.trans hg
      have hg := (if_neg (by rw [hsw]; decide)).symm.trans hg
      have hg := (if_neg (by rw [hsw]; decide)).symm.trans hg
      have hg := (if_pos hsw).symm.trans hg
      refine lv_iload hx hb dX3_fill_104 (lv_at hl 5 rfl) ?_
      refine lv_if_eq (tgt := 189) hx hb dX3_fill_106 (by decide) (fun c106 => ?_) (fun c106 => ?_)
      · have hg := (if_pos c106).symm.trans hg
        obtain ⟨-, rfl⟩ := fin_some hg
        exact gr_v S hr hk X dX3_fill_189
      · have hg := (if_neg c106).symm.trans hg
        refine lv_aload_n hx hb dX3_fill_109 rfl (lv_at hl 2 rfl) ?_
        refine lv_iload hx hb dX3_fill_110 (lv_at hl 1 rfl) ?_
        refine lv_iconst (v := 1) hx hb dX3_fill_112 (by decide) ?_
        refine lv_iadd hx hb dX3_fill_113 ?_
        refine lv_aload_n hx hb dX3_fill_114 rfl (lv_at hl 2 rfl) ?_
        refine wkgR_0_0 S X mG_660 dX3_fill_115 ?_
        refine wkgR_3_7 S X mG_412 dX3_fill_118 ?_
        refine lv_iload_n hx hb dX3_fill_121 rfl (lv_at hl 3 rfl) ?_
        obtain ⟨hi122, hg⟩ := gd_some hg
        refine wklB_2 (v := (xB τ1 2 a1)) S X hi122 rfl dX3_fill_122 ?_
        obtain ⟨r123, τ123, hq123, hg⟩ := bd_some hg
        refine gc_Vv (As := [.int (((a2 : Int64).toInt32) + 1), .long (xB τ1 2 a1)]) (rest := []) (q0 := 0) (ci := 6) S X (k2_X3_storeVariables l dC dI ad kc sa va hq123 H.size) cw_X3_storeVariables mG_1930 rfl rfl rfl rfl rfl hl.1 (Nat.le_of_ble_eq_true rfl) dX3_fill_123 ⟨by omega, by omega⟩ (fun H locs X => ?_)
        refine lv_goto (tgt := 189) hx hb dX3_fill_126 (by decide) ?_
        obtain ⟨-, rfl⟩ := fin_some hg
        exact gr_v S hr hk X dX3_fill_189
    · refine lv_tableIn (off := 97) (tgt := 129) hx hb dX3_fill_32 (by rw [hsw]; decide) (by rw [hsw]; decide) (by rw [hsw]; decide) (by decide) ?_
      have hg := (if_neg (by rw [hsw]; decide)).symm.trans hg
      have hg := (if_neg (by rw [hsw]; decide)).symm.trans hg
      have hg := (if_neg (by rw [hsw]; decide)).symm.trans hg
      have hg := (if_neg (by rw [hsw]; decide)).symm.trans hg
      have hg := (if_pos hsw).symm.trans hg
      refine lv_aload_n hx hb dX3_fill_129 rfl (lv_at hl 2 rfl) ?_
      refine wkgR_0_0 S X mG_660 dX3_fill_130 ?_
      refine wkgR_3_0 S X mG_383 dX3_fill_133 ?_
      refine lv_iload_n hx hb dX3_fill_136 rfl (lv_at hl 3 rfl) ?_
      obtain ⟨hi137, hg⟩ := gd_some hg
      refine wklA_13 (v := (xA τ1 13 a1)) S X hi137 rfl dX3_fill_137 ?_
      refine lv_bipush (v := 8) hx hb dX3_fill_138 (by decide) ?_
      refine lv_icmp_ne (tgt := 172) hx hb dX3_fill_140 (by decide) (fun c140 => ?_) (fun c140 => ?_)
      · have hg := (if_neg c140).symm.trans hg
        exact w_X3_fill_b172 S hr hk hR hE X (lv_sub hl [2, 3, 1] rfl) hg
      · have hg := (if_pos c140).symm.trans hg
        refine lv_aload_n hx hb dX3_fill_143 rfl (lv_at hl 2 rfl) ?_
        refine lv_iload_n hx hb dX3_fill_144 rfl (lv_at hl 3 rfl) ?_
        obtain ⟨r145, τ145, hq145, hg⟩ := bd_some hg
        refine gc_Vi (As := [.int a1]) (rest := []) (q0 := 0) (ci := 6) S X (k2_X3_isPartOfCall l dC dI ad kc sa va hq145 H.size) cw_X3_isPartOfCall mG_1904 rfl rfl rfl rfl rfl hl.1 (Nat.le_of_ble_eq_true rfl) dX3_fill_145 ⟨by omega, by omega⟩ (fun H locs X => ?_)
        refine lv_if_eq (tgt := 172) hx hb dX3_fill_148 (by decide) (fun c148 => ?_) (fun c148 => ?_)
        · have hg := (if_pos c148).symm.trans hg
          exact w_X3_fill_b172 S hr hk hR hE X (lv_sub hl [2, 3, 1] rfl) hg
        · have hg := (if_neg c148).symm.trans hg
          refine lv_aload_n hx hb dX3_fill_151 rfl (lv_at hl 2 rfl) ?_
          refine lv_aload_n hx hb dX3_fill_152 rfl (lv_at hl 2 rfl) ?_
          refine wkgR_0_0 S X mG_660 dX3_fill_153 ?_
          refine wkgR_3_4 S X mG_405 dX3_fill_156 ?_
          refine lv_iload hx hb dX3_fill_159 (lv_at hl 0 rfl) ?_
          obtain ⟨hi161, hg⟩ := gd_some hg
          refine wklA_17 (v := (xA τ145 17 (xA τ1 16 a1))) S X hi161 rfl dX3_fill_161 ?_
          refine lv_iload hx hb dX3_fill_162 (lv_at hl 1 rfl) ?_
          refine lv_iconst (v := 2) hx hb dX3_fill_164 (by decide) ?_
          refine lv_iadd hx hb dX3_fill_165 ?_
          obtain ⟨r166, τ166, hq166, hg⟩ := bd_some hg
          refine gc_Vv (As := [.int (xA τ145 17 (xA τ1 16 a1)), .int (((a2 : Int64).toInt32) + 2)]) (rest := []) (q0 := 0) (ci := 6) S X (k2_X3_keepRow l dC dI ad kc sa va hE hq166 H.size) cw_X3_keepRow mG_1926 rfl rfl rfl rfl rfl hl.1 (Nat.le_of_ble_eq_true rfl) dX3_fill_166 ⟨by omega, by omega⟩ (fun H locs X => ?_)
          refine lv_goto (tgt := 189) hx hb dX3_fill_169 (by decide) ?_
          obtain ⟨-, rfl⟩ := fin_some hg
          exact gr_v S hr hk X dX3_fill_189
    · refine lv_tableIn (off := 97) (tgt := 129) hx hb dX3_fill_32 (by rw [hsw]; decide) (by rw [hsw]; decide) (by rw [hsw]; decide) (by decide) ?_
      have hg := (if_neg (by rw [hsw]; decide)).symm.trans hg
      have hg := (if_neg (by rw [hsw]; decide)).symm.trans hg
      have hg := (if_neg (by rw [hsw]; decide)).symm.trans hg
      have hg := (if_neg (by rw [hsw]; decide)).symm.trans hg
      have hg := (if_neg (by rw [hsw]; decide)).symm.trans hg
      have hg := (if_pos hsw).symm.trans hg
      refine lv_aload_n hx hb dX3_fill_129 rfl (lv_at hl 2 rfl) ?_
      refine wkgR_0_0 S X mG_660 dX3_fill_130 ?_
      refine wkgR_3_0 S X mG_383 dX3_fill_133 ?_
      refine lv_iload_n hx hb dX3_fill_136 rfl (lv_at hl 3 rfl) ?_
      obtain ⟨hi137, hg⟩ := gd_some hg
      refine wklA_13 (v := (xA τ1 13 a1)) S X hi137 rfl dX3_fill_137 ?_
      refine lv_bipush (v := 8) hx hb dX3_fill_138 (by decide) ?_
      refine lv_icmp_ne (tgt := 172) hx hb dX3_fill_140 (by decide) (fun c140 => ?_) (fun c140 => ?_)
      · have hg := (if_neg c140).symm.trans hg
        exact w_X3_fill_b172 S hr hk hR hE X (lv_sub hl [2, 3, 1] rfl) hg
      · have hg := (if_pos c140).symm.trans hg
        refine lv_aload_n hx hb dX3_fill_143 rfl (lv_at hl 2 rfl) ?_
        refine lv_iload_n hx hb dX3_fill_144 rfl (lv_at hl 3 rfl) ?_
        obtain ⟨r145, τ145, hq145, hg⟩ := bd_some hg
        refine gc_Vi (As := [.int a1]) (rest := []) (q0 := 0) (ci := 6) S X (k2_X3_isPartOfCall l dC dI ad kc sa va hq145 H.size) cw_X3_isPartOfCall mG_1904 rfl rfl rfl rfl rfl hl.1 (Nat.le_of_ble_eq_true rfl) dX3_fill_145 ⟨by omega, by omega⟩ (fun H locs X => ?_)
        refine lv_if_eq (tgt := 172) hx hb dX3_fill_148 (by decide) (fun c148 => ?_) (fun c148 => ?_)
        · have hg := (if_pos c148).symm.trans hg
          exact w_X3_fill_b172 S hr hk hR hE X (lv_sub hl [2, 3, 1] rfl) hg
        · have hg := (if_neg c148).symm.trans hg
          refine lv_aload_n hx hb dX3_fill_151 rfl (lv_at hl 2 rfl) ?_
          refine lv_aload_n hx hb dX3_fill_152 rfl (lv_at hl 2 rfl) ?_
          refine wkgR_0_0 S X mG_660 dX3_fill_153 ?_
          refine wkgR_3_4 S X mG_405 dX3_fill_156 ?_
          refine lv_iload hx hb dX3_fill_159 (lv_at hl 0 rfl) ?_
          obtain ⟨hi161, hg⟩ := gd_some hg
          refine wklA_17 (v := (xA τ145 17 (xA τ1 16 a1))) S X hi161 rfl dX3_fill_161 ?_
          refine lv_iload hx hb dX3_fill_162 (lv_at hl 1 rfl) ?_
          refine lv_iconst (v := 2) hx hb dX3_fill_164 (by decide) ?_
          refine lv_iadd hx hb dX3_fill_165 ?_
          obtain ⟨r166, τ166, hq166, hg⟩ := bd_some hg
          refine gc_Vv (As := [.int (xA τ145 17 (xA τ1 16 a1)), .int (((a2 : Int64).toInt32) + 2)]) (rest := []) (q0 := 0) (ci := 6) S X (k2_X3_keepRow l dC dI ad kc sa va hE hq166 H.size) cw_X3_keepRow mG_1926 rfl rfl rfl rfl rfl hl.1 (Nat.le_of_ble_eq_true rfl) dX3_fill_166 ⟨by omega, by omega⟩ (fun H locs X => ?_)
          refine lv_goto (tgt := 189) hx hb dX3_fill_169 (by decide) ?_
          obtain ⟨-, rfl⟩ := fin_some hg
          exact gr_v S hr hk X dX3_fill_189
    · refine lv_tableIn (off := 97) (tgt := 129) hx hb dX3_fill_32 (by rw [hsw]; decide) (by rw [hsw]; decide) (by rw [hsw]; decide) (by decide) ?_
      have hg := (if_neg (by rw [hsw]; decide)).symm.trans hg
      have hg := (if_neg (by rw [hsw]; decide)).symm.trans hg
      have hg := (if_neg (by rw [hsw]; decide)).symm.trans hg
      have hg := (if_neg (by rw [hsw]; decide)).symm.trans hg
      have hg := (if_neg (by rw [hsw]; decide)).symm.trans hg
      have hg := (if_neg (by rw [hsw]; decide)).symm.trans hg
      have hg := (if_pos hsw).symm.trans hg
      refine lv_aload_n hx hb dX3_fill_129 rfl (lv_at hl 2 rfl) ?_
      refine wkgR_0_0 S X mG_660 dX3_fill_130 ?_
      refine wkgR_3_0 S X mG_383 dX3_fill_133 ?_
      refine lv_iload_n hx hb dX3_fill_136 rfl (lv_at hl 3 rfl) ?_
      obtain ⟨hi137, hg⟩ := gd_some hg
      refine wklA_13 (v := (xA τ1 13 a1)) S X hi137 rfl dX3_fill_137 ?_
      refine lv_bipush (v := 8) hx hb dX3_fill_138 (by decide) ?_
      refine lv_icmp_ne (tgt := 172) hx hb dX3_fill_140 (by decide) (fun c140 => ?_) (fun c140 => ?_)
      · have hg := (if_neg c140).symm.trans hg
        exact w_X3_fill_b172 S hr hk hR hE X (lv_sub hl [2, 3, 1] rfl) hg
      · have hg := (if_pos c140).symm.trans hg
        refine lv_aload_n hx hb dX3_fill_143 rfl (lv_at hl 2 rfl) ?_
        refine lv_iload_n hx hb dX3_fill_144 rfl (lv_at hl 3 rfl) ?_
        obtain ⟨r145, τ145, hq145, hg⟩ := bd_some hg
        refine gc_Vi (As := [.int a1]) (rest := []) (q0 := 0) (ci := 6) S X (k2_X3_isPartOfCall l dC dI ad kc sa va hq145 H.size) cw_X3_isPartOfCall mG_1904 rfl rfl rfl rfl rfl hl.1 (Nat.le_of_ble_eq_true rfl) dX3_fill_145 ⟨by omega, by omega⟩ (fun H locs X => ?_)
        refine lv_if_eq (tgt := 172) hx hb dX3_fill_148 (by decide) (fun c148 => ?_) (fun c148 => ?_)
        · have hg := (if_pos c148).symm.trans hg
          exact w_X3_fill_b172 S hr hk hR hE X (lv_sub hl [2, 3, 1] rfl) hg
        · have hg := (if_neg c148).symm.trans hg
          refine lv_aload_n hx hb dX3_fill_151 rfl (lv_at hl 2 rfl) ?_
          refine lv_aload_n hx hb dX3_fill_152 rfl (lv_at hl 2 rfl) ?_
          refine wkgR_0_0 S X mG_660 dX3_fill_153 ?_
          refine wkgR_3_4 S X mG_405 dX3_fill_156 ?_
          refine lv_iload hx hb dX3_fill_159 (lv_at hl 0 rfl) ?_
          obtain ⟨hi161, hg⟩ := gd_some hg
          refine wklA_17 (v := (xA τ145 17 (xA τ1 16 a1))) S X hi161 rfl dX3_fill_161 ?_
          refine lv_iload hx hb dX3_fill_162 (lv_at hl 1 rfl) ?_
          refine lv_iconst (v := 2) hx hb dX3_fill_164 (by decide) ?_
          refine lv_iadd hx hb dX3_fill_165 ?_
          obtain ⟨r166, τ166, hq166, hg⟩ := bd_some hg
          refine gc_Vv (As := [.int (xA τ145 17 (xA τ1 16 a1)), .int (((a2 : Int64).toInt32) + 2)]) (rest := []) (q0 := 0) (ci := 6) S X (k2_X3_keepRow l dC dI ad kc sa va hE hq166 H.size) cw_X3_keepRow mG_1926 rfl rfl rfl rfl rfl hl.1 (Nat.le_of_ble_eq_true rfl) dX3_fill_166 ⟨by omega, by omega⟩ (fun H locs X => ?_)
          refine lv_goto (tgt := 189) hx hb dX3_fill_169 (by decide) ?_
          obtain ⟨-, rfl⟩ := fin_some hg
          exact gr_v S hr hk X dX3_fill_189
    · refine lv_tableIn (off := 97) (tgt := 129) hx hb dX3_fill_32 (by rw [hsw]; decide) (by rw [hsw]; decide) (by rw [hsw]; decide) (by decide) ?_
      have hg := (if_neg (by rw [hsw]; decide)).symm.trans hg
      have hg := (if_neg (by rw [hsw]; decide)).symm.trans hg
      have hg := (if_neg (by rw [hsw]; decide)).symm.trans hg
      have hg := (if_neg (by rw [hsw]; decide)).symm.trans hg
      have hg := (if_neg (by rw [hsw]; decide)).symm.trans hg
      have hg := (if_neg (by rw [hsw]; decide)).symm.trans hg
      have hg := (if_neg (by rw [hsw]; decide)).symm.trans hg
      have hg := (if_pos hsw).symm.trans hg
      refine lv_aload_n hx hb dX3_fill_129 rfl (lv_at hl 2 rfl) ?_
      refine wkgR_0_0 S X mG_660 dX3_fill_130 ?_
      refine wkgR_3_0 S X mG_383 dX3_fill_133 ?_
      refine lv_iload_n hx hb dX3_fill_136 rfl (lv_at hl 3 rfl) ?_
      obtain ⟨hi137, hg⟩ := gd_some hg
      refine wklA_13 (v := (xA τ1 13 a1)) S X hi137 rfl dX3_fill_137 ?_
      refine lv_bipush (v := 8) hx hb dX3_fill_138 (by decide) ?_
      refine lv_icmp_ne (tgt := 172) hx hb dX3_fill_140 (by decide) (fun c140 => ?_) (fun c140 => ?_)
      · have hg := (if_neg c140).symm.trans hg
        exact w_X3_fill_b172 S hr hk hR hE X (lv_sub hl [2, 3, 1] rfl) hg
      · have hg := (if_pos c140).symm.trans hg
        refine lv_aload_n hx hb dX3_fill_143 rfl (lv_at hl 2 rfl) ?_
        refine lv_iload_n hx hb dX3_fill_144 rfl (lv_at hl 3 rfl) ?_
        obtain ⟨r145, τ145, hq145, hg⟩ := bd_some hg
        refine gc_Vi (As := [.int a1]) (rest := []) (q0 := 0) (ci := 6) S X (k2_X3_isPartOfCall l dC dI ad kc sa va hq145 H.size) cw_X3_isPartOfCall mG_1904 rfl rfl rfl rfl rfl hl.1 (Nat.le_of_ble_eq_true rfl) dX3_fill_145 ⟨by omega, by omega⟩ (fun H locs X => ?_)
        refine lv_if_eq (tgt := 172) hx hb dX3_fill_148 (by decide) (fun c148 => ?_) (fun c148 => ?_)
        · have hg := (if_pos c148).symm.trans hg
          exact w_X3_fill_b172 S hr hk hR hE X (lv_sub hl [2, 3, 1] rfl) hg
        · have hg := (if_neg c148).symm.trans hg
          refine lv_aload_n hx hb dX3_fill_151 rfl (lv_at hl 2 rfl) ?_
          refine lv_aload_n hx hb dX3_fill_152 rfl (lv_at hl 2 rfl) ?_
          refine wkgR_0_0 S X mG_660 dX3_fill_153 ?_
          refine wkgR_3_4 S X mG_405 dX3_fill_156 ?_
          refine lv_iload hx hb dX3_fill_159 (lv_at hl 0 rfl) ?_
          obtain ⟨hi161, hg⟩ := gd_some hg
          refine wklA_17 (v := (xA τ145 17 (xA τ1 16 a1))) S X hi161 rfl dX3_fill_161 ?_
          refine lv_iload hx hb dX3_fill_162 (lv_at hl 1 rfl) ?_
          refine lv_iconst (v := 2) hx hb dX3_fill_164 (by decide) ?_
          refine lv_iadd hx hb dX3_fill_165 ?_
          obtain ⟨r166, τ166, hq166, hg⟩ := bd_some hg
          refine gc_Vv (As := [.int (xA τ145 17 (xA τ1 16 a1)), .int (((a2 : Int64).toInt32) + 2)]) (rest := []) (q0 := 0) (ci := 6) S X (k2_X3_keepRow l dC dI ad kc sa va hE hq166 H.size) cw_X3_keepRow mG_1926 rfl rfl rfl rfl rfl hl.1 (Nat.le_of_ble_eq_true rfl) dX3_fill_166 ⟨by omega, by omega⟩ (fun H locs X => ?_)
          refine lv_goto (tgt := 189) hx hb dX3_fill_169 (by decide) ?_
          obtain ⟨-, rfl⟩ := fin_some hg
          exact gr_v S hr hk X dX3_fill_189
    · refine lv_tableIn (off := 97) (tgt := 129) hx hb dX3_fill_32 (by rw [hsw]; decide) (by rw [hsw]; decide) (by rw [hsw]; decide) (by decide) ?_
      have hg := (if_neg (by rw [hsw]; decide)).symm.trans hg
      have hg := (if_neg (by rw [hsw]; decide)).symm.trans hg
      have hg := (if_neg (by rw [hsw]; decide)).symm.trans hg
      have hg := (if_neg (by rw [hsw]; decide)).symm.trans hg
      have hg := (if_neg (by rw [hsw]; decide)).symm.trans hg
      have hg := (if_neg (by rw [hsw]; decide)).symm.trans hg
      have hg := (if_neg (by rw [hsw]; decide)).symm.trans hg
      have hg := (if_neg (by rw [hsw]; decide)).symm.trans hg
      have hg := (if_pos hsw).symm.trans hg
      refine lv_aload_n hx hb dX3_fill_129 rfl (lv_at hl 2 rfl) ?_
      refine wkgR_0_0 S X mG_660 dX3_fill_130 ?_
      refine wkgR_3_0 S X mG_383 dX3_fill_133 ?_
      refine lv_iload_n hx hb dX3_fill_136 rfl (lv_at hl 3 rfl) ?_
      obtain ⟨hi137, hg⟩ := gd_some hg
      refine wklA_13 (v := (xA τ1 13 a1)) S X hi137 rfl dX3_fill_137 ?_
      refine lv_bipush (v := 8) hx hb dX3_fill_138 (by decide) ?_
      refine lv_icmp_ne (tgt := 172) hx hb dX3_fill_140 (by decide) (fun c140 => ?_) (fun c140 => ?_)
      · have hg := (if_neg c140).symm.trans hg
        exact w_X3_fill_b172 S hr hk hR hE X (lv_sub hl [2, 3, 1] rfl) hg
      · have hg := (if_pos c140).symm.trans hg
        refine lv_aload_n hx hb dX3_fill_143 rfl (lv_at hl 2 rfl) ?_
        refine lv_iload_n hx hb dX3_fill_144 rfl (lv_at hl 3 rfl) ?_
        obtain ⟨r145, τ145, hq145, hg⟩ := bd_some hg
        refine gc_Vi (As := [.int a1]) (rest := []) (q0 := 0) (ci := 6) S X (k2_X3_isPartOfCall l dC dI ad kc sa va hq145 H.size) cw_X3_isPartOfCall mG_1904 rfl rfl rfl rfl rfl hl.1 (Nat.le_of_ble_eq_true rfl) dX3_fill_145 ⟨by omega, by omega⟩ (fun H locs X => ?_)
        refine lv_if_eq (tgt := 172) hx hb dX3_fill_148 (by decide) (fun c148 => ?_) (fun c148 => ?_)
        · have hg := (if_pos c148).symm.trans hg
          exact w_X3_fill_b172 S hr hk hR hE X (lv_sub hl [2, 3, 1] rfl) hg
        · have hg := (if_neg c148).symm.trans hg
          refine lv_aload_n hx hb dX3_fill_151 rfl (lv_at hl 2 rfl) ?_
          refine lv_aload_n hx hb dX3_fill_152 rfl (lv_at hl 2 rfl) ?_
          refine wkgR_0_0 S X mG_660 dX3_fill_153 ?_
          refine wkgR_3_4 S X mG_405 dX3_fill_156 ?_
          refine lv_iload hx hb dX3_fill_159 (lv_at hl 0 rfl) ?_
          obtain ⟨hi161, hg⟩ := gd_some hg
          refine wklA_17 (v := (xA τ145 17 (xA τ1 16 a1))) S X hi161 rfl dX3_fill_161 ?_
          refine lv_iload hx hb dX3_fill_162 (lv_at hl 1 rfl) ?_
          refine lv_iconst (v := 2) hx hb dX3_fill_164 (by decide) ?_
          refine lv_iadd hx hb dX3_fill_165 ?_
          obtain ⟨r166, τ166, hq166, hg⟩ := bd_some hg
          refine gc_Vv (As := [.int (xA τ145 17 (xA τ1 16 a1)), .int (((a2 : Int64).toInt32) + 2)]) (rest := []) (q0 := 0) (ci := 6) S X (k2_X3_keepRow l dC dI ad kc sa va hE hq166 H.size) cw_X3_keepRow mG_1926 rfl rfl rfl rfl rfl hl.1 (Nat.le_of_ble_eq_true rfl) dX3_fill_166 ⟨by omega, by omega⟩ (fun H locs X => ?_)
          refine lv_goto (tgt := 189) hx hb dX3_fill_169 (by decide) ?_
          obtain ⟨-, rfl⟩ := fin_some hg
          exact gr_v S hr hk X dX3_fill_189
    · refine lv_tableIn (off := 59) (tgt := 91) hx hb dX3_fill_32 (by rw [hsw]; decide) (by rw [hsw]; decide) (by rw [hsw]; decide) (by decide) ?_
      have hg := (if_neg (by rw [hsw]; decide)).symm.trans hg
      have hg := (if_neg (by rw [hsw]; decide)).symm.trans hg
      have hg := (if_neg (by rw [hsw]; decide)).symm.trans hg
      have hg := (if_neg (by rw [hsw]; decide)).symm.trans hg
      have hg := (if_neg (by rw [hsw]; decide)).symm.trans hg
      have hg := (if_neg (by rw [hsw]; decide)).symm.trans hg
      have hg := (if_neg (by rw [hsw]; decide)).symm.trans hg
      have hg := (if_neg (by rw [hsw]; decide)).symm.trans hg
      have hg := (if_neg (by rw [hsw]; decide)).symm.trans hg
      have hg := (if_pos hsw).symm.trans hg
      refine lv_aload_n hx hb dX3_fill_91 rfl (lv_at hl 2 rfl) ?_
      refine lv_iload hx hb dX3_fill_92 (lv_at hl 0 rfl) ?_
      refine lv_iload hx hb dX3_fill_94 (lv_at hl 1 rfl) ?_
      refine lv_iconst (v := 1) hx hb dX3_fill_96 (by decide) ?_
      refine lv_iadd hx hb dX3_fill_97 ?_
      obtain ⟨r98, τ98, hq98, hg⟩ := bd_some hg
      refine gc_Vv (As := [.int (xA τ1 16 a1), .int (((a2 : Int64).toInt32) + 1)]) (rest := []) (q0 := 0) (ci := 6) S X (k2_X3_keepRow l dC dI ad kc sa va hE hq98 H.size) cw_X3_keepRow mG_1926 rfl rfl rfl rfl rfl hl.1 (Nat.le_of_ble_eq_true rfl) dX3_fill_98 ⟨by omega, by omega⟩ (fun H locs X => ?_)
      refine lv_goto (tgt := 189) hx hb dX3_fill_101 (by decide) ?_
      obtain ⟨-, rfl⟩ := fin_some hg
      exact gr_v S hr hk X dX3_fill_189
  · have hg := (if_neg c4).symm.trans hg
    obtain ⟨-, rfl⟩ := fin_some hg
    exact gr_v S hr hk X dX3_fill_7
end MX3_fill
set_option maxRecDepth 100000 in
theorem k2_X3_fill (l : Launch) (dC : Nat → ClassId) (dI : Nat → Nat → Nat) {Z : ZZ} (ad : Nat → Nat) (kc : Nat → ClassId) (sa va : Nat) {E : Int32 → S5 → Option (Int64 × S5)} {fE lE : Nat} {σ τ : S5} {a1 : Int32} {a2 : Int64} {a4 : Int32} {r : Unit} (hE : ∀ (a0 : Int32) (σ τ : S5) (r : Int64), E a0 σ = some (r, τ) → ∀ sz : Nat, Met l yX3_keep (Cond.code yX3_keep cX3_keep 4 (some .long) :: uG) { frames := fE, cells := 0, slots := 0, locals := lE } (gPc (dC, dI) (tK kc) (wK ad kc sa va) Z [.ref (ad 0), .int a0] σ sz) (gQl (dC, dI) (tK kc) (wK ad kc sa va) (va_A (wK ad kc sa va σ) sz) r τ) 0 0 (va_A (wK ad kc sa va σ) sz)) (hg : f_X3_fill E a1 a2 a4 σ = some (r, τ)) (sz : Nat) : Met l yX3_fill (Cond.code yX3_fill cX3_fill 7 none :: uG) { frames := fE + 2, cells := 0, slots := 0, locals := lE + 47 } (gPc (dC, dI) (tK kc) (wK ad kc sa va) Z [.ref (ad 0), .int a1, .long a2, .int a4] σ sz) (gQv (dC, dI) (tK kc) (wK ad kc sa va) (va_A (wK ad kc sa va σ) sz) r τ) 0 0 (va_A (wK ad kc sa va σ) sz) :=
  g_start (by decide) (Nat.le_of_ble_eq_true rfl) (fun p e s m below meth c ls S hr hk X hl => w_X3_fill S hr hk ⟨Nat.le_refl _, Nat.le_refl _⟩ hE X hl hg)
section MX3_keep
variable {p : Program} {l : Launch} {e : Env} {R : Room} {s : State} {m : MethodId} {args : Array Value} {below : List Frame} {meth : Method} {c : Code} {dC : Nat → ClassId} {dI : Nat → Nat → Nat} {Z : ZZ} {A : Nat → Prop} {ad : Nat → Nat} {kc : Nat → ClassId} {sa va : Nat} {r : Int64} {τ : S5} {fE lE : Nat}
set_option maxHeartbeats 4000000 in
set_option maxRecDepth 100000 in
theorem w_X3_keep {σ : S5} {E : Int32 → S5 → Option (Int64 × S5)} {a1 : Int32} {H : Heap} {locs : List Loc} {ls : Array Slot} (S : CallFix p m c cX3_keep 4 s args uG RX3) (hr : meth.sig.returnType = (some .long)) (hk : meth.locks = false) (hR : fE + 3 ≤ R.frames ∧ lE + 73 ≤ R.locals)
    (hE : ∀ (a0 : Int32) (σ τ : S5) (r : Int64), E a0 σ = some (r, τ) → ∀ sz : Nat, Met l yX3_keep (Cond.code yX3_keep cX3_keep 4 (some .long) :: uG) { frames := fE, cells := 0, slots := 0, locals := lE } (gPc (dC, dI) (tK kc) (wK ad kc sa va) Z [.ref (ad 0), .int a0] σ sz) (gQl (dC, dI) (tK kc) (wK ad kc sa va) (va_A (wK ad kc sa va σ) sz) r τ) 0 0 (va_A (wK ad kc sa va σ) sz))
    (X : gX (dC, dI) (tK kc) (wK ad kc sa va) Z A s σ H locs) (hl : lv_has ls 4 [(0, .ref (ad 0)), (1, .int a1)]) (hg : f_X3_keep E a1 σ = some (r, τ)) : W p l e R s m args below meth c H locs 0 0 (MQ below (gQl (dC, dI) (tK kc) (wK ad kc sa va) A r τ) args s 0 0 A) (F0 m 0 ls []) := by
  have hx := S.1
  have hb := S.2.1
  have hown := S.2.2.2.1
  have hu := S.2.2.2.2
  unfold f_X3_keep at hg
  refine lv_aload_n hx hb dX3_keep_0 rfl (lv_at hl 0 rfl) ?_
  refine lv_iload_n hx hb dX3_keep_1 rfl (lv_at hl 1 rfl) ?_
  refine lv_iconst (v := 0) hx hb dX3_keep_2 (by decide) ?_
  obtain ⟨r3, τ3, hq3, hg⟩ := bd_some hg
  refine gc_Vl (As := [.int a1, .int 0]) (rest := []) (q0 := 0) (ci := 6) S X (k2_X3_begin l dC dI ad kc sa va hq3 H.size) cw_X3_begin mG_1892 rfl rfl rfl rfl rfl hl.1 (Nat.le_of_ble_eq_true rfl) dX3_keep_3 ⟨by omega, by omega⟩ (fun H locs X => ?_)
  refine lv_lstore_n (lv' := [(2, .long r3), (0, .ref (ad 0)), (1, .int a1)]) hx hb dX3_keep_6 rfl hl (by decide) rfl (fun ls hl => ?_)
  refine lv_aload_n hx hb dX3_keep_7 rfl (lv_at hl 1 rfl) ?_
  refine lv_iload_n hx hb dX3_keep_8 rfl (lv_at hl 2 rfl) ?_
  refine lv_lload_n hx hb dX3_keep_9 rfl (lv_at hl 0 rfl) ?_
  refine lv_iconst (v := 0) hx hb dX3_keep_10 (by decide) ?_
  obtain ⟨r11, τ11, hq11, hg⟩ := bd_some hg
  refine gc_Vv (As := [.int a1, .long r3, .int 0]) (rest := []) (q0 := 0) (ci := 6) S X (k2_X3_fill l dC dI ad kc sa va hE hq11 H.size) cw_X3_fill mG_1918 rfl rfl rfl rfl rfl hl.1 (Nat.le_of_ble_eq_true rfl) dX3_keep_11 ⟨by omega, by omega⟩ (fun H locs X => ?_)
  refine lv_lload_n hx hb dX3_keep_14 rfl (lv_at hl 0 rfl) ?_
  obtain ⟨rfl, rfl⟩ := fin_some hg
  exact gr_l S hr hk X dX3_keep_15
end MX3_keep
set_option maxRecDepth 100000 in
theorem k2_X3_keep (l : Launch) (dC : Nat → ClassId) (dI : Nat → Nat → Nat) {Z : ZZ} (ad : Nat → Nat) (kc : Nat → ClassId) (sa va : Nat) {E : Int32 → S5 → Option (Int64 × S5)} {fE lE : Nat} {σ τ : S5} {a1 : Int32} {r : Int64} (hE : ∀ (a0 : Int32) (σ τ : S5) (r : Int64), E a0 σ = some (r, τ) → ∀ sz : Nat, Met l yX3_keep (Cond.code yX3_keep cX3_keep 4 (some .long) :: uG) { frames := fE, cells := 0, slots := 0, locals := lE } (gPc (dC, dI) (tK kc) (wK ad kc sa va) Z [.ref (ad 0), .int a0] σ sz) (gQl (dC, dI) (tK kc) (wK ad kc sa va) (va_A (wK ad kc sa va σ) sz) r τ) 0 0 (va_A (wK ad kc sa va σ) sz)) (hg : f_X3_keep E a1 σ = some (r, τ)) (sz : Nat) : Met l yX3_keep (Cond.code yX3_keep cX3_keep 4 (some .long) :: uG) { frames := fE + 3, cells := 0, slots := 0, locals := lE + 73 } (gPc (dC, dI) (tK kc) (wK ad kc sa va) Z [.ref (ad 0), .int a1] σ sz) (gQl (dC, dI) (tK kc) (wK ad kc sa va) (va_A (wK ad kc sa va σ) sz) r τ) 0 0 (va_A (wK ad kc sa va σ) sz) :=
  g_start (by decide) (Nat.le_of_ble_eq_true rfl) (fun p e s m below meth c ls S hr hk X hl => w_X3_keep S hr hk ⟨Nat.le_refl _, Nat.le_refl _⟩ hE X hl hg)
theorem k3_X3_keep (l : Launch) (dC : Nat → ClassId) (dI : Nat → Nat → Nat) {Z : ZZ} (ad : Nat → Nat) (kc : Nat → ClassId) (sa va : Nat) : ∀ (d : Nat) (a1 : Int32) (σ τ : S5) (r : Int64), f_keepE d a1 σ = some (r, τ) → ∀ sz : Nat, Met l yX3_keep (Cond.code yX3_keep cX3_keep 4 (some .long) :: uG) { frames := 3 * d, cells := 0, slots := 0, locals := 73 * d } (gPc (dC, dI) (tK kc) (wK ad kc sa va) Z [.ref (ad 0), .int a1] σ sz) (gQl (dC, dI) (tK kc) (wK ad kc sa va) (va_A (wK ad kc sa va σ) sz) r τ) 0 0 (va_A (wK ad kc sa va σ) sz) := by
  intro d
  induction d with
  | zero => intro a1 σ τ r hg; cases hg
  | succ d ih => intro a1 σ τ r hg sz; exact k2_X3_keep l dC dI ad kc sa va ih hg sz

