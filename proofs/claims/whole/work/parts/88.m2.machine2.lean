theorem sw_1_4 (x : Int32) : (x.toInt < 1 ∨ 4 < x.toInt) ∨ x = 1 ∨ x = 2 ∨ x = 3 ∨ x = 4 := by
  by_cases h : x.toInt < 1 ∨ 4 < x.toInt
  · exact Or.inl h
  · have h2 : x.toInt = 1 ∨ x.toInt = 2 ∨ x.toInt = 3 ∨ x.toInt = 4 := by omega
    refine Or.inr ?_
    rcases h2 with h | h | h | h
    · exact Or.inl (Int32.toInt_inj.mp (h.trans (by decide)))
    · exact Or.inr (Or.inl (Int32.toInt_inj.mp (h.trans (by decide))))
    · exact Or.inr (Or.inr (Or.inl (Int32.toInt_inj.mp (h.trans (by decide)))))
    · exact Or.inr (Or.inr (Or.inr (Int32.toInt_inj.mp (h.trans (by decide)))))
theorem swo_1_4 {x : Int32} (h : x.toInt < 1 ∨ 4 < x.toInt) : ¬ x = 1 ∧ ¬ x = 2 ∧ ¬ x = 3 ∧ ¬ x = 4 := by
  refine ⟨?_, ?_, ?_, ?_⟩ <;> (intro e; rw [e] at h; revert h; decide)

theorem sw_1_9 (x : Int32) : (x.toInt < 1 ∨ 9 < x.toInt) ∨ x = 1 ∨ x = 2 ∨ x = 3 ∨ x = 4 ∨ x = 5 ∨ x = 6 ∨ x = 7 ∨ x = 8 ∨ x = 9 := by
  by_cases h : x.toInt < 1 ∨ 9 < x.toInt
  · exact Or.inl h
  · have h2 : x.toInt = 1 ∨ x.toInt = 2 ∨ x.toInt = 3 ∨ x.toInt = 4 ∨ x.toInt = 5 ∨ x.toInt = 6 ∨ x.toInt = 7 ∨ x.toInt = 8 ∨ x.toInt = 9 := by omega
    refine Or.inr ?_
    rcases h2 with h | h | h | h | h | h | h | h | h
    · exact Or.inl (Int32.toInt_inj.mp (h.trans (by decide)))
    · exact Or.inr (Or.inl (Int32.toInt_inj.mp (h.trans (by decide))))
    · exact Or.inr (Or.inr (Or.inl (Int32.toInt_inj.mp (h.trans (by decide)))))
    · exact Or.inr (Or.inr (Or.inr (Or.inl (Int32.toInt_inj.mp (h.trans (by decide))))))
    · exact Or.inr (Or.inr (Or.inr (Or.inr (Or.inl (Int32.toInt_inj.mp (h.trans (by decide)))))))
    · exact Or.inr (Or.inr (Or.inr (Or.inr (Or.inr (Or.inl (Int32.toInt_inj.mp (h.trans (by decide))))))))
    · exact Or.inr (Or.inr (Or.inr (Or.inr (Or.inr (Or.inr (Or.inl (Int32.toInt_inj.mp (h.trans (by decide)))))))))
    · exact Or.inr (Or.inr (Or.inr (Or.inr (Or.inr (Or.inr (Or.inr (Or.inl (Int32.toInt_inj.mp (h.trans (by decide))))))))))
    · exact Or.inr (Or.inr (Or.inr (Or.inr (Or.inr (Or.inr (Or.inr (Or.inr (Int32.toInt_inj.mp (h.trans (by decide))))))))))
theorem swo_1_9 {x : Int32} (h : x.toInt < 1 ∨ 9 < x.toInt) : ¬ x = 1 ∧ ¬ x = 2 ∧ ¬ x = 3 ∧ ¬ x = 4 ∧ ¬ x = 5 ∧ ¬ x = 6 ∧ ¬ x = 7 ∧ ¬ x = 8 ∧ ¬ x = 9 := by
  refine ⟨?_, ?_, ?_, ?_, ?_, ?_, ?_, ?_, ?_⟩ <;> (intro e; rw [e] at h; revert h; decide)

theorem mG_71 : Cond.selects "LazyForge$Machine" yX3_push yX3_push ∈ uG := uG_at 71 (by decide +kernel) (by decide +kernel)
theorem mG_72 : Cond.selects "LazyForge$Machine" yX3_enter yX3_enter ∈ uG := uG_at 72 (by decide +kernel) (by decide +kernel)
theorem mG_75 : Cond.selects "LazyForge$Machine" yX3_openVariables yX3_openVariables ∈ uG := uG_at 75 (by decide +kernel) (by decide +kernel)
theorem mG_76 : Cond.selects "LazyForge$Machine" yX3_makeRoom yX3_makeRoom ∈ uG := uG_at 76 (by decide +kernel) (by decide +kernel)
theorem mG_77 : Cond.selects "LazyForge$Machine" yX3_loadVariables yX3_loadVariables ∈ uG := uG_at 77 (by decide +kernel) (by decide +kernel)
theorem mG_79 : Cond.selects "LazyForge$Machine" yX3_work yX3_work ∈ uG := uG_at 79 (by decide +kernel) (by decide +kernel)
theorem mG_88 : Cond.selects "LazyForge$Machine" yX3_workLet yX3_workLet ∈ uG := uG_at 88 (by decide +kernel) (by decide +kernel)
theorem mG_89 : Cond.selects "LazyForge$Machine" yX3_workApplication yX3_workApplication ∈ uG := uG_at 89 (by decide +kernel) (by decide +kernel)
theorem mG_90 : Cond.selects "LazyForge$Machine" yX3_workArguments yX3_workArguments ∈ uG := uG_at 90 (by decide +kernel) (by decide +kernel)
theorem mG_91 : Cond.selects "LazyForge$Machine" yX3_enterCall yX3_enterCall ∈ uG := uG_at 91 (by decide +kernel) (by decide +kernel)
theorem mG_92 : Cond.selects "LazyForge$Machine" yX3_resume yX3_resume ∈ uG := uG_at 92 (by decide +kernel) (by decide +kernel)
theorem mG_93 : Cond.selects "LazyForge$Machine" yX3_pop yX3_pop ∈ uG := uG_at 93 (by decide +kernel) (by decide +kernel)
theorem mG_94 : Cond.selects "LazyForge$Machine" yX3_operate yX3_operate ∈ uG := uG_at 94 (by decide +kernel) (by decide +kernel)
theorem mG_98 : Cond.selects "LazyForge$Machine" yX3_choose yX3_choose ∈ uG := uG_at 98 (by decide +kernel) (by decide +kernel)
theorem mG_100 : Cond.selects "LazyForge$Machine" yX3_applyValue yX3_applyValue ∈ uG := uG_at 100 (by decide +kernel) (by decide +kernel)
theorem mG_101 : Cond.selects "LazyForge$Machine" yX3_extendPart yX3_extendPart ∈ uG := uG_at 101 (by decide +kernel) (by decide +kernel)
theorem mG_102 : Cond.selects "LazyForge$Machine" yX3_closeVariables yX3_closeVariables ∈ uG := uG_at 102 (by decide +kernel) (by decide +kernel)
theorem mG_103 : Cond.selects "LazyForge$Machine" yX3_show yX3_show ∈ uG := uG_at 103 (by decide +kernel) (by decide +kernel)
theorem mG_104 : Cond.selects "LazyForge$Machine" yX3_addNumbers yX3_addNumbers ∈ uG := uG_at 104 (by decide +kernel) (by decide +kernel)
theorem mG_105 : Cond.selects "LazyForge$Machine" yX3_showField yX3_showField ∈ uG := uG_at 105 (by decide +kernel) (by decide +kernel)
theorem mG_296 : Cond.fieldLink "LazyForge$Machine" 77 "LazyForge$Program" "tops" "I" ∈ uG := uG_at 296 (by decide +kernel) (by decide +kernel)
theorem mG_305 : Cond.fieldLink "LazyForge$Machine" 100 "LazyForge$Program" "main" "I" ∈ uG := uG_at 305 (by decide +kernel) (by decide +kernel)
theorem mG_324 : Cond.fieldLink "LazyForge$Machine" 85 "LazyForge$Program" "root" "[I" ∈ uG := uG_at 324 (by decide +kernel) (by decide +kernel)
theorem mG_679 : Cond.fieldLink "LazyForge$Machine" 57 "LazyForge$Machine" "eager" "Z" ∈ uG := uG_at 679 (by decide +kernel) (by decide +kernel)
theorem mG_680 : Cond.fieldLink "LazyForge$Machine" 61 "LazyForge$Machine" "callsMost" "I" ∈ uG := uG_at 680 (by decide +kernel) (by decide +kernel)
theorem mG_886 : Cond.instanceMethod yX3_forget ∈ uG := uG_at 886 (by decide +kernel) (by decide +kernel)
theorem mG_887 : Cond.selects "LazyForge$Machine" yX3_forget yX3_forget ∈ uG := uG_at 887 (by decide +kernel) (by decide +kernel)
theorem mG_888 : Cond.code yX3_forget prog_5_method_2_code 1 none ∈ uG := uG_at 888 (by decide +kernel) (by decide +kernel)
theorem mG_1778 : Cond.instanceMethod yX4_needsParameter ∈ uG := uG_at 1778 (by decide +kernel) (by decide +kernel)
theorem mG_1779 : Cond.selects "LazyForge$Program" yX4_needsParameter yX4_needsParameter ∈ uG := uG_at 1779 (by decide +kernel) (by decide +kernel)
theorem mG_1780 : Cond.code yX4_needsParameter prog_6_method_8_code 3 (some .boolean) ∈ uG := uG_at 1780 (by decide +kernel) (by decide +kernel)
theorem mG_1801 : Cond.methodLink "LazyForge$Machine" 54 yX3_forget ∈ uG := uG_at 1801 (by decide +kernel) (by decide +kernel)
theorem mG_1811 : Cond.methodLink "LazyForge$Machine" 92 yX3_frame ∈ uG := uG_at 1811 (by decide +kernel) (by decide +kernel)
theorem mG_1812 : Cond.static yX3_frame ∈ uG := uG_at 1812 (by decide +kernel) (by decide +kernel)
theorem mG_1813 : Cond.code yX3_frame prog_5_method_6_code 3 (some .long) ∈ uG := uG_at 1813 (by decide +kernel) (by decide +kernel)
theorem mG_1814 : Cond.methodLink "LazyForge$Machine" 96 yX3_push ∈ uG := uG_at 1814 (by decide +kernel) (by decide +kernel)
theorem mG_1816 : Cond.instanceMethod yX3_push ∈ uG := uG_at 1816 (by decide +kernel) (by decide +kernel)
theorem mG_1817 : Cond.code yX3_push prog_5_method_7_code 3 none ∈ uG := uG_at 1817 (by decide +kernel) (by decide +kernel)
theorem mG_1818 : Cond.methodLink "LazyForge$Machine" 120 yJ7_copyOf_c38d5 ∈ uG := uG_at 1818 (by decide +kernel) (by decide +kernel)
theorem mG_1830 : Cond.methodLink "LazyForge$Machine" 107 yX3_enter ∈ uG := uG_at 1830 (by decide +kernel) (by decide +kernel)
theorem mG_1832 : Cond.instanceMethod yX3_enter ∈ uG := uG_at 1832 (by decide +kernel) (by decide +kernel)
theorem mG_1833 : Cond.code yX3_enter prog_5_method_15_code 5 none ∈ uG := uG_at 1833 (by decide +kernel) (by decide +kernel)
theorem mG_1841 : Cond.methodLink "LazyForge$Machine" 174 yX0_isBlack ∈ uG := uG_at 1841 (by decide +kernel) (by decide +kernel)
theorem mG_1842 : Cond.instanceMethod yX0_isBlack ∈ uG := uG_at 1842 (by decide +kernel) (by decide +kernel)
theorem mG_1843 : Cond.selects "LazyForge$Cells" yX0_isBlack yX0_isBlack ∈ uG := uG_at 1843 (by decide +kernel) (by decide +kernel)
theorem mG_1844 : Cond.code yX0_isBlack prog_2_method_8_code 2 (some .boolean) ∈ uG := uG_at 1844 (by decide +kernel) (by decide +kernel)
theorem mG_1850 : Cond.methodLink "LazyForge$Machine" 178 yX0_isFresh ∈ uG := uG_at 1850 (by decide +kernel) (by decide +kernel)
theorem mG_1851 : Cond.instanceMethod yX0_isFresh ∈ uG := uG_at 1851 (by decide +kernel) (by decide +kernel)
theorem mG_1852 : Cond.selects "LazyForge$Cells" yX0_isFresh yX0_isFresh ∈ uG := uG_at 1852 (by decide +kernel) (by decide +kernel)
theorem mG_1853 : Cond.code yX0_isFresh prog_2_method_9_code 2 (some .boolean) ∈ uG := uG_at 1853 (by decide +kernel) (by decide +kernel)
theorem mG_1854 : Cond.methodLink "LazyForge$Machine" 183 yX0_nodeOf ∈ uG := uG_at 1854 (by decide +kernel) (by decide +kernel)
theorem mG_1855 : Cond.instanceMethod yX0_nodeOf ∈ uG := uG_at 1855 (by decide +kernel) (by decide +kernel)
theorem mG_1856 : Cond.selects "LazyForge$Cells" yX0_nodeOf yX0_nodeOf ∈ uG := uG_at 1856 (by decide +kernel) (by decide +kernel)
theorem mG_1857 : Cond.code yX0_nodeOf prog_2_method_13_code 2 (some .int) ∈ uG := uG_at 1857 (by decide +kernel) (by decide +kernel)
theorem mG_1859 : Cond.methodLink "LazyForge$Machine" 187 yX0_functionOf ∈ uG := uG_at 1859 (by decide +kernel) (by decide +kernel)
theorem mG_1860 : Cond.instanceMethod yX0_functionOf ∈ uG := uG_at 1860 (by decide +kernel) (by decide +kernel)
theorem mG_1861 : Cond.selects "LazyForge$Cells" yX0_functionOf yX0_functionOf ∈ uG := uG_at 1861 (by decide +kernel) (by decide +kernel)
theorem mG_1862 : Cond.code yX0_functionOf prog_2_method_12_code 2 (some .int) ∈ uG := uG_at 1862 (by decide +kernel) (by decide +kernel)
theorem mG_1863 : Cond.methodLink "LazyForge$Machine" 190 yX3_openVariables ∈ uG := uG_at 1863 (by decide +kernel) (by decide +kernel)
theorem mG_1865 : Cond.instanceMethod yX3_openVariables ∈ uG := uG_at 1865 (by decide +kernel) (by decide +kernel)
theorem mG_1866 : Cond.code yX3_openVariables prog_5_method_11_code 2 none ∈ uG := uG_at 1866 (by decide +kernel) (by decide +kernel)
theorem mG_1867 : Cond.methodLink "LazyForge$Machine" 130 yX3_makeRoom ∈ uG := uG_at 1867 (by decide +kernel) (by decide +kernel)
theorem mG_1869 : Cond.instanceMethod yX3_makeRoom ∈ uG := uG_at 1869 (by decide +kernel) (by decide +kernel)
theorem mG_1870 : Cond.code yX3_makeRoom prog_5_method_12_code 2 none ∈ uG := uG_at 1870 (by decide +kernel) (by decide +kernel)
theorem mG_1871 : Cond.methodLink "LazyForge$Machine" 196 yX3_loadVariables ∈ uG := uG_at 1871 (by decide +kernel) (by decide +kernel)
theorem mG_1873 : Cond.instanceMethod yX3_loadVariables ∈ uG := uG_at 1873 (by decide +kernel) (by decide +kernel)
theorem mG_1874 : Cond.code yX3_loadVariables prog_5_method_16_code 6 none ∈ uG := uG_at 1874 (by decide +kernel) (by decide +kernel)
theorem mG_1875 : Cond.methodLink "LazyForge$Machine" 200 yX0_blacken ∈ uG := uG_at 1875 (by decide +kernel) (by decide +kernel)
theorem mG_1876 : Cond.instanceMethod yX0_blacken ∈ uG := uG_at 1876 (by decide +kernel) (by decide +kernel)
theorem mG_1877 : Cond.selects "LazyForge$Cells" yX0_blacken yX0_blacken ∈ uG := uG_at 1877 (by decide +kernel) (by decide +kernel)
theorem mG_1878 : Cond.code yX0_blacken prog_2_method_10_code 2 none ∈ uG := uG_at 1878 (by decide +kernel) (by decide +kernel)
theorem mG_1883 : Cond.constant "LazyForge$Machine" 110 100000000 ∈ uG := uG_at 1883 (by decide +kernel) (by decide +kernel)
theorem mG_1884 : Cond.methodLink "LazyForge$Machine" 114 yX3_work ∈ uG := uG_at 1884 (by decide +kernel) (by decide +kernel)
theorem mG_1886 : Cond.instanceMethod yX3_work ∈ uG := uG_at 1886 (by decide +kernel) (by decide +kernel)
theorem mG_1887 : Cond.code yX3_work prog_5_method_14_code 3 none ∈ uG := uG_at 1887 (by decide +kernel) (by decide +kernel)
theorem mG_1934 : Cond.methodLink "LazyForge$Machine" 164 yX3_workLet ∈ uG := uG_at 1934 (by decide +kernel) (by decide +kernel)
theorem mG_1936 : Cond.instanceMethod yX3_workLet ∈ uG := uG_at 1936 (by decide +kernel) (by decide +kernel)
theorem mG_1937 : Cond.code yX3_workLet prog_5_method_24_code 6 none ∈ uG := uG_at 1937 (by decide +kernel) (by decide +kernel)
theorem mG_1938 : Cond.methodLink "LazyForge$Machine" 167 yX3_workApplication ∈ uG := uG_at 1938 (by decide +kernel) (by decide +kernel)
theorem mG_1940 : Cond.instanceMethod yX3_workApplication ∈ uG := uG_at 1940 (by decide +kernel) (by decide +kernel)
theorem mG_1941 : Cond.code yX3_workApplication prog_5_method_25_code 5 none ∈ uG := uG_at 1941 (by decide +kernel) (by decide +kernel)
theorem mG_1942 : Cond.methodLink "LazyForge$Machine" 243 yX3_workArguments ∈ uG := uG_at 1942 (by decide +kernel) (by decide +kernel)
theorem mG_1944 : Cond.instanceMethod yX3_workArguments ∈ uG := uG_at 1944 (by decide +kernel) (by decide +kernel)
theorem mG_1945 : Cond.code yX3_workArguments prog_5_method_26_code 7 none ∈ uG := uG_at 1945 (by decide +kernel) (by decide +kernel)
theorem mG_1946 : Cond.methodLink "LazyForge$Machine" 246 yX4_needsParameter ∈ uG := uG_at 1946 (by decide +kernel) (by decide +kernel)
theorem mG_1947 : Cond.methodLink "LazyForge$Machine" 250 yX3_enterCall ∈ uG := uG_at 1947 (by decide +kernel) (by decide +kernel)
theorem mG_1949 : Cond.instanceMethod yX3_enterCall ∈ uG := uG_at 1949 (by decide +kernel) (by decide +kernel)
theorem mG_1950 : Cond.code yX3_enterCall prog_5_method_27_code 10 none ∈ uG := uG_at 1950 (by decide +kernel) (by decide +kernel)
theorem mG_1951 : Cond.methodLink "LazyForge$Machine" 117 yX3_resume ∈ uG := uG_at 1951 (by decide +kernel) (by decide +kernel)
theorem mG_1953 : Cond.instanceMethod yX3_resume ∈ uG := uG_at 1953 (by decide +kernel) (by decide +kernel)
theorem mG_1954 : Cond.code yX3_resume prog_5_method_28_code 5 none ∈ uG := uG_at 1954 (by decide +kernel) (by decide +kernel)
theorem mG_1955 : Cond.methodLink "LazyForge$Machine" 254 yX3_pop ∈ uG := uG_at 1955 (by decide +kernel) (by decide +kernel)
theorem mG_1957 : Cond.instanceMethod yX3_pop ∈ uG := uG_at 1957 (by decide +kernel) (by decide +kernel)
theorem mG_1958 : Cond.code yX3_pop prog_5_method_8_code 1 (some .long) ∈ uG := uG_at 1958 (by decide +kernel) (by decide +kernel)
theorem mG_1959 : Cond.constant "LazyForge$Machine" 258 268435455 ∈ uG := uG_at 1959 (by decide +kernel) (by decide +kernel)
theorem mG_1960 : Cond.methodLink "LazyForge$Machine" 259 yX3_operate ∈ uG := uG_at 1960 (by decide +kernel) (by decide +kernel)
theorem mG_1962 : Cond.instanceMethod yX3_operate ∈ uG := uG_at 1962 (by decide +kernel) (by decide +kernel)
theorem mG_1963 : Cond.code yX3_operate prog_5_method_29_code 8 none ∈ uG := uG_at 1963 (by decide +kernel) (by decide +kernel)
theorem mG_1976 : Cond.methodLink "LazyForge$Machine" 263 yX3_choose ∈ uG := uG_at 1976 (by decide +kernel) (by decide +kernel)
theorem mG_1978 : Cond.instanceMethod yX3_choose ∈ uG := uG_at 1978 (by decide +kernel) (by decide +kernel)
theorem mG_1979 : Cond.code yX3_choose prog_5_method_33_code 4 none ∈ uG := uG_at 1979 (by decide +kernel) (by decide +kernel)
theorem mG_1984 : Cond.methodLink "LazyForge$Machine" 266 yX3_applyValue ∈ uG := uG_at 1984 (by decide +kernel) (by decide +kernel)
theorem mG_1986 : Cond.instanceMethod yX3_applyValue ∈ uG := uG_at 1986 (by decide +kernel) (by decide +kernel)
theorem mG_1987 : Cond.code yX3_applyValue prog_5_method_35_code 7 none ∈ uG := uG_at 1987 (by decide +kernel) (by decide +kernel)
theorem mG_1988 : Cond.methodLink "LazyForge$Machine" 294 yX3_extendPart ∈ uG := uG_at 1988 (by decide +kernel) (by decide +kernel)
theorem mG_1990 : Cond.instanceMethod yX3_extendPart ∈ uG := uG_at 1990 (by decide +kernel) (by decide +kernel)
theorem mG_1991 : Cond.code yX3_extendPart prog_5_method_36_code 9 none ∈ uG := uG_at 1991 (by decide +kernel) (by decide +kernel)
theorem mG_1992 : Cond.methodLink "LazyForge$Machine" 269 yX0_update ∈ uG := uG_at 1992 (by decide +kernel) (by decide +kernel)
theorem mG_1993 : Cond.instanceMethod yX0_update ∈ uG := uG_at 1993 (by decide +kernel) (by decide +kernel)
theorem mG_1994 : Cond.selects "LazyForge$Cells" yX0_update yX0_update ∈ uG := uG_at 1994 (by decide +kernel) (by decide +kernel)
theorem mG_1995 : Cond.code yX0_update prog_2_method_11_code 4 none ∈ uG := uG_at 1995 (by decide +kernel) (by decide +kernel)
theorem mG_1996 : Cond.methodLink "LazyForge$Machine" 272 yX3_closeVariables ∈ uG := uG_at 1996 (by decide +kernel) (by decide +kernel)
theorem mG_1998 : Cond.instanceMethod yX3_closeVariables ∈ uG := uG_at 1998 (by decide +kernel) (by decide +kernel)
theorem mG_1999 : Cond.code yX3_closeVariables prog_5_method_13_code 3 none ∈ uG := uG_at 1999 (by decide +kernel) (by decide +kernel)
theorem mG_2000 : Cond.methodLink "LazyForge$Machine" 275 yX3_show ∈ uG := uG_at 2000 (by decide +kernel) (by decide +kernel)
theorem mG_2002 : Cond.instanceMethod yX3_show ∈ uG := uG_at 2002 (by decide +kernel) (by decide +kernel)
theorem mG_2003 : Cond.code yX3_show prog_5_method_37_code 2 none ∈ uG := uG_at 2003 (by decide +kernel) (by decide +kernel)
theorem mG_2004 : Cond.methodLink "LazyForge$Machine" 298 yX3_addNumbers ∈ uG := uG_at 2004 (by decide +kernel) (by decide +kernel)
theorem mG_2006 : Cond.instanceMethod yX3_addNumbers ∈ uG := uG_at 2006 (by decide +kernel) (by decide +kernel)
theorem mG_2007 : Cond.code yX3_addNumbers prog_5_method_38_code 5 none ∈ uG := uG_at 2007 (by decide +kernel) (by decide +kernel)
theorem mG_2008 : Cond.methodLink "LazyForge$Machine" 278 yX3_showField ∈ uG := uG_at 2008 (by decide +kernel) (by decide +kernel)
theorem mG_2010 : Cond.instanceMethod yX3_showField ∈ uG := uG_at 2010 (by decide +kernel) (by decide +kernel)
theorem mG_2011 : Cond.code yX3_showField prog_5_method_39_code 3 none ∈ uG := uG_at 2011 (by decide +kernel) (by decide +kernel)
theorem dX3_applyValue_0 : decode cX3_applyValue 0 = .ok (.aload_n 0, 1) := by decide +kernel
theorem dX3_applyValue_1 : decode cX3_applyValue 1 = .ok (.getfield 124, 3) := by decide +kernel
theorem dX3_applyValue_4 : decode cX3_applyValue 4 = .ok (.invokestatic 170, 3) := by decide +kernel
theorem dX3_applyValue_7 : decode cX3_applyValue 7 = .ok (.istore_n 2, 1) := by decide +kernel
theorem dX3_applyValue_8 : decode cX3_applyValue 8 = .ok (.aload_n 0, 1) := by decide +kernel
theorem dX3_applyValue_9 : decode cX3_applyValue 9 = .ok (.getfield 124, 3) := by decide +kernel
theorem dX3_applyValue_12 : decode cX3_applyValue 12 = .ok (.l2i, 1) := by decide +kernel
theorem dX3_applyValue_13 : decode cX3_applyValue 13 = .ok (.istore_n 3, 1) := by decide +kernel
theorem dX3_applyValue_14 : decode cX3_applyValue 14 = .ok (.iload_n 2, 1) := by decide +kernel
theorem dX3_applyValue_15 : decode cX3_applyValue 15 = .ok (.iconst 2, 1) := by decide +kernel
theorem dX3_applyValue_16 : decode cX3_applyValue 16 = .ok (.if_icmp .eq 15, 3) := by decide +kernel
theorem dX3_applyValue_19 : decode cX3_applyValue 19 = .ok (.iload_n 2, 1) := by decide +kernel
theorem dX3_applyValue_20 : decode cX3_applyValue 20 = .ok (.iconst 5, 1) := by decide +kernel
theorem dX3_applyValue_21 : decode cX3_applyValue 21 = .ok (.if_icmp .eq 10, 3) := by decide +kernel
theorem dX3_applyValue_24 : decode cX3_applyValue 24 = .ok (.aload_n 0, 1) := by decide +kernel
theorem dX3_applyValue_25 : decode cX3_applyValue 25 = .ok (.iconst 2, 1) := by decide +kernel
theorem dX3_applyValue_26 : decode cX3_applyValue 26 = .ok (.iconst 4, 1) := by decide +kernel
theorem dX3_applyValue_27 : decode cX3_applyValue 27 = .ok (.invokevirtual 154, 3) := by decide +kernel
theorem dX3_applyValue_30 : decode cX3_applyValue 30 = .ok (.return_, 1) := by decide +kernel
theorem dX3_applyValue_31 : decode cX3_applyValue 31 = .ok (.iload_n 2, 1) := by decide +kernel
theorem dX3_applyValue_32 : decode cX3_applyValue 32 = .ok (.iconst 5, 1) := by decide +kernel
theorem dX3_applyValue_33 : decode cX3_applyValue 33 = .ok (.if_icmp .ne 7, 3) := by decide +kernel
theorem dX3_applyValue_36 : decode cX3_applyValue 36 = .ok (.iload_n 3, 1) := by decide +kernel
theorem dX3_applyValue_37 : decode cX3_applyValue 37 = .ok (.goto 4, 3) := by decide +kernel
theorem dX3_applyValue_40 : decode cX3_applyValue 40 = .ok (.iconst (-1), 1) := by decide +kernel
theorem dX3_applyValue_41 : decode cX3_applyValue 41 = .ok (.istore 4, 2) := by decide +kernel
theorem dX3_applyValue_43 : decode cX3_applyValue 43 = .ok (.iload_n 2, 1) := by decide +kernel
theorem dX3_applyValue_44 : decode cX3_applyValue 44 = .ok (.iconst 5, 1) := by decide +kernel
theorem dX3_applyValue_45 : decode cX3_applyValue 45 = .ok (.if_icmp .ne 16, 3) := by decide +kernel
theorem dX3_applyValue_48 : decode cX3_applyValue 48 = .ok (.aload_n 0, 1) := by decide +kernel
theorem dX3_applyValue_49 : decode cX3_applyValue 49 = .ok (.getfield 44, 3) := by decide +kernel
theorem dX3_applyValue_52 : decode cX3_applyValue 52 = .ok (.getfield 181, 3) := by decide +kernel
theorem dX3_applyValue_55 : decode cX3_applyValue 55 = .ok (.iload_n 3, 1) := by decide +kernel
theorem dX3_applyValue_56 : decode cX3_applyValue 56 = .ok (.laload, 1) := by decide +kernel
theorem dX3_applyValue_57 : decode cX3_applyValue 57 = .ok (.l2i, 1) := by decide +kernel
theorem dX3_applyValue_58 : decode cX3_applyValue 58 = .ok (.goto 4, 3) := by decide +kernel
theorem dX3_applyValue_61 : decode cX3_applyValue 61 = .ok (.iload_n 3, 1) := by decide +kernel
theorem dX3_applyValue_62 : decode cX3_applyValue 62 = .ok (.istore 5, 2) := by decide +kernel
theorem dX3_applyValue_64 : decode cX3_applyValue 64 = .ok (.iload_n 2, 1) := by decide +kernel
theorem dX3_applyValue_65 : decode cX3_applyValue 65 = .ok (.iconst 5, 1) := by decide +kernel
theorem dX3_applyValue_66 : decode cX3_applyValue 66 = .ok (.if_icmp .ne 18, 3) := by decide +kernel
theorem dX3_applyValue_69 : decode cX3_applyValue 69 = .ok (.aload_n 0, 1) := by decide +kernel
theorem dX3_applyValue_70 : decode cX3_applyValue 70 = .ok (.getfield 44, 3) := by decide +kernel
theorem dX3_applyValue_73 : decode cX3_applyValue 73 = .ok (.getfield 181, 3) := by decide +kernel
theorem dX3_applyValue_76 : decode cX3_applyValue 76 = .ok (.iload_n 3, 1) := by decide +kernel
theorem dX3_applyValue_77 : decode cX3_applyValue 77 = .ok (.iconst 1, 1) := by decide +kernel
theorem dX3_applyValue_78 : decode cX3_applyValue 78 = .ok (.iadd, 1) := by decide +kernel
theorem dX3_applyValue_79 : decode cX3_applyValue 79 = .ok (.laload, 1) := by decide +kernel
theorem dX3_applyValue_80 : decode cX3_applyValue 80 = .ok (.l2i, 1) := by decide +kernel
theorem dX3_applyValue_81 : decode cX3_applyValue 81 = .ok (.goto 4, 3) := by decide +kernel
theorem dX3_applyValue_84 : decode cX3_applyValue 84 = .ok (.iconst 0, 1) := by decide +kernel
theorem dX3_applyValue_85 : decode cX3_applyValue 85 = .ok (.istore 6, 2) := by decide +kernel
theorem dX3_applyValue_87 : decode cX3_applyValue 87 = .ok (.iload 6, 2) := by decide +kernel
theorem dX3_applyValue_89 : decode cX3_applyValue 89 = .ok (.iload_n 1, 1) := by decide +kernel
theorem dX3_applyValue_90 : decode cX3_applyValue 90 = .ok (.iadd, 1) := by decide +kernel
theorem dX3_applyValue_91 : decode cX3_applyValue 91 = .ok (.aload_n 0, 1) := by decide +kernel
theorem dX3_applyValue_92 : decode cX3_applyValue 92 = .ok (.getfield 37, 3) := by decide +kernel
theorem dX3_applyValue_95 : decode cX3_applyValue 95 = .ok (.getfield 82, 3) := by decide +kernel
theorem dX3_applyValue_98 : decode cX3_applyValue 98 = .ok (.iload 5, 2) := by decide +kernel
theorem dX3_applyValue_100 : decode cX3_applyValue 100 = .ok (.iaload, 1) := by decide +kernel
theorem dX3_applyValue_101 : decode cX3_applyValue 101 = .ok (.if_icmp .lt 15, 3) := by decide +kernel
theorem dX3_applyValue_104 : decode cX3_applyValue 104 = .ok (.aload_n 0, 1) := by decide +kernel
theorem dX3_applyValue_105 : decode cX3_applyValue 105 = .ok (.iload 5, 2) := by decide +kernel
theorem dX3_applyValue_107 : decode cX3_applyValue 107 = .ok (.iload 4, 2) := by decide +kernel
theorem dX3_applyValue_109 : decode cX3_applyValue 109 = .ok (.iload_n 1, 1) := by decide +kernel
theorem dX3_applyValue_110 : decode cX3_applyValue 110 = .ok (.invokevirtual 250, 3) := by decide +kernel
theorem dX3_applyValue_113 : decode cX3_applyValue 113 = .ok (.goto 14, 3) := by decide +kernel
theorem dX3_applyValue_116 : decode cX3_applyValue 116 = .ok (.aload_n 0, 1) := by decide +kernel
theorem dX3_applyValue_117 : decode cX3_applyValue 117 = .ok (.iload 5, 2) := by decide +kernel
theorem dX3_applyValue_119 : decode cX3_applyValue 119 = .ok (.iload 4, 2) := by decide +kernel
theorem dX3_applyValue_121 : decode cX3_applyValue 121 = .ok (.iload 6, 2) := by decide +kernel
theorem dX3_applyValue_123 : decode cX3_applyValue 123 = .ok (.iload_n 1, 1) := by decide +kernel
theorem dX3_applyValue_124 : decode cX3_applyValue 124 = .ok (.invokevirtual 294, 3) := by decide +kernel
theorem dX3_applyValue_127 : decode cX3_applyValue 127 = .ok (.return_, 1) := by decide +kernel
theorem dX3_enter_0 : decode cX3_enter 0 = .ok (.lload_n 1, 1) := by decide +kernel
theorem dX3_enter_1 : decode cX3_enter 1 = .ok (.l2i, 1) := by decide +kernel
theorem dX3_enter_2 : decode cX3_enter 2 = .ok (.istore_n 3, 1) := by decide +kernel
theorem dX3_enter_3 : decode cX3_enter 3 = .ok (.lload_n 1, 1) := by decide +kernel
theorem dX3_enter_4 : decode cX3_enter 4 = .ok (.invokestatic 170, 3) := by decide +kernel
theorem dX3_enter_7 : decode cX3_enter 7 = .ok (.bipush 6, 2) := by decide +kernel
theorem dX3_enter_9 : decode cX3_enter 9 = .ok (.if_icmp .eq 11, 3) := by decide +kernel
theorem dX3_enter_12 : decode cX3_enter 12 = .ok (.aload_n 0, 1) := by decide +kernel
theorem dX3_enter_13 : decode cX3_enter 13 = .ok (.lload_n 1, 1) := by decide +kernel
theorem dX3_enter_14 : decode cX3_enter 14 = .ok (.invokevirtual 147, 3) := by decide +kernel
theorem dX3_enter_17 : decode cX3_enter 17 = .ok (.goto 114, 3) := by decide +kernel
theorem dX3_enter_20 : decode cX3_enter 20 = .ok (.aload_n 0, 1) := by decide +kernel
theorem dX3_enter_21 : decode cX3_enter 21 = .ok (.getfield 44, 3) := by decide +kernel
theorem dX3_enter_24 : decode cX3_enter 24 = .ok (.iload_n 3, 1) := by decide +kernel
theorem dX3_enter_25 : decode cX3_enter 25 = .ok (.invokevirtual 174, 3) := by decide +kernel
theorem dX3_enter_28 : decode cX3_enter 28 = .ok (.ifCond .eq 12, 3) := by decide +kernel
theorem dX3_enter_31 : decode cX3_enter 31 = .ok (.aload_n 0, 1) := by decide +kernel
theorem dX3_enter_32 : decode cX3_enter 32 = .ok (.iconst 2, 1) := by decide +kernel
theorem dX3_enter_33 : decode cX3_enter 33 = .ok (.iconst 3, 1) := by decide +kernel
theorem dX3_enter_34 : decode cX3_enter 34 = .ok (.invokevirtual 154, 3) := by decide +kernel
theorem dX3_enter_37 : decode cX3_enter 37 = .ok (.goto 94, 3) := by decide +kernel
theorem dX3_enter_40 : decode cX3_enter 40 = .ok (.aload_n 0, 1) := by decide +kernel
theorem dX3_enter_41 : decode cX3_enter 41 = .ok (.getfield 44, 3) := by decide +kernel
theorem dX3_enter_44 : decode cX3_enter 44 = .ok (.iload_n 3, 1) := by decide +kernel
theorem dX3_enter_45 : decode cX3_enter 45 = .ok (.invokevirtual 178, 3) := by decide +kernel
theorem dX3_enter_48 : decode cX3_enter 48 = .ok (.ifCond .ne 19, 3) := by decide +kernel
theorem dX3_enter_51 : decode cX3_enter 51 = .ok (.aload_n 0, 1) := by decide +kernel
theorem dX3_enter_52 : decode cX3_enter 52 = .ok (.aload_n 0, 1) := by decide +kernel
theorem dX3_enter_53 : decode cX3_enter 53 = .ok (.getfield 44, 3) := by decide +kernel
theorem dX3_enter_56 : decode cX3_enter 56 = .ok (.getfield 181, 3) := by decide +kernel
theorem dX3_enter_59 : decode cX3_enter 59 = .ok (.iload_n 3, 1) := by decide +kernel
theorem dX3_enter_60 : decode cX3_enter 60 = .ok (.laload, 1) := by decide +kernel
theorem dX3_enter_61 : decode cX3_enter 61 = .ok (.invokevirtual 147, 3) := by decide +kernel
theorem dX3_enter_64 : decode cX3_enter 64 = .ok (.goto 67, 3) := by decide +kernel
theorem dX3_enter_67 : decode cX3_enter 67 = .ok (.aload_n 0, 1) := by decide +kernel
theorem dX3_enter_68 : decode cX3_enter 68 = .ok (.bipush 7, 2) := by decide +kernel
theorem dX3_enter_70 : decode cX3_enter 70 = .ok (.iload_n 3, 1) := by decide +kernel
theorem dX3_enter_71 : decode cX3_enter 71 = .ok (.iconst 0, 1) := by decide +kernel
theorem dX3_enter_72 : decode cX3_enter 72 = .ok (.invokestatic 92, 3) := by decide +kernel
theorem dX3_enter_75 : decode cX3_enter 75 = .ok (.invokevirtual 96, 3) := by decide +kernel
theorem dX3_enter_78 : decode cX3_enter 78 = .ok (.aload_n 0, 1) := by decide +kernel
theorem dX3_enter_79 : decode cX3_enter 79 = .ok (.getfield 44, 3) := by decide +kernel
theorem dX3_enter_82 : decode cX3_enter 82 = .ok (.iload_n 3, 1) := by decide +kernel
theorem dX3_enter_83 : decode cX3_enter 83 = .ok (.invokevirtual 183, 3) := by decide +kernel
theorem dX3_enter_86 : decode cX3_enter 86 = .ok (.istore 4, 2) := by decide +kernel
theorem dX3_enter_88 : decode cX3_enter 88 = .ok (.aload_n 0, 1) := by decide +kernel
theorem dX3_enter_89 : decode cX3_enter 89 = .ok (.aload_n 0, 1) := by decide +kernel
theorem dX3_enter_90 : decode cX3_enter 90 = .ok (.getfield 44, 3) := by decide +kernel
theorem dX3_enter_93 : decode cX3_enter 93 = .ok (.iload_n 3, 1) := by decide +kernel
theorem dX3_enter_94 : decode cX3_enter 94 = .ok (.invokevirtual 187, 3) := by decide +kernel
theorem dX3_enter_97 : decode cX3_enter 97 = .ok (.invokevirtual 190, 3) := by decide +kernel
theorem dX3_enter_100 : decode cX3_enter 100 = .ok (.aload_n 0, 1) := by decide +kernel
theorem dX3_enter_101 : decode cX3_enter 101 = .ok (.iload_n 3, 1) := by decide +kernel
theorem dX3_enter_102 : decode cX3_enter 102 = .ok (.iconst 1, 1) := by decide +kernel
theorem dX3_enter_103 : decode cX3_enter 103 = .ok (.iadd, 1) := by decide +kernel
theorem dX3_enter_104 : decode cX3_enter 104 = .ok (.aload_n 0, 1) := by decide +kernel
theorem dX3_enter_105 : decode cX3_enter 105 = .ok (.getfield 33, 3) := by decide +kernel
theorem dX3_enter_108 : decode cX3_enter 108 = .ok (.getfield 193, 3) := by decide +kernel
theorem dX3_enter_111 : decode cX3_enter 111 = .ok (.iload 4, 2) := by decide +kernel
theorem dX3_enter_113 : decode cX3_enter 113 = .ok (.laload, 1) := by decide +kernel
theorem dX3_enter_114 : decode cX3_enter 114 = .ok (.invokevirtual 196, 3) := by decide +kernel
theorem dX3_enter_117 : decode cX3_enter 117 = .ok (.aload_n 0, 1) := by decide +kernel
theorem dX3_enter_118 : decode cX3_enter 118 = .ok (.getfield 44, 3) := by decide +kernel
theorem dX3_enter_121 : decode cX3_enter 121 = .ok (.iload_n 3, 1) := by decide +kernel
theorem dX3_enter_122 : decode cX3_enter 122 = .ok (.invokevirtual 200, 3) := by decide +kernel
theorem dX3_enter_125 : decode cX3_enter 125 = .ok (.aload_n 0, 1) := by decide +kernel
theorem dX3_enter_126 : decode cX3_enter 126 = .ok (.iload 4, 2) := by decide +kernel
theorem dX3_enter_128 : decode cX3_enter 128 = .ok (.invokevirtual 161, 3) := by decide +kernel
theorem dX3_enter_131 : decode cX3_enter 131 = .ok (.return_, 1) := by decide +kernel
theorem dX3_enterCall_0 : decode cX3_enterCall 0 = .ok (.aload_n 0, 1) := by decide +kernel
theorem dX3_enterCall_1 : decode cX3_enterCall 1 = .ok (.getfield 13, 3) := by decide +kernel
theorem dX3_enterCall_4 : decode cX3_enterCall 4 = .ok (.iconst 2, 1) := by decide +kernel
theorem dX3_enterCall_5 : decode cX3_enterCall 5 = .ok (.iaload, 1) := by decide +kernel
theorem dX3_enterCall_6 : decode cX3_enterCall 6 = .ok (.aload_n 0, 1) := by decide +kernel
theorem dX3_enterCall_7 : decode cX3_enterCall 7 = .ok (.getfield 61, 3) := by decide +kernel
theorem dX3_enterCall_10 : decode cX3_enterCall 10 = .ok (.if_icmp .lt 10, 3) := by decide +kernel
theorem dX3_enterCall_13 : decode cX3_enterCall 13 = .ok (.aload_n 0, 1) := by decide +kernel
theorem dX3_enterCall_14 : decode cX3_enterCall 14 = .ok (.iconst 3, 1) := by decide +kernel
theorem dX3_enterCall_15 : decode cX3_enterCall 15 = .ok (.iconst 1, 1) := by decide +kernel
theorem dX3_enterCall_16 : decode cX3_enterCall 16 = .ok (.invokevirtual 154, 3) := by decide +kernel
theorem dX3_enterCall_19 : decode cX3_enterCall 19 = .ok (.return_, 1) := by decide +kernel
theorem dX3_enterCall_20 : decode cX3_enterCall 20 = .ok (.aload_n 0, 1) := by decide +kernel
theorem dX3_enterCall_21 : decode cX3_enterCall 21 = .ok (.getfield 13, 3) := by decide +kernel
theorem dX3_enterCall_24 : decode cX3_enterCall 24 = .ok (.iconst 2, 1) := by decide +kernel
theorem dX3_enterCall_25 : decode cX3_enterCall 25 = .ok (.dup2, 1) := by decide +kernel
theorem dX3_enterCall_26 : decode cX3_enterCall 26 = .ok (.iaload, 1) := by decide +kernel
theorem dX3_enterCall_27 : decode cX3_enterCall 27 = .ok (.iconst 1, 1) := by decide +kernel
theorem dX3_enterCall_28 : decode cX3_enterCall 28 = .ok (.iadd, 1) := by decide +kernel
theorem dX3_enterCall_29 : decode cX3_enterCall 29 = .ok (.iastore, 1) := by decide +kernel
theorem dX3_enterCall_30 : decode cX3_enterCall 30 = .ok (.aload_n 0, 1) := by decide +kernel
theorem dX3_enterCall_31 : decode cX3_enterCall 31 = .ok (.getfield 17, 3) := by decide +kernel
theorem dX3_enterCall_34 : decode cX3_enterCall 34 = .ok (.iload_n 1, 1) := by decide +kernel
theorem dX3_enterCall_35 : decode cX3_enterCall 35 = .ok (.dup2, 1) := by decide +kernel
theorem dX3_enterCall_36 : decode cX3_enterCall 36 = .ok (.iaload, 1) := by decide +kernel
theorem dX3_enterCall_37 : decode cX3_enterCall 37 = .ok (.iconst 1, 1) := by decide +kernel
theorem dX3_enterCall_38 : decode cX3_enterCall 38 = .ok (.iadd, 1) := by decide +kernel
theorem dX3_enterCall_39 : decode cX3_enterCall 39 = .ok (.iastore, 1) := by decide +kernel
theorem dX3_enterCall_40 : decode cX3_enterCall 40 = .ok (.iload_n 2, 1) := by decide +kernel
theorem dX3_enterCall_41 : decode cX3_enterCall 41 = .ok (.iconst (-1), 1) := by decide +kernel
theorem dX3_enterCall_42 : decode cX3_enterCall 42 = .ok (.if_icmp .ne 7, 3) := by decide +kernel
theorem dX3_enterCall_45 : decode cX3_enterCall 45 = .ok (.iconst 0, 1) := by decide +kernel
theorem dX3_enterCall_46 : decode cX3_enterCall 46 = .ok (.goto 15, 3) := by decide +kernel
theorem dX3_enterCall_49 : decode cX3_enterCall 49 = .ok (.aload_n 0, 1) := by decide +kernel
theorem dX3_enterCall_50 : decode cX3_enterCall 50 = .ok (.getfield 44, 3) := by decide +kernel
theorem dX3_enterCall_53 : decode cX3_enterCall 53 = .ok (.getfield 181, 3) := by decide +kernel
theorem dX3_enterCall_56 : decode cX3_enterCall 56 = .ok (.iload_n 2, 1) := by decide +kernel
theorem dX3_enterCall_57 : decode cX3_enterCall 57 = .ok (.iconst 1, 1) := by decide +kernel
theorem dX3_enterCall_58 : decode cX3_enterCall 58 = .ok (.iadd, 1) := by decide +kernel
theorem dX3_enterCall_59 : decode cX3_enterCall 59 = .ok (.laload, 1) := by decide +kernel
theorem dX3_enterCall_60 : decode cX3_enterCall 60 = .ok (.l2i, 1) := by decide +kernel
theorem dX3_enterCall_61 : decode cX3_enterCall 61 = .ok (.istore 4, 2) := by decide +kernel
theorem dX3_enterCall_63 : decode cX3_enterCall 63 = .ok (.aload_n 0, 1) := by decide +kernel
theorem dX3_enterCall_64 : decode cX3_enterCall 64 = .ok (.getfield 37, 3) := by decide +kernel
theorem dX3_enterCall_67 : decode cX3_enterCall 67 = .ok (.getfield 82, 3) := by decide +kernel
theorem dX3_enterCall_70 : decode cX3_enterCall 70 = .ok (.iload_n 1, 1) := by decide +kernel
theorem dX3_enterCall_71 : decode cX3_enterCall 71 = .ok (.iaload, 1) := by decide +kernel
theorem dX3_enterCall_72 : decode cX3_enterCall 72 = .ok (.iload 4, 2) := by decide +kernel
theorem dX3_enterCall_74 : decode cX3_enterCall 74 = .ok (.isub, 1) := by decide +kernel
theorem dX3_enterCall_75 : decode cX3_enterCall 75 = .ok (.istore 5, 2) := by decide +kernel
theorem dX3_enterCall_77 : decode cX3_enterCall 77 = .ok (.aload_n 0, 1) := by decide +kernel
theorem dX3_enterCall_78 : decode cX3_enterCall 78 = .ok (.getfield 65, 3) := by decide +kernel
theorem dX3_enterCall_81 : decode cX3_enterCall 81 = .ok (.iload_n 3, 1) := by decide +kernel
theorem dX3_enterCall_82 : decode cX3_enterCall 82 = .ok (.isub, 1) := by decide +kernel
theorem dX3_enterCall_83 : decode cX3_enterCall 83 = .ok (.istore 6, 2) := by decide +kernel
theorem dX3_enterCall_85 : decode cX3_enterCall 85 = .ok (.iload_n 3, 1) := by decide +kernel
theorem dX3_enterCall_86 : decode cX3_enterCall 86 = .ok (.iload 5, 2) := by decide +kernel
theorem dX3_enterCall_88 : decode cX3_enterCall 88 = .ok (.isub, 1) := by decide +kernel
theorem dX3_enterCall_89 : decode cX3_enterCall 89 = .ok (.istore 7, 2) := by decide +kernel
theorem dX3_enterCall_91 : decode cX3_enterCall 91 = .ok (.aload_n 0, 1) := by decide +kernel
theorem dX3_enterCall_92 : decode cX3_enterCall 92 = .ok (.getfield 71, 3) := by decide +kernel
theorem dX3_enterCall_95 : decode cX3_enterCall 95 = .ok (.istore 8, 2) := by decide +kernel
theorem dX3_enterCall_97 : decode cX3_enterCall 97 = .ok (.aload_n 0, 1) := by decide +kernel
theorem dX3_enterCall_98 : decode cX3_enterCall 98 = .ok (.iload_n 1, 1) := by decide +kernel
theorem dX3_enterCall_99 : decode cX3_enterCall 99 = .ok (.invokevirtual 130, 3) := by decide +kernel
theorem dX3_enterCall_102 : decode cX3_enterCall 102 = .ok (.iconst 0, 1) := by decide +kernel
theorem dX3_enterCall_103 : decode cX3_enterCall 103 = .ok (.istore 9, 2) := by decide +kernel
theorem dX3_enterCall_105 : decode cX3_enterCall 105 = .ok (.iload 9, 2) := by decide +kernel
theorem dX3_enterCall_107 : decode cX3_enterCall 107 = .ok (.iload 4, 2) := by decide +kernel
theorem dX3_enterCall_109 : decode cX3_enterCall 109 = .ok (.if_icmp .ge 33, 3) := by decide +kernel
theorem dX3_enterCall_112 : decode cX3_enterCall 112 = .ok (.aload_n 0, 1) := by decide +kernel
theorem dX3_enterCall_113 : decode cX3_enterCall 113 = .ok (.getfield 30, 3) := by decide +kernel
theorem dX3_enterCall_116 : decode cX3_enterCall 116 = .ok (.iload 8, 2) := by decide +kernel
theorem dX3_enterCall_118 : decode cX3_enterCall 118 = .ok (.iload 9, 2) := by decide +kernel
theorem dX3_enterCall_120 : decode cX3_enterCall 120 = .ok (.iadd, 1) := by decide +kernel
theorem dX3_enterCall_121 : decode cX3_enterCall 121 = .ok (.aload_n 0, 1) := by decide +kernel
theorem dX3_enterCall_122 : decode cX3_enterCall 122 = .ok (.getfield 44, 3) := by decide +kernel
theorem dX3_enterCall_125 : decode cX3_enterCall 125 = .ok (.getfield 181, 3) := by decide +kernel
theorem dX3_enterCall_128 : decode cX3_enterCall 128 = .ok (.iload_n 2, 1) := by decide +kernel
theorem dX3_enterCall_129 : decode cX3_enterCall 129 = .ok (.iconst 2, 1) := by decide +kernel
theorem dX3_enterCall_130 : decode cX3_enterCall 130 = .ok (.iadd, 1) := by decide +kernel
theorem dX3_enterCall_131 : decode cX3_enterCall 131 = .ok (.iload 9, 2) := by decide +kernel
theorem dX3_enterCall_133 : decode cX3_enterCall 133 = .ok (.iadd, 1) := by decide +kernel
theorem dX3_enterCall_134 : decode cX3_enterCall 134 = .ok (.laload, 1) := by decide +kernel
theorem dX3_enterCall_135 : decode cX3_enterCall 135 = .ok (.lastore, 1) := by decide +kernel
theorem dX3_enterCall_136 : decode cX3_enterCall 136 = .ok (.iinc 9 1, 3) := by decide +kernel
theorem dX3_enterCall_139 : decode cX3_enterCall 139 = .ok (.goto (-34), 3) := by decide +kernel
theorem dX3_enterCall_142 : decode cX3_enterCall 142 = .ok (.iconst 0, 1) := by decide +kernel
theorem dX3_enterCall_143 : decode cX3_enterCall 143 = .ok (.istore 9, 2) := by decide +kernel
theorem dX3_enterCall_145 : decode cX3_enterCall 145 = .ok (.iload 9, 2) := by decide +kernel
theorem dX3_enterCall_147 : decode cX3_enterCall 147 = .ok (.iload 5, 2) := by decide +kernel
theorem dX3_enterCall_149 : decode cX3_enterCall 149 = .ok (.if_icmp .ge 32, 3) := by decide +kernel
theorem dX3_enterCall_152 : decode cX3_enterCall 152 = .ok (.aload_n 0, 1) := by decide +kernel
theorem dX3_enterCall_153 : decode cX3_enterCall 153 = .ok (.getfield 30, 3) := by decide +kernel
theorem dX3_enterCall_156 : decode cX3_enterCall 156 = .ok (.iload 8, 2) := by decide +kernel
theorem dX3_enterCall_158 : decode cX3_enterCall 158 = .ok (.iload 4, 2) := by decide +kernel
theorem dX3_enterCall_160 : decode cX3_enterCall 160 = .ok (.iadd, 1) := by decide +kernel
theorem dX3_enterCall_161 : decode cX3_enterCall 161 = .ok (.iload 9, 2) := by decide +kernel
theorem dX3_enterCall_163 : decode cX3_enterCall 163 = .ok (.iadd, 1) := by decide +kernel
theorem dX3_enterCall_164 : decode cX3_enterCall 164 = .ok (.aload_n 0, 1) := by decide +kernel
theorem dX3_enterCall_165 : decode cX3_enterCall 165 = .ok (.getfield 26, 3) := by decide +kernel
theorem dX3_enterCall_168 : decode cX3_enterCall 168 = .ok (.iload 6, 2) := by decide +kernel
theorem dX3_enterCall_170 : decode cX3_enterCall 170 = .ok (.iload 9, 2) := by decide +kernel
theorem dX3_enterCall_172 : decode cX3_enterCall 172 = .ok (.iadd, 1) := by decide +kernel
theorem dX3_enterCall_173 : decode cX3_enterCall 173 = .ok (.laload, 1) := by decide +kernel
theorem dX3_enterCall_174 : decode cX3_enterCall 174 = .ok (.lastore, 1) := by decide +kernel
theorem dX3_enterCall_175 : decode cX3_enterCall 175 = .ok (.iinc 9 1, 3) := by decide +kernel
theorem dX3_enterCall_178 : decode cX3_enterCall 178 = .ok (.goto (-33), 3) := by decide +kernel
theorem dX3_enterCall_181 : decode cX3_enterCall 181 = .ok (.iconst 0, 1) := by decide +kernel
theorem dX3_enterCall_182 : decode cX3_enterCall 182 = .ok (.istore 9, 2) := by decide +kernel
theorem dX3_enterCall_184 : decode cX3_enterCall 184 = .ok (.iload 9, 2) := by decide +kernel
theorem dX3_enterCall_186 : decode cX3_enterCall 186 = .ok (.iload 7, 2) := by decide +kernel
theorem dX3_enterCall_188 : decode cX3_enterCall 188 = .ok (.if_icmp .ge 32, 3) := by decide +kernel
theorem dX3_enterCall_191 : decode cX3_enterCall 191 = .ok (.aload_n 0, 1) := by decide +kernel
theorem dX3_enterCall_192 : decode cX3_enterCall 192 = .ok (.getfield 26, 3) := by decide +kernel
theorem dX3_enterCall_195 : decode cX3_enterCall 195 = .ok (.iload 6, 2) := by decide +kernel
theorem dX3_enterCall_197 : decode cX3_enterCall 197 = .ok (.iload 9, 2) := by decide +kernel
theorem dX3_enterCall_199 : decode cX3_enterCall 199 = .ok (.iadd, 1) := by decide +kernel
theorem dX3_enterCall_200 : decode cX3_enterCall 200 = .ok (.aload_n 0, 1) := by decide +kernel
theorem dX3_enterCall_201 : decode cX3_enterCall 201 = .ok (.getfield 26, 3) := by decide +kernel
theorem dX3_enterCall_204 : decode cX3_enterCall 204 = .ok (.iload 6, 2) := by decide +kernel
theorem dX3_enterCall_206 : decode cX3_enterCall 206 = .ok (.iload 5, 2) := by decide +kernel
theorem dX3_enterCall_208 : decode cX3_enterCall 208 = .ok (.iadd, 1) := by decide +kernel
theorem dX3_enterCall_209 : decode cX3_enterCall 209 = .ok (.iload 9, 2) := by decide +kernel
theorem dX3_enterCall_211 : decode cX3_enterCall 211 = .ok (.iadd, 1) := by decide +kernel
theorem dX3_enterCall_212 : decode cX3_enterCall 212 = .ok (.laload, 1) := by decide +kernel
theorem dX3_enterCall_213 : decode cX3_enterCall 213 = .ok (.lastore, 1) := by decide +kernel
theorem dX3_enterCall_214 : decode cX3_enterCall 214 = .ok (.iinc 9 1, 3) := by decide +kernel
theorem dX3_enterCall_217 : decode cX3_enterCall 217 = .ok (.goto (-33), 3) := by decide +kernel
theorem dX3_enterCall_220 : decode cX3_enterCall 220 = .ok (.aload_n 0, 1) := by decide +kernel
theorem dX3_enterCall_221 : decode cX3_enterCall 221 = .ok (.iload 6, 2) := by decide +kernel
theorem dX3_enterCall_223 : decode cX3_enterCall 223 = .ok (.iload 7, 2) := by decide +kernel
theorem dX3_enterCall_225 : decode cX3_enterCall 225 = .ok (.iadd, 1) := by decide +kernel
theorem dX3_enterCall_226 : decode cX3_enterCall 226 = .ok (.putfield 65, 3) := by decide +kernel
theorem dX3_enterCall_229 : decode cX3_enterCall 229 = .ok (.iload 7, 2) := by decide +kernel
theorem dX3_enterCall_231 : decode cX3_enterCall 231 = .ok (.ifCond .le 15, 3) := by decide +kernel
theorem dX3_enterCall_234 : decode cX3_enterCall 234 = .ok (.aload_n 0, 1) := by decide +kernel
theorem dX3_enterCall_235 : decode cX3_enterCall 235 = .ok (.bipush 6, 2) := by decide +kernel
theorem dX3_enterCall_237 : decode cX3_enterCall 237 = .ok (.iload 7, 2) := by decide +kernel
theorem dX3_enterCall_239 : decode cX3_enterCall 239 = .ok (.iconst 0, 1) := by decide +kernel
theorem dX3_enterCall_240 : decode cX3_enterCall 240 = .ok (.invokestatic 92, 3) := by decide +kernel
theorem dX3_enterCall_243 : decode cX3_enterCall 243 = .ok (.invokevirtual 96, 3) := by decide +kernel
theorem dX3_enterCall_246 : decode cX3_enterCall 246 = .ok (.aload_n 0, 1) := by decide +kernel
theorem dX3_enterCall_247 : decode cX3_enterCall 247 = .ok (.iload_n 1, 1) := by decide +kernel
theorem dX3_enterCall_248 : decode cX3_enterCall 248 = .ok (.invokevirtual 190, 3) := by decide +kernel
theorem dX3_enterCall_251 : decode cX3_enterCall 251 = .ok (.aload_n 0, 1) := by decide +kernel
theorem dX3_enterCall_252 : decode cX3_enterCall 252 = .ok (.aload_n 0, 1) := by decide +kernel
theorem dX3_enterCall_253 : decode cX3_enterCall 253 = .ok (.getfield 37, 3) := by decide +kernel
theorem dX3_enterCall_256 : decode cX3_enterCall 256 = .ok (.getfield 85, 3) := by decide +kernel
theorem dX3_enterCall_259 : decode cX3_enterCall 259 = .ok (.iload_n 1, 1) := by decide +kernel
theorem dX3_enterCall_260 : decode cX3_enterCall 260 = .ok (.iaload, 1) := by decide +kernel
theorem dX3_enterCall_261 : decode cX3_enterCall 261 = .ok (.invokevirtual 161, 3) := by decide +kernel
theorem dX3_enterCall_264 : decode cX3_enterCall 264 = .ok (.return_, 1) := by decide +kernel
theorem dX3_makeRoom_0 : decode cX3_makeRoom 0 = .ok (.aload_n 0, 1) := by decide +kernel
theorem dX3_makeRoom_1 : decode cX3_makeRoom 1 = .ok (.getfield 71, 3) := by decide +kernel
theorem dX3_makeRoom_4 : decode cX3_makeRoom 4 = .ok (.aload_n 0, 1) := by decide +kernel
theorem dX3_makeRoom_5 : decode cX3_makeRoom 5 = .ok (.getfield 37, 3) := by decide +kernel
theorem dX3_makeRoom_8 : decode cX3_makeRoom 8 = .ok (.getfield 134, 3) := by decide +kernel
theorem dX3_makeRoom_11 : decode cX3_makeRoom 11 = .ok (.iload_n 1, 1) := by decide +kernel
theorem dX3_makeRoom_12 : decode cX3_makeRoom 12 = .ok (.iaload, 1) := by decide +kernel
theorem dX3_makeRoom_13 : decode cX3_makeRoom 13 = .ok (.iadd, 1) := by decide +kernel
theorem dX3_makeRoom_14 : decode cX3_makeRoom 14 = .ok (.aload_n 0, 1) := by decide +kernel
theorem dX3_makeRoom_15 : decode cX3_makeRoom 15 = .ok (.getfield 30, 3) := by decide +kernel
theorem dX3_makeRoom_18 : decode cX3_makeRoom 18 = .ok (.arraylength, 1) := by decide +kernel
theorem dX3_makeRoom_19 : decode cX3_makeRoom 19 = .ok (.if_icmp .le 21, 3) := by decide +kernel
theorem dX3_makeRoom_22 : decode cX3_makeRoom 22 = .ok (.aload_n 0, 1) := by decide +kernel
theorem dX3_makeRoom_23 : decode cX3_makeRoom 23 = .ok (.aload_n 0, 1) := by decide +kernel
theorem dX3_makeRoom_24 : decode cX3_makeRoom 24 = .ok (.getfield 30, 3) := by decide +kernel
theorem dX3_makeRoom_27 : decode cX3_makeRoom 27 = .ok (.aload_n 0, 1) := by decide +kernel
theorem dX3_makeRoom_28 : decode cX3_makeRoom 28 = .ok (.getfield 30, 3) := by decide +kernel
theorem dX3_makeRoom_31 : decode cX3_makeRoom 31 = .ok (.arraylength, 1) := by decide +kernel
theorem dX3_makeRoom_32 : decode cX3_makeRoom 32 = .ok (.iconst 2, 1) := by decide +kernel
theorem dX3_makeRoom_33 : decode cX3_makeRoom 33 = .ok (.imul, 1) := by decide +kernel
theorem dX3_makeRoom_34 : decode cX3_makeRoom 34 = .ok (.invokestatic 120, 3) := by decide +kernel
theorem dX3_makeRoom_37 : decode cX3_makeRoom 37 = .ok (.putfield 30, 3) := by decide +kernel
theorem dX3_makeRoom_40 : decode cX3_makeRoom 40 = .ok (.return_, 1) := by decide +kernel
theorem dX3_openVariables_0 : decode cX3_openVariables 0 = .ok (.aload_n 0, 1) := by decide +kernel
theorem dX3_openVariables_1 : decode cX3_openVariables 1 = .ok (.bipush 8, 2) := by decide +kernel
theorem dX3_openVariables_3 : decode cX3_openVariables 3 = .ok (.aload_n 0, 1) := by decide +kernel
theorem dX3_openVariables_4 : decode cX3_openVariables 4 = .ok (.getfield 68, 3) := by decide +kernel
theorem dX3_openVariables_7 : decode cX3_openVariables 7 = .ok (.aload_n 0, 1) := by decide +kernel
theorem dX3_openVariables_8 : decode cX3_openVariables 8 = .ok (.getfield 74, 3) := by decide +kernel
theorem dX3_openVariables_11 : decode cX3_openVariables 11 = .ok (.invokestatic 92, 3) := by decide +kernel
theorem dX3_openVariables_14 : decode cX3_openVariables 14 = .ok (.invokevirtual 96, 3) := by decide +kernel
theorem dX3_openVariables_17 : decode cX3_openVariables 17 = .ok (.aload_n 0, 1) := by decide +kernel
theorem dX3_openVariables_18 : decode cX3_openVariables 18 = .ok (.iload_n 1, 1) := by decide +kernel
theorem dX3_openVariables_19 : decode cX3_openVariables 19 = .ok (.invokevirtual 130, 3) := by decide +kernel
theorem dX3_openVariables_22 : decode cX3_openVariables 22 = .ok (.aload_n 0, 1) := by decide +kernel
theorem dX3_openVariables_23 : decode cX3_openVariables 23 = .ok (.aload_n 0, 1) := by decide +kernel
theorem dX3_openVariables_24 : decode cX3_openVariables 24 = .ok (.getfield 71, 3) := by decide +kernel
theorem dX3_openVariables_27 : decode cX3_openVariables 27 = .ok (.putfield 68, 3) := by decide +kernel
theorem dX3_openVariables_30 : decode cX3_openVariables 30 = .ok (.aload_n 0, 1) := by decide +kernel
theorem dX3_openVariables_31 : decode cX3_openVariables 31 = .ok (.dup, 1) := by decide +kernel
theorem dX3_openVariables_32 : decode cX3_openVariables 32 = .ok (.getfield 71, 3) := by decide +kernel
theorem dX3_openVariables_35 : decode cX3_openVariables 35 = .ok (.aload_n 0, 1) := by decide +kernel
theorem dX3_openVariables_36 : decode cX3_openVariables 36 = .ok (.getfield 37, 3) := by decide +kernel
theorem dX3_openVariables_39 : decode cX3_openVariables 39 = .ok (.getfield 134, 3) := by decide +kernel
theorem dX3_openVariables_42 : decode cX3_openVariables 42 = .ok (.iload_n 1, 1) := by decide +kernel
theorem dX3_openVariables_43 : decode cX3_openVariables 43 = .ok (.iaload, 1) := by decide +kernel
theorem dX3_openVariables_44 : decode cX3_openVariables 44 = .ok (.iadd, 1) := by decide +kernel
theorem dX3_openVariables_45 : decode cX3_openVariables 45 = .ok (.putfield 71, 3) := by decide +kernel
theorem dX3_openVariables_48 : decode cX3_openVariables 48 = .ok (.aload_n 0, 1) := by decide +kernel
theorem dX3_openVariables_49 : decode cX3_openVariables 49 = .ok (.iload_n 1, 1) := by decide +kernel
theorem dX3_openVariables_50 : decode cX3_openVariables 50 = .ok (.putfield 74, 3) := by decide +kernel
theorem dX3_openVariables_53 : decode cX3_openVariables 53 = .ok (.return_, 1) := by decide +kernel
theorem dX3_push_0 : decode cX3_push 0 = .ok (.aload_n 0, 1) := by decide +kernel
theorem dX3_push_1 : decode cX3_push 1 = .ok (.getfield 65, 3) := by decide +kernel
theorem dX3_push_4 : decode cX3_push 4 = .ok (.aload_n 0, 1) := by decide +kernel
theorem dX3_push_5 : decode cX3_push 5 = .ok (.getfield 26, 3) := by decide +kernel
theorem dX3_push_8 : decode cX3_push 8 = .ok (.arraylength, 1) := by decide +kernel
theorem dX3_push_9 : decode cX3_push 9 = .ok (.if_icmp .lt 21, 3) := by decide +kernel
theorem dX3_push_12 : decode cX3_push 12 = .ok (.aload_n 0, 1) := by decide +kernel
theorem dX3_push_13 : decode cX3_push 13 = .ok (.aload_n 0, 1) := by decide +kernel
theorem dX3_push_14 : decode cX3_push 14 = .ok (.getfield 26, 3) := by decide +kernel
theorem dX3_push_17 : decode cX3_push 17 = .ok (.aload_n 0, 1) := by decide +kernel
theorem dX3_push_18 : decode cX3_push 18 = .ok (.getfield 26, 3) := by decide +kernel
theorem dX3_push_21 : decode cX3_push 21 = .ok (.arraylength, 1) := by decide +kernel
theorem dX3_push_22 : decode cX3_push 22 = .ok (.iconst 2, 1) := by decide +kernel
theorem dX3_push_23 : decode cX3_push 23 = .ok (.imul, 1) := by decide +kernel
theorem dX3_push_24 : decode cX3_push 24 = .ok (.invokestatic 120, 3) := by decide +kernel
theorem dX3_push_27 : decode cX3_push 27 = .ok (.putfield 26, 3) := by decide +kernel
theorem dX3_push_30 : decode cX3_push 30 = .ok (.aload_n 0, 1) := by decide +kernel
theorem dX3_push_31 : decode cX3_push 31 = .ok (.getfield 26, 3) := by decide +kernel
theorem dX3_push_34 : decode cX3_push 34 = .ok (.aload_n 0, 1) := by decide +kernel
theorem dX3_push_35 : decode cX3_push 35 = .ok (.getfield 65, 3) := by decide +kernel
theorem dX3_push_38 : decode cX3_push 38 = .ok (.lload_n 1, 1) := by decide +kernel
theorem dX3_push_39 : decode cX3_push 39 = .ok (.lastore, 1) := by decide +kernel
theorem dX3_push_40 : decode cX3_push 40 = .ok (.aload_n 0, 1) := by decide +kernel
theorem dX3_push_41 : decode cX3_push 41 = .ok (.dup, 1) := by decide +kernel
theorem dX3_push_42 : decode cX3_push 42 = .ok (.getfield 65, 3) := by decide +kernel
theorem dX3_push_45 : decode cX3_push 45 = .ok (.iconst 1, 1) := by decide +kernel
theorem dX3_push_46 : decode cX3_push 46 = .ok (.iadd, 1) := by decide +kernel
theorem dX3_push_47 : decode cX3_push 47 = .ok (.putfield 65, 3) := by decide +kernel
theorem dX3_push_50 : decode cX3_push 50 = .ok (.return_, 1) := by decide +kernel
theorem dX3_resume_0 : decode cX3_resume 0 = .ok (.aload_n 0, 1) := by decide +kernel
theorem dX3_resume_1 : decode cX3_resume 1 = .ok (.getfield 65, 3) := by decide +kernel
theorem dX3_resume_4 : decode cX3_resume 4 = .ok (.ifCond .gt 10, 3) := by decide +kernel
theorem dX3_resume_7 : decode cX3_resume 7 = .ok (.aload_n 0, 1) := by decide +kernel
theorem dX3_resume_8 : decode cX3_resume 8 = .ok (.iconst 1, 1) := by decide +kernel
theorem dX3_resume_9 : decode cX3_resume 9 = .ok (.iconst 0, 1) := by decide +kernel
theorem dX3_resume_10 : decode cX3_resume 10 = .ok (.invokevirtual 154, 3) := by decide +kernel
theorem dX3_resume_13 : decode cX3_resume 13 = .ok (.return_, 1) := by decide +kernel
theorem dX3_resume_14 : decode cX3_resume 14 = .ok (.aload_n 0, 1) := by decide +kernel
theorem dX3_resume_15 : decode cX3_resume 15 = .ok (.invokevirtual 254, 3) := by decide +kernel
theorem dX3_resume_18 : decode cX3_resume 18 = .ok (.lstore_n 1, 1) := by decide +kernel
theorem dX3_resume_19 : decode cX3_resume 19 = .ok (.lload_n 1, 1) := by decide +kernel
theorem dX3_resume_20 : decode cX3_resume 20 = .ok (.bipush 28, 2) := by decide +kernel
theorem dX3_resume_22 : decode cX3_resume 22 = .ok (.lushr, 1) := by decide +kernel
theorem dX3_resume_23 : decode cX3_resume 23 = .ok (.l2i, 1) := by decide +kernel
theorem dX3_resume_24 : decode cX3_resume 24 = .ok (.ldc_w 258, 3) := by decide +kernel
theorem dX3_resume_27 : decode cX3_resume 27 = .ok (.iand, 1) := by decide +kernel
theorem dX3_resume_28 : decode cX3_resume 28 = .ok (.istore_n 3, 1) := by decide +kernel
theorem dX3_resume_29 : decode cX3_resume 29 = .ok (.lload_n 1, 1) := by decide +kernel
theorem dX3_resume_30 : decode cX3_resume 30 = .ok (.l2i, 1) := by decide +kernel
theorem dX3_resume_31 : decode cX3_resume 31 = .ok (.ldc_w 258, 3) := by decide +kernel
theorem dX3_resume_34 : decode cX3_resume 34 = .ok (.iand, 1) := by decide +kernel
theorem dX3_resume_35 : decode cX3_resume 35 = .ok (.istore 4, 2) := by decide +kernel
theorem dX3_resume_37 : decode cX3_resume 37 = .ok (.lload_n 1, 1) := by decide +kernel
theorem dX3_resume_38 : decode cX3_resume 38 = .ok (.bipush 56, 2) := by decide +kernel
theorem dX3_resume_40 : decode cX3_resume 40 = .ok (.lushr, 1) := by decide +kernel
theorem dX3_resume_41 : decode cX3_resume 41 = .ok (.l2i, 1) := by decide +kernel
theorem dX3_resume_42 : decode cX3_resume 42 = .ok (.tableswitch 255 1 9 #[50, 92, 116, 140, 195, 215, 223, 238, 248], 50) := by decide +kernel
theorem dX3_resume_92 : decode cX3_resume 92 = .ok (.aload_n 0, 1) := by decide +kernel
theorem dX3_resume_93 : decode cX3_resume 93 = .ok (.aload_n 0, 1) := by decide +kernel
theorem dX3_resume_94 : decode cX3_resume 94 = .ok (.getfield 124, 3) := by decide +kernel
theorem dX3_resume_97 : decode cX3_resume 97 = .ok (.invokevirtual 96, 3) := by decide +kernel
theorem dX3_resume_100 : decode cX3_resume 100 = .ok (.aload_n 0, 1) := by decide +kernel
theorem dX3_resume_101 : decode cX3_resume 101 = .ok (.iconst 2, 1) := by decide +kernel
theorem dX3_resume_102 : decode cX3_resume 102 = .ok (.iload_n 3, 1) := by decide +kernel
theorem dX3_resume_103 : decode cX3_resume 103 = .ok (.iconst 0, 1) := by decide +kernel
theorem dX3_resume_104 : decode cX3_resume 104 = .ok (.invokestatic 92, 3) := by decide +kernel
theorem dX3_resume_107 : decode cX3_resume 107 = .ok (.invokevirtual 96, 3) := by decide +kernel
theorem dX3_resume_110 : decode cX3_resume 110 = .ok (.aload_n 0, 1) := by decide +kernel
theorem dX3_resume_111 : decode cX3_resume 111 = .ok (.aload_n 0, 1) := by decide +kernel
theorem dX3_resume_112 : decode cX3_resume 112 = .ok (.getfield 33, 3) := by decide +kernel
theorem dX3_resume_115 : decode cX3_resume 115 = .ok (.getfield 240, 3) := by decide +kernel
theorem dX3_resume_118 : decode cX3_resume 118 = .ok (.aload_n 0, 1) := by decide +kernel
theorem dX3_resume_119 : decode cX3_resume 119 = .ok (.getfield 33, 3) := by decide +kernel
theorem dX3_resume_122 : decode cX3_resume 122 = .ok (.getfield 158, 3) := by decide +kernel
theorem dX3_resume_125 : decode cX3_resume 125 = .ok (.iload_n 3, 1) := by decide +kernel
theorem dX3_resume_126 : decode cX3_resume 126 = .ok (.iaload, 1) := by decide +kernel
theorem dX3_resume_127 : decode cX3_resume 127 = .ok (.iaload, 1) := by decide +kernel
theorem dX3_resume_128 : decode cX3_resume 128 = .ok (.invokevirtual 161, 3) := by decide +kernel
theorem dX3_resume_131 : decode cX3_resume 131 = .ok (.goto 173, 3) := by decide +kernel
theorem dX3_resume_134 : decode cX3_resume 134 = .ok (.aload_n 0, 1) := by decide +kernel
theorem dX3_resume_135 : decode cX3_resume 135 = .ok (.aload_n 0, 1) := by decide +kernel
theorem dX3_resume_136 : decode cX3_resume 136 = .ok (.getfield 33, 3) := by decide +kernel
theorem dX3_resume_139 : decode cX3_resume 139 = .ok (.getfield 136, 3) := by decide +kernel
theorem dX3_resume_142 : decode cX3_resume 142 = .ok (.iload_n 3, 1) := by decide +kernel
theorem dX3_resume_143 : decode cX3_resume 143 = .ok (.iaload, 1) := by decide +kernel
theorem dX3_resume_144 : decode cX3_resume 144 = .ok (.aload_n 0, 1) := by decide +kernel
theorem dX3_resume_145 : decode cX3_resume 145 = .ok (.invokevirtual 254, 3) := by decide +kernel
theorem dX3_resume_148 : decode cX3_resume 148 = .ok (.aload_n 0, 1) := by decide +kernel
theorem dX3_resume_149 : decode cX3_resume 149 = .ok (.getfield 124, 3) := by decide +kernel
theorem dX3_resume_152 : decode cX3_resume 152 = .ok (.invokevirtual 259, 3) := by decide +kernel
theorem dX3_resume_155 : decode cX3_resume 155 = .ok (.goto 149, 3) := by decide +kernel
theorem dX3_resume_158 : decode cX3_resume 158 = .ok (.aload_n 0, 1) := by decide +kernel
theorem dX3_resume_159 : decode cX3_resume 159 = .ok (.aload_n 0, 1) := by decide +kernel
theorem dX3_resume_160 : decode cX3_resume 160 = .ok (.getfield 33, 3) := by decide +kernel
theorem dX3_resume_163 : decode cX3_resume 163 = .ok (.getfield 240, 3) := by decide +kernel
theorem dX3_resume_166 : decode cX3_resume 166 = .ok (.aload_n 0, 1) := by decide +kernel
theorem dX3_resume_167 : decode cX3_resume 167 = .ok (.getfield 33, 3) := by decide +kernel
theorem dX3_resume_170 : decode cX3_resume 170 = .ok (.getfield 158, 3) := by decide +kernel
theorem dX3_resume_173 : decode cX3_resume 173 = .ok (.iload_n 3, 1) := by decide +kernel
theorem dX3_resume_174 : decode cX3_resume 174 = .ok (.iaload, 1) := by decide +kernel
theorem dX3_resume_175 : decode cX3_resume 175 = .ok (.iaload, 1) := by decide +kernel
theorem dX3_resume_176 : decode cX3_resume 176 = .ok (.invokevirtual 263, 3) := by decide +kernel
theorem dX3_resume_179 : decode cX3_resume 179 = .ok (.goto 125, 3) := by decide +kernel
theorem dX3_resume_182 : decode cX3_resume 182 = .ok (.aload_n 0, 1) := by decide +kernel
theorem dX3_resume_183 : decode cX3_resume 183 = .ok (.getfield 30, 3) := by decide +kernel
theorem dX3_resume_186 : decode cX3_resume 186 = .ok (.aload_n 0, 1) := by decide +kernel
theorem dX3_resume_187 : decode cX3_resume 187 = .ok (.getfield 68, 3) := by decide +kernel
theorem dX3_resume_190 : decode cX3_resume 190 = .ok (.aload_n 0, 1) := by decide +kernel
theorem dX3_resume_191 : decode cX3_resume 191 = .ok (.getfield 33, 3) := by decide +kernel
theorem dX3_resume_194 : decode cX3_resume 194 = .ok (.getfield 136, 3) := by decide +kernel
theorem dX3_resume_197 : decode cX3_resume 197 = .ok (.aload_n 0, 1) := by decide +kernel
theorem dX3_resume_198 : decode cX3_resume 198 = .ok (.getfield 33, 3) := by decide +kernel
theorem dX3_resume_201 : decode cX3_resume 201 = .ok (.getfield 240, 3) := by decide +kernel
theorem dX3_resume_204 : decode cX3_resume 204 = .ok (.aload_n 0, 1) := by decide +kernel
theorem dX3_resume_205 : decode cX3_resume 205 = .ok (.getfield 33, 3) := by decide +kernel
theorem dX3_resume_208 : decode cX3_resume 208 = .ok (.getfield 158, 3) := by decide +kernel
theorem dX3_resume_211 : decode cX3_resume 211 = .ok (.iload_n 3, 1) := by decide +kernel
theorem dX3_resume_212 : decode cX3_resume 212 = .ok (.iaload, 1) := by decide +kernel
theorem dX3_resume_213 : decode cX3_resume 213 = .ok (.iaload, 1) := by decide +kernel
theorem dX3_resume_214 : decode cX3_resume 214 = .ok (.iaload, 1) := by decide +kernel
theorem dX3_resume_215 : decode cX3_resume 215 = .ok (.iadd, 1) := by decide +kernel
theorem dX3_resume_216 : decode cX3_resume 216 = .ok (.aload_n 0, 1) := by decide +kernel
theorem dX3_resume_217 : decode cX3_resume 217 = .ok (.getfield 124, 3) := by decide +kernel
theorem dX3_resume_220 : decode cX3_resume 220 = .ok (.lastore, 1) := by decide +kernel
theorem dX3_resume_221 : decode cX3_resume 221 = .ok (.aload_n 0, 1) := by decide +kernel
theorem dX3_resume_222 : decode cX3_resume 222 = .ok (.aload_n 0, 1) := by decide +kernel
theorem dX3_resume_223 : decode cX3_resume 223 = .ok (.getfield 33, 3) := by decide +kernel
theorem dX3_resume_226 : decode cX3_resume 226 = .ok (.getfield 158, 3) := by decide +kernel
theorem dX3_resume_229 : decode cX3_resume 229 = .ok (.iload_n 3, 1) := by decide +kernel
theorem dX3_resume_230 : decode cX3_resume 230 = .ok (.iaload, 1) := by decide +kernel
theorem dX3_resume_231 : decode cX3_resume 231 = .ok (.invokevirtual 161, 3) := by decide +kernel
theorem dX3_resume_234 : decode cX3_resume 234 = .ok (.goto 70, 3) := by decide +kernel
theorem dX3_resume_237 : decode cX3_resume 237 = .ok (.aload_n 0, 1) := by decide +kernel
theorem dX3_resume_238 : decode cX3_resume 238 = .ok (.aload_n 0, 1) := by decide +kernel
theorem dX3_resume_239 : decode cX3_resume 239 = .ok (.getfield 124, 3) := by decide +kernel
theorem dX3_resume_242 : decode cX3_resume 242 = .ok (.invokevirtual 96, 3) := by decide +kernel
theorem dX3_resume_245 : decode cX3_resume 245 = .ok (.aload_n 0, 1) := by decide +kernel
theorem dX3_resume_246 : decode cX3_resume 246 = .ok (.iload_n 3, 1) := by decide +kernel
theorem dX3_resume_247 : decode cX3_resume 247 = .ok (.iload 4, 2) := by decide +kernel
theorem dX3_resume_249 : decode cX3_resume 249 = .ok (.iconst 1, 1) := by decide +kernel
theorem dX3_resume_250 : decode cX3_resume 250 = .ok (.iadd, 1) := by decide +kernel
theorem dX3_resume_251 : decode cX3_resume 251 = .ok (.invokevirtual 243, 3) := by decide +kernel
theorem dX3_resume_254 : decode cX3_resume 254 = .ok (.goto 50, 3) := by decide +kernel
theorem dX3_resume_257 : decode cX3_resume 257 = .ok (.aload_n 0, 1) := by decide +kernel
theorem dX3_resume_258 : decode cX3_resume 258 = .ok (.iload_n 3, 1) := by decide +kernel
theorem dX3_resume_259 : decode cX3_resume 259 = .ok (.invokevirtual 266, 3) := by decide +kernel
theorem dX3_resume_262 : decode cX3_resume 262 = .ok (.goto 42, 3) := by decide +kernel
theorem dX3_resume_265 : decode cX3_resume 265 = .ok (.aload_n 0, 1) := by decide +kernel
theorem dX3_resume_266 : decode cX3_resume 266 = .ok (.getfield 44, 3) := by decide +kernel
theorem dX3_resume_269 : decode cX3_resume 269 = .ok (.iload_n 3, 1) := by decide +kernel
theorem dX3_resume_270 : decode cX3_resume 270 = .ok (.aload_n 0, 1) := by decide +kernel
theorem dX3_resume_271 : decode cX3_resume 271 = .ok (.getfield 124, 3) := by decide +kernel
theorem dX3_resume_274 : decode cX3_resume 274 = .ok (.invokevirtual 269, 3) := by decide +kernel
theorem dX3_resume_277 : decode cX3_resume 277 = .ok (.goto 27, 3) := by decide +kernel
theorem dX3_resume_280 : decode cX3_resume 280 = .ok (.aload_n 0, 1) := by decide +kernel
theorem dX3_resume_281 : decode cX3_resume 281 = .ok (.iload_n 3, 1) := by decide +kernel
theorem dX3_resume_282 : decode cX3_resume 282 = .ok (.iload 4, 2) := by decide +kernel
theorem dX3_resume_284 : decode cX3_resume 284 = .ok (.invokevirtual 272, 3) := by decide +kernel
theorem dX3_resume_287 : decode cX3_resume 287 = .ok (.goto 17, 3) := by decide +kernel
theorem dX3_resume_290 : decode cX3_resume 290 = .ok (.aload_n 0, 1) := by decide +kernel
theorem dX3_resume_291 : decode cX3_resume 291 = .ok (.invokevirtual 275, 3) := by decide +kernel
theorem dX3_resume_294 : decode cX3_resume 294 = .ok (.goto 10, 3) := by decide +kernel
theorem dX3_resume_297 : decode cX3_resume 297 = .ok (.aload_n 0, 1) := by decide +kernel
theorem dX3_resume_298 : decode cX3_resume 298 = .ok (.iload_n 3, 1) := by decide +kernel
theorem dX3_resume_299 : decode cX3_resume 299 = .ok (.iload 4, 2) := by decide +kernel
theorem dX3_resume_301 : decode cX3_resume 301 = .ok (.invokevirtual 278, 3) := by decide +kernel
theorem dX3_resume_304 : decode cX3_resume 304 = .ok (.return_, 1) := by decide +kernel
theorem dX3_show_0 : decode cX3_show 0 = .ok (.aload_n 0, 1) := by decide +kernel
theorem dX3_show_1 : decode cX3_show 1 = .ok (.getfield 124, 3) := by decide +kernel
theorem dX3_show_4 : decode cX3_show 4 = .ok (.l2i, 1) := by decide +kernel
theorem dX3_show_5 : decode cX3_show 5 = .ok (.istore_n 1, 1) := by decide +kernel
theorem dX3_show_6 : decode cX3_show 6 = .ok (.aload_n 0, 1) := by decide +kernel
theorem dX3_show_7 : decode cX3_show 7 = .ok (.getfield 124, 3) := by decide +kernel
theorem dX3_show_10 : decode cX3_show 10 = .ok (.invokestatic 170, 3) := by decide +kernel
theorem dX3_show_13 : decode cX3_show 13 = .ok (.tableswitch 81 1 4 #[31, 81, 41, 51], 31) := by decide +kernel
theorem dX3_show_44 : decode cX3_show 44 = .ok (.aload_n 0, 1) := by decide +kernel
theorem dX3_show_45 : decode cX3_show 45 = .ok (.iconst 2, 1) := by decide +kernel
theorem dX3_show_46 : decode cX3_show 46 = .ok (.iconst 1, 1) := by decide +kernel
theorem dX3_show_47 : decode cX3_show 47 = .ok (.iload_n 1, 1) := by decide +kernel
theorem dX3_show_48 : decode cX3_show 48 = .ok (.invokevirtual 298, 3) := by decide +kernel
theorem dX3_show_51 : decode cX3_show 51 = .ok (.goto 50, 3) := by decide +kernel
theorem dX3_show_54 : decode cX3_show 54 = .ok (.aload_n 0, 1) := by decide +kernel
theorem dX3_show_55 : decode cX3_show 55 = .ok (.iconst 2, 1) := by decide +kernel
theorem dX3_show_56 : decode cX3_show 56 = .ok (.iconst 2, 1) := by decide +kernel
theorem dX3_show_57 : decode cX3_show 57 = .ok (.iload_n 1, 1) := by decide +kernel
theorem dX3_show_58 : decode cX3_show 58 = .ok (.invokevirtual 298, 3) := by decide +kernel
theorem dX3_show_61 : decode cX3_show 61 = .ok (.goto 40, 3) := by decide +kernel
theorem dX3_show_64 : decode cX3_show 64 = .ok (.aload_n 0, 1) := by decide +kernel
theorem dX3_show_65 : decode cX3_show 65 = .ok (.iconst 2, 1) := by decide +kernel
theorem dX3_show_66 : decode cX3_show 66 = .ok (.iconst 2, 1) := by decide +kernel
theorem dX3_show_67 : decode cX3_show 67 = .ok (.aload_n 0, 1) := by decide +kernel
theorem dX3_show_68 : decode cX3_show 68 = .ok (.getfield 44, 3) := by decide +kernel
theorem dX3_show_71 : decode cX3_show 71 = .ok (.getfield 181, 3) := by decide +kernel
theorem dX3_show_74 : decode cX3_show 74 = .ok (.iload_n 1, 1) := by decide +kernel
theorem dX3_show_75 : decode cX3_show 75 = .ok (.laload, 1) := by decide +kernel
theorem dX3_show_76 : decode cX3_show 76 = .ok (.l2i, 1) := by decide +kernel
theorem dX3_show_77 : decode cX3_show 77 = .ok (.invokevirtual 298, 3) := by decide +kernel
theorem dX3_show_80 : decode cX3_show 80 = .ok (.aload_n 0, 1) := by decide +kernel
theorem dX3_show_81 : decode cX3_show 81 = .ok (.bipush 10, 2) := by decide +kernel
theorem dX3_show_83 : decode cX3_show 83 = .ok (.iload_n 1, 1) := by decide +kernel
theorem dX3_show_84 : decode cX3_show 84 = .ok (.iconst 0, 1) := by decide +kernel
theorem dX3_show_85 : decode cX3_show 85 = .ok (.invokestatic 92, 3) := by decide +kernel
theorem dX3_show_88 : decode cX3_show 88 = .ok (.invokevirtual 96, 3) := by decide +kernel
theorem dX3_show_91 : decode cX3_show 91 = .ok (.goto 10, 3) := by decide +kernel
theorem dX3_show_94 : decode cX3_show 94 = .ok (.aload_n 0, 1) := by decide +kernel
theorem dX3_show_95 : decode cX3_show 95 = .ok (.iconst 1, 1) := by decide +kernel
theorem dX3_show_96 : decode cX3_show 96 = .ok (.iconst 3, 1) := by decide +kernel
theorem dX3_show_97 : decode cX3_show 97 = .ok (.iconst 0, 1) := by decide +kernel
theorem dX3_show_98 : decode cX3_show 98 = .ok (.invokevirtual 298, 3) := by decide +kernel
theorem dX3_show_101 : decode cX3_show 101 = .ok (.return_, 1) := by decide +kernel
theorem dX3_showField_0 : decode cX3_showField 0 = .ok (.iload_n 2, 1) := by decide +kernel
theorem dX3_showField_1 : decode cX3_showField 1 = .ok (.aload_n 0, 1) := by decide +kernel
theorem dX3_showField_2 : decode cX3_showField 2 = .ok (.getfield 37, 3) := by decide +kernel
theorem dX3_showField_5 : decode cX3_showField 5 = .ok (.getfield 206, 3) := by decide +kernel
theorem dX3_showField_8 : decode cX3_showField 8 = .ok (.aload_n 0, 1) := by decide +kernel
theorem dX3_showField_9 : decode cX3_showField 9 = .ok (.getfield 44, 3) := by decide +kernel
theorem dX3_showField_12 : decode cX3_showField 12 = .ok (.getfield 181, 3) := by decide +kernel
theorem dX3_showField_15 : decode cX3_showField 15 = .ok (.iload_n 1, 1) := by decide +kernel
theorem dX3_showField_16 : decode cX3_showField 16 = .ok (.laload, 1) := by decide +kernel
theorem dX3_showField_17 : decode cX3_showField 17 = .ok (.l2i, 1) := by decide +kernel
theorem dX3_showField_18 : decode cX3_showField 18 = .ok (.iaload, 1) := by decide +kernel
theorem dX3_showField_19 : decode cX3_showField 19 = .ok (.if_icmp .ge 44, 3) := by decide +kernel
theorem dX3_showField_22 : decode cX3_showField 22 = .ok (.aload_n 0, 1) := by decide +kernel
theorem dX3_showField_23 : decode cX3_showField 23 = .ok (.bipush 10, 2) := by decide +kernel
theorem dX3_showField_25 : decode cX3_showField 25 = .ok (.iload_n 1, 1) := by decide +kernel
theorem dX3_showField_26 : decode cX3_showField 26 = .ok (.iload_n 2, 1) := by decide +kernel
theorem dX3_showField_27 : decode cX3_showField 27 = .ok (.iconst 1, 1) := by decide +kernel
theorem dX3_showField_28 : decode cX3_showField 28 = .ok (.iadd, 1) := by decide +kernel
theorem dX3_showField_29 : decode cX3_showField 29 = .ok (.invokestatic 92, 3) := by decide +kernel
theorem dX3_showField_32 : decode cX3_showField 32 = .ok (.invokevirtual 96, 3) := by decide +kernel
theorem dX3_showField_35 : decode cX3_showField 35 = .ok (.aload_n 0, 1) := by decide +kernel
theorem dX3_showField_36 : decode cX3_showField 36 = .ok (.bipush 9, 2) := by decide +kernel
theorem dX3_showField_38 : decode cX3_showField 38 = .ok (.iconst 0, 1) := by decide +kernel
theorem dX3_showField_39 : decode cX3_showField 39 = .ok (.iconst 0, 1) := by decide +kernel
theorem dX3_showField_40 : decode cX3_showField 40 = .ok (.invokestatic 92, 3) := by decide +kernel
theorem dX3_showField_43 : decode cX3_showField 43 = .ok (.invokevirtual 96, 3) := by decide +kernel
theorem dX3_showField_46 : decode cX3_showField 46 = .ok (.aload_n 0, 1) := by decide +kernel
theorem dX3_showField_47 : decode cX3_showField 47 = .ok (.aload_n 0, 1) := by decide +kernel
theorem dX3_showField_48 : decode cX3_showField 48 = .ok (.getfield 44, 3) := by decide +kernel
theorem dX3_showField_51 : decode cX3_showField 51 = .ok (.getfield 181, 3) := by decide +kernel
theorem dX3_showField_54 : decode cX3_showField 54 = .ok (.iload_n 1, 1) := by decide +kernel
theorem dX3_showField_55 : decode cX3_showField 55 = .ok (.iconst 1, 1) := by decide +kernel
theorem dX3_showField_56 : decode cX3_showField 56 = .ok (.iadd, 1) := by decide +kernel
theorem dX3_showField_57 : decode cX3_showField 57 = .ok (.iload_n 2, 1) := by decide +kernel
theorem dX3_showField_58 : decode cX3_showField 58 = .ok (.iadd, 1) := by decide +kernel
theorem dX3_showField_59 : decode cX3_showField 59 = .ok (.laload, 1) := by decide +kernel
theorem dX3_showField_60 : decode cX3_showField 60 = .ok (.invokevirtual 107, 3) := by decide +kernel
theorem dX3_showField_63 : decode cX3_showField 63 = .ok (.return_, 1) := by decide +kernel
theorem dX3_start_0 : decode cX3_start 0 = .ok (.aload_n 0, 1) := by decide +kernel
theorem dX3_start_1 : decode cX3_start 1 = .ok (.invokevirtual 54, 3) := by decide +kernel
theorem dX3_start_4 : decode cX3_start 4 = .ok (.aload_n 0, 1) := by decide +kernel
theorem dX3_start_5 : decode cX3_start 5 = .ok (.iload_n 1, 1) := by decide +kernel
theorem dX3_start_6 : decode cX3_start 6 = .ok (.putfield 57, 3) := by decide +kernel
theorem dX3_start_9 : decode cX3_start 9 = .ok (.aload_n 0, 1) := by decide +kernel
theorem dX3_start_10 : decode cX3_start 10 = .ok (.iload_n 2, 1) := by decide +kernel
theorem dX3_start_11 : decode cX3_start 11 = .ok (.putfield 61, 3) := by decide +kernel
theorem dX3_start_14 : decode cX3_start 14 = .ok (.aload_n 0, 1) := by decide +kernel
theorem dX3_start_15 : decode cX3_start 15 = .ok (.iconst 0, 1) := by decide +kernel
theorem dX3_start_16 : decode cX3_start 16 = .ok (.putfield 65, 3) := by decide +kernel
theorem dX3_start_19 : decode cX3_start 19 = .ok (.aload_n 0, 1) := by decide +kernel
theorem dX3_start_20 : decode cX3_start 20 = .ok (.iconst 0, 1) := by decide +kernel
theorem dX3_start_21 : decode cX3_start 21 = .ok (.putfield 68, 3) := by decide +kernel
theorem dX3_start_24 : decode cX3_start 24 = .ok (.aload_n 0, 1) := by decide +kernel
theorem dX3_start_25 : decode cX3_start 25 = .ok (.iconst 0, 1) := by decide +kernel
theorem dX3_start_26 : decode cX3_start 26 = .ok (.putfield 71, 3) := by decide +kernel
theorem dX3_start_29 : decode cX3_start 29 = .ok (.aload_n 0, 1) := by decide +kernel
theorem dX3_start_30 : decode cX3_start 30 = .ok (.iconst 0, 1) := by decide +kernel
theorem dX3_start_31 : decode cX3_start 31 = .ok (.putfield 74, 3) := by decide +kernel
theorem dX3_start_34 : decode cX3_start 34 = .ok (.iconst 0, 1) := by decide +kernel
theorem dX3_start_35 : decode cX3_start 35 = .ok (.istore_n 3, 1) := by decide +kernel
theorem dX3_start_36 : decode cX3_start 36 = .ok (.iload_n 3, 1) := by decide +kernel
theorem dX3_start_37 : decode cX3_start 37 = .ok (.aload_n 0, 1) := by decide +kernel
theorem dX3_start_38 : decode cX3_start 38 = .ok (.getfield 37, 3) := by decide +kernel
theorem dX3_start_41 : decode cX3_start 41 = .ok (.getfield 77, 3) := by decide +kernel
theorem dX3_start_44 : decode cX3_start 44 = .ok (.if_icmp .ge 45, 3) := by decide +kernel
theorem dX3_start_47 : decode cX3_start 47 = .ok (.aload_n 0, 1) := by decide +kernel
theorem dX3_start_48 : decode cX3_start 48 = .ok (.getfield 37, 3) := by decide +kernel
theorem dX3_start_51 : decode cX3_start 51 = .ok (.getfield 82, 3) := by decide +kernel
theorem dX3_start_54 : decode cX3_start 54 = .ok (.iload_n 3, 1) := by decide +kernel
theorem dX3_start_55 : decode cX3_start 55 = .ok (.iaload, 1) := by decide +kernel
theorem dX3_start_56 : decode cX3_start 56 = .ok (.ifCond .ne 27, 3) := by decide +kernel
theorem dX3_start_59 : decode cX3_start 59 = .ok (.aload_n 0, 1) := by decide +kernel
theorem dX3_start_60 : decode cX3_start 60 = .ok (.getfield 23, 3) := by decide +kernel
theorem dX3_start_63 : decode cX3_start 63 = .ok (.iload_n 3, 1) := by decide +kernel
theorem dX3_start_64 : decode cX3_start 64 = .ok (.aload_n 0, 1) := by decide +kernel
theorem dX3_start_65 : decode cX3_start 65 = .ok (.getfield 44, 3) := by decide +kernel
theorem dX3_start_68 : decode cX3_start 68 = .ok (.iload_n 3, 1) := by decide +kernel
theorem dX3_start_69 : decode cX3_start 69 = .ok (.aload_n 0, 1) := by decide +kernel
theorem dX3_start_70 : decode cX3_start 70 = .ok (.getfield 37, 3) := by decide +kernel
theorem dX3_start_73 : decode cX3_start 73 = .ok (.getfield 85, 3) := by decide +kernel
theorem dX3_start_76 : decode cX3_start 76 = .ok (.iload_n 3, 1) := by decide +kernel
theorem dX3_start_77 : decode cX3_start 77 = .ok (.iaload, 1) := by decide +kernel
theorem dX3_start_78 : decode cX3_start 78 = .ok (.iconst 0, 1) := by decide +kernel
theorem dX3_start_79 : decode cX3_start 79 = .ok (.invokevirtual 88, 3) := by decide +kernel
theorem dX3_start_82 : decode cX3_start 82 = .ok (.iastore, 1) := by decide +kernel
theorem dX3_start_83 : decode cX3_start 83 = .ok (.iinc 3 1, 3) := by decide +kernel
theorem dX3_start_86 : decode cX3_start 86 = .ok (.goto (-50), 3) := by decide +kernel
theorem dX3_start_89 : decode cX3_start 89 = .ok (.aload_n 0, 1) := by decide +kernel
theorem dX3_start_90 : decode cX3_start 90 = .ok (.bipush 9, 2) := by decide +kernel
theorem dX3_start_92 : decode cX3_start 92 = .ok (.iconst 0, 1) := by decide +kernel
theorem dX3_start_93 : decode cX3_start 93 = .ok (.iconst 0, 1) := by decide +kernel
theorem dX3_start_94 : decode cX3_start 94 = .ok (.invokestatic 92, 3) := by decide +kernel
theorem dX3_start_97 : decode cX3_start 97 = .ok (.invokevirtual 96, 3) := by decide +kernel
theorem dX3_start_100 : decode cX3_start 100 = .ok (.aload_n 0, 1) := by decide +kernel
theorem dX3_start_101 : decode cX3_start 101 = .ok (.bipush 6, 2) := by decide +kernel
theorem dX3_start_103 : decode cX3_start 103 = .ok (.aload_n 0, 1) := by decide +kernel
theorem dX3_start_104 : decode cX3_start 104 = .ok (.getfield 23, 3) := by decide +kernel
theorem dX3_start_107 : decode cX3_start 107 = .ok (.aload_n 0, 1) := by decide +kernel
theorem dX3_start_108 : decode cX3_start 108 = .ok (.getfield 37, 3) := by decide +kernel
theorem dX3_start_111 : decode cX3_start 111 = .ok (.getfield 100, 3) := by decide +kernel
theorem dX3_start_114 : decode cX3_start 114 = .ok (.iaload, 1) := by decide +kernel
theorem dX3_start_115 : decode cX3_start 115 = .ok (.invokestatic 103, 3) := by decide +kernel
theorem dX3_start_118 : decode cX3_start 118 = .ok (.invokevirtual 107, 3) := by decide +kernel
theorem dX3_start_121 : decode cX3_start 121 = .ok (.iconst 0, 1) := by decide +kernel
theorem dX3_start_122 : decode cX3_start 122 = .ok (.istore_n 3, 1) := by decide +kernel
theorem dX3_start_123 : decode cX3_start 123 = .ok (.iload_n 3, 1) := by decide +kernel
theorem dX3_start_124 : decode cX3_start 124 = .ok (.ldc 110, 2) := by decide +kernel
theorem dX3_start_126 : decode cX3_start 126 = .ok (.if_icmp .ge 36, 3) := by decide +kernel
theorem dX3_start_129 : decode cX3_start 129 = .ok (.aload_n 0, 1) := by decide +kernel
theorem dX3_start_130 : decode cX3_start 130 = .ok (.getfield 13, 3) := by decide +kernel
theorem dX3_start_133 : decode cX3_start 133 = .ok (.iconst 0, 1) := by decide +kernel
theorem dX3_start_134 : decode cX3_start 134 = .ok (.iaload, 1) := by decide +kernel
theorem dX3_start_135 : decode cX3_start 135 = .ok (.ifCond .ne 27, 3) := by decide +kernel
theorem dX3_start_138 : decode cX3_start 138 = .ok (.aload_n 0, 1) := by decide +kernel
theorem dX3_start_139 : decode cX3_start 139 = .ok (.getfield 111, 3) := by decide +kernel
theorem dX3_start_142 : decode cX3_start 142 = .ok (.ifCond .eq 10, 3) := by decide +kernel
theorem dX3_start_145 : decode cX3_start 145 = .ok (.aload_n 0, 1) := by decide +kernel
theorem dX3_start_146 : decode cX3_start 146 = .ok (.invokevirtual 114, 3) := by decide +kernel
theorem dX3_start_149 : decode cX3_start 149 = .ok (.goto 7, 3) := by decide +kernel
theorem dX3_start_152 : decode cX3_start 152 = .ok (.aload_n 0, 1) := by decide +kernel
theorem dX3_start_153 : decode cX3_start 153 = .ok (.invokevirtual 117, 3) := by decide +kernel
theorem dX3_start_156 : decode cX3_start 156 = .ok (.iinc 3 1, 3) := by decide +kernel
theorem dX3_start_159 : decode cX3_start 159 = .ok (.goto (-36), 3) := by decide +kernel
theorem dX3_start_162 : decode cX3_start 162 = .ok (.return_, 1) := by decide +kernel
theorem dX3_work_0 : decode cX3_work 0 = .ok (.aload_n 0, 1) := by decide +kernel
theorem dX3_work_1 : decode cX3_work 1 = .ok (.getfield 127, 3) := by decide +kernel
theorem dX3_work_4 : decode cX3_work 4 = .ok (.istore_n 1, 1) := by decide +kernel
theorem dX3_work_5 : decode cX3_work 5 = .ok (.aload_n 0, 1) := by decide +kernel
theorem dX3_work_6 : decode cX3_work 6 = .ok (.getfield 33, 3) := by decide +kernel
theorem dX3_work_9 : decode cX3_work 9 = .ok (.getfield 136, 3) := by decide +kernel
theorem dX3_work_12 : decode cX3_work 12 = .ok (.iload_n 1, 1) := by decide +kernel
theorem dX3_work_13 : decode cX3_work 13 = .ok (.iaload, 1) := by decide +kernel
theorem dX3_work_14 : decode cX3_work 14 = .ok (.istore_n 2, 1) := by decide +kernel
theorem dX3_work_15 : decode cX3_work 15 = .ok (.aload_n 0, 1) := by decide +kernel
theorem dX3_work_16 : decode cX3_work 16 = .ok (.getfield 33, 3) := by decide +kernel
theorem dX3_work_19 : decode cX3_work 19 = .ok (.getfield 140, 3) := by decide +kernel
theorem dX3_work_22 : decode cX3_work 22 = .ok (.iload_n 1, 1) := by decide +kernel
theorem dX3_work_23 : decode cX3_work 23 = .ok (.iaload, 1) := by decide +kernel
theorem dX3_work_24 : decode cX3_work 24 = .ok (.tableswitch 168 0 9 #[56, 56, 68, 81, 99, 108, 134, 160, 168, 56], 56) := by decide +kernel
theorem dX3_work_80 : decode cX3_work 80 = .ok (.aload_n 0, 1) := by decide +kernel
theorem dX3_work_81 : decode cX3_work 81 = .ok (.aload_n 0, 1) := by decide +kernel
theorem dX3_work_82 : decode cX3_work 82 = .ok (.iload_n 1, 1) := by decide +kernel
theorem dX3_work_83 : decode cX3_work 83 = .ok (.invokevirtual 143, 3) := by decide +kernel
theorem dX3_work_86 : decode cX3_work 86 = .ok (.invokevirtual 147, 3) := by decide +kernel
theorem dX3_work_89 : decode cX3_work 89 = .ok (.goto 108, 3) := by decide +kernel
theorem dX3_work_92 : decode cX3_work 92 = .ok (.aload_n 0, 1) := by decide +kernel
theorem dX3_work_93 : decode cX3_work 93 = .ok (.aload_n 0, 1) := by decide +kernel
theorem dX3_work_94 : decode cX3_work 94 = .ok (.iload_n 1, 1) := by decide +kernel
theorem dX3_work_95 : decode cX3_work 95 = .ok (.iconst 0, 1) := by decide +kernel
theorem dX3_work_96 : decode cX3_work 96 = .ok (.invokevirtual 150, 3) := by decide +kernel
theorem dX3_work_99 : decode cX3_work 99 = .ok (.invokevirtual 107, 3) := by decide +kernel
theorem dX3_work_102 : decode cX3_work 102 = .ok (.goto 95, 3) := by decide +kernel
theorem dX3_work_105 : decode cX3_work 105 = .ok (.aload_n 0, 1) := by decide +kernel
theorem dX3_work_106 : decode cX3_work 106 = .ok (.aload_n 0, 1) := by decide +kernel
theorem dX3_work_107 : decode cX3_work 107 = .ok (.getfield 30, 3) := by decide +kernel
theorem dX3_work_110 : decode cX3_work 110 = .ok (.aload_n 0, 1) := by decide +kernel
theorem dX3_work_111 : decode cX3_work 111 = .ok (.getfield 68, 3) := by decide +kernel
theorem dX3_work_114 : decode cX3_work 114 = .ok (.iload_n 2, 1) := by decide +kernel
theorem dX3_work_115 : decode cX3_work 115 = .ok (.iadd, 1) := by decide +kernel
theorem dX3_work_116 : decode cX3_work 116 = .ok (.laload, 1) := by decide +kernel
theorem dX3_work_117 : decode cX3_work 117 = .ok (.invokevirtual 107, 3) := by decide +kernel
theorem dX3_work_120 : decode cX3_work 120 = .ok (.goto 77, 3) := by decide +kernel
theorem dX3_work_123 : decode cX3_work 123 = .ok (.aload_n 0, 1) := by decide +kernel
theorem dX3_work_124 : decode cX3_work 124 = .ok (.iconst 2, 1) := by decide +kernel
theorem dX3_work_125 : decode cX3_work 125 = .ok (.iconst 5, 1) := by decide +kernel
theorem dX3_work_126 : decode cX3_work 126 = .ok (.invokevirtual 154, 3) := by decide +kernel
theorem dX3_work_129 : decode cX3_work 129 = .ok (.goto 68, 3) := by decide +kernel
theorem dX3_work_132 : decode cX3_work 132 = .ok (.aload_n 0, 1) := by decide +kernel
theorem dX3_work_133 : decode cX3_work 133 = .ok (.iconst 1, 1) := by decide +kernel
theorem dX3_work_134 : decode cX3_work 134 = .ok (.iload_n 1, 1) := by decide +kernel
theorem dX3_work_135 : decode cX3_work 135 = .ok (.iconst 0, 1) := by decide +kernel
theorem dX3_work_136 : decode cX3_work 136 = .ok (.invokestatic 92, 3) := by decide +kernel
theorem dX3_work_139 : decode cX3_work 139 = .ok (.invokevirtual 96, 3) := by decide +kernel
theorem dX3_work_142 : decode cX3_work 142 = .ok (.aload_n 0, 1) := by decide +kernel
theorem dX3_work_143 : decode cX3_work 143 = .ok (.aload_n 0, 1) := by decide +kernel
theorem dX3_work_144 : decode cX3_work 144 = .ok (.getfield 33, 3) := by decide +kernel
theorem dX3_work_147 : decode cX3_work 147 = .ok (.getfield 158, 3) := by decide +kernel
theorem dX3_work_150 : decode cX3_work 150 = .ok (.iload_n 1, 1) := by decide +kernel
theorem dX3_work_151 : decode cX3_work 151 = .ok (.iaload, 1) := by decide +kernel
theorem dX3_work_152 : decode cX3_work 152 = .ok (.invokevirtual 161, 3) := by decide +kernel
theorem dX3_work_155 : decode cX3_work 155 = .ok (.goto 42, 3) := by decide +kernel
theorem dX3_work_158 : decode cX3_work 158 = .ok (.aload_n 0, 1) := by decide +kernel
theorem dX3_work_159 : decode cX3_work 159 = .ok (.iconst 3, 1) := by decide +kernel
theorem dX3_work_160 : decode cX3_work 160 = .ok (.iload_n 1, 1) := by decide +kernel
theorem dX3_work_161 : decode cX3_work 161 = .ok (.iconst 0, 1) := by decide +kernel
theorem dX3_work_162 : decode cX3_work 162 = .ok (.invokestatic 92, 3) := by decide +kernel
theorem dX3_work_165 : decode cX3_work 165 = .ok (.invokevirtual 96, 3) := by decide +kernel
theorem dX3_work_168 : decode cX3_work 168 = .ok (.aload_n 0, 1) := by decide +kernel
theorem dX3_work_169 : decode cX3_work 169 = .ok (.aload_n 0, 1) := by decide +kernel
theorem dX3_work_170 : decode cX3_work 170 = .ok (.getfield 33, 3) := by decide +kernel
theorem dX3_work_173 : decode cX3_work 173 = .ok (.getfield 158, 3) := by decide +kernel
theorem dX3_work_176 : decode cX3_work 176 = .ok (.iload_n 1, 1) := by decide +kernel
theorem dX3_work_177 : decode cX3_work 177 = .ok (.iaload, 1) := by decide +kernel
theorem dX3_work_178 : decode cX3_work 178 = .ok (.invokevirtual 161, 3) := by decide +kernel
theorem dX3_work_181 : decode cX3_work 181 = .ok (.goto 16, 3) := by decide +kernel
theorem dX3_work_184 : decode cX3_work 184 = .ok (.aload_n 0, 1) := by decide +kernel
theorem dX3_work_185 : decode cX3_work 185 = .ok (.iload_n 1, 1) := by decide +kernel
theorem dX3_work_186 : decode cX3_work 186 = .ok (.invokevirtual 164, 3) := by decide +kernel
theorem dX3_work_189 : decode cX3_work 189 = .ok (.goto 8, 3) := by decide +kernel
theorem dX3_work_192 : decode cX3_work 192 = .ok (.aload_n 0, 1) := by decide +kernel
theorem dX3_work_193 : decode cX3_work 193 = .ok (.iload_n 1, 1) := by decide +kernel
theorem dX3_work_194 : decode cX3_work 194 = .ok (.invokevirtual 167, 3) := by decide +kernel
theorem dX3_work_197 : decode cX3_work 197 = .ok (.return_, 1) := by decide +kernel
theorem dX3_workApplication_0 : decode cX3_workApplication 0 = .ok (.aload_n 0, 1) := by decide +kernel
theorem dX3_workApplication_1 : decode cX3_workApplication 1 = .ok (.getfield 33, 3) := by decide +kernel
theorem dX3_workApplication_4 : decode cX3_workApplication 4 = .ok (.getfield 158, 3) := by decide +kernel
theorem dX3_workApplication_7 : decode cX3_workApplication 7 = .ok (.iload_n 1, 1) := by decide +kernel
theorem dX3_workApplication_8 : decode cX3_workApplication 8 = .ok (.iaload, 1) := by decide +kernel
theorem dX3_workApplication_9 : decode cX3_workApplication 9 = .ok (.istore_n 2, 1) := by decide +kernel
theorem dX3_workApplication_10 : decode cX3_workApplication 10 = .ok (.aload_n 0, 1) := by decide +kernel
theorem dX3_workApplication_11 : decode cX3_workApplication 11 = .ok (.getfield 33, 3) := by decide +kernel
theorem dX3_workApplication_14 : decode cX3_workApplication 14 = .ok (.getfield 140, 3) := by decide +kernel
theorem dX3_workApplication_17 : decode cX3_workApplication 17 = .ok (.iload_n 2, 1) := by decide +kernel
theorem dX3_workApplication_18 : decode cX3_workApplication 18 = .ok (.iaload, 1) := by decide +kernel
theorem dX3_workApplication_19 : decode cX3_workApplication 19 = .ok (.iconst 2, 1) := by decide +kernel
theorem dX3_workApplication_20 : decode cX3_workApplication 20 = .ok (.if_icmp .ne 23, 3) := by decide +kernel
theorem dX3_workApplication_23 : decode cX3_workApplication 23 = .ok (.aload_n 0, 1) := by decide +kernel
theorem dX3_workApplication_24 : decode cX3_workApplication 24 = .ok (.getfield 37, 3) := by decide +kernel
theorem dX3_workApplication_27 : decode cX3_workApplication 27 = .ok (.getfield 82, 3) := by decide +kernel
theorem dX3_workApplication_30 : decode cX3_workApplication 30 = .ok (.aload_n 0, 1) := by decide +kernel
theorem dX3_workApplication_31 : decode cX3_workApplication 31 = .ok (.getfield 33, 3) := by decide +kernel
theorem dX3_workApplication_34 : decode cX3_workApplication 34 = .ok (.getfield 136, 3) := by decide +kernel
theorem dX3_workApplication_37 : decode cX3_workApplication 37 = .ok (.iload_n 2, 1) := by decide +kernel
theorem dX3_workApplication_38 : decode cX3_workApplication 38 = .ok (.iaload, 1) := by decide +kernel
theorem dX3_workApplication_39 : decode cX3_workApplication 39 = .ok (.iaload, 1) := by decide +kernel
theorem dX3_workApplication_40 : decode cX3_workApplication 40 = .ok (.ifCond .ne 90, 3) := by decide +kernel
theorem dX3_workApplication_43 : decode cX3_workApplication 43 = .ok (.iconst 0, 1) := by decide +kernel
theorem dX3_workApplication_44 : decode cX3_workApplication 44 = .ok (.istore_n 3, 1) := by decide +kernel
theorem dX3_workApplication_45 : decode cX3_workApplication 45 = .ok (.aload_n 0, 1) := by decide +kernel
theorem dX3_workApplication_46 : decode cX3_workApplication 46 = .ok (.getfield 33, 3) := by decide +kernel
theorem dX3_workApplication_49 : decode cX3_workApplication 49 = .ok (.getfield 240, 3) := by decide +kernel
theorem dX3_workApplication_52 : decode cX3_workApplication 52 = .ok (.iload_n 2, 1) := by decide +kernel
theorem dX3_workApplication_53 : decode cX3_workApplication 53 = .ok (.iaload, 1) := by decide +kernel
theorem dX3_workApplication_54 : decode cX3_workApplication 54 = .ok (.istore 4, 2) := by decide +kernel
theorem dX3_workApplication_56 : decode cX3_workApplication 56 = .ok (.iload_n 3, 1) := by decide +kernel
theorem dX3_workApplication_57 : decode cX3_workApplication 57 = .ok (.bipush 10, 2) := by decide +kernel
theorem dX3_workApplication_59 : decode cX3_workApplication 59 = .ok (.if_icmp .ge 44, 3) := by decide +kernel
theorem dX3_workApplication_62 : decode cX3_workApplication 62 = .ok (.iload 4, 2) := by decide +kernel
theorem dX3_workApplication_64 : decode cX3_workApplication 64 = .ok (.iconst (-1), 1) := by decide +kernel
theorem dX3_workApplication_65 : decode cX3_workApplication 65 = .ok (.if_icmp .eq 38, 3) := by decide +kernel
theorem dX3_workApplication_68 : decode cX3_workApplication 68 = .ok (.aload_n 0, 1) := by decide +kernel
theorem dX3_workApplication_69 : decode cX3_workApplication 69 = .ok (.invokevirtual 230, 3) := by decide +kernel
theorem dX3_workApplication_72 : decode cX3_workApplication 72 = .ok (.ifCond .ne 31, 3) := by decide +kernel
theorem dX3_workApplication_75 : decode cX3_workApplication 75 = .ok (.aload_n 0, 1) := by decide +kernel
theorem dX3_workApplication_76 : decode cX3_workApplication 76 = .ok (.aload_n 0, 1) := by decide +kernel
theorem dX3_workApplication_77 : decode cX3_workApplication 77 = .ok (.iload 4, 2) := by decide +kernel
theorem dX3_workApplication_79 : decode cX3_workApplication 79 = .ok (.invokevirtual 143, 3) := by decide +kernel
theorem dX3_workApplication_82 : decode cX3_workApplication 82 = .ok (.invokevirtual 96, 3) := by decide +kernel
theorem dX3_workApplication_85 : decode cX3_workApplication 85 = .ok (.iinc 3 1, 3) := by decide +kernel
theorem dX3_workApplication_88 : decode cX3_workApplication 88 = .ok (.aload_n 0, 1) := by decide +kernel
theorem dX3_workApplication_89 : decode cX3_workApplication 89 = .ok (.getfield 33, 3) := by decide +kernel
theorem dX3_workApplication_92 : decode cX3_workApplication 92 = .ok (.getfield 240, 3) := by decide +kernel
theorem dX3_workApplication_95 : decode cX3_workApplication 95 = .ok (.iload 4, 2) := by decide +kernel
theorem dX3_workApplication_97 : decode cX3_workApplication 97 = .ok (.iaload, 1) := by decide +kernel
theorem dX3_workApplication_98 : decode cX3_workApplication 98 = .ok (.istore 4, 2) := by decide +kernel
theorem dX3_workApplication_100 : decode cX3_workApplication 100 = .ok (.goto (-44), 3) := by decide +kernel
theorem dX3_workApplication_103 : decode cX3_workApplication 103 = .ok (.aload_n 0, 1) := by decide +kernel
theorem dX3_workApplication_104 : decode cX3_workApplication 104 = .ok (.bipush 6, 2) := by decide +kernel
theorem dX3_workApplication_106 : decode cX3_workApplication 106 = .ok (.aload_n 0, 1) := by decide +kernel
theorem dX3_workApplication_107 : decode cX3_workApplication 107 = .ok (.getfield 33, 3) := by decide +kernel
theorem dX3_workApplication_110 : decode cX3_workApplication 110 = .ok (.getfield 219, 3) := by decide +kernel
theorem dX3_workApplication_113 : decode cX3_workApplication 113 = .ok (.iload_n 1, 1) := by decide +kernel
theorem dX3_workApplication_114 : decode cX3_workApplication 114 = .ok (.iaload, 1) := by decide +kernel
theorem dX3_workApplication_115 : decode cX3_workApplication 115 = .ok (.iconst 0, 1) := by decide +kernel
theorem dX3_workApplication_116 : decode cX3_workApplication 116 = .ok (.invokestatic 92, 3) := by decide +kernel
theorem dX3_workApplication_119 : decode cX3_workApplication 119 = .ok (.invokevirtual 96, 3) := by decide +kernel
theorem dX3_workApplication_122 : decode cX3_workApplication 122 = .ok (.aload_n 0, 1) := by decide +kernel
theorem dX3_workApplication_123 : decode cX3_workApplication 123 = .ok (.iload_n 2, 1) := by decide +kernel
theorem dX3_workApplication_124 : decode cX3_workApplication 124 = .ok (.invokevirtual 161, 3) := by decide +kernel
theorem dX3_workApplication_127 : decode cX3_workApplication 127 = .ok (.goto 29, 3) := by decide +kernel
theorem dX3_workApplication_130 : decode cX3_workApplication 130 = .ok (.aload_n 0, 1) := by decide +kernel
theorem dX3_workApplication_131 : decode cX3_workApplication 131 = .ok (.iload_n 1, 1) := by decide +kernel
theorem dX3_workApplication_132 : decode cX3_workApplication 132 = .ok (.invokevirtual 216, 3) := by decide +kernel
theorem dX3_workApplication_135 : decode cX3_workApplication 135 = .ok (.ifCond .eq 15, 3) := by decide +kernel
theorem dX3_workApplication_138 : decode cX3_workApplication 138 = .ok (.aload_n 0, 1) := by decide +kernel
theorem dX3_workApplication_139 : decode cX3_workApplication 139 = .ok (.aload_n 0, 1) := by decide +kernel
theorem dX3_workApplication_140 : decode cX3_workApplication 140 = .ok (.iload_n 1, 1) := by decide +kernel
theorem dX3_workApplication_141 : decode cX3_workApplication 141 = .ok (.invokevirtual 143, 3) := by decide +kernel
theorem dX3_workApplication_144 : decode cX3_workApplication 144 = .ok (.invokevirtual 147, 3) := by decide +kernel
theorem dX3_workApplication_147 : decode cX3_workApplication 147 = .ok (.goto 9, 3) := by decide +kernel
theorem dX3_workApplication_150 : decode cX3_workApplication 150 = .ok (.aload_n 0, 1) := by decide +kernel
theorem dX3_workApplication_151 : decode cX3_workApplication 151 = .ok (.iload_n 1, 1) := by decide +kernel
theorem dX3_workApplication_152 : decode cX3_workApplication 152 = .ok (.iconst 0, 1) := by decide +kernel
theorem dX3_workApplication_153 : decode cX3_workApplication 153 = .ok (.invokevirtual 243, 3) := by decide +kernel
theorem dX3_workApplication_156 : decode cX3_workApplication 156 = .ok (.return_, 1) := by decide +kernel
theorem dX3_workArguments_0 : decode cX3_workArguments 0 = .ok (.aload_n 0, 1) := by decide +kernel
theorem dX3_workArguments_1 : decode cX3_workArguments 1 = .ok (.getfield 33, 3) := by decide +kernel
theorem dX3_workArguments_4 : decode cX3_workArguments 4 = .ok (.getfield 158, 3) := by decide +kernel
theorem dX3_workArguments_7 : decode cX3_workArguments 7 = .ok (.iload_n 1, 1) := by decide +kernel
theorem dX3_workArguments_8 : decode cX3_workArguments 8 = .ok (.iaload, 1) := by decide +kernel
theorem dX3_workArguments_9 : decode cX3_workArguments 9 = .ok (.istore_n 3, 1) := by decide +kernel
theorem dX3_workArguments_10 : decode cX3_workArguments 10 = .ok (.aload_n 0, 1) := by decide +kernel
theorem dX3_workArguments_11 : decode cX3_workArguments 11 = .ok (.getfield 33, 3) := by decide +kernel
theorem dX3_workArguments_14 : decode cX3_workArguments 14 = .ok (.getfield 136, 3) := by decide +kernel
theorem dX3_workArguments_17 : decode cX3_workArguments 17 = .ok (.iload_n 3, 1) := by decide +kernel
theorem dX3_workArguments_18 : decode cX3_workArguments 18 = .ok (.iaload, 1) := by decide +kernel
theorem dX3_workArguments_19 : decode cX3_workArguments 19 = .ok (.istore 4, 2) := by decide +kernel
theorem dX3_workArguments_21 : decode cX3_workArguments 21 = .ok (.aload_n 0, 1) := by decide +kernel
theorem dX3_workArguments_22 : decode cX3_workArguments 22 = .ok (.getfield 33, 3) := by decide +kernel
theorem dX3_workArguments_25 : decode cX3_workArguments 25 = .ok (.getfield 240, 3) := by decide +kernel
theorem dX3_workArguments_28 : decode cX3_workArguments 28 = .ok (.iload_n 3, 1) := by decide +kernel
theorem dX3_workArguments_29 : decode cX3_workArguments 29 = .ok (.iaload, 1) := by decide +kernel
theorem dX3_workArguments_30 : decode cX3_workArguments 30 = .ok (.istore 5, 2) := by decide +kernel
theorem dX3_workArguments_32 : decode cX3_workArguments 32 = .ok (.iconst 0, 1) := by decide +kernel
theorem dX3_workArguments_33 : decode cX3_workArguments 33 = .ok (.istore 6, 2) := by decide +kernel
theorem dX3_workArguments_35 : decode cX3_workArguments 35 = .ok (.iload 6, 2) := by decide +kernel
theorem dX3_workArguments_37 : decode cX3_workArguments 37 = .ok (.aload_n 0, 1) := by decide +kernel
theorem dX3_workArguments_38 : decode cX3_workArguments 38 = .ok (.getfield 33, 3) := by decide +kernel
theorem dX3_workArguments_41 : decode cX3_workArguments 41 = .ok (.getfield 219, 3) := by decide +kernel
theorem dX3_workArguments_44 : decode cX3_workArguments 44 = .ok (.iload_n 1, 1) := by decide +kernel
theorem dX3_workArguments_45 : decode cX3_workArguments 45 = .ok (.iaload, 1) := by decide +kernel
theorem dX3_workArguments_46 : decode cX3_workArguments 46 = .ok (.if_icmp .ge 115, 3) := by decide +kernel
theorem dX3_workArguments_49 : decode cX3_workArguments 49 = .ok (.iload 5, 2) := by decide +kernel
theorem dX3_workArguments_51 : decode cX3_workArguments 51 = .ok (.iconst (-1), 1) := by decide +kernel
theorem dX3_workArguments_52 : decode cX3_workArguments 52 = .ok (.if_icmp .eq 109, 3) := by decide +kernel
theorem dX3_workArguments_55 : decode cX3_workArguments 55 = .ok (.aload_n 0, 1) := by decide +kernel
theorem dX3_workArguments_56 : decode cX3_workArguments 56 = .ok (.invokevirtual 230, 3) := by decide +kernel
theorem dX3_workArguments_59 : decode cX3_workArguments 59 = .ok (.ifCond .ne 102, 3) := by decide +kernel
theorem dX3_workArguments_62 : decode cX3_workArguments 62 = .ok (.iload 6, 2) := by decide +kernel
theorem dX3_workArguments_64 : decode cX3_workArguments 64 = .ok (.iload_n 2, 1) := by decide +kernel
theorem dX3_workArguments_65 : decode cX3_workArguments 65 = .ok (.if_icmp .lt 78, 3) := by decide +kernel
theorem dX3_workArguments_68 : decode cX3_workArguments 68 = .ok (.aload_n 0, 1) := by decide +kernel
theorem dX3_workArguments_69 : decode cX3_workArguments 69 = .ok (.getfield 57, 3) := by decide +kernel
theorem dX3_workArguments_72 : decode cX3_workArguments 72 = .ok (.ifCond .eq 61, 3) := by decide +kernel
theorem dX3_workArguments_75 : decode cX3_workArguments 75 = .ok (.iload 6, 2) := by decide +kernel
theorem dX3_workArguments_77 : decode cX3_workArguments 77 = .ok (.aload_n 0, 1) := by decide +kernel
theorem dX3_workArguments_78 : decode cX3_workArguments 78 = .ok (.getfield 37, 3) := by decide +kernel
theorem dX3_workArguments_81 : decode cX3_workArguments 81 = .ok (.getfield 82, 3) := by decide +kernel
theorem dX3_workArguments_84 : decode cX3_workArguments 84 = .ok (.iload 4, 2) := by decide +kernel
theorem dX3_workArguments_86 : decode cX3_workArguments 86 = .ok (.iaload, 1) := by decide +kernel
theorem dX3_workArguments_87 : decode cX3_workArguments 87 = .ok (.if_icmp .ge 46, 3) := by decide +kernel
theorem dX3_workArguments_90 : decode cX3_workArguments 90 = .ok (.aload_n 0, 1) := by decide +kernel
theorem dX3_workArguments_91 : decode cX3_workArguments 91 = .ok (.getfield 37, 3) := by decide +kernel
theorem dX3_workArguments_94 : decode cX3_workArguments 94 = .ok (.iload 4, 2) := by decide +kernel
theorem dX3_workArguments_96 : decode cX3_workArguments 96 = .ok (.iload 6, 2) := by decide +kernel
theorem dX3_workArguments_98 : decode cX3_workArguments 98 = .ok (.invokevirtual 246, 3) := by decide +kernel
theorem dX3_workArguments_101 : decode cX3_workArguments 101 = .ok (.ifCond .eq 32, 3) := by decide +kernel
theorem dX3_workArguments_104 : decode cX3_workArguments 104 = .ok (.aload_n 0, 1) := by decide +kernel
theorem dX3_workArguments_105 : decode cX3_workArguments 105 = .ok (.getfield 13, 3) := by decide +kernel
theorem dX3_workArguments_108 : decode cX3_workArguments 108 = .ok (.bipush 8, 2) := by decide +kernel
theorem dX3_workArguments_110 : decode cX3_workArguments 110 = .ok (.dup2, 1) := by decide +kernel
theorem dX3_workArguments_111 : decode cX3_workArguments 111 = .ok (.iaload, 1) := by decide +kernel
theorem dX3_workArguments_112 : decode cX3_workArguments 112 = .ok (.iconst 1, 1) := by decide +kernel
theorem dX3_workArguments_113 : decode cX3_workArguments 113 = .ok (.iadd, 1) := by decide +kernel
theorem dX3_workArguments_114 : decode cX3_workArguments 114 = .ok (.iastore, 1) := by decide +kernel
theorem dX3_workArguments_115 : decode cX3_workArguments 115 = .ok (.aload_n 0, 1) := by decide +kernel
theorem dX3_workArguments_116 : decode cX3_workArguments 116 = .ok (.iconst 5, 1) := by decide +kernel
theorem dX3_workArguments_117 : decode cX3_workArguments 117 = .ok (.iload_n 1, 1) := by decide +kernel
theorem dX3_workArguments_118 : decode cX3_workArguments 118 = .ok (.iload 6, 2) := by decide +kernel
theorem dX3_workArguments_120 : decode cX3_workArguments 120 = .ok (.invokestatic 92, 3) := by decide +kernel
theorem dX3_workArguments_123 : decode cX3_workArguments 123 = .ok (.invokevirtual 96, 3) := by decide +kernel
theorem dX3_workArguments_126 : decode cX3_workArguments 126 = .ok (.aload_n 0, 1) := by decide +kernel
theorem dX3_workArguments_127 : decode cX3_workArguments 127 = .ok (.iload 5, 2) := by decide +kernel
theorem dX3_workArguments_129 : decode cX3_workArguments 129 = .ok (.invokevirtual 161, 3) := by decide +kernel
theorem dX3_workArguments_132 : decode cX3_workArguments 132 = .ok (.return_, 1) := by decide +kernel
theorem dX3_workArguments_133 : decode cX3_workArguments 133 = .ok (.aload_n 0, 1) := by decide +kernel
theorem dX3_workArguments_134 : decode cX3_workArguments 134 = .ok (.aload_n 0, 1) := by decide +kernel
theorem dX3_workArguments_135 : decode cX3_workArguments 135 = .ok (.iload 5, 2) := by decide +kernel
theorem dX3_workArguments_137 : decode cX3_workArguments 137 = .ok (.invokevirtual 143, 3) := by decide +kernel
theorem dX3_workArguments_140 : decode cX3_workArguments 140 = .ok (.invokevirtual 96, 3) := by decide +kernel
theorem dX3_workArguments_143 : decode cX3_workArguments 143 = .ok (.aload_n 0, 1) := by decide +kernel
theorem dX3_workArguments_144 : decode cX3_workArguments 144 = .ok (.getfield 33, 3) := by decide +kernel
theorem dX3_workArguments_147 : decode cX3_workArguments 147 = .ok (.getfield 240, 3) := by decide +kernel
theorem dX3_workArguments_150 : decode cX3_workArguments 150 = .ok (.iload 5, 2) := by decide +kernel
theorem dX3_workArguments_152 : decode cX3_workArguments 152 = .ok (.iaload, 1) := by decide +kernel
theorem dX3_workArguments_153 : decode cX3_workArguments 153 = .ok (.istore 5, 2) := by decide +kernel
theorem dX3_workArguments_155 : decode cX3_workArguments 155 = .ok (.iinc 6 1, 3) := by decide +kernel
theorem dX3_workArguments_158 : decode cX3_workArguments 158 = .ok (.goto (-123), 3) := by decide +kernel
theorem dX3_workArguments_161 : decode cX3_workArguments 161 = .ok (.aload_n 0, 1) := by decide +kernel
theorem dX3_workArguments_162 : decode cX3_workArguments 162 = .ok (.invokevirtual 230, 3) := by decide +kernel
theorem dX3_workArguments_165 : decode cX3_workArguments 165 = .ok (.ifCond .ne 19, 3) := by decide +kernel
theorem dX3_workArguments_168 : decode cX3_workArguments 168 = .ok (.aload_n 0, 1) := by decide +kernel
theorem dX3_workArguments_169 : decode cX3_workArguments 169 = .ok (.iload 4, 2) := by decide +kernel
theorem dX3_workArguments_171 : decode cX3_workArguments 171 = .ok (.iconst (-1), 1) := by decide +kernel
theorem dX3_workArguments_172 : decode cX3_workArguments 172 = .ok (.aload_n 0, 1) := by decide +kernel
theorem dX3_workArguments_173 : decode cX3_workArguments 173 = .ok (.getfield 33, 3) := by decide +kernel
theorem dX3_workArguments_176 : decode cX3_workArguments 176 = .ok (.getfield 219, 3) := by decide +kernel
theorem dX3_workArguments_179 : decode cX3_workArguments 179 = .ok (.iload_n 1, 1) := by decide +kernel
theorem dX3_workArguments_180 : decode cX3_workArguments 180 = .ok (.iaload, 1) := by decide +kernel
theorem dX3_workArguments_181 : decode cX3_workArguments 181 = .ok (.invokevirtual 250, 3) := by decide +kernel
theorem dX3_workArguments_184 : decode cX3_workArguments 184 = .ok (.return_, 1) := by decide +kernel
theorem dX3_workLet_0 : decode cX3_workLet 0 = .ok (.aload_n 0, 1) := by decide +kernel
theorem dX3_workLet_1 : decode cX3_workLet 1 = .ok (.getfield 33, 3) := by decide +kernel
theorem dX3_workLet_4 : decode cX3_workLet 4 = .ok (.getfield 158, 3) := by decide +kernel
theorem dX3_workLet_7 : decode cX3_workLet 7 = .ok (.iload_n 1, 1) := by decide +kernel
theorem dX3_workLet_8 : decode cX3_workLet 8 = .ok (.iaload, 1) := by decide +kernel
theorem dX3_workLet_9 : decode cX3_workLet 9 = .ok (.istore_n 2, 1) := by decide +kernel
theorem dX3_workLet_10 : decode cX3_workLet 10 = .ok (.aload_n 0, 1) := by decide +kernel
theorem dX3_workLet_11 : decode cX3_workLet 11 = .ok (.getfield 33, 3) := by decide +kernel
theorem dX3_workLet_14 : decode cX3_workLet 14 = .ok (.getfield 240, 3) := by decide +kernel
theorem dX3_workLet_17 : decode cX3_workLet 17 = .ok (.iload_n 2, 1) := by decide +kernel
theorem dX3_workLet_18 : decode cX3_workLet 18 = .ok (.iaload, 1) := by decide +kernel
theorem dX3_workLet_19 : decode cX3_workLet 19 = .ok (.istore_n 3, 1) := by decide +kernel
theorem dX3_workLet_20 : decode cX3_workLet 20 = .ok (.aload_n 0, 1) := by decide +kernel
theorem dX3_workLet_21 : decode cX3_workLet 21 = .ok (.getfield 57, 3) := by decide +kernel
theorem dX3_workLet_24 : decode cX3_workLet 24 = .ok (.ifCond .eq 50, 3) := by decide +kernel
theorem dX3_workLet_27 : decode cX3_workLet 27 = .ok (.aload_n 0, 1) := by decide +kernel
theorem dX3_workLet_28 : decode cX3_workLet 28 = .ok (.getfield 33, 3) := by decide +kernel
theorem dX3_workLet_31 : decode cX3_workLet 31 = .ok (.getfield 136, 3) := by decide +kernel
theorem dX3_workLet_34 : decode cX3_workLet 34 = .ok (.iload_n 1, 1) := by decide +kernel
theorem dX3_workLet_35 : decode cX3_workLet 35 = .ok (.iaload, 1) := by decide +kernel
theorem dX3_workLet_36 : decode cX3_workLet 36 = .ok (.ifCond .eq 38, 3) := by decide +kernel
theorem dX3_workLet_39 : decode cX3_workLet 39 = .ok (.aload_n 0, 1) := by decide +kernel
theorem dX3_workLet_40 : decode cX3_workLet 40 = .ok (.getfield 13, 3) := by decide +kernel
theorem dX3_workLet_43 : decode cX3_workLet 43 = .ok (.bipush 8, 2) := by decide +kernel
theorem dX3_workLet_45 : decode cX3_workLet 45 = .ok (.dup2, 1) := by decide +kernel
theorem dX3_workLet_46 : decode cX3_workLet 46 = .ok (.iaload, 1) := by decide +kernel
theorem dX3_workLet_47 : decode cX3_workLet 47 = .ok (.iconst 1, 1) := by decide +kernel
theorem dX3_workLet_48 : decode cX3_workLet 48 = .ok (.iadd, 1) := by decide +kernel
theorem dX3_workLet_49 : decode cX3_workLet 49 = .ok (.iastore, 1) := by decide +kernel
theorem dX3_workLet_50 : decode cX3_workLet 50 = .ok (.aload_n 0, 1) := by decide +kernel
theorem dX3_workLet_51 : decode cX3_workLet 51 = .ok (.iconst 4, 1) := by decide +kernel
theorem dX3_workLet_52 : decode cX3_workLet 52 = .ok (.iload_n 1, 1) := by decide +kernel
theorem dX3_workLet_53 : decode cX3_workLet 53 = .ok (.iconst 0, 1) := by decide +kernel
theorem dX3_workLet_54 : decode cX3_workLet 54 = .ok (.invokestatic 92, 3) := by decide +kernel
theorem dX3_workLet_57 : decode cX3_workLet 57 = .ok (.invokevirtual 96, 3) := by decide +kernel
theorem dX3_workLet_60 : decode cX3_workLet 60 = .ok (.aload_n 0, 1) := by decide +kernel
theorem dX3_workLet_61 : decode cX3_workLet 61 = .ok (.aload_n 0, 1) := by decide +kernel
theorem dX3_workLet_62 : decode cX3_workLet 62 = .ok (.getfield 33, 3) := by decide +kernel
theorem dX3_workLet_65 : decode cX3_workLet 65 = .ok (.getfield 158, 3) := by decide +kernel
theorem dX3_workLet_68 : decode cX3_workLet 68 = .ok (.iload_n 3, 1) := by decide +kernel
theorem dX3_workLet_69 : decode cX3_workLet 69 = .ok (.iaload, 1) := by decide +kernel
theorem dX3_workLet_70 : decode cX3_workLet 70 = .ok (.invokevirtual 161, 3) := by decide +kernel
theorem dX3_workLet_73 : decode cX3_workLet 73 = .ok (.return_, 1) := by decide +kernel
theorem dX3_workLet_74 : decode cX3_workLet 74 = .ok (.iconst 0, 1) := by decide +kernel
theorem dX3_workLet_75 : decode cX3_workLet 75 = .ok (.istore 4, 2) := by decide +kernel
theorem dX3_workLet_77 : decode cX3_workLet 77 = .ok (.iload_n 3, 1) := by decide +kernel
theorem dX3_workLet_78 : decode cX3_workLet 78 = .ok (.istore 5, 2) := by decide +kernel
theorem dX3_workLet_80 : decode cX3_workLet 80 = .ok (.iload 4, 2) := by decide +kernel
theorem dX3_workLet_82 : decode cX3_workLet 82 = .ok (.bipush 10, 2) := by decide +kernel
theorem dX3_workLet_84 : decode cX3_workLet 84 = .ok (.if_icmp .ge 69, 3) := by decide +kernel
theorem dX3_workLet_87 : decode cX3_workLet 87 = .ok (.iload 5, 2) := by decide +kernel
theorem dX3_workLet_89 : decode cX3_workLet 89 = .ok (.iconst (-1), 1) := by decide +kernel
theorem dX3_workLet_90 : decode cX3_workLet 90 = .ok (.if_icmp .eq 63, 3) := by decide +kernel
theorem dX3_workLet_93 : decode cX3_workLet 93 = .ok (.aload_n 0, 1) := by decide +kernel
theorem dX3_workLet_94 : decode cX3_workLet 94 = .ok (.invokevirtual 230, 3) := by decide +kernel
theorem dX3_workLet_97 : decode cX3_workLet 97 = .ok (.ifCond .ne 56, 3) := by decide +kernel
theorem dX3_workLet_100 : decode cX3_workLet 100 = .ok (.aload_n 0, 1) := by decide +kernel
theorem dX3_workLet_101 : decode cX3_workLet 101 = .ok (.getfield 30, 3) := by decide +kernel
theorem dX3_workLet_104 : decode cX3_workLet 104 = .ok (.aload_n 0, 1) := by decide +kernel
theorem dX3_workLet_105 : decode cX3_workLet 105 = .ok (.getfield 68, 3) := by decide +kernel
theorem dX3_workLet_108 : decode cX3_workLet 108 = .ok (.aload_n 0, 1) := by decide +kernel
theorem dX3_workLet_109 : decode cX3_workLet 109 = .ok (.getfield 33, 3) := by decide +kernel
theorem dX3_workLet_112 : decode cX3_workLet 112 = .ok (.getfield 136, 3) := by decide +kernel
theorem dX3_workLet_115 : decode cX3_workLet 115 = .ok (.iload 5, 2) := by decide +kernel
theorem dX3_workLet_117 : decode cX3_workLet 117 = .ok (.iaload, 1) := by decide +kernel
theorem dX3_workLet_118 : decode cX3_workLet 118 = .ok (.iadd, 1) := by decide +kernel
theorem dX3_workLet_119 : decode cX3_workLet 119 = .ok (.aload_n 0, 1) := by decide +kernel
theorem dX3_workLet_120 : decode cX3_workLet 120 = .ok (.aload_n 0, 1) := by decide +kernel
theorem dX3_workLet_121 : decode cX3_workLet 121 = .ok (.getfield 33, 3) := by decide +kernel
theorem dX3_workLet_124 : decode cX3_workLet 124 = .ok (.getfield 158, 3) := by decide +kernel
theorem dX3_workLet_127 : decode cX3_workLet 127 = .ok (.iload 5, 2) := by decide +kernel
theorem dX3_workLet_129 : decode cX3_workLet 129 = .ok (.iaload, 1) := by decide +kernel
theorem dX3_workLet_130 : decode cX3_workLet 130 = .ok (.iconst 1, 1) := by decide +kernel
theorem dX3_workLet_131 : decode cX3_workLet 131 = .ok (.invokevirtual 150, 3) := by decide +kernel
theorem dX3_workLet_134 : decode cX3_workLet 134 = .ok (.lastore, 1) := by decide +kernel
theorem dX3_workLet_135 : decode cX3_workLet 135 = .ok (.iinc 4 1, 3) := by decide +kernel
theorem dX3_workLet_138 : decode cX3_workLet 138 = .ok (.aload_n 0, 1) := by decide +kernel
theorem dX3_workLet_139 : decode cX3_workLet 139 = .ok (.getfield 33, 3) := by decide +kernel
theorem dX3_workLet_142 : decode cX3_workLet 142 = .ok (.getfield 240, 3) := by decide +kernel
theorem dX3_workLet_145 : decode cX3_workLet 145 = .ok (.iload 5, 2) := by decide +kernel
theorem dX3_workLet_147 : decode cX3_workLet 147 = .ok (.iaload, 1) := by decide +kernel
theorem dX3_workLet_148 : decode cX3_workLet 148 = .ok (.istore 5, 2) := by decide +kernel
theorem dX3_workLet_150 : decode cX3_workLet 150 = .ok (.goto (-70), 3) := by decide +kernel
theorem dX3_workLet_153 : decode cX3_workLet 153 = .ok (.iconst 0, 1) := by decide +kernel
theorem dX3_workLet_154 : decode cX3_workLet 154 = .ok (.istore 4, 2) := by decide +kernel
theorem dX3_workLet_156 : decode cX3_workLet 156 = .ok (.iload_n 3, 1) := by decide +kernel
theorem dX3_workLet_157 : decode cX3_workLet 157 = .ok (.istore 5, 2) := by decide +kernel
theorem dX3_workLet_159 : decode cX3_workLet 159 = .ok (.iload 4, 2) := by decide +kernel
theorem dX3_workLet_161 : decode cX3_workLet 161 = .ok (.bipush 10, 2) := by decide +kernel
theorem dX3_workLet_163 : decode cX3_workLet 163 = .ok (.if_icmp .ge 69, 3) := by decide +kernel
theorem dX3_workLet_166 : decode cX3_workLet 166 = .ok (.iload 5, 2) := by decide +kernel
theorem dX3_workLet_168 : decode cX3_workLet 168 = .ok (.iconst (-1), 1) := by decide +kernel
theorem dX3_workLet_169 : decode cX3_workLet 169 = .ok (.if_icmp .eq 63, 3) := by decide +kernel
theorem dX3_workLet_172 : decode cX3_workLet 172 = .ok (.aload_n 0, 1) := by decide +kernel
theorem dX3_workLet_173 : decode cX3_workLet 173 = .ok (.invokevirtual 230, 3) := by decide +kernel
theorem dX3_workLet_176 : decode cX3_workLet 176 = .ok (.ifCond .ne 56, 3) := by decide +kernel
theorem dX3_workLet_179 : decode cX3_workLet 179 = .ok (.aload_n 0, 1) := by decide +kernel
theorem dX3_workLet_180 : decode cX3_workLet 180 = .ok (.aload_n 0, 1) := by decide +kernel
theorem dX3_workLet_181 : decode cX3_workLet 181 = .ok (.getfield 33, 3) := by decide +kernel
theorem dX3_workLet_184 : decode cX3_workLet 184 = .ok (.getfield 158, 3) := by decide +kernel
theorem dX3_workLet_187 : decode cX3_workLet 187 = .ok (.iload 5, 2) := by decide +kernel
theorem dX3_workLet_189 : decode cX3_workLet 189 = .ok (.iaload, 1) := by decide +kernel
theorem dX3_workLet_190 : decode cX3_workLet 190 = .ok (.aload_n 0, 1) := by decide +kernel
theorem dX3_workLet_191 : decode cX3_workLet 191 = .ok (.getfield 30, 3) := by decide +kernel
theorem dX3_workLet_194 : decode cX3_workLet 194 = .ok (.aload_n 0, 1) := by decide +kernel
theorem dX3_workLet_195 : decode cX3_workLet 195 = .ok (.getfield 68, 3) := by decide +kernel
theorem dX3_workLet_198 : decode cX3_workLet 198 = .ok (.aload_n 0, 1) := by decide +kernel
theorem dX3_workLet_199 : decode cX3_workLet 199 = .ok (.getfield 33, 3) := by decide +kernel
theorem dX3_workLet_202 : decode cX3_workLet 202 = .ok (.getfield 136, 3) := by decide +kernel
theorem dX3_workLet_205 : decode cX3_workLet 205 = .ok (.iload 5, 2) := by decide +kernel
theorem dX3_workLet_207 : decode cX3_workLet 207 = .ok (.iaload, 1) := by decide +kernel
theorem dX3_workLet_208 : decode cX3_workLet 208 = .ok (.iadd, 1) := by decide +kernel
theorem dX3_workLet_209 : decode cX3_workLet 209 = .ok (.laload, 1) := by decide +kernel
theorem dX3_workLet_210 : decode cX3_workLet 210 = .ok (.iconst 1, 1) := by decide +kernel
theorem dX3_workLet_211 : decode cX3_workLet 211 = .ok (.invokevirtual 203, 3) := by decide +kernel
theorem dX3_workLet_214 : decode cX3_workLet 214 = .ok (.iinc 4 1, 3) := by decide +kernel
theorem dX3_workLet_217 : decode cX3_workLet 217 = .ok (.aload_n 0, 1) := by decide +kernel
theorem dX3_workLet_218 : decode cX3_workLet 218 = .ok (.getfield 33, 3) := by decide +kernel
theorem dX3_workLet_221 : decode cX3_workLet 221 = .ok (.getfield 240, 3) := by decide +kernel
theorem dX3_workLet_224 : decode cX3_workLet 224 = .ok (.iload 5, 2) := by decide +kernel
theorem dX3_workLet_226 : decode cX3_workLet 226 = .ok (.iaload, 1) := by decide +kernel
theorem dX3_workLet_227 : decode cX3_workLet 227 = .ok (.istore 5, 2) := by decide +kernel
theorem dX3_workLet_229 : decode cX3_workLet 229 = .ok (.goto (-70), 3) := by decide +kernel
theorem dX3_workLet_232 : decode cX3_workLet 232 = .ok (.aload_n 0, 1) := by decide +kernel
theorem dX3_workLet_233 : decode cX3_workLet 233 = .ok (.iload_n 2, 1) := by decide +kernel
theorem dX3_workLet_234 : decode cX3_workLet 234 = .ok (.invokevirtual 161, 3) := by decide +kernel
theorem dX3_workLet_237 : decode cX3_workLet 237 = .ok (.return_, 1) := by decide +kernel
theorem cw_X0_blacken : CWV yX0_blacken cX0_blacken 2 none RX0 1 := ⟨mG_1878, mG_1876, mG_1877, mG_225, by decide +kernel⟩
theorem cw_X0_functionOf : CWV yX0_functionOf cX0_functionOf 2 (some .int) RX0 1 := ⟨mG_1862, mG_1860, mG_1861, mG_225, by decide +kernel⟩
theorem cw_X0_isBlack : CWV yX0_isBlack cX0_isBlack 2 (some .boolean) RX0 1 := ⟨mG_1844, mG_1842, mG_1843, mG_225, by decide +kernel⟩
theorem cw_X0_isFresh : CWV yX0_isFresh cX0_isFresh 2 (some .boolean) RX0 1 := ⟨mG_1853, mG_1851, mG_1852, mG_225, by decide +kernel⟩
theorem cw_X0_nodeOf : CWV yX0_nodeOf cX0_nodeOf 2 (some .int) RX0 1 := ⟨mG_1857, mG_1855, mG_1856, mG_225, by decide +kernel⟩
theorem cw_X0_update : CWV yX0_update cX0_update 4 none RX0 2 := ⟨mG_1995, mG_1993, mG_1994, mG_225, by decide +kernel⟩
theorem cw_X3_addNumbers : CWV yX3_addNumbers cX3_addNumbers 5 none RX3 3 := ⟨mG_2007, mG_2006, mG_104, mG_224, by decide +kernel⟩
theorem cw_X3_applyValue : CWV yX3_applyValue cX3_applyValue 7 none RX3 1 := ⟨mG_1987, mG_1986, mG_100, mG_224, by decide +kernel⟩
theorem cw_X3_choose : CWV yX3_choose cX3_choose 4 none RX3 1 := ⟨mG_1979, mG_1978, mG_98, mG_224, by decide +kernel⟩
theorem cw_X3_closeVariables : CWV yX3_closeVariables cX3_closeVariables 3 none RX3 2 := ⟨mG_1999, mG_1998, mG_102, mG_224, by decide +kernel⟩
theorem cw_X3_enter : CWV yX3_enter cX3_enter 5 none RX3 1 := ⟨mG_1833, mG_1832, mG_72, mG_224, by decide +kernel⟩
theorem cw_X3_enterCall : CWV yX3_enterCall cX3_enterCall 10 none RX3 3 := ⟨mG_1950, mG_1949, mG_91, mG_224, by decide +kernel⟩
theorem cw_X3_extendPart : CWV yX3_extendPart cX3_extendPart 9 none RX3 4 := ⟨mG_1991, mG_1990, mG_101, mG_224, by decide +kernel⟩
theorem cw_X3_forget : CWV yX3_forget cX3_forget 1 none RX3 0 := ⟨mG_888, mG_886, mG_887, mG_224, by decide +kernel⟩
theorem cw_X3_frame : CWS yX3_frame cX3_frame 3 (some .long) RX3 3 := ⟨mG_1813, mG_1812, mG_224, by decide +kernel⟩
theorem cw_X3_loadVariables : CWV yX3_loadVariables cX3_loadVariables 6 none RX3 2 := ⟨mG_1874, mG_1873, mG_77, mG_224, by decide +kernel⟩
theorem cw_X3_makeRoom : CWV yX3_makeRoom cX3_makeRoom 2 none RX3 1 := ⟨mG_1870, mG_1869, mG_76, mG_224, by decide +kernel⟩
theorem cw_X3_openVariables : CWV yX3_openVariables cX3_openVariables 2 none RX3 1 := ⟨mG_1866, mG_1865, mG_75, mG_224, by decide +kernel⟩
theorem cw_X3_operate : CWV yX3_operate cX3_operate 8 none RX3 3 := ⟨mG_1963, mG_1962, mG_94, mG_224, by decide +kernel⟩
theorem cw_X3_pop : CWV yX3_pop cX3_pop 1 (some .long) RX3 0 := ⟨mG_1958, mG_1957, mG_93, mG_224, by decide +kernel⟩
theorem cw_X3_push : CWV yX3_push cX3_push 3 none RX3 1 := ⟨mG_1817, mG_1816, mG_71, mG_224, by decide +kernel⟩
theorem cw_X3_resume : CWV yX3_resume cX3_resume 5 none RX3 0 := ⟨mG_1954, mG_1953, mG_92, mG_224, by decide +kernel⟩
theorem cw_X3_show : CWV yX3_show cX3_show 2 none RX3 0 := ⟨mG_2003, mG_2002, mG_103, mG_224, by decide +kernel⟩
theorem cw_X3_showField : CWV yX3_showField cX3_showField 3 none RX3 2 := ⟨mG_2011, mG_2010, mG_105, mG_224, by decide +kernel⟩
theorem cw_X3_work : CWV yX3_work cX3_work 3 none RX3 0 := ⟨mG_1887, mG_1886, mG_79, mG_224, by decide +kernel⟩
theorem cw_X3_workApplication : CWV yX3_workApplication cX3_workApplication 5 none RX3 1 := ⟨mG_1941, mG_1940, mG_89, mG_224, by decide +kernel⟩
theorem cw_X3_workArguments : CWV yX3_workArguments cX3_workArguments 7 none RX3 2 := ⟨mG_1945, mG_1944, mG_90, mG_224, by decide +kernel⟩
theorem cw_X3_workLet : CWV yX3_workLet cX3_workLet 6 none RX3 1 := ⟨mG_1937, mG_1936, mG_88, mG_224, by decide +kernel⟩
theorem cw_X4_needsParameter : CWV yX4_needsParameter cX4_needsParameter 3 (some .boolean) RX4 2 := ⟨mG_1780, mG_1778, mG_1779, mG_216, by decide +kernel⟩
section MX3_push
variable {r : Unit} {τ : S5}
set_option maxHeartbeats 4000000 in
theorem m_X3_push_b30 {σ : S5} {v1 : Int64}  (hg : f_X3_push_b30 v1 σ = some (r, τ)) : ka σ ≤ ka τ ∧ sl σ ≤ sl τ := by
  have hm : ka σ ≤ ka σ ∧ sl σ ≤ sl σ := ⟨Nat.le_refl _, Nat.le_refl _⟩
  unfold f_X3_push_b30 at hg
  obtain ⟨hi39, hg⟩ := gd_some hg
  obtain ⟨-, rfl⟩ := fin_some hg
  exact hm
set_option maxHeartbeats 4000000 in
theorem m_X3_push {σ : S5} {a1 : Int64}  (hg : f_X3_push a1 σ = some (r, τ)) : ka σ ≤ ka τ ∧ sl σ ≤ sl τ := by
  have hm : ka σ ≤ ka σ ∧ sl σ ≤ sl σ := ⟨Nat.le_refl _, Nat.le_refl _⟩
  unfold f_X3_push at hg
  refine (Decidable.em ((gI σ 40) < (Int32.ofNat (gN σ 1)))).elim (fun c9 => ?_) (fun c9 => ?_)
  · have hg := (if_pos c9).symm.trans hg
    exact ⟨Nat.le_trans hm.1 (m_X3_push_b30 hg).1, Nat.le_trans hm.2 (m_X3_push_b30 hg).2⟩
  · have hg := (if_neg c9).symm.trans hg
    obtain ⟨hg1, hg⟩ := gle_some hg
    obtain ⟨hg2, hg⟩ := gle_some hg
    have hk1 : ka (pN (grB σ 12 (gN σ 1)) 1 (2 * (gN σ 1))) = 2 * (gN σ 1) / 512 + (gN σ 3) / 512 ∧ sl (pN (grB σ 12 (gN σ 1)) 1 (2 * (gN σ 1))) = 2 * (2 * (gN σ 1)) + 2 * (gN σ 3) := ⟨rfl, rfl⟩
    have hk2 : ka σ = gN σ 1 / 512 + gN σ 3 / 512 ∧ sl σ = 2 * gN σ 1 + 2 * gN σ 3 := ⟨rfl, rfl⟩
    have hm : ka σ ≤ ka (pN (grB σ 12 (gN σ 1)) 1 (2 * (gN σ 1))) ∧ sl σ ≤ sl (pN (grB σ 12 (gN σ 1)) 1 (2 * (gN σ 1))) := by omega
    exact ⟨Nat.le_trans hm.1 (m_X3_push_b30 hg).1, Nat.le_trans hm.2 (m_X3_push_b30 hg).2⟩
variable {p : Program} {l : Launch} {e : Env} {R : Room} {s : State} {m : MethodId} {args : Array Value} {below : List Frame} {meth : Method} {c : Code} {dC : Nat → ClassId} {dI : Nat → Nat → Nat} {Z : ZZ} {A : Nat → Prop} {ad : Nat → Nat} {kc : Nat → ClassId} {k0 s0 : Nat}
set_option maxHeartbeats 4000000 in
set_option maxRecDepth 100000 in
theorem w_X3_push_b30 {sa va : Nat} {σ : S5} {v1 : Int64} {H : Heap} {locs : List Loc} {ls : Array Slot} (S : CallFix p m c cX3_push 3 s args uG RX3) (hr : meth.sig.returnType = none) (hk : meth.locks = false) (hR : 2 ≤ R.frames ∧ 90 ≤ R.locals) (hRc : ka τ - k0 ≤ R.cells ∧ sl τ - s0 ≤ R.slots)
    (hc : k0 ≤ ka σ ∧ s0 ≤ sl σ) (X : gX (dC, dI) (tK kc) (wK ad kc sa va) Z A s σ H locs) (hl : lv_has ls 3 [(0, .ref (ad 0)), (1, .long v1)]) (hg : f_X3_push_b30 v1 σ = some (r, τ)) : W p l e R s m args below meth c H locs (ka σ - k0) (sl σ - s0) (MQ below (gQy (dC, dI) (tK kc) (wK ad kc) A τ) args s (ka τ - k0) (sl τ - s0) A) (F0 m 30 ls []) := by
  have hx := S.1
  have hb := S.2.1
  have hown := S.2.2.2.1
  have hu := S.2.2.2.2
  have hn := m_X3_push_b30 hg
  have hm : ka σ = ka σ ∧ sl σ = sl σ := ⟨rfl, rfl⟩
  unfold f_X3_push_b30 at hg
  refine lv_aload_n hx hb dX3_push_30 rfl (lv_at hl 0 rfl) ?_
  refine wkgR_0_7 S X mG_670 dX3_push_31 ?_
  refine lv_aload_n hx hb dX3_push_34 rfl (lv_at hl 0 rfl) ?_
  refine wkgI_40 (v := (gI σ 40)) S X mG_671 rfl dX3_push_35 ?_
  refine lv_lload_n hx hb dX3_push_38 rfl (lv_at hl 1 rfl) ?_
  obtain ⟨hi39, hg⟩ := gd_some hg
  refine wksB_12 S X hi39 dX3_push_39 (fun H locs X => ?_)
  refine lv_aload_n hx hb dX3_push_40 rfl (lv_at hl 0 rfl) ?_
  refine lv_dup hx hb dX3_push_41 rfl ?_
  refine wkgI_40 (v := (gI σ 40)) S X mG_671 rfl dX3_push_42 ?_
  refine lv_iconst (v := 1) hx hb dX3_push_45 (by decide) ?_
  refine lv_iadd hx hb dX3_push_46 ?_
  refine wkpI_40 S X mG_671 dX3_push_47 (fun H locs X => ?_)
  obtain ⟨-, rfl⟩ := fin_some hg
  refine W.widen (k := ka σ - k0) (n := sl σ - s0) (show ka σ - k0 ≤ ka σ - k0 by omega) (show sl σ - s0 ≤ sl σ - s0 by omega) ?_
  exact gr_y S hr hk X dX3_push_50
set_option maxHeartbeats 4000000 in
set_option maxRecDepth 100000 in
theorem w_X3_push {sa va : Nat} {σ : S5} {a1 : Int64} {H : Heap} {locs : List Loc} {ls : Array Slot} (S : CallFix p m c cX3_push 3 s args uG RX3) (hr : meth.sig.returnType = none) (hk : meth.locks = false) (hR : 2 ≤ R.frames ∧ 90 ≤ R.locals) (hRc : ka τ - k0 ≤ R.cells ∧ sl τ - s0 ≤ R.slots)
    (hc : k0 ≤ ka σ ∧ s0 ≤ sl σ) (X : gX (dC, dI) (tK kc) (wK ad kc sa va) Z A s σ H locs) (hl : lv_has ls 3 [(0, .ref (ad 0)), (1, .long a1)]) (hg : f_X3_push a1 σ = some (r, τ)) : W p l e R s m args below meth c H locs (ka σ - k0) (sl σ - s0) (MQ below (gQy (dC, dI) (tK kc) (wK ad kc) A τ) args s (ka τ - k0) (sl τ - s0) A) (F0 m 0 ls []) := by
  have hx := S.1
  have hb := S.2.1
  have hown := S.2.2.2.1
  have hu := S.2.2.2.2
  have hn := m_X3_push hg
  have hm : ka σ = ka σ ∧ sl σ = sl σ := ⟨rfl, rfl⟩
  unfold f_X3_push at hg
  refine lv_aload_n hx hb dX3_push_0 rfl (lv_at hl 0 rfl) ?_
  refine wkgI_40 (v := (gI σ 40)) S X mG_671 rfl dX3_push_1 ?_
  refine lv_aload_n hx hb dX3_push_4 rfl (lv_at hl 0 rfl) ?_
  refine wkgR_0_7 S X mG_670 dX3_push_5 ?_
  refine wknB_12 S X dX3_push_8 ?_
  refine lv_icmp_lt (tgt := 30) hx hb dX3_push_9 (by decide) (fun c9 => ?_) (fun c9 => ?_)
  · have hg := (if_pos c9).symm.trans hg
    refine W.widen (k := ka σ - k0) (n := sl σ - s0) (show ka σ - k0 ≤ ka σ - k0 by omega) (show sl σ - s0 ≤ sl σ - s0 by omega) ?_
    exact w_X3_push_b30 S hr hk hR hRc (show k0 ≤ ka σ ∧ s0 ≤ sl σ from (by omega : k0 ≤ ka σ ∧ s0 ≤ sl σ)) X (lv_sub hl [0, 1] rfl) hg
  · have hg := (if_neg c9).symm.trans hg
    refine lv_aload_n hx hb dX3_push_12 rfl (lv_at hl 0 rfl) ?_
    refine lv_aload_n hx hb dX3_push_13 rfl (lv_at hl 0 rfl) ?_
    refine wkgR_0_7 S X mG_670 dX3_push_14 ?_
    refine lv_aload_n hx hb dX3_push_17 rfl (lv_at hl 0 rfl) ?_
    refine wkgR_0_7 S X mG_670 dX3_push_18 ?_
    refine wknB_12 S X dX3_push_21 ?_
    refine lv_iconst (v := 2) hx hb dX3_push_22 (by decide) ?_
    refine lv_imul hx hb dX3_push_23 ?_
    obtain ⟨hg1, hg⟩ := gle_some hg
    obtain ⟨hg2, hg⟩ := gle_some hg
    have hk1 : ka (pN (grB σ 12 (gN σ 1)) 1 (2 * (gN σ 1))) = 2 * (gN σ 1) / 512 + (gN σ 3) / 512 ∧ sl (pN (grB σ 12 (gN σ 1)) 1 (2 * (gN σ 1))) = 2 * (2 * (gN σ 1)) + 2 * (gN σ 3) := ⟨rfl, rfl⟩
    have hk2 : ka σ = gN σ 1 / 512 + gN σ 3 / 512 ∧ sl σ = 2 * gN σ 1 + 2 * gN σ 3 := ⟨rfl, rfl⟩
    have hn2 := m_X3_push_b30 hg
    have hn2 : ka (pN (grB σ 12 (gN σ 1)) 1 (2 * (gN σ 1))) ≤ ka τ ∧ sl (pN (grB σ 12 (gN σ 1)) 1 (2 * (gN σ 1))) ≤ sl τ := hn2
    refine gw_stack S X hg1 hg2 mG_1818 mG_670 dX3_push_24 dX3_push_27 hl.1 ⟨by omega, by omega⟩ ⟨by omega, by omega⟩ (fun sa H locs X => ?_)
    refine W.widen (k := ka (pN (grB σ 12 (gN σ 1)) 1 (2 * (gN σ 1))) - k0) (n := sl (pN (grB σ 12 (gN σ 1)) 1 (2 * (gN σ 1))) - s0) (by omega) (by omega) ?_
    exact w_X3_push_b30 S hr hk hR hRc (show k0 ≤ ka (pN (grB σ 12 (gN σ 1)) 1 (2 * (gN σ 1))) ∧ s0 ≤ sl (pN (grB σ 12 (gN σ 1)) 1 (2 * (gN σ 1))) by omega) X (lv_sub hl [0, 1] rfl) hg
end MX3_push
set_option maxRecDepth 100000 in
theorem k2_X3_push (l : Launch) (dC : Nat → ClassId) (dI : Nat → Nat → Nat) {Z : ZZ} (ad : Nat → Nat) (kc : Nat → ClassId) (sa va : Nat) {σ τ : S5} {a1 : Int64} {r : Unit} (hg : f_X3_push a1 σ = some (r, τ)) (sz : Nat) : Met l yX3_push (Cond.code yX3_push cX3_push 3 none :: uG) { frames := 2, cells := ka τ - ka σ, slots := sl τ - sl σ, locals := 90 } (gPc (dC, dI) (tK kc) (wK ad kc sa va) Z [.ref (ad 0), .long a1] σ sz) (gQy (dC, dI) (tK kc) (wK ad kc) (va_A (wK ad kc sa va σ) sz) τ) (ka τ - ka σ) (sl τ - sl σ) (va_A (wK ad kc sa va σ) sz) :=
  gy_start (by decide) (Nat.le_of_ble_eq_true rfl) (fun p e s m below meth c ls S hr hk X hl => W.widen (Nat.zero_le _) (Nat.zero_le _) (w_X3_push (k0 := ka σ) (s0 := sl σ) S hr hk ⟨Nat.le_refl _, Nat.le_refl _⟩ ⟨Nat.le_refl _, Nat.le_refl _⟩ ⟨Nat.le_refl _, Nat.le_refl _⟩ X hl hg))
section MX3_makeRoom
variable {r : Unit} {τ : S5}
set_option maxHeartbeats 4000000 in
theorem m_X3_makeRoom_b40 {σ : S5}   (hg : f_X3_makeRoom_b40  σ = some (r, τ)) : ka σ ≤ ka τ ∧ sl σ ≤ sl τ := by
  have hm : ka σ ≤ ka σ ∧ sl σ ≤ sl σ := ⟨Nat.le_refl _, Nat.le_refl _⟩
  unfold f_X3_makeRoom_b40 at hg
  obtain ⟨-, rfl⟩ := fin_some hg
  exact hm
set_option maxHeartbeats 4000000 in
theorem m_X3_makeRoom {σ : S5} {a1 : Int32}  (hg : f_X3_makeRoom a1 σ = some (r, τ)) : ka σ ≤ ka τ ∧ sl σ ≤ sl τ := by
  have hm : ka σ ≤ ka σ ∧ sl σ ≤ sl σ := ⟨Nat.le_refl _, Nat.le_refl _⟩
  unfold f_X3_makeRoom at hg
  obtain ⟨hi12, hg⟩ := gd_some hg
  refine (Decidable.em (((gI σ 42) + (xA σ 6 a1)) ≤ (Int32.ofNat (gN σ 3)))).elim (fun c19 => ?_) (fun c19 => ?_)
  · have hg := (if_pos c19).symm.trans hg
    exact ⟨Nat.le_trans hm.1 (m_X3_makeRoom_b40 hg).1, Nat.le_trans hm.2 (m_X3_makeRoom_b40 hg).2⟩
  · have hg := (if_neg c19).symm.trans hg
    obtain ⟨hg1, hg⟩ := gle_some hg
    obtain ⟨hg2, hg⟩ := gle_some hg
    have hk1 : ka (pN (grB σ 13 (gN σ 3)) 3 (2 * (gN σ 3))) = (gN σ 1) / 512 + 2 * (gN σ 3) / 512 ∧ sl (pN (grB σ 13 (gN σ 3)) 3 (2 * (gN σ 3))) = 2 * (gN σ 1) + 2 * (2 * (gN σ 3)) := ⟨rfl, rfl⟩
    have hk2 : ka σ = gN σ 1 / 512 + gN σ 3 / 512 ∧ sl σ = 2 * gN σ 1 + 2 * gN σ 3 := ⟨rfl, rfl⟩
    have hm : ka σ ≤ ka (pN (grB σ 13 (gN σ 3)) 3 (2 * (gN σ 3))) ∧ sl σ ≤ sl (pN (grB σ 13 (gN σ 3)) 3 (2 * (gN σ 3))) := by omega
    exact ⟨Nat.le_trans hm.1 (m_X3_makeRoom_b40 hg).1, Nat.le_trans hm.2 (m_X3_makeRoom_b40 hg).2⟩
variable {p : Program} {l : Launch} {e : Env} {R : Room} {s : State} {m : MethodId} {args : Array Value} {below : List Frame} {meth : Method} {c : Code} {dC : Nat → ClassId} {dI : Nat → Nat → Nat} {Z : ZZ} {A : Nat → Prop} {ad : Nat → Nat} {kc : Nat → ClassId} {k0 s0 : Nat}
set_option maxHeartbeats 4000000 in
set_option maxRecDepth 100000 in
theorem w_X3_makeRoom_b40 {sa va : Nat} {σ : S5}  {H : Heap} {locs : List Loc} {ls : Array Slot} (S : CallFix p m c cX3_makeRoom 2 s args uG RX3) (hr : meth.sig.returnType = none) (hk : meth.locks = false) (hR : 2 ≤ R.frames ∧ 90 ≤ R.locals) (hRc : ka τ - k0 ≤ R.cells ∧ sl τ - s0 ≤ R.slots)
    (hc : k0 ≤ ka σ ∧ s0 ≤ sl σ) (X : gX (dC, dI) (tK kc) (wK ad kc sa va) Z A s σ H locs) (hl : lv_has ls 2 []) (hg : f_X3_makeRoom_b40  σ = some (r, τ)) : W p l e R s m args below meth c H locs (ka σ - k0) (sl σ - s0) (MQ below (gQy (dC, dI) (tK kc) (wK ad kc) A τ) args s (ka τ - k0) (sl τ - s0) A) (F0 m 40 ls []) := by
  have hx := S.1
  have hb := S.2.1
  have hown := S.2.2.2.1
  have hu := S.2.2.2.2
  have hn := m_X3_makeRoom_b40 hg
  have hm : ka σ = ka σ ∧ sl σ = sl σ := ⟨rfl, rfl⟩
  unfold f_X3_makeRoom_b40 at hg
  obtain ⟨-, rfl⟩ := fin_some hg
  refine W.widen (k := ka σ - k0) (n := sl σ - s0) (show ka σ - k0 ≤ ka σ - k0 by omega) (show sl σ - s0 ≤ sl σ - s0 by omega) ?_
  exact gr_y S hr hk X dX3_makeRoom_40
set_option maxHeartbeats 4000000 in
set_option maxRecDepth 100000 in
theorem w_X3_makeRoom {sa va : Nat} {σ : S5} {a1 : Int32} {H : Heap} {locs : List Loc} {ls : Array Slot} (S : CallFix p m c cX3_makeRoom 2 s args uG RX3) (hr : meth.sig.returnType = none) (hk : meth.locks = false) (hR : 2 ≤ R.frames ∧ 90 ≤ R.locals) (hRc : ka τ - k0 ≤ R.cells ∧ sl τ - s0 ≤ R.slots)
    (hc : k0 ≤ ka σ ∧ s0 ≤ sl σ) (X : gX (dC, dI) (tK kc) (wK ad kc sa va) Z A s σ H locs) (hl : lv_has ls 2 [(0, .ref (ad 0)), (1, .int a1)]) (hg : f_X3_makeRoom a1 σ = some (r, τ)) : W p l e R s m args below meth c H locs (ka σ - k0) (sl σ - s0) (MQ below (gQy (dC, dI) (tK kc) (wK ad kc) A τ) args s (ka τ - k0) (sl τ - s0) A) (F0 m 0 ls []) := by
  have hx := S.1
  have hb := S.2.1
  have hown := S.2.2.2.1
  have hu := S.2.2.2.2
  have hn := m_X3_makeRoom hg
  have hm : ka σ = ka σ ∧ sl σ = sl σ := ⟨rfl, rfl⟩
  unfold f_X3_makeRoom at hg
  refine lv_aload_n hx hb dX3_makeRoom_0 rfl (lv_at hl 0 rfl) ?_
  refine wkgI_42 (v := (gI σ 42)) S X mG_674 rfl dX3_makeRoom_1 ?_
  refine lv_aload_n hx hb dX3_makeRoom_4 rfl (lv_at hl 0 rfl) ?_
  refine wkgR_0_1 S X mG_661 dX3_makeRoom_5 ?_
  refine wkgR_2_10 S X mG_320 dX3_makeRoom_8 ?_
  refine lv_iload_n hx hb dX3_makeRoom_11 rfl (lv_at hl 1 rfl) ?_
  obtain ⟨hi12, hg⟩ := gd_some hg
  refine wklA_6 (v := (xA σ 6 a1)) S X hi12 rfl dX3_makeRoom_12 ?_
  refine lv_iadd hx hb dX3_makeRoom_13 ?_
  refine lv_aload_n hx hb dX3_makeRoom_14 rfl (lv_at hl 0 rfl) ?_
  refine wkgR_0_9 S X mG_672 dX3_makeRoom_15 ?_
  refine wknB_13 S X dX3_makeRoom_18 ?_
  refine lv_icmp_le (tgt := 40) hx hb dX3_makeRoom_19 (by decide) (fun c19 => ?_) (fun c19 => ?_)
  · have hg := (if_pos c19).symm.trans hg
    refine W.widen (k := ka σ - k0) (n := sl σ - s0) (show ka σ - k0 ≤ ka σ - k0 by omega) (show sl σ - s0 ≤ sl σ - s0 by omega) ?_
    exact w_X3_makeRoom_b40 S hr hk hR hRc (show k0 ≤ ka σ ∧ s0 ≤ sl σ from (by omega : k0 ≤ ka σ ∧ s0 ≤ sl σ)) X (lv_sub hl [] rfl) hg
  · have hg := (if_neg c19).symm.trans hg
    refine lv_aload_n hx hb dX3_makeRoom_22 rfl (lv_at hl 0 rfl) ?_
    refine lv_aload_n hx hb dX3_makeRoom_23 rfl (lv_at hl 0 rfl) ?_
    refine wkgR_0_9 S X mG_672 dX3_makeRoom_24 ?_
    refine lv_aload_n hx hb dX3_makeRoom_27 rfl (lv_at hl 0 rfl) ?_
    refine wkgR_0_9 S X mG_672 dX3_makeRoom_28 ?_
    refine wknB_13 S X dX3_makeRoom_31 ?_
    refine lv_iconst (v := 2) hx hb dX3_makeRoom_32 (by decide) ?_
    refine lv_imul hx hb dX3_makeRoom_33 ?_
    obtain ⟨hg1, hg⟩ := gle_some hg
    obtain ⟨hg2, hg⟩ := gle_some hg
    have hk1 : ka (pN (grB σ 13 (gN σ 3)) 3 (2 * (gN σ 3))) = (gN σ 1) / 512 + 2 * (gN σ 3) / 512 ∧ sl (pN (grB σ 13 (gN σ 3)) 3 (2 * (gN σ 3))) = 2 * (gN σ 1) + 2 * (2 * (gN σ 3)) := ⟨rfl, rfl⟩
    have hk2 : ka σ = gN σ 1 / 512 + gN σ 3 / 512 ∧ sl σ = 2 * gN σ 1 + 2 * gN σ 3 := ⟨rfl, rfl⟩
    have hn2 := m_X3_makeRoom_b40 hg
    have hn2 : ka (pN (grB σ 13 (gN σ 3)) 3 (2 * (gN σ 3))) ≤ ka τ ∧ sl (pN (grB σ 13 (gN σ 3)) 3 (2 * (gN σ 3))) ≤ sl τ := hn2
    refine gw_variables S X hg1 hg2 mG_1818 mG_672 dX3_makeRoom_34 dX3_makeRoom_37 hl.1 ⟨by omega, by omega⟩ ⟨by omega, by omega⟩ (fun va H locs X => ?_)
    refine W.widen (k := ka (pN (grB σ 13 (gN σ 3)) 3 (2 * (gN σ 3))) - k0) (n := sl (pN (grB σ 13 (gN σ 3)) 3 (2 * (gN σ 3))) - s0) (by omega) (by omega) ?_
    exact w_X3_makeRoom_b40 S hr hk hR hRc (show k0 ≤ ka (pN (grB σ 13 (gN σ 3)) 3 (2 * (gN σ 3))) ∧ s0 ≤ sl (pN (grB σ 13 (gN σ 3)) 3 (2 * (gN σ 3))) by omega) X (lv_sub hl [] rfl) hg
end MX3_makeRoom
set_option maxRecDepth 100000 in
theorem k2_X3_makeRoom (l : Launch) (dC : Nat → ClassId) (dI : Nat → Nat → Nat) {Z : ZZ} (ad : Nat → Nat) (kc : Nat → ClassId) (sa va : Nat) {σ τ : S5} {a1 : Int32} {r : Unit} (hg : f_X3_makeRoom a1 σ = some (r, τ)) (sz : Nat) : Met l yX3_makeRoom (Cond.code yX3_makeRoom cX3_makeRoom 2 none :: uG) { frames := 2, cells := ka τ - ka σ, slots := sl τ - sl σ, locals := 90 } (gPc (dC, dI) (tK kc) (wK ad kc sa va) Z [.ref (ad 0), .int a1] σ sz) (gQy (dC, dI) (tK kc) (wK ad kc) (va_A (wK ad kc sa va σ) sz) τ) (ka τ - ka σ) (sl τ - sl σ) (va_A (wK ad kc sa va σ) sz) :=
  gy_start (by decide) (Nat.le_of_ble_eq_true rfl) (fun p e s m below meth c ls S hr hk X hl => W.widen (Nat.zero_le _) (Nat.zero_le _) (w_X3_makeRoom (k0 := ka σ) (s0 := sl σ) S hr hk ⟨Nat.le_refl _, Nat.le_refl _⟩ ⟨Nat.le_refl _, Nat.le_refl _⟩ ⟨Nat.le_refl _, Nat.le_refl _⟩ X hl hg))
section MX3_openVariables
variable {r : Unit} {τ : S5}
set_option maxHeartbeats 4000000 in
theorem m_X3_openVariables_b22 {σ : S5} {v1 : Int32}  (hg : f_X3_openVariables_b22 v1 σ = some (r, τ)) : ka σ ≤ ka τ ∧ sl σ ≤ sl τ := by
  have hm : ka σ ≤ ka σ ∧ sl σ ≤ sl σ := ⟨Nat.le_refl _, Nat.le_refl _⟩
  unfold f_X3_openVariables_b22 at hg
  obtain ⟨hi43, hg⟩ := gd_some hg
  obtain ⟨-, rfl⟩ := fin_some hg
  exact hm
set_option maxHeartbeats 4000000 in
theorem m_X3_openVariables_b17 {σ : S5} {v1 : Int32}  (hg : f_X3_openVariables_b17 v1 σ = some (r, τ)) : ka σ ≤ ka τ ∧ sl σ ≤ sl τ := by
  have hm : ka σ ≤ ka σ ∧ sl σ ≤ sl σ := ⟨Nat.le_refl _, Nat.le_refl _⟩
  unfold f_X3_openVariables_b17 at hg
  obtain ⟨r19, τ19, hq19, hg⟩ := bd_some hg
  obtain ⟨ha19, hg⟩ := gle_some hg
  obtain ⟨hz19, hg⟩ := gle_some hg
  have hk19 : ka σ ≤ ka τ19 ∧ sl σ ≤ sl τ19 := ka_mono ha19 hz19
  have hm : ka σ ≤ ka τ19 ∧ sl σ ≤ sl τ19 := by omega
  exact ⟨Nat.le_trans hm.1 (m_X3_openVariables_b22 hg).1, Nat.le_trans hm.2 (m_X3_openVariables_b22 hg).2⟩
set_option maxHeartbeats 4000000 in
theorem m_X3_openVariables {σ : S5} {a1 : Int32}  (hg : f_X3_openVariables a1 σ = some (r, τ)) : ka σ ≤ ka τ ∧ sl σ ≤ sl τ := by
  have hm : ka σ ≤ ka σ ∧ sl σ ≤ sl σ := ⟨Nat.le_refl _, Nat.le_refl _⟩
  unfold f_X3_openVariables at hg
  obtain ⟨r11, τ11, hq11, hg⟩ := bd_some hg
  obtain ⟨ha11, hg⟩ := gq_some hg
  obtain ⟨hz11, hg⟩ := gq_some hg
  have hk11 : ka τ11 = ka σ ∧ sl τ11 = sl σ := ka_same ha11 hz11
  have hm : ka σ ≤ ka τ11 ∧ sl σ ≤ sl τ11 := by omega
  obtain ⟨r14, τ14, hq14, hg⟩ := bd_some hg
  obtain ⟨ha14, hg⟩ := gle_some hg
  obtain ⟨hz14, hg⟩ := gle_some hg
  have hk14 : ka τ11 ≤ ka τ14 ∧ sl τ11 ≤ sl τ14 := ka_mono ha14 hz14
  have hm : ka σ ≤ ka τ14 ∧ sl σ ≤ sl τ14 := by omega
  exact ⟨Nat.le_trans hm.1 (m_X3_openVariables_b17 hg).1, Nat.le_trans hm.2 (m_X3_openVariables_b17 hg).2⟩
variable {p : Program} {l : Launch} {e : Env} {R : Room} {s : State} {m : MethodId} {args : Array Value} {below : List Frame} {meth : Method} {c : Code} {dC : Nat → ClassId} {dI : Nat → Nat → Nat} {Z : ZZ} {A : Nat → Prop} {ad : Nat → Nat} {kc : Nat → ClassId} {k0 s0 : Nat}
set_option maxHeartbeats 4000000 in
set_option maxRecDepth 100000 in
theorem w_X3_openVariables_b22 {sa va : Nat} {σ : S5} {v1 : Int32} {H : Heap} {locs : List Loc} {ls : Array Slot} (S : CallFix p m c cX3_openVariables 2 s args uG RX3) (hr : meth.sig.returnType = none) (hk : meth.locks = false) (hR : 3 ≤ R.frames ∧ 112 ≤ R.locals) (hRc : ka τ - k0 ≤ R.cells ∧ sl τ - s0 ≤ R.slots)
    (hc : k0 ≤ ka σ ∧ s0 ≤ sl σ) (X : gX (dC, dI) (tK kc) (wK ad kc sa va) Z A s σ H locs) (hl : lv_has ls 2 [(0, .ref (ad 0)), (1, .int v1)]) (hg : f_X3_openVariables_b22 v1 σ = some (r, τ)) : W p l e R s m args below meth c H locs (ka σ - k0) (sl σ - s0) (MQ below (gQy (dC, dI) (tK kc) (wK ad kc) A τ) args s (ka τ - k0) (sl τ - s0) A) (F0 m 22 ls []) := by
  have hx := S.1
  have hb := S.2.1
  have hown := S.2.2.2.1
  have hu := S.2.2.2.2
  have hn := m_X3_openVariables_b22 hg
  have hm : ka σ = ka σ ∧ sl σ = sl σ := ⟨rfl, rfl⟩
  unfold f_X3_openVariables_b22 at hg
  refine lv_aload_n hx hb dX3_openVariables_22 rfl (lv_at hl 0 rfl) ?_
  refine lv_aload_n hx hb dX3_openVariables_23 rfl (lv_at hl 0 rfl) ?_
  refine wkgI_42 (v := (gI σ 42)) S X mG_674 rfl dX3_openVariables_24 ?_
  refine wkpI_41 S X mG_673 dX3_openVariables_27 (fun H locs X => ?_)
  refine lv_aload_n hx hb dX3_openVariables_30 rfl (lv_at hl 0 rfl) ?_
  refine lv_dup hx hb dX3_openVariables_31 rfl ?_
  refine wkgI_42 (v := (gI σ 42)) S X mG_674 rfl dX3_openVariables_32 ?_
  refine lv_aload_n hx hb dX3_openVariables_35 rfl (lv_at hl 0 rfl) ?_
  refine wkgR_0_1 S X mG_661 dX3_openVariables_36 ?_
  refine wkgR_2_10 S X mG_320 dX3_openVariables_39 ?_
  refine lv_iload_n hx hb dX3_openVariables_42 rfl (lv_at hl 1 rfl) ?_
  obtain ⟨hi43, hg⟩ := gd_some hg
  refine wklA_6 (v := (xA σ 6 v1)) S X hi43 rfl dX3_openVariables_43 ?_
  refine lv_iadd hx hb dX3_openVariables_44 ?_
  refine wkpI_42 S X mG_674 dX3_openVariables_45 (fun H locs X => ?_)
  refine lv_aload_n hx hb dX3_openVariables_48 rfl (lv_at hl 0 rfl) ?_
  refine lv_iload_n hx hb dX3_openVariables_49 rfl (lv_at hl 1 rfl) ?_
  refine wkpI_43 S X mG_675 dX3_openVariables_50 (fun H locs X => ?_)
  obtain ⟨-, rfl⟩ := fin_some hg
  refine W.widen (k := ka σ - k0) (n := sl σ - s0) (show ka σ - k0 ≤ ka σ - k0 by omega) (show sl σ - s0 ≤ sl σ - s0 by omega) ?_
  exact gr_y S hr hk X dX3_openVariables_53
set_option maxHeartbeats 4000000 in
set_option maxRecDepth 100000 in
theorem w_X3_openVariables_b17 {sa va : Nat} {σ : S5} {v1 : Int32} {H : Heap} {locs : List Loc} {ls : Array Slot} (S : CallFix p m c cX3_openVariables 2 s args uG RX3) (hr : meth.sig.returnType = none) (hk : meth.locks = false) (hR : 3 ≤ R.frames ∧ 112 ≤ R.locals) (hRc : ka τ - k0 ≤ R.cells ∧ sl τ - s0 ≤ R.slots)
    (hc : k0 ≤ ka σ ∧ s0 ≤ sl σ) (X : gX (dC, dI) (tK kc) (wK ad kc sa va) Z A s σ H locs) (hl : lv_has ls 2 [(0, .ref (ad 0)), (1, .int v1)]) (hg : f_X3_openVariables_b17 v1 σ = some (r, τ)) : W p l e R s m args below meth c H locs (ka σ - k0) (sl σ - s0) (MQ below (gQy (dC, dI) (tK kc) (wK ad kc) A τ) args s (ka τ - k0) (sl τ - s0) A) (F0 m 17 ls []) := by
  have hx := S.1
  have hb := S.2.1
  have hown := S.2.2.2.1
  have hu := S.2.2.2.2
  have hn := m_X3_openVariables_b17 hg
  have hm : ka σ = ka σ ∧ sl σ = sl σ := ⟨rfl, rfl⟩
  unfold f_X3_openVariables_b17 at hg
  refine lv_aload_n hx hb dX3_openVariables_17 rfl (lv_at hl 0 rfl) ?_
  refine lv_iload_n hx hb dX3_openVariables_18 rfl (lv_at hl 1 rfl) ?_
  obtain ⟨r19, τ19, hq19, hg⟩ := bd_some hg
  obtain ⟨ha19, hg⟩ := gle_some hg
  obtain ⟨hz19, hg⟩ := gle_some hg
  have hk19 : ka σ ≤ ka τ19 ∧ sl σ ≤ sl τ19 := ka_mono ha19 hz19
  have hn2 : ka τ19 ≤ ka τ ∧ sl τ19 ≤ sl τ := m_X3_openVariables_b22 hg
  refine gcy_V (w := wK ad kc) (As := [.int v1]) (rest := []) (q0 := 0) (ci := 6) (mc := ka τ19 - ka σ) (ms := sl τ19 - sl σ) S X (k2_X3_makeRoom l dC dI ad kc sa va hq19 H.size) cw_X3_makeRoom mG_1867 rfl rfl rfl rfl rfl hl.1 (Nat.le_of_ble_eq_true rfl) dX3_openVariables_19 ⟨by omega, by omega⟩ ⟨by omega, by omega⟩ (fun sa va H locs X => ?_)
  refine W.widen (k := ka τ19 - k0) (n := sl τ19 - s0) (by omega) (by omega) ?_
  exact w_X3_openVariables_b22 S hr hk hR hRc (show k0 ≤ ka τ19 ∧ s0 ≤ sl τ19 from (by omega : k0 ≤ ka τ19 ∧ s0 ≤ sl τ19)) X (lv_sub hl [0, 1] rfl) hg
set_option maxHeartbeats 4000000 in
set_option maxRecDepth 100000 in
theorem w_X3_openVariables {sa va : Nat} {σ : S5} {a1 : Int32} {H : Heap} {locs : List Loc} {ls : Array Slot} (S : CallFix p m c cX3_openVariables 2 s args uG RX3) (hr : meth.sig.returnType = none) (hk : meth.locks = false) (hR : 3 ≤ R.frames ∧ 112 ≤ R.locals) (hRc : ka τ - k0 ≤ R.cells ∧ sl τ - s0 ≤ R.slots)
    (hc : k0 ≤ ka σ ∧ s0 ≤ sl σ) (X : gX (dC, dI) (tK kc) (wK ad kc sa va) Z A s σ H locs) (hl : lv_has ls 2 [(0, .ref (ad 0)), (1, .int a1)]) (hg : f_X3_openVariables a1 σ = some (r, τ)) : W p l e R s m args below meth c H locs (ka σ - k0) (sl σ - s0) (MQ below (gQy (dC, dI) (tK kc) (wK ad kc) A τ) args s (ka τ - k0) (sl τ - s0) A) (F0 m 0 ls []) := by
  have hx := S.1
  have hb := S.2.1
  have hown := S.2.2.2.1
  have hu := S.2.2.2.2
  have hn := m_X3_openVariables hg
  have hm : ka σ = ka σ ∧ sl σ = sl σ := ⟨rfl, rfl⟩
  unfold f_X3_openVariables at hg
  refine lv_aload_n hx hb dX3_openVariables_0 rfl (lv_at hl 0 rfl) ?_
  refine lv_bipush (v := 8) hx hb dX3_openVariables_1 (by decide) ?_
  refine lv_aload_n hx hb dX3_openVariables_3 rfl (lv_at hl 0 rfl) ?_
  refine wkgI_41 (v := (gI σ 41)) S X mG_673 rfl dX3_openVariables_4 ?_
  refine lv_aload_n hx hb dX3_openVariables_7 rfl (lv_at hl 0 rfl) ?_
  refine wkgI_43 (v := (gI σ 43)) S X mG_675 rfl dX3_openVariables_8 ?_
  obtain ⟨r11, τ11, hq11, hg⟩ := bd_some hg
  obtain ⟨ha11, hg⟩ := gq_some hg
  obtain ⟨hz11, hg⟩ := gq_some hg
  have hk11 : ka τ11 = ka σ ∧ sl τ11 = sl σ := ka_same ha11 hz11
  refine gck_Sl (As := [.int 8, .int (gI σ 41), .int (gI σ 43)]) (rest := [.ref (ad 0)]) S X (k2_X3_frame l dC dI ad kc sa va hq11 H.size) cw_X3_frame mG_1811 rfl rfl hl.1 (Nat.le_of_ble_eq_true rfl) dX3_openVariables_11 ⟨by omega, by omega⟩ ⟨by omega, by omega⟩ (fun H locs X => ?_)
  have hm : ka τ11 = ka σ ∧ sl τ11 = sl σ := by omega
  obtain ⟨r14, τ14, hq14, hg⟩ := bd_some hg
  obtain ⟨ha14, hg⟩ := gle_some hg
  obtain ⟨hz14, hg⟩ := gle_some hg
  have hk14 : ka τ11 ≤ ka τ14 ∧ sl τ11 ≤ sl τ14 := ka_mono ha14 hz14
  have hn2 : ka τ14 ≤ ka τ ∧ sl τ14 ≤ sl τ := m_X3_openVariables_b17 hg
  refine gcy_V (w := wK ad kc) (As := [.long r11]) (rest := []) (q0 := 0) (ci := 6) (mc := ka τ14 - ka τ11) (ms := sl τ14 - sl τ11) S X (k2_X3_push l dC dI ad kc sa va hq14 H.size) cw_X3_push mG_1814 rfl rfl rfl rfl rfl hl.1 (Nat.le_of_ble_eq_true rfl) dX3_openVariables_14 ⟨by omega, by omega⟩ ⟨by omega, by omega⟩ (fun sa va H locs X => ?_)
  refine W.widen (k := ka τ14 - k0) (n := sl τ14 - s0) (by omega) (by omega) ?_
  exact w_X3_openVariables_b17 S hr hk hR hRc (show k0 ≤ ka τ14 ∧ s0 ≤ sl τ14 from (by omega : k0 ≤ ka τ14 ∧ s0 ≤ sl τ14)) X (lv_sub hl [0, 1] rfl) hg
end MX3_openVariables
set_option maxRecDepth 100000 in
theorem k2_X3_openVariables (l : Launch) (dC : Nat → ClassId) (dI : Nat → Nat → Nat) {Z : ZZ} (ad : Nat → Nat) (kc : Nat → ClassId) (sa va : Nat) {σ τ : S5} {a1 : Int32} {r : Unit} (hg : f_X3_openVariables a1 σ = some (r, τ)) (sz : Nat) : Met l yX3_openVariables (Cond.code yX3_openVariables cX3_openVariables 2 none :: uG) { frames := 3, cells := ka τ - ka σ, slots := sl τ - sl σ, locals := 112 } (gPc (dC, dI) (tK kc) (wK ad kc sa va) Z [.ref (ad 0), .int a1] σ sz) (gQy (dC, dI) (tK kc) (wK ad kc) (va_A (wK ad kc sa va σ) sz) τ) (ka τ - ka σ) (sl τ - sl σ) (va_A (wK ad kc sa va σ) sz) :=
  gy_start (by decide) (Nat.le_of_ble_eq_true rfl) (fun p e s m below meth c ls S hr hk X hl => W.widen (Nat.zero_le _) (Nat.zero_le _) (w_X3_openVariables (k0 := ka σ) (s0 := sl σ) S hr hk ⟨Nat.le_refl _, Nat.le_refl _⟩ ⟨Nat.le_refl _, Nat.le_refl _⟩ ⟨Nat.le_refl _, Nat.le_refl _⟩ X hl hg))
section MX3_enter
variable {r : Unit} {τ : S5}
set_option maxHeartbeats 4000000 in
theorem m_X3_enter_b100 {σ : S5} {v3 : Int32} {v4 : Int32}  (hg : f_X3_enter_b100 v3 v4 σ = some (r, τ)) : ka σ ≤ ka τ ∧ sl σ ≤ sl τ := by
  have hm : ka σ ≤ ka σ ∧ sl σ ≤ sl σ := ⟨Nat.le_refl _, Nat.le_refl _⟩
  unfold f_X3_enter_b100 at hg
  obtain ⟨hi113, hg⟩ := gd_some hg
  obtain ⟨r114, τ114, hq114, hg⟩ := bd_some hg
  obtain ⟨ha114, hg⟩ := gq_some hg
  obtain ⟨hz114, hg⟩ := gq_some hg
  have hk114 : ka τ114 = ka σ ∧ sl τ114 = sl σ := ka_same ha114 hz114
  have hm : ka σ ≤ ka τ114 ∧ sl σ ≤ sl τ114 := by omega
  obtain ⟨r122, τ122, hq122, hg⟩ := bd_some hg
  obtain ⟨ha122, hg⟩ := gq_some hg
  obtain ⟨hz122, hg⟩ := gq_some hg
  have hk122 : ka τ122 = ka τ114 ∧ sl τ122 = sl τ114 := ka_same ha122 hz122
  have hm : ka σ ≤ ka τ122 ∧ sl σ ≤ sl τ122 := by omega
  obtain ⟨r128, τ128, hq128, hg⟩ := bd_some hg
  obtain ⟨ha128, hg⟩ := gq_some hg
  obtain ⟨hz128, hg⟩ := gq_some hg
  have hk128 : ka τ128 = ka τ122 ∧ sl τ128 = sl τ122 := ka_same ha128 hz128
  have hm : ka σ ≤ ka τ128 ∧ sl σ ≤ sl τ128 := by omega
  obtain ⟨-, rfl⟩ := fin_some hg
  exact hm
set_option maxHeartbeats 4000000 in
theorem m_X3_enter_b78 {σ : S5} {v3 : Int32}  (hg : f_X3_enter_b78 v3 σ = some (r, τ)) : ka σ ≤ ka τ ∧ sl σ ≤ sl τ := by
  have hm : ka σ ≤ ka σ ∧ sl σ ≤ sl σ := ⟨Nat.le_refl _, Nat.le_refl _⟩
  unfold f_X3_enter_b78 at hg
  obtain ⟨r83, τ83, hq83, hg⟩ := bd_some hg
  obtain ⟨ha83, hg⟩ := gq_some hg
  obtain ⟨hz83, hg⟩ := gq_some hg
  have hk83 : ka τ83 = ka σ ∧ sl τ83 = sl σ := ka_same ha83 hz83
  have hm : ka σ ≤ ka τ83 ∧ sl σ ≤ sl τ83 := by omega
  obtain ⟨r94, τ94, hq94, hg⟩ := bd_some hg
  obtain ⟨ha94, hg⟩ := gq_some hg
  obtain ⟨hz94, hg⟩ := gq_some hg
  have hk94 : ka τ94 = ka τ83 ∧ sl τ94 = sl τ83 := ka_same ha94 hz94
  have hm : ka σ ≤ ka τ94 ∧ sl σ ≤ sl τ94 := by omega
  obtain ⟨r97, τ97, hq97, hg⟩ := bd_some hg
  obtain ⟨ha97, hg⟩ := gle_some hg
  obtain ⟨hz97, hg⟩ := gle_some hg
  have hk97 : ka τ94 ≤ ka τ97 ∧ sl τ94 ≤ sl τ97 := ka_mono ha97 hz97
  have hm : ka σ ≤ ka τ97 ∧ sl σ ≤ sl τ97 := by omega
  exact ⟨Nat.le_trans hm.1 (m_X3_enter_b100 hg).1, Nat.le_trans hm.2 (m_X3_enter_b100 hg).2⟩
set_option maxHeartbeats 4000000 in
theorem m_X3_enter {σ : S5} {a1 : Int64}  (hg : f_X3_enter a1 σ = some (r, τ)) : ka σ ≤ ka τ ∧ sl σ ≤ sl τ := by
  have hm : ka σ ≤ ka σ ∧ sl σ ≤ sl σ := ⟨Nat.le_refl _, Nat.le_refl _⟩
  unfold f_X3_enter at hg
  obtain ⟨r4, τ4, hq4, hg⟩ := bd_some hg
  obtain ⟨ha4, hg⟩ := gq_some hg
  obtain ⟨hz4, hg⟩ := gq_some hg
  have hk4 : ka τ4 = ka σ ∧ sl τ4 = sl σ := ka_same ha4 hz4
  have hm : ka σ ≤ ka τ4 ∧ sl σ ≤ sl τ4 := by omega
  refine (Decidable.em (r4 = 6)).elim (fun c9 => ?_) (fun c9 => ?_)
  · have hg := (if_pos c9).symm.trans hg
    obtain ⟨r25, τ25, hq25, hg⟩ := bd_some hg
    obtain ⟨ha25, hg⟩ := gq_some hg
    obtain ⟨hz25, hg⟩ := gq_some hg
    have hk25 : ka τ25 = ka τ4 ∧ sl τ25 = sl τ4 := ka_same ha25 hz25
    have hm : ka σ ≤ ka τ25 ∧ sl σ ≤ sl τ25 := by omega
    refine (Decidable.em (r25 = 0)).elim (fun c28 => ?_) (fun c28 => ?_)
    · have hg := (if_pos c28).symm.trans hg
      obtain ⟨r45, τ45, hq45, hg⟩ := bd_some hg
      obtain ⟨ha45, hg⟩ := gq_some hg
      obtain ⟨hz45, hg⟩ := gq_some hg
      have hk45 : ka τ45 = ka τ25 ∧ sl τ45 = sl τ25 := ka_same ha45 hz45
      have hm : ka σ ≤ ka τ45 ∧ sl σ ≤ sl τ45 := by omega
      refine (Decidable.em (r45 = 0)).symm.elim (fun c48 => ?_) (fun c48 => ?_)
      · have hg := (if_neg c48).symm.trans hg
        obtain ⟨r72, τ72, hq72, hg⟩ := bd_some hg
        obtain ⟨ha72, hg⟩ := gq_some hg
        obtain ⟨hz72, hg⟩ := gq_some hg
        have hk72 : ka τ72 = ka τ45 ∧ sl τ72 = sl τ45 := ka_same ha72 hz72
        have hm : ka σ ≤ ka τ72 ∧ sl σ ≤ sl τ72 := by omega
        obtain ⟨r75, τ75, hq75, hg⟩ := bd_some hg
        obtain ⟨ha75, hg⟩ := gle_some hg
        obtain ⟨hz75, hg⟩ := gle_some hg
        have hk75 : ka τ72 ≤ ka τ75 ∧ sl τ72 ≤ sl τ75 := ka_mono ha75 hz75
        have hm : ka σ ≤ ka τ75 ∧ sl σ ≤ sl τ75 := by omega
        exact ⟨Nat.le_trans hm.1 (m_X3_enter_b78 hg).1, Nat.le_trans hm.2 (m_X3_enter_b78 hg).2⟩
      · have hg := (if_pos c48).symm.trans hg
        obtain ⟨hi60, hg⟩ := gd_some hg
        obtain ⟨r61, τ61, hq61, hg⟩ := bd_some hg
        obtain ⟨ha61, hg⟩ := gq_some hg
        obtain ⟨hz61, hg⟩ := gq_some hg
        have hk61 : ka τ61 = ka τ45 ∧ sl τ61 = sl τ45 := ka_same ha61 hz61
        have hm : ka σ ≤ ka τ61 ∧ sl σ ≤ sl τ61 := by omega
        obtain ⟨-, rfl⟩ := fin_some hg
        exact hm
    · have hg := (if_neg c28).symm.trans hg
      obtain ⟨r34, τ34, hq34, hg⟩ := bd_some hg
      obtain ⟨ha34, hg⟩ := gq_some hg
      obtain ⟨hz34, hg⟩ := gq_some hg
      have hk34 : ka τ34 = ka τ25 ∧ sl τ34 = sl τ25 := ka_same ha34 hz34
      have hm : ka σ ≤ ka τ34 ∧ sl σ ≤ sl τ34 := by omega
      obtain ⟨-, rfl⟩ := fin_some hg
      exact hm
  · have hg := (if_neg c9).symm.trans hg
    obtain ⟨r14, τ14, hq14, hg⟩ := bd_some hg
    obtain ⟨ha14, hg⟩ := gq_some hg
    obtain ⟨hz14, hg⟩ := gq_some hg
    have hk14 : ka τ14 = ka τ4 ∧ sl τ14 = sl τ4 := ka_same ha14 hz14
    have hm : ka σ ≤ ka τ14 ∧ sl σ ≤ sl τ14 := by omega
    obtain ⟨-, rfl⟩ := fin_some hg
    exact hm
variable {p : Program} {l : Launch} {e : Env} {R : Room} {s : State} {m : MethodId} {args : Array Value} {below : List Frame} {meth : Method} {c : Code} {dC : Nat → ClassId} {dI : Nat → Nat → Nat} {Z : ZZ} {A : Nat → Prop} {ad : Nat → Nat} {kc : Nat → ClassId} {k0 s0 : Nat}
set_option maxHeartbeats 4000000 in
set_option maxRecDepth 100000 in
theorem w_X3_enter_b100 {sa va : Nat} {σ : S5} {v3 : Int32} {v4 : Int32} {H : Heap} {locs : List Loc} {ls : Array Slot} (S : CallFix p m c cX3_enter 5 s args uG RX3) (hr : meth.sig.returnType = none) (hk : meth.locks = false) (hR : 4 ≤ R.frames ∧ 133 ≤ R.locals) (hRc : ka τ - k0 ≤ R.cells ∧ sl τ - s0 ≤ R.slots)
    (hc : k0 ≤ ka σ ∧ s0 ≤ sl σ) (X : gX (dC, dI) (tK kc) (wK ad kc sa va) Z A s σ H locs) (hl : lv_has ls 5 [(0, .ref (ad 0)), (3, .int v3), (4, .int v4)]) (hg : f_X3_enter_b100 v3 v4 σ = some (r, τ)) : W p l e R s m args below meth c H locs (ka σ - k0) (sl σ - s0) (MQ below (gQy (dC, dI) (tK kc) (wK ad kc) A τ) args s (ka τ - k0) (sl τ - s0) A) (F0 m 100 ls []) := by
  have hx := S.1
  have hb := S.2.1
  have hown := S.2.2.2.1
  have hu := S.2.2.2.2
  have hn := m_X3_enter_b100 hg
  have hm : ka σ = ka σ ∧ sl σ = sl σ := ⟨rfl, rfl⟩
  unfold f_X3_enter_b100 at hg
  refine lv_aload_n hx hb dX3_enter_100 rfl (lv_at hl 0 rfl) ?_
  refine lv_iload_n hx hb dX3_enter_101 rfl (lv_at hl 1 rfl) ?_
  refine lv_iconst (v := 1) hx hb dX3_enter_102 (by decide) ?_
  refine lv_iadd hx hb dX3_enter_103 ?_
  refine lv_aload_n hx hb dX3_enter_104 rfl (lv_at hl 0 rfl) ?_
  refine wkgR_0_0 S X mG_660 dX3_enter_105 ?_
  refine wkgR_3_7 S X mG_412 dX3_enter_108 ?_
  refine lv_iload hx hb dX3_enter_111 (lv_at hl 2 rfl) ?_
  obtain ⟨hi113, hg⟩ := gd_some hg
  refine wklB_2 (v := (xB σ 2 v4)) S X hi113 rfl dX3_enter_113 ?_
  obtain ⟨r114, τ114, hq114, hg⟩ := bd_some hg
  obtain ⟨ha114, hg⟩ := gq_some hg
  obtain ⟨hz114, hg⟩ := gq_some hg
  have hk114 : ka τ114 = ka σ ∧ sl τ114 = sl σ := ka_same ha114 hz114
  refine gck_Vv (As := [.int (v3 + 1), .long (xB σ 2 v4)]) (rest := []) (q0 := 0) (ci := 6) S X (k2_X3_loadVariables l dC dI ad kc sa va hq114 H.size) cw_X3_loadVariables mG_1871 rfl rfl rfl rfl rfl hl.1 (Nat.le_of_ble_eq_true rfl) dX3_enter_114 ⟨by omega, by omega⟩ ⟨by omega, by omega⟩ (fun H locs X => ?_)
  have hm : ka τ114 = ka σ ∧ sl τ114 = sl σ := by omega
  refine lv_aload_n hx hb dX3_enter_117 rfl (lv_at hl 0 rfl) ?_
  refine wkgR_0_6 S X mG_669 dX3_enter_118 ?_
  refine lv_iload_n hx hb dX3_enter_121 rfl (lv_at hl 1 rfl) ?_
  obtain ⟨r122, τ122, hq122, hg⟩ := bd_some hg
  obtain ⟨ha122, hg⟩ := gq_some hg
  obtain ⟨hz122, hg⟩ := gq_some hg
  have hk122 : ka τ122 = ka τ114 ∧ sl τ122 = sl τ114 := ka_same ha122 hz122
  refine gck_Vv (As := [.int v3]) (rest := []) (q0 := 1) (ci := 3) S X (k2_X0_blacken l dC dI ad kc sa va hq122 H.size) cw_X0_blacken mG_1875 rfl rfl rfl rfl rfl hl.1 (Nat.le_of_ble_eq_true rfl) dX3_enter_122 ⟨by omega, by omega⟩ ⟨by omega, by omega⟩ (fun H locs X => ?_)
  have hm : ka τ122 = ka σ ∧ sl τ122 = sl σ := by omega
  refine lv_aload_n hx hb dX3_enter_125 rfl (lv_at hl 0 rfl) ?_
  refine lv_iload hx hb dX3_enter_126 (lv_at hl 2 rfl) ?_
  obtain ⟨r128, τ128, hq128, hg⟩ := bd_some hg
  obtain ⟨ha128, hg⟩ := gq_some hg
  obtain ⟨hz128, hg⟩ := gq_some hg
  have hk128 : ka τ128 = ka τ122 ∧ sl τ128 = sl τ122 := ka_same ha128 hz128
  refine gck_Vv (As := [.int v4]) (rest := []) (q0 := 0) (ci := 6) S X (k2_X3_workOn l dC dI ad kc sa va hq128 H.size) cw_X3_workOn mG_1879 rfl rfl rfl rfl rfl hl.1 (Nat.le_of_ble_eq_true rfl) dX3_enter_128 ⟨by omega, by omega⟩ ⟨by omega, by omega⟩ (fun H locs X => ?_)
  have hm : ka τ128 = ka σ ∧ sl τ128 = sl σ := by omega
  obtain ⟨-, rfl⟩ := fin_some hg
  refine W.widen (k := ka τ128 - k0) (n := sl τ128 - s0) (show ka σ - k0 ≤ ka τ128 - k0 by omega) (show sl σ - s0 ≤ sl τ128 - s0 by omega) ?_
  exact gr_y S hr hk X dX3_enter_131
set_option maxHeartbeats 4000000 in
set_option maxRecDepth 100000 in
theorem w_X3_enter_b78 {sa va : Nat} {σ : S5} {v3 : Int32} {H : Heap} {locs : List Loc} {ls : Array Slot} (S : CallFix p m c cX3_enter 5 s args uG RX3) (hr : meth.sig.returnType = none) (hk : meth.locks = false) (hR : 4 ≤ R.frames ∧ 133 ≤ R.locals) (hRc : ka τ - k0 ≤ R.cells ∧ sl τ - s0 ≤ R.slots)
    (hc : k0 ≤ ka σ ∧ s0 ≤ sl σ) (X : gX (dC, dI) (tK kc) (wK ad kc sa va) Z A s σ H locs) (hl : lv_has ls 5 [(0, .ref (ad 0)), (3, .int v3)]) (hg : f_X3_enter_b78 v3 σ = some (r, τ)) : W p l e R s m args below meth c H locs (ka σ - k0) (sl σ - s0) (MQ below (gQy (dC, dI) (tK kc) (wK ad kc) A τ) args s (ka τ - k0) (sl τ - s0) A) (F0 m 78 ls []) := by
  have hx := S.1
  have hb := S.2.1
  have hown := S.2.2.2.1
  have hu := S.2.2.2.2
  have hn := m_X3_enter_b78 hg
  have hm : ka σ = ka σ ∧ sl σ = sl σ := ⟨rfl, rfl⟩
  unfold f_X3_enter_b78 at hg
  refine lv_aload_n hx hb dX3_enter_78 rfl (lv_at hl 0 rfl) ?_
  refine wkgR_0_6 S X mG_669 dX3_enter_79 ?_
  refine lv_iload_n hx hb dX3_enter_82 rfl (lv_at hl 1 rfl) ?_
  obtain ⟨r83, τ83, hq83, hg⟩ := bd_some hg
  obtain ⟨ha83, hg⟩ := gq_some hg
  obtain ⟨hz83, hg⟩ := gq_some hg
  have hk83 : ka τ83 = ka σ ∧ sl τ83 = sl σ := ka_same ha83 hz83
  refine gck_Vi (As := [.int v3]) (rest := []) (q0 := 1) (ci := 3) S X (k2_X0_nodeOf l dC dI ad kc sa va hq83 H.size) cw_X0_nodeOf mG_1854 rfl rfl rfl rfl rfl hl.1 (Nat.le_of_ble_eq_true rfl) dX3_enter_83 ⟨by omega, by omega⟩ ⟨by omega, by omega⟩ (fun H locs X => ?_)
  have hm : ka τ83 = ka σ ∧ sl τ83 = sl σ := by omega
  refine lv_istore (lv' := [(4, .int r83), (0, .ref (ad 0)), (3, .int v3)]) hx hb dX3_enter_86 hl (by decide) rfl (fun ls hl => ?_)
  refine lv_aload_n hx hb dX3_enter_88 rfl (lv_at hl 1 rfl) ?_
  refine lv_aload_n hx hb dX3_enter_89 rfl (lv_at hl 1 rfl) ?_
  refine wkgR_0_6 S X mG_669 dX3_enter_90 ?_
  refine lv_iload_n hx hb dX3_enter_93 rfl (lv_at hl 2 rfl) ?_
  obtain ⟨r94, τ94, hq94, hg⟩ := bd_some hg
  obtain ⟨ha94, hg⟩ := gq_some hg
  obtain ⟨hz94, hg⟩ := gq_some hg
  have hk94 : ka τ94 = ka τ83 ∧ sl τ94 = sl τ83 := ka_same ha94 hz94
  refine gck_Vi (As := [.int v3]) (rest := [.ref (ad 0)]) (q0 := 1) (ci := 3) S X (k2_X0_functionOf l dC dI ad kc sa va hq94 H.size) cw_X0_functionOf mG_1859 rfl rfl rfl rfl rfl hl.1 (Nat.le_of_ble_eq_true rfl) dX3_enter_94 ⟨by omega, by omega⟩ ⟨by omega, by omega⟩ (fun H locs X => ?_)
  have hm : ka τ94 = ka σ ∧ sl τ94 = sl σ := by omega
  obtain ⟨r97, τ97, hq97, hg⟩ := bd_some hg
  obtain ⟨ha97, hg⟩ := gle_some hg
  obtain ⟨hz97, hg⟩ := gle_some hg
  have hk97 : ka τ94 ≤ ka τ97 ∧ sl τ94 ≤ sl τ97 := ka_mono ha97 hz97
  have hn2 : ka τ97 ≤ ka τ ∧ sl τ97 ≤ sl τ := m_X3_enter_b100 hg
  refine gcy_V (w := wK ad kc) (As := [.int r94]) (rest := []) (q0 := 0) (ci := 6) (mc := ka τ97 - ka τ94) (ms := sl τ97 - sl τ94) S X (k2_X3_openVariables l dC dI ad kc sa va hq97 H.size) cw_X3_openVariables mG_1863 rfl rfl rfl rfl rfl hl.1 (Nat.le_of_ble_eq_true rfl) dX3_enter_97 ⟨by omega, by omega⟩ ⟨by omega, by omega⟩ (fun sa va H locs X => ?_)
  refine W.widen (k := ka τ97 - k0) (n := sl τ97 - s0) (by omega) (by omega) ?_
  exact w_X3_enter_b100 S hr hk hR hRc (show k0 ≤ ka τ97 ∧ s0 ≤ sl τ97 from (by omega : k0 ≤ ka τ97 ∧ s0 ≤ sl τ97)) X (lv_sub hl [1, 2, 0] rfl) hg
set_option maxHeartbeats 4000000 in
set_option maxRecDepth 100000 in
theorem w_X3_enter {sa va : Nat} {σ : S5} {a1 : Int64} {H : Heap} {locs : List Loc} {ls : Array Slot} (S : CallFix p m c cX3_enter 5 s args uG RX3) (hr : meth.sig.returnType = none) (hk : meth.locks = false) (hR : 4 ≤ R.frames ∧ 133 ≤ R.locals) (hRc : ka τ - k0 ≤ R.cells ∧ sl τ - s0 ≤ R.slots)
    (hc : k0 ≤ ka σ ∧ s0 ≤ sl σ) (X : gX (dC, dI) (tK kc) (wK ad kc sa va) Z A s σ H locs) (hl : lv_has ls 5 [(0, .ref (ad 0)), (1, .long a1)]) (hg : f_X3_enter a1 σ = some (r, τ)) : W p l e R s m args below meth c H locs (ka σ - k0) (sl σ - s0) (MQ below (gQy (dC, dI) (tK kc) (wK ad kc) A τ) args s (ka τ - k0) (sl τ - s0) A) (F0 m 0 ls []) := by
  have hx := S.1
  have hb := S.2.1
  have hown := S.2.2.2.1
  have hu := S.2.2.2.2
  have hn := m_X3_enter hg
  have hm : ka σ = ka σ ∧ sl σ = sl σ := ⟨rfl, rfl⟩
  unfold f_X3_enter at hg
  refine lv_lload_n hx hb dX3_enter_0 rfl (lv_at hl 1 rfl) ?_
  refine lv_l2i (v := ((a1 : Int64).toInt32)) hx hb dX3_enter_1 rfl ?_
  refine lv_istore_n (lv' := [(3, .int ((a1 : Int64).toInt32)), (0, .ref (ad 0)), (1, .long a1)]) hx hb dX3_enter_2 rfl hl (by decide) rfl (fun ls hl => ?_)
  refine lv_lload_n hx hb dX3_enter_3 rfl (lv_at hl 2 rfl) ?_
  obtain ⟨r4, τ4, hq4, hg⟩ := bd_some hg
  obtain ⟨ha4, hg⟩ := gq_some hg
  obtain ⟨hz4, hg⟩ := gq_some hg
  have hk4 : ka τ4 = ka σ ∧ sl τ4 = sl σ := ka_same ha4 hz4
  refine gck_Ti (As := [.long a1]) (rest := []) S X (k2_X0_tag l dC dI ad kc sa va hq4 H.size) cw_X0_tag mG_1834 rfl rfl hl.1 (Nat.le_of_ble_eq_true rfl) dX3_enter_4 ⟨by omega, by omega⟩ ⟨by omega, by omega⟩ (fun H locs X => ?_)
  have hm : ka τ4 = ka σ ∧ sl τ4 = sl σ := by omega
  refine lv_bipush (v := 6) hx hb dX3_enter_7 (by decide) ?_
  refine lv_icmp_eq (tgt := 20) hx hb dX3_enter_9 (by decide) (fun c9 => ?_) (fun c9 => ?_)
  · have hg := (if_pos c9).symm.trans hg
    refine lv_aload_n hx hb dX3_enter_20 rfl (lv_at hl 1 rfl) ?_
    refine wkgR_0_6 S X mG_669 dX3_enter_21 ?_
    refine lv_iload_n hx hb dX3_enter_24 rfl (lv_at hl 0 rfl) ?_
    obtain ⟨r25, τ25, hq25, hg⟩ := bd_some hg
    obtain ⟨ha25, hg⟩ := gq_some hg
    obtain ⟨hz25, hg⟩ := gq_some hg
    have hk25 : ka τ25 = ka τ4 ∧ sl τ25 = sl τ4 := ka_same ha25 hz25
    refine gck_Vi (As := [.int ((a1 : Int64).toInt32)]) (rest := []) (q0 := 1) (ci := 3) S X (k2_X0_isBlack l dC dI ad kc sa va hq25 H.size) cw_X0_isBlack mG_1841 rfl rfl rfl rfl rfl hl.1 (Nat.le_of_ble_eq_true rfl) dX3_enter_25 ⟨by omega, by omega⟩ ⟨by omega, by omega⟩ (fun H locs X => ?_)
    have hm : ka τ25 = ka σ ∧ sl τ25 = sl σ := by omega
    refine lv_if_eq (tgt := 40) hx hb dX3_enter_28 (by decide) (fun c28 => ?_) (fun c28 => ?_)
    · have hg := (if_pos c28).symm.trans hg
      refine lv_aload_n hx hb dX3_enter_40 rfl (lv_at hl 1 rfl) ?_
      refine wkgR_0_6 S X mG_669 dX3_enter_41 ?_
      refine lv_iload_n hx hb dX3_enter_44 rfl (lv_at hl 0 rfl) ?_
      obtain ⟨r45, τ45, hq45, hg⟩ := bd_some hg
      obtain ⟨ha45, hg⟩ := gq_some hg
      obtain ⟨hz45, hg⟩ := gq_some hg
      have hk45 : ka τ45 = ka τ25 ∧ sl τ45 = sl τ25 := ka_same ha45 hz45
      refine gck_Vi (As := [.int ((a1 : Int64).toInt32)]) (rest := []) (q0 := 1) (ci := 3) S X (k2_X0_isFresh l dC dI ad kc sa va hq45 H.size) cw_X0_isFresh mG_1850 rfl rfl rfl rfl rfl hl.1 (Nat.le_of_ble_eq_true rfl) dX3_enter_45 ⟨by omega, by omega⟩ ⟨by omega, by omega⟩ (fun H locs X => ?_)
      have hm : ka τ45 = ka σ ∧ sl τ45 = sl σ := by omega
      refine lv_if_ne (tgt := 67) hx hb dX3_enter_48 (by decide) (fun c48 => ?_) (fun c48 => ?_)
      · have hg := (if_neg c48).symm.trans hg
        refine lv_aload_n hx hb dX3_enter_67 rfl (lv_at hl 1 rfl) ?_
        refine lv_bipush (v := 7) hx hb dX3_enter_68 (by decide) ?_
        refine lv_iload_n hx hb dX3_enter_70 rfl (lv_at hl 0 rfl) ?_
        refine lv_iconst (v := 0) hx hb dX3_enter_71 (by decide) ?_
        obtain ⟨r72, τ72, hq72, hg⟩ := bd_some hg
        obtain ⟨ha72, hg⟩ := gq_some hg
        obtain ⟨hz72, hg⟩ := gq_some hg
        have hk72 : ka τ72 = ka τ45 ∧ sl τ72 = sl τ45 := ka_same ha72 hz72
        refine gck_Sl (As := [.int 7, .int ((a1 : Int64).toInt32), .int 0]) (rest := [.ref (ad 0)]) S X (k2_X3_frame l dC dI ad kc sa va hq72 H.size) cw_X3_frame mG_1811 rfl rfl hl.1 (Nat.le_of_ble_eq_true rfl) dX3_enter_72 ⟨by omega, by omega⟩ ⟨by omega, by omega⟩ (fun H locs X => ?_)
        have hm : ka τ72 = ka σ ∧ sl τ72 = sl σ := by omega
        obtain ⟨r75, τ75, hq75, hg⟩ := bd_some hg
        obtain ⟨ha75, hg⟩ := gle_some hg
        obtain ⟨hz75, hg⟩ := gle_some hg
        have hk75 : ka τ72 ≤ ka τ75 ∧ sl τ72 ≤ sl τ75 := ka_mono ha75 hz75
        have hn2 : ka τ75 ≤ ka τ ∧ sl τ75 ≤ sl τ := m_X3_enter_b78 hg
        refine gcy_V (w := wK ad kc) (As := [.long r72]) (rest := []) (q0 := 0) (ci := 6) (mc := ka τ75 - ka τ72) (ms := sl τ75 - sl τ72) S X (k2_X3_push l dC dI ad kc sa va hq75 H.size) cw_X3_push mG_1814 rfl rfl rfl rfl rfl hl.1 (Nat.le_of_ble_eq_true rfl) dX3_enter_75 ⟨by omega, by omega⟩ ⟨by omega, by omega⟩ (fun sa va H locs X => ?_)
        refine W.widen (k := ka τ75 - k0) (n := sl τ75 - s0) (by omega) (by omega) ?_
        exact w_X3_enter_b78 S hr hk hR hRc (show k0 ≤ ka τ75 ∧ s0 ≤ sl τ75 from (by omega : k0 ≤ ka τ75 ∧ s0 ≤ sl τ75)) X (lv_sub hl [1, 0] rfl) hg
      · have hg := (if_pos c48).symm.trans hg
        refine lv_aload_n hx hb dX3_enter_51 rfl (lv_at hl 1 rfl) ?_
        refine lv_aload_n hx hb dX3_enter_52 rfl (lv_at hl 1 rfl) ?_
        refine wkgR_0_6 S X mG_669 dX3_enter_53 ?_
        refine wkgR_1_0 S X mG_653 dX3_enter_56 ?_
        refine lv_iload_n hx hb dX3_enter_59 rfl (lv_at hl 0 rfl) ?_
        obtain ⟨hi60, hg⟩ := gd_some hg
        refine wklB_14 (v := (xB τ45 14 ((a1 : Int64).toInt32))) S X hi60 rfl dX3_enter_60 ?_
        obtain ⟨r61, τ61, hq61, hg⟩ := bd_some hg
        obtain ⟨ha61, hg⟩ := gq_some hg
        obtain ⟨hz61, hg⟩ := gq_some hg
        have hk61 : ka τ61 = ka τ45 ∧ sl τ61 = sl τ45 := ka_same ha61 hz61
        refine gck_Vv (As := [.long (xB τ45 14 ((a1 : Int64).toInt32))]) (rest := []) (q0 := 0) (ci := 6) S X (k2_X3_give l dC dI ad kc sa va hq61 H.size) cw_X3_give mG_1837 rfl rfl rfl rfl rfl hl.1 (Nat.le_of_ble_eq_true rfl) dX3_enter_61 ⟨by omega, by omega⟩ ⟨by omega, by omega⟩ (fun H locs X => ?_)
        have hm : ka τ61 = ka σ ∧ sl τ61 = sl σ := by omega
        refine lv_goto (tgt := 131) hx hb dX3_enter_64 (by decide) ?_
        obtain ⟨-, rfl⟩ := fin_some hg
        refine W.widen (k := ka τ61 - k0) (n := sl τ61 - s0) (show ka σ - k0 ≤ ka τ61 - k0 by omega) (show sl σ - s0 ≤ sl τ61 - s0 by omega) ?_
        exact gr_y S hr hk X dX3_enter_131
    · have hg := (if_neg c28).symm.trans hg
      refine lv_aload_n hx hb dX3_enter_31 rfl (lv_at hl 1 rfl) ?_
      refine lv_iconst (v := 2) hx hb dX3_enter_32 (by decide) ?_
      refine lv_iconst (v := 3) hx hb dX3_enter_33 (by decide) ?_
      obtain ⟨r34, τ34, hq34, hg⟩ := bd_some hg
      obtain ⟨ha34, hg⟩ := gq_some hg
      obtain ⟨hz34, hg⟩ := gq_some hg
      have hk34 : ka τ34 = ka τ25 ∧ sl τ34 = sl τ25 := ka_same ha34 hz34
      refine gck_Vv (As := [.int 2, .int 3]) (rest := []) (q0 := 0) (ci := 6) S X (k2_X3_endWith l dC dI ad kc sa va hq34 H.size) cw_X3_endWith mG_1846 rfl rfl rfl rfl rfl hl.1 (Nat.le_of_ble_eq_true rfl) dX3_enter_34 ⟨by omega, by omega⟩ ⟨by omega, by omega⟩ (fun H locs X => ?_)
      have hm : ka τ34 = ka σ ∧ sl τ34 = sl σ := by omega
      refine lv_goto (tgt := 131) hx hb dX3_enter_37 (by decide) ?_
      obtain ⟨-, rfl⟩ := fin_some hg
      refine W.widen (k := ka τ34 - k0) (n := sl τ34 - s0) (show ka σ - k0 ≤ ka τ34 - k0 by omega) (show sl σ - s0 ≤ sl τ34 - s0 by omega) ?_
      exact gr_y S hr hk X dX3_enter_131
  · have hg := (if_neg c9).symm.trans hg
    refine lv_aload_n hx hb dX3_enter_12 rfl (lv_at hl 1 rfl) ?_
    refine lv_lload_n hx hb dX3_enter_13 rfl (lv_at hl 2 rfl) ?_
    obtain ⟨r14, τ14, hq14, hg⟩ := bd_some hg
    obtain ⟨ha14, hg⟩ := gq_some hg
    obtain ⟨hz14, hg⟩ := gq_some hg
    have hk14 : ka τ14 = ka τ4 ∧ sl τ14 = sl τ4 := ka_same ha14 hz14
    refine gck_Vv (As := [.long a1]) (rest := []) (q0 := 0) (ci := 6) S X (k2_X3_give l dC dI ad kc sa va hq14 H.size) cw_X3_give mG_1837 rfl rfl rfl rfl rfl hl.1 (Nat.le_of_ble_eq_true rfl) dX3_enter_14 ⟨by omega, by omega⟩ ⟨by omega, by omega⟩ (fun H locs X => ?_)
    have hm : ka τ14 = ka σ ∧ sl τ14 = sl σ := by omega
    refine lv_goto (tgt := 131) hx hb dX3_enter_17 (by decide) ?_
    obtain ⟨-, rfl⟩ := fin_some hg
    refine W.widen (k := ka τ14 - k0) (n := sl τ14 - s0) (show ka σ - k0 ≤ ka τ14 - k0 by omega) (show sl σ - s0 ≤ sl τ14 - s0 by omega) ?_
    exact gr_y S hr hk X dX3_enter_131
end MX3_enter
set_option maxRecDepth 100000 in
theorem k2_X3_enter (l : Launch) (dC : Nat → ClassId) (dI : Nat → Nat → Nat) {Z : ZZ} (ad : Nat → Nat) (kc : Nat → ClassId) (sa va : Nat) {σ τ : S5} {a1 : Int64} {r : Unit} (hg : f_X3_enter a1 σ = some (r, τ)) (sz : Nat) : Met l yX3_enter (Cond.code yX3_enter cX3_enter 5 none :: uG) { frames := 4, cells := ka τ - ka σ, slots := sl τ - sl σ, locals := 133 } (gPc (dC, dI) (tK kc) (wK ad kc sa va) Z [.ref (ad 0), .long a1] σ sz) (gQy (dC, dI) (tK kc) (wK ad kc) (va_A (wK ad kc sa va σ) sz) τ) (ka τ - ka σ) (sl τ - sl σ) (va_A (wK ad kc sa va σ) sz) :=
  gy_start (by decide) (Nat.le_of_ble_eq_true rfl) (fun p e s m below meth c ls S hr hk X hl => W.widen (Nat.zero_le _) (Nat.zero_le _) (w_X3_enter (k0 := ka σ) (s0 := sl σ) S hr hk ⟨Nat.le_refl _, Nat.le_refl _⟩ ⟨Nat.le_refl _, Nat.le_refl _⟩ ⟨Nat.le_refl _, Nat.le_refl _⟩ X hl hg))
section MX3_enterCall
variable {r : Unit} {τ : S5}
set_option maxHeartbeats 4000000 in
theorem m_X3_enterCall_b251 {σ : S5} {v1 : Int32}  (hg : f_X3_enterCall_b251 v1 σ = some (r, τ)) : ka σ ≤ ka τ ∧ sl σ ≤ sl τ := by
  have hm : ka σ ≤ ka σ ∧ sl σ ≤ sl σ := ⟨Nat.le_refl _, Nat.le_refl _⟩
  unfold f_X3_enterCall_b251 at hg
  obtain ⟨hi260, hg⟩ := gd_some hg
  obtain ⟨r261, τ261, hq261, hg⟩ := bd_some hg
  obtain ⟨ha261, hg⟩ := gq_some hg
  obtain ⟨hz261, hg⟩ := gq_some hg
  have hk261 : ka τ261 = ka σ ∧ sl τ261 = sl σ := ka_same ha261 hz261
  have hm : ka σ ≤ ka τ261 ∧ sl σ ≤ sl τ261 := by omega
  obtain ⟨-, rfl⟩ := fin_some hg
  exact hm
set_option maxHeartbeats 4000000 in
theorem m_X3_enterCall_b246 {σ : S5} {v1 : Int32}  (hg : f_X3_enterCall_b246 v1 σ = some (r, τ)) : ka σ ≤ ka τ ∧ sl σ ≤ sl τ := by
  have hm : ka σ ≤ ka σ ∧ sl σ ≤ sl σ := ⟨Nat.le_refl _, Nat.le_refl _⟩
  unfold f_X3_enterCall_b246 at hg
  obtain ⟨r248, τ248, hq248, hg⟩ := bd_some hg
  obtain ⟨ha248, hg⟩ := gle_some hg
  obtain ⟨hz248, hg⟩ := gle_some hg
  have hk248 : ka σ ≤ ka τ248 ∧ sl σ ≤ sl τ248 := ka_mono ha248 hz248
  have hm : ka σ ≤ ka τ248 ∧ sl σ ≤ sl τ248 := by omega
  exact ⟨Nat.le_trans hm.1 (m_X3_enterCall_b251 hg).1, Nat.le_trans hm.2 (m_X3_enterCall_b251 hg).2⟩
set_option maxHeartbeats 4000000 in
theorem m_X3_enterCall_B184 {σ : S5} {rec184 : Int32 → Int32 → Int32 → Int32 → Int32 → S5 → Option (Unit × S5)} {v1 : Int32} {v5 : Int32} {v6 : Int32} {v7 : Int32} {v9 : Int32}  (hrm184 : ∀ (v1 : Int32) (v5 : Int32) (v6 : Int32) (v7 : Int32) (v9 : Int32) (σ : S5), rec184 v1 v5 v6 v7 v9 σ = some (r, τ) → ka σ ≤ ka τ ∧ sl σ ≤ sl τ) (hg : f_X3_enterCall_B184 rec184 v1 v5 v6 v7 v9 σ = some (r, τ)) : ka σ ≤ ka τ ∧ sl σ ≤ sl τ := by
  have hm : ka σ ≤ ka σ ∧ sl σ ≤ sl σ := ⟨Nat.le_refl _, Nat.le_refl _⟩
  unfold f_X3_enterCall_B184 at hg
  refine (Decidable.em (v7 ≤ v9)).elim (fun c188 => ?_) (fun c188 => ?_)
  · have hg := (if_pos c188).symm.trans hg
    refine (Decidable.em (v7 ≤ 0)).elim (fun c231 => ?_) (fun c231 => ?_)
    · have hg := (if_pos c231).symm.trans hg
      exact ⟨Nat.le_trans hm.1 (m_X3_enterCall_b246 hg).1, Nat.le_trans hm.2 (m_X3_enterCall_b246 hg).2⟩
    · have hg := (if_neg c231).symm.trans hg
      obtain ⟨r240, τ240, hq240, hg⟩ := bd_some hg
      obtain ⟨ha240, hg⟩ := gq_some hg
      obtain ⟨hz240, hg⟩ := gq_some hg
      have hk240 : ka τ240 = ka σ ∧ sl τ240 = sl σ := ka_same ha240 hz240
      have hm : ka σ ≤ ka τ240 ∧ sl σ ≤ sl τ240 := by omega
      obtain ⟨r243, τ243, hq243, hg⟩ := bd_some hg
      obtain ⟨ha243, hg⟩ := gle_some hg
      obtain ⟨hz243, hg⟩ := gle_some hg
      have hk243 : ka τ240 ≤ ka τ243 ∧ sl τ240 ≤ sl τ243 := ka_mono ha243 hz243
      have hm : ka σ ≤ ka τ243 ∧ sl σ ≤ sl τ243 := by omega
      exact ⟨Nat.le_trans hm.1 (m_X3_enterCall_b246 hg).1, Nat.le_trans hm.2 (m_X3_enterCall_b246 hg).2⟩
  · have hg := (if_neg c188).symm.trans hg
    obtain ⟨hi212, hg⟩ := gd_some hg
    obtain ⟨hi213, hg⟩ := gd_some hg
    exact ⟨Nat.le_trans hm.1 (hrm184 _ _ _ _ _ _ hg).1, Nat.le_trans hm.2 (hrm184 _ _ _ _ _ _ hg).2⟩
set_option maxHeartbeats 4000000 in
theorem m_X3_enterCall_L184  : ∀ (n : Nat) (v1 : Int32) (v5 : Int32) (v6 : Int32) (v7 : Int32) (v9 : Int32) (σ : S5), f_X3_enterCall_L184  n v1 v5 v6 v7 v9 σ = some (r, τ) → ka σ ≤ ka τ ∧ sl σ ≤ sl τ := by
  intro n
  induction n with
  | zero => intro v1 v5 v6 v7 v9 σ hg; cases hg
  | succ n ih => intro v1 v5 v6 v7 v9 σ hg; exact m_X3_enterCall_B184 ih hg
set_option maxHeartbeats 4000000 in
theorem m_X3_enterCall_B145 {σ : S5} {rec145 : Int32 → Int32 → Int32 → Int32 → Int32 → Int32 → Int32 → S5 → Option (Unit × S5)} {v1 : Int32} {v4 : Int32} {v5 : Int32} {v6 : Int32} {v7 : Int32} {v8 : Int32} {v9 : Int32}  (hrm145 : ∀ (v1 : Int32) (v4 : Int32) (v5 : Int32) (v6 : Int32) (v7 : Int32) (v8 : Int32) (v9 : Int32) (σ : S5), rec145 v1 v4 v5 v6 v7 v8 v9 σ = some (r, τ) → ka σ ≤ ka τ ∧ sl σ ≤ sl τ) (hg : f_X3_enterCall_B145 rec145 v1 v4 v5 v6 v7 v8 v9 σ = some (r, τ)) : ka σ ≤ ka τ ∧ sl σ ≤ sl τ := by
  have hm : ka σ ≤ ka σ ∧ sl σ ≤ sl σ := ⟨Nat.le_refl _, Nat.le_refl _⟩
  unfold f_X3_enterCall_B145 at hg
  refine (Decidable.em (v5 ≤ v9)).elim (fun c149 => ?_) (fun c149 => ?_)
  · have hg := (if_pos c149).symm.trans hg
    exact ⟨Nat.le_trans hm.1 (m_X3_enterCall_L184 _ _ _ _ _ _ _ hg).1, Nat.le_trans hm.2 (m_X3_enterCall_L184 _ _ _ _ _ _ _ hg).2⟩
  · have hg := (if_neg c149).symm.trans hg
    obtain ⟨hi173, hg⟩ := gd_some hg
    obtain ⟨hi174, hg⟩ := gd_some hg
    exact ⟨Nat.le_trans hm.1 (hrm145 _ _ _ _ _ _ _ _ hg).1, Nat.le_trans hm.2 (hrm145 _ _ _ _ _ _ _ _ hg).2⟩
set_option maxHeartbeats 4000000 in
theorem m_X3_enterCall_L145  : ∀ (n : Nat) (v1 : Int32) (v4 : Int32) (v5 : Int32) (v6 : Int32) (v7 : Int32) (v8 : Int32) (v9 : Int32) (σ : S5), f_X3_enterCall_L145  n v1 v4 v5 v6 v7 v8 v9 σ = some (r, τ) → ka σ ≤ ka τ ∧ sl σ ≤ sl τ := by
  intro n
  induction n with
  | zero => intro v1 v4 v5 v6 v7 v8 v9 σ hg; cases hg
  | succ n ih => intro v1 v4 v5 v6 v7 v8 v9 σ hg; exact m_X3_enterCall_B145 ih hg
set_option maxHeartbeats 4000000 in
theorem m_X3_enterCall_B105 {σ : S5} {rec105 : Int32 → Int32 → Int32 → Int32 → Int32 → Int32 → Int32 → Int32 → S5 → Option (Unit × S5)} {v1 : Int32} {v2 : Int32} {v4 : Int32} {v5 : Int32} {v6 : Int32} {v7 : Int32} {v8 : Int32} {v9 : Int32}  (hrm105 : ∀ (v1 : Int32) (v2 : Int32) (v4 : Int32) (v5 : Int32) (v6 : Int32) (v7 : Int32) (v8 : Int32) (v9 : Int32) (σ : S5), rec105 v1 v2 v4 v5 v6 v7 v8 v9 σ = some (r, τ) → ka σ ≤ ka τ ∧ sl σ ≤ sl τ) (hg : f_X3_enterCall_B105 rec105 v1 v2 v4 v5 v6 v7 v8 v9 σ = some (r, τ)) : ka σ ≤ ka τ ∧ sl σ ≤ sl τ := by
  have hm : ka σ ≤ ka σ ∧ sl σ ≤ sl σ := ⟨Nat.le_refl _, Nat.le_refl _⟩
  unfold f_X3_enterCall_B105 at hg
  refine (Decidable.em (v4 ≤ v9)).elim (fun c109 => ?_) (fun c109 => ?_)
  · have hg := (if_pos c109).symm.trans hg
    exact ⟨Nat.le_trans hm.1 (m_X3_enterCall_L145 _ _ _ _ _ _ _ _ _ hg).1, Nat.le_trans hm.2 (m_X3_enterCall_L145 _ _ _ _ _ _ _ _ _ hg).2⟩
  · have hg := (if_neg c109).symm.trans hg
    obtain ⟨hi134, hg⟩ := gd_some hg
    obtain ⟨hi135, hg⟩ := gd_some hg
    exact ⟨Nat.le_trans hm.1 (hrm105 _ _ _ _ _ _ _ _ _ hg).1, Nat.le_trans hm.2 (hrm105 _ _ _ _ _ _ _ _ _ hg).2⟩
set_option maxHeartbeats 4000000 in
theorem m_X3_enterCall_L105  : ∀ (n : Nat) (v1 : Int32) (v2 : Int32) (v4 : Int32) (v5 : Int32) (v6 : Int32) (v7 : Int32) (v8 : Int32) (v9 : Int32) (σ : S5), f_X3_enterCall_L105  n v1 v2 v4 v5 v6 v7 v8 v9 σ = some (r, τ) → ka σ ≤ ka τ ∧ sl σ ≤ sl τ := by
  intro n
  induction n with
  | zero => intro v1 v2 v4 v5 v6 v7 v8 v9 σ hg; cases hg
  | succ n ih => intro v1 v2 v4 v5 v6 v7 v8 v9 σ hg; exact m_X3_enterCall_B105 ih hg
set_option maxHeartbeats 4000000 in
theorem m_X3_enterCall_b102 {σ : S5} {v1 : Int32} {v2 : Int32} {v4 : Int32} {v5 : Int32} {v6 : Int32} {v7 : Int32} {v8 : Int32}  (hg : f_X3_enterCall_b102 v1 v2 v4 v5 v6 v7 v8 σ = some (r, τ)) : ka σ ≤ ka τ ∧ sl σ ≤ sl τ := by
  have hm : ka σ ≤ ka σ ∧ sl σ ≤ sl σ := ⟨Nat.le_refl _, Nat.le_refl _⟩
  unfold f_X3_enterCall_b102 at hg
  exact ⟨Nat.le_trans hm.1 (m_X3_enterCall_L105 _ _ _ _ _ _ _ _ _ _ hg).1, Nat.le_trans hm.2 (m_X3_enterCall_L105 _ _ _ _ _ _ _ _ _ _ hg).2⟩
set_option maxHeartbeats 4000000 in
theorem m_X3_enterCall_b61 {σ : S5} {v1 : Int32} {v2 : Int32} {v3 : Int32} {u0 : Int32}  (hg : f_X3_enterCall_b61 v1 v2 v3 u0 σ = some (r, τ)) : ka σ ≤ ka τ ∧ sl σ ≤ sl τ := by
  have hm : ka σ ≤ ka σ ∧ sl σ ≤ sl σ := ⟨Nat.le_refl _, Nat.le_refl _⟩
  unfold f_X3_enterCall_b61 at hg
  obtain ⟨hi71, hg⟩ := gd_some hg
  obtain ⟨r99, τ99, hq99, hg⟩ := bd_some hg
  obtain ⟨ha99, hg⟩ := gle_some hg
  obtain ⟨hz99, hg⟩ := gle_some hg
  have hk99 : ka σ ≤ ka τ99 ∧ sl σ ≤ sl τ99 := ka_mono ha99 hz99
  have hm : ka σ ≤ ka τ99 ∧ sl σ ≤ sl τ99 := by omega
  exact ⟨Nat.le_trans hm.1 (m_X3_enterCall_b102 hg).1, Nat.le_trans hm.2 (m_X3_enterCall_b102 hg).2⟩
set_option maxHeartbeats 4000000 in
theorem m_X3_enterCall {σ : S5} {a1 : Int32} {a2 : Int32} {a3 : Int32}  (hg : f_X3_enterCall a1 a2 a3 σ = some (r, τ)) : ka σ ≤ ka τ ∧ sl σ ≤ sl τ := by
  have hm : ka σ ≤ ka σ ∧ sl σ ≤ sl σ := ⟨Nat.le_refl _, Nat.le_refl _⟩
  unfold f_X3_enterCall at hg
  refine (Decidable.em ((xA σ 40 2) < (gI σ 47))).elim (fun c10 => ?_) (fun c10 => ?_)
  · have hg := (if_pos c10).symm.trans hg
    obtain ⟨hi36, hg⟩ := gd_some hg
    obtain ⟨hi39, hg⟩ := gd_some hg
    refine (Decidable.em (a2 = (-1))).symm.elim (fun c42 => ?_) (fun c42 => ?_)
    · have hg := (if_neg c42).symm.trans hg
      obtain ⟨hi59, hg⟩ := gd_some hg
      exact ⟨Nat.le_trans hm.1 (m_X3_enterCall_b61 hg).1, Nat.le_trans hm.2 (m_X3_enterCall_b61 hg).2⟩
    · have hg := (if_pos c42).symm.trans hg
      exact ⟨Nat.le_trans hm.1 (m_X3_enterCall_b61 hg).1, Nat.le_trans hm.2 (m_X3_enterCall_b61 hg).2⟩
  · have hg := (if_neg c10).symm.trans hg
    obtain ⟨r16, τ16, hq16, hg⟩ := bd_some hg
    obtain ⟨ha16, hg⟩ := gq_some hg
    obtain ⟨hz16, hg⟩ := gq_some hg
    have hk16 : ka τ16 = ka σ ∧ sl τ16 = sl σ := ka_same ha16 hz16
    have hm : ka σ ≤ ka τ16 ∧ sl σ ≤ sl τ16 := by omega
    obtain ⟨-, rfl⟩ := fin_some hg
    exact hm
variable {p : Program} {l : Launch} {e : Env} {R : Room} {s : State} {m : MethodId} {args : Array Value} {below : List Frame} {meth : Method} {c : Code} {dC : Nat → ClassId} {dI : Nat → Nat → Nat} {Z : ZZ} {A : Nat → Prop} {ad : Nat → Nat} {kc : Nat → ClassId} {k0 s0 : Nat}
set_option maxHeartbeats 4000000 in
set_option maxRecDepth 100000 in
theorem w_X3_enterCall_b251 {sa va : Nat} {σ : S5} {v1 : Int32} {H : Heap} {locs : List Loc} {ls : Array Slot} (S : CallFix p m c cX3_enterCall 10 s args uG RX3) (hr : meth.sig.returnType = none) (hk : meth.locks = false) (hR : 4 ≤ R.frames ∧ 133 ≤ R.locals) (hRc : ka τ - k0 ≤ R.cells ∧ sl τ - s0 ≤ R.slots)
    (hc : k0 ≤ ka σ ∧ s0 ≤ sl σ) (X : gX (dC, dI) (tK kc) (wK ad kc sa va) Z A s σ H locs) (hl : lv_has ls 10 [(0, .ref (ad 0)), (1, .int v1)]) (hg : f_X3_enterCall_b251 v1 σ = some (r, τ)) : W p l e R s m args below meth c H locs (ka σ - k0) (sl σ - s0) (MQ below (gQy (dC, dI) (tK kc) (wK ad kc) A τ) args s (ka τ - k0) (sl τ - s0) A) (F0 m 251 ls []) := by
  have hx := S.1
  have hb := S.2.1
  have hown := S.2.2.2.1
  have hu := S.2.2.2.2
  have hn := m_X3_enterCall_b251 hg
  have hm : ka σ = ka σ ∧ sl σ = sl σ := ⟨rfl, rfl⟩
  unfold f_X3_enterCall_b251 at hg
  refine lv_aload_n hx hb dX3_enterCall_251 rfl (lv_at hl 0 rfl) ?_
  refine lv_aload_n hx hb dX3_enterCall_252 rfl (lv_at hl 0 rfl) ?_
  refine wkgR_0_1 S X mG_661 dX3_enterCall_253 ?_
  refine wkgR_2_11 S X mG_324 dX3_enterCall_256 ?_
  refine lv_iload_n hx hb dX3_enterCall_259 rfl (lv_at hl 1 rfl) ?_
  obtain ⟨hi260, hg⟩ := gd_some hg
  refine wklA_7 (v := (xA σ 7 v1)) S X hi260 rfl dX3_enterCall_260 ?_
  obtain ⟨r261, τ261, hq261, hg⟩ := bd_some hg
  obtain ⟨ha261, hg⟩ := gq_some hg
  obtain ⟨hz261, hg⟩ := gq_some hg
  have hk261 : ka τ261 = ka σ ∧ sl τ261 = sl σ := ka_same ha261 hz261
  refine gck_Vv (As := [.int (xA σ 7 v1)]) (rest := []) (q0 := 0) (ci := 6) S X (k2_X3_workOn l dC dI ad kc sa va hq261 H.size) cw_X3_workOn mG_1879 rfl rfl rfl rfl rfl hl.1 (Nat.le_of_ble_eq_true rfl) dX3_enterCall_261 ⟨by omega, by omega⟩ ⟨by omega, by omega⟩ (fun H locs X => ?_)
  have hm : ka τ261 = ka σ ∧ sl τ261 = sl σ := by omega
  obtain ⟨-, rfl⟩ := fin_some hg
  refine W.widen (k := ka τ261 - k0) (n := sl τ261 - s0) (show ka σ - k0 ≤ ka τ261 - k0 by omega) (show sl σ - s0 ≤ sl τ261 - s0 by omega) ?_
  exact gr_y S hr hk X dX3_enterCall_264
set_option maxHeartbeats 4000000 in
set_option maxRecDepth 100000 in
theorem w_X3_enterCall_b246 {sa va : Nat} {σ : S5} {v1 : Int32} {H : Heap} {locs : List Loc} {ls : Array Slot} (S : CallFix p m c cX3_enterCall 10 s args uG RX3) (hr : meth.sig.returnType = none) (hk : meth.locks = false) (hR : 4 ≤ R.frames ∧ 133 ≤ R.locals) (hRc : ka τ - k0 ≤ R.cells ∧ sl τ - s0 ≤ R.slots)
    (hc : k0 ≤ ka σ ∧ s0 ≤ sl σ) (X : gX (dC, dI) (tK kc) (wK ad kc sa va) Z A s σ H locs) (hl : lv_has ls 10 [(0, .ref (ad 0)), (1, .int v1)]) (hg : f_X3_enterCall_b246 v1 σ = some (r, τ)) : W p l e R s m args below meth c H locs (ka σ - k0) (sl σ - s0) (MQ below (gQy (dC, dI) (tK kc) (wK ad kc) A τ) args s (ka τ - k0) (sl τ - s0) A) (F0 m 246 ls []) := by
  have hx := S.1
  have hb := S.2.1
  have hown := S.2.2.2.1
  have hu := S.2.2.2.2
  have hn := m_X3_enterCall_b246 hg
  have hm : ka σ = ka σ ∧ sl σ = sl σ := ⟨rfl, rfl⟩
  unfold f_X3_enterCall_b246 at hg
  refine lv_aload_n hx hb dX3_enterCall_246 rfl (lv_at hl 0 rfl) ?_
  refine lv_iload_n hx hb dX3_enterCall_247 rfl (lv_at hl 1 rfl) ?_
  obtain ⟨r248, τ248, hq248, hg⟩ := bd_some hg
  obtain ⟨ha248, hg⟩ := gle_some hg
  obtain ⟨hz248, hg⟩ := gle_some hg
  have hk248 : ka σ ≤ ka τ248 ∧ sl σ ≤ sl τ248 := ka_mono ha248 hz248
  have hn2 : ka τ248 ≤ ka τ ∧ sl τ248 ≤ sl τ := m_X3_enterCall_b251 hg
  refine gcy_V (w := wK ad kc) (As := [.int v1]) (rest := []) (q0 := 0) (ci := 6) (mc := ka τ248 - ka σ) (ms := sl τ248 - sl σ) S X (k2_X3_openVariables l dC dI ad kc sa va hq248 H.size) cw_X3_openVariables mG_1863 rfl rfl rfl rfl rfl hl.1 (Nat.le_of_ble_eq_true rfl) dX3_enterCall_248 ⟨by omega, by omega⟩ ⟨by omega, by omega⟩ (fun sa va H locs X => ?_)
  refine W.widen (k := ka τ248 - k0) (n := sl τ248 - s0) (by omega) (by omega) ?_
  exact w_X3_enterCall_b251 S hr hk hR hRc (show k0 ≤ ka τ248 ∧ s0 ≤ sl τ248 from (by omega : k0 ≤ ka τ248 ∧ s0 ≤ sl τ248)) X (lv_sub hl [0, 1] rfl) hg
set_option maxHeartbeats 4000000 in
set_option maxRecDepth 100000 in
theorem w_X3_enterCall_B184 {sa va : Nat} {σ : S5} {rec184 : Int32 → Int32 → Int32 → Int32 → Int32 → S5 → Option (Unit × S5)} {v1 : Int32} {v5 : Int32} {v6 : Int32} {v7 : Int32} {v9 : Int32} {H : Heap} {locs : List Loc} {ls : Array Slot} (S : CallFix p m c cX3_enterCall 10 s args uG RX3) (hr : meth.sig.returnType = none) (hk : meth.locks = false) (hR : 4 ≤ R.frames ∧ 133 ≤ R.locals) (hRc : ka τ - k0 ≤ R.cells ∧ sl τ - s0 ≤ R.slots)
    (hrec184 : ∀ (sa va : Nat) (v1 : Int32) (v5 : Int32) (v6 : Int32) (v7 : Int32) (v9 : Int32) (σ : S5) (H : Heap) (locs : List Loc) (ls : Array Slot), k0 ≤ ka σ ∧ s0 ≤ sl σ → gX (dC, dI) (tK kc) (wK ad kc sa va) Z A s σ H locs → lv_has ls 10 [(0, .ref (ad 0)), (1, .int v1), (5, .int v5), (6, .int v6), (7, .int v7), (9, .int v9)] → rec184 v1 v5 v6 v7 v9 σ = some (r, τ) → W p l e R s m args below meth c H locs (ka σ - k0) (sl σ - s0) (MQ below (gQy (dC, dI) (tK kc) (wK ad kc) A τ) args s (ka τ - k0) (sl τ - s0) A) (F0 m 184 ls [])) (hrm184 : ∀ (v1 : Int32) (v5 : Int32) (v6 : Int32) (v7 : Int32) (v9 : Int32) (σ : S5), rec184 v1 v5 v6 v7 v9 σ = some (r, τ) → ka σ ≤ ka τ ∧ sl σ ≤ sl τ)
    (hc : k0 ≤ ka σ ∧ s0 ≤ sl σ) (X : gX (dC, dI) (tK kc) (wK ad kc sa va) Z A s σ H locs) (hl : lv_has ls 10 [(0, .ref (ad 0)), (1, .int v1), (5, .int v5), (6, .int v6), (7, .int v7), (9, .int v9)]) (hg : f_X3_enterCall_B184 rec184 v1 v5 v6 v7 v9 σ = some (r, τ)) : W p l e R s m args below meth c H locs (ka σ - k0) (sl σ - s0) (MQ below (gQy (dC, dI) (tK kc) (wK ad kc) A τ) args s (ka τ - k0) (sl τ - s0) A) (F0 m 184 ls []) := by
  have hx := S.1
  have hb := S.2.1
  have hown := S.2.2.2.1
  have hu := S.2.2.2.2
  have hn := m_X3_enterCall_B184 hrm184 hg
  have hm : ka σ = ka σ ∧ sl σ = sl σ := ⟨rfl, rfl⟩
  unfold f_X3_enterCall_B184 at hg
  refine lv_iload hx hb dX3_enterCall_184 (lv_at hl 5 rfl) ?_
  refine lv_iload hx hb dX3_enterCall_186 (lv_at hl 4 rfl) ?_
  refine lv_icmp_ge (tgt := 220) hx hb dX3_enterCall_188 (by decide) (fun c188 => ?_) (fun c188 => ?_)
  · have hg := (if_pos c188).symm.trans hg
    refine lv_aload_n hx hb dX3_enterCall_220 rfl (lv_at hl 0 rfl) ?_
    refine lv_iload hx hb dX3_enterCall_221 (lv_at hl 3 rfl) ?_
    refine lv_iload hx hb dX3_enterCall_223 (lv_at hl 4 rfl) ?_
    refine lv_iadd hx hb dX3_enterCall_225 ?_
    refine wkpI_40 S X mG_671 dX3_enterCall_226 (fun H locs X => ?_)
    refine lv_iload hx hb dX3_enterCall_229 (lv_at hl 4 rfl) ?_
    refine lv_if_le (tgt := 246) hx hb dX3_enterCall_231 (by decide) (fun c231 => ?_) (fun c231 => ?_)
    · have hg := (if_pos c231).symm.trans hg
      refine W.widen (k := ka (pI σ 40 (v6 + v7)) - k0) (n := sl (pI σ 40 (v6 + v7)) - s0) (show ka σ - k0 ≤ ka σ - k0 by omega) (show sl σ - s0 ≤ sl σ - s0 by omega) ?_
      exact w_X3_enterCall_b246 S hr hk hR hRc (show k0 ≤ ka (pI σ 40 (v6 + v7)) ∧ s0 ≤ sl (pI σ 40 (v6 + v7)) from (by omega : k0 ≤ ka σ ∧ s0 ≤ sl σ)) X (lv_sub hl [0, 1] rfl) hg
    · have hg := (if_neg c231).symm.trans hg
      refine lv_aload_n hx hb dX3_enterCall_234 rfl (lv_at hl 0 rfl) ?_
      refine lv_bipush (v := 6) hx hb dX3_enterCall_235 (by decide) ?_
      refine lv_iload hx hb dX3_enterCall_237 (lv_at hl 4 rfl) ?_
      refine lv_iconst (v := 0) hx hb dX3_enterCall_239 (by decide) ?_
      obtain ⟨r240, τ240, hq240, hg⟩ := bd_some hg
      obtain ⟨ha240, hg⟩ := gq_some hg
      obtain ⟨hz240, hg⟩ := gq_some hg
      have hk240 : ka τ240 = ka σ ∧ sl τ240 = sl σ := ka_same ha240 hz240
      refine gck_Sl (As := [.int 6, .int v7, .int 0]) (rest := [.ref (ad 0)]) S X (k2_X3_frame l dC dI ad kc sa va hq240 H.size) cw_X3_frame mG_1811 rfl rfl hl.1 (Nat.le_of_ble_eq_true rfl) dX3_enterCall_240 ⟨by omega, by omega⟩ ⟨by omega, by omega⟩ (fun H locs X => ?_)
      have hm : ka τ240 = ka σ ∧ sl τ240 = sl σ := by omega
      obtain ⟨r243, τ243, hq243, hg⟩ := bd_some hg
      obtain ⟨ha243, hg⟩ := gle_some hg
      obtain ⟨hz243, hg⟩ := gle_some hg
      have hk243 : ka τ240 ≤ ka τ243 ∧ sl τ240 ≤ sl τ243 := ka_mono ha243 hz243
      have hn2 : ka τ243 ≤ ka τ ∧ sl τ243 ≤ sl τ := m_X3_enterCall_b246 hg
      refine gcy_V (w := wK ad kc) (As := [.long r240]) (rest := []) (q0 := 0) (ci := 6) (mc := ka τ243 - ka τ240) (ms := sl τ243 - sl τ240) S X (k2_X3_push l dC dI ad kc sa va hq243 H.size) cw_X3_push mG_1814 rfl rfl rfl rfl rfl hl.1 (Nat.le_of_ble_eq_true rfl) dX3_enterCall_243 ⟨by omega, by omega⟩ ⟨by omega, by omega⟩ (fun sa va H locs X => ?_)
      refine W.widen (k := ka τ243 - k0) (n := sl τ243 - s0) (by omega) (by omega) ?_
      exact w_X3_enterCall_b246 S hr hk hR hRc (show k0 ≤ ka τ243 ∧ s0 ≤ sl τ243 from (by omega : k0 ≤ ka τ243 ∧ s0 ≤ sl τ243)) X (lv_sub hl [0, 1] rfl) hg
  · have hg := (if_neg c188).symm.trans hg
    refine lv_aload_n hx hb dX3_enterCall_191 rfl (lv_at hl 0 rfl) ?_
    refine wkgR_0_7 S X mG_670 dX3_enterCall_192 ?_
    refine lv_iload hx hb dX3_enterCall_195 (lv_at hl 3 rfl) ?_
    refine lv_iload hx hb dX3_enterCall_197 (lv_at hl 5 rfl) ?_
    refine lv_iadd hx hb dX3_enterCall_199 ?_
    refine lv_aload_n hx hb dX3_enterCall_200 rfl (lv_at hl 0 rfl) ?_
    refine wkgR_0_7 S X mG_670 dX3_enterCall_201 ?_
    refine lv_iload hx hb dX3_enterCall_204 (lv_at hl 3 rfl) ?_
    refine lv_iload hx hb dX3_enterCall_206 (lv_at hl 2 rfl) ?_
    refine lv_iadd hx hb dX3_enterCall_208 ?_
    refine lv_iload hx hb dX3_enterCall_209 (lv_at hl 5 rfl) ?_
    refine lv_iadd hx hb dX3_enterCall_211 ?_
    obtain ⟨hi212, hg⟩ := gd_some hg
    refine wklB_12 (v := (xB σ 12 ((v6 + v5) + v9))) S X hi212 rfl dX3_enterCall_212 ?_
    obtain ⟨hi213, hg⟩ := gd_some hg
    refine wksB_12 S X hi213 dX3_enterCall_213 (fun H locs X => ?_)
    refine lv_iinc (v := (v9 + 1)) (lv' := [(9, .int (v9 + 1)), (0, .ref (ad 0)), (1, .int v1), (5, .int v5), (6, .int v6), (7, .int v7)]) hx hb dX3_enterCall_214 hl (k := 5) rfl (by rfl) (by decide) rfl (fun ls hl => ?_)
    refine lv_goto (tgt := 184) hx hb dX3_enterCall_217 (by decide) ?_
    refine W.widen (k := ka (pB σ 12 (v6 + v9) (xB σ 12 ((v6 + v5) + v9))) - k0) (n := sl (pB σ 12 (v6 + v9) (xB σ 12 ((v6 + v5) + v9))) - s0) (show ka σ - k0 ≤ ka σ - k0 by omega) (show sl σ - s0 ≤ sl σ - s0 by omega) ?_
    exact hrec184 _ _ _ _ _ _ _ _ _ _ _ (show k0 ≤ ka (pB σ 12 (v6 + v9) (xB σ 12 ((v6 + v5) + v9))) ∧ s0 ≤ sl (pB σ 12 (v6 + v9) (xB σ 12 ((v6 + v5) + v9))) from (by omega : k0 ≤ ka σ ∧ s0 ≤ sl σ)) X (lv_sub hl [1, 2, 3, 4, 5, 0] rfl) hg
set_option maxHeartbeats 4000000 in
set_option maxRecDepth 100000 in
theorem w_X3_enterCall_L184 (S : CallFix p m c cX3_enterCall 10 s args uG RX3) (hr : meth.sig.returnType = none) (hk : meth.locks = false) (hR : 4 ≤ R.frames ∧ 133 ≤ R.locals) (hRc : ka τ - k0 ≤ R.cells ∧ sl τ - s0 ≤ R.slots) : ∀ (n : Nat) (sa va : Nat) (v1 : Int32) (v5 : Int32) (v6 : Int32) (v7 : Int32) (v9 : Int32) (σ : S5) (H : Heap) (locs : List Loc) (ls : Array Slot), k0 ≤ ka σ ∧ s0 ≤ sl σ → gX (dC, dI) (tK kc) (wK ad kc sa va) Z A s σ H locs → lv_has ls 10 [(0, .ref (ad 0)), (1, .int v1), (5, .int v5), (6, .int v6), (7, .int v7), (9, .int v9)] → f_X3_enterCall_L184  n v1 v5 v6 v7 v9 σ = some (r, τ) → W p l e R s m args below meth c H locs (ka σ - k0) (sl σ - s0) (MQ below (gQy (dC, dI) (tK kc) (wK ad kc) A τ) args s (ka τ - k0) (sl τ - s0) A) (F0 m 184 ls []) := by
  intro n
  induction n with
  | zero => intro sa va v1 v5 v6 v7 v9 σ H locs ls hc X hl hg; cases hg
  | succ n ih => intro sa va v1 v5 v6 v7 v9 σ H locs ls hc X hl hg; exact w_X3_enterCall_B184 S hr hk hR hRc ih (m_X3_enterCall_L184 n) hc X hl hg
set_option maxHeartbeats 4000000 in
set_option maxRecDepth 100000 in
theorem w_X3_enterCall_B145 {sa va : Nat} {σ : S5} {rec145 : Int32 → Int32 → Int32 → Int32 → Int32 → Int32 → Int32 → S5 → Option (Unit × S5)} {v1 : Int32} {v4 : Int32} {v5 : Int32} {v6 : Int32} {v7 : Int32} {v8 : Int32} {v9 : Int32} {H : Heap} {locs : List Loc} {ls : Array Slot} (S : CallFix p m c cX3_enterCall 10 s args uG RX3) (hr : meth.sig.returnType = none) (hk : meth.locks = false) (hR : 4 ≤ R.frames ∧ 133 ≤ R.locals) (hRc : ka τ - k0 ≤ R.cells ∧ sl τ - s0 ≤ R.slots)
    (hrec145 : ∀ (sa va : Nat) (v1 : Int32) (v4 : Int32) (v5 : Int32) (v6 : Int32) (v7 : Int32) (v8 : Int32) (v9 : Int32) (σ : S5) (H : Heap) (locs : List Loc) (ls : Array Slot), k0 ≤ ka σ ∧ s0 ≤ sl σ → gX (dC, dI) (tK kc) (wK ad kc sa va) Z A s σ H locs → lv_has ls 10 [(0, .ref (ad 0)), (1, .int v1), (4, .int v4), (5, .int v5), (6, .int v6), (7, .int v7), (8, .int v8), (9, .int v9)] → rec145 v1 v4 v5 v6 v7 v8 v9 σ = some (r, τ) → W p l e R s m args below meth c H locs (ka σ - k0) (sl σ - s0) (MQ below (gQy (dC, dI) (tK kc) (wK ad kc) A τ) args s (ka τ - k0) (sl τ - s0) A) (F0 m 145 ls [])) (hrm145 : ∀ (v1 : Int32) (v4 : Int32) (v5 : Int32) (v6 : Int32) (v7 : Int32) (v8 : Int32) (v9 : Int32) (σ : S5), rec145 v1 v4 v5 v6 v7 v8 v9 σ = some (r, τ) → ka σ ≤ ka τ ∧ sl σ ≤ sl τ)
    (hc : k0 ≤ ka σ ∧ s0 ≤ sl σ) (X : gX (dC, dI) (tK kc) (wK ad kc sa va) Z A s σ H locs) (hl : lv_has ls 10 [(0, .ref (ad 0)), (1, .int v1), (4, .int v4), (5, .int v5), (6, .int v6), (7, .int v7), (8, .int v8), (9, .int v9)]) (hg : f_X3_enterCall_B145 rec145 v1 v4 v5 v6 v7 v8 v9 σ = some (r, τ)) : W p l e R s m args below meth c H locs (ka σ - k0) (sl σ - s0) (MQ below (gQy (dC, dI) (tK kc) (wK ad kc) A τ) args s (ka τ - k0) (sl τ - s0) A) (F0 m 145 ls []) := by
  have hx := S.1
  have hb := S.2.1
  have hown := S.2.2.2.1
  have hu := S.2.2.2.2
  have hn := m_X3_enterCall_B145 hrm145 hg
  have hm : ka σ = ka σ ∧ sl σ = sl σ := ⟨rfl, rfl⟩
  unfold f_X3_enterCall_B145 at hg
  refine lv_iload hx hb dX3_enterCall_145 (lv_at hl 7 rfl) ?_
  refine lv_iload hx hb dX3_enterCall_147 (lv_at hl 3 rfl) ?_
  refine lv_icmp_ge (tgt := 181) hx hb dX3_enterCall_149 (by decide) (fun c149 => ?_) (fun c149 => ?_)
  · have hg := (if_pos c149).symm.trans hg
    refine lv_iconst (v := 0) hx hb dX3_enterCall_181 (by decide) ?_
    refine lv_istore (lv' := [(9, .int 0), (0, .ref (ad 0)), (1, .int v1), (4, .int v4), (5, .int v5), (6, .int v6), (7, .int v7), (8, .int v8)]) hx hb dX3_enterCall_182 hl (by decide) rfl (fun ls hl => ?_)
    refine W.widen (k := ka σ - k0) (n := sl σ - s0) (show ka σ - k0 ≤ ka σ - k0 by omega) (show sl σ - s0 ≤ sl σ - s0 by omega) ?_
    exact w_X3_enterCall_L184 S hr hk hR hRc _ _ _ _ _ _ _ _ _ _ _ _ (show k0 ≤ ka σ ∧ s0 ≤ sl σ from (by omega : k0 ≤ ka σ ∧ s0 ≤ sl σ)) X (lv_sub hl [1, 2, 4, 5, 6, 0] rfl) hg
  · have hg := (if_neg c149).symm.trans hg
    refine lv_aload_n hx hb dX3_enterCall_152 rfl (lv_at hl 0 rfl) ?_
    refine wkgR_0_9 S X mG_672 dX3_enterCall_153 ?_
    refine lv_iload hx hb dX3_enterCall_156 (lv_at hl 6 rfl) ?_
    refine lv_iload hx hb dX3_enterCall_158 (lv_at hl 2 rfl) ?_
    refine lv_iadd hx hb dX3_enterCall_160 ?_
    refine lv_iload hx hb dX3_enterCall_161 (lv_at hl 7 rfl) ?_
    refine lv_iadd hx hb dX3_enterCall_163 ?_
    refine lv_aload_n hx hb dX3_enterCall_164 rfl (lv_at hl 0 rfl) ?_
    refine wkgR_0_7 S X mG_670 dX3_enterCall_165 ?_
    refine lv_iload hx hb dX3_enterCall_168 (lv_at hl 4 rfl) ?_
    refine lv_iload hx hb dX3_enterCall_170 (lv_at hl 7 rfl) ?_
    refine lv_iadd hx hb dX3_enterCall_172 ?_
    obtain ⟨hi173, hg⟩ := gd_some hg
    refine wklB_12 (v := (xB σ 12 (v6 + v9))) S X hi173 rfl dX3_enterCall_173 ?_
    obtain ⟨hi174, hg⟩ := gd_some hg
    refine wksB_13 S X hi174 dX3_enterCall_174 (fun H locs X => ?_)
    refine lv_iinc (v := (v9 + 1)) (lv' := [(9, .int (v9 + 1)), (0, .ref (ad 0)), (1, .int v1), (4, .int v4), (5, .int v5), (6, .int v6), (7, .int v7), (8, .int v8)]) hx hb dX3_enterCall_175 hl (k := 7) rfl (by rfl) (by decide) rfl (fun ls hl => ?_)
    refine lv_goto (tgt := 145) hx hb dX3_enterCall_178 (by decide) ?_
    refine W.widen (k := ka (pB σ 13 ((v8 + v4) + v9) (xB σ 12 (v6 + v9))) - k0) (n := sl (pB σ 13 ((v8 + v4) + v9) (xB σ 12 (v6 + v9))) - s0) (show ka σ - k0 ≤ ka σ - k0 by omega) (show sl σ - s0 ≤ sl σ - s0 by omega) ?_
    exact hrec145 _ _ _ _ _ _ _ _ _ _ _ _ _ (show k0 ≤ ka (pB σ 13 ((v8 + v4) + v9) (xB σ 12 (v6 + v9))) ∧ s0 ≤ sl (pB σ 13 ((v8 + v4) + v9) (xB σ 12 (v6 + v9))) from (by omega : k0 ≤ ka σ ∧ s0 ≤ sl σ)) X (lv_sub hl [1, 2, 3, 4, 5, 6, 7, 0] rfl) hg
set_option maxHeartbeats 4000000 in
set_option maxRecDepth 100000 in
theorem w_X3_enterCall_L145 (S : CallFix p m c cX3_enterCall 10 s args uG RX3) (hr : meth.sig.returnType = none) (hk : meth.locks = false) (hR : 4 ≤ R.frames ∧ 133 ≤ R.locals) (hRc : ka τ - k0 ≤ R.cells ∧ sl τ - s0 ≤ R.slots) : ∀ (n : Nat) (sa va : Nat) (v1 : Int32) (v4 : Int32) (v5 : Int32) (v6 : Int32) (v7 : Int32) (v8 : Int32) (v9 : Int32) (σ : S5) (H : Heap) (locs : List Loc) (ls : Array Slot), k0 ≤ ka σ ∧ s0 ≤ sl σ → gX (dC, dI) (tK kc) (wK ad kc sa va) Z A s σ H locs → lv_has ls 10 [(0, .ref (ad 0)), (1, .int v1), (4, .int v4), (5, .int v5), (6, .int v6), (7, .int v7), (8, .int v8), (9, .int v9)] → f_X3_enterCall_L145  n v1 v4 v5 v6 v7 v8 v9 σ = some (r, τ) → W p l e R s m args below meth c H locs (ka σ - k0) (sl σ - s0) (MQ below (gQy (dC, dI) (tK kc) (wK ad kc) A τ) args s (ka τ - k0) (sl τ - s0) A) (F0 m 145 ls []) := by
  intro n
  induction n with
  | zero => intro sa va v1 v4 v5 v6 v7 v8 v9 σ H locs ls hc X hl hg; cases hg
  | succ n ih => intro sa va v1 v4 v5 v6 v7 v8 v9 σ H locs ls hc X hl hg; exact w_X3_enterCall_B145 S hr hk hR hRc ih (m_X3_enterCall_L145 n) hc X hl hg
set_option maxHeartbeats 4000000 in
set_option maxRecDepth 100000 in
theorem w_X3_enterCall_B105 {sa va : Nat} {σ : S5} {rec105 : Int32 → Int32 → Int32 → Int32 → Int32 → Int32 → Int32 → Int32 → S5 → Option (Unit × S5)} {v1 : Int32} {v2 : Int32} {v4 : Int32} {v5 : Int32} {v6 : Int32} {v7 : Int32} {v8 : Int32} {v9 : Int32} {H : Heap} {locs : List Loc} {ls : Array Slot} (S : CallFix p m c cX3_enterCall 10 s args uG RX3) (hr : meth.sig.returnType = none) (hk : meth.locks = false) (hR : 4 ≤ R.frames ∧ 133 ≤ R.locals) (hRc : ka τ - k0 ≤ R.cells ∧ sl τ - s0 ≤ R.slots)
    (hrec105 : ∀ (sa va : Nat) (v1 : Int32) (v2 : Int32) (v4 : Int32) (v5 : Int32) (v6 : Int32) (v7 : Int32) (v8 : Int32) (v9 : Int32) (σ : S5) (H : Heap) (locs : List Loc) (ls : Array Slot), k0 ≤ ka σ ∧ s0 ≤ sl σ → gX (dC, dI) (tK kc) (wK ad kc sa va) Z A s σ H locs → lv_has ls 10 [(0, .ref (ad 0)), (1, .int v1), (2, .int v2), (4, .int v4), (5, .int v5), (6, .int v6), (7, .int v7), (8, .int v8), (9, .int v9)] → rec105 v1 v2 v4 v5 v6 v7 v8 v9 σ = some (r, τ) → W p l e R s m args below meth c H locs (ka σ - k0) (sl σ - s0) (MQ below (gQy (dC, dI) (tK kc) (wK ad kc) A τ) args s (ka τ - k0) (sl τ - s0) A) (F0 m 105 ls [])) (hrm105 : ∀ (v1 : Int32) (v2 : Int32) (v4 : Int32) (v5 : Int32) (v6 : Int32) (v7 : Int32) (v8 : Int32) (v9 : Int32) (σ : S5), rec105 v1 v2 v4 v5 v6 v7 v8 v9 σ = some (r, τ) → ka σ ≤ ka τ ∧ sl σ ≤ sl τ)
    (hc : k0 ≤ ka σ ∧ s0 ≤ sl σ) (X : gX (dC, dI) (tK kc) (wK ad kc sa va) Z A s σ H locs) (hl : lv_has ls 10 [(0, .ref (ad 0)), (1, .int v1), (2, .int v2), (4, .int v4), (5, .int v5), (6, .int v6), (7, .int v7), (8, .int v8), (9, .int v9)]) (hg : f_X3_enterCall_B105 rec105 v1 v2 v4 v5 v6 v7 v8 v9 σ = some (r, τ)) : W p l e R s m args below meth c H locs (ka σ - k0) (sl σ - s0) (MQ below (gQy (dC, dI) (tK kc) (wK ad kc) A τ) args s (ka τ - k0) (sl τ - s0) A) (F0 m 105 ls []) := by
  have hx := S.1
  have hb := S.2.1
  have hown := S.2.2.2.1
  have hu := S.2.2.2.2
  have hn := m_X3_enterCall_B105 hrm105 hg
  have hm : ka σ = ka σ ∧ sl σ = sl σ := ⟨rfl, rfl⟩
  unfold f_X3_enterCall_B105 at hg
  refine lv_iload hx hb dX3_enterCall_105 (lv_at hl 8 rfl) ?_
  refine lv_iload hx hb dX3_enterCall_107 (lv_at hl 3 rfl) ?_
  refine lv_icmp_ge (tgt := 142) hx hb dX3_enterCall_109 (by decide) (fun c109 => ?_) (fun c109 => ?_)
  · have hg := (if_pos c109).symm.trans hg
    refine lv_iconst (v := 0) hx hb dX3_enterCall_142 (by decide) ?_
    refine lv_istore (lv' := [(9, .int 0), (0, .ref (ad 0)), (1, .int v1), (2, .int v2), (4, .int v4), (5, .int v5), (6, .int v6), (7, .int v7), (8, .int v8)]) hx hb dX3_enterCall_143 hl (by decide) rfl (fun ls hl => ?_)
    refine W.widen (k := ka σ - k0) (n := sl σ - s0) (show ka σ - k0 ≤ ka σ - k0 by omega) (show sl σ - s0 ≤ sl σ - s0 by omega) ?_
    exact w_X3_enterCall_L145 S hr hk hR hRc _ _ _ _ _ _ _ _ _ _ _ _ _ _ (show k0 ≤ ka σ ∧ s0 ≤ sl σ from (by omega : k0 ≤ ka σ ∧ s0 ≤ sl σ)) X (lv_sub hl [1, 2, 4, 5, 6, 7, 8, 0] rfl) hg
  · have hg := (if_neg c109).symm.trans hg
    refine lv_aload_n hx hb dX3_enterCall_112 rfl (lv_at hl 0 rfl) ?_
    refine wkgR_0_9 S X mG_672 dX3_enterCall_113 ?_
    refine lv_iload hx hb dX3_enterCall_116 (lv_at hl 7 rfl) ?_
    refine lv_iload hx hb dX3_enterCall_118 (lv_at hl 8 rfl) ?_
    refine lv_iadd hx hb dX3_enterCall_120 ?_
    refine lv_aload_n hx hb dX3_enterCall_121 rfl (lv_at hl 0 rfl) ?_
    refine wkgR_0_6 S X mG_669 dX3_enterCall_122 ?_
    refine wkgR_1_0 S X mG_653 dX3_enterCall_125 ?_
    refine lv_iload_n hx hb dX3_enterCall_128 rfl (lv_at hl 2 rfl) ?_
    refine lv_iconst (v := 2) hx hb dX3_enterCall_129 (by decide) ?_
    refine lv_iadd hx hb dX3_enterCall_130 ?_
    refine lv_iload hx hb dX3_enterCall_131 (lv_at hl 8 rfl) ?_
    refine lv_iadd hx hb dX3_enterCall_133 ?_
    obtain ⟨hi134, hg⟩ := gd_some hg
    refine wklB_14 (v := (xB σ 14 ((v2 + 2) + v9))) S X hi134 rfl dX3_enterCall_134 ?_
    obtain ⟨hi135, hg⟩ := gd_some hg
    refine wksB_13 S X hi135 dX3_enterCall_135 (fun H locs X => ?_)
    refine lv_iinc (v := (v9 + 1)) (lv' := [(9, .int (v9 + 1)), (0, .ref (ad 0)), (1, .int v1), (2, .int v2), (4, .int v4), (5, .int v5), (6, .int v6), (7, .int v7), (8, .int v8)]) hx hb dX3_enterCall_136 hl (k := 8) rfl (by rfl) (by decide) rfl (fun ls hl => ?_)
    refine lv_goto (tgt := 105) hx hb dX3_enterCall_139 (by decide) ?_
    refine W.widen (k := ka (pB σ 13 (v8 + v9) (xB σ 14 ((v2 + 2) + v9))) - k0) (n := sl (pB σ 13 (v8 + v9) (xB σ 14 ((v2 + 2) + v9))) - s0) (show ka σ - k0 ≤ ka σ - k0 by omega) (show sl σ - s0 ≤ sl σ - s0 by omega) ?_
    exact hrec105 _ _ _ _ _ _ _ _ _ _ _ _ _ _ (show k0 ≤ ka (pB σ 13 (v8 + v9) (xB σ 14 ((v2 + 2) + v9))) ∧ s0 ≤ sl (pB σ 13 (v8 + v9) (xB σ 14 ((v2 + 2) + v9))) from (by omega : k0 ≤ ka σ ∧ s0 ≤ sl σ)) X (lv_sub hl [1, 2, 3, 4, 5, 6, 7, 8, 0] rfl) hg
set_option maxHeartbeats 4000000 in
set_option maxRecDepth 100000 in
theorem w_X3_enterCall_L105 (S : CallFix p m c cX3_enterCall 10 s args uG RX3) (hr : meth.sig.returnType = none) (hk : meth.locks = false) (hR : 4 ≤ R.frames ∧ 133 ≤ R.locals) (hRc : ka τ - k0 ≤ R.cells ∧ sl τ - s0 ≤ R.slots) : ∀ (n : Nat) (sa va : Nat) (v1 : Int32) (v2 : Int32) (v4 : Int32) (v5 : Int32) (v6 : Int32) (v7 : Int32) (v8 : Int32) (v9 : Int32) (σ : S5) (H : Heap) (locs : List Loc) (ls : Array Slot), k0 ≤ ka σ ∧ s0 ≤ sl σ → gX (dC, dI) (tK kc) (wK ad kc sa va) Z A s σ H locs → lv_has ls 10 [(0, .ref (ad 0)), (1, .int v1), (2, .int v2), (4, .int v4), (5, .int v5), (6, .int v6), (7, .int v7), (8, .int v8), (9, .int v9)] → f_X3_enterCall_L105  n v1 v2 v4 v5 v6 v7 v8 v9 σ = some (r, τ) → W p l e R s m args below meth c H locs (ka σ - k0) (sl σ - s0) (MQ below (gQy (dC, dI) (tK kc) (wK ad kc) A τ) args s (ka τ - k0) (sl τ - s0) A) (F0 m 105 ls []) := by
  intro n
  induction n with
  | zero => intro sa va v1 v2 v4 v5 v6 v7 v8 v9 σ H locs ls hc X hl hg; cases hg
  | succ n ih => intro sa va v1 v2 v4 v5 v6 v7 v8 v9 σ H locs ls hc X hl hg; exact w_X3_enterCall_B105 S hr hk hR hRc ih (m_X3_enterCall_L105 n) hc X hl hg
set_option maxHeartbeats 4000000 in
set_option maxRecDepth 100000 in
theorem w_X3_enterCall_b102 {sa va : Nat} {σ : S5} {v1 : Int32} {v2 : Int32} {v4 : Int32} {v5 : Int32} {v6 : Int32} {v7 : Int32} {v8 : Int32} {H : Heap} {locs : List Loc} {ls : Array Slot} (S : CallFix p m c cX3_enterCall 10 s args uG RX3) (hr : meth.sig.returnType = none) (hk : meth.locks = false) (hR : 4 ≤ R.frames ∧ 133 ≤ R.locals) (hRc : ka τ - k0 ≤ R.cells ∧ sl τ - s0 ≤ R.slots)
    (hc : k0 ≤ ka σ ∧ s0 ≤ sl σ) (X : gX (dC, dI) (tK kc) (wK ad kc sa va) Z A s σ H locs) (hl : lv_has ls 10 [(0, .ref (ad 0)), (1, .int v1), (2, .int v2), (4, .int v4), (5, .int v5), (6, .int v6), (7, .int v7), (8, .int v8)]) (hg : f_X3_enterCall_b102 v1 v2 v4 v5 v6 v7 v8 σ = some (r, τ)) : W p l e R s m args below meth c H locs (ka σ - k0) (sl σ - s0) (MQ below (gQy (dC, dI) (tK kc) (wK ad kc) A τ) args s (ka τ - k0) (sl τ - s0) A) (F0 m 102 ls []) := by
  have hx := S.1
  have hb := S.2.1
  have hown := S.2.2.2.1
  have hu := S.2.2.2.2
  have hn := m_X3_enterCall_b102 hg
  have hm : ka σ = ka σ ∧ sl σ = sl σ := ⟨rfl, rfl⟩
  unfold f_X3_enterCall_b102 at hg
  refine lv_iconst (v := 0) hx hb dX3_enterCall_102 (by decide) ?_
  refine lv_istore (lv' := [(9, .int 0), (0, .ref (ad 0)), (1, .int v1), (2, .int v2), (4, .int v4), (5, .int v5), (6, .int v6), (7, .int v7), (8, .int v8)]) hx hb dX3_enterCall_103 hl (by decide) rfl (fun ls hl => ?_)
  refine W.widen (k := ka σ - k0) (n := sl σ - s0) (show ka σ - k0 ≤ ka σ - k0 by omega) (show sl σ - s0 ≤ sl σ - s0 by omega) ?_
  exact w_X3_enterCall_L105 S hr hk hR hRc _ _ _ _ _ _ _ _ _ _ _ _ _ _ _ (show k0 ≤ ka σ ∧ s0 ≤ sl σ from (by omega : k0 ≤ ka σ ∧ s0 ≤ sl σ)) X (lv_sub hl [1, 2, 3, 4, 5, 6, 7, 8, 0] rfl) hg
set_option maxHeartbeats 4000000 in
set_option maxRecDepth 100000 in
theorem w_X3_enterCall_b61 {sa va : Nat} {σ : S5} {v1 : Int32} {v2 : Int32} {v3 : Int32} {u0 : Int32} {H : Heap} {locs : List Loc} {ls : Array Slot} (S : CallFix p m c cX3_enterCall 10 s args uG RX3) (hr : meth.sig.returnType = none) (hk : meth.locks = false) (hR : 4 ≤ R.frames ∧ 133 ≤ R.locals) (hRc : ka τ - k0 ≤ R.cells ∧ sl τ - s0 ≤ R.slots)
    (hc : k0 ≤ ka σ ∧ s0 ≤ sl σ) (X : gX (dC, dI) (tK kc) (wK ad kc sa va) Z A s σ H locs) (hl : lv_has ls 10 [(0, .ref (ad 0)), (1, .int v1), (2, .int v2), (3, .int v3)]) (hg : f_X3_enterCall_b61 v1 v2 v3 u0 σ = some (r, τ)) : W p l e R s m args below meth c H locs (ka σ - k0) (sl σ - s0) (MQ below (gQy (dC, dI) (tK kc) (wK ad kc) A τ) args s (ka τ - k0) (sl τ - s0) A) (F0 m 61 ls [.int u0]) := by
  have hx := S.1
  have hb := S.2.1
  have hown := S.2.2.2.1
  have hu := S.2.2.2.2
  have hn := m_X3_enterCall_b61 hg
  have hm : ka σ = ka σ ∧ sl σ = sl σ := ⟨rfl, rfl⟩
  unfold f_X3_enterCall_b61 at hg
  refine lv_istore (lv' := [(4, .int u0), (0, .ref (ad 0)), (1, .int v1), (2, .int v2), (3, .int v3)]) hx hb dX3_enterCall_61 hl (by decide) rfl (fun ls hl => ?_)
  refine lv_aload_n hx hb dX3_enterCall_63 rfl (lv_at hl 1 rfl) ?_
  refine wkgR_0_1 S X mG_661 dX3_enterCall_64 ?_
  refine wkgR_2_7 S X mG_310 dX3_enterCall_67 ?_
  refine lv_iload_n hx hb dX3_enterCall_70 rfl (lv_at hl 2 rfl) ?_
  obtain ⟨hi71, hg⟩ := gd_some hg
  refine wklA_3 (v := (xA σ 3 v1)) S X hi71 rfl dX3_enterCall_71 ?_
  refine lv_iload hx hb dX3_enterCall_72 (lv_at hl 0 rfl) ?_
  refine lv_isub hx hb dX3_enterCall_74 ?_
  refine lv_istore (lv' := [(5, .int ((xA σ 3 v1) - u0)), (4, .int u0), (0, .ref (ad 0)), (1, .int v1), (2, .int v2), (3, .int v3)]) hx hb dX3_enterCall_75 hl (by decide) rfl (fun ls hl => ?_)
  refine lv_aload_n hx hb dX3_enterCall_77 rfl (lv_at hl 2 rfl) ?_
  refine wkgI_40 (v := (gI σ 40)) S X mG_671 rfl dX3_enterCall_78 ?_
  refine lv_iload_n hx hb dX3_enterCall_81 rfl (lv_at hl 5 rfl) ?_
  refine lv_isub hx hb dX3_enterCall_82 ?_
  refine lv_istore (lv' := [(6, .int ((gI σ 40) - v3)), (5, .int ((xA σ 3 v1) - u0)), (4, .int u0), (0, .ref (ad 0)), (1, .int v1), (2, .int v2), (3, .int v3)]) hx hb dX3_enterCall_83 hl (by decide) rfl (fun ls hl => ?_)
  refine lv_iload_n hx hb dX3_enterCall_85 rfl (lv_at hl 6 rfl) ?_
  refine lv_iload hx hb dX3_enterCall_86 (lv_at hl 1 rfl) ?_
  refine lv_isub hx hb dX3_enterCall_88 ?_
  refine lv_istore (lv' := [(7, .int (v3 - ((xA σ 3 v1) - u0))), (6, .int ((gI σ 40) - v3)), (5, .int ((xA σ 3 v1) - u0)), (4, .int u0), (0, .ref (ad 0)), (1, .int v1), (2, .int v2), (3, .int v3)]) hx hb dX3_enterCall_89 hl (by decide) rfl (fun ls hl => ?_)
  refine lv_aload_n hx hb dX3_enterCall_91 rfl (lv_at hl 4 rfl) ?_
  refine wkgI_42 (v := (gI σ 42)) S X mG_674 rfl dX3_enterCall_92 ?_
  refine lv_istore (lv' := [(8, .int (gI σ 42)), (7, .int (v3 - ((xA σ 3 v1) - u0))), (6, .int ((gI σ 40) - v3)), (5, .int ((xA σ 3 v1) - u0)), (4, .int u0), (0, .ref (ad 0)), (1, .int v1), (2, .int v2), (3, .int v3)]) hx hb dX3_enterCall_95 hl (by decide) rfl (fun ls hl => ?_)
  refine lv_aload_n hx hb dX3_enterCall_97 rfl (lv_at hl 5 rfl) ?_
  refine lv_iload_n hx hb dX3_enterCall_98 rfl (lv_at hl 6 rfl) ?_
  obtain ⟨r99, τ99, hq99, hg⟩ := bd_some hg
  obtain ⟨ha99, hg⟩ := gle_some hg
  obtain ⟨hz99, hg⟩ := gle_some hg
  have hk99 : ka σ ≤ ka τ99 ∧ sl σ ≤ sl τ99 := ka_mono ha99 hz99
  have hn2 : ka τ99 ≤ ka τ ∧ sl τ99 ≤ sl τ := m_X3_enterCall_b102 hg
  refine gcy_V (w := wK ad kc) (As := [.int v1]) (rest := []) (q0 := 0) (ci := 6) (mc := ka τ99 - ka σ) (ms := sl τ99 - sl σ) S X (k2_X3_makeRoom l dC dI ad kc sa va hq99 H.size) cw_X3_makeRoom mG_1867 rfl rfl rfl rfl rfl hl.1 (Nat.le_of_ble_eq_true rfl) dX3_enterCall_99 ⟨by omega, by omega⟩ ⟨by omega, by omega⟩ (fun sa va H locs X => ?_)
  refine W.widen (k := ka τ99 - k0) (n := sl τ99 - s0) (by omega) (by omega) ?_
  exact w_X3_enterCall_b102 S hr hk hR hRc (show k0 ≤ ka τ99 ∧ s0 ≤ sl τ99 from (by omega : k0 ≤ ka τ99 ∧ s0 ≤ sl τ99)) X (lv_sub hl [5, 6, 7, 4, 3, 2, 1, 0] rfl) hg
set_option maxHeartbeats 4000000 in
set_option maxRecDepth 100000 in
theorem w_X3_enterCall {sa va : Nat} {σ : S5} {a1 : Int32} {a2 : Int32} {a3 : Int32} {H : Heap} {locs : List Loc} {ls : Array Slot} (S : CallFix p m c cX3_enterCall 10 s args uG RX3) (hr : meth.sig.returnType = none) (hk : meth.locks = false) (hR : 4 ≤ R.frames ∧ 133 ≤ R.locals) (hRc : ka τ - k0 ≤ R.cells ∧ sl τ - s0 ≤ R.slots)
    (hc : k0 ≤ ka σ ∧ s0 ≤ sl σ) (X : gX (dC, dI) (tK kc) (wK ad kc sa va) Z A s σ H locs) (hl : lv_has ls 10 [(0, .ref (ad 0)), (1, .int a1), (2, .int a2), (3, .int a3)]) (hg : f_X3_enterCall a1 a2 a3 σ = some (r, τ)) : W p l e R s m args below meth c H locs (ka σ - k0) (sl σ - s0) (MQ below (gQy (dC, dI) (tK kc) (wK ad kc) A τ) args s (ka τ - k0) (sl τ - s0) A) (F0 m 0 ls []) := by
  have hx := S.1
  have hb := S.2.1
  have hown := S.2.2.2.1
  have hu := S.2.2.2.2
  have hn := m_X3_enterCall hg
  have hm : ka σ = ka σ ∧ sl σ = sl σ := ⟨rfl, rfl⟩
  unfold f_X3_enterCall at hg
  refine lv_aload_n hx hb dX3_enterCall_0 rfl (lv_at hl 0 rfl) ?_
  refine wkgR_0_2 S X mG_662 dX3_enterCall_1 ?_
  refine lv_iconst (v := 2) hx hb dX3_enterCall_4 (by decide) ?_
  refine wklA_40 (v := (xA σ 40 2)) S X (vp_in_iff.mpr (by decide)) rfl dX3_enterCall_5 ?_
  refine lv_aload_n hx hb dX3_enterCall_6 rfl (lv_at hl 0 rfl) ?_
  refine wkgI_47 (v := (gI σ 47)) S X mG_680 rfl dX3_enterCall_7 ?_
  refine lv_icmp_lt (tgt := 20) hx hb dX3_enterCall_10 (by decide) (fun c10 => ?_) (fun c10 => ?_)
  · have hg := (if_pos c10).symm.trans hg
    refine lv_aload_n hx hb dX3_enterCall_20 rfl (lv_at hl 0 rfl) ?_
    refine wkgR_0_2 S X mG_662 dX3_enterCall_21 ?_
    refine lv_iconst (v := 2) hx hb dX3_enterCall_24 (by decide) ?_
    refine lv_dup2_11 hx hb dX3_enterCall_25 rfl rfl ?_
    refine wklA_40 (v := (xA σ 40 2)) S X (vp_in_iff.mpr (by decide)) rfl dX3_enterCall_26 ?_
    refine lv_iconst (v := 1) hx hb dX3_enterCall_27 (by decide) ?_
    refine lv_iadd hx hb dX3_enterCall_28 ?_
    refine wksA_40 S X (vp_in_iff.mpr (by decide)) dX3_enterCall_29 (fun H locs X => ?_)
    refine lv_aload_n hx hb dX3_enterCall_30 rfl (lv_at hl 0 rfl) ?_
    refine wkgR_0_3 S X mG_664 dX3_enterCall_31 ?_
    refine lv_iload_n hx hb dX3_enterCall_34 rfl (lv_at hl 1 rfl) ?_
    refine lv_dup2_11 hx hb dX3_enterCall_35 rfl rfl ?_
    obtain ⟨hi36, hg⟩ := gd_some hg
    refine wklA_41 (v := (xA σ 41 a1)) S X hi36 rfl dX3_enterCall_36 ?_
    refine lv_iconst (v := 1) hx hb dX3_enterCall_37 (by decide) ?_
    refine lv_iadd hx hb dX3_enterCall_38 ?_
    obtain ⟨hi39, hg⟩ := gd_some hg
    refine wksA_41 S X hi39 dX3_enterCall_39 (fun H locs X => ?_)
    refine lv_iload_n hx hb dX3_enterCall_40 rfl (lv_at hl 2 rfl) ?_
    refine lv_iconst (v := (-1)) hx hb dX3_enterCall_41 (by decide) ?_
    refine lv_icmp_ne (tgt := 49) hx hb dX3_enterCall_42 (by decide) (fun c42 => ?_) (fun c42 => ?_)
    · have hg := (if_neg c42).symm.trans hg
      refine lv_aload_n hx hb dX3_enterCall_49 rfl (lv_at hl 0 rfl) ?_
      refine wkgR_0_6 S X mG_669 dX3_enterCall_50 ?_
      refine wkgR_1_0 S X mG_653 dX3_enterCall_53 ?_
      refine lv_iload_n hx hb dX3_enterCall_56 rfl (lv_at hl 2 rfl) ?_
      refine lv_iconst (v := 1) hx hb dX3_enterCall_57 (by decide) ?_
      refine lv_iadd hx hb dX3_enterCall_58 ?_
      obtain ⟨hi59, hg⟩ := gd_some hg
      refine wklB_14 (v := (xB σ 14 (a2 + 1))) S X hi59 rfl dX3_enterCall_59 ?_
      refine lv_l2i (v := (((xB σ 14 (a2 + 1)) : Int64).toInt32)) hx hb dX3_enterCall_60 rfl ?_
      refine W.widen (k := ka (pA (pA σ 40 2 ((xA σ 40 2) + 1)) 41 a1 ((xA σ 41 a1) + 1)) - k0) (n := sl (pA (pA σ 40 2 ((xA σ 40 2) + 1)) 41 a1 ((xA σ 41 a1) + 1)) - s0) (show ka σ - k0 ≤ ka σ - k0 by omega) (show sl σ - s0 ≤ sl σ - s0 by omega) ?_
      exact w_X3_enterCall_b61 S hr hk hR hRc (show k0 ≤ ka (pA (pA σ 40 2 ((xA σ 40 2) + 1)) 41 a1 ((xA σ 41 a1) + 1)) ∧ s0 ≤ sl (pA (pA σ 40 2 ((xA σ 40 2) + 1)) 41 a1 ((xA σ 41 a1) + 1)) from (by omega : k0 ≤ ka σ ∧ s0 ≤ sl σ)) X (lv_sub hl [0, 1, 2, 3] rfl) hg
    · have hg := (if_pos c42).symm.trans hg
      refine lv_iconst (v := 0) hx hb dX3_enterCall_45 (by decide) ?_
      refine lv_goto (tgt := 61) hx hb dX3_enterCall_46 (by decide) ?_
      refine W.widen (k := ka (pA (pA σ 40 2 ((xA σ 40 2) + 1)) 41 a1 ((xA σ 41 a1) + 1)) - k0) (n := sl (pA (pA σ 40 2 ((xA σ 40 2) + 1)) 41 a1 ((xA σ 41 a1) + 1)) - s0) (show ka σ - k0 ≤ ka σ - k0 by omega) (show sl σ - s0 ≤ sl σ - s0 by omega) ?_
      exact w_X3_enterCall_b61 S hr hk hR hRc (show k0 ≤ ka (pA (pA σ 40 2 ((xA σ 40 2) + 1)) 41 a1 ((xA σ 41 a1) + 1)) ∧ s0 ≤ sl (pA (pA σ 40 2 ((xA σ 40 2) + 1)) 41 a1 ((xA σ 41 a1) + 1)) from (by omega : k0 ≤ ka σ ∧ s0 ≤ sl σ)) X (lv_sub hl [0, 1, 2, 3] rfl) hg
  · have hg := (if_neg c10).symm.trans hg
    refine lv_aload_n hx hb dX3_enterCall_13 rfl (lv_at hl 0 rfl) ?_
    refine lv_iconst (v := 3) hx hb dX3_enterCall_14 (by decide) ?_
    refine lv_iconst (v := 1) hx hb dX3_enterCall_15 (by decide) ?_
    obtain ⟨r16, τ16, hq16, hg⟩ := bd_some hg
    obtain ⟨ha16, hg⟩ := gq_some hg
    obtain ⟨hz16, hg⟩ := gq_some hg
    have hk16 : ka τ16 = ka σ ∧ sl τ16 = sl σ := ka_same ha16 hz16
    refine gck_Vv (As := [.int 3, .int 1]) (rest := []) (q0 := 0) (ci := 6) S X (k2_X3_endWith l dC dI ad kc sa va hq16 H.size) cw_X3_endWith mG_1846 rfl rfl rfl rfl rfl hl.1 (Nat.le_of_ble_eq_true rfl) dX3_enterCall_16 ⟨by omega, by omega⟩ ⟨by omega, by omega⟩ (fun H locs X => ?_)
    have hm : ka τ16 = ka σ ∧ sl τ16 = sl σ := by omega
    obtain ⟨-, rfl⟩ := fin_some hg
    refine W.widen (k := ka τ16 - k0) (n := sl τ16 - s0) (show ka σ - k0 ≤ ka τ16 - k0 by omega) (show sl σ - s0 ≤ sl τ16 - s0 by omega) ?_
    exact gr_y S hr hk X dX3_enterCall_19
end MX3_enterCall
set_option maxRecDepth 100000 in
theorem k2_X3_enterCall (l : Launch) (dC : Nat → ClassId) (dI : Nat → Nat → Nat) {Z : ZZ} (ad : Nat → Nat) (kc : Nat → ClassId) (sa va : Nat) {σ τ : S5} {a1 : Int32} {a2 : Int32} {a3 : Int32} {r : Unit} (hg : f_X3_enterCall a1 a2 a3 σ = some (r, τ)) (sz : Nat) : Met l yX3_enterCall (Cond.code yX3_enterCall cX3_enterCall 10 none :: uG) { frames := 4, cells := ka τ - ka σ, slots := sl τ - sl σ, locals := 133 } (gPc (dC, dI) (tK kc) (wK ad kc sa va) Z [.ref (ad 0), .int a1, .int a2, .int a3] σ sz) (gQy (dC, dI) (tK kc) (wK ad kc) (va_A (wK ad kc sa va σ) sz) τ) (ka τ - ka σ) (sl τ - sl σ) (va_A (wK ad kc sa va σ) sz) :=
  gy_start (by decide) (Nat.le_of_ble_eq_true rfl) (fun p e s m below meth c ls S hr hk X hl => W.widen (Nat.zero_le _) (Nat.zero_le _) (w_X3_enterCall (k0 := ka σ) (s0 := sl σ) S hr hk ⟨Nat.le_refl _, Nat.le_refl _⟩ ⟨Nat.le_refl _, Nat.le_refl _⟩ ⟨Nat.le_refl _, Nat.le_refl _⟩ X hl hg))
section MX3_workArguments
variable {r : Unit} {τ : S5}
set_option maxHeartbeats 4000000 in
theorem m_X3_workArguments_b184 {σ : S5}   (hg : f_X3_workArguments_b184  σ = some (r, τ)) : ka σ ≤ ka τ ∧ sl σ ≤ sl τ := by
  have hm : ka σ ≤ ka σ ∧ sl σ ≤ sl σ := ⟨Nat.le_refl _, Nat.le_refl _⟩
  unfold f_X3_workArguments_b184 at hg
  obtain ⟨-, rfl⟩ := fin_some hg
  exact hm
set_option maxHeartbeats 4000000 in
theorem m_X3_workArguments_b161 {σ : S5} {v1 : Int32} {v4 : Int32}  (hg : f_X3_workArguments_b161 v1 v4 σ = some (r, τ)) : ka σ ≤ ka τ ∧ sl σ ≤ sl τ := by
  have hm : ka σ ≤ ka σ ∧ sl σ ≤ sl σ := ⟨Nat.le_refl _, Nat.le_refl _⟩
  unfold f_X3_workArguments_b161 at hg
  obtain ⟨r162, τ162, hq162, hg⟩ := bd_some hg
  obtain ⟨ha162, hg⟩ := gq_some hg
  obtain ⟨hz162, hg⟩ := gq_some hg
  have hk162 : ka τ162 = ka σ ∧ sl τ162 = sl σ := ka_same ha162 hz162
  have hm : ka σ ≤ ka τ162 ∧ sl σ ≤ sl τ162 := by omega
  refine (Decidable.em (r162 = 0)).symm.elim (fun c165 => ?_) (fun c165 => ?_)
  · have hg := (if_neg c165).symm.trans hg
    exact ⟨Nat.le_trans hm.1 (m_X3_workArguments_b184 hg).1, Nat.le_trans hm.2 (m_X3_workArguments_b184 hg).2⟩
  · have hg := (if_pos c165).symm.trans hg
    obtain ⟨hi180, hg⟩ := gd_some hg
    obtain ⟨r181, τ181, hq181, hg⟩ := bd_some hg
    obtain ⟨ha181, hg⟩ := gle_some hg
    obtain ⟨hz181, hg⟩ := gle_some hg
    have hk181 : ka τ162 ≤ ka τ181 ∧ sl τ162 ≤ sl τ181 := ka_mono ha181 hz181
    have hm : ka σ ≤ ka τ181 ∧ sl σ ≤ sl τ181 := by omega
    exact ⟨Nat.le_trans hm.1 (m_X3_workArguments_b184 hg).1, Nat.le_trans hm.2 (m_X3_workArguments_b184 hg).2⟩
set_option maxHeartbeats 4000000 in
theorem m_X3_workArguments_b143 {σ : S5} {rec35 : Int32 → Int32 → Int32 → Int32 → Int32 → S5 → Option (Unit × S5)} {v1 : Int32} {v2 : Int32} {v4 : Int32} {v5 : Int32} {v6 : Int32}  (hrm35 : ∀ (v1 : Int32) (v2 : Int32) (v4 : Int32) (v5 : Int32) (v6 : Int32) (σ : S5), rec35 v1 v2 v4 v5 v6 σ = some (r, τ) → ka σ ≤ ka τ ∧ sl σ ≤ sl τ) (hg : f_X3_workArguments_b143 rec35 v1 v2 v4 v5 v6 σ = some (r, τ)) : ka σ ≤ ka τ ∧ sl σ ≤ sl τ := by
  have hm : ka σ ≤ ka σ ∧ sl σ ≤ sl σ := ⟨Nat.le_refl _, Nat.le_refl _⟩
  unfold f_X3_workArguments_b143 at hg
  obtain ⟨hi152, hg⟩ := gd_some hg
  exact ⟨Nat.le_trans hm.1 (hrm35 _ _ _ _ _ _ hg).1, Nat.le_trans hm.2 (hrm35 _ _ _ _ _ _ hg).2⟩
set_option maxHeartbeats 4000000 in
theorem m_X3_workArguments_b133 {σ : S5} {rec35 : Int32 → Int32 → Int32 → Int32 → Int32 → S5 → Option (Unit × S5)} {v1 : Int32} {v2 : Int32} {v4 : Int32} {v5 : Int32} {v6 : Int32}  (hrm35 : ∀ (v1 : Int32) (v2 : Int32) (v4 : Int32) (v5 : Int32) (v6 : Int32) (σ : S5), rec35 v1 v2 v4 v5 v6 σ = some (r, τ) → ka σ ≤ ka τ ∧ sl σ ≤ sl τ) (hg : f_X3_workArguments_b133 rec35 v1 v2 v4 v5 v6 σ = some (r, τ)) : ka σ ≤ ka τ ∧ sl σ ≤ sl τ := by
  have hm : ka σ ≤ ka σ ∧ sl σ ≤ sl σ := ⟨Nat.le_refl _, Nat.le_refl _⟩
  unfold f_X3_workArguments_b133 at hg
  obtain ⟨r137, τ137, hq137, hg⟩ := bd_some hg
  obtain ⟨ha137, hg⟩ := gq_some hg
  obtain ⟨hz137, hg⟩ := gq_some hg
  have hk137 : ka τ137 = ka σ ∧ sl τ137 = sl σ := ka_same ha137 hz137
  have hm : ka σ ≤ ka τ137 ∧ sl σ ≤ sl τ137 := by omega
  obtain ⟨r140, τ140, hq140, hg⟩ := bd_some hg
  obtain ⟨ha140, hg⟩ := gle_some hg
  obtain ⟨hz140, hg⟩ := gle_some hg
  have hk140 : ka τ137 ≤ ka τ140 ∧ sl τ137 ≤ sl τ140 := ka_mono ha140 hz140
  have hm : ka σ ≤ ka τ140 ∧ sl σ ≤ sl τ140 := by omega
  exact ⟨Nat.le_trans hm.1 (m_X3_workArguments_b143 hrm35 hg).1, Nat.le_trans hm.2 (m_X3_workArguments_b143 hrm35 hg).2⟩
set_option maxHeartbeats 4000000 in
theorem m_X3_workArguments_b126 {σ : S5} {v5 : Int32}  (hg : f_X3_workArguments_b126 v5 σ = some (r, τ)) : ka σ ≤ ka τ ∧ sl σ ≤ sl τ := by
  have hm : ka σ ≤ ka σ ∧ sl σ ≤ sl σ := ⟨Nat.le_refl _, Nat.le_refl _⟩
  unfold f_X3_workArguments_b126 at hg
  obtain ⟨r129, τ129, hq129, hg⟩ := bd_some hg
  obtain ⟨ha129, hg⟩ := gq_some hg
  obtain ⟨hz129, hg⟩ := gq_some hg
  have hk129 : ka τ129 = ka σ ∧ sl τ129 = sl σ := ka_same ha129 hz129
  have hm : ka σ ≤ ka τ129 ∧ sl σ ≤ sl τ129 := by omega
  obtain ⟨-, rfl⟩ := fin_some hg
  exact hm
set_option maxHeartbeats 4000000 in
theorem m_X3_workArguments_B35 {σ : S5} {rec35 : Int32 → Int32 → Int32 → Int32 → Int32 → S5 → Option (Unit × S5)} {v1 : Int32} {v2 : Int32} {v4 : Int32} {v5 : Int32} {v6 : Int32}  (hrm35 : ∀ (v1 : Int32) (v2 : Int32) (v4 : Int32) (v5 : Int32) (v6 : Int32) (σ : S5), rec35 v1 v2 v4 v5 v6 σ = some (r, τ) → ka σ ≤ ka τ ∧ sl σ ≤ sl τ) (hg : f_X3_workArguments_B35 rec35 v1 v2 v4 v5 v6 σ = some (r, τ)) : ka σ ≤ ka τ ∧ sl σ ≤ sl τ := by
  have hm : ka σ ≤ ka σ ∧ sl σ ≤ sl σ := ⟨Nat.le_refl _, Nat.le_refl _⟩
  unfold f_X3_workArguments_B35 at hg
  obtain ⟨hi45, hg⟩ := gd_some hg
  refine (Decidable.em ((xA σ 15 v1) ≤ v6)).elim (fun c46 => ?_) (fun c46 => ?_)
  · have hg := (if_pos c46).symm.trans hg
    exact ⟨Nat.le_trans hm.1 (m_X3_workArguments_b161 hg).1, Nat.le_trans hm.2 (m_X3_workArguments_b161 hg).2⟩
  · have hg := (if_neg c46).symm.trans hg
    refine (Decidable.em (v5 = (-1))).elim (fun c52 => ?_) (fun c52 => ?_)
    · have hg := (if_pos c52).symm.trans hg
      exact ⟨Nat.le_trans hm.1 (m_X3_workArguments_b161 hg).1, Nat.le_trans hm.2 (m_X3_workArguments_b161 hg).2⟩
    · have hg := (if_neg c52).symm.trans hg
      obtain ⟨r56, τ56, hq56, hg⟩ := bd_some hg
      obtain ⟨ha56, hg⟩ := gq_some hg
      obtain ⟨hz56, hg⟩ := gq_some hg
      have hk56 : ka τ56 = ka σ ∧ sl τ56 = sl σ := ka_same ha56 hz56
      have hm : ka σ ≤ ka τ56 ∧ sl σ ≤ sl τ56 := by omega
      refine (Decidable.em (r56 = 0)).symm.elim (fun c59 => ?_) (fun c59 => ?_)
      · have hg := (if_neg c59).symm.trans hg
        exact ⟨Nat.le_trans hm.1 (m_X3_workArguments_b161 hg).1, Nat.le_trans hm.2 (m_X3_workArguments_b161 hg).2⟩
      · have hg := (if_pos c59).symm.trans hg
        refine (Decidable.em (v6 < v2)).elim (fun c65 => ?_) (fun c65 => ?_)
        · have hg := (if_pos c65).symm.trans hg
          exact ⟨Nat.le_trans hm.1 (m_X3_workArguments_b143 hrm35 hg).1, Nat.le_trans hm.2 (m_X3_workArguments_b143 hrm35 hg).2⟩
        · have hg := (if_neg c65).symm.trans hg
          refine (Decidable.em ((gI τ56 46) = 0)).elim (fun c72 => ?_) (fun c72 => ?_)
          · have hg := (if_pos c72).symm.trans hg
            exact ⟨Nat.le_trans hm.1 (m_X3_workArguments_b133 hrm35 hg).1, Nat.le_trans hm.2 (m_X3_workArguments_b133 hrm35 hg).2⟩
          · have hg := (if_neg c72).symm.trans hg
            obtain ⟨hi86, hg⟩ := gd_some hg
            refine (Decidable.em ((xA τ56 3 v4) ≤ v6)).elim (fun c87 => ?_) (fun c87 => ?_)
            · have hg := (if_pos c87).symm.trans hg
              exact ⟨Nat.le_trans hm.1 (m_X3_workArguments_b133 hrm35 hg).1, Nat.le_trans hm.2 (m_X3_workArguments_b133 hrm35 hg).2⟩
            · have hg := (if_neg c87).symm.trans hg
              obtain ⟨r98, τ98, hq98, hg⟩ := bd_some hg
              obtain ⟨ha98, hg⟩ := gq_some hg
              obtain ⟨hz98, hg⟩ := gq_some hg
              have hk98 : ka τ98 = ka τ56 ∧ sl τ98 = sl τ56 := ka_same ha98 hz98
              have hm : ka σ ≤ ka τ98 ∧ sl σ ≤ sl τ98 := by omega
              refine (Decidable.em (r98 = 0)).elim (fun c101 => ?_) (fun c101 => ?_)
              · have hg := (if_pos c101).symm.trans hg
                exact ⟨Nat.le_trans hm.1 (m_X3_workArguments_b133 hrm35 hg).1, Nat.le_trans hm.2 (m_X3_workArguments_b133 hrm35 hg).2⟩
              · have hg := (if_neg c101).symm.trans hg
                obtain ⟨r120, τ120, hq120, hg⟩ := bd_some hg
                obtain ⟨ha120, hg⟩ := gq_some hg
                obtain ⟨hz120, hg⟩ := gq_some hg
                have hk120 : ka τ120 = ka τ98 ∧ sl τ120 = sl τ98 := ka_same ha120 hz120
                have hm : ka σ ≤ ka τ120 ∧ sl σ ≤ sl τ120 := by omega
                obtain ⟨r123, τ123, hq123, hg⟩ := bd_some hg
                obtain ⟨ha123, hg⟩ := gle_some hg
                obtain ⟨hz123, hg⟩ := gle_some hg
                have hk123 : ka τ120 ≤ ka τ123 ∧ sl τ120 ≤ sl τ123 := ka_mono ha123 hz123
                have hm : ka σ ≤ ka τ123 ∧ sl σ ≤ sl τ123 := by omega
                exact ⟨Nat.le_trans hm.1 (m_X3_workArguments_b126 hg).1, Nat.le_trans hm.2 (m_X3_workArguments_b126 hg).2⟩
set_option maxHeartbeats 4000000 in
theorem m_X3_workArguments_L35  : ∀ (n : Nat) (v1 : Int32) (v2 : Int32) (v4 : Int32) (v5 : Int32) (v6 : Int32) (σ : S5), f_X3_workArguments_L35  n v1 v2 v4 v5 v6 σ = some (r, τ) → ka σ ≤ ka τ ∧ sl σ ≤ sl τ := by
  intro n
  induction n with
  | zero => intro v1 v2 v4 v5 v6 σ hg; cases hg
  | succ n ih => intro v1 v2 v4 v5 v6 σ hg; exact m_X3_workArguments_B35 ih hg
set_option maxHeartbeats 4000000 in
theorem m_X3_workArguments {σ : S5} {a1 : Int32} {a2 : Int32}  (hg : f_X3_workArguments a1 a2 σ = some (r, τ)) : ka σ ≤ ka τ ∧ sl σ ≤ sl τ := by
  have hm : ka σ ≤ ka σ ∧ sl σ ≤ sl σ := ⟨Nat.le_refl _, Nat.le_refl _⟩
  unfold f_X3_workArguments at hg
  obtain ⟨hi8, hg⟩ := gd_some hg
  obtain ⟨hi18, hg⟩ := gd_some hg
  obtain ⟨hi29, hg⟩ := gd_some hg
  exact ⟨Nat.le_trans hm.1 (m_X3_workArguments_L35 _ _ _ _ _ _ _ hg).1, Nat.le_trans hm.2 (m_X3_workArguments_L35 _ _ _ _ _ _ _ hg).2⟩
variable {p : Program} {l : Launch} {e : Env} {R : Room} {s : State} {m : MethodId} {args : Array Value} {below : List Frame} {meth : Method} {c : Code} {dC : Nat → ClassId} {dI : Nat → Nat → Nat} {Z : ZZ} {A : Nat → Prop} {ad : Nat → Nat} {kc : Nat → ClassId} {k0 s0 : Nat}
set_option maxHeartbeats 4000000 in
set_option maxRecDepth 100000 in
theorem w_X3_workArguments_b184 {sa va : Nat} {σ : S5}  {H : Heap} {locs : List Loc} {ls : Array Slot} (S : CallFix p m c cX3_workArguments 7 s args uG RX3) (hr : meth.sig.returnType = none) (hk : meth.locks = false) (hR : 193 ≤ R.frames ∧ 4695 ≤ R.locals) (hRc : ka τ - k0 ≤ R.cells ∧ sl τ - s0 ≤ R.slots)
    (hc : k0 ≤ ka σ ∧ s0 ≤ sl σ) (X : gX (dC, dI) (tK kc) (wK ad kc sa va) Z A s σ H locs) (hl : lv_has ls 7 []) (hg : f_X3_workArguments_b184  σ = some (r, τ)) : W p l e R s m args below meth c H locs (ka σ - k0) (sl σ - s0) (MQ below (gQy (dC, dI) (tK kc) (wK ad kc) A τ) args s (ka τ - k0) (sl τ - s0) A) (F0 m 184 ls []) := by
  have hx := S.1
  have hb := S.2.1
  have hown := S.2.2.2.1
  have hu := S.2.2.2.2
  have hn := m_X3_workArguments_b184 hg
  have hm : ka σ = ka σ ∧ sl σ = sl σ := ⟨rfl, rfl⟩
  unfold f_X3_workArguments_b184 at hg
  obtain ⟨-, rfl⟩ := fin_some hg
  refine W.widen (k := ka σ - k0) (n := sl σ - s0) (show ka σ - k0 ≤ ka σ - k0 by omega) (show sl σ - s0 ≤ sl σ - s0 by omega) ?_
  exact gr_y S hr hk X dX3_workArguments_184
set_option maxHeartbeats 4000000 in
set_option maxRecDepth 100000 in
theorem w_X3_workArguments_b161 {sa va : Nat} {σ : S5} {v1 : Int32} {v4 : Int32} {H : Heap} {locs : List Loc} {ls : Array Slot} (S : CallFix p m c cX3_workArguments 7 s args uG RX3) (hr : meth.sig.returnType = none) (hk : meth.locks = false) (hR : 193 ≤ R.frames ∧ 4695 ≤ R.locals) (hRc : ka τ - k0 ≤ R.cells ∧ sl τ - s0 ≤ R.slots)
    (hc : k0 ≤ ka σ ∧ s0 ≤ sl σ) (X : gX (dC, dI) (tK kc) (wK ad kc sa va) Z A s σ H locs) (hl : lv_has ls 7 [(0, .ref (ad 0)), (1, .int v1), (4, .int v4)]) (hg : f_X3_workArguments_b161 v1 v4 σ = some (r, τ)) : W p l e R s m args below meth c H locs (ka σ - k0) (sl σ - s0) (MQ below (gQy (dC, dI) (tK kc) (wK ad kc) A τ) args s (ka τ - k0) (sl τ - s0) A) (F0 m 161 ls []) := by
  have hx := S.1
  have hb := S.2.1
  have hown := S.2.2.2.1
  have hu := S.2.2.2.2
  have hn := m_X3_workArguments_b161 hg
  have hm : ka σ = ka σ ∧ sl σ = sl σ := ⟨rfl, rfl⟩
  unfold f_X3_workArguments_b161 at hg
  refine lv_aload_n hx hb dX3_workArguments_161 rfl (lv_at hl 0 rfl) ?_
  obtain ⟨r162, τ162, hq162, hg⟩ := bd_some hg
  obtain ⟨ha162, hg⟩ := gq_some hg
  obtain ⟨hz162, hg⟩ := gq_some hg
  have hk162 : ka τ162 = ka σ ∧ sl τ162 = sl σ := ka_same ha162 hz162
  refine gck_Vi (As := []) (rest := []) (q0 := 0) (ci := 6) S X (k2_X3_isOver l dC dI ad kc sa va hq162 H.size) cw_X3_isOver mG_1922 rfl rfl rfl rfl rfl hl.1 (Nat.le_of_ble_eq_true rfl) dX3_workArguments_162 ⟨by omega, by omega⟩ ⟨by omega, by omega⟩ (fun H locs X => ?_)
  have hm : ka τ162 = ka σ ∧ sl τ162 = sl σ := by omega
  refine lv_if_ne (tgt := 184) hx hb dX3_workArguments_165 (by decide) (fun c165 => ?_) (fun c165 => ?_)
  · have hg := (if_neg c165).symm.trans hg
    refine W.widen (k := ka τ162 - k0) (n := sl τ162 - s0) (show ka σ - k0 ≤ ka τ162 - k0 by omega) (show sl σ - s0 ≤ sl τ162 - s0 by omega) ?_
    exact w_X3_workArguments_b184 S hr hk hR hRc (show k0 ≤ ka τ162 ∧ s0 ≤ sl τ162 from (by omega : k0 ≤ ka τ162 ∧ s0 ≤ sl τ162)) X (lv_sub hl [] rfl) hg
  · have hg := (if_pos c165).symm.trans hg
    refine lv_aload_n hx hb dX3_workArguments_168 rfl (lv_at hl 0 rfl) ?_
    refine lv_iload hx hb dX3_workArguments_169 (lv_at hl 2 rfl) ?_
    refine lv_iconst (v := (-1)) hx hb dX3_workArguments_171 (by decide) ?_
    refine lv_aload_n hx hb dX3_workArguments_172 rfl (lv_at hl 0 rfl) ?_
    refine wkgR_0_0 S X mG_660 dX3_workArguments_173 ?_
    refine wkgR_3_2 S X mG_394 dX3_workArguments_176 ?_
    refine lv_iload_n hx hb dX3_workArguments_179 rfl (lv_at hl 1 rfl) ?_
    obtain ⟨hi180, hg⟩ := gd_some hg
    refine wklA_15 (v := (xA τ162 15 v1)) S X hi180 rfl dX3_workArguments_180 ?_
    obtain ⟨r181, τ181, hq181, hg⟩ := bd_some hg
    obtain ⟨ha181, hg⟩ := gle_some hg
    obtain ⟨hz181, hg⟩ := gle_some hg
    have hk181 : ka τ162 ≤ ka τ181 ∧ sl τ162 ≤ sl τ181 := ka_mono ha181 hz181
    have hn2 : ka τ181 ≤ ka τ ∧ sl τ181 ≤ sl τ := m_X3_workArguments_b184 hg
    refine gcy_V (w := wK ad kc) (As := [.int v4, .int (-1), .int (xA τ162 15 v1)]) (rest := []) (q0 := 0) (ci := 6) (mc := ka τ181 - ka τ162) (ms := sl τ181 - sl τ162) S X (k2_X3_enterCall l dC dI ad kc sa va hq181 H.size) cw_X3_enterCall mG_1947 rfl rfl rfl rfl rfl hl.1 (Nat.le_of_ble_eq_true rfl) dX3_workArguments_181 ⟨by omega, by omega⟩ ⟨by omega, by omega⟩ (fun sa va H locs X => ?_)
    refine W.widen (k := ka τ181 - k0) (n := sl τ181 - s0) (by omega) (by omega) ?_
    exact w_X3_workArguments_b184 S hr hk hR hRc (show k0 ≤ ka τ181 ∧ s0 ≤ sl τ181 from (by omega : k0 ≤ ka τ181 ∧ s0 ≤ sl τ181)) X (lv_sub hl [] rfl) hg
set_option maxHeartbeats 4000000 in
set_option maxRecDepth 100000 in
theorem w_X3_workArguments_b143 {sa va : Nat} {σ : S5} {rec35 : Int32 → Int32 → Int32 → Int32 → Int32 → S5 → Option (Unit × S5)} {v1 : Int32} {v2 : Int32} {v4 : Int32} {v5 : Int32} {v6 : Int32} {H : Heap} {locs : List Loc} {ls : Array Slot} (S : CallFix p m c cX3_workArguments 7 s args uG RX3) (hr : meth.sig.returnType = none) (hk : meth.locks = false) (hR : 193 ≤ R.frames ∧ 4695 ≤ R.locals) (hRc : ka τ - k0 ≤ R.cells ∧ sl τ - s0 ≤ R.slots)
    (hrec35 : ∀ (sa va : Nat) (v1 : Int32) (v2 : Int32) (v4 : Int32) (v5 : Int32) (v6 : Int32) (σ : S5) (H : Heap) (locs : List Loc) (ls : Array Slot), k0 ≤ ka σ ∧ s0 ≤ sl σ → gX (dC, dI) (tK kc) (wK ad kc sa va) Z A s σ H locs → lv_has ls 7 [(0, .ref (ad 0)), (1, .int v1), (2, .int v2), (4, .int v4), (5, .int v5), (6, .int v6)] → rec35 v1 v2 v4 v5 v6 σ = some (r, τ) → W p l e R s m args below meth c H locs (ka σ - k0) (sl σ - s0) (MQ below (gQy (dC, dI) (tK kc) (wK ad kc) A τ) args s (ka τ - k0) (sl τ - s0) A) (F0 m 35 ls [])) (hrm35 : ∀ (v1 : Int32) (v2 : Int32) (v4 : Int32) (v5 : Int32) (v6 : Int32) (σ : S5), rec35 v1 v2 v4 v5 v6 σ = some (r, τ) → ka σ ≤ ka τ ∧ sl σ ≤ sl τ)
    (hc : k0 ≤ ka σ ∧ s0 ≤ sl σ) (X : gX (dC, dI) (tK kc) (wK ad kc sa va) Z A s σ H locs) (hl : lv_has ls 7 [(0, .ref (ad 0)), (1, .int v1), (2, .int v2), (4, .int v4), (5, .int v5), (6, .int v6)]) (hg : f_X3_workArguments_b143 rec35 v1 v2 v4 v5 v6 σ = some (r, τ)) : W p l e R s m args below meth c H locs (ka σ - k0) (sl σ - s0) (MQ below (gQy (dC, dI) (tK kc) (wK ad kc) A τ) args s (ka τ - k0) (sl τ - s0) A) (F0 m 143 ls []) := by
  have hx := S.1
  have hb := S.2.1
  have hown := S.2.2.2.1
  have hu := S.2.2.2.2
  have hn := m_X3_workArguments_b143 hrm35 hg
  have hm : ka σ = ka σ ∧ sl σ = sl σ := ⟨rfl, rfl⟩
  unfold f_X3_workArguments_b143 at hg
  refine lv_aload_n hx hb dX3_workArguments_143 rfl (lv_at hl 0 rfl) ?_
  refine wkgR_0_0 S X mG_660 dX3_workArguments_144 ?_
  refine wkgR_3_4 S X mG_405 dX3_workArguments_147 ?_
  refine lv_iload hx hb dX3_workArguments_150 (lv_at hl 4 rfl) ?_
  obtain ⟨hi152, hg⟩ := gd_some hg
  refine wklA_17 (v := (xA σ 17 v5)) S X hi152 rfl dX3_workArguments_152 ?_
  refine lv_istore (lv' := [(5, .int (xA σ 17 v5)), (0, .ref (ad 0)), (1, .int v1), (2, .int v2), (4, .int v4), (6, .int v6)]) hx hb dX3_workArguments_153 hl (by decide) rfl (fun ls hl => ?_)
  refine lv_iinc (v := (v6 + 1)) (lv' := [(6, .int (v6 + 1)), (5, .int (xA σ 17 v5)), (0, .ref (ad 0)), (1, .int v1), (2, .int v2), (4, .int v4)]) hx hb dX3_workArguments_155 hl (k := 5) rfl (by rfl) (by decide) rfl (fun ls hl => ?_)
  refine lv_goto (tgt := 35) hx hb dX3_workArguments_158 (by decide) ?_
  refine W.widen (k := ka σ - k0) (n := sl σ - s0) (show ka σ - k0 ≤ ka σ - k0 by omega) (show sl σ - s0 ≤ sl σ - s0 by omega) ?_
  exact hrec35 _ _ _ _ _ _ _ _ _ _ _ (show k0 ≤ ka σ ∧ s0 ≤ sl σ from (by omega : k0 ≤ ka σ ∧ s0 ≤ sl σ)) X (lv_sub hl [2, 3, 4, 5, 1, 0] rfl) hg
set_option maxHeartbeats 4000000 in
set_option maxRecDepth 100000 in
theorem w_X3_workArguments_b133 {sa va : Nat} {σ : S5} {rec35 : Int32 → Int32 → Int32 → Int32 → Int32 → S5 → Option (Unit × S5)} {v1 : Int32} {v2 : Int32} {v4 : Int32} {v5 : Int32} {v6 : Int32} {H : Heap} {locs : List Loc} {ls : Array Slot} (S : CallFix p m c cX3_workArguments 7 s args uG RX3) (hr : meth.sig.returnType = none) (hk : meth.locks = false) (hR : 193 ≤ R.frames ∧ 4695 ≤ R.locals) (hRc : ka τ - k0 ≤ R.cells ∧ sl τ - s0 ≤ R.slots)
    (hrec35 : ∀ (sa va : Nat) (v1 : Int32) (v2 : Int32) (v4 : Int32) (v5 : Int32) (v6 : Int32) (σ : S5) (H : Heap) (locs : List Loc) (ls : Array Slot), k0 ≤ ka σ ∧ s0 ≤ sl σ → gX (dC, dI) (tK kc) (wK ad kc sa va) Z A s σ H locs → lv_has ls 7 [(0, .ref (ad 0)), (1, .int v1), (2, .int v2), (4, .int v4), (5, .int v5), (6, .int v6)] → rec35 v1 v2 v4 v5 v6 σ = some (r, τ) → W p l e R s m args below meth c H locs (ka σ - k0) (sl σ - s0) (MQ below (gQy (dC, dI) (tK kc) (wK ad kc) A τ) args s (ka τ - k0) (sl τ - s0) A) (F0 m 35 ls [])) (hrm35 : ∀ (v1 : Int32) (v2 : Int32) (v4 : Int32) (v5 : Int32) (v6 : Int32) (σ : S5), rec35 v1 v2 v4 v5 v6 σ = some (r, τ) → ka σ ≤ ka τ ∧ sl σ ≤ sl τ)
    (hc : k0 ≤ ka σ ∧ s0 ≤ sl σ) (X : gX (dC, dI) (tK kc) (wK ad kc sa va) Z A s σ H locs) (hl : lv_has ls 7 [(0, .ref (ad 0)), (1, .int v1), (2, .int v2), (4, .int v4), (5, .int v5), (6, .int v6)]) (hg : f_X3_workArguments_b133 rec35 v1 v2 v4 v5 v6 σ = some (r, τ)) : W p l e R s m args below meth c H locs (ka σ - k0) (sl σ - s0) (MQ below (gQy (dC, dI) (tK kc) (wK ad kc) A τ) args s (ka τ - k0) (sl τ - s0) A) (F0 m 133 ls []) := by
  have hx := S.1
  have hb := S.2.1
  have hown := S.2.2.2.1
  have hu := S.2.2.2.2
  have hn := m_X3_workArguments_b133 hrm35 hg
  have hm : ka σ = ka σ ∧ sl σ = sl σ := ⟨rfl, rfl⟩
  unfold f_X3_workArguments_b133 at hg
  refine lv_aload_n hx hb dX3_workArguments_133 rfl (lv_at hl 0 rfl) ?_
  refine lv_aload_n hx hb dX3_workArguments_134 rfl (lv_at hl 0 rfl) ?_
  refine lv_iload hx hb dX3_workArguments_135 (lv_at hl 4 rfl) ?_
  obtain ⟨r137, τ137, hq137, hg⟩ := bd_some hg
  obtain ⟨ha137, hg⟩ := gq_some hg
  obtain ⟨hz137, hg⟩ := gq_some hg
  have hk137 : ka τ137 = ka σ ∧ sl τ137 = sl σ := ka_same ha137 hz137
  refine gck_Vl (As := [.int v5]) (rest := [.ref (ad 0)]) (q0 := 0) (ci := 6) S X (k3_X3_keep l dC dI ad kc sa va 64 _ _ _ _ hq137 H.size) cw_X3_keep mG_1888 rfl rfl rfl rfl rfl hl.1 (Nat.le_of_ble_eq_true rfl) dX3_workArguments_137 ⟨by omega, by omega⟩ ⟨by omega, by omega⟩ (fun H locs X => ?_)
  have hm : ka τ137 = ka σ ∧ sl τ137 = sl σ := by omega
  obtain ⟨r140, τ140, hq140, hg⟩ := bd_some hg
  obtain ⟨ha140, hg⟩ := gle_some hg
  obtain ⟨hz140, hg⟩ := gle_some hg
  have hk140 : ka τ137 ≤ ka τ140 ∧ sl τ137 ≤ sl τ140 := ka_mono ha140 hz140
  have hn2 : ka τ140 ≤ ka τ ∧ sl τ140 ≤ sl τ := m_X3_workArguments_b143 hrm35 hg
  refine gcy_V (w := wK ad kc) (As := [.long r137]) (rest := []) (q0 := 0) (ci := 6) (mc := ka τ140 - ka τ137) (ms := sl τ140 - sl τ137) S X (k2_X3_push l dC dI ad kc sa va hq140 H.size) cw_X3_push mG_1814 rfl rfl rfl rfl rfl hl.1 (Nat.le_of_ble_eq_true rfl) dX3_workArguments_140 ⟨by omega, by omega⟩ ⟨by omega, by omega⟩ (fun sa va H locs X => ?_)
  refine W.widen (k := ka τ140 - k0) (n := sl τ140 - s0) (by omega) (by omega) ?_
  exact w_X3_workArguments_b143 S hr hk hR hRc hrec35 hrm35 (show k0 ≤ ka τ140 ∧ s0 ≤ sl τ140 from (by omega : k0 ≤ ka τ140 ∧ s0 ≤ sl τ140)) X (lv_sub hl [0, 1, 2, 3, 4, 5] rfl) hg
set_option maxHeartbeats 4000000 in
set_option maxRecDepth 100000 in
theorem w_X3_workArguments_b126 {sa va : Nat} {σ : S5} {v5 : Int32} {H : Heap} {locs : List Loc} {ls : Array Slot} (S : CallFix p m c cX3_workArguments 7 s args uG RX3) (hr : meth.sig.returnType = none) (hk : meth.locks = false) (hR : 193 ≤ R.frames ∧ 4695 ≤ R.locals) (hRc : ka τ - k0 ≤ R.cells ∧ sl τ - s0 ≤ R.slots)
    (hc : k0 ≤ ka σ ∧ s0 ≤ sl σ) (X : gX (dC, dI) (tK kc) (wK ad kc sa va) Z A s σ H locs) (hl : lv_has ls 7 [(0, .ref (ad 0)), (5, .int v5)]) (hg : f_X3_workArguments_b126 v5 σ = some (r, τ)) : W p l e R s m args below meth c H locs (ka σ - k0) (sl σ - s0) (MQ below (gQy (dC, dI) (tK kc) (wK ad kc) A τ) args s (ka τ - k0) (sl τ - s0) A) (F0 m 126 ls []) := by
  have hx := S.1
  have hb := S.2.1
  have hown := S.2.2.2.1
  have hu := S.2.2.2.2
  have hn := m_X3_workArguments_b126 hg
  have hm : ka σ = ka σ ∧ sl σ = sl σ := ⟨rfl, rfl⟩
  unfold f_X3_workArguments_b126 at hg
  refine lv_aload_n hx hb dX3_workArguments_126 rfl (lv_at hl 0 rfl) ?_
  refine lv_iload hx hb dX3_workArguments_127 (lv_at hl 1 rfl) ?_
  obtain ⟨r129, τ129, hq129, hg⟩ := bd_some hg
  obtain ⟨ha129, hg⟩ := gq_some hg
  obtain ⟨hz129, hg⟩ := gq_some hg
  have hk129 : ka τ129 = ka σ ∧ sl τ129 = sl σ := ka_same ha129 hz129
  refine gck_Vv (As := [.int v5]) (rest := []) (q0 := 0) (ci := 6) S X (k2_X3_workOn l dC dI ad kc sa va hq129 H.size) cw_X3_workOn mG_1879 rfl rfl rfl rfl rfl hl.1 (Nat.le_of_ble_eq_true rfl) dX3_workArguments_129 ⟨by omega, by omega⟩ ⟨by omega, by omega⟩ (fun H locs X => ?_)
  have hm : ka τ129 = ka σ ∧ sl τ129 = sl σ := by omega
  obtain ⟨-, rfl⟩ := fin_some hg
  refine W.widen (k := ka τ129 - k0) (n := sl τ129 - s0) (show ka σ - k0 ≤ ka τ129 - k0 by omega) (show sl σ - s0 ≤ sl τ129 - s0 by omega) ?_
  exact gr_y S hr hk X dX3_workArguments_132
set_option maxHeartbeats 4000000 in
set_option maxRecDepth 100000 in
theorem w_X3_workArguments_B35 {sa va : Nat} {σ : S5} {rec35 : Int32 → Int32 → Int32 → Int32 → Int32 → S5 → Option (Unit × S5)} {v1 : Int32} {v2 : Int32} {v4 : Int32} {v5 : Int32} {v6 : Int32} {H : Heap} {locs : List Loc} {ls : Array Slot} (S : CallFix p m c cX3_workArguments 7 s args uG RX3) (hr : meth.sig.returnType = none) (hk : meth.locks = false) (hR : 193 ≤ R.frames ∧ 4695 ≤ R.locals) (hRc : ka τ - k0 ≤ R.cells ∧ sl τ - s0 ≤ R.slots)
    (hrec35 : ∀ (sa va : Nat) (v1 : Int32) (v2 : Int32) (v4 : Int32) (v5 : Int32) (v6 : Int32) (σ : S5) (H : Heap) (locs : List Loc) (ls : Array Slot), k0 ≤ ka σ ∧ s0 ≤ sl σ → gX (dC, dI) (tK kc) (wK ad kc sa va) Z A s σ H locs → lv_has ls 7 [(0, .ref (ad 0)), (1, .int v1), (2, .int v2), (4, .int v4), (5, .int v5), (6, .int v6)] → rec35 v1 v2 v4 v5 v6 σ = some (r, τ) → W p l e R s m args below meth c H locs (ka σ - k0) (sl σ - s0) (MQ below (gQy (dC, dI) (tK kc) (wK ad kc) A τ) args s (ka τ - k0) (sl τ - s0) A) (F0 m 35 ls [])) (hrm35 : ∀ (v1 : Int32) (v2 : Int32) (v4 : Int32) (v5 : Int32) (v6 : Int32) (σ : S5), rec35 v1 v2 v4 v5 v6 σ = some (r, τ) → ka σ ≤ ka τ ∧ sl σ ≤ sl τ)
    (hc : k0 ≤ ka σ ∧ s0 ≤ sl σ) (X : gX (dC, dI) (tK kc) (wK ad kc sa va) Z A s σ H locs) (hl : lv_has ls 7 [(0, .ref (ad 0)), (1, .int v1), (2, .int v2), (4, .int v4), (5, .int v5), (6, .int v6)]) (hg : f_X3_workArguments_B35 rec35 v1 v2 v4 v5 v6 σ = some (r, τ)) : W p l e R s m args below meth c H locs (ka σ - k0) (sl σ - s0) (MQ below (gQy (dC, dI) (tK kc) (wK ad kc) A τ) args s (ka τ - k0) (sl τ - s0) A) (F0 m 35 ls []) := by
  have hx := S.1
  have hb := S.2.1
  have hown := S.2.2.2.1
  have hu := S.2.2.2.2
  have hn := m_X3_workArguments_B35 hrm35 hg
  have hm : ka σ = ka σ ∧ sl σ = sl σ := ⟨rfl, rfl⟩
  unfold f_X3_workArguments_B35 at hg
  refine lv_iload hx hb dX3_workArguments_35 (lv_at hl 5 rfl) ?_
  refine lv_aload_n hx hb dX3_workArguments_37 rfl (lv_at hl 0 rfl) ?_
  refine wkgR_0_0 S X mG_660 dX3_workArguments_38 ?_
  refine wkgR_3_2 S X mG_394 dX3_workArguments_41 ?_
  refine lv_iload_n hx hb dX3_workArguments_44 rfl (lv_at hl 1 rfl) ?_
  obtain ⟨hi45, hg⟩ := gd_some hg
  refine wklA_15 (v := (xA σ 15 v1)) S X hi45 rfl dX3_workArguments_45 ?_
  refine lv_icmp_ge (tgt := 161) hx hb dX3_workArguments_46 (by decide) (fun c46 => ?_) (fun c46 => ?_)
  · have hg := (if_pos c46).symm.trans hg
    refine W.widen (k := ka σ - k0) (n := sl σ - s0) (show ka σ - k0 ≤ ka σ - k0 by omega) (show sl σ - s0 ≤ sl σ - s0 by omega) ?_
    exact w_X3_workArguments_b161 S hr hk hR hRc (show k0 ≤ ka σ ∧ s0 ≤ sl σ from (by omega : k0 ≤ ka σ ∧ s0 ≤ sl σ)) X (lv_sub hl [0, 1, 3] rfl) hg
  · have hg := (if_neg c46).symm.trans hg
    refine lv_iload hx hb dX3_workArguments_49 (lv_at hl 4 rfl) ?_
    refine lv_iconst (v := (-1)) hx hb dX3_workArguments_51 (by decide) ?_
    refine lv_icmp_eq (tgt := 161) hx hb dX3_workArguments_52 (by decide) (fun c52 => ?_) (fun c52 => ?_)
    · have hg := (if_pos c52).symm.trans hg
      refine W.widen (k := ka σ - k0) (n := sl σ - s0) (show ka σ - k0 ≤ ka σ - k0 by omega) (show sl σ - s0 ≤ sl σ - s0 by omega) ?_
      exact w_X3_workArguments_b161 S hr hk hR hRc (show k0 ≤ ka σ ∧ s0 ≤ sl σ from (by omega : k0 ≤ ka σ ∧ s0 ≤ sl σ)) X (lv_sub hl [0, 1, 3] rfl) hg
    · have hg := (if_neg c52).symm.trans hg
      refine lv_aload_n hx hb dX3_workArguments_55 rfl (lv_at hl 0 rfl) ?_
      obtain ⟨r56, τ56, hq56, hg⟩ := bd_some hg
      obtain ⟨ha56, hg⟩ := gq_some hg
      obtain ⟨hz56, hg⟩ := gq_some hg
      have hk56 : ka τ56 = ka σ ∧ sl τ56 = sl σ := ka_same ha56 hz56
      refine gck_Vi (As := []) (rest := []) (q0 := 0) (ci := 6) S X (k2_X3_isOver l dC dI ad kc sa va hq56 H.size) cw_X3_isOver mG_1922 rfl rfl rfl rfl rfl hl.1 (Nat.le_of_ble_eq_true rfl) dX3_workArguments_56 ⟨by omega, by omega⟩ ⟨by omega, by omega⟩ (fun H locs X => ?_)
      have hm : ka τ56 = ka σ ∧ sl τ56 = sl σ := by omega
      refine lv_if_ne (tgt := 161) hx hb dX3_workArguments_59 (by decide) (fun c59 => ?_) (fun c59 => ?_)
      · have hg := (if_neg c59).symm.trans hg
        refine W.widen (k := ka τ56 - k0) (n := sl τ56 - s0) (show ka σ - k0 ≤ ka τ56 - k0 by omega) (show sl σ - s0 ≤ sl τ56 - s0 by omega) ?_
        exact w_X3_workArguments_b161 S hr hk hR hRc (show k0 ≤ ka τ56 ∧ s0 ≤ sl τ56 from (by omega : k0 ≤ ka τ56 ∧ s0 ≤ sl τ56)) X (lv_sub hl [0, 1, 3] rfl) hg
      · have hg := (if_pos c59).symm.trans hg
        refine lv_iload hx hb dX3_workArguments_62 (lv_at hl 5 rfl) ?_
        refine lv_iload_n hx hb dX3_workArguments_64 rfl (lv_at hl 2 rfl) ?_
        refine lv_icmp_lt (tgt := 143) hx hb dX3_workArguments_65 (by decide) (fun c65 => ?_) (fun c65 => ?_)
        · have hg := (if_pos c65).symm.trans hg
          refine W.widen (k := ka τ56 - k0) (n := sl τ56 - s0) (show ka σ - k0 ≤ ka τ56 - k0 by omega) (show sl σ - s0 ≤ sl τ56 - s0 by omega) ?_
          exact w_X3_workArguments_b143 S hr hk hR hRc hrec35 hrm35 (show k0 ≤ ka τ56 ∧ s0 ≤ sl τ56 from (by omega : k0 ≤ ka τ56 ∧ s0 ≤ sl τ56)) X (lv_sub hl [0, 1, 2, 3, 4, 5] rfl) hg
        · have hg := (if_neg c65).symm.trans hg
          refine lv_aload_n hx hb dX3_workArguments_68 rfl (lv_at hl 0 rfl) ?_
          refine wkgI_46 (v := (gI τ56 46)) S X mG_679 rfl dX3_workArguments_69 ?_
          refine lv_if_eq (tgt := 133) hx hb dX3_workArguments_72 (by decide) (fun c72 => ?_) (fun c72 => ?_)
          · have hg := (if_pos c72).symm.trans hg
            refine W.widen (k := ka τ56 - k0) (n := sl τ56 - s0) (show ka σ - k0 ≤ ka τ56 - k0 by omega) (show sl σ - s0 ≤ sl τ56 - s0 by omega) ?_
            exact w_X3_workArguments_b133 S hr hk hR hRc hrec35 hrm35 (show k0 ≤ ka τ56 ∧ s0 ≤ sl τ56 from (by omega : k0 ≤ ka τ56 ∧ s0 ≤ sl τ56)) X (lv_sub hl [0, 1, 2, 3, 4, 5] rfl) hg
          · have hg := (if_neg c72).symm.trans hg
            refine lv_iload hx hb dX3_workArguments_75 (lv_at hl 5 rfl) ?_
            refine lv_aload_n hx hb dX3_workArguments_77 rfl (lv_at hl 0 rfl) ?_
            refine wkgR_0_1 S X mG_661 dX3_workArguments_78 ?_
            refine wkgR_2_7 S X mG_310 dX3_workArguments_81 ?_
            refine lv_iload hx hb dX3_workArguments_84 (lv_at hl 3 rfl) ?_
            obtain ⟨hi86, hg⟩ := gd_some hg
            refine wklA_3 (v := (xA τ56 3 v4)) S X hi86 rfl dX3_workArguments_86 ?_
            refine lv_icmp_ge (tgt := 133) hx hb dX3_workArguments_87 (by decide) (fun c87 => ?_) (fun c87 => ?_)
            · have hg := (if_pos c87).symm.trans hg
              refine W.widen (k := ka τ56 - k0) (n := sl τ56 - s0) (show ka σ - k0 ≤ ka τ56 - k0 by omega) (show sl σ - s0 ≤ sl τ56 - s0 by omega) ?_
              exact w_X3_workArguments_b133 S hr hk hR hRc hrec35 hrm35 (show k0 ≤ ka τ56 ∧ s0 ≤ sl τ56 from (by omega : k0 ≤ ka τ56 ∧ s0 ≤ sl τ56)) X (lv_sub hl [0, 1, 2, 3, 4, 5] rfl) hg
            · have hg := (if_neg c87).symm.trans hg
              refine lv_aload_n hx hb dX3_workArguments_90 rfl (lv_at hl 0 rfl) ?_
              refine wkgR_0_1 S X mG_661 dX3_workArguments_91 ?_
              refine lv_iload hx hb dX3_workArguments_94 (lv_at hl 3 rfl) ?_
              refine lv_iload hx hb dX3_workArguments_96 (lv_at hl 5 rfl) ?_
              obtain ⟨r98, τ98, hq98, hg⟩ := bd_some hg
              obtain ⟨ha98, hg⟩ := gq_some hg
              obtain ⟨hz98, hg⟩ := gq_some hg
              have hk98 : ka τ98 = ka τ56 ∧ sl τ98 = sl τ56 := ka_same ha98 hz98
              refine gck_Vi (As := [.int v4, .int v6]) (rest := []) (q0 := 2) (ci := 7) S X (k2_X4_needsParameter_K l dC dI ad kc sa va hq98 H.size) cw_X4_needsParameter mG_1946 rfl rfl rfl rfl rfl hl.1 (Nat.le_of_ble_eq_true rfl) dX3_workArguments_98 ⟨by omega, by omega⟩ ⟨by omega, by omega⟩ (fun H locs X => ?_)
              have hm : ka τ98 = ka σ ∧ sl τ98 = sl σ := by omega
              refine lv_if_eq (tgt := 133) hx hb dX3_workArguments_101 (by decide) (fun c101 => ?_) (fun c101 => ?_)
              · have hg := (if_pos c101).symm.trans hg
                refine W.widen (k := ka τ98 - k0) (n := sl τ98 - s0) (show ka σ - k0 ≤ ka τ98 - k0 by omega) (show sl σ - s0 ≤ sl τ98 - s0 by omega) ?_
                exact w_X3_workArguments_b133 S hr hk hR hRc hrec35 hrm35 (show k0 ≤ ka τ98 ∧ s0 ≤ sl τ98 from (by omega : k0 ≤ ka τ98 ∧ s0 ≤ sl τ98)) X (lv_sub hl [0, 1, 2, 3, 4, 5] rfl) hg
              · have hg := (if_neg c101).symm.trans hg
                refine lv_aload_n hx hb dX3_workArguments_104 rfl (lv_at hl 0 rfl) ?_
                refine wkgR_0_2 S X mG_662 dX3_workArguments_105 ?_
                refine lv_bipush (v := 8) hx hb dX3_workArguments_108 (by decide) ?_
                refine lv_dup2_11 hx hb dX3_workArguments_110 rfl rfl ?_
                refine wklA_40 (v := (xA τ98 40 8)) S X (vp_in_iff.mpr (by decide)) rfl dX3_workArguments_111 ?_
                refine lv_iconst (v := 1) hx hb dX3_workArguments_112 (by decide) ?_
                refine lv_iadd hx hb dX3_workArguments_113 ?_
                refine wksA_40 S X (vp_in_iff.mpr (by decide)) dX3_workArguments_114 (fun H locs X => ?_)
                refine lv_aload_n hx hb dX3_workArguments_115 rfl (lv_at hl 0 rfl) ?_
                refine lv_iconst (v := 5) hx hb dX3_workArguments_116 (by decide) ?_
                refine lv_iload_n hx hb dX3_workArguments_117 rfl (lv_at hl 1 rfl) ?_
                refine lv_iload hx hb dX3_workArguments_118 (lv_at hl 5 rfl) ?_
                obtain ⟨r120, τ120, hq120, hg⟩ := bd_some hg
                obtain ⟨ha120, hg⟩ := gq_some hg
                obtain ⟨hz120, hg⟩ := gq_some hg
                have hk120 : ka τ120 = ka τ98 ∧ sl τ120 = sl τ98 := ka_same ha120 hz120
                refine gck_Sl (As := [.int 5, .int v1, .int v6]) (rest := [.ref (ad 0)]) S X (k2_X3_frame l dC dI ad kc sa va hq120 H.size) cw_X3_frame mG_1811 rfl rfl hl.1 (Nat.le_of_ble_eq_true rfl) dX3_workArguments_120 ⟨by omega, by omega⟩ ⟨by omega, by omega⟩ (fun H locs X => ?_)
                have hm : ka τ120 = ka σ ∧ sl τ120 = sl σ := by omega
                obtain ⟨r123, τ123, hq123, hg⟩ := bd_some hg
                obtain ⟨ha123, hg⟩ := gle_some hg
                obtain ⟨hz123, hg⟩ := gle_some hg
                have hk123 : ka τ120 ≤ ka τ123 ∧ sl τ120 ≤ sl τ123 := ka_mono ha123 hz123
                have hn2 : ka τ123 ≤ ka τ ∧ sl τ123 ≤ sl τ := m_X3_workArguments_b126 hg
                refine gcy_V (w := wK ad kc) (As := [.long r120]) (rest := []) (q0 := 0) (ci := 6) (mc := ka τ123 - ka τ120) (ms := sl τ123 - sl τ120) S X (k2_X3_push l dC dI ad kc sa va hq123 H.size) cw_X3_push mG_1814 rfl rfl rfl rfl rfl hl.1 (Nat.le_of_ble_eq_true rfl) dX3_workArguments_123 ⟨by omega, by omega⟩ ⟨by omega, by omega⟩ (fun sa va H locs X => ?_)
                refine W.widen (k := ka τ123 - k0) (n := sl τ123 - s0) (by omega) (by omega) ?_
                exact w_X3_workArguments_b126 S hr hk hR hRc (show k0 ≤ ka τ123 ∧ s0 ≤ sl τ123 from (by omega : k0 ≤ ka τ123 ∧ s0 ≤ sl τ123)) X (lv_sub hl [0, 4] rfl) hg
set_option maxHeartbeats 4000000 in
set_option maxRecDepth 100000 in
theorem w_X3_workArguments_L35 (S : CallFix p m c cX3_workArguments 7 s args uG RX3) (hr : meth.sig.returnType = none) (hk : meth.locks = false) (hR : 193 ≤ R.frames ∧ 4695 ≤ R.locals) (hRc : ka τ - k0 ≤ R.cells ∧ sl τ - s0 ≤ R.slots) : ∀ (n : Nat) (sa va : Nat) (v1 : Int32) (v2 : Int32) (v4 : Int32) (v5 : Int32) (v6 : Int32) (σ : S5) (H : Heap) (locs : List Loc) (ls : Array Slot), k0 ≤ ka σ ∧ s0 ≤ sl σ → gX (dC, dI) (tK kc) (wK ad kc sa va) Z A s σ H locs → lv_has ls 7 [(0, .ref (ad 0)), (1, .int v1), (2, .int v2), (4, .int v4), (5, .int v5), (6, .int v6)] → f_X3_workArguments_L35  n v1 v2 v4 v5 v6 σ = some (r, τ) → W p l e R s m args below meth c H locs (ka σ - k0) (sl σ - s0) (MQ below (gQy (dC, dI) (tK kc) (wK ad kc) A τ) args s (ka τ - k0) (sl τ - s0) A) (F0 m 35 ls []) := by
  intro n
  induction n with
  | zero => intro sa va v1 v2 v4 v5 v6 σ H locs ls hc X hl hg; cases hg
  | succ n ih => intro sa va v1 v2 v4 v5 v6 σ H locs ls hc X hl hg; exact w_X3_workArguments_B35 S hr hk hR hRc ih (m_X3_workArguments_L35 n) hc X hl hg
set_option maxHeartbeats 4000000 in
set_option maxRecDepth 100000 in
theorem w_X3_workArguments {sa va : Nat} {σ : S5} {a1 : Int32} {a2 : Int32} {H : Heap} {locs : List Loc} {ls : Array Slot} (S : CallFix p m c cX3_workArguments 7 s args uG RX3) (hr : meth.sig.returnType = none) (hk : meth.locks = false) (hR : 193 ≤ R.frames ∧ 4695 ≤ R.locals) (hRc : ka τ - k0 ≤ R.cells ∧ sl τ - s0 ≤ R.slots)
    (hc : k0 ≤ ka σ ∧ s0 ≤ sl σ) (X : gX (dC, dI) (tK kc) (wK ad kc sa va) Z A s σ H locs) (hl : lv_has ls 7 [(0, .ref (ad 0)), (1, .int a1), (2, .int a2)]) (hg : f_X3_workArguments a1 a2 σ = some (r, τ)) : W p l e R s m args below meth c H locs (ka σ - k0) (sl σ - s0) (MQ below (gQy (dC, dI) (tK kc) (wK ad kc) A τ) args s (ka τ - k0) (sl τ - s0) A) (F0 m 0 ls []) := by
  have hx := S.1
  have hb := S.2.1
  have hown := S.2.2.2.1
  have hu := S.2.2.2.2
  have hn := m_X3_workArguments hg
  have hm : ka σ = ka σ ∧ sl σ = sl σ := ⟨rfl, rfl⟩
  unfold f_X3_workArguments at hg
  refine lv_aload_n hx hb dX3_workArguments_0 rfl (lv_at hl 0 rfl) ?_
  refine wkgR_0_0 S X mG_660 dX3_workArguments_1 ?_
  refine wkgR_3_3 S X mG_398 dX3_workArguments_4 ?_
  refine lv_iload_n hx hb dX3_workArguments_7 rfl (lv_at hl 1 rfl) ?_
  obtain ⟨hi8, hg⟩ := gd_some hg
  refine wklA_16 (v := (xA σ 16 a1)) S X hi8 rfl dX3_workArguments_8 ?_
  refine lv_istore_n (lv' := [(3, .int (xA σ 16 a1)), (0, .ref (ad 0)), (1, .int a1), (2, .int a2)]) hx hb dX3_workArguments_9 rfl hl (by decide) rfl (fun ls hl => ?_)
  refine lv_aload_n hx hb dX3_workArguments_10 rfl (lv_at hl 1 rfl) ?_
  refine wkgR_0_0 S X mG_660 dX3_workArguments_11 ?_
  refine wkgR_3_1 S X mG_388 dX3_workArguments_14 ?_
  refine lv_iload_n hx hb dX3_workArguments_17 rfl (lv_at hl 0 rfl) ?_
  obtain ⟨hi18, hg⟩ := gd_some hg
  refine wklA_14 (v := (xA σ 14 (xA σ 16 a1))) S X hi18 rfl dX3_workArguments_18 ?_
  refine lv_istore (lv' := [(4, .int (xA σ 14 (xA σ 16 a1))), (3, .int (xA σ 16 a1)), (0, .ref (ad 0)), (1, .int a1), (2, .int a2)]) hx hb dX3_workArguments_19 hl (by decide) rfl (fun ls hl => ?_)
  refine lv_aload_n hx hb dX3_workArguments_21 rfl (lv_at hl 2 rfl) ?_
  refine wkgR_0_0 S X mG_660 dX3_workArguments_22 ?_
  refine wkgR_3_4 S X mG_405 dX3_workArguments_25 ?_
  refine lv_iload_n hx hb dX3_workArguments_28 rfl (lv_at hl 1 rfl) ?_
  obtain ⟨hi29, hg⟩ := gd_some hg
  refine wklA_17 (v := (xA σ 17 (xA σ 16 a1))) S X hi29 rfl dX3_workArguments_29 ?_
  refine lv_istore (lv' := [(5, .int (xA σ 17 (xA σ 16 a1))), (4, .int (xA σ 14 (xA σ 16 a1))), (3, .int (xA σ 16 a1)), (0, .ref (ad 0)), (1, .int a1), (2, .int a2)]) hx hb dX3_workArguments_30 hl (by decide) rfl (fun ls hl => ?_)
  refine lv_iconst (v := 0) hx hb dX3_workArguments_32 (by decide) ?_
  refine lv_istore (lv' := [(6, .int 0), (5, .int (xA σ 17 (xA σ 16 a1))), (4, .int (xA σ 14 (xA σ 16 a1))), (3, .int (xA σ 16 a1)), (0, .ref (ad 0)), (1, .int a1), (2, .int a2)]) hx hb dX3_workArguments_33 hl (by decide) rfl (fun ls hl => ?_)
  refine W.widen (k := ka σ - k0) (n := sl σ - s0) (show ka σ - k0 ≤ ka σ - k0 by omega) (show sl σ - s0 ≤ sl σ - s0 by omega) ?_
  exact w_X3_workArguments_L35 S hr hk hR hRc _ _ _ _ _ _ _ _ _ _ _ _ (show k0 ≤ ka σ ∧ s0 ≤ sl σ from (by omega : k0 ≤ ka σ ∧ s0 ≤ sl σ)) X (lv_sub hl [4, 5, 6, 2, 1, 0] rfl) hg
end MX3_workArguments
set_option maxRecDepth 100000 in
theorem k2_X3_workArguments (l : Launch) (dC : Nat → ClassId) (dI : Nat → Nat → Nat) {Z : ZZ} (ad : Nat → Nat) (kc : Nat → ClassId) (sa va : Nat) {σ τ : S5} {a1 : Int32} {a2 : Int32} {r : Unit} (hg : f_X3_workArguments a1 a2 σ = some (r, τ)) (sz : Nat) : Met l yX3_workArguments (Cond.code yX3_workArguments cX3_workArguments 7 none :: uG) { frames := 193, cells := ka τ - ka σ, slots := sl τ - sl σ, locals := 4695 } (gPc (dC, dI) (tK kc) (wK ad kc sa va) Z [.ref (ad 0), .int a1, .int a2] σ sz) (gQy (dC, dI) (tK kc) (wK ad kc) (va_A (wK ad kc sa va σ) sz) τ) (ka τ - ka σ) (sl τ - sl σ) (va_A (wK ad kc sa va σ) sz) :=
  gy_start (by decide) (Nat.le_of_ble_eq_true rfl) (fun p e s m below meth c ls S hr hk X hl => W.widen (Nat.zero_le _) (Nat.zero_le _) (w_X3_workArguments (k0 := ka σ) (s0 := sl σ) S hr hk ⟨Nat.le_refl _, Nat.le_refl _⟩ ⟨Nat.le_refl _, Nat.le_refl _⟩ ⟨Nat.le_refl _, Nat.le_refl _⟩ X hl hg))
section MX3_workApplication
variable {r : Unit} {τ : S5}
set_option maxHeartbeats 4000000 in
theorem m_X3_workApplication_b156 {σ : S5}   (hg : f_X3_workApplication_b156  σ = some (r, τ)) : ka σ ≤ ka τ ∧ sl σ ≤ sl τ := by
  have hm : ka σ ≤ ka σ ∧ sl σ ≤ sl σ := ⟨Nat.le_refl _, Nat.le_refl _⟩
  unfold f_X3_workApplication_b156 at hg
  obtain ⟨-, rfl⟩ := fin_some hg
  exact hm
set_option maxHeartbeats 4000000 in
theorem m_X3_workApplication_b122 {σ : S5} {v2 : Int32}  (hg : f_X3_workApplication_b122 v2 σ = some (r, τ)) : ka σ ≤ ka τ ∧ sl σ ≤ sl τ := by
  have hm : ka σ ≤ ka σ ∧ sl σ ≤ sl σ := ⟨Nat.le_refl _, Nat.le_refl _⟩
  unfold f_X3_workApplication_b122 at hg
  obtain ⟨r124, τ124, hq124, hg⟩ := bd_some hg
  obtain ⟨ha124, hg⟩ := gq_some hg
  obtain ⟨hz124, hg⟩ := gq_some hg
  have hk124 : ka τ124 = ka σ ∧ sl τ124 = sl σ := ka_same ha124 hz124
  have hm : ka σ ≤ ka τ124 ∧ sl σ ≤ sl τ124 := by omega
  exact ⟨Nat.le_trans hm.1 (m_X3_workApplication_b156 hg).1, Nat.le_trans hm.2 (m_X3_workApplication_b156 hg).2⟩
set_option maxHeartbeats 4000000 in
theorem m_X3_workApplication_b103 {σ : S5} {v1 : Int32} {v2 : Int32}  (hg : f_X3_workApplication_b103 v1 v2 σ = some (r, τ)) : ka σ ≤ ka τ ∧ sl σ ≤ sl τ := by
  have hm : ka σ ≤ ka σ ∧ sl σ ≤ sl σ := ⟨Nat.le_refl _, Nat.le_refl _⟩
  unfold f_X3_workApplication_b103 at hg
  obtain ⟨hi114, hg⟩ := gd_some hg
  obtain ⟨r116, τ116, hq116, hg⟩ := bd_some hg
  obtain ⟨ha116, hg⟩ := gq_some hg
  obtain ⟨hz116, hg⟩ := gq_some hg
  have hk116 : ka τ116 = ka σ ∧ sl τ116 = sl σ := ka_same ha116 hz116
  have hm : ka σ ≤ ka τ116 ∧ sl σ ≤ sl τ116 := by omega
  obtain ⟨r119, τ119, hq119, hg⟩ := bd_some hg
  obtain ⟨ha119, hg⟩ := gle_some hg
  obtain ⟨hz119, hg⟩ := gle_some hg
  have hk119 : ka τ116 ≤ ka τ119 ∧ sl τ116 ≤ sl τ119 := ka_mono ha119 hz119
  have hm : ka σ ≤ ka τ119 ∧ sl σ ≤ sl τ119 := by omega
  exact ⟨Nat.le_trans hm.1 (m_X3_workApplication_b122 hg).1, Nat.le_trans hm.2 (m_X3_workApplication_b122 hg).2⟩
set_option maxHeartbeats 4000000 in
theorem m_X3_workApplication_b85 {σ : S5} {rec56 : Int32 → Int32 → Int32 → Int32 → S5 → Option (Unit × S5)} {v1 : Int32} {v2 : Int32} {v3 : Int32} {v4 : Int32}  (hrm56 : ∀ (v1 : Int32) (v2 : Int32) (v3 : Int32) (v4 : Int32) (σ : S5), rec56 v1 v2 v3 v4 σ = some (r, τ) → ka σ ≤ ka τ ∧ sl σ ≤ sl τ) (hg : f_X3_workApplication_b85 rec56 v1 v2 v3 v4 σ = some (r, τ)) : ka σ ≤ ka τ ∧ sl σ ≤ sl τ := by
  have hm : ka σ ≤ ka σ ∧ sl σ ≤ sl σ := ⟨Nat.le_refl _, Nat.le_refl _⟩
  unfold f_X3_workApplication_b85 at hg
  obtain ⟨hi97, hg⟩ := gd_some hg
  exact ⟨Nat.le_trans hm.1 (hrm56 _ _ _ _ _ hg).1, Nat.le_trans hm.2 (hrm56 _ _ _ _ _ hg).2⟩
set_option maxHeartbeats 4000000 in
theorem m_X3_workApplication_B56 {σ : S5} {rec56 : Int32 → Int32 → Int32 → Int32 → S5 → Option (Unit × S5)} {v1 : Int32} {v2 : Int32} {v3 : Int32} {v4 : Int32}  (hrm56 : ∀ (v1 : Int32) (v2 : Int32) (v3 : Int32) (v4 : Int32) (σ : S5), rec56 v1 v2 v3 v4 σ = some (r, τ) → ka σ ≤ ka τ ∧ sl σ ≤ sl τ) (hg : f_X3_workApplication_B56 rec56 v1 v2 v3 v4 σ = some (r, τ)) : ka σ ≤ ka τ ∧ sl σ ≤ sl τ := by
  have hm : ka σ ≤ ka σ ∧ sl σ ≤ sl σ := ⟨Nat.le_refl _, Nat.le_refl _⟩
  unfold f_X3_workApplication_B56 at hg
  refine (Decidable.em (10 ≤ v3)).elim (fun c59 => ?_) (fun c59 => ?_)
  · have hg := (if_pos c59).symm.trans hg
    exact ⟨Nat.le_trans hm.1 (m_X3_workApplication_b103 hg).1, Nat.le_trans hm.2 (m_X3_workApplication_b103 hg).2⟩
  · have hg := (if_neg c59).symm.trans hg
    refine (Decidable.em (v4 = (-1))).elim (fun c65 => ?_) (fun c65 => ?_)
    · have hg := (if_pos c65).symm.trans hg
      exact ⟨Nat.le_trans hm.1 (m_X3_workApplication_b103 hg).1, Nat.le_trans hm.2 (m_X3_workApplication_b103 hg).2⟩
    · have hg := (if_neg c65).symm.trans hg
      obtain ⟨r69, τ69, hq69, hg⟩ := bd_some hg
      obtain ⟨ha69, hg⟩ := gq_some hg
      obtain ⟨hz69, hg⟩ := gq_some hg
      have hk69 : ka τ69 = ka σ ∧ sl τ69 = sl σ := ka_same ha69 hz69
      have hm : ka σ ≤ ka τ69 ∧ sl σ ≤ sl τ69 := by omega
      refine (Decidable.em (r69 = 0)).symm.elim (fun c72 => ?_) (fun c72 => ?_)
      · have hg := (if_neg c72).symm.trans hg
        exact ⟨Nat.le_trans hm.1 (m_X3_workApplication_b103 hg).1, Nat.le_trans hm.2 (m_X3_workApplication_b103 hg).2⟩
      · have hg := (if_pos c72).symm.trans hg
        obtain ⟨r79, τ79, hq79, hg⟩ := bd_some hg
        obtain ⟨ha79, hg⟩ := gq_some hg
        obtain ⟨hz79, hg⟩ := gq_some hg
        have hk79 : ka τ79 = ka τ69 ∧ sl τ79 = sl τ69 := ka_same ha79 hz79
        have hm : ka σ ≤ ka τ79 ∧ sl σ ≤ sl τ79 := by omega
        obtain ⟨r82, τ82, hq82, hg⟩ := bd_some hg
        obtain ⟨ha82, hg⟩ := gle_some hg
        obtain ⟨hz82, hg⟩ := gle_some hg
        have hk82 : ka τ79 ≤ ka τ82 ∧ sl τ79 ≤ sl τ82 := ka_mono ha82 hz82
        have hm : ka σ ≤ ka τ82 ∧ sl σ ≤ sl τ82 := by omega
        exact ⟨Nat.le_trans hm.1 (m_X3_workApplication_b85 hrm56 hg).1, Nat.le_trans hm.2 (m_X3_workApplication_b85 hrm56 hg).2⟩
set_option maxHeartbeats 4000000 in
theorem m_X3_workApplication_L56  : ∀ (n : Nat) (v1 : Int32) (v2 : Int32) (v3 : Int32) (v4 : Int32) (σ : S5), f_X3_workApplication_L56  n v1 v2 v3 v4 σ = some (r, τ) → ka σ ≤ ka τ ∧ sl σ ≤ sl τ := by
  intro n
  induction n with
  | zero => intro v1 v2 v3 v4 σ hg; cases hg
  | succ n ih => intro v1 v2 v3 v4 σ hg; exact m_X3_workApplication_B56 ih hg
set_option maxHeartbeats 4000000 in
theorem m_X3_workApplication_b43 {σ : S5} {v1 : Int32} {v2 : Int32}  (hg : f_X3_workApplication_b43 v1 v2 σ = some (r, τ)) : ka σ ≤ ka τ ∧ sl σ ≤ sl τ := by
  have hm : ka σ ≤ ka σ ∧ sl σ ≤ sl σ := ⟨Nat.le_refl _, Nat.le_refl _⟩
  unfold f_X3_workApplication_b43 at hg
  obtain ⟨hi53, hg⟩ := gd_some hg
  exact ⟨Nat.le_trans hm.1 (m_X3_workApplication_L56 _ _ _ _ _ _ hg).1, Nat.le_trans hm.2 (m_X3_workApplication_L56 _ _ _ _ _ _ hg).2⟩
set_option maxHeartbeats 4000000 in
theorem m_X3_workApplication {σ : S5} {a1 : Int32}  (hg : f_X3_workApplication a1 σ = some (r, τ)) : ka σ ≤ ka τ ∧ sl σ ≤ sl τ := by
  have hm : ka σ ≤ ka σ ∧ sl σ ≤ sl σ := ⟨Nat.le_refl _, Nat.le_refl _⟩
  unfold f_X3_workApplication at hg
  obtain ⟨hi8, hg⟩ := gd_some hg
  obtain ⟨hi18, hg⟩ := gd_some hg
  refine (Decidable.em ((xA σ 13 (xA σ 16 a1)) = 2)).symm.elim (fun c20 => ?_) (fun c20 => ?_)
  · have hg := (if_neg c20).symm.trans hg
    exact ⟨Nat.le_trans hm.1 (m_X3_workApplication_b43 hg).1, Nat.le_trans hm.2 (m_X3_workApplication_b43 hg).2⟩
  · have hg := (if_pos c20).symm.trans hg
    obtain ⟨hi38, hg⟩ := gd_some hg
    obtain ⟨hi39, hg⟩ := gd_some hg
    refine (Decidable.em ((xA σ 3 (xA σ 14 (xA σ 16 a1))) = 0)).symm.elim (fun c40 => ?_) (fun c40 => ?_)
    · have hg := (if_neg c40).symm.trans hg
      obtain ⟨r132, τ132, hq132, hg⟩ := bd_some hg
      obtain ⟨ha132, hg⟩ := gq_some hg
      obtain ⟨hz132, hg⟩ := gq_some hg
      have hk132 : ka τ132 = ka σ ∧ sl τ132 = sl σ := ka_same ha132 hz132
      have hm : ka σ ≤ ka τ132 ∧ sl σ ≤ sl τ132 := by omega
      refine (Decidable.em (r132 = 0)).elim (fun c135 => ?_) (fun c135 => ?_)
      · have hg := (if_pos c135).symm.trans hg
        obtain ⟨r153, τ153, hq153, hg⟩ := bd_some hg
        obtain ⟨ha153, hg⟩ := gle_some hg
        obtain ⟨hz153, hg⟩ := gle_some hg
        have hk153 : ka τ132 ≤ ka τ153 ∧ sl τ132 ≤ sl τ153 := ka_mono ha153 hz153
        have hm : ka σ ≤ ka τ153 ∧ sl σ ≤ sl τ153 := by omega
        exact ⟨Nat.le_trans hm.1 (m_X3_workApplication_b156 hg).1, Nat.le_trans hm.2 (m_X3_workApplication_b156 hg).2⟩
      · have hg := (if_neg c135).symm.trans hg
        obtain ⟨r141, τ141, hq141, hg⟩ := bd_some hg
        obtain ⟨ha141, hg⟩ := gq_some hg
        obtain ⟨hz141, hg⟩ := gq_some hg
        have hk141 : ka τ141 = ka τ132 ∧ sl τ141 = sl τ132 := ka_same ha141 hz141
        have hm : ka σ ≤ ka τ141 ∧ sl σ ≤ sl τ141 := by omega
        obtain ⟨r144, τ144, hq144, hg⟩ := bd_some hg
        obtain ⟨ha144, hg⟩ := gq_some hg
        obtain ⟨hz144, hg⟩ := gq_some hg
        have hk144 : ka τ144 = ka τ141 ∧ sl τ144 = sl τ141 := ka_same ha144 hz144
        have hm : ka σ ≤ ka τ144 ∧ sl σ ≤ sl τ144 := by omega
        exact ⟨Nat.le_trans hm.1 (m_X3_workApplication_b156 hg).1, Nat.le_trans hm.2 (m_X3_workApplication_b156 hg).2⟩
    · have hg := (if_pos c40).symm.trans hg
      exact ⟨Nat.le_trans hm.1 (m_X3_workApplication_b43 hg).1, Nat.le_trans hm.2 (m_X3_workApplication_b43 hg).2⟩
variable {p : Program} {l : Launch} {e : Env} {R : Room} {s : State} {m : MethodId} {args : Array Value} {below : List Frame} {meth : Method} {c : Code} {dC : Nat → ClassId} {dI : Nat → Nat → Nat} {Z : ZZ} {A : Nat → Prop} {ad : Nat → Nat} {kc : Nat → ClassId} {k0 s0 : Nat}
set_option maxHeartbeats 4000000 in
set_option maxRecDepth 100000 in
theorem w_X3_workApplication_b156 {sa va : Nat} {σ : S5}  {H : Heap} {locs : List Loc} {ls : Array Slot} (S : CallFix p m c cX3_workApplication 5 s args uG RX3) (hr : meth.sig.returnType = none) (hk : meth.locks = false) (hR : 194 ≤ R.frames ∧ 4721 ≤ R.locals) (hRc : ka τ - k0 ≤ R.cells ∧ sl τ - s0 ≤ R.slots)
    (hc : k0 ≤ ka σ ∧ s0 ≤ sl σ) (X : gX (dC, dI) (tK kc) (wK ad kc sa va) Z A s σ H locs) (hl : lv_has ls 5 []) (hg : f_X3_workApplication_b156  σ = some (r, τ)) : W p l e R s m args below meth c H locs (ka σ - k0) (sl σ - s0) (MQ below (gQy (dC, dI) (tK kc) (wK ad kc) A τ) args s (ka τ - k0) (sl τ - s0) A) (F0 m 156 ls []) := by
  have hx := S.1
  have hb := S.2.1
  have hown := S.2.2.2.1
  have hu := S.2.2.2.2
  have hn := m_X3_workApplication_b156 hg
  have hm : ka σ = ka σ ∧ sl σ = sl σ := ⟨rfl, rfl⟩
  unfold f_X3_workApplication_b156 at hg
  obtain ⟨-, rfl⟩ := fin_some hg
  refine W.widen (k := ka σ - k0) (n := sl σ - s0) (show ka σ - k0 ≤ ka σ - k0 by omega) (show sl σ - s0 ≤ sl σ - s0 by omega) ?_
  exact gr_y S hr hk X dX3_workApplication_156
set_option maxHeartbeats 4000000 in
set_option maxRecDepth 100000 in
theorem w_X3_workApplication_b122 {sa va : Nat} {σ : S5} {v2 : Int32} {H : Heap} {locs : List Loc} {ls : Array Slot} (S : CallFix p m c cX3_workApplication 5 s args uG RX3) (hr : meth.sig.returnType = none) (hk : meth.locks = false) (hR : 194 ≤ R.frames ∧ 4721 ≤ R.locals) (hRc : ka τ - k0 ≤ R.cells ∧ sl τ - s0 ≤ R.slots)
    (hc : k0 ≤ ka σ ∧ s0 ≤ sl σ) (X : gX (dC, dI) (tK kc) (wK ad kc sa va) Z A s σ H locs) (hl : lv_has ls 5 [(0, .ref (ad 0)), (2, .int v2)]) (hg : f_X3_workApplication_b122 v2 σ = some (r, τ)) : W p l e R s m args below meth c H locs (ka σ - k0) (sl σ - s0) (MQ below (gQy (dC, dI) (tK kc) (wK ad kc) A τ) args s (ka τ - k0) (sl τ - s0) A) (F0 m 122 ls []) := by
  have hx := S.1
  have hb := S.2.1
  have hown := S.2.2.2.1
  have hu := S.2.2.2.2
  have hn := m_X3_workApplication_b122 hg
  have hm : ka σ = ka σ ∧ sl σ = sl σ := ⟨rfl, rfl⟩
  unfold f_X3_workApplication_b122 at hg
  refine lv_aload_n hx hb dX3_workApplication_122 rfl (lv_at hl 0 rfl) ?_
  refine lv_iload_n hx hb dX3_workApplication_123 rfl (lv_at hl 1 rfl) ?_
  obtain ⟨r124, τ124, hq124, hg⟩ := bd_some hg
  obtain ⟨ha124, hg⟩ := gq_some hg
  obtain ⟨hz124, hg⟩ := gq_some hg
  have hk124 : ka τ124 = ka σ ∧ sl τ124 = sl σ := ka_same ha124 hz124
  refine gck_Vv (As := [.int v2]) (rest := []) (q0 := 0) (ci := 6) S X (k2_X3_workOn l dC dI ad kc sa va hq124 H.size) cw_X3_workOn mG_1879 rfl rfl rfl rfl rfl hl.1 (Nat.le_of_ble_eq_true rfl) dX3_workApplication_124 ⟨by omega, by omega⟩ ⟨by omega, by omega⟩ (fun H locs X => ?_)
  have hm : ka τ124 = ka σ ∧ sl τ124 = sl σ := by omega
  refine lv_goto (tgt := 156) hx hb dX3_workApplication_127 (by decide) ?_
  refine W.widen (k := ka τ124 - k0) (n := sl τ124 - s0) (show ka σ - k0 ≤ ka τ124 - k0 by omega) (show sl σ - s0 ≤ sl τ124 - s0 by omega) ?_
  exact w_X3_workApplication_b156 S hr hk hR hRc (show k0 ≤ ka τ124 ∧ s0 ≤ sl τ124 from (by omega : k0 ≤ ka τ124 ∧ s0 ≤ sl τ124)) X (lv_sub hl [] rfl) hg
set_option maxHeartbeats 4000000 in
set_option maxRecDepth 100000 in
theorem w_X3_workApplication_b103 {sa va : Nat} {σ : S5} {v1 : Int32} {v2 : Int32} {H : Heap} {locs : List Loc} {ls : Array Slot} (S : CallFix p m c cX3_workApplication 5 s args uG RX3) (hr : meth.sig.returnType = none) (hk : meth.locks = false) (hR : 194 ≤ R.frames ∧ 4721 ≤ R.locals) (hRc : ka τ - k0 ≤ R.cells ∧ sl τ - s0 ≤ R.slots)
    (hc : k0 ≤ ka σ ∧ s0 ≤ sl σ) (X : gX (dC, dI) (tK kc) (wK ad kc sa va) Z A s σ H locs) (hl : lv_has ls 5 [(0, .ref (ad 0)), (1, .int v1), (2, .int v2)]) (hg : f_X3_workApplication_b103 v1 v2 σ = some (r, τ)) : W p l e R s m args below meth c H locs (ka σ - k0) (sl σ - s0) (MQ below (gQy (dC, dI) (tK kc) (wK ad kc) A τ) args s (ka τ - k0) (sl τ - s0) A) (F0 m 103 ls []) := by
  have hx := S.1
  have hb := S.2.1
  have hown := S.2.2.2.1
  have hu := S.2.2.2.2
  have hn := m_X3_workApplication_b103 hg
  have hm : ka σ = ka σ ∧ sl σ = sl σ := ⟨rfl, rfl⟩
  unfold f_X3_workApplication_b103 at hg
  refine lv_aload_n hx hb dX3_workApplication_103 rfl (lv_at hl 0 rfl) ?_
  refine lv_bipush (v := 6) hx hb dX3_workApplication_104 (by decide) ?_
  refine lv_aload_n hx hb dX3_workApplication_106 rfl (lv_at hl 0 rfl) ?_
  refine wkgR_0_0 S X mG_660 dX3_workApplication_107 ?_
  refine wkgR_3_2 S X mG_394 dX3_workApplication_110 ?_
  refine lv_iload_n hx hb dX3_workApplication_113 rfl (lv_at hl 1 rfl) ?_
  obtain ⟨hi114, hg⟩ := gd_some hg
  refine wklA_15 (v := (xA σ 15 v1)) S X hi114 rfl dX3_workApplication_114 ?_
  refine lv_iconst (v := 0) hx hb dX3_workApplication_115 (by decide) ?_
  obtain ⟨r116, τ116, hq116, hg⟩ := bd_some hg
  obtain ⟨ha116, hg⟩ := gq_some hg
  obtain ⟨hz116, hg⟩ := gq_some hg
  have hk116 : ka τ116 = ka σ ∧ sl τ116 = sl σ := ka_same ha116 hz116
  refine gck_Sl (As := [.int 6, .int (xA σ 15 v1), .int 0]) (rest := [.ref (ad 0)]) S X (k2_X3_frame l dC dI ad kc sa va hq116 H.size) cw_X3_frame mG_1811 rfl rfl hl.1 (Nat.le_of_ble_eq_true rfl) dX3_workApplication_116 ⟨by omega, by omega⟩ ⟨by omega, by omega⟩ (fun H locs X => ?_)
  have hm : ka τ116 = ka σ ∧ sl τ116 = sl σ := by omega
  obtain ⟨r119, τ119, hq119, hg⟩ := bd_some hg
  obtain ⟨ha119, hg⟩ := gle_some hg
  obtain ⟨hz119, hg⟩ := gle_some hg
  have hk119 : ka τ116 ≤ ka τ119 ∧ sl τ116 ≤ sl τ119 := ka_mono ha119 hz119
  have hn2 : ka τ119 ≤ ka τ ∧ sl τ119 ≤ sl τ := m_X3_workApplication_b122 hg
  refine gcy_V (w := wK ad kc) (As := [.long r116]) (rest := []) (q0 := 0) (ci := 6) (mc := ka τ119 - ka τ116) (ms := sl τ119 - sl τ116) S X (k2_X3_push l dC dI ad kc sa va hq119 H.size) cw_X3_push mG_1814 rfl rfl rfl rfl rfl hl.1 (Nat.le_of_ble_eq_true rfl) dX3_workApplication_119 ⟨by omega, by omega⟩ ⟨by omega, by omega⟩ (fun sa va H locs X => ?_)
  refine W.widen (k := ka τ119 - k0) (n := sl τ119 - s0) (by omega) (by omega) ?_
  exact w_X3_workApplication_b122 S hr hk hR hRc (show k0 ≤ ka τ119 ∧ s0 ≤ sl τ119 from (by omega : k0 ≤ ka τ119 ∧ s0 ≤ sl τ119)) X (lv_sub hl [0, 2] rfl) hg
set_option maxHeartbeats 4000000 in
set_option maxRecDepth 100000 in
theorem w_X3_workApplication_b85 {sa va : Nat} {σ : S5} {rec56 : Int32 → Int32 → Int32 → Int32 → S5 → Option (Unit × S5)} {v1 : Int32} {v2 : Int32} {v3 : Int32} {v4 : Int32} {H : Heap} {locs : List Loc} {ls : Array Slot} (S : CallFix p m c cX3_workApplication 5 s args uG RX3) (hr : meth.sig.returnType = none) (hk : meth.locks = false) (hR : 194 ≤ R.frames ∧ 4721 ≤ R.locals) (hRc : ka τ - k0 ≤ R.cells ∧ sl τ - s0 ≤ R.slots)
    (hrec56 : ∀ (sa va : Nat) (v1 : Int32) (v2 : Int32) (v3 : Int32) (v4 : Int32) (σ : S5) (H : Heap) (locs : List Loc) (ls : Array Slot), k0 ≤ ka σ ∧ s0 ≤ sl σ → gX (dC, dI) (tK kc) (wK ad kc sa va) Z A s σ H locs → lv_has ls 5 [(0, .ref (ad 0)), (1, .int v1), (2, .int v2), (3, .int v3), (4, .int v4)] → rec56 v1 v2 v3 v4 σ = some (r, τ) → W p l e R s m args below meth c H locs (ka σ - k0) (sl σ - s0) (MQ below (gQy (dC, dI) (tK kc) (wK ad kc) A τ) args s (ka τ - k0) (sl τ - s0) A) (F0 m 56 ls [])) (hrm56 : ∀ (v1 : Int32) (v2 : Int32) (v3 : Int32) (v4 : Int32) (σ : S5), rec56 v1 v2 v3 v4 σ = some (r, τ) → ka σ ≤ ka τ ∧ sl σ ≤ sl τ)
    (hc : k0 ≤ ka σ ∧ s0 ≤ sl σ) (X : gX (dC, dI) (tK kc) (wK ad kc sa va) Z A s σ H locs) (hl : lv_has ls 5 [(0, .ref (ad 0)), (1, .int v1), (2, .int v2), (3, .int v3), (4, .int v4)]) (hg : f_X3_workApplication_b85 rec56 v1 v2 v3 v4 σ = some (r, τ)) : W p l e R s m args below meth c H locs (ka σ - k0) (sl σ - s0) (MQ below (gQy (dC, dI) (tK kc) (wK ad kc) A τ) args s (ka τ - k0) (sl τ - s0) A) (F0 m 85 ls []) := by
  have hx := S.1
  have hb := S.2.1
  have hown := S.2.2.2.1
  have hu := S.2.2.2.2
  have hn := m_X3_workApplication_b85 hrm56 hg
  have hm : ka σ = ka σ ∧ sl σ = sl σ := ⟨rfl, rfl⟩
  unfold f_X3_workApplication_b85 at hg
  refine lv_iinc (v := (v3 + 1)) (lv' := [(3, .int (v3 + 1)), (0, .ref (ad 0)), (1, .int v1), (2, .int v2), (4, .int v4)]) hx hb dX3_workApplication_85 hl (k := 3) rfl (by rfl) (by decide) rfl (fun ls hl => ?_)
  refine lv_aload_n hx hb dX3_workApplication_88 rfl (lv_at hl 1 rfl) ?_
  refine wkgR_0_0 S X mG_660 dX3_workApplication_89 ?_
  refine wkgR_3_4 S X mG_405 dX3_workApplication_92 ?_
  refine lv_iload hx hb dX3_workApplication_95 (lv_at hl 4 rfl) ?_
  obtain ⟨hi97, hg⟩ := gd_some hg
  refine wklA_17 (v := (xA σ 17 v4)) S X hi97 rfl dX3_workApplication_97 ?_
  refine lv_istore (lv' := [(4, .int (xA σ 17 v4)), (3, .int (v3 + 1)), (0, .ref (ad 0)), (1, .int v1), (2, .int v2)]) hx hb dX3_workApplication_98 hl (by decide) rfl (fun ls hl => ?_)
  refine lv_goto (tgt := 56) hx hb dX3_workApplication_100 (by decide) ?_
  refine W.widen (k := ka σ - k0) (n := sl σ - s0) (show ka σ - k0 ≤ ka σ - k0 by omega) (show sl σ - s0 ≤ sl σ - s0 by omega) ?_
  exact hrec56 _ _ _ _ _ _ _ _ _ _ (show k0 ≤ ka σ ∧ s0 ≤ sl σ from (by omega : k0 ≤ ka σ ∧ s0 ≤ sl σ)) X (lv_sub hl [2, 3, 4, 1, 0] rfl) hg
set_option maxHeartbeats 4000000 in
set_option maxRecDepth 100000 in
theorem w_X3_workApplication_B56 {sa va : Nat} {σ : S5} {rec56 : Int32 → Int32 → Int32 → Int32 → S5 → Option (Unit × S5)} {v1 : Int32} {v2 : Int32} {v3 : Int32} {v4 : Int32} {H : Heap} {locs : List Loc} {ls : Array Slot} (S : CallFix p m c cX3_workApplication 5 s args uG RX3) (hr : meth.sig.returnType = none) (hk : meth.locks = false) (hR : 194 ≤ R.frames ∧ 4721 ≤ R.locals) (hRc : ka τ - k0 ≤ R.cells ∧ sl τ - s0 ≤ R.slots)
    (hrec56 : ∀ (sa va : Nat) (v1 : Int32) (v2 : Int32) (v3 : Int32) (v4 : Int32) (σ : S5) (H : Heap) (locs : List Loc) (ls : Array Slot), k0 ≤ ka σ ∧ s0 ≤ sl σ → gX (dC, dI) (tK kc) (wK ad kc sa va) Z A s σ H locs → lv_has ls 5 [(0, .ref (ad 0)), (1, .int v1), (2, .int v2), (3, .int v3), (4, .int v4)] → rec56 v1 v2 v3 v4 σ = some (r, τ) → W p l e R s m args below meth c H locs (ka σ - k0) (sl σ - s0) (MQ below (gQy (dC, dI) (tK kc) (wK ad kc) A τ) args s (ka τ - k0) (sl τ - s0) A) (F0 m 56 ls [])) (hrm56 : ∀ (v1 : Int32) (v2 : Int32) (v3 : Int32) (v4 : Int32) (σ : S5), rec56 v1 v2 v3 v4 σ = some (r, τ) → ka σ ≤ ka τ ∧ sl σ ≤ sl τ)
    (hc : k0 ≤ ka σ ∧ s0 ≤ sl σ) (X : gX (dC, dI) (tK kc) (wK ad kc sa va) Z A s σ H locs) (hl : lv_has ls 5 [(0, .ref (ad 0)), (1, .int v1), (2, .int v2), (3, .int v3), (4, .int v4)]) (hg : f_X3_workApplication_B56 rec56 v1 v2 v3 v4 σ = some (r, τ)) : W p l e R s m args below meth c H locs (ka σ - k0) (sl σ - s0) (MQ below (gQy (dC, dI) (tK kc) (wK ad kc) A τ) args s (ka τ - k0) (sl τ - s0) A) (F0 m 56 ls []) := by
  have hx := S.1
  have hb := S.2.1
  have hown := S.2.2.2.1
  have hu := S.2.2.2.2
  have hn := m_X3_workApplication_B56 hrm56 hg
  have hm : ka σ = ka σ ∧ sl σ = sl σ := ⟨rfl, rfl⟩
  unfold f_X3_workApplication_B56 at hg
  refine lv_iload_n hx hb dX3_workApplication_56 rfl (lv_at hl 3 rfl) ?_
  refine lv_bipush (v := 10) hx hb dX3_workApplication_57 (by decide) ?_
  refine lv_icmp_ge (tgt := 103) hx hb dX3_workApplication_59 (by decide) (fun c59 => ?_) (fun c59 => ?_)
  · have hg := (if_pos c59).symm.trans hg
    refine W.widen (k := ka σ - k0) (n := sl σ - s0) (show ka σ - k0 ≤ ka σ - k0 by omega) (show sl σ - s0 ≤ sl σ - s0 by omega) ?_
    exact w_X3_workApplication_b103 S hr hk hR hRc (show k0 ≤ ka σ ∧ s0 ≤ sl σ from (by omega : k0 ≤ ka σ ∧ s0 ≤ sl σ)) X (lv_sub hl [0, 1, 2] rfl) hg
  · have hg := (if_neg c59).symm.trans hg
    refine lv_iload hx hb dX3_workApplication_62 (lv_at hl 4 rfl) ?_
    refine lv_iconst (v := (-1)) hx hb dX3_workApplication_64 (by decide) ?_
    refine lv_icmp_eq (tgt := 103) hx hb dX3_workApplication_65 (by decide) (fun c65 => ?_) (fun c65 => ?_)
    · have hg := (if_pos c65).symm.trans hg
      refine W.widen (k := ka σ - k0) (n := sl σ - s0) (show ka σ - k0 ≤ ka σ - k0 by omega) (show sl σ - s0 ≤ sl σ - s0 by omega) ?_
      exact w_X3_workApplication_b103 S hr hk hR hRc (show k0 ≤ ka σ ∧ s0 ≤ sl σ from (by omega : k0 ≤ ka σ ∧ s0 ≤ sl σ)) X (lv_sub hl [0, 1, 2] rfl) hg
    · have hg := (if_neg c65).symm.trans hg
      refine lv_aload_n hx hb dX3_workApplication_68 rfl (lv_at hl 0 rfl) ?_
      obtain ⟨r69, τ69, hq69, hg⟩ := bd_some hg
      obtain ⟨ha69, hg⟩ := gq_some hg
      obtain ⟨hz69, hg⟩ := gq_some hg
      have hk69 : ka τ69 = ka σ ∧ sl τ69 = sl σ := ka_same ha69 hz69
      refine gck_Vi (As := []) (rest := []) (q0 := 0) (ci := 6) S X (k2_X3_isOver l dC dI ad kc sa va hq69 H.size) cw_X3_isOver mG_1922 rfl rfl rfl rfl rfl hl.1 (Nat.le_of_ble_eq_true rfl) dX3_workApplication_69 ⟨by omega, by omega⟩ ⟨by omega, by omega⟩ (fun H locs X => ?_)
      have hm : ka τ69 = ka σ ∧ sl τ69 = sl σ := by omega
      refine lv_if_ne (tgt := 103) hx hb dX3_workApplication_72 (by decide) (fun c72 => ?_) (fun c72 => ?_)
      · have hg := (if_neg c72).symm.trans hg
        refine W.widen (k := ka τ69 - k0) (n := sl τ69 - s0) (show ka σ - k0 ≤ ka τ69 - k0 by omega) (show sl σ - s0 ≤ sl τ69 - s0 by omega) ?_
        exact w_X3_workApplication_b103 S hr hk hR hRc (show k0 ≤ ka τ69 ∧ s0 ≤ sl τ69 from (by omega : k0 ≤ ka τ69 ∧ s0 ≤ sl τ69)) X (lv_sub hl [0, 1, 2] rfl) hg
      · have hg := (if_pos c72).symm.trans hg
        refine lv_aload_n hx hb dX3_workApplication_75 rfl (lv_at hl 0 rfl) ?_
        refine lv_aload_n hx hb dX3_workApplication_76 rfl (lv_at hl 0 rfl) ?_
        refine lv_iload hx hb dX3_workApplication_77 (lv_at hl 4 rfl) ?_
        obtain ⟨r79, τ79, hq79, hg⟩ := bd_some hg
        obtain ⟨ha79, hg⟩ := gq_some hg
        obtain ⟨hz79, hg⟩ := gq_some hg
        have hk79 : ka τ79 = ka τ69 ∧ sl τ79 = sl τ69 := ka_same ha79 hz79
        refine gck_Vl (As := [.int v4]) (rest := [.ref (ad 0)]) (q0 := 0) (ci := 6) S X (k3_X3_keep l dC dI ad kc sa va 64 _ _ _ _ hq79 H.size) cw_X3_keep mG_1888 rfl rfl rfl rfl rfl hl.1 (Nat.le_of_ble_eq_true rfl) dX3_workApplication_79 ⟨by omega, by omega⟩ ⟨by omega, by omega⟩ (fun H locs X => ?_)
        have hm : ka τ79 = ka σ ∧ sl τ79 = sl σ := by omega
        obtain ⟨r82, τ82, hq82, hg⟩ := bd_some hg
        obtain ⟨ha82, hg⟩ := gle_some hg
        obtain ⟨hz82, hg⟩ := gle_some hg
        have hk82 : ka τ79 ≤ ka τ82 ∧ sl τ79 ≤ sl τ82 := ka_mono ha82 hz82
        have hn2 : ka τ82 ≤ ka τ ∧ sl τ82 ≤ sl τ := m_X3_workApplication_b85 hrm56 hg
        refine gcy_V (w := wK ad kc) (As := [.long r79]) (rest := []) (q0 := 0) (ci := 6) (mc := ka τ82 - ka τ79) (ms := sl τ82 - sl τ79) S X (k2_X3_push l dC dI ad kc sa va hq82 H.size) cw_X3_push mG_1814 rfl rfl rfl rfl rfl hl.1 (Nat.le_of_ble_eq_true rfl) dX3_workApplication_82 ⟨by omega, by omega⟩ ⟨by omega, by omega⟩ (fun sa va H locs X => ?_)
        refine W.widen (k := ka τ82 - k0) (n := sl τ82 - s0) (by omega) (by omega) ?_
        exact w_X3_workApplication_b85 S hr hk hR hRc hrec56 hrm56 (show k0 ≤ ka τ82 ∧ s0 ≤ sl τ82 from (by omega : k0 ≤ ka τ82 ∧ s0 ≤ sl τ82)) X (lv_sub hl [0, 1, 2, 3, 4] rfl) hg
set_option maxHeartbeats 4000000 in
set_option maxRecDepth 100000 in
theorem w_X3_workApplication_L56 (S : CallFix p m c cX3_workApplication 5 s args uG RX3) (hr : meth.sig.returnType = none) (hk : meth.locks = false) (hR : 194 ≤ R.frames ∧ 4721 ≤ R.locals) (hRc : ka τ - k0 ≤ R.cells ∧ sl τ - s0 ≤ R.slots) : ∀ (n : Nat) (sa va : Nat) (v1 : Int32) (v2 : Int32) (v3 : Int32) (v4 : Int32) (σ : S5) (H : Heap) (locs : List Loc) (ls : Array Slot), k0 ≤ ka σ ∧ s0 ≤ sl σ → gX (dC, dI) (tK kc) (wK ad kc sa va) Z A s σ H locs → lv_has ls 5 [(0, .ref (ad 0)), (1, .int v1), (2, .int v2), (3, .int v3), (4, .int v4)] → f_X3_workApplication_L56  n v1 v2 v3 v4 σ = some (r, τ) → W p l e R s m args below meth c H locs (ka σ - k0) (sl σ - s0) (MQ below (gQy (dC, dI) (tK kc) (wK ad kc) A τ) args s (ka τ - k0) (sl τ - s0) A) (F0 m 56 ls []) := by
  intro n
  induction n with
  | zero => intro sa va v1 v2 v3 v4 σ H locs ls hc X hl hg; cases hg
  | succ n ih => intro sa va v1 v2 v3 v4 σ H locs ls hc X hl hg; exact w_X3_workApplication_B56 S hr hk hR hRc ih (m_X3_workApplication_L56 n) hc X hl hg
set_option maxHeartbeats 4000000 in
set_option maxRecDepth 100000 in
theorem w_X3_workApplication_b43 {sa va : Nat} {σ : S5} {v1 : Int32} {v2 : Int32} {H : Heap} {locs : List Loc} {ls : Array Slot} (S : CallFix p m c cX3_workApplication 5 s args uG RX3) (hr : meth.sig.returnType = none) (hk : meth.locks = false) (hR : 194 ≤ R.frames ∧ 4721 ≤ R.locals) (hRc : ka τ - k0 ≤ R.cells ∧ sl τ - s0 ≤ R.slots)
    (hc : k0 ≤ ka σ ∧ s0 ≤ sl σ) (X : gX (dC, dI) (tK kc) (wK ad kc sa va) Z A s σ H locs) (hl : lv_has ls 5 [(0, .ref (ad 0)), (1, .int v1), (2, .int v2)]) (hg : f_X3_workApplication_b43 v1 v2 σ = some (r, τ)) : W p l e R s m args below meth c H locs (ka σ - k0) (sl σ - s0) (MQ below (gQy (dC, dI) (tK kc) (wK ad kc) A τ) args s (ka τ - k0) (sl τ - s0) A) (F0 m 43 ls []) := by
  have hx := S.1
  have hb := S.2.1
  have hown := S.2.2.2.1
  have hu := S.2.2.2.2
  have hn := m_X3_workApplication_b43 hg
  have hm : ka σ = ka σ ∧ sl σ = sl σ := ⟨rfl, rfl⟩
  unfold f_X3_workApplication_b43 at hg
  refine lv_iconst (v := 0) hx hb dX3_workApplication_43 (by decide) ?_
  refine lv_istore_n (lv' := [(3, .int 0), (0, .ref (ad 0)), (1, .int v1), (2, .int v2)]) hx hb dX3_workApplication_44 rfl hl (by decide) rfl (fun ls hl => ?_)
  refine lv_aload_n hx hb dX3_workApplication_45 rfl (lv_at hl 1 rfl) ?_
  refine wkgR_0_0 S X mG_660 dX3_workApplication_46 ?_
  refine wkgR_3_4 S X mG_405 dX3_workApplication_49 ?_
  refine lv_iload_n hx hb dX3_workApplication_52 rfl (lv_at hl 3 rfl) ?_
  obtain ⟨hi53, hg⟩ := gd_some hg
  refine wklA_17 (v := (xA σ 17 v2)) S X hi53 rfl dX3_workApplication_53 ?_
  refine lv_istore (lv' := [(4, .int (xA σ 17 v2)), (3, .int 0), (0, .ref (ad 0)), (1, .int v1), (2, .int v2)]) hx hb dX3_workApplication_54 hl (by decide) rfl (fun ls hl => ?_)
  refine W.widen (k := ka σ - k0) (n := sl σ - s0) (show ka σ - k0 ≤ ka σ - k0 by omega) (show sl σ - s0 ≤ sl σ - s0 by omega) ?_
  exact w_X3_workApplication_L56 S hr hk hR hRc _ _ _ _ _ _ _ _ _ _ _ (show k0 ≤ ka σ ∧ s0 ≤ sl σ from (by omega : k0 ≤ ka σ ∧ s0 ≤ sl σ)) X (lv_sub hl [2, 3, 4, 1, 0] rfl) hg
set_option maxHeartbeats 4000000 in
set_option maxRecDepth 100000 in
theorem w_X3_workApplication {sa va : Nat} {σ : S5} {a1 : Int32} {H : Heap} {locs : List Loc} {ls : Array Slot} (S : CallFix p m c cX3_workApplication 5 s args uG RX3) (hr : meth.sig.returnType = none) (hk : meth.locks = false) (hR : 194 ≤ R.frames ∧ 4721 ≤ R.locals) (hRc : ka τ - k0 ≤ R.cells ∧ sl τ - s0 ≤ R.slots)
    (hc : k0 ≤ ka σ ∧ s0 ≤ sl σ) (X : gX (dC, dI) (tK kc) (wK ad kc sa va) Z A s σ H locs) (hl : lv_has ls 5 [(0, .ref (ad 0)), (1, .int a1)]) (hg : f_X3_workApplication a1 σ = some (r, τ)) : W p l e R s m args below meth c H locs (ka σ - k0) (sl σ - s0) (MQ below (gQy (dC, dI) (tK kc) (wK ad kc) A τ) args s (ka τ - k0) (sl τ - s0) A) (F0 m 0 ls []) := by
  have hx := S.1
  have hb := S.2.1
  have hown := S.2.2.2.1
  have hu := S.2.2.2.2
  have hn := m_X3_workApplication hg
  have hm : ka σ = ka σ ∧ sl σ = sl σ := ⟨rfl, rfl⟩
  unfold f_X3_workApplication at hg
  refine lv_aload_n hx hb dX3_workApplication_0 rfl (lv_at hl 0 rfl) ?_
  refine wkgR_0_0 S X mG_660 dX3_workApplication_1 ?_
  refine wkgR_3_3 S X mG_398 dX3_workApplication_4 ?_
  refine lv_iload_n hx hb dX3_workApplication_7 rfl (lv_at hl 1 rfl) ?_
  obtain ⟨hi8, hg⟩ := gd_some hg
  refine wklA_16 (v := (xA σ 16 a1)) S X hi8 rfl dX3_workApplication_8 ?_
  refine lv_istore_n (lv' := [(2, .int (xA σ 16 a1)), (0, .ref (ad 0)), (1, .int a1)]) hx hb dX3_workApplication_9 rfl hl (by decide) rfl (fun ls hl => ?_)
  refine lv_aload_n hx hb dX3_workApplication_10 rfl (lv_at hl 1 rfl) ?_
  refine wkgR_0_0 S X mG_660 dX3_workApplication_11 ?_
  refine wkgR_3_0 S X mG_383 dX3_workApplication_14 ?_
  refine lv_iload_n hx hb dX3_workApplication_17 rfl (lv_at hl 0 rfl) ?_
  obtain ⟨hi18, hg⟩ := gd_some hg
  refine wklA_13 (v := (xA σ 13 (xA σ 16 a1))) S X hi18 rfl dX3_workApplication_18 ?_
  refine lv_iconst (v := 2) hx hb dX3_workApplication_19 (by decide) ?_
  refine lv_icmp_ne (tgt := 43) hx hb dX3_workApplication_20 (by decide) (fun c20 => ?_) (fun c20 => ?_)
  · have hg := (if_neg c20).symm.trans hg
    refine W.widen (k := ka σ - k0) (n := sl σ - s0) (show ka σ - k0 ≤ ka σ - k0 by omega) (show sl σ - s0 ≤ sl σ - s0 by omega) ?_
    exact w_X3_workApplication_b43 S hr hk hR hRc (show k0 ≤ ka σ ∧ s0 ≤ sl σ from (by omega : k0 ≤ ka σ ∧ s0 ≤ sl σ)) X (lv_sub hl [1, 2, 0] rfl) hg
  · have hg := (if_pos c20).symm.trans hg
    refine lv_aload_n hx hb dX3_workApplication_23 rfl (lv_at hl 1 rfl) ?_
    refine wkgR_0_1 S X mG_661 dX3_workApplication_24 ?_
    refine wkgR_2_7 S X mG_310 dX3_workApplication_27 ?_
    refine lv_aload_n hx hb dX3_workApplication_30 rfl (lv_at hl 1 rfl) ?_
    refine wkgR_0_0 S X mG_660 dX3_workApplication_31 ?_
    refine wkgR_3_1 S X mG_388 dX3_workApplication_34 ?_
    refine lv_iload_n hx hb dX3_workApplication_37 rfl (lv_at hl 0 rfl) ?_
    obtain ⟨hi38, hg⟩ := gd_some hg
    refine wklA_14 (v := (xA σ 14 (xA σ 16 a1))) S X hi38 rfl dX3_workApplication_38 ?_
    obtain ⟨hi39, hg⟩ := gd_some hg
    refine wklA_3 (v := (xA σ 3 (xA σ 14 (xA σ 16 a1)))) S X hi39 rfl dX3_workApplication_39 ?_
    refine lv_if_ne (tgt := 130) hx hb dX3_workApplication_40 (by decide) (fun c40 => ?_) (fun c40 => ?_)
    · have hg := (if_neg c40).symm.trans hg
      refine lv_aload_n hx hb dX3_workApplication_130 rfl (lv_at hl 1 rfl) ?_
      refine lv_iload_n hx hb dX3_workApplication_131 rfl (lv_at hl 2 rfl) ?_
      obtain ⟨r132, τ132, hq132, hg⟩ := bd_some hg
      obtain ⟨ha132, hg⟩ := gq_some hg
      obtain ⟨hz132, hg⟩ := gq_some hg
      have hk132 : ka τ132 = ka σ ∧ sl τ132 = sl σ := ka_same ha132 hz132
      refine gck_Vi (As := [.int a1]) (rest := []) (q0 := 0) (ci := 6) S X (k2_X3_isPartOfCall l dC dI ad kc sa va hq132 H.size) cw_X3_isPartOfCall mG_1904 rfl rfl rfl rfl rfl hl.1 (Nat.le_of_ble_eq_true rfl) dX3_workApplication_132 ⟨by omega, by omega⟩ ⟨by omega, by omega⟩ (fun H locs X => ?_)
      have hm : ka τ132 = ka σ ∧ sl τ132 = sl σ := by omega
      refine lv_if_eq (tgt := 150) hx hb dX3_workApplication_135 (by decide) (fun c135 => ?_) (fun c135 => ?_)
      · have hg := (if_pos c135).symm.trans hg
        refine lv_aload_n hx hb dX3_workApplication_150 rfl (lv_at hl 1 rfl) ?_
        refine lv_iload_n hx hb dX3_workApplication_151 rfl (lv_at hl 2 rfl) ?_
        refine lv_iconst (v := 0) hx hb dX3_workApplication_152 (by decide) ?_
        obtain ⟨r153, τ153, hq153, hg⟩ := bd_some hg
        obtain ⟨ha153, hg⟩ := gle_some hg
        obtain ⟨hz153, hg⟩ := gle_some hg
        have hk153 : ka τ132 ≤ ka τ153 ∧ sl τ132 ≤ sl τ153 := ka_mono ha153 hz153
        have hn2 : ka τ153 ≤ ka τ ∧ sl τ153 ≤ sl τ := m_X3_workApplication_b156 hg
        refine gcy_V (w := wK ad kc) (As := [.int a1, .int 0]) (rest := []) (q0 := 0) (ci := 6) (mc := ka τ153 - ka τ132) (ms := sl τ153 - sl τ132) S X (k2_X3_workArguments l dC dI ad kc sa va hq153 H.size) cw_X3_workArguments mG_1942 rfl rfl rfl rfl rfl hl.1 (Nat.le_of_ble_eq_true rfl) dX3_workApplication_153 ⟨by omega, by omega⟩ ⟨by omega, by omega⟩ (fun sa va H locs X => ?_)
        refine W.widen (k := ka τ153 - k0) (n := sl τ153 - s0) (by omega) (by omega) ?_
        exact w_X3_workApplication_b156 S hr hk hR hRc (show k0 ≤ ka τ153 ∧ s0 ≤ sl τ153 from (by omega : k0 ≤ ka τ153 ∧ s0 ≤ sl τ153)) X (lv_sub hl [] rfl) hg
      · have hg := (if_neg c135).symm.trans hg
        refine lv_aload_n hx hb dX3_workApplication_138 rfl (lv_at hl 1 rfl) ?_
        refine lv_aload_n hx hb dX3_workApplication_139 rfl (lv_at hl 1 rfl) ?_
        refine lv_iload_n hx hb dX3_workApplication_140 rfl (lv_at hl 2 rfl) ?_
        obtain ⟨r141, τ141, hq141, hg⟩ := bd_some hg
        obtain ⟨ha141, hg⟩ := gq_some hg
        obtain ⟨hz141, hg⟩ := gq_some hg
        have hk141 : ka τ141 = ka τ132 ∧ sl τ141 = sl τ132 := ka_same ha141 hz141
        refine gck_Vl (As := [.int a1]) (rest := [.ref (ad 0)]) (q0 := 0) (ci := 6) S X (k3_X3_keep l dC dI ad kc sa va 64 _ _ _ _ hq141 H.size) cw_X3_keep mG_1888 rfl rfl rfl rfl rfl hl.1 (Nat.le_of_ble_eq_true rfl) dX3_workApplication_141 ⟨by omega, by omega⟩ ⟨by omega, by omega⟩ (fun H locs X => ?_)
        have hm : ka τ141 = ka σ ∧ sl τ141 = sl σ := by omega
        obtain ⟨r144, τ144, hq144, hg⟩ := bd_some hg
        obtain ⟨ha144, hg⟩ := gq_some hg
        obtain ⟨hz144, hg⟩ := gq_some hg
        have hk144 : ka τ144 = ka τ141 ∧ sl τ144 = sl τ141 := ka_same ha144 hz144
        refine gck_Vv (As := [.long r141]) (rest := []) (q0 := 0) (ci := 6) S X (k2_X3_give l dC dI ad kc sa va hq144 H.size) cw_X3_give mG_1837 rfl rfl rfl rfl rfl hl.1 (Nat.le_of_ble_eq_true rfl) dX3_workApplication_144 ⟨by omega, by omega⟩ ⟨by omega, by omega⟩ (fun H locs X => ?_)
        have hm : ka τ144 = ka σ ∧ sl τ144 = sl σ := by omega
        refine lv_goto (tgt := 156) hx hb dX3_workApplication_147 (by decide) ?_
        refine W.widen (k := ka τ144 - k0) (n := sl τ144 - s0) (show ka σ - k0 ≤ ka τ144 - k0 by omega) (show sl σ - s0 ≤ sl τ144 - s0 by omega) ?_
        exact w_X3_workApplication_b156 S hr hk hR hRc (show k0 ≤ ka τ144 ∧ s0 ≤ sl τ144 from (by omega : k0 ≤ ka τ144 ∧ s0 ≤ sl τ144)) X (lv_sub hl [] rfl) hg
    · have hg := (if_pos c40).symm.trans hg
      refine W.widen (k := ka σ - k0) (n := sl σ - s0) (show ka σ - k0 ≤ ka σ - k0 by omega) (show sl σ - s0 ≤ sl σ - s0 by omega) ?_
      exact w_X3_workApplication_b43 S hr hk hR hRc (show k0 ≤ ka σ ∧ s0 ≤ sl σ from (by omega : k0 ≤ ka σ ∧ s0 ≤ sl σ)) X (lv_sub hl [1, 2, 0] rfl) hg
end MX3_workApplication
set_option maxRecDepth 100000 in
theorem k2_X3_workApplication (l : Launch) (dC : Nat → ClassId) (dI : Nat → Nat → Nat) {Z : ZZ} (ad : Nat → Nat) (kc : Nat → ClassId) (sa va : Nat) {σ τ : S5} {a1 : Int32} {r : Unit} (hg : f_X3_workApplication a1 σ = some (r, τ)) (sz : Nat) : Met l yX3_workApplication (Cond.code yX3_workApplication cX3_workApplication 5 none :: uG) { frames := 194, cells := ka τ - ka σ, slots := sl τ - sl σ, locals := 4721 } (gPc (dC, dI) (tK kc) (wK ad kc sa va) Z [.ref (ad 0), .int a1] σ sz) (gQy (dC, dI) (tK kc) (wK ad kc) (va_A (wK ad kc sa va σ) sz) τ) (ka τ - ka σ) (sl τ - sl σ) (va_A (wK ad kc sa va σ) sz) :=
  gy_start (by decide) (Nat.le_of_ble_eq_true rfl) (fun p e s m below meth c ls S hr hk X hl => W.widen (Nat.zero_le _) (Nat.zero_le _) (w_X3_workApplication (k0 := ka σ) (s0 := sl σ) S hr hk ⟨Nat.le_refl _, Nat.le_refl _⟩ ⟨Nat.le_refl _, Nat.le_refl _⟩ ⟨Nat.le_refl _, Nat.le_refl _⟩ X hl hg))
section MX3_workLet
variable {r : Unit} {τ : S5}
set_option maxHeartbeats 4000000 in
theorem m_X3_workLet_b232 {σ : S5} {v2 : Int32}  (hg : f_X3_workLet_b232 v2 σ = some (r, τ)) : ka σ ≤ ka τ ∧ sl σ ≤ sl τ := by
  have hm : ka σ ≤ ka σ ∧ sl σ ≤ sl σ := ⟨Nat.le_refl _, Nat.le_refl _⟩
  unfold f_X3_workLet_b232 at hg
  obtain ⟨r234, τ234, hq234, hg⟩ := bd_some hg
  obtain ⟨ha234, hg⟩ := gq_some hg
  obtain ⟨hz234, hg⟩ := gq_some hg
  have hk234 : ka τ234 = ka σ ∧ sl τ234 = sl σ := ka_same ha234 hz234
  have hm : ka σ ≤ ka τ234 ∧ sl σ ≤ sl τ234 := by omega
  obtain ⟨-, rfl⟩ := fin_some hg
  exact hm
set_option maxHeartbeats 4000000 in
theorem m_X3_workLet_B159 {σ : S5} {rec159 : Int32 → Int32 → Int32 → S5 → Option (Unit × S5)} {v2 : Int32} {v4 : Int32} {v5 : Int32}  (hrm159 : ∀ (v2 : Int32) (v4 : Int32) (v5 : Int32) (σ : S5), rec159 v2 v4 v5 σ = some (r, τ) → ka σ ≤ ka τ ∧ sl σ ≤ sl τ) (hg : f_X3_workLet_B159 rec159 v2 v4 v5 σ = some (r, τ)) : ka σ ≤ ka τ ∧ sl σ ≤ sl τ := by
  have hm : ka σ ≤ ka σ ∧ sl σ ≤ sl σ := ⟨Nat.le_refl _, Nat.le_refl _⟩
  unfold f_X3_workLet_B159 at hg
  refine (Decidable.em (10 ≤ v4)).elim (fun c163 => ?_) (fun c163 => ?_)
  · have hg := (if_pos c163).symm.trans hg
    exact ⟨Nat.le_trans hm.1 (m_X3_workLet_b232 hg).1, Nat.le_trans hm.2 (m_X3_workLet_b232 hg).2⟩
  · have hg := (if_neg c163).symm.trans hg
    refine (Decidable.em (v5 = (-1))).elim (fun c169 => ?_) (fun c169 => ?_)
    · have hg := (if_pos c169).symm.trans hg
      exact ⟨Nat.le_trans hm.1 (m_X3_workLet_b232 hg).1, Nat.le_trans hm.2 (m_X3_workLet_b232 hg).2⟩
    · have hg := (if_neg c169).symm.trans hg
      obtain ⟨r173, τ173, hq173, hg⟩ := bd_some hg
      obtain ⟨ha173, hg⟩ := gq_some hg
      obtain ⟨hz173, hg⟩ := gq_some hg
      have hk173 : ka τ173 = ka σ ∧ sl τ173 = sl σ := ka_same ha173 hz173
      have hm : ka σ ≤ ka τ173 ∧ sl σ ≤ sl τ173 := by omega
      refine (Decidable.em (r173 = 0)).symm.elim (fun c176 => ?_) (fun c176 => ?_)
      · have hg := (if_neg c176).symm.trans hg
        exact ⟨Nat.le_trans hm.1 (m_X3_workLet_b232 hg).1, Nat.le_trans hm.2 (m_X3_workLet_b232 hg).2⟩
      · have hg := (if_pos c176).symm.trans hg
        obtain ⟨hi189, hg⟩ := gd_some hg
        obtain ⟨hi207, hg⟩ := gd_some hg
        obtain ⟨hi209, hg⟩ := gd_some hg
        obtain ⟨r211, τ211, hq211, hg⟩ := bd_some hg
        obtain ⟨ha211, hg⟩ := gq_some hg
        obtain ⟨hz211, hg⟩ := gq_some hg
        have hk211 : ka τ211 = ka τ173 ∧ sl τ211 = sl τ173 := ka_same ha211 hz211
        have hm : ka σ ≤ ka τ211 ∧ sl σ ≤ sl τ211 := by omega
        obtain ⟨hi226, hg⟩ := gd_some hg
        exact ⟨Nat.le_trans hm.1 (hrm159 _ _ _ _ hg).1, Nat.le_trans hm.2 (hrm159 _ _ _ _ hg).2⟩
set_option maxHeartbeats 4000000 in
theorem m_X3_workLet_L159  : ∀ (n : Nat) (v2 : Int32) (v4 : Int32) (v5 : Int32) (σ : S5), f_X3_workLet_L159  n v2 v4 v5 σ = some (r, τ) → ka σ ≤ ka τ ∧ sl σ ≤ sl τ := by
  intro n
  induction n with
  | zero => intro v2 v4 v5 σ hg; cases hg
  | succ n ih => intro v2 v4 v5 σ hg; exact m_X3_workLet_B159 ih hg
set_option maxHeartbeats 4000000 in
theorem m_X3_workLet_b153 {σ : S5} {v2 : Int32} {v3 : Int32}  (hg : f_X3_workLet_b153 v2 v3 σ = some (r, τ)) : ka σ ≤ ka τ ∧ sl σ ≤ sl τ := by
  have hm : ka σ ≤ ka σ ∧ sl σ ≤ sl σ := ⟨Nat.le_refl _, Nat.le_refl _⟩
  unfold f_X3_workLet_b153 at hg
  exact ⟨Nat.le_trans hm.1 (m_X3_workLet_L159 _ _ _ _ _ hg).1, Nat.le_trans hm.2 (m_X3_workLet_L159 _ _ _ _ _ hg).2⟩
set_option maxHeartbeats 4000000 in
theorem m_X3_workLet_B80 {σ : S5} {rec80 : Int32 → Int32 → Int32 → Int32 → S5 → Option (Unit × S5)} {v2 : Int32} {v3 : Int32} {v4 : Int32} {v5 : Int32}  (hrm80 : ∀ (v2 : Int32) (v3 : Int32) (v4 : Int32) (v5 : Int32) (σ : S5), rec80 v2 v3 v4 v5 σ = some (r, τ) → ka σ ≤ ka τ ∧ sl σ ≤ sl τ) (hg : f_X3_workLet_B80 rec80 v2 v3 v4 v5 σ = some (r, τ)) : ka σ ≤ ka τ ∧ sl σ ≤ sl τ := by
  have hm : ka σ ≤ ka σ ∧ sl σ ≤ sl σ := ⟨Nat.le_refl _, Nat.le_refl _⟩
  unfold f_X3_workLet_B80 at hg
  refine (Decidable.em (10 ≤ v4)).elim (fun c84 => ?_) (fun c84 => ?_)
  · have hg := (if_pos c84).symm.trans hg
    exact ⟨Nat.le_trans hm.1 (m_X3_workLet_b153 hg).1, Nat.le_trans hm.2 (m_X3_workLet_b153 hg).2⟩
  · have hg := (if_neg c84).symm.trans hg
    refine (Decidable.em (v5 = (-1))).elim (fun c90 => ?_) (fun c90 => ?_)
    · have hg := (if_pos c90).symm.trans hg
      exact ⟨Nat.le_trans hm.1 (m_X3_workLet_b153 hg).1, Nat.le_trans hm.2 (m_X3_workLet_b153 hg).2⟩
    · have hg := (if_neg c90).symm.trans hg
      obtain ⟨r94, τ94, hq94, hg⟩ := bd_some hg
      obtain ⟨ha94, hg⟩ := gq_some hg
      obtain ⟨hz94, hg⟩ := gq_some hg
      have hk94 : ka τ94 = ka σ ∧ sl τ94 = sl σ := ka_same ha94 hz94
      have hm : ka σ ≤ ka τ94 ∧ sl σ ≤ sl τ94 := by omega
      refine (Decidable.em (r94 = 0)).symm.elim (fun c97 => ?_) (fun c97 => ?_)
      · have hg := (if_neg c97).symm.trans hg
        exact ⟨Nat.le_trans hm.1 (m_X3_workLet_b153 hg).1, Nat.le_trans hm.2 (m_X3_workLet_b153 hg).2⟩
      · have hg := (if_pos c97).symm.trans hg
        obtain ⟨hi117, hg⟩ := gd_some hg
        obtain ⟨hi129, hg⟩ := gd_some hg
        obtain ⟨r131, τ131, hq131, hg⟩ := bd_some hg
        obtain ⟨ha131, hg⟩ := gq_some hg
        obtain ⟨hz131, hg⟩ := gq_some hg
        have hk131 : ka τ131 = ka τ94 ∧ sl τ131 = sl τ94 := ka_same ha131 hz131
        have hm : ka σ ≤ ka τ131 ∧ sl σ ≤ sl τ131 := by omega
        obtain ⟨hi134, hg⟩ := gd_some hg
        obtain ⟨hi147, hg⟩ := gd_some hg
        exact ⟨Nat.le_trans hm.1 (hrm80 _ _ _ _ _ hg).1, Nat.le_trans hm.2 (hrm80 _ _ _ _ _ hg).2⟩
set_option maxHeartbeats 4000000 in
theorem m_X3_workLet_L80  : ∀ (n : Nat) (v2 : Int32) (v3 : Int32) (v4 : Int32) (v5 : Int32) (σ : S5), f_X3_workLet_L80  n v2 v3 v4 v5 σ = some (r, τ) → ka σ ≤ ka τ ∧ sl σ ≤ sl τ := by
  intro n
  induction n with
  | zero => intro v2 v3 v4 v5 σ hg; cases hg
  | succ n ih => intro v2 v3 v4 v5 σ hg; exact m_X3_workLet_B80 ih hg
set_option maxHeartbeats 4000000 in
theorem m_X3_workLet_b74 {σ : S5} {v2 : Int32} {v3 : Int32}  (hg : f_X3_workLet_b74 v2 v3 σ = some (r, τ)) : ka σ ≤ ka τ ∧ sl σ ≤ sl τ := by
  have hm : ka σ ≤ ka σ ∧ sl σ ≤ sl σ := ⟨Nat.le_refl _, Nat.le_refl _⟩
  unfold f_X3_workLet_b74 at hg
  exact ⟨Nat.le_trans hm.1 (m_X3_workLet_L80 _ _ _ _ _ _ hg).1, Nat.le_trans hm.2 (m_X3_workLet_L80 _ _ _ _ _ _ hg).2⟩
set_option maxHeartbeats 4000000 in
theorem m_X3_workLet_b60 {σ : S5} {v3 : Int32}  (hg : f_X3_workLet_b60 v3 σ = some (r, τ)) : ka σ ≤ ka τ ∧ sl σ ≤ sl τ := by
  have hm : ka σ ≤ ka σ ∧ sl σ ≤ sl σ := ⟨Nat.le_refl _, Nat.le_refl _⟩
  unfold f_X3_workLet_b60 at hg
  obtain ⟨hi69, hg⟩ := gd_some hg
  obtain ⟨r70, τ70, hq70, hg⟩ := bd_some hg
  obtain ⟨ha70, hg⟩ := gq_some hg
  obtain ⟨hz70, hg⟩ := gq_some hg
  have hk70 : ka τ70 = ka σ ∧ sl τ70 = sl σ := ka_same ha70 hz70
  have hm : ka σ ≤ ka τ70 ∧ sl σ ≤ sl τ70 := by omega
  obtain ⟨-, rfl⟩ := fin_some hg
  exact hm
set_option maxHeartbeats 4000000 in
theorem m_X3_workLet {σ : S5} {a1 : Int32}  (hg : f_X3_workLet a1 σ = some (r, τ)) : ka σ ≤ ka τ ∧ sl σ ≤ sl τ := by
  have hm : ka σ ≤ ka σ ∧ sl σ ≤ sl σ := ⟨Nat.le_refl _, Nat.le_refl _⟩
  unfold f_X3_workLet at hg
  obtain ⟨hi8, hg⟩ := gd_some hg
  obtain ⟨hi18, hg⟩ := gd_some hg
  refine (Decidable.em ((gI σ 46) = 0)).elim (fun c24 => ?_) (fun c24 => ?_)
  · have hg := (if_pos c24).symm.trans hg
    exact ⟨Nat.le_trans hm.1 (m_X3_workLet_b74 hg).1, Nat.le_trans hm.2 (m_X3_workLet_b74 hg).2⟩
  · have hg := (if_neg c24).symm.trans hg
    obtain ⟨hi35, hg⟩ := gd_some hg
    refine (Decidable.em ((xA σ 14 a1) = 0)).elim (fun c36 => ?_) (fun c36 => ?_)
    · have hg := (if_pos c36).symm.trans hg
      exact ⟨Nat.le_trans hm.1 (m_X3_workLet_b74 hg).1, Nat.le_trans hm.2 (m_X3_workLet_b74 hg).2⟩
    · have hg := (if_neg c36).symm.trans hg
      obtain ⟨r54, τ54, hq54, hg⟩ := bd_some hg
      obtain ⟨ha54, hg⟩ := gq_some hg
      obtain ⟨hz54, hg⟩ := gq_some hg
      have hk54 : ka τ54 = ka σ ∧ sl τ54 = sl σ := ka_same ha54 hz54
      have hm : ka σ ≤ ka τ54 ∧ sl σ ≤ sl τ54 := by omega
      obtain ⟨r57, τ57, hq57, hg⟩ := bd_some hg
      obtain ⟨ha57, hg⟩ := gle_some hg
      obtain ⟨hz57, hg⟩ := gle_some hg
      have hk57 : ka τ54 ≤ ka τ57 ∧ sl τ54 ≤ sl τ57 := ka_mono ha57 hz57
      have hm : ka σ ≤ ka τ57 ∧ sl σ ≤ sl τ57 := by omega
      exact ⟨Nat.le_trans hm.1 (m_X3_workLet_b60 hg).1, Nat.le_trans hm.2 (m_X3_workLet_b60 hg).2⟩
variable {p : Program} {l : Launch} {e : Env} {R : Room} {s : State} {m : MethodId} {args : Array Value} {below : List Frame} {meth : Method} {c : Code} {dC : Nat → ClassId} {dI : Nat → Nat → Nat} {Z : ZZ} {A : Nat → Prop} {ad : Nat → Nat} {kc : Nat → ClassId} {k0 s0 : Nat}
set_option maxHeartbeats 4000000 in
set_option maxRecDepth 100000 in
theorem w_X3_workLet_b232 {sa va : Nat} {σ : S5} {v2 : Int32} {H : Heap} {locs : List Loc} {ls : Array Slot} (S : CallFix p m c cX3_workLet 6 s args uG RX3) (hr : meth.sig.returnType = none) (hk : meth.locks = false) (hR : 195 ≤ R.frames ∧ 4745 ≤ R.locals) (hRc : ka τ - k0 ≤ R.cells ∧ sl τ - s0 ≤ R.slots)
    (hc : k0 ≤ ka σ ∧ s0 ≤ sl σ) (X : gX (dC, dI) (tK kc) (wK ad kc sa va) Z A s σ H locs) (hl : lv_has ls 6 [(0, .ref (ad 0)), (2, .int v2)]) (hg : f_X3_workLet_b232 v2 σ = some (r, τ)) : W p l e R s m args below meth c H locs (ka σ - k0) (sl σ - s0) (MQ below (gQy (dC, dI) (tK kc) (wK ad kc) A τ) args s (ka τ - k0) (sl τ - s0) A) (F0 m 232 ls []) := by
  have hx := S.1
  have hb := S.2.1
  have hown := S.2.2.2.1
  have hu := S.2.2.2.2
  have hn := m_X3_workLet_b232 hg
  have hm : ka σ = ka σ ∧ sl σ = sl σ := ⟨rfl, rfl⟩
  unfold f_X3_workLet_b232 at hg
  refine lv_aload_n hx hb dX3_workLet_232 rfl (lv_at hl 0 rfl) ?_
  refine lv_iload_n hx hb dX3_workLet_233 rfl (lv_at hl 1 rfl) ?_
  obtain ⟨r234, τ234, hq234, hg⟩ := bd_some hg
  obtain ⟨ha234, hg⟩ := gq_some hg
  obtain ⟨hz234, hg⟩ := gq_some hg
  have hk234 : ka τ234 = ka σ ∧ sl τ234 = sl σ := ka_same ha234 hz234
  refine gck_Vv (As := [.int v2]) (rest := []) (q0 := 0) (ci := 6) S X (k2_X3_workOn l dC dI ad kc sa va hq234 H.size) cw_X3_workOn mG_1879 rfl rfl rfl rfl rfl hl.1 (Nat.le_of_ble_eq_true rfl) dX3_workLet_234 ⟨by omega, by omega⟩ ⟨by omega, by omega⟩ (fun H locs X => ?_)
  have hm : ka τ234 = ka σ ∧ sl τ234 = sl σ := by omega
  obtain ⟨-, rfl⟩ := fin_some hg
  refine W.widen (k := ka τ234 - k0) (n := sl τ234 - s0) (show ka σ - k0 ≤ ka τ234 - k0 by omega) (show sl σ - s0 ≤ sl τ234 - s0 by omega) ?_
  exact gr_y S hr hk X dX3_workLet_237
set_option maxHeartbeats 4000000 in
set_option maxRecDepth 100000 in
theorem w_X3_workLet_B159 {sa va : Nat} {σ : S5} {rec159 : Int32 → Int32 → Int32 → S5 → Option (Unit × S5)} {v2 : Int32} {v4 : Int32} {v5 : Int32} {H : Heap} {locs : List Loc} {ls : Array Slot} (S : CallFix p m c cX3_workLet 6 s args uG RX3) (hr : meth.sig.returnType = none) (hk : meth.locks = false) (hR : 195 ≤ R.frames ∧ 4745 ≤ R.locals) (hRc : ka τ - k0 ≤ R.cells ∧ sl τ - s0 ≤ R.slots)
    (hrec159 : ∀ (sa va : Nat) (v2 : Int32) (v4 : Int32) (v5 : Int32) (σ : S5) (H : Heap) (locs : List Loc) (ls : Array Slot), k0 ≤ ka σ ∧ s0 ≤ sl σ → gX (dC, dI) (tK kc) (wK ad kc sa va) Z A s σ H locs → lv_has ls 6 [(0, .ref (ad 0)), (2, .int v2), (4, .int v4), (5, .int v5)] → rec159 v2 v4 v5 σ = some (r, τ) → W p l e R s m args below meth c H locs (ka σ - k0) (sl σ - s0) (MQ below (gQy (dC, dI) (tK kc) (wK ad kc) A τ) args s (ka τ - k0) (sl τ - s0) A) (F0 m 159 ls [])) (hrm159 : ∀ (v2 : Int32) (v4 : Int32) (v5 : Int32) (σ : S5), rec159 v2 v4 v5 σ = some (r, τ) → ka σ ≤ ka τ ∧ sl σ ≤ sl τ)
    (hc : k0 ≤ ka σ ∧ s0 ≤ sl σ) (X : gX (dC, dI) (tK kc) (wK ad kc sa va) Z A s σ H locs) (hl : lv_has ls 6 [(0, .ref (ad 0)), (2, .int v2), (4, .int v4), (5, .int v5)]) (hg : f_X3_workLet_B159 rec159 v2 v4 v5 σ = some (r, τ)) : W p l e R s m args below meth c H locs (ka σ - k0) (sl σ - s0) (MQ below (gQy (dC, dI) (tK kc) (wK ad kc) A τ) args s (ka τ - k0) (sl τ - s0) A) (F0 m 159 ls []) := by
  have hx := S.1
  have hb := S.2.1
  have hown := S.2.2.2.1
  have hu := S.2.2.2.2
  have hn := m_X3_workLet_B159 hrm159 hg
  have hm : ka σ = ka σ ∧ sl σ = sl σ := ⟨rfl, rfl⟩
  unfold f_X3_workLet_B159 at hg
  refine lv_iload hx hb dX3_workLet_159 (lv_at hl 2 rfl) ?_
  refine lv_bipush (v := 10) hx hb dX3_workLet_161 (by decide) ?_
  refine lv_icmp_ge (tgt := 232) hx hb dX3_workLet_163 (by decide) (fun c163 => ?_) (fun c163 => ?_)
  · have hg := (if_pos c163).symm.trans hg
    refine W.widen (k := ka σ - k0) (n := sl σ - s0) (show ka σ - k0 ≤ ka σ - k0 by omega) (show sl σ - s0 ≤ sl σ - s0 by omega) ?_
    exact w_X3_workLet_b232 S hr hk hR hRc (show k0 ≤ ka σ ∧ s0 ≤ sl σ from (by omega : k0 ≤ ka σ ∧ s0 ≤ sl σ)) X (lv_sub hl [0, 1] rfl) hg
  · have hg := (if_neg c163).symm.trans hg
    refine lv_iload hx hb dX3_workLet_166 (lv_at hl 3 rfl) ?_
    refine lv_iconst (v := (-1)) hx hb dX3_workLet_168 (by decide) ?_
    refine lv_icmp_eq (tgt := 232) hx hb dX3_workLet_169 (by decide) (fun c169 => ?_) (fun c169 => ?_)
    · have hg := (if_pos c169).symm.trans hg
      refine W.widen (k := ka σ - k0) (n := sl σ - s0) (show ka σ - k0 ≤ ka σ - k0 by omega) (show sl σ - s0 ≤ sl σ - s0 by omega) ?_
      exact w_X3_workLet_b232 S hr hk hR hRc (show k0 ≤ ka σ ∧ s0 ≤ sl σ from (by omega : k0 ≤ ka σ ∧ s0 ≤ sl σ)) X (lv_sub hl [0, 1] rfl) hg
    · have hg := (if_neg c169).symm.trans hg
      refine lv_aload_n hx hb dX3_workLet_172 rfl (lv_at hl 0 rfl) ?_
      obtain ⟨r173, τ173, hq173, hg⟩ := bd_some hg
      obtain ⟨ha173, hg⟩ := gq_some hg
      obtain ⟨hz173, hg⟩ := gq_some hg
      have hk173 : ka τ173 = ka σ ∧ sl τ173 = sl σ := ka_same ha173 hz173
      refine gck_Vi (As := []) (rest := []) (q0 := 0) (ci := 6) S X (k2_X3_isOver l dC dI ad kc sa va hq173 H.size) cw_X3_isOver mG_1922 rfl rfl rfl rfl rfl hl.1 (Nat.le_of_ble_eq_true rfl) dX3_workLet_173 ⟨by omega, by omega⟩ ⟨by omega, by omega⟩ (fun H locs X => ?_)
      have hm : ka τ173 = ka σ ∧ sl τ173 = sl σ := by omega
      refine lv_if_ne (tgt := 232) hx hb dX3_workLet_176 (by decide) (fun c176 => ?_) (fun c176 => ?_)
      · have hg := (if_neg c176).symm.trans hg
        refine W.widen (k := ka τ173 - k0) (n := sl τ173 - s0) (show ka σ - k0 ≤ ka τ173 - k0 by omega) (show sl σ - s0 ≤ sl τ173 - s0 by omega) ?_
        exact w_X3_workLet_b232 S hr hk hR hRc (show k0 ≤ ka τ173 ∧ s0 ≤ sl τ173 from (by omega : k0 ≤ ka τ173 ∧ s0 ≤ sl τ173)) X (lv_sub hl [0, 1] rfl) hg
      · have hg := (if_pos c176).symm.trans hg
        refine lv_aload_n hx hb dX3_workLet_179 rfl (lv_at hl 0 rfl) ?_
        refine lv_aload_n hx hb dX3_workLet_180 rfl (lv_at hl 0 rfl) ?_
        refine wkgR_0_0 S X mG_660 dX3_workLet_181 ?_
        refine wkgR_3_3 S X mG_398 dX3_workLet_184 ?_
        refine lv_iload hx hb dX3_workLet_187 (lv_at hl 3 rfl) ?_
        obtain ⟨hi189, hg⟩ := gd_some hg
        refine wklA_16 (v := (xA τ173 16 v5)) S X hi189 rfl dX3_workLet_189 ?_
        refine lv_aload_n hx hb dX3_workLet_190 rfl (lv_at hl 0 rfl) ?_
        refine wkgR_0_9 S X mG_672 dX3_workLet_191 ?_
        refine lv_aload_n hx hb dX3_workLet_194 rfl (lv_at hl 0 rfl) ?_
        refine wkgI_41 (v := (gI τ173 41)) S X mG_673 rfl dX3_workLet_195 ?_
        refine lv_aload_n hx hb dX3_workLet_198 rfl (lv_at hl 0 rfl) ?_
        refine wkgR_0_0 S X mG_660 dX3_workLet_199 ?_
        refine wkgR_3_1 S X mG_388 dX3_workLet_202 ?_
        refine lv_iload hx hb dX3_workLet_205 (lv_at hl 3 rfl) ?_
        obtain ⟨hi207, hg⟩ := gd_some hg
        refine wklA_14 (v := (xA τ173 14 v5)) S X hi207 rfl dX3_workLet_207 ?_
        refine lv_iadd hx hb dX3_workLet_208 ?_
        obtain ⟨hi209, hg⟩ := gd_some hg
        refine wklB_13 (v := (xB τ173 13 ((gI τ173 41) + (xA τ173 14 v5)))) S X hi209 rfl dX3_workLet_209 ?_
        refine lv_iconst (v := 1) hx hb dX3_workLet_210 (by decide) ?_
        obtain ⟨r211, τ211, hq211, hg⟩ := bd_some hg
        obtain ⟨ha211, hg⟩ := gq_some hg
        obtain ⟨hz211, hg⟩ := gq_some hg
        have hk211 : ka τ211 = ka τ173 ∧ sl τ211 = sl τ173 := ka_same ha211 hz211
        refine gck_Vv (As := [.int (xA τ173 16 v5), .long (xB τ173 13 ((gI τ173 41) + (xA τ173 14 v5))), .int 1]) (rest := []) (q0 := 0) (ci := 6) S X (k2_X3_fill l dC dI ad kc sa va (k3_X3_keep l dC dI ad kc sa va 64) hq211 H.size) cw_X3_fill mG_1918 rfl rfl rfl rfl rfl hl.1 (Nat.le_of_ble_eq_true rfl) dX3_workLet_211 ⟨by omega, by omega⟩ ⟨by omega, by omega⟩ (fun H locs X => ?_)
        have hm : ka τ211 = ka σ ∧ sl τ211 = sl σ := by omega
        refine lv_iinc (v := (v4 + 1)) (lv' := [(4, .int (v4 + 1)), (0, .ref (ad 0)), (2, .int v2), (5, .int v5)]) hx hb dX3_workLet_214 hl (k := 2) rfl (by rfl) (by decide) rfl (fun ls hl => ?_)
        refine lv_aload_n hx hb dX3_workLet_217 rfl (lv_at hl 1 rfl) ?_
        refine wkgR_0_0 S X mG_660 dX3_workLet_218 ?_
        refine wkgR_3_4 S X mG_405 dX3_workLet_221 ?_
        refine lv_iload hx hb dX3_workLet_224 (lv_at hl 3 rfl) ?_
        obtain ⟨hi226, hg⟩ := gd_some hg
        refine wklA_17 (v := (xA τ211 17 v5)) S X hi226 rfl dX3_workLet_226 ?_
        refine lv_istore (lv' := [(5, .int (xA τ211 17 v5)), (4, .int (v4 + 1)), (0, .ref (ad 0)), (2, .int v2)]) hx hb dX3_workLet_227 hl (by decide) rfl (fun ls hl => ?_)
        refine lv_goto (tgt := 159) hx hb dX3_workLet_229 (by decide) ?_
        refine W.widen (k := ka τ211 - k0) (n := sl τ211 - s0) (show ka σ - k0 ≤ ka τ211 - k0 by omega) (show sl σ - s0 ≤ sl τ211 - s0 by omega) ?_
        exact hrec159 _ _ _ _ _ _ _ _ _ (show k0 ≤ ka τ211 ∧ s0 ≤ sl τ211 from (by omega : k0 ≤ ka τ211 ∧ s0 ≤ sl τ211)) X (lv_sub hl [2, 3, 1, 0] rfl) hg
set_option maxHeartbeats 4000000 in
set_option maxRecDepth 100000 in
theorem w_X3_workLet_L159 (S : CallFix p m c cX3_workLet 6 s args uG RX3) (hr : meth.sig.returnType = none) (hk : meth.locks = false) (hR : 195 ≤ R.frames ∧ 4745 ≤ R.locals) (hRc : ka τ - k0 ≤ R.cells ∧ sl τ - s0 ≤ R.slots) : ∀ (n : Nat) (sa va : Nat) (v2 : Int32) (v4 : Int32) (v5 : Int32) (σ : S5) (H : Heap) (locs : List Loc) (ls : Array Slot), k0 ≤ ka σ ∧ s0 ≤ sl σ → gX (dC, dI) (tK kc) (wK ad kc sa va) Z A s σ H locs → lv_has ls 6 [(0, .ref (ad 0)), (2, .int v2), (4, .int v4), (5, .int v5)] → f_X3_workLet_L159  n v2 v4 v5 σ = some (r, τ) → W p l e R s m args below meth c H locs (ka σ - k0) (sl σ - s0) (MQ below (gQy (dC, dI) (tK kc) (wK ad kc) A τ) args s (ka τ - k0) (sl τ - s0) A) (F0 m 159 ls []) := by
  intro n
  induction n with
  | zero => intro sa va v2 v4 v5 σ H locs ls hc X hl hg; cases hg
  | succ n ih => intro sa va v2 v4 v5 σ H locs ls hc X hl hg; exact w_X3_workLet_B159 S hr hk hR hRc ih (m_X3_workLet_L159 n) hc X hl hg
set_option maxHeartbeats 4000000 in
set_option maxRecDepth 100000 in
theorem w_X3_workLet_b153 {sa va : Nat} {σ : S5} {v2 : Int32} {v3 : Int32} {H : Heap} {locs : List Loc} {ls : Array Slot} (S : CallFix p m c cX3_workLet 6 s args uG RX3) (hr : meth.sig.returnType = none) (hk : meth.locks = false) (hR : 195 ≤ R.frames ∧ 4745 ≤ R.locals) (hRc : ka τ - k0 ≤ R.cells ∧ sl τ - s0 ≤ R.slots)
    (hc : k0 ≤ ka σ ∧ s0 ≤ sl σ) (X : gX (dC, dI) (tK kc) (wK ad kc sa va) Z A s σ H locs) (hl : lv_has ls 6 [(0, .ref (ad 0)), (2, .int v2), (3, .int v3)]) (hg : f_X3_workLet_b153 v2 v3 σ = some (r, τ)) : W p l e R s m args below meth c H locs (ka σ - k0) (sl σ - s0) (MQ below (gQy (dC, dI) (tK kc) (wK ad kc) A τ) args s (ka τ - k0) (sl τ - s0) A) (F0 m 153 ls []) := by
  have hx := S.1
  have hb := S.2.1
  have hown := S.2.2.2.1
  have hu := S.2.2.2.2
  have hn := m_X3_workLet_b153 hg
  have hm : ka σ = ka σ ∧ sl σ = sl σ := ⟨rfl, rfl⟩
  unfold f_X3_workLet_b153 at hg
  refine lv_iconst (v := 0) hx hb dX3_workLet_153 (by decide) ?_
  refine lv_istore (lv' := [(4, .int 0), (0, .ref (ad 0)), (2, .int v2), (3, .int v3)]) hx hb dX3_workLet_154 hl (by decide) rfl (fun ls hl => ?_)
  refine lv_iload_n hx hb dX3_workLet_156 rfl (lv_at hl 3 rfl) ?_
  refine lv_istore (lv' := [(5, .int v3), (4, .int 0), (0, .ref (ad 0)), (2, .int v2), (3, .int v3)]) hx hb dX3_workLet_157 hl (by decide) rfl (fun ls hl => ?_)
  refine W.widen (k := ka σ - k0) (n := sl σ - s0) (show ka σ - k0 ≤ ka σ - k0 by omega) (show sl σ - s0 ≤ sl σ - s0 by omega) ?_
  exact w_X3_workLet_L159 S hr hk hR hRc _ _ _ _ _ _ _ _ _ _ (show k0 ≤ ka σ ∧ s0 ≤ sl σ from (by omega : k0 ≤ ka σ ∧ s0 ≤ sl σ)) X (lv_sub hl [2, 3, 1, 0] rfl) hg
set_option maxHeartbeats 4000000 in
set_option maxRecDepth 100000 in
theorem w_X3_workLet_B80 {sa va : Nat} {σ : S5} {rec80 : Int32 → Int32 → Int32 → Int32 → S5 → Option (Unit × S5)} {v2 : Int32} {v3 : Int32} {v4 : Int32} {v5 : Int32} {H : Heap} {locs : List Loc} {ls : Array Slot} (S : CallFix p m c cX3_workLet 6 s args uG RX3) (hr : meth.sig.returnType = none) (hk : meth.locks = false) (hR : 195 ≤ R.frames ∧ 4745 ≤ R.locals) (hRc : ka τ - k0 ≤ R.cells ∧ sl τ - s0 ≤ R.slots)
    (hrec80 : ∀ (sa va : Nat) (v2 : Int32) (v3 : Int32) (v4 : Int32) (v5 : Int32) (σ : S5) (H : Heap) (locs : List Loc) (ls : Array Slot), k0 ≤ ka σ ∧ s0 ≤ sl σ → gX (dC, dI) (tK kc) (wK ad kc sa va) Z A s σ H locs → lv_has ls 6 [(0, .ref (ad 0)), (2, .int v2), (3, .int v3), (4, .int v4), (5, .int v5)] → rec80 v2 v3 v4 v5 σ = some (r, τ) → W p l e R s m args below meth c H locs (ka σ - k0) (sl σ - s0) (MQ below (gQy (dC, dI) (tK kc) (wK ad kc) A τ) args s (ka τ - k0) (sl τ - s0) A) (F0 m 80 ls [])) (hrm80 : ∀ (v2 : Int32) (v3 : Int32) (v4 : Int32) (v5 : Int32) (σ : S5), rec80 v2 v3 v4 v5 σ = some (r, τ) → ka σ ≤ ka τ ∧ sl σ ≤ sl τ)
    (hc : k0 ≤ ka σ ∧ s0 ≤ sl σ) (X : gX (dC, dI) (tK kc) (wK ad kc sa va) Z A s σ H locs) (hl : lv_has ls 6 [(0, .ref (ad 0)), (2, .int v2), (3, .int v3), (4, .int v4), (5, .int v5)]) (hg : f_X3_workLet_B80 rec80 v2 v3 v4 v5 σ = some (r, τ)) : W p l e R s m args below meth c H locs (ka σ - k0) (sl σ - s0) (MQ below (gQy (dC, dI) (tK kc) (wK ad kc) A τ) args s (ka τ - k0) (sl τ - s0) A) (F0 m 80 ls []) := by
  have hx := S.1
  have hb := S.2.1
  have hown := S.2.2.2.1
  have hu := S.2.2.2.2
  have hn := m_X3_workLet_B80 hrm80 hg
  have hm : ka σ = ka σ ∧ sl σ = sl σ := ⟨rfl, rfl⟩
  unfold f_X3_workLet_B80 at hg
  refine lv_iload hx hb dX3_workLet_80 (lv_at hl 3 rfl) ?_
  refine lv_bipush (v := 10) hx hb dX3_workLet_82 (by decide) ?_
  refine lv_icmp_ge (tgt := 153) hx hb dX3_workLet_84 (by decide) (fun c84 => ?_) (fun c84 => ?_)
  · have hg := (if_pos c84).symm.trans hg
    refine W.widen (k := ka σ - k0) (n := sl σ - s0) (show ka σ - k0 ≤ ka σ - k0 by omega) (show sl σ - s0 ≤ sl σ - s0 by omega) ?_
    exact w_X3_workLet_b153 S hr hk hR hRc (show k0 ≤ ka σ ∧ s0 ≤ sl σ from (by omega : k0 ≤ ka σ ∧ s0 ≤ sl σ)) X (lv_sub hl [0, 1, 2] rfl) hg
  · have hg := (if_neg c84).symm.trans hg
    refine lv_iload hx hb dX3_workLet_87 (lv_at hl 4 rfl) ?_
    refine lv_iconst (v := (-1)) hx hb dX3_workLet_89 (by decide) ?_
    refine lv_icmp_eq (tgt := 153) hx hb dX3_workLet_90 (by decide) (fun c90 => ?_) (fun c90 => ?_)
    · have hg := (if_pos c90).symm.trans hg
      refine W.widen (k := ka σ - k0) (n := sl σ - s0) (show ka σ - k0 ≤ ka σ - k0 by omega) (show sl σ - s0 ≤ sl σ - s0 by omega) ?_
      exact w_X3_workLet_b153 S hr hk hR hRc (show k0 ≤ ka σ ∧ s0 ≤ sl σ from (by omega : k0 ≤ ka σ ∧ s0 ≤ sl σ)) X (lv_sub hl [0, 1, 2] rfl) hg
    · have hg := (if_neg c90).symm.trans hg
      refine lv_aload_n hx hb dX3_workLet_93 rfl (lv_at hl 0 rfl) ?_
      obtain ⟨r94, τ94, hq94, hg⟩ := bd_some hg
      obtain ⟨ha94, hg⟩ := gq_some hg
      obtain ⟨hz94, hg⟩ := gq_some hg
      have hk94 : ka τ94 = ka σ ∧ sl τ94 = sl σ := ka_same ha94 hz94
      refine gck_Vi (As := []) (rest := []) (q0 := 0) (ci := 6) S X (k2_X3_isOver l dC dI ad kc sa va hq94 H.size) cw_X3_isOver mG_1922 rfl rfl rfl rfl rfl hl.1 (Nat.le_of_ble_eq_true rfl) dX3_workLet_94 ⟨by omega, by omega⟩ ⟨by omega, by omega⟩ (fun H locs X => ?_)
      have hm : ka τ94 = ka σ ∧ sl τ94 = sl σ := by omega
      refine lv_if_ne (tgt := 153) hx hb dX3_workLet_97 (by decide) (fun c97 => ?_) (fun c97 => ?_)
      · have hg := (if_neg c97).symm.trans hg
        refine W.widen (k := ka τ94 - k0) (n := sl τ94 - s0) (show ka σ - k0 ≤ ka τ94 - k0 by omega) (show sl σ - s0 ≤ sl τ94 - s0 by omega) ?_
        exact w_X3_workLet_b153 S hr hk hR hRc (show k0 ≤ ka τ94 ∧ s0 ≤ sl τ94 from (by omega : k0 ≤ ka τ94 ∧ s0 ≤ sl τ94)) X (lv_sub hl [0, 1, 2] rfl) hg
      · have hg := (if_pos c97).symm.trans hg
        refine lv_aload_n hx hb dX3_workLet_100 rfl (lv_at hl 0 rfl) ?_
        refine wkgR_0_9 S X mG_672 dX3_workLet_101 ?_
        refine lv_aload_n hx hb dX3_workLet_104 rfl (lv_at hl 0 rfl) ?_
        refine wkgI_41 (v := (gI τ94 41)) S X mG_673 rfl dX3_workLet_105 ?_
        refine lv_aload_n hx hb dX3_workLet_108 rfl (lv_at hl 0 rfl) ?_
        refine wkgR_0_0 S X mG_660 dX3_workLet_109 ?_
        refine wkgR_3_1 S X mG_388 dX3_workLet_112 ?_
        refine lv_iload hx hb dX3_workLet_115 (lv_at hl 4 rfl) ?_
        obtain ⟨hi117, hg⟩ := gd_some hg
        refine wklA_14 (v := (xA τ94 14 v5)) S X hi117 rfl dX3_workLet_117 ?_
        refine lv_iadd hx hb dX3_workLet_118 ?_
        refine lv_aload_n hx hb dX3_workLet_119 rfl (lv_at hl 0 rfl) ?_
        refine lv_aload_n hx hb dX3_workLet_120 rfl (lv_at hl 0 rfl) ?_
        refine wkgR_0_0 S X mG_660 dX3_workLet_121 ?_
        refine wkgR_3_3 S X mG_398 dX3_workLet_124 ?_
        refine lv_iload hx hb dX3_workLet_127 (lv_at hl 4 rfl) ?_
        obtain ⟨hi129, hg⟩ := gd_some hg
        refine wklA_16 (v := (xA τ94 16 v5)) S X hi129 rfl dX3_workLet_129 ?_
        refine lv_iconst (v := 1) hx hb dX3_workLet_130 (by decide) ?_
        obtain ⟨r131, τ131, hq131, hg⟩ := bd_some hg
        obtain ⟨ha131, hg⟩ := gq_some hg
        obtain ⟨hz131, hg⟩ := gq_some hg
        have hk131 : ka τ131 = ka τ94 ∧ sl τ131 = sl τ94 := ka_same ha131 hz131
        refine gck_Vl (As := [.int (xA τ94 16 v5), .int 1]) (rest := [.int ((gI τ94 41) + (xA τ94 14 v5)), .ref va]) (q0 := 0) (ci := 6) S X (k2_X3_begin l dC dI ad kc sa va hq131 H.size) cw_X3_begin mG_1892 rfl rfl rfl rfl rfl hl.1 (Nat.le_of_ble_eq_true rfl) dX3_workLet_131 ⟨by omega, by omega⟩ ⟨by omega, by omega⟩ (fun H locs X => ?_)
        have hm : ka τ131 = ka σ ∧ sl τ131 = sl σ := by omega
        obtain ⟨hi134, hg⟩ := gd_some hg
        refine wksB_13 S X hi134 dX3_workLet_134 (fun H locs X => ?_)
        refine lv_iinc (v := (v4 + 1)) (lv' := [(4, .int (v4 + 1)), (0, .ref (ad 0)), (2, .int v2), (3, .int v3), (5, .int v5)]) hx hb dX3_workLet_135 hl (k := 3) rfl (by rfl) (by decide) rfl (fun ls hl => ?_)
        refine lv_aload_n hx hb dX3_workLet_138 rfl (lv_at hl 1 rfl) ?_
        refine wkgR_0_0 S X mG_660 dX3_workLet_139 ?_
        refine wkgR_3_4 S X mG_405 dX3_workLet_142 ?_
        refine lv_iload hx hb dX3_workLet_145 (lv_at hl 4 rfl) ?_
        obtain ⟨hi147, hg⟩ := gd_some hg
        refine wklA_17 (v := (xA τ131 17 v5)) S X hi147 rfl dX3_workLet_147 ?_
        refine lv_istore (lv' := [(5, .int (xA τ131 17 v5)), (4, .int (v4 + 1)), (0, .ref (ad 0)), (2, .int v2), (3, .int v3)]) hx hb dX3_workLet_148 hl (by decide) rfl (fun ls hl => ?_)
        refine lv_goto (tgt := 80) hx hb dX3_workLet_150 (by decide) ?_
        refine W.widen (k := ka (pB τ131 13 ((gI τ94 41) + (xA τ94 14 v5)) r131) - k0) (n := sl (pB τ131 13 ((gI τ94 41) + (xA τ94 14 v5)) r131) - s0) (show ka σ - k0 ≤ ka τ131 - k0 by omega) (show sl σ - s0 ≤ sl τ131 - s0 by omega) ?_
        exact hrec80 _ _ _ _ _ _ _ _ _ _ (show k0 ≤ ka (pB τ131 13 ((gI τ94 41) + (xA τ94 14 v5)) r131) ∧ s0 ≤ sl (pB τ131 13 ((gI τ94 41) + (xA τ94 14 v5)) r131) from (by omega : k0 ≤ ka τ131 ∧ s0 ≤ sl τ131)) X (lv_sub hl [2, 3, 4, 1, 0] rfl) hg
set_option maxHeartbeats 4000000 in
set_option maxRecDepth 100000 in
theorem w_X3_workLet_L80 (S : CallFix p m c cX3_workLet 6 s args uG RX3) (hr : meth.sig.returnType = none) (hk : meth.locks = false) (hR : 195 ≤ R.frames ∧ 4745 ≤ R.locals) (hRc : ka τ - k0 ≤ R.cells ∧ sl τ - s0 ≤ R.slots) : ∀ (n : Nat) (sa va : Nat) (v2 : Int32) (v3 : Int32) (v4 : Int32) (v5 : Int32) (σ : S5) (H : Heap) (locs : List Loc) (ls : Array Slot), k0 ≤ ka σ ∧ s0 ≤ sl σ → gX (dC, dI) (tK kc) (wK ad kc sa va) Z A s σ H locs → lv_has ls 6 [(0, .ref (ad 0)), (2, .int v2), (3, .int v3), (4, .int v4), (5, .int v5)] → f_X3_workLet_L80  n v2 v3 v4 v5 σ = some (r, τ) → W p l e R s m args below meth c H locs (ka σ - k0) (sl σ - s0) (MQ below (gQy (dC, dI) (tK kc) (wK ad kc) A τ) args s (ka τ - k0) (sl τ - s0) A) (F0 m 80 ls []) := by
  intro n
  induction n with
  | zero => intro sa va v2 v3 v4 v5 σ H locs ls hc X hl hg; cases hg
  | succ n ih => intro sa va v2 v3 v4 v5 σ H locs ls hc X hl hg; exact w_X3_workLet_B80 S hr hk hR hRc ih (m_X3_workLet_L80 n) hc X hl hg
set_option maxHeartbeats 4000000 in
set_option maxRecDepth 100000 in
theorem w_X3_workLet_b74 {sa va : Nat} {σ : S5} {v2 : Int32} {v3 : Int32} {H : Heap} {locs : List Loc} {ls : Array Slot} (S : CallFix p m c cX3_workLet 6 s args uG RX3) (hr : meth.sig.returnType = none) (hk : meth.locks = false) (hR : 195 ≤ R.frames ∧ 4745 ≤ R.locals) (hRc : ka τ - k0 ≤ R.cells ∧ sl τ - s0 ≤ R.slots)
    (hc : k0 ≤ ka σ ∧ s0 ≤ sl σ) (X : gX (dC, dI) (tK kc) (wK ad kc sa va) Z A s σ H locs) (hl : lv_has ls 6 [(0, .ref (ad 0)), (2, .int v2), (3, .int v3)]) (hg : f_X3_workLet_b74 v2 v3 σ = some (r, τ)) : W p l e R s m args below meth c H locs (ka σ - k0) (sl σ - s0) (MQ below (gQy (dC, dI) (tK kc) (wK ad kc) A τ) args s (ka τ - k0) (sl τ - s0) A) (F0 m 74 ls []) := by
  have hx := S.1
  have hb := S.2.1
  have hown := S.2.2.2.1
  have hu := S.2.2.2.2
  have hn := m_X3_workLet_b74 hg
  have hm : ka σ = ka σ ∧ sl σ = sl σ := ⟨rfl, rfl⟩
  unfold f_X3_workLet_b74 at hg
  refine lv_iconst (v := 0) hx hb dX3_workLet_74 (by decide) ?_
  refine lv_istore (lv' := [(4, .int 0), (0, .ref (ad 0)), (2, .int v2), (3, .int v3)]) hx hb dX3_workLet_75 hl (by decide) rfl (fun ls hl => ?_)
  refine lv_iload_n hx hb dX3_workLet_77 rfl (lv_at hl 3 rfl) ?_
  refine lv_istore (lv' := [(5, .int v3), (4, .int 0), (0, .ref (ad 0)), (2, .int v2), (3, .int v3)]) hx hb dX3_workLet_78 hl (by decide) rfl (fun ls hl => ?_)
  refine W.widen (k := ka σ - k0) (n := sl σ - s0) (show ka σ - k0 ≤ ka σ - k0 by omega) (show sl σ - s0 ≤ sl σ - s0 by omega) ?_
  exact w_X3_workLet_L80 S hr hk hR hRc _ _ _ _ _ _ _ _ _ _ _ (show k0 ≤ ka σ ∧ s0 ≤ sl σ from (by omega : k0 ≤ ka σ ∧ s0 ≤ sl σ)) X (lv_sub hl [2, 3, 4, 1, 0] rfl) hg
set_option maxHeartbeats 4000000 in
set_option maxRecDepth 100000 in
theorem w_X3_workLet_b60 {sa va : Nat} {σ : S5} {v3 : Int32} {H : Heap} {locs : List Loc} {ls : Array Slot} (S : CallFix p m c cX3_workLet 6 s args uG RX3) (hr : meth.sig.returnType = none) (hk : meth.locks = false) (hR : 195 ≤ R.frames ∧ 4745 ≤ R.locals) (hRc : ka τ - k0 ≤ R.cells ∧ sl τ - s0 ≤ R.slots)
    (hc : k0 ≤ ka σ ∧ s0 ≤ sl σ) (X : gX (dC, dI) (tK kc) (wK ad kc sa va) Z A s σ H locs) (hl : lv_has ls 6 [(0, .ref (ad 0)), (3, .int v3)]) (hg : f_X3_workLet_b60 v3 σ = some (r, τ)) : W p l e R s m args below meth c H locs (ka σ - k0) (sl σ - s0) (MQ below (gQy (dC, dI) (tK kc) (wK ad kc) A τ) args s (ka τ - k0) (sl τ - s0) A) (F0 m 60 ls []) := by
  have hx := S.1
  have hb := S.2.1
  have hown := S.2.2.2.1
  have hu := S.2.2.2.2
  have hn := m_X3_workLet_b60 hg
  have hm : ka σ = ka σ ∧ sl σ = sl σ := ⟨rfl, rfl⟩
  unfold f_X3_workLet_b60 at hg
  refine lv_aload_n hx hb dX3_workLet_60 rfl (lv_at hl 0 rfl) ?_
  refine lv_aload_n hx hb dX3_workLet_61 rfl (lv_at hl 0 rfl) ?_
  refine wkgR_0_0 S X mG_660 dX3_workLet_62 ?_
  refine wkgR_3_3 S X mG_398 dX3_workLet_65 ?_
  refine lv_iload_n hx hb dX3_workLet_68 rfl (lv_at hl 1 rfl) ?_
  obtain ⟨hi69, hg⟩ := gd_some hg
  refine wklA_16 (v := (xA σ 16 v3)) S X hi69 rfl dX3_workLet_69 ?_
  obtain ⟨r70, τ70, hq70, hg⟩ := bd_some hg
  obtain ⟨ha70, hg⟩ := gq_some hg
  obtain ⟨hz70, hg⟩ := gq_some hg
  have hk70 : ka τ70 = ka σ ∧ sl τ70 = sl σ := ka_same ha70 hz70
  refine gck_Vv (As := [.int (xA σ 16 v3)]) (rest := []) (q0 := 0) (ci := 6) S X (k2_X3_workOn l dC dI ad kc sa va hq70 H.size) cw_X3_workOn mG_1879 rfl rfl rfl rfl rfl hl.1 (Nat.le_of_ble_eq_true rfl) dX3_workLet_70 ⟨by omega, by omega⟩ ⟨by omega, by omega⟩ (fun H locs X => ?_)
  have hm : ka τ70 = ka σ ∧ sl τ70 = sl σ := by omega
  obtain ⟨-, rfl⟩ := fin_some hg
  refine W.widen (k := ka τ70 - k0) (n := sl τ70 - s0) (show ka σ - k0 ≤ ka τ70 - k0 by omega) (show sl σ - s0 ≤ sl τ70 - s0 by omega) ?_
  exact gr_y S hr hk X dX3_workLet_73
set_option maxHeartbeats 4000000 in
set_option maxRecDepth 100000 in
theorem w_X3_workLet {sa va : Nat} {σ : S5} {a1 : Int32} {H : Heap} {locs : List Loc} {ls : Array Slot} (S : CallFix p m c cX3_workLet 6 s args uG RX3) (hr : meth.sig.returnType = none) (hk : meth.locks = false) (hR : 195 ≤ R.frames ∧ 4745 ≤ R.locals) (hRc : ka τ - k0 ≤ R.cells ∧ sl τ - s0 ≤ R.slots)
    (hc : k0 ≤ ka σ ∧ s0 ≤ sl σ) (X : gX (dC, dI) (tK kc) (wK ad kc sa va) Z A s σ H locs) (hl : lv_has ls 6 [(0, .ref (ad 0)), (1, .int a1)]) (hg : f_X3_workLet a1 σ = some (r, τ)) : W p l e R s m args below meth c H locs (ka σ - k0) (sl σ - s0) (MQ below (gQy (dC, dI) (tK kc) (wK ad kc) A τ) args s (ka τ - k0) (sl τ - s0) A) (F0 m 0 ls []) := by
  have hx := S.1
  have hb := S.2.1
  have hown := S.2.2.2.1
  have hu := S.2.2.2.2
  have hn := m_X3_workLet hg
  have hm : ka σ = ka σ ∧ sl σ = sl σ := ⟨rfl, rfl⟩
  unfold f_X3_workLet at hg
  refine lv_aload_n hx hb dX3_workLet_0 rfl (lv_at hl 0 rfl) ?_
  refine wkgR_0_0 S X mG_660 dX3_workLet_1 ?_
  refine wkgR_3_3 S X mG_398 dX3_workLet_4 ?_
  refine lv_iload_n hx hb dX3_workLet_7 rfl (lv_at hl 1 rfl) ?_
  obtain ⟨hi8, hg⟩ := gd_some hg
  refine wklA_16 (v := (xA σ 16 a1)) S X hi8 rfl dX3_workLet_8 ?_
  refine lv_istore_n (lv' := [(2, .int (xA σ 16 a1)), (0, .ref (ad 0)), (1, .int a1)]) hx hb dX3_workLet_9 rfl hl (by decide) rfl (fun ls hl => ?_)
  refine lv_aload_n hx hb dX3_workLet_10 rfl (lv_at hl 1 rfl) ?_
  refine wkgR_0_0 S X mG_660 dX3_workLet_11 ?_
  refine wkgR_3_4 S X mG_405 dX3_workLet_14 ?_
  refine lv_iload_n hx hb dX3_workLet_17 rfl (lv_at hl 0 rfl) ?_
  obtain ⟨hi18, hg⟩ := gd_some hg
  refine wklA_17 (v := (xA σ 17 (xA σ 16 a1))) S X hi18 rfl dX3_workLet_18 ?_
  refine lv_istore_n (lv' := [(3, .int (xA σ 17 (xA σ 16 a1))), (2, .int (xA σ 16 a1)), (0, .ref (ad 0)), (1, .int a1)]) hx hb dX3_workLet_19 rfl hl (by decide) rfl (fun ls hl => ?_)
  refine lv_aload_n hx hb dX3_workLet_20 rfl (lv_at hl 2 rfl) ?_
  refine wkgI_46 (v := (gI σ 46)) S X mG_679 rfl dX3_workLet_21 ?_
  refine lv_if_eq (tgt := 74) hx hb dX3_workLet_24 (by decide) (fun c24 => ?_) (fun c24 => ?_)
  · have hg := (if_pos c24).symm.trans hg
    refine W.widen (k := ka σ - k0) (n := sl σ - s0) (show ka σ - k0 ≤ ka σ - k0 by omega) (show sl σ - s0 ≤ sl σ - s0 by omega) ?_
    exact w_X3_workLet_b74 S hr hk hR hRc (show k0 ≤ ka σ ∧ s0 ≤ sl σ from (by omega : k0 ≤ ka σ ∧ s0 ≤ sl σ)) X (lv_sub hl [2, 1, 0] rfl) hg
  · have hg := (if_neg c24).symm.trans hg
    refine lv_aload_n hx hb dX3_workLet_27 rfl (lv_at hl 2 rfl) ?_
    refine wkgR_0_0 S X mG_660 dX3_workLet_28 ?_
    refine wkgR_3_1 S X mG_388 dX3_workLet_31 ?_
    refine lv_iload_n hx hb dX3_workLet_34 rfl (lv_at hl 3 rfl) ?_
    obtain ⟨hi35, hg⟩ := gd_some hg
    refine wklA_14 (v := (xA σ 14 a1)) S X hi35 rfl dX3_workLet_35 ?_
    refine lv_if_eq (tgt := 74) hx hb dX3_workLet_36 (by decide) (fun c36 => ?_) (fun c36 => ?_)
    · have hg := (if_pos c36).symm.trans hg
      refine W.widen (k := ka σ - k0) (n := sl σ - s0) (show ka σ - k0 ≤ ka σ - k0 by omega) (show sl σ - s0 ≤ sl σ - s0 by omega) ?_
      exact w_X3_workLet_b74 S hr hk hR hRc (show k0 ≤ ka σ ∧ s0 ≤ sl σ from (by omega : k0 ≤ ka σ ∧ s0 ≤ sl σ)) X (lv_sub hl [2, 1, 0] rfl) hg
    · have hg := (if_neg c36).symm.trans hg
      refine lv_aload_n hx hb dX3_workLet_39 rfl (lv_at hl 2 rfl) ?_
      refine wkgR_0_2 S X mG_662 dX3_workLet_40 ?_
      refine lv_bipush (v := 8) hx hb dX3_workLet_43 (by decide) ?_
      refine lv_dup2_11 hx hb dX3_workLet_45 rfl rfl ?_
      refine wklA_40 (v := (xA σ 40 8)) S X (vp_in_iff.mpr (by decide)) rfl dX3_workLet_46 ?_
      refine lv_iconst (v := 1) hx hb dX3_workLet_47 (by decide) ?_
      refine lv_iadd hx hb dX3_workLet_48 ?_
      refine wksA_40 S X (vp_in_iff.mpr (by decide)) dX3_workLet_49 (fun H locs X => ?_)
      refine lv_aload_n hx hb dX3_workLet_50 rfl (lv_at hl 2 rfl) ?_
      refine lv_iconst (v := 4) hx hb dX3_workLet_51 (by decide) ?_
      refine lv_iload_n hx hb dX3_workLet_52 rfl (lv_at hl 3 rfl) ?_
      refine lv_iconst (v := 0) hx hb dX3_workLet_53 (by decide) ?_
      obtain ⟨r54, τ54, hq54, hg⟩ := bd_some hg
      obtain ⟨ha54, hg⟩ := gq_some hg
      obtain ⟨hz54, hg⟩ := gq_some hg
      have hk54 : ka τ54 = ka σ ∧ sl τ54 = sl σ := ka_same ha54 hz54
      refine gck_Sl (As := [.int 4, .int a1, .int 0]) (rest := [.ref (ad 0)]) S X (k2_X3_frame l dC dI ad kc sa va hq54 H.size) cw_X3_frame mG_1811 rfl rfl hl.1 (Nat.le_of_ble_eq_true rfl) dX3_workLet_54 ⟨by omega, by omega⟩ ⟨by omega, by omega⟩ (fun H locs X => ?_)
      have hm : ka τ54 = ka σ ∧ sl τ54 = sl σ := by omega
      obtain ⟨r57, τ57, hq57, hg⟩ := bd_some hg
      obtain ⟨ha57, hg⟩ := gle_some hg
      obtain ⟨hz57, hg⟩ := gle_some hg
      have hk57 : ka τ54 ≤ ka τ57 ∧ sl τ54 ≤ sl τ57 := ka_mono ha57 hz57
      have hn2 : ka τ57 ≤ ka τ ∧ sl τ57 ≤ sl τ := m_X3_workLet_b60 hg
      refine gcy_V (w := wK ad kc) (As := [.long r54]) (rest := []) (q0 := 0) (ci := 6) (mc := ka τ57 - ka τ54) (ms := sl τ57 - sl τ54) S X (k2_X3_push l dC dI ad kc sa va hq57 H.size) cw_X3_push mG_1814 rfl rfl rfl rfl rfl hl.1 (Nat.le_of_ble_eq_true rfl) dX3_workLet_57 ⟨by omega, by omega⟩ ⟨by omega, by omega⟩ (fun sa va H locs X => ?_)
      refine W.widen (k := ka τ57 - k0) (n := sl τ57 - s0) (by omega) (by omega) ?_
      exact w_X3_workLet_b60 S hr hk hR hRc (show k0 ≤ ka τ57 ∧ s0 ≤ sl τ57 from (by omega : k0 ≤ ka τ57 ∧ s0 ≤ sl τ57)) X (lv_sub hl [2, 0] rfl) hg
end MX3_workLet
set_option maxRecDepth 100000 in
theorem k2_X3_workLet (l : Launch) (dC : Nat → ClassId) (dI : Nat → Nat → Nat) {Z : ZZ} (ad : Nat → Nat) (kc : Nat → ClassId) (sa va : Nat) {σ τ : S5} {a1 : Int32} {r : Unit} (hg : f_X3_workLet a1 σ = some (r, τ)) (sz : Nat) : Met l yX3_workLet (Cond.code yX3_workLet cX3_workLet 6 none :: uG) { frames := 195, cells := ka τ - ka σ, slots := sl τ - sl σ, locals := 4745 } (gPc (dC, dI) (tK kc) (wK ad kc sa va) Z [.ref (ad 0), .int a1] σ sz) (gQy (dC, dI) (tK kc) (wK ad kc) (va_A (wK ad kc sa va σ) sz) τ) (ka τ - ka σ) (sl τ - sl σ) (va_A (wK ad kc sa va σ) sz) :=
  gy_start (by decide) (Nat.le_of_ble_eq_true rfl) (fun p e s m below meth c ls S hr hk X hl => W.widen (Nat.zero_le _) (Nat.zero_le _) (w_X3_workLet (k0 := ka σ) (s0 := sl σ) S hr hk ⟨Nat.le_refl _, Nat.le_refl _⟩ ⟨Nat.le_refl _, Nat.le_refl _⟩ ⟨Nat.le_refl _, Nat.le_refl _⟩ X hl hg))
section MX3_work
variable {r : Unit} {τ : S5}
set_option maxHeartbeats 4000000 in
theorem m_X3_work_b197 {σ : S5}   (hg : f_X3_work_b197  σ = some (r, τ)) : ka σ ≤ ka τ ∧ sl σ ≤ sl τ := by
  have hm : ka σ ≤ ka σ ∧ sl σ ≤ sl σ := ⟨Nat.le_refl _, Nat.le_refl _⟩
  unfold f_X3_work_b197 at hg
  obtain ⟨-, rfl⟩ := fin_some hg
  exact hm
set_option maxHeartbeats 4000000 in
theorem m_X3_work_b189 {σ : S5}   (hg : f_X3_work_b189  σ = some (r, τ)) : ka σ ≤ ka τ ∧ sl σ ≤ sl τ := by
  have hm : ka σ ≤ ka σ ∧ sl σ ≤ sl σ := ⟨Nat.le_refl _, Nat.le_refl _⟩
  unfold f_X3_work_b189 at hg
  exact ⟨Nat.le_trans hm.1 (m_X3_work_b197 hg).1, Nat.le_trans hm.2 (m_X3_work_b197 hg).2⟩
set_option maxHeartbeats 4000000 in
theorem m_X3_work_b168 {σ : S5} {v1 : Int32}  (hg : f_X3_work_b168 v1 σ = some (r, τ)) : ka σ ≤ ka τ ∧ sl σ ≤ sl τ := by
  have hm : ka σ ≤ ka σ ∧ sl σ ≤ sl σ := ⟨Nat.le_refl _, Nat.le_refl _⟩
  unfold f_X3_work_b168 at hg
  obtain ⟨hi177, hg⟩ := gd_some hg
  obtain ⟨r178, τ178, hq178, hg⟩ := bd_some hg
  obtain ⟨ha178, hg⟩ := gq_some hg
  obtain ⟨hz178, hg⟩ := gq_some hg
  have hk178 : ka τ178 = ka σ ∧ sl τ178 = sl σ := ka_same ha178 hz178
  have hm : ka σ ≤ ka τ178 ∧ sl σ ≤ sl τ178 := by omega
  exact ⟨Nat.le_trans hm.1 (m_X3_work_b197 hg).1, Nat.le_trans hm.2 (m_X3_work_b197 hg).2⟩
set_option maxHeartbeats 4000000 in
theorem m_X3_work_b142 {σ : S5} {v1 : Int32}  (hg : f_X3_work_b142 v1 σ = some (r, τ)) : ka σ ≤ ka τ ∧ sl σ ≤ sl τ := by
  have hm : ka σ ≤ ka σ ∧ sl σ ≤ sl σ := ⟨Nat.le_refl _, Nat.le_refl _⟩
  unfold f_X3_work_b142 at hg
  obtain ⟨hi151, hg⟩ := gd_some hg
  obtain ⟨r152, τ152, hq152, hg⟩ := bd_some hg
  obtain ⟨ha152, hg⟩ := gq_some hg
  obtain ⟨hz152, hg⟩ := gq_some hg
  have hk152 : ka τ152 = ka σ ∧ sl τ152 = sl σ := ka_same ha152 hz152
  have hm : ka σ ≤ ka τ152 ∧ sl σ ≤ sl τ152 := by omega
  exact ⟨Nat.le_trans hm.1 (m_X3_work_b197 hg).1, Nat.le_trans hm.2 (m_X3_work_b197 hg).2⟩
set_option maxHeartbeats 4000000 in
theorem m_X3_work_b120 {σ : S5}   (hg : f_X3_work_b120  σ = some (r, τ)) : ka σ ≤ ka τ ∧ sl σ ≤ sl τ := by
  have hm : ka σ ≤ ka σ ∧ sl σ ≤ sl σ := ⟨Nat.le_refl _, Nat.le_refl _⟩
  unfold f_X3_work_b120 at hg
  exact ⟨Nat.le_trans hm.1 (m_X3_work_b197 hg).1, Nat.le_trans hm.2 (m_X3_work_b197 hg).2⟩
set_option maxHeartbeats 4000000 in
theorem m_X3_work_b102 {σ : S5}   (hg : f_X3_work_b102  σ = some (r, τ)) : ka σ ≤ ka τ ∧ sl σ ≤ sl τ := by
  have hm : ka σ ≤ ka σ ∧ sl σ ≤ sl σ := ⟨Nat.le_refl _, Nat.le_refl _⟩
  unfold f_X3_work_b102 at hg
  exact ⟨Nat.le_trans hm.1 (m_X3_work_b197 hg).1, Nat.le_trans hm.2 (m_X3_work_b197 hg).2⟩
set_option maxHeartbeats 4000000 in
theorem m_X3_work {σ : S5}   (hg : f_X3_work  σ = some (r, τ)) : ka σ ≤ ka τ ∧ sl σ ≤ sl τ := by
  have hm : ka σ ≤ ka σ ∧ sl σ ≤ sl σ := ⟨Nat.le_refl _, Nat.le_refl _⟩
  unfold f_X3_work at hg
  obtain ⟨hi13, hg⟩ := gd_some hg
  obtain ⟨hi23, hg⟩ := gd_some hg
  rcases sw_0_9 ((xA σ 13 (gI σ 44))) with hsw | hsw | hsw | hsw | hsw | hsw | hsw | hsw | hsw | hsw | hsw
  · obtain ⟨hs0, hs1, hs2, hs3, hs4, hs5, hs6, hs7, hs8, hs9⟩ := swo_0_9 hsw
    have hg := (if_neg hs0).symm.trans hg
    have hg := (if_neg hs1).symm.trans hg
    have hg := (if_neg hs2).symm.trans hg
    have hg := (if_neg hs3).symm.trans hg
    have hg := (if_neg hs4).symm.trans hg
    have hg := (if_neg hs5).symm.trans hg
    have hg := (if_neg hs6).symm.trans hg
    have hg := (if_neg hs7).symm.trans hg
    have hg := (if_neg hs8).symm.trans hg
    have hg := (if_neg hs9).symm.trans hg
    obtain ⟨r194, τ194, hq194, hg⟩ := bd_some hg
    obtain ⟨ha194, hg⟩ := gle_some hg
    obtain ⟨hz194, hg⟩ := gle_some hg
    have hk194 : ka σ ≤ ka τ194 ∧ sl σ ≤ sl τ194 := ka_mono ha194 hz194
    have hm : ka σ ≤ ka τ194 ∧ sl σ ≤ sl τ194 := by omega
    exact ⟨Nat.le_trans hm.1 (m_X3_work_b197 hg).1, Nat.le_trans hm.2 (m_X3_work_b197 hg).2⟩
  · have hg := (if_pos hsw).symm.trans hg
    obtain ⟨r83, τ83, hq83, hg⟩ := bd_some hg
    obtain ⟨ha83, hg⟩ := gq_some hg
    obtain ⟨hz83, hg⟩ := gq_some hg
    have hk83 : ka τ83 = ka σ ∧ sl τ83 = sl σ := ka_same ha83 hz83
    have hm : ka σ ≤ ka τ83 ∧ sl σ ≤ sl τ83 := by omega
    obtain ⟨r86, τ86, hq86, hg⟩ := bd_some hg
    obtain ⟨ha86, hg⟩ := gq_some hg
    obtain ⟨hz86, hg⟩ := gq_some hg
    have hk86 : ka τ86 = ka τ83 ∧ sl τ86 = sl τ83 := ka_same ha86 hz86
    have hm : ka σ ≤ ka τ86 ∧ sl σ ≤ sl τ86 := by omega
    exact ⟨Nat.le_trans hm.1 (m_X3_work_b197 hg).1, Nat.le_trans hm.2 (m_X3_work_b197 hg).2⟩
  · have hg := (if_neg (by rw [hsw]; decide)).symm.trans hg
    have hg := (if_pos hsw).symm.trans hg
    obtain ⟨r83, τ83, hq83, hg⟩ := bd_some hg
    obtain ⟨ha83, hg⟩ := gq_some hg
    obtain ⟨hz83, hg⟩ := gq_some hg
    have hk83 : ka τ83 = ka σ ∧ sl τ83 = sl σ := ka_same ha83 hz83
    have hm : ka σ ≤ ka τ83 ∧ sl σ ≤ sl τ83 := by omega
    obtain ⟨r86, τ86, hq86, hg⟩ := bd_some hg
    obtain ⟨ha86, hg⟩ := gq_some hg
    obtain ⟨hz86, hg⟩ := gq_some hg
    have hk86 : ka τ86 = ka τ83 ∧ sl τ86 = sl τ83 := ka_same ha86 hz86
    have hm : ka σ ≤ ka τ86 ∧ sl σ ≤ sl τ86 := by omega
    exact ⟨Nat.le_trans hm.1 (m_X3_work_b197 hg).1, Nat.le_trans hm.2 (m_X3_work_b197 hg).2⟩
  · have hg := (if_neg (by rw [hsw]; decide)).symm.trans hg
    have hg := (if_neg (by rw [hsw]; decide)).symm.trans hg
    have hg := (if_pos hsw).symm.trans hg
    obtain ⟨r96, τ96, hq96, hg⟩ := bd_some hg
    obtain ⟨ha96, hg⟩ := gq_some hg
    obtain ⟨hz96, hg⟩ := gq_some hg
    have hk96 : ka τ96 = ka σ ∧ sl τ96 = sl σ := ka_same ha96 hz96
    have hm : ka σ ≤ ka τ96 ∧ sl σ ≤ sl τ96 := by omega
    obtain ⟨r99, τ99, hq99, hg⟩ := bd_some hg
    obtain ⟨ha99, hg⟩ := gle_some hg
    obtain ⟨hz99, hg⟩ := gle_some hg
    have hk99 : ka τ96 ≤ ka τ99 ∧ sl τ96 ≤ sl τ99 := ka_mono ha99 hz99
    have hm : ka σ ≤ ka τ99 ∧ sl σ ≤ sl τ99 := by omega
    exact ⟨Nat.le_trans hm.1 (m_X3_work_b102 hg).1, Nat.le_trans hm.2 (m_X3_work_b102 hg).2⟩
  · have hg := (if_neg (by rw [hsw]; decide)).symm.trans hg
    have hg := (if_neg (by rw [hsw]; decide)).symm.trans hg
    have hg := (if_neg (by rw [hsw]; decide)).symm.trans hg
    have hg := (if_pos hsw).symm.trans hg
    obtain ⟨hi116, hg⟩ := gd_some hg
    obtain ⟨r117, τ117, hq117, hg⟩ := bd_some hg
    obtain ⟨ha117, hg⟩ := gle_some hg
    obtain ⟨hz117, hg⟩ := gle_some hg
    have hk117 : ka σ ≤ ka τ117 ∧ sl σ ≤ sl τ117 := ka_mono ha117 hz117
    have hm : ka σ ≤ ka τ117 ∧ sl σ ≤ sl τ117 := by omega
    exact ⟨Nat.le_trans hm.1 (m_X3_work_b120 hg).1, Nat.le_trans hm.2 (m_X3_work_b120 hg).2⟩
  · have hg := (if_neg (by rw [hsw]; decide)).symm.trans hg
    have hg := (if_neg (by rw [hsw]; decide)).symm.trans hg
    have hg := (if_neg (by rw [hsw]; decide)).symm.trans hg
    have hg := (if_neg (by rw [hsw]; decide)).symm.trans hg
    have hg := (if_pos hsw).symm.trans hg
    obtain ⟨r126, τ126, hq126, hg⟩ := bd_some hg
    obtain ⟨ha126, hg⟩ := gq_some hg
    obtain ⟨hz126, hg⟩ := gq_some hg
    have hk126 : ka τ126 = ka σ ∧ sl τ126 = sl σ := ka_same ha126 hz126
    have hm : ka σ ≤ ka τ126 ∧ sl σ ≤ sl τ126 := by omega
    exact ⟨Nat.le_trans hm.1 (m_X3_work_b197 hg).1, Nat.le_trans hm.2 (m_X3_work_b197 hg).2⟩
  · have hg := (if_neg (by rw [hsw]; decide)).symm.trans hg
    have hg := (if_neg (by rw [hsw]; decide)).symm.trans hg
    have hg := (if_neg (by rw [hsw]; decide)).symm.trans hg
    have hg := (if_neg (by rw [hsw]; decide)).symm.trans hg
    have hg := (if_neg (by rw [hsw]; decide)).symm.trans hg
    have hg := (if_pos hsw).symm.trans hg
    obtain ⟨r136, τ136, hq136, hg⟩ := bd_some hg
    obtain ⟨ha136, hg⟩ := gq_some hg
    obtain ⟨hz136, hg⟩ := gq_some hg
    have hk136 : ka τ136 = ka σ ∧ sl τ136 = sl σ := ka_same ha136 hz136
    have hm : ka σ ≤ ka τ136 ∧ sl σ ≤ sl τ136 := by omega
    obtain ⟨r139, τ139, hq139, hg⟩ := bd_some hg
    obtain ⟨ha139, hg⟩ := gle_some hg
    obtain ⟨hz139, hg⟩ := gle_some hg
    have hk139 : ka τ136 ≤ ka τ139 ∧ sl τ136 ≤ sl τ139 := ka_mono ha139 hz139
    have hm : ka σ ≤ ka τ139 ∧ sl σ ≤ sl τ139 := by omega
    exact ⟨Nat.le_trans hm.1 (m_X3_work_b142 hg).1, Nat.le_trans hm.2 (m_X3_work_b142 hg).2⟩
  · have hg := (if_neg (by rw [hsw]; decide)).symm.trans hg
    have hg := (if_neg (by rw [hsw]; decide)).symm.trans hg
    have hg := (if_neg (by rw [hsw]; decide)).symm.trans hg
    have hg := (if_neg (by rw [hsw]; decide)).symm.trans hg
    have hg := (if_neg (by rw [hsw]; decide)).symm.trans hg
    have hg := (if_neg (by rw [hsw]; decide)).symm.trans hg
    have hg := (if_pos hsw).symm.trans hg
    obtain ⟨r162, τ162, hq162, hg⟩ := bd_some hg
    obtain ⟨ha162, hg⟩ := gq_some hg
    obtain ⟨hz162, hg⟩ := gq_some hg
    have hk162 : ka τ162 = ka σ ∧ sl τ162 = sl σ := ka_same ha162 hz162
    have hm : ka σ ≤ ka τ162 ∧ sl σ ≤ sl τ162 := by omega
    obtain ⟨r165, τ165, hq165, hg⟩ := bd_some hg
    obtain ⟨ha165, hg⟩ := gle_some hg
    obtain ⟨hz165, hg⟩ := gle_some hg
    have hk165 : ka τ162 ≤ ka τ165 ∧ sl τ162 ≤ sl τ165 := ka_mono ha165 hz165
    have hm : ka σ ≤ ka τ165 ∧ sl σ ≤ sl τ165 := by omega
    exact ⟨Nat.le_trans hm.1 (m_X3_work_b168 hg).1, Nat.le_trans hm.2 (m_X3_work_b168 hg).2⟩
  · have hg := (if_neg (by rw [hsw]; decide)).symm.trans hg
    have hg := (if_neg (by rw [hsw]; decide)).symm.trans hg
    have hg := (if_neg (by rw [hsw]; decide)).symm.trans hg
    have hg := (if_neg (by rw [hsw]; decide)).symm.trans hg
    have hg := (if_neg (by rw [hsw]; decide)).symm.trans hg
    have hg := (if_neg (by rw [hsw]; decide)).symm.trans hg
    have hg := (if_neg (by rw [hsw]; decide)).symm.trans hg
    have hg := (if_pos hsw).symm.trans hg
    obtain ⟨r186, τ186, hq186, hg⟩ := bd_some hg
    obtain ⟨ha186, hg⟩ := gle_some hg
    obtain ⟨hz186, hg⟩ := gle_some hg
    have hk186 : ka σ ≤ ka τ186 ∧ sl σ ≤ sl τ186 := ka_mono ha186 hz186
    have hm : ka σ ≤ ka τ186 ∧ sl σ ≤ sl τ186 := by omega
    exact ⟨Nat.le_trans hm.1 (m_X3_work_b189 hg).1, Nat.le_trans hm.2 (m_X3_work_b189 hg).2⟩
  · have hg := (if_neg (by rw [hsw]; decide)).symm.trans hg
    have hg := (if_neg (by rw [hsw]; decide)).symm.trans hg
    have hg := (if_neg (by rw [hsw]; decide)).symm.trans hg
    have hg := (if_neg (by rw [hsw]; decide)).symm.trans hg
    have hg := (if_neg (by rw [hsw]; decide)).symm.trans hg
    have hg := (if_neg (by rw [hsw]; decide)).symm.trans hg
    have hg := (if_neg (by rw [hsw]; decide)).symm.trans hg
    have hg := (if_neg (by rw [hsw]; decide)).symm.trans hg
    have hg := (if_pos hsw).symm.trans hg
    obtain ⟨r194, τ194, hq194, hg⟩ := bd_some hg
    obtain ⟨ha194, hg⟩ := gle_some hg
    obtain ⟨hz194, hg⟩ := gle_some hg
    have hk194 : ka σ ≤ ka τ194 ∧ sl σ ≤ sl τ194 := ka_mono ha194 hz194
    have hm : ka σ ≤ ka τ194 ∧ sl σ ≤ sl τ194 := by omega
    exact ⟨Nat.le_trans hm.1 (m_X3_work_b197 hg).1, Nat.le_trans hm.2 (m_X3_work_b197 hg).2⟩
  · have hg := (if_neg (by rw [hsw]; decide)).symm.trans hg
    have hg := (if_neg (by rw [hsw]; decide)).symm.trans hg
    have hg := (if_neg (by rw [hsw]; decide)).symm.trans hg
    have hg := (if_neg (by rw [hsw]; decide)).symm.trans hg
    have hg := (if_neg (by rw [hsw]; decide)).symm.trans hg
    have hg := (if_neg (by rw [hsw]; decide)).symm.trans hg
    have hg := (if_neg (by rw [hsw]; decide)).symm.trans hg
    have hg := (if_neg (by rw [hsw]; decide)).symm.trans hg
    have hg := (if_neg (by rw [hsw]; decide)).symm.trans hg
    have hg := (if_pos hsw).symm.trans hg
    obtain ⟨r83, τ83, hq83, hg⟩ := bd_some hg
    obtain ⟨ha83, hg⟩ := gq_some hg
    obtain ⟨hz83, hg⟩ := gq_some hg
    have hk83 : ka τ83 = ka σ ∧ sl τ83 = sl σ := ka_same ha83 hz83
    have hm : ka σ ≤ ka τ83 ∧ sl σ ≤ sl τ83 := by omega
    obtain ⟨r86, τ86, hq86, hg⟩ := bd_some hg
    obtain ⟨ha86, hg⟩ := gq_some hg
    obtain ⟨hz86, hg⟩ := gq_some hg
    have hk86 : ka τ86 = ka τ83 ∧ sl τ86 = sl τ83 := ka_same ha86 hz86
    have hm : ka σ ≤ ka τ86 ∧ sl σ ≤ sl τ86 := by omega
    exact ⟨Nat.le_trans hm.1 (m_X3_work_b197 hg).1, Nat.le_trans hm.2 (m_X3_work_b197 hg).2⟩
variable {p : Program} {l : Launch} {e : Env} {R : Room} {s : State} {m : MethodId} {args : Array Value} {below : List Frame} {meth : Method} {c : Code} {dC : Nat → ClassId} {dI : Nat → Nat → Nat} {Z : ZZ} {A : Nat → Prop} {ad : Nat → Nat} {kc : Nat → ClassId} {k0 s0 : Nat}
set_option maxHeartbeats 4000000 in
set_option maxRecDepth 100000 in
theorem w_X3_work_b197 {sa va : Nat} {σ : S5}  {H : Heap} {locs : List Loc} {ls : Array Slot} (S : CallFix p m c cX3_work 3 s args uG RX3) (hr : meth.sig.returnType = none) (hk : meth.locks = false) (hR : 196 ≤ R.frames ∧ 4770 ≤ R.locals) (hRc : ka τ - k0 ≤ R.cells ∧ sl τ - s0 ≤ R.slots)
    (hc : k0 ≤ ka σ ∧ s0 ≤ sl σ) (X : gX (dC, dI) (tK kc) (wK ad kc sa va) Z A s σ H locs) (hl : lv_has ls 3 []) (hg : f_X3_work_b197  σ = some (r, τ)) : W p l e R s m args below meth c H locs (ka σ - k0) (sl σ - s0) (MQ below (gQy (dC, dI) (tK kc) (wK ad kc) A τ) args s (ka τ - k0) (sl τ - s0) A) (F0 m 197 ls []) := by
  have hx := S.1
  have hb := S.2.1
  have hown := S.2.2.2.1
  have hu := S.2.2.2.2
  have hn := m_X3_work_b197 hg
  have hm : ka σ = ka σ ∧ sl σ = sl σ := ⟨rfl, rfl⟩
  unfold f_X3_work_b197 at hg
  obtain ⟨-, rfl⟩ := fin_some hg
  refine W.widen (k := ka σ - k0) (n := sl σ - s0) (show ka σ - k0 ≤ ka σ - k0 by omega) (show sl σ - s0 ≤ sl σ - s0 by omega) ?_
  exact gr_y S hr hk X dX3_work_197
set_option maxHeartbeats 4000000 in
set_option maxRecDepth 100000 in
theorem w_X3_work_b189 {sa va : Nat} {σ : S5}  {H : Heap} {locs : List Loc} {ls : Array Slot} (S : CallFix p m c cX3_work 3 s args uG RX3) (hr : meth.sig.returnType = none) (hk : meth.locks = false) (hR : 196 ≤ R.frames ∧ 4770 ≤ R.locals) (hRc : ka τ - k0 ≤ R.cells ∧ sl τ - s0 ≤ R.slots)
    (hc : k0 ≤ ka σ ∧ s0 ≤ sl σ) (X : gX (dC, dI) (tK kc) (wK ad kc sa va) Z A s σ H locs) (hl : lv_has ls 3 []) (hg : f_X3_work_b189  σ = some (r, τ)) : W p l e R s m args below meth c H locs (ka σ - k0) (sl σ - s0) (MQ below (gQy (dC, dI) (tK kc) (wK ad kc) A τ) args s (ka τ - k0) (sl τ - s0) A) (F0 m 189 ls []) := by
  have hx := S.1
  have hb := S.2.1
  have hown := S.2.2.2.1
  have hu := S.2.2.2.2
  have hn := m_X3_work_b189 hg
  have hm : ka σ = ka σ ∧ sl σ = sl σ := ⟨rfl, rfl⟩
  unfold f_X3_work_b189 at hg
  refine lv_goto (tgt := 197) hx hb dX3_work_189 (by decide) ?_
  refine W.widen (k := ka σ - k0) (n := sl σ - s0) (show ka σ - k0 ≤ ka σ - k0 by omega) (show sl σ - s0 ≤ sl σ - s0 by omega) ?_
  exact w_X3_work_b197 S hr hk hR hRc (show k0 ≤ ka σ ∧ s0 ≤ sl σ from (by omega : k0 ≤ ka σ ∧ s0 ≤ sl σ)) X (lv_sub hl [] rfl) hg
set_option maxHeartbeats 4000000 in
set_option maxRecDepth 100000 in
theorem w_X3_work_b168 {sa va : Nat} {σ : S5} {v1 : Int32} {H : Heap} {locs : List Loc} {ls : Array Slot} (S : CallFix p m c cX3_work 3 s args uG RX3) (hr : meth.sig.returnType = none) (hk : meth.locks = false) (hR : 196 ≤ R.frames ∧ 4770 ≤ R.locals) (hRc : ka τ - k0 ≤ R.cells ∧ sl τ - s0 ≤ R.slots)
    (hc : k0 ≤ ka σ ∧ s0 ≤ sl σ) (X : gX (dC, dI) (tK kc) (wK ad kc sa va) Z A s σ H locs) (hl : lv_has ls 3 [(0, .ref (ad 0)), (1, .int v1)]) (hg : f_X3_work_b168 v1 σ = some (r, τ)) : W p l e R s m args below meth c H locs (ka σ - k0) (sl σ - s0) (MQ below (gQy (dC, dI) (tK kc) (wK ad kc) A τ) args s (ka τ - k0) (sl τ - s0) A) (F0 m 168 ls []) := by
  have hx := S.1
  have hb := S.2.1
  have hown := S.2.2.2.1
  have hu := S.2.2.2.2
  have hn := m_X3_work_b168 hg
  have hm : ka σ = ka σ ∧ sl σ = sl σ := ⟨rfl, rfl⟩
  unfold f_X3_work_b168 at hg
  refine lv_aload_n hx hb dX3_work_168 rfl (lv_at hl 0 rfl) ?_
  refine lv_aload_n hx hb dX3_work_169 rfl (lv_at hl 0 rfl) ?_
  refine wkgR_0_0 S X mG_660 dX3_work_170 ?_
  refine wkgR_3_3 S X mG_398 dX3_work_173 ?_
  refine lv_iload_n hx hb dX3_work_176 rfl (lv_at hl 1 rfl) ?_
  obtain ⟨hi177, hg⟩ := gd_some hg
  refine wklA_16 (v := (xA σ 16 v1)) S X hi177 rfl dX3_work_177 ?_
  obtain ⟨r178, τ178, hq178, hg⟩ := bd_some hg
  obtain ⟨ha178, hg⟩ := gq_some hg
  obtain ⟨hz178, hg⟩ := gq_some hg
  have hk178 : ka τ178 = ka σ ∧ sl τ178 = sl σ := ka_same ha178 hz178
  refine gck_Vv (As := [.int (xA σ 16 v1)]) (rest := []) (q0 := 0) (ci := 6) S X (k2_X3_workOn l dC dI ad kc sa va hq178 H.size) cw_X3_workOn mG_1879 rfl rfl rfl rfl rfl hl.1 (Nat.le_of_ble_eq_true rfl) dX3_work_178 ⟨by omega, by omega⟩ ⟨by omega, by omega⟩ (fun H locs X => ?_)
  have hm : ka τ178 = ka σ ∧ sl τ178 = sl σ := by omega
  refine lv_goto (tgt := 197) hx hb dX3_work_181 (by decide) ?_
  refine W.widen (k := ka τ178 - k0) (n := sl τ178 - s0) (show ka σ - k0 ≤ ka τ178 - k0 by omega) (show sl σ - s0 ≤ sl τ178 - s0 by omega) ?_
  exact w_X3_work_b197 S hr hk hR hRc (show k0 ≤ ka τ178 ∧ s0 ≤ sl τ178 from (by omega : k0 ≤ ka τ178 ∧ s0 ≤ sl τ178)) X (lv_sub hl [] rfl) hg
set_option maxHeartbeats 4000000 in
set_option maxRecDepth 100000 in
theorem w_X3_work_b142 {sa va : Nat} {σ : S5} {v1 : Int32} {H : Heap} {locs : List Loc} {ls : Array Slot} (S : CallFix p m c cX3_work 3 s args uG RX3) (hr : meth.sig.returnType = none) (hk : meth.locks = false) (hR : 196 ≤ R.frames ∧ 4770 ≤ R.locals) (hRc : ka τ - k0 ≤ R.cells ∧ sl τ - s0 ≤ R.slots)
    (hc : k0 ≤ ka σ ∧ s0 ≤ sl σ) (X : gX (dC, dI) (tK kc) (wK ad kc sa va) Z A s σ H locs) (hl : lv_has ls 3 [(0, .ref (ad 0)), (1, .int v1)]) (hg : f_X3_work_b142 v1 σ = some (r, τ)) : W p l e R s m args below meth c H locs (ka σ - k0) (sl σ - s0) (MQ below (gQy (dC, dI) (tK kc) (wK ad kc) A τ) args s (ka τ - k0) (sl τ - s0) A) (F0 m 142 ls []) := by
  have hx := S.1
  have hb := S.2.1
  have hown := S.2.2.2.1
  have hu := S.2.2.2.2
  have hn := m_X3_work_b142 hg
  have hm : ka σ = ka σ ∧ sl σ = sl σ := ⟨rfl, rfl⟩
  unfold f_X3_work_b142 at hg
  refine lv_aload_n hx hb dX3_work_142 rfl (lv_at hl 0 rfl) ?_
  refine lv_aload_n hx hb dX3_work_143 rfl (lv_at hl 0 rfl) ?_
  refine wkgR_0_0 S X mG_660 dX3_work_144 ?_
  refine wkgR_3_3 S X mG_398 dX3_work_147 ?_
  refine lv_iload_n hx hb dX3_work_150 rfl (lv_at hl 1 rfl) ?_
  obtain ⟨hi151, hg⟩ := gd_some hg
  refine wklA_16 (v := (xA σ 16 v1)) S X hi151 rfl dX3_work_151 ?_
  obtain ⟨r152, τ152, hq152, hg⟩ := bd_some hg
  obtain ⟨ha152, hg⟩ := gq_some hg
  obtain ⟨hz152, hg⟩ := gq_some hg
  have hk152 : ka τ152 = ka σ ∧ sl τ152 = sl σ := ka_same ha152 hz152
  refine gck_Vv (As := [.int (xA σ 16 v1)]) (rest := []) (q0 := 0) (ci := 6) S X (k2_X3_workOn l dC dI ad kc sa va hq152 H.size) cw_X3_workOn mG_1879 rfl rfl rfl rfl rfl hl.1 (Nat.le_of_ble_eq_true rfl) dX3_work_152 ⟨by omega, by omega⟩ ⟨by omega, by omega⟩ (fun H locs X => ?_)
  have hm : ka τ152 = ka σ ∧ sl τ152 = sl σ := by omega
  refine lv_goto (tgt := 197) hx hb dX3_work_155 (by decide) ?_
  refine W.widen (k := ka τ152 - k0) (n := sl τ152 - s0) (show ka σ - k0 ≤ ka τ152 - k0 by omega) (show sl σ - s0 ≤ sl τ152 - s0 by omega) ?_
  exact w_X3_work_b197 S hr hk hR hRc (show k0 ≤ ka τ152 ∧ s0 ≤ sl τ152 from (by omega : k0 ≤ ka τ152 ∧ s0 ≤ sl τ152)) X (lv_sub hl [] rfl) hg
set_option maxHeartbeats 4000000 in
set_option maxRecDepth 100000 in
theorem w_X3_work_b120 {sa va : Nat} {σ : S5}  {H : Heap} {locs : List Loc} {ls : Array Slot} (S : CallFix p m c cX3_work 3 s args uG RX3) (hr : meth.sig.returnType = none) (hk : meth.locks = false) (hR : 196 ≤ R.frames ∧ 4770 ≤ R.locals) (hRc : ka τ - k0 ≤ R.cells ∧ sl τ - s0 ≤ R.slots)
    (hc : k0 ≤ ka σ ∧ s0 ≤ sl σ) (X : gX (dC, dI) (tK kc) (wK ad kc sa va) Z A s σ H locs) (hl : lv_has ls 3 []) (hg : f_X3_work_b120  σ = some (r, τ)) : W p l e R s m args below meth c H locs (ka σ - k0) (sl σ - s0) (MQ below (gQy (dC, dI) (tK kc) (wK ad kc) A τ) args s (ka τ - k0) (sl τ - s0) A) (F0 m 120 ls []) := by
  have hx := S.1
  have hb := S.2.1
  have hown := S.2.2.2.1
  have hu := S.2.2.2.2
  have hn := m_X3_work_b120 hg
  have hm : ka σ = ka σ ∧ sl σ = sl σ := ⟨rfl, rfl⟩
  unfold f_X3_work_b120 at hg
  refine lv_goto (tgt := 197) hx hb dX3_work_120 (by decide) ?_
  refine W.widen (k := ka σ - k0) (n := sl σ - s0) (show ka σ - k0 ≤ ka σ - k0 by omega) (show sl σ - s0 ≤ sl σ - s0 by omega) ?_
  exact w_X3_work_b197 S hr hk hR hRc (show k0 ≤ ka σ ∧ s0 ≤ sl σ from (by omega : k0 ≤ ka σ ∧ s0 ≤ sl σ)) X (lv_sub hl [] rfl) hg
set_option maxHeartbeats 4000000 in
set_option maxRecDepth 100000 in
theorem w_X3_work_b102 {sa va : Nat} {σ : S5}  {H : Heap} {locs : List Loc} {ls : Array Slot} (S : CallFix p m c cX3_work 3 s args uG RX3) (hr : meth.sig.returnType = none) (hk : meth.locks = false) (hR : 196 ≤ R.frames ∧ 4770 ≤ R.locals) (hRc : ka τ - k0 ≤ R.cells ∧ sl τ - s0 ≤ R.slots)
    (hc : k0 ≤ ka σ ∧ s0 ≤ sl σ) (X : gX (dC, dI) (tK kc) (wK ad kc sa va) Z A s σ H locs) (hl : lv_has ls 3 []) (hg : f_X3_work_b102  σ = some (r, τ)) : W p l e R s m args below meth c H locs (ka σ - k0) (sl σ - s0) (MQ below (gQy (dC, dI) (tK kc) (wK ad kc) A τ) args s (ka τ - k0) (sl τ - s0) A) (F0 m 102 ls []) := by
  have hx := S.1
  have hb := S.2.1
  have hown := S.2.2.2.1
  have hu := S.2.2.2.2
  have hn := m_X3_work_b102 hg
  have hm : ka σ = ka σ ∧ sl σ = sl σ := ⟨rfl, rfl⟩
  unfold f_X3_work_b102 at hg
  refine lv_goto (tgt := 197) hx hb dX3_work_102 (by decide) ?_
  refine W.widen (k := ka σ - k0) (n := sl σ - s0) (show ka σ - k0 ≤ ka σ - k0 by omega) (show sl σ - s0 ≤ sl σ - s0 by omega) ?_
  exact w_X3_work_b197 S hr hk hR hRc (show k0 ≤ ka σ ∧ s0 ≤ sl σ from (by omega : k0 ≤ ka σ ∧ s0 ≤ sl σ)) X (lv_sub hl [] rfl) hg
set_option maxHeartbeats 4000000 in
set_option maxRecDepth 100000 in
theorem w_X3_work {sa va : Nat} {σ : S5}  {H : Heap} {locs : List Loc} {ls : Array Slot} (S : CallFix p m c cX3_work 3 s args uG RX3) (hr : meth.sig.returnType = none) (hk : meth.locks = false) (hR : 196 ≤ R.frames ∧ 4770 ≤ R.locals) (hRc : ka τ - k0 ≤ R.cells ∧ sl τ - s0 ≤ R.slots)
    (hc : k0 ≤ ka σ ∧ s0 ≤ sl σ) (X : gX (dC, dI) (tK kc) (wK ad kc sa va) Z A s σ H locs) (hl : lv_has ls 3 [(0, .ref (ad 0))]) (hg : f_X3_work  σ = some (r, τ)) : W p l e R s m args below meth c H locs (ka σ - k0) (sl σ - s0) (MQ below (gQy (dC, dI) (tK kc) (wK ad kc) A τ) args s (ka τ - k0) (sl τ - s0) A) (F0 m 0 ls []) := by
  have hx := S.1
  have hb := S.2.1
  have hown := S.2.2.2.1
  have hu := S.2.2.2.2
  have hn := m_X3_work hg
  have hm : ka σ = ka σ ∧ sl σ = sl σ := ⟨rfl, rfl⟩
  unfold f_X3_work at hg
  refine lv_aload_n hx hb dX3_work_0 rfl (lv_at hl 0 rfl) ?_
  refine wkgI_44 (v := (gI σ 44)) S X mG_676 rfl dX3_work_1 ?_
  refine lv_istore_n (lv' := [(1, .int (gI σ 44)), (0, .ref (ad 0))]) hx hb dX3_work_4 rfl hl (by decide) rfl (fun ls hl => ?_)
  refine lv_aload_n hx hb dX3_work_5 rfl (lv_at hl 1 rfl) ?_
  refine wkgR_0_0 S X mG_660 dX3_work_6 ?_
  refine wkgR_3_1 S X mG_388 dX3_work_9 ?_
  refine lv_iload_n hx hb dX3_work_12 rfl (lv_at hl 0 rfl) ?_
  obtain ⟨hi13, hg⟩ := gd_some hg
  refine wklA_14 (v := (xA σ 14 (gI σ 44))) S X hi13 rfl dX3_work_13 ?_
  refine lv_istore_n (lv' := [(2, .int (xA σ 14 (gI σ 44))), (1, .int (gI σ 44)), (0, .ref (ad 0))]) hx hb dX3_work_14 rfl hl (by decide) rfl (fun ls hl => ?_)
  refine lv_aload_n hx hb dX3_work_15 rfl (lv_at hl 2 rfl) ?_
  refine wkgR_0_0 S X mG_660 dX3_work_16 ?_
  refine wkgR_3_0 S X mG_383 dX3_work_19 ?_
  refine lv_iload_n hx hb dX3_work_22 rfl (lv_at hl 1 rfl) ?_
  obtain ⟨hi23, hg⟩ := gd_some hg
  refine wklA_13 (v := (xA σ 13 (gI σ 44))) S X hi23 rfl dX3_work_23 ?_
  rcases sw_0_9 ((xA σ 13 (gI σ 44))) with hsw | hsw | hsw | hsw | hsw | hsw | hsw | hsw | hsw | hsw | hsw
  · refine lv_tableOut (tgt := 192) hx hb dX3_work_24 hsw (by decide) ?_
    obtain ⟨hs0, hs1, hs2, hs3, hs4, hs5, hs6, hs7, hs8, hs9⟩ := swo_0_9 hsw
    have hg := (if_neg hs0).symm.trans hg
    have hg := (if_neg hs1).symm.trans hg
    have hg := (if_neg hs2).symm.trans hg
    have hg := (if_neg hs3).symm.trans hg
    have hg := (if_neg hs4).symm.trans hg
    have hg := (if_neg hs5).symm.trans hg
    have hg := (if_neg hs6).symm.trans hg
    have hg := (if_neg hs7).symm.trans hg
    have hg := (if_neg hs8).symm.trans hg
    have hg := (if_neg hs9).symm.trans hg
    refine lv_aload_n hx hb dX3_work_192 rfl (lv_at hl 2 rfl) ?_
    refine lv_iload_n hx hb dX3_work_193 rfl (lv_at hl 1 rfl) ?_
    obtain ⟨r194, τ194, hq194, hg⟩ := bd_some hg
    obtain ⟨ha194, hg⟩ := gle_some hg
    obtain ⟨hz194, hg⟩ := gle_some hg
    have hk194 : ka σ ≤ ka τ194 ∧ sl σ ≤ sl τ194 := ka_mono ha194 hz194
    have hn2 : ka τ194 ≤ ka τ ∧ sl τ194 ≤ sl τ := m_X3_work_b197 hg
    refine gcy_V (w := wK ad kc) (As := [.int (gI σ 44)]) (rest := []) (q0 := 0) (ci := 6) (mc := ka τ194 - ka σ) (ms := sl τ194 - sl σ) S X (k2_X3_workApplication l dC dI ad kc sa va hq194 H.size) cw_X3_workApplication mG_1938 rfl rfl rfl rfl rfl hl.1 (Nat.le_of_ble_eq_true rfl) dX3_work_194 ⟨by omega, by omega⟩ ⟨by omega, by omega⟩ (fun sa va H locs X => ?_)
    refine W.widen (k := ka τ194 - k0) (n := sl τ194 - s0) (by omega) (by omega) ?_
    exact w_X3_work_b197 S hr hk hR hRc (show k0 ≤ ka τ194 ∧ s0 ≤ sl τ194 from (by omega : k0 ≤ ka τ194 ∧ s0 ≤ sl τ194)) X (lv_sub hl [] rfl) hg
  · refine lv_tableIn (off := 56) (tgt := 80) hx hb dX3_work_24 (by rw [hsw]; decide) (by rw [hsw]; decide) (by rw [hsw]; decide) (by decide) ?_
    have hg := (if_pos hsw).symm.trans hg
    refine lv_aload_n hx hb dX3_work_80 rfl (lv_at hl 2 rfl) ?_
    refine lv_aload_n hx hb dX3_work_81 rfl (lv_at hl 2 rfl) ?_
    refine lv_iload_n hx hb dX3_work_82 rfl (lv_at hl 1 rfl) ?_
    obtain ⟨r83, τ83, hq83, hg⟩ := bd_some hg
    obtain ⟨ha83, hg⟩ := gq_some hg
    obtain ⟨hz83, hg⟩ := gq_some hg
    have hk83 : ka τ83 = ka σ ∧ sl τ83 = sl σ := ka_same ha83 hz83
    refine gck_Vl (As := [.int (gI σ 44)]) (rest := [.ref (ad 0)]) (q0 := 0) (ci := 6) S X (k3_X3_keep l dC dI ad kc sa va 64 _ _ _ _ hq83 H.size) cw_X3_keep mG_1888 rfl rfl rfl rfl rfl hl.1 (Nat.le_of_ble_eq_true rfl) dX3_work_83 ⟨by omega, by omega⟩ ⟨by omega, by omega⟩ (fun H locs X => ?_)
    have hm : ka τ83 = ka σ ∧ sl τ83 = sl σ := by omega
    obtain ⟨r86, τ86, hq86, hg⟩ := bd_some hg
    obtain ⟨ha86, hg⟩ := gq_some hg
    obtain ⟨hz86, hg⟩ := gq_some hg
    have hk86 : ka τ86 = ka τ83 ∧ sl τ86 = sl τ83 := ka_same ha86 hz86
    refine gck_Vv (As := [.long r83]) (rest := []) (q0 := 0) (ci := 6) S X (k2_X3_give l dC dI ad kc sa va hq86 H.size) cw_X3_give mG_1837 rfl rfl rfl rfl rfl hl.1 (Nat.le_of_ble_eq_true rfl) dX3_work_86 ⟨by omega, by omega⟩ ⟨by omega, by omega⟩ (fun H locs X => ?_)
    have hm : ka τ86 = ka σ ∧ sl τ86 = sl σ := by omega
    refine lv_goto (tgt := 197) hx hb dX3_work_89 (by decide) ?_
    refine W.widen (k := ka τ86 - k0) (n := sl τ86 - s0) (show ka σ - k0 ≤ ka τ86 - k0 by omega) (show sl σ - s0 ≤ sl τ86 - s0 by omega) ?_
    exact w_X3_work_b197 S hr hk hR hRc (show k0 ≤ ka τ86 ∧ s0 ≤ sl τ86 from (by omega : k0 ≤ ka τ86 ∧ s0 ≤ sl τ86)) X (lv_sub hl [] rfl) hg
  · refine lv_tableIn (off := 56) (tgt := 80) hx hb dX3_work_24 (by rw [hsw]; decide) (by rw [hsw]; decide) (by rw [hsw]; decide) (by decide) ?_
    have hg := (if_neg (by rw [hsw]; decide)).symm.trans hg
    have hg := (if_pos hsw).symm.trans hg
    refine lv_aload_n hx hb dX3_work_80 rfl (lv_at hl 2 rfl) ?_
    refine lv_aload_n hx hb dX3_work_81 rfl (lv_at hl 2 rfl) ?_
    refine lv_iload_n hx hb dX3_work_82 rfl (lv_at hl 1 rfl) ?_
    obtain ⟨r83, τ83, hq83, hg⟩ := bd_some hg
    obtain ⟨ha83, hg⟩ := gq_some hg
    obtain ⟨hz83, hg⟩ := gq_some hg
    have hk83 : ka τ83 = ka σ ∧ sl τ83 = sl σ := ka_same ha83 hz83
    refine gck_Vl (As := [.int (gI σ 44)]) (rest := [.ref (ad 0)]) (q0 := 0) (ci := 6) S X (k3_X3_keep l dC dI ad kc sa va 64 _ _ _ _ hq83 H.size) cw_X3_keep mG_1888 rfl rfl rfl rfl rfl hl.1 (Nat.le_of_ble_eq_true rfl) dX3_work_83 ⟨by omega, by omega⟩ ⟨by omega, by omega⟩ (fun H locs X => ?_)
    have hm : ka τ83 = ka σ ∧ sl τ83 = sl σ := by omega
    obtain ⟨r86, τ86, hq86, hg⟩ := bd_some hg
    obtain ⟨ha86, hg⟩ := gq_some hg
    obtain ⟨hz86, hg⟩ := gq_some hg
    have hk86 : ka τ86 = ka τ83 ∧ sl τ86 = sl τ83 := ka_same ha86 hz86
    refine gck_Vv (As := [.long r83]) (rest := []) (q0 := 0) (ci := 6) S X (k2_X3_give l dC dI ad kc sa va hq86 H.size) cw_X3_give mG_1837 rfl rfl rfl rfl rfl hl.1 (Nat.le_of_ble_eq_true rfl) dX3_work_86 ⟨by omega, by omega⟩ ⟨by omega, by omega⟩ (fun H locs X => ?_)
    have hm : ka τ86 = ka σ ∧ sl τ86 = sl σ := by omega
    refine lv_goto (tgt := 197) hx hb dX3_work_89 (by decide) ?_
    refine W.widen (k := ka τ86 - k0) (n := sl τ86 - s0) (show ka σ - k0 ≤ ka τ86 - k0 by omega) (show sl σ - s0 ≤ sl τ86 - s0 by omega) ?_
    exact w_X3_work_b197 S hr hk hR hRc (show k0 ≤ ka τ86 ∧ s0 ≤ sl τ86 from (by omega : k0 ≤ ka τ86 ∧ s0 ≤ sl τ86)) X (lv_sub hl [] rfl) hg
  · refine lv_tableIn (off := 68) (tgt := 92) hx hb dX3_work_24 (by rw [hsw]; decide) (by rw [hsw]; decide) (by rw [hsw]; decide) (by decide) ?_
    have hg := (if_neg (by rw [hsw]; decide)).symm.trans hg
    have hg := (if_neg (by rw [hsw]; decide)).symm.trans hg
    have hg := (if_pos hsw).symm.trans hg
    refine lv_aload_n hx hb dX3_work_92 rfl (lv_at hl 2 rfl) ?_
    refine lv_aload_n hx hb dX3_work_93 rfl (lv_at hl 2 rfl) ?_
    refine lv_iload_n hx hb dX3_work_94 rfl (lv_at hl 1 rfl) ?_
    refine lv_iconst (v := 0) hx hb dX3_work_95 (by decide) ?_
    obtain ⟨r96, τ96, hq96, hg⟩ := bd_some hg
    obtain ⟨ha96, hg⟩ := gq_some hg
    obtain ⟨hz96, hg⟩ := gq_some hg
    have hk96 : ka τ96 = ka σ ∧ sl τ96 = sl σ := ka_same ha96 hz96
    refine gck_Vl (As := [.int (gI σ 44), .int 0]) (rest := [.ref (ad 0)]) (q0 := 0) (ci := 6) S X (k2_X3_begin l dC dI ad kc sa va hq96 H.size) cw_X3_begin mG_1892 rfl rfl rfl rfl rfl hl.1 (Nat.le_of_ble_eq_true rfl) dX3_work_96 ⟨by omega, by omega⟩ ⟨by omega, by omega⟩ (fun H locs X => ?_)
    have hm : ka τ96 = ka σ ∧ sl τ96 = sl σ := by omega
    obtain ⟨r99, τ99, hq99, hg⟩ := bd_some hg
    obtain ⟨ha99, hg⟩ := gle_some hg
    obtain ⟨hz99, hg⟩ := gle_some hg
    have hk99 : ka τ96 ≤ ka τ99 ∧ sl τ96 ≤ sl τ99 := ka_mono ha99 hz99
    have hn2 : ka τ99 ≤ ka τ ∧ sl τ99 ≤ sl τ := m_X3_work_b102 hg
    refine gcy_V (w := wK ad kc) (As := [.long r96]) (rest := []) (q0 := 0) (ci := 6) (mc := ka τ99 - ka τ96) (ms := sl τ99 - sl τ96) S X (k2_X3_enter l dC dI ad kc sa va hq99 H.size) cw_X3_enter mG_1830 rfl rfl rfl rfl rfl hl.1 (Nat.le_of_ble_eq_true rfl) dX3_work_99 ⟨by omega, by omega⟩ ⟨by omega, by omega⟩ (fun sa va H locs X => ?_)
    refine W.widen (k := ka τ99 - k0) (n := sl τ99 - s0) (by omega) (by omega) ?_
    exact w_X3_work_b102 S hr hk hR hRc (show k0 ≤ ka τ99 ∧ s0 ≤ sl τ99 from (by omega : k0 ≤ ka τ99 ∧ s0 ≤ sl τ99)) X (lv_sub hl [] rfl) hg
  · refine lv_tableIn (off := 81) (tgt := 105) hx hb dX3_work_24 (by rw [hsw]; decide) (by rw [hsw]; decide) (by rw [hsw]; decide) (by decide) ?_
    have hg := (if_neg (by rw [hsw]; decide)).symm.trans hg
    have hg := (if_neg (by rw [hsw]; decide)).symm.trans hg
    have hg := (if_neg (by rw [hsw]; decide)).symm.trans hg
    have hg := (if_pos hsw).symm.trans hg
    refine lv_aload_n hx hb dX3_work_105 rfl (lv_at hl 2 rfl) ?_
    refine lv_aload_n hx hb dX3_work_106 rfl (lv_at hl 2 rfl) ?_
    refine wkgR_0_9 S X mG_672 dX3_work_107 ?_
    refine lv_aload_n hx hb dX3_work_110 rfl (lv_at hl 2 rfl) ?_
    refine wkgI_41 (v := (gI σ 41)) S X mG_673 rfl dX3_work_111 ?_
    refine lv_iload_n hx hb dX3_work_114 rfl (lv_at hl 0 rfl) ?_
    refine lv_iadd hx hb dX3_work_115 ?_
    obtain ⟨hi116, hg⟩ := gd_some hg
    refine wklB_13 (v := (xB σ 13 ((gI σ 41) + (xA σ 14 (gI σ 44))))) S X hi116 rfl dX3_work_116 ?_
    obtain ⟨r117, τ117, hq117, hg⟩ := bd_some hg
    obtain ⟨ha117, hg⟩ := gle_some hg
    obtain ⟨hz117, hg⟩ := gle_some hg
    have hk117 : ka σ ≤ ka τ117 ∧ sl σ ≤ sl τ117 := ka_mono ha117 hz117
    have hn2 : ka τ117 ≤ ka τ ∧ sl τ117 ≤ sl τ := m_X3_work_b120 hg
    refine gcy_V (w := wK ad kc) (As := [.long (xB σ 13 ((gI σ 41) + (xA σ 14 (gI σ 44))))]) (rest := []) (q0 := 0) (ci := 6) (mc := ka τ117 - ka σ) (ms := sl τ117 - sl σ) S X (k2_X3_enter l dC dI ad kc sa va hq117 H.size) cw_X3_enter mG_1830 rfl rfl rfl rfl rfl hl.1 (Nat.le_of_ble_eq_true rfl) dX3_work_117 ⟨by omega, by omega⟩ ⟨by omega, by omega⟩ (fun sa va H locs X => ?_)
    refine W.widen (k := ka τ117 - k0) (n := sl τ117 - s0) (by omega) (by omega) ?_
    exact w_X3_work_b120 S hr hk hR hRc (show k0 ≤ ka τ117 ∧ s0 ≤ sl τ117 from (by omega : k0 ≤ ka τ117 ∧ s0 ≤ sl τ117)) X (lv_sub hl [] rfl) hg
  · refine lv_tableIn (off := 99) (tgt := 123) hx hb dX3_work_24 (by rw [hsw]; decide) (by rw [hsw]; decide) (by rw [hsw]; decide) (by decide) ?_
    have hg := (if_neg (by rw [hsw]; decide)).symm.trans hg
    have hg := (if_neg (by rw [hsw]; decide)).symm.trans hg
    have hg := (if_neg (by rw [hsw]; decide)).symm.trans hg
    have hg := (if_neg (by rw [hsw]; decide)).symm.trans hg
    have hg := (if_pos hsw).symm.trans hg
    refine lv_aload_n hx hb dX3_work_123 rfl (lv_at hl 2 rfl) ?_
    refine lv_iconst (v := 2) hx hb dX3_work_124 (by decide) ?_
    refine lv_iconst (v := 5) hx hb dX3_work_125 (by decide) ?_
    obtain ⟨r126, τ126, hq126, hg⟩ := bd_some hg
    obtain ⟨ha126, hg⟩ := gq_some hg
    obtain ⟨hz126, hg⟩ := gq_some hg
    have hk126 : ka τ126 = ka σ ∧ sl τ126 = sl σ := ka_same ha126 hz126
    refine gck_Vv (As := [.int 2, .int 5]) (rest := []) (q0 := 0) (ci := 6) S X (k2_X3_endWith l dC dI ad kc sa va hq126 H.size) cw_X3_endWith mG_1846 rfl rfl rfl rfl rfl hl.1 (Nat.le_of_ble_eq_true rfl) dX3_work_126 ⟨by omega, by omega⟩ ⟨by omega, by omega⟩ (fun H locs X => ?_)
    have hm : ka τ126 = ka σ ∧ sl τ126 = sl σ := by omega
    refine lv_goto (tgt := 197) hx hb dX3_work_129 (by decide) ?_
    refine W.widen (k := ka τ126 - k0) (n := sl τ126 - s0) (show ka σ - k0 ≤ ka τ126 - k0 by omega) (show sl σ - s0 ≤ sl τ126 - s0 by omega) ?_
    exact w_X3_work_b197 S hr hk hR hRc (show k0 ≤ ka τ126 ∧ s0 ≤ sl τ126 from (by omega : k0 ≤ ka τ126 ∧ s0 ≤ sl τ126)) X (lv_sub hl [] rfl) hg
  · refine lv_tableIn (off := 108) (tgt := 132) hx hb dX3_work_24 (by rw [hsw]; decide) (by rw [hsw]; decide) (by rw [hsw]; decide) (by decide) ?_
    have hg := (if_neg (by rw [hsw]; decide)).symm.trans hg
    have hg := (if_neg (by rw [hsw]; decide)).symm.trans hg
    have hg := (if_neg (by rw [hsw]; decide)).symm.trans hg
    have hg := (if_neg (by rw [hsw]; decide)).symm.trans hg
    have hg := (if_neg (by rw [hsw]; decide)).symm.trans hg
    have hg := (if_pos hsw).symm.trans hg
    refine lv_aload_n hx hb dX3_work_132 rfl (lv_at hl 2 rfl) ?_
    refine lv_iconst (v := 1) hx hb dX3_work_133 (by decide) ?_
    refine lv_iload_n hx hb dX3_work_134 rfl (lv_at hl 1 rfl) ?_
    refine lv_iconst (v := 0) hx hb dX3_work_135 (by decide) ?_
    obtain ⟨r136, τ136, hq136, hg⟩ := bd_some hg
    obtain ⟨ha136, hg⟩ := gq_some hg
    obtain ⟨hz136, hg⟩ := gq_some hg
    have hk136 : ka τ136 = ka σ ∧ sl τ136 = sl σ := ka_same ha136 hz136
    refine gck_Sl (As := [.int 1, .int (gI σ 44), .int 0]) (rest := [.ref (ad 0)]) S X (k2_X3_frame l dC dI ad kc sa va hq136 H.size) cw_X3_frame mG_1811 rfl rfl hl.1 (Nat.le_of_ble_eq_true rfl) dX3_work_136 ⟨by omega, by omega⟩ ⟨by omega, by omega⟩ (fun H locs X => ?_)
    have hm : ka τ136 = ka σ ∧ sl τ136 = sl σ := by omega
    obtain ⟨r139, τ139, hq139, hg⟩ := bd_some hg
    obtain ⟨ha139, hg⟩ := gle_some hg
    obtain ⟨hz139, hg⟩ := gle_some hg
    have hk139 : ka τ136 ≤ ka τ139 ∧ sl τ136 ≤ sl τ139 := ka_mono ha139 hz139
    have hn2 : ka τ139 ≤ ka τ ∧ sl τ139 ≤ sl τ := m_X3_work_b142 hg
    refine gcy_V (w := wK ad kc) (As := [.long r136]) (rest := []) (q0 := 0) (ci := 6) (mc := ka τ139 - ka τ136) (ms := sl τ139 - sl τ136) S X (k2_X3_push l dC dI ad kc sa va hq139 H.size) cw_X3_push mG_1814 rfl rfl rfl rfl rfl hl.1 (Nat.le_of_ble_eq_true rfl) dX3_work_139 ⟨by omega, by omega⟩ ⟨by omega, by omega⟩ (fun sa va H locs X => ?_)
    refine W.widen (k := ka τ139 - k0) (n := sl τ139 - s0) (by omega) (by omega) ?_
    exact w_X3_work_b142 S hr hk hR hRc (show k0 ≤ ka τ139 ∧ s0 ≤ sl τ139 from (by omega : k0 ≤ ka τ139 ∧ s0 ≤ sl τ139)) X (lv_sub hl [2, 1] rfl) hg
  · refine lv_tableIn (off := 134) (tgt := 158) hx hb dX3_work_24 (by rw [hsw]; decide) (by rw [hsw]; decide) (by rw [hsw]; decide) (by decide) ?_
    have hg := (if_neg (by rw [hsw]; decide)).symm.trans hg
    have hg := (if_neg (by rw [hsw]; decide)).symm.trans hg
    have hg := (if_neg (by rw [hsw]; decide)).symm.trans hg
    have hg := (if_neg (by rw [hsw]; decide)).symm.trans hg
    have hg := (if_neg (by rw [hsw]; decide)).symm.trans hg
    have hg := (if_neg (by rw [hsw]; decide)).symm.trans hg
    have hg := (if_pos hsw).symm.trans hg
    refine lv_aload_n hx hb dX3_work_158 rfl (lv_at hl 2 rfl) ?_
    refine lv_iconst (v := 3) hx hb dX3_work_159 (by decide) ?_
    refine lv_iload_n hx hb dX3_work_160 rfl (lv_at hl 1 rfl) ?_
    refine lv_iconst (v := 0) hx hb dX3_work_161 (by decide) ?_
    obtain ⟨r162, τ162, hq162, hg⟩ := bd_some hg
    obtain ⟨ha162, hg⟩ := gq_some hg
    obtain ⟨hz162, hg⟩ := gq_some hg
    have hk162 : ka τ162 = ka σ ∧ sl τ162 = sl σ := ka_same ha162 hz162
    refine gck_Sl (As := [.int 3, .int (gI σ 44), .int 0]) (rest := [.ref (ad 0)]) S X (k2_X3_frame l dC dI ad kc sa va hq162 H.size) cw_X3_frame mG_1811 rfl rfl hl.1 (Nat.le_of_ble_eq_true rfl) dX3_work_162 ⟨by omega, by omega⟩ ⟨by omega, by omega⟩ (fun H locs X => ?_)
    have hm : ka τ162 = ka σ ∧ sl τ162 = sl σ := by omega
    obtain ⟨r165, τ165, hq165, hg⟩ := bd_some hg
    obtain ⟨ha165, hg⟩ := gle_some hg
    obtain ⟨hz165, hg⟩ := gle_some hg
    have hk165 : ka τ162 ≤ ka τ165 ∧ sl τ162 ≤ sl τ165 := ka_mono ha165 hz165
    have hn2 : ka τ165 ≤ ka τ ∧ sl τ165 ≤ sl τ := m_X3_work_b168 hg
    refine gcy_V (w := wK ad kc) (As := [.long r162]) (rest := []) (q0 := 0) (ci := 6) (mc := ka τ165 - ka τ162) (ms := sl τ165 - sl τ162) S X (k2_X3_push l dC dI ad kc sa va hq165 H.size) cw_X3_push mG_1814 rfl rfl rfl rfl rfl hl.1 (Nat.le_of_ble_eq_true rfl) dX3_work_165 ⟨by omega, by omega⟩ ⟨by omega, by omega⟩ (fun sa va H locs X => ?_)
    refine W.widen (k := ka τ165 - k0) (n := sl τ165 - s0) (by omega) (by omega) ?_
    exact w_X3_work_b168 S hr hk hR hRc (show k0 ≤ ka τ165 ∧ s0 ≤ sl τ165 from (by omega : k0 ≤ ka τ165 ∧ s0 ≤ sl τ165)) X (lv_sub hl [2, 1] rfl) hg
  · refine lv_tableIn (off := 160) (tgt := 184) hx hb dX3_work_24 (by rw [hsw]; decide) (by rw [hsw]; decide) (by rw [hsw]; decide) (by decide) ?_
    have hg := (if_neg (by rw [hsw]; decide)).symm.trans hg
    have hg := (if_neg (by rw [hsw]; decide)).symm.trans hg
    have hg := (if_neg (by rw [hsw]; decide)).symm.trans hg
    have hg := (if_neg (by rw [hsw]; decide)).symm.trans hg
    have hg := (if_neg (by rw [hsw]; decide)).symm.trans hg
    have hg := (if_neg (by rw [hsw]; decide)).symm.trans hg
    have hg := (if_neg (by rw [hsw]; decide)).symm.trans hg
    have hg := (if_pos hsw).symm.trans hg
    refine lv_aload_n hx hb dX3_work_184 rfl (lv_at hl 2 rfl) ?_
    refine lv_iload_n hx hb dX3_work_185 rfl (lv_at hl 1 rfl) ?_
    obtain ⟨r186, τ186, hq186, hg⟩ := bd_some hg
    obtain ⟨ha186, hg⟩ := gle_some hg
    obtain ⟨hz186, hg⟩ := gle_some hg
    have hk186 : ka σ ≤ ka τ186 ∧ sl σ ≤ sl τ186 := ka_mono ha186 hz186
    have hn2 : ka τ186 ≤ ka τ ∧ sl τ186 ≤ sl τ := m_X3_work_b189 hg
    refine gcy_V (w := wK ad kc) (As := [.int (gI σ 44)]) (rest := []) (q0 := 0) (ci := 6) (mc := ka τ186 - ka σ) (ms := sl τ186 - sl σ) S X (k2_X3_workLet l dC dI ad kc sa va hq186 H.size) cw_X3_workLet mG_1934 rfl rfl rfl rfl rfl hl.1 (Nat.le_of_ble_eq_true rfl) dX3_work_186 ⟨by omega, by omega⟩ ⟨by omega, by omega⟩ (fun sa va H locs X => ?_)
    refine W.widen (k := ka τ186 - k0) (n := sl τ186 - s0) (by omega) (by omega) ?_
    exact w_X3_work_b189 S hr hk hR hRc (show k0 ≤ ka τ186 ∧ s0 ≤ sl τ186 from (by omega : k0 ≤ ka τ186 ∧ s0 ≤ sl τ186)) X (lv_sub hl [] rfl) hg
  · refine lv_tableIn (off := 168) (tgt := 192) hx hb dX3_work_24 (by rw [hsw]; decide) (by rw [hsw]; decide) (by rw [hsw]; decide) (by decide) ?_
    have hg := (if_neg (by rw [hsw]; decide)).symm.trans hg
    have hg := (if_neg (by rw [hsw]; decide)).symm.trans hg
    have hg := (if_neg (by rw [hsw]; decide)).symm.trans hg
    have hg := (if_neg (by rw [hsw]; decide)).symm.trans hg
    have hg := (if_neg (by rw [hsw]; decide)).symm.trans hg
    have hg := (if_neg (by rw [hsw]; decide)).symm.trans hg
    have hg := (if_neg (by rw [hsw]; decide)).symm.trans hg
    have hg := (if_neg (by rw [hsw]; decide)).symm.trans hg
    have hg := (if_pos hsw).symm.trans hg
    refine lv_aload_n hx hb dX3_work_192 rfl (lv_at hl 2 rfl) ?_
    refine lv_iload_n hx hb dX3_work_193 rfl (lv_at hl 1 rfl) ?_
    obtain ⟨r194, τ194, hq194, hg⟩ := bd_some hg
    obtain ⟨ha194, hg⟩ := gle_some hg
    obtain ⟨hz194, hg⟩ := gle_some hg
    have hk194 : ka σ ≤ ka τ194 ∧ sl σ ≤ sl τ194 := ka_mono ha194 hz194
    have hn2 : ka τ194 ≤ ka τ ∧ sl τ194 ≤ sl τ := m_X3_work_b197 hg
    refine gcy_V (w := wK ad kc) (As := [.int (gI σ 44)]) (rest := []) (q0 := 0) (ci := 6) (mc := ka τ194 - ka σ) (ms := sl τ194 - sl σ) S X (k2_X3_workApplication l dC dI ad kc sa va hq194 H.size) cw_X3_workApplication mG_1938 rfl rfl rfl rfl rfl hl.1 (Nat.le_of_ble_eq_true rfl) dX3_work_194 ⟨by omega, by omega⟩ ⟨by omega, by omega⟩ (fun sa va H locs X => ?_)
    refine W.widen (k := ka τ194 - k0) (n := sl τ194 - s0) (by omega) (by omega) ?_
    exact w_X3_work_b197 S hr hk hR hRc (show k0 ≤ ka τ194 ∧ s0 ≤ sl τ194 from (by omega : k0 ≤ ka τ194 ∧ s0 ≤ sl τ194)) X (lv_sub hl [] rfl) hg
  · refine lv_tableIn (off := 56) (tgt := 80) hx hb dX3_work_24 (by rw [hsw]; decide) (by rw [hsw]; decide) (by rw [hsw]; decide) (by decide) ?_
    have hg := (if_neg (by rw [hsw]; decide)).symm.trans hg
    have hg := (if_neg (by rw [hsw]; decide)).symm.trans hg
    have hg := (if_neg (by rw [hsw]; decide)).symm.trans hg
    have hg := (if_neg (by rw [hsw]; decide)).symm.trans hg
    have hg := (if_neg (by rw [hsw]; decide)).symm.trans hg
    have hg := (if_neg (by rw [hsw]; decide)).symm.trans hg
    have hg := (if_neg (by rw [hsw]; decide)).symm.trans hg
    have hg := (if_neg (by rw [hsw]; decide)).symm.trans hg
    have hg := (if_neg (by rw [hsw]; decide)).symm.trans hg
    have hg := (if_pos hsw).symm.trans hg
    refine lv_aload_n hx hb dX3_work_80 rfl (lv_at hl 2 rfl) ?_
    refine lv_aload_n hx hb dX3_work_81 rfl (lv_at hl 2 rfl) ?_
    refine lv_iload_n hx hb dX3_work_82 rfl (lv_at hl 1 rfl) ?_
    obtain ⟨r83, τ83, hq83, hg⟩ := bd_some hg
    obtain ⟨ha83, hg⟩ := gq_some hg
    obtain ⟨hz83, hg⟩ := gq_some hg
    have hk83 : ka τ83 = ka σ ∧ sl τ83 = sl σ := ka_same ha83 hz83
    refine gck_Vl (As := [.int (gI σ 44)]) (rest := [.ref (ad 0)]) (q0 := 0) (ci := 6) S X (k3_X3_keep l dC dI ad kc sa va 64 _ _ _ _ hq83 H.size) cw_X3_keep mG_1888 rfl rfl rfl rfl rfl hl.1 (Nat.le_of_ble_eq_true rfl) dX3_work_83 ⟨by omega, by omega⟩ ⟨by omega, by omega⟩ (fun H locs X => ?_)
    have hm : ka τ83 = ka σ ∧ sl τ83 = sl σ := by omega
    obtain ⟨r86, τ86, hq86, hg⟩ := bd_some hg
    obtain ⟨ha86, hg⟩ := gq_some hg
    obtain ⟨hz86, hg⟩ := gq_some hg
    have hk86 : ka τ86 = ka τ83 ∧ sl τ86 = sl τ83 := ka_same ha86 hz86
    refine gck_Vv (As := [.long r83]) (rest := []) (q0 := 0) (ci := 6) S X (k2_X3_give l dC dI ad kc sa va hq86 H.size) cw_X3_give mG_1837 rfl rfl rfl rfl rfl hl.1 (Nat.le_of_ble_eq_true rfl) dX3_work_86 ⟨by omega, by omega⟩ ⟨by omega, by omega⟩ (fun H locs X => ?_)
    have hm : ka τ86 = ka σ ∧ sl τ86 = sl σ := by omega
    refine lv_goto (tgt := 197) hx hb dX3_work_89 (by decide) ?_
    refine W.widen (k := ka τ86 - k0) (n := sl τ86 - s0) (show ka σ - k0 ≤ ka τ86 - k0 by omega) (show sl σ - s0 ≤ sl τ86 - s0 by omega) ?_
    exact w_X3_work_b197 S hr hk hR hRc (show k0 ≤ ka τ86 ∧ s0 ≤ sl τ86 from (by omega : k0 ≤ ka τ86 ∧ s0 ≤ sl τ86)) X (lv_sub hl [] rfl) hg
end MX3_work
set_option maxRecDepth 100000 in
theorem k2_X3_work (l : Launch) (dC : Nat → ClassId) (dI : Nat → Nat → Nat) {Z : ZZ} (ad : Nat → Nat) (kc : Nat → ClassId) (sa va : Nat) {σ τ : S5}  {r : Unit} (hg : f_X3_work  σ = some (r, τ)) (sz : Nat) : Met l yX3_work (Cond.code yX3_work cX3_work 3 none :: uG) { frames := 196, cells := ka τ - ka σ, slots := sl τ - sl σ, locals := 4770 } (gPc (dC, dI) (tK kc) (wK ad kc sa va) Z [.ref (ad 0)] σ sz) (gQy (dC, dI) (tK kc) (wK ad kc) (va_A (wK ad kc sa va σ) sz) τ) (ka τ - ka σ) (sl τ - sl σ) (va_A (wK ad kc sa va σ) sz) :=
  gy_start (by decide) (Nat.le_of_ble_eq_true rfl) (fun p e s m below meth c ls S hr hk X hl => W.widen (Nat.zero_le _) (Nat.zero_le _) (w_X3_work (k0 := ka σ) (s0 := sl σ) S hr hk ⟨Nat.le_refl _, Nat.le_refl _⟩ ⟨Nat.le_refl _, Nat.le_refl _⟩ ⟨Nat.le_refl _, Nat.le_refl _⟩ X hl hg))
section MX3_applyValue
variable {r : Unit} {τ : S5}
set_option maxHeartbeats 4000000 in
theorem m_X3_applyValue_b113 {σ : S5}   (hg : f_X3_applyValue_b113  σ = some (r, τ)) : ka σ ≤ ka τ ∧ sl σ ≤ sl τ := by
  have hm : ka σ ≤ ka σ ∧ sl σ ≤ sl σ := ⟨Nat.le_refl _, Nat.le_refl _⟩
  unfold f_X3_applyValue_b113 at hg
  obtain ⟨-, rfl⟩ := fin_some hg
  exact hm
set_option maxHeartbeats 4000000 in
theorem m_X3_applyValue_b85 {σ : S5} {v1 : Int32} {v4 : Int32} {v5 : Int32} {u0 : Int32}  (hg : f_X3_applyValue_b85 v1 v4 v5 u0 σ = some (r, τ)) : ka σ ≤ ka τ ∧ sl σ ≤ sl τ := by
  have hm : ka σ ≤ ka σ ∧ sl σ ≤ sl σ := ⟨Nat.le_refl _, Nat.le_refl _⟩
  unfold f_X3_applyValue_b85 at hg
  obtain ⟨hi100, hg⟩ := gd_some hg
  refine (Decidable.em ((u0 + v1) < (xA σ 3 v5))).elim (fun c101 => ?_) (fun c101 => ?_)
  · have hg := (if_pos c101).symm.trans hg
    obtain ⟨r124, τ124, hq124, hg⟩ := bd_some hg
    obtain ⟨ha124, hg⟩ := gq_some hg
    obtain ⟨hz124, hg⟩ := gq_some hg
    have hk124 : ka τ124 = ka σ ∧ sl τ124 = sl σ := ka_same ha124 hz124
    have hm : ka σ ≤ ka τ124 ∧ sl σ ≤ sl τ124 := by omega
    obtain ⟨-, rfl⟩ := fin_some hg
    exact hm
  · have hg := (if_neg c101).symm.trans hg
    obtain ⟨r110, τ110, hq110, hg⟩ := bd_some hg
    obtain ⟨ha110, hg⟩ := gle_some hg
    obtain ⟨hz110, hg⟩ := gle_some hg
    have hk110 : ka σ ≤ ka τ110 ∧ sl σ ≤ sl τ110 := ka_mono ha110 hz110
    have hm : ka σ ≤ ka τ110 ∧ sl σ ≤ sl τ110 := by omega
    exact ⟨Nat.le_trans hm.1 (m_X3_applyValue_b113 hg).1, Nat.le_trans hm.2 (m_X3_applyValue_b113 hg).2⟩
set_option maxHeartbeats 4000000 in
theorem m_X3_applyValue_b62 {σ : S5} {v1 : Int32} {v2 : Int32} {v3 : Int32} {v4 : Int32} {u0 : Int32}  (hg : f_X3_applyValue_b62 v1 v2 v3 v4 u0 σ = some (r, τ)) : ka σ ≤ ka τ ∧ sl σ ≤ sl τ := by
  have hm : ka σ ≤ ka σ ∧ sl σ ≤ sl σ := ⟨Nat.le_refl _, Nat.le_refl _⟩
  unfold f_X3_applyValue_b62 at hg
  refine (Decidable.em (v2 = 5)).symm.elim (fun c66 => ?_) (fun c66 => ?_)
  · have hg := (if_neg c66).symm.trans hg
    exact ⟨Nat.le_trans hm.1 (m_X3_applyValue_b85 hg).1, Nat.le_trans hm.2 (m_X3_applyValue_b85 hg).2⟩
  · have hg := (if_pos c66).symm.trans hg
    obtain ⟨hi79, hg⟩ := gd_some hg
    exact ⟨Nat.le_trans hm.1 (m_X3_applyValue_b85 hg).1, Nat.le_trans hm.2 (m_X3_applyValue_b85 hg).2⟩
set_option maxHeartbeats 4000000 in
theorem m_X3_applyValue_b41 {σ : S5} {v1 : Int32} {v2 : Int32} {v3 : Int32} {u0 : Int32}  (hg : f_X3_applyValue_b41 v1 v2 v3 u0 σ = some (r, τ)) : ka σ ≤ ka τ ∧ sl σ ≤ sl τ := by
  have hm : ka σ ≤ ka σ ∧ sl σ ≤ sl σ := ⟨Nat.le_refl _, Nat.le_refl _⟩
  unfold f_X3_applyValue_b41 at hg
  refine (Decidable.em (v2 = 5)).symm.elim (fun c45 => ?_) (fun c45 => ?_)
  · have hg := (if_neg c45).symm.trans hg
    exact ⟨Nat.le_trans hm.1 (m_X3_applyValue_b62 hg).1, Nat.le_trans hm.2 (m_X3_applyValue_b62 hg).2⟩
  · have hg := (if_pos c45).symm.trans hg
    obtain ⟨hi56, hg⟩ := gd_some hg
    exact ⟨Nat.le_trans hm.1 (m_X3_applyValue_b62 hg).1, Nat.le_trans hm.2 (m_X3_applyValue_b62 hg).2⟩
set_option maxHeartbeats 4000000 in
theorem m_X3_applyValue_b31 {σ : S5} {v1 : Int32} {v2 : Int32} {v3 : Int32}  (hg : f_X3_applyValue_b31 v1 v2 v3 σ = some (r, τ)) : ka σ ≤ ka τ ∧ sl σ ≤ sl τ := by
  have hm : ka σ ≤ ka σ ∧ sl σ ≤ sl σ := ⟨Nat.le_refl _, Nat.le_refl _⟩
  unfold f_X3_applyValue_b31 at hg
  refine (Decidable.em (v2 = 5)).symm.elim (fun c33 => ?_) (fun c33 => ?_)
  · have hg := (if_neg c33).symm.trans hg
    exact ⟨Nat.le_trans hm.1 (m_X3_applyValue_b41 hg).1, Nat.le_trans hm.2 (m_X3_applyValue_b41 hg).2⟩
  · have hg := (if_pos c33).symm.trans hg
    exact ⟨Nat.le_trans hm.1 (m_X3_applyValue_b41 hg).1, Nat.le_trans hm.2 (m_X3_applyValue_b41 hg).2⟩
set_option maxHeartbeats 4000000 in
theorem m_X3_applyValue {σ : S5} {a1 : Int32}  (hg : f_X3_applyValue a1 σ = some (r, τ)) : ka σ ≤ ka τ ∧ sl σ ≤ sl τ := by
  have hm : ka σ ≤ ka σ ∧ sl σ ≤ sl σ := ⟨Nat.le_refl _, Nat.le_refl _⟩
  unfold f_X3_applyValue at hg
  obtain ⟨r4, τ4, hq4, hg⟩ := bd_some hg
  obtain ⟨ha4, hg⟩ := gq_some hg
  obtain ⟨hz4, hg⟩ := gq_some hg
  have hk4 : ka τ4 = ka σ ∧ sl τ4 = sl σ := ka_same ha4 hz4
  have hm : ka σ ≤ ka τ4 ∧ sl σ ≤ sl τ4 := by omega
  refine (Decidable.em (r4 = 2)).elim (fun c16 => ?_) (fun c16 => ?_)
  · have hg := (if_pos c16).symm.trans hg
    exact ⟨Nat.le_trans hm.1 (m_X3_applyValue_b31 hg).1, Nat.le_trans hm.2 (m_X3_applyValue_b31 hg).2⟩
  · have hg := (if_neg c16).symm.trans hg
    refine (Decidable.em (r4 = 5)).elim (fun c21 => ?_) (fun c21 => ?_)
    · have hg := (if_pos c21).symm.trans hg
      exact ⟨Nat.le_trans hm.1 (m_X3_applyValue_b31 hg).1, Nat.le_trans hm.2 (m_X3_applyValue_b31 hg).2⟩
    · have hg := (if_neg c21).symm.trans hg
      obtain ⟨r27, τ27, hq27, hg⟩ := bd_some hg
      obtain ⟨ha27, hg⟩ := gq_some hg
      obtain ⟨hz27, hg⟩ := gq_some hg
      have hk27 : ka τ27 = ka τ4 ∧ sl τ27 = sl τ4 := ka_same ha27 hz27
      have hm : ka σ ≤ ka τ27 ∧ sl σ ≤ sl τ27 := by omega
      obtain ⟨-, rfl⟩ := fin_some hg
      exact hm
variable {p : Program} {l : Launch} {e : Env} {R : Room} {s : State} {m : MethodId} {args : Array Value} {below : List Frame} {meth : Method} {c : Code} {dC : Nat → ClassId} {dI : Nat → Nat → Nat} {Z : ZZ} {A : Nat → Prop} {ad : Nat → Nat} {kc : Nat → ClassId} {k0 s0 : Nat}
set_option maxHeartbeats 4000000 in
set_option maxRecDepth 100000 in
theorem w_X3_applyValue_b113 {sa va : Nat} {σ : S5}  {H : Heap} {locs : List Loc} {ls : Array Slot} (S : CallFix p m c cX3_applyValue 7 s args uG RX3) (hr : meth.sig.returnType = none) (hk : meth.locks = false) (hR : 5 ≤ R.frames ∧ 162 ≤ R.locals) (hRc : ka τ - k0 ≤ R.cells ∧ sl τ - s0 ≤ R.slots)
    (hc : k0 ≤ ka σ ∧ s0 ≤ sl σ) (X : gX (dC, dI) (tK kc) (wK ad kc sa va) Z A s σ H locs) (hl : lv_has ls 7 []) (hg : f_X3_applyValue_b113  σ = some (r, τ)) : W p l e R s m args below meth c H locs (ka σ - k0) (sl σ - s0) (MQ below (gQy (dC, dI) (tK kc) (wK ad kc) A τ) args s (ka τ - k0) (sl τ - s0) A) (F0 m 113 ls []) := by
  have hx := S.1
  have hb := S.2.1
  have hown := S.2.2.2.1
  have hu := S.2.2.2.2
  have hn := m_X3_applyValue_b113 hg
  have hm : ka σ = ka σ ∧ sl σ = sl σ := ⟨rfl, rfl⟩
  unfold f_X3_applyValue_b113 at hg
  refine lv_goto (tgt := 127) hx hb dX3_applyValue_113 (by decide) ?_
  obtain ⟨-, rfl⟩ := fin_some hg
  refine W.widen (k := ka σ - k0) (n := sl σ - s0) (show ka σ - k0 ≤ ka σ - k0 by omega) (show sl σ - s0 ≤ sl σ - s0 by omega) ?_
  exact gr_y S hr hk X dX3_applyValue_127
set_option maxHeartbeats 4000000 in
set_option maxRecDepth 100000 in
theorem w_X3_applyValue_b85 {sa va : Nat} {σ : S5} {v1 : Int32} {v4 : Int32} {v5 : Int32} {u0 : Int32} {H : Heap} {locs : List Loc} {ls : Array Slot} (S : CallFix p m c cX3_applyValue 7 s args uG RX3) (hr : meth.sig.returnType = none) (hk : meth.locks = false) (hR : 5 ≤ R.frames ∧ 162 ≤ R.locals) (hRc : ka τ - k0 ≤ R.cells ∧ sl τ - s0 ≤ R.slots)
    (hc : k0 ≤ ka σ ∧ s0 ≤ sl σ) (X : gX (dC, dI) (tK kc) (wK ad kc sa va) Z A s σ H locs) (hl : lv_has ls 7 [(0, .ref (ad 0)), (1, .int v1), (4, .int v4), (5, .int v5)]) (hg : f_X3_applyValue_b85 v1 v4 v5 u0 σ = some (r, τ)) : W p l e R s m args below meth c H locs (ka σ - k0) (sl σ - s0) (MQ below (gQy (dC, dI) (tK kc) (wK ad kc) A τ) args s (ka τ - k0) (sl τ - s0) A) (F0 m 85 ls [.int u0]) := by
  have hx := S.1
  have hb := S.2.1
  have hown := S.2.2.2.1
  have hu := S.2.2.2.2
  have hn := m_X3_applyValue_b85 hg
  have hm : ka σ = ka σ ∧ sl σ = sl σ := ⟨rfl, rfl⟩
  unfold f_X3_applyValue_b85 at hg
  refine lv_istore (lv' := [(6, .int u0), (0, .ref (ad 0)), (1, .int v1), (4, .int v4), (5, .int v5)]) hx hb dX3_applyValue_85 hl (by decide) rfl (fun ls hl => ?_)
  refine lv_iload hx hb dX3_applyValue_87 (lv_at hl 0 rfl) ?_
  refine lv_iload_n hx hb dX3_applyValue_89 rfl (lv_at hl 2 rfl) ?_
  refine lv_iadd hx hb dX3_applyValue_90 ?_
  refine lv_aload_n hx hb dX3_applyValue_91 rfl (lv_at hl 1 rfl) ?_
  refine wkgR_0_1 S X mG_661 dX3_applyValue_92 ?_
  refine wkgR_2_7 S X mG_310 dX3_applyValue_95 ?_
  refine lv_iload hx hb dX3_applyValue_98 (lv_at hl 4 rfl) ?_
  obtain ⟨hi100, hg⟩ := gd_some hg
  refine wklA_3 (v := (xA σ 3 v5)) S X hi100 rfl dX3_applyValue_100 ?_
  refine lv_icmp_lt (tgt := 116) hx hb dX3_applyValue_101 (by decide) (fun c101 => ?_) (fun c101 => ?_)
  · have hg := (if_pos c101).symm.trans hg
    refine lv_aload_n hx hb dX3_applyValue_116 rfl (lv_at hl 1 rfl) ?_
    refine lv_iload hx hb dX3_applyValue_117 (lv_at hl 4 rfl) ?_
    refine lv_iload hx hb dX3_applyValue_119 (lv_at hl 3 rfl) ?_
    refine lv_iload hx hb dX3_applyValue_121 (lv_at hl 0 rfl) ?_
    refine lv_iload_n hx hb dX3_applyValue_123 rfl (lv_at hl 2 rfl) ?_
    obtain ⟨r124, τ124, hq124, hg⟩ := bd_some hg
    obtain ⟨ha124, hg⟩ := gq_some hg
    obtain ⟨hz124, hg⟩ := gq_some hg
    have hk124 : ka τ124 = ka σ ∧ sl τ124 = sl σ := ka_same ha124 hz124
    refine gck_Vv (As := [.int v5, .int v4, .int u0, .int v1]) (rest := []) (q0 := 0) (ci := 6) S X (k2_X3_extendPart l dC dI ad kc sa va hq124 H.size) cw_X3_extendPart mG_1988 rfl rfl rfl rfl rfl hl.1 (Nat.le_of_ble_eq_true rfl) dX3_applyValue_124 ⟨by omega, by omega⟩ ⟨by omega, by omega⟩ (fun H locs X => ?_)
    have hm : ka τ124 = ka σ ∧ sl τ124 = sl σ := by omega
    obtain ⟨-, rfl⟩ := fin_some hg
    refine W.widen (k := ka τ124 - k0) (n := sl τ124 - s0) (show ka σ - k0 ≤ ka τ124 - k0 by omega) (show sl σ - s0 ≤ sl τ124 - s0 by omega) ?_
    exact gr_y S hr hk X dX3_applyValue_127
  · have hg := (if_neg c101).symm.trans hg
    refine lv_aload_n hx hb dX3_applyValue_104 rfl (lv_at hl 1 rfl) ?_
    refine lv_iload hx hb dX3_applyValue_105 (lv_at hl 4 rfl) ?_
    refine lv_iload hx hb dX3_applyValue_107 (lv_at hl 3 rfl) ?_
    refine lv_iload_n hx hb dX3_applyValue_109 rfl (lv_at hl 2 rfl) ?_
    obtain ⟨r110, τ110, hq110, hg⟩ := bd_some hg
    obtain ⟨ha110, hg⟩ := gle_some hg
    obtain ⟨hz110, hg⟩ := gle_some hg
    have hk110 : ka σ ≤ ka τ110 ∧ sl σ ≤ sl τ110 := ka_mono ha110 hz110
    have hn2 : ka τ110 ≤ ka τ ∧ sl τ110 ≤ sl τ := m_X3_applyValue_b113 hg
    refine gcy_V (w := wK ad kc) (As := [.int v5, .int v4, .int v1]) (rest := []) (q0 := 0) (ci := 6) (mc := ka τ110 - ka σ) (ms := sl τ110 - sl σ) S X (k2_X3_enterCall l dC dI ad kc sa va hq110 H.size) cw_X3_enterCall mG_1947 rfl rfl rfl rfl rfl hl.1 (Nat.le_of_ble_eq_true rfl) dX3_applyValue_110 ⟨by omega, by omega⟩ ⟨by omega, by omega⟩ (fun sa va H locs X => ?_)
    refine W.widen (k := ka τ110 - k0) (n := sl τ110 - s0) (by omega) (by omega) ?_
    exact w_X3_applyValue_b113 S hr hk hR hRc (show k0 ≤ ka τ110 ∧ s0 ≤ sl τ110 from (by omega : k0 ≤ ka τ110 ∧ s0 ≤ sl τ110)) X (lv_sub hl [] rfl) hg
set_option maxHeartbeats 4000000 in
set_option maxRecDepth 100000 in
theorem w_X3_applyValue_b62 {sa va : Nat} {σ : S5} {v1 : Int32} {v2 : Int32} {v3 : Int32} {v4 : Int32} {u0 : Int32} {H : Heap} {locs : List Loc} {ls : Array Slot} (S : CallFix p m c cX3_applyValue 7 s args uG RX3) (hr : meth.sig.returnType = none) (hk : meth.locks = false) (hR : 5 ≤ R.frames ∧ 162 ≤ R.locals) (hRc : ka τ - k0 ≤ R.cells ∧ sl τ - s0 ≤ R.slots)
    (hc : k0 ≤ ka σ ∧ s0 ≤ sl σ) (X : gX (dC, dI) (tK kc) (wK ad kc sa va) Z A s σ H locs) (hl : lv_has ls 7 [(0, .ref (ad 0)), (1, .int v1), (2, .int v2), (3, .int v3), (4, .int v4)]) (hg : f_X3_applyValue_b62 v1 v2 v3 v4 u0 σ = some (r, τ)) : W p l e R s m args below meth c H locs (ka σ - k0) (sl σ - s0) (MQ below (gQy (dC, dI) (tK kc) (wK ad kc) A τ) args s (ka τ - k0) (sl τ - s0) A) (F0 m 62 ls [.int u0]) := by
  have hx := S.1
  have hb := S.2.1
  have hown := S.2.2.2.1
  have hu := S.2.2.2.2
  have hn := m_X3_applyValue_b62 hg
  have hm : ka σ = ka σ ∧ sl σ = sl σ := ⟨rfl, rfl⟩
  unfold f_X3_applyValue_b62 at hg
  refine lv_istore (lv' := [(5, .int u0), (0, .ref (ad 0)), (1, .int v1), (2, .int v2), (3, .int v3), (4, .int v4)]) hx hb dX3_applyValue_62 hl (by decide) rfl (fun ls hl => ?_)
  refine lv_iload_n hx hb dX3_applyValue_64 rfl (lv_at hl 3 rfl) ?_
  refine lv_iconst (v := 5) hx hb dX3_applyValue_65 (by decide) ?_
  refine lv_icmp_ne (tgt := 84) hx hb dX3_applyValue_66 (by decide) (fun c66 => ?_) (fun c66 => ?_)
  · have hg := (if_neg c66).symm.trans hg
    refine lv_iconst (v := 0) hx hb dX3_applyValue_84 (by decide) ?_
    refine W.widen (k := ka σ - k0) (n := sl σ - s0) (show ka σ - k0 ≤ ka σ - k0 by omega) (show sl σ - s0 ≤ sl σ - s0 by omega) ?_
    exact w_X3_applyValue_b85 S hr hk hR hRc (show k0 ≤ ka σ ∧ s0 ≤ sl σ from (by omega : k0 ≤ ka σ ∧ s0 ≤ sl σ)) X (lv_sub hl [1, 2, 5, 0] rfl) hg
  · have hg := (if_pos c66).symm.trans hg
    refine lv_aload_n hx hb dX3_applyValue_69 rfl (lv_at hl 1 rfl) ?_
    refine wkgR_0_6 S X mG_669 dX3_applyValue_70 ?_
    refine wkgR_1_0 S X mG_653 dX3_applyValue_73 ?_
    refine lv_iload_n hx hb dX3_applyValue_76 rfl (lv_at hl 4 rfl) ?_
    refine lv_iconst (v := 1) hx hb dX3_applyValue_77 (by decide) ?_
    refine lv_iadd hx hb dX3_applyValue_78 ?_
    obtain ⟨hi79, hg⟩ := gd_some hg
    refine wklB_14 (v := (xB σ 14 (v3 + 1))) S X hi79 rfl dX3_applyValue_79 ?_
    refine lv_l2i (v := (((xB σ 14 (v3 + 1)) : Int64).toInt32)) hx hb dX3_applyValue_80 rfl ?_
    refine lv_goto (tgt := 85) hx hb dX3_applyValue_81 (by decide) ?_
    refine W.widen (k := ka σ - k0) (n := sl σ - s0) (show ka σ - k0 ≤ ka σ - k0 by omega) (show sl σ - s0 ≤ sl σ - s0 by omega) ?_
    exact w_X3_applyValue_b85 S hr hk hR hRc (show k0 ≤ ka σ ∧ s0 ≤ sl σ from (by omega : k0 ≤ ka σ ∧ s0 ≤ sl σ)) X (lv_sub hl [1, 2, 5, 0] rfl) hg
set_option maxHeartbeats 4000000 in
set_option maxRecDepth 100000 in
theorem w_X3_applyValue_b41 {sa va : Nat} {σ : S5} {v1 : Int32} {v2 : Int32} {v3 : Int32} {u0 : Int32} {H : Heap} {locs : List Loc} {ls : Array Slot} (S : CallFix p m c cX3_applyValue 7 s args uG RX3) (hr : meth.sig.returnType = none) (hk : meth.locks = false) (hR : 5 ≤ R.frames ∧ 162 ≤ R.locals) (hRc : ka τ - k0 ≤ R.cells ∧ sl τ - s0 ≤ R.slots)
    (hc : k0 ≤ ka σ ∧ s0 ≤ sl σ) (X : gX (dC, dI) (tK kc) (wK ad kc sa va) Z A s σ H locs) (hl : lv_has ls 7 [(0, .ref (ad 0)), (1, .int v1), (2, .int v2), (3, .int v3)]) (hg : f_X3_applyValue_b41 v1 v2 v3 u0 σ = some (r, τ)) : W p l e R s m args below meth c H locs (ka σ - k0) (sl σ - s0) (MQ below (gQy (dC, dI) (tK kc) (wK ad kc) A τ) args s (ka τ - k0) (sl τ - s0) A) (F0 m 41 ls [.int u0]) := by
  have hx := S.1
  have hb := S.2.1
  have hown := S.2.2.2.1
  have hu := S.2.2.2.2
  have hn := m_X3_applyValue_b41 hg
  have hm : ka σ = ka σ ∧ sl σ = sl σ := ⟨rfl, rfl⟩
  unfold f_X3_applyValue_b41 at hg
  refine lv_istore (lv' := [(4, .int u0), (0, .ref (ad 0)), (1, .int v1), (2, .int v2), (3, .int v3)]) hx hb dX3_applyValue_41 hl (by decide) rfl (fun ls hl => ?_)
  refine lv_iload_n hx hb dX3_applyValue_43 rfl (lv_at hl 3 rfl) ?_
  refine lv_iconst (v := 5) hx hb dX3_applyValue_44 (by decide) ?_
  refine lv_icmp_ne (tgt := 61) hx hb dX3_applyValue_45 (by decide) (fun c45 => ?_) (fun c45 => ?_)
  · have hg := (if_neg c45).symm.trans hg
    refine lv_iload_n hx hb dX3_applyValue_61 rfl (lv_at hl 4 rfl) ?_
    refine W.widen (k := ka σ - k0) (n := sl σ - s0) (show ka σ - k0 ≤ ka σ - k0 by omega) (show sl σ - s0 ≤ sl σ - s0 by omega) ?_
    exact w_X3_applyValue_b62 S hr hk hR hRc (show k0 ≤ ka σ ∧ s0 ≤ sl σ from (by omega : k0 ≤ ka σ ∧ s0 ≤ sl σ)) X (lv_sub hl [1, 2, 3, 4, 0] rfl) hg
  · have hg := (if_pos c45).symm.trans hg
    refine lv_aload_n hx hb dX3_applyValue_48 rfl (lv_at hl 1 rfl) ?_
    refine wkgR_0_6 S X mG_669 dX3_applyValue_49 ?_
    refine wkgR_1_0 S X mG_653 dX3_applyValue_52 ?_
    refine lv_iload_n hx hb dX3_applyValue_55 rfl (lv_at hl 4 rfl) ?_
    obtain ⟨hi56, hg⟩ := gd_some hg
    refine wklB_14 (v := (xB σ 14 v3)) S X hi56 rfl dX3_applyValue_56 ?_
    refine lv_l2i (v := (((xB σ 14 v3) : Int64).toInt32)) hx hb dX3_applyValue_57 rfl ?_
    refine lv_goto (tgt := 62) hx hb dX3_applyValue_58 (by decide) ?_
    refine W.widen (k := ka σ - k0) (n := sl σ - s0) (show ka σ - k0 ≤ ka σ - k0 by omega) (show sl σ - s0 ≤ sl σ - s0 by omega) ?_
    exact w_X3_applyValue_b62 S hr hk hR hRc (show k0 ≤ ka σ ∧ s0 ≤ sl σ from (by omega : k0 ≤ ka σ ∧ s0 ≤ sl σ)) X (lv_sub hl [1, 2, 3, 4, 0] rfl) hg
set_option maxHeartbeats 4000000 in
set_option maxRecDepth 100000 in
theorem w_X3_applyValue_b31 {sa va : Nat} {σ : S5} {v1 : Int32} {v2 : Int32} {v3 : Int32} {H : Heap} {locs : List Loc} {ls : Array Slot} (S : CallFix p m c cX3_applyValue 7 s args uG RX3) (hr : meth.sig.returnType = none) (hk : meth.locks = false) (hR : 5 ≤ R.frames ∧ 162 ≤ R.locals) (hRc : ka τ - k0 ≤ R.cells ∧ sl τ - s0 ≤ R.slots)
    (hc : k0 ≤ ka σ ∧ s0 ≤ sl σ) (X : gX (dC, dI) (tK kc) (wK ad kc sa va) Z A s σ H locs) (hl : lv_has ls 7 [(0, .ref (ad 0)), (1, .int v1), (2, .int v2), (3, .int v3)]) (hg : f_X3_applyValue_b31 v1 v2 v3 σ = some (r, τ)) : W p l e R s m args below meth c H locs (ka σ - k0) (sl σ - s0) (MQ below (gQy (dC, dI) (tK kc) (wK ad kc) A τ) args s (ka τ - k0) (sl τ - s0) A) (F0 m 31 ls []) := by
  have hx := S.1
  have hb := S.2.1
  have hown := S.2.2.2.1
  have hu := S.2.2.2.2
  have hn := m_X3_applyValue_b31 hg
  have hm : ka σ = ka σ ∧ sl σ = sl σ := ⟨rfl, rfl⟩
  unfold f_X3_applyValue_b31 at hg
  refine lv_iload_n hx hb dX3_applyValue_31 rfl (lv_at hl 2 rfl) ?_
  refine lv_iconst (v := 5) hx hb dX3_applyValue_32 (by decide) ?_
  refine lv_icmp_ne (tgt := 40) hx hb dX3_applyValue_33 (by decide) (fun c33 => ?_) (fun c33 => ?_)
  · have hg := (if_neg c33).symm.trans hg
    refine lv_iconst (v := (-1)) hx hb dX3_applyValue_40 (by decide) ?_
    refine W.widen (k := ka σ - k0) (n := sl σ - s0) (show ka σ - k0 ≤ ka σ - k0 by omega) (show sl σ - s0 ≤ sl σ - s0 by omega) ?_
    exact w_X3_applyValue_b41 S hr hk hR hRc (show k0 ≤ ka σ ∧ s0 ≤ sl σ from (by omega : k0 ≤ ka σ ∧ s0 ≤ sl σ)) X (lv_sub hl [0, 1, 2, 3] rfl) hg
  · have hg := (if_pos c33).symm.trans hg
    refine lv_iload_n hx hb dX3_applyValue_36 rfl (lv_at hl 3 rfl) ?_
    refine lv_goto (tgt := 41) hx hb dX3_applyValue_37 (by decide) ?_
    refine W.widen (k := ka σ - k0) (n := sl σ - s0) (show ka σ - k0 ≤ ka σ - k0 by omega) (show sl σ - s0 ≤ sl σ - s0 by omega) ?_
    exact w_X3_applyValue_b41 S hr hk hR hRc (show k0 ≤ ka σ ∧ s0 ≤ sl σ from (by omega : k0 ≤ ka σ ∧ s0 ≤ sl σ)) X (lv_sub hl [0, 1, 2, 3] rfl) hg
set_option maxHeartbeats 4000000 in
set_option maxRecDepth 100000 in
theorem w_X3_applyValue {sa va : Nat} {σ : S5} {a1 : Int32} {H : Heap} {locs : List Loc} {ls : Array Slot} (S : CallFix p m c cX3_applyValue 7 s args uG RX3) (hr : meth.sig.returnType = none) (hk : meth.locks = false) (hR : 5 ≤ R.frames ∧ 162 ≤ R.locals) (hRc : ka τ - k0 ≤ R.cells ∧ sl τ - s0 ≤ R.slots)
    (hc : k0 ≤ ka σ ∧ s0 ≤ sl σ) (X : gX (dC, dI) (tK kc) (wK ad kc sa va) Z A s σ H locs) (hl : lv_has ls 7 [(0, .ref (ad 0)), (1, .int a1)]) (hg : f_X3_applyValue a1 σ = some (r, τ)) : W p l e R s m args below meth c H locs (ka σ - k0) (sl σ - s0) (MQ below (gQy (dC, dI) (tK kc) (wK ad kc) A τ) args s (ka τ - k0) (sl τ - s0) A) (F0 m 0 ls []) := by
  have hx := S.1
  have hb := S.2.1
  have hown := S.2.2.2.1
  have hu := S.2.2.2.2
  have hn := m_X3_applyValue hg
  have hm : ka σ = ka σ ∧ sl σ = sl σ := ⟨rfl, rfl⟩
  unfold f_X3_applyValue at hg
  refine lv_aload_n hx hb dX3_applyValue_0 rfl (lv_at hl 0 rfl) ?_
  refine wkgJ_5 (v := (gJ σ 5)) S X mG_677 rfl dX3_applyValue_1 ?_
  obtain ⟨r4, τ4, hq4, hg⟩ := bd_some hg
  obtain ⟨ha4, hg⟩ := gq_some hg
  obtain ⟨hz4, hg⟩ := gq_some hg
  have hk4 : ka τ4 = ka σ ∧ sl τ4 = sl σ := ka_same ha4 hz4
  refine gck_Ti (As := [.long (gJ σ 5)]) (rest := []) S X (k2_X0_tag l dC dI ad kc sa va hq4 H.size) cw_X0_tag mG_1834 rfl rfl hl.1 (Nat.le_of_ble_eq_true rfl) dX3_applyValue_4 ⟨by omega, by omega⟩ ⟨by omega, by omega⟩ (fun H locs X => ?_)
  have hm : ka τ4 = ka σ ∧ sl τ4 = sl σ := by omega
  refine lv_istore_n (lv' := [(2, .int r4), (0, .ref (ad 0)), (1, .int a1)]) hx hb dX3_applyValue_7 rfl hl (by decide) rfl (fun ls hl => ?_)
  refine lv_aload_n hx hb dX3_applyValue_8 rfl (lv_at hl 1 rfl) ?_
  refine wkgJ_5 (v := (gJ τ4 5)) S X mG_677 rfl dX3_applyValue_9 ?_
  refine lv_l2i (v := (((gJ τ4 5) : Int64).toInt32)) hx hb dX3_applyValue_12 rfl ?_
  refine lv_istore_n (lv' := [(3, .int (((gJ τ4 5) : Int64).toInt32)), (2, .int r4), (0, .ref (ad 0)), (1, .int a1)]) hx hb dX3_applyValue_13 rfl hl (by decide) rfl (fun ls hl => ?_)
  refine lv_iload_n hx hb dX3_applyValue_14 rfl (lv_at hl 1 rfl) ?_
  refine lv_iconst (v := 2) hx hb dX3_applyValue_15 (by decide) ?_
  refine lv_icmp_eq (tgt := 31) hx hb dX3_applyValue_16 (by decide) (fun c16 => ?_) (fun c16 => ?_)
  · have hg := (if_pos c16).symm.trans hg
    refine W.widen (k := ka τ4 - k0) (n := sl τ4 - s0) (show ka σ - k0 ≤ ka τ4 - k0 by omega) (show sl σ - s0 ≤ sl τ4 - s0 by omega) ?_
    exact w_X3_applyValue_b31 S hr hk hR hRc (show k0 ≤ ka τ4 ∧ s0 ≤ sl τ4 from (by omega : k0 ≤ ka τ4 ∧ s0 ≤ sl τ4)) X (lv_sub hl [2, 3, 1, 0] rfl) hg
  · have hg := (if_neg c16).symm.trans hg
    refine lv_iload_n hx hb dX3_applyValue_19 rfl (lv_at hl 1 rfl) ?_
    refine lv_iconst (v := 5) hx hb dX3_applyValue_20 (by decide) ?_
    refine lv_icmp_eq (tgt := 31) hx hb dX3_applyValue_21 (by decide) (fun c21 => ?_) (fun c21 => ?_)
    · have hg := (if_pos c21).symm.trans hg
      refine W.widen (k := ka τ4 - k0) (n := sl τ4 - s0) (show ka σ - k0 ≤ ka τ4 - k0 by omega) (show sl σ - s0 ≤ sl τ4 - s0 by omega) ?_
      exact w_X3_applyValue_b31 S hr hk hR hRc (show k0 ≤ ka τ4 ∧ s0 ≤ sl τ4 from (by omega : k0 ≤ ka τ4 ∧ s0 ≤ sl τ4)) X (lv_sub hl [2, 3, 1, 0] rfl) hg
    · have hg := (if_neg c21).symm.trans hg
      refine lv_aload_n hx hb dX3_applyValue_24 rfl (lv_at hl 2 rfl) ?_
      refine lv_iconst (v := 2) hx hb dX3_applyValue_25 (by decide) ?_
      refine lv_iconst (v := 4) hx hb dX3_applyValue_26 (by decide) ?_
      obtain ⟨r27, τ27, hq27, hg⟩ := bd_some hg
      obtain ⟨ha27, hg⟩ := gq_some hg
      obtain ⟨hz27, hg⟩ := gq_some hg
      have hk27 : ka τ27 = ka τ4 ∧ sl τ27 = sl τ4 := ka_same ha27 hz27
      refine gck_Vv (As := [.int 2, .int 4]) (rest := []) (q0 := 0) (ci := 6) S X (k2_X3_endWith l dC dI ad kc sa va hq27 H.size) cw_X3_endWith mG_1846 rfl rfl rfl rfl rfl hl.1 (Nat.le_of_ble_eq_true rfl) dX3_applyValue_27 ⟨by omega, by omega⟩ ⟨by omega, by omega⟩ (fun H locs X => ?_)
      have hm : ka τ27 = ka σ ∧ sl τ27 = sl σ := by omega
      obtain ⟨-, rfl⟩ := fin_some hg
      refine W.widen (k := ka τ27 - k0) (n := sl τ27 - s0) (show ka σ - k0 ≤ ka τ27 - k0 by omega) (show sl σ - s0 ≤ sl τ27 - s0 by omega) ?_
      exact gr_y S hr hk X dX3_applyValue_30
end MX3_applyValue
set_option maxRecDepth 100000 in
theorem k2_X3_applyValue (l : Launch) (dC : Nat → ClassId) (dI : Nat → Nat → Nat) {Z : ZZ} (ad : Nat → Nat) (kc : Nat → ClassId) (sa va : Nat) {σ τ : S5} {a1 : Int32} {r : Unit} (hg : f_X3_applyValue a1 σ = some (r, τ)) (sz : Nat) : Met l yX3_applyValue (Cond.code yX3_applyValue cX3_applyValue 7 none :: uG) { frames := 5, cells := ka τ - ka σ, slots := sl τ - sl σ, locals := 162 } (gPc (dC, dI) (tK kc) (wK ad kc sa va) Z [.ref (ad 0), .int a1] σ sz) (gQy (dC, dI) (tK kc) (wK ad kc) (va_A (wK ad kc sa va σ) sz) τ) (ka τ - ka σ) (sl τ - sl σ) (va_A (wK ad kc sa va σ) sz) :=
  gy_start (by decide) (Nat.le_of_ble_eq_true rfl) (fun p e s m below meth c ls S hr hk X hl => W.widen (Nat.zero_le _) (Nat.zero_le _) (w_X3_applyValue (k0 := ka σ) (s0 := sl σ) S hr hk ⟨Nat.le_refl _, Nat.le_refl _⟩ ⟨Nat.le_refl _, Nat.le_refl _⟩ ⟨Nat.le_refl _, Nat.le_refl _⟩ X hl hg))
section MX3_show
variable {r : Unit} {τ : S5}
set_option maxHeartbeats 4000000 in
theorem m_X3_show_b91 {σ : S5}   (hg : f_X3_show_b91  σ = some (r, τ)) : ka σ ≤ ka τ ∧ sl σ ≤ sl τ := by
  have hm : ka σ ≤ ka σ ∧ sl σ ≤ sl σ := ⟨Nat.le_refl _, Nat.le_refl _⟩
  unfold f_X3_show_b91 at hg
  obtain ⟨-, rfl⟩ := fin_some hg
  exact hm
set_option maxHeartbeats 4000000 in
theorem m_X3_show {σ : S5}   (hg : f_X3_show  σ = some (r, τ)) : ka σ ≤ ka τ ∧ sl σ ≤ sl τ := by
  have hm : ka σ ≤ ka σ ∧ sl σ ≤ sl σ := ⟨Nat.le_refl _, Nat.le_refl _⟩
  unfold f_X3_show at hg
  obtain ⟨r10, τ10, hq10, hg⟩ := bd_some hg
  obtain ⟨ha10, hg⟩ := gq_some hg
  obtain ⟨hz10, hg⟩ := gq_some hg
  have hk10 : ka τ10 = ka σ ∧ sl τ10 = sl σ := ka_same ha10 hz10
  have hm : ka σ ≤ ka τ10 ∧ sl σ ≤ sl τ10 := by omega
  rcases sw_1_4 (r10) with hsw | hsw | hsw | hsw | hsw
  · obtain ⟨hs0, hs1, hs2, hs3⟩ := swo_1_4 hsw
    have hg := (if_neg hs0).symm.trans hg
    have hg := (if_neg hs1).symm.trans hg
    have hg := (if_neg hs2).symm.trans hg
    have hg := (if_neg hs3).symm.trans hg
    obtain ⟨r98, τ98, hq98, hg⟩ := bd_some hg
    obtain ⟨ha98, hg⟩ := gq_some hg
    obtain ⟨hz98, hg⟩ := gq_some hg
    have hk98 : ka τ98 = ka τ10 ∧ sl τ98 = sl τ10 := ka_same ha98 hz98
    have hm : ka σ ≤ ka τ98 ∧ sl σ ≤ sl τ98 := by omega
    obtain ⟨-, rfl⟩ := fin_some hg
    exact hm
  · have hg := (if_pos hsw).symm.trans hg
    obtain ⟨r48, τ48, hq48, hg⟩ := bd_some hg
    obtain ⟨ha48, hg⟩ := gq_some hg
    obtain ⟨hz48, hg⟩ := gq_some hg
    have hk48 : ka τ48 = ka τ10 ∧ sl τ48 = sl τ10 := ka_same ha48 hz48
    have hm : ka σ ≤ ka τ48 ∧ sl σ ≤ sl τ48 := by omega
    obtain ⟨-, rfl⟩ := fin_some hg
    exact hm
  · have hg := (if_neg (by rw [hsw]; decide)).symm.trans hg
    have hg := (if_pos hsw).symm.trans hg
    obtain ⟨r98, τ98, hq98, hg⟩ := bd_some hg
    obtain ⟨ha98, hg⟩ := gq_some hg
    obtain ⟨hz98, hg⟩ := gq_some hg
    have hk98 : ka τ98 = ka τ10 ∧ sl τ98 = sl τ10 := ka_same ha98 hz98
    have hm : ka σ ≤ ka τ98 ∧ sl σ ≤ sl τ98 := by omega
    obtain ⟨-, rfl⟩ := fin_some hg
    exact hm
  · have hg := (if_neg (by rw [hsw]; decide)).symm.trans hg
    have hg := (if_neg (by rw [hsw]; decide)).symm.trans hg
    have hg := (if_pos hsw).symm.trans hg
    obtain ⟨r58, τ58, hq58, hg⟩ := bd_some hg
    obtain ⟨ha58, hg⟩ := gq_some hg
    obtain ⟨hz58, hg⟩ := gq_some hg
    have hk58 : ka τ58 = ka τ10 ∧ sl τ58 = sl τ10 := ka_same ha58 hz58
    have hm : ka σ ≤ ka τ58 ∧ sl σ ≤ sl τ58 := by omega
    obtain ⟨-, rfl⟩ := fin_some hg
    exact hm
  · have hg := (if_neg (by rw [hsw]; decide)).symm.trans hg
    have hg := (if_neg (by rw [hsw]; decide)).symm.trans hg
    have hg := (if_neg (by rw [hsw]; decide)).symm.trans hg
    have hg := (if_pos hsw).symm.trans hg
    obtain ⟨hi75, hg⟩ := gd_some hg
    obtain ⟨r77, τ77, hq77, hg⟩ := bd_some hg
    obtain ⟨ha77, hg⟩ := gq_some hg
    obtain ⟨hz77, hg⟩ := gq_some hg
    have hk77 : ka τ77 = ka τ10 ∧ sl τ77 = sl τ10 := ka_same ha77 hz77
    have hm : ka σ ≤ ka τ77 ∧ sl σ ≤ sl τ77 := by omega
    obtain ⟨r85, τ85, hq85, hg⟩ := bd_some hg
    obtain ⟨ha85, hg⟩ := gq_some hg
    obtain ⟨hz85, hg⟩ := gq_some hg
    have hk85 : ka τ85 = ka τ77 ∧ sl τ85 = sl τ77 := ka_same ha85 hz85
    have hm : ka σ ≤ ka τ85 ∧ sl σ ≤ sl τ85 := by omega
    obtain ⟨r88, τ88, hq88, hg⟩ := bd_some hg
    obtain ⟨ha88, hg⟩ := gle_some hg
    obtain ⟨hz88, hg⟩ := gle_some hg
    have hk88 : ka τ85 ≤ ka τ88 ∧ sl τ85 ≤ sl τ88 := ka_mono ha88 hz88
    have hm : ka σ ≤ ka τ88 ∧ sl σ ≤ sl τ88 := by omega
    exact ⟨Nat.le_trans hm.1 (m_X3_show_b91 hg).1, Nat.le_trans hm.2 (m_X3_show_b91 hg).2⟩
variable {p : Program} {l : Launch} {e : Env} {R : Room} {s : State} {m : MethodId} {args : Array Value} {below : List Frame} {meth : Method} {c : Code} {dC : Nat → ClassId} {dI : Nat → Nat → Nat} {Z : ZZ} {A : Nat → Prop} {ad : Nat → Nat} {kc : Nat → ClassId} {k0 s0 : Nat}
set_option maxHeartbeats 4000000 in
set_option maxRecDepth 100000 in
theorem w_X3_show_b91 {sa va : Nat} {σ : S5}  {H : Heap} {locs : List Loc} {ls : Array Slot} (S : CallFix p m c cX3_show 2 s args uG RX3) (hr : meth.sig.returnType = none) (hk : meth.locks = false) (hR : 3 ≤ R.frames ∧ 112 ≤ R.locals) (hRc : ka τ - k0 ≤ R.cells ∧ sl τ - s0 ≤ R.slots)
    (hc : k0 ≤ ka σ ∧ s0 ≤ sl σ) (X : gX (dC, dI) (tK kc) (wK ad kc sa va) Z A s σ H locs) (hl : lv_has ls 2 []) (hg : f_X3_show_b91  σ = some (r, τ)) : W p l e R s m args below meth c H locs (ka σ - k0) (sl σ - s0) (MQ below (gQy (dC, dI) (tK kc) (wK ad kc) A τ) args s (ka τ - k0) (sl τ - s0) A) (F0 m 91 ls []) := by
  have hx := S.1
  have hb := S.2.1
  have hown := S.2.2.2.1
  have hu := S.2.2.2.2
  have hn := m_X3_show_b91 hg
  have hm : ka σ = ka σ ∧ sl σ = sl σ := ⟨rfl, rfl⟩
  unfold f_X3_show_b91 at hg
  refine lv_goto (tgt := 101) hx hb dX3_show_91 (by decide) ?_
  obtain ⟨-, rfl⟩ := fin_some hg
  refine W.widen (k := ka σ - k0) (n := sl σ - s0) (show ka σ - k0 ≤ ka σ - k0 by omega) (show sl σ - s0 ≤ sl σ - s0 by omega) ?_
  exact gr_y S hr hk X dX3_show_101
set_option maxHeartbeats 4000000 in
set_option maxRecDepth 100000 in
theorem w_X3_show {sa va : Nat} {σ : S5}  {H : Heap} {locs : List Loc} {ls : Array Slot} (S : CallFix p m c cX3_show 2 s args uG RX3) (hr : meth.sig.returnType = none) (hk : meth.locks = false) (hR : 3 ≤ R.frames ∧ 112 ≤ R.locals) (hRc : ka τ - k0 ≤ R.cells ∧ sl τ - s0 ≤ R.slots)
    (hc : k0 ≤ ka σ ∧ s0 ≤ sl σ) (X : gX (dC, dI) (tK kc) (wK ad kc sa va) Z A s σ H locs) (hl : lv_has ls 2 [(0, .ref (ad 0))]) (hg : f_X3_show  σ = some (r, τ)) : W p l e R s m args below meth c H locs (ka σ - k0) (sl σ - s0) (MQ below (gQy (dC, dI) (tK kc) (wK ad kc) A τ) args s (ka τ - k0) (sl τ - s0) A) (F0 m 0 ls []) := by
  have hx := S.1
  have hb := S.2.1
  have hown := S.2.2.2.1
  have hu := S.2.2.2.2
  have hn := m_X3_show hg
  have hm : ka σ = ka σ ∧ sl σ = sl σ := ⟨rfl, rfl⟩
  unfold f_X3_show at hg
  refine lv_aload_n hx hb dX3_show_0 rfl (lv_at hl 0 rfl) ?_
  refine wkgJ_5 (v := (gJ σ 5)) S X mG_677 rfl dX3_show_1 ?_
  refine lv_l2i (v := (((gJ σ 5) : Int64).toInt32)) hx hb dX3_show_4 rfl ?_
  refine lv_istore_n (lv' := [(1, .int (((gJ σ 5) : Int64).toInt32)), (0, .ref (ad 0))]) hx hb dX3_show_5 rfl hl (by decide) rfl (fun ls hl => ?_)
  refine lv_aload_n hx hb dX3_show_6 rfl (lv_at hl 1 rfl) ?_
  refine wkgJ_5 (v := (gJ σ 5)) S X mG_677 rfl dX3_show_7 ?_
  obtain ⟨r10, τ10, hq10, hg⟩ := bd_some hg
  obtain ⟨ha10, hg⟩ := gq_some hg
  obtain ⟨hz10, hg⟩ := gq_some hg
  have hk10 : ka τ10 = ka σ ∧ sl τ10 = sl σ := ka_same ha10 hz10
  refine gck_Ti (As := [.long (gJ σ 5)]) (rest := []) S X (k2_X0_tag l dC dI ad kc sa va hq10 H.size) cw_X0_tag mG_1834 rfl rfl hl.1 (Nat.le_of_ble_eq_true rfl) dX3_show_10 ⟨by omega, by omega⟩ ⟨by omega, by omega⟩ (fun H locs X => ?_)
  have hm : ka τ10 = ka σ ∧ sl τ10 = sl σ := by omega
  rcases sw_1_4 (r10) with hsw | hsw | hsw | hsw | hsw
  · refine lv_tableOut (tgt := 94) hx hb dX3_show_13 hsw (by decide) ?_
    obtain ⟨hs0, hs1, hs2, hs3⟩ := swo_1_4 hsw
    have hg := (if_neg hs0).symm.trans hg
    have hg := (if_neg hs1).symm.trans hg
    have hg := (if_neg hs2).symm.trans hg
    have hg := (if_neg hs3).symm.trans hg
    refine lv_aload_n hx hb dX3_show_94 rfl (lv_at hl 1 rfl) ?_
    refine lv_iconst (v := 1) hx hb dX3_show_95 (by decide) ?_
    refine lv_iconst (v := 3) hx hb dX3_show_96 (by decide) ?_
    refine lv_iconst (v := 0) hx hb dX3_show_97 (by decide) ?_
    obtain ⟨r98, τ98, hq98, hg⟩ := bd_some hg
    obtain ⟨ha98, hg⟩ := gq_some hg
    obtain ⟨hz98, hg⟩ := gq_some hg
    have hk98 : ka τ98 = ka τ10 ∧ sl τ98 = sl τ10 := ka_same ha98 hz98
    refine gck_Vv (As := [.int 1, .int 3, .int 0]) (rest := []) (q0 := 0) (ci := 6) S X (k2_X3_addNumbers l dC dI ad kc sa va hq98 H.size) cw_X3_addNumbers mG_2004 rfl rfl rfl rfl rfl hl.1 (Nat.le_of_ble_eq_true rfl) dX3_show_98 ⟨by omega, by omega⟩ ⟨by omega, by omega⟩ (fun H locs X => ?_)
    have hm : ka τ98 = ka σ ∧ sl τ98 = sl σ := by omega
    obtain ⟨-, rfl⟩ := fin_some hg
    refine W.widen (k := ka τ98 - k0) (n := sl τ98 - s0) (show ka σ - k0 ≤ ka τ98 - k0 by omega) (show sl σ - s0 ≤ sl τ98 - s0 by omega) ?_
    exact gr_y S hr hk X dX3_show_101
  · refine lv_tableIn (off := 31) (tgt := 44) hx hb dX3_show_13 (by rw [hsw]; decide) (by rw [hsw]; decide) (by rw [hsw]; decide) (by decide) ?_
    have hg := (if_pos hsw).symm.trans hg
    refine lv_aload_n hx hb dX3_show_44 rfl (lv_at hl 1 rfl) ?_
    refine lv_iconst (v := 2) hx hb dX3_show_45 (by decide) ?_
    refine lv_iconst (v := 1) hx hb dX3_show_46 (by decide) ?_
    refine lv_iload_n hx hb dX3_show_47 rfl (lv_at hl 0 rfl) ?_
    obtain ⟨r48, τ48, hq48, hg⟩ := bd_some hg
    obtain ⟨ha48, hg⟩ := gq_some hg
    obtain ⟨hz48, hg⟩ := gq_some hg
    have hk48 : ka τ48 = ka τ10 ∧ sl τ48 = sl τ10 := ka_same ha48 hz48
    refine gck_Vv (As := [.int 2, .int 1, .int (((gJ σ 5) : Int64).toInt32)]) (rest := []) (q0 := 0) (ci := 6) S X (k2_X3_addNumbers l dC dI ad kc sa va hq48 H.size) cw_X3_addNumbers mG_2004 rfl rfl rfl rfl rfl hl.1 (Nat.le_of_ble_eq_true rfl) dX3_show_48 ⟨by omega, by omega⟩ ⟨by omega, by omega⟩ (fun H locs X => ?_)
    have hm : ka τ48 = ka σ ∧ sl τ48 = sl σ := by omega
    refine lv_goto (tgt := 101) hx hb dX3_show_51 (by decide) ?_
    obtain ⟨-, rfl⟩ := fin_some hg
    refine W.widen (k := ka τ48 - k0) (n := sl τ48 - s0) (show ka σ - k0 ≤ ka τ48 - k0 by omega) (show sl σ - s0 ≤ sl τ48 - s0 by omega) ?_
    exact gr_y S hr hk X dX3_show_101
  · refine lv_tableIn (off := 81) (tgt := 94) hx hb dX3_show_13 (by rw [hsw]; decide) (by rw [hsw]; decide) (by rw [hsw]; decide) (by decide) ?_
    have hg := (if_neg (by rw [hsw]; decide)).symm.trans hg
    have hg := (if_pos hsw).symm.trans hg
    refine lv_aload_n hx hb dX3_show_94 rfl (lv_at hl 1 rfl) ?_
    refine lv_iconst (v := 1) hx hb dX3_show_95 (by decide) ?_
    refine lv_iconst (v := 3) hx hb dX3_show_96 (by decide) ?_
    refine lv_iconst (v := 0) hx hb dX3_show_97 (by decide) ?_
    obtain ⟨r98, τ98, hq98, hg⟩ := bd_some hg
    obtain ⟨ha98, hg⟩ := gq_some hg
    obtain ⟨hz98, hg⟩ := gq_some hg
    have hk98 : ka τ98 = ka τ10 ∧ sl τ98 = sl τ10 := ka_same ha98 hz98
    refine gck_Vv (As := [.int 1, .int 3, .int 0]) (rest := []) (q0 := 0) (ci := 6) S X (k2_X3_addNumbers l dC dI ad kc sa va hq98 H.size) cw_X3_addNumbers mG_2004 rfl rfl rfl rfl rfl hl.1 (Nat.le_of_ble_eq_true rfl) dX3_show_98 ⟨by omega, by omega⟩ ⟨by omega, by omega⟩ (fun H locs X => ?_)
    have hm : ka τ98 = ka σ ∧ sl τ98 = sl σ := by omega
    obtain ⟨-, rfl⟩ := fin_some hg
    refine W.widen (k := ka τ98 - k0) (n := sl τ98 - s0) (show ka σ - k0 ≤ ka τ98 - k0 by omega) (show sl σ - s0 ≤ sl τ98 - s0 by omega) ?_
    exact gr_y S hr hk X dX3_show_101
  · refine lv_tableIn (off := 41) (tgt := 54) hx hb dX3_show_13 (by rw [hsw]; decide) (by rw [hsw]; decide) (by rw [hsw]; decide) (by decide) ?_
    have hg := (if_neg (by rw [hsw]; decide)).symm.trans hg
    have hg := (if_neg (by rw [hsw]; decide)).symm.trans hg
    have hg := (if_pos hsw).symm.trans hg
    refine lv_aload_n hx hb dX3_show_54 rfl (lv_at hl 1 rfl) ?_
    refine lv_iconst (v := 2) hx hb dX3_show_55 (by decide) ?_
    refine lv_iconst (v := 2) hx hb dX3_show_56 (by decide) ?_
    refine lv_iload_n hx hb dX3_show_57 rfl (lv_at hl 0 rfl) ?_
    obtain ⟨r58, τ58, hq58, hg⟩ := bd_some hg
    obtain ⟨ha58, hg⟩ := gq_some hg
    obtain ⟨hz58, hg⟩ := gq_some hg
    have hk58 : ka τ58 = ka τ10 ∧ sl τ58 = sl τ10 := ka_same ha58 hz58
    refine gck_Vv (As := [.int 2, .int 2, .int (((gJ σ 5) : Int64).toInt32)]) (rest := []) (q0 := 0) (ci := 6) S X (k2_X3_addNumbers l dC dI ad kc sa va hq58 H.size) cw_X3_addNumbers mG_2004 rfl rfl rfl rfl rfl hl.1 (Nat.le_of_ble_eq_true rfl) dX3_show_58 ⟨by omega, by omega⟩ ⟨by omega, by omega⟩ (fun H locs X => ?_)
    have hm : ka τ58 = ka σ ∧ sl τ58 = sl σ := by omega
    refine lv_goto (tgt := 101) hx hb dX3_show_61 (by decide) ?_
    obtain ⟨-, rfl⟩ := fin_some hg
    refine W.widen (k := ka τ58 - k0) (n := sl τ58 - s0) (show ka σ - k0 ≤ ka τ58 - k0 by omega) (show sl σ - s0 ≤ sl τ58 - s0 by omega) ?_
    exact gr_y S hr hk X dX3_show_101
  · refine lv_tableIn (off := 51) (tgt := 64) hx hb dX3_show_13 (by rw [hsw]; decide) (by rw [hsw]; decide) (by rw [hsw]; decide) (by decide) ?_
    have hg := (if_neg (by rw [hsw]; decide)).symm.trans hg
    have hg := (if_neg (by rw [hsw]; decide)).symm.trans hg
    have hg := (if_neg (by rw [hsw]; decide)).symm.trans hg
    have hg := (if_pos hsw).symm.trans hg
    refine lv_aload_n hx hb dX3_show_64 rfl (lv_at hl 1 rfl) ?_
    refine lv_iconst (v := 2) hx hb dX3_show_65 (by decide) ?_
    refine lv_iconst (v := 2) hx hb dX3_show_66 (by decide) ?_
    refine lv_aload_n hx hb dX3_show_67 rfl (lv_at hl 1 rfl) ?_
    refine wkgR_0_6 S X mG_669 dX3_show_68 ?_
    refine wkgR_1_0 S X mG_653 dX3_show_71 ?_
    refine lv_iload_n hx hb dX3_show_74 rfl (lv_at hl 0 rfl) ?_
    obtain ⟨hi75, hg⟩ := gd_some hg
    refine wklB_14 (v := (xB τ10 14 (((gJ σ 5) : Int64).toInt32))) S X hi75 rfl dX3_show_75 ?_
    refine lv_l2i (v := (((xB τ10 14 (((gJ σ 5) : Int64).toInt32)) : Int64).toInt32)) hx hb dX3_show_76 rfl ?_
    obtain ⟨r77, τ77, hq77, hg⟩ := bd_some hg
    obtain ⟨ha77, hg⟩ := gq_some hg
    obtain ⟨hz77, hg⟩ := gq_some hg
    have hk77 : ka τ77 = ka τ10 ∧ sl τ77 = sl τ10 := ka_same ha77 hz77
    refine gck_Vv (As := [.int 2, .int 2, .int (((xB τ10 14 (((gJ σ 5) : Int64).toInt32)) : Int64).toInt32)]) (rest := []) (q0 := 0) (ci := 6) S X (k2_X3_addNumbers l dC dI ad kc sa va hq77 H.size) cw_X3_addNumbers mG_2004 rfl rfl rfl rfl rfl hl.1 (Nat.le_of_ble_eq_true rfl) dX3_show_77 ⟨by omega, by omega⟩ ⟨by omega, by omega⟩ (fun H locs X => ?_)
    have hm : ka τ77 = ka σ ∧ sl τ77 = sl σ := by omega
    refine lv_aload_n hx hb dX3_show_80 rfl (lv_at hl 1 rfl) ?_
    refine lv_bipush (v := 10) hx hb dX3_show_81 (by decide) ?_
    refine lv_iload_n hx hb dX3_show_83 rfl (lv_at hl 0 rfl) ?_
    refine lv_iconst (v := 0) hx hb dX3_show_84 (by decide) ?_
    obtain ⟨r85, τ85, hq85, hg⟩ := bd_some hg
    obtain ⟨ha85, hg⟩ := gq_some hg
    obtain ⟨hz85, hg⟩ := gq_some hg
    have hk85 : ka τ85 = ka τ77 ∧ sl τ85 = sl τ77 := ka_same ha85 hz85
    refine gck_Sl (As := [.int 10, .int (((gJ σ 5) : Int64).toInt32), .int 0]) (rest := [.ref (ad 0)]) S X (k2_X3_frame l dC dI ad kc sa va hq85 H.size) cw_X3_frame mG_1811 rfl rfl hl.1 (Nat.le_of_ble_eq_true rfl) dX3_show_85 ⟨by omega, by omega⟩ ⟨by omega, by omega⟩ (fun H locs X => ?_)
    have hm : ka τ85 = ka σ ∧ sl τ85 = sl σ := by omega
    obtain ⟨r88, τ88, hq88, hg⟩ := bd_some hg
    obtain ⟨ha88, hg⟩ := gle_some hg
    obtain ⟨hz88, hg⟩ := gle_some hg
    have hk88 : ka τ85 ≤ ka τ88 ∧ sl τ85 ≤ sl τ88 := ka_mono ha88 hz88
    have hn2 : ka τ88 ≤ ka τ ∧ sl τ88 ≤ sl τ := m_X3_show_b91 hg
    refine gcy_V (w := wK ad kc) (As := [.long r85]) (rest := []) (q0 := 0) (ci := 6) (mc := ka τ88 - ka τ85) (ms := sl τ88 - sl τ85) S X (k2_X3_push l dC dI ad kc sa va hq88 H.size) cw_X3_push mG_1814 rfl rfl rfl rfl rfl hl.1 (Nat.le_of_ble_eq_true rfl) dX3_show_88 ⟨by omega, by omega⟩ ⟨by omega, by omega⟩ (fun sa va H locs X => ?_)
    refine W.widen (k := ka τ88 - k0) (n := sl τ88 - s0) (by omega) (by omega) ?_
    exact w_X3_show_b91 S hr hk hR hRc (show k0 ≤ ka τ88 ∧ s0 ≤ sl τ88 from (by omega : k0 ≤ ka τ88 ∧ s0 ≤ sl τ88)) X (lv_sub hl [] rfl) hg
end MX3_show
set_option maxRecDepth 100000 in
theorem k2_X3_show (l : Launch) (dC : Nat → ClassId) (dI : Nat → Nat → Nat) {Z : ZZ} (ad : Nat → Nat) (kc : Nat → ClassId) (sa va : Nat) {σ τ : S5}  {r : Unit} (hg : f_X3_show  σ = some (r, τ)) (sz : Nat) : Met l yX3_show (Cond.code yX3_show cX3_show 2 none :: uG) { frames := 3, cells := ka τ - ka σ, slots := sl τ - sl σ, locals := 112 } (gPc (dC, dI) (tK kc) (wK ad kc sa va) Z [.ref (ad 0)] σ sz) (gQy (dC, dI) (tK kc) (wK ad kc) (va_A (wK ad kc sa va σ) sz) τ) (ka τ - ka σ) (sl τ - sl σ) (va_A (wK ad kc sa va σ) sz) :=
  gy_start (by decide) (Nat.le_of_ble_eq_true rfl) (fun p e s m below meth c ls S hr hk X hl => W.widen (Nat.zero_le _) (Nat.zero_le _) (w_X3_show (k0 := ka σ) (s0 := sl σ) S hr hk ⟨Nat.le_refl _, Nat.le_refl _⟩ ⟨Nat.le_refl _, Nat.le_refl _⟩ ⟨Nat.le_refl _, Nat.le_refl _⟩ X hl hg))
section MX3_showField
variable {r : Unit} {τ : S5}
set_option maxHeartbeats 4000000 in
theorem m_X3_showField_b63 {σ : S5}   (hg : f_X3_showField_b63  σ = some (r, τ)) : ka σ ≤ ka τ ∧ sl σ ≤ sl τ := by
  have hm : ka σ ≤ ka σ ∧ sl σ ≤ sl σ := ⟨Nat.le_refl _, Nat.le_refl _⟩
  unfold f_X3_showField_b63 at hg
  obtain ⟨-, rfl⟩ := fin_some hg
  exact hm
set_option maxHeartbeats 4000000 in
theorem m_X3_showField_b46 {σ : S5} {v1 : Int32} {v2 : Int32}  (hg : f_X3_showField_b46 v1 v2 σ = some (r, τ)) : ka σ ≤ ka τ ∧ sl σ ≤ sl τ := by
  have hm : ka σ ≤ ka σ ∧ sl σ ≤ sl σ := ⟨Nat.le_refl _, Nat.le_refl _⟩
  unfold f_X3_showField_b46 at hg
  obtain ⟨hi59, hg⟩ := gd_some hg
  obtain ⟨r60, τ60, hq60, hg⟩ := bd_some hg
  obtain ⟨ha60, hg⟩ := gle_some hg
  obtain ⟨hz60, hg⟩ := gle_some hg
  have hk60 : ka σ ≤ ka τ60 ∧ sl σ ≤ sl τ60 := ka_mono ha60 hz60
  have hm : ka σ ≤ ka τ60 ∧ sl σ ≤ sl τ60 := by omega
  exact ⟨Nat.le_trans hm.1 (m_X3_showField_b63 hg).1, Nat.le_trans hm.2 (m_X3_showField_b63 hg).2⟩
set_option maxHeartbeats 4000000 in
theorem m_X3_showField_b35 {σ : S5} {v1 : Int32} {v2 : Int32}  (hg : f_X3_showField_b35 v1 v2 σ = some (r, τ)) : ka σ ≤ ka τ ∧ sl σ ≤ sl τ := by
  have hm : ka σ ≤ ka σ ∧ sl σ ≤ sl σ := ⟨Nat.le_refl _, Nat.le_refl _⟩
  unfold f_X3_showField_b35 at hg
  obtain ⟨r40, τ40, hq40, hg⟩ := bd_some hg
  obtain ⟨ha40, hg⟩ := gq_some hg
  obtain ⟨hz40, hg⟩ := gq_some hg
  have hk40 : ka τ40 = ka σ ∧ sl τ40 = sl σ := ka_same ha40 hz40
  have hm : ka σ ≤ ka τ40 ∧ sl σ ≤ sl τ40 := by omega
  obtain ⟨r43, τ43, hq43, hg⟩ := bd_some hg
  obtain ⟨ha43, hg⟩ := gle_some hg
  obtain ⟨hz43, hg⟩ := gle_some hg
  have hk43 : ka τ40 ≤ ka τ43 ∧ sl τ40 ≤ sl τ43 := ka_mono ha43 hz43
  have hm : ka σ ≤ ka τ43 ∧ sl σ ≤ sl τ43 := by omega
  exact ⟨Nat.le_trans hm.1 (m_X3_showField_b46 hg).1, Nat.le_trans hm.2 (m_X3_showField_b46 hg).2⟩
set_option maxHeartbeats 4000000 in
theorem m_X3_showField {σ : S5} {a1 : Int32} {a2 : Int32}  (hg : f_X3_showField a1 a2 σ = some (r, τ)) : ka σ ≤ ka τ ∧ sl σ ≤ sl τ := by
  have hm : ka σ ≤ ka σ ∧ sl σ ≤ sl σ := ⟨Nat.le_refl _, Nat.le_refl _⟩
  unfold f_X3_showField at hg
  obtain ⟨hi16, hg⟩ := gd_some hg
  obtain ⟨hi18, hg⟩ := gd_some hg
  refine (Decidable.em ((xA σ 2 (((xB σ 14 a1) : Int64).toInt32)) ≤ a2)).elim (fun c19 => ?_) (fun c19 => ?_)
  · have hg := (if_pos c19).symm.trans hg
    exact ⟨Nat.le_trans hm.1 (m_X3_showField_b63 hg).1, Nat.le_trans hm.2 (m_X3_showField_b63 hg).2⟩
  · have hg := (if_neg c19).symm.trans hg
    obtain ⟨r29, τ29, hq29, hg⟩ := bd_some hg
    obtain ⟨ha29, hg⟩ := gq_some hg
    obtain ⟨hz29, hg⟩ := gq_some hg
    have hk29 : ka τ29 = ka σ ∧ sl τ29 = sl σ := ka_same ha29 hz29
    have hm : ka σ ≤ ka τ29 ∧ sl σ ≤ sl τ29 := by omega
    obtain ⟨r32, τ32, hq32, hg⟩ := bd_some hg
    obtain ⟨ha32, hg⟩ := gle_some hg
    obtain ⟨hz32, hg⟩ := gle_some hg
    have hk32 : ka τ29 ≤ ka τ32 ∧ sl τ29 ≤ sl τ32 := ka_mono ha32 hz32
    have hm : ka σ ≤ ka τ32 ∧ sl σ ≤ sl τ32 := by omega
    exact ⟨Nat.le_trans hm.1 (m_X3_showField_b35 hg).1, Nat.le_trans hm.2 (m_X3_showField_b35 hg).2⟩
variable {p : Program} {l : Launch} {e : Env} {R : Room} {s : State} {m : MethodId} {args : Array Value} {below : List Frame} {meth : Method} {c : Code} {dC : Nat → ClassId} {dI : Nat → Nat → Nat} {Z : ZZ} {A : Nat → Prop} {ad : Nat → Nat} {kc : Nat → ClassId} {k0 s0 : Nat}
set_option maxHeartbeats 4000000 in
set_option maxRecDepth 100000 in
theorem w_X3_showField_b63 {sa va : Nat} {σ : S5}  {H : Heap} {locs : List Loc} {ls : Array Slot} (S : CallFix p m c cX3_showField 3 s args uG RX3) (hr : meth.sig.returnType = none) (hk : meth.locks = false) (hR : 5 ≤ R.frames ∧ 157 ≤ R.locals) (hRc : ka τ - k0 ≤ R.cells ∧ sl τ - s0 ≤ R.slots)
    (hc : k0 ≤ ka σ ∧ s0 ≤ sl σ) (X : gX (dC, dI) (tK kc) (wK ad kc sa va) Z A s σ H locs) (hl : lv_has ls 3 []) (hg : f_X3_showField_b63  σ = some (r, τ)) : W p l e R s m args below meth c H locs (ka σ - k0) (sl σ - s0) (MQ below (gQy (dC, dI) (tK kc) (wK ad kc) A τ) args s (ka τ - k0) (sl τ - s0) A) (F0 m 63 ls []) := by
  have hx := S.1
  have hb := S.2.1
  have hown := S.2.2.2.1
  have hu := S.2.2.2.2
  have hn := m_X3_showField_b63 hg
  have hm : ka σ = ka σ ∧ sl σ = sl σ := ⟨rfl, rfl⟩
  unfold f_X3_showField_b63 at hg
  obtain ⟨-, rfl⟩ := fin_some hg
  refine W.widen (k := ka σ - k0) (n := sl σ - s0) (show ka σ - k0 ≤ ka σ - k0 by omega) (show sl σ - s0 ≤ sl σ - s0 by omega) ?_
  exact gr_y S hr hk X dX3_showField_63
set_option maxHeartbeats 4000000 in
set_option maxRecDepth 100000 in
theorem w_X3_showField_b46 {sa va : Nat} {σ : S5} {v1 : Int32} {v2 : Int32} {H : Heap} {locs : List Loc} {ls : Array Slot} (S : CallFix p m c cX3_showField 3 s args uG RX3) (hr : meth.sig.returnType = none) (hk : meth.locks = false) (hR : 5 ≤ R.frames ∧ 157 ≤ R.locals) (hRc : ka τ - k0 ≤ R.cells ∧ sl τ - s0 ≤ R.slots)
    (hc : k0 ≤ ka σ ∧ s0 ≤ sl σ) (X : gX (dC, dI) (tK kc) (wK ad kc sa va) Z A s σ H locs) (hl : lv_has ls 3 [(0, .ref (ad 0)), (1, .int v1), (2, .int v2)]) (hg : f_X3_showField_b46 v1 v2 σ = some (r, τ)) : W p l e R s m args below meth c H locs (ka σ - k0) (sl σ - s0) (MQ below (gQy (dC, dI) (tK kc) (wK ad kc) A τ) args s (ka τ - k0) (sl τ - s0) A) (F0 m 46 ls []) := by
  have hx := S.1
  have hb := S.2.1
  have hown := S.2.2.2.1
  have hu := S.2.2.2.2
  have hn := m_X3_showField_b46 hg
  have hm : ka σ = ka σ ∧ sl σ = sl σ := ⟨rfl, rfl⟩
  unfold f_X3_showField_b46 at hg
  refine lv_aload_n hx hb dX3_showField_46 rfl (lv_at hl 0 rfl) ?_
  refine lv_aload_n hx hb dX3_showField_47 rfl (lv_at hl 0 rfl) ?_
  refine wkgR_0_6 S X mG_669 dX3_showField_48 ?_
  refine wkgR_1_0 S X mG_653 dX3_showField_51 ?_
  refine lv_iload_n hx hb dX3_showField_54 rfl (lv_at hl 1 rfl) ?_
  refine lv_iconst (v := 1) hx hb dX3_showField_55 (by decide) ?_
  refine lv_iadd hx hb dX3_showField_56 ?_
  refine lv_iload_n hx hb dX3_showField_57 rfl (lv_at hl 2 rfl) ?_
  refine lv_iadd hx hb dX3_showField_58 ?_
  obtain ⟨hi59, hg⟩ := gd_some hg
  refine wklB_14 (v := (xB σ 14 ((v1 + 1) + v2))) S X hi59 rfl dX3_showField_59 ?_
  obtain ⟨r60, τ60, hq60, hg⟩ := bd_some hg
  obtain ⟨ha60, hg⟩ := gle_some hg
  obtain ⟨hz60, hg⟩ := gle_some hg
  have hk60 : ka σ ≤ ka τ60 ∧ sl σ ≤ sl τ60 := ka_mono ha60 hz60
  have hn2 : ka τ60 ≤ ka τ ∧ sl τ60 ≤ sl τ := m_X3_showField_b63 hg
  refine gcy_V (w := wK ad kc) (As := [.long (xB σ 14 ((v1 + 1) + v2))]) (rest := []) (q0 := 0) (ci := 6) (mc := ka τ60 - ka σ) (ms := sl τ60 - sl σ) S X (k2_X3_enter l dC dI ad kc sa va hq60 H.size) cw_X3_enter mG_1830 rfl rfl rfl rfl rfl hl.1 (Nat.le_of_ble_eq_true rfl) dX3_showField_60 ⟨by omega, by omega⟩ ⟨by omega, by omega⟩ (fun sa va H locs X => ?_)
  refine W.widen (k := ka τ60 - k0) (n := sl τ60 - s0) (by omega) (by omega) ?_
  exact w_X3_showField_b63 S hr hk hR hRc (show k0 ≤ ka τ60 ∧ s0 ≤ sl τ60 from (by omega : k0 ≤ ka τ60 ∧ s0 ≤ sl τ60)) X (lv_sub hl [] rfl) hg
set_option maxHeartbeats 4000000 in
set_option maxRecDepth 100000 in
theorem w_X3_showField_b35 {sa va : Nat} {σ : S5} {v1 : Int32} {v2 : Int32} {H : Heap} {locs : List Loc} {ls : Array Slot} (S : CallFix p m c cX3_showField 3 s args uG RX3) (hr : meth.sig.returnType = none) (hk : meth.locks = false) (hR : 5 ≤ R.frames ∧ 157 ≤ R.locals) (hRc : ka τ - k0 ≤ R.cells ∧ sl τ - s0 ≤ R.slots)
    (hc : k0 ≤ ka σ ∧ s0 ≤ sl σ) (X : gX (dC, dI) (tK kc) (wK ad kc sa va) Z A s σ H locs) (hl : lv_has ls 3 [(0, .ref (ad 0)), (1, .int v1), (2, .int v2)]) (hg : f_X3_showField_b35 v1 v2 σ = some (r, τ)) : W p l e R s m args below meth c H locs (ka σ - k0) (sl σ - s0) (MQ below (gQy (dC, dI) (tK kc) (wK ad kc) A τ) args s (ka τ - k0) (sl τ - s0) A) (F0 m 35 ls []) := by
  have hx := S.1
  have hb := S.2.1
  have hown := S.2.2.2.1
  have hu := S.2.2.2.2
  have hn := m_X3_showField_b35 hg
  have hm : ka σ = ka σ ∧ sl σ = sl σ := ⟨rfl, rfl⟩
  unfold f_X3_showField_b35 at hg
  refine lv_aload_n hx hb dX3_showField_35 rfl (lv_at hl 0 rfl) ?_
  refine lv_bipush (v := 9) hx hb dX3_showField_36 (by decide) ?_
  refine lv_iconst (v := 0) hx hb dX3_showField_38 (by decide) ?_
  refine lv_iconst (v := 0) hx hb dX3_showField_39 (by decide) ?_
  obtain ⟨r40, τ40, hq40, hg⟩ := bd_some hg
  obtain ⟨ha40, hg⟩ := gq_some hg
  obtain ⟨hz40, hg⟩ := gq_some hg
  have hk40 : ka τ40 = ka σ ∧ sl τ40 = sl σ := ka_same ha40 hz40
  refine gck_Sl (As := [.int 9, .int 0, .int 0]) (rest := [.ref (ad 0)]) S X (k2_X3_frame l dC dI ad kc sa va hq40 H.size) cw_X3_frame mG_1811 rfl rfl hl.1 (Nat.le_of_ble_eq_true rfl) dX3_showField_40 ⟨by omega, by omega⟩ ⟨by omega, by omega⟩ (fun H locs X => ?_)
  have hm : ka τ40 = ka σ ∧ sl τ40 = sl σ := by omega
  obtain ⟨r43, τ43, hq43, hg⟩ := bd_some hg
  obtain ⟨ha43, hg⟩ := gle_some hg
  obtain ⟨hz43, hg⟩ := gle_some hg
  have hk43 : ka τ40 ≤ ka τ43 ∧ sl τ40 ≤ sl τ43 := ka_mono ha43 hz43
  have hn2 : ka τ43 ≤ ka τ ∧ sl τ43 ≤ sl τ := m_X3_showField_b46 hg
  refine gcy_V (w := wK ad kc) (As := [.long r40]) (rest := []) (q0 := 0) (ci := 6) (mc := ka τ43 - ka τ40) (ms := sl τ43 - sl τ40) S X (k2_X3_push l dC dI ad kc sa va hq43 H.size) cw_X3_push mG_1814 rfl rfl rfl rfl rfl hl.1 (Nat.le_of_ble_eq_true rfl) dX3_showField_43 ⟨by omega, by omega⟩ ⟨by omega, by omega⟩ (fun sa va H locs X => ?_)
  refine W.widen (k := ka τ43 - k0) (n := sl τ43 - s0) (by omega) (by omega) ?_
  exact w_X3_showField_b46 S hr hk hR hRc (show k0 ≤ ka τ43 ∧ s0 ≤ sl τ43 from (by omega : k0 ≤ ka τ43 ∧ s0 ≤ sl τ43)) X (lv_sub hl [0, 1, 2] rfl) hg
set_option maxHeartbeats 4000000 in
set_option maxRecDepth 100000 in
theorem w_X3_showField {sa va : Nat} {σ : S5} {a1 : Int32} {a2 : Int32} {H : Heap} {locs : List Loc} {ls : Array Slot} (S : CallFix p m c cX3_showField 3 s args uG RX3) (hr : meth.sig.returnType = none) (hk : meth.locks = false) (hR : 5 ≤ R.frames ∧ 157 ≤ R.locals) (hRc : ka τ - k0 ≤ R.cells ∧ sl τ - s0 ≤ R.slots)
    (hc : k0 ≤ ka σ ∧ s0 ≤ sl σ) (X : gX (dC, dI) (tK kc) (wK ad kc sa va) Z A s σ H locs) (hl : lv_has ls 3 [(0, .ref (ad 0)), (1, .int a1), (2, .int a2)]) (hg : f_X3_showField a1 a2 σ = some (r, τ)) : W p l e R s m args below meth c H locs (ka σ - k0) (sl σ - s0) (MQ below (gQy (dC, dI) (tK kc) (wK ad kc) A τ) args s (ka τ - k0) (sl τ - s0) A) (F0 m 0 ls []) := by
  have hx := S.1
  have hb := S.2.1
  have hown := S.2.2.2.1
  have hu := S.2.2.2.2
  have hn := m_X3_showField hg
  have hm : ka σ = ka σ ∧ sl σ = sl σ := ⟨rfl, rfl⟩
  unfold f_X3_showField at hg
  refine lv_iload_n hx hb dX3_showField_0 rfl (lv_at hl 2 rfl) ?_
  refine lv_aload_n hx hb dX3_showField_1 rfl (lv_at hl 0 rfl) ?_
  refine wkgR_0_1 S X mG_661 dX3_showField_2 ?_
  refine wkgR_2_1 S X mG_288 dX3_showField_5 ?_
  refine lv_aload_n hx hb dX3_showField_8 rfl (lv_at hl 0 rfl) ?_
  refine wkgR_0_6 S X mG_669 dX3_showField_9 ?_
  refine wkgR_1_0 S X mG_653 dX3_showField_12 ?_
  refine lv_iload_n hx hb dX3_showField_15 rfl (lv_at hl 1 rfl) ?_
  obtain ⟨hi16, hg⟩ := gd_some hg
  refine wklB_14 (v := (xB σ 14 a1)) S X hi16 rfl dX3_showField_16 ?_
  refine lv_l2i (v := (((xB σ 14 a1) : Int64).toInt32)) hx hb dX3_showField_17 rfl ?_
  obtain ⟨hi18, hg⟩ := gd_some hg
  refine wklA_2 (v := (xA σ 2 (((xB σ 14 a1) : Int64).toInt32))) S X hi18 rfl dX3_showField_18 ?_
  refine lv_icmp_ge (tgt := 63) hx hb dX3_showField_19 (by decide) (fun c19 => ?_) (fun c19 => ?_)
  · have hg := (if_pos c19).symm.trans hg
    refine W.widen (k := ka σ - k0) (n := sl σ - s0) (show ka σ - k0 ≤ ka σ - k0 by omega) (show sl σ - s0 ≤ sl σ - s0 by omega) ?_
    exact w_X3_showField_b63 S hr hk hR hRc (show k0 ≤ ka σ ∧ s0 ≤ sl σ from (by omega : k0 ≤ ka σ ∧ s0 ≤ sl σ)) X (lv_sub hl [] rfl) hg
  · have hg := (if_neg c19).symm.trans hg
    refine lv_aload_n hx hb dX3_showField_22 rfl (lv_at hl 0 rfl) ?_
    refine lv_bipush (v := 10) hx hb dX3_showField_23 (by decide) ?_
    refine lv_iload_n hx hb dX3_showField_25 rfl (lv_at hl 1 rfl) ?_
    refine lv_iload_n hx hb dX3_showField_26 rfl (lv_at hl 2 rfl) ?_
    refine lv_iconst (v := 1) hx hb dX3_showField_27 (by decide) ?_
    refine lv_iadd hx hb dX3_showField_28 ?_
    obtain ⟨r29, τ29, hq29, hg⟩ := bd_some hg
    obtain ⟨ha29, hg⟩ := gq_some hg
    obtain ⟨hz29, hg⟩ := gq_some hg
    have hk29 : ka τ29 = ka σ ∧ sl τ29 = sl σ := ka_same ha29 hz29
    refine gck_Sl (As := [.int 10, .int a1, .int (a2 + 1)]) (rest := [.ref (ad 0)]) S X (k2_X3_frame l dC dI ad kc sa va hq29 H.size) cw_X3_frame mG_1811 rfl rfl hl.1 (Nat.le_of_ble_eq_true rfl) dX3_showField_29 ⟨by omega, by omega⟩ ⟨by omega, by omega⟩ (fun H locs X => ?_)
    have hm : ka τ29 = ka σ ∧ sl τ29 = sl σ := by omega
    obtain ⟨r32, τ32, hq32, hg⟩ := bd_some hg
    obtain ⟨ha32, hg⟩ := gle_some hg
    obtain ⟨hz32, hg⟩ := gle_some hg
    have hk32 : ka τ29 ≤ ka τ32 ∧ sl τ29 ≤ sl τ32 := ka_mono ha32 hz32
    have hn2 : ka τ32 ≤ ka τ ∧ sl τ32 ≤ sl τ := m_X3_showField_b35 hg
    refine gcy_V (w := wK ad kc) (As := [.long r29]) (rest := []) (q0 := 0) (ci := 6) (mc := ka τ32 - ka τ29) (ms := sl τ32 - sl τ29) S X (k2_X3_push l dC dI ad kc sa va hq32 H.size) cw_X3_push mG_1814 rfl rfl rfl rfl rfl hl.1 (Nat.le_of_ble_eq_true rfl) dX3_showField_32 ⟨by omega, by omega⟩ ⟨by omega, by omega⟩ (fun sa va H locs X => ?_)
    refine W.widen (k := ka τ32 - k0) (n := sl τ32 - s0) (by omega) (by omega) ?_
    exact w_X3_showField_b35 S hr hk hR hRc (show k0 ≤ ka τ32 ∧ s0 ≤ sl τ32 from (by omega : k0 ≤ ka τ32 ∧ s0 ≤ sl τ32)) X (lv_sub hl [0, 1, 2] rfl) hg
end MX3_showField
set_option maxRecDepth 100000 in
theorem k2_X3_showField (l : Launch) (dC : Nat → ClassId) (dI : Nat → Nat → Nat) {Z : ZZ} (ad : Nat → Nat) (kc : Nat → ClassId) (sa va : Nat) {σ τ : S5} {a1 : Int32} {a2 : Int32} {r : Unit} (hg : f_X3_showField a1 a2 σ = some (r, τ)) (sz : Nat) : Met l yX3_showField (Cond.code yX3_showField cX3_showField 3 none :: uG) { frames := 5, cells := ka τ - ka σ, slots := sl τ - sl σ, locals := 157 } (gPc (dC, dI) (tK kc) (wK ad kc sa va) Z [.ref (ad 0), .int a1, .int a2] σ sz) (gQy (dC, dI) (tK kc) (wK ad kc) (va_A (wK ad kc sa va σ) sz) τ) (ka τ - ka σ) (sl τ - sl σ) (va_A (wK ad kc sa va σ) sz) :=
  gy_start (by decide) (Nat.le_of_ble_eq_true rfl) (fun p e s m below meth c ls S hr hk X hl => W.widen (Nat.zero_le _) (Nat.zero_le _) (w_X3_showField (k0 := ka σ) (s0 := sl σ) S hr hk ⟨Nat.le_refl _, Nat.le_refl _⟩ ⟨Nat.le_refl _, Nat.le_refl _⟩ ⟨Nat.le_refl _, Nat.le_refl _⟩ X hl hg))
section MX3_resume
variable {r : Unit} {τ : S5}
set_option maxHeartbeats 4000000 in
theorem m_X3_resume_b304 {σ : S5}   (hg : f_X3_resume_b304  σ = some (r, τ)) : ka σ ≤ ka τ ∧ sl σ ≤ sl τ := by
  have hm : ka σ ≤ ka σ ∧ sl σ ≤ sl σ := ⟨Nat.le_refl _, Nat.le_refl _⟩
  unfold f_X3_resume_b304 at hg
  obtain ⟨-, rfl⟩ := fin_some hg
  exact hm
set_option maxHeartbeats 4000000 in
theorem m_X3_resume_b294 {σ : S5}   (hg : f_X3_resume_b294  σ = some (r, τ)) : ka σ ≤ ka τ ∧ sl σ ≤ sl τ := by
  have hm : ka σ ≤ ka σ ∧ sl σ ≤ sl σ := ⟨Nat.le_refl _, Nat.le_refl _⟩
  unfold f_X3_resume_b294 at hg
  exact ⟨Nat.le_trans hm.1 (m_X3_resume_b304 hg).1, Nat.le_trans hm.2 (m_X3_resume_b304 hg).2⟩
set_option maxHeartbeats 4000000 in
theorem m_X3_resume_b262 {σ : S5}   (hg : f_X3_resume_b262  σ = some (r, τ)) : ka σ ≤ ka τ ∧ sl σ ≤ sl τ := by
  have hm : ka σ ≤ ka σ ∧ sl σ ≤ sl σ := ⟨Nat.le_refl _, Nat.le_refl _⟩
  unfold f_X3_resume_b262 at hg
  exact ⟨Nat.le_trans hm.1 (m_X3_resume_b304 hg).1, Nat.le_trans hm.2 (m_X3_resume_b304 hg).2⟩
set_option maxHeartbeats 4000000 in
theorem m_X3_resume_b254 {σ : S5}   (hg : f_X3_resume_b254  σ = some (r, τ)) : ka σ ≤ ka τ ∧ sl σ ≤ sl τ := by
  have hm : ka σ ≤ ka σ ∧ sl σ ≤ sl σ := ⟨Nat.le_refl _, Nat.le_refl _⟩
  unfold f_X3_resume_b254 at hg
  exact ⟨Nat.le_trans hm.1 (m_X3_resume_b304 hg).1, Nat.le_trans hm.2 (m_X3_resume_b304 hg).2⟩
set_option maxHeartbeats 4000000 in
theorem m_X3_resume_b245 {σ : S5} {v3 : Int32} {v4 : Int32}  (hg : f_X3_resume_b245 v3 v4 σ = some (r, τ)) : ka σ ≤ ka τ ∧ sl σ ≤ sl τ := by
  have hm : ka σ ≤ ka σ ∧ sl σ ≤ sl σ := ⟨Nat.le_refl _, Nat.le_refl _⟩
  unfold f_X3_resume_b245 at hg
  obtain ⟨r251, τ251, hq251, hg⟩ := bd_some hg
  obtain ⟨ha251, hg⟩ := gle_some hg
  obtain ⟨hz251, hg⟩ := gle_some hg
  have hk251 : ka σ ≤ ka τ251 ∧ sl σ ≤ sl τ251 := ka_mono ha251 hz251
  have hm : ka σ ≤ ka τ251 ∧ sl σ ≤ sl τ251 := by omega
  exact ⟨Nat.le_trans hm.1 (m_X3_resume_b254 hg).1, Nat.le_trans hm.2 (m_X3_resume_b254 hg).2⟩
set_option maxHeartbeats 4000000 in
theorem m_X3_resume_b110 {σ : S5} {v3 : Int32}  (hg : f_X3_resume_b110 v3 σ = some (r, τ)) : ka σ ≤ ka τ ∧ sl σ ≤ sl τ := by
  have hm : ka σ ≤ ka σ ∧ sl σ ≤ sl σ := ⟨Nat.le_refl _, Nat.le_refl _⟩
  unfold f_X3_resume_b110 at hg
  obtain ⟨hi126, hg⟩ := gd_some hg
  obtain ⟨hi127, hg⟩ := gd_some hg
  obtain ⟨r128, τ128, hq128, hg⟩ := bd_some hg
  obtain ⟨ha128, hg⟩ := gq_some hg
  obtain ⟨hz128, hg⟩ := gq_some hg
  have hk128 : ka τ128 = ka σ ∧ sl τ128 = sl σ := ka_same ha128 hz128
  have hm : ka σ ≤ ka τ128 ∧ sl σ ≤ sl τ128 := by omega
  exact ⟨Nat.le_trans hm.1 (m_X3_resume_b304 hg).1, Nat.le_trans hm.2 (m_X3_resume_b304 hg).2⟩
set_option maxHeartbeats 4000000 in
theorem m_X3_resume_b100 {σ : S5} {v3 : Int32}  (hg : f_X3_resume_b100 v3 σ = some (r, τ)) : ka σ ≤ ka τ ∧ sl σ ≤ sl τ := by
  have hm : ka σ ≤ ka σ ∧ sl σ ≤ sl σ := ⟨Nat.le_refl _, Nat.le_refl _⟩
  unfold f_X3_resume_b100 at hg
  obtain ⟨r104, τ104, hq104, hg⟩ := bd_some hg
  obtain ⟨ha104, hg⟩ := gq_some hg
  obtain ⟨hz104, hg⟩ := gq_some hg
  have hk104 : ka τ104 = ka σ ∧ sl τ104 = sl σ := ka_same ha104 hz104
  have hm : ka σ ≤ ka τ104 ∧ sl σ ≤ sl τ104 := by omega
  obtain ⟨r107, τ107, hq107, hg⟩ := bd_some hg
  obtain ⟨ha107, hg⟩ := gle_some hg
  obtain ⟨hz107, hg⟩ := gle_some hg
  have hk107 : ka τ104 ≤ ka τ107 ∧ sl τ104 ≤ sl τ107 := ka_mono ha107 hz107
  have hm : ka σ ≤ ka τ107 ∧ sl σ ≤ sl τ107 := by omega
  exact ⟨Nat.le_trans hm.1 (m_X3_resume_b110 hg).1, Nat.le_trans hm.2 (m_X3_resume_b110 hg).2⟩
set_option maxHeartbeats 4000000 in
theorem m_X3_resume {σ : S5}   (hg : f_X3_resume  σ = some (r, τ)) : ka σ ≤ ka τ ∧ sl σ ≤ sl τ := by
  have hm : ka σ ≤ ka σ ∧ sl σ ≤ sl σ := ⟨Nat.le_refl _, Nat.le_refl _⟩
  unfold f_X3_resume at hg
  refine (Decidable.em (0 < (gI σ 40))).elim (fun c4 => ?_) (fun c4 => ?_)
  · have hg := (if_pos c4).symm.trans hg
    obtain ⟨r15, τ15, hq15, hg⟩ := bd_some hg
    obtain ⟨ha15, hg⟩ := gq_some hg
    obtain ⟨hz15, hg⟩ := gq_some hg
    have hk15 : ka τ15 = ka σ ∧ sl τ15 = sl σ := ka_same ha15 hz15
    have hm : ka σ ≤ ka τ15 ∧ sl σ ≤ sl τ15 := by omega
    rcases sw_1_9 ((((j_lushr r15 56) : Int64).toInt32)) with hsw | hsw | hsw | hsw | hsw | hsw | hsw | hsw | hsw | hsw
    · obtain ⟨hs0, hs1, hs2, hs3, hs4, hs5, hs6, hs7, hs8⟩ := swo_1_9 hsw
      have hg := (if_neg hs0).symm.trans hg
      have hg := (if_neg hs1).symm.trans hg
      have hg := (if_neg hs2).symm.trans hg
      have hg := (if_neg hs3).symm.trans hg
      have hg := (if_neg hs4).symm.trans hg
      have hg := (if_neg hs5).symm.trans hg
      have hg := (if_neg hs6).symm.trans hg
      have hg := (if_neg hs7).symm.trans hg
      have hg := (if_neg hs8).symm.trans hg
      obtain ⟨r301, τ301, hq301, hg⟩ := bd_some hg
      obtain ⟨ha301, hg⟩ := gle_some hg
      obtain ⟨hz301, hg⟩ := gle_some hg
      have hk301 : ka τ15 ≤ ka τ301 ∧ sl τ15 ≤ sl τ301 := ka_mono ha301 hz301
      have hm : ka σ ≤ ka τ301 ∧ sl σ ≤ sl τ301 := by omega
      exact ⟨Nat.le_trans hm.1 (m_X3_resume_b304 hg).1, Nat.le_trans hm.2 (m_X3_resume_b304 hg).2⟩
    · have hg := (if_pos hsw).symm.trans hg
      obtain ⟨r97, τ97, hq97, hg⟩ := bd_some hg
      obtain ⟨ha97, hg⟩ := gle_some hg
      obtain ⟨hz97, hg⟩ := gle_some hg
      have hk97 : ka τ15 ≤ ka τ97 ∧ sl τ15 ≤ sl τ97 := ka_mono ha97 hz97
      have hm : ka σ ≤ ka τ97 ∧ sl σ ≤ sl τ97 := by omega
      exact ⟨Nat.le_trans hm.1 (m_X3_resume_b100 hg).1, Nat.le_trans hm.2 (m_X3_resume_b100 hg).2⟩
    · have hg := (if_neg (by rw [hsw]; decide)).symm.trans hg
      have hg := (if_pos hsw).symm.trans hg
      obtain ⟨hi143, hg⟩ := gd_some hg
      obtain ⟨r145, τ145, hq145, hg⟩ := bd_some hg
      obtain ⟨ha145, hg⟩ := gq_some hg
      obtain ⟨hz145, hg⟩ := gq_some hg
      have hk145 : ka τ145 = ka τ15 ∧ sl τ145 = sl τ15 := ka_same ha145 hz145
      have hm : ka σ ≤ ka τ145 ∧ sl σ ≤ sl τ145 := by omega
      obtain ⟨r152, τ152, hq152, hg⟩ := bd_some hg
      obtain ⟨ha152, hg⟩ := gq_some hg
      obtain ⟨hz152, hg⟩ := gq_some hg
      have hk152 : ka τ152 = ka τ145 ∧ sl τ152 = sl τ145 := ka_same ha152 hz152
      have hm : ka σ ≤ ka τ152 ∧ sl σ ≤ sl τ152 := by omega
      exact ⟨Nat.le_trans hm.1 (m_X3_resume_b304 hg).1, Nat.le_trans hm.2 (m_X3_resume_b304 hg).2⟩
    · have hg := (if_neg (by rw [hsw]; decide)).symm.trans hg
      have hg := (if_neg (by rw [hsw]; decide)).symm.trans hg
      have hg := (if_pos hsw).symm.trans hg
      obtain ⟨hi174, hg⟩ := gd_some hg
      obtain ⟨hi175, hg⟩ := gd_some hg
      obtain ⟨r176, τ176, hq176, hg⟩ := bd_some hg
      obtain ⟨ha176, hg⟩ := gq_some hg
      obtain ⟨hz176, hg⟩ := gq_some hg
      have hk176 : ka τ176 = ka τ15 ∧ sl τ176 = sl τ15 := ka_same ha176 hz176
      have hm : ka σ ≤ ka τ176 ∧ sl σ ≤ sl τ176 := by omega
      exact ⟨Nat.le_trans hm.1 (m_X3_resume_b304 hg).1, Nat.le_trans hm.2 (m_X3_resume_b304 hg).2⟩
    · have hg := (if_neg (by rw [hsw]; decide)).symm.trans hg
      have hg := (if_neg (by rw [hsw]; decide)).symm.trans hg
      have hg := (if_neg (by rw [hsw]; decide)).symm.trans hg
      have hg := (if_pos hsw).symm.trans hg
      obtain ⟨hi212, hg⟩ := gd_some hg
      obtain ⟨hi213, hg⟩ := gd_some hg
      obtain ⟨hi214, hg⟩ := gd_some hg
      obtain ⟨hi220, hg⟩ := gd_some hg
      obtain ⟨hi230, hg⟩ := gd_some hg
      obtain ⟨r231, τ231, hq231, hg⟩ := bd_some hg
      obtain ⟨ha231, hg⟩ := gq_some hg
      obtain ⟨hz231, hg⟩ := gq_some hg
      have hk231 : ka τ231 = ka τ15 ∧ sl τ231 = sl τ15 := ka_same ha231 hz231
      have hm : ka σ ≤ ka τ231 ∧ sl σ ≤ sl τ231 := by omega
      exact ⟨Nat.le_trans hm.1 (m_X3_resume_b304 hg).1, Nat.le_trans hm.2 (m_X3_resume_b304 hg).2⟩
    · have hg := (if_neg (by rw [hsw]; decide)).symm.trans hg
      have hg := (if_neg (by rw [hsw]; decide)).symm.trans hg
      have hg := (if_neg (by rw [hsw]; decide)).symm.trans hg
      have hg := (if_neg (by rw [hsw]; decide)).symm.trans hg
      have hg := (if_pos hsw).symm.trans hg
      obtain ⟨r242, τ242, hq242, hg⟩ := bd_some hg
      obtain ⟨ha242, hg⟩ := gle_some hg
      obtain ⟨hz242, hg⟩ := gle_some hg
      have hk242 : ka τ15 ≤ ka τ242 ∧ sl τ15 ≤ sl τ242 := ka_mono ha242 hz242
      have hm : ka σ ≤ ka τ242 ∧ sl σ ≤ sl τ242 := by omega
      exact ⟨Nat.le_trans hm.1 (m_X3_resume_b245 hg).1, Nat.le_trans hm.2 (m_X3_resume_b245 hg).2⟩
    · have hg := (if_neg (by rw [hsw]; decide)).symm.trans hg
      have hg := (if_neg (by rw [hsw]; decide)).symm.trans hg
      have hg := (if_neg (by rw [hsw]; decide)).symm.trans hg
      have hg := (if_neg (by rw [hsw]; decide)).symm.trans hg
      have hg := (if_neg (by rw [hsw]; decide)).symm.trans hg
      have hg := (if_pos hsw).symm.trans hg
      obtain ⟨r259, τ259, hq259, hg⟩ := bd_some hg
      obtain ⟨ha259, hg⟩ := gle_some hg
      obtain ⟨hz259, hg⟩ := gle_some hg
      have hk259 : ka τ15 ≤ ka τ259 ∧ sl τ15 ≤ sl τ259 := ka_mono ha259 hz259
      have hm : ka σ ≤ ka τ259 ∧ sl σ ≤ sl τ259 := by omega
      exact ⟨Nat.le_trans hm.1 (m_X3_resume_b262 hg).1, Nat.le_trans hm.2 (m_X3_resume_b262 hg).2⟩
    · have hg := (if_neg (by rw [hsw]; decide)).symm.trans hg
      have hg := (if_neg (by rw [hsw]; decide)).symm.trans hg
      have hg := (if_neg (by rw [hsw]; decide)).symm.trans hg
      have hg := (if_neg (by rw [hsw]; decide)).symm.trans hg
      have hg := (if_neg (by rw [hsw]; decide)).symm.trans hg
      have hg := (if_neg (by rw [hsw]; decide)).symm.trans hg
      have hg := (if_pos hsw).symm.trans hg
      obtain ⟨r274, τ274, hq274, hg⟩ := bd_some hg
      obtain ⟨ha274, hg⟩ := gq_some hg
      obtain ⟨hz274, hg⟩ := gq_some hg
      have hk274 : ka τ274 = ka τ15 ∧ sl τ274 = sl τ15 := ka_same ha274 hz274
      have hm : ka σ ≤ ka τ274 ∧ sl σ ≤ sl τ274 := by omega
      exact ⟨Nat.le_trans hm.1 (m_X3_resume_b304 hg).1, Nat.le_trans hm.2 (m_X3_resume_b304 hg).2⟩
    · have hg := (if_neg (by rw [hsw]; decide)).symm.trans hg
      have hg := (if_neg (by rw [hsw]; decide)).symm.trans hg
      have hg := (if_neg (by rw [hsw]; decide)).symm.trans hg
      have hg := (if_neg (by rw [hsw]; decide)).symm.trans hg
      have hg := (if_neg (by rw [hsw]; decide)).symm.trans hg
      have hg := (if_neg (by rw [hsw]; decide)).symm.trans hg
      have hg := (if_neg (by rw [hsw]; decide)).symm.trans hg
      have hg := (if_pos hsw).symm.trans hg
      obtain ⟨r284, τ284, hq284, hg⟩ := bd_some hg
      obtain ⟨ha284, hg⟩ := gq_some hg
      obtain ⟨hz284, hg⟩ := gq_some hg
      have hk284 : ka τ284 = ka τ15 ∧ sl τ284 = sl τ15 := ka_same ha284 hz284
      have hm : ka σ ≤ ka τ284 ∧ sl σ ≤ sl τ284 := by omega
      exact ⟨Nat.le_trans hm.1 (m_X3_resume_b304 hg).1, Nat.le_trans hm.2 (m_X3_resume_b304 hg).2⟩
    · have hg := (if_neg (by rw [hsw]; decide)).symm.trans hg
      have hg := (if_neg (by rw [hsw]; decide)).symm.trans hg
      have hg := (if_neg (by rw [hsw]; decide)).symm.trans hg
      have hg := (if_neg (by rw [hsw]; decide)).symm.trans hg
      have hg := (if_neg (by rw [hsw]; decide)).symm.trans hg
      have hg := (if_neg (by rw [hsw]; decide)).symm.trans hg
      have hg := (if_neg (by rw [hsw]; decide)).symm.trans hg
      have hg := (if_neg (by rw [hsw]; decide)).symm.trans hg
      have hg := (if_pos hsw).symm.trans hg
      obtain ⟨r291, τ291, hq291, hg⟩ := bd_some hg
      obtain ⟨ha291, hg⟩ := gle_some hg
      obtain ⟨hz291, hg⟩ := gle_some hg
      have hk291 : ka τ15 ≤ ka τ291 ∧ sl τ15 ≤ sl τ291 := ka_mono ha291 hz291
      have hm : ka σ ≤ ka τ291 ∧ sl σ ≤ sl τ291 := by omega
      exact ⟨Nat.le_trans hm.1 (m_X3_resume_b294 hg).1, Nat.le_trans hm.2 (m_X3_resume_b294 hg).2⟩
  · have hg := (if_neg c4).symm.trans hg
    obtain ⟨r10, τ10, hq10, hg⟩ := bd_some hg
    obtain ⟨ha10, hg⟩ := gq_some hg
    obtain ⟨hz10, hg⟩ := gq_some hg
    have hk10 : ka τ10 = ka σ ∧ sl τ10 = sl σ := ka_same ha10 hz10
    have hm : ka σ ≤ ka τ10 ∧ sl σ ≤ sl τ10 := by omega
    obtain ⟨-, rfl⟩ := fin_some hg
    exact hm
variable {p : Program} {l : Launch} {e : Env} {R : Room} {s : State} {m : MethodId} {args : Array Value} {below : List Frame} {meth : Method} {c : Code} {dC : Nat → ClassId} {dI : Nat → Nat → Nat} {Z : ZZ} {A : Nat → Prop} {ad : Nat → Nat} {kc : Nat → ClassId} {k0 s0 : Nat}
set_option maxHeartbeats 4000000 in
set_option maxRecDepth 100000 in
theorem w_X3_resume_b304 {sa va : Nat} {σ : S5}  {H : Heap} {locs : List Loc} {ls : Array Slot} (S : CallFix p m c cX3_resume 5 s args uG RX3) (hr : meth.sig.returnType = none) (hk : meth.locks = false) (hR : 194 ≤ R.frames ∧ 4721 ≤ R.locals) (hRc : ka τ - k0 ≤ R.cells ∧ sl τ - s0 ≤ R.slots)
    (hc : k0 ≤ ka σ ∧ s0 ≤ sl σ) (X : gX (dC, dI) (tK kc) (wK ad kc sa va) Z A s σ H locs) (hl : lv_has ls 5 []) (hg : f_X3_resume_b304  σ = some (r, τ)) : W p l e R s m args below meth c H locs (ka σ - k0) (sl σ - s0) (MQ below (gQy (dC, dI) (tK kc) (wK ad kc) A τ) args s (ka τ - k0) (sl τ - s0) A) (F0 m 304 ls []) := by
  have hx := S.1
  have hb := S.2.1
  have hown := S.2.2.2.1
  have hu := S.2.2.2.2
  have hn := m_X3_resume_b304 hg
  have hm : ka σ = ka σ ∧ sl σ = sl σ := ⟨rfl, rfl⟩
  unfold f_X3_resume_b304 at hg
  obtain ⟨-, rfl⟩ := fin_some hg
  refine W.widen (k := ka σ - k0) (n := sl σ - s0) (show ka σ - k0 ≤ ka σ - k0 by omega) (show sl σ - s0 ≤ sl σ - s0 by omega) ?_
  exact gr_y S hr hk X dX3_resume_304
set_option maxHeartbeats 4000000 in
set_option maxRecDepth 100000 in
theorem w_X3_resume_b294 {sa va : Nat} {σ : S5}  {H : Heap} {locs : List Loc} {ls : Array Slot} (S : CallFix p m c cX3_resume 5 s args uG RX3) (hr : meth.sig.returnType = none) (hk : meth.locks = false) (hR : 194 ≤ R.frames ∧ 4721 ≤ R.locals) (hRc : ka τ - k0 ≤ R.cells ∧ sl τ - s0 ≤ R.slots)
    (hc : k0 ≤ ka σ ∧ s0 ≤ sl σ) (X : gX (dC, dI) (tK kc) (wK ad kc sa va) Z A s σ H locs) (hl : lv_has ls 5 []) (hg : f_X3_resume_b294  σ = some (r, τ)) : W p l e R s m args below meth c H locs (ka σ - k0) (sl σ - s0) (MQ below (gQy (dC, dI) (tK kc) (wK ad kc) A τ) args s (ka τ - k0) (sl τ - s0) A) (F0 m 294 ls []) := by
  have hx := S.1
  have hb := S.2.1
  have hown := S.2.2.2.1
  have hu := S.2.2.2.2
  have hn := m_X3_resume_b294 hg
  have hm : ka σ = ka σ ∧ sl σ = sl σ := ⟨rfl, rfl⟩
  unfold f_X3_resume_b294 at hg
  refine lv_goto (tgt := 304) hx hb dX3_resume_294 (by decide) ?_
  refine W.widen (k := ka σ - k0) (n := sl σ - s0) (show ka σ - k0 ≤ ka σ - k0 by omega) (show sl σ - s0 ≤ sl σ - s0 by omega) ?_
  exact w_X3_resume_b304 S hr hk hR hRc (show k0 ≤ ka σ ∧ s0 ≤ sl σ from (by omega : k0 ≤ ka σ ∧ s0 ≤ sl σ)) X (lv_sub hl [] rfl) hg
set_option maxHeartbeats 4000000 in
set_option maxRecDepth 100000 in
theorem w_X3_resume_b262 {sa va : Nat} {σ : S5}  {H : Heap} {locs : List Loc} {ls : Array Slot} (S : CallFix p m c cX3_resume 5 s args uG RX3) (hr : meth.sig.returnType = none) (hk : meth.locks = false) (hR : 194 ≤ R.frames ∧ 4721 ≤ R.locals) (hRc : ka τ - k0 ≤ R.cells ∧ sl τ - s0 ≤ R.slots)
    (hc : k0 ≤ ka σ ∧ s0 ≤ sl σ) (X : gX (dC, dI) (tK kc) (wK ad kc sa va) Z A s σ H locs) (hl : lv_has ls 5 []) (hg : f_X3_resume_b262  σ = some (r, τ)) : W p l e R s m args below meth c H locs (ka σ - k0) (sl σ - s0) (MQ below (gQy (dC, dI) (tK kc) (wK ad kc) A τ) args s (ka τ - k0) (sl τ - s0) A) (F0 m 262 ls []) := by
  have hx := S.1
  have hb := S.2.1
  have hown := S.2.2.2.1
  have hu := S.2.2.2.2
  have hn := m_X3_resume_b262 hg
  have hm : ka σ = ka σ ∧ sl σ = sl σ := ⟨rfl, rfl⟩
  unfold f_X3_resume_b262 at hg
  refine lv_goto (tgt := 304) hx hb dX3_resume_262 (by decide) ?_
  refine W.widen (k := ka σ - k0) (n := sl σ - s0) (show ka σ - k0 ≤ ka σ - k0 by omega) (show sl σ - s0 ≤ sl σ - s0 by omega) ?_
  exact w_X3_resume_b304 S hr hk hR hRc (show k0 ≤ ka σ ∧ s0 ≤ sl σ from (by omega : k0 ≤ ka σ ∧ s0 ≤ sl σ)) X (lv_sub hl [] rfl) hg
set_option maxHeartbeats 4000000 in
set_option maxRecDepth 100000 in
theorem w_X3_resume_b254 {sa va : Nat} {σ : S5}  {H : Heap} {locs : List Loc} {ls : Array Slot} (S : CallFix p m c cX3_resume 5 s args uG RX3) (hr : meth.sig.returnType = none) (hk : meth.locks = false) (hR : 194 ≤ R.frames ∧ 4721 ≤ R.locals) (hRc : ka τ - k0 ≤ R.cells ∧ sl τ - s0 ≤ R.slots)
    (hc : k0 ≤ ka σ ∧ s0 ≤ sl σ) (X : gX (dC, dI) (tK kc) (wK ad kc sa va) Z A s σ H locs) (hl : lv_has ls 5 []) (hg : f_X3_resume_b254  σ = some (r, τ)) : W p l e R s m args below meth c H locs (ka σ - k0) (sl σ - s0) (MQ below (gQy (dC, dI) (tK kc) (wK ad kc) A τ) args s (ka τ - k0) (sl τ - s0) A) (F0 m 254 ls []) := by
  have hx := S.1
  have hb := S.2.1
  have hown := S.2.2.2.1
  have hu := S.2.2.2.2
  have hn := m_X3_resume_b254 hg
  have hm : ka σ = ka σ ∧ sl σ = sl σ := ⟨rfl, rfl⟩
  unfold f_X3_resume_b254 at hg
  refine lv_goto (tgt := 304) hx hb dX3_resume_254 (by decide) ?_
  refine W.widen (k := ka σ - k0) (n := sl σ - s0) (show ka σ - k0 ≤ ka σ - k0 by omega) (show sl σ - s0 ≤ sl σ - s0 by omega) ?_
  exact w_X3_resume_b304 S hr hk hR hRc (show k0 ≤ ka σ ∧ s0 ≤ sl σ from (by omega : k0 ≤ ka σ ∧ s0 ≤ sl σ)) X (lv_sub hl [] rfl) hg
set_option maxHeartbeats 4000000 in
set_option maxRecDepth 100000 in
theorem w_X3_resume_b245 {sa va : Nat} {σ : S5} {v3 : Int32} {v4 : Int32} {H : Heap} {locs : List Loc} {ls : Array Slot} (S : CallFix p m c cX3_resume 5 s args uG RX3) (hr : meth.sig.returnType = none) (hk : meth.locks = false) (hR : 194 ≤ R.frames ∧ 4721 ≤ R.locals) (hRc : ka τ - k0 ≤ R.cells ∧ sl τ - s0 ≤ R.slots)
    (hc : k0 ≤ ka σ ∧ s0 ≤ sl σ) (X : gX (dC, dI) (tK kc) (wK ad kc sa va) Z A s σ H locs) (hl : lv_has ls 5 [(0, .ref (ad 0)), (3, .int v3), (4, .int v4)]) (hg : f_X3_resume_b245 v3 v4 σ = some (r, τ)) : W p l e R s m args below meth c H locs (ka σ - k0) (sl σ - s0) (MQ below (gQy (dC, dI) (tK kc) (wK ad kc) A τ) args s (ka τ - k0) (sl τ - s0) A) (F0 m 245 ls []) := by
  have hx := S.1
  have hb := S.2.1
  have hown := S.2.2.2.1
  have hu := S.2.2.2.2
  have hn := m_X3_resume_b245 hg
  have hm : ka σ = ka σ ∧ sl σ = sl σ := ⟨rfl, rfl⟩
  unfold f_X3_resume_b245 at hg
  refine lv_aload_n hx hb dX3_resume_245 rfl (lv_at hl 0 rfl) ?_
  refine lv_iload_n hx hb dX3_resume_246 rfl (lv_at hl 1 rfl) ?_
  refine lv_iload hx hb dX3_resume_247 (lv_at hl 2 rfl) ?_
  refine lv_iconst (v := 1) hx hb dX3_resume_249 (by decide) ?_
  refine lv_iadd hx hb dX3_resume_250 ?_
  obtain ⟨r251, τ251, hq251, hg⟩ := bd_some hg
  obtain ⟨ha251, hg⟩ := gle_some hg
  obtain ⟨hz251, hg⟩ := gle_some hg
  have hk251 : ka σ ≤ ka τ251 ∧ sl σ ≤ sl τ251 := ka_mono ha251 hz251
  have hn2 : ka τ251 ≤ ka τ ∧ sl τ251 ≤ sl τ := m_X3_resume_b254 hg
  refine gcy_V (w := wK ad kc) (As := [.int v3, .int (v4 + 1)]) (rest := []) (q0 := 0) (ci := 6) (mc := ka τ251 - ka σ) (ms := sl τ251 - sl σ) S X (k2_X3_workArguments l dC dI ad kc sa va hq251 H.size) cw_X3_workArguments mG_1942 rfl rfl rfl rfl rfl hl.1 (Nat.le_of_ble_eq_true rfl) dX3_resume_251 ⟨by omega, by omega⟩ ⟨by omega, by omega⟩ (fun sa va H locs X => ?_)
  refine W.widen (k := ka τ251 - k0) (n := sl τ251 - s0) (by omega) (by omega) ?_
  exact w_X3_resume_b254 S hr hk hR hRc (show k0 ≤ ka τ251 ∧ s0 ≤ sl τ251 from (by omega : k0 ≤ ka τ251 ∧ s0 ≤ sl τ251)) X (lv_sub hl [] rfl) hg
set_option maxHeartbeats 4000000 in
set_option maxRecDepth 100000 in
theorem w_X3_resume_b110 {sa va : Nat} {σ : S5} {v3 : Int32} {H : Heap} {locs : List Loc} {ls : Array Slot} (S : CallFix p m c cX3_resume 5 s args uG RX3) (hr : meth.sig.returnType = none) (hk : meth.locks = false) (hR : 194 ≤ R.frames ∧ 4721 ≤ R.locals) (hRc : ka τ - k0 ≤ R.cells ∧ sl τ - s0 ≤ R.slots)
    (hc : k0 ≤ ka σ ∧ s0 ≤ sl σ) (X : gX (dC, dI) (tK kc) (wK ad kc sa va) Z A s σ H locs) (hl : lv_has ls 5 [(0, .ref (ad 0)), (3, .int v3)]) (hg : f_X3_resume_b110 v3 σ = some (r, τ)) : W p l e R s m args below meth c H locs (ka σ - k0) (sl σ - s0) (MQ below (gQy (dC, dI) (tK kc) (wK ad kc) A τ) args s (ka τ - k0) (sl τ - s0) A) (F0 m 110 ls []) := by
  have hx := S.1
  have hb := S.2.1
  have hown := S.2.2.2.1
  have hu := S.2.2.2.2
  have hn := m_X3_resume_b110 hg
  have hm : ka σ = ka σ ∧ sl σ = sl σ := ⟨rfl, rfl⟩
  unfold f_X3_resume_b110 at hg
  refine lv_aload_n hx hb dX3_resume_110 rfl (lv_at hl 0 rfl) ?_
  refine lv_aload_n hx hb dX3_resume_111 rfl (lv_at hl 0 rfl) ?_
  refine wkgR_0_0 S X mG_660 dX3_resume_112 ?_
  refine wkgR_3_4 S X mG_405 dX3_resume_115 ?_
  refine lv_aload_n hx hb dX3_resume_118 rfl (lv_at hl 0 rfl) ?_
  refine wkgR_0_0 S X mG_660 dX3_resume_119 ?_
  refine wkgR_3_3 S X mG_398 dX3_resume_122 ?_
  refine lv_iload_n hx hb dX3_resume_125 rfl (lv_at hl 1 rfl) ?_
  obtain ⟨hi126, hg⟩ := gd_some hg
  refine wklA_16 (v := (xA σ 16 v3)) S X hi126 rfl dX3_resume_126 ?_
  obtain ⟨hi127, hg⟩ := gd_some hg
  refine wklA_17 (v := (xA σ 17 (xA σ 16 v3))) S X hi127 rfl dX3_resume_127 ?_
  obtain ⟨r128, τ128, hq128, hg⟩ := bd_some hg
  obtain ⟨ha128, hg⟩ := gq_some hg
  obtain ⟨hz128, hg⟩ := gq_some hg
  have hk128 : ka τ128 = ka σ ∧ sl τ128 = sl σ := ka_same ha128 hz128
  refine gck_Vv (As := [.int (xA σ 17 (xA σ 16 v3))]) (rest := []) (q0 := 0) (ci := 6) S X (k2_X3_workOn l dC dI ad kc sa va hq128 H.size) cw_X3_workOn mG_1879 rfl rfl rfl rfl rfl hl.1 (Nat.le_of_ble_eq_true rfl) dX3_resume_128 ⟨by omega, by omega⟩ ⟨by omega, by omega⟩ (fun H locs X => ?_)
  have hm : ka τ128 = ka σ ∧ sl τ128 = sl σ := by omega
  refine lv_goto (tgt := 304) hx hb dX3_resume_131 (by decide) ?_
  refine W.widen (k := ka τ128 - k0) (n := sl τ128 - s0) (show ka σ - k0 ≤ ka τ128 - k0 by omega) (show sl σ - s0 ≤ sl τ128 - s0 by omega) ?_
  exact w_X3_resume_b304 S hr hk hR hRc (show k0 ≤ ka τ128 ∧ s0 ≤ sl τ128 from (by omega : k0 ≤ ka τ128 ∧ s0 ≤ sl τ128)) X (lv_sub hl [] rfl) hg
set_option maxHeartbeats 4000000 in
set_option maxRecDepth 100000 in
theorem w_X3_resume_b100 {sa va : Nat} {σ : S5} {v3 : Int32} {H : Heap} {locs : List Loc} {ls : Array Slot} (S : CallFix p m c cX3_resume 5 s args uG RX3) (hr : meth.sig.returnType = none) (hk : meth.locks = false) (hR : 194 ≤ R.frames ∧ 4721 ≤ R.locals) (hRc : ka τ - k0 ≤ R.cells ∧ sl τ - s0 ≤ R.slots)
    (hc : k0 ≤ ka σ ∧ s0 ≤ sl σ) (X : gX (dC, dI) (tK kc) (wK ad kc sa va) Z A s σ H locs) (hl : lv_has ls 5 [(0, .ref (ad 0)), (3, .int v3)]) (hg : f_X3_resume_b100 v3 σ = some (r, τ)) : W p l e R s m args below meth c H locs (ka σ - k0) (sl σ - s0) (MQ below (gQy (dC, dI) (tK kc) (wK ad kc) A τ) args s (ka τ - k0) (sl τ - s0) A) (F0 m 100 ls []) := by
  have hx := S.1
  have hb := S.2.1
  have hown := S.2.2.2.1
  have hu := S.2.2.2.2
  have hn := m_X3_resume_b100 hg
  have hm : ka σ = ka σ ∧ sl σ = sl σ := ⟨rfl, rfl⟩
  unfold f_X3_resume_b100 at hg
  refine lv_aload_n hx hb dX3_resume_100 rfl (lv_at hl 0 rfl) ?_
  refine lv_iconst (v := 2) hx hb dX3_resume_101 (by decide) ?_
  refine lv_iload_n hx hb dX3_resume_102 rfl (lv_at hl 1 rfl) ?_
  refine lv_iconst (v := 0) hx hb dX3_resume_103 (by decide) ?_
  obtain ⟨r104, τ104, hq104, hg⟩ := bd_some hg
  obtain ⟨ha104, hg⟩ := gq_some hg
  obtain ⟨hz104, hg⟩ := gq_some hg
  have hk104 : ka τ104 = ka σ ∧ sl τ104 = sl σ := ka_same ha104 hz104
  refine gck_Sl (As := [.int 2, .int v3, .int 0]) (rest := [.ref (ad 0)]) S X (k2_X3_frame l dC dI ad kc sa va hq104 H.size) cw_X3_frame mG_1811 rfl rfl hl.1 (Nat.le_of_ble_eq_true rfl) dX3_resume_104 ⟨by omega, by omega⟩ ⟨by omega, by omega⟩ (fun H locs X => ?_)
  have hm : ka τ104 = ka σ ∧ sl τ104 = sl σ := by omega
  obtain ⟨r107, τ107, hq107, hg⟩ := bd_some hg
  obtain ⟨ha107, hg⟩ := gle_some hg
  obtain ⟨hz107, hg⟩ := gle_some hg
  have hk107 : ka τ104 ≤ ka τ107 ∧ sl τ104 ≤ sl τ107 := ka_mono ha107 hz107
  have hn2 : ka τ107 ≤ ka τ ∧ sl τ107 ≤ sl τ := m_X3_resume_b110 hg
  refine gcy_V (w := wK ad kc) (As := [.long r104]) (rest := []) (q0 := 0) (ci := 6) (mc := ka τ107 - ka τ104) (ms := sl τ107 - sl τ104) S X (k2_X3_push l dC dI ad kc sa va hq107 H.size) cw_X3_push mG_1814 rfl rfl rfl rfl rfl hl.1 (Nat.le_of_ble_eq_true rfl) dX3_resume_107 ⟨by omega, by omega⟩ ⟨by omega, by omega⟩ (fun sa va H locs X => ?_)
  refine W.widen (k := ka τ107 - k0) (n := sl τ107 - s0) (by omega) (by omega) ?_
  exact w_X3_resume_b110 S hr hk hR hRc (show k0 ≤ ka τ107 ∧ s0 ≤ sl τ107 from (by omega : k0 ≤ ka τ107 ∧ s0 ≤ sl τ107)) X (lv_sub hl [0, 1] rfl) hg
set_option maxHeartbeats 4000000 in
set_option maxRecDepth 100000 in
theorem w_X3_resume {sa va : Nat} {σ : S5}  {H : Heap} {locs : List Loc} {ls : Array Slot} (S : CallFix p m c cX3_resume 5 s args uG RX3) (hr : meth.sig.returnType = none) (hk : meth.locks = false) (hR : 194 ≤ R.frames ∧ 4721 ≤ R.locals) (hRc : ka τ - k0 ≤ R.cells ∧ sl τ - s0 ≤ R.slots)
    (hc : k0 ≤ ka σ ∧ s0 ≤ sl σ) (X : gX (dC, dI) (tK kc) (wK ad kc sa va) Z A s σ H locs) (hl : lv_has ls 5 [(0, .ref (ad 0))]) (hg : f_X3_resume  σ = some (r, τ)) : W p l e R s m args below meth c H locs (ka σ - k0) (sl σ - s0) (MQ below (gQy (dC, dI) (tK kc) (wK ad kc) A τ) args s (ka τ - k0) (sl τ - s0) A) (F0 m 0 ls []) := by
  have hx := S.1
  have hb := S.2.1
  have hown := S.2.2.2.1
  have hu := S.2.2.2.2
  have hn := m_X3_resume hg
  have hm : ka σ = ka σ ∧ sl σ = sl σ := ⟨rfl, rfl⟩
  unfold f_X3_resume at hg
  refine lv_aload_n hx hb dX3_resume_0 rfl (lv_at hl 0 rfl) ?_
  refine wkgI_40 (v := (gI σ 40)) S X mG_671 rfl dX3_resume_1 ?_
  refine lv_if_gt (tgt := 14) hx hb dX3_resume_4 (by decide) (fun c4 => ?_) (fun c4 => ?_)
  · have hg := (if_pos c4).symm.trans hg
    refine lv_aload_n hx hb dX3_resume_14 rfl (lv_at hl 0 rfl) ?_
    obtain ⟨r15, τ15, hq15, hg⟩ := bd_some hg
    obtain ⟨ha15, hg⟩ := gq_some hg
    obtain ⟨hz15, hg⟩ := gq_some hg
    have hk15 : ka τ15 = ka σ ∧ sl τ15 = sl σ := ka_same ha15 hz15
    refine gck_Vl (As := []) (rest := []) (q0 := 0) (ci := 6) S X (k2_X3_pop l dC dI ad kc sa va hq15 H.size) cw_X3_pop mG_1955 rfl rfl rfl rfl rfl hl.1 (Nat.le_of_ble_eq_true rfl) dX3_resume_15 ⟨by omega, by omega⟩ ⟨by omega, by omega⟩ (fun H locs X => ?_)
    have hm : ka τ15 = ka σ ∧ sl τ15 = sl σ := by omega
    refine lv_lstore_n (lv' := [(1, .long r15), (0, .ref (ad 0))]) hx hb dX3_resume_18 rfl hl (by decide) rfl (fun ls hl => ?_)
    refine lv_lload_n hx hb dX3_resume_19 rfl (lv_at hl 0 rfl) ?_
    refine lv_bipush (v := 28) hx hb dX3_resume_20 (by decide) ?_
    refine lv_lushr (v := (j_lushr r15 28)) hx hb dX3_resume_22 rfl ?_
    refine lv_l2i (v := (((j_lushr r15 28) : Int64).toInt32)) hx hb dX3_resume_23 rfl ?_
    refine lv_ldcw (own := RX3) (v := 268435455) hx hb hown (hu _ mG_1959) dX3_resume_24 ?_
    refine lv_iand hx hb dX3_resume_27 ?_
    refine lv_istore_n (lv' := [(3, .int ((((j_lushr r15 28) : Int64).toInt32) &&& 268435455)), (1, .long r15), (0, .ref (ad 0))]) hx hb dX3_resume_28 rfl hl (by decide) rfl (fun ls hl => ?_)
    refine lv_lload_n hx hb dX3_resume_29 rfl (lv_at hl 1 rfl) ?_
    refine lv_l2i (v := ((r15 : Int64).toInt32)) hx hb dX3_resume_30 rfl ?_
    refine lv_ldcw (own := RX3) (v := 268435455) hx hb hown (hu _ mG_1959) dX3_resume_31 ?_
    refine lv_iand hx hb dX3_resume_34 ?_
    refine lv_istore (lv' := [(4, .int (((r15 : Int64).toInt32) &&& 268435455)), (3, .int ((((j_lushr r15 28) : Int64).toInt32) &&& 268435455)), (1, .long r15), (0, .ref (ad 0))]) hx hb dX3_resume_35 hl (by decide) rfl (fun ls hl => ?_)
    refine lv_lload_n hx hb dX3_resume_37 rfl (lv_at hl 2 rfl) ?_
    refine lv_bipush (v := 56) hx hb dX3_resume_38 (by decide) ?_
    refine lv_lushr (v := (j_lushr r15 56)) hx hb dX3_resume_40 rfl ?_
    refine lv_l2i (v := (((j_lushr r15 56) : Int64).toInt32)) hx hb dX3_resume_41 rfl ?_
    rcases sw_1_9 ((((j_lushr r15 56) : Int64).toInt32)) with hsw | hsw | hsw | hsw | hsw | hsw | hsw | hsw | hsw | hsw
    · refine lv_tableOut (tgt := 297) hx hb dX3_resume_42 hsw (by decide) ?_
      obtain ⟨hs0, hs1, hs2, hs3, hs4, hs5, hs6, hs7, hs8⟩ := swo_1_9 hsw
      have hg := (if_neg hs0).symm.trans hg
      have hg := (if_neg hs1).symm.trans hg
      have hg := (if_neg hs2).symm.trans hg
      have hg := (if_neg hs3).symm.trans hg
      have hg := (if_neg hs4).symm.trans hg
      have hg := (if_neg hs5).symm.trans hg
      have hg := (if_neg hs6).symm.trans hg
      have hg := (if_neg hs7).symm.trans hg
      have hg := (if_neg hs8).symm.trans hg
      refine lv_aload_n hx hb dX3_resume_297 rfl (lv_at hl 3 rfl) ?_
      refine lv_iload_n hx hb dX3_resume_298 rfl (lv_at hl 1 rfl) ?_
      refine lv_iload hx hb dX3_resume_299 (lv_at hl 0 rfl) ?_
      obtain ⟨r301, τ301, hq301, hg⟩ := bd_some hg
      obtain ⟨ha301, hg⟩ := gle_some hg
      obtain ⟨hz301, hg⟩ := gle_some hg
      have hk301 : ka τ15 ≤ ka τ301 ∧ sl τ15 ≤ sl τ301 := ka_mono ha301 hz301
      have hn2 : ka τ301 ≤ ka τ ∧ sl τ301 ≤ sl τ := m_X3_resume_b304 hg
      refine gcy_V (w := wK ad kc) (As := [.int ((((j_lushr r15 28) : Int64).toInt32) &&& 268435455), .int (((r15 : Int64).toInt32) &&& 268435455)]) (rest := []) (q0 := 0) (ci := 6) (mc := ka τ301 - ka τ15) (ms := sl τ301 - sl τ15) S X (k2_X3_showField l dC dI ad kc sa va hq301 H.size) cw_X3_showField mG_2008 rfl rfl rfl rfl rfl hl.1 (Nat.le_of_ble_eq_true rfl) dX3_resume_301 ⟨by omega, by omega⟩ ⟨by omega, by omega⟩ (fun sa va H locs X => ?_)
      refine W.widen (k := ka τ301 - k0) (n := sl τ301 - s0) (by omega) (by omega) ?_
      exact w_X3_resume_b304 S hr hk hR hRc (show k0 ≤ ka τ301 ∧ s0 ≤ sl τ301 from (by omega : k0 ≤ ka τ301 ∧ s0 ≤ sl τ301)) X (lv_sub hl [] rfl) hg
    · refine lv_tableIn (off := 50) (tgt := 92) hx hb dX3_resume_42 (by rw [hsw]; decide) (by rw [hsw]; decide) (by rw [hsw]; decide) (by decide) ?_
      have hg := (if_pos hsw).symm.trans hg
      refine lv_aload_n hx hb dX3_resume_92 rfl (lv_at hl 3 rfl) ?_
      refine lv_aload_n hx hb dX3_resume_93 rfl (lv_at hl 3 rfl) ?_
      refine wkgJ_5 (v := (gJ τ15 5)) S X mG_677 rfl dX3_resume_94 ?_
      obtain ⟨r97, τ97, hq97, hg⟩ := bd_some hg
      obtain ⟨ha97, hg⟩ := gle_some hg
      obtain ⟨hz97, hg⟩ := gle_some hg
      have hk97 : ka τ15 ≤ ka τ97 ∧ sl τ15 ≤ sl τ97 := ka_mono ha97 hz97
      have hn2 : ka τ97 ≤ ka τ ∧ sl τ97 ≤ sl τ := m_X3_resume_b100 hg
      refine gcy_V (w := wK ad kc) (As := [.long (gJ τ15 5)]) (rest := []) (q0 := 0) (ci := 6) (mc := ka τ97 - ka τ15) (ms := sl τ97 - sl τ15) S X (k2_X3_push l dC dI ad kc sa va hq97 H.size) cw_X3_push mG_1814 rfl rfl rfl rfl rfl hl.1 (Nat.le_of_ble_eq_true rfl) dX3_resume_97 ⟨by omega, by omega⟩ ⟨by omega, by omega⟩ (fun sa va H locs X => ?_)
      refine W.widen (k := ka τ97 - k0) (n := sl τ97 - s0) (by omega) (by omega) ?_
      exact w_X3_resume_b100 S hr hk hR hRc (show k0 ≤ ka τ97 ∧ s0 ≤ sl τ97 from (by omega : k0 ≤ ka τ97 ∧ s0 ≤ sl τ97)) X (lv_sub hl [3, 1] rfl) hg
    · refine lv_tableIn (off := 92) (tgt := 134) hx hb dX3_resume_42 (by rw [hsw]; decide) (by rw [hsw]; decide) (by rw [hsw]; decide) (by decide) ?_
      have hg := (if_neg (by rw [hsw]; decide)).symm.trans hg
      have hg := (if_pos hsw).symm.trans hg
      refine lv_aload_n hx hb dX3_resume_134 rfl (lv_at hl 3 rfl) ?_
      refine lv_aload_n hx hb dX3_resume_135 rfl (lv_at hl 3 rfl) ?_
      refine wkgR_0_0 S X mG_660 dX3_resume_136 ?_
      refine wkgR_3_1 S X mG_388 dX3_resume_139 ?_
      refine lv_iload_n hx hb dX3_resume_142 rfl (lv_at hl 1 rfl) ?_
      obtain ⟨hi143, hg⟩ := gd_some hg
      refine wklA_14 (v := (xA τ15 14 ((((j_lushr r15 28) : Int64).toInt32) &&& 268435455))) S X hi143 rfl dX3_resume_143 ?_
      refine lv_aload_n hx hb dX3_resume_144 rfl (lv_at hl 3 rfl) ?_
      obtain ⟨r145, τ145, hq145, hg⟩ := bd_some hg
      obtain ⟨ha145, hg⟩ := gq_some hg
      obtain ⟨hz145, hg⟩ := gq_some hg
      have hk145 : ka τ145 = ka τ15 ∧ sl τ145 = sl τ15 := ka_same ha145 hz145
      refine gck_Vl (As := []) (rest := [.int (xA τ15 14 ((((j_lushr r15 28) : Int64).toInt32) &&& 268435455)), .ref (ad 0)]) (q0 := 0) (ci := 6) S X (k2_X3_pop l dC dI ad kc sa va hq145 H.size) cw_X3_pop mG_1955 rfl rfl rfl rfl rfl hl.1 (Nat.le_of_ble_eq_true rfl) dX3_resume_145 ⟨by omega, by omega⟩ ⟨by omega, by omega⟩ (fun H locs X => ?_)
      have hm : ka τ145 = ka σ ∧ sl τ145 = sl σ := by omega
      refine lv_aload_n hx hb dX3_resume_148 rfl (lv_at hl 3 rfl) ?_
      refine wkgJ_5 (v := (gJ τ145 5)) S X mG_677 rfl dX3_resume_149 ?_
      obtain ⟨r152, τ152, hq152, hg⟩ := bd_some hg
      obtain ⟨ha152, hg⟩ := gq_some hg
      obtain ⟨hz152, hg⟩ := gq_some hg
      have hk152 : ka τ152 = ka τ145 ∧ sl τ152 = sl τ145 := ka_same ha152 hz152
      refine gck_Vv (As := [.int (xA τ15 14 ((((j_lushr r15 28) : Int64).toInt32) &&& 268435455)), .long r145, .long (gJ τ145 5)]) (rest := []) (q0 := 0) (ci := 6) S X (k2_X3_operate l dC dI ad kc sa va hq152 H.size) cw_X3_operate mG_1960 rfl rfl rfl rfl rfl hl.1 (Nat.le_of_ble_eq_true rfl) dX3_resume_152 ⟨by omega, by omega⟩ ⟨by omega, by omega⟩ (fun H locs X => ?_)
      have hm : ka τ152 = ka σ ∧ sl τ152 = sl σ := by omega
      refine lv_goto (tgt := 304) hx hb dX3_resume_155 (by decide) ?_
      refine W.widen (k := ka τ152 - k0) (n := sl τ152 - s0) (show ka σ - k0 ≤ ka τ152 - k0 by omega) (show sl σ - s0 ≤ sl τ152 - s0 by omega) ?_
      exact w_X3_resume_b304 S hr hk hR hRc (show k0 ≤ ka τ152 ∧ s0 ≤ sl τ152 from (by omega : k0 ≤ ka τ152 ∧ s0 ≤ sl τ152)) X (lv_sub hl [] rfl) hg
    · refine lv_tableIn (off := 116) (tgt := 158) hx hb dX3_resume_42 (by rw [hsw]; decide) (by rw [hsw]; decide) (by rw [hsw]; decide) (by decide) ?_
      have hg := (if_neg (by rw [hsw]; decide)).symm.trans hg
      have hg := (if_neg (by rw [hsw]; decide)).symm.trans hg
      have hg := (if_pos hsw).symm.trans hg
      refine lv_aload_n hx hb dX3_resume_158 rfl (lv_at hl 3 rfl) ?_
      refine lv_aload_n hx hb dX3_resume_159 rfl (lv_at hl 3 rfl) ?_
      refine wkgR_0_0 S X mG_660 dX3_resume_160 ?_
      refine wkgR_3_4 S X mG_405 dX3_resume_163 ?_
      refine lv_aload_n hx hb dX3_resume_166 rfl (lv_at hl 3 rfl) ?_
      refine wkgR_0_0 S X mG_660 dX3_resume_167 ?_
      refine wkgR_3_3 S X mG_398 dX3_resume_170 ?_
      refine lv_iload_n hx hb dX3_resume_173 rfl (lv_at hl 1 rfl) ?_
      obtain ⟨hi174, hg⟩ := gd_some hg
      refine wklA_16 (v := (xA τ15 16 ((((j_lushr r15 28) : Int64).toInt32) &&& 268435455))) S X hi174 rfl dX3_resume_174 ?_
      obtain ⟨hi175, hg⟩ := gd_some hg
      refine wklA_17 (v := (xA τ15 17 (xA τ15 16 ((((j_lushr r15 28) : Int64).toInt32) &&& 268435455)))) S X hi175 rfl dX3_resume_175 ?_
      obtain ⟨r176, τ176, hq176, hg⟩ := bd_some hg
      obtain ⟨ha176, hg⟩ := gq_some hg
      obtain ⟨hz176, hg⟩ := gq_some hg
      have hk176 : ka τ176 = ka τ15 ∧ sl τ176 = sl τ15 := ka_same ha176 hz176
      refine gck_Vv (As := [.int (xA τ15 17 (xA τ15 16 ((((j_lushr r15 28) : Int64).toInt32) &&& 268435455)))]) (rest := []) (q0 := 0) (ci := 6) S X (k2_X3_choose l dC dI ad kc sa va hq176 H.size) cw_X3_choose mG_1976 rfl rfl rfl rfl rfl hl.1 (Nat.le_of_ble_eq_true rfl) dX3_resume_176 ⟨by omega, by omega⟩ ⟨by omega, by omega⟩ (fun H locs X => ?_)
      have hm : ka τ176 = ka σ ∧ sl τ176 = sl σ := by omega
      refine lv_goto (tgt := 304) hx hb dX3_resume_179 (by decide) ?_
      refine W.widen (k := ka τ176 - k0) (n := sl τ176 - s0) (show ka σ - k0 ≤ ka τ176 - k0 by omega) (show sl σ - s0 ≤ sl τ176 - s0 by omega) ?_
      exact w_X3_resume_b304 S hr hk hR hRc (show k0 ≤ ka τ176 ∧ s0 ≤ sl τ176 from (by omega : k0 ≤ ka τ176 ∧ s0 ≤ sl τ176)) X (lv_sub hl [] rfl) hg
    · refine lv_tableIn (off := 140) (tgt := 182) hx hb dX3_resume_42 (by rw [hsw]; decide) (by rw [hsw]; decide) (by rw [hsw]; decide) (by decide) ?_
      have hg := (if_neg (by rw [hsw]; decide)).symm.trans hg
      have hg := (if_neg (by rw [hsw]; decide)).symm.trans hg
      have hg := (if_neg (by rw [hsw]; decide)).symm.trans hg
      have hg := (if_pos hsw).symm.trans hg
      refine lv_aload_n hx hb dX3_resume_182 rfl (lv_at hl 3 rfl) ?_
      refine wkgR_0_9 S X mG_672 dX3_resume_183 ?_
      refine lv_aload_n hx hb dX3_resume_186 rfl (lv_at hl 3 rfl) ?_
      refine wkgI_41 (v := (gI τ15 41)) S X mG_673 rfl dX3_resume_187 ?_
      refine lv_aload_n hx hb dX3_resume_190 rfl (lv_at hl 3 rfl) ?_
      refine wkgR_0_0 S X mG_660 dX3_resume_191 ?_
      refine wkgR_3_1 S X mG_388 dX3_resume_194 ?_
      refine lv_aload_n hx hb dX3_resume_197 rfl (lv_at hl 3 rfl) ?_
      refine wkgR_0_0 S X mG_660 dX3_resume_198 ?_
      refine wkgR_3_4 S X mG_405 dX3_resume_201 ?_
      refine lv_aload_n hx hb dX3_resume_204 rfl (lv_at hl 3 rfl) ?_
      refine wkgR_0_0 S X mG_660 dX3_resume_205 ?_
      refine wkgR_3_3 S X mG_398 dX3_resume_208 ?_
      refine lv_iload_n hx hb dX3_resume_211 rfl (lv_at hl 1 rfl) ?_
      obtain ⟨hi212, hg⟩ := gd_some hg
      refine wklA_16 (v := (xA τ15 16 ((((j_lushr r15 28) : Int64).toInt32) &&& 268435455))) S X hi212 rfl dX3_resume_212 ?_
      obtain ⟨hi213, hg⟩ := gd_some hg
      refine wklA_17 (v := (xA τ15 17 (xA τ15 16 ((((j_lushr r15 28) : Int64).toInt32) &&& 268435455)))) S X hi213 rfl dX3_resume_213 ?_
      obtain ⟨hi214, hg⟩ := gd_some hg
      refine wklA_14 (v := (xA τ15 14 (xA τ15 17 (xA τ15 16 ((((j_lushr r15 28) : Int64).toInt32) &&& 268435455))))) S X hi214 rfl dX3_resume_214 ?_
      refine lv_iadd hx hb dX3_resume_215 ?_
      refine lv_aload_n hx hb dX3_resume_216 rfl (lv_at hl 3 rfl) ?_
      refine wkgJ_5 (v := (gJ τ15 5)) S X mG_677 rfl dX3_resume_217 ?_
      obtain ⟨hi220, hg⟩ := gd_some hg
      refine wksB_13 S X hi220 dX3_resume_220 (fun H locs X => ?_)
      refine lv_aload_n hx hb dX3_resume_221 rfl (lv_at hl 3 rfl) ?_
      refine lv_aload_n hx hb dX3_resume_222 rfl (lv_at hl 3 rfl) ?_
      refine wkgR_0_0 S X mG_660 dX3_resume_223 ?_
      refine wkgR_3_3 S X mG_398 dX3_resume_226 ?_
      refine lv_iload_n hx hb dX3_resume_229 rfl (lv_at hl 1 rfl) ?_
      obtain ⟨hi230, hg⟩ := gd_some hg
      refine wklA_16 (v := (xA τ15 16 ((((j_lushr r15 28) : Int64).toInt32) &&& 268435455))) S X hi230 rfl dX3_resume_230 ?_
      obtain ⟨r231, τ231, hq231, hg⟩ := bd_some hg
      obtain ⟨ha231, hg⟩ := gq_some hg
      obtain ⟨hz231, hg⟩ := gq_some hg
      have hk231 : ka τ231 = ka τ15 ∧ sl τ231 = sl τ15 := ka_same ha231 hz231
      refine gck_Vv (As := [.int (xA τ15 16 ((((j_lushr r15 28) : Int64).toInt32) &&& 268435455))]) (rest := []) (q0 := 0) (ci := 6) S X (k2_X3_workOn l dC dI ad kc sa va hq231 H.size) cw_X3_workOn mG_1879 rfl rfl rfl rfl rfl hl.1 (Nat.le_of_ble_eq_true rfl) dX3_resume_231 ⟨by omega, by omega⟩ ⟨by omega, by omega⟩ (fun H locs X => ?_)
      have hm : ka τ231 = ka σ ∧ sl τ231 = sl σ := by omega
      refine lv_goto (tgt := 304) hx hb dX3_resume_234 (by decide) ?_
      refine W.widen (k := ka τ231 - k0) (n := sl τ231 - s0) (show ka σ - k0 ≤ ka τ231 - k0 by omega) (show sl σ - s0 ≤ sl τ231 - s0 by omega) ?_
      exact w_X3_resume_b304 S hr hk hR hRc (show k0 ≤ ka τ231 ∧ s0 ≤ sl τ231 from (by omega : k0 ≤ ka τ231 ∧ s0 ≤ sl τ231)) X (lv_sub hl [] rfl) hg
    · refine lv_tableIn (off := 195) (tgt := 237) hx hb dX3_resume_42 (by rw [hsw]; decide) (by rw [hsw]; decide) (by rw [hsw]; decide) (by decide) ?_
      have hg := (if_neg (by rw [hsw]; decide)).symm.trans hg
      have hg := (if_neg (by rw [hsw]; decide)).symm.trans hg
      have hg := (if_neg (by rw [hsw]; decide)).symm.trans hg
      have hg := (if_neg (by rw [hsw]; decide)).symm.trans hg
      have hg := (if_pos hsw).symm.trans hg
      refine lv_aload_n hx hb dX3_resume_237 rfl (lv_at hl 3 rfl) ?_
      refine lv_aload_n hx hb dX3_resume_238 rfl (lv_at hl 3 rfl) ?_
      refine wkgJ_5 (v := (gJ τ15 5)) S X mG_677 rfl dX3_resume_239 ?_
      obtain ⟨r242, τ242, hq242, hg⟩ := bd_some hg
      obtain ⟨ha242, hg⟩ := gle_some hg
      obtain ⟨hz242, hg⟩ := gle_some hg
      have hk242 : ka τ15 ≤ ka τ242 ∧ sl τ15 ≤ sl τ242 := ka_mono ha242 hz242
      have hn2 : ka τ242 ≤ ka τ ∧ sl τ242 ≤ sl τ := m_X3_resume_b245 hg
      refine gcy_V (w := wK ad kc) (As := [.long (gJ τ15 5)]) (rest := []) (q0 := 0) (ci := 6) (mc := ka τ242 - ka τ15) (ms := sl τ242 - sl τ15) S X (k2_X3_push l dC dI ad kc sa va hq242 H.size) cw_X3_push mG_1814 rfl rfl rfl rfl rfl hl.1 (Nat.le_of_ble_eq_true rfl) dX3_resume_242 ⟨by omega, by omega⟩ ⟨by omega, by omega⟩ (fun sa va H locs X => ?_)
      refine W.widen (k := ka τ242 - k0) (n := sl τ242 - s0) (by omega) (by omega) ?_
      exact w_X3_resume_b245 S hr hk hR hRc (show k0 ≤ ka τ242 ∧ s0 ≤ sl τ242 from (by omega : k0 ≤ ka τ242 ∧ s0 ≤ sl τ242)) X (lv_sub hl [3, 1, 0] rfl) hg
    · refine lv_tableIn (off := 215) (tgt := 257) hx hb dX3_resume_42 (by rw [hsw]; decide) (by rw [hsw]; decide) (by rw [hsw]; decide) (by decide) ?_
      have hg := (if_neg (by rw [hsw]; decide)).symm.trans hg
      have hg := (if_neg (by rw [hsw]; decide)).symm.trans hg
      have hg := (if_neg (by rw [hsw]; decide)).symm.trans hg
      have hg := (if_neg (by rw [hsw]; decide)).symm.trans hg
      have hg := (if_neg (by rw [hsw]; decide)).symm.trans hg
      have hg := (if_pos hsw).symm.trans hg
      refine lv_aload_n hx hb dX3_resume_257 rfl (lv_at hl 3 rfl) ?_
      refine lv_iload_n hx hb dX3_resume_258 rfl (lv_at hl 1 rfl) ?_
      obtain ⟨r259, τ259, hq259, hg⟩ := bd_some hg
      obtain ⟨ha259, hg⟩ := gle_some hg
      obtain ⟨hz259, hg⟩ := gle_some hg
      have hk259 : ka τ15 ≤ ka τ259 ∧ sl τ15 ≤ sl τ259 := ka_mono ha259 hz259
      have hn2 : ka τ259 ≤ ka τ ∧ sl τ259 ≤ sl τ := m_X3_resume_b262 hg
      refine gcy_V (w := wK ad kc) (As := [.int ((((j_lushr r15 28) : Int64).toInt32) &&& 268435455)]) (rest := []) (q0 := 0) (ci := 6) (mc := ka τ259 - ka τ15) (ms := sl τ259 - sl τ15) S X (k2_X3_applyValue l dC dI ad kc sa va hq259 H.size) cw_X3_applyValue mG_1984 rfl rfl rfl rfl rfl hl.1 (Nat.le_of_ble_eq_true rfl) dX3_resume_259 ⟨by omega, by omega⟩ ⟨by omega, by omega⟩ (fun sa va H locs X => ?_)
      refine W.widen (k := ka τ259 - k0) (n := sl τ259 - s0) (by omega) (by omega) ?_
      exact w_X3_resume_b262 S hr hk hR hRc (show k0 ≤ ka τ259 ∧ s0 ≤ sl τ259 from (by omega : k0 ≤ ka τ259 ∧ s0 ≤ sl τ259)) X (lv_sub hl [] rfl) hg
    · refine lv_tableIn (off := 223) (tgt := 265) hx hb dX3_resume_42 (by rw [hsw]; decide) (by rw [hsw]; decide) (by rw [hsw]; decide) (by decide) ?_
      have hg := (if_neg (by rw [hsw]; decide)).symm.trans hg
      have hg := (if_neg (by rw [hsw]; decide)).symm.trans hg
      have hg := (if_neg (by rw [hsw]; decide)).symm.trans hg
      have hg := (if_neg (by rw [hsw]; decide)).symm.trans hg
      have hg := (if_neg (by rw [hsw]; decide)).symm.trans hg
      have hg := (if_neg (by rw [hsw]; decide)).symm.trans hg
      have hg := (if_pos hsw).symm.trans hg
      refine lv_aload_n hx hb dX3_resume_265 rfl (lv_at hl 3 rfl) ?_
      refine wkgR_0_6 S X mG_669 dX3_resume_266 ?_
      refine lv_iload_n hx hb dX3_resume_269 rfl (lv_at hl 1 rfl) ?_
      refine lv_aload_n hx hb dX3_resume_270 rfl (lv_at hl 3 rfl) ?_
      refine wkgJ_5 (v := (gJ τ15 5)) S X mG_677 rfl dX3_resume_271 ?_
      obtain ⟨r274, τ274, hq274, hg⟩ := bd_some hg
      obtain ⟨ha274, hg⟩ := gq_some hg
      obtain ⟨hz274, hg⟩ := gq_some hg
      have hk274 : ka τ274 = ka τ15 ∧ sl τ274 = sl τ15 := ka_same ha274 hz274
      refine gck_Vv (As := [.int ((((j_lushr r15 28) : Int64).toInt32) &&& 268435455), .long (gJ τ15 5)]) (rest := []) (q0 := 1) (ci := 3) S X (k2_X0_update l dC dI ad kc sa va hq274 H.size) cw_X0_update mG_1992 rfl rfl rfl rfl rfl hl.1 (Nat.le_of_ble_eq_true rfl) dX3_resume_274 ⟨by omega, by omega⟩ ⟨by omega, by omega⟩ (fun H locs X => ?_)
      have hm : ka τ274 = ka σ ∧ sl τ274 = sl σ := by omega
      refine lv_goto (tgt := 304) hx hb dX3_resume_277 (by decide) ?_
      refine W.widen (k := ka τ274 - k0) (n := sl τ274 - s0) (show ka σ - k0 ≤ ka τ274 - k0 by omega) (show sl σ - s0 ≤ sl τ274 - s0 by omega) ?_
      exact w_X3_resume_b304 S hr hk hR hRc (show k0 ≤ ka τ274 ∧ s0 ≤ sl τ274 from (by omega : k0 ≤ ka τ274 ∧ s0 ≤ sl τ274)) X (lv_sub hl [] rfl) hg
    · refine lv_tableIn (off := 238) (tgt := 280) hx hb dX3_resume_42 (by rw [hsw]; decide) (by rw [hsw]; decide) (by rw [hsw]; decide) (by decide) ?_
      have hg := (if_neg (by rw [hsw]; decide)).symm.trans hg
      have hg := (if_neg (by rw [hsw]; decide)).symm.trans hg
      have hg := (if_neg (by rw [hsw]; decide)).symm.trans hg
      have hg := (if_neg (by rw [hsw]; decide)).symm.trans hg
      have hg := (if_neg (by rw [hsw]; decide)).symm.trans hg
      have hg := (if_neg (by rw [hsw]; decide)).symm.trans hg
      have hg := (if_neg (by rw [hsw]; decide)).symm.trans hg
      have hg := (if_pos hsw).symm.trans hg
      refine lv_aload_n hx hb dX3_resume_280 rfl (lv_at hl 3 rfl) ?_
      refine lv_iload_n hx hb dX3_resume_281 rfl (lv_at hl 1 rfl) ?_
      refine lv_iload hx hb dX3_resume_282 (lv_at hl 0 rfl) ?_
      obtain ⟨r284, τ284, hq284, hg⟩ := bd_some hg
      obtain ⟨ha284, hg⟩ := gq_some hg
      obtain ⟨hz284, hg⟩ := gq_some hg
      have hk284 : ka τ284 = ka τ15 ∧ sl τ284 = sl τ15 := ka_same ha284 hz284
      refine gck_Vv (As := [.int ((((j_lushr r15 28) : Int64).toInt32) &&& 268435455), .int (((r15 : Int64).toInt32) &&& 268435455)]) (rest := []) (q0 := 0) (ci := 6) S X (k2_X3_closeVariables l dC dI ad kc sa va hq284 H.size) cw_X3_closeVariables mG_1996 rfl rfl rfl rfl rfl hl.1 (Nat.le_of_ble_eq_true rfl) dX3_resume_284 ⟨by omega, by omega⟩ ⟨by omega, by omega⟩ (fun H locs X => ?_)
      have hm : ka τ284 = ka σ ∧ sl τ284 = sl σ := by omega
      refine lv_goto (tgt := 304) hx hb dX3_resume_287 (by decide) ?_
      refine W.widen (k := ka τ284 - k0) (n := sl τ284 - s0) (show ka σ - k0 ≤ ka τ284 - k0 by omega) (show sl σ - s0 ≤ sl τ284 - s0 by omega) ?_
      exact w_X3_resume_b304 S hr hk hR hRc (show k0 ≤ ka τ284 ∧ s0 ≤ sl τ284 from (by omega : k0 ≤ ka τ284 ∧ s0 ≤ sl τ284)) X (lv_sub hl [] rfl) hg
    · refine lv_tableIn (off := 248) (tgt := 290) hx hb dX3_resume_42 (by rw [hsw]; decide) (by rw [hsw]; decide) (by rw [hsw]; decide) (by decide) ?_
      have hg := (if_neg (by rw [hsw]; decide)).symm.trans hg
      have hg := (if_neg (by rw [hsw]; decide)).symm.trans hg
      have hg := (if_neg (by rw [hsw]; decide)).symm.trans hg
      have hg := (if_neg (by rw [hsw]; decide)).symm.trans hg
      have hg := (if_neg (by rw [hsw]; decide)).symm.trans hg
      have hg := (if_neg (by rw [hsw]; decide)).symm.trans hg
      have hg := (if_neg (by rw [hsw]; decide)).symm.trans hg
      have hg := (if_neg (by rw [hsw]; decide)).symm.trans hg
      have hg := (if_pos hsw).symm.trans hg
      refine lv_aload_n hx hb dX3_resume_290 rfl (lv_at hl 3 rfl) ?_
      obtain ⟨r291, τ291, hq291, hg⟩ := bd_some hg
      obtain ⟨ha291, hg⟩ := gle_some hg
      obtain ⟨hz291, hg⟩ := gle_some hg
      have hk291 : ka τ15 ≤ ka τ291 ∧ sl τ15 ≤ sl τ291 := ka_mono ha291 hz291
      have hn2 : ka τ291 ≤ ka τ ∧ sl τ291 ≤ sl τ := m_X3_resume_b294 hg
      refine gcy_V (w := wK ad kc) (As := []) (rest := []) (q0 := 0) (ci := 6) (mc := ka τ291 - ka τ15) (ms := sl τ291 - sl τ15) S X (k2_X3_show l dC dI ad kc sa va hq291 H.size) cw_X3_show mG_2000 rfl rfl rfl rfl rfl hl.1 (Nat.le_of_ble_eq_true rfl) dX3_resume_291 ⟨by omega, by omega⟩ ⟨by omega, by omega⟩ (fun sa va H locs X => ?_)
      refine W.widen (k := ka τ291 - k0) (n := sl τ291 - s0) (by omega) (by omega) ?_
      exact w_X3_resume_b294 S hr hk hR hRc (show k0 ≤ ka τ291 ∧ s0 ≤ sl τ291 from (by omega : k0 ≤ ka τ291 ∧ s0 ≤ sl τ291)) X (lv_sub hl [] rfl) hg
  · have hg := (if_neg c4).symm.trans hg
    refine lv_aload_n hx hb dX3_resume_7 rfl (lv_at hl 0 rfl) ?_
    refine lv_iconst (v := 1) hx hb dX3_resume_8 (by decide) ?_
    refine lv_iconst (v := 0) hx hb dX3_resume_9 (by decide) ?_
    obtain ⟨r10, τ10, hq10, hg⟩ := bd_some hg
    obtain ⟨ha10, hg⟩ := gq_some hg
    obtain ⟨hz10, hg⟩ := gq_some hg
    have hk10 : ka τ10 = ka σ ∧ sl τ10 = sl σ := ka_same ha10 hz10
    refine gck_Vv (As := [.int 1, .int 0]) (rest := []) (q0 := 0) (ci := 6) S X (k2_X3_endWith l dC dI ad kc sa va hq10 H.size) cw_X3_endWith mG_1846 rfl rfl rfl rfl rfl hl.1 (Nat.le_of_ble_eq_true rfl) dX3_resume_10 ⟨by omega, by omega⟩ ⟨by omega, by omega⟩ (fun H locs X => ?_)
    have hm : ka τ10 = ka σ ∧ sl τ10 = sl σ := by omega
    obtain ⟨-, rfl⟩ := fin_some hg
    refine W.widen (k := ka τ10 - k0) (n := sl τ10 - s0) (show ka σ - k0 ≤ ka τ10 - k0 by omega) (show sl σ - s0 ≤ sl τ10 - s0 by omega) ?_
    exact gr_y S hr hk X dX3_resume_13
end MX3_resume
set_option maxRecDepth 100000 in
theorem k2_X3_resume (l : Launch) (dC : Nat → ClassId) (dI : Nat → Nat → Nat) {Z : ZZ} (ad : Nat → Nat) (kc : Nat → ClassId) (sa va : Nat) {σ τ : S5}  {r : Unit} (hg : f_X3_resume  σ = some (r, τ)) (sz : Nat) : Met l yX3_resume (Cond.code yX3_resume cX3_resume 5 none :: uG) { frames := 194, cells := ka τ - ka σ, slots := sl τ - sl σ, locals := 4721 } (gPc (dC, dI) (tK kc) (wK ad kc sa va) Z [.ref (ad 0)] σ sz) (gQy (dC, dI) (tK kc) (wK ad kc) (va_A (wK ad kc sa va σ) sz) τ) (ka τ - ka σ) (sl τ - sl σ) (va_A (wK ad kc sa va σ) sz) :=
  gy_start (by decide) (Nat.le_of_ble_eq_true rfl) (fun p e s m below meth c ls S hr hk X hl => W.widen (Nat.zero_le _) (Nat.zero_le _) (w_X3_resume (k0 := ka σ) (s0 := sl σ) S hr hk ⟨Nat.le_refl _, Nat.le_refl _⟩ ⟨Nat.le_refl _, Nat.le_refl _⟩ ⟨Nat.le_refl _, Nat.le_refl _⟩ X hl hg))
section MX3_start
variable {r : Unit} {τ : S5}
set_option maxHeartbeats 4000000 in
theorem m_X3_start_b156 {σ : S5} {rec123 : Int32 → S5 → Option (Unit × S5)} {v3 : Int32}  (hrm123 : ∀ (v3 : Int32) (σ : S5), rec123 v3 σ = some (r, τ) → ka σ ≤ ka τ ∧ sl σ ≤ sl τ) (hg : f_X3_start_b156 rec123 v3 σ = some (r, τ)) : ka σ ≤ ka τ ∧ sl σ ≤ sl τ := by
  have hm : ka σ ≤ ka σ ∧ sl σ ≤ sl σ := ⟨Nat.le_refl _, Nat.le_refl _⟩
  unfold f_X3_start_b156 at hg
  exact ⟨Nat.le_trans hm.1 (hrm123 _ _ hg).1, Nat.le_trans hm.2 (hrm123 _ _ hg).2⟩
set_option maxHeartbeats 4000000 in
theorem m_X3_start_b149 {σ : S5} {rec123 : Int32 → S5 → Option (Unit × S5)} {v3 : Int32}  (hrm123 : ∀ (v3 : Int32) (σ : S5), rec123 v3 σ = some (r, τ) → ka σ ≤ ka τ ∧ sl σ ≤ sl τ) (hg : f_X3_start_b149 rec123 v3 σ = some (r, τ)) : ka σ ≤ ka τ ∧ sl σ ≤ sl τ := by
  have hm : ka σ ≤ ka σ ∧ sl σ ≤ sl σ := ⟨Nat.le_refl _, Nat.le_refl _⟩
  unfold f_X3_start_b149 at hg
  exact ⟨Nat.le_trans hm.1 (m_X3_start_b156 hrm123 hg).1, Nat.le_trans hm.2 (m_X3_start_b156 hrm123 hg).2⟩
set_option maxHeartbeats 4000000 in
theorem m_X3_start_B123 {σ : S5} {rec123 : Int32 → S5 → Option (Unit × S5)} {v3 : Int32}  (hrm123 : ∀ (v3 : Int32) (σ : S5), rec123 v3 σ = some (r, τ) → ka σ ≤ ka τ ∧ sl σ ≤ sl τ) (hg : f_X3_start_B123 rec123 v3 σ = some (r, τ)) : ka σ ≤ ka τ ∧ sl σ ≤ sl τ := by
  have hm : ka σ ≤ ka σ ∧ sl σ ≤ sl σ := ⟨Nat.le_refl _, Nat.le_refl _⟩
  unfold f_X3_start_B123 at hg
  refine (Decidable.em (100000000 ≤ v3)).elim (fun c126 => ?_) (fun c126 => ?_)
  · have hg := (if_pos c126).symm.trans hg
    obtain ⟨-, rfl⟩ := fin_some hg
    exact hm
  · have hg := (if_neg c126).symm.trans hg
    refine (Decidable.em ((xA σ 40 0) = 0)).symm.elim (fun c135 => ?_) (fun c135 => ?_)
    · have hg := (if_neg c135).symm.trans hg
      obtain ⟨-, rfl⟩ := fin_some hg
      exact hm
    · have hg := (if_pos c135).symm.trans hg
      refine (Decidable.em ((gI σ 45) = 0)).elim (fun c142 => ?_) (fun c142 => ?_)
      · have hg := (if_pos c142).symm.trans hg
        obtain ⟨r153, τ153, hq153, hg⟩ := bd_some hg
        obtain ⟨ha153, hg⟩ := gle_some hg
        obtain ⟨hz153, hg⟩ := gle_some hg
        have hk153 : ka σ ≤ ka τ153 ∧ sl σ ≤ sl τ153 := ka_mono ha153 hz153
        have hm : ka σ ≤ ka τ153 ∧ sl σ ≤ sl τ153 := by omega
        exact ⟨Nat.le_trans hm.1 (m_X3_start_b156 hrm123 hg).1, Nat.le_trans hm.2 (m_X3_start_b156 hrm123 hg).2⟩
      · have hg := (if_neg c142).symm.trans hg
        obtain ⟨r146, τ146, hq146, hg⟩ := bd_some hg
        obtain ⟨ha146, hg⟩ := gle_some hg
        obtain ⟨hz146, hg⟩ := gle_some hg
        have hk146 : ka σ ≤ ka τ146 ∧ sl σ ≤ sl τ146 := ka_mono ha146 hz146
        have hm : ka σ ≤ ka τ146 ∧ sl σ ≤ sl τ146 := by omega
        exact ⟨Nat.le_trans hm.1 (m_X3_start_b149 hrm123 hg).1, Nat.le_trans hm.2 (m_X3_start_b149 hrm123 hg).2⟩
set_option maxHeartbeats 4000000 in
theorem m_X3_start_L123  : ∀ (n : Nat) (v3 : Int32) (σ : S5), f_X3_start_L123  n v3 σ = some (r, τ) → ka σ ≤ ka τ ∧ sl σ ≤ sl τ := by
  intro n
  induction n with
  | zero => intro v3 σ hg; cases hg
  | succ n ih => intro v3 σ hg; exact m_X3_start_B123 ih hg
set_option maxHeartbeats 4000000 in
theorem m_X3_start_b121 {σ : S5}   (hg : f_X3_start_b121  σ = some (r, τ)) : ka σ ≤ ka τ ∧ sl σ ≤ sl τ := by
  have hm : ka σ ≤ ka σ ∧ sl σ ≤ sl σ := ⟨Nat.le_refl _, Nat.le_refl _⟩
  unfold f_X3_start_b121 at hg
  exact ⟨Nat.le_trans hm.1 (m_X3_start_L123 _ _ _ hg).1, Nat.le_trans hm.2 (m_X3_start_L123 _ _ _ hg).2⟩
set_option maxHeartbeats 4000000 in
theorem m_X3_start_b100 {σ : S5}   (hg : f_X3_start_b100  σ = some (r, τ)) : ka σ ≤ ka τ ∧ sl σ ≤ sl τ := by
  have hm : ka σ ≤ ka σ ∧ sl σ ≤ sl σ := ⟨Nat.le_refl _, Nat.le_refl _⟩
  unfold f_X3_start_b100 at hg
  obtain ⟨hi114, hg⟩ := gd_some hg
  obtain ⟨r115, τ115, hq115, hg⟩ := bd_some hg
  obtain ⟨ha115, hg⟩ := gq_some hg
  obtain ⟨hz115, hg⟩ := gq_some hg
  have hk115 : ka τ115 = ka σ ∧ sl τ115 = sl σ := ka_same ha115 hz115
  have hm : ka σ ≤ ka τ115 ∧ sl σ ≤ sl τ115 := by omega
  obtain ⟨r118, τ118, hq118, hg⟩ := bd_some hg
  obtain ⟨ha118, hg⟩ := gle_some hg
  obtain ⟨hz118, hg⟩ := gle_some hg
  have hk118 : ka τ115 ≤ ka τ118 ∧ sl τ115 ≤ sl τ118 := ka_mono ha118 hz118
  have hm : ka σ ≤ ka τ118 ∧ sl σ ≤ sl τ118 := by omega
  exact ⟨Nat.le_trans hm.1 (m_X3_start_b121 hg).1, Nat.le_trans hm.2 (m_X3_start_b121 hg).2⟩
set_option maxHeartbeats 4000000 in
theorem m_X3_start_b83 {σ : S5} {rec36 : Int32 → S5 → Option (Unit × S5)} {v3 : Int32}  (hrm36 : ∀ (v3 : Int32) (σ : S5), rec36 v3 σ = some (r, τ) → ka σ ≤ ka τ ∧ sl σ ≤ sl τ) (hg : f_X3_start_b83 rec36 v3 σ = some (r, τ)) : ka σ ≤ ka τ ∧ sl σ ≤ sl τ := by
  have hm : ka σ ≤ ka σ ∧ sl σ ≤ sl σ := ⟨Nat.le_refl _, Nat.le_refl _⟩
  unfold f_X3_start_b83 at hg
  exact ⟨Nat.le_trans hm.1 (hrm36 _ _ hg).1, Nat.le_trans hm.2 (hrm36 _ _ hg).2⟩
set_option maxHeartbeats 4000000 in
theorem m_X3_start_B36 {σ : S5} {rec36 : Int32 → S5 → Option (Unit × S5)} {v3 : Int32}  (hrm36 : ∀ (v3 : Int32) (σ : S5), rec36 v3 σ = some (r, τ) → ka σ ≤ ka τ ∧ sl σ ≤ sl τ) (hg : f_X3_start_B36 rec36 v3 σ = some (r, τ)) : ka σ ≤ ka τ ∧ sl σ ≤ sl τ := by
  have hm : ka σ ≤ ka σ ∧ sl σ ≤ sl σ := ⟨Nat.le_refl _, Nat.le_refl _⟩
  unfold f_X3_start_B36 at hg
  refine (Decidable.em ((gI σ 5) ≤ v3)).elim (fun c44 => ?_) (fun c44 => ?_)
  · have hg := (if_pos c44).symm.trans hg
    obtain ⟨r94, τ94, hq94, hg⟩ := bd_some hg
    obtain ⟨ha94, hg⟩ := gq_some hg
    obtain ⟨hz94, hg⟩ := gq_some hg
    have hk94 : ka τ94 = ka σ ∧ sl τ94 = sl σ := ka_same ha94 hz94
    have hm : ka σ ≤ ka τ94 ∧ sl σ ≤ sl τ94 := by omega
    obtain ⟨r97, τ97, hq97, hg⟩ := bd_some hg
    obtain ⟨ha97, hg⟩ := gle_some hg
    obtain ⟨hz97, hg⟩ := gle_some hg
    have hk97 : ka τ94 ≤ ka τ97 ∧ sl τ94 ≤ sl τ97 := ka_mono ha97 hz97
    have hm : ka σ ≤ ka τ97 ∧ sl σ ≤ sl τ97 := by omega
    exact ⟨Nat.le_trans hm.1 (m_X3_start_b100 hg).1, Nat.le_trans hm.2 (m_X3_start_b100 hg).2⟩
  · have hg := (if_neg c44).symm.trans hg
    obtain ⟨hi55, hg⟩ := gd_some hg
    refine (Decidable.em ((xA σ 3 v3) = 0)).symm.elim (fun c56 => ?_) (fun c56 => ?_)
    · have hg := (if_neg c56).symm.trans hg
      exact ⟨Nat.le_trans hm.1 (m_X3_start_b83 hrm36 hg).1, Nat.le_trans hm.2 (m_X3_start_b83 hrm36 hg).2⟩
    · have hg := (if_pos c56).symm.trans hg
      obtain ⟨hi77, hg⟩ := gd_some hg
      obtain ⟨r79, τ79, hq79, hg⟩ := bd_some hg
      obtain ⟨ha79, hg⟩ := gq_some hg
      obtain ⟨hz79, hg⟩ := gq_some hg
      have hk79 : ka τ79 = ka σ ∧ sl τ79 = sl σ := ka_same ha79 hz79
      have hm : ka σ ≤ ka τ79 ∧ sl σ ≤ sl τ79 := by omega
      obtain ⟨hi82, hg⟩ := gd_some hg
      exact ⟨Nat.le_trans hm.1 (m_X3_start_b83 hrm36 hg).1, Nat.le_trans hm.2 (m_X3_start_b83 hrm36 hg).2⟩
set_option maxHeartbeats 4000000 in
theorem m_X3_start_L36  : ∀ (n : Nat) (v3 : Int32) (σ : S5), f_X3_start_L36  n v3 σ = some (r, τ) → ka σ ≤ ka τ ∧ sl σ ≤ sl τ := by
  intro n
  induction n with
  | zero => intro v3 σ hg; cases hg
  | succ n ih => intro v3 σ hg; exact m_X3_start_B36 ih hg
set_option maxHeartbeats 4000000 in
theorem m_X3_start {σ : S5} {a1 : Int32} {a2 : Int32}  (hg : f_X3_start a1 a2 σ = some (r, τ)) : ka σ ≤ ka τ ∧ sl σ ≤ sl τ := by
  have hm : ka σ ≤ ka σ ∧ sl σ ≤ sl σ := ⟨Nat.le_refl _, Nat.le_refl _⟩
  unfold f_X3_start at hg
  obtain ⟨r1, τ1, hq1, hg⟩ := bd_some hg
  obtain ⟨ha1, hg⟩ := gq_some hg
  obtain ⟨hz1, hg⟩ := gq_some hg
  have hk1 : ka τ1 = ka σ ∧ sl τ1 = sl σ := ka_same ha1 hz1
  have hm : ka σ ≤ ka τ1 ∧ sl σ ≤ sl τ1 := by omega
  obtain ⟨hn6, hg⟩ := g_t_some hg
  exact ⟨Nat.le_trans hm.1 (m_X3_start_L36 _ _ _ hg).1, Nat.le_trans hm.2 (m_X3_start_L36 _ _ _ hg).2⟩
variable {p : Program} {l : Launch} {e : Env} {R : Room} {s : State} {m : MethodId} {args : Array Value} {below : List Frame} {meth : Method} {c : Code} {dC : Nat → ClassId} {dI : Nat → Nat → Nat} {Z : ZZ} {A : Nat → Prop} {ad : Nat → Nat} {kc : Nat → ClassId} {k0 s0 : Nat}
set_option maxHeartbeats 4000000 in
set_option maxRecDepth 100000 in
theorem w_X3_start_b156 {sa va : Nat} {σ : S5} {rec123 : Int32 → S5 → Option (Unit × S5)} {v3 : Int32} {H : Heap} {locs : List Loc} {ls : Array Slot} (S : CallFix p m c cX3_start 4 s args uG RX3) (hr : meth.sig.returnType = none) (hk : meth.locks = false) (hR : 197 ≤ R.frames ∧ 4792 ≤ R.locals) (hRc : ka τ - k0 ≤ R.cells ∧ sl τ - s0 ≤ R.slots)
    (hrec123 : ∀ (sa va : Nat) (v3 : Int32) (σ : S5) (H : Heap) (locs : List Loc) (ls : Array Slot), k0 ≤ ka σ ∧ s0 ≤ sl σ → gX (dC, dI) (tK kc) (wK ad kc sa va) Z A s σ H locs → lv_has ls 4 [(0, .ref (ad 0)), (3, .int v3)] → rec123 v3 σ = some (r, τ) → W p l e R s m args below meth c H locs (ka σ - k0) (sl σ - s0) (MQ below (gQy (dC, dI) (tK kc) (wK ad kc) A τ) args s (ka τ - k0) (sl τ - s0) A) (F0 m 123 ls [])) (hrm123 : ∀ (v3 : Int32) (σ : S5), rec123 v3 σ = some (r, τ) → ka σ ≤ ka τ ∧ sl σ ≤ sl τ)
    (hc : k0 ≤ ka σ ∧ s0 ≤ sl σ) (X : gX (dC, dI) (tK kc) (wK ad kc sa va) Z A s σ H locs) (hl : lv_has ls 4 [(0, .ref (ad 0)), (3, .int v3)]) (hg : f_X3_start_b156 rec123 v3 σ = some (r, τ)) : W p l e R s m args below meth c H locs (ka σ - k0) (sl σ - s0) (MQ below (gQy (dC, dI) (tK kc) (wK ad kc) A τ) args s (ka τ - k0) (sl τ - s0) A) (F0 m 156 ls []) := by
  have hx := S.1
  have hb := S.2.1
  have hown := S.2.2.2.1
  have hu := S.2.2.2.2
  have hn := m_X3_start_b156 hrm123 hg
  have hm : ka σ = ka σ ∧ sl σ = sl σ := ⟨rfl, rfl⟩
  unfold f_X3_start_b156 at hg
  refine lv_iinc (v := (v3 + 1)) (lv' := [(3, .int (v3 + 1)), (0, .ref (ad 0))]) hx hb dX3_start_156 hl (k := 1) rfl (by rfl) (by decide) rfl (fun ls hl => ?_)
  refine lv_goto (tgt := 123) hx hb dX3_start_159 (by decide) ?_
  refine W.widen (k := ka σ - k0) (n := sl σ - s0) (show ka σ - k0 ≤ ka σ - k0 by omega) (show sl σ - s0 ≤ sl σ - s0 by omega) ?_
  exact hrec123 _ _ _ _ _ _ _ (show k0 ≤ ka σ ∧ s0 ≤ sl σ from (by omega : k0 ≤ ka σ ∧ s0 ≤ sl σ)) X (lv_sub hl [1, 0] rfl) hg
set_option maxHeartbeats 4000000 in
set_option maxRecDepth 100000 in
theorem w_X3_start_b149 {sa va : Nat} {σ : S5} {rec123 : Int32 → S5 → Option (Unit × S5)} {v3 : Int32} {H : Heap} {locs : List Loc} {ls : Array Slot} (S : CallFix p m c cX3_start 4 s args uG RX3) (hr : meth.sig.returnType = none) (hk : meth.locks = false) (hR : 197 ≤ R.frames ∧ 4792 ≤ R.locals) (hRc : ka τ - k0 ≤ R.cells ∧ sl τ - s0 ≤ R.slots)
    (hrec123 : ∀ (sa va : Nat) (v3 : Int32) (σ : S5) (H : Heap) (locs : List Loc) (ls : Array Slot), k0 ≤ ka σ ∧ s0 ≤ sl σ → gX (dC, dI) (tK kc) (wK ad kc sa va) Z A s σ H locs → lv_has ls 4 [(0, .ref (ad 0)), (3, .int v3)] → rec123 v3 σ = some (r, τ) → W p l e R s m args below meth c H locs (ka σ - k0) (sl σ - s0) (MQ below (gQy (dC, dI) (tK kc) (wK ad kc) A τ) args s (ka τ - k0) (sl τ - s0) A) (F0 m 123 ls [])) (hrm123 : ∀ (v3 : Int32) (σ : S5), rec123 v3 σ = some (r, τ) → ka σ ≤ ka τ ∧ sl σ ≤ sl τ)
    (hc : k0 ≤ ka σ ∧ s0 ≤ sl σ) (X : gX (dC, dI) (tK kc) (wK ad kc sa va) Z A s σ H locs) (hl : lv_has ls 4 [(0, .ref (ad 0)), (3, .int v3)]) (hg : f_X3_start_b149 rec123 v3 σ = some (r, τ)) : W p l e R s m args below meth c H locs (ka σ - k0) (sl σ - s0) (MQ below (gQy (dC, dI) (tK kc) (wK ad kc) A τ) args s (ka τ - k0) (sl τ - s0) A) (F0 m 149 ls []) := by
  have hx := S.1
  have hb := S.2.1
  have hown := S.2.2.2.1
  have hu := S.2.2.2.2
  have hn := m_X3_start_b149 hrm123 hg
  have hm : ka σ = ka σ ∧ sl σ = sl σ := ⟨rfl, rfl⟩
  unfold f_X3_start_b149 at hg
  refine lv_goto (tgt := 156) hx hb dX3_start_149 (by decide) ?_
  refine W.widen (k := ka σ - k0) (n := sl σ - s0) (show ka σ - k0 ≤ ka σ - k0 by omega) (show sl σ - s0 ≤ sl σ - s0 by omega) ?_
  exact w_X3_start_b156 S hr hk hR hRc hrec123 hrm123 (show k0 ≤ ka σ ∧ s0 ≤ sl σ from (by omega : k0 ≤ ka σ ∧ s0 ≤ sl σ)) X (lv_sub hl [0, 1] rfl) hg
set_option maxHeartbeats 4000000 in
set_option maxRecDepth 100000 in
theorem w_X3_start_B123 {sa va : Nat} {σ : S5} {rec123 : Int32 → S5 → Option (Unit × S5)} {v3 : Int32} {H : Heap} {locs : List Loc} {ls : Array Slot} (S : CallFix p m c cX3_start 4 s args uG RX3) (hr : meth.sig.returnType = none) (hk : meth.locks = false) (hR : 197 ≤ R.frames ∧ 4792 ≤ R.locals) (hRc : ka τ - k0 ≤ R.cells ∧ sl τ - s0 ≤ R.slots)
    (hrec123 : ∀ (sa va : Nat) (v3 : Int32) (σ : S5) (H : Heap) (locs : List Loc) (ls : Array Slot), k0 ≤ ka σ ∧ s0 ≤ sl σ → gX (dC, dI) (tK kc) (wK ad kc sa va) Z A s σ H locs → lv_has ls 4 [(0, .ref (ad 0)), (3, .int v3)] → rec123 v3 σ = some (r, τ) → W p l e R s m args below meth c H locs (ka σ - k0) (sl σ - s0) (MQ below (gQy (dC, dI) (tK kc) (wK ad kc) A τ) args s (ka τ - k0) (sl τ - s0) A) (F0 m 123 ls [])) (hrm123 : ∀ (v3 : Int32) (σ : S5), rec123 v3 σ = some (r, τ) → ka σ ≤ ka τ ∧ sl σ ≤ sl τ)
    (hc : k0 ≤ ka σ ∧ s0 ≤ sl σ) (X : gX (dC, dI) (tK kc) (wK ad kc sa va) Z A s σ H locs) (hl : lv_has ls 4 [(0, .ref (ad 0)), (3, .int v3)]) (hg : f_X3_start_B123 rec123 v3 σ = some (r, τ)) : W p l e R s m args below meth c H locs (ka σ - k0) (sl σ - s0) (MQ below (gQy (dC, dI) (tK kc) (wK ad kc) A τ) args s (ka τ - k0) (sl τ - s0) A) (F0 m 123 ls []) := by
  have hx := S.1
  have hb := S.2.1
  have hown := S.2.2.2.1
  have hu := S.2.2.2.2
  have hn := m_X3_start_B123 hrm123 hg
  have hm : ka σ = ka σ ∧ sl σ = sl σ := ⟨rfl, rfl⟩
  unfold f_X3_start_B123 at hg
  refine lv_iload_n hx hb dX3_start_123 rfl (lv_at hl 1 rfl) ?_
  refine lv_ldc (own := RX3) (v := 100000000) hx hb hown (hu _ mG_1883) dX3_start_124 ?_
  refine lv_icmp_ge (tgt := 162) hx hb dX3_start_126 (by decide) (fun c126 => ?_) (fun c126 => ?_)
  · have hg := (if_pos c126).symm.trans hg
    obtain ⟨-, rfl⟩ := fin_some hg
    refine W.widen (k := ka σ - k0) (n := sl σ - s0) (show ka σ - k0 ≤ ka σ - k0 by omega) (show sl σ - s0 ≤ sl σ - s0 by omega) ?_
    exact gr_y S hr hk X dX3_start_162
  · have hg := (if_neg c126).symm.trans hg
    refine lv_aload_n hx hb dX3_start_129 rfl (lv_at hl 0 rfl) ?_
    refine wkgR_0_2 S X mG_662 dX3_start_130 ?_
    refine lv_iconst (v := 0) hx hb dX3_start_133 (by decide) ?_
    refine wklA_40 (v := (xA σ 40 0)) S X (vp_in_iff.mpr (by decide)) rfl dX3_start_134 ?_
    refine lv_if_ne (tgt := 162) hx hb dX3_start_135 (by decide) (fun c135 => ?_) (fun c135 => ?_)
    · have hg := (if_neg c135).symm.trans hg
      obtain ⟨-, rfl⟩ := fin_some hg
      refine W.widen (k := ka σ - k0) (n := sl σ - s0) (show ka σ - k0 ≤ ka σ - k0 by omega) (show sl σ - s0 ≤ sl σ - s0 by omega) ?_
      exact gr_y S hr hk X dX3_start_162
    · have hg := (if_pos c135).symm.trans hg
      refine lv_aload_n hx hb dX3_start_138 rfl (lv_at hl 0 rfl) ?_
      refine wkgI_45 (v := (gI σ 45)) S X mG_678 rfl dX3_start_139 ?_
      refine lv_if_eq (tgt := 152) hx hb dX3_start_142 (by decide) (fun c142 => ?_) (fun c142 => ?_)
      · have hg := (if_pos c142).symm.trans hg
        refine lv_aload_n hx hb dX3_start_152 rfl (lv_at hl 0 rfl) ?_
        obtain ⟨r153, τ153, hq153, hg⟩ := bd_some hg
        obtain ⟨ha153, hg⟩ := gle_some hg
        obtain ⟨hz153, hg⟩ := gle_some hg
        have hk153 : ka σ ≤ ka τ153 ∧ sl σ ≤ sl τ153 := ka_mono ha153 hz153
        have hn2 : ka τ153 ≤ ka τ ∧ sl τ153 ≤ sl τ := m_X3_start_b156 hrm123 hg
        refine gcy_V (w := wK ad kc) (As := []) (rest := []) (q0 := 0) (ci := 6) (mc := ka τ153 - ka σ) (ms := sl τ153 - sl σ) S X (k2_X3_resume l dC dI ad kc sa va hq153 H.size) cw_X3_resume mG_1951 rfl rfl rfl rfl rfl hl.1 (Nat.le_of_ble_eq_true rfl) dX3_start_153 ⟨by omega, by omega⟩ ⟨by omega, by omega⟩ (fun sa va H locs X => ?_)
        refine W.widen (k := ka τ153 - k0) (n := sl τ153 - s0) (by omega) (by omega) ?_
        exact w_X3_start_b156 S hr hk hR hRc hrec123 hrm123 (show k0 ≤ ka τ153 ∧ s0 ≤ sl τ153 from (by omega : k0 ≤ ka τ153 ∧ s0 ≤ sl τ153)) X (lv_sub hl [0, 1] rfl) hg
      · have hg := (if_neg c142).symm.trans hg
        refine lv_aload_n hx hb dX3_start_145 rfl (lv_at hl 0 rfl) ?_
        obtain ⟨r146, τ146, hq146, hg⟩ := bd_some hg
        obtain ⟨ha146, hg⟩ := gle_some hg
        obtain ⟨hz146, hg⟩ := gle_some hg
        have hk146 : ka σ ≤ ka τ146 ∧ sl σ ≤ sl τ146 := ka_mono ha146 hz146
        have hn2 : ka τ146 ≤ ka τ ∧ sl τ146 ≤ sl τ := m_X3_start_b149 hrm123 hg
        refine gcy_V (w := wK ad kc) (As := []) (rest := []) (q0 := 0) (ci := 6) (mc := ka τ146 - ka σ) (ms := sl τ146 - sl σ) S X (k2_X3_work l dC dI ad kc sa va hq146 H.size) cw_X3_work mG_1884 rfl rfl rfl rfl rfl hl.1 (Nat.le_of_ble_eq_true rfl) dX3_start_146 ⟨by omega, by omega⟩ ⟨by omega, by omega⟩ (fun sa va H locs X => ?_)
        refine W.widen (k := ka τ146 - k0) (n := sl τ146 - s0) (by omega) (by omega) ?_
        exact w_X3_start_b149 S hr hk hR hRc hrec123 hrm123 (show k0 ≤ ka τ146 ∧ s0 ≤ sl τ146 from (by omega : k0 ≤ ka τ146 ∧ s0 ≤ sl τ146)) X (lv_sub hl [0, 1] rfl) hg
set_option maxHeartbeats 4000000 in
set_option maxRecDepth 100000 in
theorem w_X3_start_L123 (S : CallFix p m c cX3_start 4 s args uG RX3) (hr : meth.sig.returnType = none) (hk : meth.locks = false) (hR : 197 ≤ R.frames ∧ 4792 ≤ R.locals) (hRc : ka τ - k0 ≤ R.cells ∧ sl τ - s0 ≤ R.slots) : ∀ (n : Nat) (sa va : Nat) (v3 : Int32) (σ : S5) (H : Heap) (locs : List Loc) (ls : Array Slot), k0 ≤ ka σ ∧ s0 ≤ sl σ → gX (dC, dI) (tK kc) (wK ad kc sa va) Z A s σ H locs → lv_has ls 4 [(0, .ref (ad 0)), (3, .int v3)] → f_X3_start_L123  n v3 σ = some (r, τ) → W p l e R s m args below meth c H locs (ka σ - k0) (sl σ - s0) (MQ below (gQy (dC, dI) (tK kc) (wK ad kc) A τ) args s (ka τ - k0) (sl τ - s0) A) (F0 m 123 ls []) := by
  intro n
  induction n with
  | zero => intro sa va v3 σ H locs ls hc X hl hg; cases hg
  | succ n ih => intro sa va v3 σ H locs ls hc X hl hg; exact w_X3_start_B123 S hr hk hR hRc ih (m_X3_start_L123 n) hc X hl hg
set_option maxHeartbeats 4000000 in
set_option maxRecDepth 100000 in
theorem w_X3_start_b121 {sa va : Nat} {σ : S5}  {H : Heap} {locs : List Loc} {ls : Array Slot} (S : CallFix p m c cX3_start 4 s args uG RX3) (hr : meth.sig.returnType = none) (hk : meth.locks = false) (hR : 197 ≤ R.frames ∧ 4792 ≤ R.locals) (hRc : ka τ - k0 ≤ R.cells ∧ sl τ - s0 ≤ R.slots)
    (hc : k0 ≤ ka σ ∧ s0 ≤ sl σ) (X : gX (dC, dI) (tK kc) (wK ad kc sa va) Z A s σ H locs) (hl : lv_has ls 4 [(0, .ref (ad 0))]) (hg : f_X3_start_b121  σ = some (r, τ)) : W p l e R s m args below meth c H locs (ka σ - k0) (sl σ - s0) (MQ below (gQy (dC, dI) (tK kc) (wK ad kc) A τ) args s (ka τ - k0) (sl τ - s0) A) (F0 m 121 ls []) := by
  have hx := S.1
  have hb := S.2.1
  have hown := S.2.2.2.1
  have hu := S.2.2.2.2
  have hn := m_X3_start_b121 hg
  have hm : ka σ = ka σ ∧ sl σ = sl σ := ⟨rfl, rfl⟩
  unfold f_X3_start_b121 at hg
  refine lv_iconst (v := 0) hx hb dX3_start_121 (by decide) ?_
  refine lv_istore_n (lv' := [(3, .int 0), (0, .ref (ad 0))]) hx hb dX3_start_122 rfl hl (by decide) rfl (fun ls hl => ?_)
  refine W.widen (k := ka σ - k0) (n := sl σ - s0) (show ka σ - k0 ≤ ka σ - k0 by omega) (show sl σ - s0 ≤ sl σ - s0 by omega) ?_
  exact w_X3_start_L123 S hr hk hR hRc _ _ _ _ _ _ _ _ (show k0 ≤ ka σ ∧ s0 ≤ sl σ from (by omega : k0 ≤ ka σ ∧ s0 ≤ sl σ)) X (lv_sub hl [1, 0] rfl) hg
set_option maxHeartbeats 4000000 in
set_option maxRecDepth 100000 in
theorem w_X3_start_b100 {sa va : Nat} {σ : S5}  {H : Heap} {locs : List Loc} {ls : Array Slot} (S : CallFix p m c cX3_start 4 s args uG RX3) (hr : meth.sig.returnType = none) (hk : meth.locks = false) (hR : 197 ≤ R.frames ∧ 4792 ≤ R.locals) (hRc : ka τ - k0 ≤ R.cells ∧ sl τ - s0 ≤ R.slots)
    (hc : k0 ≤ ka σ ∧ s0 ≤ sl σ) (X : gX (dC, dI) (tK kc) (wK ad kc sa va) Z A s σ H locs) (hl : lv_has ls 4 [(0, .ref (ad 0))]) (hg : f_X3_start_b100  σ = some (r, τ)) : W p l e R s m args below meth c H locs (ka σ - k0) (sl σ - s0) (MQ below (gQy (dC, dI) (tK kc) (wK ad kc) A τ) args s (ka τ - k0) (sl τ - s0) A) (F0 m 100 ls []) := by
  have hx := S.1
  have hb := S.2.1
  have hown := S.2.2.2.1
  have hu := S.2.2.2.2
  have hn := m_X3_start_b100 hg
  have hm : ka σ = ka σ ∧ sl σ = sl σ := ⟨rfl, rfl⟩
  unfold f_X3_start_b100 at hg
  refine lv_aload_n hx hb dX3_start_100 rfl (lv_at hl 0 rfl) ?_
  refine lv_bipush (v := 6) hx hb dX3_start_101 (by decide) ?_
  refine lv_aload_n hx hb dX3_start_103 rfl (lv_at hl 0 rfl) ?_
  refine wkgR_0_5 S X mG_668 dX3_start_104 ?_
  refine lv_aload_n hx hb dX3_start_107 rfl (lv_at hl 0 rfl) ?_
  refine wkgR_0_1 S X mG_661 dX3_start_108 ?_
  refine wkgI_7 (v := (gI σ 7)) S X mG_305 rfl dX3_start_111 ?_
  obtain ⟨hi114, hg⟩ := gd_some hg
  refine wklA_43 (v := (xA σ 43 (gI σ 7))) S X hi114 rfl dX3_start_114 ?_
  obtain ⟨r115, τ115, hq115, hg⟩ := bd_some hg
  obtain ⟨ha115, hg⟩ := gq_some hg
  obtain ⟨hz115, hg⟩ := gq_some hg
  have hk115 : ka τ115 = ka σ ∧ sl τ115 = sl σ := ka_same ha115 hz115
  refine gck_Tl (As := [.int 6, .int (xA σ 43 (gI σ 7))]) (rest := [.ref (ad 0)]) S X (k2_X0_value l dC dI ad kc sa va hq115 H.size) cw_X0_value mG_1826 rfl rfl hl.1 (Nat.le_of_ble_eq_true rfl) dX3_start_115 ⟨by omega, by omega⟩ ⟨by omega, by omega⟩ (fun H locs X => ?_)
  have hm : ka τ115 = ka σ ∧ sl τ115 = sl σ := by omega
  obtain ⟨r118, τ118, hq118, hg⟩ := bd_some hg
  obtain ⟨ha118, hg⟩ := gle_some hg
  obtain ⟨hz118, hg⟩ := gle_some hg
  have hk118 : ka τ115 ≤ ka τ118 ∧ sl τ115 ≤ sl τ118 := ka_mono ha118 hz118
  have hn2 : ka τ118 ≤ ka τ ∧ sl τ118 ≤ sl τ := m_X3_start_b121 hg
  refine gcy_V (w := wK ad kc) (As := [.long r115]) (rest := []) (q0 := 0) (ci := 6) (mc := ka τ118 - ka τ115) (ms := sl τ118 - sl τ115) S X (k2_X3_enter l dC dI ad kc sa va hq118 H.size) cw_X3_enter mG_1830 rfl rfl rfl rfl rfl hl.1 (Nat.le_of_ble_eq_true rfl) dX3_start_118 ⟨by omega, by omega⟩ ⟨by omega, by omega⟩ (fun sa va H locs X => ?_)
  refine W.widen (k := ka τ118 - k0) (n := sl τ118 - s0) (by omega) (by omega) ?_
  exact w_X3_start_b121 S hr hk hR hRc (show k0 ≤ ka τ118 ∧ s0 ≤ sl τ118 from (by omega : k0 ≤ ka τ118 ∧ s0 ≤ sl τ118)) X (lv_sub hl [0] rfl) hg
set_option maxHeartbeats 4000000 in
set_option maxRecDepth 100000 in
theorem w_X3_start_b83 {sa va : Nat} {σ : S5} {rec36 : Int32 → S5 → Option (Unit × S5)} {v3 : Int32} {H : Heap} {locs : List Loc} {ls : Array Slot} (S : CallFix p m c cX3_start 4 s args uG RX3) (hr : meth.sig.returnType = none) (hk : meth.locks = false) (hR : 197 ≤ R.frames ∧ 4792 ≤ R.locals) (hRc : ka τ - k0 ≤ R.cells ∧ sl τ - s0 ≤ R.slots)
    (hrec36 : ∀ (sa va : Nat) (v3 : Int32) (σ : S5) (H : Heap) (locs : List Loc) (ls : Array Slot), k0 ≤ ka σ ∧ s0 ≤ sl σ → gX (dC, dI) (tK kc) (wK ad kc sa va) Z A s σ H locs → lv_has ls 4 [(0, .ref (ad 0)), (3, .int v3)] → rec36 v3 σ = some (r, τ) → W p l e R s m args below meth c H locs (ka σ - k0) (sl σ - s0) (MQ below (gQy (dC, dI) (tK kc) (wK ad kc) A τ) args s (ka τ - k0) (sl τ - s0) A) (F0 m 36 ls [])) (hrm36 : ∀ (v3 : Int32) (σ : S5), rec36 v3 σ = some (r, τ) → ka σ ≤ ka τ ∧ sl σ ≤ sl τ)
    (hc : k0 ≤ ka σ ∧ s0 ≤ sl σ) (X : gX (dC, dI) (tK kc) (wK ad kc sa va) Z A s σ H locs) (hl : lv_has ls 4 [(0, .ref (ad 0)), (3, .int v3)]) (hg : f_X3_start_b83 rec36 v3 σ = some (r, τ)) : W p l e R s m args below meth c H locs (ka σ - k0) (sl σ - s0) (MQ below (gQy (dC, dI) (tK kc) (wK ad kc) A τ) args s (ka τ - k0) (sl τ - s0) A) (F0 m 83 ls []) := by
  have hx := S.1
  have hb := S.2.1
  have hown := S.2.2.2.1
  have hu := S.2.2.2.2
  have hn := m_X3_start_b83 hrm36 hg
  have hm : ka σ = ka σ ∧ sl σ = sl σ := ⟨rfl, rfl⟩
  unfold f_X3_start_b83 at hg
  refine lv_iinc (v := (v3 + 1)) (lv' := [(3, .int (v3 + 1)), (0, .ref (ad 0))]) hx hb dX3_start_83 hl (k := 1) rfl (by rfl) (by decide) rfl (fun ls hl => ?_)
  refine lv_goto (tgt := 36) hx hb dX3_start_86 (by decide) ?_
  refine W.widen (k := ka σ - k0) (n := sl σ - s0) (show ka σ - k0 ≤ ka σ - k0 by omega) (show sl σ - s0 ≤ sl σ - s0 by omega) ?_
  exact hrec36 _ _ _ _ _ _ _ (show k0 ≤ ka σ ∧ s0 ≤ sl σ from (by omega : k0 ≤ ka σ ∧ s0 ≤ sl σ)) X (lv_sub hl [1, 0] rfl) hg
set_option maxHeartbeats 4000000 in
set_option maxRecDepth 100000 in
theorem w_X3_start_B36 {sa va : Nat} {σ : S5} {rec36 : Int32 → S5 → Option (Unit × S5)} {v3 : Int32} {H : Heap} {locs : List Loc} {ls : Array Slot} (S : CallFix p m c cX3_start 4 s args uG RX3) (hr : meth.sig.returnType = none) (hk : meth.locks = false) (hR : 197 ≤ R.frames ∧ 4792 ≤ R.locals) (hRc : ka τ - k0 ≤ R.cells ∧ sl τ - s0 ≤ R.slots)
    (hrec36 : ∀ (sa va : Nat) (v3 : Int32) (σ : S5) (H : Heap) (locs : List Loc) (ls : Array Slot), k0 ≤ ka σ ∧ s0 ≤ sl σ → gX (dC, dI) (tK kc) (wK ad kc sa va) Z A s σ H locs → lv_has ls 4 [(0, .ref (ad 0)), (3, .int v3)] → rec36 v3 σ = some (r, τ) → W p l e R s m args below meth c H locs (ka σ - k0) (sl σ - s0) (MQ below (gQy (dC, dI) (tK kc) (wK ad kc) A τ) args s (ka τ - k0) (sl τ - s0) A) (F0 m 36 ls [])) (hrm36 : ∀ (v3 : Int32) (σ : S5), rec36 v3 σ = some (r, τ) → ka σ ≤ ka τ ∧ sl σ ≤ sl τ)
    (hc : k0 ≤ ka σ ∧ s0 ≤ sl σ) (X : gX (dC, dI) (tK kc) (wK ad kc sa va) Z A s σ H locs) (hl : lv_has ls 4 [(0, .ref (ad 0)), (3, .int v3)]) (hg : f_X3_start_B36 rec36 v3 σ = some (r, τ)) : W p l e R s m args below meth c H locs (ka σ - k0) (sl σ - s0) (MQ below (gQy (dC, dI) (tK kc) (wK ad kc) A τ) args s (ka τ - k0) (sl τ - s0) A) (F0 m 36 ls []) := by
  have hx := S.1
  have hb := S.2.1
  have hown := S.2.2.2.1
  have hu := S.2.2.2.2
  have hn := m_X3_start_B36 hrm36 hg
  have hm : ka σ = ka σ ∧ sl σ = sl σ := ⟨rfl, rfl⟩
  unfold f_X3_start_B36 at hg
  refine lv_iload_n hx hb dX3_start_36 rfl (lv_at hl 1 rfl) ?_
  refine lv_aload_n hx hb dX3_start_37 rfl (lv_at hl 0 rfl) ?_
  refine wkgR_0_1 S X mG_661 dX3_start_38 ?_
  refine wkgI_5 (v := (gI σ 5)) S X mG_296 rfl dX3_start_41 ?_
  refine lv_icmp_ge (tgt := 89) hx hb dX3_start_44 (by decide) (fun c44 => ?_) (fun c44 => ?_)
  · have hg := (if_pos c44).symm.trans hg
    refine lv_aload_n hx hb dX3_start_89 rfl (lv_at hl 0 rfl) ?_
    refine lv_bipush (v := 9) hx hb dX3_start_90 (by decide) ?_
    refine lv_iconst (v := 0) hx hb dX3_start_92 (by decide) ?_
    refine lv_iconst (v := 0) hx hb dX3_start_93 (by decide) ?_
    obtain ⟨r94, τ94, hq94, hg⟩ := bd_some hg
    obtain ⟨ha94, hg⟩ := gq_some hg
    obtain ⟨hz94, hg⟩ := gq_some hg
    have hk94 : ka τ94 = ka σ ∧ sl τ94 = sl σ := ka_same ha94 hz94
    refine gck_Sl (As := [.int 9, .int 0, .int 0]) (rest := [.ref (ad 0)]) S X (k2_X3_frame l dC dI ad kc sa va hq94 H.size) cw_X3_frame mG_1811 rfl rfl hl.1 (Nat.le_of_ble_eq_true rfl) dX3_start_94 ⟨by omega, by omega⟩ ⟨by omega, by omega⟩ (fun H locs X => ?_)
    have hm : ka τ94 = ka σ ∧ sl τ94 = sl σ := by omega
    obtain ⟨r97, τ97, hq97, hg⟩ := bd_some hg
    obtain ⟨ha97, hg⟩ := gle_some hg
    obtain ⟨hz97, hg⟩ := gle_some hg
    have hk97 : ka τ94 ≤ ka τ97 ∧ sl τ94 ≤ sl τ97 := ka_mono ha97 hz97
    have hn2 : ka τ97 ≤ ka τ ∧ sl τ97 ≤ sl τ := m_X3_start_b100 hg
    refine gcy_V (w := wK ad kc) (As := [.long r94]) (rest := []) (q0 := 0) (ci := 6) (mc := ka τ97 - ka τ94) (ms := sl τ97 - sl τ94) S X (k2_X3_push l dC dI ad kc sa va hq97 H.size) cw_X3_push mG_1814 rfl rfl rfl rfl rfl hl.1 (Nat.le_of_ble_eq_true rfl) dX3_start_97 ⟨by omega, by omega⟩ ⟨by omega, by omega⟩ (fun sa va H locs X => ?_)
    refine W.widen (k := ka τ97 - k0) (n := sl τ97 - s0) (by omega) (by omega) ?_
    exact w_X3_start_b100 S hr hk hR hRc (show k0 ≤ ka τ97 ∧ s0 ≤ sl τ97 from (by omega : k0 ≤ ka τ97 ∧ s0 ≤ sl τ97)) X (lv_sub hl [0] rfl) hg
  · have hg := (if_neg c44).symm.trans hg
    refine lv_aload_n hx hb dX3_start_47 rfl (lv_at hl 0 rfl) ?_
    refine wkgR_0_1 S X mG_661 dX3_start_48 ?_
    refine wkgR_2_7 S X mG_310 dX3_start_51 ?_
    refine lv_iload_n hx hb dX3_start_54 rfl (lv_at hl 1 rfl) ?_
    obtain ⟨hi55, hg⟩ := gd_some hg
    refine wklA_3 (v := (xA σ 3 v3)) S X hi55 rfl dX3_start_55 ?_
    refine lv_if_ne (tgt := 83) hx hb dX3_start_56 (by decide) (fun c56 => ?_) (fun c56 => ?_)
    · have hg := (if_neg c56).symm.trans hg
      refine W.widen (k := ka σ - k0) (n := sl σ - s0) (show ka σ - k0 ≤ ka σ - k0 by omega) (show sl σ - s0 ≤ sl σ - s0 by omega) ?_
      exact w_X3_start_b83 S hr hk hR hRc hrec36 hrm36 (show k0 ≤ ka σ ∧ s0 ≤ sl σ from (by omega : k0 ≤ ka σ ∧ s0 ≤ sl σ)) X (lv_sub hl [0, 1] rfl) hg
    · have hg := (if_pos c56).symm.trans hg
      refine lv_aload_n hx hb dX3_start_59 rfl (lv_at hl 0 rfl) ?_
      refine wkgR_0_5 S X mG_668 dX3_start_60 ?_
      refine lv_iload_n hx hb dX3_start_63 rfl (lv_at hl 1 rfl) ?_
      refine lv_aload_n hx hb dX3_start_64 rfl (lv_at hl 0 rfl) ?_
      refine wkgR_0_6 S X mG_669 dX3_start_65 ?_
      refine lv_iload_n hx hb dX3_start_68 rfl (lv_at hl 1 rfl) ?_
      refine lv_aload_n hx hb dX3_start_69 rfl (lv_at hl 0 rfl) ?_
      refine wkgR_0_1 S X mG_661 dX3_start_70 ?_
      refine wkgR_2_11 S X mG_324 dX3_start_73 ?_
      refine lv_iload_n hx hb dX3_start_76 rfl (lv_at hl 1 rfl) ?_
      obtain ⟨hi77, hg⟩ := gd_some hg
      refine wklA_7 (v := (xA σ 7 v3)) S X hi77 rfl dX3_start_77 ?_
      refine lv_iconst (v := 0) hx hb dX3_start_78 (by decide) ?_
      obtain ⟨r79, τ79, hq79, hg⟩ := bd_some hg
      obtain ⟨ha79, hg⟩ := gq_some hg
      obtain ⟨hz79, hg⟩ := gq_some hg
      have hk79 : ka τ79 = ka σ ∧ sl τ79 = sl σ := ka_same ha79 hz79
      refine gck_Vi (As := [.int v3, .int (xA σ 7 v3), .int 0]) (rest := [.int v3, .ref (ad 7)]) (q0 := 1) (ci := 3) S X (k2_X0_makeSuspension l dC dI ad kc sa va hq79 H.size) cw_X0_makeSuspension mG_1802 rfl rfl rfl rfl rfl hl.1 (Nat.le_of_ble_eq_true rfl) dX3_start_79 ⟨by omega, by omega⟩ ⟨by omega, by omega⟩ (fun H locs X => ?_)
      have hm : ka τ79 = ka σ ∧ sl τ79 = sl σ := by omega
      obtain ⟨hi82, hg⟩ := gd_some hg
      refine wksA_43 S X hi82 dX3_start_82 (fun H locs X => ?_)
      refine W.widen (k := ka (pA τ79 43 v3 r79) - k0) (n := sl (pA τ79 43 v3 r79) - s0) (show ka σ - k0 ≤ ka τ79 - k0 by omega) (show sl σ - s0 ≤ sl τ79 - s0 by omega) ?_
      exact w_X3_start_b83 S hr hk hR hRc hrec36 hrm36 (show k0 ≤ ka (pA τ79 43 v3 r79) ∧ s0 ≤ sl (pA τ79 43 v3 r79) from (by omega : k0 ≤ ka τ79 ∧ s0 ≤ sl τ79)) X (lv_sub hl [0, 1] rfl) hg
set_option maxHeartbeats 4000000 in
set_option maxRecDepth 100000 in
theorem w_X3_start_L36 (S : CallFix p m c cX3_start 4 s args uG RX3) (hr : meth.sig.returnType = none) (hk : meth.locks = false) (hR : 197 ≤ R.frames ∧ 4792 ≤ R.locals) (hRc : ka τ - k0 ≤ R.cells ∧ sl τ - s0 ≤ R.slots) : ∀ (n : Nat) (sa va : Nat) (v3 : Int32) (σ : S5) (H : Heap) (locs : List Loc) (ls : Array Slot), k0 ≤ ka σ ∧ s0 ≤ sl σ → gX (dC, dI) (tK kc) (wK ad kc sa va) Z A s σ H locs → lv_has ls 4 [(0, .ref (ad 0)), (3, .int v3)] → f_X3_start_L36  n v3 σ = some (r, τ) → W p l e R s m args below meth c H locs (ka σ - k0) (sl σ - s0) (MQ below (gQy (dC, dI) (tK kc) (wK ad kc) A τ) args s (ka τ - k0) (sl τ - s0) A) (F0 m 36 ls []) := by
  intro n
  induction n with
  | zero => intro sa va v3 σ H locs ls hc X hl hg; cases hg
  | succ n ih => intro sa va v3 σ H locs ls hc X hl hg; exact w_X3_start_B36 S hr hk hR hRc ih (m_X3_start_L36 n) hc X hl hg
set_option maxHeartbeats 4000000 in
set_option maxRecDepth 100000 in
theorem w_X3_start {sa va : Nat} {σ : S5} {a1 : Int32} {a2 : Int32} {H : Heap} {locs : List Loc} {ls : Array Slot} (S : CallFix p m c cX3_start 4 s args uG RX3) (hr : meth.sig.returnType = none) (hk : meth.locks = false) (hR : 197 ≤ R.frames ∧ 4792 ≤ R.locals) (hRc : ka τ - k0 ≤ R.cells ∧ sl τ - s0 ≤ R.slots)
    (hc : k0 ≤ ka σ ∧ s0 ≤ sl σ) (X : gX (dC, dI) (tK kc) (wK ad kc sa va) Z A s σ H locs) (hl : lv_has ls 4 [(0, .ref (ad 0)), (1, .int a1), (2, .int a2)]) (hg : f_X3_start a1 a2 σ = some (r, τ)) : W p l e R s m args below meth c H locs (ka σ - k0) (sl σ - s0) (MQ below (gQy (dC, dI) (tK kc) (wK ad kc) A τ) args s (ka τ - k0) (sl τ - s0) A) (F0 m 0 ls []) := by
  have hx := S.1
  have hb := S.2.1
  have hown := S.2.2.2.1
  have hu := S.2.2.2.2
  have hn := m_X3_start hg
  have hm : ka σ = ka σ ∧ sl σ = sl σ := ⟨rfl, rfl⟩
  unfold f_X3_start at hg
  refine lv_aload_n hx hb dX3_start_0 rfl (lv_at hl 0 rfl) ?_
  obtain ⟨r1, τ1, hq1, hg⟩ := bd_some hg
  obtain ⟨ha1, hg⟩ := gq_some hg
  obtain ⟨hz1, hg⟩ := gq_some hg
  have hk1 : ka τ1 = ka σ ∧ sl τ1 = sl σ := ka_same ha1 hz1
  refine gck_Vv (As := []) (rest := []) (q0 := 0) (ci := 6) S X (k2_X3_forget l dC dI ad kc sa va hq1 H.size) cw_X3_forget mG_1801 rfl rfl rfl rfl rfl hl.1 (Nat.le_of_ble_eq_true rfl) dX3_start_1 ⟨by omega, by omega⟩ ⟨by omega, by omega⟩ (fun H locs X => ?_)
  have hm : ka τ1 = ka σ ∧ sl τ1 = sl σ := by omega
  refine lv_aload_n hx hb dX3_start_4 rfl (lv_at hl 0 rfl) ?_
  refine lv_iload_n hx hb dX3_start_5 rfl (lv_at hl 1 rfl) ?_
  obtain ⟨hn6, hg⟩ := g_t_some hg
  refine wkpI_46 S X mG_679 hn6 dX3_start_6 (fun H locs X => ?_)
  refine lv_aload_n hx hb dX3_start_9 rfl (lv_at hl 0 rfl) ?_
  refine lv_iload_n hx hb dX3_start_10 rfl (lv_at hl 2 rfl) ?_
  refine wkpI_47 S X mG_680 dX3_start_11 (fun H locs X => ?_)
  refine lv_aload_n hx hb dX3_start_14 rfl (lv_at hl 0 rfl) ?_
  refine lv_iconst (v := 0) hx hb dX3_start_15 (by decide) ?_
  refine wkpI_40 S X mG_671 dX3_start_16 (fun H locs X => ?_)
  refine lv_aload_n hx hb dX3_start_19 rfl (lv_at hl 0 rfl) ?_
  refine lv_iconst (v := 0) hx hb dX3_start_20 (by decide) ?_
  refine wkpI_41 S X mG_673 dX3_start_21 (fun H locs X => ?_)
  refine lv_aload_n hx hb dX3_start_24 rfl (lv_at hl 0 rfl) ?_
  refine lv_iconst (v := 0) hx hb dX3_start_25 (by decide) ?_
  refine wkpI_42 S X mG_674 dX3_start_26 (fun H locs X => ?_)
  refine lv_aload_n hx hb dX3_start_29 rfl (lv_at hl 0 rfl) ?_
  refine lv_iconst (v := 0) hx hb dX3_start_30 (by decide) ?_
  refine wkpI_43 S X mG_675 dX3_start_31 (fun H locs X => ?_)
  refine lv_iconst (v := 0) hx hb dX3_start_34 (by decide) ?_
  refine lv_istore_n (lv' := [(3, .int 0), (0, .ref (ad 0)), (1, .int a1), (2, .int a2)]) hx hb dX3_start_35 rfl hl (by decide) rfl (fun ls hl => ?_)
  refine W.widen (k := ka (pI (pI (pI (pI (pI (pI τ1 46 a1) 47 a2) 40 0) 41 0) 42 0) 43 0) - k0) (n := sl (pI (pI (pI (pI (pI (pI τ1 46 a1) 47 a2) 40 0) 41 0) 42 0) 43 0) - s0) (show ka σ - k0 ≤ ka τ1 - k0 by omega) (show sl σ - s0 ≤ sl τ1 - s0 by omega) ?_
  exact w_X3_start_L36 S hr hk hR hRc _ _ _ _ _ _ _ _ (show k0 ≤ ka (pI (pI (pI (pI (pI (pI τ1 46 a1) 47 a2) 40 0) 41 0) 42 0) 43 0) ∧ s0 ≤ sl (pI (pI (pI (pI (pI (pI τ1 46 a1) 47 a2) 40 0) 41 0) 42 0) 43 0) from (by omega : k0 ≤ ka τ1 ∧ s0 ≤ sl τ1)) X (lv_sub hl [1, 0] rfl) hg
end MX3_start
set_option maxRecDepth 100000 in
theorem k2_X3_start (l : Launch) (dC : Nat → ClassId) (dI : Nat → Nat → Nat) {Z : ZZ} (ad : Nat → Nat) (kc : Nat → ClassId) (sa va : Nat) {σ τ : S5} {a1 : Int32} {a2 : Int32} {r : Unit} (hg : f_X3_start a1 a2 σ = some (r, τ)) (sz : Nat) : Met l yX3_start (Cond.code yX3_start cX3_start 4 none :: uG) { frames := 197, cells := ka τ - ka σ, slots := sl τ - sl σ, locals := 4792 } (gPc (dC, dI) (tK kc) (wK ad kc sa va) Z [.ref (ad 0), .int a1, .int a2] σ sz) (gQy (dC, dI) (tK kc) (wK ad kc) (va_A (wK ad kc sa va σ) sz) τ) (ka τ - ka σ) (sl τ - sl σ) (va_A (wK ad kc sa va σ) sz) :=
  gy_start (by decide) (Nat.le_of_ble_eq_true rfl) (fun p e s m below meth c ls S hr hk X hl => W.widen (Nat.zero_le _) (Nat.zero_le _) (w_X3_start (k0 := ka σ) (s0 := sl σ) S hr hk ⟨Nat.le_refl _, Nat.le_refl _⟩ ⟨Nat.le_refl _, Nat.le_refl _⟩ ⟨Nat.le_refl _, Nat.le_refl _⟩ X hl hg))

