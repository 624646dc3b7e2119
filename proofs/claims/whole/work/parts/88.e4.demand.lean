theorem sw_2_8 (x : Int32) : (x.toInt < 2 ∨ 8 < x.toInt) ∨ x = 2 ∨ x = 3 ∨ x = 4 ∨ x = 5 ∨ x = 6 ∨ x = 7 ∨ x = 8 := by
  by_cases h : x.toInt < 2 ∨ 8 < x.toInt
  · exact Or.inl h
  · have h2 : x.toInt = 2 ∨ x.toInt = 3 ∨ x.toInt = 4 ∨ x.toInt = 5 ∨ x.toInt = 6 ∨ x.toInt = 7 ∨ x.toInt = 8 := by omega
    refine Or.inr ?_
    rcases h2 with h | h | h | h | h | h | h
    · exact Or.inl (Int32.toInt_inj.mp (h.trans (by decide)))
    · exact Or.inr (Or.inl (Int32.toInt_inj.mp (h.trans (by decide))))
    · exact Or.inr (Or.inr (Or.inl (Int32.toInt_inj.mp (h.trans (by decide)))))
    · exact Or.inr (Or.inr (Or.inr (Or.inl (Int32.toInt_inj.mp (h.trans (by decide))))))
    · exact Or.inr (Or.inr (Or.inr (Or.inr (Or.inl (Int32.toInt_inj.mp (h.trans (by decide)))))))
    · exact Or.inr (Or.inr (Or.inr (Or.inr (Or.inr (Or.inl (Int32.toInt_inj.mp (h.trans (by decide))))))))
    · exact Or.inr (Or.inr (Or.inr (Or.inr (Or.inr (Or.inr (Int32.toInt_inj.mp (h.trans (by decide))))))))
theorem swo_2_8 {x : Int32} (h : x.toInt < 2 ∨ 8 < x.toInt) : ¬ x = 2 ∧ ¬ x = 3 ∧ ¬ x = 4 ∧ ¬ x = 5 ∧ ¬ x = 6 ∧ ¬ x = 7 ∧ ¬ x = 8 := by
  refine ⟨?_, ?_, ?_, ?_, ?_, ?_, ?_⟩ <;> (intro e; rw [e] at h; revert h; decide)


theorem mG_50 : Cond.selects "LazyForge$Demand" yX1_improve yX1_improve ∈ uG := uG_at 50 (by decide +kernel) (by decide +kernel)
theorem mG_51 : Cond.selects "LazyForge$Demand" yX1_settle yX1_settle ∈ uG := uG_at 51 (by decide +kernel) (by decide +kernel)
theorem mG_52 : Cond.selects "LazyForge$Demand" yX1_wordOf yX1_wordOf ∈ uG := uG_at 52 (by decide +kernel) (by decide +kernel)
theorem mG_53 : Cond.selects "LazyForge$Demand" yX1_alone yX1_alone ∈ uG := uG_at 53 (by decide +kernel) (by decide +kernel)
theorem mG_54 : Cond.selects "LazyForge$Demand" yX1_wordOfAlternatives yX1_wordOfAlternatives ∈ uG := uG_at 54 (by decide +kernel) (by decide +kernel)
theorem mG_55 : Cond.selects "LazyForge$Demand" yX1_wordOfLet yX1_wordOfLet ∈ uG := uG_at 55 (by decide +kernel) (by decide +kernel)
theorem mG_56 : Cond.selects "LazyForge$Demand" yX1_wordOfApplication yX1_wordOfApplication ∈ uG := uG_at 56 (by decide +kernel) (by decide +kernel)
theorem mG_57 : Cond.selects "LazyForge$Demand" yX1_compose yX1_compose ∈ uG := uG_at 57 (by decide +kernel) (by decide +kernel)
theorem mG_58 : Cond.selects "LazyForge$Demand" yX1_neededOf yX1_neededOf ∈ uG := uG_at 58 (by decide +kernel) (by decide +kernel)
theorem mG_59 : Cond.selects "LazyForge$Demand" yX1_markLet yX1_markLet ∈ uG := uG_at 59 (by decide +kernel) (by decide +kernel)
theorem mG_232 : Cond.initialized "java/util/Arrays" ∈ uG := uG_at 232 (by decide +kernel) (by decide +kernel)
theorem mG_286 : Cond.fieldLink "LazyForge$Demand" 121 "LazyForge$Program" "fields" "[I" ∈ uG := uG_at 286 (by decide +kernel) (by decide +kernel)
theorem mG_301 : Cond.fieldLink "LazyForge$Demand" 29 "LazyForge$Program" "functions" "I" ∈ uG := uG_at 301 (by decide +kernel) (by decide +kernel)
theorem mG_311 : Cond.fieldLink "LazyForge$Demand" 66 "LazyForge$Program" "parameters" "[I" ∈ uG := uG_at 311 (by decide +kernel) (by decide +kernel)
theorem mG_319 : Cond.fieldLink "LazyForge$Demand" 82 "LazyForge$Program" "variables" "[I" ∈ uG := uG_at 319 (by decide +kernel) (by decide +kernel)
theorem mG_326 : Cond.fieldLink "LazyForge$Demand" 79 "LazyForge$Program" "root" "[I" ∈ uG := uG_at 326 (by decide +kernel) (by decide +kernel)
theorem mG_334 : Cond.fieldLink "LazyForge$Demand" 137 "LazyForge$Program" "lets" "[I" ∈ uG := uG_at 334 (by decide +kernel) (by decide +kernel)
theorem mG_336 : Cond.fieldLink "LazyForge$Demand" 46 "LazyForge$Program" "needed" "[I" ∈ uG := uG_at 336 (by decide +kernel) (by decide +kernel)
theorem mG_381 : Cond.fieldLink "LazyForge$Demand" 59 "LazyForge$Tree" "kind" "[I" ∈ uG := uG_at 381 (by decide +kernel) (by decide +kernel)
theorem mG_387 : Cond.fieldLink "LazyForge$Demand" 101 "LazyForge$Tree" "value" "[I" ∈ uG := uG_at 387 (by decide +kernel) (by decide +kernel)
theorem mG_391 : Cond.fieldLink "LazyForge$Demand" 124 "LazyForge$Tree" "slot" "[I" ∈ uG := uG_at 391 (by decide +kernel) (by decide +kernel)
theorem mG_396 : Cond.fieldLink "LazyForge$Demand" 98 "LazyForge$Tree" "kid" "[I" ∈ uG := uG_at 396 (by decide +kernel) (by decide +kernel)
theorem mG_402 : Cond.fieldLink "LazyForge$Demand" 107 "LazyForge$Tree" "next" "[I" ∈ uG := uG_at 402 (by decide +kernel) (by decide +kernel)
theorem mG_411 : Cond.fieldLink "LazyForge$Demand" 134 "LazyForge$Tree" "used" "[J" ∈ uG := uG_at 411 (by decide +kernel) (by decide +kernel)
theorem mG_414 : Cond.fieldLink "LazyForge$Demand" 54 "LazyForge$Tree" "count" "I" ∈ uG := uG_at 414 (by decide +kernel) (by decide +kernel)
theorem mG_604 : Cond.fieldLink "LazyForge$Demand" 127 "LazyForge$Demand" "givens" "I" ∈ uG := uG_at 604 (by decide +kernel) (by decide +kernel)
theorem mG_605 : Cond.fieldLink "LazyForge$Demand" 73 "LazyForge$Demand" "lanes" "I" ∈ uG := uG_at 605 (by decide +kernel) (by decide +kernel)
theorem mG_606 : Cond.fieldLink "LazyForge$Demand" 89 "LazyForge$Demand" "grown" "Z" ∈ uG := uG_at 606 (by decide +kernel) (by decide +kernel)
theorem mG_1318 : Cond.methodLink "LazyForge$Demand" 35 yJ7_fill_bad5a ∈ uG := uG_at 1318 (by decide +kernel) (by decide +kernel)
theorem mG_1319 : Cond.static yJ7_fill_bad5a ∈ uG := uG_at 1319 (by decide +kernel) (by decide +kernel)
theorem mG_1320 : Cond.code yJ7_fill_bad5a prog_34_method_102_code 6 none ∈ uG := uG_at 1320 (by decide +kernel) (by decide +kernel)
theorem mG_1321 : Cond.methodLink "java/util/Arrays" 13 yJ7_rangeCheck_23922 ∈ uG := uG_at 1321 (by decide +kernel) (by decide +kernel)
theorem mG_1322 : Cond.static yJ7_rangeCheck_23922 ∈ uG := uG_at 1322 (by decide +kernel) (by decide +kernel)
theorem mG_1323 : Cond.code yJ7_rangeCheck_23922 prog_34_method_30_code 3 none ∈ uG := uG_at 1323 (by decide +kernel) (by decide +kernel)
theorem mG_1563 : Cond.constant "LazyForge$Demand" 41 1000000 ∈ uG := uG_at 1563 (by decide +kernel) (by decide +kernel)
theorem mG_1564 : Cond.methodLink "LazyForge$Demand" 42 yX1_improve ∈ uG := uG_at 1564 (by decide +kernel) (by decide +kernel)
theorem mG_1566 : Cond.instanceMethod yX1_improve ∈ uG := uG_at 1566 (by decide +kernel) (by decide +kernel)
theorem mG_1567 : Cond.code yX1_improve prog_3_method_5_code 8 (some .boolean) ∈ uG := uG_at 1567 (by decide +kernel) (by decide +kernel)
theorem mG_1568 : Cond.fieldLink "LazyForge$Demand" 76 "LazyForge$Demand" "LANE_BITS" "[J" ∈ uG := uG_at 1568 (by decide +kernel) (by decide +kernel)
theorem mG_1570 : Cond.methodLink "LazyForge$Demand" 85 yX1_settle ∈ uG := uG_at 1570 (by decide +kernel) (by decide +kernel)
theorem mG_1572 : Cond.instanceMethod yX1_settle ∈ uG := uG_at 1572 (by decide +kernel) (by decide +kernel)
theorem mG_1573 : Cond.code yX1_settle prog_3_method_6_code 7 (some .long) ∈ uG := uG_at 1573 (by decide +kernel) (by decide +kernel)
theorem mG_1574 : Cond.constant "LazyForge$Demand" 93 100000 ∈ uG := uG_at 1574 (by decide +kernel) (by decide +kernel)
theorem mG_1575 : Cond.methodLink "LazyForge$Demand" 94 yX1_wordOf ∈ uG := uG_at 1575 (by decide +kernel) (by decide +kernel)
theorem mG_1577 : Cond.instanceMethod yX1_wordOf ∈ uG := uG_at 1577 (by decide +kernel) (by decide +kernel)
theorem mG_1578 : Cond.code yX1_wordOf prog_3_method_7_code 3 (some .long) ∈ uG := uG_at 1578 (by decide +kernel) (by decide +kernel)
theorem mG_1579 : Cond.methodLink "LazyForge$Demand" 104 yX1_alone ∈ uG := uG_at 1579 (by decide +kernel) (by decide +kernel)
theorem mG_1581 : Cond.instanceMethod yX1_alone ∈ uG := uG_at 1581 (by decide +kernel) (by decide +kernel)
theorem mG_1582 : Cond.code yX1_alone prog_3_method_8_code 2 (some .long) ∈ uG := uG_at 1582 (by decide +kernel) (by decide +kernel)
theorem mG_1583 : Cond.constantLong "LazyForge$Demand" 119 (-1) ∈ uG := uG_at 1583 (by decide +kernel) (by decide +kernel)
theorem mG_1584 : Cond.methodLink "LazyForge$Demand" 110 yX1_wordOfAlternatives ∈ uG := uG_at 1584 (by decide +kernel) (by decide +kernel)
theorem mG_1586 : Cond.instanceMethod yX1_wordOfAlternatives ∈ uG := uG_at 1586 (by decide +kernel) (by decide +kernel)
theorem mG_1587 : Cond.code yX1_wordOfAlternatives prog_3_method_9_code 7 (some .long) ∈ uG := uG_at 1587 (by decide +kernel) (by decide +kernel)
theorem mG_1588 : Cond.methodLink "LazyForge$Demand" 113 yX1_wordOfLet ∈ uG := uG_at 1588 (by decide +kernel) (by decide +kernel)
theorem mG_1590 : Cond.instanceMethod yX1_wordOfLet ∈ uG := uG_at 1590 (by decide +kernel) (by decide +kernel)
theorem mG_1591 : Cond.code yX1_wordOfLet prog_3_method_10_code 7 (some .long) ∈ uG := uG_at 1591 (by decide +kernel) (by decide +kernel)
theorem mG_1592 : Cond.methodLink "LazyForge$Demand" 116 yX1_wordOfApplication ∈ uG := uG_at 1592 (by decide +kernel) (by decide +kernel)
theorem mG_1594 : Cond.instanceMethod yX1_wordOfApplication ∈ uG := uG_at 1594 (by decide +kernel) (by decide +kernel)
theorem mG_1595 : Cond.code yX1_wordOfApplication prog_3_method_11_code 10 (some .long) ∈ uG := uG_at 1595 (by decide +kernel) (by decide +kernel)
theorem mG_1596 : Cond.methodLink "LazyForge$Demand" 130 yX1_compose ∈ uG := uG_at 1596 (by decide +kernel) (by decide +kernel)
theorem mG_1598 : Cond.instanceMethod yX1_compose ∈ uG := uG_at 1598 (by decide +kernel) (by decide +kernel)
theorem mG_1599 : Cond.code yX1_compose prog_3_method_12_code 8 (some .long) ∈ uG := uG_at 1599 (by decide +kernel) (by decide +kernel)
theorem mG_1600 : Cond.methodLink "LazyForge$Demand" 69 yX1_look ∈ uG := uG_at 1600 (by decide +kernel) (by decide +kernel)
theorem mG_1601 : Cond.instanceMethod yX1_look ∈ uG := uG_at 1601 (by decide +kernel) (by decide +kernel)
theorem mG_1602 : Cond.selects "LazyForge$Demand" yX1_look yX1_look ∈ uG := uG_at 1602 (by decide +kernel) (by decide +kernel)
theorem mG_1603 : Cond.code yX1_look prog_3_method_2_code 3 (some .int) ∈ uG := uG_at 1603 (by decide +kernel) (by decide +kernel)
theorem mG_1604 : Cond.methodLink "LazyForge$Demand" 50 yX1_neededOf ∈ uG := uG_at 1604 (by decide +kernel) (by decide +kernel)
theorem mG_1606 : Cond.instanceMethod yX1_neededOf ∈ uG := uG_at 1606 (by decide +kernel) (by decide +kernel)
theorem mG_1607 : Cond.code yX1_neededOf prog_3_method_4_code 5 (some .int) ∈ uG := uG_at 1607 (by decide +kernel) (by decide +kernel)
theorem mG_1608 : Cond.methodLink "LazyForge$Demand" 62 yX1_markLet ∈ uG := uG_at 1608 (by decide +kernel) (by decide +kernel)
theorem mG_1610 : Cond.instanceMethod yX1_markLet ∈ uG := uG_at 1610 (by decide +kernel) (by decide +kernel)
theorem mG_1611 : Cond.code yX1_markLet prog_3_method_13_code 6 none ∈ uG := uG_at 1611 (by decide +kernel) (by decide +kernel)
theorem dJ7_fill_bad5a_0 : decode cJ7_fill_bad5a 0 = .ok (.aload_n 0, 1) := by decide +kernel
theorem dJ7_fill_bad5a_1 : decode cJ7_fill_bad5a 1 = .ok (.arraylength, 1) := by decide +kernel
theorem dJ7_fill_bad5a_2 : decode cJ7_fill_bad5a 2 = .ok (.iload_n 1, 1) := by decide +kernel
theorem dJ7_fill_bad5a_3 : decode cJ7_fill_bad5a 3 = .ok (.iload_n 2, 1) := by decide +kernel
theorem dJ7_fill_bad5a_4 : decode cJ7_fill_bad5a 4 = .ok (.invokestatic 13, 3) := by decide +kernel
theorem dJ7_fill_bad5a_7 : decode cJ7_fill_bad5a 7 = .ok (.iload_n 1, 1) := by decide +kernel
theorem dJ7_fill_bad5a_8 : decode cJ7_fill_bad5a 8 = .ok (.istore 5, 2) := by decide +kernel
theorem dJ7_fill_bad5a_10 : decode cJ7_fill_bad5a 10 = .ok (.iload 5, 2) := by decide +kernel
theorem dJ7_fill_bad5a_12 : decode cJ7_fill_bad5a 12 = .ok (.iload_n 2, 1) := by decide +kernel
theorem dJ7_fill_bad5a_13 : decode cJ7_fill_bad5a 13 = .ok (.if_icmp .ge 14, 3) := by decide +kernel
theorem dJ7_fill_bad5a_16 : decode cJ7_fill_bad5a 16 = .ok (.aload_n 0, 1) := by decide +kernel
theorem dJ7_fill_bad5a_17 : decode cJ7_fill_bad5a 17 = .ok (.iload 5, 2) := by decide +kernel
theorem dJ7_fill_bad5a_19 : decode cJ7_fill_bad5a 19 = .ok (.lload_n 3, 1) := by decide +kernel
theorem dJ7_fill_bad5a_20 : decode cJ7_fill_bad5a 20 = .ok (.lastore, 1) := by decide +kernel
theorem dJ7_fill_bad5a_21 : decode cJ7_fill_bad5a 21 = .ok (.iinc 5 1, 3) := by decide +kernel
theorem dJ7_fill_bad5a_24 : decode cJ7_fill_bad5a 24 = .ok (.goto (-14), 3) := by decide +kernel
theorem dJ7_fill_bad5a_27 : decode cJ7_fill_bad5a 27 = .ok (.return_, 1) := by decide +kernel
theorem dJ7_rangeCheck_23922_0 : decode cJ7_rangeCheck_23922 0 = .ok (.iload_n 1, 1) := by decide +kernel
theorem dJ7_rangeCheck_23922_1 : decode cJ7_rangeCheck_23922 1 = .ok (.iload_n 2, 1) := by decide +kernel
theorem dJ7_rangeCheck_23922_2 : decode cJ7_rangeCheck_23922 2 = .ok (.if_icmp .le 44, 3) := by decide +kernel
theorem dJ7_rangeCheck_23922_5 : decode cJ7_rangeCheck_23922 5 = .ok (.new 43, 3) := by decide +kernel
theorem dJ7_rangeCheck_23922_8 : decode cJ7_rangeCheck_23922 8 = .ok (.dup, 1) := by decide +kernel
theorem dJ7_rangeCheck_23922_9 : decode cJ7_rangeCheck_23922 9 = .ok (.new 45, 3) := by decide +kernel
theorem dJ7_rangeCheck_23922_12 : decode cJ7_rangeCheck_23922 12 = .ok (.dup, 1) := by decide +kernel
theorem dJ7_rangeCheck_23922_13 : decode cJ7_rangeCheck_23922 13 = .ok (.invokespecial 47, 3) := by decide +kernel
theorem dJ7_rangeCheck_23922_16 : decode cJ7_rangeCheck_23922 16 = .ok (.ldc 48, 2) := by decide +kernel
theorem dJ7_rangeCheck_23922_18 : decode cJ7_rangeCheck_23922 18 = .ok (.invokevirtual 50, 3) := by decide +kernel
theorem dJ7_rangeCheck_23922_21 : decode cJ7_rangeCheck_23922 21 = .ok (.iload_n 1, 1) := by decide +kernel
theorem dJ7_rangeCheck_23922_22 : decode cJ7_rangeCheck_23922 22 = .ok (.invokevirtual 54, 3) := by decide +kernel
theorem dJ7_rangeCheck_23922_25 : decode cJ7_rangeCheck_23922 25 = .ok (.ldc 57, 2) := by decide +kernel
theorem dJ7_rangeCheck_23922_27 : decode cJ7_rangeCheck_23922 27 = .ok (.invokevirtual 50, 3) := by decide +kernel
theorem dJ7_rangeCheck_23922_30 : decode cJ7_rangeCheck_23922 30 = .ok (.iload_n 2, 1) := by decide +kernel
theorem dJ7_rangeCheck_23922_31 : decode cJ7_rangeCheck_23922 31 = .ok (.invokevirtual 54, 3) := by decide +kernel
theorem dJ7_rangeCheck_23922_34 : decode cJ7_rangeCheck_23922 34 = .ok (.ldc 59, 2) := by decide +kernel
theorem dJ7_rangeCheck_23922_36 : decode cJ7_rangeCheck_23922 36 = .ok (.invokevirtual 50, 3) := by decide +kernel
theorem dJ7_rangeCheck_23922_39 : decode cJ7_rangeCheck_23922 39 = .ok (.invokevirtual 61, 3) := by decide +kernel
theorem dJ7_rangeCheck_23922_42 : decode cJ7_rangeCheck_23922 42 = .ok (.invokespecial 65, 3) := by decide +kernel
theorem dJ7_rangeCheck_23922_45 : decode cJ7_rangeCheck_23922 45 = .ok (.athrow, 1) := by decide +kernel
theorem dJ7_rangeCheck_23922_46 : decode cJ7_rangeCheck_23922 46 = .ok (.iload_n 1, 1) := by decide +kernel
theorem dJ7_rangeCheck_23922_47 : decode cJ7_rangeCheck_23922 47 = .ok (.ifCond .ge 12, 3) := by decide +kernel
theorem dJ7_rangeCheck_23922_50 : decode cJ7_rangeCheck_23922 50 = .ok (.new 68, 3) := by decide +kernel
theorem dJ7_rangeCheck_23922_53 : decode cJ7_rangeCheck_23922 53 = .ok (.dup, 1) := by decide +kernel
theorem dJ7_rangeCheck_23922_54 : decode cJ7_rangeCheck_23922 54 = .ok (.iload_n 1, 1) := by decide +kernel
theorem dJ7_rangeCheck_23922_55 : decode cJ7_rangeCheck_23922 55 = .ok (.invokespecial 70, 3) := by decide +kernel
theorem dJ7_rangeCheck_23922_58 : decode cJ7_rangeCheck_23922 58 = .ok (.athrow, 1) := by decide +kernel
theorem dJ7_rangeCheck_23922_59 : decode cJ7_rangeCheck_23922 59 = .ok (.iload_n 2, 1) := by decide +kernel
theorem dJ7_rangeCheck_23922_60 : decode cJ7_rangeCheck_23922 60 = .ok (.iload_n 0, 1) := by decide +kernel
theorem dJ7_rangeCheck_23922_61 : decode cJ7_rangeCheck_23922 61 = .ok (.if_icmp .le 12, 3) := by decide +kernel
theorem dJ7_rangeCheck_23922_64 : decode cJ7_rangeCheck_23922 64 = .ok (.new 68, 3) := by decide +kernel
theorem dJ7_rangeCheck_23922_67 : decode cJ7_rangeCheck_23922 67 = .ok (.dup, 1) := by decide +kernel
theorem dJ7_rangeCheck_23922_68 : decode cJ7_rangeCheck_23922 68 = .ok (.iload_n 2, 1) := by decide +kernel
theorem dJ7_rangeCheck_23922_69 : decode cJ7_rangeCheck_23922 69 = .ok (.invokespecial 70, 3) := by decide +kernel
theorem dJ7_rangeCheck_23922_72 : decode cJ7_rangeCheck_23922 72 = .ok (.athrow, 1) := by decide +kernel
theorem dJ7_rangeCheck_23922_73 : decode cJ7_rangeCheck_23922 73 = .ok (.return_, 1) := by decide +kernel
theorem dX1_alone_0 : decode cX1_alone 0 = .ok (.aload_n 0, 1) := by decide +kernel
theorem dX1_alone_1 : decode cX1_alone 1 = .ok (.getfield 25, 3) := by decide +kernel
theorem dX1_alone_4 : decode cX1_alone 4 = .ok (.getfield 66, 3) := by decide +kernel
theorem dX1_alone_7 : decode cX1_alone 7 = .ok (.iload_n 1, 1) := by decide +kernel
theorem dX1_alone_8 : decode cX1_alone 8 = .ok (.iaload, 1) := by decide +kernel
theorem dX1_alone_9 : decode cX1_alone 9 = .ok (.ifCond .le 9, 3) := by decide +kernel
theorem dX1_alone_12 : decode cX1_alone 12 = .ok (.ldc2_w 119, 3) := by decide +kernel
theorem dX1_alone_15 : decode cX1_alone 15 = .ok (.goto 14, 3) := by decide +kernel
theorem dX1_alone_18 : decode cX1_alone 18 = .ok (.aload_n 0, 1) := by decide +kernel
theorem dX1_alone_19 : decode cX1_alone 19 = .ok (.getfield 11, 3) := by decide +kernel
theorem dX1_alone_22 : decode cX1_alone 22 = .ok (.iload_n 1, 1) := by decide +kernel
theorem dX1_alone_23 : decode cX1_alone 23 = .ok (.iconst 4, 1) := by decide +kernel
theorem dX1_alone_24 : decode cX1_alone 24 = .ok (.imul, 1) := by decide +kernel
theorem dX1_alone_25 : decode cX1_alone 25 = .ok (.laload, 1) := by decide +kernel
theorem dX1_alone_26 : decode cX1_alone 26 = .ok (.lconst 1, 1) := by decide +kernel
theorem dX1_alone_27 : decode cX1_alone 27 = .ok (.land, 1) := by decide +kernel
theorem dX1_alone_28 : decode cX1_alone 28 = .ok (.lneg, 1) := by decide +kernel
theorem dX1_alone_29 : decode cX1_alone 29 = .ok (.lreturn, 1) := by decide +kernel
theorem dX1_compose_0 : decode cX1_compose 0 = .ok (.lconst 0, 1) := by decide +kernel
theorem dX1_compose_1 : decode cX1_compose 1 = .ok (.lstore_n 3, 1) := by decide +kernel
theorem dX1_compose_2 : decode cX1_compose 2 = .ok (.iconst 0, 1) := by decide +kernel
theorem dX1_compose_3 : decode cX1_compose 3 = .ok (.istore 5, 2) := by decide +kernel
theorem dX1_compose_5 : decode cX1_compose 5 = .ok (.iload 5, 2) := by decide +kernel
theorem dX1_compose_7 : decode cX1_compose 7 = .ok (.aload_n 0, 1) := by decide +kernel
theorem dX1_compose_8 : decode cX1_compose 8 = .ok (.getfield 73, 3) := by decide +kernel
theorem dX1_compose_11 : decode cX1_compose 11 = .ok (.if_icmp .ge 67, 3) := by decide +kernel
theorem dX1_compose_14 : decode cX1_compose 14 = .ok (.iconst 0, 1) := by decide +kernel
theorem dX1_compose_15 : decode cX1_compose 15 = .ok (.istore 6, 2) := by decide +kernel
theorem dX1_compose_17 : decode cX1_compose 17 = .ok (.iload_n 2, 1) := by decide +kernel
theorem dX1_compose_18 : decode cX1_compose 18 = .ok (.istore 7, 2) := by decide +kernel
theorem dX1_compose_20 : decode cX1_compose 20 = .ok (.iload 7, 2) := by decide +kernel
theorem dX1_compose_22 : decode cX1_compose 22 = .ok (.aload_n 0, 1) := by decide +kernel
theorem dX1_compose_23 : decode cX1_compose 23 = .ok (.getfield 127, 3) := by decide +kernel
theorem dX1_compose_26 : decode cX1_compose 26 = .ok (.if_icmp .ge 32, 3) := by decide +kernel
theorem dX1_compose_29 : decode cX1_compose 29 = .ok (.iload 6, 2) := by decide +kernel
theorem dX1_compose_31 : decode cX1_compose 31 = .ok (.aload_n 0, 1) := by decide +kernel
theorem dX1_compose_32 : decode cX1_compose 32 = .ok (.getfield 18, 3) := by decide +kernel
theorem dX1_compose_35 : decode cX1_compose 35 = .ok (.iload 7, 2) := by decide +kernel
theorem dX1_compose_37 : decode cX1_compose 37 = .ok (.laload, 1) := by decide +kernel
theorem dX1_compose_38 : decode cX1_compose 38 = .ok (.iload 5, 2) := by decide +kernel
theorem dX1_compose_40 : decode cX1_compose 40 = .ok (.lushr, 1) := by decide +kernel
theorem dX1_compose_41 : decode cX1_compose 41 = .ok (.lconst 1, 1) := by decide +kernel
theorem dX1_compose_42 : decode cX1_compose 42 = .ok (.land, 1) := by decide +kernel
theorem dX1_compose_43 : decode cX1_compose 43 = .ok (.l2i, 1) := by decide +kernel
theorem dX1_compose_44 : decode cX1_compose 44 = .ok (.iload 7, 2) := by decide +kernel
theorem dX1_compose_46 : decode cX1_compose 46 = .ok (.iload_n 2, 1) := by decide +kernel
theorem dX1_compose_47 : decode cX1_compose 47 = .ok (.isub, 1) := by decide +kernel
theorem dX1_compose_48 : decode cX1_compose 48 = .ok (.ishl, 1) := by decide +kernel
theorem dX1_compose_49 : decode cX1_compose 49 = .ok (.ior, 1) := by decide +kernel
theorem dX1_compose_50 : decode cX1_compose 50 = .ok (.istore 6, 2) := by decide +kernel
theorem dX1_compose_52 : decode cX1_compose 52 = .ok (.iinc 7 1, 3) := by decide +kernel
theorem dX1_compose_55 : decode cX1_compose 55 = .ok (.goto (-35), 3) := by decide +kernel
theorem dX1_compose_58 : decode cX1_compose 58 = .ok (.lload_n 3, 1) := by decide +kernel
theorem dX1_compose_59 : decode cX1_compose 59 = .ok (.aload_n 0, 1) := by decide +kernel
theorem dX1_compose_60 : decode cX1_compose 60 = .ok (.iload_n 1, 1) := by decide +kernel
theorem dX1_compose_61 : decode cX1_compose 61 = .ok (.iload 6, 2) := by decide +kernel
theorem dX1_compose_63 : decode cX1_compose 63 = .ok (.invokevirtual 69, 3) := by decide +kernel
theorem dX1_compose_66 : decode cX1_compose 66 = .ok (.i2l, 1) := by decide +kernel
theorem dX1_compose_67 : decode cX1_compose 67 = .ok (.iload 5, 2) := by decide +kernel
theorem dX1_compose_69 : decode cX1_compose 69 = .ok (.lshl, 1) := by decide +kernel
theorem dX1_compose_70 : decode cX1_compose 70 = .ok (.lor, 1) := by decide +kernel
theorem dX1_compose_71 : decode cX1_compose 71 = .ok (.lstore_n 3, 1) := by decide +kernel
theorem dX1_compose_72 : decode cX1_compose 72 = .ok (.iinc 5 1, 3) := by decide +kernel
theorem dX1_compose_75 : decode cX1_compose 75 = .ok (.goto (-70), 3) := by decide +kernel
theorem dX1_compose_78 : decode cX1_compose 78 = .ok (.lload_n 3, 1) := by decide +kernel
theorem dX1_compose_79 : decode cX1_compose 79 = .ok (.lreturn, 1) := by decide +kernel
theorem dX1_improve_0 : decode cX1_improve 0 = .ok (.aload_n 0, 1) := by decide +kernel
theorem dX1_improve_1 : decode cX1_improve 1 = .ok (.getfield 25, 3) := by decide +kernel
theorem dX1_improve_4 : decode cX1_improve 4 = .ok (.getfield 66, 3) := by decide +kernel
theorem dX1_improve_7 : decode cX1_improve 7 = .ok (.iload_n 1, 1) := by decide +kernel
theorem dX1_improve_8 : decode cX1_improve 8 = .ok (.iaload, 1) := by decide +kernel
theorem dX1_improve_9 : decode cX1_improve 9 = .ok (.istore_n 2, 1) := by decide +kernel
theorem dX1_improve_10 : decode cX1_improve 10 = .ok (.aload_n 0, 1) := by decide +kernel
theorem dX1_improve_11 : decode cX1_improve 11 = .ok (.iload_n 2, 1) := by decide +kernel
theorem dX1_improve_12 : decode cX1_improve 12 = .ok (.bipush 6, 2) := by decide +kernel
theorem dX1_improve_14 : decode cX1_improve 14 = .ok (.if_icmp .lt 8, 3) := by decide +kernel
theorem dX1_improve_17 : decode cX1_improve 17 = .ok (.bipush 64, 2) := by decide +kernel
theorem dX1_improve_19 : decode cX1_improve 19 = .ok (.goto 6, 3) := by decide +kernel
theorem dX1_improve_22 : decode cX1_improve 22 = .ok (.iconst 1, 1) := by decide +kernel
theorem dX1_improve_23 : decode cX1_improve 23 = .ok (.iload_n 2, 1) := by decide +kernel
theorem dX1_improve_24 : decode cX1_improve 24 = .ok (.ishl, 1) := by decide +kernel
theorem dX1_improve_25 : decode cX1_improve 25 = .ok (.putfield 73, 3) := by decide +kernel
theorem dX1_improve_28 : decode cX1_improve 28 = .ok (.iload_n 2, 1) := by decide +kernel
theorem dX1_improve_29 : decode cX1_improve 29 = .ok (.bipush 6, 2) := by decide +kernel
theorem dX1_improve_31 : decode cX1_improve 31 = .ok (.if_icmp .gt 7, 3) := by decide +kernel
theorem dX1_improve_34 : decode cX1_improve 34 = .ok (.iconst 1, 1) := by decide +kernel
theorem dX1_improve_35 : decode cX1_improve 35 = .ok (.goto 9, 3) := by decide +kernel
theorem dX1_improve_38 : decode cX1_improve 38 = .ok (.iconst 1, 1) := by decide +kernel
theorem dX1_improve_39 : decode cX1_improve 39 = .ok (.iload_n 2, 1) := by decide +kernel
theorem dX1_improve_40 : decode cX1_improve 40 = .ok (.bipush 6, 2) := by decide +kernel
theorem dX1_improve_42 : decode cX1_improve 42 = .ok (.isub, 1) := by decide +kernel
theorem dX1_improve_43 : decode cX1_improve 43 = .ok (.ishl, 1) := by decide +kernel
theorem dX1_improve_44 : decode cX1_improve 44 = .ok (.istore_n 3, 1) := by decide +kernel
theorem dX1_improve_45 : decode cX1_improve 45 = .ok (.iconst 0, 1) := by decide +kernel
theorem dX1_improve_46 : decode cX1_improve 46 = .ok (.istore 4, 2) := by decide +kernel
theorem dX1_improve_48 : decode cX1_improve 48 = .ok (.iconst 0, 1) := by decide +kernel
theorem dX1_improve_49 : decode cX1_improve 49 = .ok (.istore 5, 2) := by decide +kernel
theorem dX1_improve_51 : decode cX1_improve 51 = .ok (.iload 5, 2) := by decide +kernel
theorem dX1_improve_53 : decode cX1_improve 53 = .ok (.iload_n 3, 1) := by decide +kernel
theorem dX1_improve_54 : decode cX1_improve 54 = .ok (.if_icmp .ge 124, 3) := by decide +kernel
theorem dX1_improve_57 : decode cX1_improve 57 = .ok (.iconst 0, 1) := by decide +kernel
theorem dX1_improve_58 : decode cX1_improve 58 = .ok (.istore 6, 2) := by decide +kernel
theorem dX1_improve_60 : decode cX1_improve 60 = .ok (.iload 6, 2) := by decide +kernel
theorem dX1_improve_62 : decode cX1_improve 62 = .ok (.iload_n 2, 1) := by decide +kernel
theorem dX1_improve_63 : decode cX1_improve 63 = .ok (.if_icmp .ge 44, 3) := by decide +kernel
theorem dX1_improve_66 : decode cX1_improve 66 = .ok (.aload_n 0, 1) := by decide +kernel
theorem dX1_improve_67 : decode cX1_improve 67 = .ok (.getfield 15, 3) := by decide +kernel
theorem dX1_improve_70 : decode cX1_improve 70 = .ok (.iload 6, 2) := by decide +kernel
theorem dX1_improve_72 : decode cX1_improve 72 = .ok (.iload 6, 2) := by decide +kernel
theorem dX1_improve_74 : decode cX1_improve 74 = .ok (.bipush 6, 2) := by decide +kernel
theorem dX1_improve_76 : decode cX1_improve 76 = .ok (.if_icmp .ge 12, 3) := by decide +kernel
theorem dX1_improve_79 : decode cX1_improve 79 = .ok (.getstatic 76, 3) := by decide +kernel
theorem dX1_improve_82 : decode cX1_improve 82 = .ok (.iload 6, 2) := by decide +kernel
theorem dX1_improve_84 : decode cX1_improve 84 = .ok (.laload, 1) := by decide +kernel
theorem dX1_improve_85 : decode cX1_improve 85 = .ok (.goto 15, 3) := by decide +kernel
theorem dX1_improve_88 : decode cX1_improve 88 = .ok (.iload 5, 2) := by decide +kernel
theorem dX1_improve_90 : decode cX1_improve 90 = .ok (.iload 6, 2) := by decide +kernel
theorem dX1_improve_92 : decode cX1_improve 92 = .ok (.bipush 6, 2) := by decide +kernel
theorem dX1_improve_94 : decode cX1_improve 94 = .ok (.isub, 1) := by decide +kernel
theorem dX1_improve_95 : decode cX1_improve 95 = .ok (.iushr, 1) := by decide +kernel
theorem dX1_improve_96 : decode cX1_improve 96 = .ok (.iconst 1, 1) := by decide +kernel
theorem dX1_improve_97 : decode cX1_improve 97 = .ok (.iand, 1) := by decide +kernel
theorem dX1_improve_98 : decode cX1_improve 98 = .ok (.i2l, 1) := by decide +kernel
theorem dX1_improve_99 : decode cX1_improve 99 = .ok (.lneg, 1) := by decide +kernel
theorem dX1_improve_100 : decode cX1_improve 100 = .ok (.lastore, 1) := by decide +kernel
theorem dX1_improve_101 : decode cX1_improve 101 = .ok (.iinc 6 1, 3) := by decide +kernel
theorem dX1_improve_104 : decode cX1_improve 104 = .ok (.goto (-44), 3) := by decide +kernel
theorem dX1_improve_107 : decode cX1_improve 107 = .ok (.aload_n 0, 1) := by decide +kernel
theorem dX1_improve_108 : decode cX1_improve 108 = .ok (.aload_n 0, 1) := by decide +kernel
theorem dX1_improve_109 : decode cX1_improve 109 = .ok (.getfield 25, 3) := by decide +kernel
theorem dX1_improve_112 : decode cX1_improve 112 = .ok (.getfield 79, 3) := by decide +kernel
theorem dX1_improve_115 : decode cX1_improve 115 = .ok (.iload_n 1, 1) := by decide +kernel
theorem dX1_improve_116 : decode cX1_improve 116 = .ok (.iaload, 1) := by decide +kernel
theorem dX1_improve_117 : decode cX1_improve 117 = .ok (.iload_n 2, 1) := by decide +kernel
theorem dX1_improve_118 : decode cX1_improve 118 = .ok (.aload_n 0, 1) := by decide +kernel
theorem dX1_improve_119 : decode cX1_improve 119 = .ok (.getfield 25, 3) := by decide +kernel
theorem dX1_improve_122 : decode cX1_improve 122 = .ok (.getfield 82, 3) := by decide +kernel
theorem dX1_improve_125 : decode cX1_improve 125 = .ok (.iload_n 1, 1) := by decide +kernel
theorem dX1_improve_126 : decode cX1_improve 126 = .ok (.iaload, 1) := by decide +kernel
theorem dX1_improve_127 : decode cX1_improve 127 = .ok (.invokevirtual 85, 3) := by decide +kernel
theorem dX1_improve_130 : decode cX1_improve 130 = .ok (.lstore 6, 2) := by decide +kernel
theorem dX1_improve_132 : decode cX1_improve 132 = .ok (.iload 4, 2) := by decide +kernel
theorem dX1_improve_134 : decode cX1_improve 134 = .ok (.lload 6, 2) := by decide +kernel
theorem dX1_improve_136 : decode cX1_improve 136 = .ok (.aload_n 0, 1) := by decide +kernel
theorem dX1_improve_137 : decode cX1_improve 137 = .ok (.getfield 11, 3) := by decide +kernel
theorem dX1_improve_140 : decode cX1_improve 140 = .ok (.iload_n 1, 1) := by decide +kernel
theorem dX1_improve_141 : decode cX1_improve 141 = .ok (.iconst 4, 1) := by decide +kernel
theorem dX1_improve_142 : decode cX1_improve 142 = .ok (.imul, 1) := by decide +kernel
theorem dX1_improve_143 : decode cX1_improve 143 = .ok (.iload 5, 2) := by decide +kernel
theorem dX1_improve_145 : decode cX1_improve 145 = .ok (.iadd, 1) := by decide +kernel
theorem dX1_improve_146 : decode cX1_improve 146 = .ok (.laload, 1) := by decide +kernel
theorem dX1_improve_147 : decode cX1_improve 147 = .ok (.lcmp, 1) := by decide +kernel
theorem dX1_improve_148 : decode cX1_improve 148 = .ok (.ifCond .eq 7, 3) := by decide +kernel
theorem dX1_improve_151 : decode cX1_improve 151 = .ok (.iconst 1, 1) := by decide +kernel
theorem dX1_improve_152 : decode cX1_improve 152 = .ok (.goto 4, 3) := by decide +kernel
theorem dX1_improve_155 : decode cX1_improve 155 = .ok (.iconst 0, 1) := by decide +kernel
theorem dX1_improve_156 : decode cX1_improve 156 = .ok (.ior, 1) := by decide +kernel
theorem dX1_improve_157 : decode cX1_improve 157 = .ok (.istore 4, 2) := by decide +kernel
theorem dX1_improve_159 : decode cX1_improve 159 = .ok (.aload_n 0, 1) := by decide +kernel
theorem dX1_improve_160 : decode cX1_improve 160 = .ok (.getfield 11, 3) := by decide +kernel
theorem dX1_improve_163 : decode cX1_improve 163 = .ok (.iload_n 1, 1) := by decide +kernel
theorem dX1_improve_164 : decode cX1_improve 164 = .ok (.iconst 4, 1) := by decide +kernel
theorem dX1_improve_165 : decode cX1_improve 165 = .ok (.imul, 1) := by decide +kernel
theorem dX1_improve_166 : decode cX1_improve 166 = .ok (.iload 5, 2) := by decide +kernel
theorem dX1_improve_168 : decode cX1_improve 168 = .ok (.iadd, 1) := by decide +kernel
theorem dX1_improve_169 : decode cX1_improve 169 = .ok (.lload 6, 2) := by decide +kernel
theorem dX1_improve_171 : decode cX1_improve 171 = .ok (.lastore, 1) := by decide +kernel
theorem dX1_improve_172 : decode cX1_improve 172 = .ok (.iinc 5 1, 3) := by decide +kernel
theorem dX1_improve_175 : decode cX1_improve 175 = .ok (.goto (-124), 3) := by decide +kernel
theorem dX1_improve_178 : decode cX1_improve 178 = .ok (.iload 4, 2) := by decide +kernel
theorem dX1_improve_180 : decode cX1_improve 180 = .ok (.ireturn, 1) := by decide +kernel
theorem dX1_look_0 : decode cX1_look 0 = .ok (.aload_n 0, 1) := by decide +kernel
theorem dX1_look_1 : decode cX1_look 1 = .ok (.getfield 11, 3) := by decide +kernel
theorem dX1_look_4 : decode cX1_look 4 = .ok (.iload_n 1, 1) := by decide +kernel
theorem dX1_look_5 : decode cX1_look 5 = .ok (.iconst 4, 1) := by decide +kernel
theorem dX1_look_6 : decode cX1_look 6 = .ok (.imul, 1) := by decide +kernel
theorem dX1_look_7 : decode cX1_look 7 = .ok (.iload_n 2, 1) := by decide +kernel
theorem dX1_look_8 : decode cX1_look 8 = .ok (.bipush 6, 2) := by decide +kernel
theorem dX1_look_10 : decode cX1_look 10 = .ok (.iushr, 1) := by decide +kernel
theorem dX1_look_11 : decode cX1_look 11 = .ok (.iconst 3, 1) := by decide +kernel
theorem dX1_look_12 : decode cX1_look 12 = .ok (.iand, 1) := by decide +kernel
theorem dX1_look_13 : decode cX1_look 13 = .ok (.iadd, 1) := by decide +kernel
theorem dX1_look_14 : decode cX1_look 14 = .ok (.laload, 1) := by decide +kernel
theorem dX1_look_15 : decode cX1_look 15 = .ok (.iload_n 2, 1) := by decide +kernel
theorem dX1_look_16 : decode cX1_look 16 = .ok (.bipush 63, 2) := by decide +kernel
theorem dX1_look_18 : decode cX1_look 18 = .ok (.iand, 1) := by decide +kernel
theorem dX1_look_19 : decode cX1_look 19 = .ok (.lushr, 1) := by decide +kernel
theorem dX1_look_20 : decode cX1_look 20 = .ok (.l2i, 1) := by decide +kernel
theorem dX1_look_21 : decode cX1_look 21 = .ok (.iconst 1, 1) := by decide +kernel
theorem dX1_look_22 : decode cX1_look 22 = .ok (.iand, 1) := by decide +kernel
theorem dX1_look_23 : decode cX1_look 23 = .ok (.ireturn, 1) := by decide +kernel
theorem dX1_markLet_0 : decode cX1_markLet 0 = .ok (.aload_n 0, 1) := by decide +kernel
theorem dX1_markLet_1 : decode cX1_markLet 1 = .ok (.getfield 21, 3) := by decide +kernel
theorem dX1_markLet_4 : decode cX1_markLet 4 = .ok (.getfield 98, 3) := by decide +kernel
theorem dX1_markLet_7 : decode cX1_markLet 7 = .ok (.iload_n 1, 1) := by decide +kernel
theorem dX1_markLet_8 : decode cX1_markLet 8 = .ok (.iaload, 1) := by decide +kernel
theorem dX1_markLet_9 : decode cX1_markLet 9 = .ok (.istore_n 2, 1) := by decide +kernel
theorem dX1_markLet_10 : decode cX1_markLet 10 = .ok (.aload_n 0, 1) := by decide +kernel
theorem dX1_markLet_11 : decode cX1_markLet 11 = .ok (.getfield 21, 3) := by decide +kernel
theorem dX1_markLet_14 : decode cX1_markLet 14 = .ok (.getfield 107, 3) := by decide +kernel
theorem dX1_markLet_17 : decode cX1_markLet 17 = .ok (.iload_n 2, 1) := by decide +kernel
theorem dX1_markLet_18 : decode cX1_markLet 18 = .ok (.iaload, 1) := by decide +kernel
theorem dX1_markLet_19 : decode cX1_markLet 19 = .ok (.istore_n 3, 1) := by decide +kernel
theorem dX1_markLet_20 : decode cX1_markLet 20 = .ok (.aload_n 0, 1) := by decide +kernel
theorem dX1_markLet_21 : decode cX1_markLet 21 = .ok (.getfield 21, 3) := by decide +kernel
theorem dX1_markLet_24 : decode cX1_markLet 24 = .ok (.getfield 101, 3) := by decide +kernel
theorem dX1_markLet_27 : decode cX1_markLet 27 = .ok (.iload_n 3, 1) := by decide +kernel
theorem dX1_markLet_28 : decode cX1_markLet 28 = .ok (.iaload, 1) := by decide +kernel
theorem dX1_markLet_29 : decode cX1_markLet 29 = .ok (.istore 4, 2) := by decide +kernel
theorem dX1_markLet_31 : decode cX1_markLet 31 = .ok (.aload_n 0, 1) := by decide +kernel
theorem dX1_markLet_32 : decode cX1_markLet 32 = .ok (.getfield 21, 3) := by decide +kernel
theorem dX1_markLet_35 : decode cX1_markLet 35 = .ok (.getfield 124, 3) := by decide +kernel
theorem dX1_markLet_38 : decode cX1_markLet 38 = .ok (.iload_n 1, 1) := by decide +kernel
theorem dX1_markLet_39 : decode cX1_markLet 39 = .ok (.iaload, 1) := by decide +kernel
theorem dX1_markLet_40 : decode cX1_markLet 40 = .ok (.istore 5, 2) := by decide +kernel
theorem dX1_markLet_42 : decode cX1_markLet 42 = .ok (.aload_n 0, 1) := by decide +kernel
theorem dX1_markLet_43 : decode cX1_markLet 43 = .ok (.getfield 21, 3) := by decide +kernel
theorem dX1_markLet_46 : decode cX1_markLet 46 = .ok (.getfield 101, 3) := by decide +kernel
theorem dX1_markLet_49 : decode cX1_markLet 49 = .ok (.iload_n 1, 1) := by decide +kernel
theorem dX1_markLet_50 : decode cX1_markLet 50 = .ok (.iconst 0, 1) := by decide +kernel
theorem dX1_markLet_51 : decode cX1_markLet 51 = .ok (.iastore, 1) := by decide +kernel
theorem dX1_markLet_52 : decode cX1_markLet 52 = .ok (.aload_n 0, 1) := by decide +kernel
theorem dX1_markLet_53 : decode cX1_markLet 53 = .ok (.getfield 21, 3) := by decide +kernel
theorem dX1_markLet_56 : decode cX1_markLet 56 = .ok (.getfield 107, 3) := by decide +kernel
theorem dX1_markLet_59 : decode cX1_markLet 59 = .ok (.iload_n 3, 1) := by decide +kernel
theorem dX1_markLet_60 : decode cX1_markLet 60 = .ok (.iaload, 1) := by decide +kernel
theorem dX1_markLet_61 : decode cX1_markLet 61 = .ok (.iconst (-1), 1) := by decide +kernel
theorem dX1_markLet_62 : decode cX1_markLet 62 = .ok (.if_icmp .ne 30, 3) := by decide +kernel
theorem dX1_markLet_65 : decode cX1_markLet 65 = .ok (.aload_n 0, 1) := by decide +kernel
theorem dX1_markLet_66 : decode cX1_markLet 66 = .ok (.getfield 21, 3) := by decide +kernel
theorem dX1_markLet_69 : decode cX1_markLet 69 = .ok (.getfield 134, 3) := by decide +kernel
theorem dX1_markLet_72 : decode cX1_markLet 72 = .ok (.aload_n 0, 1) := by decide +kernel
theorem dX1_markLet_73 : decode cX1_markLet 73 = .ok (.getfield 21, 3) := by decide +kernel
theorem dX1_markLet_76 : decode cX1_markLet 76 = .ok (.getfield 98, 3) := by decide +kernel
theorem dX1_markLet_79 : decode cX1_markLet 79 = .ok (.iload_n 3, 1) := by decide +kernel
theorem dX1_markLet_80 : decode cX1_markLet 80 = .ok (.iaload, 1) := by decide +kernel
theorem dX1_markLet_81 : decode cX1_markLet 81 = .ok (.laload, 1) := by decide +kernel
theorem dX1_markLet_82 : decode cX1_markLet 82 = .ok (.iload 4, 2) := by decide +kernel
theorem dX1_markLet_84 : decode cX1_markLet 84 = .ok (.lushr, 1) := by decide +kernel
theorem dX1_markLet_85 : decode cX1_markLet 85 = .ok (.lconst 1, 1) := by decide +kernel
theorem dX1_markLet_86 : decode cX1_markLet 86 = .ok (.land, 1) := by decide +kernel
theorem dX1_markLet_87 : decode cX1_markLet 87 = .ok (.lconst 0, 1) := by decide +kernel
theorem dX1_markLet_88 : decode cX1_markLet 88 = .ok (.lcmp, 1) := by decide +kernel
theorem dX1_markLet_89 : decode cX1_markLet 89 = .ok (.ifCond .eq 4, 3) := by decide +kernel
theorem dX1_markLet_92 : decode cX1_markLet 92 = .ok (.return_, 1) := by decide +kernel
theorem dX1_markLet_93 : decode cX1_markLet 93 = .ok (.aload_n 0, 1) := by decide +kernel
theorem dX1_markLet_94 : decode cX1_markLet 94 = .ok (.iconst 1, 1) := by decide +kernel
theorem dX1_markLet_95 : decode cX1_markLet 95 = .ok (.putfield 73, 3) := by decide +kernel
theorem dX1_markLet_98 : decode cX1_markLet 98 = .ok (.aload_n 0, 1) := by decide +kernel
theorem dX1_markLet_99 : decode cX1_markLet 99 = .ok (.getfield 15, 3) := by decide +kernel
theorem dX1_markLet_102 : decode cX1_markLet 102 = .ok (.iconst 0, 1) := by decide +kernel
theorem dX1_markLet_103 : decode cX1_markLet 103 = .ok (.iload 4, 2) := by decide +kernel
theorem dX1_markLet_105 : decode cX1_markLet 105 = .ok (.ldc2_w 119, 3) := by decide +kernel
theorem dX1_markLet_108 : decode cX1_markLet 108 = .ok (.invokestatic 35, 3) := by decide +kernel
theorem dX1_markLet_111 : decode cX1_markLet 111 = .ok (.aload_n 0, 1) := by decide +kernel
theorem dX1_markLet_112 : decode cX1_markLet 112 = .ok (.iload_n 2, 1) := by decide +kernel
theorem dX1_markLet_113 : decode cX1_markLet 113 = .ok (.iload 4, 2) := by decide +kernel
theorem dX1_markLet_115 : decode cX1_markLet 115 = .ok (.aload_n 0, 1) := by decide +kernel
theorem dX1_markLet_116 : decode cX1_markLet 116 = .ok (.getfield 25, 3) := by decide +kernel
theorem dX1_markLet_119 : decode cX1_markLet 119 = .ok (.getfield 82, 3) := by decide +kernel
theorem dX1_markLet_122 : decode cX1_markLet 122 = .ok (.iload 5, 2) := by decide +kernel
theorem dX1_markLet_124 : decode cX1_markLet 124 = .ok (.iaload, 1) := by decide +kernel
theorem dX1_markLet_125 : decode cX1_markLet 125 = .ok (.invokevirtual 85, 3) := by decide +kernel
theorem dX1_markLet_128 : decode cX1_markLet 128 = .ok (.lconst 0, 1) := by decide +kernel
theorem dX1_markLet_129 : decode cX1_markLet 129 = .ok (.lcmp, 1) := by decide +kernel
theorem dX1_markLet_130 : decode cX1_markLet 130 = .ok (.ifCond .ne 27, 3) := by decide +kernel
theorem dX1_markLet_133 : decode cX1_markLet 133 = .ok (.aload_n 0, 1) := by decide +kernel
theorem dX1_markLet_134 : decode cX1_markLet 134 = .ok (.getfield 21, 3) := by decide +kernel
theorem dX1_markLet_137 : decode cX1_markLet 137 = .ok (.getfield 101, 3) := by decide +kernel
theorem dX1_markLet_140 : decode cX1_markLet 140 = .ok (.iload_n 1, 1) := by decide +kernel
theorem dX1_markLet_141 : decode cX1_markLet 141 = .ok (.iconst 1, 1) := by decide +kernel
theorem dX1_markLet_142 : decode cX1_markLet 142 = .ok (.iastore, 1) := by decide +kernel
theorem dX1_markLet_143 : decode cX1_markLet 143 = .ok (.aload_n 0, 1) := by decide +kernel
theorem dX1_markLet_144 : decode cX1_markLet 144 = .ok (.getfield 25, 3) := by decide +kernel
theorem dX1_markLet_147 : decode cX1_markLet 147 = .ok (.getfield 137, 3) := by decide +kernel
theorem dX1_markLet_150 : decode cX1_markLet 150 = .ok (.iload 5, 2) := by decide +kernel
theorem dX1_markLet_152 : decode cX1_markLet 152 = .ok (.dup2, 1) := by decide +kernel
theorem dX1_markLet_153 : decode cX1_markLet 153 = .ok (.iaload, 1) := by decide +kernel
theorem dX1_markLet_154 : decode cX1_markLet 154 = .ok (.iconst 1, 1) := by decide +kernel
theorem dX1_markLet_155 : decode cX1_markLet 155 = .ok (.iadd, 1) := by decide +kernel
theorem dX1_markLet_156 : decode cX1_markLet 156 = .ok (.iastore, 1) := by decide +kernel
theorem dX1_markLet_157 : decode cX1_markLet 157 = .ok (.return_, 1) := by decide +kernel
theorem dX1_neededOf_0 : decode cX1_neededOf 0 = .ok (.iconst 1, 1) := by decide +kernel
theorem dX1_neededOf_1 : decode cX1_neededOf 1 = .ok (.aload_n 0, 1) := by decide +kernel
theorem dX1_neededOf_2 : decode cX1_neededOf 2 = .ok (.getfield 25, 3) := by decide +kernel
theorem dX1_neededOf_5 : decode cX1_neededOf 5 = .ok (.getfield 66, 3) := by decide +kernel
theorem dX1_neededOf_8 : decode cX1_neededOf 8 = .ok (.iload_n 1, 1) := by decide +kernel
theorem dX1_neededOf_9 : decode cX1_neededOf 9 = .ok (.iaload, 1) := by decide +kernel
theorem dX1_neededOf_10 : decode cX1_neededOf 10 = .ok (.ishl, 1) := by decide +kernel
theorem dX1_neededOf_11 : decode cX1_neededOf 11 = .ok (.iconst 1, 1) := by decide +kernel
theorem dX1_neededOf_12 : decode cX1_neededOf 12 = .ok (.isub, 1) := by decide +kernel
theorem dX1_neededOf_13 : decode cX1_neededOf 13 = .ok (.istore_n 2, 1) := by decide +kernel
theorem dX1_neededOf_14 : decode cX1_neededOf 14 = .ok (.iconst 0, 1) := by decide +kernel
theorem dX1_neededOf_15 : decode cX1_neededOf 15 = .ok (.istore_n 3, 1) := by decide +kernel
theorem dX1_neededOf_16 : decode cX1_neededOf 16 = .ok (.iconst 0, 1) := by decide +kernel
theorem dX1_neededOf_17 : decode cX1_neededOf 17 = .ok (.istore 4, 2) := by decide +kernel
theorem dX1_neededOf_19 : decode cX1_neededOf 19 = .ok (.iload 4, 2) := by decide +kernel
theorem dX1_neededOf_21 : decode cX1_neededOf 21 = .ok (.aload_n 0, 1) := by decide +kernel
theorem dX1_neededOf_22 : decode cX1_neededOf 22 = .ok (.getfield 25, 3) := by decide +kernel
theorem dX1_neededOf_25 : decode cX1_neededOf 25 = .ok (.getfield 66, 3) := by decide +kernel
theorem dX1_neededOf_28 : decode cX1_neededOf 28 = .ok (.iload_n 1, 1) := by decide +kernel
theorem dX1_neededOf_29 : decode cX1_neededOf 29 = .ok (.iaload, 1) := by decide +kernel
theorem dX1_neededOf_30 : decode cX1_neededOf 30 = .ok (.if_icmp .ge 36, 3) := by decide +kernel
theorem dX1_neededOf_33 : decode cX1_neededOf 33 = .ok (.iload_n 3, 1) := by decide +kernel
theorem dX1_neededOf_34 : decode cX1_neededOf 34 = .ok (.aload_n 0, 1) := by decide +kernel
theorem dX1_neededOf_35 : decode cX1_neededOf 35 = .ok (.iload_n 1, 1) := by decide +kernel
theorem dX1_neededOf_36 : decode cX1_neededOf 36 = .ok (.iload_n 2, 1) := by decide +kernel
theorem dX1_neededOf_37 : decode cX1_neededOf 37 = .ok (.iconst 1, 1) := by decide +kernel
theorem dX1_neededOf_38 : decode cX1_neededOf 38 = .ok (.iload 4, 2) := by decide +kernel
theorem dX1_neededOf_40 : decode cX1_neededOf 40 = .ok (.ishl, 1) := by decide +kernel
theorem dX1_neededOf_41 : decode cX1_neededOf 41 = .ok (.iconst (-1), 1) := by decide +kernel
theorem dX1_neededOf_42 : decode cX1_neededOf 42 = .ok (.ixor, 1) := by decide +kernel
theorem dX1_neededOf_43 : decode cX1_neededOf 43 = .ok (.iand, 1) := by decide +kernel
theorem dX1_neededOf_44 : decode cX1_neededOf 44 = .ok (.invokevirtual 69, 3) := by decide +kernel
theorem dX1_neededOf_47 : decode cX1_neededOf 47 = .ok (.ifCond .ne 10, 3) := by decide +kernel
theorem dX1_neededOf_50 : decode cX1_neededOf 50 = .ok (.iconst 1, 1) := by decide +kernel
theorem dX1_neededOf_51 : decode cX1_neededOf 51 = .ok (.iload 4, 2) := by decide +kernel
theorem dX1_neededOf_53 : decode cX1_neededOf 53 = .ok (.ishl, 1) := by decide +kernel
theorem dX1_neededOf_54 : decode cX1_neededOf 54 = .ok (.goto 4, 3) := by decide +kernel
theorem dX1_neededOf_57 : decode cX1_neededOf 57 = .ok (.iconst 0, 1) := by decide +kernel
theorem dX1_neededOf_58 : decode cX1_neededOf 58 = .ok (.ior, 1) := by decide +kernel
theorem dX1_neededOf_59 : decode cX1_neededOf 59 = .ok (.istore_n 3, 1) := by decide +kernel
theorem dX1_neededOf_60 : decode cX1_neededOf 60 = .ok (.iinc 4 1, 3) := by decide +kernel
theorem dX1_neededOf_63 : decode cX1_neededOf 63 = .ok (.goto (-44), 3) := by decide +kernel
theorem dX1_neededOf_66 : decode cX1_neededOf 66 = .ok (.iload_n 3, 1) := by decide +kernel
theorem dX1_neededOf_67 : decode cX1_neededOf 67 = .ok (.ireturn, 1) := by decide +kernel
theorem dX1_settle_0 : decode cX1_settle 0 = .ok (.iload_n 2, 1) := by decide +kernel
theorem dX1_settle_1 : decode cX1_settle 1 = .ok (.istore 4, 2) := by decide +kernel
theorem dX1_settle_3 : decode cX1_settle 3 = .ok (.iload 4, 2) := by decide +kernel
theorem dX1_settle_5 : decode cX1_settle 5 = .ok (.iload_n 3, 1) := by decide +kernel
theorem dX1_settle_6 : decode cX1_settle 6 = .ok (.if_icmp .ge 17, 3) := by decide +kernel
theorem dX1_settle_9 : decode cX1_settle 9 = .ok (.aload_n 0, 1) := by decide +kernel
theorem dX1_settle_10 : decode cX1_settle 10 = .ok (.getfield 15, 3) := by decide +kernel
theorem dX1_settle_13 : decode cX1_settle 13 = .ok (.iload 4, 2) := by decide +kernel
theorem dX1_settle_15 : decode cX1_settle 15 = .ok (.lconst 0, 1) := by decide +kernel
theorem dX1_settle_16 : decode cX1_settle 16 = .ok (.lastore, 1) := by decide +kernel
theorem dX1_settle_17 : decode cX1_settle 17 = .ok (.iinc 4 1, 3) := by decide +kernel
theorem dX1_settle_20 : decode cX1_settle 20 = .ok (.goto (-17), 3) := by decide +kernel
theorem dX1_settle_23 : decode cX1_settle 23 = .ok (.lconst 0, 1) := by decide +kernel
theorem dX1_settle_24 : decode cX1_settle 24 = .ok (.lstore 4, 2) := by decide +kernel
theorem dX1_settle_26 : decode cX1_settle 26 = .ok (.aload_n 0, 1) := by decide +kernel
theorem dX1_settle_27 : decode cX1_settle 27 = .ok (.iconst 1, 1) := by decide +kernel
theorem dX1_settle_28 : decode cX1_settle 28 = .ok (.putfield 89, 3) := by decide +kernel
theorem dX1_settle_31 : decode cX1_settle 31 = .ok (.iconst 0, 1) := by decide +kernel
theorem dX1_settle_32 : decode cX1_settle 32 = .ok (.istore 6, 2) := by decide +kernel
theorem dX1_settle_34 : decode cX1_settle 34 = .ok (.iload 6, 2) := by decide +kernel
theorem dX1_settle_36 : decode cX1_settle 36 = .ok (.ldc 93, 2) := by decide +kernel
theorem dX1_settle_38 : decode cX1_settle 38 = .ok (.if_icmp .ge 28, 3) := by decide +kernel
theorem dX1_settle_41 : decode cX1_settle 41 = .ok (.aload_n 0, 1) := by decide +kernel
theorem dX1_settle_42 : decode cX1_settle 42 = .ok (.getfield 89, 3) := by decide +kernel
theorem dX1_settle_45 : decode cX1_settle 45 = .ok (.ifCond .eq 21, 3) := by decide +kernel
theorem dX1_settle_48 : decode cX1_settle 48 = .ok (.aload_n 0, 1) := by decide +kernel
theorem dX1_settle_49 : decode cX1_settle 49 = .ok (.iconst 0, 1) := by decide +kernel
theorem dX1_settle_50 : decode cX1_settle 50 = .ok (.putfield 89, 3) := by decide +kernel
theorem dX1_settle_53 : decode cX1_settle 53 = .ok (.aload_n 0, 1) := by decide +kernel
theorem dX1_settle_54 : decode cX1_settle 54 = .ok (.iload_n 1, 1) := by decide +kernel
theorem dX1_settle_55 : decode cX1_settle 55 = .ok (.invokevirtual 94, 3) := by decide +kernel
theorem dX1_settle_58 : decode cX1_settle 58 = .ok (.lstore 4, 2) := by decide +kernel
theorem dX1_settle_60 : decode cX1_settle 60 = .ok (.iinc 6 1, 3) := by decide +kernel
theorem dX1_settle_63 : decode cX1_settle 63 = .ok (.goto (-29), 3) := by decide +kernel
theorem dX1_settle_66 : decode cX1_settle 66 = .ok (.aload_n 0, 1) := by decide +kernel
theorem dX1_settle_67 : decode cX1_settle 67 = .ok (.getfield 73, 3) := by decide +kernel
theorem dX1_settle_70 : decode cX1_settle 70 = .ok (.bipush 64, 2) := by decide +kernel
theorem dX1_settle_72 : decode cX1_settle 72 = .ok (.if_icmp .ne 8, 3) := by decide +kernel
theorem dX1_settle_75 : decode cX1_settle 75 = .ok (.lload 4, 2) := by decide +kernel
theorem dX1_settle_77 : decode cX1_settle 77 = .ok (.goto 14, 3) := by decide +kernel
theorem dX1_settle_80 : decode cX1_settle 80 = .ok (.lload 4, 2) := by decide +kernel
theorem dX1_settle_82 : decode cX1_settle 82 = .ok (.lconst 1, 1) := by decide +kernel
theorem dX1_settle_83 : decode cX1_settle 83 = .ok (.aload_n 0, 1) := by decide +kernel
theorem dX1_settle_84 : decode cX1_settle 84 = .ok (.getfield 73, 3) := by decide +kernel
theorem dX1_settle_87 : decode cX1_settle 87 = .ok (.lshl, 1) := by decide +kernel
theorem dX1_settle_88 : decode cX1_settle 88 = .ok (.lconst 1, 1) := by decide +kernel
theorem dX1_settle_89 : decode cX1_settle 89 = .ok (.lsub, 1) := by decide +kernel
theorem dX1_settle_90 : decode cX1_settle 90 = .ok (.land, 1) := by decide +kernel
theorem dX1_settle_91 : decode cX1_settle 91 = .ok (.lreturn, 1) := by decide +kernel
theorem dX1_solve_0 : decode cX1_solve 0 = .ok (.aload_n 0, 1) := by decide +kernel
theorem dX1_solve_1 : decode cX1_solve 1 = .ok (.getfield 11, 3) := by decide +kernel
theorem dX1_solve_4 : decode cX1_solve 4 = .ok (.iconst 0, 1) := by decide +kernel
theorem dX1_solve_5 : decode cX1_solve 5 = .ok (.aload_n 0, 1) := by decide +kernel
theorem dX1_solve_6 : decode cX1_solve 6 = .ok (.getfield 25, 3) := by decide +kernel
theorem dX1_solve_9 : decode cX1_solve 9 = .ok (.getfield 29, 3) := by decide +kernel
theorem dX1_solve_12 : decode cX1_solve 12 = .ok (.iconst 4, 1) := by decide +kernel
theorem dX1_solve_13 : decode cX1_solve 13 = .ok (.imul, 1) := by decide +kernel
theorem dX1_solve_14 : decode cX1_solve 14 = .ok (.lconst 0, 1) := by decide +kernel
theorem dX1_solve_15 : decode cX1_solve 15 = .ok (.invokestatic 35, 3) := by decide +kernel
theorem dX1_solve_18 : decode cX1_solve 18 = .ok (.iconst 1, 1) := by decide +kernel
theorem dX1_solve_19 : decode cX1_solve 19 = .ok (.istore_n 1, 1) := by decide +kernel
theorem dX1_solve_20 : decode cX1_solve 20 = .ok (.iconst 0, 1) := by decide +kernel
theorem dX1_solve_21 : decode cX1_solve 21 = .ok (.istore_n 2, 1) := by decide +kernel
theorem dX1_solve_22 : decode cX1_solve 22 = .ok (.iload_n 2, 1) := by decide +kernel
theorem dX1_solve_23 : decode cX1_solve 23 = .ok (.ldc 41, 2) := by decide +kernel
theorem dX1_solve_25 : decode cX1_solve 25 = .ok (.if_icmp .ge 43, 3) := by decide +kernel
theorem dX1_solve_28 : decode cX1_solve 28 = .ok (.iload_n 1, 1) := by decide +kernel
theorem dX1_solve_29 : decode cX1_solve 29 = .ok (.ifCond .eq 39, 3) := by decide +kernel
theorem dX1_solve_32 : decode cX1_solve 32 = .ok (.iconst 0, 1) := by decide +kernel
theorem dX1_solve_33 : decode cX1_solve 33 = .ok (.istore_n 1, 1) := by decide +kernel
theorem dX1_solve_34 : decode cX1_solve 34 = .ok (.aload_n 0, 1) := by decide +kernel
theorem dX1_solve_35 : decode cX1_solve 35 = .ok (.getfield 25, 3) := by decide +kernel
theorem dX1_solve_38 : decode cX1_solve 38 = .ok (.getfield 29, 3) := by decide +kernel
theorem dX1_solve_41 : decode cX1_solve 41 = .ok (.iconst 1, 1) := by decide +kernel
theorem dX1_solve_42 : decode cX1_solve 42 = .ok (.isub, 1) := by decide +kernel
theorem dX1_solve_43 : decode cX1_solve 43 = .ok (.istore_n 3, 1) := by decide +kernel
theorem dX1_solve_44 : decode cX1_solve 44 = .ok (.iload_n 3, 1) := by decide +kernel
theorem dX1_solve_45 : decode cX1_solve 45 = .ok (.ifCond .lt 17, 3) := by decide +kernel
theorem dX1_solve_48 : decode cX1_solve 48 = .ok (.iload_n 1, 1) := by decide +kernel
theorem dX1_solve_49 : decode cX1_solve 49 = .ok (.aload_n 0, 1) := by decide +kernel
theorem dX1_solve_50 : decode cX1_solve 50 = .ok (.iload_n 3, 1) := by decide +kernel
theorem dX1_solve_51 : decode cX1_solve 51 = .ok (.invokevirtual 42, 3) := by decide +kernel
theorem dX1_solve_54 : decode cX1_solve 54 = .ok (.ior, 1) := by decide +kernel
theorem dX1_solve_55 : decode cX1_solve 55 = .ok (.istore_n 1, 1) := by decide +kernel
theorem dX1_solve_56 : decode cX1_solve 56 = .ok (.iinc 3 (-1), 3) := by decide +kernel
theorem dX1_solve_59 : decode cX1_solve 59 = .ok (.goto (-15), 3) := by decide +kernel
theorem dX1_solve_62 : decode cX1_solve 62 = .ok (.iinc 2 1, 3) := by decide +kernel
theorem dX1_solve_65 : decode cX1_solve 65 = .ok (.goto (-43), 3) := by decide +kernel
theorem dX1_solve_68 : decode cX1_solve 68 = .ok (.iconst 0, 1) := by decide +kernel
theorem dX1_solve_69 : decode cX1_solve 69 = .ok (.istore_n 2, 1) := by decide +kernel
theorem dX1_solve_70 : decode cX1_solve 70 = .ok (.iload_n 2, 1) := by decide +kernel
theorem dX1_solve_71 : decode cX1_solve 71 = .ok (.aload_n 0, 1) := by decide +kernel
theorem dX1_solve_72 : decode cX1_solve 72 = .ok (.getfield 25, 3) := by decide +kernel
theorem dX1_solve_75 : decode cX1_solve 75 = .ok (.getfield 29, 3) := by decide +kernel
theorem dX1_solve_78 : decode cX1_solve 78 = .ok (.if_icmp .ge 23, 3) := by decide +kernel
theorem dX1_solve_81 : decode cX1_solve 81 = .ok (.aload_n 0, 1) := by decide +kernel
theorem dX1_solve_82 : decode cX1_solve 82 = .ok (.getfield 25, 3) := by decide +kernel
theorem dX1_solve_85 : decode cX1_solve 85 = .ok (.getfield 46, 3) := by decide +kernel
theorem dX1_solve_88 : decode cX1_solve 88 = .ok (.iload_n 2, 1) := by decide +kernel
theorem dX1_solve_89 : decode cX1_solve 89 = .ok (.aload_n 0, 1) := by decide +kernel
theorem dX1_solve_90 : decode cX1_solve 90 = .ok (.iload_n 2, 1) := by decide +kernel
theorem dX1_solve_91 : decode cX1_solve 91 = .ok (.invokevirtual 50, 3) := by decide +kernel
theorem dX1_solve_94 : decode cX1_solve 94 = .ok (.iastore, 1) := by decide +kernel
theorem dX1_solve_95 : decode cX1_solve 95 = .ok (.iinc 2 1, 3) := by decide +kernel
theorem dX1_solve_98 : decode cX1_solve 98 = .ok (.goto (-28), 3) := by decide +kernel
theorem dX1_solve_101 : decode cX1_solve 101 = .ok (.iconst 0, 1) := by decide +kernel
theorem dX1_solve_102 : decode cX1_solve 102 = .ok (.istore_n 2, 1) := by decide +kernel
theorem dX1_solve_103 : decode cX1_solve 103 = .ok (.iload_n 2, 1) := by decide +kernel
theorem dX1_solve_104 : decode cX1_solve 104 = .ok (.aload_n 0, 1) := by decide +kernel
theorem dX1_solve_105 : decode cX1_solve 105 = .ok (.getfield 21, 3) := by decide +kernel
theorem dX1_solve_108 : decode cX1_solve 108 = .ok (.getfield 54, 3) := by decide +kernel
theorem dX1_solve_111 : decode cX1_solve 111 = .ok (.if_icmp .ge 28, 3) := by decide +kernel
theorem dX1_solve_114 : decode cX1_solve 114 = .ok (.aload_n 0, 1) := by decide +kernel
theorem dX1_solve_115 : decode cX1_solve 115 = .ok (.getfield 21, 3) := by decide +kernel
theorem dX1_solve_118 : decode cX1_solve 118 = .ok (.getfield 59, 3) := by decide +kernel
theorem dX1_solve_121 : decode cX1_solve 121 = .ok (.iload_n 2, 1) := by decide +kernel
theorem dX1_solve_122 : decode cX1_solve 122 = .ok (.iaload, 1) := by decide +kernel
theorem dX1_solve_123 : decode cX1_solve 123 = .ok (.bipush 7, 2) := by decide +kernel
theorem dX1_solve_125 : decode cX1_solve 125 = .ok (.if_icmp .ne 8, 3) := by decide +kernel
theorem dX1_solve_128 : decode cX1_solve 128 = .ok (.aload_n 0, 1) := by decide +kernel
theorem dX1_solve_129 : decode cX1_solve 129 = .ok (.iload_n 2, 1) := by decide +kernel
theorem dX1_solve_130 : decode cX1_solve 130 = .ok (.invokevirtual 62, 3) := by decide +kernel
theorem dX1_solve_133 : decode cX1_solve 133 = .ok (.iinc 2 1, 3) := by decide +kernel
theorem dX1_solve_136 : decode cX1_solve 136 = .ok (.goto (-33), 3) := by decide +kernel
theorem dX1_solve_139 : decode cX1_solve 139 = .ok (.return_, 1) := by decide +kernel
theorem dX1_wordOf_0 : decode cX1_wordOf 0 = .ok (.aload_n 0, 1) := by decide +kernel
theorem dX1_wordOf_1 : decode cX1_wordOf 1 = .ok (.getfield 21, 3) := by decide +kernel
theorem dX1_wordOf_4 : decode cX1_wordOf 4 = .ok (.getfield 98, 3) := by decide +kernel
theorem dX1_wordOf_7 : decode cX1_wordOf 7 = .ok (.iload_n 1, 1) := by decide +kernel
theorem dX1_wordOf_8 : decode cX1_wordOf 8 = .ok (.iaload, 1) := by decide +kernel
theorem dX1_wordOf_9 : decode cX1_wordOf 9 = .ok (.istore_n 2, 1) := by decide +kernel
theorem dX1_wordOf_10 : decode cX1_wordOf 10 = .ok (.aload_n 0, 1) := by decide +kernel
theorem dX1_wordOf_11 : decode cX1_wordOf 11 = .ok (.getfield 21, 3) := by decide +kernel
theorem dX1_wordOf_14 : decode cX1_wordOf 14 = .ok (.getfield 59, 3) := by decide +kernel
theorem dX1_wordOf_17 : decode cX1_wordOf 17 = .ok (.iload_n 1, 1) := by decide +kernel
theorem dX1_wordOf_18 : decode cX1_wordOf 18 = .ok (.iaload, 1) := by decide +kernel
theorem dX1_wordOf_19 : decode cX1_wordOf 19 = .ok (.tableswitch 124 2 8 #[56, 41, 70, 72, 92, 112, 118], 41) := by decide +kernel
theorem dX1_wordOf_60 : decode cX1_wordOf 60 = .ok (.aload_n 0, 1) := by decide +kernel
theorem dX1_wordOf_61 : decode cX1_wordOf 61 = .ok (.getfield 15, 3) := by decide +kernel
theorem dX1_wordOf_64 : decode cX1_wordOf 64 = .ok (.aload_n 0, 1) := by decide +kernel
theorem dX1_wordOf_65 : decode cX1_wordOf 65 = .ok (.getfield 21, 3) := by decide +kernel
theorem dX1_wordOf_68 : decode cX1_wordOf 68 = .ok (.getfield 101, 3) := by decide +kernel
theorem dX1_wordOf_71 : decode cX1_wordOf 71 = .ok (.iload_n 1, 1) := by decide +kernel
theorem dX1_wordOf_72 : decode cX1_wordOf 72 = .ok (.iaload, 1) := by decide +kernel
theorem dX1_wordOf_73 : decode cX1_wordOf 73 = .ok (.laload, 1) := by decide +kernel
theorem dX1_wordOf_74 : decode cX1_wordOf 74 = .ok (.lreturn, 1) := by decide +kernel
theorem dX1_wordOf_75 : decode cX1_wordOf 75 = .ok (.aload_n 0, 1) := by decide +kernel
theorem dX1_wordOf_76 : decode cX1_wordOf 76 = .ok (.aload_n 0, 1) := by decide +kernel
theorem dX1_wordOf_77 : decode cX1_wordOf 77 = .ok (.getfield 21, 3) := by decide +kernel
theorem dX1_wordOf_80 : decode cX1_wordOf 80 = .ok (.getfield 101, 3) := by decide +kernel
theorem dX1_wordOf_83 : decode cX1_wordOf 83 = .ok (.iload_n 1, 1) := by decide +kernel
theorem dX1_wordOf_84 : decode cX1_wordOf 84 = .ok (.iaload, 1) := by decide +kernel
theorem dX1_wordOf_85 : decode cX1_wordOf 85 = .ok (.invokevirtual 104, 3) := by decide +kernel
theorem dX1_wordOf_88 : decode cX1_wordOf 88 = .ok (.lreturn, 1) := by decide +kernel
theorem dX1_wordOf_89 : decode cX1_wordOf 89 = .ok (.lconst 0, 1) := by decide +kernel
theorem dX1_wordOf_90 : decode cX1_wordOf 90 = .ok (.lreturn, 1) := by decide +kernel
theorem dX1_wordOf_91 : decode cX1_wordOf 91 = .ok (.aload_n 0, 1) := by decide +kernel
theorem dX1_wordOf_92 : decode cX1_wordOf 92 = .ok (.iload_n 2, 1) := by decide +kernel
theorem dX1_wordOf_93 : decode cX1_wordOf 93 = .ok (.invokevirtual 94, 3) := by decide +kernel
theorem dX1_wordOf_96 : decode cX1_wordOf 96 = .ok (.aload_n 0, 1) := by decide +kernel
theorem dX1_wordOf_97 : decode cX1_wordOf 97 = .ok (.aload_n 0, 1) := by decide +kernel
theorem dX1_wordOf_98 : decode cX1_wordOf 98 = .ok (.getfield 21, 3) := by decide +kernel
theorem dX1_wordOf_101 : decode cX1_wordOf 101 = .ok (.getfield 107, 3) := by decide +kernel
theorem dX1_wordOf_104 : decode cX1_wordOf 104 = .ok (.iload_n 2, 1) := by decide +kernel
theorem dX1_wordOf_105 : decode cX1_wordOf 105 = .ok (.iaload, 1) := by decide +kernel
theorem dX1_wordOf_106 : decode cX1_wordOf 106 = .ok (.invokevirtual 94, 3) := by decide +kernel
theorem dX1_wordOf_109 : decode cX1_wordOf 109 = .ok (.land, 1) := by decide +kernel
theorem dX1_wordOf_110 : decode cX1_wordOf 110 = .ok (.lreturn, 1) := by decide +kernel
theorem dX1_wordOf_111 : decode cX1_wordOf 111 = .ok (.aload_n 0, 1) := by decide +kernel
theorem dX1_wordOf_112 : decode cX1_wordOf 112 = .ok (.iload_n 2, 1) := by decide +kernel
theorem dX1_wordOf_113 : decode cX1_wordOf 113 = .ok (.invokevirtual 94, 3) := by decide +kernel
theorem dX1_wordOf_116 : decode cX1_wordOf 116 = .ok (.aload_n 0, 1) := by decide +kernel
theorem dX1_wordOf_117 : decode cX1_wordOf 117 = .ok (.aload_n 0, 1) := by decide +kernel
theorem dX1_wordOf_118 : decode cX1_wordOf 118 = .ok (.getfield 21, 3) := by decide +kernel
theorem dX1_wordOf_121 : decode cX1_wordOf 121 = .ok (.getfield 107, 3) := by decide +kernel
theorem dX1_wordOf_124 : decode cX1_wordOf 124 = .ok (.iload_n 2, 1) := by decide +kernel
theorem dX1_wordOf_125 : decode cX1_wordOf 125 = .ok (.iaload, 1) := by decide +kernel
theorem dX1_wordOf_126 : decode cX1_wordOf 126 = .ok (.invokevirtual 110, 3) := by decide +kernel
theorem dX1_wordOf_129 : decode cX1_wordOf 129 = .ok (.land, 1) := by decide +kernel
theorem dX1_wordOf_130 : decode cX1_wordOf 130 = .ok (.lreturn, 1) := by decide +kernel
theorem dX1_wordOf_131 : decode cX1_wordOf 131 = .ok (.aload_n 0, 1) := by decide +kernel
theorem dX1_wordOf_132 : decode cX1_wordOf 132 = .ok (.iload_n 2, 1) := by decide +kernel
theorem dX1_wordOf_133 : decode cX1_wordOf 133 = .ok (.invokevirtual 113, 3) := by decide +kernel
theorem dX1_wordOf_136 : decode cX1_wordOf 136 = .ok (.lreturn, 1) := by decide +kernel
theorem dX1_wordOf_137 : decode cX1_wordOf 137 = .ok (.aload_n 0, 1) := by decide +kernel
theorem dX1_wordOf_138 : decode cX1_wordOf 138 = .ok (.iload_n 1, 1) := by decide +kernel
theorem dX1_wordOf_139 : decode cX1_wordOf 139 = .ok (.invokevirtual 116, 3) := by decide +kernel
theorem dX1_wordOf_142 : decode cX1_wordOf 142 = .ok (.lreturn, 1) := by decide +kernel
theorem dX1_wordOf_143 : decode cX1_wordOf 143 = .ok (.ldc2_w 119, 3) := by decide +kernel
theorem dX1_wordOf_146 : decode cX1_wordOf 146 = .ok (.lreturn, 1) := by decide +kernel
theorem dX1_wordOfAlternatives_0 : decode cX1_wordOfAlternatives 0 = .ok (.lconst 0, 1) := by decide +kernel
theorem dX1_wordOfAlternatives_1 : decode cX1_wordOfAlternatives 1 = .ok (.lstore_n 2, 1) := by decide +kernel
theorem dX1_wordOfAlternatives_2 : decode cX1_wordOfAlternatives 2 = .ok (.iconst 0, 1) := by decide +kernel
theorem dX1_wordOfAlternatives_3 : decode cX1_wordOfAlternatives 3 = .ok (.istore 4, 2) := by decide +kernel
theorem dX1_wordOfAlternatives_5 : decode cX1_wordOfAlternatives 5 = .ok (.iload_n 1, 1) := by decide +kernel
theorem dX1_wordOfAlternatives_6 : decode cX1_wordOfAlternatives 6 = .ok (.istore 5, 2) := by decide +kernel
theorem dX1_wordOfAlternatives_8 : decode cX1_wordOfAlternatives 8 = .ok (.iload 4, 2) := by decide +kernel
theorem dX1_wordOfAlternatives_10 : decode cX1_wordOfAlternatives 10 = .ok (.bipush 10, 2) := by decide +kernel
theorem dX1_wordOfAlternatives_12 : decode cX1_wordOfAlternatives 12 = .ok (.if_icmp .ge 112, 3) := by decide +kernel
theorem dX1_wordOfAlternatives_15 : decode cX1_wordOfAlternatives 15 = .ok (.iload 5, 2) := by decide +kernel
theorem dX1_wordOfAlternatives_17 : decode cX1_wordOfAlternatives 17 = .ok (.iconst (-1), 1) := by decide +kernel
theorem dX1_wordOfAlternatives_18 : decode cX1_wordOfAlternatives 18 = .ok (.if_icmp .eq 106, 3) := by decide +kernel
theorem dX1_wordOfAlternatives_21 : decode cX1_wordOfAlternatives 21 = .ok (.aload_n 0, 1) := by decide +kernel
theorem dX1_wordOfAlternatives_22 : decode cX1_wordOfAlternatives 22 = .ok (.getfield 21, 3) := by decide +kernel
theorem dX1_wordOfAlternatives_25 : decode cX1_wordOfAlternatives 25 = .ok (.getfield 59, 3) := by decide +kernel
theorem dX1_wordOfAlternatives_28 : decode cX1_wordOfAlternatives 28 = .ok (.iload 5, 2) := by decide +kernel
theorem dX1_wordOfAlternatives_30 : decode cX1_wordOfAlternatives 30 = .ok (.iaload, 1) := by decide +kernel
theorem dX1_wordOfAlternatives_31 : decode cX1_wordOfAlternatives 31 = .ok (.bipush 11, 2) := by decide +kernel
theorem dX1_wordOfAlternatives_33 : decode cX1_wordOfAlternatives 33 = .ok (.if_icmp .ne 56, 3) := by decide +kernel
theorem dX1_wordOfAlternatives_36 : decode cX1_wordOfAlternatives 36 = .ok (.iconst 0, 1) := by decide +kernel
theorem dX1_wordOfAlternatives_37 : decode cX1_wordOfAlternatives 37 = .ok (.istore 6, 2) := by decide +kernel
theorem dX1_wordOfAlternatives_39 : decode cX1_wordOfAlternatives 39 = .ok (.iload 6, 2) := by decide +kernel
theorem dX1_wordOfAlternatives_41 : decode cX1_wordOfAlternatives 41 = .ok (.aload_n 0, 1) := by decide +kernel
theorem dX1_wordOfAlternatives_42 : decode cX1_wordOfAlternatives 42 = .ok (.getfield 25, 3) := by decide +kernel
theorem dX1_wordOfAlternatives_45 : decode cX1_wordOfAlternatives 45 = .ok (.getfield 121, 3) := by decide +kernel
theorem dX1_wordOfAlternatives_48 : decode cX1_wordOfAlternatives 48 = .ok (.aload_n 0, 1) := by decide +kernel
theorem dX1_wordOfAlternatives_49 : decode cX1_wordOfAlternatives 49 = .ok (.getfield 21, 3) := by decide +kernel
theorem dX1_wordOfAlternatives_52 : decode cX1_wordOfAlternatives 52 = .ok (.getfield 101, 3) := by decide +kernel
theorem dX1_wordOfAlternatives_55 : decode cX1_wordOfAlternatives 55 = .ok (.iload 5, 2) := by decide +kernel
theorem dX1_wordOfAlternatives_57 : decode cX1_wordOfAlternatives 57 = .ok (.iaload, 1) := by decide +kernel
theorem dX1_wordOfAlternatives_58 : decode cX1_wordOfAlternatives 58 = .ok (.iaload, 1) := by decide +kernel
theorem dX1_wordOfAlternatives_59 : decode cX1_wordOfAlternatives 59 = .ok (.if_icmp .ge 30, 3) := by decide +kernel
theorem dX1_wordOfAlternatives_62 : decode cX1_wordOfAlternatives 62 = .ok (.aload_n 0, 1) := by decide +kernel
theorem dX1_wordOfAlternatives_63 : decode cX1_wordOfAlternatives 63 = .ok (.getfield 15, 3) := by decide +kernel
theorem dX1_wordOfAlternatives_66 : decode cX1_wordOfAlternatives 66 = .ok (.aload_n 0, 1) := by decide +kernel
theorem dX1_wordOfAlternatives_67 : decode cX1_wordOfAlternatives 67 = .ok (.getfield 21, 3) := by decide +kernel
theorem dX1_wordOfAlternatives_70 : decode cX1_wordOfAlternatives 70 = .ok (.getfield 124, 3) := by decide +kernel
theorem dX1_wordOfAlternatives_73 : decode cX1_wordOfAlternatives 73 = .ok (.iload 5, 2) := by decide +kernel
theorem dX1_wordOfAlternatives_75 : decode cX1_wordOfAlternatives 75 = .ok (.iaload, 1) := by decide +kernel
theorem dX1_wordOfAlternatives_76 : decode cX1_wordOfAlternatives 76 = .ok (.iload 6, 2) := by decide +kernel
theorem dX1_wordOfAlternatives_78 : decode cX1_wordOfAlternatives 78 = .ok (.iadd, 1) := by decide +kernel
theorem dX1_wordOfAlternatives_79 : decode cX1_wordOfAlternatives 79 = .ok (.ldc2_w 119, 3) := by decide +kernel
theorem dX1_wordOfAlternatives_82 : decode cX1_wordOfAlternatives 82 = .ok (.lastore, 1) := by decide +kernel
theorem dX1_wordOfAlternatives_83 : decode cX1_wordOfAlternatives 83 = .ok (.iinc 6 1, 3) := by decide +kernel
theorem dX1_wordOfAlternatives_86 : decode cX1_wordOfAlternatives 86 = .ok (.goto (-47), 3) := by decide +kernel
theorem dX1_wordOfAlternatives_89 : decode cX1_wordOfAlternatives 89 = .ok (.lload_n 2, 1) := by decide +kernel
theorem dX1_wordOfAlternatives_90 : decode cX1_wordOfAlternatives 90 = .ok (.aload_n 0, 1) := by decide +kernel
theorem dX1_wordOfAlternatives_91 : decode cX1_wordOfAlternatives 91 = .ok (.aload_n 0, 1) := by decide +kernel
theorem dX1_wordOfAlternatives_92 : decode cX1_wordOfAlternatives 92 = .ok (.getfield 21, 3) := by decide +kernel
theorem dX1_wordOfAlternatives_95 : decode cX1_wordOfAlternatives 95 = .ok (.getfield 98, 3) := by decide +kernel
theorem dX1_wordOfAlternatives_98 : decode cX1_wordOfAlternatives 98 = .ok (.iload 5, 2) := by decide +kernel
theorem dX1_wordOfAlternatives_100 : decode cX1_wordOfAlternatives 100 = .ok (.iaload, 1) := by decide +kernel
theorem dX1_wordOfAlternatives_101 : decode cX1_wordOfAlternatives 101 = .ok (.invokevirtual 94, 3) := by decide +kernel
theorem dX1_wordOfAlternatives_104 : decode cX1_wordOfAlternatives 104 = .ok (.lor, 1) := by decide +kernel
theorem dX1_wordOfAlternatives_105 : decode cX1_wordOfAlternatives 105 = .ok (.lstore_n 2, 1) := by decide +kernel
theorem dX1_wordOfAlternatives_106 : decode cX1_wordOfAlternatives 106 = .ok (.iinc 4 1, 3) := by decide +kernel
theorem dX1_wordOfAlternatives_109 : decode cX1_wordOfAlternatives 109 = .ok (.aload_n 0, 1) := by decide +kernel
theorem dX1_wordOfAlternatives_110 : decode cX1_wordOfAlternatives 110 = .ok (.getfield 21, 3) := by decide +kernel
theorem dX1_wordOfAlternatives_113 : decode cX1_wordOfAlternatives 113 = .ok (.getfield 107, 3) := by decide +kernel
theorem dX1_wordOfAlternatives_116 : decode cX1_wordOfAlternatives 116 = .ok (.iload 5, 2) := by decide +kernel
theorem dX1_wordOfAlternatives_118 : decode cX1_wordOfAlternatives 118 = .ok (.iaload, 1) := by decide +kernel
theorem dX1_wordOfAlternatives_119 : decode cX1_wordOfAlternatives 119 = .ok (.istore 5, 2) := by decide +kernel
theorem dX1_wordOfAlternatives_121 : decode cX1_wordOfAlternatives 121 = .ok (.goto (-113), 3) := by decide +kernel
theorem dX1_wordOfAlternatives_124 : decode cX1_wordOfAlternatives 124 = .ok (.lload_n 2, 1) := by decide +kernel
theorem dX1_wordOfAlternatives_125 : decode cX1_wordOfAlternatives 125 = .ok (.lreturn, 1) := by decide +kernel
theorem dX1_wordOfApplication_0 : decode cX1_wordOfApplication 0 = .ok (.aload_n 0, 1) := by decide +kernel
theorem dX1_wordOfApplication_1 : decode cX1_wordOfApplication 1 = .ok (.getfield 21, 3) := by decide +kernel
theorem dX1_wordOfApplication_4 : decode cX1_wordOfApplication 4 = .ok (.getfield 98, 3) := by decide +kernel
theorem dX1_wordOfApplication_7 : decode cX1_wordOfApplication 7 = .ok (.iload_n 1, 1) := by decide +kernel
theorem dX1_wordOfApplication_8 : decode cX1_wordOfApplication 8 = .ok (.iaload, 1) := by decide +kernel
theorem dX1_wordOfApplication_9 : decode cX1_wordOfApplication 9 = .ok (.istore_n 2, 1) := by decide +kernel
theorem dX1_wordOfApplication_10 : decode cX1_wordOfApplication 10 = .ok (.aload_n 0, 1) := by decide +kernel
theorem dX1_wordOfApplication_11 : decode cX1_wordOfApplication 11 = .ok (.getfield 21, 3) := by decide +kernel
theorem dX1_wordOfApplication_14 : decode cX1_wordOfApplication 14 = .ok (.getfield 59, 3) := by decide +kernel
theorem dX1_wordOfApplication_17 : decode cX1_wordOfApplication 17 = .ok (.iload_n 2, 1) := by decide +kernel
theorem dX1_wordOfApplication_18 : decode cX1_wordOfApplication 18 = .ok (.iaload, 1) := by decide +kernel
theorem dX1_wordOfApplication_19 : decode cX1_wordOfApplication 19 = .ok (.iconst 2, 1) := by decide +kernel
theorem dX1_wordOfApplication_20 : decode cX1_wordOfApplication 20 = .ok (.if_icmp .eq 9, 3) := by decide +kernel
theorem dX1_wordOfApplication_23 : decode cX1_wordOfApplication 23 = .ok (.aload_n 0, 1) := by decide +kernel
theorem dX1_wordOfApplication_24 : decode cX1_wordOfApplication 24 = .ok (.iload_n 2, 1) := by decide +kernel
theorem dX1_wordOfApplication_25 : decode cX1_wordOfApplication 25 = .ok (.invokevirtual 94, 3) := by decide +kernel
theorem dX1_wordOfApplication_28 : decode cX1_wordOfApplication 28 = .ok (.lreturn, 1) := by decide +kernel
theorem dX1_wordOfApplication_29 : decode cX1_wordOfApplication 29 = .ok (.aload_n 0, 1) := by decide +kernel
theorem dX1_wordOfApplication_30 : decode cX1_wordOfApplication 30 = .ok (.getfield 21, 3) := by decide +kernel
theorem dX1_wordOfApplication_33 : decode cX1_wordOfApplication 33 = .ok (.getfield 101, 3) := by decide +kernel
theorem dX1_wordOfApplication_36 : decode cX1_wordOfApplication 36 = .ok (.iload_n 2, 1) := by decide +kernel
theorem dX1_wordOfApplication_37 : decode cX1_wordOfApplication 37 = .ok (.iaload, 1) := by decide +kernel
theorem dX1_wordOfApplication_38 : decode cX1_wordOfApplication 38 = .ok (.istore_n 3, 1) := by decide +kernel
theorem dX1_wordOfApplication_39 : decode cX1_wordOfApplication 39 = .ok (.aload_n 0, 1) := by decide +kernel
theorem dX1_wordOfApplication_40 : decode cX1_wordOfApplication 40 = .ok (.getfield 25, 3) := by decide +kernel
theorem dX1_wordOfApplication_43 : decode cX1_wordOfApplication 43 = .ok (.getfield 66, 3) := by decide +kernel
theorem dX1_wordOfApplication_46 : decode cX1_wordOfApplication 46 = .ok (.iload_n 3, 1) := by decide +kernel
theorem dX1_wordOfApplication_47 : decode cX1_wordOfApplication 47 = .ok (.iaload, 1) := by decide +kernel
theorem dX1_wordOfApplication_48 : decode cX1_wordOfApplication 48 = .ok (.istore 4, 2) := by decide +kernel
theorem dX1_wordOfApplication_50 : decode cX1_wordOfApplication 50 = .ok (.iload 4, 2) := by decide +kernel
theorem dX1_wordOfApplication_52 : decode cX1_wordOfApplication 52 = .ok (.ifCond .eq 17, 3) := by decide +kernel
theorem dX1_wordOfApplication_55 : decode cX1_wordOfApplication 55 = .ok (.aload_n 0, 1) := by decide +kernel
theorem dX1_wordOfApplication_56 : decode cX1_wordOfApplication 56 = .ok (.getfield 21, 3) := by decide +kernel
theorem dX1_wordOfApplication_59 : decode cX1_wordOfApplication 59 = .ok (.getfield 124, 3) := by decide +kernel
theorem dX1_wordOfApplication_62 : decode cX1_wordOfApplication 62 = .ok (.iload_n 1, 1) := by decide +kernel
theorem dX1_wordOfApplication_63 : decode cX1_wordOfApplication 63 = .ok (.iaload, 1) := by decide +kernel
theorem dX1_wordOfApplication_64 : decode cX1_wordOfApplication 64 = .ok (.iload 4, 2) := by decide +kernel
theorem dX1_wordOfApplication_66 : decode cX1_wordOfApplication 66 = .ok (.if_icmp .ge 9, 3) := by decide +kernel
theorem dX1_wordOfApplication_69 : decode cX1_wordOfApplication 69 = .ok (.aload_n 0, 1) := by decide +kernel
theorem dX1_wordOfApplication_70 : decode cX1_wordOfApplication 70 = .ok (.iload_n 3, 1) := by decide +kernel
theorem dX1_wordOfApplication_71 : decode cX1_wordOfApplication 71 = .ok (.invokevirtual 104, 3) := by decide +kernel
theorem dX1_wordOfApplication_74 : decode cX1_wordOfApplication 74 = .ok (.lreturn, 1) := by decide +kernel
theorem dX1_wordOfApplication_75 : decode cX1_wordOfApplication 75 = .ok (.aload_n 0, 1) := by decide +kernel
theorem dX1_wordOfApplication_76 : decode cX1_wordOfApplication 76 = .ok (.getfield 127, 3) := by decide +kernel
theorem dX1_wordOfApplication_79 : decode cX1_wordOfApplication 79 = .ok (.istore 5, 2) := by decide +kernel
theorem dX1_wordOfApplication_81 : decode cX1_wordOfApplication 81 = .ok (.aload_n 0, 1) := by decide +kernel
theorem dX1_wordOfApplication_82 : decode cX1_wordOfApplication 82 = .ok (.getfield 21, 3) := by decide +kernel
theorem dX1_wordOfApplication_85 : decode cX1_wordOfApplication 85 = .ok (.getfield 107, 3) := by decide +kernel
theorem dX1_wordOfApplication_88 : decode cX1_wordOfApplication 88 = .ok (.iload_n 2, 1) := by decide +kernel
theorem dX1_wordOfApplication_89 : decode cX1_wordOfApplication 89 = .ok (.iaload, 1) := by decide +kernel
theorem dX1_wordOfApplication_90 : decode cX1_wordOfApplication 90 = .ok (.istore 6, 2) := by decide +kernel
theorem dX1_wordOfApplication_92 : decode cX1_wordOfApplication 92 = .ok (.iconst 0, 1) := by decide +kernel
theorem dX1_wordOfApplication_93 : decode cX1_wordOfApplication 93 = .ok (.istore 7, 2) := by decide +kernel
theorem dX1_wordOfApplication_95 : decode cX1_wordOfApplication 95 = .ok (.iload 7, 2) := by decide +kernel
theorem dX1_wordOfApplication_97 : decode cX1_wordOfApplication 97 = .ok (.iload 4, 2) := by decide +kernel
theorem dX1_wordOfApplication_99 : decode cX1_wordOfApplication 99 = .ok (.if_icmp .ge 68, 3) := by decide +kernel
theorem dX1_wordOfApplication_102 : decode cX1_wordOfApplication 102 = .ok (.iload 6, 2) := by decide +kernel
theorem dX1_wordOfApplication_104 : decode cX1_wordOfApplication 104 = .ok (.iconst (-1), 1) := by decide +kernel
theorem dX1_wordOfApplication_105 : decode cX1_wordOfApplication 105 = .ok (.if_icmp .eq 62, 3) := by decide +kernel
theorem dX1_wordOfApplication_108 : decode cX1_wordOfApplication 108 = .ok (.aload_n 0, 1) := by decide +kernel
theorem dX1_wordOfApplication_109 : decode cX1_wordOfApplication 109 = .ok (.getfield 127, 3) := by decide +kernel
theorem dX1_wordOfApplication_112 : decode cX1_wordOfApplication 112 = .ok (.aload_n 0, 1) := by decide +kernel
theorem dX1_wordOfApplication_113 : decode cX1_wordOfApplication 113 = .ok (.getfield 18, 3) := by decide +kernel
theorem dX1_wordOfApplication_116 : decode cX1_wordOfApplication 116 = .ok (.arraylength, 1) := by decide +kernel
theorem dX1_wordOfApplication_117 : decode cX1_wordOfApplication 117 = .ok (.if_icmp .ge 50, 3) := by decide +kernel
theorem dX1_wordOfApplication_120 : decode cX1_wordOfApplication 120 = .ok (.aload_n 0, 1) := by decide +kernel
theorem dX1_wordOfApplication_121 : decode cX1_wordOfApplication 121 = .ok (.iload 6, 2) := by decide +kernel
theorem dX1_wordOfApplication_123 : decode cX1_wordOfApplication 123 = .ok (.invokevirtual 94, 3) := by decide +kernel
theorem dX1_wordOfApplication_126 : decode cX1_wordOfApplication 126 = .ok (.lstore 8, 2) := by decide +kernel
theorem dX1_wordOfApplication_128 : decode cX1_wordOfApplication 128 = .ok (.aload_n 0, 1) := by decide +kernel
theorem dX1_wordOfApplication_129 : decode cX1_wordOfApplication 129 = .ok (.getfield 18, 3) := by decide +kernel
theorem dX1_wordOfApplication_132 : decode cX1_wordOfApplication 132 = .ok (.aload_n 0, 1) := by decide +kernel
theorem dX1_wordOfApplication_133 : decode cX1_wordOfApplication 133 = .ok (.getfield 127, 3) := by decide +kernel
theorem dX1_wordOfApplication_136 : decode cX1_wordOfApplication 136 = .ok (.lload 8, 2) := by decide +kernel
theorem dX1_wordOfApplication_138 : decode cX1_wordOfApplication 138 = .ok (.lastore, 1) := by decide +kernel
theorem dX1_wordOfApplication_139 : decode cX1_wordOfApplication 139 = .ok (.aload_n 0, 1) := by decide +kernel
theorem dX1_wordOfApplication_140 : decode cX1_wordOfApplication 140 = .ok (.dup, 1) := by decide +kernel
theorem dX1_wordOfApplication_141 : decode cX1_wordOfApplication 141 = .ok (.getfield 127, 3) := by decide +kernel
theorem dX1_wordOfApplication_144 : decode cX1_wordOfApplication 144 = .ok (.iconst 1, 1) := by decide +kernel
theorem dX1_wordOfApplication_145 : decode cX1_wordOfApplication 145 = .ok (.iadd, 1) := by decide +kernel
theorem dX1_wordOfApplication_146 : decode cX1_wordOfApplication 146 = .ok (.putfield 127, 3) := by decide +kernel
theorem dX1_wordOfApplication_149 : decode cX1_wordOfApplication 149 = .ok (.aload_n 0, 1) := by decide +kernel
theorem dX1_wordOfApplication_150 : decode cX1_wordOfApplication 150 = .ok (.getfield 21, 3) := by decide +kernel
theorem dX1_wordOfApplication_153 : decode cX1_wordOfApplication 153 = .ok (.getfield 107, 3) := by decide +kernel
theorem dX1_wordOfApplication_156 : decode cX1_wordOfApplication 156 = .ok (.iload 6, 2) := by decide +kernel
theorem dX1_wordOfApplication_158 : decode cX1_wordOfApplication 158 = .ok (.iaload, 1) := by decide +kernel
theorem dX1_wordOfApplication_159 : decode cX1_wordOfApplication 159 = .ok (.istore 6, 2) := by decide +kernel
theorem dX1_wordOfApplication_161 : decode cX1_wordOfApplication 161 = .ok (.iinc 7 1, 3) := by decide +kernel
theorem dX1_wordOfApplication_164 : decode cX1_wordOfApplication 164 = .ok (.goto (-69), 3) := by decide +kernel
theorem dX1_wordOfApplication_167 : decode cX1_wordOfApplication 167 = .ok (.aload_n 0, 1) := by decide +kernel
theorem dX1_wordOfApplication_168 : decode cX1_wordOfApplication 168 = .ok (.iload_n 3, 1) := by decide +kernel
theorem dX1_wordOfApplication_169 : decode cX1_wordOfApplication 169 = .ok (.iload 5, 2) := by decide +kernel
theorem dX1_wordOfApplication_171 : decode cX1_wordOfApplication 171 = .ok (.invokevirtual 130, 3) := by decide +kernel
theorem dX1_wordOfApplication_174 : decode cX1_wordOfApplication 174 = .ok (.lstore 7, 2) := by decide +kernel
theorem dX1_wordOfApplication_176 : decode cX1_wordOfApplication 176 = .ok (.aload_n 0, 1) := by decide +kernel
theorem dX1_wordOfApplication_177 : decode cX1_wordOfApplication 177 = .ok (.iload 5, 2) := by decide +kernel
theorem dX1_wordOfApplication_179 : decode cX1_wordOfApplication 179 = .ok (.putfield 127, 3) := by decide +kernel
theorem dX1_wordOfApplication_182 : decode cX1_wordOfApplication 182 = .ok (.lload 7, 2) := by decide +kernel
theorem dX1_wordOfApplication_184 : decode cX1_wordOfApplication 184 = .ok (.lreturn, 1) := by decide +kernel
theorem dX1_wordOfLet_0 : decode cX1_wordOfLet 0 = .ok (.iconst 0, 1) := by decide +kernel
theorem dX1_wordOfLet_1 : decode cX1_wordOfLet 1 = .ok (.istore_n 2, 1) := by decide +kernel
theorem dX1_wordOfLet_2 : decode cX1_wordOfLet 2 = .ok (.aload_n 0, 1) := by decide +kernel
theorem dX1_wordOfLet_3 : decode cX1_wordOfLet 3 = .ok (.getfield 21, 3) := by decide +kernel
theorem dX1_wordOfLet_6 : decode cX1_wordOfLet 6 = .ok (.getfield 107, 3) := by decide +kernel
theorem dX1_wordOfLet_9 : decode cX1_wordOfLet 9 = .ok (.iload_n 1, 1) := by decide +kernel
theorem dX1_wordOfLet_10 : decode cX1_wordOfLet 10 = .ok (.iaload, 1) := by decide +kernel
theorem dX1_wordOfLet_11 : decode cX1_wordOfLet 11 = .ok (.istore_n 3, 1) := by decide +kernel
theorem dX1_wordOfLet_12 : decode cX1_wordOfLet 12 = .ok (.iload_n 2, 1) := by decide +kernel
theorem dX1_wordOfLet_13 : decode cX1_wordOfLet 13 = .ok (.bipush 10, 2) := by decide +kernel
theorem dX1_wordOfLet_15 : decode cX1_wordOfLet 15 = .ok (.if_icmp .ge 94, 3) := by decide +kernel
theorem dX1_wordOfLet_18 : decode cX1_wordOfLet 18 = .ok (.iload_n 3, 1) := by decide +kernel
theorem dX1_wordOfLet_19 : decode cX1_wordOfLet 19 = .ok (.iconst (-1), 1) := by decide +kernel
theorem dX1_wordOfLet_20 : decode cX1_wordOfLet 20 = .ok (.if_icmp .eq 89, 3) := by decide +kernel
theorem dX1_wordOfLet_23 : decode cX1_wordOfLet 23 = .ok (.aload_n 0, 1) := by decide +kernel
theorem dX1_wordOfLet_24 : decode cX1_wordOfLet 24 = .ok (.getfield 21, 3) := by decide +kernel
theorem dX1_wordOfLet_27 : decode cX1_wordOfLet 27 = .ok (.getfield 101, 3) := by decide +kernel
theorem dX1_wordOfLet_30 : decode cX1_wordOfLet 30 = .ok (.iload_n 3, 1) := by decide +kernel
theorem dX1_wordOfLet_31 : decode cX1_wordOfLet 31 = .ok (.iaload, 1) := by decide +kernel
theorem dX1_wordOfLet_32 : decode cX1_wordOfLet 32 = .ok (.istore 4, 2) := by decide +kernel
theorem dX1_wordOfLet_34 : decode cX1_wordOfLet 34 = .ok (.aload_n 0, 1) := by decide +kernel
theorem dX1_wordOfLet_35 : decode cX1_wordOfLet 35 = .ok (.aload_n 0, 1) := by decide +kernel
theorem dX1_wordOfLet_36 : decode cX1_wordOfLet 36 = .ok (.getfield 21, 3) := by decide +kernel
theorem dX1_wordOfLet_39 : decode cX1_wordOfLet 39 = .ok (.getfield 98, 3) := by decide +kernel
theorem dX1_wordOfLet_42 : decode cX1_wordOfLet 42 = .ok (.iload_n 3, 1) := by decide +kernel
theorem dX1_wordOfLet_43 : decode cX1_wordOfLet 43 = .ok (.iaload, 1) := by decide +kernel
theorem dX1_wordOfLet_44 : decode cX1_wordOfLet 44 = .ok (.invokevirtual 94, 3) := by decide +kernel
theorem dX1_wordOfLet_47 : decode cX1_wordOfLet 47 = .ok (.aload_n 0, 1) := by decide +kernel
theorem dX1_wordOfLet_48 : decode cX1_wordOfLet 48 = .ok (.getfield 15, 3) := by decide +kernel
theorem dX1_wordOfLet_51 : decode cX1_wordOfLet 51 = .ok (.iload 4, 2) := by decide +kernel
theorem dX1_wordOfLet_53 : decode cX1_wordOfLet 53 = .ok (.laload, 1) := by decide +kernel
theorem dX1_wordOfLet_54 : decode cX1_wordOfLet 54 = .ok (.lor, 1) := by decide +kernel
theorem dX1_wordOfLet_55 : decode cX1_wordOfLet 55 = .ok (.lstore 5, 2) := by decide +kernel
theorem dX1_wordOfLet_57 : decode cX1_wordOfLet 57 = .ok (.aload_n 0, 1) := by decide +kernel
theorem dX1_wordOfLet_58 : decode cX1_wordOfLet 58 = .ok (.dup, 1) := by decide +kernel
theorem dX1_wordOfLet_59 : decode cX1_wordOfLet 59 = .ok (.getfield 89, 3) := by decide +kernel
theorem dX1_wordOfLet_62 : decode cX1_wordOfLet 62 = .ok (.lload 5, 2) := by decide +kernel
theorem dX1_wordOfLet_64 : decode cX1_wordOfLet 64 = .ok (.aload_n 0, 1) := by decide +kernel
theorem dX1_wordOfLet_65 : decode cX1_wordOfLet 65 = .ok (.getfield 15, 3) := by decide +kernel
theorem dX1_wordOfLet_68 : decode cX1_wordOfLet 68 = .ok (.iload 4, 2) := by decide +kernel
theorem dX1_wordOfLet_70 : decode cX1_wordOfLet 70 = .ok (.laload, 1) := by decide +kernel
theorem dX1_wordOfLet_71 : decode cX1_wordOfLet 71 = .ok (.lcmp, 1) := by decide +kernel
theorem dX1_wordOfLet_72 : decode cX1_wordOfLet 72 = .ok (.ifCond .eq 7, 3) := by decide +kernel
theorem dX1_wordOfLet_75 : decode cX1_wordOfLet 75 = .ok (.iconst 1, 1) := by decide +kernel
theorem dX1_wordOfLet_76 : decode cX1_wordOfLet 76 = .ok (.goto 4, 3) := by decide +kernel
theorem dX1_wordOfLet_79 : decode cX1_wordOfLet 79 = .ok (.iconst 0, 1) := by decide +kernel
theorem dX1_wordOfLet_80 : decode cX1_wordOfLet 80 = .ok (.ior, 1) := by decide +kernel
theorem dX1_wordOfLet_81 : decode cX1_wordOfLet 81 = .ok (.putfield 89, 3) := by decide +kernel
theorem dX1_wordOfLet_84 : decode cX1_wordOfLet 84 = .ok (.aload_n 0, 1) := by decide +kernel
theorem dX1_wordOfLet_85 : decode cX1_wordOfLet 85 = .ok (.getfield 15, 3) := by decide +kernel
theorem dX1_wordOfLet_88 : decode cX1_wordOfLet 88 = .ok (.iload 4, 2) := by decide +kernel
theorem dX1_wordOfLet_90 : decode cX1_wordOfLet 90 = .ok (.lload 5, 2) := by decide +kernel
theorem dX1_wordOfLet_92 : decode cX1_wordOfLet 92 = .ok (.lastore, 1) := by decide +kernel
theorem dX1_wordOfLet_93 : decode cX1_wordOfLet 93 = .ok (.iinc 2 1, 3) := by decide +kernel
theorem dX1_wordOfLet_96 : decode cX1_wordOfLet 96 = .ok (.aload_n 0, 1) := by decide +kernel
theorem dX1_wordOfLet_97 : decode cX1_wordOfLet 97 = .ok (.getfield 21, 3) := by decide +kernel
theorem dX1_wordOfLet_100 : decode cX1_wordOfLet 100 = .ok (.getfield 107, 3) := by decide +kernel
theorem dX1_wordOfLet_103 : decode cX1_wordOfLet 103 = .ok (.iload_n 3, 1) := by decide +kernel
theorem dX1_wordOfLet_104 : decode cX1_wordOfLet 104 = .ok (.iaload, 1) := by decide +kernel
theorem dX1_wordOfLet_105 : decode cX1_wordOfLet 105 = .ok (.istore_n 3, 1) := by decide +kernel
theorem dX1_wordOfLet_106 : decode cX1_wordOfLet 106 = .ok (.goto (-94), 3) := by decide +kernel
theorem dX1_wordOfLet_109 : decode cX1_wordOfLet 109 = .ok (.aload_n 0, 1) := by decide +kernel
theorem dX1_wordOfLet_110 : decode cX1_wordOfLet 110 = .ok (.iload_n 1, 1) := by decide +kernel
theorem dX1_wordOfLet_111 : decode cX1_wordOfLet 111 = .ok (.invokevirtual 94, 3) := by decide +kernel
theorem dX1_wordOfLet_114 : decode cX1_wordOfLet 114 = .ok (.lreturn, 1) := by decide +kernel
theorem cw_J7_fill_bad5a : CWS yJ7_fill_bad5a cJ7_fill_bad5a 6 none RJ7 4 := ⟨mG_1320, mG_1319, mG_232, by decide +kernel⟩
theorem cw_J7_rangeCheck_23922 : CWS yJ7_rangeCheck_23922 cJ7_rangeCheck_23922 3 none RJ7 3 := ⟨mG_1323, mG_1322, mG_232, by decide +kernel⟩
theorem cw_X1_alone : CWV yX1_alone cX1_alone 2 (some .long) RX1 1 := ⟨mG_1582, mG_1581, mG_53, mG_222, by decide +kernel⟩
theorem cw_X1_compose : CWV yX1_compose cX1_compose 8 (some .long) RX1 2 := ⟨mG_1599, mG_1598, mG_57, mG_222, by decide +kernel⟩
theorem cw_X1_improve : CWV yX1_improve cX1_improve 8 (some .boolean) RX1 1 := ⟨mG_1567, mG_1566, mG_50, mG_222, by decide +kernel⟩
theorem cw_X1_look : CWV yX1_look cX1_look 3 (some .int) RX1 2 := ⟨mG_1603, mG_1601, mG_1602, mG_222, by decide +kernel⟩
theorem cw_X1_markLet : CWV yX1_markLet cX1_markLet 6 none RX1 1 := ⟨mG_1611, mG_1610, mG_59, mG_222, by decide +kernel⟩
theorem cw_X1_neededOf : CWV yX1_neededOf cX1_neededOf 5 (some .int) RX1 1 := ⟨mG_1607, mG_1606, mG_58, mG_222, by decide +kernel⟩
theorem cw_X1_settle : CWV yX1_settle cX1_settle 7 (some .long) RX1 3 := ⟨mG_1573, mG_1572, mG_51, mG_222, by decide +kernel⟩
theorem cw_X1_wordOf : CWV yX1_wordOf cX1_wordOf 3 (some .long) RX1 1 := ⟨mG_1578, mG_1577, mG_52, mG_222, by decide +kernel⟩
theorem cw_X1_wordOfAlternatives : CWV yX1_wordOfAlternatives cX1_wordOfAlternatives 7 (some .long) RX1 1 := ⟨mG_1587, mG_1586, mG_54, mG_222, by decide +kernel⟩
theorem cw_X1_wordOfApplication : CWV yX1_wordOfApplication cX1_wordOfApplication 10 (some .long) RX1 1 := ⟨mG_1595, mG_1594, mG_56, mG_222, by decide +kernel⟩
theorem cw_X1_wordOfLet : CWV yX1_wordOfLet cX1_wordOfLet 7 (some .long) RX1 1 := ⟨mG_1591, mG_1590, mG_55, mG_222, by decide +kernel⟩
section MJ7_rangeCheck_23922
variable {p : Program} {l : Launch} {e : Env} {R : Room} {s : State} {m : MethodId} {args : Array Value} {below : List Frame} {meth : Method} {c : Code} {dC : Nat → ClassId} {dI : Nat → Nat → Nat} {ak : Nat → Nat} {A : Nat → Prop} {ad : Nat → Nat} {kc : Nat → ClassId} {sv : Value} {r : Unit} {τ : S5}
set_option maxHeartbeats 4000000 in
set_option maxRecDepth 100000 in
theorem w_J7_rangeCheck_23922 {σ : S5} {a0 : Int32} {a1 : Int32} {a2 : Int32} {H : Heap} {locs : List Loc} {ls : Array Slot} (S : CallFix p m c cJ7_rangeCheck_23922 3 s args uG RJ7) (hr : meth.sig.returnType = none) (hk : meth.locks = false) (hR : 0 ≤ R.frames ∧ 0 ≤ R.locals)
    (X : gX (dC, dI) (tC kc) (wC ad kc sv) (zC ak) A s σ H locs) (hl : lv_has ls 3 [(0, .int a0), (1, .int a1), (2, .int a2)]) (hg : f_J7_rangeCheck_23922 a0 a1 a2 σ = some (r, τ)) : W p l e R s m args below meth c H locs 0 0 (MQ below (gQv (dC, dI) (tC kc) (wC ad kc sv) A r τ) args s 0 0 A) (F0 m 0 ls []) := by
  have hx := S.1
  have hb := S.2.1
  have hown := S.2.2.2.1
  have hu := S.2.2.2.2
  unfold f_J7_rangeCheck_23922 at hg
  refine lv_iload_n hx hb dJ7_rangeCheck_23922_0 rfl (lv_at hl 1 rfl) ?_
  refine lv_iload_n hx hb dJ7_rangeCheck_23922_1 rfl (lv_at hl 2 rfl) ?_
  refine lv_icmp_le (tgt := 46) hx hb dJ7_rangeCheck_23922_2 (by decide) (fun c2 => ?_) (fun c2 => ?_)
  · have hg := (if_pos c2).symm.trans hg
    refine lv_iload_n hx hb dJ7_rangeCheck_23922_46 rfl (lv_at hl 1 rfl) ?_
    refine lv_if_ge (tgt := 59) hx hb dJ7_rangeCheck_23922_47 (by decide) (fun c47 => ?_) (fun c47 => ?_)
    · have hg := (if_pos c47).symm.trans hg
      refine lv_iload_n hx hb dJ7_rangeCheck_23922_59 rfl (lv_at hl 2 rfl) ?_
      refine lv_iload_n hx hb dJ7_rangeCheck_23922_60 rfl (lv_at hl 0 rfl) ?_
      refine lv_icmp_le (tgt := 73) hx hb dJ7_rangeCheck_23922_61 (by decide) (fun c61 => ?_) (fun c61 => ?_)
      · have hg := (if_pos c61).symm.trans hg
        obtain ⟨-, rfl⟩ := fin_some hg
        exact gr_v S hr hk X dJ7_rangeCheck_23922_73
      · have hg := (if_neg c61).symm.trans hg
        cases hg
    · have hg := (if_neg c47).symm.trans hg
      cases hg
  · have hg := (if_neg c2).symm.trans hg
    cases hg
end MJ7_rangeCheck_23922
set_option maxRecDepth 100000 in
theorem k2_J7_rangeCheck_23922 (l : Launch) (dC : Nat → ClassId) (dI : Nat → Nat → Nat) {ak : Nat → Nat} (ad : Nat → Nat) (kc : Nat → ClassId) (sv : Value) {σ τ : S5} {a0 : Int32} {a1 : Int32} {a2 : Int32} {r : Unit} (hg : f_J7_rangeCheck_23922 a0 a1 a2 σ = some (r, τ)) (sz : Nat) : Met l yJ7_rangeCheck_23922 (Cond.code yJ7_rangeCheck_23922 cJ7_rangeCheck_23922 3 none :: uG) { frames := 0, cells := 0, slots := 0, locals := 0 } (gPc (dC, dI) (tC kc) (wC ad kc sv) (zC ak) [.int a0, .int a1, .int a2] σ sz) (gQv (dC, dI) (tC kc) (wC ad kc sv) (va_A (wC ad kc sv σ) sz) r τ) 0 0 (va_A (wC ad kc sv σ) sz) :=
  g_start (by decide) (Nat.le_of_ble_eq_true rfl) (fun p e s m below meth c ls S hr hk X hl => w_J7_rangeCheck_23922 S hr hk ⟨Nat.le_refl _, Nat.le_refl _⟩ X hl hg)
section MJ7_fill_bad5a_dem_table
variable {p : Program} {l : Launch} {e : Env} {R : Room} {s : State} {m : MethodId} {args : Array Value} {below : List Frame} {meth : Method} {c : Code} {dC : Nat → ClassId} {dI : Nat → Nat → Nat} {ak : Nat → Nat} {A : Nat → Prop} {ad : Nat → Nat} {kc : Nat → ClassId} {sv : Value} {r : Unit} {τ : S5}
set_option maxHeartbeats 4000000 in
set_option maxRecDepth 100000 in
theorem w_J7_fill_bad5a_dem_table_B10 {σ : S5} {rec10 : Int32 → Int64 → Int32 → S5 → Option (Unit × S5)} {v2 : Int32} {v3 : Int64} {v5 : Int32} {H : Heap} {locs : List Loc} {ls : Array Slot} (S : CallFix p m c cJ7_fill_bad5a 6 s args uG RJ7) (hr : meth.sig.returnType = none) (hk : meth.locks = false) (hR : 1 ≤ R.frames ∧ 22 ≤ R.locals)
    (hrec10 : ∀ (v2 : Int32) (v3 : Int64) (v5 : Int32) (σ : S5) (H : Heap) (locs : List Loc) (ls : Array Slot), gX (dC, dI) (tC kc) (wC ad kc sv) (zC ak) A s σ H locs → lv_has ls 6 [(0, .ref (ad 46)), (2, .int v2), (3, .long v3), (5, .int v5)] → rec10 v2 v3 v5 σ = some (r, τ) → W p l e R s m args below meth c H locs 0 0 (MQ below (gQv (dC, dI) (tC kc) (wC ad kc sv) A r τ) args s 0 0 A) (F0 m 10 ls []))
    (X : gX (dC, dI) (tC kc) (wC ad kc sv) (zC ak) A s σ H locs) (hl : lv_has ls 6 [(0, .ref (ad 46)), (2, .int v2), (3, .long v3), (5, .int v5)]) (hg : f_J7_fill_bad5a_dem_table_B10 rec10 v2 v3 v5 σ = some (r, τ)) : W p l e R s m args below meth c H locs 0 0 (MQ below (gQv (dC, dI) (tC kc) (wC ad kc sv) A r τ) args s 0 0 A) (F0 m 10 ls []) := by
  have hx := S.1
  have hb := S.2.1
  have hown := S.2.2.2.1
  have hu := S.2.2.2.2
  unfold f_J7_fill_bad5a_dem_table_B10 at hg
  refine lv_iload hx hb dJ7_fill_bad5a_10 (lv_at hl 3 rfl) ?_
  refine lv_iload_n hx hb dJ7_fill_bad5a_12 rfl (lv_at hl 1 rfl) ?_
  refine lv_icmp_ge (tgt := 27) hx hb dJ7_fill_bad5a_13 (by decide) (fun c13 => ?_) (fun c13 => ?_)
  · have hg := (if_pos c13).symm.trans hg
    obtain ⟨-, rfl⟩ := fin_some hg
    exact gr_v S hr hk X dJ7_fill_bad5a_27
  · have hg := (if_neg c13).symm.trans hg
    refine lv_aload_n hx hb dJ7_fill_bad5a_16 rfl (lv_at hl 0 rfl) ?_
    refine lv_iload hx hb dJ7_fill_bad5a_17 (lv_at hl 3 rfl) ?_
    refine lv_lload_n hx hb dJ7_fill_bad5a_19 rfl (lv_at hl 2 rfl) ?_
    obtain ⟨hi20, hg⟩ := gd_some hg
    refine wcsB_5 S X hi20 dJ7_fill_bad5a_20 (fun H locs X => ?_)
    refine lv_iinc (v := (v5 + 1)) (lv' := [(5, .int (v5 + 1)), (0, .ref (ad 46)), (2, .int v2), (3, .long v3)]) hx hb dJ7_fill_bad5a_21 hl (k := 3) rfl (by rfl) (by decide) rfl (fun ls hl => ?_)
    refine lv_goto (tgt := 10) hx hb dJ7_fill_bad5a_24 (by decide) ?_
    exact hrec10 _ _ _ _ _ _ _ X (lv_sub hl [1, 2, 3, 0] rfl) hg
set_option maxHeartbeats 4000000 in
set_option maxRecDepth 100000 in
theorem w_J7_fill_bad5a_dem_table_L10 (S : CallFix p m c cJ7_fill_bad5a 6 s args uG RJ7) (hr : meth.sig.returnType = none) (hk : meth.locks = false) (hR : 1 ≤ R.frames ∧ 22 ≤ R.locals) : ∀ (n : Nat) (v2 : Int32) (v3 : Int64) (v5 : Int32) (σ : S5) (H : Heap) (locs : List Loc) (ls : Array Slot), gX (dC, dI) (tC kc) (wC ad kc sv) (zC ak) A s σ H locs → lv_has ls 6 [(0, .ref (ad 46)), (2, .int v2), (3, .long v3), (5, .int v5)] → f_J7_fill_bad5a_dem_table_L10  n v2 v3 v5 σ = some (r, τ) → W p l e R s m args below meth c H locs 0 0 (MQ below (gQv (dC, dI) (tC kc) (wC ad kc sv) A r τ) args s 0 0 A) (F0 m 10 ls []) := by
  intro n
  induction n with
  | zero => intro v2 v3 v5 σ H locs ls X hl hg; cases hg
  | succ n ih => intro v2 v3 v5 σ H locs ls X hl hg; exact w_J7_fill_bad5a_dem_table_B10 S hr hk hR ih X hl hg
set_option maxHeartbeats 4000000 in
set_option maxRecDepth 100000 in
theorem w_J7_fill_bad5a_dem_table {σ : S5} {a1 : Int32} {a2 : Int32} {a3 : Int64} {H : Heap} {locs : List Loc} {ls : Array Slot} (S : CallFix p m c cJ7_fill_bad5a 6 s args uG RJ7) (hr : meth.sig.returnType = none) (hk : meth.locks = false) (hR : 1 ≤ R.frames ∧ 22 ≤ R.locals)
    (X : gX (dC, dI) (tC kc) (wC ad kc sv) (zC ak) A s σ H locs) (hl : lv_has ls 6 [(0, .ref (ad 46)), (1, .int a1), (2, .int a2), (3, .long a3)]) (hg : f_J7_fill_bad5a_dem_table a1 a2 a3 σ = some (r, τ)) : W p l e R s m args below meth c H locs 0 0 (MQ below (gQv (dC, dI) (tC kc) (wC ad kc sv) A r τ) args s 0 0 A) (F0 m 0 ls []) := by
  have hx := S.1
  have hb := S.2.1
  have hown := S.2.2.2.1
  have hu := S.2.2.2.2
  unfold f_J7_fill_bad5a_dem_table at hg
  refine lv_aload_n hx hb dJ7_fill_bad5a_0 rfl (lv_at hl 0 rfl) ?_
  refine wcnB_5 S X dJ7_fill_bad5a_1 ?_
  refine lv_iload_n hx hb dJ7_fill_bad5a_2 rfl (lv_at hl 1 rfl) ?_
  refine lv_iload_n hx hb dJ7_fill_bad5a_3 rfl (lv_at hl 2 rfl) ?_
  obtain ⟨r4, τ4, hq4, hg⟩ := bd_some hg
  refine gc_Sv (As := [.int 2520, .int a1, .int a2]) (rest := []) S X (k2_J7_rangeCheck_23922 l dC dI ad kc sv hq4 H.size) cw_J7_rangeCheck_23922 mG_1321 rfl rfl hl.1 (Nat.le_of_ble_eq_true rfl) dJ7_fill_bad5a_4 ⟨by omega, by omega⟩ (fun H locs X => ?_)
  refine lv_iload_n hx hb dJ7_fill_bad5a_7 rfl (lv_at hl 1 rfl) ?_
  refine lv_istore (lv' := [(5, .int a1), (0, .ref (ad 46)), (1, .int a1), (2, .int a2), (3, .long a3)]) hx hb dJ7_fill_bad5a_8 hl (by decide) rfl (fun ls hl => ?_)
  exact w_J7_fill_bad5a_dem_table_L10 S hr hk hR _ _ _ _ _ _ _ _ X (lv_sub hl [1, 3, 4, 0] rfl) hg
end MJ7_fill_bad5a_dem_table
set_option maxRecDepth 100000 in
theorem k2_J7_fill_bad5a_dem_table (l : Launch) (dC : Nat → ClassId) (dI : Nat → Nat → Nat) {ak : Nat → Nat} (ad : Nat → Nat) (kc : Nat → ClassId) (sv : Value) {σ τ : S5} {a1 : Int32} {a2 : Int32} {a3 : Int64} {r : Unit} (hg : f_J7_fill_bad5a_dem_table a1 a2 a3 σ = some (r, τ)) (sz : Nat) : Met l yJ7_fill_bad5a (Cond.code yJ7_fill_bad5a cJ7_fill_bad5a 6 none :: uG) { frames := 1, cells := 0, slots := 0, locals := 22 } (gPc (dC, dI) (tC kc) (wC ad kc sv) (zC ak) [.ref (ad 46), .int a1, .int a2, .long a3] σ sz) (gQv (dC, dI) (tC kc) (wC ad kc sv) (va_A (wC ad kc sv σ) sz) r τ) 0 0 (va_A (wC ad kc sv σ) sz) :=
  g_start (by decide) (Nat.le_of_ble_eq_true rfl) (fun p e s m below meth c ls S hr hk X hl => w_J7_fill_bad5a_dem_table S hr hk ⟨Nat.le_refl _, Nat.le_refl _⟩ X hl hg)
section MJ7_fill_bad5a_dem_bits
variable {p : Program} {l : Launch} {e : Env} {R : Room} {s : State} {m : MethodId} {args : Array Value} {below : List Frame} {meth : Method} {c : Code} {dC : Nat → ClassId} {dI : Nat → Nat → Nat} {ak : Nat → Nat} {A : Nat → Prop} {ad : Nat → Nat} {kc : Nat → ClassId} {sv : Value} {r : Unit} {τ : S5}
set_option maxHeartbeats 4000000 in
set_option maxRecDepth 100000 in
theorem w_J7_fill_bad5a_dem_bits_B10 {σ : S5} {rec10 : Int32 → Int64 → Int32 → S5 → Option (Unit × S5)} {v2 : Int32} {v3 : Int64} {v5 : Int32} {H : Heap} {locs : List Loc} {ls : Array Slot} (S : CallFix p m c cJ7_fill_bad5a 6 s args uG RJ7) (hr : meth.sig.returnType = none) (hk : meth.locks = false) (hR : 1 ≤ R.frames ∧ 22 ≤ R.locals)
    (hrec10 : ∀ (v2 : Int32) (v3 : Int64) (v5 : Int32) (σ : S5) (H : Heap) (locs : List Loc) (ls : Array Slot), gX (dC, dI) (tC kc) (wC ad kc sv) (zC ak) A s σ H locs → lv_has ls 6 [(0, .ref (ad 47)), (2, .int v2), (3, .long v3), (5, .int v5)] → rec10 v2 v3 v5 σ = some (r, τ) → W p l e R s m args below meth c H locs 0 0 (MQ below (gQv (dC, dI) (tC kc) (wC ad kc sv) A r τ) args s 0 0 A) (F0 m 10 ls []))
    (X : gX (dC, dI) (tC kc) (wC ad kc sv) (zC ak) A s σ H locs) (hl : lv_has ls 6 [(0, .ref (ad 47)), (2, .int v2), (3, .long v3), (5, .int v5)]) (hg : f_J7_fill_bad5a_dem_bits_B10 rec10 v2 v3 v5 σ = some (r, τ)) : W p l e R s m args below meth c H locs 0 0 (MQ below (gQv (dC, dI) (tC kc) (wC ad kc sv) A r τ) args s 0 0 A) (F0 m 10 ls []) := by
  have hx := S.1
  have hb := S.2.1
  have hown := S.2.2.2.1
  have hu := S.2.2.2.2
  unfold f_J7_fill_bad5a_dem_bits_B10 at hg
  refine lv_iload hx hb dJ7_fill_bad5a_10 (lv_at hl 3 rfl) ?_
  refine lv_iload_n hx hb dJ7_fill_bad5a_12 rfl (lv_at hl 1 rfl) ?_
  refine lv_icmp_ge (tgt := 27) hx hb dJ7_fill_bad5a_13 (by decide) (fun c13 => ?_) (fun c13 => ?_)
  · have hg := (if_pos c13).symm.trans hg
    obtain ⟨-, rfl⟩ := fin_some hg
    exact gr_v S hr hk X dJ7_fill_bad5a_27
  · have hg := (if_neg c13).symm.trans hg
    refine lv_aload_n hx hb dJ7_fill_bad5a_16 rfl (lv_at hl 0 rfl) ?_
    refine lv_iload hx hb dJ7_fill_bad5a_17 (lv_at hl 3 rfl) ?_
    refine lv_lload_n hx hb dJ7_fill_bad5a_19 rfl (lv_at hl 2 rfl) ?_
    obtain ⟨hi20, hg⟩ := gd_some hg
    refine wcsB_6 S X hi20 dJ7_fill_bad5a_20 (fun H locs X => ?_)
    refine lv_iinc (v := (v5 + 1)) (lv' := [(5, .int (v5 + 1)), (0, .ref (ad 47)), (2, .int v2), (3, .long v3)]) hx hb dJ7_fill_bad5a_21 hl (k := 3) rfl (by rfl) (by decide) rfl (fun ls hl => ?_)
    refine lv_goto (tgt := 10) hx hb dJ7_fill_bad5a_24 (by decide) ?_
    exact hrec10 _ _ _ _ _ _ _ X (lv_sub hl [1, 2, 3, 0] rfl) hg
set_option maxHeartbeats 4000000 in
set_option maxRecDepth 100000 in
theorem w_J7_fill_bad5a_dem_bits_L10 (S : CallFix p m c cJ7_fill_bad5a 6 s args uG RJ7) (hr : meth.sig.returnType = none) (hk : meth.locks = false) (hR : 1 ≤ R.frames ∧ 22 ≤ R.locals) : ∀ (n : Nat) (v2 : Int32) (v3 : Int64) (v5 : Int32) (σ : S5) (H : Heap) (locs : List Loc) (ls : Array Slot), gX (dC, dI) (tC kc) (wC ad kc sv) (zC ak) A s σ H locs → lv_has ls 6 [(0, .ref (ad 47)), (2, .int v2), (3, .long v3), (5, .int v5)] → f_J7_fill_bad5a_dem_bits_L10  n v2 v3 v5 σ = some (r, τ) → W p l e R s m args below meth c H locs 0 0 (MQ below (gQv (dC, dI) (tC kc) (wC ad kc sv) A r τ) args s 0 0 A) (F0 m 10 ls []) := by
  intro n
  induction n with
  | zero => intro v2 v3 v5 σ H locs ls X hl hg; cases hg
  | succ n ih => intro v2 v3 v5 σ H locs ls X hl hg; exact w_J7_fill_bad5a_dem_bits_B10 S hr hk hR ih X hl hg
set_option maxHeartbeats 4000000 in
set_option maxRecDepth 100000 in
theorem w_J7_fill_bad5a_dem_bits {σ : S5} {a1 : Int32} {a2 : Int32} {a3 : Int64} {H : Heap} {locs : List Loc} {ls : Array Slot} (S : CallFix p m c cJ7_fill_bad5a 6 s args uG RJ7) (hr : meth.sig.returnType = none) (hk : meth.locks = false) (hR : 1 ≤ R.frames ∧ 22 ≤ R.locals)
    (X : gX (dC, dI) (tC kc) (wC ad kc sv) (zC ak) A s σ H locs) (hl : lv_has ls 6 [(0, .ref (ad 47)), (1, .int a1), (2, .int a2), (3, .long a3)]) (hg : f_J7_fill_bad5a_dem_bits a1 a2 a3 σ = some (r, τ)) : W p l e R s m args below meth c H locs 0 0 (MQ below (gQv (dC, dI) (tC kc) (wC ad kc sv) A r τ) args s 0 0 A) (F0 m 0 ls []) := by
  have hx := S.1
  have hb := S.2.1
  have hown := S.2.2.2.1
  have hu := S.2.2.2.2
  unfold f_J7_fill_bad5a_dem_bits at hg
  refine lv_aload_n hx hb dJ7_fill_bad5a_0 rfl (lv_at hl 0 rfl) ?_
  refine wcnB_6 S X dJ7_fill_bad5a_1 ?_
  refine lv_iload_n hx hb dJ7_fill_bad5a_2 rfl (lv_at hl 1 rfl) ?_
  refine lv_iload_n hx hb dJ7_fill_bad5a_3 rfl (lv_at hl 2 rfl) ?_
  obtain ⟨r4, τ4, hq4, hg⟩ := bd_some hg
  refine gc_Sv (As := [.int 40, .int a1, .int a2]) (rest := []) S X (k2_J7_rangeCheck_23922 l dC dI ad kc sv hq4 H.size) cw_J7_rangeCheck_23922 mG_1321 rfl rfl hl.1 (Nat.le_of_ble_eq_true rfl) dJ7_fill_bad5a_4 ⟨by omega, by omega⟩ (fun H locs X => ?_)
  refine lv_iload_n hx hb dJ7_fill_bad5a_7 rfl (lv_at hl 1 rfl) ?_
  refine lv_istore (lv' := [(5, .int a1), (0, .ref (ad 47)), (1, .int a1), (2, .int a2), (3, .long a3)]) hx hb dJ7_fill_bad5a_8 hl (by decide) rfl (fun ls hl => ?_)
  exact w_J7_fill_bad5a_dem_bits_L10 S hr hk hR _ _ _ _ _ _ _ _ X (lv_sub hl [1, 3, 4, 0] rfl) hg
end MJ7_fill_bad5a_dem_bits
set_option maxRecDepth 100000 in
theorem k2_J7_fill_bad5a_dem_bits (l : Launch) (dC : Nat → ClassId) (dI : Nat → Nat → Nat) {ak : Nat → Nat} (ad : Nat → Nat) (kc : Nat → ClassId) (sv : Value) {σ τ : S5} {a1 : Int32} {a2 : Int32} {a3 : Int64} {r : Unit} (hg : f_J7_fill_bad5a_dem_bits a1 a2 a3 σ = some (r, τ)) (sz : Nat) : Met l yJ7_fill_bad5a (Cond.code yJ7_fill_bad5a cJ7_fill_bad5a 6 none :: uG) { frames := 1, cells := 0, slots := 0, locals := 22 } (gPc (dC, dI) (tC kc) (wC ad kc sv) (zC ak) [.ref (ad 47), .int a1, .int a2, .long a3] σ sz) (gQv (dC, dI) (tC kc) (wC ad kc sv) (va_A (wC ad kc sv σ) sz) r τ) 0 0 (va_A (wC ad kc sv σ) sz) :=
  g_start (by decide) (Nat.le_of_ble_eq_true rfl) (fun p e s m below meth c ls S hr hk X hl => w_J7_fill_bad5a_dem_bits S hr hk ⟨Nat.le_refl _, Nat.le_refl _⟩ X hl hg)
section MX1_look
variable {p : Program} {l : Launch} {e : Env} {R : Room} {s : State} {m : MethodId} {args : Array Value} {below : List Frame} {meth : Method} {c : Code} {dC : Nat → ClassId} {dI : Nat → Nat → Nat} {ak : Nat → Nat} {A : Nat → Prop} {ad : Nat → Nat} {kc : Nat → ClassId} {sv : Value} {r : Int32} {τ : S5}
set_option maxHeartbeats 4000000 in
set_option maxRecDepth 100000 in
theorem w_X1_look {σ : S5} {a1 : Int32} {a2 : Int32} {H : Heap} {locs : List Loc} {ls : Array Slot} (S : CallFix p m c cX1_look 3 s args uG RX1) (hr : meth.sig.returnType = (some .int)) (hk : meth.locks = false) (hR : 0 ≤ R.frames ∧ 0 ≤ R.locals)
    (X : gX (dC, dI) (tC kc) (wC ad kc sv) (zC ak) A s σ H locs) (hl : lv_has ls 3 [(0, .ref (ad 8)), (1, .int a1), (2, .int a2)]) (hg : f_X1_look a1 a2 σ = some (r, τ)) : W p l e R s m args below meth c H locs 0 0 (MQ below (gQi (dC, dI) (tC kc) (wC ad kc sv) A r τ) args s 0 0 A) (F0 m 0 ls []) := by
  have hx := S.1
  have hb := S.2.1
  have hown := S.2.2.2.1
  have hu := S.2.2.2.2
  unfold f_X1_look at hg
  refine lv_aload_n hx hb dX1_look_0 rfl (lv_at hl 0 rfl) ?_
  refine wcgR_8_2 S X mG_601 dX1_look_1 ?_
  refine lv_iload_n hx hb dX1_look_4 rfl (lv_at hl 1 rfl) ?_
  refine lv_iconst (v := 4) hx hb dX1_look_5 (by decide) ?_
  refine lv_imul hx hb dX1_look_6 ?_
  refine lv_iload_n hx hb dX1_look_7 rfl (lv_at hl 2 rfl) ?_
  refine lv_bipush (v := 6) hx hb dX1_look_8 (by decide) ?_
  refine lv_iushr (v := (j_iushr a2 6)) hx hb dX1_look_10 rfl ?_
  refine lv_iconst (v := 3) hx hb dX1_look_11 (by decide) ?_
  refine lv_iand hx hb dX1_look_12 ?_
  refine lv_iadd hx hb dX1_look_13 ?_
  obtain ⟨hi14, hg⟩ := gd_some hg
  refine wclB_5 (v := (xB σ 5 ((a1 * 4) + ((j_iushr a2 6) &&& 3)))) S X hi14 rfl dX1_look_14 ?_
  refine lv_iload_n hx hb dX1_look_15 rfl (lv_at hl 2 rfl) ?_
  refine lv_bipush (v := 63) hx hb dX1_look_16 (by decide) ?_
  refine lv_iand hx hb dX1_look_18 ?_
  refine lv_lushr (v := (j_lushr (xB σ 5 ((a1 * 4) + ((j_iushr a2 6) &&& 3))) (a2 &&& 63))) hx hb dX1_look_19 rfl ?_
  refine lv_l2i (v := (((j_lushr (xB σ 5 ((a1 * 4) + ((j_iushr a2 6) &&& 3))) (a2 &&& 63)) : Int64).toInt32)) hx hb dX1_look_20 rfl ?_
  refine lv_iconst (v := 1) hx hb dX1_look_21 (by decide) ?_
  refine lv_iand hx hb dX1_look_22 ?_
  obtain ⟨rfl, rfl⟩ := fin_some hg
  exact gr_i S hr hk X dX1_look_23
end MX1_look
set_option maxRecDepth 100000 in
theorem k2_X1_look (l : Launch) (dC : Nat → ClassId) (dI : Nat → Nat → Nat) {ak : Nat → Nat} (ad : Nat → Nat) (kc : Nat → ClassId) (sv : Value) {σ τ : S5} {a1 : Int32} {a2 : Int32} {r : Int32} (hg : f_X1_look a1 a2 σ = some (r, τ)) (sz : Nat) : Met l yX1_look (Cond.code yX1_look cX1_look 3 (some .int) :: uG) { frames := 0, cells := 0, slots := 0, locals := 0 } (gPc (dC, dI) (tC kc) (wC ad kc sv) (zC ak) [.ref (ad 8), .int a1, .int a2] σ sz) (gQi (dC, dI) (tC kc) (wC ad kc sv) (va_A (wC ad kc sv σ) sz) r τ) 0 0 (va_A (wC ad kc sv σ) sz) :=
  g_start (by decide) (Nat.le_of_ble_eq_true rfl) (fun p e s m below meth c ls S hr hk X hl => w_X1_look S hr hk ⟨Nat.le_refl _, Nat.le_refl _⟩ X hl hg)
section MX1_alone
variable {p : Program} {l : Launch} {e : Env} {R : Room} {s : State} {m : MethodId} {args : Array Value} {below : List Frame} {meth : Method} {c : Code} {dC : Nat → ClassId} {dI : Nat → Nat → Nat} {ak : Nat → Nat} {A : Nat → Prop} {ad : Nat → Nat} {kc : Nat → ClassId} {sv : Value} {r : Int64} {τ : S5}
set_option maxHeartbeats 4000000 in
set_option maxRecDepth 100000 in
theorem w_X1_alone {σ : S5} {a1 : Int32} {H : Heap} {locs : List Loc} {ls : Array Slot} (S : CallFix p m c cX1_alone 2 s args uG RX1) (hr : meth.sig.returnType = (some .long)) (hk : meth.locks = false) (hR : 0 ≤ R.frames ∧ 0 ≤ R.locals)
    (X : gX (dC, dI) (tC kc) (wC ad kc sv) (zC ak) A s σ H locs) (hl : lv_has ls 2 [(0, .ref (ad 8)), (1, .int a1)]) (hg : f_X1_alone a1 σ = some (r, τ)) : W p l e R s m args below meth c H locs 0 0 (MQ below (gQl (dC, dI) (tC kc) (wC ad kc sv) A r τ) args s 0 0 A) (F0 m 0 ls []) := by
  have hx := S.1
  have hb := S.2.1
  have hown := S.2.2.2.1
  have hu := S.2.2.2.2
  unfold f_X1_alone at hg
  refine lv_aload_n hx hb dX1_alone_0 rfl (lv_at hl 0 rfl) ?_
  refine wcgR_8_1 S X mG_600 dX1_alone_1 ?_
  refine wcgR_2_7 S X mG_311 dX1_alone_4 ?_
  refine lv_iload_n hx hb dX1_alone_7 rfl (lv_at hl 1 rfl) ?_
  obtain ⟨hi8, hg⟩ := gd_some hg
  refine wclA_3 (v := (xA σ 3 a1)) S X hi8 rfl dX1_alone_8 ?_
  refine lv_if_le (tgt := 18) hx hb dX1_alone_9 (by decide) (fun c9 => ?_) (fun c9 => ?_)
  · have hg := (if_pos c9).symm.trans hg
    refine lv_aload_n hx hb dX1_alone_18 rfl (lv_at hl 0 rfl) ?_
    refine wcgR_8_2 S X mG_601 dX1_alone_19 ?_
    refine lv_iload_n hx hb dX1_alone_22 rfl (lv_at hl 1 rfl) ?_
    refine lv_iconst (v := 4) hx hb dX1_alone_23 (by decide) ?_
    refine lv_imul hx hb dX1_alone_24 ?_
    obtain ⟨hi25, hg⟩ := gd_some hg
    refine wclB_5 (v := (xB σ 5 (a1 * 4))) S X hi25 rfl dX1_alone_25 ?_
    refine lv_lconst (v := 1) hx hb dX1_alone_26 rfl ?_
    refine lv_land hx hb dX1_alone_27 ?_
    refine lv_lneg hx hb dX1_alone_28 ?_
    obtain ⟨rfl, rfl⟩ := fin_some hg
    exact gr_l S hr hk X dX1_alone_29
  · have hg := (if_neg c9).symm.trans hg
    refine lv_ldc2 (own := RX1) (v := (-1)) hx hb hown (hu _ mG_1583) dX1_alone_12 ?_
    refine lv_goto (tgt := 29) hx hb dX1_alone_15 (by decide) ?_
    obtain ⟨rfl, rfl⟩ := fin_some hg
    exact gr_l S hr hk X dX1_alone_29
end MX1_alone
set_option maxRecDepth 100000 in
theorem k2_X1_alone (l : Launch) (dC : Nat → ClassId) (dI : Nat → Nat → Nat) {ak : Nat → Nat} (ad : Nat → Nat) (kc : Nat → ClassId) (sv : Value) {σ τ : S5} {a1 : Int32} {r : Int64} (hg : f_X1_alone a1 σ = some (r, τ)) (sz : Nat) : Met l yX1_alone (Cond.code yX1_alone cX1_alone 2 (some .long) :: uG) { frames := 0, cells := 0, slots := 0, locals := 0 } (gPc (dC, dI) (tC kc) (wC ad kc sv) (zC ak) [.ref (ad 8), .int a1] σ sz) (gQl (dC, dI) (tC kc) (wC ad kc sv) (va_A (wC ad kc sv σ) sz) r τ) 0 0 (va_A (wC ad kc sv σ) sz) :=
  g_start (by decide) (Nat.le_of_ble_eq_true rfl) (fun p e s m below meth c ls S hr hk X hl => w_X1_alone S hr hk ⟨Nat.le_refl _, Nat.le_refl _⟩ X hl hg)
section MX1_compose
variable {p : Program} {l : Launch} {e : Env} {R : Room} {s : State} {m : MethodId} {args : Array Value} {below : List Frame} {meth : Method} {c : Code} {dC : Nat → ClassId} {dI : Nat → Nat → Nat} {ak : Nat → Nat} {A : Nat → Prop} {ad : Nat → Nat} {kc : Nat → ClassId} {sv : Value} {r : Int64} {τ : S5}
set_option maxHeartbeats 4000000 in
set_option maxRecDepth 100000 in
theorem w_X1_compose_B20 {σ : S5} {rec5 : Int32 → Int32 → Int64 → Int32 → S5 → Option (Int64 × S5)} {rec20 : Int32 → Int32 → Int64 → Int32 → Int32 → Int32 → S5 → Option (Int64 × S5)} {v1 : Int32} {v2 : Int32} {v3 : Int64} {v5 : Int32} {v6 : Int32} {v7 : Int32} {H : Heap} {locs : List Loc} {ls : Array Slot} (S : CallFix p m c cX1_compose 8 s args uG RX1) (hr : meth.sig.returnType = (some .long)) (hk : meth.locks = false) (hR : 1 ≤ R.frames ∧ 22 ≤ R.locals)
    (hrec5 : ∀ (v1 : Int32) (v2 : Int32) (v3 : Int64) (v5 : Int32) (σ : S5) (H : Heap) (locs : List Loc) (ls : Array Slot), gX (dC, dI) (tC kc) (wC ad kc sv) (zC ak) A s σ H locs → lv_has ls 8 [(0, .ref (ad 8)), (1, .int v1), (2, .int v2), (3, .long v3), (5, .int v5)] → rec5 v1 v2 v3 v5 σ = some (r, τ) → W p l e R s m args below meth c H locs 0 0 (MQ below (gQl (dC, dI) (tC kc) (wC ad kc sv) A r τ) args s 0 0 A) (F0 m 5 ls []))
    (hrec20 : ∀ (v1 : Int32) (v2 : Int32) (v3 : Int64) (v5 : Int32) (v6 : Int32) (v7 : Int32) (σ : S5) (H : Heap) (locs : List Loc) (ls : Array Slot), gX (dC, dI) (tC kc) (wC ad kc sv) (zC ak) A s σ H locs → lv_has ls 8 [(0, .ref (ad 8)), (1, .int v1), (2, .int v2), (3, .long v3), (5, .int v5), (6, .int v6), (7, .int v7)] → rec20 v1 v2 v3 v5 v6 v7 σ = some (r, τ) → W p l e R s m args below meth c H locs 0 0 (MQ below (gQl (dC, dI) (tC kc) (wC ad kc sv) A r τ) args s 0 0 A) (F0 m 20 ls []))
    (X : gX (dC, dI) (tC kc) (wC ad kc sv) (zC ak) A s σ H locs) (hl : lv_has ls 8 [(0, .ref (ad 8)), (1, .int v1), (2, .int v2), (3, .long v3), (5, .int v5), (6, .int v6), (7, .int v7)]) (hg : f_X1_compose_B20 rec5 rec20 v1 v2 v3 v5 v6 v7 σ = some (r, τ)) : W p l e R s m args below meth c H locs 0 0 (MQ below (gQl (dC, dI) (tC kc) (wC ad kc sv) A r τ) args s 0 0 A) (F0 m 20 ls []) := by
  have hx := S.1
  have hb := S.2.1
  have hown := S.2.2.2.1
  have hu := S.2.2.2.2
  unfold f_X1_compose_B20 at hg
  refine lv_iload hx hb dX1_compose_20 (lv_at hl 6 rfl) ?_
  refine lv_aload_n hx hb dX1_compose_22 rfl (lv_at hl 0 rfl) ?_
  refine wcgI_22 (v := (gI σ 22)) S X mG_604 rfl dX1_compose_23 ?_
  refine lv_icmp_ge (tgt := 58) hx hb dX1_compose_26 (by decide) (fun c26 => ?_) (fun c26 => ?_)
  · have hg := (if_pos c26).symm.trans hg
    refine lv_lload_n hx hb dX1_compose_58 rfl (lv_at hl 3 rfl) ?_
    refine lv_aload_n hx hb dX1_compose_59 rfl (lv_at hl 0 rfl) ?_
    refine lv_iload_n hx hb dX1_compose_60 rfl (lv_at hl 1 rfl) ?_
    refine lv_iload hx hb dX1_compose_61 (lv_at hl 5 rfl) ?_
    obtain ⟨r63, τ63, hq63, hg⟩ := bd_some hg
    refine gc_Vi (As := [.int v1, .int v6]) (rest := [.long v3]) (q0 := 8) (ci := 4) S X (k2_X1_look l dC dI ad kc sv hq63 H.size) cw_X1_look mG_1600 rfl rfl rfl rfl rfl hl.1 (Nat.le_of_ble_eq_true rfl) dX1_compose_63 ⟨by omega, by omega⟩ (fun H locs X => ?_)
    refine lv_i2l (v := ((r63).toInt64)) hx hb dX1_compose_66 rfl ?_
    refine lv_iload hx hb dX1_compose_67 (lv_at hl 4 rfl) ?_
    refine lv_lshl (v := (j_lshl ((r63).toInt64) v5)) hx hb dX1_compose_69 rfl ?_
    refine lv_lor hx hb dX1_compose_70 ?_
    refine lv_lstore_n (lv' := [(3, .long (v3 ||| (j_lshl ((r63).toInt64) v5))), (0, .ref (ad 8)), (1, .int v1), (2, .int v2), (5, .int v5), (6, .int v6), (7, .int v7)]) hx hb dX1_compose_71 rfl hl (by decide) rfl (fun ls hl => ?_)
    refine lv_iinc (v := (v5 + 1)) (lv' := [(5, .int (v5 + 1)), (3, .long (v3 ||| (j_lshl ((r63).toInt64) v5))), (0, .ref (ad 8)), (1, .int v1), (2, .int v2), (6, .int v6), (7, .int v7)]) hx hb dX1_compose_72 hl (k := 4) rfl (by rfl) (by decide) rfl (fun ls hl => ?_)
    refine lv_goto (tgt := 5) hx hb dX1_compose_75 (by decide) ?_
    exact hrec5 _ _ _ _ _ _ _ _ X (lv_sub hl [2, 3, 4, 1, 0] rfl) hg
  · have hg := (if_neg c26).symm.trans hg
    refine lv_iload hx hb dX1_compose_29 (lv_at hl 5 rfl) ?_
    refine lv_aload_n hx hb dX1_compose_31 rfl (lv_at hl 0 rfl) ?_
    refine wcgR_8_4 S X mG_603 dX1_compose_32 ?_
    refine lv_iload hx hb dX1_compose_35 (lv_at hl 6 rfl) ?_
    obtain ⟨hi37, hg⟩ := gd_some hg
    refine wclB_7 (v := (xB σ 7 v7)) S X hi37 rfl dX1_compose_37 ?_
    refine lv_iload hx hb dX1_compose_38 (lv_at hl 4 rfl) ?_
    refine lv_lushr (v := (j_lushr (xB σ 7 v7) v5)) hx hb dX1_compose_40 rfl ?_
    refine lv_lconst (v := 1) hx hb dX1_compose_41 rfl ?_
    refine lv_land hx hb dX1_compose_42 ?_
    refine lv_l2i (v := ((((j_lushr (xB σ 7 v7) v5) &&& 1) : Int64).toInt32)) hx hb dX1_compose_43 rfl ?_
    refine lv_iload hx hb dX1_compose_44 (lv_at hl 6 rfl) ?_
    refine lv_iload_n hx hb dX1_compose_46 rfl (lv_at hl 2 rfl) ?_
    refine lv_isub hx hb dX1_compose_47 ?_
    refine lv_ishl hx hb dX1_compose_48 ?_
    refine lv_ior hx hb dX1_compose_49 ?_
    refine lv_istore (lv' := [(6, .int (v6 ||| (((((j_lushr (xB σ 7 v7) v5) &&& 1) : Int64).toInt32) <<< ((v7 - v2) &&& 31)))), (0, .ref (ad 8)), (1, .int v1), (2, .int v2), (3, .long v3), (5, .int v5), (7, .int v7)]) hx hb dX1_compose_50 hl (by decide) rfl (fun ls hl => ?_)
    refine lv_iinc (v := (v7 + 1)) (lv' := [(7, .int (v7 + 1)), (6, .int (v6 ||| (((((j_lushr (xB σ 7 v7) v5) &&& 1) : Int64).toInt32) <<< ((v7 - v2) &&& 31)))), (0, .ref (ad 8)), (1, .int v1), (2, .int v2), (3, .long v3), (5, .int v5)]) hx hb dX1_compose_52 hl (k := 6) rfl (by rfl) (by decide) rfl (fun ls hl => ?_)
    refine lv_goto (tgt := 20) hx hb dX1_compose_55 (by decide) ?_
    exact hrec20 _ _ _ _ _ _ _ _ _ _ X (lv_sub hl [2, 3, 4, 5, 6, 1, 0] rfl) hg
set_option maxHeartbeats 4000000 in
set_option maxRecDepth 100000 in
theorem w_X1_compose_L20 {rec5 : Int32 → Int32 → Int64 → Int32 → S5 → Option (Int64 × S5)} (S : CallFix p m c cX1_compose 8 s args uG RX1) (hr : meth.sig.returnType = (some .long)) (hk : meth.locks = false) (hR : 1 ≤ R.frames ∧ 22 ≤ R.locals)
    (hrec5 : ∀ (v1 : Int32) (v2 : Int32) (v3 : Int64) (v5 : Int32) (σ : S5) (H : Heap) (locs : List Loc) (ls : Array Slot), gX (dC, dI) (tC kc) (wC ad kc sv) (zC ak) A s σ H locs → lv_has ls 8 [(0, .ref (ad 8)), (1, .int v1), (2, .int v2), (3, .long v3), (5, .int v5)] → rec5 v1 v2 v3 v5 σ = some (r, τ) → W p l e R s m args below meth c H locs 0 0 (MQ below (gQl (dC, dI) (tC kc) (wC ad kc sv) A r τ) args s 0 0 A) (F0 m 5 ls [])) : ∀ (n : Nat) (v1 : Int32) (v2 : Int32) (v3 : Int64) (v5 : Int32) (v6 : Int32) (v7 : Int32) (σ : S5) (H : Heap) (locs : List Loc) (ls : Array Slot), gX (dC, dI) (tC kc) (wC ad kc sv) (zC ak) A s σ H locs → lv_has ls 8 [(0, .ref (ad 8)), (1, .int v1), (2, .int v2), (3, .long v3), (5, .int v5), (6, .int v6), (7, .int v7)] → f_X1_compose_L20 rec5 n v1 v2 v3 v5 v6 v7 σ = some (r, τ) → W p l e R s m args below meth c H locs 0 0 (MQ below (gQl (dC, dI) (tC kc) (wC ad kc sv) A r τ) args s 0 0 A) (F0 m 20 ls []) := by
  intro n
  induction n with
  | zero => intro v1 v2 v3 v5 v6 v7 σ H locs ls X hl hg; cases hg
  | succ n ih => intro v1 v2 v3 v5 v6 v7 σ H locs ls X hl hg; exact w_X1_compose_B20 S hr hk hR hrec5 ih X hl hg
set_option maxHeartbeats 4000000 in
set_option maxRecDepth 100000 in
theorem w_X1_compose_B5 {σ : S5} {rec5 : Int32 → Int32 → Int64 → Int32 → S5 → Option (Int64 × S5)} {v1 : Int32} {v2 : Int32} {v3 : Int64} {v5 : Int32} {H : Heap} {locs : List Loc} {ls : Array Slot} (S : CallFix p m c cX1_compose 8 s args uG RX1) (hr : meth.sig.returnType = (some .long)) (hk : meth.locks = false) (hR : 1 ≤ R.frames ∧ 22 ≤ R.locals)
    (hrec5 : ∀ (v1 : Int32) (v2 : Int32) (v3 : Int64) (v5 : Int32) (σ : S5) (H : Heap) (locs : List Loc) (ls : Array Slot), gX (dC, dI) (tC kc) (wC ad kc sv) (zC ak) A s σ H locs → lv_has ls 8 [(0, .ref (ad 8)), (1, .int v1), (2, .int v2), (3, .long v3), (5, .int v5)] → rec5 v1 v2 v3 v5 σ = some (r, τ) → W p l e R s m args below meth c H locs 0 0 (MQ below (gQl (dC, dI) (tC kc) (wC ad kc sv) A r τ) args s 0 0 A) (F0 m 5 ls []))
    (X : gX (dC, dI) (tC kc) (wC ad kc sv) (zC ak) A s σ H locs) (hl : lv_has ls 8 [(0, .ref (ad 8)), (1, .int v1), (2, .int v2), (3, .long v3), (5, .int v5)]) (hg : f_X1_compose_B5 rec5 v1 v2 v3 v5 σ = some (r, τ)) : W p l e R s m args below meth c H locs 0 0 (MQ below (gQl (dC, dI) (tC kc) (wC ad kc sv) A r τ) args s 0 0 A) (F0 m 5 ls []) := by
  have hx := S.1
  have hb := S.2.1
  have hown := S.2.2.2.1
  have hu := S.2.2.2.2
  unfold f_X1_compose_B5 at hg
  refine lv_iload hx hb dX1_compose_5 (lv_at hl 4 rfl) ?_
  refine lv_aload_n hx hb dX1_compose_7 rfl (lv_at hl 0 rfl) ?_
  refine wcgI_23 (v := (gI σ 23)) S X mG_605 rfl dX1_compose_8 ?_
  refine lv_icmp_ge (tgt := 78) hx hb dX1_compose_11 (by decide) (fun c11 => ?_) (fun c11 => ?_)
  · have hg := (if_pos c11).symm.trans hg
    refine lv_lload_n hx hb dX1_compose_78 rfl (lv_at hl 3 rfl) ?_
    obtain ⟨rfl, rfl⟩ := fin_some hg
    exact gr_l S hr hk X dX1_compose_79
  · have hg := (if_neg c11).symm.trans hg
    refine lv_iconst (v := 0) hx hb dX1_compose_14 (by decide) ?_
    refine lv_istore (lv' := [(6, .int 0), (0, .ref (ad 8)), (1, .int v1), (2, .int v2), (3, .long v3), (5, .int v5)]) hx hb dX1_compose_15 hl (by decide) rfl (fun ls hl => ?_)
    refine lv_iload_n hx hb dX1_compose_17 rfl (lv_at hl 3 rfl) ?_
    refine lv_istore (lv' := [(7, .int v2), (6, .int 0), (0, .ref (ad 8)), (1, .int v1), (2, .int v2), (3, .long v3), (5, .int v5)]) hx hb dX1_compose_18 hl (by decide) rfl (fun ls hl => ?_)
    exact w_X1_compose_L20 S hr hk hR hrec5 _ _ _ _ _ _ _ _ _ _ _ X (lv_sub hl [2, 3, 4, 5, 6, 1, 0] rfl) hg
set_option maxHeartbeats 4000000 in
set_option maxRecDepth 100000 in
theorem w_X1_compose_L5 (S : CallFix p m c cX1_compose 8 s args uG RX1) (hr : meth.sig.returnType = (some .long)) (hk : meth.locks = false) (hR : 1 ≤ R.frames ∧ 22 ≤ R.locals) : ∀ (n : Nat) (v1 : Int32) (v2 : Int32) (v3 : Int64) (v5 : Int32) (σ : S5) (H : Heap) (locs : List Loc) (ls : Array Slot), gX (dC, dI) (tC kc) (wC ad kc sv) (zC ak) A s σ H locs → lv_has ls 8 [(0, .ref (ad 8)), (1, .int v1), (2, .int v2), (3, .long v3), (5, .int v5)] → f_X1_compose_L5  n v1 v2 v3 v5 σ = some (r, τ) → W p l e R s m args below meth c H locs 0 0 (MQ below (gQl (dC, dI) (tC kc) (wC ad kc sv) A r τ) args s 0 0 A) (F0 m 5 ls []) := by
  intro n
  induction n with
  | zero => intro v1 v2 v3 v5 σ H locs ls X hl hg; cases hg
  | succ n ih => intro v1 v2 v3 v5 σ H locs ls X hl hg; exact w_X1_compose_B5 S hr hk hR ih X hl hg
set_option maxHeartbeats 4000000 in
set_option maxRecDepth 100000 in
theorem w_X1_compose {σ : S5} {a1 : Int32} {a2 : Int32} {H : Heap} {locs : List Loc} {ls : Array Slot} (S : CallFix p m c cX1_compose 8 s args uG RX1) (hr : meth.sig.returnType = (some .long)) (hk : meth.locks = false) (hR : 1 ≤ R.frames ∧ 22 ≤ R.locals)
    (X : gX (dC, dI) (tC kc) (wC ad kc sv) (zC ak) A s σ H locs) (hl : lv_has ls 8 [(0, .ref (ad 8)), (1, .int a1), (2, .int a2)]) (hg : f_X1_compose a1 a2 σ = some (r, τ)) : W p l e R s m args below meth c H locs 0 0 (MQ below (gQl (dC, dI) (tC kc) (wC ad kc sv) A r τ) args s 0 0 A) (F0 m 0 ls []) := by
  have hx := S.1
  have hb := S.2.1
  have hown := S.2.2.2.1
  have hu := S.2.2.2.2
  unfold f_X1_compose at hg
  refine lv_lconst (v := 0) hx hb dX1_compose_0 rfl ?_
  refine lv_lstore_n (lv' := [(3, .long 0), (0, .ref (ad 8)), (1, .int a1), (2, .int a2)]) hx hb dX1_compose_1 rfl hl (by decide) rfl (fun ls hl => ?_)
  refine lv_iconst (v := 0) hx hb dX1_compose_2 (by decide) ?_
  refine lv_istore (lv' := [(5, .int 0), (3, .long 0), (0, .ref (ad 8)), (1, .int a1), (2, .int a2)]) hx hb dX1_compose_3 hl (by decide) rfl (fun ls hl => ?_)
  exact w_X1_compose_L5 S hr hk hR _ _ _ _ _ _ _ _ _ X (lv_sub hl [2, 3, 4, 1, 0] rfl) hg
end MX1_compose
set_option maxRecDepth 100000 in
theorem k2_X1_compose (l : Launch) (dC : Nat → ClassId) (dI : Nat → Nat → Nat) {ak : Nat → Nat} (ad : Nat → Nat) (kc : Nat → ClassId) (sv : Value) {σ τ : S5} {a1 : Int32} {a2 : Int32} {r : Int64} (hg : f_X1_compose a1 a2 σ = some (r, τ)) (sz : Nat) : Met l yX1_compose (Cond.code yX1_compose cX1_compose 8 (some .long) :: uG) { frames := 1, cells := 0, slots := 0, locals := 22 } (gPc (dC, dI) (tC kc) (wC ad kc sv) (zC ak) [.ref (ad 8), .int a1, .int a2] σ sz) (gQl (dC, dI) (tC kc) (wC ad kc sv) (va_A (wC ad kc sv σ) sz) r τ) 0 0 (va_A (wC ad kc sv σ) sz) :=
  g_start (by decide) (Nat.le_of_ble_eq_true rfl) (fun p e s m below meth c ls S hr hk X hl => w_X1_compose S hr hk ⟨Nat.le_refl _, Nat.le_refl _⟩ X hl hg)
section MX1_neededOf
variable {p : Program} {l : Launch} {e : Env} {R : Room} {s : State} {m : MethodId} {args : Array Value} {below : List Frame} {meth : Method} {c : Code} {dC : Nat → ClassId} {dI : Nat → Nat → Nat} {ak : Nat → Nat} {A : Nat → Prop} {ad : Nat → Nat} {kc : Nat → ClassId} {sv : Value} {r : Int32} {τ : S5}
set_option maxHeartbeats 4000000 in
set_option maxRecDepth 100000 in
theorem w_X1_neededOf_b58 {σ : S5} {rec19 : Int32 → Int32 → Int32 → Int32 → S5 → Option (Int32 × S5)} {v1 : Int32} {v2 : Int32} {v4 : Int32} {u0 : Int32} {u1 : Int32} {H : Heap} {locs : List Loc} {ls : Array Slot} (S : CallFix p m c cX1_neededOf 5 s args uG RX1) (hr : meth.sig.returnType = (some .int)) (hk : meth.locks = false) (hR : 1 ≤ R.frames ∧ 22 ≤ R.locals)
    (hrec19 : ∀ (v1 : Int32) (v2 : Int32) (v3 : Int32) (v4 : Int32) (σ : S5) (H : Heap) (locs : List Loc) (ls : Array Slot), gX (dC, dI) (tC kc) (wC ad kc sv) (zC ak) A s σ H locs → lv_has ls 5 [(0, .ref (ad 8)), (1, .int v1), (2, .int v2), (3, .int v3), (4, .int v4)] → rec19 v1 v2 v3 v4 σ = some (r, τ) → W p l e R s m args below meth c H locs 0 0 (MQ below (gQi (dC, dI) (tC kc) (wC ad kc sv) A r τ) args s 0 0 A) (F0 m 19 ls []))
    (X : gX (dC, dI) (tC kc) (wC ad kc sv) (zC ak) A s σ H locs) (hl : lv_has ls 5 [(0, .ref (ad 8)), (1, .int v1), (2, .int v2), (4, .int v4)]) (hg : f_X1_neededOf_b58 rec19 v1 v2 v4 u0 u1 σ = some (r, τ)) : W p l e R s m args below meth c H locs 0 0 (MQ below (gQi (dC, dI) (tC kc) (wC ad kc sv) A r τ) args s 0 0 A) (F0 m 58 ls [.int u0, .int u1]) := by
  have hx := S.1
  have hb := S.2.1
  have hown := S.2.2.2.1
  have hu := S.2.2.2.2
  unfold f_X1_neededOf_b58 at hg
  refine lv_ior hx hb dX1_neededOf_58 ?_
  refine lv_istore_n (lv' := [(3, .int (u1 ||| u0)), (0, .ref (ad 8)), (1, .int v1), (2, .int v2), (4, .int v4)]) hx hb dX1_neededOf_59 rfl hl (by decide) rfl (fun ls hl => ?_)
  refine lv_iinc (v := (v4 + 1)) (lv' := [(4, .int (v4 + 1)), (3, .int (u1 ||| u0)), (0, .ref (ad 8)), (1, .int v1), (2, .int v2)]) hx hb dX1_neededOf_60 hl (k := 4) rfl (by rfl) (by decide) rfl (fun ls hl => ?_)
  refine lv_goto (tgt := 19) hx hb dX1_neededOf_63 (by decide) ?_
  exact hrec19 _ _ _ _ _ _ _ _ X (lv_sub hl [2, 3, 4, 1, 0] rfl) hg
set_option maxHeartbeats 4000000 in
set_option maxRecDepth 100000 in
theorem w_X1_neededOf_B19 {σ : S5} {rec19 : Int32 → Int32 → Int32 → Int32 → S5 → Option (Int32 × S5)} {v1 : Int32} {v2 : Int32} {v3 : Int32} {v4 : Int32} {H : Heap} {locs : List Loc} {ls : Array Slot} (S : CallFix p m c cX1_neededOf 5 s args uG RX1) (hr : meth.sig.returnType = (some .int)) (hk : meth.locks = false) (hR : 1 ≤ R.frames ∧ 22 ≤ R.locals)
    (hrec19 : ∀ (v1 : Int32) (v2 : Int32) (v3 : Int32) (v4 : Int32) (σ : S5) (H : Heap) (locs : List Loc) (ls : Array Slot), gX (dC, dI) (tC kc) (wC ad kc sv) (zC ak) A s σ H locs → lv_has ls 5 [(0, .ref (ad 8)), (1, .int v1), (2, .int v2), (3, .int v3), (4, .int v4)] → rec19 v1 v2 v3 v4 σ = some (r, τ) → W p l e R s m args below meth c H locs 0 0 (MQ below (gQi (dC, dI) (tC kc) (wC ad kc sv) A r τ) args s 0 0 A) (F0 m 19 ls []))
    (X : gX (dC, dI) (tC kc) (wC ad kc sv) (zC ak) A s σ H locs) (hl : lv_has ls 5 [(0, .ref (ad 8)), (1, .int v1), (2, .int v2), (3, .int v3), (4, .int v4)]) (hg : f_X1_neededOf_B19 rec19 v1 v2 v3 v4 σ = some (r, τ)) : W p l e R s m args below meth c H locs 0 0 (MQ below (gQi (dC, dI) (tC kc) (wC ad kc sv) A r τ) args s 0 0 A) (F0 m 19 ls []) := by
  have hx := S.1
  have hb := S.2.1
  have hown := S.2.2.2.1
  have hu := S.2.2.2.2
  unfold f_X1_neededOf_B19 at hg
  refine lv_iload hx hb dX1_neededOf_19 (lv_at hl 4 rfl) ?_
  refine lv_aload_n hx hb dX1_neededOf_21 rfl (lv_at hl 0 rfl) ?_
  refine wcgR_8_1 S X mG_600 dX1_neededOf_22 ?_
  refine wcgR_2_7 S X mG_311 dX1_neededOf_25 ?_
  refine lv_iload_n hx hb dX1_neededOf_28 rfl (lv_at hl 1 rfl) ?_
  obtain ⟨hi29, hg⟩ := gd_some hg
  refine wclA_3 (v := (xA σ 3 v1)) S X hi29 rfl dX1_neededOf_29 ?_
  refine lv_icmp_ge (tgt := 66) hx hb dX1_neededOf_30 (by decide) (fun c30 => ?_) (fun c30 => ?_)
  · have hg := (if_pos c30).symm.trans hg
    refine lv_iload_n hx hb dX1_neededOf_66 rfl (lv_at hl 3 rfl) ?_
    obtain ⟨rfl, rfl⟩ := fin_some hg
    exact gr_i S hr hk X dX1_neededOf_67
  · have hg := (if_neg c30).symm.trans hg
    refine lv_iload_n hx hb dX1_neededOf_33 rfl (lv_at hl 3 rfl) ?_
    refine lv_aload_n hx hb dX1_neededOf_34 rfl (lv_at hl 0 rfl) ?_
    refine lv_iload_n hx hb dX1_neededOf_35 rfl (lv_at hl 1 rfl) ?_
    refine lv_iload_n hx hb dX1_neededOf_36 rfl (lv_at hl 2 rfl) ?_
    refine lv_iconst (v := 1) hx hb dX1_neededOf_37 (by decide) ?_
    refine lv_iload hx hb dX1_neededOf_38 (lv_at hl 4 rfl) ?_
    refine lv_ishl hx hb dX1_neededOf_40 ?_
    refine lv_iconst (v := (-1)) hx hb dX1_neededOf_41 (by decide) ?_
    refine lv_ixor hx hb dX1_neededOf_42 ?_
    refine lv_iand hx hb dX1_neededOf_43 ?_
    obtain ⟨r44, τ44, hq44, hg⟩ := bd_some hg
    refine gc_Vi (As := [.int v1, .int (v2 &&& (((1 : Int32) <<< (v4 &&& 31)) ^^^ (-1)))]) (rest := [.int v3]) (q0 := 8) (ci := 4) S X (k2_X1_look l dC dI ad kc sv hq44 H.size) cw_X1_look mG_1600 rfl rfl rfl rfl rfl hl.1 (Nat.le_of_ble_eq_true rfl) dX1_neededOf_44 ⟨by omega, by omega⟩ (fun H locs X => ?_)
    refine lv_if_ne (tgt := 57) hx hb dX1_neededOf_47 (by decide) (fun c47 => ?_) (fun c47 => ?_)
    · have hg := (if_neg c47).symm.trans hg
      refine lv_iconst (v := 0) hx hb dX1_neededOf_57 (by decide) ?_
      exact w_X1_neededOf_b58 S hr hk hR hrec19 X (lv_sub hl [0, 1, 2, 4] rfl) hg
    · have hg := (if_pos c47).symm.trans hg
      refine lv_iconst (v := 1) hx hb dX1_neededOf_50 (by decide) ?_
      refine lv_iload hx hb dX1_neededOf_51 (lv_at hl 4 rfl) ?_
      refine lv_ishl hx hb dX1_neededOf_53 ?_
      refine lv_goto (tgt := 58) hx hb dX1_neededOf_54 (by decide) ?_
      exact w_X1_neededOf_b58 S hr hk hR hrec19 X (lv_sub hl [0, 1, 2, 4] rfl) hg
set_option maxHeartbeats 4000000 in
set_option maxRecDepth 100000 in
theorem w_X1_neededOf_L19 (S : CallFix p m c cX1_neededOf 5 s args uG RX1) (hr : meth.sig.returnType = (some .int)) (hk : meth.locks = false) (hR : 1 ≤ R.frames ∧ 22 ≤ R.locals) : ∀ (n : Nat) (v1 : Int32) (v2 : Int32) (v3 : Int32) (v4 : Int32) (σ : S5) (H : Heap) (locs : List Loc) (ls : Array Slot), gX (dC, dI) (tC kc) (wC ad kc sv) (zC ak) A s σ H locs → lv_has ls 5 [(0, .ref (ad 8)), (1, .int v1), (2, .int v2), (3, .int v3), (4, .int v4)] → f_X1_neededOf_L19  n v1 v2 v3 v4 σ = some (r, τ) → W p l e R s m args below meth c H locs 0 0 (MQ below (gQi (dC, dI) (tC kc) (wC ad kc sv) A r τ) args s 0 0 A) (F0 m 19 ls []) := by
  intro n
  induction n with
  | zero => intro v1 v2 v3 v4 σ H locs ls X hl hg; cases hg
  | succ n ih => intro v1 v2 v3 v4 σ H locs ls X hl hg; exact w_X1_neededOf_B19 S hr hk hR ih X hl hg
set_option maxHeartbeats 4000000 in
set_option maxRecDepth 100000 in
theorem w_X1_neededOf {σ : S5} {a1 : Int32} {H : Heap} {locs : List Loc} {ls : Array Slot} (S : CallFix p m c cX1_neededOf 5 s args uG RX1) (hr : meth.sig.returnType = (some .int)) (hk : meth.locks = false) (hR : 1 ≤ R.frames ∧ 22 ≤ R.locals)
    (X : gX (dC, dI) (tC kc) (wC ad kc sv) (zC ak) A s σ H locs) (hl : lv_has ls 5 [(0, .ref (ad 8)), (1, .int a1)]) (hg : f_X1_neededOf a1 σ = some (r, τ)) : W p l e R s m args below meth c H locs 0 0 (MQ below (gQi (dC, dI) (tC kc) (wC ad kc sv) A r τ) args s 0 0 A) (F0 m 0 ls []) := by
  have hx := S.1
  have hb := S.2.1
  have hown := S.2.2.2.1
  have hu := S.2.2.2.2
  unfold f_X1_neededOf at hg
  refine lv_iconst (v := 1) hx hb dX1_neededOf_0 (by decide) ?_
  refine lv_aload_n hx hb dX1_neededOf_1 rfl (lv_at hl 0 rfl) ?_
  refine wcgR_8_1 S X mG_600 dX1_neededOf_2 ?_
  refine wcgR_2_7 S X mG_311 dX1_neededOf_5 ?_
  refine lv_iload_n hx hb dX1_neededOf_8 rfl (lv_at hl 1 rfl) ?_
  obtain ⟨hi9, hg⟩ := gd_some hg
  refine wclA_3 (v := (xA σ 3 a1)) S X hi9 rfl dX1_neededOf_9 ?_
  refine lv_ishl hx hb dX1_neededOf_10 ?_
  refine lv_iconst (v := 1) hx hb dX1_neededOf_11 (by decide) ?_
  refine lv_isub hx hb dX1_neededOf_12 ?_
  refine lv_istore_n (lv' := [(2, .int (((1 : Int32) <<< ((xA σ 3 a1) &&& 31)) - 1)), (0, .ref (ad 8)), (1, .int a1)]) hx hb dX1_neededOf_13 rfl hl (by decide) rfl (fun ls hl => ?_)
  refine lv_iconst (v := 0) hx hb dX1_neededOf_14 (by decide) ?_
  refine lv_istore_n (lv' := [(3, .int 0), (2, .int (((1 : Int32) <<< ((xA σ 3 a1) &&& 31)) - 1)), (0, .ref (ad 8)), (1, .int a1)]) hx hb dX1_neededOf_15 rfl hl (by decide) rfl (fun ls hl => ?_)
  refine lv_iconst (v := 0) hx hb dX1_neededOf_16 (by decide) ?_
  refine lv_istore (lv' := [(4, .int 0), (3, .int 0), (2, .int (((1 : Int32) <<< ((xA σ 3 a1) &&& 31)) - 1)), (0, .ref (ad 8)), (1, .int a1)]) hx hb dX1_neededOf_17 hl (by decide) rfl (fun ls hl => ?_)
  exact w_X1_neededOf_L19 S hr hk hR _ _ _ _ _ _ _ _ _ X (lv_sub hl [3, 4, 2, 1, 0] rfl) hg
end MX1_neededOf
set_option maxRecDepth 100000 in
theorem k2_X1_neededOf (l : Launch) (dC : Nat → ClassId) (dI : Nat → Nat → Nat) {ak : Nat → Nat} (ad : Nat → Nat) (kc : Nat → ClassId) (sv : Value) {σ τ : S5} {a1 : Int32} {r : Int32} (hg : f_X1_neededOf a1 σ = some (r, τ)) (sz : Nat) : Met l yX1_neededOf (Cond.code yX1_neededOf cX1_neededOf 5 (some .int) :: uG) { frames := 1, cells := 0, slots := 0, locals := 22 } (gPc (dC, dI) (tC kc) (wC ad kc sv) (zC ak) [.ref (ad 8), .int a1] σ sz) (gQi (dC, dI) (tC kc) (wC ad kc sv) (va_A (wC ad kc sv σ) sz) r τ) 0 0 (va_A (wC ad kc sv σ) sz) :=
  g_start (by decide) (Nat.le_of_ble_eq_true rfl) (fun p e s m below meth c ls S hr hk X hl => w_X1_neededOf S hr hk ⟨Nat.le_refl _, Nat.le_refl _⟩ X hl hg)
section MX1_wordOfAlternatives
variable {p : Program} {l : Launch} {e : Env} {R : Room} {s : State} {m : MethodId} {args : Array Value} {below : List Frame} {meth : Method} {c : Code} {dC : Nat → ClassId} {dI : Nat → Nat → Nat} {ak : Nat → Nat} {A : Nat → Prop} {ad : Nat → Nat} {kc : Nat → ClassId} {sv : Value} {r : Int64} {τ : S5} {fE lE : Nat}
set_option maxHeartbeats 4000000 in
set_option maxRecDepth 100000 in
theorem w_X1_wordOfAlternatives_b89 {σ : S5} {E : Int32 → S5 → Option (Int64 × S5)} {rec8 : Int64 → Int32 → Int32 → S5 → Option (Int64 × S5)} {v2 : Int64} {v4 : Int32} {v5 : Int32} {H : Heap} {locs : List Loc} {ls : Array Slot} (S : CallFix p m c cX1_wordOfAlternatives 7 s args uG RX1) (hr : meth.sig.returnType = (some .long)) (hk : meth.locks = false) (hR : fE + 1 ≤ R.frames ∧ lE + 22 ≤ R.locals)
    (hE : ∀ (a0 : Int32) (σ τ : S5) (r : Int64), E a0 σ = some (r, τ) → ∀ sz : Nat, Met l yX1_wordOf (Cond.code yX1_wordOf cX1_wordOf 3 (some .long) :: uG) { frames := fE, cells := 0, slots := 0, locals := lE } (gPc (dC, dI) (tC kc) (wC ad kc sv) (zC ak) [.ref (ad 8), .int a0] σ sz) (gQl (dC, dI) (tC kc) (wC ad kc sv) (va_A (wC ad kc sv σ) sz) r τ) 0 0 (va_A (wC ad kc sv σ) sz))
    (hrec8 : ∀ (v2 : Int64) (v4 : Int32) (v5 : Int32) (σ : S5) (H : Heap) (locs : List Loc) (ls : Array Slot), gX (dC, dI) (tC kc) (wC ad kc sv) (zC ak) A s σ H locs → lv_has ls 7 [(0, .ref (ad 8)), (2, .long v2), (4, .int v4), (5, .int v5)] → rec8 v2 v4 v5 σ = some (r, τ) → W p l e R s m args below meth c H locs 0 0 (MQ below (gQl (dC, dI) (tC kc) (wC ad kc sv) A r τ) args s 0 0 A) (F0 m 8 ls []))
    (X : gX (dC, dI) (tC kc) (wC ad kc sv) (zC ak) A s σ H locs) (hl : lv_has ls 7 [(0, .ref (ad 8)), (2, .long v2), (4, .int v4), (5, .int v5)]) (hg : f_X1_wordOfAlternatives_b89 E rec8 v2 v4 v5 σ = some (r, τ)) : W p l e R s m args below meth c H locs 0 0 (MQ below (gQl (dC, dI) (tC kc) (wC ad kc sv) A r τ) args s 0 0 A) (F0 m 89 ls []) := by
  have hx := S.1
  have hb := S.2.1
  have hown := S.2.2.2.1
  have hu := S.2.2.2.2
  unfold f_X1_wordOfAlternatives_b89 at hg
  refine lv_lload_n hx hb dX1_wordOfAlternatives_89 rfl (lv_at hl 1 rfl) ?_
  refine lv_aload_n hx hb dX1_wordOfAlternatives_90 rfl (lv_at hl 0 rfl) ?_
  refine lv_aload_n hx hb dX1_wordOfAlternatives_91 rfl (lv_at hl 0 rfl) ?_
  refine wcgR_8_0 S X mG_599 dX1_wordOfAlternatives_92 ?_
  refine wcgR_3_3 S X mG_396 dX1_wordOfAlternatives_95 ?_
  refine lv_iload hx hb dX1_wordOfAlternatives_98 (lv_at hl 3 rfl) ?_
  obtain ⟨hi100, hg⟩ := gd_some hg
  refine wclA_16 (v := (xA σ 16 v5)) S X hi100 rfl dX1_wordOfAlternatives_100 ?_
  obtain ⟨r101, τ101, hq101, hg⟩ := bd_some hg
  refine gc_Vl (As := [.int (xA σ 16 v5)]) (rest := [.long v2]) (q0 := 8) (ci := 4) S X (hE _ _ _ _ hq101 H.size) cw_X1_wordOf mG_1575 rfl rfl rfl rfl rfl hl.1 (Nat.le_of_ble_eq_true rfl) dX1_wordOfAlternatives_101 ⟨by omega, by omega⟩ (fun H locs X => ?_)
  refine lv_lor hx hb dX1_wordOfAlternatives_104 ?_
  refine lv_lstore_n (lv' := [(2, .long (v2 ||| r101)), (0, .ref (ad 8)), (4, .int v4), (5, .int v5)]) hx hb dX1_wordOfAlternatives_105 rfl hl (by decide) rfl (fun ls hl => ?_)
  refine lv_iinc (v := (v4 + 1)) (lv' := [(4, .int (v4 + 1)), (2, .long (v2 ||| r101)), (0, .ref (ad 8)), (5, .int v5)]) hx hb dX1_wordOfAlternatives_106 hl (k := 2) rfl (by rfl) (by decide) rfl (fun ls hl => ?_)
  refine lv_aload_n hx hb dX1_wordOfAlternatives_109 rfl (lv_at hl 2 rfl) ?_
  refine wcgR_8_0 S X mG_599 dX1_wordOfAlternatives_110 ?_
  refine wcgR_3_4 S X mG_402 dX1_wordOfAlternatives_113 ?_
  refine lv_iload hx hb dX1_wordOfAlternatives_116 (lv_at hl 3 rfl) ?_
  obtain ⟨hi118, hg⟩ := gd_some hg
  refine wclA_17 (v := (xA τ101 17 v5)) S X hi118 rfl dX1_wordOfAlternatives_118 ?_
  refine lv_istore (lv' := [(5, .int (xA τ101 17 v5)), (4, .int (v4 + 1)), (2, .long (v2 ||| r101)), (0, .ref (ad 8))]) hx hb dX1_wordOfAlternatives_119 hl (by decide) rfl (fun ls hl => ?_)
  refine lv_goto (tgt := 8) hx hb dX1_wordOfAlternatives_121 (by decide) ?_
  exact hrec8 _ _ _ _ _ _ _ X (lv_sub hl [3, 2, 1, 0] rfl) hg
set_option maxHeartbeats 4000000 in
set_option maxRecDepth 100000 in
theorem w_X1_wordOfAlternatives_B39 {σ : S5} {E : Int32 → S5 → Option (Int64 × S5)} {rec8 : Int64 → Int32 → Int32 → S5 → Option (Int64 × S5)} {rec39 : Int64 → Int32 → Int32 → Int32 → S5 → Option (Int64 × S5)} {v2 : Int64} {v4 : Int32} {v5 : Int32} {v6 : Int32} {H : Heap} {locs : List Loc} {ls : Array Slot} (S : CallFix p m c cX1_wordOfAlternatives 7 s args uG RX1) (hr : meth.sig.returnType = (some .long)) (hk : meth.locks = false) (hR : fE + 1 ≤ R.frames ∧ lE + 22 ≤ R.locals)
    (hE : ∀ (a0 : Int32) (σ τ : S5) (r : Int64), E a0 σ = some (r, τ) → ∀ sz : Nat, Met l yX1_wordOf (Cond.code yX1_wordOf cX1_wordOf 3 (some .long) :: uG) { frames := fE, cells := 0, slots := 0, locals := lE } (gPc (dC, dI) (tC kc) (wC ad kc sv) (zC ak) [.ref (ad 8), .int a0] σ sz) (gQl (dC, dI) (tC kc) (wC ad kc sv) (va_A (wC ad kc sv σ) sz) r τ) 0 0 (va_A (wC ad kc sv σ) sz))
    (hrec8 : ∀ (v2 : Int64) (v4 : Int32) (v5 : Int32) (σ : S5) (H : Heap) (locs : List Loc) (ls : Array Slot), gX (dC, dI) (tC kc) (wC ad kc sv) (zC ak) A s σ H locs → lv_has ls 7 [(0, .ref (ad 8)), (2, .long v2), (4, .int v4), (5, .int v5)] → rec8 v2 v4 v5 σ = some (r, τ) → W p l e R s m args below meth c H locs 0 0 (MQ below (gQl (dC, dI) (tC kc) (wC ad kc sv) A r τ) args s 0 0 A) (F0 m 8 ls []))
    (hrec39 : ∀ (v2 : Int64) (v4 : Int32) (v5 : Int32) (v6 : Int32) (σ : S5) (H : Heap) (locs : List Loc) (ls : Array Slot), gX (dC, dI) (tC kc) (wC ad kc sv) (zC ak) A s σ H locs → lv_has ls 7 [(0, .ref (ad 8)), (2, .long v2), (4, .int v4), (5, .int v5), (6, .int v6)] → rec39 v2 v4 v5 v6 σ = some (r, τ) → W p l e R s m args below meth c H locs 0 0 (MQ below (gQl (dC, dI) (tC kc) (wC ad kc sv) A r τ) args s 0 0 A) (F0 m 39 ls []))
    (X : gX (dC, dI) (tC kc) (wC ad kc sv) (zC ak) A s σ H locs) (hl : lv_has ls 7 [(0, .ref (ad 8)), (2, .long v2), (4, .int v4), (5, .int v5), (6, .int v6)]) (hg : f_X1_wordOfAlternatives_B39 E rec8 rec39 v2 v4 v5 v6 σ = some (r, τ)) : W p l e R s m args below meth c H locs 0 0 (MQ below (gQl (dC, dI) (tC kc) (wC ad kc sv) A r τ) args s 0 0 A) (F0 m 39 ls []) := by
  have hx := S.1
  have hb := S.2.1
  have hown := S.2.2.2.1
  have hu := S.2.2.2.2
  unfold f_X1_wordOfAlternatives_B39 at hg
  refine lv_iload hx hb dX1_wordOfAlternatives_39 (lv_at hl 4 rfl) ?_
  refine lv_aload_n hx hb dX1_wordOfAlternatives_41 rfl (lv_at hl 0 rfl) ?_
  refine wcgR_8_1 S X mG_600 dX1_wordOfAlternatives_42 ?_
  refine wcgR_2_1 S X mG_286 dX1_wordOfAlternatives_45 ?_
  refine lv_aload_n hx hb dX1_wordOfAlternatives_48 rfl (lv_at hl 0 rfl) ?_
  refine wcgR_8_0 S X mG_599 dX1_wordOfAlternatives_49 ?_
  refine wcgR_3_1 S X mG_387 dX1_wordOfAlternatives_52 ?_
  refine lv_iload hx hb dX1_wordOfAlternatives_55 (lv_at hl 3 rfl) ?_
  obtain ⟨hi57, hg⟩ := gd_some hg
  refine wclA_14 (v := (xA σ 14 v5)) S X hi57 rfl dX1_wordOfAlternatives_57 ?_
  obtain ⟨hi58, hg⟩ := gd_some hg
  refine wclA_2 (v := (xA σ 2 (xA σ 14 v5))) S X hi58 rfl dX1_wordOfAlternatives_58 ?_
  refine lv_icmp_ge (tgt := 89) hx hb dX1_wordOfAlternatives_59 (by decide) (fun c59 => ?_) (fun c59 => ?_)
  · have hg := (if_pos c59).symm.trans hg
    exact w_X1_wordOfAlternatives_b89 S hr hk hR hE hrec8 X (lv_sub hl [0, 1, 2, 3] rfl) hg
  · have hg := (if_neg c59).symm.trans hg
    refine lv_aload_n hx hb dX1_wordOfAlternatives_62 rfl (lv_at hl 0 rfl) ?_
    refine wcgR_8_3 S X mG_602 dX1_wordOfAlternatives_63 ?_
    refine lv_aload_n hx hb dX1_wordOfAlternatives_66 rfl (lv_at hl 0 rfl) ?_
    refine wcgR_8_0 S X mG_599 dX1_wordOfAlternatives_67 ?_
    refine wcgR_3_2 S X mG_391 dX1_wordOfAlternatives_70 ?_
    refine lv_iload hx hb dX1_wordOfAlternatives_73 (lv_at hl 3 rfl) ?_
    obtain ⟨hi75, hg⟩ := gd_some hg
    refine wclA_15 (v := (xA σ 15 v5)) S X hi75 rfl dX1_wordOfAlternatives_75 ?_
    refine lv_iload hx hb dX1_wordOfAlternatives_76 (lv_at hl 4 rfl) ?_
    refine lv_iadd hx hb dX1_wordOfAlternatives_78 ?_
    refine lv_ldc2 (own := RX1) (v := (-1)) hx hb hown (hu _ mG_1583) dX1_wordOfAlternatives_79 ?_
    obtain ⟨hi82, hg⟩ := gd_some hg
    refine wcsB_6 S X hi82 dX1_wordOfAlternatives_82 (fun H locs X => ?_)
    refine lv_iinc (v := (v6 + 1)) (lv' := [(6, .int (v6 + 1)), (0, .ref (ad 8)), (2, .long v2), (4, .int v4), (5, .int v5)]) hx hb dX1_wordOfAlternatives_83 hl (k := 4) rfl (by rfl) (by decide) rfl (fun ls hl => ?_)
    refine lv_goto (tgt := 39) hx hb dX1_wordOfAlternatives_86 (by decide) ?_
    exact hrec39 _ _ _ _ _ _ _ _ X (lv_sub hl [1, 2, 3, 4, 0] rfl) hg
set_option maxHeartbeats 4000000 in
set_option maxRecDepth 100000 in
theorem w_X1_wordOfAlternatives_L39 {E : Int32 → S5 → Option (Int64 × S5)} {rec8 : Int64 → Int32 → Int32 → S5 → Option (Int64 × S5)} (S : CallFix p m c cX1_wordOfAlternatives 7 s args uG RX1) (hr : meth.sig.returnType = (some .long)) (hk : meth.locks = false) (hR : fE + 1 ≤ R.frames ∧ lE + 22 ≤ R.locals)
    (hE : ∀ (a0 : Int32) (σ τ : S5) (r : Int64), E a0 σ = some (r, τ) → ∀ sz : Nat, Met l yX1_wordOf (Cond.code yX1_wordOf cX1_wordOf 3 (some .long) :: uG) { frames := fE, cells := 0, slots := 0, locals := lE } (gPc (dC, dI) (tC kc) (wC ad kc sv) (zC ak) [.ref (ad 8), .int a0] σ sz) (gQl (dC, dI) (tC kc) (wC ad kc sv) (va_A (wC ad kc sv σ) sz) r τ) 0 0 (va_A (wC ad kc sv σ) sz))
    (hrec8 : ∀ (v2 : Int64) (v4 : Int32) (v5 : Int32) (σ : S5) (H : Heap) (locs : List Loc) (ls : Array Slot), gX (dC, dI) (tC kc) (wC ad kc sv) (zC ak) A s σ H locs → lv_has ls 7 [(0, .ref (ad 8)), (2, .long v2), (4, .int v4), (5, .int v5)] → rec8 v2 v4 v5 σ = some (r, τ) → W p l e R s m args below meth c H locs 0 0 (MQ below (gQl (dC, dI) (tC kc) (wC ad kc sv) A r τ) args s 0 0 A) (F0 m 8 ls [])) : ∀ (n : Nat) (v2 : Int64) (v4 : Int32) (v5 : Int32) (v6 : Int32) (σ : S5) (H : Heap) (locs : List Loc) (ls : Array Slot), gX (dC, dI) (tC kc) (wC ad kc sv) (zC ak) A s σ H locs → lv_has ls 7 [(0, .ref (ad 8)), (2, .long v2), (4, .int v4), (5, .int v5), (6, .int v6)] → f_X1_wordOfAlternatives_L39 E rec8 n v2 v4 v5 v6 σ = some (r, τ) → W p l e R s m args below meth c H locs 0 0 (MQ below (gQl (dC, dI) (tC kc) (wC ad kc sv) A r τ) args s 0 0 A) (F0 m 39 ls []) := by
  intro n
  induction n with
  | zero => intro v2 v4 v5 v6 σ H locs ls X hl hg; cases hg
  | succ n ih => intro v2 v4 v5 v6 σ H locs ls X hl hg; exact w_X1_wordOfAlternatives_B39 S hr hk hR hE hrec8 ih X hl hg
set_option maxHeartbeats 4000000 in
set_option maxRecDepth 100000 in
theorem w_X1_wordOfAlternatives_B8 {σ : S5} {E : Int32 → S5 → Option (Int64 × S5)} {rec8 : Int64 → Int32 → Int32 → S5 → Option (Int64 × S5)} {v2 : Int64} {v4 : Int32} {v5 : Int32} {H : Heap} {locs : List Loc} {ls : Array Slot} (S : CallFix p m c cX1_wordOfAlternatives 7 s args uG RX1) (hr : meth.sig.returnType = (some .long)) (hk : meth.locks = false) (hR : fE + 1 ≤ R.frames ∧ lE + 22 ≤ R.locals)
    (hE : ∀ (a0 : Int32) (σ τ : S5) (r : Int64), E a0 σ = some (r, τ) → ∀ sz : Nat, Met l yX1_wordOf (Cond.code yX1_wordOf cX1_wordOf 3 (some .long) :: uG) { frames := fE, cells := 0, slots := 0, locals := lE } (gPc (dC, dI) (tC kc) (wC ad kc sv) (zC ak) [.ref (ad 8), .int a0] σ sz) (gQl (dC, dI) (tC kc) (wC ad kc sv) (va_A (wC ad kc sv σ) sz) r τ) 0 0 (va_A (wC ad kc sv σ) sz))
    (hrec8 : ∀ (v2 : Int64) (v4 : Int32) (v5 : Int32) (σ : S5) (H : Heap) (locs : List Loc) (ls : Array Slot), gX (dC, dI) (tC kc) (wC ad kc sv) (zC ak) A s σ H locs → lv_has ls 7 [(0, .ref (ad 8)), (2, .long v2), (4, .int v4), (5, .int v5)] → rec8 v2 v4 v5 σ = some (r, τ) → W p l e R s m args below meth c H locs 0 0 (MQ below (gQl (dC, dI) (tC kc) (wC ad kc sv) A r τ) args s 0 0 A) (F0 m 8 ls []))
    (X : gX (dC, dI) (tC kc) (wC ad kc sv) (zC ak) A s σ H locs) (hl : lv_has ls 7 [(0, .ref (ad 8)), (2, .long v2), (4, .int v4), (5, .int v5)]) (hg : f_X1_wordOfAlternatives_B8 E rec8 v2 v4 v5 σ = some (r, τ)) : W p l e R s m args below meth c H locs 0 0 (MQ below (gQl (dC, dI) (tC kc) (wC ad kc sv) A r τ) args s 0 0 A) (F0 m 8 ls []) := by
  have hx := S.1
  have hb := S.2.1
  have hown := S.2.2.2.1
  have hu := S.2.2.2.2
  unfold f_X1_wordOfAlternatives_B8 at hg
  refine lv_iload hx hb dX1_wordOfAlternatives_8 (lv_at hl 2 rfl) ?_
  refine lv_bipush (v := 10) hx hb dX1_wordOfAlternatives_10 (by decide) ?_
  refine lv_icmp_ge (tgt := 124) hx hb dX1_wordOfAlternatives_12 (by decide) (fun c12 => ?_) (fun c12 => ?_)
  · have hg := (if_pos c12).symm.trans hg
    refine lv_lload_n hx hb dX1_wordOfAlternatives_124 rfl (lv_at hl 1 rfl) ?_
    obtain ⟨rfl, rfl⟩ := fin_some hg
    exact gr_l S hr hk X dX1_wordOfAlternatives_125
  · have hg := (if_neg c12).symm.trans hg
    refine lv_iload hx hb dX1_wordOfAlternatives_15 (lv_at hl 3 rfl) ?_
    refine lv_iconst (v := (-1)) hx hb dX1_wordOfAlternatives_17 (by decide) ?_
    refine lv_icmp_eq (tgt := 124) hx hb dX1_wordOfAlternatives_18 (by decide) (fun c18 => ?_) (fun c18 => ?_)
    · have hg := (if_pos c18).symm.trans hg
      refine lv_lload_n hx hb dX1_wordOfAlternatives_124 rfl (lv_at hl 1 rfl) ?_
      obtain ⟨rfl, rfl⟩ := fin_some hg
      exact gr_l S hr hk X dX1_wordOfAlternatives_125
    · have hg := (if_neg c18).symm.trans hg
      refine lv_aload_n hx hb dX1_wordOfAlternatives_21 rfl (lv_at hl 0 rfl) ?_
      refine wcgR_8_0 S X mG_599 dX1_wordOfAlternatives_22 ?_
      refine wcgR_3_0 S X mG_381 dX1_wordOfAlternatives_25 ?_
      refine lv_iload hx hb dX1_wordOfAlternatives_28 (lv_at hl 3 rfl) ?_
      obtain ⟨hi30, hg⟩ := gd_some hg
      refine wclA_13 (v := (xA σ 13 v5)) S X hi30 rfl dX1_wordOfAlternatives_30 ?_
      refine lv_bipush (v := 11) hx hb dX1_wordOfAlternatives_31 (by decide) ?_
      refine lv_icmp_ne (tgt := 89) hx hb dX1_wordOfAlternatives_33 (by decide) (fun c33 => ?_) (fun c33 => ?_)
      · have hg := (if_neg c33).symm.trans hg
        exact w_X1_wordOfAlternatives_b89 S hr hk hR hE hrec8 X (lv_sub hl [0, 1, 2, 3] rfl) hg
      · have hg := (if_pos c33).symm.trans hg
        refine lv_iconst (v := 0) hx hb dX1_wordOfAlternatives_36 (by decide) ?_
        refine lv_istore (lv' := [(6, .int 0), (0, .ref (ad 8)), (2, .long v2), (4, .int v4), (5, .int v5)]) hx hb dX1_wordOfAlternatives_37 hl (by decide) rfl (fun ls hl => ?_)
        exact w_X1_wordOfAlternatives_L39 S hr hk hR hE hrec8 _ _ _ _ _ _ _ _ _ X (lv_sub hl [1, 2, 3, 4, 0] rfl) hg
set_option maxHeartbeats 4000000 in
set_option maxRecDepth 100000 in
theorem w_X1_wordOfAlternatives_L8 {E : Int32 → S5 → Option (Int64 × S5)} (S : CallFix p m c cX1_wordOfAlternatives 7 s args uG RX1) (hr : meth.sig.returnType = (some .long)) (hk : meth.locks = false) (hR : fE + 1 ≤ R.frames ∧ lE + 22 ≤ R.locals)
    (hE : ∀ (a0 : Int32) (σ τ : S5) (r : Int64), E a0 σ = some (r, τ) → ∀ sz : Nat, Met l yX1_wordOf (Cond.code yX1_wordOf cX1_wordOf 3 (some .long) :: uG) { frames := fE, cells := 0, slots := 0, locals := lE } (gPc (dC, dI) (tC kc) (wC ad kc sv) (zC ak) [.ref (ad 8), .int a0] σ sz) (gQl (dC, dI) (tC kc) (wC ad kc sv) (va_A (wC ad kc sv σ) sz) r τ) 0 0 (va_A (wC ad kc sv σ) sz)) : ∀ (n : Nat) (v2 : Int64) (v4 : Int32) (v5 : Int32) (σ : S5) (H : Heap) (locs : List Loc) (ls : Array Slot), gX (dC, dI) (tC kc) (wC ad kc sv) (zC ak) A s σ H locs → lv_has ls 7 [(0, .ref (ad 8)), (2, .long v2), (4, .int v4), (5, .int v5)] → f_X1_wordOfAlternatives_L8 E n v2 v4 v5 σ = some (r, τ) → W p l e R s m args below meth c H locs 0 0 (MQ below (gQl (dC, dI) (tC kc) (wC ad kc sv) A r τ) args s 0 0 A) (F0 m 8 ls []) := by
  intro n
  induction n with
  | zero => intro v2 v4 v5 σ H locs ls X hl hg; cases hg
  | succ n ih => intro v2 v4 v5 σ H locs ls X hl hg; exact w_X1_wordOfAlternatives_B8 S hr hk hR hE ih X hl hg
set_option maxHeartbeats 4000000 in
set_option maxRecDepth 100000 in
theorem w_X1_wordOfAlternatives {σ : S5} {E : Int32 → S5 → Option (Int64 × S5)} {a1 : Int32} {H : Heap} {locs : List Loc} {ls : Array Slot} (S : CallFix p m c cX1_wordOfAlternatives 7 s args uG RX1) (hr : meth.sig.returnType = (some .long)) (hk : meth.locks = false) (hR : fE + 1 ≤ R.frames ∧ lE + 22 ≤ R.locals)
    (hE : ∀ (a0 : Int32) (σ τ : S5) (r : Int64), E a0 σ = some (r, τ) → ∀ sz : Nat, Met l yX1_wordOf (Cond.code yX1_wordOf cX1_wordOf 3 (some .long) :: uG) { frames := fE, cells := 0, slots := 0, locals := lE } (gPc (dC, dI) (tC kc) (wC ad kc sv) (zC ak) [.ref (ad 8), .int a0] σ sz) (gQl (dC, dI) (tC kc) (wC ad kc sv) (va_A (wC ad kc sv σ) sz) r τ) 0 0 (va_A (wC ad kc sv σ) sz))
    (X : gX (dC, dI) (tC kc) (wC ad kc sv) (zC ak) A s σ H locs) (hl : lv_has ls 7 [(0, .ref (ad 8)), (1, .int a1)]) (hg : f_X1_wordOfAlternatives E a1 σ = some (r, τ)) : W p l e R s m args below meth c H locs 0 0 (MQ below (gQl (dC, dI) (tC kc) (wC ad kc sv) A r τ) args s 0 0 A) (F0 m 0 ls []) := by
  have hx := S.1
  have hb := S.2.1
  have hown := S.2.2.2.1
  have hu := S.2.2.2.2
  unfold f_X1_wordOfAlternatives at hg
  refine lv_lconst (v := 0) hx hb dX1_wordOfAlternatives_0 rfl ?_
  refine lv_lstore_n (lv' := [(2, .long 0), (0, .ref (ad 8)), (1, .int a1)]) hx hb dX1_wordOfAlternatives_1 rfl hl (by decide) rfl (fun ls hl => ?_)
  refine lv_iconst (v := 0) hx hb dX1_wordOfAlternatives_2 (by decide) ?_
  refine lv_istore (lv' := [(4, .int 0), (2, .long 0), (0, .ref (ad 8)), (1, .int a1)]) hx hb dX1_wordOfAlternatives_3 hl (by decide) rfl (fun ls hl => ?_)
  refine lv_iload_n hx hb dX1_wordOfAlternatives_5 rfl (lv_at hl 3 rfl) ?_
  refine lv_istore (lv' := [(5, .int a1), (4, .int 0), (2, .long 0), (0, .ref (ad 8)), (1, .int a1)]) hx hb dX1_wordOfAlternatives_6 hl (by decide) rfl (fun ls hl => ?_)
  exact w_X1_wordOfAlternatives_L8 S hr hk hR hE _ _ _ _ _ _ _ _ X (lv_sub hl [3, 2, 1, 0] rfl) hg
end MX1_wordOfAlternatives
set_option maxRecDepth 100000 in
theorem k2_X1_wordOfAlternatives (l : Launch) (dC : Nat → ClassId) (dI : Nat → Nat → Nat) {ak : Nat → Nat} (ad : Nat → Nat) (kc : Nat → ClassId) (sv : Value) {E : Int32 → S5 → Option (Int64 × S5)} {fE lE : Nat} {σ τ : S5} {a1 : Int32} {r : Int64} (hE : ∀ (a0 : Int32) (σ τ : S5) (r : Int64), E a0 σ = some (r, τ) → ∀ sz : Nat, Met l yX1_wordOf (Cond.code yX1_wordOf cX1_wordOf 3 (some .long) :: uG) { frames := fE, cells := 0, slots := 0, locals := lE } (gPc (dC, dI) (tC kc) (wC ad kc sv) (zC ak) [.ref (ad 8), .int a0] σ sz) (gQl (dC, dI) (tC kc) (wC ad kc sv) (va_A (wC ad kc sv σ) sz) r τ) 0 0 (va_A (wC ad kc sv σ) sz)) (hg : f_X1_wordOfAlternatives E a1 σ = some (r, τ)) (sz : Nat) : Met l yX1_wordOfAlternatives (Cond.code yX1_wordOfAlternatives cX1_wordOfAlternatives 7 (some .long) :: uG) { frames := fE + 1, cells := 0, slots := 0, locals := lE + 22 } (gPc (dC, dI) (tC kc) (wC ad kc sv) (zC ak) [.ref (ad 8), .int a1] σ sz) (gQl (dC, dI) (tC kc) (wC ad kc sv) (va_A (wC ad kc sv σ) sz) r τ) 0 0 (va_A (wC ad kc sv σ) sz) :=
  g_start (by decide) (Nat.le_of_ble_eq_true rfl) (fun p e s m below meth c ls S hr hk X hl => w_X1_wordOfAlternatives S hr hk ⟨Nat.le_refl _, Nat.le_refl _⟩ hE X hl hg)
section MX1_wordOfLet
variable {p : Program} {l : Launch} {e : Env} {R : Room} {s : State} {m : MethodId} {args : Array Value} {below : List Frame} {meth : Method} {c : Code} {dC : Nat → ClassId} {dI : Nat → Nat → Nat} {ak : Nat → Nat} {A : Nat → Prop} {ad : Nat → Nat} {kc : Nat → ClassId} {sv : Value} {r : Int64} {τ : S5} {fE lE : Nat}
set_option maxHeartbeats 4000000 in
set_option maxRecDepth 100000 in
theorem w_X1_wordOfLet_b109 {σ : S5} {E : Int32 → S5 → Option (Int64 × S5)} {v1 : Int32} {H : Heap} {locs : List Loc} {ls : Array Slot} (S : CallFix p m c cX1_wordOfLet 7 s args uG RX1) (hr : meth.sig.returnType = (some .long)) (hk : meth.locks = false) (hR : fE + 1 ≤ R.frames ∧ lE + 22 ≤ R.locals)
    (hE : ∀ (a0 : Int32) (σ τ : S5) (r : Int64), E a0 σ = some (r, τ) → ∀ sz : Nat, Met l yX1_wordOf (Cond.code yX1_wordOf cX1_wordOf 3 (some .long) :: uG) { frames := fE, cells := 0, slots := 0, locals := lE } (gPc (dC, dI) (tC kc) (wC ad kc sv) (zC ak) [.ref (ad 8), .int a0] σ sz) (gQl (dC, dI) (tC kc) (wC ad kc sv) (va_A (wC ad kc sv σ) sz) r τ) 0 0 (va_A (wC ad kc sv σ) sz))
    (X : gX (dC, dI) (tC kc) (wC ad kc sv) (zC ak) A s σ H locs) (hl : lv_has ls 7 [(0, .ref (ad 8)), (1, .int v1)]) (hg : f_X1_wordOfLet_b109 E v1 σ = some (r, τ)) : W p l e R s m args below meth c H locs 0 0 (MQ below (gQl (dC, dI) (tC kc) (wC ad kc sv) A r τ) args s 0 0 A) (F0 m 109 ls []) := by
  have hx := S.1
  have hb := S.2.1
  have hown := S.2.2.2.1
  have hu := S.2.2.2.2
  unfold f_X1_wordOfLet_b109 at hg
  refine lv_aload_n hx hb dX1_wordOfLet_109 rfl (lv_at hl 0 rfl) ?_
  refine lv_iload_n hx hb dX1_wordOfLet_110 rfl (lv_at hl 1 rfl) ?_
  obtain ⟨r111, τ111, hq111, hg⟩ := bd_some hg
  refine gc_Vl (As := [.int v1]) (rest := []) (q0 := 8) (ci := 4) S X (hE _ _ _ _ hq111 H.size) cw_X1_wordOf mG_1575 rfl rfl rfl rfl rfl hl.1 (Nat.le_of_ble_eq_true rfl) dX1_wordOfLet_111 ⟨by omega, by omega⟩ (fun H locs X => ?_)
  obtain ⟨rfl, rfl⟩ := fin_some hg
  exact gr_l S hr hk X dX1_wordOfLet_114
set_option maxHeartbeats 4000000 in
set_option maxRecDepth 100000 in
theorem w_X1_wordOfLet_b80 {σ : S5} {E : Int32 → S5 → Option (Int64 × S5)} {rec12 : Int32 → Int32 → Int32 → S5 → Option (Int64 × S5)} {v1 : Int32} {v2 : Int32} {v3 : Int32} {v4 : Int32} {v5 : Int64} {u0 : Int32} {u1 : Int32} {H : Heap} {locs : List Loc} {ls : Array Slot} (S : CallFix p m c cX1_wordOfLet 7 s args uG RX1) (hr : meth.sig.returnType = (some .long)) (hk : meth.locks = false) (hR : fE + 1 ≤ R.frames ∧ lE + 22 ≤ R.locals)
    (hE : ∀ (a0 : Int32) (σ τ : S5) (r : Int64), E a0 σ = some (r, τ) → ∀ sz : Nat, Met l yX1_wordOf (Cond.code yX1_wordOf cX1_wordOf 3 (some .long) :: uG) { frames := fE, cells := 0, slots := 0, locals := lE } (gPc (dC, dI) (tC kc) (wC ad kc sv) (zC ak) [.ref (ad 8), .int a0] σ sz) (gQl (dC, dI) (tC kc) (wC ad kc sv) (va_A (wC ad kc sv σ) sz) r τ) 0 0 (va_A (wC ad kc sv σ) sz))
    (hrec12 : ∀ (v1 : Int32) (v2 : Int32) (v3 : Int32) (σ : S5) (H : Heap) (locs : List Loc) (ls : Array Slot), gX (dC, dI) (tC kc) (wC ad kc sv) (zC ak) A s σ H locs → lv_has ls 7 [(0, .ref (ad 8)), (1, .int v1), (2, .int v2), (3, .int v3)] → rec12 v1 v2 v3 σ = some (r, τ) → W p l e R s m args below meth c H locs 0 0 (MQ below (gQl (dC, dI) (tC kc) (wC ad kc sv) A r τ) args s 0 0 A) (F0 m 12 ls []))
    (X : gX (dC, dI) (tC kc) (wC ad kc sv) (zC ak) A s σ H locs) (hl : lv_has ls 7 [(0, .ref (ad 8)), (1, .int v1), (2, .int v2), (3, .int v3), (4, .int v4), (5, .long v5)]) (hg : f_X1_wordOfLet_b80 E rec12 v1 v2 v3 v4 v5 u0 u1 σ = some (r, τ)) : W p l e R s m args below meth c H locs 0 0 (MQ below (gQl (dC, dI) (tC kc) (wC ad kc sv) A r τ) args s 0 0 A) (F0 m 80 ls [.int u0, .int u1, .ref (ad 8)]) := by
  have hx := S.1
  have hb := S.2.1
  have hown := S.2.2.2.1
  have hu := S.2.2.2.2
  unfold f_X1_wordOfLet_b80 at hg
  refine lv_ior hx hb dX1_wordOfLet_80 ?_
  obtain ⟨hn81, hg⟩ := g_t_some hg
  refine wcpI_24 S X mG_606 hn81 dX1_wordOfLet_81 (fun H locs X => ?_)
  refine lv_aload_n hx hb dX1_wordOfLet_84 rfl (lv_at hl 0 rfl) ?_
  refine wcgR_8_3 S X mG_602 dX1_wordOfLet_85 ?_
  refine lv_iload hx hb dX1_wordOfLet_88 (lv_at hl 4 rfl) ?_
  refine lv_lload hx hb dX1_wordOfLet_90 (lv_at hl 5 rfl) ?_
  obtain ⟨hi92, hg⟩ := gd_some hg
  refine wcsB_6 S X hi92 dX1_wordOfLet_92 (fun H locs X => ?_)
  refine lv_iinc (v := (v2 + 1)) (lv' := [(2, .int (v2 + 1)), (0, .ref (ad 8)), (1, .int v1), (3, .int v3), (4, .int v4), (5, .long v5)]) hx hb dX1_wordOfLet_93 hl (k := 2) rfl (by rfl) (by decide) rfl (fun ls hl => ?_)
  refine lv_aload_n hx hb dX1_wordOfLet_96 rfl (lv_at hl 1 rfl) ?_
  refine wcgR_8_0 S X mG_599 dX1_wordOfLet_97 ?_
  refine wcgR_3_4 S X mG_402 dX1_wordOfLet_100 ?_
  refine lv_iload_n hx hb dX1_wordOfLet_103 rfl (lv_at hl 3 rfl) ?_
  obtain ⟨hi104, hg⟩ := gd_some hg
  refine wclA_17 (v := (xA σ 17 v3)) S X hi104 rfl dX1_wordOfLet_104 ?_
  refine lv_istore_n (lv' := [(3, .int (xA σ 17 v3)), (2, .int (v2 + 1)), (0, .ref (ad 8)), (1, .int v1), (4, .int v4), (5, .long v5)]) hx hb dX1_wordOfLet_105 rfl hl (by decide) rfl (fun ls hl => ?_)
  refine lv_goto (tgt := 12) hx hb dX1_wordOfLet_106 (by decide) ?_
  exact hrec12 _ _ _ _ _ _ _ X (lv_sub hl [2, 3, 1, 0] rfl) hg
set_option maxHeartbeats 4000000 in
set_option maxRecDepth 100000 in
theorem w_X1_wordOfLet_B12 {σ : S5} {E : Int32 → S5 → Option (Int64 × S5)} {rec12 : Int32 → Int32 → Int32 → S5 → Option (Int64 × S5)} {v1 : Int32} {v2 : Int32} {v3 : Int32} {H : Heap} {locs : List Loc} {ls : Array Slot} (S : CallFix p m c cX1_wordOfLet 7 s args uG RX1) (hr : meth.sig.returnType = (some .long)) (hk : meth.locks = false) (hR : fE + 1 ≤ R.frames ∧ lE + 22 ≤ R.locals)
    (hE : ∀ (a0 : Int32) (σ τ : S5) (r : Int64), E a0 σ = some (r, τ) → ∀ sz : Nat, Met l yX1_wordOf (Cond.code yX1_wordOf cX1_wordOf 3 (some .long) :: uG) { frames := fE, cells := 0, slots := 0, locals := lE } (gPc (dC, dI) (tC kc) (wC ad kc sv) (zC ak) [.ref (ad 8), .int a0] σ sz) (gQl (dC, dI) (tC kc) (wC ad kc sv) (va_A (wC ad kc sv σ) sz) r τ) 0 0 (va_A (wC ad kc sv σ) sz))
    (hrec12 : ∀ (v1 : Int32) (v2 : Int32) (v3 : Int32) (σ : S5) (H : Heap) (locs : List Loc) (ls : Array Slot), gX (dC, dI) (tC kc) (wC ad kc sv) (zC ak) A s σ H locs → lv_has ls 7 [(0, .ref (ad 8)), (1, .int v1), (2, .int v2), (3, .int v3)] → rec12 v1 v2 v3 σ = some (r, τ) → W p l e R s m args below meth c H locs 0 0 (MQ below (gQl (dC, dI) (tC kc) (wC ad kc sv) A r τ) args s 0 0 A) (F0 m 12 ls []))
    (X : gX (dC, dI) (tC kc) (wC ad kc sv) (zC ak) A s σ H locs) (hl : lv_has ls 7 [(0, .ref (ad 8)), (1, .int v1), (2, .int v2), (3, .int v3)]) (hg : f_X1_wordOfLet_B12 E rec12 v1 v2 v3 σ = some (r, τ)) : W p l e R s m args below meth c H locs 0 0 (MQ below (gQl (dC, dI) (tC kc) (wC ad kc sv) A r τ) args s 0 0 A) (F0 m 12 ls []) := by
  have hx := S.1
  have hb := S.2.1
  have hown := S.2.2.2.1
  have hu := S.2.2.2.2
  unfold f_X1_wordOfLet_B12 at hg
  refine lv_iload_n hx hb dX1_wordOfLet_12 rfl (lv_at hl 2 rfl) ?_
  refine lv_bipush (v := 10) hx hb dX1_wordOfLet_13 (by decide) ?_
  refine lv_icmp_ge (tgt := 109) hx hb dX1_wordOfLet_15 (by decide) (fun c15 => ?_) (fun c15 => ?_)
  · have hg := (if_pos c15).symm.trans hg
    exact w_X1_wordOfLet_b109 S hr hk hR hE X (lv_sub hl [0, 1] rfl) hg
  · have hg := (if_neg c15).symm.trans hg
    refine lv_iload_n hx hb dX1_wordOfLet_18 rfl (lv_at hl 3 rfl) ?_
    refine lv_iconst (v := (-1)) hx hb dX1_wordOfLet_19 (by decide) ?_
    refine lv_icmp_eq (tgt := 109) hx hb dX1_wordOfLet_20 (by decide) (fun c20 => ?_) (fun c20 => ?_)
    · have hg := (if_pos c20).symm.trans hg
      exact w_X1_wordOfLet_b109 S hr hk hR hE X (lv_sub hl [0, 1] rfl) hg
    · have hg := (if_neg c20).symm.trans hg
      refine lv_aload_n hx hb dX1_wordOfLet_23 rfl (lv_at hl 0 rfl) ?_
      refine wcgR_8_0 S X mG_599 dX1_wordOfLet_24 ?_
      refine wcgR_3_1 S X mG_387 dX1_wordOfLet_27 ?_
      refine lv_iload_n hx hb dX1_wordOfLet_30 rfl (lv_at hl 3 rfl) ?_
      obtain ⟨hi31, hg⟩ := gd_some hg
      refine wclA_14 (v := (xA σ 14 v3)) S X hi31 rfl dX1_wordOfLet_31 ?_
      refine lv_istore (lv' := [(4, .int (xA σ 14 v3)), (0, .ref (ad 8)), (1, .int v1), (2, .int v2), (3, .int v3)]) hx hb dX1_wordOfLet_32 hl (by decide) rfl (fun ls hl => ?_)
      refine lv_aload_n hx hb dX1_wordOfLet_34 rfl (lv_at hl 1 rfl) ?_
      refine lv_aload_n hx hb dX1_wordOfLet_35 rfl (lv_at hl 1 rfl) ?_
      refine wcgR_8_0 S X mG_599 dX1_wordOfLet_36 ?_
      refine wcgR_3_3 S X mG_396 dX1_wordOfLet_39 ?_
      refine lv_iload_n hx hb dX1_wordOfLet_42 rfl (lv_at hl 4 rfl) ?_
      obtain ⟨hi43, hg⟩ := gd_some hg
      refine wclA_16 (v := (xA σ 16 v3)) S X hi43 rfl dX1_wordOfLet_43 ?_
      obtain ⟨r44, τ44, hq44, hg⟩ := bd_some hg
      refine gc_Vl (As := [.int (xA σ 16 v3)]) (rest := []) (q0 := 8) (ci := 4) S X (hE _ _ _ _ hq44 H.size) cw_X1_wordOf mG_1575 rfl rfl rfl rfl rfl hl.1 (Nat.le_of_ble_eq_true rfl) dX1_wordOfLet_44 ⟨by omega, by omega⟩ (fun H locs X => ?_)
      refine lv_aload_n hx hb dX1_wordOfLet_47 rfl (lv_at hl 1 rfl) ?_
      refine wcgR_8_3 S X mG_602 dX1_wordOfLet_48 ?_
      refine lv_iload hx hb dX1_wordOfLet_51 (lv_at hl 0 rfl) ?_
      obtain ⟨hi53, hg⟩ := gd_some hg
      refine wclB_6 (v := (xB τ44 6 (xA σ 14 v3))) S X hi53 rfl dX1_wordOfLet_53 ?_
      refine lv_lor hx hb dX1_wordOfLet_54 ?_
      refine lv_lstore (lv' := [(5, .long (r44 ||| (xB τ44 6 (xA σ 14 v3)))), (4, .int (xA σ 14 v3)), (0, .ref (ad 8)), (1, .int v1), (2, .int v2), (3, .int v3)]) hx hb dX1_wordOfLet_55 hl (by decide) rfl (fun ls hl => ?_)
      refine lv_aload_n hx hb dX1_wordOfLet_57 rfl (lv_at hl 2 rfl) ?_
      refine lv_dup hx hb dX1_wordOfLet_58 rfl ?_
      refine wcgI_24 (v := (gI τ44 24)) S X mG_606 rfl dX1_wordOfLet_59 ?_
      refine lv_lload hx hb dX1_wordOfLet_62 (lv_at hl 0 rfl) ?_
      refine lv_aload_n hx hb dX1_wordOfLet_64 rfl (lv_at hl 2 rfl) ?_
      refine wcgR_8_3 S X mG_602 dX1_wordOfLet_65 ?_
      refine lv_iload hx hb dX1_wordOfLet_68 (lv_at hl 1 rfl) ?_
      obtain ⟨hi70, hg⟩ := gd_some hg
      refine wclB_6 (v := (xB τ44 6 (xA σ 14 v3))) S X hi70 rfl dX1_wordOfLet_70 ?_
      refine W.lcmp hx hb dX1_wordOfLet_71 ?_
      refine lv_if_eq (tgt := 79) hx hb dX1_wordOfLet_72 (by decide) (fun c72 => ?_) (fun c72 => ?_)
      · have hg := (if_pos c72).symm.trans hg
        refine lv_iconst (v := 0) hx hb dX1_wordOfLet_79 (by decide) ?_
        exact w_X1_wordOfLet_b80 S hr hk hR hE hrec12 X (lv_sub hl [2, 3, 4, 5, 1, 0] rfl) hg
      · have hg := (if_neg c72).symm.trans hg
        refine lv_iconst (v := 1) hx hb dX1_wordOfLet_75 (by decide) ?_
        refine lv_goto (tgt := 80) hx hb dX1_wordOfLet_76 (by decide) ?_
        exact w_X1_wordOfLet_b80 S hr hk hR hE hrec12 X (lv_sub hl [2, 3, 4, 5, 1, 0] rfl) hg
set_option maxHeartbeats 4000000 in
set_option maxRecDepth 100000 in
theorem w_X1_wordOfLet_L12 {E : Int32 → S5 → Option (Int64 × S5)} (S : CallFix p m c cX1_wordOfLet 7 s args uG RX1) (hr : meth.sig.returnType = (some .long)) (hk : meth.locks = false) (hR : fE + 1 ≤ R.frames ∧ lE + 22 ≤ R.locals)
    (hE : ∀ (a0 : Int32) (σ τ : S5) (r : Int64), E a0 σ = some (r, τ) → ∀ sz : Nat, Met l yX1_wordOf (Cond.code yX1_wordOf cX1_wordOf 3 (some .long) :: uG) { frames := fE, cells := 0, slots := 0, locals := lE } (gPc (dC, dI) (tC kc) (wC ad kc sv) (zC ak) [.ref (ad 8), .int a0] σ sz) (gQl (dC, dI) (tC kc) (wC ad kc sv) (va_A (wC ad kc sv σ) sz) r τ) 0 0 (va_A (wC ad kc sv σ) sz)) : ∀ (n : Nat) (v1 : Int32) (v2 : Int32) (v3 : Int32) (σ : S5) (H : Heap) (locs : List Loc) (ls : Array Slot), gX (dC, dI) (tC kc) (wC ad kc sv) (zC ak) A s σ H locs → lv_has ls 7 [(0, .ref (ad 8)), (1, .int v1), (2, .int v2), (3, .int v3)] → f_X1_wordOfLet_L12 E n v1 v2 v3 σ = some (r, τ) → W p l e R s m args below meth c H locs 0 0 (MQ below (gQl (dC, dI) (tC kc) (wC ad kc sv) A r τ) args s 0 0 A) (F0 m 12 ls []) := by
  intro n
  induction n with
  | zero => intro v1 v2 v3 σ H locs ls X hl hg; cases hg
  | succ n ih => intro v1 v2 v3 σ H locs ls X hl hg; exact w_X1_wordOfLet_B12 S hr hk hR hE ih X hl hg
set_option maxHeartbeats 4000000 in
set_option maxRecDepth 100000 in
theorem w_X1_wordOfLet {σ : S5} {E : Int32 → S5 → Option (Int64 × S5)} {a1 : Int32} {H : Heap} {locs : List Loc} {ls : Array Slot} (S : CallFix p m c cX1_wordOfLet 7 s args uG RX1) (hr : meth.sig.returnType = (some .long)) (hk : meth.locks = false) (hR : fE + 1 ≤ R.frames ∧ lE + 22 ≤ R.locals)
    (hE : ∀ (a0 : Int32) (σ τ : S5) (r : Int64), E a0 σ = some (r, τ) → ∀ sz : Nat, Met l yX1_wordOf (Cond.code yX1_wordOf cX1_wordOf 3 (some .long) :: uG) { frames := fE, cells := 0, slots := 0, locals := lE } (gPc (dC, dI) (tC kc) (wC ad kc sv) (zC ak) [.ref (ad 8), .int a0] σ sz) (gQl (dC, dI) (tC kc) (wC ad kc sv) (va_A (wC ad kc sv σ) sz) r τ) 0 0 (va_A (wC ad kc sv σ) sz))
    (X : gX (dC, dI) (tC kc) (wC ad kc sv) (zC ak) A s σ H locs) (hl : lv_has ls 7 [(0, .ref (ad 8)), (1, .int a1)]) (hg : f_X1_wordOfLet E a1 σ = some (r, τ)) : W p l e R s m args below meth c H locs 0 0 (MQ below (gQl (dC, dI) (tC kc) (wC ad kc sv) A r τ) args s 0 0 A) (F0 m 0 ls []) := by
  have hx := S.1
  have hb := S.2.1
  have hown := S.2.2.2.1
  have hu := S.2.2.2.2
  unfold f_X1_wordOfLet at hg
  refine lv_iconst (v := 0) hx hb dX1_wordOfLet_0 (by decide) ?_
  refine lv_istore_n (lv' := [(2, .int 0), (0, .ref (ad 8)), (1, .int a1)]) hx hb dX1_wordOfLet_1 rfl hl (by decide) rfl (fun ls hl => ?_)
  refine lv_aload_n hx hb dX1_wordOfLet_2 rfl (lv_at hl 1 rfl) ?_
  refine wcgR_8_0 S X mG_599 dX1_wordOfLet_3 ?_
  refine wcgR_3_4 S X mG_402 dX1_wordOfLet_6 ?_
  refine lv_iload_n hx hb dX1_wordOfLet_9 rfl (lv_at hl 2 rfl) ?_
  obtain ⟨hi10, hg⟩ := gd_some hg
  refine wclA_17 (v := (xA σ 17 a1)) S X hi10 rfl dX1_wordOfLet_10 ?_
  refine lv_istore_n (lv' := [(3, .int (xA σ 17 a1)), (2, .int 0), (0, .ref (ad 8)), (1, .int a1)]) hx hb dX1_wordOfLet_11 rfl hl (by decide) rfl (fun ls hl => ?_)
  exact w_X1_wordOfLet_L12 S hr hk hR hE _ _ _ _ _ _ _ _ X (lv_sub hl [2, 3, 1, 0] rfl) hg
end MX1_wordOfLet
set_option maxRecDepth 100000 in
theorem k2_X1_wordOfLet (l : Launch) (dC : Nat → ClassId) (dI : Nat → Nat → Nat) {ak : Nat → Nat} (ad : Nat → Nat) (kc : Nat → ClassId) (sv : Value) {E : Int32 → S5 → Option (Int64 × S5)} {fE lE : Nat} {σ τ : S5} {a1 : Int32} {r : Int64} (hE : ∀ (a0 : Int32) (σ τ : S5) (r : Int64), E a0 σ = some (r, τ) → ∀ sz : Nat, Met l yX1_wordOf (Cond.code yX1_wordOf cX1_wordOf 3 (some .long) :: uG) { frames := fE, cells := 0, slots := 0, locals := lE } (gPc (dC, dI) (tC kc) (wC ad kc sv) (zC ak) [.ref (ad 8), .int a0] σ sz) (gQl (dC, dI) (tC kc) (wC ad kc sv) (va_A (wC ad kc sv σ) sz) r τ) 0 0 (va_A (wC ad kc sv σ) sz)) (hg : f_X1_wordOfLet E a1 σ = some (r, τ)) (sz : Nat) : Met l yX1_wordOfLet (Cond.code yX1_wordOfLet cX1_wordOfLet 7 (some .long) :: uG) { frames := fE + 1, cells := 0, slots := 0, locals := lE + 22 } (gPc (dC, dI) (tC kc) (wC ad kc sv) (zC ak) [.ref (ad 8), .int a1] σ sz) (gQl (dC, dI) (tC kc) (wC ad kc sv) (va_A (wC ad kc sv σ) sz) r τ) 0 0 (va_A (wC ad kc sv σ) sz) :=
  g_start (by decide) (Nat.le_of_ble_eq_true rfl) (fun p e s m below meth c ls S hr hk X hl => w_X1_wordOfLet S hr hk ⟨Nat.le_refl _, Nat.le_refl _⟩ hE X hl hg)
section MX1_wordOfApplication
variable {p : Program} {l : Launch} {e : Env} {R : Room} {s : State} {m : MethodId} {args : Array Value} {below : List Frame} {meth : Method} {c : Code} {dC : Nat → ClassId} {dI : Nat → Nat → Nat} {ak : Nat → Nat} {A : Nat → Prop} {ad : Nat → Nat} {kc : Nat → ClassId} {sv : Value} {r : Int64} {τ : S5} {fE lE : Nat}
set_option maxHeartbeats 4000000 in
set_option maxRecDepth 100000 in
theorem w_X1_wordOfApplication_b167 {σ : S5} {E : Int32 → S5 → Option (Int64 × S5)} {v3 : Int32} {v5 : Int32} {H : Heap} {locs : List Loc} {ls : Array Slot} (S : CallFix p m c cX1_wordOfApplication 10 s args uG RX1) (hr : meth.sig.returnType = (some .long)) (hk : meth.locks = false) (hR : fE + 2 ≤ R.frames ∧ lE + 49 ≤ R.locals)
    (hE : ∀ (a0 : Int32) (σ τ : S5) (r : Int64), E a0 σ = some (r, τ) → ∀ sz : Nat, Met l yX1_wordOf (Cond.code yX1_wordOf cX1_wordOf 3 (some .long) :: uG) { frames := fE, cells := 0, slots := 0, locals := lE } (gPc (dC, dI) (tC kc) (wC ad kc sv) (zC ak) [.ref (ad 8), .int a0] σ sz) (gQl (dC, dI) (tC kc) (wC ad kc sv) (va_A (wC ad kc sv σ) sz) r τ) 0 0 (va_A (wC ad kc sv σ) sz))
    (X : gX (dC, dI) (tC kc) (wC ad kc sv) (zC ak) A s σ H locs) (hl : lv_has ls 10 [(0, .ref (ad 8)), (3, .int v3), (5, .int v5)]) (hg : f_X1_wordOfApplication_b167 E v3 v5 σ = some (r, τ)) : W p l e R s m args below meth c H locs 0 0 (MQ below (gQl (dC, dI) (tC kc) (wC ad kc sv) A r τ) args s 0 0 A) (F0 m 167 ls []) := by
  have hx := S.1
  have hb := S.2.1
  have hown := S.2.2.2.1
  have hu := S.2.2.2.2
  unfold f_X1_wordOfApplication_b167 at hg
  refine lv_aload_n hx hb dX1_wordOfApplication_167 rfl (lv_at hl 0 rfl) ?_
  refine lv_iload_n hx hb dX1_wordOfApplication_168 rfl (lv_at hl 1 rfl) ?_
  refine lv_iload hx hb dX1_wordOfApplication_169 (lv_at hl 2 rfl) ?_
  obtain ⟨r171, τ171, hq171, hg⟩ := bd_some hg
  refine gc_Vl (As := [.int v3, .int v5]) (rest := []) (q0 := 8) (ci := 4) S X (k2_X1_compose l dC dI ad kc sv hq171 H.size) cw_X1_compose mG_1596 rfl rfl rfl rfl rfl hl.1 (Nat.le_of_ble_eq_true rfl) dX1_wordOfApplication_171 ⟨by omega, by omega⟩ (fun H locs X => ?_)
  refine lv_lstore (lv' := [(7, .long r171), (0, .ref (ad 8)), (3, .int v3), (5, .int v5)]) hx hb dX1_wordOfApplication_174 hl (by decide) rfl (fun ls hl => ?_)
  refine lv_aload_n hx hb dX1_wordOfApplication_176 rfl (lv_at hl 1 rfl) ?_
  refine lv_iload hx hb dX1_wordOfApplication_177 (lv_at hl 3 rfl) ?_
  refine wcpI_22 S X mG_604 dX1_wordOfApplication_179 (fun H locs X => ?_)
  refine lv_lload hx hb dX1_wordOfApplication_182 (lv_at hl 0 rfl) ?_
  obtain ⟨rfl, rfl⟩ := fin_some hg
  exact gr_l S hr hk X dX1_wordOfApplication_184
set_option maxHeartbeats 4000000 in
set_option maxRecDepth 100000 in
theorem w_X1_wordOfApplication_B95 {σ : S5} {E : Int32 → S5 → Option (Int64 × S5)} {rec95 : Int32 → Int32 → Int32 → Int32 → Int32 → S5 → Option (Int64 × S5)} {v3 : Int32} {v4 : Int32} {v5 : Int32} {v6 : Int32} {v7 : Int32} {H : Heap} {locs : List Loc} {ls : Array Slot} (S : CallFix p m c cX1_wordOfApplication 10 s args uG RX1) (hr : meth.sig.returnType = (some .long)) (hk : meth.locks = false) (hR : fE + 2 ≤ R.frames ∧ lE + 49 ≤ R.locals)
    (hE : ∀ (a0 : Int32) (σ τ : S5) (r : Int64), E a0 σ = some (r, τ) → ∀ sz : Nat, Met l yX1_wordOf (Cond.code yX1_wordOf cX1_wordOf 3 (some .long) :: uG) { frames := fE, cells := 0, slots := 0, locals := lE } (gPc (dC, dI) (tC kc) (wC ad kc sv) (zC ak) [.ref (ad 8), .int a0] σ sz) (gQl (dC, dI) (tC kc) (wC ad kc sv) (va_A (wC ad kc sv σ) sz) r τ) 0 0 (va_A (wC ad kc sv σ) sz))
    (hrec95 : ∀ (v3 : Int32) (v4 : Int32) (v5 : Int32) (v6 : Int32) (v7 : Int32) (σ : S5) (H : Heap) (locs : List Loc) (ls : Array Slot), gX (dC, dI) (tC kc) (wC ad kc sv) (zC ak) A s σ H locs → lv_has ls 10 [(0, .ref (ad 8)), (3, .int v3), (4, .int v4), (5, .int v5), (6, .int v6), (7, .int v7)] → rec95 v3 v4 v5 v6 v7 σ = some (r, τ) → W p l e R s m args below meth c H locs 0 0 (MQ below (gQl (dC, dI) (tC kc) (wC ad kc sv) A r τ) args s 0 0 A) (F0 m 95 ls []))
    (X : gX (dC, dI) (tC kc) (wC ad kc sv) (zC ak) A s σ H locs) (hl : lv_has ls 10 [(0, .ref (ad 8)), (3, .int v3), (4, .int v4), (5, .int v5), (6, .int v6), (7, .int v7)]) (hg : f_X1_wordOfApplication_B95 E rec95 v3 v4 v5 v6 v7 σ = some (r, τ)) : W p l e R s m args below meth c H locs 0 0 (MQ below (gQl (dC, dI) (tC kc) (wC ad kc sv) A r τ) args s 0 0 A) (F0 m 95 ls []) := by
  have hx := S.1
  have hb := S.2.1
  have hown := S.2.2.2.1
  have hu := S.2.2.2.2
  unfold f_X1_wordOfApplication_B95 at hg
  refine lv_iload hx hb dX1_wordOfApplication_95 (lv_at hl 5 rfl) ?_
  refine lv_iload hx hb dX1_wordOfApplication_97 (lv_at hl 2 rfl) ?_
  refine lv_icmp_ge (tgt := 167) hx hb dX1_wordOfApplication_99 (by decide) (fun c99 => ?_) (fun c99 => ?_)
  · have hg := (if_pos c99).symm.trans hg
    exact w_X1_wordOfApplication_b167 S hr hk hR hE X (lv_sub hl [0, 1, 3] rfl) hg
  · have hg := (if_neg c99).symm.trans hg
    refine lv_iload hx hb dX1_wordOfApplication_102 (lv_at hl 4 rfl) ?_
    refine lv_iconst (v := (-1)) hx hb dX1_wordOfApplication_104 (by decide) ?_
    refine lv_icmp_eq (tgt := 167) hx hb dX1_wordOfApplication_105 (by decide) (fun c105 => ?_) (fun c105 => ?_)
    · have hg := (if_pos c105).symm.trans hg
      exact w_X1_wordOfApplication_b167 S hr hk hR hE X (lv_sub hl [0, 1, 3] rfl) hg
    · have hg := (if_neg c105).symm.trans hg
      refine lv_aload_n hx hb dX1_wordOfApplication_108 rfl (lv_at hl 0 rfl) ?_
      refine wcgI_22 (v := (gI σ 22)) S X mG_604 rfl dX1_wordOfApplication_109 ?_
      refine lv_aload_n hx hb dX1_wordOfApplication_112 rfl (lv_at hl 0 rfl) ?_
      refine wcgR_8_4 S X mG_603 dX1_wordOfApplication_113 ?_
      refine wcnB_7 S X dX1_wordOfApplication_116 ?_
      refine lv_icmp_ge (tgt := 167) hx hb dX1_wordOfApplication_117 (by decide) (fun c117 => ?_) (fun c117 => ?_)
      · have hg := (if_pos c117).symm.trans hg
        exact w_X1_wordOfApplication_b167 S hr hk hR hE X (lv_sub hl [0, 1, 3] rfl) hg
      · have hg := (if_neg c117).symm.trans hg
        refine lv_aload_n hx hb dX1_wordOfApplication_120 rfl (lv_at hl 0 rfl) ?_
        refine lv_iload hx hb dX1_wordOfApplication_121 (lv_at hl 4 rfl) ?_
        obtain ⟨r123, τ123, hq123, hg⟩ := bd_some hg
        refine gc_Vl (As := [.int v6]) (rest := []) (q0 := 8) (ci := 4) S X (hE _ _ _ _ hq123 H.size) cw_X1_wordOf mG_1575 rfl rfl rfl rfl rfl hl.1 (Nat.le_of_ble_eq_true rfl) dX1_wordOfApplication_123 ⟨by omega, by omega⟩ (fun H locs X => ?_)
        refine lv_lstore (lv' := [(8, .long r123), (0, .ref (ad 8)), (3, .int v3), (4, .int v4), (5, .int v5), (6, .int v6), (7, .int v7)]) hx hb dX1_wordOfApplication_126 hl (by decide) rfl (fun ls hl => ?_)
        refine lv_aload_n hx hb dX1_wordOfApplication_128 rfl (lv_at hl 1 rfl) ?_
        refine wcgR_8_4 S X mG_603 dX1_wordOfApplication_129 ?_
        refine lv_aload_n hx hb dX1_wordOfApplication_132 rfl (lv_at hl 1 rfl) ?_
        refine wcgI_22 (v := (gI τ123 22)) S X mG_604 rfl dX1_wordOfApplication_133 ?_
        refine lv_lload hx hb dX1_wordOfApplication_136 (lv_at hl 0 rfl) ?_
        obtain ⟨hi138, hg⟩ := gd_some hg
        refine wcsB_7 S X hi138 dX1_wordOfApplication_138 (fun H locs X => ?_)
        refine lv_aload_n hx hb dX1_wordOfApplication_139 rfl (lv_at hl 1 rfl) ?_
        refine lv_dup hx hb dX1_wordOfApplication_140 rfl ?_
        refine wcgI_22 (v := (gI τ123 22)) S X mG_604 rfl dX1_wordOfApplication_141 ?_
        refine lv_iconst (v := 1) hx hb dX1_wordOfApplication_144 (by decide) ?_
        refine lv_iadd hx hb dX1_wordOfApplication_145 ?_
        refine wcpI_22 S X mG_604 dX1_wordOfApplication_146 (fun H locs X => ?_)
        refine lv_aload_n hx hb dX1_wordOfApplication_149 rfl (lv_at hl 1 rfl) ?_
        refine wcgR_8_0 S X mG_599 dX1_wordOfApplication_150 ?_
        refine wcgR_3_4 S X mG_402 dX1_wordOfApplication_153 ?_
        refine lv_iload hx hb dX1_wordOfApplication_156 (lv_at hl 5 rfl) ?_
        obtain ⟨hi158, hg⟩ := gd_some hg
        refine wclA_17 (v := (xA τ123 17 v6)) S X hi158 rfl dX1_wordOfApplication_158 ?_
        refine lv_istore (lv' := [(6, .int (xA τ123 17 v6)), (8, .long r123), (0, .ref (ad 8)), (3, .int v3), (4, .int v4), (5, .int v5), (7, .int v7)]) hx hb dX1_wordOfApplication_159 hl (by decide) rfl (fun ls hl => ?_)
        refine lv_iinc (v := (v7 + 1)) (lv' := [(7, .int (v7 + 1)), (6, .int (xA τ123 17 v6)), (8, .long r123), (0, .ref (ad 8)), (3, .int v3), (4, .int v4), (5, .int v5)]) hx hb dX1_wordOfApplication_161 hl (k := 6) rfl (by rfl) (by decide) rfl (fun ls hl => ?_)
        refine lv_goto (tgt := 95) hx hb dX1_wordOfApplication_164 (by decide) ?_
        exact hrec95 _ _ _ _ _ _ _ _ _ X (lv_sub hl [3, 4, 5, 6, 1, 0] rfl) hg
set_option maxHeartbeats 4000000 in
set_option maxRecDepth 100000 in
theorem w_X1_wordOfApplication_L95 {E : Int32 → S5 → Option (Int64 × S5)} (S : CallFix p m c cX1_wordOfApplication 10 s args uG RX1) (hr : meth.sig.returnType = (some .long)) (hk : meth.locks = false) (hR : fE + 2 ≤ R.frames ∧ lE + 49 ≤ R.locals)
    (hE : ∀ (a0 : Int32) (σ τ : S5) (r : Int64), E a0 σ = some (r, τ) → ∀ sz : Nat, Met l yX1_wordOf (Cond.code yX1_wordOf cX1_wordOf 3 (some .long) :: uG) { frames := fE, cells := 0, slots := 0, locals := lE } (gPc (dC, dI) (tC kc) (wC ad kc sv) (zC ak) [.ref (ad 8), .int a0] σ sz) (gQl (dC, dI) (tC kc) (wC ad kc sv) (va_A (wC ad kc sv σ) sz) r τ) 0 0 (va_A (wC ad kc sv σ) sz)) : ∀ (n : Nat) (v3 : Int32) (v4 : Int32) (v5 : Int32) (v6 : Int32) (v7 : Int32) (σ : S5) (H : Heap) (locs : List Loc) (ls : Array Slot), gX (dC, dI) (tC kc) (wC ad kc sv) (zC ak) A s σ H locs → lv_has ls 10 [(0, .ref (ad 8)), (3, .int v3), (4, .int v4), (5, .int v5), (6, .int v6), (7, .int v7)] → f_X1_wordOfApplication_L95 E n v3 v4 v5 v6 v7 σ = some (r, τ) → W p l e R s m args below meth c H locs 0 0 (MQ below (gQl (dC, dI) (tC kc) (wC ad kc sv) A r τ) args s 0 0 A) (F0 m 95 ls []) := by
  intro n
  induction n with
  | zero => intro v3 v4 v5 v6 v7 σ H locs ls X hl hg; cases hg
  | succ n ih => intro v3 v4 v5 v6 v7 σ H locs ls X hl hg; exact w_X1_wordOfApplication_B95 S hr hk hR hE ih X hl hg
set_option maxHeartbeats 4000000 in
set_option maxRecDepth 100000 in
theorem w_X1_wordOfApplication_b69 {σ : S5} {E : Int32 → S5 → Option (Int64 × S5)} {v3 : Int32} {H : Heap} {locs : List Loc} {ls : Array Slot} (S : CallFix p m c cX1_wordOfApplication 10 s args uG RX1) (hr : meth.sig.returnType = (some .long)) (hk : meth.locks = false) (hR : fE + 2 ≤ R.frames ∧ lE + 49 ≤ R.locals)
    (hE : ∀ (a0 : Int32) (σ τ : S5) (r : Int64), E a0 σ = some (r, τ) → ∀ sz : Nat, Met l yX1_wordOf (Cond.code yX1_wordOf cX1_wordOf 3 (some .long) :: uG) { frames := fE, cells := 0, slots := 0, locals := lE } (gPc (dC, dI) (tC kc) (wC ad kc sv) (zC ak) [.ref (ad 8), .int a0] σ sz) (gQl (dC, dI) (tC kc) (wC ad kc sv) (va_A (wC ad kc sv σ) sz) r τ) 0 0 (va_A (wC ad kc sv σ) sz))
    (X : gX (dC, dI) (tC kc) (wC ad kc sv) (zC ak) A s σ H locs) (hl : lv_has ls 10 [(0, .ref (ad 8)), (3, .int v3)]) (hg : f_X1_wordOfApplication_b69 E v3 σ = some (r, τ)) : W p l e R s m args below meth c H locs 0 0 (MQ below (gQl (dC, dI) (tC kc) (wC ad kc sv) A r τ) args s 0 0 A) (F0 m 69 ls []) := by
  have hx := S.1
  have hb := S.2.1
  have hown := S.2.2.2.1
  have hu := S.2.2.2.2
  unfold f_X1_wordOfApplication_b69 at hg
  refine lv_aload_n hx hb dX1_wordOfApplication_69 rfl (lv_at hl 0 rfl) ?_
  refine lv_iload_n hx hb dX1_wordOfApplication_70 rfl (lv_at hl 1 rfl) ?_
  obtain ⟨r71, τ71, hq71, hg⟩ := bd_some hg
  refine gc_Vl (As := [.int v3]) (rest := []) (q0 := 8) (ci := 4) S X (k2_X1_alone l dC dI ad kc sv hq71 H.size) cw_X1_alone mG_1579 rfl rfl rfl rfl rfl hl.1 (Nat.le_of_ble_eq_true rfl) dX1_wordOfApplication_71 ⟨by omega, by omega⟩ (fun H locs X => ?_)
  obtain ⟨rfl, rfl⟩ := fin_some hg
  exact gr_l S hr hk X dX1_wordOfApplication_74
set_option maxHeartbeats 4000000 in
set_option maxRecDepth 100000 in
theorem w_X1_wordOfApplication {σ : S5} {E : Int32 → S5 → Option (Int64 × S5)} {a1 : Int32} {H : Heap} {locs : List Loc} {ls : Array Slot} (S : CallFix p m c cX1_wordOfApplication 10 s args uG RX1) (hr : meth.sig.returnType = (some .long)) (hk : meth.locks = false) (hR : fE + 2 ≤ R.frames ∧ lE + 49 ≤ R.locals)
    (hE : ∀ (a0 : Int32) (σ τ : S5) (r : Int64), E a0 σ = some (r, τ) → ∀ sz : Nat, Met l yX1_wordOf (Cond.code yX1_wordOf cX1_wordOf 3 (some .long) :: uG) { frames := fE, cells := 0, slots := 0, locals := lE } (gPc (dC, dI) (tC kc) (wC ad kc sv) (zC ak) [.ref (ad 8), .int a0] σ sz) (gQl (dC, dI) (tC kc) (wC ad kc sv) (va_A (wC ad kc sv σ) sz) r τ) 0 0 (va_A (wC ad kc sv σ) sz))
    (X : gX (dC, dI) (tC kc) (wC ad kc sv) (zC ak) A s σ H locs) (hl : lv_has ls 10 [(0, .ref (ad 8)), (1, .int a1)]) (hg : f_X1_wordOfApplication E a1 σ = some (r, τ)) : W p l e R s m args below meth c H locs 0 0 (MQ below (gQl (dC, dI) (tC kc) (wC ad kc sv) A r τ) args s 0 0 A) (F0 m 0 ls []) := by
  have hx := S.1
  have hb := S.2.1
  have hown := S.2.2.2.1
  have hu := S.2.2.2.2
  unfold f_X1_wordOfApplication at hg
  refine lv_aload_n hx hb dX1_wordOfApplication_0 rfl (lv_at hl 0 rfl) ?_
  refine wcgR_8_0 S X mG_599 dX1_wordOfApplication_1 ?_
  refine wcgR_3_3 S X mG_396 dX1_wordOfApplication_4 ?_
  refine lv_iload_n hx hb dX1_wordOfApplication_7 rfl (lv_at hl 1 rfl) ?_
  obtain ⟨hi8, hg⟩ := gd_some hg
  refine wclA_16 (v := (xA σ 16 a1)) S X hi8 rfl dX1_wordOfApplication_8 ?_
  refine lv_istore_n (lv' := [(2, .int (xA σ 16 a1)), (0, .ref (ad 8)), (1, .int a1)]) hx hb dX1_wordOfApplication_9 rfl hl (by decide) rfl (fun ls hl => ?_)
  refine lv_aload_n hx hb dX1_wordOfApplication_10 rfl (lv_at hl 1 rfl) ?_
  refine wcgR_8_0 S X mG_599 dX1_wordOfApplication_11 ?_
  refine wcgR_3_0 S X mG_381 dX1_wordOfApplication_14 ?_
  refine lv_iload_n hx hb dX1_wordOfApplication_17 rfl (lv_at hl 0 rfl) ?_
  obtain ⟨hi18, hg⟩ := gd_some hg
  refine wclA_13 (v := (xA σ 13 (xA σ 16 a1))) S X hi18 rfl dX1_wordOfApplication_18 ?_
  refine lv_iconst (v := 2) hx hb dX1_wordOfApplication_19 (by decide) ?_
  refine lv_icmp_eq (tgt := 29) hx hb dX1_wordOfApplication_20 (by decide) (fun c20 => ?_) (fun c20 => ?_)
  · have hg := (if_pos c20).symm.trans hg
    refine lv_aload_n hx hb dX1_wordOfApplication_29 rfl (lv_at hl 1 rfl) ?_
    refine wcgR_8_0 S X mG_599 dX1_wordOfApplication_30 ?_
    refine wcgR_3_1 S X mG_387 dX1_wordOfApplication_33 ?_
    refine lv_iload_n hx hb dX1_wordOfApplication_36 rfl (lv_at hl 0 rfl) ?_
    obtain ⟨hi37, hg⟩ := gd_some hg
    refine wclA_14 (v := (xA σ 14 (xA σ 16 a1))) S X hi37 rfl dX1_wordOfApplication_37 ?_
    refine lv_istore_n (lv' := [(3, .int (xA σ 14 (xA σ 16 a1))), (2, .int (xA σ 16 a1)), (0, .ref (ad 8)), (1, .int a1)]) hx hb dX1_wordOfApplication_38 rfl hl (by decide) rfl (fun ls hl => ?_)
    refine lv_aload_n hx hb dX1_wordOfApplication_39 rfl (lv_at hl 2 rfl) ?_
    refine wcgR_8_1 S X mG_600 dX1_wordOfApplication_40 ?_
    refine wcgR_2_7 S X mG_311 dX1_wordOfApplication_43 ?_
    refine lv_iload_n hx hb dX1_wordOfApplication_46 rfl (lv_at hl 0 rfl) ?_
    obtain ⟨hi47, hg⟩ := gd_some hg
    refine wclA_3 (v := (xA σ 3 (xA σ 14 (xA σ 16 a1)))) S X hi47 rfl dX1_wordOfApplication_47 ?_
    refine lv_istore (lv' := [(4, .int (xA σ 3 (xA σ 14 (xA σ 16 a1)))), (3, .int (xA σ 14 (xA σ 16 a1))), (2, .int (xA σ 16 a1)), (0, .ref (ad 8)), (1, .int a1)]) hx hb dX1_wordOfApplication_48 hl (by decide) rfl (fun ls hl => ?_)
    refine lv_iload hx hb dX1_wordOfApplication_50 (lv_at hl 0 rfl) ?_
    refine lv_if_eq (tgt := 69) hx hb dX1_wordOfApplication_52 (by decide) (fun c52 => ?_) (fun c52 => ?_)
    · have hg := (if_pos c52).symm.trans hg
      exact w_X1_wordOfApplication_b69 S hr hk hR hE X (lv_sub hl [3, 1] rfl) hg
    · have hg := (if_neg c52).symm.trans hg
      refine lv_aload_n hx hb dX1_wordOfApplication_55 rfl (lv_at hl 3 rfl) ?_
      refine wcgR_8_0 S X mG_599 dX1_wordOfApplication_56 ?_
      refine wcgR_3_2 S X mG_391 dX1_wordOfApplication_59 ?_
      refine lv_iload_n hx hb dX1_wordOfApplication_62 rfl (lv_at hl 4 rfl) ?_
      obtain ⟨hi63, hg⟩ := gd_some hg
      refine wclA_15 (v := (xA σ 15 a1)) S X hi63 rfl dX1_wordOfApplication_63 ?_
      refine lv_iload hx hb dX1_wordOfApplication_64 (lv_at hl 0 rfl) ?_
      refine lv_icmp_ge (tgt := 75) hx hb dX1_wordOfApplication_66 (by decide) (fun c66 => ?_) (fun c66 => ?_)
      · have hg := (if_pos c66).symm.trans hg
        refine lv_aload_n hx hb dX1_wordOfApplication_75 rfl (lv_at hl 3 rfl) ?_
        refine wcgI_22 (v := (gI σ 22)) S X mG_604 rfl dX1_wordOfApplication_76 ?_
        refine lv_istore (lv' := [(5, .int (gI σ 22)), (4, .int (xA σ 3 (xA σ 14 (xA σ 16 a1)))), (3, .int (xA σ 14 (xA σ 16 a1))), (2, .int (xA σ 16 a1)), (0, .ref (ad 8)), (1, .int a1)]) hx hb dX1_wordOfApplication_79 hl (by decide) rfl (fun ls hl => ?_)
        refine lv_aload_n hx hb dX1_wordOfApplication_81 rfl (lv_at hl 4 rfl) ?_
        refine wcgR_8_0 S X mG_599 dX1_wordOfApplication_82 ?_
        refine wcgR_3_4 S X mG_402 dX1_wordOfApplication_85 ?_
        refine lv_iload_n hx hb dX1_wordOfApplication_88 rfl (lv_at hl 3 rfl) ?_
        obtain ⟨hi89, hg⟩ := gd_some hg
        refine wclA_17 (v := (xA σ 17 (xA σ 16 a1))) S X hi89 rfl dX1_wordOfApplication_89 ?_
        refine lv_istore (lv' := [(6, .int (xA σ 17 (xA σ 16 a1))), (5, .int (gI σ 22)), (4, .int (xA σ 3 (xA σ 14 (xA σ 16 a1)))), (3, .int (xA σ 14 (xA σ 16 a1))), (2, .int (xA σ 16 a1)), (0, .ref (ad 8)), (1, .int a1)]) hx hb dX1_wordOfApplication_90 hl (by decide) rfl (fun ls hl => ?_)
        refine lv_iconst (v := 0) hx hb dX1_wordOfApplication_92 (by decide) ?_
        refine lv_istore (lv' := [(7, .int 0), (6, .int (xA σ 17 (xA σ 16 a1))), (5, .int (gI σ 22)), (4, .int (xA σ 3 (xA σ 14 (xA σ 16 a1)))), (3, .int (xA σ 14 (xA σ 16 a1))), (2, .int (xA σ 16 a1)), (0, .ref (ad 8)), (1, .int a1)]) hx hb dX1_wordOfApplication_93 hl (by decide) rfl (fun ls hl => ?_)
        exact w_X1_wordOfApplication_L95 S hr hk hR hE _ _ _ _ _ _ _ _ _ _ X (lv_sub hl [6, 4, 3, 2, 1, 0] rfl) hg
      · have hg := (if_neg c66).symm.trans hg
        exact w_X1_wordOfApplication_b69 S hr hk hR hE X (lv_sub hl [3, 1] rfl) hg
  · have hg := (if_neg c20).symm.trans hg
    refine lv_aload_n hx hb dX1_wordOfApplication_23 rfl (lv_at hl 1 rfl) ?_
    refine lv_iload_n hx hb dX1_wordOfApplication_24 rfl (lv_at hl 0 rfl) ?_
    obtain ⟨r25, τ25, hq25, hg⟩ := bd_some hg
    refine gc_Vl (As := [.int (xA σ 16 a1)]) (rest := []) (q0 := 8) (ci := 4) S X (hE _ _ _ _ hq25 H.size) cw_X1_wordOf mG_1575 rfl rfl rfl rfl rfl hl.1 (Nat.le_of_ble_eq_true rfl) dX1_wordOfApplication_25 ⟨by omega, by omega⟩ (fun H locs X => ?_)
    obtain ⟨rfl, rfl⟩ := fin_some hg
    exact gr_l S hr hk X dX1_wordOfApplication_28
end MX1_wordOfApplication
set_option maxRecDepth 100000 in
theorem k2_X1_wordOfApplication (l : Launch) (dC : Nat → ClassId) (dI : Nat → Nat → Nat) {ak : Nat → Nat} (ad : Nat → Nat) (kc : Nat → ClassId) (sv : Value) {E : Int32 → S5 → Option (Int64 × S5)} {fE lE : Nat} {σ τ : S5} {a1 : Int32} {r : Int64} (hE : ∀ (a0 : Int32) (σ τ : S5) (r : Int64), E a0 σ = some (r, τ) → ∀ sz : Nat, Met l yX1_wordOf (Cond.code yX1_wordOf cX1_wordOf 3 (some .long) :: uG) { frames := fE, cells := 0, slots := 0, locals := lE } (gPc (dC, dI) (tC kc) (wC ad kc sv) (zC ak) [.ref (ad 8), .int a0] σ sz) (gQl (dC, dI) (tC kc) (wC ad kc sv) (va_A (wC ad kc sv σ) sz) r τ) 0 0 (va_A (wC ad kc sv σ) sz)) (hg : f_X1_wordOfApplication E a1 σ = some (r, τ)) (sz : Nat) : Met l yX1_wordOfApplication (Cond.code yX1_wordOfApplication cX1_wordOfApplication 10 (some .long) :: uG) { frames := fE + 2, cells := 0, slots := 0, locals := lE + 49 } (gPc (dC, dI) (tC kc) (wC ad kc sv) (zC ak) [.ref (ad 8), .int a1] σ sz) (gQl (dC, dI) (tC kc) (wC ad kc sv) (va_A (wC ad kc sv σ) sz) r τ) 0 0 (va_A (wC ad kc sv σ) sz) :=
  g_start (by decide) (Nat.le_of_ble_eq_true rfl) (fun p e s m below meth c ls S hr hk X hl => w_X1_wordOfApplication S hr hk ⟨Nat.le_refl _, Nat.le_refl _⟩ hE X hl hg)
section MX1_wordOf
variable {p : Program} {l : Launch} {e : Env} {R : Room} {s : State} {m : MethodId} {args : Array Value} {below : List Frame} {meth : Method} {c : Code} {dC : Nat → ClassId} {dI : Nat → Nat → Nat} {ak : Nat → Nat} {A : Nat → Prop} {ad : Nat → Nat} {kc : Nat → ClassId} {sv : Value} {r : Int64} {τ : S5} {fE lE : Nat}
set_option maxHeartbeats 4000000 in
set_option maxRecDepth 100000 in
theorem w_X1_wordOf {σ : S5} {E : Int32 → S5 → Option (Int64 × S5)} {a1 : Int32} {H : Heap} {locs : List Loc} {ls : Array Slot} (S : CallFix p m c cX1_wordOf 3 s args uG RX1) (hr : meth.sig.returnType = (some .long)) (hk : meth.locks = false) (hR : fE + 3 ≤ R.frames ∧ lE + 78 ≤ R.locals)
    (hE : ∀ (a0 : Int32) (σ τ : S5) (r : Int64), E a0 σ = some (r, τ) → ∀ sz : Nat, Met l yX1_wordOf (Cond.code yX1_wordOf cX1_wordOf 3 (some .long) :: uG) { frames := fE, cells := 0, slots := 0, locals := lE } (gPc (dC, dI) (tC kc) (wC ad kc sv) (zC ak) [.ref (ad 8), .int a0] σ sz) (gQl (dC, dI) (tC kc) (wC ad kc sv) (va_A (wC ad kc sv σ) sz) r τ) 0 0 (va_A (wC ad kc sv σ) sz))
    (X : gX (dC, dI) (tC kc) (wC ad kc sv) (zC ak) A s σ H locs) (hl : lv_has ls 3 [(0, .ref (ad 8)), (1, .int a1)]) (hg : f_X1_wordOf E a1 σ = some (r, τ)) : W p l e R s m args below meth c H locs 0 0 (MQ below (gQl (dC, dI) (tC kc) (wC ad kc sv) A r τ) args s 0 0 A) (F0 m 0 ls []) := by
  have hx := S.1
  have hb := S.2.1
  have hown := S.2.2.2.1
  have hu := S.2.2.2.2
  unfold f_X1_wordOf at hg
  refine lv_aload_n hx hb dX1_wordOf_0 rfl (lv_at hl 0 rfl) ?_
  refine wcgR_8_0 S X mG_599 dX1_wordOf_1 ?_
  refine wcgR_3_3 S X mG_396 dX1_wordOf_4 ?_
  refine lv_iload_n hx hb dX1_wordOf_7 rfl (lv_at hl 1 rfl) ?_
  obtain ⟨hi8, hg⟩ := gd_some hg
  refine wclA_16 (v := (xA σ 16 a1)) S X hi8 rfl dX1_wordOf_8 ?_
  refine lv_istore_n (lv' := [(2, .int (xA σ 16 a1)), (0, .ref (ad 8)), (1, .int a1)]) hx hb dX1_wordOf_9 rfl hl (by decide) rfl (fun ls hl => ?_)
  refine lv_aload_n hx hb dX1_wordOf_10 rfl (lv_at hl 1 rfl) ?_
  refine wcgR_8_0 S X mG_599 dX1_wordOf_11 ?_
  refine wcgR_3_0 S X mG_381 dX1_wordOf_14 ?_
  refine lv_iload_n hx hb dX1_wordOf_17 rfl (lv_at hl 2 rfl) ?_
  obtain ⟨hi18, hg⟩ := gd_some hg
  refine wclA_13 (v := (xA σ 13 a1)) S X hi18 rfl dX1_wordOf_18 ?_
  rcases sw_2_8 ((xA σ 13 a1)) with hsw | hsw | hsw | hsw | hsw | hsw | hsw | hsw
  · refine lv_tableOut (tgt := 143) hx hb dX1_wordOf_19 hsw (by decide) ?_
    obtain ⟨hs0, hs1, hs2, hs3, hs4, hs5, hs6⟩ := swo_2_8 hsw
    have hg := (if_neg hs0).symm.trans hg
    have hg := (if_neg hs1).symm.trans hg
    have hg := (if_neg hs2).symm.trans hg
    have hg := (if_neg hs3).symm.trans hg
    have hg := (if_neg hs4).symm.trans hg
    have hg := (if_neg hs5).symm.trans hg
    have hg := (if_neg hs6).symm.trans hg
    refine lv_ldc2 (own := RX1) (v := (-1)) hx hb hown (hu _ mG_1583) dX1_wordOf_143 ?_
    obtain ⟨rfl, rfl⟩ := fin_some hg
    exact gr_l S hr hk X dX1_wordOf_146
  · refine lv_tableIn (off := 56) (tgt := 75) hx hb dX1_wordOf_19 (by rw [hsw]; decide) (by rw [hsw]; decide) (by rw [hsw]; decide) (by decide) ?_
    have hg := (if_pos hsw).symm.trans hg
    refine lv_aload_n hx hb dX1_wordOf_75 rfl (lv_at hl 1 rfl) ?_
    refine lv_aload_n hx hb dX1_wordOf_76 rfl (lv_at hl 1 rfl) ?_
    refine wcgR_8_0 S X mG_599 dX1_wordOf_77 ?_
    refine wcgR_3_1 S X mG_387 dX1_wordOf_80 ?_
    refine lv_iload_n hx hb dX1_wordOf_83 rfl (lv_at hl 2 rfl) ?_
    obtain ⟨hi84, hg⟩ := gd_some hg
    refine wclA_14 (v := (xA σ 14 a1)) S X hi84 rfl dX1_wordOf_84 ?_
    obtain ⟨r85, τ85, hq85, hg⟩ := bd_some hg
    refine gc_Vl (As := [.int (xA σ 14 a1)]) (rest := []) (q0 := 8) (ci := 4) S X (k2_X1_alone l dC dI ad kc sv hq85 H.size) cw_X1_alone mG_1579 rfl rfl rfl rfl rfl hl.1 (Nat.le_of_ble_eq_true rfl) dX1_wordOf_85 ⟨by omega, by omega⟩ (fun H locs X => ?_)
    obtain ⟨rfl, rfl⟩ := fin_some hg
    exact gr_l S hr hk X dX1_wordOf_88
  · refine lv_tableIn (off := 41) (tgt := 60) hx hb dX1_wordOf_19 (by rw [hsw]; decide) (by rw [hsw]; decide) (by rw [hsw]; decide) (by decide) ?_
    have hg := (if_neg (by rw [hsw]; decide)).symm.trans hg
    have hg := (if_pos hsw).symm.trans hg
    refine lv_aload_n hx hb dX1_wordOf_60 rfl (lv_at hl 1 rfl) ?_
    refine wcgR_8_3 S X mG_602 dX1_wordOf_61 ?_
    refine lv_aload_n hx hb dX1_wordOf_64 rfl (lv_at hl 1 rfl) ?_
    refine wcgR_8_0 S X mG_599 dX1_wordOf_65 ?_
    refine wcgR_3_1 S X mG_387 dX1_wordOf_68 ?_
    refine lv_iload_n hx hb dX1_wordOf_71 rfl (lv_at hl 2 rfl) ?_
    obtain ⟨hi72, hg⟩ := gd_some hg
    refine wclA_14 (v := (xA σ 14 a1)) S X hi72 rfl dX1_wordOf_72 ?_
    obtain ⟨hi73, hg⟩ := gd_some hg
    refine wclB_6 (v := (xB σ 6 (xA σ 14 a1))) S X hi73 rfl dX1_wordOf_73 ?_
    obtain ⟨rfl, rfl⟩ := fin_some hg
    exact gr_l S hr hk X dX1_wordOf_74
  · refine lv_tableIn (off := 70) (tgt := 89) hx hb dX1_wordOf_19 (by rw [hsw]; decide) (by rw [hsw]; decide) (by rw [hsw]; decide) (by decide) ?_
    have hg := (if_neg (by rw [hsw]; decide)).symm.trans hg
    have hg := (if_neg (by rw [hsw]; decide)).symm.trans hg
    have hg := (if_pos hsw).symm.trans hg
    refine lv_lconst (v := 0) hx hb dX1_wordOf_89 rfl ?_
    obtain ⟨rfl, rfl⟩ := fin_some hg
    exact gr_l S hr hk X dX1_wordOf_90
  · refine lv_tableIn (off := 72) (tgt := 91) hx hb dX1_wordOf_19 (by rw [hsw]; decide) (by rw [hsw]; decide) (by rw [hsw]; decide) (by decide) ?_
    have hg := (if_neg (by rw [hsw]; decide)).symm.trans hg
    have hg := (if_neg (by rw [hsw]; decide)).symm.trans hg
    have hg := (if_neg (by rw [hsw]; decide)).symm.trans hg
    have hg := (if_pos hsw).symm.trans hg
    refine lv_aload_n hx hb dX1_wordOf_91 rfl (lv_at hl 1 rfl) ?_
    refine lv_iload_n hx hb dX1_wordOf_92 rfl (lv_at hl 0 rfl) ?_
    obtain ⟨r93, τ93, hq93, hg⟩ := bd_some hg
    refine gc_Vl (As := [.int (xA σ 16 a1)]) (rest := []) (q0 := 8) (ci := 4) S X (hE _ _ _ _ hq93 H.size) cw_X1_wordOf mG_1575 rfl rfl rfl rfl rfl hl.1 (Nat.le_of_ble_eq_true rfl) dX1_wordOf_93 ⟨by omega, by omega⟩ (fun H locs X => ?_)
    refine lv_aload_n hx hb dX1_wordOf_96 rfl (lv_at hl 1 rfl) ?_
    refine lv_aload_n hx hb dX1_wordOf_97 rfl (lv_at hl 1 rfl) ?_
    refine wcgR_8_0 S X mG_599 dX1_wordOf_98 ?_
    refine wcgR_3_4 S X mG_402 dX1_wordOf_101 ?_
    refine lv_iload_n hx hb dX1_wordOf_104 rfl (lv_at hl 0 rfl) ?_
    obtain ⟨hi105, hg⟩ := gd_some hg
    refine wclA_17 (v := (xA τ93 17 (xA σ 16 a1))) S X hi105 rfl dX1_wordOf_105 ?_
    obtain ⟨r106, τ106, hq106, hg⟩ := bd_some hg
    refine gc_Vl (As := [.int (xA τ93 17 (xA σ 16 a1))]) (rest := [.long r93]) (q0 := 8) (ci := 4) S X (hE _ _ _ _ hq106 H.size) cw_X1_wordOf mG_1575 rfl rfl rfl rfl rfl hl.1 (Nat.le_of_ble_eq_true rfl) dX1_wordOf_106 ⟨by omega, by omega⟩ (fun H locs X => ?_)
    refine lv_land hx hb dX1_wordOf_109 ?_
    obtain ⟨rfl, rfl⟩ := fin_some hg
    exact gr_l S hr hk X dX1_wordOf_110
  · refine lv_tableIn (off := 92) (tgt := 111) hx hb dX1_wordOf_19 (by rw [hsw]; decide) (by rw [hsw]; decide) (by rw [hsw]; decide) (by decide) ?_
    have hg := (if_neg (by rw [hsw]; decide)).symm.trans hg
    have hg := (if_neg (by rw [hsw]; decide)).symm.trans hg
    have hg := (if_neg (by rw [hsw]; decide)).symm.trans hg
    have hg := (if_neg (by rw [hsw]; decide)).symm.trans hg
    have hg := (if_pos hsw).symm.trans hg
    refine lv_aload_n hx hb dX1_wordOf_111 rfl (lv_at hl 1 rfl) ?_
    refine lv_iload_n hx hb dX1_wordOf_112 rfl (lv_at hl 0 rfl) ?_
    obtain ⟨r113, τ113, hq113, hg⟩ := bd_some hg
    refine gc_Vl (As := [.int (xA σ 16 a1)]) (rest := []) (q0 := 8) (ci := 4) S X (hE _ _ _ _ hq113 H.size) cw_X1_wordOf mG_1575 rfl rfl rfl rfl rfl hl.1 (Nat.le_of_ble_eq_true rfl) dX1_wordOf_113 ⟨by omega, by omega⟩ (fun H locs X => ?_)
    refine lv_aload_n hx hb dX1_wordOf_116 rfl (lv_at hl 1 rfl) ?_
    refine lv_aload_n hx hb dX1_wordOf_117 rfl (lv_at hl 1 rfl) ?_
    refine wcgR_8_0 S X mG_599 dX1_wordOf_118 ?_
    refine wcgR_3_4 S X mG_402 dX1_wordOf_121 ?_
    refine lv_iload_n hx hb dX1_wordOf_124 rfl (lv_at hl 0 rfl) ?_
    obtain ⟨hi125, hg⟩ := gd_some hg
    refine wclA_17 (v := (xA τ113 17 (xA σ 16 a1))) S X hi125 rfl dX1_wordOf_125 ?_
    obtain ⟨r126, τ126, hq126, hg⟩ := bd_some hg
    refine gc_Vl (As := [.int (xA τ113 17 (xA σ 16 a1))]) (rest := [.long r113]) (q0 := 8) (ci := 4) S X (k2_X1_wordOfAlternatives l dC dI ad kc sv hE hq126 H.size) cw_X1_wordOfAlternatives mG_1584 rfl rfl rfl rfl rfl hl.1 (Nat.le_of_ble_eq_true rfl) dX1_wordOf_126 ⟨by omega, by omega⟩ (fun H locs X => ?_)
    refine lv_land hx hb dX1_wordOf_129 ?_
    obtain ⟨rfl, rfl⟩ := fin_some hg
    exact gr_l S hr hk X dX1_wordOf_130
  · refine lv_tableIn (off := 112) (tgt := 131) hx hb dX1_wordOf_19 (by rw [hsw]; decide) (by rw [hsw]; decide) (by rw [hsw]; decide) (by decide) ?_
    have hg := (if_neg (by rw [hsw]; decide)).symm.trans hg
    have hg := (if_neg (by rw [hsw]; decide)).symm.trans hg
    have hg := (if_neg (by rw [hsw]; decide)).symm.trans hg
    have hg := (if_neg (by rw [hsw]; decide)).symm.trans hg
    have hg := (if_neg (by rw [hsw]; decide)).symm.trans hg
    have hg := (if_pos hsw).symm.trans hg
    refine lv_aload_n hx hb dX1_wordOf_131 rfl (lv_at hl 1 rfl) ?_
    refine lv_iload_n hx hb dX1_wordOf_132 rfl (lv_at hl 0 rfl) ?_
    obtain ⟨r133, τ133, hq133, hg⟩ := bd_some hg
    refine gc_Vl (As := [.int (xA σ 16 a1)]) (rest := []) (q0 := 8) (ci := 4) S X (k2_X1_wordOfLet l dC dI ad kc sv hE hq133 H.size) cw_X1_wordOfLet mG_1588 rfl rfl rfl rfl rfl hl.1 (Nat.le_of_ble_eq_true rfl) dX1_wordOf_133 ⟨by omega, by omega⟩ (fun H locs X => ?_)
    obtain ⟨rfl, rfl⟩ := fin_some hg
    exact gr_l S hr hk X dX1_wordOf_136
  · refine lv_tableIn (off := 118) (tgt := 137) hx hb dX1_wordOf_19 (by rw [hsw]; decide) (by rw [hsw]; decide) (by rw [hsw]; decide) (by decide) ?_
    have hg := (if_neg (by rw [hsw]; decide)).symm.trans hg
    have hg := (if_neg (by rw [hsw]; decide)).symm.trans hg
    have hg := (if_neg (by rw [hsw]; decide)).symm.trans hg
    have hg := (if_neg (by rw [hsw]; decide)).symm.trans hg
    have hg := (if_neg (by rw [hsw]; decide)).symm.trans hg
    have hg := (if_neg (by rw [hsw]; decide)).symm.trans hg
    have hg := (if_pos hsw).symm.trans hg
    refine lv_aload_n hx hb dX1_wordOf_137 rfl (lv_at hl 1 rfl) ?_
    refine lv_iload_n hx hb dX1_wordOf_138 rfl (lv_at hl 2 rfl) ?_
    obtain ⟨r139, τ139, hq139, hg⟩ := bd_some hg
    refine gc_Vl (As := [.int a1]) (rest := []) (q0 := 8) (ci := 4) S X (k2_X1_wordOfApplication l dC dI ad kc sv hE hq139 H.size) cw_X1_wordOfApplication mG_1592 rfl rfl rfl rfl rfl hl.1 (Nat.le_of_ble_eq_true rfl) dX1_wordOf_139 ⟨by omega, by omega⟩ (fun H locs X => ?_)
    obtain ⟨rfl, rfl⟩ := fin_some hg
    exact gr_l S hr hk X dX1_wordOf_142
end MX1_wordOf
set_option maxRecDepth 100000 in
theorem k2_X1_wordOf (l : Launch) (dC : Nat → ClassId) (dI : Nat → Nat → Nat) {ak : Nat → Nat} (ad : Nat → Nat) (kc : Nat → ClassId) (sv : Value) {E : Int32 → S5 → Option (Int64 × S5)} {fE lE : Nat} {σ τ : S5} {a1 : Int32} {r : Int64} (hE : ∀ (a0 : Int32) (σ τ : S5) (r : Int64), E a0 σ = some (r, τ) → ∀ sz : Nat, Met l yX1_wordOf (Cond.code yX1_wordOf cX1_wordOf 3 (some .long) :: uG) { frames := fE, cells := 0, slots := 0, locals := lE } (gPc (dC, dI) (tC kc) (wC ad kc sv) (zC ak) [.ref (ad 8), .int a0] σ sz) (gQl (dC, dI) (tC kc) (wC ad kc sv) (va_A (wC ad kc sv σ) sz) r τ) 0 0 (va_A (wC ad kc sv σ) sz)) (hg : f_X1_wordOf E a1 σ = some (r, τ)) (sz : Nat) : Met l yX1_wordOf (Cond.code yX1_wordOf cX1_wordOf 3 (some .long) :: uG) { frames := fE + 3, cells := 0, slots := 0, locals := lE + 78 } (gPc (dC, dI) (tC kc) (wC ad kc sv) (zC ak) [.ref (ad 8), .int a1] σ sz) (gQl (dC, dI) (tC kc) (wC ad kc sv) (va_A (wC ad kc sv σ) sz) r τ) 0 0 (va_A (wC ad kc sv σ) sz) :=
  g_start (by decide) (Nat.le_of_ble_eq_true rfl) (fun p e s m below meth c ls S hr hk X hl => w_X1_wordOf S hr hk ⟨Nat.le_refl _, Nat.le_refl _⟩ hE X hl hg)
section MX1_settle
variable {p : Program} {l : Launch} {e : Env} {R : Room} {s : State} {m : MethodId} {args : Array Value} {below : List Frame} {meth : Method} {c : Code} {dC : Nat → ClassId} {dI : Nat → Nat → Nat} {ak : Nat → Nat} {A : Nat → Prop} {ad : Nat → Nat} {kc : Nat → ClassId} {sv : Value} {r : Int64} {τ : S5} {fE lE : Nat}
set_option maxHeartbeats 4000000 in
set_option maxRecDepth 100000 in
theorem w_X1_settle_b66 {σ : S5} {E : Int32 → S5 → Option (Int64 × S5)} {v4 : Int64} {H : Heap} {locs : List Loc} {ls : Array Slot} (S : CallFix p m c cX1_settle 7 s args uG RX1) (hr : meth.sig.returnType = (some .long)) (hk : meth.locks = false) (hR : fE + 1 ≤ R.frames ∧ lE + 22 ≤ R.locals)
    (hE : ∀ (a0 : Int32) (σ τ : S5) (r : Int64), E a0 σ = some (r, τ) → ∀ sz : Nat, Met l yX1_wordOf (Cond.code yX1_wordOf cX1_wordOf 3 (some .long) :: uG) { frames := fE, cells := 0, slots := 0, locals := lE } (gPc (dC, dI) (tC kc) (wC ad kc sv) (zC ak) [.ref (ad 8), .int a0] σ sz) (gQl (dC, dI) (tC kc) (wC ad kc sv) (va_A (wC ad kc sv σ) sz) r τ) 0 0 (va_A (wC ad kc sv σ) sz))
    (X : gX (dC, dI) (tC kc) (wC ad kc sv) (zC ak) A s σ H locs) (hl : lv_has ls 7 [(0, .ref (ad 8)), (4, .long v4)]) (hg : f_X1_settle_b66 E v4 σ = some (r, τ)) : W p l e R s m args below meth c H locs 0 0 (MQ below (gQl (dC, dI) (tC kc) (wC ad kc sv) A r τ) args s 0 0 A) (F0 m 66 ls []) := by
  have hx := S.1
  have hb := S.2.1
  have hown := S.2.2.2.1
  have hu := S.2.2.2.2
  unfold f_X1_settle_b66 at hg
  refine lv_aload_n hx hb dX1_settle_66 rfl (lv_at hl 0 rfl) ?_
  refine wcgI_23 (v := (gI σ 23)) S X mG_605 rfl dX1_settle_67 ?_
  refine lv_bipush (v := 64) hx hb dX1_settle_70 (by decide) ?_
  refine lv_icmp_ne (tgt := 80) hx hb dX1_settle_72 (by decide) (fun c72 => ?_) (fun c72 => ?_)
  · have hg := (if_neg c72).symm.trans hg
    refine lv_lload hx hb dX1_settle_80 (lv_at hl 1 rfl) ?_
    refine lv_lconst (v := 1) hx hb dX1_settle_82 rfl ?_
    refine lv_aload_n hx hb dX1_settle_83 rfl (lv_at hl 0 rfl) ?_
    refine wcgI_23 (v := (gI σ 23)) S X mG_605 rfl dX1_settle_84 ?_
    refine lv_lshl (v := (j_lshl 1 (gI σ 23))) hx hb dX1_settle_87 rfl ?_
    refine lv_lconst (v := 1) hx hb dX1_settle_88 rfl ?_
    refine lv_lsub hx hb dX1_settle_89 ?_
    refine lv_land hx hb dX1_settle_90 ?_
    obtain ⟨rfl, rfl⟩ := fin_some hg
    exact gr_l S hr hk X dX1_settle_91
  · have hg := (if_pos c72).symm.trans hg
    refine lv_lload hx hb dX1_settle_75 (lv_at hl 1 rfl) ?_
    refine lv_goto (tgt := 91) hx hb dX1_settle_77 (by decide) ?_
    obtain ⟨rfl, rfl⟩ := fin_some hg
    exact gr_l S hr hk X dX1_settle_91
set_option maxHeartbeats 4000000 in
set_option maxRecDepth 100000 in
theorem w_X1_settle_B34 {σ : S5} {E : Int32 → S5 → Option (Int64 × S5)} {rec34 : Int32 → Int64 → Int32 → S5 → Option (Int64 × S5)} {v1 : Int32} {v4 : Int64} {v6 : Int32} {H : Heap} {locs : List Loc} {ls : Array Slot} (S : CallFix p m c cX1_settle 7 s args uG RX1) (hr : meth.sig.returnType = (some .long)) (hk : meth.locks = false) (hR : fE + 1 ≤ R.frames ∧ lE + 22 ≤ R.locals)
    (hE : ∀ (a0 : Int32) (σ τ : S5) (r : Int64), E a0 σ = some (r, τ) → ∀ sz : Nat, Met l yX1_wordOf (Cond.code yX1_wordOf cX1_wordOf 3 (some .long) :: uG) { frames := fE, cells := 0, slots := 0, locals := lE } (gPc (dC, dI) (tC kc) (wC ad kc sv) (zC ak) [.ref (ad 8), .int a0] σ sz) (gQl (dC, dI) (tC kc) (wC ad kc sv) (va_A (wC ad kc sv σ) sz) r τ) 0 0 (va_A (wC ad kc sv σ) sz))
    (hrec34 : ∀ (v1 : Int32) (v4 : Int64) (v6 : Int32) (σ : S5) (H : Heap) (locs : List Loc) (ls : Array Slot), gX (dC, dI) (tC kc) (wC ad kc sv) (zC ak) A s σ H locs → lv_has ls 7 [(0, .ref (ad 8)), (1, .int v1), (4, .long v4), (6, .int v6)] → rec34 v1 v4 v6 σ = some (r, τ) → W p l e R s m args below meth c H locs 0 0 (MQ below (gQl (dC, dI) (tC kc) (wC ad kc sv) A r τ) args s 0 0 A) (F0 m 34 ls []))
    (X : gX (dC, dI) (tC kc) (wC ad kc sv) (zC ak) A s σ H locs) (hl : lv_has ls 7 [(0, .ref (ad 8)), (1, .int v1), (4, .long v4), (6, .int v6)]) (hg : f_X1_settle_B34 E rec34 v1 v4 v6 σ = some (r, τ)) : W p l e R s m args below meth c H locs 0 0 (MQ below (gQl (dC, dI) (tC kc) (wC ad kc sv) A r τ) args s 0 0 A) (F0 m 34 ls []) := by
  have hx := S.1
  have hb := S.2.1
  have hown := S.2.2.2.1
  have hu := S.2.2.2.2
  unfold f_X1_settle_B34 at hg
  refine lv_iload hx hb dX1_settle_34 (lv_at hl 3 rfl) ?_
  refine lv_ldc (own := RX1) (v := 100000) hx hb hown (hu _ mG_1574) dX1_settle_36 ?_
  refine lv_icmp_ge (tgt := 66) hx hb dX1_settle_38 (by decide) (fun c38 => ?_) (fun c38 => ?_)
  · have hg := (if_pos c38).symm.trans hg
    exact w_X1_settle_b66 S hr hk hR hE X (lv_sub hl [0, 2] rfl) hg
  · have hg := (if_neg c38).symm.trans hg
    refine lv_aload_n hx hb dX1_settle_41 rfl (lv_at hl 0 rfl) ?_
    refine wcgI_24 (v := (gI σ 24)) S X mG_606 rfl dX1_settle_42 ?_
    refine lv_if_eq (tgt := 66) hx hb dX1_settle_45 (by decide) (fun c45 => ?_) (fun c45 => ?_)
    · have hg := (if_pos c45).symm.trans hg
      exact w_X1_settle_b66 S hr hk hR hE X (lv_sub hl [0, 2] rfl) hg
    · have hg := (if_neg c45).symm.trans hg
      refine lv_aload_n hx hb dX1_settle_48 rfl (lv_at hl 0 rfl) ?_
      refine lv_iconst (v := 0) hx hb dX1_settle_49 (by decide) ?_
      refine wcpI_24 S X mG_606 (Or.inl rfl) dX1_settle_50 (fun H locs X => ?_)
      refine lv_aload_n hx hb dX1_settle_53 rfl (lv_at hl 0 rfl) ?_
      refine lv_iload_n hx hb dX1_settle_54 rfl (lv_at hl 1 rfl) ?_
      obtain ⟨r55, τ55, hq55, hg⟩ := bd_some hg
      refine gc_Vl (As := [.int v1]) (rest := []) (q0 := 8) (ci := 4) S X (hE _ _ _ _ hq55 H.size) cw_X1_wordOf mG_1575 rfl rfl rfl rfl rfl hl.1 (Nat.le_of_ble_eq_true rfl) dX1_settle_55 ⟨by omega, by omega⟩ (fun H locs X => ?_)
      refine lv_lstore (lv' := [(4, .long r55), (0, .ref (ad 8)), (1, .int v1), (6, .int v6)]) hx hb dX1_settle_58 hl (by decide) rfl (fun ls hl => ?_)
      refine lv_iinc (v := (v6 + 1)) (lv' := [(6, .int (v6 + 1)), (4, .long r55), (0, .ref (ad 8)), (1, .int v1)]) hx hb dX1_settle_60 hl (k := 3) rfl (by rfl) (by decide) rfl (fun ls hl => ?_)
      refine lv_goto (tgt := 34) hx hb dX1_settle_63 (by decide) ?_
      exact hrec34 _ _ _ _ _ _ _ X (lv_sub hl [2, 3, 1, 0] rfl) hg
set_option maxHeartbeats 4000000 in
set_option maxRecDepth 100000 in
theorem w_X1_settle_L34 {E : Int32 → S5 → Option (Int64 × S5)} (S : CallFix p m c cX1_settle 7 s args uG RX1) (hr : meth.sig.returnType = (some .long)) (hk : meth.locks = false) (hR : fE + 1 ≤ R.frames ∧ lE + 22 ≤ R.locals)
    (hE : ∀ (a0 : Int32) (σ τ : S5) (r : Int64), E a0 σ = some (r, τ) → ∀ sz : Nat, Met l yX1_wordOf (Cond.code yX1_wordOf cX1_wordOf 3 (some .long) :: uG) { frames := fE, cells := 0, slots := 0, locals := lE } (gPc (dC, dI) (tC kc) (wC ad kc sv) (zC ak) [.ref (ad 8), .int a0] σ sz) (gQl (dC, dI) (tC kc) (wC ad kc sv) (va_A (wC ad kc sv σ) sz) r τ) 0 0 (va_A (wC ad kc sv σ) sz)) : ∀ (n : Nat) (v1 : Int32) (v4 : Int64) (v6 : Int32) (σ : S5) (H : Heap) (locs : List Loc) (ls : Array Slot), gX (dC, dI) (tC kc) (wC ad kc sv) (zC ak) A s σ H locs → lv_has ls 7 [(0, .ref (ad 8)), (1, .int v1), (4, .long v4), (6, .int v6)] → f_X1_settle_L34 E n v1 v4 v6 σ = some (r, τ) → W p l e R s m args below meth c H locs 0 0 (MQ below (gQl (dC, dI) (tC kc) (wC ad kc sv) A r τ) args s 0 0 A) (F0 m 34 ls []) := by
  intro n
  induction n with
  | zero => intro v1 v4 v6 σ H locs ls X hl hg; cases hg
  | succ n ih => intro v1 v4 v6 σ H locs ls X hl hg; exact w_X1_settle_B34 S hr hk hR hE ih X hl hg
set_option maxHeartbeats 4000000 in
set_option maxRecDepth 100000 in
theorem w_X1_settle_B3 {σ : S5} {E : Int32 → S5 → Option (Int64 × S5)} {rec3 : Int32 → Int32 → Int32 → S5 → Option (Int64 × S5)} {v1 : Int32} {v3 : Int32} {v4 : Int32} {H : Heap} {locs : List Loc} {ls : Array Slot} (S : CallFix p m c cX1_settle 7 s args uG RX1) (hr : meth.sig.returnType = (some .long)) (hk : meth.locks = false) (hR : fE + 1 ≤ R.frames ∧ lE + 22 ≤ R.locals)
    (hE : ∀ (a0 : Int32) (σ τ : S5) (r : Int64), E a0 σ = some (r, τ) → ∀ sz : Nat, Met l yX1_wordOf (Cond.code yX1_wordOf cX1_wordOf 3 (some .long) :: uG) { frames := fE, cells := 0, slots := 0, locals := lE } (gPc (dC, dI) (tC kc) (wC ad kc sv) (zC ak) [.ref (ad 8), .int a0] σ sz) (gQl (dC, dI) (tC kc) (wC ad kc sv) (va_A (wC ad kc sv σ) sz) r τ) 0 0 (va_A (wC ad kc sv σ) sz))
    (hrec3 : ∀ (v1 : Int32) (v3 : Int32) (v4 : Int32) (σ : S5) (H : Heap) (locs : List Loc) (ls : Array Slot), gX (dC, dI) (tC kc) (wC ad kc sv) (zC ak) A s σ H locs → lv_has ls 7 [(0, .ref (ad 8)), (1, .int v1), (3, .int v3), (4, .int v4)] → rec3 v1 v3 v4 σ = some (r, τ) → W p l e R s m args below meth c H locs 0 0 (MQ below (gQl (dC, dI) (tC kc) (wC ad kc sv) A r τ) args s 0 0 A) (F0 m 3 ls []))
    (X : gX (dC, dI) (tC kc) (wC ad kc sv) (zC ak) A s σ H locs) (hl : lv_has ls 7 [(0, .ref (ad 8)), (1, .int v1), (3, .int v3), (4, .int v4)]) (hg : f_X1_settle_B3 E rec3 v1 v3 v4 σ = some (r, τ)) : W p l e R s m args below meth c H locs 0 0 (MQ below (gQl (dC, dI) (tC kc) (wC ad kc sv) A r τ) args s 0 0 A) (F0 m 3 ls []) := by
  have hx := S.1
  have hb := S.2.1
  have hown := S.2.2.2.1
  have hu := S.2.2.2.2
  unfold f_X1_settle_B3 at hg
  refine lv_iload hx hb dX1_settle_3 (lv_at hl 3 rfl) ?_
  refine lv_iload_n hx hb dX1_settle_5 rfl (lv_at hl 2 rfl) ?_
  refine lv_icmp_ge (tgt := 23) hx hb dX1_settle_6 (by decide) (fun c6 => ?_) (fun c6 => ?_)
  · have hg := (if_pos c6).symm.trans hg
    refine lv_lconst (v := 0) hx hb dX1_settle_23 rfl ?_
    refine lv_lstore (lv' := [(4, .long 0), (0, .ref (ad 8)), (1, .int v1), (3, .int v3)]) hx hb dX1_settle_24 hl (by decide) rfl (fun ls hl => ?_)
    refine lv_aload_n hx hb dX1_settle_26 rfl (lv_at hl 1 rfl) ?_
    refine lv_iconst (v := 1) hx hb dX1_settle_27 (by decide) ?_
    refine wcpI_24 S X mG_606 (Or.inr rfl) dX1_settle_28 (fun H locs X => ?_)
    refine lv_iconst (v := 0) hx hb dX1_settle_31 (by decide) ?_
    refine lv_istore (lv' := [(6, .int 0), (4, .long 0), (0, .ref (ad 8)), (1, .int v1), (3, .int v3)]) hx hb dX1_settle_32 hl (by decide) rfl (fun ls hl => ?_)
    exact w_X1_settle_L34 S hr hk hR hE _ _ _ _ _ _ _ _ X (lv_sub hl [2, 3, 1, 0] rfl) hg
  · have hg := (if_neg c6).symm.trans hg
    refine lv_aload_n hx hb dX1_settle_9 rfl (lv_at hl 0 rfl) ?_
    refine wcgR_8_3 S X mG_602 dX1_settle_10 ?_
    refine lv_iload hx hb dX1_settle_13 (lv_at hl 3 rfl) ?_
    refine lv_lconst (v := 0) hx hb dX1_settle_15 rfl ?_
    obtain ⟨hi16, hg⟩ := gd_some hg
    refine wcsB_6 S X hi16 dX1_settle_16 (fun H locs X => ?_)
    refine lv_iinc (v := (v4 + 1)) (lv' := [(4, .int (v4 + 1)), (0, .ref (ad 8)), (1, .int v1), (3, .int v3)]) hx hb dX1_settle_17 hl (k := 3) rfl (by rfl) (by decide) rfl (fun ls hl => ?_)
    refine lv_goto (tgt := 3) hx hb dX1_settle_20 (by decide) ?_
    exact hrec3 _ _ _ _ _ _ _ X (lv_sub hl [1, 2, 3, 0] rfl) hg
set_option maxHeartbeats 4000000 in
set_option maxRecDepth 100000 in
theorem w_X1_settle_L3 {E : Int32 → S5 → Option (Int64 × S5)} (S : CallFix p m c cX1_settle 7 s args uG RX1) (hr : meth.sig.returnType = (some .long)) (hk : meth.locks = false) (hR : fE + 1 ≤ R.frames ∧ lE + 22 ≤ R.locals)
    (hE : ∀ (a0 : Int32) (σ τ : S5) (r : Int64), E a0 σ = some (r, τ) → ∀ sz : Nat, Met l yX1_wordOf (Cond.code yX1_wordOf cX1_wordOf 3 (some .long) :: uG) { frames := fE, cells := 0, slots := 0, locals := lE } (gPc (dC, dI) (tC kc) (wC ad kc sv) (zC ak) [.ref (ad 8), .int a0] σ sz) (gQl (dC, dI) (tC kc) (wC ad kc sv) (va_A (wC ad kc sv σ) sz) r τ) 0 0 (va_A (wC ad kc sv σ) sz)) : ∀ (n : Nat) (v1 : Int32) (v3 : Int32) (v4 : Int32) (σ : S5) (H : Heap) (locs : List Loc) (ls : Array Slot), gX (dC, dI) (tC kc) (wC ad kc sv) (zC ak) A s σ H locs → lv_has ls 7 [(0, .ref (ad 8)), (1, .int v1), (3, .int v3), (4, .int v4)] → f_X1_settle_L3 E n v1 v3 v4 σ = some (r, τ) → W p l e R s m args below meth c H locs 0 0 (MQ below (gQl (dC, dI) (tC kc) (wC ad kc sv) A r τ) args s 0 0 A) (F0 m 3 ls []) := by
  intro n
  induction n with
  | zero => intro v1 v3 v4 σ H locs ls X hl hg; cases hg
  | succ n ih => intro v1 v3 v4 σ H locs ls X hl hg; exact w_X1_settle_B3 S hr hk hR hE ih X hl hg
set_option maxHeartbeats 4000000 in
set_option maxRecDepth 100000 in
theorem w_X1_settle {σ : S5} {E : Int32 → S5 → Option (Int64 × S5)} {a1 : Int32} {a2 : Int32} {a3 : Int32} {H : Heap} {locs : List Loc} {ls : Array Slot} (S : CallFix p m c cX1_settle 7 s args uG RX1) (hr : meth.sig.returnType = (some .long)) (hk : meth.locks = false) (hR : fE + 1 ≤ R.frames ∧ lE + 22 ≤ R.locals)
    (hE : ∀ (a0 : Int32) (σ τ : S5) (r : Int64), E a0 σ = some (r, τ) → ∀ sz : Nat, Met l yX1_wordOf (Cond.code yX1_wordOf cX1_wordOf 3 (some .long) :: uG) { frames := fE, cells := 0, slots := 0, locals := lE } (gPc (dC, dI) (tC kc) (wC ad kc sv) (zC ak) [.ref (ad 8), .int a0] σ sz) (gQl (dC, dI) (tC kc) (wC ad kc sv) (va_A (wC ad kc sv σ) sz) r τ) 0 0 (va_A (wC ad kc sv σ) sz))
    (X : gX (dC, dI) (tC kc) (wC ad kc sv) (zC ak) A s σ H locs) (hl : lv_has ls 7 [(0, .ref (ad 8)), (1, .int a1), (2, .int a2), (3, .int a3)]) (hg : f_X1_settle E a1 a2 a3 σ = some (r, τ)) : W p l e R s m args below meth c H locs 0 0 (MQ below (gQl (dC, dI) (tC kc) (wC ad kc sv) A r τ) args s 0 0 A) (F0 m 0 ls []) := by
  have hx := S.1
  have hb := S.2.1
  have hown := S.2.2.2.1
  have hu := S.2.2.2.2
  unfold f_X1_settle at hg
  refine lv_iload_n hx hb dX1_settle_0 rfl (lv_at hl 2 rfl) ?_
  refine lv_istore (lv' := [(4, .int a2), (0, .ref (ad 8)), (1, .int a1), (2, .int a2), (3, .int a3)]) hx hb dX1_settle_1 hl (by decide) rfl (fun ls hl => ?_)
  exact w_X1_settle_L3 S hr hk hR hE _ _ _ _ _ _ _ _ X (lv_sub hl [1, 2, 4, 0] rfl) hg
end MX1_settle
set_option maxRecDepth 100000 in
theorem k2_X1_settle (l : Launch) (dC : Nat → ClassId) (dI : Nat → Nat → Nat) {ak : Nat → Nat} (ad : Nat → Nat) (kc : Nat → ClassId) (sv : Value) {E : Int32 → S5 → Option (Int64 × S5)} {fE lE : Nat} {σ τ : S5} {a1 : Int32} {a2 : Int32} {a3 : Int32} {r : Int64} (hE : ∀ (a0 : Int32) (σ τ : S5) (r : Int64), E a0 σ = some (r, τ) → ∀ sz : Nat, Met l yX1_wordOf (Cond.code yX1_wordOf cX1_wordOf 3 (some .long) :: uG) { frames := fE, cells := 0, slots := 0, locals := lE } (gPc (dC, dI) (tC kc) (wC ad kc sv) (zC ak) [.ref (ad 8), .int a0] σ sz) (gQl (dC, dI) (tC kc) (wC ad kc sv) (va_A (wC ad kc sv σ) sz) r τ) 0 0 (va_A (wC ad kc sv σ) sz)) (hg : f_X1_settle E a1 a2 a3 σ = some (r, τ)) (sz : Nat) : Met l yX1_settle (Cond.code yX1_settle cX1_settle 7 (some .long) :: uG) { frames := fE + 1, cells := 0, slots := 0, locals := lE + 22 } (gPc (dC, dI) (tC kc) (wC ad kc sv) (zC ak) [.ref (ad 8), .int a1, .int a2, .int a3] σ sz) (gQl (dC, dI) (tC kc) (wC ad kc sv) (va_A (wC ad kc sv σ) sz) r τ) 0 0 (va_A (wC ad kc sv σ) sz) :=
  g_start (by decide) (Nat.le_of_ble_eq_true rfl) (fun p e s m below meth c ls S hr hk X hl => w_X1_settle S hr hk ⟨Nat.le_refl _, Nat.le_refl _⟩ hE X hl hg)
section MX1_improve
variable {p : Program} {l : Launch} {e : Env} {R : Room} {s : State} {m : MethodId} {args : Array Value} {below : List Frame} {meth : Method} {c : Code} {dC : Nat → ClassId} {dI : Nat → Nat → Nat} {ak : Nat → Nat} {A : Nat → Prop} {ad : Nat → Nat} {kc : Nat → ClassId} {sv : Value} {r : Int32} {τ : S5} {fE lE : Nat}
set_option maxHeartbeats 4000000 in
set_option maxRecDepth 100000 in
theorem w_X1_improve_b156 {σ : S5} {E : Int32 → S5 → Option (Int64 × S5)} {rec51 : Int32 → Int32 → Int32 → Int32 → Int32 → S5 → Option (Int32 × S5)} {v1 : Int32} {v2 : Int32} {v3 : Int32} {v5 : Int32} {v6 : Int64} {u0 : Int32} {u1 : Int32} {H : Heap} {locs : List Loc} {ls : Array Slot} (S : CallFix p m c cX1_improve 8 s args uG RX1) (hr : meth.sig.returnType = (some .boolean)) (hk : meth.locks = false) (hR : fE + 2 ≤ R.frames ∧ lE + 48 ≤ R.locals)
    (hE : ∀ (a0 : Int32) (σ τ : S5) (r : Int64), E a0 σ = some (r, τ) → ∀ sz : Nat, Met l yX1_wordOf (Cond.code yX1_wordOf cX1_wordOf 3 (some .long) :: uG) { frames := fE, cells := 0, slots := 0, locals := lE } (gPc (dC, dI) (tC kc) (wC ad kc sv) (zC ak) [.ref (ad 8), .int a0] σ sz) (gQl (dC, dI) (tC kc) (wC ad kc sv) (va_A (wC ad kc sv σ) sz) r τ) 0 0 (va_A (wC ad kc sv σ) sz))
    (hrec51 : ∀ (v1 : Int32) (v2 : Int32) (v3 : Int32) (v4 : Int32) (v5 : Int32) (σ : S5) (H : Heap) (locs : List Loc) (ls : Array Slot), gX (dC, dI) (tC kc) (wC ad kc sv) (zC ak) A s σ H locs → lv_has ls 8 [(0, .ref (ad 8)), (1, .int v1), (2, .int v2), (3, .int v3), (4, .int v4), (5, .int v5)] → rec51 v1 v2 v3 v4 v5 σ = some (r, τ) → W p l e R s m args below meth c H locs 0 0 (MQ below (gQi (dC, dI) (tC kc) (wC ad kc sv) A r τ) args s 0 0 A) (F0 m 51 ls []))
    (X : gX (dC, dI) (tC kc) (wC ad kc sv) (zC ak) A s σ H locs) (hl : lv_has ls 8 [(0, .ref (ad 8)), (1, .int v1), (2, .int v2), (3, .int v3), (5, .int v5), (6, .long v6)]) (hg : f_X1_improve_b156 E rec51 v1 v2 v3 v5 v6 u0 u1 σ = some (r, τ)) : W p l e R s m args below meth c H locs 0 0 (MQ below (gQi (dC, dI) (tC kc) (wC ad kc sv) A r τ) args s 0 0 A) (F0 m 156 ls [.int u0, .int u1]) := by
  have hx := S.1
  have hb := S.2.1
  have hown := S.2.2.2.1
  have hu := S.2.2.2.2
  unfold f_X1_improve_b156 at hg
  refine lv_ior hx hb dX1_improve_156 ?_
  refine lv_istore (lv' := [(4, .int (u1 ||| u0)), (0, .ref (ad 8)), (1, .int v1), (2, .int v2), (3, .int v3), (5, .int v5), (6, .long v6)]) hx hb dX1_improve_157 hl (by decide) rfl (fun ls hl => ?_)
  refine lv_aload_n hx hb dX1_improve_159 rfl (lv_at hl 1 rfl) ?_
  refine wcgR_8_2 S X mG_601 dX1_improve_160 ?_
  refine lv_iload_n hx hb dX1_improve_163 rfl (lv_at hl 2 rfl) ?_
  refine lv_iconst (v := 4) hx hb dX1_improve_164 (by decide) ?_
  refine lv_imul hx hb dX1_improve_165 ?_
  refine lv_iload hx hb dX1_improve_166 (lv_at hl 5 rfl) ?_
  refine lv_iadd hx hb dX1_improve_168 ?_
  refine lv_lload hx hb dX1_improve_169 (lv_at hl 6 rfl) ?_
  obtain ⟨hi171, hg⟩ := gd_some hg
  refine wcsB_5 S X hi171 dX1_improve_171 (fun H locs X => ?_)
  refine lv_iinc (v := (v5 + 1)) (lv' := [(5, .int (v5 + 1)), (4, .int (u1 ||| u0)), (0, .ref (ad 8)), (1, .int v1), (2, .int v2), (3, .int v3), (6, .long v6)]) hx hb dX1_improve_172 hl (k := 5) rfl (by rfl) (by decide) rfl (fun ls hl => ?_)
  refine lv_goto (tgt := 51) hx hb dX1_improve_175 (by decide) ?_
  exact hrec51 _ _ _ _ _ _ _ _ _ X (lv_sub hl [2, 3, 4, 5, 1, 0] rfl) hg
set_option maxHeartbeats 4000000 in
set_option maxRecDepth 100000 in
theorem w_X1_improve_b100 {σ : S5} {E : Int32 → S5 → Option (Int64 × S5)} {rec51 : Int32 → Int32 → Int32 → Int32 → Int32 → S5 → Option (Int32 × S5)} {rec60 : Int32 → Int32 → Int32 → Int32 → Int32 → Int32 → S5 → Option (Int32 × S5)} {v1 : Int32} {v2 : Int32} {v3 : Int32} {v4 : Int32} {v5 : Int32} {v6 : Int32} {u0 : Int64} {u1 : Int32} {H : Heap} {locs : List Loc} {ls : Array Slot} (S : CallFix p m c cX1_improve 8 s args uG RX1) (hr : meth.sig.returnType = (some .boolean)) (hk : meth.locks = false) (hR : fE + 2 ≤ R.frames ∧ lE + 48 ≤ R.locals)
    (hE : ∀ (a0 : Int32) (σ τ : S5) (r : Int64), E a0 σ = some (r, τ) → ∀ sz : Nat, Met l yX1_wordOf (Cond.code yX1_wordOf cX1_wordOf 3 (some .long) :: uG) { frames := fE, cells := 0, slots := 0, locals := lE } (gPc (dC, dI) (tC kc) (wC ad kc sv) (zC ak) [.ref (ad 8), .int a0] σ sz) (gQl (dC, dI) (tC kc) (wC ad kc sv) (va_A (wC ad kc sv σ) sz) r τ) 0 0 (va_A (wC ad kc sv σ) sz))
    (hrec51 : ∀ (v1 : Int32) (v2 : Int32) (v3 : Int32) (v4 : Int32) (v5 : Int32) (σ : S5) (H : Heap) (locs : List Loc) (ls : Array Slot), gX (dC, dI) (tC kc) (wC ad kc sv) (zC ak) A s σ H locs → lv_has ls 8 [(0, .ref (ad 8)), (1, .int v1), (2, .int v2), (3, .int v3), (4, .int v4), (5, .int v5)] → rec51 v1 v2 v3 v4 v5 σ = some (r, τ) → W p l e R s m args below meth c H locs 0 0 (MQ below (gQi (dC, dI) (tC kc) (wC ad kc sv) A r τ) args s 0 0 A) (F0 m 51 ls []))
    (hrec60 : ∀ (v1 : Int32) (v2 : Int32) (v3 : Int32) (v4 : Int32) (v5 : Int32) (v6 : Int32) (σ : S5) (H : Heap) (locs : List Loc) (ls : Array Slot), gX (dC, dI) (tC kc) (wC ad kc sv) (zC ak) A s σ H locs → lv_has ls 8 [(0, .ref (ad 8)), (1, .int v1), (2, .int v2), (3, .int v3), (4, .int v4), (5, .int v5), (6, .int v6)] → rec60 v1 v2 v3 v4 v5 v6 σ = some (r, τ) → W p l e R s m args below meth c H locs 0 0 (MQ below (gQi (dC, dI) (tC kc) (wC ad kc sv) A r τ) args s 0 0 A) (F0 m 60 ls []))
    (X : gX (dC, dI) (tC kc) (wC ad kc sv) (zC ak) A s σ H locs) (hl : lv_has ls 8 [(0, .ref (ad 8)), (1, .int v1), (2, .int v2), (3, .int v3), (4, .int v4), (5, .int v5), (6, .int v6)]) (hg : f_X1_improve_b100 E rec51 rec60 v1 v2 v3 v4 v5 v6 u0 u1 σ = some (r, τ)) : W p l e R s m args below meth c H locs 0 0 (MQ below (gQi (dC, dI) (tC kc) (wC ad kc sv) A r τ) args s 0 0 A) (F0 m 100 ls [.long u0, .int u1, .ref (ad 47)]) := by
  have hx := S.1
  have hb := S.2.1
  have hown := S.2.2.2.1
  have hu := S.2.2.2.2
  unfold f_X1_improve_b100 at hg
  obtain ⟨hi100, hg⟩ := gd_some hg
  refine wcsB_6 S X hi100 dX1_improve_100 (fun H locs X => ?_)
  refine lv_iinc (v := (v6 + 1)) (lv' := [(6, .int (v6 + 1)), (0, .ref (ad 8)), (1, .int v1), (2, .int v2), (3, .int v3), (4, .int v4), (5, .int v5)]) hx hb dX1_improve_101 hl (k := 6) rfl (by rfl) (by decide) rfl (fun ls hl => ?_)
  refine lv_goto (tgt := 60) hx hb dX1_improve_104 (by decide) ?_
  exact hrec60 _ _ _ _ _ _ _ _ _ _ X (lv_sub hl [1, 2, 3, 4, 5, 6, 0] rfl) hg
set_option maxHeartbeats 4000000 in
set_option maxRecDepth 100000 in
theorem w_X1_improve_B60 {σ : S5} {E : Int32 → S5 → Option (Int64 × S5)} {rec51 : Int32 → Int32 → Int32 → Int32 → Int32 → S5 → Option (Int32 × S5)} {rec60 : Int32 → Int32 → Int32 → Int32 → Int32 → Int32 → S5 → Option (Int32 × S5)} {v1 : Int32} {v2 : Int32} {v3 : Int32} {v4 : Int32} {v5 : Int32} {v6 : Int32} {H : Heap} {locs : List Loc} {ls : Array Slot} (S : CallFix p m c cX1_improve 8 s args uG RX1) (hr : meth.sig.returnType = (some .boolean)) (hk : meth.locks = false) (hR : fE + 2 ≤ R.frames ∧ lE + 48 ≤ R.locals)
    (hE : ∀ (a0 : Int32) (σ τ : S5) (r : Int64), E a0 σ = some (r, τ) → ∀ sz : Nat, Met l yX1_wordOf (Cond.code yX1_wordOf cX1_wordOf 3 (some .long) :: uG) { frames := fE, cells := 0, slots := 0, locals := lE } (gPc (dC, dI) (tC kc) (wC ad kc sv) (zC ak) [.ref (ad 8), .int a0] σ sz) (gQl (dC, dI) (tC kc) (wC ad kc sv) (va_A (wC ad kc sv σ) sz) r τ) 0 0 (va_A (wC ad kc sv σ) sz))
    (hrec51 : ∀ (v1 : Int32) (v2 : Int32) (v3 : Int32) (v4 : Int32) (v5 : Int32) (σ : S5) (H : Heap) (locs : List Loc) (ls : Array Slot), gX (dC, dI) (tC kc) (wC ad kc sv) (zC ak) A s σ H locs → lv_has ls 8 [(0, .ref (ad 8)), (1, .int v1), (2, .int v2), (3, .int v3), (4, .int v4), (5, .int v5)] → rec51 v1 v2 v3 v4 v5 σ = some (r, τ) → W p l e R s m args below meth c H locs 0 0 (MQ below (gQi (dC, dI) (tC kc) (wC ad kc sv) A r τ) args s 0 0 A) (F0 m 51 ls []))
    (hrec60 : ∀ (v1 : Int32) (v2 : Int32) (v3 : Int32) (v4 : Int32) (v5 : Int32) (v6 : Int32) (σ : S5) (H : Heap) (locs : List Loc) (ls : Array Slot), gX (dC, dI) (tC kc) (wC ad kc sv) (zC ak) A s σ H locs → lv_has ls 8 [(0, .ref (ad 8)), (1, .int v1), (2, .int v2), (3, .int v3), (4, .int v4), (5, .int v5), (6, .int v6)] → rec60 v1 v2 v3 v4 v5 v6 σ = some (r, τ) → W p l e R s m args below meth c H locs 0 0 (MQ below (gQi (dC, dI) (tC kc) (wC ad kc sv) A r τ) args s 0 0 A) (F0 m 60 ls []))
    (X : gX (dC, dI) (tC kc) (wC ad kc sv) (zC ak) A s σ H locs) (hl : lv_has ls 8 [(0, .ref (ad 8)), (1, .int v1), (2, .int v2), (3, .int v3), (4, .int v4), (5, .int v5), (6, .int v6)]) (hg : f_X1_improve_B60 E rec51 rec60 v1 v2 v3 v4 v5 v6 σ = some (r, τ)) : W p l e R s m args below meth c H locs 0 0 (MQ below (gQi (dC, dI) (tC kc) (wC ad kc sv) A r τ) args s 0 0 A) (F0 m 60 ls []) := by
  have hx := S.1
  have hb := S.2.1
  have hown := S.2.2.2.1
  have hu := S.2.2.2.2
  unfold f_X1_improve_B60 at hg
  refine lv_iload hx hb dX1_improve_60 (lv_at hl 6 rfl) ?_
  refine lv_iload_n hx hb dX1_improve_62 rfl (lv_at hl 2 rfl) ?_
  refine lv_icmp_ge (tgt := 107) hx hb dX1_improve_63 (by decide) (fun c63 => ?_) (fun c63 => ?_)
  · have hg := (if_pos c63).symm.trans hg
    refine lv_aload_n hx hb dX1_improve_107 rfl (lv_at hl 0 rfl) ?_
    refine lv_aload_n hx hb dX1_improve_108 rfl (lv_at hl 0 rfl) ?_
    refine wcgR_8_1 S X mG_600 dX1_improve_109 ?_
    refine wcgR_2_11 S X mG_326 dX1_improve_112 ?_
    refine lv_iload_n hx hb dX1_improve_115 rfl (lv_at hl 1 rfl) ?_
    obtain ⟨hi116, hg⟩ := gd_some hg
    refine wclA_7 (v := (xA σ 7 v1)) S X hi116 rfl dX1_improve_116 ?_
    refine lv_iload_n hx hb dX1_improve_117 rfl (lv_at hl 2 rfl) ?_
    refine lv_aload_n hx hb dX1_improve_118 rfl (lv_at hl 0 rfl) ?_
    refine wcgR_8_1 S X mG_600 dX1_improve_119 ?_
    refine wcgR_2_10 S X mG_319 dX1_improve_122 ?_
    refine lv_iload_n hx hb dX1_improve_125 rfl (lv_at hl 1 rfl) ?_
    obtain ⟨hi126, hg⟩ := gd_some hg
    refine wclA_6 (v := (xA σ 6 v1)) S X hi126 rfl dX1_improve_126 ?_
    obtain ⟨r127, τ127, hq127, hg⟩ := bd_some hg
    refine gc_Vl (As := [.int (xA σ 7 v1), .int v2, .int (xA σ 6 v1)]) (rest := []) (q0 := 8) (ci := 4) S X (k2_X1_settle l dC dI ad kc sv hE hq127 H.size) cw_X1_settle mG_1570 rfl rfl rfl rfl rfl hl.1 (Nat.le_of_ble_eq_true rfl) dX1_improve_127 ⟨by omega, by omega⟩ (fun H locs X => ?_)
    refine lv_lstore (lv' := [(6, .long r127), (0, .ref (ad 8)), (1, .int v1), (2, .int v2), (3, .int v3), (4, .int v4), (5, .int v5)]) hx hb dX1_improve_130 hl (by decide) rfl (fun ls hl => ?_)
    refine lv_iload hx hb dX1_improve_132 (lv_at hl 5 rfl) ?_
    refine lv_lload hx hb dX1_improve_134 (lv_at hl 0 rfl) ?_
    refine lv_aload_n hx hb dX1_improve_136 rfl (lv_at hl 1 rfl) ?_
    refine wcgR_8_2 S X mG_601 dX1_improve_137 ?_
    refine lv_iload_n hx hb dX1_improve_140 rfl (lv_at hl 2 rfl) ?_
    refine lv_iconst (v := 4) hx hb dX1_improve_141 (by decide) ?_
    refine lv_imul hx hb dX1_improve_142 ?_
    refine lv_iload hx hb dX1_improve_143 (lv_at hl 6 rfl) ?_
    refine lv_iadd hx hb dX1_improve_145 ?_
    obtain ⟨hi146, hg⟩ := gd_some hg
    refine wclB_5 (v := (xB τ127 5 ((v1 * 4) + v5))) S X hi146 rfl dX1_improve_146 ?_
    refine W.lcmp hx hb dX1_improve_147 ?_
    refine lv_if_eq (tgt := 155) hx hb dX1_improve_148 (by decide) (fun c148 => ?_) (fun c148 => ?_)
    · have hg := (if_pos c148).symm.trans hg
      refine lv_iconst (v := 0) hx hb dX1_improve_155 (by decide) ?_
      exact w_X1_improve_b156 S hr hk hR hE hrec51 X (lv_sub hl [1, 2, 3, 4, 6, 0] rfl) hg
    · have hg := (if_neg c148).symm.trans hg
      refine lv_iconst (v := 1) hx hb dX1_improve_151 (by decide) ?_
      refine lv_goto (tgt := 156) hx hb dX1_improve_152 (by decide) ?_
      exact w_X1_improve_b156 S hr hk hR hE hrec51 X (lv_sub hl [1, 2, 3, 4, 6, 0] rfl) hg
  · have hg := (if_neg c63).symm.trans hg
    refine lv_aload_n hx hb dX1_improve_66 rfl (lv_at hl 0 rfl) ?_
    refine wcgR_8_3 S X mG_602 dX1_improve_67 ?_
    refine lv_iload hx hb dX1_improve_70 (lv_at hl 6 rfl) ?_
    refine lv_iload hx hb dX1_improve_72 (lv_at hl 6 rfl) ?_
    refine lv_bipush (v := 6) hx hb dX1_improve_74 (by decide) ?_
    refine lv_icmp_ge (tgt := 88) hx hb dX1_improve_76 (by decide) (fun c76 => ?_) (fun c76 => ?_)
    · have hg := (if_pos c76).symm.trans hg
      refine lv_iload hx hb dX1_improve_88 (lv_at hl 5 rfl) ?_
      refine lv_iload hx hb dX1_improve_90 (lv_at hl 6 rfl) ?_
      refine lv_bipush (v := 6) hx hb dX1_improve_92 (by decide) ?_
      refine lv_isub hx hb dX1_improve_94 ?_
      refine lv_iushr (v := (j_iushr v5 (v6 - 6))) hx hb dX1_improve_95 rfl ?_
      refine lv_iconst (v := 1) hx hb dX1_improve_96 (by decide) ?_
      refine lv_iand hx hb dX1_improve_97 ?_
      refine lv_i2l (v := ((((j_iushr v5 (v6 - 6)) &&& 1)).toInt64)) hx hb dX1_improve_98 rfl ?_
      refine lv_lneg hx hb dX1_improve_99 ?_
      exact w_X1_improve_b100 S hr hk hR hE hrec51 hrec60 X (lv_sub hl [0, 1, 2, 3, 4, 5, 6] rfl) hg
    · have hg := (if_neg c76).symm.trans hg
      refine va_gets hx hb X.2.2.2.2.2.1.2.2.1 X.2.2.2.1 hown (hu _ mG_1568) (fun _ h9 => h9) dX1_improve_79 ?_
      refine lv_iload hx hb dX1_improve_82 (lv_at hl 6 rfl) ?_
      obtain ⟨hi84, hg⟩ := gd_some hg
      refine va_tl (v := .long (sLanes.getD (v6).toNatClampNeg 0)) hx hb X.2.2.2.2.2.1.2.2.2.1 X.2.2.2.1 hi84 rfl dX1_improve_84 ?_
      refine lv_goto (tgt := 100) hx hb dX1_improve_85 (by decide) ?_
      exact w_X1_improve_b100 S hr hk hR hE hrec51 hrec60 X (lv_sub hl [0, 1, 2, 3, 4, 5, 6] rfl) hg
set_option maxHeartbeats 4000000 in
set_option maxRecDepth 100000 in
theorem w_X1_improve_L60 {E : Int32 → S5 → Option (Int64 × S5)} {rec51 : Int32 → Int32 → Int32 → Int32 → Int32 → S5 → Option (Int32 × S5)} (S : CallFix p m c cX1_improve 8 s args uG RX1) (hr : meth.sig.returnType = (some .boolean)) (hk : meth.locks = false) (hR : fE + 2 ≤ R.frames ∧ lE + 48 ≤ R.locals)
    (hE : ∀ (a0 : Int32) (σ τ : S5) (r : Int64), E a0 σ = some (r, τ) → ∀ sz : Nat, Met l yX1_wordOf (Cond.code yX1_wordOf cX1_wordOf 3 (some .long) :: uG) { frames := fE, cells := 0, slots := 0, locals := lE } (gPc (dC, dI) (tC kc) (wC ad kc sv) (zC ak) [.ref (ad 8), .int a0] σ sz) (gQl (dC, dI) (tC kc) (wC ad kc sv) (va_A (wC ad kc sv σ) sz) r τ) 0 0 (va_A (wC ad kc sv σ) sz))
    (hrec51 : ∀ (v1 : Int32) (v2 : Int32) (v3 : Int32) (v4 : Int32) (v5 : Int32) (σ : S5) (H : Heap) (locs : List Loc) (ls : Array Slot), gX (dC, dI) (tC kc) (wC ad kc sv) (zC ak) A s σ H locs → lv_has ls 8 [(0, .ref (ad 8)), (1, .int v1), (2, .int v2), (3, .int v3), (4, .int v4), (5, .int v5)] → rec51 v1 v2 v3 v4 v5 σ = some (r, τ) → W p l e R s m args below meth c H locs 0 0 (MQ below (gQi (dC, dI) (tC kc) (wC ad kc sv) A r τ) args s 0 0 A) (F0 m 51 ls [])) : ∀ (n : Nat) (v1 : Int32) (v2 : Int32) (v3 : Int32) (v4 : Int32) (v5 : Int32) (v6 : Int32) (σ : S5) (H : Heap) (locs : List Loc) (ls : Array Slot), gX (dC, dI) (tC kc) (wC ad kc sv) (zC ak) A s σ H locs → lv_has ls 8 [(0, .ref (ad 8)), (1, .int v1), (2, .int v2), (3, .int v3), (4, .int v4), (5, .int v5), (6, .int v6)] → f_X1_improve_L60 E rec51 n v1 v2 v3 v4 v5 v6 σ = some (r, τ) → W p l e R s m args below meth c H locs 0 0 (MQ below (gQi (dC, dI) (tC kc) (wC ad kc sv) A r τ) args s 0 0 A) (F0 m 60 ls []) := by
  intro n
  induction n with
  | zero => intro v1 v2 v3 v4 v5 v6 σ H locs ls X hl hg; cases hg
  | succ n ih => intro v1 v2 v3 v4 v5 v6 σ H locs ls X hl hg; exact w_X1_improve_B60 S hr hk hR hE hrec51 ih X hl hg
set_option maxHeartbeats 4000000 in
set_option maxRecDepth 100000 in
theorem w_X1_improve_B51 {σ : S5} {E : Int32 → S5 → Option (Int64 × S5)} {rec51 : Int32 → Int32 → Int32 → Int32 → Int32 → S5 → Option (Int32 × S5)} {v1 : Int32} {v2 : Int32} {v3 : Int32} {v4 : Int32} {v5 : Int32} {H : Heap} {locs : List Loc} {ls : Array Slot} (S : CallFix p m c cX1_improve 8 s args uG RX1) (hr : meth.sig.returnType = (some .boolean)) (hk : meth.locks = false) (hR : fE + 2 ≤ R.frames ∧ lE + 48 ≤ R.locals)
    (hE : ∀ (a0 : Int32) (σ τ : S5) (r : Int64), E a0 σ = some (r, τ) → ∀ sz : Nat, Met l yX1_wordOf (Cond.code yX1_wordOf cX1_wordOf 3 (some .long) :: uG) { frames := fE, cells := 0, slots := 0, locals := lE } (gPc (dC, dI) (tC kc) (wC ad kc sv) (zC ak) [.ref (ad 8), .int a0] σ sz) (gQl (dC, dI) (tC kc) (wC ad kc sv) (va_A (wC ad kc sv σ) sz) r τ) 0 0 (va_A (wC ad kc sv σ) sz))
    (hrec51 : ∀ (v1 : Int32) (v2 : Int32) (v3 : Int32) (v4 : Int32) (v5 : Int32) (σ : S5) (H : Heap) (locs : List Loc) (ls : Array Slot), gX (dC, dI) (tC kc) (wC ad kc sv) (zC ak) A s σ H locs → lv_has ls 8 [(0, .ref (ad 8)), (1, .int v1), (2, .int v2), (3, .int v3), (4, .int v4), (5, .int v5)] → rec51 v1 v2 v3 v4 v5 σ = some (r, τ) → W p l e R s m args below meth c H locs 0 0 (MQ below (gQi (dC, dI) (tC kc) (wC ad kc sv) A r τ) args s 0 0 A) (F0 m 51 ls []))
    (X : gX (dC, dI) (tC kc) (wC ad kc sv) (zC ak) A s σ H locs) (hl : lv_has ls 8 [(0, .ref (ad 8)), (1, .int v1), (2, .int v2), (3, .int v3), (4, .int v4), (5, .int v5)]) (hg : f_X1_improve_B51 E rec51 v1 v2 v3 v4 v5 σ = some (r, τ)) : W p l e R s m args below meth c H locs 0 0 (MQ below (gQi (dC, dI) (tC kc) (wC ad kc sv) A r τ) args s 0 0 A) (F0 m 51 ls []) := by
  have hx := S.1
  have hb := S.2.1
  have hown := S.2.2.2.1
  have hu := S.2.2.2.2
  unfold f_X1_improve_B51 at hg
  refine lv_iload hx hb dX1_improve_51 (lv_at hl 5 rfl) ?_
  refine lv_iload_n hx hb dX1_improve_53 rfl (lv_at hl 3 rfl) ?_
  refine lv_icmp_ge (tgt := 178) hx hb dX1_improve_54 (by decide) (fun c54 => ?_) (fun c54 => ?_)
  · have hg := (if_pos c54).symm.trans hg
    refine lv_iload hx hb dX1_improve_178 (lv_at hl 4 rfl) ?_
    obtain ⟨hn180, hg⟩ := g_t_some hg
    obtain ⟨rfl, rfl⟩ := fin_some hg
    exact gr_z S hr hk X hn180 dX1_improve_180
  · have hg := (if_neg c54).symm.trans hg
    refine lv_iconst (v := 0) hx hb dX1_improve_57 (by decide) ?_
    refine lv_istore (lv' := [(6, .int 0), (0, .ref (ad 8)), (1, .int v1), (2, .int v2), (3, .int v3), (4, .int v4), (5, .int v5)]) hx hb dX1_improve_58 hl (by decide) rfl (fun ls hl => ?_)
    exact w_X1_improve_L60 S hr hk hR hE hrec51 _ _ _ _ _ _ _ _ _ _ _ X (lv_sub hl [1, 2, 3, 4, 5, 6, 0] rfl) hg
set_option maxHeartbeats 4000000 in
set_option maxRecDepth 100000 in
theorem w_X1_improve_L51 {E : Int32 → S5 → Option (Int64 × S5)} (S : CallFix p m c cX1_improve 8 s args uG RX1) (hr : meth.sig.returnType = (some .boolean)) (hk : meth.locks = false) (hR : fE + 2 ≤ R.frames ∧ lE + 48 ≤ R.locals)
    (hE : ∀ (a0 : Int32) (σ τ : S5) (r : Int64), E a0 σ = some (r, τ) → ∀ sz : Nat, Met l yX1_wordOf (Cond.code yX1_wordOf cX1_wordOf 3 (some .long) :: uG) { frames := fE, cells := 0, slots := 0, locals := lE } (gPc (dC, dI) (tC kc) (wC ad kc sv) (zC ak) [.ref (ad 8), .int a0] σ sz) (gQl (dC, dI) (tC kc) (wC ad kc sv) (va_A (wC ad kc sv σ) sz) r τ) 0 0 (va_A (wC ad kc sv σ) sz)) : ∀ (n : Nat) (v1 : Int32) (v2 : Int32) (v3 : Int32) (v4 : Int32) (v5 : Int32) (σ : S5) (H : Heap) (locs : List Loc) (ls : Array Slot), gX (dC, dI) (tC kc) (wC ad kc sv) (zC ak) A s σ H locs → lv_has ls 8 [(0, .ref (ad 8)), (1, .int v1), (2, .int v2), (3, .int v3), (4, .int v4), (5, .int v5)] → f_X1_improve_L51 E n v1 v2 v3 v4 v5 σ = some (r, τ) → W p l e R s m args below meth c H locs 0 0 (MQ below (gQi (dC, dI) (tC kc) (wC ad kc sv) A r τ) args s 0 0 A) (F0 m 51 ls []) := by
  intro n
  induction n with
  | zero => intro v1 v2 v3 v4 v5 σ H locs ls X hl hg; cases hg
  | succ n ih => intro v1 v2 v3 v4 v5 σ H locs ls X hl hg; exact w_X1_improve_B51 S hr hk hR hE ih X hl hg
set_option maxHeartbeats 4000000 in
set_option maxRecDepth 100000 in
theorem w_X1_improve_b44 {σ : S5} {E : Int32 → S5 → Option (Int64 × S5)} {v1 : Int32} {v2 : Int32} {u0 : Int32} {H : Heap} {locs : List Loc} {ls : Array Slot} (S : CallFix p m c cX1_improve 8 s args uG RX1) (hr : meth.sig.returnType = (some .boolean)) (hk : meth.locks = false) (hR : fE + 2 ≤ R.frames ∧ lE + 48 ≤ R.locals)
    (hE : ∀ (a0 : Int32) (σ τ : S5) (r : Int64), E a0 σ = some (r, τ) → ∀ sz : Nat, Met l yX1_wordOf (Cond.code yX1_wordOf cX1_wordOf 3 (some .long) :: uG) { frames := fE, cells := 0, slots := 0, locals := lE } (gPc (dC, dI) (tC kc) (wC ad kc sv) (zC ak) [.ref (ad 8), .int a0] σ sz) (gQl (dC, dI) (tC kc) (wC ad kc sv) (va_A (wC ad kc sv σ) sz) r τ) 0 0 (va_A (wC ad kc sv σ) sz))
    (X : gX (dC, dI) (tC kc) (wC ad kc sv) (zC ak) A s σ H locs) (hl : lv_has ls 8 [(0, .ref (ad 8)), (1, .int v1), (2, .int v2)]) (hg : f_X1_improve_b44 E v1 v2 u0 σ = some (r, τ)) : W p l e R s m args below meth c H locs 0 0 (MQ below (gQi (dC, dI) (tC kc) (wC ad kc sv) A r τ) args s 0 0 A) (F0 m 44 ls [.int u0]) := by
  have hx := S.1
  have hb := S.2.1
  have hown := S.2.2.2.1
  have hu := S.2.2.2.2
  unfold f_X1_improve_b44 at hg
  refine lv_istore_n (lv' := [(3, .int u0), (0, .ref (ad 8)), (1, .int v1), (2, .int v2)]) hx hb dX1_improve_44 rfl hl (by decide) rfl (fun ls hl => ?_)
  refine lv_iconst (v := 0) hx hb dX1_improve_45 (by decide) ?_
  refine lv_istore (lv' := [(4, .int 0), (3, .int u0), (0, .ref (ad 8)), (1, .int v1), (2, .int v2)]) hx hb dX1_improve_46 hl (by decide) rfl (fun ls hl => ?_)
  refine lv_iconst (v := 0) hx hb dX1_improve_48 (by decide) ?_
  refine lv_istore (lv' := [(5, .int 0), (4, .int 0), (3, .int u0), (0, .ref (ad 8)), (1, .int v1), (2, .int v2)]) hx hb dX1_improve_49 hl (by decide) rfl (fun ls hl => ?_)
  exact w_X1_improve_L51 S hr hk hR hE _ _ _ _ _ _ _ _ _ _ X (lv_sub hl [3, 4, 5, 2, 1, 0] rfl) hg
set_option maxHeartbeats 4000000 in
set_option maxRecDepth 100000 in
theorem w_X1_improve_b25 {σ : S5} {E : Int32 → S5 → Option (Int64 × S5)} {v1 : Int32} {v2 : Int32} {u0 : Int32} {H : Heap} {locs : List Loc} {ls : Array Slot} (S : CallFix p m c cX1_improve 8 s args uG RX1) (hr : meth.sig.returnType = (some .boolean)) (hk : meth.locks = false) (hR : fE + 2 ≤ R.frames ∧ lE + 48 ≤ R.locals)
    (hE : ∀ (a0 : Int32) (σ τ : S5) (r : Int64), E a0 σ = some (r, τ) → ∀ sz : Nat, Met l yX1_wordOf (Cond.code yX1_wordOf cX1_wordOf 3 (some .long) :: uG) { frames := fE, cells := 0, slots := 0, locals := lE } (gPc (dC, dI) (tC kc) (wC ad kc sv) (zC ak) [.ref (ad 8), .int a0] σ sz) (gQl (dC, dI) (tC kc) (wC ad kc sv) (va_A (wC ad kc sv σ) sz) r τ) 0 0 (va_A (wC ad kc sv σ) sz))
    (X : gX (dC, dI) (tC kc) (wC ad kc sv) (zC ak) A s σ H locs) (hl : lv_has ls 8 [(0, .ref (ad 8)), (1, .int v1), (2, .int v2)]) (hg : f_X1_improve_b25 E v1 v2 u0 σ = some (r, τ)) : W p l e R s m args below meth c H locs 0 0 (MQ below (gQi (dC, dI) (tC kc) (wC ad kc sv) A r τ) args s 0 0 A) (F0 m 25 ls [.int u0, .ref (ad 8)]) := by
  have hx := S.1
  have hb := S.2.1
  have hown := S.2.2.2.1
  have hu := S.2.2.2.2
  unfold f_X1_improve_b25 at hg
  refine wcpI_23 S X mG_605 dX1_improve_25 (fun H locs X => ?_)
  refine lv_iload_n hx hb dX1_improve_28 rfl (lv_at hl 2 rfl) ?_
  refine lv_bipush (v := 6) hx hb dX1_improve_29 (by decide) ?_
  refine lv_icmp_gt (tgt := 38) hx hb dX1_improve_31 (by decide) (fun c31 => ?_) (fun c31 => ?_)
  · have hg := (if_pos c31).symm.trans hg
    refine lv_iconst (v := 1) hx hb dX1_improve_38 (by decide) ?_
    refine lv_iload_n hx hb dX1_improve_39 rfl (lv_at hl 2 rfl) ?_
    refine lv_bipush (v := 6) hx hb dX1_improve_40 (by decide) ?_
    refine lv_isub hx hb dX1_improve_42 ?_
    refine lv_ishl hx hb dX1_improve_43 ?_
    exact w_X1_improve_b44 S hr hk hR hE X (lv_sub hl [0, 1, 2] rfl) hg
  · have hg := (if_neg c31).symm.trans hg
    refine lv_iconst (v := 1) hx hb dX1_improve_34 (by decide) ?_
    refine lv_goto (tgt := 44) hx hb dX1_improve_35 (by decide) ?_
    exact w_X1_improve_b44 S hr hk hR hE X (lv_sub hl [0, 1, 2] rfl) hg
set_option maxHeartbeats 4000000 in
set_option maxRecDepth 100000 in
theorem w_X1_improve {σ : S5} {E : Int32 → S5 → Option (Int64 × S5)} {a1 : Int32} {H : Heap} {locs : List Loc} {ls : Array Slot} (S : CallFix p m c cX1_improve 8 s args uG RX1) (hr : meth.sig.returnType = (some .boolean)) (hk : meth.locks = false) (hR : fE + 2 ≤ R.frames ∧ lE + 48 ≤ R.locals)
    (hE : ∀ (a0 : Int32) (σ τ : S5) (r : Int64), E a0 σ = some (r, τ) → ∀ sz : Nat, Met l yX1_wordOf (Cond.code yX1_wordOf cX1_wordOf 3 (some .long) :: uG) { frames := fE, cells := 0, slots := 0, locals := lE } (gPc (dC, dI) (tC kc) (wC ad kc sv) (zC ak) [.ref (ad 8), .int a0] σ sz) (gQl (dC, dI) (tC kc) (wC ad kc sv) (va_A (wC ad kc sv σ) sz) r τ) 0 0 (va_A (wC ad kc sv σ) sz))
    (X : gX (dC, dI) (tC kc) (wC ad kc sv) (zC ak) A s σ H locs) (hl : lv_has ls 8 [(0, .ref (ad 8)), (1, .int a1)]) (hg : f_X1_improve E a1 σ = some (r, τ)) : W p l e R s m args below meth c H locs 0 0 (MQ below (gQi (dC, dI) (tC kc) (wC ad kc sv) A r τ) args s 0 0 A) (F0 m 0 ls []) := by
  have hx := S.1
  have hb := S.2.1
  have hown := S.2.2.2.1
  have hu := S.2.2.2.2
  unfold f_X1_improve at hg
  refine lv_aload_n hx hb dX1_improve_0 rfl (lv_at hl 0 rfl) ?_
  refine wcgR_8_1 S X mG_600 dX1_improve_1 ?_
  refine wcgR_2_7 S X mG_311 dX1_improve_4 ?_
  refine lv_iload_n hx hb dX1_improve_7 rfl (lv_at hl 1 rfl) ?_
  obtain ⟨hi8, hg⟩ := gd_some hg
  refine wclA_3 (v := (xA σ 3 a1)) S X hi8 rfl dX1_improve_8 ?_
  refine lv_istore_n (lv' := [(2, .int (xA σ 3 a1)), (0, .ref (ad 8)), (1, .int a1)]) hx hb dX1_improve_9 rfl hl (by decide) rfl (fun ls hl => ?_)
  refine lv_aload_n hx hb dX1_improve_10 rfl (lv_at hl 1 rfl) ?_
  refine lv_iload_n hx hb dX1_improve_11 rfl (lv_at hl 0 rfl) ?_
  refine lv_bipush (v := 6) hx hb dX1_improve_12 (by decide) ?_
  refine lv_icmp_lt (tgt := 22) hx hb dX1_improve_14 (by decide) (fun c14 => ?_) (fun c14 => ?_)
  · have hg := (if_pos c14).symm.trans hg
    refine lv_iconst (v := 1) hx hb dX1_improve_22 (by decide) ?_
    refine lv_iload_n hx hb dX1_improve_23 rfl (lv_at hl 0 rfl) ?_
    refine lv_ishl hx hb dX1_improve_24 ?_
    exact w_X1_improve_b25 S hr hk hR hE X (lv_sub hl [1, 2, 0] rfl) hg
  · have hg := (if_neg c14).symm.trans hg
    refine lv_bipush (v := 64) hx hb dX1_improve_17 (by decide) ?_
    refine lv_goto (tgt := 25) hx hb dX1_improve_19 (by decide) ?_
    exact w_X1_improve_b25 S hr hk hR hE X (lv_sub hl [1, 2, 0] rfl) hg
end MX1_improve
set_option maxRecDepth 100000 in
theorem k2_X1_improve (l : Launch) (dC : Nat → ClassId) (dI : Nat → Nat → Nat) {ak : Nat → Nat} (ad : Nat → Nat) (kc : Nat → ClassId) (sv : Value) {E : Int32 → S5 → Option (Int64 × S5)} {fE lE : Nat} {σ τ : S5} {a1 : Int32} {r : Int32} (hE : ∀ (a0 : Int32) (σ τ : S5) (r : Int64), E a0 σ = some (r, τ) → ∀ sz : Nat, Met l yX1_wordOf (Cond.code yX1_wordOf cX1_wordOf 3 (some .long) :: uG) { frames := fE, cells := 0, slots := 0, locals := lE } (gPc (dC, dI) (tC kc) (wC ad kc sv) (zC ak) [.ref (ad 8), .int a0] σ sz) (gQl (dC, dI) (tC kc) (wC ad kc sv) (va_A (wC ad kc sv σ) sz) r τ) 0 0 (va_A (wC ad kc sv σ) sz)) (hg : f_X1_improve E a1 σ = some (r, τ)) (sz : Nat) : Met l yX1_improve (Cond.code yX1_improve cX1_improve 8 (some .boolean) :: uG) { frames := fE + 2, cells := 0, slots := 0, locals := lE + 48 } (gPc (dC, dI) (tC kc) (wC ad kc sv) (zC ak) [.ref (ad 8), .int a1] σ sz) (gQi (dC, dI) (tC kc) (wC ad kc sv) (va_A (wC ad kc sv σ) sz) r τ) 0 0 (va_A (wC ad kc sv σ) sz) :=
  g_start (by decide) (Nat.le_of_ble_eq_true rfl) (fun p e s m below meth c ls S hr hk X hl => w_X1_improve S hr hk ⟨Nat.le_refl _, Nat.le_refl _⟩ hE X hl hg)
section MX1_markLet
variable {p : Program} {l : Launch} {e : Env} {R : Room} {s : State} {m : MethodId} {args : Array Value} {below : List Frame} {meth : Method} {c : Code} {dC : Nat → ClassId} {dI : Nat → Nat → Nat} {ak : Nat → Nat} {A : Nat → Prop} {ad : Nat → Nat} {kc : Nat → ClassId} {sv : Value} {r : Unit} {τ : S5} {fE lE : Nat}
set_option maxHeartbeats 4000000 in
set_option maxRecDepth 100000 in
theorem w_X1_markLet {σ : S5} {E : Int32 → S5 → Option (Int64 × S5)} {a1 : Int32} {H : Heap} {locs : List Loc} {ls : Array Slot} (S : CallFix p m c cX1_markLet 6 s args uG RX1) (hr : meth.sig.returnType = none) (hk : meth.locks = false) (hR : fE + 2 ≤ R.frames ∧ lE + 48 ≤ R.locals)
    (hE : ∀ (a0 : Int32) (σ τ : S5) (r : Int64), E a0 σ = some (r, τ) → ∀ sz : Nat, Met l yX1_wordOf (Cond.code yX1_wordOf cX1_wordOf 3 (some .long) :: uG) { frames := fE, cells := 0, slots := 0, locals := lE } (gPc (dC, dI) (tC kc) (wC ad kc sv) (zC ak) [.ref (ad 8), .int a0] σ sz) (gQl (dC, dI) (tC kc) (wC ad kc sv) (va_A (wC ad kc sv σ) sz) r τ) 0 0 (va_A (wC ad kc sv σ) sz))
    (X : gX (dC, dI) (tC kc) (wC ad kc sv) (zC ak) A s σ H locs) (hl : lv_has ls 6 [(0, .ref (ad 8)), (1, .int a1)]) (hg : f_X1_markLet E a1 σ = some (r, τ)) : W p l e R s m args below meth c H locs 0 0 (MQ below (gQv (dC, dI) (tC kc) (wC ad kc sv) A r τ) args s 0 0 A) (F0 m 0 ls []) := by
  have hx := S.1
  have hb := S.2.1
  have hown := S.2.2.2.1
  have hu := S.2.2.2.2
  unfold f_X1_markLet at hg
  refine lv_aload_n hx hb dX1_markLet_0 rfl (lv_at hl 0 rfl) ?_
  refine wcgR_8_0 S X mG_599 dX1_markLet_1 ?_
  refine wcgR_3_3 S X mG_396 dX1_markLet_4 ?_
  refine lv_iload_n hx hb dX1_markLet_7 rfl (lv_at hl 1 rfl) ?_
  obtain ⟨hi8, hg⟩ := gd_some hg
  refine wclA_16 (v := (xA σ 16 a1)) S X hi8 rfl dX1_markLet_8 ?_
  refine lv_istore_n (lv' := [(2, .int (xA σ 16 a1)), (0, .ref (ad 8)), (1, .int a1)]) hx hb dX1_markLet_9 rfl hl (by decide) rfl (fun ls hl => ?_)
  refine lv_aload_n hx hb dX1_markLet_10 rfl (lv_at hl 1 rfl) ?_
  refine wcgR_8_0 S X mG_599 dX1_markLet_11 ?_
  refine wcgR_3_4 S X mG_402 dX1_markLet_14 ?_
  refine lv_iload_n hx hb dX1_markLet_17 rfl (lv_at hl 0 rfl) ?_
  obtain ⟨hi18, hg⟩ := gd_some hg
  refine wclA_17 (v := (xA σ 17 (xA σ 16 a1))) S X hi18 rfl dX1_markLet_18 ?_
  refine lv_istore_n (lv' := [(3, .int (xA σ 17 (xA σ 16 a1))), (2, .int (xA σ 16 a1)), (0, .ref (ad 8)), (1, .int a1)]) hx hb dX1_markLet_19 rfl hl (by decide) rfl (fun ls hl => ?_)
  refine lv_aload_n hx hb dX1_markLet_20 rfl (lv_at hl 2 rfl) ?_
  refine wcgR_8_0 S X mG_599 dX1_markLet_21 ?_
  refine wcgR_3_1 S X mG_387 dX1_markLet_24 ?_
  refine lv_iload_n hx hb dX1_markLet_27 rfl (lv_at hl 0 rfl) ?_
  obtain ⟨hi28, hg⟩ := gd_some hg
  refine wclA_14 (v := (xA σ 14 (xA σ 17 (xA σ 16 a1)))) S X hi28 rfl dX1_markLet_28 ?_
  refine lv_istore (lv' := [(4, .int (xA σ 14 (xA σ 17 (xA σ 16 a1)))), (3, .int (xA σ 17 (xA σ 16 a1))), (2, .int (xA σ 16 a1)), (0, .ref (ad 8)), (1, .int a1)]) hx hb dX1_markLet_29 hl (by decide) rfl (fun ls hl => ?_)
  refine lv_aload_n hx hb dX1_markLet_31 rfl (lv_at hl 3 rfl) ?_
  refine wcgR_8_0 S X mG_599 dX1_markLet_32 ?_
  refine wcgR_3_2 S X mG_391 dX1_markLet_35 ?_
  refine lv_iload_n hx hb dX1_markLet_38 rfl (lv_at hl 4 rfl) ?_
  obtain ⟨hi39, hg⟩ := gd_some hg
  refine wclA_15 (v := (xA σ 15 a1)) S X hi39 rfl dX1_markLet_39 ?_
  refine lv_istore (lv' := [(5, .int (xA σ 15 a1)), (4, .int (xA σ 14 (xA σ 17 (xA σ 16 a1)))), (3, .int (xA σ 17 (xA σ 16 a1))), (2, .int (xA σ 16 a1)), (0, .ref (ad 8)), (1, .int a1)]) hx hb dX1_markLet_40 hl (by decide) rfl (fun ls hl => ?_)
  refine lv_aload_n hx hb dX1_markLet_42 rfl (lv_at hl 4 rfl) ?_
  refine wcgR_8_0 S X mG_599 dX1_markLet_43 ?_
  refine wcgR_3_1 S X mG_387 dX1_markLet_46 ?_
  refine lv_iload_n hx hb dX1_markLet_49 rfl (lv_at hl 5 rfl) ?_
  refine lv_iconst (v := 0) hx hb dX1_markLet_50 (by decide) ?_
  obtain ⟨hi51, hg⟩ := gd_some hg
  refine wcsA_14 S X hi51 dX1_markLet_51 (fun H locs X => ?_)
  refine lv_aload_n hx hb dX1_markLet_52 rfl (lv_at hl 4 rfl) ?_
  refine wcgR_8_0 S X mG_599 dX1_markLet_53 ?_
  refine wcgR_3_4 S X mG_402 dX1_markLet_56 ?_
  refine lv_iload_n hx hb dX1_markLet_59 rfl (lv_at hl 2 rfl) ?_
  obtain ⟨hi60, hg⟩ := gd_some hg
  refine wclA_17 (v := (xA σ 17 (xA σ 17 (xA σ 16 a1)))) S X hi60 rfl dX1_markLet_60 ?_
  refine lv_iconst (v := (-1)) hx hb dX1_markLet_61 (by decide) ?_
  refine lv_icmp_ne (tgt := 92) hx hb dX1_markLet_62 (by decide) (fun c62 => ?_) (fun c62 => ?_)
  · have hg := (if_neg c62).symm.trans hg
    obtain ⟨-, rfl⟩ := fin_some hg
    exact gr_v S hr hk X dX1_markLet_92
  · have hg := (if_pos c62).symm.trans hg
    refine lv_aload_n hx hb dX1_markLet_65 rfl (lv_at hl 4 rfl) ?_
    refine wcgR_8_0 S X mG_599 dX1_markLet_66 ?_
    refine wcgR_3_7 S X mG_411 dX1_markLet_69 ?_
    refine lv_aload_n hx hb dX1_markLet_72 rfl (lv_at hl 4 rfl) ?_
    refine wcgR_8_0 S X mG_599 dX1_markLet_73 ?_
    refine wcgR_3_3 S X mG_396 dX1_markLet_76 ?_
    refine lv_iload_n hx hb dX1_markLet_79 rfl (lv_at hl 2 rfl) ?_
    obtain ⟨hi80, hg⟩ := gd_some hg
    refine wclA_16 (v := (xA σ 16 (xA σ 17 (xA σ 16 a1)))) S X hi80 rfl dX1_markLet_80 ?_
    obtain ⟨hi81, hg⟩ := gd_some hg
    refine wclB_2 (v := (xB σ 2 (xA σ 16 (xA σ 17 (xA σ 16 a1))))) S X hi81 rfl dX1_markLet_81 ?_
    refine lv_iload hx hb dX1_markLet_82 (lv_at hl 1 rfl) ?_
    refine lv_lushr (v := (j_lushr (xB σ 2 (xA σ 16 (xA σ 17 (xA σ 16 a1)))) (xA σ 14 (xA σ 17 (xA σ 16 a1))))) hx hb dX1_markLet_84 rfl ?_
    refine lv_lconst (v := 1) hx hb dX1_markLet_85 rfl ?_
    refine lv_land hx hb dX1_markLet_86 ?_
    refine lv_lconst (v := 0) hx hb dX1_markLet_87 rfl ?_
    refine W.lcmp hx hb dX1_markLet_88 ?_
    refine lv_if_eq (tgt := 93) hx hb dX1_markLet_89 (by decide) (fun c89 => ?_) (fun c89 => ?_)
    · have hg := (if_pos c89).symm.trans hg
      refine lv_aload_n hx hb dX1_markLet_93 rfl (lv_at hl 4 rfl) ?_
      refine lv_iconst (v := 1) hx hb dX1_markLet_94 (by decide) ?_
      refine wcpI_23 S X mG_605 dX1_markLet_95 (fun H locs X => ?_)
      refine lv_aload_n hx hb dX1_markLet_98 rfl (lv_at hl 4 rfl) ?_
      refine wcgR_8_3 S X mG_602 dX1_markLet_99 ?_
      refine lv_iconst (v := 0) hx hb dX1_markLet_102 (by decide) ?_
      refine lv_iload hx hb dX1_markLet_103 (lv_at hl 1 rfl) ?_
      refine lv_ldc2 (own := RX1) (v := (-1)) hx hb hown (hu _ mG_1583) dX1_markLet_105 ?_
      obtain ⟨r108, τ108, hq108, hg⟩ := bd_some hg
      refine gc_Tv (As := [.ref (ad 47), .int 0, .int (xA σ 14 (xA σ 17 (xA σ 16 a1))), .long (-1)]) (rest := []) S X (k2_J7_fill_bad5a_dem_bits l dC dI ad kc sv hq108 H.size) cw_J7_fill_bad5a mG_1318 rfl rfl hl.1 (Nat.le_of_ble_eq_true rfl) dX1_markLet_108 ⟨by omega, by omega⟩ (fun H locs X => ?_)
      refine lv_aload_n hx hb dX1_markLet_111 rfl (lv_at hl 4 rfl) ?_
      refine lv_iload_n hx hb dX1_markLet_112 rfl (lv_at hl 3 rfl) ?_
      refine lv_iload hx hb dX1_markLet_113 (lv_at hl 1 rfl) ?_
      refine lv_aload_n hx hb dX1_markLet_115 rfl (lv_at hl 4 rfl) ?_
      refine wcgR_8_1 S X mG_600 dX1_markLet_116 ?_
      refine wcgR_2_10 S X mG_319 dX1_markLet_119 ?_
      refine lv_iload hx hb dX1_markLet_122 (lv_at hl 0 rfl) ?_
      obtain ⟨hi124, hg⟩ := gd_some hg
      refine wclA_6 (v := (xA τ108 6 (xA σ 15 a1))) S X hi124 rfl dX1_markLet_124 ?_
      obtain ⟨r125, τ125, hq125, hg⟩ := bd_some hg
      refine gc_Vl (As := [.int (xA σ 16 a1), .int (xA σ 14 (xA σ 17 (xA σ 16 a1))), .int (xA τ108 6 (xA σ 15 a1))]) (rest := []) (q0 := 8) (ci := 4) S X (k2_X1_settle l dC dI ad kc sv hE hq125 H.size) cw_X1_settle mG_1570 rfl rfl rfl rfl rfl hl.1 (Nat.le_of_ble_eq_true rfl) dX1_markLet_125 ⟨by omega, by omega⟩ (fun H locs X => ?_)
      refine lv_lconst (v := 0) hx hb dX1_markLet_128 rfl ?_
      refine W.lcmp hx hb dX1_markLet_129 ?_
      refine lv_if_ne (tgt := 157) hx hb dX1_markLet_130 (by decide) (fun c130 => ?_) (fun c130 => ?_)
      · have hg := (if_neg c130).symm.trans hg
        obtain ⟨-, rfl⟩ := fin_some hg
        exact gr_v S hr hk X dX1_markLet_157
      · have hg := (if_pos c130).symm.trans hg
        refine lv_aload_n hx hb dX1_markLet_133 rfl (lv_at hl 4 rfl) ?_
        refine wcgR_8_0 S X mG_599 dX1_markLet_134 ?_
        refine wcgR_3_1 S X mG_387 dX1_markLet_137 ?_
        refine lv_iload_n hx hb dX1_markLet_140 rfl (lv_at hl 5 rfl) ?_
        refine lv_iconst (v := 1) hx hb dX1_markLet_141 (by decide) ?_
        obtain ⟨hi142, hg⟩ := gd_some hg
        refine wcsA_14 S X hi142 dX1_markLet_142 (fun H locs X => ?_)
        refine lv_aload_n hx hb dX1_markLet_143 rfl (lv_at hl 4 rfl) ?_
        refine wcgR_8_1 S X mG_600 dX1_markLet_144 ?_
        refine wcgR_2_15 S X mG_334 dX1_markLet_147 ?_
        refine lv_iload hx hb dX1_markLet_150 (lv_at hl 0 rfl) ?_
        refine lv_dup2_11 hx hb dX1_markLet_152 rfl rfl ?_
        obtain ⟨hi153, hg⟩ := gd_some hg
        refine wclA_11 (v := (xA τ125 11 (xA σ 15 a1))) S X hi153 rfl dX1_markLet_153 ?_
        refine lv_iconst (v := 1) hx hb dX1_markLet_154 (by decide) ?_
        refine lv_iadd hx hb dX1_markLet_155 ?_
        obtain ⟨hi156, hg⟩ := gd_some hg
        refine wcsA_11 S X hi156 dX1_markLet_156 (fun H locs X => ?_)
        obtain ⟨-, rfl⟩ := fin_some hg
        exact gr_v S hr hk X dX1_markLet_157
    · have hg := (if_neg c89).symm.trans hg
      obtain ⟨-, rfl⟩ := fin_some hg
      exact gr_v S hr hk X dX1_markLet_92
end MX1_markLet
set_option maxRecDepth 100000 in
theorem k2_X1_markLet (l : Launch) (dC : Nat → ClassId) (dI : Nat → Nat → Nat) {ak : Nat → Nat} (ad : Nat → Nat) (kc : Nat → ClassId) (sv : Value) {E : Int32 → S5 → Option (Int64 × S5)} {fE lE : Nat} {σ τ : S5} {a1 : Int32} {r : Unit} (hE : ∀ (a0 : Int32) (σ τ : S5) (r : Int64), E a0 σ = some (r, τ) → ∀ sz : Nat, Met l yX1_wordOf (Cond.code yX1_wordOf cX1_wordOf 3 (some .long) :: uG) { frames := fE, cells := 0, slots := 0, locals := lE } (gPc (dC, dI) (tC kc) (wC ad kc sv) (zC ak) [.ref (ad 8), .int a0] σ sz) (gQl (dC, dI) (tC kc) (wC ad kc sv) (va_A (wC ad kc sv σ) sz) r τ) 0 0 (va_A (wC ad kc sv σ) sz)) (hg : f_X1_markLet E a1 σ = some (r, τ)) (sz : Nat) : Met l yX1_markLet (Cond.code yX1_markLet cX1_markLet 6 none :: uG) { frames := fE + 2, cells := 0, slots := 0, locals := lE + 48 } (gPc (dC, dI) (tC kc) (wC ad kc sv) (zC ak) [.ref (ad 8), .int a1] σ sz) (gQv (dC, dI) (tC kc) (wC ad kc sv) (va_A (wC ad kc sv σ) sz) r τ) 0 0 (va_A (wC ad kc sv σ) sz) :=
  g_start (by decide) (Nat.le_of_ble_eq_true rfl) (fun p e s m below meth c ls S hr hk X hl => w_X1_markLet S hr hk ⟨Nat.le_refl _, Nat.le_refl _⟩ hE X hl hg)
section MX1_solve
variable {p : Program} {l : Launch} {e : Env} {R : Room} {s : State} {m : MethodId} {args : Array Value} {below : List Frame} {meth : Method} {c : Code} {dC : Nat → ClassId} {dI : Nat → Nat → Nat} {ak : Nat → Nat} {A : Nat → Prop} {ad : Nat → Nat} {kc : Nat → ClassId} {sv : Value} {r : Unit} {τ : S5} {fE lE : Nat}
set_option maxHeartbeats 4000000 in
set_option maxRecDepth 100000 in
theorem w_X1_solve_b133 {σ : S5} {E : Int32 → S5 → Option (Int64 × S5)} {rec103 : Int32 → S5 → Option (Unit × S5)} {v2 : Int32} {H : Heap} {locs : List Loc} {ls : Array Slot} (S : CallFix p m c cX1_solve 4 s args uG RX1) (hr : meth.sig.returnType = none) (hk : meth.locks = false) (hR : fE + 3 ≤ R.frames ∧ lE + 75 ≤ R.locals)
    (hE : ∀ (a0 : Int32) (σ τ : S5) (r : Int64), E a0 σ = some (r, τ) → ∀ sz : Nat, Met l yX1_wordOf (Cond.code yX1_wordOf cX1_wordOf 3 (some .long) :: uG) { frames := fE, cells := 0, slots := 0, locals := lE } (gPc (dC, dI) (tC kc) (wC ad kc sv) (zC ak) [.ref (ad 8), .int a0] σ sz) (gQl (dC, dI) (tC kc) (wC ad kc sv) (va_A (wC ad kc sv σ) sz) r τ) 0 0 (va_A (wC ad kc sv σ) sz))
    (hrec103 : ∀ (v2 : Int32) (σ : S5) (H : Heap) (locs : List Loc) (ls : Array Slot), gX (dC, dI) (tC kc) (wC ad kc sv) (zC ak) A s σ H locs → lv_has ls 4 [(0, .ref (ad 8)), (2, .int v2)] → rec103 v2 σ = some (r, τ) → W p l e R s m args below meth c H locs 0 0 (MQ below (gQv (dC, dI) (tC kc) (wC ad kc sv) A r τ) args s 0 0 A) (F0 m 103 ls []))
    (X : gX (dC, dI) (tC kc) (wC ad kc sv) (zC ak) A s σ H locs) (hl : lv_has ls 4 [(0, .ref (ad 8)), (2, .int v2)]) (hg : f_X1_solve_b133 E rec103 v2 σ = some (r, τ)) : W p l e R s m args below meth c H locs 0 0 (MQ below (gQv (dC, dI) (tC kc) (wC ad kc sv) A r τ) args s 0 0 A) (F0 m 133 ls []) := by
  have hx := S.1
  have hb := S.2.1
  have hown := S.2.2.2.1
  have hu := S.2.2.2.2
  unfold f_X1_solve_b133 at hg
  refine lv_iinc (v := (v2 + 1)) (lv' := [(2, .int (v2 + 1)), (0, .ref (ad 8))]) hx hb dX1_solve_133 hl (k := 1) rfl (by rfl) (by decide) rfl (fun ls hl => ?_)
  refine lv_goto (tgt := 103) hx hb dX1_solve_136 (by decide) ?_
  exact hrec103 _ _ _ _ _ X (lv_sub hl [1, 0] rfl) hg
set_option maxHeartbeats 4000000 in
set_option maxRecDepth 100000 in
theorem w_X1_solve_B103 {σ : S5} {E : Int32 → S5 → Option (Int64 × S5)} {rec103 : Int32 → S5 → Option (Unit × S5)} {v2 : Int32} {H : Heap} {locs : List Loc} {ls : Array Slot} (S : CallFix p m c cX1_solve 4 s args uG RX1) (hr : meth.sig.returnType = none) (hk : meth.locks = false) (hR : fE + 3 ≤ R.frames ∧ lE + 75 ≤ R.locals)
    (hE : ∀ (a0 : Int32) (σ τ : S5) (r : Int64), E a0 σ = some (r, τ) → ∀ sz : Nat, Met l yX1_wordOf (Cond.code yX1_wordOf cX1_wordOf 3 (some .long) :: uG) { frames := fE, cells := 0, slots := 0, locals := lE } (gPc (dC, dI) (tC kc) (wC ad kc sv) (zC ak) [.ref (ad 8), .int a0] σ sz) (gQl (dC, dI) (tC kc) (wC ad kc sv) (va_A (wC ad kc sv σ) sz) r τ) 0 0 (va_A (wC ad kc sv σ) sz))
    (hrec103 : ∀ (v2 : Int32) (σ : S5) (H : Heap) (locs : List Loc) (ls : Array Slot), gX (dC, dI) (tC kc) (wC ad kc sv) (zC ak) A s σ H locs → lv_has ls 4 [(0, .ref (ad 8)), (2, .int v2)] → rec103 v2 σ = some (r, τ) → W p l e R s m args below meth c H locs 0 0 (MQ below (gQv (dC, dI) (tC kc) (wC ad kc sv) A r τ) args s 0 0 A) (F0 m 103 ls []))
    (X : gX (dC, dI) (tC kc) (wC ad kc sv) (zC ak) A s σ H locs) (hl : lv_has ls 4 [(0, .ref (ad 8)), (2, .int v2)]) (hg : f_X1_solve_B103 E rec103 v2 σ = some (r, τ)) : W p l e R s m args below meth c H locs 0 0 (MQ below (gQv (dC, dI) (tC kc) (wC ad kc sv) A r τ) args s 0 0 A) (F0 m 103 ls []) := by
  have hx := S.1
  have hb := S.2.1
  have hown := S.2.2.2.1
  have hu := S.2.2.2.2
  unfold f_X1_solve_B103 at hg
  refine lv_iload_n hx hb dX1_solve_103 rfl (lv_at hl 1 rfl) ?_
  refine lv_aload_n hx hb dX1_solve_104 rfl (lv_at hl 0 rfl) ?_
  refine wcgR_8_0 S X mG_599 dX1_solve_105 ?_
  refine wcgI_8 (v := (gI σ 8)) S X mG_414 rfl dX1_solve_108 ?_
  refine lv_icmp_ge (tgt := 139) hx hb dX1_solve_111 (by decide) (fun c111 => ?_) (fun c111 => ?_)
  · have hg := (if_pos c111).symm.trans hg
    obtain ⟨-, rfl⟩ := fin_some hg
    exact gr_v S hr hk X dX1_solve_139
  · have hg := (if_neg c111).symm.trans hg
    refine lv_aload_n hx hb dX1_solve_114 rfl (lv_at hl 0 rfl) ?_
    refine wcgR_8_0 S X mG_599 dX1_solve_115 ?_
    refine wcgR_3_0 S X mG_381 dX1_solve_118 ?_
    refine lv_iload_n hx hb dX1_solve_121 rfl (lv_at hl 1 rfl) ?_
    obtain ⟨hi122, hg⟩ := gd_some hg
    refine wclA_13 (v := (xA σ 13 v2)) S X hi122 rfl dX1_solve_122 ?_
    refine lv_bipush (v := 7) hx hb dX1_solve_123 (by decide) ?_
    refine lv_icmp_ne (tgt := 133) hx hb dX1_solve_125 (by decide) (fun c125 => ?_) (fun c125 => ?_)
    · have hg := (if_neg c125).symm.trans hg
      exact w_X1_solve_b133 S hr hk hR hE hrec103 X (lv_sub hl [0, 1] rfl) hg
    · have hg := (if_pos c125).symm.trans hg
      refine lv_aload_n hx hb dX1_solve_128 rfl (lv_at hl 0 rfl) ?_
      refine lv_iload_n hx hb dX1_solve_129 rfl (lv_at hl 1 rfl) ?_
      obtain ⟨r130, τ130, hq130, hg⟩ := bd_some hg
      refine gc_Vv (As := [.int v2]) (rest := []) (q0 := 8) (ci := 4) S X (k2_X1_markLet l dC dI ad kc sv hE hq130 H.size) cw_X1_markLet mG_1608 rfl rfl rfl rfl rfl hl.1 (Nat.le_of_ble_eq_true rfl) dX1_solve_130 ⟨by omega, by omega⟩ (fun H locs X => ?_)
      exact w_X1_solve_b133 S hr hk hR hE hrec103 X (lv_sub hl [0, 1] rfl) hg
set_option maxHeartbeats 4000000 in
set_option maxRecDepth 100000 in
theorem w_X1_solve_L103 {E : Int32 → S5 → Option (Int64 × S5)} (S : CallFix p m c cX1_solve 4 s args uG RX1) (hr : meth.sig.returnType = none) (hk : meth.locks = false) (hR : fE + 3 ≤ R.frames ∧ lE + 75 ≤ R.locals)
    (hE : ∀ (a0 : Int32) (σ τ : S5) (r : Int64), E a0 σ = some (r, τ) → ∀ sz : Nat, Met l yX1_wordOf (Cond.code yX1_wordOf cX1_wordOf 3 (some .long) :: uG) { frames := fE, cells := 0, slots := 0, locals := lE } (gPc (dC, dI) (tC kc) (wC ad kc sv) (zC ak) [.ref (ad 8), .int a0] σ sz) (gQl (dC, dI) (tC kc) (wC ad kc sv) (va_A (wC ad kc sv σ) sz) r τ) 0 0 (va_A (wC ad kc sv σ) sz)) : ∀ (n : Nat) (v2 : Int32) (σ : S5) (H : Heap) (locs : List Loc) (ls : Array Slot), gX (dC, dI) (tC kc) (wC ad kc sv) (zC ak) A s σ H locs → lv_has ls 4 [(0, .ref (ad 8)), (2, .int v2)] → f_X1_solve_L103 E n v2 σ = some (r, τ) → W p l e R s m args below meth c H locs 0 0 (MQ below (gQv (dC, dI) (tC kc) (wC ad kc sv) A r τ) args s 0 0 A) (F0 m 103 ls []) := by
  intro n
  induction n with
  | zero => intro v2 σ H locs ls X hl hg; cases hg
  | succ n ih => intro v2 σ H locs ls X hl hg; exact w_X1_solve_B103 S hr hk hR hE ih X hl hg
set_option maxHeartbeats 4000000 in
set_option maxRecDepth 100000 in
theorem w_X1_solve_B70 {σ : S5} {E : Int32 → S5 → Option (Int64 × S5)} {rec70 : Int32 → S5 → Option (Unit × S5)} {v2 : Int32} {H : Heap} {locs : List Loc} {ls : Array Slot} (S : CallFix p m c cX1_solve 4 s args uG RX1) (hr : meth.sig.returnType = none) (hk : meth.locks = false) (hR : fE + 3 ≤ R.frames ∧ lE + 75 ≤ R.locals)
    (hE : ∀ (a0 : Int32) (σ τ : S5) (r : Int64), E a0 σ = some (r, τ) → ∀ sz : Nat, Met l yX1_wordOf (Cond.code yX1_wordOf cX1_wordOf 3 (some .long) :: uG) { frames := fE, cells := 0, slots := 0, locals := lE } (gPc (dC, dI) (tC kc) (wC ad kc sv) (zC ak) [.ref (ad 8), .int a0] σ sz) (gQl (dC, dI) (tC kc) (wC ad kc sv) (va_A (wC ad kc sv σ) sz) r τ) 0 0 (va_A (wC ad kc sv σ) sz))
    (hrec70 : ∀ (v2 : Int32) (σ : S5) (H : Heap) (locs : List Loc) (ls : Array Slot), gX (dC, dI) (tC kc) (wC ad kc sv) (zC ak) A s σ H locs → lv_has ls 4 [(0, .ref (ad 8)), (2, .int v2)] → rec70 v2 σ = some (r, τ) → W p l e R s m args below meth c H locs 0 0 (MQ below (gQv (dC, dI) (tC kc) (wC ad kc sv) A r τ) args s 0 0 A) (F0 m 70 ls []))
    (X : gX (dC, dI) (tC kc) (wC ad kc sv) (zC ak) A s σ H locs) (hl : lv_has ls 4 [(0, .ref (ad 8)), (2, .int v2)]) (hg : f_X1_solve_B70 E rec70 v2 σ = some (r, τ)) : W p l e R s m args below meth c H locs 0 0 (MQ below (gQv (dC, dI) (tC kc) (wC ad kc sv) A r τ) args s 0 0 A) (F0 m 70 ls []) := by
  have hx := S.1
  have hb := S.2.1
  have hown := S.2.2.2.1
  have hu := S.2.2.2.2
  unfold f_X1_solve_B70 at hg
  refine lv_iload_n hx hb dX1_solve_70 rfl (lv_at hl 1 rfl) ?_
  refine lv_aload_n hx hb dX1_solve_71 rfl (lv_at hl 0 rfl) ?_
  refine wcgR_8_1 S X mG_600 dX1_solve_72 ?_
  refine wcgI_6 (v := (gI σ 6)) S X mG_301 rfl dX1_solve_75 ?_
  refine lv_icmp_ge (tgt := 101) hx hb dX1_solve_78 (by decide) (fun c78 => ?_) (fun c78 => ?_)
  · have hg := (if_pos c78).symm.trans hg
    refine lv_iconst (v := 0) hx hb dX1_solve_101 (by decide) ?_
    refine lv_istore_n (lv' := [(2, .int 0), (0, .ref (ad 8))]) hx hb dX1_solve_102 rfl hl (by decide) rfl (fun ls hl => ?_)
    exact w_X1_solve_L103 S hr hk hR hE _ _ _ _ _ _ X (lv_sub hl [1, 0] rfl) hg
  · have hg := (if_neg c78).symm.trans hg
    refine lv_aload_n hx hb dX1_solve_81 rfl (lv_at hl 0 rfl) ?_
    refine wcgR_8_1 S X mG_600 dX1_solve_82 ?_
    refine wcgR_2_16 S X mG_336 dX1_solve_85 ?_
    refine lv_iload_n hx hb dX1_solve_88 rfl (lv_at hl 1 rfl) ?_
    refine lv_aload_n hx hb dX1_solve_89 rfl (lv_at hl 0 rfl) ?_
    refine lv_iload_n hx hb dX1_solve_90 rfl (lv_at hl 1 rfl) ?_
    obtain ⟨r91, τ91, hq91, hg⟩ := bd_some hg
    refine gc_Vi (As := [.int v2]) (rest := [.int v2, .ref (ad 24)]) (q0 := 8) (ci := 4) S X (k2_X1_neededOf l dC dI ad kc sv hq91 H.size) cw_X1_neededOf mG_1604 rfl rfl rfl rfl rfl hl.1 (Nat.le_of_ble_eq_true rfl) dX1_solve_91 ⟨by omega, by omega⟩ (fun H locs X => ?_)
    obtain ⟨hi94, hg⟩ := gd_some hg
    refine wcsA_12 S X hi94 dX1_solve_94 (fun H locs X => ?_)
    refine lv_iinc (v := (v2 + 1)) (lv' := [(2, .int (v2 + 1)), (0, .ref (ad 8))]) hx hb dX1_solve_95 hl (k := 1) rfl (by rfl) (by decide) rfl (fun ls hl => ?_)
    refine lv_goto (tgt := 70) hx hb dX1_solve_98 (by decide) ?_
    exact hrec70 _ _ _ _ _ X (lv_sub hl [1, 0] rfl) hg
set_option maxHeartbeats 4000000 in
set_option maxRecDepth 100000 in
theorem w_X1_solve_L70 {E : Int32 → S5 → Option (Int64 × S5)} (S : CallFix p m c cX1_solve 4 s args uG RX1) (hr : meth.sig.returnType = none) (hk : meth.locks = false) (hR : fE + 3 ≤ R.frames ∧ lE + 75 ≤ R.locals)
    (hE : ∀ (a0 : Int32) (σ τ : S5) (r : Int64), E a0 σ = some (r, τ) → ∀ sz : Nat, Met l yX1_wordOf (Cond.code yX1_wordOf cX1_wordOf 3 (some .long) :: uG) { frames := fE, cells := 0, slots := 0, locals := lE } (gPc (dC, dI) (tC kc) (wC ad kc sv) (zC ak) [.ref (ad 8), .int a0] σ sz) (gQl (dC, dI) (tC kc) (wC ad kc sv) (va_A (wC ad kc sv σ) sz) r τ) 0 0 (va_A (wC ad kc sv σ) sz)) : ∀ (n : Nat) (v2 : Int32) (σ : S5) (H : Heap) (locs : List Loc) (ls : Array Slot), gX (dC, dI) (tC kc) (wC ad kc sv) (zC ak) A s σ H locs → lv_has ls 4 [(0, .ref (ad 8)), (2, .int v2)] → f_X1_solve_L70 E n v2 σ = some (r, τ) → W p l e R s m args below meth c H locs 0 0 (MQ below (gQv (dC, dI) (tC kc) (wC ad kc sv) A r τ) args s 0 0 A) (F0 m 70 ls []) := by
  intro n
  induction n with
  | zero => intro v2 σ H locs ls X hl hg; cases hg
  | succ n ih => intro v2 σ H locs ls X hl hg; exact w_X1_solve_B70 S hr hk hR hE ih X hl hg
set_option maxHeartbeats 4000000 in
set_option maxRecDepth 100000 in
theorem w_X1_solve_b68 {σ : S5} {E : Int32 → S5 → Option (Int64 × S5)}  {H : Heap} {locs : List Loc} {ls : Array Slot} (S : CallFix p m c cX1_solve 4 s args uG RX1) (hr : meth.sig.returnType = none) (hk : meth.locks = false) (hR : fE + 3 ≤ R.frames ∧ lE + 75 ≤ R.locals)
    (hE : ∀ (a0 : Int32) (σ τ : S5) (r : Int64), E a0 σ = some (r, τ) → ∀ sz : Nat, Met l yX1_wordOf (Cond.code yX1_wordOf cX1_wordOf 3 (some .long) :: uG) { frames := fE, cells := 0, slots := 0, locals := lE } (gPc (dC, dI) (tC kc) (wC ad kc sv) (zC ak) [.ref (ad 8), .int a0] σ sz) (gQl (dC, dI) (tC kc) (wC ad kc sv) (va_A (wC ad kc sv σ) sz) r τ) 0 0 (va_A (wC ad kc sv σ) sz))
    (X : gX (dC, dI) (tC kc) (wC ad kc sv) (zC ak) A s σ H locs) (hl : lv_has ls 4 [(0, .ref (ad 8))]) (hg : f_X1_solve_b68 E σ = some (r, τ)) : W p l e R s m args below meth c H locs 0 0 (MQ below (gQv (dC, dI) (tC kc) (wC ad kc sv) A r τ) args s 0 0 A) (F0 m 68 ls []) := by
  have hx := S.1
  have hb := S.2.1
  have hown := S.2.2.2.1
  have hu := S.2.2.2.2
  unfold f_X1_solve_b68 at hg
  refine lv_iconst (v := 0) hx hb dX1_solve_68 (by decide) ?_
  refine lv_istore_n (lv' := [(2, .int 0), (0, .ref (ad 8))]) hx hb dX1_solve_69 rfl hl (by decide) rfl (fun ls hl => ?_)
  exact w_X1_solve_L70 S hr hk hR hE _ _ _ _ _ _ X (lv_sub hl [1, 0] rfl) hg
set_option maxHeartbeats 4000000 in
set_option maxRecDepth 100000 in
theorem w_X1_solve_B44 {σ : S5} {E : Int32 → S5 → Option (Int64 × S5)} {rec22 : Int32 → Int32 → S5 → Option (Unit × S5)} {rec44 : Int32 → Int32 → Int32 → S5 → Option (Unit × S5)} {v1 : Int32} {v2 : Int32} {v3 : Int32} {H : Heap} {locs : List Loc} {ls : Array Slot} (S : CallFix p m c cX1_solve 4 s args uG RX1) (hr : meth.sig.returnType = none) (hk : meth.locks = false) (hR : fE + 3 ≤ R.frames ∧ lE + 75 ≤ R.locals)
    (hE : ∀ (a0 : Int32) (σ τ : S5) (r : Int64), E a0 σ = some (r, τ) → ∀ sz : Nat, Met l yX1_wordOf (Cond.code yX1_wordOf cX1_wordOf 3 (some .long) :: uG) { frames := fE, cells := 0, slots := 0, locals := lE } (gPc (dC, dI) (tC kc) (wC ad kc sv) (zC ak) [.ref (ad 8), .int a0] σ sz) (gQl (dC, dI) (tC kc) (wC ad kc sv) (va_A (wC ad kc sv σ) sz) r τ) 0 0 (va_A (wC ad kc sv σ) sz))
    (hrec22 : ∀ (v1 : Int32) (v2 : Int32) (σ : S5) (H : Heap) (locs : List Loc) (ls : Array Slot), gX (dC, dI) (tC kc) (wC ad kc sv) (zC ak) A s σ H locs → lv_has ls 4 [(0, .ref (ad 8)), (1, .int v1), (2, .int v2)] → rec22 v1 v2 σ = some (r, τ) → W p l e R s m args below meth c H locs 0 0 (MQ below (gQv (dC, dI) (tC kc) (wC ad kc sv) A r τ) args s 0 0 A) (F0 m 22 ls []))
    (hrec44 : ∀ (v1 : Int32) (v2 : Int32) (v3 : Int32) (σ : S5) (H : Heap) (locs : List Loc) (ls : Array Slot), gX (dC, dI) (tC kc) (wC ad kc sv) (zC ak) A s σ H locs → lv_has ls 4 [(0, .ref (ad 8)), (1, .int v1), (2, .int v2), (3, .int v3)] → rec44 v1 v2 v3 σ = some (r, τ) → W p l e R s m args below meth c H locs 0 0 (MQ below (gQv (dC, dI) (tC kc) (wC ad kc sv) A r τ) args s 0 0 A) (F0 m 44 ls []))
    (X : gX (dC, dI) (tC kc) (wC ad kc sv) (zC ak) A s σ H locs) (hl : lv_has ls 4 [(0, .ref (ad 8)), (1, .int v1), (2, .int v2), (3, .int v3)]) (hg : f_X1_solve_B44 E rec22 rec44 v1 v2 v3 σ = some (r, τ)) : W p l e R s m args below meth c H locs 0 0 (MQ below (gQv (dC, dI) (tC kc) (wC ad kc sv) A r τ) args s 0 0 A) (F0 m 44 ls []) := by
  have hx := S.1
  have hb := S.2.1
  have hown := S.2.2.2.1
  have hu := S.2.2.2.2
  unfold f_X1_solve_B44 at hg
  refine lv_iload_n hx hb dX1_solve_44 rfl (lv_at hl 3 rfl) ?_
  refine lv_if_lt (tgt := 62) hx hb dX1_solve_45 (by decide) (fun c45 => ?_) (fun c45 => ?_)
  · have hg := (if_pos c45).symm.trans hg
    refine lv_iinc (v := (v2 + 1)) (lv' := [(2, .int (v2 + 1)), (0, .ref (ad 8)), (1, .int v1), (3, .int v3)]) hx hb dX1_solve_62 hl (k := 2) rfl (by rfl) (by decide) rfl (fun ls hl => ?_)
    refine lv_goto (tgt := 22) hx hb dX1_solve_65 (by decide) ?_
    exact hrec22 _ _ _ _ _ _ X (lv_sub hl [1, 2, 0] rfl) hg
  · have hg := (if_neg c45).symm.trans hg
    refine lv_iload_n hx hb dX1_solve_48 rfl (lv_at hl 1 rfl) ?_
    refine lv_aload_n hx hb dX1_solve_49 rfl (lv_at hl 0 rfl) ?_
    refine lv_iload_n hx hb dX1_solve_50 rfl (lv_at hl 3 rfl) ?_
    obtain ⟨r51, τ51, hq51, hg⟩ := bd_some hg
    refine gc_Vi (As := [.int v3]) (rest := [.int v1]) (q0 := 8) (ci := 4) S X (k2_X1_improve l dC dI ad kc sv hE hq51 H.size) cw_X1_improve mG_1564 rfl rfl rfl rfl rfl hl.1 (Nat.le_of_ble_eq_true rfl) dX1_solve_51 ⟨by omega, by omega⟩ (fun H locs X => ?_)
    refine lv_ior hx hb dX1_solve_54 ?_
    refine lv_istore_n (lv' := [(1, .int (v1 ||| r51)), (0, .ref (ad 8)), (2, .int v2), (3, .int v3)]) hx hb dX1_solve_55 rfl hl (by decide) rfl (fun ls hl => ?_)
    refine lv_iinc (v := (v3 + (-1))) (lv' := [(3, .int (v3 + (-1))), (1, .int (v1 ||| r51)), (0, .ref (ad 8)), (2, .int v2)]) hx hb dX1_solve_56 hl (k := 3) rfl (by rfl) (by decide) rfl (fun ls hl => ?_)
    refine lv_goto (tgt := 44) hx hb dX1_solve_59 (by decide) ?_
    exact hrec44 _ _ _ _ _ _ _ X (lv_sub hl [2, 1, 3, 0] rfl) hg
set_option maxHeartbeats 4000000 in
set_option maxRecDepth 100000 in
theorem w_X1_solve_L44 {E : Int32 → S5 → Option (Int64 × S5)} {rec22 : Int32 → Int32 → S5 → Option (Unit × S5)} (S : CallFix p m c cX1_solve 4 s args uG RX1) (hr : meth.sig.returnType = none) (hk : meth.locks = false) (hR : fE + 3 ≤ R.frames ∧ lE + 75 ≤ R.locals)
    (hE : ∀ (a0 : Int32) (σ τ : S5) (r : Int64), E a0 σ = some (r, τ) → ∀ sz : Nat, Met l yX1_wordOf (Cond.code yX1_wordOf cX1_wordOf 3 (some .long) :: uG) { frames := fE, cells := 0, slots := 0, locals := lE } (gPc (dC, dI) (tC kc) (wC ad kc sv) (zC ak) [.ref (ad 8), .int a0] σ sz) (gQl (dC, dI) (tC kc) (wC ad kc sv) (va_A (wC ad kc sv σ) sz) r τ) 0 0 (va_A (wC ad kc sv σ) sz))
    (hrec22 : ∀ (v1 : Int32) (v2 : Int32) (σ : S5) (H : Heap) (locs : List Loc) (ls : Array Slot), gX (dC, dI) (tC kc) (wC ad kc sv) (zC ak) A s σ H locs → lv_has ls 4 [(0, .ref (ad 8)), (1, .int v1), (2, .int v2)] → rec22 v1 v2 σ = some (r, τ) → W p l e R s m args below meth c H locs 0 0 (MQ below (gQv (dC, dI) (tC kc) (wC ad kc sv) A r τ) args s 0 0 A) (F0 m 22 ls [])) : ∀ (n : Nat) (v1 : Int32) (v2 : Int32) (v3 : Int32) (σ : S5) (H : Heap) (locs : List Loc) (ls : Array Slot), gX (dC, dI) (tC kc) (wC ad kc sv) (zC ak) A s σ H locs → lv_has ls 4 [(0, .ref (ad 8)), (1, .int v1), (2, .int v2), (3, .int v3)] → f_X1_solve_L44 E rec22 n v1 v2 v3 σ = some (r, τ) → W p l e R s m args below meth c H locs 0 0 (MQ below (gQv (dC, dI) (tC kc) (wC ad kc sv) A r τ) args s 0 0 A) (F0 m 44 ls []) := by
  intro n
  induction n with
  | zero => intro v1 v2 v3 σ H locs ls X hl hg; cases hg
  | succ n ih => intro v1 v2 v3 σ H locs ls X hl hg; exact w_X1_solve_B44 S hr hk hR hE hrec22 ih X hl hg
set_option maxHeartbeats 4000000 in
set_option maxRecDepth 100000 in
theorem w_X1_solve_B22 {σ : S5} {E : Int32 → S5 → Option (Int64 × S5)} {rec22 : Int32 → Int32 → S5 → Option (Unit × S5)} {v1 : Int32} {v2 : Int32} {H : Heap} {locs : List Loc} {ls : Array Slot} (S : CallFix p m c cX1_solve 4 s args uG RX1) (hr : meth.sig.returnType = none) (hk : meth.locks = false) (hR : fE + 3 ≤ R.frames ∧ lE + 75 ≤ R.locals)
    (hE : ∀ (a0 : Int32) (σ τ : S5) (r : Int64), E a0 σ = some (r, τ) → ∀ sz : Nat, Met l yX1_wordOf (Cond.code yX1_wordOf cX1_wordOf 3 (some .long) :: uG) { frames := fE, cells := 0, slots := 0, locals := lE } (gPc (dC, dI) (tC kc) (wC ad kc sv) (zC ak) [.ref (ad 8), .int a0] σ sz) (gQl (dC, dI) (tC kc) (wC ad kc sv) (va_A (wC ad kc sv σ) sz) r τ) 0 0 (va_A (wC ad kc sv σ) sz))
    (hrec22 : ∀ (v1 : Int32) (v2 : Int32) (σ : S5) (H : Heap) (locs : List Loc) (ls : Array Slot), gX (dC, dI) (tC kc) (wC ad kc sv) (zC ak) A s σ H locs → lv_has ls 4 [(0, .ref (ad 8)), (1, .int v1), (2, .int v2)] → rec22 v1 v2 σ = some (r, τ) → W p l e R s m args below meth c H locs 0 0 (MQ below (gQv (dC, dI) (tC kc) (wC ad kc sv) A r τ) args s 0 0 A) (F0 m 22 ls []))
    (X : gX (dC, dI) (tC kc) (wC ad kc sv) (zC ak) A s σ H locs) (hl : lv_has ls 4 [(0, .ref (ad 8)), (1, .int v1), (2, .int v2)]) (hg : f_X1_solve_B22 E rec22 v1 v2 σ = some (r, τ)) : W p l e R s m args below meth c H locs 0 0 (MQ below (gQv (dC, dI) (tC kc) (wC ad kc sv) A r τ) args s 0 0 A) (F0 m 22 ls []) := by
  have hx := S.1
  have hb := S.2.1
  have hown := S.2.2.2.1
  have hu := S.2.2.2.2
  unfold f_X1_solve_B22 at hg
  refine lv_iload_n hx hb dX1_solve_22 rfl (lv_at hl 2 rfl) ?_
  refine lv_ldc (own := RX1) (v := 1000000) hx hb hown (hu _ mG_1563) dX1_solve_23 ?_
  refine lv_icmp_ge (tgt := 68) hx hb dX1_solve_25 (by decide) (fun c25 => ?_) (fun c25 => ?_)
  · have hg := (if_pos c25).symm.trans hg
    exact w_X1_solve_b68 S hr hk hR hE X (lv_sub hl [0] rfl) hg
  · have hg := (if_neg c25).symm.trans hg
    refine lv_iload_n hx hb dX1_solve_28 rfl (lv_at hl 1 rfl) ?_
    refine lv_if_eq (tgt := 68) hx hb dX1_solve_29 (by decide) (fun c29 => ?_) (fun c29 => ?_)
    · have hg := (if_pos c29).symm.trans hg
      exact w_X1_solve_b68 S hr hk hR hE X (lv_sub hl [0] rfl) hg
    · have hg := (if_neg c29).symm.trans hg
      refine lv_iconst (v := 0) hx hb dX1_solve_32 (by decide) ?_
      refine lv_istore_n (lv' := [(1, .int 0), (0, .ref (ad 8)), (2, .int v2)]) hx hb dX1_solve_33 rfl hl (by decide) rfl (fun ls hl => ?_)
      refine lv_aload_n hx hb dX1_solve_34 rfl (lv_at hl 1 rfl) ?_
      refine wcgR_8_1 S X mG_600 dX1_solve_35 ?_
      refine wcgI_6 (v := (gI σ 6)) S X mG_301 rfl dX1_solve_38 ?_
      refine lv_iconst (v := 1) hx hb dX1_solve_41 (by decide) ?_
      refine lv_isub hx hb dX1_solve_42 ?_
      refine lv_istore_n (lv' := [(3, .int ((gI σ 6) - 1)), (1, .int 0), (0, .ref (ad 8)), (2, .int v2)]) hx hb dX1_solve_43 rfl hl (by decide) rfl (fun ls hl => ?_)
      exact w_X1_solve_L44 S hr hk hR hE hrec22 _ _ _ _ _ _ _ _ X (lv_sub hl [2, 1, 3, 0] rfl) hg
set_option maxHeartbeats 4000000 in
set_option maxRecDepth 100000 in
theorem w_X1_solve_L22 {E : Int32 → S5 → Option (Int64 × S5)} (S : CallFix p m c cX1_solve 4 s args uG RX1) (hr : meth.sig.returnType = none) (hk : meth.locks = false) (hR : fE + 3 ≤ R.frames ∧ lE + 75 ≤ R.locals)
    (hE : ∀ (a0 : Int32) (σ τ : S5) (r : Int64), E a0 σ = some (r, τ) → ∀ sz : Nat, Met l yX1_wordOf (Cond.code yX1_wordOf cX1_wordOf 3 (some .long) :: uG) { frames := fE, cells := 0, slots := 0, locals := lE } (gPc (dC, dI) (tC kc) (wC ad kc sv) (zC ak) [.ref (ad 8), .int a0] σ sz) (gQl (dC, dI) (tC kc) (wC ad kc sv) (va_A (wC ad kc sv σ) sz) r τ) 0 0 (va_A (wC ad kc sv σ) sz)) : ∀ (n : Nat) (v1 : Int32) (v2 : Int32) (σ : S5) (H : Heap) (locs : List Loc) (ls : Array Slot), gX (dC, dI) (tC kc) (wC ad kc sv) (zC ak) A s σ H locs → lv_has ls 4 [(0, .ref (ad 8)), (1, .int v1), (2, .int v2)] → f_X1_solve_L22 E n v1 v2 σ = some (r, τ) → W p l e R s m args below meth c H locs 0 0 (MQ below (gQv (dC, dI) (tC kc) (wC ad kc sv) A r τ) args s 0 0 A) (F0 m 22 ls []) := by
  intro n
  induction n with
  | zero => intro v1 v2 σ H locs ls X hl hg; cases hg
  | succ n ih => intro v1 v2 σ H locs ls X hl hg; exact w_X1_solve_B22 S hr hk hR hE ih X hl hg
set_option maxHeartbeats 4000000 in
set_option maxRecDepth 100000 in
theorem w_X1_solve {σ : S5} {E : Int32 → S5 → Option (Int64 × S5)}  {H : Heap} {locs : List Loc} {ls : Array Slot} (S : CallFix p m c cX1_solve 4 s args uG RX1) (hr : meth.sig.returnType = none) (hk : meth.locks = false) (hR : fE + 3 ≤ R.frames ∧ lE + 75 ≤ R.locals)
    (hE : ∀ (a0 : Int32) (σ τ : S5) (r : Int64), E a0 σ = some (r, τ) → ∀ sz : Nat, Met l yX1_wordOf (Cond.code yX1_wordOf cX1_wordOf 3 (some .long) :: uG) { frames := fE, cells := 0, slots := 0, locals := lE } (gPc (dC, dI) (tC kc) (wC ad kc sv) (zC ak) [.ref (ad 8), .int a0] σ sz) (gQl (dC, dI) (tC kc) (wC ad kc sv) (va_A (wC ad kc sv σ) sz) r τ) 0 0 (va_A (wC ad kc sv σ) sz))
    (X : gX (dC, dI) (tC kc) (wC ad kc sv) (zC ak) A s σ H locs) (hl : lv_has ls 4 [(0, .ref (ad 8))]) (hg : f_X1_solve E σ = some (r, τ)) : W p l e R s m args below meth c H locs 0 0 (MQ below (gQv (dC, dI) (tC kc) (wC ad kc sv) A r τ) args s 0 0 A) (F0 m 0 ls []) := by
  have hx := S.1
  have hb := S.2.1
  have hown := S.2.2.2.1
  have hu := S.2.2.2.2
  unfold f_X1_solve at hg
  refine lv_aload_n hx hb dX1_solve_0 rfl (lv_at hl 0 rfl) ?_
  refine wcgR_8_2 S X mG_601 dX1_solve_1 ?_
  refine lv_iconst (v := 0) hx hb dX1_solve_4 (by decide) ?_
  refine lv_aload_n hx hb dX1_solve_5 rfl (lv_at hl 0 rfl) ?_
  refine wcgR_8_1 S X mG_600 dX1_solve_6 ?_
  refine wcgI_6 (v := (gI σ 6)) S X mG_301 rfl dX1_solve_9 ?_
  refine lv_iconst (v := 4) hx hb dX1_solve_12 (by decide) ?_
  refine lv_imul hx hb dX1_solve_13 ?_
  refine lv_lconst (v := 0) hx hb dX1_solve_14 rfl ?_
  obtain ⟨r15, τ15, hq15, hg⟩ := bd_some hg
  refine gc_Tv (As := [.ref (ad 46), .int 0, .int ((gI σ 6) * 4), .long 0]) (rest := []) S X (k2_J7_fill_bad5a_dem_table l dC dI ad kc sv hq15 H.size) cw_J7_fill_bad5a mG_1318 rfl rfl hl.1 (Nat.le_of_ble_eq_true rfl) dX1_solve_15 ⟨by omega, by omega⟩ (fun H locs X => ?_)
  refine lv_iconst (v := 1) hx hb dX1_solve_18 (by decide) ?_
  refine lv_istore_n (lv' := [(1, .int 1), (0, .ref (ad 8))]) hx hb dX1_solve_19 rfl hl (by decide) rfl (fun ls hl => ?_)
  refine lv_iconst (v := 0) hx hb dX1_solve_20 (by decide) ?_
  refine lv_istore_n (lv' := [(2, .int 0), (1, .int 1), (0, .ref (ad 8))]) hx hb dX1_solve_21 rfl hl (by decide) rfl (fun ls hl => ?_)
  exact w_X1_solve_L22 S hr hk hR hE _ _ _ _ _ _ _ X (lv_sub hl [2, 1, 0] rfl) hg
end MX1_solve
set_option maxRecDepth 100000 in
theorem k2_X1_solve (l : Launch) (dC : Nat → ClassId) (dI : Nat → Nat → Nat) {ak : Nat → Nat} (ad : Nat → Nat) (kc : Nat → ClassId) (sv : Value) {E : Int32 → S5 → Option (Int64 × S5)} {fE lE : Nat} {σ τ : S5}  {r : Unit} (hE : ∀ (a0 : Int32) (σ τ : S5) (r : Int64), E a0 σ = some (r, τ) → ∀ sz : Nat, Met l yX1_wordOf (Cond.code yX1_wordOf cX1_wordOf 3 (some .long) :: uG) { frames := fE, cells := 0, slots := 0, locals := lE } (gPc (dC, dI) (tC kc) (wC ad kc sv) (zC ak) [.ref (ad 8), .int a0] σ sz) (gQl (dC, dI) (tC kc) (wC ad kc sv) (va_A (wC ad kc sv σ) sz) r τ) 0 0 (va_A (wC ad kc sv σ) sz)) (hg : f_X1_solve E  σ = some (r, τ)) (sz : Nat) : Met l yX1_solve (Cond.code yX1_solve cX1_solve 4 none :: uG) { frames := fE + 3, cells := 0, slots := 0, locals := lE + 75 } (gPc (dC, dI) (tC kc) (wC ad kc sv) (zC ak) [.ref (ad 8)] σ sz) (gQv (dC, dI) (tC kc) (wC ad kc sv) (va_A (wC ad kc sv σ) sz) r τ) 0 0 (va_A (wC ad kc sv σ) sz) :=
  g_start (by decide) (Nat.le_of_ble_eq_true rfl) (fun p e s m below meth c ls S hr hk X hl => w_X1_solve S hr hk ⟨Nat.le_refl _, Nat.le_refl _⟩ hE X hl hg)
