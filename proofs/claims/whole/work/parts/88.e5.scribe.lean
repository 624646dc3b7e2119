theorem sw_0_4 (x : Int32) : (x.toInt < 0 ∨ 4 < x.toInt) ∨ x = 0 ∨ x = 1 ∨ x = 2 ∨ x = 3 ∨ x = 4 := by
  by_cases h : x.toInt < 0 ∨ 4 < x.toInt
  · exact Or.inl h
  · have h2 : x.toInt = 0 ∨ x.toInt = 1 ∨ x.toInt = 2 ∨ x.toInt = 3 ∨ x.toInt = 4 := by omega
    refine Or.inr ?_
    rcases h2 with h | h | h | h | h
    · exact Or.inl (Int32.toInt_inj.mp (h.trans (by decide)))
    · exact Or.inr (Or.inl (Int32.toInt_inj.mp (h.trans (by decide))))
    · exact Or.inr (Or.inr (Or.inl (Int32.toInt_inj.mp (h.trans (by decide)))))
    · exact Or.inr (Or.inr (Or.inr (Or.inl (Int32.toInt_inj.mp (h.trans (by decide))))))
    · exact Or.inr (Or.inr (Or.inr (Or.inr (Int32.toInt_inj.mp (h.trans (by decide))))))
theorem swo_0_4 {x : Int32} (h : x.toInt < 0 ∨ 4 < x.toInt) : ¬ x = 0 ∧ ¬ x = 1 ∧ ¬ x = 2 ∧ ¬ x = 3 ∧ ¬ x = 4 := by
  refine ⟨?_, ?_, ?_, ?_, ?_⟩ <;> (intro e; rw [e] at h; revert h; decide)

theorem sw_5_9 (x : Int32) : (x.toInt < 5 ∨ 9 < x.toInt) ∨ x = 5 ∨ x = 6 ∨ x = 7 ∨ x = 8 ∨ x = 9 := by
  by_cases h : x.toInt < 5 ∨ 9 < x.toInt
  · exact Or.inl h
  · have h2 : x.toInt = 5 ∨ x.toInt = 6 ∨ x.toInt = 7 ∨ x.toInt = 8 ∨ x.toInt = 9 := by omega
    refine Or.inr ?_
    rcases h2 with h | h | h | h | h
    · exact Or.inl (Int32.toInt_inj.mp (h.trans (by decide)))
    · exact Or.inr (Or.inl (Int32.toInt_inj.mp (h.trans (by decide))))
    · exact Or.inr (Or.inr (Or.inl (Int32.toInt_inj.mp (h.trans (by decide)))))
    · exact Or.inr (Or.inr (Or.inr (Or.inl (Int32.toInt_inj.mp (h.trans (by decide))))))
    · exact Or.inr (Or.inr (Or.inr (Or.inr (Int32.toInt_inj.mp (h.trans (by decide))))))
theorem swo_5_9 {x : Int32} (h : x.toInt < 5 ∨ 9 < x.toInt) : ¬ x = 5 ∧ ¬ x = 6 ∧ ¬ x = 7 ∧ ¬ x = 8 ∧ ¬ x = 9 := by
  refine ⟨?_, ?_, ?_, ?_, ?_⟩ <;> (intro e; rw [e] at h; revert h; decide)


theorem mG_60 : Cond.selects "LazyForge$Scribe" yX7_writeConstructors yX7_writeConstructors ∈ uG := uG_at 60 (by decide +kernel) (by decide +kernel)
theorem mG_61 : Cond.selects "LazyForge$Scribe" yX7_writeFunction yX7_writeFunction ∈ uG := uG_at 61 (by decide +kernel) (by decide +kernel)
theorem mG_62 : Cond.selects "LazyForge$Scribe" yX7_writeVariable yX7_writeVariable ∈ uG := uG_at 62 (by decide +kernel) (by decide +kernel)
theorem mG_63 : Cond.selects "LazyForge$Scribe" yX7_writePart yX7_writePart ∈ uG := uG_at 63 (by decide +kernel) (by decide +kernel)
theorem mG_64 : Cond.selects "LazyForge$Scribe" yX7_writeInner yX7_writeInner ∈ uG := uG_at 64 (by decide +kernel) (by decide +kernel)
theorem mG_65 : Cond.selects "LazyForge$Scribe" yX7_writeSign yX7_writeSign ∈ uG := uG_at 65 (by decide +kernel) (by decide +kernel)
theorem mG_66 : Cond.selects "LazyForge$Scribe" yX7_writeAlternatives yX7_writeAlternatives ∈ uG := uG_at 66 (by decide +kernel) (by decide +kernel)
theorem mG_67 : Cond.selects "LazyForge$Scribe" yX7_writePattern yX7_writePattern ∈ uG := uG_at 67 (by decide +kernel) (by decide +kernel)
theorem mG_68 : Cond.selects "LazyForge$Scribe" yX7_writeBindings yX7_writeBindings ∈ uG := uG_at 68 (by decide +kernel) (by decide +kernel)
theorem mG_69 : Cond.selects "LazyForge$Scribe" yX7_writeRow yX7_writeRow ∈ uG := uG_at 69 (by decide +kernel) (by decide +kernel)
theorem mG_283 : Cond.fieldLink "LazyForge$Scribe" 69 "LazyForge$Program" "constructorName" "[J" ∈ uG := uG_at 283 (by decide +kernel) (by decide +kernel)
theorem mG_285 : Cond.fieldLink "LazyForge$Scribe" 77 "LazyForge$Program" "fields" "[I" ∈ uG := uG_at 285 (by decide +kernel) (by decide +kernel)
theorem mG_291 : Cond.fieldLink "LazyForge$Scribe" 62 "LazyForge$Program" "constructors" "I" ∈ uG := uG_at 291 (by decide +kernel) (by decide +kernel)
theorem mG_299 : Cond.fieldLink "LazyForge$Scribe" 26 "LazyForge$Program" "functions" "I" ∈ uG := uG_at 299 (by decide +kernel) (by decide +kernel)
theorem mG_306 : Cond.fieldLink "LazyForge$Scribe" 83 "LazyForge$Program" "main" "I" ∈ uG := uG_at 306 (by decide +kernel) (by decide +kernel)
theorem mG_309 : Cond.fieldLink "LazyForge$Scribe" 36 "LazyForge$Program" "parameters" "[I" ∈ uG := uG_at 309 (by decide +kernel) (by decide +kernel)
theorem mG_323 : Cond.fieldLink "LazyForge$Scribe" 54 "LazyForge$Program" "root" "[I" ∈ uG := uG_at 323 (by decide +kernel) (by decide +kernel)
theorem mG_382 : Cond.fieldLink "LazyForge$Scribe" 92 "LazyForge$Tree" "kind" "[I" ∈ uG := uG_at 382 (by decide +kernel) (by decide +kernel)
theorem mG_386 : Cond.fieldLink "LazyForge$Scribe" 87 "LazyForge$Tree" "value" "[I" ∈ uG := uG_at 386 (by decide +kernel) (by decide +kernel)
theorem mG_392 : Cond.fieldLink "LazyForge$Scribe" 139 "LazyForge$Tree" "slot" "[I" ∈ uG := uG_at 392 (by decide +kernel) (by decide +kernel)
theorem mG_397 : Cond.fieldLink "LazyForge$Scribe" 100 "LazyForge$Tree" "kid" "[I" ∈ uG := uG_at 397 (by decide +kernel) (by decide +kernel)
theorem mG_401 : Cond.fieldLink "LazyForge$Scribe" 106 "LazyForge$Tree" "next" "[I" ∈ uG := uG_at 401 (by decide +kernel) (by decide +kernel)
theorem mG_632 : Cond.fieldLink "LazyForge$Scribe" 19 "LazyForge$Scribe" "sheet" "LLazyForge$Signs;" ∈ uG := uG_at 632 (by decide +kernel) (by decide +kernel)
theorem mG_1646 : Cond.methodLink "LazyForge$Scribe" 23 yX7_writeConstructors ∈ uG := uG_at 1646 (by decide +kernel) (by decide +kernel)
theorem mG_1648 : Cond.instanceMethod yX7_writeConstructors ∈ uG := uG_at 1648 (by decide +kernel) (by decide +kernel)
theorem mG_1649 : Cond.code yX7_writeConstructors prog_9_method_3_code 2 none ∈ uG := uG_at 1649 (by decide +kernel) (by decide +kernel)
theorem mG_1652 : Cond.methodLink "LazyForge$Scribe" 50 yX8_addText ∈ uG := uG_at 1652 (by decide +kernel) (by decide +kernel)
theorem mG_1653 : Cond.instanceMethod yX8_addText ∈ uG := uG_at 1653 (by decide +kernel) (by decide +kernel)
theorem mG_1654 : Cond.selects "LazyForge$Signs" yX8_addText yX8_addText ∈ uG := uG_at 1654 (by decide +kernel) (by decide +kernel)
theorem mG_1655 : Cond.code yX8_addText prog_10_method_4_code 3 none ∈ uG := uG_at 1655 (by decide +kernel) (by decide +kernel)
theorem mG_1677 : Cond.methodLink "LazyForge$Scribe" 73 yX8_addName ∈ uG := uG_at 1677 (by decide +kernel) (by decide +kernel)
theorem mG_1678 : Cond.instanceMethod yX8_addName ∈ uG := uG_at 1678 (by decide +kernel) (by decide +kernel)
theorem mG_1679 : Cond.selects "LazyForge$Signs" yX8_addName yX8_addName ∈ uG := uG_at 1679 (by decide +kernel) (by decide +kernel)
theorem mG_1680 : Cond.code yX8_addName prog_10_method_6_code 5 none ∈ uG := uG_at 1680 (by decide +kernel) (by decide +kernel)
theorem mG_1681 : Cond.methodLink "LazyForge$Scribe" 40 yX8_add ∈ uG := uG_at 1681 (by decide +kernel) (by decide +kernel)
theorem mG_1682 : Cond.methodLink "LazyForge$Scribe" 80 yX8_addNumber ∈ uG := uG_at 1682 (by decide +kernel) (by decide +kernel)
theorem mG_1683 : Cond.instanceMethod yX8_addNumber ∈ uG := uG_at 1683 (by decide +kernel) (by decide +kernel)
theorem mG_1684 : Cond.selects "LazyForge$Signs" yX8_addNumber yX8_addNumber ∈ uG := uG_at 1684 (by decide +kernel) (by decide +kernel)
theorem mG_1685 : Cond.code yX8_addNumber prog_10_method_5_code 4 none ∈ uG := uG_at 1685 (by decide +kernel) (by decide +kernel)
theorem mG_1687 : Cond.methodLink "LazyForge$Scribe" 32 yX7_writeFunction ∈ uG := uG_at 1687 (by decide +kernel) (by decide +kernel)
theorem mG_1689 : Cond.instanceMethod yX7_writeFunction ∈ uG := uG_at 1689 (by decide +kernel) (by decide +kernel)
theorem mG_1690 : Cond.code yX7_writeFunction prog_9_method_4_code 2 none ∈ uG := uG_at 1690 (by decide +kernel) (by decide +kernel)
theorem mG_1692 : Cond.methodLink "LazyForge$Scribe" 45 yX7_writeVariable ∈ uG := uG_at 1692 (by decide +kernel) (by decide +kernel)
theorem mG_1694 : Cond.instanceMethod yX7_writeVariable ∈ uG := uG_at 1694 (by decide +kernel) (by decide +kernel)
theorem mG_1695 : Cond.code yX7_writeVariable prog_9_method_5_code 2 none ∈ uG := uG_at 1695 (by decide +kernel) (by decide +kernel)
theorem mG_1697 : Cond.methodLink "LazyForge$Scribe" 57 yX7_writePart ∈ uG := uG_at 1697 (by decide +kernel) (by decide +kernel)
theorem mG_1699 : Cond.instanceMethod yX7_writePart ∈ uG := uG_at 1699 (by decide +kernel) (by decide +kernel)
theorem mG_1700 : Cond.code yX7_writePart prog_9_method_6_code 3 none ∈ uG := uG_at 1700 (by decide +kernel) (by decide +kernel)
theorem mG_1702 : Cond.methodLink "LazyForge$Scribe" 97 yX7_writeInner ∈ uG := uG_at 1702 (by decide +kernel) (by decide +kernel)
theorem mG_1704 : Cond.instanceMethod yX7_writeInner ∈ uG := uG_at 1704 (by decide +kernel) (by decide +kernel)
theorem mG_1705 : Cond.code yX7_writeInner prog_9_method_7_code 3 none ∈ uG := uG_at 1705 (by decide +kernel) (by decide +kernel)
theorem mG_1706 : Cond.methodLink "LazyForge$Scribe" 103 yX7_writeSign ∈ uG := uG_at 1706 (by decide +kernel) (by decide +kernel)
theorem mG_1708 : Cond.instanceMethod yX7_writeSign ∈ uG := uG_at 1708 (by decide +kernel) (by decide +kernel)
theorem mG_1709 : Cond.code yX7_writeSign prog_9_method_8_code 2 none ∈ uG := uG_at 1709 (by decide +kernel) (by decide +kernel)
theorem mG_1714 : Cond.methodLink "LazyForge$Scribe" 113 yX7_writeAlternatives ∈ uG := uG_at 1714 (by decide +kernel) (by decide +kernel)
theorem mG_1716 : Cond.instanceMethod yX7_writeAlternatives ∈ uG := uG_at 1716 (by decide +kernel) (by decide +kernel)
theorem mG_1717 : Cond.code yX7_writeAlternatives prog_9_method_11_code 4 none ∈ uG := uG_at 1717 (by decide +kernel) (by decide +kernel)
theorem mG_1719 : Cond.methodLink "LazyForge$Scribe" 134 yX7_writePattern ∈ uG := uG_at 1719 (by decide +kernel) (by decide +kernel)
theorem mG_1721 : Cond.instanceMethod yX7_writePattern ∈ uG := uG_at 1721 (by decide +kernel) (by decide +kernel)
theorem mG_1722 : Cond.code yX7_writePattern prog_9_method_12_code 4 none ∈ uG := uG_at 1722 (by decide +kernel) (by decide +kernel)
theorem mG_1725 : Cond.methodLink "LazyForge$Scribe" 118 yX7_writeBindings ∈ uG := uG_at 1725 (by decide +kernel) (by decide +kernel)
theorem mG_1727 : Cond.instanceMethod yX7_writeBindings ∈ uG := uG_at 1727 (by decide +kernel) (by decide +kernel)
theorem mG_1728 : Cond.code yX7_writeBindings prog_9_method_10_code 4 none ∈ uG := uG_at 1728 (by decide +kernel) (by decide +kernel)
theorem mG_1731 : Cond.methodLink "LazyForge$Scribe" 123 yX7_writeRow ∈ uG := uG_at 1731 (by decide +kernel) (by decide +kernel)
theorem mG_1733 : Cond.instanceMethod yX7_writeRow ∈ uG := uG_at 1733 (by decide +kernel) (by decide +kernel)
theorem mG_1734 : Cond.code yX7_writeRow prog_9_method_9_code 4 none ∈ uG := uG_at 1734 (by decide +kernel) (by decide +kernel)
theorem dX7_writeAlternatives_0 : decode cX7_writeAlternatives 0 = .ok (.iconst 0, 1) := by decide +kernel
theorem dX7_writeAlternatives_1 : decode cX7_writeAlternatives 1 = .ok (.istore_n 2, 1) := by decide +kernel
theorem dX7_writeAlternatives_2 : decode cX7_writeAlternatives 2 = .ok (.iload_n 1, 1) := by decide +kernel
theorem dX7_writeAlternatives_3 : decode cX7_writeAlternatives 3 = .ok (.istore_n 3, 1) := by decide +kernel
theorem dX7_writeAlternatives_4 : decode cX7_writeAlternatives 4 = .ok (.iload_n 2, 1) := by decide +kernel
theorem dX7_writeAlternatives_5 : decode cX7_writeAlternatives 5 = .ok (.bipush 10, 2) := by decide +kernel
theorem dX7_writeAlternatives_7 : decode cX7_writeAlternatives 7 = .ok (.if_icmp .ge 64, 3) := by decide +kernel
theorem dX7_writeAlternatives_10 : decode cX7_writeAlternatives 10 = .ok (.iload_n 3, 1) := by decide +kernel
theorem dX7_writeAlternatives_11 : decode cX7_writeAlternatives 11 = .ok (.iconst (-1), 1) := by decide +kernel
theorem dX7_writeAlternatives_12 : decode cX7_writeAlternatives 12 = .ok (.if_icmp .eq 59, 3) := by decide +kernel
theorem dX7_writeAlternatives_15 : decode cX7_writeAlternatives 15 = .ok (.iload_n 2, 1) := by decide +kernel
theorem dX7_writeAlternatives_16 : decode cX7_writeAlternatives 16 = .ok (.ifCond .le 12, 3) := by decide +kernel
theorem dX7_writeAlternatives_19 : decode cX7_writeAlternatives 19 = .ok (.aload_n 0, 1) := by decide +kernel
theorem dX7_writeAlternatives_20 : decode cX7_writeAlternatives 20 = .ok (.getfield 19, 3) := by decide +kernel
theorem dX7_writeAlternatives_23 : decode cX7_writeAlternatives 23 = .ok (.ldc 132, 2) := by decide +kernel
theorem dX7_writeAlternatives_25 : decode cX7_writeAlternatives 25 = .ok (.invokevirtual 50, 3) := by decide +kernel
theorem dX7_writeAlternatives_28 : decode cX7_writeAlternatives 28 = .ok (.aload_n 0, 1) := by decide +kernel
theorem dX7_writeAlternatives_29 : decode cX7_writeAlternatives 29 = .ok (.iload_n 3, 1) := by decide +kernel
theorem dX7_writeAlternatives_30 : decode cX7_writeAlternatives 30 = .ok (.invokevirtual 134, 3) := by decide +kernel
theorem dX7_writeAlternatives_33 : decode cX7_writeAlternatives 33 = .ok (.aload_n 0, 1) := by decide +kernel
theorem dX7_writeAlternatives_34 : decode cX7_writeAlternatives 34 = .ok (.getfield 19, 3) := by decide +kernel
theorem dX7_writeAlternatives_37 : decode cX7_writeAlternatives 37 = .ok (.ldc 137, 2) := by decide +kernel
theorem dX7_writeAlternatives_39 : decode cX7_writeAlternatives 39 = .ok (.invokevirtual 50, 3) := by decide +kernel
theorem dX7_writeAlternatives_42 : decode cX7_writeAlternatives 42 = .ok (.aload_n 0, 1) := by decide +kernel
theorem dX7_writeAlternatives_43 : decode cX7_writeAlternatives 43 = .ok (.aload_n 0, 1) := by decide +kernel
theorem dX7_writeAlternatives_44 : decode cX7_writeAlternatives 44 = .ok (.getfield 9, 3) := by decide +kernel
theorem dX7_writeAlternatives_47 : decode cX7_writeAlternatives 47 = .ok (.getfield 100, 3) := by decide +kernel
theorem dX7_writeAlternatives_50 : decode cX7_writeAlternatives 50 = .ok (.iload_n 3, 1) := by decide +kernel
theorem dX7_writeAlternatives_51 : decode cX7_writeAlternatives 51 = .ok (.iaload, 1) := by decide +kernel
theorem dX7_writeAlternatives_52 : decode cX7_writeAlternatives 52 = .ok (.invokevirtual 57, 3) := by decide +kernel
theorem dX7_writeAlternatives_55 : decode cX7_writeAlternatives 55 = .ok (.iinc 2 1, 3) := by decide +kernel
theorem dX7_writeAlternatives_58 : decode cX7_writeAlternatives 58 = .ok (.aload_n 0, 1) := by decide +kernel
theorem dX7_writeAlternatives_59 : decode cX7_writeAlternatives 59 = .ok (.getfield 9, 3) := by decide +kernel
theorem dX7_writeAlternatives_62 : decode cX7_writeAlternatives 62 = .ok (.getfield 106, 3) := by decide +kernel
theorem dX7_writeAlternatives_65 : decode cX7_writeAlternatives 65 = .ok (.iload_n 3, 1) := by decide +kernel
theorem dX7_writeAlternatives_66 : decode cX7_writeAlternatives 66 = .ok (.iaload, 1) := by decide +kernel
theorem dX7_writeAlternatives_67 : decode cX7_writeAlternatives 67 = .ok (.istore_n 3, 1) := by decide +kernel
theorem dX7_writeAlternatives_68 : decode cX7_writeAlternatives 68 = .ok (.goto (-64), 3) := by decide +kernel
theorem dX7_writeAlternatives_71 : decode cX7_writeAlternatives 71 = .ok (.return_, 1) := by decide +kernel
theorem dX7_writeBindings_0 : decode cX7_writeBindings 0 = .ok (.iconst 0, 1) := by decide +kernel
theorem dX7_writeBindings_1 : decode cX7_writeBindings 1 = .ok (.istore_n 2, 1) := by decide +kernel
theorem dX7_writeBindings_2 : decode cX7_writeBindings 2 = .ok (.iload_n 1, 1) := by decide +kernel
theorem dX7_writeBindings_3 : decode cX7_writeBindings 3 = .ok (.istore_n 3, 1) := by decide +kernel
theorem dX7_writeBindings_4 : decode cX7_writeBindings 4 = .ok (.iload_n 2, 1) := by decide +kernel
theorem dX7_writeBindings_5 : decode cX7_writeBindings 5 = .ok (.bipush 10, 2) := by decide +kernel
theorem dX7_writeBindings_7 : decode cX7_writeBindings 7 = .ok (.if_icmp .ge 72, 3) := by decide +kernel
theorem dX7_writeBindings_10 : decode cX7_writeBindings 10 = .ok (.iload_n 3, 1) := by decide +kernel
theorem dX7_writeBindings_11 : decode cX7_writeBindings 11 = .ok (.iconst (-1), 1) := by decide +kernel
theorem dX7_writeBindings_12 : decode cX7_writeBindings 12 = .ok (.if_icmp .eq 67, 3) := by decide +kernel
theorem dX7_writeBindings_15 : decode cX7_writeBindings 15 = .ok (.iload_n 2, 1) := by decide +kernel
theorem dX7_writeBindings_16 : decode cX7_writeBindings 16 = .ok (.ifCond .le 12, 3) := by decide +kernel
theorem dX7_writeBindings_19 : decode cX7_writeBindings 19 = .ok (.aload_n 0, 1) := by decide +kernel
theorem dX7_writeBindings_20 : decode cX7_writeBindings 20 = .ok (.getfield 19, 3) := by decide +kernel
theorem dX7_writeBindings_23 : decode cX7_writeBindings 23 = .ok (.ldc 130, 2) := by decide +kernel
theorem dX7_writeBindings_25 : decode cX7_writeBindings 25 = .ok (.invokevirtual 50, 3) := by decide +kernel
theorem dX7_writeBindings_28 : decode cX7_writeBindings 28 = .ok (.aload_n 0, 1) := by decide +kernel
theorem dX7_writeBindings_29 : decode cX7_writeBindings 29 = .ok (.aload_n 0, 1) := by decide +kernel
theorem dX7_writeBindings_30 : decode cX7_writeBindings 30 = .ok (.getfield 9, 3) := by decide +kernel
theorem dX7_writeBindings_33 : decode cX7_writeBindings 33 = .ok (.getfield 87, 3) := by decide +kernel
theorem dX7_writeBindings_36 : decode cX7_writeBindings 36 = .ok (.iload_n 3, 1) := by decide +kernel
theorem dX7_writeBindings_37 : decode cX7_writeBindings 37 = .ok (.iaload, 1) := by decide +kernel
theorem dX7_writeBindings_38 : decode cX7_writeBindings 38 = .ok (.invokevirtual 45, 3) := by decide +kernel
theorem dX7_writeBindings_41 : decode cX7_writeBindings 41 = .ok (.aload_n 0, 1) := by decide +kernel
theorem dX7_writeBindings_42 : decode cX7_writeBindings 42 = .ok (.getfield 19, 3) := by decide +kernel
theorem dX7_writeBindings_45 : decode cX7_writeBindings 45 = .ok (.ldc 48, 2) := by decide +kernel
theorem dX7_writeBindings_47 : decode cX7_writeBindings 47 = .ok (.invokevirtual 50, 3) := by decide +kernel
theorem dX7_writeBindings_50 : decode cX7_writeBindings 50 = .ok (.aload_n 0, 1) := by decide +kernel
theorem dX7_writeBindings_51 : decode cX7_writeBindings 51 = .ok (.aload_n 0, 1) := by decide +kernel
theorem dX7_writeBindings_52 : decode cX7_writeBindings 52 = .ok (.getfield 9, 3) := by decide +kernel
theorem dX7_writeBindings_55 : decode cX7_writeBindings 55 = .ok (.getfield 100, 3) := by decide +kernel
theorem dX7_writeBindings_58 : decode cX7_writeBindings 58 = .ok (.iload_n 3, 1) := by decide +kernel
theorem dX7_writeBindings_59 : decode cX7_writeBindings 59 = .ok (.iaload, 1) := by decide +kernel
theorem dX7_writeBindings_60 : decode cX7_writeBindings 60 = .ok (.invokevirtual 57, 3) := by decide +kernel
theorem dX7_writeBindings_63 : decode cX7_writeBindings 63 = .ok (.iinc 2 1, 3) := by decide +kernel
theorem dX7_writeBindings_66 : decode cX7_writeBindings 66 = .ok (.aload_n 0, 1) := by decide +kernel
theorem dX7_writeBindings_67 : decode cX7_writeBindings 67 = .ok (.getfield 9, 3) := by decide +kernel
theorem dX7_writeBindings_70 : decode cX7_writeBindings 70 = .ok (.getfield 106, 3) := by decide +kernel
theorem dX7_writeBindings_73 : decode cX7_writeBindings 73 = .ok (.iload_n 3, 1) := by decide +kernel
theorem dX7_writeBindings_74 : decode cX7_writeBindings 74 = .ok (.iaload, 1) := by decide +kernel
theorem dX7_writeBindings_75 : decode cX7_writeBindings 75 = .ok (.istore_n 3, 1) := by decide +kernel
theorem dX7_writeBindings_76 : decode cX7_writeBindings 76 = .ok (.goto (-72), 3) := by decide +kernel
theorem dX7_writeBindings_79 : decode cX7_writeBindings 79 = .ok (.return_, 1) := by decide +kernel
theorem dX7_writeConstructors_0 : decode cX7_writeConstructors 0 = .ok (.iconst 2, 1) := by decide +kernel
theorem dX7_writeConstructors_1 : decode cX7_writeConstructors 1 = .ok (.istore_n 1, 1) := by decide +kernel
theorem dX7_writeConstructors_2 : decode cX7_writeConstructors 2 = .ok (.iload_n 1, 1) := by decide +kernel
theorem dX7_writeConstructors_3 : decode cX7_writeConstructors 3 = .ok (.aload_n 0, 1) := by decide +kernel
theorem dX7_writeConstructors_4 : decode cX7_writeConstructors 4 = .ok (.getfield 15, 3) := by decide +kernel
theorem dX7_writeConstructors_7 : decode cX7_writeConstructors 7 = .ok (.getfield 62, 3) := by decide +kernel
theorem dX7_writeConstructors_10 : decode cX7_writeConstructors 10 = .ok (.if_icmp .ge 69, 3) := by decide +kernel
theorem dX7_writeConstructors_13 : decode cX7_writeConstructors 13 = .ok (.aload_n 0, 1) := by decide +kernel
theorem dX7_writeConstructors_14 : decode cX7_writeConstructors 14 = .ok (.getfield 19, 3) := by decide +kernel
theorem dX7_writeConstructors_17 : decode cX7_writeConstructors 17 = .ok (.iload_n 1, 1) := by decide +kernel
theorem dX7_writeConstructors_18 : decode cX7_writeConstructors 18 = .ok (.iconst 2, 1) := by decide +kernel
theorem dX7_writeConstructors_19 : decode cX7_writeConstructors 19 = .ok (.if_icmp .ne 8, 3) := by decide +kernel
theorem dX7_writeConstructors_22 : decode cX7_writeConstructors 22 = .ok (.ldc 65, 2) := by decide +kernel
theorem dX7_writeConstructors_24 : decode cX7_writeConstructors 24 = .ok (.goto 5, 3) := by decide +kernel
theorem dX7_writeConstructors_27 : decode cX7_writeConstructors 27 = .ok (.ldc 67, 2) := by decide +kernel
theorem dX7_writeConstructors_29 : decode cX7_writeConstructors 29 = .ok (.invokevirtual 50, 3) := by decide +kernel
theorem dX7_writeConstructors_32 : decode cX7_writeConstructors 32 = .ok (.aload_n 0, 1) := by decide +kernel
theorem dX7_writeConstructors_33 : decode cX7_writeConstructors 33 = .ok (.getfield 19, 3) := by decide +kernel
theorem dX7_writeConstructors_36 : decode cX7_writeConstructors 36 = .ok (.aload_n 0, 1) := by decide +kernel
theorem dX7_writeConstructors_37 : decode cX7_writeConstructors 37 = .ok (.getfield 15, 3) := by decide +kernel
theorem dX7_writeConstructors_40 : decode cX7_writeConstructors 40 = .ok (.getfield 69, 3) := by decide +kernel
theorem dX7_writeConstructors_43 : decode cX7_writeConstructors 43 = .ok (.iload_n 1, 1) := by decide +kernel
theorem dX7_writeConstructors_44 : decode cX7_writeConstructors 44 = .ok (.laload, 1) := by decide +kernel
theorem dX7_writeConstructors_45 : decode cX7_writeConstructors 45 = .ok (.invokevirtual 73, 3) := by decide +kernel
theorem dX7_writeConstructors_48 : decode cX7_writeConstructors 48 = .ok (.aload_n 0, 1) := by decide +kernel
theorem dX7_writeConstructors_49 : decode cX7_writeConstructors 49 = .ok (.getfield 19, 3) := by decide +kernel
theorem dX7_writeConstructors_52 : decode cX7_writeConstructors 52 = .ok (.bipush 32, 2) := by decide +kernel
theorem dX7_writeConstructors_54 : decode cX7_writeConstructors 54 = .ok (.invokevirtual 40, 3) := by decide +kernel
theorem dX7_writeConstructors_57 : decode cX7_writeConstructors 57 = .ok (.aload_n 0, 1) := by decide +kernel
theorem dX7_writeConstructors_58 : decode cX7_writeConstructors 58 = .ok (.getfield 19, 3) := by decide +kernel
theorem dX7_writeConstructors_61 : decode cX7_writeConstructors 61 = .ok (.aload_n 0, 1) := by decide +kernel
theorem dX7_writeConstructors_62 : decode cX7_writeConstructors 62 = .ok (.getfield 15, 3) := by decide +kernel
theorem dX7_writeConstructors_65 : decode cX7_writeConstructors 65 = .ok (.getfield 77, 3) := by decide +kernel
theorem dX7_writeConstructors_68 : decode cX7_writeConstructors 68 = .ok (.iload_n 1, 1) := by decide +kernel
theorem dX7_writeConstructors_69 : decode cX7_writeConstructors 69 = .ok (.iaload, 1) := by decide +kernel
theorem dX7_writeConstructors_70 : decode cX7_writeConstructors 70 = .ok (.invokevirtual 80, 3) := by decide +kernel
theorem dX7_writeConstructors_73 : decode cX7_writeConstructors 73 = .ok (.iinc 1 1, 3) := by decide +kernel
theorem dX7_writeConstructors_76 : decode cX7_writeConstructors 76 = .ok (.goto (-74), 3) := by decide +kernel
theorem dX7_writeConstructors_79 : decode cX7_writeConstructors 79 = .ok (.aload_n 0, 1) := by decide +kernel
theorem dX7_writeConstructors_80 : decode cX7_writeConstructors 80 = .ok (.getfield 15, 3) := by decide +kernel
theorem dX7_writeConstructors_83 : decode cX7_writeConstructors 83 = .ok (.getfield 62, 3) := by decide +kernel
theorem dX7_writeConstructors_86 : decode cX7_writeConstructors 86 = .ok (.iconst 2, 1) := by decide +kernel
theorem dX7_writeConstructors_87 : decode cX7_writeConstructors 87 = .ok (.if_icmp .le 12, 3) := by decide +kernel
theorem dX7_writeConstructors_90 : decode cX7_writeConstructors 90 = .ok (.aload_n 0, 1) := by decide +kernel
theorem dX7_writeConstructors_91 : decode cX7_writeConstructors 91 = .ok (.getfield 19, 3) := by decide +kernel
theorem dX7_writeConstructors_94 : decode cX7_writeConstructors 94 = .ok (.ldc 60, 2) := by decide +kernel
theorem dX7_writeConstructors_96 : decode cX7_writeConstructors 96 = .ok (.invokevirtual 50, 3) := by decide +kernel
theorem dX7_writeConstructors_99 : decode cX7_writeConstructors 99 = .ok (.return_, 1) := by decide +kernel
theorem dX7_writeFunction_0 : decode cX7_writeFunction 0 = .ok (.iload_n 1, 1) := by decide +kernel
theorem dX7_writeFunction_1 : decode cX7_writeFunction 1 = .ok (.aload_n 0, 1) := by decide +kernel
theorem dX7_writeFunction_2 : decode cX7_writeFunction 2 = .ok (.getfield 15, 3) := by decide +kernel
theorem dX7_writeFunction_5 : decode cX7_writeFunction 5 = .ok (.getfield 83, 3) := by decide +kernel
theorem dX7_writeFunction_8 : decode cX7_writeFunction 8 = .ok (.if_icmp .ne 15, 3) := by decide +kernel
theorem dX7_writeFunction_11 : decode cX7_writeFunction 11 = .ok (.aload_n 0, 1) := by decide +kernel
theorem dX7_writeFunction_12 : decode cX7_writeFunction 12 = .ok (.getfield 19, 3) := by decide +kernel
theorem dX7_writeFunction_15 : decode cX7_writeFunction 15 = .ok (.ldc 86, 2) := by decide +kernel
theorem dX7_writeFunction_17 : decode cX7_writeFunction 17 = .ok (.invokevirtual 50, 3) := by decide +kernel
theorem dX7_writeFunction_20 : decode cX7_writeFunction 20 = .ok (.goto 20, 3) := by decide +kernel
theorem dX7_writeFunction_23 : decode cX7_writeFunction 23 = .ok (.aload_n 0, 1) := by decide +kernel
theorem dX7_writeFunction_24 : decode cX7_writeFunction 24 = .ok (.getfield 19, 3) := by decide +kernel
theorem dX7_writeFunction_27 : decode cX7_writeFunction 27 = .ok (.bipush 102, 2) := by decide +kernel
theorem dX7_writeFunction_29 : decode cX7_writeFunction 29 = .ok (.invokevirtual 40, 3) := by decide +kernel
theorem dX7_writeFunction_32 : decode cX7_writeFunction 32 = .ok (.aload_n 0, 1) := by decide +kernel
theorem dX7_writeFunction_33 : decode cX7_writeFunction 33 = .ok (.getfield 19, 3) := by decide +kernel
theorem dX7_writeFunction_36 : decode cX7_writeFunction 36 = .ok (.iload_n 1, 1) := by decide +kernel
theorem dX7_writeFunction_37 : decode cX7_writeFunction 37 = .ok (.invokevirtual 80, 3) := by decide +kernel
theorem dX7_writeFunction_40 : decode cX7_writeFunction 40 = .ok (.return_, 1) := by decide +kernel
theorem dX7_writeInner_0 : decode cX7_writeInner 0 = .ok (.aload_n 0, 1) := by decide +kernel
theorem dX7_writeInner_1 : decode cX7_writeInner 1 = .ok (.getfield 9, 3) := by decide +kernel
theorem dX7_writeInner_4 : decode cX7_writeInner 4 = .ok (.getfield 100, 3) := by decide +kernel
theorem dX7_writeInner_7 : decode cX7_writeInner 7 = .ok (.iload_n 1, 1) := by decide +kernel
theorem dX7_writeInner_8 : decode cX7_writeInner 8 = .ok (.iaload, 1) := by decide +kernel
theorem dX7_writeInner_9 : decode cX7_writeInner 9 = .ok (.istore_n 2, 1) := by decide +kernel
theorem dX7_writeInner_10 : decode cX7_writeInner 10 = .ok (.aload_n 0, 1) := by decide +kernel
theorem dX7_writeInner_11 : decode cX7_writeInner 11 = .ok (.getfield 9, 3) := by decide +kernel
theorem dX7_writeInner_14 : decode cX7_writeInner 14 = .ok (.getfield 92, 3) := by decide +kernel
theorem dX7_writeInner_17 : decode cX7_writeInner 17 = .ok (.iload_n 1, 1) := by decide +kernel
theorem dX7_writeInner_18 : decode cX7_writeInner 18 = .ok (.iaload, 1) := by decide +kernel
theorem dX7_writeInner_19 : decode cX7_writeInner 19 = .ok (.tableswitch 195 5 9 #[33, 67, 115, 195, 154], 33) := by decide +kernel
theorem dX7_writeInner_52 : decode cX7_writeInner 52 = .ok (.aload_n 0, 1) := by decide +kernel
theorem dX7_writeInner_53 : decode cX7_writeInner 53 = .ok (.iload_n 2, 1) := by decide +kernel
theorem dX7_writeInner_54 : decode cX7_writeInner 54 = .ok (.invokevirtual 57, 3) := by decide +kernel
theorem dX7_writeInner_57 : decode cX7_writeInner 57 = .ok (.aload_n 0, 1) := by decide +kernel
theorem dX7_writeInner_58 : decode cX7_writeInner 58 = .ok (.aload_n 0, 1) := by decide +kernel
theorem dX7_writeInner_59 : decode cX7_writeInner 59 = .ok (.getfield 9, 3) := by decide +kernel
theorem dX7_writeInner_62 : decode cX7_writeInner 62 = .ok (.getfield 87, 3) := by decide +kernel
theorem dX7_writeInner_65 : decode cX7_writeInner 65 = .ok (.iload_n 1, 1) := by decide +kernel
theorem dX7_writeInner_66 : decode cX7_writeInner 66 = .ok (.iaload, 1) := by decide +kernel
theorem dX7_writeInner_67 : decode cX7_writeInner 67 = .ok (.invokevirtual 103, 3) := by decide +kernel
theorem dX7_writeInner_70 : decode cX7_writeInner 70 = .ok (.aload_n 0, 1) := by decide +kernel
theorem dX7_writeInner_71 : decode cX7_writeInner 71 = .ok (.aload_n 0, 1) := by decide +kernel
theorem dX7_writeInner_72 : decode cX7_writeInner 72 = .ok (.getfield 9, 3) := by decide +kernel
theorem dX7_writeInner_75 : decode cX7_writeInner 75 = .ok (.getfield 106, 3) := by decide +kernel
theorem dX7_writeInner_78 : decode cX7_writeInner 78 = .ok (.iload_n 2, 1) := by decide +kernel
theorem dX7_writeInner_79 : decode cX7_writeInner 79 = .ok (.iaload, 1) := by decide +kernel
theorem dX7_writeInner_80 : decode cX7_writeInner 80 = .ok (.invokevirtual 57, 3) := by decide +kernel
theorem dX7_writeInner_83 : decode cX7_writeInner 83 = .ok (.goto 136, 3) := by decide +kernel
theorem dX7_writeInner_86 : decode cX7_writeInner 86 = .ok (.aload_n 0, 1) := by decide +kernel
theorem dX7_writeInner_87 : decode cX7_writeInner 87 = .ok (.getfield 19, 3) := by decide +kernel
theorem dX7_writeInner_90 : decode cX7_writeInner 90 = .ok (.ldc 109, 2) := by decide +kernel
theorem dX7_writeInner_92 : decode cX7_writeInner 92 = .ok (.invokevirtual 50, 3) := by decide +kernel
theorem dX7_writeInner_95 : decode cX7_writeInner 95 = .ok (.aload_n 0, 1) := by decide +kernel
theorem dX7_writeInner_96 : decode cX7_writeInner 96 = .ok (.iload_n 2, 1) := by decide +kernel
theorem dX7_writeInner_97 : decode cX7_writeInner 97 = .ok (.invokevirtual 57, 3) := by decide +kernel
theorem dX7_writeInner_100 : decode cX7_writeInner 100 = .ok (.aload_n 0, 1) := by decide +kernel
theorem dX7_writeInner_101 : decode cX7_writeInner 101 = .ok (.getfield 19, 3) := by decide +kernel
theorem dX7_writeInner_104 : decode cX7_writeInner 104 = .ok (.ldc 111, 2) := by decide +kernel
theorem dX7_writeInner_106 : decode cX7_writeInner 106 = .ok (.invokevirtual 50, 3) := by decide +kernel
theorem dX7_writeInner_109 : decode cX7_writeInner 109 = .ok (.aload_n 0, 1) := by decide +kernel
theorem dX7_writeInner_110 : decode cX7_writeInner 110 = .ok (.aload_n 0, 1) := by decide +kernel
theorem dX7_writeInner_111 : decode cX7_writeInner 111 = .ok (.getfield 9, 3) := by decide +kernel
theorem dX7_writeInner_114 : decode cX7_writeInner 114 = .ok (.getfield 106, 3) := by decide +kernel
theorem dX7_writeInner_117 : decode cX7_writeInner 117 = .ok (.iload_n 2, 1) := by decide +kernel
theorem dX7_writeInner_118 : decode cX7_writeInner 118 = .ok (.iaload, 1) := by decide +kernel
theorem dX7_writeInner_119 : decode cX7_writeInner 119 = .ok (.invokevirtual 113, 3) := by decide +kernel
theorem dX7_writeInner_122 : decode cX7_writeInner 122 = .ok (.aload_n 0, 1) := by decide +kernel
theorem dX7_writeInner_123 : decode cX7_writeInner 123 = .ok (.getfield 19, 3) := by decide +kernel
theorem dX7_writeInner_126 : decode cX7_writeInner 126 = .ok (.bipush 125, 2) := by decide +kernel
theorem dX7_writeInner_128 : decode cX7_writeInner 128 = .ok (.invokevirtual 40, 3) := by decide +kernel
theorem dX7_writeInner_131 : decode cX7_writeInner 131 = .ok (.goto 88, 3) := by decide +kernel
theorem dX7_writeInner_134 : decode cX7_writeInner 134 = .ok (.aload_n 0, 1) := by decide +kernel
theorem dX7_writeInner_135 : decode cX7_writeInner 135 = .ok (.getfield 19, 3) := by decide +kernel
theorem dX7_writeInner_138 : decode cX7_writeInner 138 = .ok (.ldc 116, 2) := by decide +kernel
theorem dX7_writeInner_140 : decode cX7_writeInner 140 = .ok (.invokevirtual 50, 3) := by decide +kernel
theorem dX7_writeInner_143 : decode cX7_writeInner 143 = .ok (.aload_n 0, 1) := by decide +kernel
theorem dX7_writeInner_144 : decode cX7_writeInner 144 = .ok (.aload_n 0, 1) := by decide +kernel
theorem dX7_writeInner_145 : decode cX7_writeInner 145 = .ok (.getfield 9, 3) := by decide +kernel
theorem dX7_writeInner_148 : decode cX7_writeInner 148 = .ok (.getfield 106, 3) := by decide +kernel
theorem dX7_writeInner_151 : decode cX7_writeInner 151 = .ok (.iload_n 2, 1) := by decide +kernel
theorem dX7_writeInner_152 : decode cX7_writeInner 152 = .ok (.iaload, 1) := by decide +kernel
theorem dX7_writeInner_153 : decode cX7_writeInner 153 = .ok (.invokevirtual 118, 3) := by decide +kernel
theorem dX7_writeInner_156 : decode cX7_writeInner 156 = .ok (.aload_n 0, 1) := by decide +kernel
theorem dX7_writeInner_157 : decode cX7_writeInner 157 = .ok (.getfield 19, 3) := by decide +kernel
theorem dX7_writeInner_160 : decode cX7_writeInner 160 = .ok (.ldc 121, 2) := by decide +kernel
theorem dX7_writeInner_162 : decode cX7_writeInner 162 = .ok (.invokevirtual 50, 3) := by decide +kernel
theorem dX7_writeInner_165 : decode cX7_writeInner 165 = .ok (.aload_n 0, 1) := by decide +kernel
theorem dX7_writeInner_166 : decode cX7_writeInner 166 = .ok (.iload_n 2, 1) := by decide +kernel
theorem dX7_writeInner_167 : decode cX7_writeInner 167 = .ok (.invokevirtual 57, 3) := by decide +kernel
theorem dX7_writeInner_170 : decode cX7_writeInner 170 = .ok (.goto 49, 3) := by decide +kernel
theorem dX7_writeInner_173 : decode cX7_writeInner 173 = .ok (.aload_n 0, 1) := by decide +kernel
theorem dX7_writeInner_174 : decode cX7_writeInner 174 = .ok (.getfield 19, 3) := by decide +kernel
theorem dX7_writeInner_177 : decode cX7_writeInner 177 = .ok (.aload_n 0, 1) := by decide +kernel
theorem dX7_writeInner_178 : decode cX7_writeInner 178 = .ok (.getfield 15, 3) := by decide +kernel
theorem dX7_writeInner_181 : decode cX7_writeInner 181 = .ok (.getfield 69, 3) := by decide +kernel
theorem dX7_writeInner_184 : decode cX7_writeInner 184 = .ok (.aload_n 0, 1) := by decide +kernel
theorem dX7_writeInner_185 : decode cX7_writeInner 185 = .ok (.getfield 9, 3) := by decide +kernel
theorem dX7_writeInner_188 : decode cX7_writeInner 188 = .ok (.getfield 87, 3) := by decide +kernel
theorem dX7_writeInner_191 : decode cX7_writeInner 191 = .ok (.iload_n 1, 1) := by decide +kernel
theorem dX7_writeInner_192 : decode cX7_writeInner 192 = .ok (.iaload, 1) := by decide +kernel
theorem dX7_writeInner_193 : decode cX7_writeInner 193 = .ok (.laload, 1) := by decide +kernel
theorem dX7_writeInner_194 : decode cX7_writeInner 194 = .ok (.invokevirtual 73, 3) := by decide +kernel
theorem dX7_writeInner_197 : decode cX7_writeInner 197 = .ok (.aload_n 0, 1) := by decide +kernel
theorem dX7_writeInner_198 : decode cX7_writeInner 198 = .ok (.getfield 19, 3) := by decide +kernel
theorem dX7_writeInner_201 : decode cX7_writeInner 201 = .ok (.bipush 32, 2) := by decide +kernel
theorem dX7_writeInner_203 : decode cX7_writeInner 203 = .ok (.invokevirtual 40, 3) := by decide +kernel
theorem dX7_writeInner_206 : decode cX7_writeInner 206 = .ok (.aload_n 0, 1) := by decide +kernel
theorem dX7_writeInner_207 : decode cX7_writeInner 207 = .ok (.iload_n 2, 1) := by decide +kernel
theorem dX7_writeInner_208 : decode cX7_writeInner 208 = .ok (.invokevirtual 123, 3) := by decide +kernel
theorem dX7_writeInner_211 : decode cX7_writeInner 211 = .ok (.goto 8, 3) := by decide +kernel
theorem dX7_writeInner_214 : decode cX7_writeInner 214 = .ok (.aload_n 0, 1) := by decide +kernel
theorem dX7_writeInner_215 : decode cX7_writeInner 215 = .ok (.iload_n 2, 1) := by decide +kernel
theorem dX7_writeInner_216 : decode cX7_writeInner 216 = .ok (.invokevirtual 123, 3) := by decide +kernel
theorem dX7_writeInner_219 : decode cX7_writeInner 219 = .ok (.return_, 1) := by decide +kernel
theorem dX7_writePart_0 : decode cX7_writePart 0 = .ok (.aload_n 0, 1) := by decide +kernel
theorem dX7_writePart_1 : decode cX7_writePart 1 = .ok (.getfield 9, 3) := by decide +kernel
theorem dX7_writePart_4 : decode cX7_writePart 4 = .ok (.getfield 87, 3) := by decide +kernel
theorem dX7_writePart_7 : decode cX7_writePart 7 = .ok (.iload_n 1, 1) := by decide +kernel
theorem dX7_writePart_8 : decode cX7_writePart 8 = .ok (.iaload, 1) := by decide +kernel
theorem dX7_writePart_9 : decode cX7_writePart 9 = .ok (.istore_n 2, 1) := by decide +kernel
theorem dX7_writePart_10 : decode cX7_writePart 10 = .ok (.aload_n 0, 1) := by decide +kernel
theorem dX7_writePart_11 : decode cX7_writePart 11 = .ok (.getfield 9, 3) := by decide +kernel
theorem dX7_writePart_14 : decode cX7_writePart 14 = .ok (.getfield 92, 3) := by decide +kernel
theorem dX7_writePart_17 : decode cX7_writePart 17 = .ok (.iload_n 1, 1) := by decide +kernel
theorem dX7_writePart_18 : decode cX7_writePart 18 = .ok (.iaload, 1) := by decide +kernel
theorem dX7_writePart_19 : decode cX7_writePart 19 = .ok (.tableswitch 91 0 4 #[33, 44, 63, 71, 79], 33) := by decide +kernel
theorem dX7_writePart_52 : decode cX7_writePart 52 = .ok (.aload_n 0, 1) := by decide +kernel
theorem dX7_writePart_53 : decode cX7_writePart 53 = .ok (.getfield 19, 3) := by decide +kernel
theorem dX7_writePart_56 : decode cX7_writePart 56 = .ok (.iload_n 2, 1) := by decide +kernel
theorem dX7_writePart_57 : decode cX7_writePart 57 = .ok (.invokevirtual 80, 3) := by decide +kernel
theorem dX7_writePart_60 : decode cX7_writePart 60 = .ok (.goto 73, 3) := by decide +kernel
theorem dX7_writePart_63 : decode cX7_writePart 63 = .ok (.aload_n 0, 1) := by decide +kernel
theorem dX7_writePart_64 : decode cX7_writePart 64 = .ok (.getfield 19, 3) := by decide +kernel
theorem dX7_writePart_67 : decode cX7_writePart 67 = .ok (.aload_n 0, 1) := by decide +kernel
theorem dX7_writePart_68 : decode cX7_writePart 68 = .ok (.getfield 15, 3) := by decide +kernel
theorem dX7_writePart_71 : decode cX7_writePart 71 = .ok (.getfield 69, 3) := by decide +kernel
theorem dX7_writePart_74 : decode cX7_writePart 74 = .ok (.iload_n 2, 1) := by decide +kernel
theorem dX7_writePart_75 : decode cX7_writePart 75 = .ok (.laload, 1) := by decide +kernel
theorem dX7_writePart_76 : decode cX7_writePart 76 = .ok (.invokevirtual 73, 3) := by decide +kernel
theorem dX7_writePart_79 : decode cX7_writePart 79 = .ok (.goto 54, 3) := by decide +kernel
theorem dX7_writePart_82 : decode cX7_writePart 82 = .ok (.aload_n 0, 1) := by decide +kernel
theorem dX7_writePart_83 : decode cX7_writePart 83 = .ok (.iload_n 2, 1) := by decide +kernel
theorem dX7_writePart_84 : decode cX7_writePart 84 = .ok (.invokevirtual 32, 3) := by decide +kernel
theorem dX7_writePart_87 : decode cX7_writePart 87 = .ok (.goto 46, 3) := by decide +kernel
theorem dX7_writePart_90 : decode cX7_writePart 90 = .ok (.aload_n 0, 1) := by decide +kernel
theorem dX7_writePart_91 : decode cX7_writePart 91 = .ok (.iload_n 2, 1) := by decide +kernel
theorem dX7_writePart_92 : decode cX7_writePart 92 = .ok (.invokevirtual 45, 3) := by decide +kernel
theorem dX7_writePart_95 : decode cX7_writePart 95 = .ok (.goto 38, 3) := by decide +kernel
theorem dX7_writePart_98 : decode cX7_writePart 98 = .ok (.aload_n 0, 1) := by decide +kernel
theorem dX7_writePart_99 : decode cX7_writePart 99 = .ok (.getfield 19, 3) := by decide +kernel
theorem dX7_writePart_102 : decode cX7_writePart 102 = .ok (.ldc 95, 2) := by decide +kernel
theorem dX7_writePart_104 : decode cX7_writePart 104 = .ok (.invokevirtual 50, 3) := by decide +kernel
theorem dX7_writePart_107 : decode cX7_writePart 107 = .ok (.goto 26, 3) := by decide +kernel
theorem dX7_writePart_110 : decode cX7_writePart 110 = .ok (.aload_n 0, 1) := by decide +kernel
theorem dX7_writePart_111 : decode cX7_writePart 111 = .ok (.getfield 19, 3) := by decide +kernel
theorem dX7_writePart_114 : decode cX7_writePart 114 = .ok (.bipush 40, 2) := by decide +kernel
theorem dX7_writePart_116 : decode cX7_writePart 116 = .ok (.invokevirtual 40, 3) := by decide +kernel
theorem dX7_writePart_119 : decode cX7_writePart 119 = .ok (.aload_n 0, 1) := by decide +kernel
theorem dX7_writePart_120 : decode cX7_writePart 120 = .ok (.iload_n 1, 1) := by decide +kernel
theorem dX7_writePart_121 : decode cX7_writePart 121 = .ok (.invokevirtual 97, 3) := by decide +kernel
theorem dX7_writePart_124 : decode cX7_writePart 124 = .ok (.aload_n 0, 1) := by decide +kernel
theorem dX7_writePart_125 : decode cX7_writePart 125 = .ok (.getfield 19, 3) := by decide +kernel
theorem dX7_writePart_128 : decode cX7_writePart 128 = .ok (.bipush 41, 2) := by decide +kernel
theorem dX7_writePart_130 : decode cX7_writePart 130 = .ok (.invokevirtual 40, 3) := by decide +kernel
theorem dX7_writePart_133 : decode cX7_writePart 133 = .ok (.return_, 1) := by decide +kernel
theorem dX7_writePattern_0 : decode cX7_writePattern 0 = .ok (.aload_n 0, 1) := by decide +kernel
theorem dX7_writePattern_1 : decode cX7_writePattern 1 = .ok (.getfield 9, 3) := by decide +kernel
theorem dX7_writePattern_4 : decode cX7_writePattern 4 = .ok (.getfield 87, 3) := by decide +kernel
theorem dX7_writePattern_7 : decode cX7_writePattern 7 = .ok (.iload_n 1, 1) := by decide +kernel
theorem dX7_writePattern_8 : decode cX7_writePattern 8 = .ok (.iaload, 1) := by decide +kernel
theorem dX7_writePattern_9 : decode cX7_writePattern 9 = .ok (.istore_n 2, 1) := by decide +kernel
theorem dX7_writePattern_10 : decode cX7_writePattern 10 = .ok (.aload_n 0, 1) := by decide +kernel
theorem dX7_writePattern_11 : decode cX7_writePattern 11 = .ok (.getfield 9, 3) := by decide +kernel
theorem dX7_writePattern_14 : decode cX7_writePattern 14 = .ok (.getfield 92, 3) := by decide +kernel
theorem dX7_writePattern_17 : decode cX7_writePattern 17 = .ok (.iload_n 1, 1) := by decide +kernel
theorem dX7_writePattern_18 : decode cX7_writePattern 18 = .ok (.iaload, 1) := by decide +kernel
theorem dX7_writePattern_19 : decode cX7_writePattern 19 = .ok (.bipush 13, 2) := by decide +kernel
theorem dX7_writePattern_21 : decode cX7_writePattern 21 = .ok (.if_icmp .ne 15, 3) := by decide +kernel
theorem dX7_writePattern_24 : decode cX7_writePattern 24 = .ok (.aload_n 0, 1) := by decide +kernel
theorem dX7_writePattern_25 : decode cX7_writePattern 25 = .ok (.getfield 19, 3) := by decide +kernel
theorem dX7_writePattern_28 : decode cX7_writePattern 28 = .ok (.bipush 95, 2) := by decide +kernel
theorem dX7_writePattern_30 : decode cX7_writePattern 30 = .ok (.invokevirtual 40, 3) := by decide +kernel
theorem dX7_writePattern_33 : decode cX7_writePattern 33 = .ok (.goto 89, 3) := by decide +kernel
theorem dX7_writePattern_36 : decode cX7_writePattern 36 = .ok (.aload_n 0, 1) := by decide +kernel
theorem dX7_writePattern_37 : decode cX7_writePattern 37 = .ok (.getfield 9, 3) := by decide +kernel
theorem dX7_writePattern_40 : decode cX7_writePattern 40 = .ok (.getfield 92, 3) := by decide +kernel
theorem dX7_writePattern_43 : decode cX7_writePattern 43 = .ok (.iload_n 1, 1) := by decide +kernel
theorem dX7_writePattern_44 : decode cX7_writePattern 44 = .ok (.iaload, 1) := by decide +kernel
theorem dX7_writePattern_45 : decode cX7_writePattern 45 = .ok (.bipush 12, 2) := by decide +kernel
theorem dX7_writePattern_47 : decode cX7_writePattern 47 = .ok (.if_icmp .ne 14, 3) := by decide +kernel
theorem dX7_writePattern_50 : decode cX7_writePattern 50 = .ok (.aload_n 0, 1) := by decide +kernel
theorem dX7_writePattern_51 : decode cX7_writePattern 51 = .ok (.getfield 19, 3) := by decide +kernel
theorem dX7_writePattern_54 : decode cX7_writePattern 54 = .ok (.iload_n 2, 1) := by decide +kernel
theorem dX7_writePattern_55 : decode cX7_writePattern 55 = .ok (.invokevirtual 80, 3) := by decide +kernel
theorem dX7_writePattern_58 : decode cX7_writePattern 58 = .ok (.goto 64, 3) := by decide +kernel
theorem dX7_writePattern_61 : decode cX7_writePattern 61 = .ok (.aload_n 0, 1) := by decide +kernel
theorem dX7_writePattern_62 : decode cX7_writePattern 62 = .ok (.getfield 19, 3) := by decide +kernel
theorem dX7_writePattern_65 : decode cX7_writePattern 65 = .ok (.aload_n 0, 1) := by decide +kernel
theorem dX7_writePattern_66 : decode cX7_writePattern 66 = .ok (.getfield 15, 3) := by decide +kernel
theorem dX7_writePattern_69 : decode cX7_writePattern 69 = .ok (.getfield 69, 3) := by decide +kernel
theorem dX7_writePattern_72 : decode cX7_writePattern 72 = .ok (.iload_n 2, 1) := by decide +kernel
theorem dX7_writePattern_73 : decode cX7_writePattern 73 = .ok (.laload, 1) := by decide +kernel
theorem dX7_writePattern_74 : decode cX7_writePattern 74 = .ok (.invokevirtual 73, 3) := by decide +kernel
theorem dX7_writePattern_77 : decode cX7_writePattern 77 = .ok (.iconst 0, 1) := by decide +kernel
theorem dX7_writePattern_78 : decode cX7_writePattern 78 = .ok (.istore_n 3, 1) := by decide +kernel
theorem dX7_writePattern_79 : decode cX7_writePattern 79 = .ok (.iload_n 3, 1) := by decide +kernel
theorem dX7_writePattern_80 : decode cX7_writePattern 80 = .ok (.aload_n 0, 1) := by decide +kernel
theorem dX7_writePattern_81 : decode cX7_writePattern 81 = .ok (.getfield 15, 3) := by decide +kernel
theorem dX7_writePattern_84 : decode cX7_writePattern 84 = .ok (.getfield 77, 3) := by decide +kernel
theorem dX7_writePattern_87 : decode cX7_writePattern 87 = .ok (.iload_n 2, 1) := by decide +kernel
theorem dX7_writePattern_88 : decode cX7_writePattern 88 = .ok (.iaload, 1) := by decide +kernel
theorem dX7_writePattern_89 : decode cX7_writePattern 89 = .ok (.if_icmp .ge 33, 3) := by decide +kernel
theorem dX7_writePattern_92 : decode cX7_writePattern 92 = .ok (.aload_n 0, 1) := by decide +kernel
theorem dX7_writePattern_93 : decode cX7_writePattern 93 = .ok (.getfield 19, 3) := by decide +kernel
theorem dX7_writePattern_96 : decode cX7_writePattern 96 = .ok (.bipush 32, 2) := by decide +kernel
theorem dX7_writePattern_98 : decode cX7_writePattern 98 = .ok (.invokevirtual 40, 3) := by decide +kernel
theorem dX7_writePattern_101 : decode cX7_writePattern 101 = .ok (.aload_n 0, 1) := by decide +kernel
theorem dX7_writePattern_102 : decode cX7_writePattern 102 = .ok (.aload_n 0, 1) := by decide +kernel
theorem dX7_writePattern_103 : decode cX7_writePattern 103 = .ok (.getfield 9, 3) := by decide +kernel
theorem dX7_writePattern_106 : decode cX7_writePattern 106 = .ok (.getfield 139, 3) := by decide +kernel
theorem dX7_writePattern_109 : decode cX7_writePattern 109 = .ok (.iload_n 1, 1) := by decide +kernel
theorem dX7_writePattern_110 : decode cX7_writePattern 110 = .ok (.iaload, 1) := by decide +kernel
theorem dX7_writePattern_111 : decode cX7_writePattern 111 = .ok (.iload_n 3, 1) := by decide +kernel
theorem dX7_writePattern_112 : decode cX7_writePattern 112 = .ok (.iadd, 1) := by decide +kernel
theorem dX7_writePattern_113 : decode cX7_writePattern 113 = .ok (.invokevirtual 45, 3) := by decide +kernel
theorem dX7_writePattern_116 : decode cX7_writePattern 116 = .ok (.iinc 3 1, 3) := by decide +kernel
theorem dX7_writePattern_119 : decode cX7_writePattern 119 = .ok (.goto (-40), 3) := by decide +kernel
theorem dX7_writePattern_122 : decode cX7_writePattern 122 = .ok (.return_, 1) := by decide +kernel
theorem dX7_writeProgram_0 : decode cX7_writeProgram 0 = .ok (.aload_n 0, 1) := by decide +kernel
theorem dX7_writeProgram_1 : decode cX7_writeProgram 1 = .ok (.aload_n 1, 1) := by decide +kernel
theorem dX7_writeProgram_2 : decode cX7_writeProgram 2 = .ok (.putfield 19, 3) := by decide +kernel
theorem dX7_writeProgram_5 : decode cX7_writeProgram 5 = .ok (.aload_n 0, 1) := by decide +kernel
theorem dX7_writeProgram_6 : decode cX7_writeProgram 6 = .ok (.invokevirtual 23, 3) := by decide +kernel
theorem dX7_writeProgram_9 : decode cX7_writeProgram 9 = .ok (.iconst 0, 1) := by decide +kernel
theorem dX7_writeProgram_10 : decode cX7_writeProgram 10 = .ok (.istore_n 2, 1) := by decide +kernel
theorem dX7_writeProgram_11 : decode cX7_writeProgram 11 = .ok (.iload_n 2, 1) := by decide +kernel
theorem dX7_writeProgram_12 : decode cX7_writeProgram 12 = .ok (.aload_n 0, 1) := by decide +kernel
theorem dX7_writeProgram_13 : decode cX7_writeProgram 13 = .ok (.getfield 15, 3) := by decide +kernel
theorem dX7_writeProgram_16 : decode cX7_writeProgram 16 = .ok (.getfield 26, 3) := by decide +kernel
theorem dX7_writeProgram_19 : decode cX7_writeProgram 19 = .ok (.if_icmp .ge 80, 3) := by decide +kernel
theorem dX7_writeProgram_22 : decode cX7_writeProgram 22 = .ok (.aload_n 0, 1) := by decide +kernel
theorem dX7_writeProgram_23 : decode cX7_writeProgram 23 = .ok (.iload_n 2, 1) := by decide +kernel
theorem dX7_writeProgram_24 : decode cX7_writeProgram 24 = .ok (.invokevirtual 32, 3) := by decide +kernel
theorem dX7_writeProgram_27 : decode cX7_writeProgram 27 = .ok (.iconst 0, 1) := by decide +kernel
theorem dX7_writeProgram_28 : decode cX7_writeProgram 28 = .ok (.istore_n 3, 1) := by decide +kernel
theorem dX7_writeProgram_29 : decode cX7_writeProgram 29 = .ok (.iload_n 3, 1) := by decide +kernel
theorem dX7_writeProgram_30 : decode cX7_writeProgram 30 = .ok (.aload_n 0, 1) := by decide +kernel
theorem dX7_writeProgram_31 : decode cX7_writeProgram 31 = .ok (.getfield 15, 3) := by decide +kernel
theorem dX7_writeProgram_34 : decode cX7_writeProgram 34 = .ok (.getfield 36, 3) := by decide +kernel
theorem dX7_writeProgram_37 : decode cX7_writeProgram 37 = .ok (.iload_n 2, 1) := by decide +kernel
theorem dX7_writeProgram_38 : decode cX7_writeProgram 38 = .ok (.iaload, 1) := by decide +kernel
theorem dX7_writeProgram_39 : decode cX7_writeProgram 39 = .ok (.if_icmp .ge 23, 3) := by decide +kernel
theorem dX7_writeProgram_42 : decode cX7_writeProgram 42 = .ok (.aload_n 0, 1) := by decide +kernel
theorem dX7_writeProgram_43 : decode cX7_writeProgram 43 = .ok (.getfield 19, 3) := by decide +kernel
theorem dX7_writeProgram_46 : decode cX7_writeProgram 46 = .ok (.bipush 32, 2) := by decide +kernel
theorem dX7_writeProgram_48 : decode cX7_writeProgram 48 = .ok (.invokevirtual 40, 3) := by decide +kernel
theorem dX7_writeProgram_51 : decode cX7_writeProgram 51 = .ok (.aload_n 0, 1) := by decide +kernel
theorem dX7_writeProgram_52 : decode cX7_writeProgram 52 = .ok (.iload_n 3, 1) := by decide +kernel
theorem dX7_writeProgram_53 : decode cX7_writeProgram 53 = .ok (.invokevirtual 45, 3) := by decide +kernel
theorem dX7_writeProgram_56 : decode cX7_writeProgram 56 = .ok (.iinc 3 1, 3) := by decide +kernel
theorem dX7_writeProgram_59 : decode cX7_writeProgram 59 = .ok (.goto (-30), 3) := by decide +kernel
theorem dX7_writeProgram_62 : decode cX7_writeProgram 62 = .ok (.aload_n 0, 1) := by decide +kernel
theorem dX7_writeProgram_63 : decode cX7_writeProgram 63 = .ok (.getfield 19, 3) := by decide +kernel
theorem dX7_writeProgram_66 : decode cX7_writeProgram 66 = .ok (.ldc 48, 2) := by decide +kernel
theorem dX7_writeProgram_68 : decode cX7_writeProgram 68 = .ok (.invokevirtual 50, 3) := by decide +kernel
theorem dX7_writeProgram_71 : decode cX7_writeProgram 71 = .ok (.aload_n 0, 1) := by decide +kernel
theorem dX7_writeProgram_72 : decode cX7_writeProgram 72 = .ok (.aload_n 0, 1) := by decide +kernel
theorem dX7_writeProgram_73 : decode cX7_writeProgram 73 = .ok (.getfield 15, 3) := by decide +kernel
theorem dX7_writeProgram_76 : decode cX7_writeProgram 76 = .ok (.getfield 54, 3) := by decide +kernel
theorem dX7_writeProgram_79 : decode cX7_writeProgram 79 = .ok (.iload_n 2, 1) := by decide +kernel
theorem dX7_writeProgram_80 : decode cX7_writeProgram 80 = .ok (.iaload, 1) := by decide +kernel
theorem dX7_writeProgram_81 : decode cX7_writeProgram 81 = .ok (.invokevirtual 57, 3) := by decide +kernel
theorem dX7_writeProgram_84 : decode cX7_writeProgram 84 = .ok (.aload_n 0, 1) := by decide +kernel
theorem dX7_writeProgram_85 : decode cX7_writeProgram 85 = .ok (.getfield 19, 3) := by decide +kernel
theorem dX7_writeProgram_88 : decode cX7_writeProgram 88 = .ok (.ldc 60, 2) := by decide +kernel
theorem dX7_writeProgram_90 : decode cX7_writeProgram 90 = .ok (.invokevirtual 50, 3) := by decide +kernel
theorem dX7_writeProgram_93 : decode cX7_writeProgram 93 = .ok (.iinc 2 1, 3) := by decide +kernel
theorem dX7_writeProgram_96 : decode cX7_writeProgram 96 = .ok (.goto (-85), 3) := by decide +kernel
theorem dX7_writeProgram_99 : decode cX7_writeProgram 99 = .ok (.return_, 1) := by decide +kernel
theorem dX7_writeRow_0 : decode cX7_writeRow 0 = .ok (.iconst 0, 1) := by decide +kernel
theorem dX7_writeRow_1 : decode cX7_writeRow 1 = .ok (.istore_n 2, 1) := by decide +kernel
theorem dX7_writeRow_2 : decode cX7_writeRow 2 = .ok (.iload_n 1, 1) := by decide +kernel
theorem dX7_writeRow_3 : decode cX7_writeRow 3 = .ok (.istore_n 3, 1) := by decide +kernel
theorem dX7_writeRow_4 : decode cX7_writeRow 4 = .ok (.iload_n 2, 1) := by decide +kernel
theorem dX7_writeRow_5 : decode cX7_writeRow 5 = .ok (.bipush 10, 2) := by decide +kernel
theorem dX7_writeRow_7 : decode cX7_writeRow 7 = .ok (.if_icmp .ge 42, 3) := by decide +kernel
theorem dX7_writeRow_10 : decode cX7_writeRow 10 = .ok (.iload_n 3, 1) := by decide +kernel
theorem dX7_writeRow_11 : decode cX7_writeRow 11 = .ok (.iconst (-1), 1) := by decide +kernel
theorem dX7_writeRow_12 : decode cX7_writeRow 12 = .ok (.if_icmp .eq 37, 3) := by decide +kernel
theorem dX7_writeRow_15 : decode cX7_writeRow 15 = .ok (.iload_n 2, 1) := by decide +kernel
theorem dX7_writeRow_16 : decode cX7_writeRow 16 = .ok (.ifCond .le 12, 3) := by decide +kernel
theorem dX7_writeRow_19 : decode cX7_writeRow 19 = .ok (.aload_n 0, 1) := by decide +kernel
theorem dX7_writeRow_20 : decode cX7_writeRow 20 = .ok (.getfield 19, 3) := by decide +kernel
theorem dX7_writeRow_23 : decode cX7_writeRow 23 = .ok (.bipush 32, 2) := by decide +kernel
theorem dX7_writeRow_25 : decode cX7_writeRow 25 = .ok (.invokevirtual 40, 3) := by decide +kernel
theorem dX7_writeRow_28 : decode cX7_writeRow 28 = .ok (.aload_n 0, 1) := by decide +kernel
theorem dX7_writeRow_29 : decode cX7_writeRow 29 = .ok (.iload_n 3, 1) := by decide +kernel
theorem dX7_writeRow_30 : decode cX7_writeRow 30 = .ok (.invokevirtual 57, 3) := by decide +kernel
theorem dX7_writeRow_33 : decode cX7_writeRow 33 = .ok (.iinc 2 1, 3) := by decide +kernel
theorem dX7_writeRow_36 : decode cX7_writeRow 36 = .ok (.aload_n 0, 1) := by decide +kernel
theorem dX7_writeRow_37 : decode cX7_writeRow 37 = .ok (.getfield 9, 3) := by decide +kernel
theorem dX7_writeRow_40 : decode cX7_writeRow 40 = .ok (.getfield 106, 3) := by decide +kernel
theorem dX7_writeRow_43 : decode cX7_writeRow 43 = .ok (.iload_n 3, 1) := by decide +kernel
theorem dX7_writeRow_44 : decode cX7_writeRow 44 = .ok (.iaload, 1) := by decide +kernel
theorem dX7_writeRow_45 : decode cX7_writeRow 45 = .ok (.istore_n 3, 1) := by decide +kernel
theorem dX7_writeRow_46 : decode cX7_writeRow 46 = .ok (.goto (-42), 3) := by decide +kernel
theorem dX7_writeRow_49 : decode cX7_writeRow 49 = .ok (.return_, 1) := by decide +kernel
theorem dX7_writeSign_0 : decode cX7_writeSign 0 = .ok (.aload_n 0, 1) := by decide +kernel
theorem dX7_writeSign_1 : decode cX7_writeSign 1 = .ok (.getfield 19, 3) := by decide +kernel
theorem dX7_writeSign_4 : decode cX7_writeSign 4 = .ok (.bipush 32, 2) := by decide +kernel
theorem dX7_writeSign_6 : decode cX7_writeSign 6 = .ok (.invokevirtual 40, 3) := by decide +kernel
theorem dX7_writeSign_9 : decode cX7_writeSign 9 = .ok (.iload_n 1, 1) := by decide +kernel
theorem dX7_writeSign_10 : decode cX7_writeSign 10 = .ok (.sipush 129, 3) := by decide +kernel
theorem dX7_writeSign_13 : decode cX7_writeSign 13 = .ok (.if_icmp .ne 15, 3) := by decide +kernel
theorem dX7_writeSign_16 : decode cX7_writeSign 16 = .ok (.aload_n 0, 1) := by decide +kernel
theorem dX7_writeSign_17 : decode cX7_writeSign 17 = .ok (.getfield 19, 3) := by decide +kernel
theorem dX7_writeSign_20 : decode cX7_writeSign 20 = .ok (.ldc 126, 2) := by decide +kernel
theorem dX7_writeSign_22 : decode cX7_writeSign 22 = .ok (.invokevirtual 50, 3) := by decide +kernel
theorem dX7_writeSign_25 : decode cX7_writeSign 25 = .ok (.goto 30, 3) := by decide +kernel
theorem dX7_writeSign_28 : decode cX7_writeSign 28 = .ok (.iload_n 1, 1) := by decide +kernel
theorem dX7_writeSign_29 : decode cX7_writeSign 29 = .ok (.sipush 130, 3) := by decide +kernel
theorem dX7_writeSign_32 : decode cX7_writeSign 32 = .ok (.if_icmp .ne 15, 3) := by decide +kernel
theorem dX7_writeSign_35 : decode cX7_writeSign 35 = .ok (.aload_n 0, 1) := by decide +kernel
theorem dX7_writeSign_36 : decode cX7_writeSign 36 = .ok (.getfield 19, 3) := by decide +kernel
theorem dX7_writeSign_39 : decode cX7_writeSign 39 = .ok (.ldc 128, 2) := by decide +kernel
theorem dX7_writeSign_41 : decode cX7_writeSign 41 = .ok (.invokevirtual 50, 3) := by decide +kernel
theorem dX7_writeSign_44 : decode cX7_writeSign 44 = .ok (.goto 11, 3) := by decide +kernel
theorem dX7_writeSign_47 : decode cX7_writeSign 47 = .ok (.aload_n 0, 1) := by decide +kernel
theorem dX7_writeSign_48 : decode cX7_writeSign 48 = .ok (.getfield 19, 3) := by decide +kernel
theorem dX7_writeSign_51 : decode cX7_writeSign 51 = .ok (.iload_n 1, 1) := by decide +kernel
theorem dX7_writeSign_52 : decode cX7_writeSign 52 = .ok (.invokevirtual 40, 3) := by decide +kernel
theorem dX7_writeSign_55 : decode cX7_writeSign 55 = .ok (.aload_n 0, 1) := by decide +kernel
theorem dX7_writeSign_56 : decode cX7_writeSign 56 = .ok (.getfield 19, 3) := by decide +kernel
theorem dX7_writeSign_59 : decode cX7_writeSign 59 = .ok (.bipush 32, 2) := by decide +kernel
theorem dX7_writeSign_61 : decode cX7_writeSign 61 = .ok (.invokevirtual 40, 3) := by decide +kernel
theorem dX7_writeSign_64 : decode cX7_writeSign 64 = .ok (.return_, 1) := by decide +kernel
theorem dX7_writeVariable_0 : decode cX7_writeVariable 0 = .ok (.aload_n 0, 1) := by decide +kernel
theorem dX7_writeVariable_1 : decode cX7_writeVariable 1 = .ok (.getfield 19, 3) := by decide +kernel
theorem dX7_writeVariable_4 : decode cX7_writeVariable 4 = .ok (.bipush 118, 2) := by decide +kernel
theorem dX7_writeVariable_6 : decode cX7_writeVariable 6 = .ok (.invokevirtual 40, 3) := by decide +kernel
theorem dX7_writeVariable_9 : decode cX7_writeVariable 9 = .ok (.aload_n 0, 1) := by decide +kernel
theorem dX7_writeVariable_10 : decode cX7_writeVariable 10 = .ok (.getfield 19, 3) := by decide +kernel
theorem dX7_writeVariable_13 : decode cX7_writeVariable 13 = .ok (.iload_n 1, 1) := by decide +kernel
theorem dX7_writeVariable_14 : decode cX7_writeVariable 14 = .ok (.invokevirtual 80, 3) := by decide +kernel
theorem dX7_writeVariable_17 : decode cX7_writeVariable 17 = .ok (.return_, 1) := by decide +kernel
theorem cw_X7_writeAlternatives : CWV yX7_writeAlternatives cX7_writeAlternatives 4 none RX7 1 := ⟨mG_1717, mG_1716, mG_66, mG_223, by decide +kernel⟩
theorem cw_X7_writeBindings : CWV yX7_writeBindings cX7_writeBindings 4 none RX7 1 := ⟨mG_1728, mG_1727, mG_68, mG_223, by decide +kernel⟩
theorem cw_X7_writeConstructors : CWV yX7_writeConstructors cX7_writeConstructors 2 none RX7 0 := ⟨mG_1649, mG_1648, mG_60, mG_223, by decide +kernel⟩
theorem cw_X7_writeFunction : CWV yX7_writeFunction cX7_writeFunction 2 none RX7 1 := ⟨mG_1690, mG_1689, mG_61, mG_223, by decide +kernel⟩
theorem cw_X7_writeInner : CWV yX7_writeInner cX7_writeInner 3 none RX7 1 := ⟨mG_1705, mG_1704, mG_64, mG_223, by decide +kernel⟩
theorem cw_X7_writePart : CWV yX7_writePart cX7_writePart 3 none RX7 1 := ⟨mG_1700, mG_1699, mG_63, mG_223, by decide +kernel⟩
theorem cw_X7_writePattern : CWV yX7_writePattern cX7_writePattern 4 none RX7 1 := ⟨mG_1722, mG_1721, mG_67, mG_223, by decide +kernel⟩
theorem cw_X7_writeRow : CWV yX7_writeRow cX7_writeRow 4 none RX7 1 := ⟨mG_1734, mG_1733, mG_69, mG_223, by decide +kernel⟩
theorem cw_X7_writeSign : CWV yX7_writeSign cX7_writeSign 2 none RX7 1 := ⟨mG_1709, mG_1708, mG_65, mG_223, by decide +kernel⟩
theorem cw_X7_writeVariable : CWV yX7_writeVariable cX7_writeVariable 2 none RX7 1 := ⟨mG_1695, mG_1694, mG_62, mG_223, by decide +kernel⟩
theorem cw_X8_addName : CWV yX8_addName cX8_addName 5 none RX8 1 := ⟨mG_1680, mG_1678, mG_1679, mG_215, by decide +kernel⟩
theorem cw_X8_addNumber : CWV yX8_addNumber cX8_addNumber 4 none RX8 1 := ⟨mG_1685, mG_1683, mG_1684, mG_215, by decide +kernel⟩
theorem cw_X8_addText : CWV yX8_addText cX8_addText 3 none RX8 1 := ⟨mG_1655, mG_1653, mG_1654, mG_215, by decide +kernel⟩
section MX7_writeFunction
variable {p : Program} {l : Launch} {e : Env} {R : Room} {s : State} {m : MethodId} {args : Array Value} {below : List Frame} {meth : Method} {c : Code} {dC : Nat → ClassId} {dI : Nat → Nat → Nat} {ak : Nat → Nat} {A : Nat → Prop} {ad : Nat → Nat} {kc : Nat → ClassId} {sv : Value} {r : Unit} {τ : S5}
set_option maxHeartbeats 4000000 in
set_option maxRecDepth 100000 in
theorem w_X7_writeFunction {σ : S5} {a1 : Int32} {H : Heap} {locs : List Loc} {ls : Array Slot} (S : CallFix p m c cX7_writeFunction 2 s args uG RX7) (hr : meth.sig.returnType = none) (hk : meth.locks = false) (hR : 5 ≤ R.frames ∧ 107 ≤ R.locals)
    (X : gX (dC, dI) (tC kc) (wC ad kc sv) (zC ak) A s σ H locs) (hl : lv_has ls 2 [(0, .ref (ad 9)), (1, .int a1)]) (hg : f_X7_writeFunction a1 σ = some (r, τ)) : W p l e R s m args below meth c H locs 0 0 (MQ below (gQv (dC, dI) (tC kc) (wC ad kc sv) A r τ) args s 0 0 A) (F0 m 0 ls []) := by
  have hx := S.1
  have hb := S.2.1
  have hown := S.2.2.2.1
  have hu := S.2.2.2.2
  unfold f_X7_writeFunction at hg
  refine lv_iload_n hx hb dX7_writeFunction_0 rfl (lv_at hl 1 rfl) ?_
  refine lv_aload_n hx hb dX7_writeFunction_1 rfl (lv_at hl 0 rfl) ?_
  refine wcgR_9_1 S X mG_631 dX7_writeFunction_2 ?_
  refine wcgI_7 (v := (gI σ 7)) S X mG_306 rfl dX7_writeFunction_5 ?_
  refine lv_icmp_ne (tgt := 23) hx hb dX7_writeFunction_8 (by decide) (fun c8 => ?_) (fun c8 => ?_)
  · have hg := (if_neg c8).symm.trans hg
    refine lv_aload_n hx hb dX7_writeFunction_23 rfl (lv_at hl 0 rfl) ?_
    obtain ⟨hv24, hg⟩ := gq_some hg
    refine wcgR_9_2 S X mG_632 hv24 dX7_writeFunction_24 ?_
    refine lv_bipush (v := 102) hx hb dX7_writeFunction_27 (by decide) ?_
    obtain ⟨r29, τ29, hq29, hg⟩ := bd_some hg
    refine gc_Vv (As := [.int 102]) (rest := []) (q0 := 1) (ci := 11) S X (k2_X8_add_draft l dC dI ad kc sv hq29 H.size) cw_X8_add mG_1681 rfl rfl rfl rfl rfl hl.1 (Nat.le_of_ble_eq_true rfl) dX7_writeFunction_29 ⟨by omega, by omega⟩ (fun H locs X => ?_)
    refine lv_aload_n hx hb dX7_writeFunction_32 rfl (lv_at hl 0 rfl) ?_
    obtain ⟨hv33, hg⟩ := gq_some hg
    refine wcgR_9_2 S X mG_632 hv33 dX7_writeFunction_33 ?_
    refine lv_iload_n hx hb dX7_writeFunction_36 rfl (lv_at hl 1 rfl) ?_
    obtain ⟨r37, τ37, hq37, hg⟩ := bd_some hg
    refine gc_Vv (As := [.int a1]) (rest := []) (q0 := 1) (ci := 11) S X (k2_X8_addNumber_draft l dC dI ad kc sv hq37 H.size) cw_X8_addNumber mG_1682 rfl rfl rfl rfl rfl hl.1 (Nat.le_of_ble_eq_true rfl) dX7_writeFunction_37 ⟨by omega, by omega⟩ (fun H locs X => ?_)
    obtain ⟨-, rfl⟩ := fin_some hg
    exact gr_v S hr hk X dX7_writeFunction_40
  · have hg := (if_pos c8).symm.trans hg
    refine lv_aload_n hx hb dX7_writeFunction_11 rfl (lv_at hl 0 rfl) ?_
    obtain ⟨hv12, hg⟩ := gq_some hg
    refine wcgR_9_2 S X mG_632 hv12 dX7_writeFunction_12 ?_
    refine va_ldcS hx hb hown (zR_4 X) dX7_writeFunction_15 ?_
    obtain ⟨r17, τ17, hq17, hg⟩ := bd_some hg
    refine gc_Vv (As := [.ref (ak 8)]) (rest := []) (q0 := 1) (ci := 11) S X (k2_X8_addText_draft l dC dI ad kc sv hq17 H.size) cw_X8_addText mG_1652 rfl rfl rfl rfl rfl hl.1 (Nat.le_of_ble_eq_true rfl) dX7_writeFunction_17 ⟨by omega, by omega⟩ (fun H locs X => ?_)
    refine lv_goto (tgt := 40) hx hb dX7_writeFunction_20 (by decide) ?_
    obtain ⟨-, rfl⟩ := fin_some hg
    exact gr_v S hr hk X dX7_writeFunction_40
end MX7_writeFunction
set_option maxRecDepth 100000 in
theorem k2_X7_writeFunction (l : Launch) (dC : Nat → ClassId) (dI : Nat → Nat → Nat) {ak : Nat → Nat} (ad : Nat → Nat) (kc : Nat → ClassId) (sv : Value) {σ τ : S5} {a1 : Int32} {r : Unit} (hg : f_X7_writeFunction a1 σ = some (r, τ)) (sz : Nat) : Met l yX7_writeFunction (Cond.code yX7_writeFunction cX7_writeFunction 2 none :: uG) { frames := 5, cells := 0, slots := 0, locals := 107 } (gPc (dC, dI) (tC kc) (wC ad kc sv) (zC ak) [.ref (ad 9), .int a1] σ sz) (gQv (dC, dI) (tC kc) (wC ad kc sv) (va_A (wC ad kc sv σ) sz) r τ) 0 0 (va_A (wC ad kc sv σ) sz) :=
  g_start (by decide) (Nat.le_of_ble_eq_true rfl) (fun p e s m below meth c ls S hr hk X hl => w_X7_writeFunction S hr hk ⟨Nat.le_refl _, Nat.le_refl _⟩ X hl hg)
section MX7_writeVariable
variable {p : Program} {l : Launch} {e : Env} {R : Room} {s : State} {m : MethodId} {args : Array Value} {below : List Frame} {meth : Method} {c : Code} {dC : Nat → ClassId} {dI : Nat → Nat → Nat} {ak : Nat → Nat} {A : Nat → Prop} {ad : Nat → Nat} {kc : Nat → ClassId} {sv : Value} {r : Unit} {τ : S5}
set_option maxHeartbeats 4000000 in
set_option maxRecDepth 100000 in
theorem w_X7_writeVariable {σ : S5} {a1 : Int32} {H : Heap} {locs : List Loc} {ls : Array Slot} (S : CallFix p m c cX7_writeVariable 2 s args uG RX7) (hr : meth.sig.returnType = none) (hk : meth.locks = false) (hR : 2 ≤ R.frames ∧ 44 ≤ R.locals)
    (X : gX (dC, dI) (tC kc) (wC ad kc sv) (zC ak) A s σ H locs) (hl : lv_has ls 2 [(0, .ref (ad 9)), (1, .int a1)]) (hg : f_X7_writeVariable a1 σ = some (r, τ)) : W p l e R s m args below meth c H locs 0 0 (MQ below (gQv (dC, dI) (tC kc) (wC ad kc sv) A r τ) args s 0 0 A) (F0 m 0 ls []) := by
  have hx := S.1
  have hb := S.2.1
  have hown := S.2.2.2.1
  have hu := S.2.2.2.2
  unfold f_X7_writeVariable at hg
  refine lv_aload_n hx hb dX7_writeVariable_0 rfl (lv_at hl 0 rfl) ?_
  obtain ⟨hv1, hg⟩ := gq_some hg
  refine wcgR_9_2 S X mG_632 hv1 dX7_writeVariable_1 ?_
  refine lv_bipush (v := 118) hx hb dX7_writeVariable_4 (by decide) ?_
  obtain ⟨r6, τ6, hq6, hg⟩ := bd_some hg
  refine gc_Vv (As := [.int 118]) (rest := []) (q0 := 1) (ci := 11) S X (k2_X8_add_draft l dC dI ad kc sv hq6 H.size) cw_X8_add mG_1681 rfl rfl rfl rfl rfl hl.1 (Nat.le_of_ble_eq_true rfl) dX7_writeVariable_6 ⟨by omega, by omega⟩ (fun H locs X => ?_)
  refine lv_aload_n hx hb dX7_writeVariable_9 rfl (lv_at hl 0 rfl) ?_
  obtain ⟨hv10, hg⟩ := gq_some hg
  refine wcgR_9_2 S X mG_632 hv10 dX7_writeVariable_10 ?_
  refine lv_iload_n hx hb dX7_writeVariable_13 rfl (lv_at hl 1 rfl) ?_
  obtain ⟨r14, τ14, hq14, hg⟩ := bd_some hg
  refine gc_Vv (As := [.int a1]) (rest := []) (q0 := 1) (ci := 11) S X (k2_X8_addNumber_draft l dC dI ad kc sv hq14 H.size) cw_X8_addNumber mG_1682 rfl rfl rfl rfl rfl hl.1 (Nat.le_of_ble_eq_true rfl) dX7_writeVariable_14 ⟨by omega, by omega⟩ (fun H locs X => ?_)
  obtain ⟨-, rfl⟩ := fin_some hg
  exact gr_v S hr hk X dX7_writeVariable_17
end MX7_writeVariable
set_option maxRecDepth 100000 in
theorem k2_X7_writeVariable (l : Launch) (dC : Nat → ClassId) (dI : Nat → Nat → Nat) {ak : Nat → Nat} (ad : Nat → Nat) (kc : Nat → ClassId) (sv : Value) {σ τ : S5} {a1 : Int32} {r : Unit} (hg : f_X7_writeVariable a1 σ = some (r, τ)) (sz : Nat) : Met l yX7_writeVariable (Cond.code yX7_writeVariable cX7_writeVariable 2 none :: uG) { frames := 2, cells := 0, slots := 0, locals := 44 } (gPc (dC, dI) (tC kc) (wC ad kc sv) (zC ak) [.ref (ad 9), .int a1] σ sz) (gQv (dC, dI) (tC kc) (wC ad kc sv) (va_A (wC ad kc sv σ) sz) r τ) 0 0 (va_A (wC ad kc sv σ) sz) :=
  g_start (by decide) (Nat.le_of_ble_eq_true rfl) (fun p e s m below meth c ls S hr hk X hl => w_X7_writeVariable S hr hk ⟨Nat.le_refl _, Nat.le_refl _⟩ X hl hg)
section MX7_writeConstructors
variable {p : Program} {l : Launch} {e : Env} {R : Room} {s : State} {m : MethodId} {args : Array Value} {below : List Frame} {meth : Method} {c : Code} {dC : Nat → ClassId} {dI : Nat → Nat → Nat} {ak : Nat → Nat} {A : Nat → Prop} {ad : Nat → Nat} {kc : Nat → ClassId} {sv : Value} {r : Unit} {τ : S5}
set_option maxHeartbeats 4000000 in
set_option maxRecDepth 100000 in
theorem w_X7_writeConstructors_b29 {σ : S5} {rec2 : Int32 → S5 → Option (Unit × S5)} {v1 : Int32} {u0 : Nat} {H : Heap} {locs : List Loc} {ls : Array Slot} (S : CallFix p m c cX7_writeConstructors 2 s args uG RX7) (hr : meth.sig.returnType = none) (hk : meth.locks = false) (hR : 5 ≤ R.frames ∧ 107 ≤ R.locals)
    (hrec2 : ∀ (v1 : Int32) (σ : S5) (H : Heap) (locs : List Loc) (ls : Array Slot), gX (dC, dI) (tC kc) (wC ad kc sv) (zC ak) A s σ H locs → lv_has ls 2 [(0, .ref (ad 9)), (1, .int v1)] → rec2 v1 σ = some (r, τ) → W p l e R s m args below meth c H locs 0 0 (MQ below (gQv (dC, dI) (tC kc) (wC ad kc sv) A r τ) args s 0 0 A) (F0 m 2 ls []))
    (X : gX (dC, dI) (tC kc) (wC ad kc sv) (zC ak) A s σ H locs) (hl : lv_has ls 2 [(0, .ref (ad 9)), (1, .int v1)]) (hg : f_X7_writeConstructors_b29 rec2 v1 u0 σ = some (r, τ)) : W p l e R s m args below meth c H locs 0 0 (MQ below (gQv (dC, dI) (tC kc) (wC ad kc sv) A r τ) args s 0 0 A) (F0 m 29 ls [.ref (ak (2 * u0)), .ref (ad 1)]) := by
  have hx := S.1
  have hb := S.2.1
  have hown := S.2.2.2.1
  have hu := S.2.2.2.2
  unfold f_X7_writeConstructors_b29 at hg
  obtain ⟨r29, τ29, hq29, hg⟩ := bd_some hg
  refine gc_Vv (As := [.ref (ak (2 * u0))]) (rest := []) (q0 := 1) (ci := 11) S X (k2_X8_addText_draft l dC dI ad kc sv hq29 H.size) cw_X8_addText mG_1652 rfl rfl rfl rfl rfl hl.1 (Nat.le_of_ble_eq_true rfl) dX7_writeConstructors_29 ⟨by omega, by omega⟩ (fun H locs X => ?_)
  refine lv_aload_n hx hb dX7_writeConstructors_32 rfl (lv_at hl 0 rfl) ?_
  obtain ⟨hv33, hg⟩ := gq_some hg
  refine wcgR_9_2 S X mG_632 hv33 dX7_writeConstructors_33 ?_
  refine lv_aload_n hx hb dX7_writeConstructors_36 rfl (lv_at hl 0 rfl) ?_
  refine wcgR_9_1 S X mG_631 dX7_writeConstructors_37 ?_
  refine wcgR_2_0 S X mG_283 dX7_writeConstructors_40 ?_
  refine lv_iload_n hx hb dX7_writeConstructors_43 rfl (lv_at hl 1 rfl) ?_
  obtain ⟨hi44, hg⟩ := gd_some hg
  refine wclB_0 (v := (xB τ29 0 v1)) S X hi44 rfl dX7_writeConstructors_44 ?_
  obtain ⟨r45, τ45, hq45, hg⟩ := bd_some hg
  refine gc_Vv (As := [.long (xB τ29 0 v1)]) (rest := []) (q0 := 1) (ci := 11) S X (k2_X8_addName_draft l dC dI ad kc sv hq45 H.size) cw_X8_addName mG_1677 rfl rfl rfl rfl rfl hl.1 (Nat.le_of_ble_eq_true rfl) dX7_writeConstructors_45 ⟨by omega, by omega⟩ (fun H locs X => ?_)
  refine lv_aload_n hx hb dX7_writeConstructors_48 rfl (lv_at hl 0 rfl) ?_
  obtain ⟨hv49, hg⟩ := gq_some hg
  refine wcgR_9_2 S X mG_632 hv49 dX7_writeConstructors_49 ?_
  refine lv_bipush (v := 32) hx hb dX7_writeConstructors_52 (by decide) ?_
  obtain ⟨r54, τ54, hq54, hg⟩ := bd_some hg
  refine gc_Vv (As := [.int 32]) (rest := []) (q0 := 1) (ci := 11) S X (k2_X8_add_draft l dC dI ad kc sv hq54 H.size) cw_X8_add mG_1681 rfl rfl rfl rfl rfl hl.1 (Nat.le_of_ble_eq_true rfl) dX7_writeConstructors_54 ⟨by omega, by omega⟩ (fun H locs X => ?_)
  refine lv_aload_n hx hb dX7_writeConstructors_57 rfl (lv_at hl 0 rfl) ?_
  obtain ⟨hv58, hg⟩ := gq_some hg
  refine wcgR_9_2 S X mG_632 hv58 dX7_writeConstructors_58 ?_
  refine lv_aload_n hx hb dX7_writeConstructors_61 rfl (lv_at hl 0 rfl) ?_
  refine wcgR_9_1 S X mG_631 dX7_writeConstructors_62 ?_
  refine wcgR_2_1 S X mG_285 dX7_writeConstructors_65 ?_
  refine lv_iload_n hx hb dX7_writeConstructors_68 rfl (lv_at hl 1 rfl) ?_
  obtain ⟨hi69, hg⟩ := gd_some hg
  refine wclA_2 (v := (xA τ54 2 v1)) S X hi69 rfl dX7_writeConstructors_69 ?_
  obtain ⟨r70, τ70, hq70, hg⟩ := bd_some hg
  refine gc_Vv (As := [.int (xA τ54 2 v1)]) (rest := []) (q0 := 1) (ci := 11) S X (k2_X8_addNumber_draft l dC dI ad kc sv hq70 H.size) cw_X8_addNumber mG_1682 rfl rfl rfl rfl rfl hl.1 (Nat.le_of_ble_eq_true rfl) dX7_writeConstructors_70 ⟨by omega, by omega⟩ (fun H locs X => ?_)
  refine lv_iinc (v := (v1 + 1)) (lv' := [(1, .int (v1 + 1)), (0, .ref (ad 9))]) hx hb dX7_writeConstructors_73 hl (k := 1) rfl (by rfl) (by decide) rfl (fun ls hl => ?_)
  refine lv_goto (tgt := 2) hx hb dX7_writeConstructors_76 (by decide) ?_
  exact hrec2 _ _ _ _ _ X (lv_sub hl [1, 0] rfl) hg
set_option maxHeartbeats 4000000 in
set_option maxRecDepth 100000 in
theorem w_X7_writeConstructors_B2 {σ : S5} {rec2 : Int32 → S5 → Option (Unit × S5)} {v1 : Int32} {H : Heap} {locs : List Loc} {ls : Array Slot} (S : CallFix p m c cX7_writeConstructors 2 s args uG RX7) (hr : meth.sig.returnType = none) (hk : meth.locks = false) (hR : 5 ≤ R.frames ∧ 107 ≤ R.locals)
    (hrec2 : ∀ (v1 : Int32) (σ : S5) (H : Heap) (locs : List Loc) (ls : Array Slot), gX (dC, dI) (tC kc) (wC ad kc sv) (zC ak) A s σ H locs → lv_has ls 2 [(0, .ref (ad 9)), (1, .int v1)] → rec2 v1 σ = some (r, τ) → W p l e R s m args below meth c H locs 0 0 (MQ below (gQv (dC, dI) (tC kc) (wC ad kc sv) A r τ) args s 0 0 A) (F0 m 2 ls []))
    (X : gX (dC, dI) (tC kc) (wC ad kc sv) (zC ak) A s σ H locs) (hl : lv_has ls 2 [(0, .ref (ad 9)), (1, .int v1)]) (hg : f_X7_writeConstructors_B2 rec2 v1 σ = some (r, τ)) : W p l e R s m args below meth c H locs 0 0 (MQ below (gQv (dC, dI) (tC kc) (wC ad kc sv) A r τ) args s 0 0 A) (F0 m 2 ls []) := by
  have hx := S.1
  have hb := S.2.1
  have hown := S.2.2.2.1
  have hu := S.2.2.2.2
  unfold f_X7_writeConstructors_B2 at hg
  refine lv_iload_n hx hb dX7_writeConstructors_2 rfl (lv_at hl 1 rfl) ?_
  refine lv_aload_n hx hb dX7_writeConstructors_3 rfl (lv_at hl 0 rfl) ?_
  refine wcgR_9_1 S X mG_631 dX7_writeConstructors_4 ?_
  refine wcgI_4 (v := (gI σ 4)) S X mG_291 rfl dX7_writeConstructors_7 ?_
  refine lv_icmp_ge (tgt := 79) hx hb dX7_writeConstructors_10 (by decide) (fun c10 => ?_) (fun c10 => ?_)
  · have hg := (if_pos c10).symm.trans hg
    refine lv_aload_n hx hb dX7_writeConstructors_79 rfl (lv_at hl 0 rfl) ?_
    refine wcgR_9_1 S X mG_631 dX7_writeConstructors_80 ?_
    refine wcgI_4 (v := (gI σ 4)) S X mG_291 rfl dX7_writeConstructors_83 ?_
    refine lv_iconst (v := 2) hx hb dX7_writeConstructors_86 (by decide) ?_
    refine lv_icmp_le (tgt := 99) hx hb dX7_writeConstructors_87 (by decide) (fun c87 => ?_) (fun c87 => ?_)
    · have hg := (if_pos c87).symm.trans hg
      obtain ⟨-, rfl⟩ := fin_some hg
      exact gr_v S hr hk X dX7_writeConstructors_99
    · have hg := (if_neg c87).symm.trans hg
      refine lv_aload_n hx hb dX7_writeConstructors_90 rfl (lv_at hl 0 rfl) ?_
      obtain ⟨hv91, hg⟩ := gq_some hg
      refine wcgR_9_2 S X mG_632 hv91 dX7_writeConstructors_91 ?_
      refine va_ldcS hx hb hown (zR_3 X) dX7_writeConstructors_94 ?_
      obtain ⟨r96, τ96, hq96, hg⟩ := bd_some hg
      refine gc_Vv (As := [.ref (ak 6)]) (rest := []) (q0 := 1) (ci := 11) S X (k2_X8_addText_draft l dC dI ad kc sv hq96 H.size) cw_X8_addText mG_1652 rfl rfl rfl rfl rfl hl.1 (Nat.le_of_ble_eq_true rfl) dX7_writeConstructors_96 ⟨by omega, by omega⟩ (fun H locs X => ?_)
      obtain ⟨-, rfl⟩ := fin_some hg
      exact gr_v S hr hk X dX7_writeConstructors_99
  · have hg := (if_neg c10).symm.trans hg
    refine lv_aload_n hx hb dX7_writeConstructors_13 rfl (lv_at hl 0 rfl) ?_
    obtain ⟨hv14, hg⟩ := gq_some hg
    refine wcgR_9_2 S X mG_632 hv14 dX7_writeConstructors_14 ?_
    refine lv_iload_n hx hb dX7_writeConstructors_17 rfl (lv_at hl 1 rfl) ?_
    refine lv_iconst (v := 2) hx hb dX7_writeConstructors_18 (by decide) ?_
    refine lv_icmp_ne (tgt := 27) hx hb dX7_writeConstructors_19 (by decide) (fun c19 => ?_) (fun c19 => ?_)
    · have hg := (if_neg c19).symm.trans hg
      refine va_ldcS hx hb hown (zR_2 X) dX7_writeConstructors_27 ?_
      exact w_X7_writeConstructors_b29 (u0 := 2) S hr hk hR hrec2 X (lv_sub hl [0, 1] rfl) hg
    · have hg := (if_pos c19).symm.trans hg
      refine va_ldcS hx hb hown (zR_1 X) dX7_writeConstructors_22 ?_
      refine lv_goto (tgt := 29) hx hb dX7_writeConstructors_24 (by decide) ?_
      exact w_X7_writeConstructors_b29 (u0 := 1) S hr hk hR hrec2 X (lv_sub hl [0, 1] rfl) hg
set_option maxHeartbeats 4000000 in
set_option maxRecDepth 100000 in
theorem w_X7_writeConstructors_L2 (S : CallFix p m c cX7_writeConstructors 2 s args uG RX7) (hr : meth.sig.returnType = none) (hk : meth.locks = false) (hR : 5 ≤ R.frames ∧ 107 ≤ R.locals) : ∀ (n : Nat) (v1 : Int32) (σ : S5) (H : Heap) (locs : List Loc) (ls : Array Slot), gX (dC, dI) (tC kc) (wC ad kc sv) (zC ak) A s σ H locs → lv_has ls 2 [(0, .ref (ad 9)), (1, .int v1)] → f_X7_writeConstructors_L2  n v1 σ = some (r, τ) → W p l e R s m args below meth c H locs 0 0 (MQ below (gQv (dC, dI) (tC kc) (wC ad kc sv) A r τ) args s 0 0 A) (F0 m 2 ls []) := by
  intro n
  induction n with
  | zero => intro v1 σ H locs ls X hl hg; cases hg
  | succ n ih => intro v1 σ H locs ls X hl hg; exact w_X7_writeConstructors_B2 S hr hk hR ih X hl hg
set_option maxHeartbeats 4000000 in
set_option maxRecDepth 100000 in
theorem w_X7_writeConstructors {σ : S5}  {H : Heap} {locs : List Loc} {ls : Array Slot} (S : CallFix p m c cX7_writeConstructors 2 s args uG RX7) (hr : meth.sig.returnType = none) (hk : meth.locks = false) (hR : 5 ≤ R.frames ∧ 107 ≤ R.locals)
    (X : gX (dC, dI) (tC kc) (wC ad kc sv) (zC ak) A s σ H locs) (hl : lv_has ls 2 [(0, .ref (ad 9))]) (hg : f_X7_writeConstructors  σ = some (r, τ)) : W p l e R s m args below meth c H locs 0 0 (MQ below (gQv (dC, dI) (tC kc) (wC ad kc sv) A r τ) args s 0 0 A) (F0 m 0 ls []) := by
  have hx := S.1
  have hb := S.2.1
  have hown := S.2.2.2.1
  have hu := S.2.2.2.2
  unfold f_X7_writeConstructors at hg
  refine lv_iconst (v := 2) hx hb dX7_writeConstructors_0 (by decide) ?_
  refine lv_istore_n (lv' := [(1, .int 2), (0, .ref (ad 9))]) hx hb dX7_writeConstructors_1 rfl hl (by decide) rfl (fun ls hl => ?_)
  exact w_X7_writeConstructors_L2 S hr hk hR _ _ _ _ _ _ X (lv_sub hl [1, 0] rfl) hg
end MX7_writeConstructors
set_option maxRecDepth 100000 in
theorem k2_X7_writeConstructors (l : Launch) (dC : Nat → ClassId) (dI : Nat → Nat → Nat) {ak : Nat → Nat} (ad : Nat → Nat) (kc : Nat → ClassId) (sv : Value) {σ τ : S5}  {r : Unit} (hg : f_X7_writeConstructors  σ = some (r, τ)) (sz : Nat) : Met l yX7_writeConstructors (Cond.code yX7_writeConstructors cX7_writeConstructors 2 none :: uG) { frames := 5, cells := 0, slots := 0, locals := 107 } (gPc (dC, dI) (tC kc) (wC ad kc sv) (zC ak) [.ref (ad 9)] σ sz) (gQv (dC, dI) (tC kc) (wC ad kc sv) (va_A (wC ad kc sv σ) sz) r τ) 0 0 (va_A (wC ad kc sv σ) sz) :=
  g_start (by decide) (Nat.le_of_ble_eq_true rfl) (fun p e s m below meth c ls S hr hk X hl => w_X7_writeConstructors S hr hk ⟨Nat.le_refl _, Nat.le_refl _⟩ X hl hg)
section MX7_writeSign
variable {p : Program} {l : Launch} {e : Env} {R : Room} {s : State} {m : MethodId} {args : Array Value} {below : List Frame} {meth : Method} {c : Code} {dC : Nat → ClassId} {dI : Nat → Nat → Nat} {ak : Nat → Nat} {A : Nat → Prop} {ad : Nat → Nat} {kc : Nat → ClassId} {sv : Value} {r : Unit} {τ : S5}
set_option maxHeartbeats 4000000 in
set_option maxRecDepth 100000 in
theorem w_X7_writeSign_b55 {σ : S5}  {H : Heap} {locs : List Loc} {ls : Array Slot} (S : CallFix p m c cX7_writeSign 2 s args uG RX7) (hr : meth.sig.returnType = none) (hk : meth.locks = false) (hR : 5 ≤ R.frames ∧ 107 ≤ R.locals)
    (X : gX (dC, dI) (tC kc) (wC ad kc sv) (zC ak) A s σ H locs) (hl : lv_has ls 2 [(0, .ref (ad 9))]) (hg : f_X7_writeSign_b55  σ = some (r, τ)) : W p l e R s m args below meth c H locs 0 0 (MQ below (gQv (dC, dI) (tC kc) (wC ad kc sv) A r τ) args s 0 0 A) (F0 m 55 ls []) := by
  have hx := S.1
  have hb := S.2.1
  have hown := S.2.2.2.1
  have hu := S.2.2.2.2
  unfold f_X7_writeSign_b55 at hg
  refine lv_aload_n hx hb dX7_writeSign_55 rfl (lv_at hl 0 rfl) ?_
  obtain ⟨hv56, hg⟩ := gq_some hg
  refine wcgR_9_2 S X mG_632 hv56 dX7_writeSign_56 ?_
  refine lv_bipush (v := 32) hx hb dX7_writeSign_59 (by decide) ?_
  obtain ⟨r61, τ61, hq61, hg⟩ := bd_some hg
  refine gc_Vv (As := [.int 32]) (rest := []) (q0 := 1) (ci := 11) S X (k2_X8_add_draft l dC dI ad kc sv hq61 H.size) cw_X8_add mG_1681 rfl rfl rfl rfl rfl hl.1 (Nat.le_of_ble_eq_true rfl) dX7_writeSign_61 ⟨by omega, by omega⟩ (fun H locs X => ?_)
  obtain ⟨-, rfl⟩ := fin_some hg
  exact gr_v S hr hk X dX7_writeSign_64
set_option maxHeartbeats 4000000 in
set_option maxRecDepth 100000 in
theorem w_X7_writeSign {σ : S5} {a1 : Int32} {H : Heap} {locs : List Loc} {ls : Array Slot} (S : CallFix p m c cX7_writeSign 2 s args uG RX7) (hr : meth.sig.returnType = none) (hk : meth.locks = false) (hR : 5 ≤ R.frames ∧ 107 ≤ R.locals)
    (X : gX (dC, dI) (tC kc) (wC ad kc sv) (zC ak) A s σ H locs) (hl : lv_has ls 2 [(0, .ref (ad 9)), (1, .int a1)]) (hg : f_X7_writeSign a1 σ = some (r, τ)) : W p l e R s m args below meth c H locs 0 0 (MQ below (gQv (dC, dI) (tC kc) (wC ad kc sv) A r τ) args s 0 0 A) (F0 m 0 ls []) := by
  have hx := S.1
  have hb := S.2.1
  have hown := S.2.2.2.1
  have hu := S.2.2.2.2
  unfold f_X7_writeSign at hg
  refine lv_aload_n hx hb dX7_writeSign_0 rfl (lv_at hl 0 rfl) ?_
  obtain ⟨hv1, hg⟩ := gq_some hg
  refine wcgR_9_2 S X mG_632 hv1 dX7_writeSign_1 ?_
  refine lv_bipush (v := 32) hx hb dX7_writeSign_4 (by decide) ?_
  obtain ⟨r6, τ6, hq6, hg⟩ := bd_some hg
  refine gc_Vv (As := [.int 32]) (rest := []) (q0 := 1) (ci := 11) S X (k2_X8_add_draft l dC dI ad kc sv hq6 H.size) cw_X8_add mG_1681 rfl rfl rfl rfl rfl hl.1 (Nat.le_of_ble_eq_true rfl) dX7_writeSign_6 ⟨by omega, by omega⟩ (fun H locs X => ?_)
  refine lv_iload_n hx hb dX7_writeSign_9 rfl (lv_at hl 1 rfl) ?_
  refine lv_sipush (v := 129) hx hb dX7_writeSign_10 (by decide) ?_
  refine lv_icmp_ne (tgt := 28) hx hb dX7_writeSign_13 (by decide) (fun c13 => ?_) (fun c13 => ?_)
  · have hg := (if_neg c13).symm.trans hg
    refine lv_iload_n hx hb dX7_writeSign_28 rfl (lv_at hl 1 rfl) ?_
    refine lv_sipush (v := 130) hx hb dX7_writeSign_29 (by decide) ?_
    refine lv_icmp_ne (tgt := 47) hx hb dX7_writeSign_32 (by decide) (fun c32 => ?_) (fun c32 => ?_)
    · have hg := (if_neg c32).symm.trans hg
      refine lv_aload_n hx hb dX7_writeSign_47 rfl (lv_at hl 0 rfl) ?_
      obtain ⟨hv48, hg⟩ := gq_some hg
      refine wcgR_9_2 S X mG_632 hv48 dX7_writeSign_48 ?_
      refine lv_iload_n hx hb dX7_writeSign_51 rfl (lv_at hl 1 rfl) ?_
      obtain ⟨r52, τ52, hq52, hg⟩ := bd_some hg
      refine gc_Vv (As := [.int a1]) (rest := []) (q0 := 1) (ci := 11) S X (k2_X8_add_draft l dC dI ad kc sv hq52 H.size) cw_X8_add mG_1681 rfl rfl rfl rfl rfl hl.1 (Nat.le_of_ble_eq_true rfl) dX7_writeSign_52 ⟨by omega, by omega⟩ (fun H locs X => ?_)
      exact w_X7_writeSign_b55 S hr hk hR X (lv_sub hl [0] rfl) hg
    · have hg := (if_pos c32).symm.trans hg
      refine lv_aload_n hx hb dX7_writeSign_35 rfl (lv_at hl 0 rfl) ?_
      obtain ⟨hv36, hg⟩ := gq_some hg
      refine wcgR_9_2 S X mG_632 hv36 dX7_writeSign_36 ?_
      refine va_ldcS hx hb hown (zR_8 X) dX7_writeSign_39 ?_
      obtain ⟨r41, τ41, hq41, hg⟩ := bd_some hg
      refine gc_Vv (As := [.ref (ak 16)]) (rest := []) (q0 := 1) (ci := 11) S X (k2_X8_addText_draft l dC dI ad kc sv hq41 H.size) cw_X8_addText mG_1652 rfl rfl rfl rfl rfl hl.1 (Nat.le_of_ble_eq_true rfl) dX7_writeSign_41 ⟨by omega, by omega⟩ (fun H locs X => ?_)
      refine lv_goto (tgt := 55) hx hb dX7_writeSign_44 (by decide) ?_
      exact w_X7_writeSign_b55 S hr hk hR X (lv_sub hl [0] rfl) hg
  · have hg := (if_pos c13).symm.trans hg
    refine lv_aload_n hx hb dX7_writeSign_16 rfl (lv_at hl 0 rfl) ?_
    obtain ⟨hv17, hg⟩ := gq_some hg
    refine wcgR_9_2 S X mG_632 hv17 dX7_writeSign_17 ?_
    refine va_ldcS hx hb hown (zR_7 X) dX7_writeSign_20 ?_
    obtain ⟨r22, τ22, hq22, hg⟩ := bd_some hg
    refine gc_Vv (As := [.ref (ak 14)]) (rest := []) (q0 := 1) (ci := 11) S X (k2_X8_addText_draft l dC dI ad kc sv hq22 H.size) cw_X8_addText mG_1652 rfl rfl rfl rfl rfl hl.1 (Nat.le_of_ble_eq_true rfl) dX7_writeSign_22 ⟨by omega, by omega⟩ (fun H locs X => ?_)
    refine lv_goto (tgt := 55) hx hb dX7_writeSign_25 (by decide) ?_
    exact w_X7_writeSign_b55 S hr hk hR X (lv_sub hl [0] rfl) hg
end MX7_writeSign
set_option maxRecDepth 100000 in
theorem k2_X7_writeSign (l : Launch) (dC : Nat → ClassId) (dI : Nat → Nat → Nat) {ak : Nat → Nat} (ad : Nat → Nat) (kc : Nat → ClassId) (sv : Value) {σ τ : S5} {a1 : Int32} {r : Unit} (hg : f_X7_writeSign a1 σ = some (r, τ)) (sz : Nat) : Met l yX7_writeSign (Cond.code yX7_writeSign cX7_writeSign 2 none :: uG) { frames := 5, cells := 0, slots := 0, locals := 107 } (gPc (dC, dI) (tC kc) (wC ad kc sv) (zC ak) [.ref (ad 9), .int a1] σ sz) (gQv (dC, dI) (tC kc) (wC ad kc sv) (va_A (wC ad kc sv σ) sz) r τ) 0 0 (va_A (wC ad kc sv σ) sz) :=
  g_start (by decide) (Nat.le_of_ble_eq_true rfl) (fun p e s m below meth c ls S hr hk X hl => w_X7_writeSign S hr hk ⟨Nat.le_refl _, Nat.le_refl _⟩ X hl hg)
section MX7_writePattern
variable {p : Program} {l : Launch} {e : Env} {R : Room} {s : State} {m : MethodId} {args : Array Value} {below : List Frame} {meth : Method} {c : Code} {dC : Nat → ClassId} {dI : Nat → Nat → Nat} {ak : Nat → Nat} {A : Nat → Prop} {ad : Nat → Nat} {kc : Nat → ClassId} {sv : Value} {r : Unit} {τ : S5}
set_option maxHeartbeats 4000000 in
set_option maxRecDepth 100000 in
theorem w_X7_writePattern_B79 {σ : S5} {rec79 : Int32 → Int32 → Int32 → S5 → Option (Unit × S5)} {v1 : Int32} {v2 : Int32} {v3 : Int32} {H : Heap} {locs : List Loc} {ls : Array Slot} (S : CallFix p m c cX7_writePattern 4 s args uG RX7) (hr : meth.sig.returnType = none) (hk : meth.locks = false) (hR : 3 ≤ R.frames ∧ 65 ≤ R.locals)
    (hrec79 : ∀ (v1 : Int32) (v2 : Int32) (v3 : Int32) (σ : S5) (H : Heap) (locs : List Loc) (ls : Array Slot), gX (dC, dI) (tC kc) (wC ad kc sv) (zC ak) A s σ H locs → lv_has ls 4 [(0, .ref (ad 9)), (1, .int v1), (2, .int v2), (3, .int v3)] → rec79 v1 v2 v3 σ = some (r, τ) → W p l e R s m args below meth c H locs 0 0 (MQ below (gQv (dC, dI) (tC kc) (wC ad kc sv) A r τ) args s 0 0 A) (F0 m 79 ls []))
    (X : gX (dC, dI) (tC kc) (wC ad kc sv) (zC ak) A s σ H locs) (hl : lv_has ls 4 [(0, .ref (ad 9)), (1, .int v1), (2, .int v2), (3, .int v3)]) (hg : f_X7_writePattern_B79 rec79 v1 v2 v3 σ = some (r, τ)) : W p l e R s m args below meth c H locs 0 0 (MQ below (gQv (dC, dI) (tC kc) (wC ad kc sv) A r τ) args s 0 0 A) (F0 m 79 ls []) := by
  have hx := S.1
  have hb := S.2.1
  have hown := S.2.2.2.1
  have hu := S.2.2.2.2
  unfold f_X7_writePattern_B79 at hg
  refine lv_iload_n hx hb dX7_writePattern_79 rfl (lv_at hl 3 rfl) ?_
  refine lv_aload_n hx hb dX7_writePattern_80 rfl (lv_at hl 0 rfl) ?_
  refine wcgR_9_1 S X mG_631 dX7_writePattern_81 ?_
  refine wcgR_2_1 S X mG_285 dX7_writePattern_84 ?_
  refine lv_iload_n hx hb dX7_writePattern_87 rfl (lv_at hl 2 rfl) ?_
  obtain ⟨hi88, hg⟩ := gd_some hg
  refine wclA_2 (v := (xA σ 2 v2)) S X hi88 rfl dX7_writePattern_88 ?_
  refine lv_icmp_ge (tgt := 122) hx hb dX7_writePattern_89 (by decide) (fun c89 => ?_) (fun c89 => ?_)
  · have hg := (if_pos c89).symm.trans hg
    obtain ⟨-, rfl⟩ := fin_some hg
    exact gr_v S hr hk X dX7_writePattern_122
  · have hg := (if_neg c89).symm.trans hg
    refine lv_aload_n hx hb dX7_writePattern_92 rfl (lv_at hl 0 rfl) ?_
    obtain ⟨hv93, hg⟩ := gq_some hg
    refine wcgR_9_2 S X mG_632 hv93 dX7_writePattern_93 ?_
    refine lv_bipush (v := 32) hx hb dX7_writePattern_96 (by decide) ?_
    obtain ⟨r98, τ98, hq98, hg⟩ := bd_some hg
    refine gc_Vv (As := [.int 32]) (rest := []) (q0 := 1) (ci := 11) S X (k2_X8_add_draft l dC dI ad kc sv hq98 H.size) cw_X8_add mG_1681 rfl rfl rfl rfl rfl hl.1 (Nat.le_of_ble_eq_true rfl) dX7_writePattern_98 ⟨by omega, by omega⟩ (fun H locs X => ?_)
    refine lv_aload_n hx hb dX7_writePattern_101 rfl (lv_at hl 0 rfl) ?_
    refine lv_aload_n hx hb dX7_writePattern_102 rfl (lv_at hl 0 rfl) ?_
    refine wcgR_9_0 S X mG_630 dX7_writePattern_103 ?_
    refine wcgR_3_2 S X mG_392 dX7_writePattern_106 ?_
    refine lv_iload_n hx hb dX7_writePattern_109 rfl (lv_at hl 1 rfl) ?_
    obtain ⟨hi110, hg⟩ := gd_some hg
    refine wclA_15 (v := (xA τ98 15 v1)) S X hi110 rfl dX7_writePattern_110 ?_
    refine lv_iload_n hx hb dX7_writePattern_111 rfl (lv_at hl 3 rfl) ?_
    refine lv_iadd hx hb dX7_writePattern_112 ?_
    obtain ⟨r113, τ113, hq113, hg⟩ := bd_some hg
    refine gc_Vv (As := [.int ((xA τ98 15 v1) + v3)]) (rest := []) (q0 := 9) (ci := 10) S X (k2_X7_writeVariable l dC dI ad kc sv hq113 H.size) cw_X7_writeVariable mG_1692 rfl rfl rfl rfl rfl hl.1 (Nat.le_of_ble_eq_true rfl) dX7_writePattern_113 ⟨by omega, by omega⟩ (fun H locs X => ?_)
    refine lv_iinc (v := (v3 + 1)) (lv' := [(3, .int (v3 + 1)), (0, .ref (ad 9)), (1, .int v1), (2, .int v2)]) hx hb dX7_writePattern_116 hl (k := 3) rfl (by rfl) (by decide) rfl (fun ls hl => ?_)
    refine lv_goto (tgt := 79) hx hb dX7_writePattern_119 (by decide) ?_
    exact hrec79 _ _ _ _ _ _ _ X (lv_sub hl [1, 2, 3, 0] rfl) hg
set_option maxHeartbeats 4000000 in
set_option maxRecDepth 100000 in
theorem w_X7_writePattern_L79 (S : CallFix p m c cX7_writePattern 4 s args uG RX7) (hr : meth.sig.returnType = none) (hk : meth.locks = false) (hR : 3 ≤ R.frames ∧ 65 ≤ R.locals) : ∀ (n : Nat) (v1 : Int32) (v2 : Int32) (v3 : Int32) (σ : S5) (H : Heap) (locs : List Loc) (ls : Array Slot), gX (dC, dI) (tC kc) (wC ad kc sv) (zC ak) A s σ H locs → lv_has ls 4 [(0, .ref (ad 9)), (1, .int v1), (2, .int v2), (3, .int v3)] → f_X7_writePattern_L79  n v1 v2 v3 σ = some (r, τ) → W p l e R s m args below meth c H locs 0 0 (MQ below (gQv (dC, dI) (tC kc) (wC ad kc sv) A r τ) args s 0 0 A) (F0 m 79 ls []) := by
  intro n
  induction n with
  | zero => intro v1 v2 v3 σ H locs ls X hl hg; cases hg
  | succ n ih => intro v1 v2 v3 σ H locs ls X hl hg; exact w_X7_writePattern_B79 S hr hk hR ih X hl hg
set_option maxHeartbeats 4000000 in
set_option maxRecDepth 100000 in
theorem w_X7_writePattern {σ : S5} {a1 : Int32} {H : Heap} {locs : List Loc} {ls : Array Slot} (S : CallFix p m c cX7_writePattern 4 s args uG RX7) (hr : meth.sig.returnType = none) (hk : meth.locks = false) (hR : 3 ≤ R.frames ∧ 65 ≤ R.locals)
    (X : gX (dC, dI) (tC kc) (wC ad kc sv) (zC ak) A s σ H locs) (hl : lv_has ls 4 [(0, .ref (ad 9)), (1, .int a1)]) (hg : f_X7_writePattern a1 σ = some (r, τ)) : W p l e R s m args below meth c H locs 0 0 (MQ below (gQv (dC, dI) (tC kc) (wC ad kc sv) A r τ) args s 0 0 A) (F0 m 0 ls []) := by
  have hx := S.1
  have hb := S.2.1
  have hown := S.2.2.2.1
  have hu := S.2.2.2.2
  unfold f_X7_writePattern at hg
  refine lv_aload_n hx hb dX7_writePattern_0 rfl (lv_at hl 0 rfl) ?_
  refine wcgR_9_0 S X mG_630 dX7_writePattern_1 ?_
  refine wcgR_3_1 S X mG_386 dX7_writePattern_4 ?_
  refine lv_iload_n hx hb dX7_writePattern_7 rfl (lv_at hl 1 rfl) ?_
  obtain ⟨hi8, hg⟩ := gd_some hg
  refine wclA_14 (v := (xA σ 14 a1)) S X hi8 rfl dX7_writePattern_8 ?_
  refine lv_istore_n (lv' := [(2, .int (xA σ 14 a1)), (0, .ref (ad 9)), (1, .int a1)]) hx hb dX7_writePattern_9 rfl hl (by decide) rfl (fun ls hl => ?_)
  refine lv_aload_n hx hb dX7_writePattern_10 rfl (lv_at hl 1 rfl) ?_
  refine wcgR_9_0 S X mG_630 dX7_writePattern_11 ?_
  refine wcgR_3_0 S X mG_382 dX7_writePattern_14 ?_
  refine lv_iload_n hx hb dX7_writePattern_17 rfl (lv_at hl 2 rfl) ?_
  obtain ⟨hi18, hg⟩ := gd_some hg
  refine wclA_13 (v := (xA σ 13 a1)) S X hi18 rfl dX7_writePattern_18 ?_
  refine lv_bipush (v := 13) hx hb dX7_writePattern_19 (by decide) ?_
  refine lv_icmp_ne (tgt := 36) hx hb dX7_writePattern_21 (by decide) (fun c21 => ?_) (fun c21 => ?_)
  · have hg := (if_neg c21).symm.trans hg
    refine lv_aload_n hx hb dX7_writePattern_36 rfl (lv_at hl 1 rfl) ?_
    refine wcgR_9_0 S X mG_630 dX7_writePattern_37 ?_
    refine wcgR_3_0 S X mG_382 dX7_writePattern_40 ?_
    refine lv_iload_n hx hb dX7_writePattern_43 rfl (lv_at hl 2 rfl) ?_
    obtain ⟨hi44, hg⟩ := gd_some hg
    refine wclA_13 (v := (xA σ 13 a1)) S X hi44 rfl dX7_writePattern_44 ?_
    refine lv_bipush (v := 12) hx hb dX7_writePattern_45 (by decide) ?_
    refine lv_icmp_ne (tgt := 61) hx hb dX7_writePattern_47 (by decide) (fun c47 => ?_) (fun c47 => ?_)
    · have hg := (if_neg c47).symm.trans hg
      refine lv_aload_n hx hb dX7_writePattern_61 rfl (lv_at hl 1 rfl) ?_
      obtain ⟨hv62, hg⟩ := gq_some hg
      refine wcgR_9_2 S X mG_632 hv62 dX7_writePattern_62 ?_
      refine lv_aload_n hx hb dX7_writePattern_65 rfl (lv_at hl 1 rfl) ?_
      refine wcgR_9_1 S X mG_631 dX7_writePattern_66 ?_
      refine wcgR_2_0 S X mG_283 dX7_writePattern_69 ?_
      refine lv_iload_n hx hb dX7_writePattern_72 rfl (lv_at hl 0 rfl) ?_
      obtain ⟨hi73, hg⟩ := gd_some hg
      refine wclB_0 (v := (xB σ 0 (xA σ 14 a1))) S X hi73 rfl dX7_writePattern_73 ?_
      obtain ⟨r74, τ74, hq74, hg⟩ := bd_some hg
      refine gc_Vv (As := [.long (xB σ 0 (xA σ 14 a1))]) (rest := []) (q0 := 1) (ci := 11) S X (k2_X8_addName_draft l dC dI ad kc sv hq74 H.size) cw_X8_addName mG_1677 rfl rfl rfl rfl rfl hl.1 (Nat.le_of_ble_eq_true rfl) dX7_writePattern_74 ⟨by omega, by omega⟩ (fun H locs X => ?_)
      refine lv_iconst (v := 0) hx hb dX7_writePattern_77 (by decide) ?_
      refine lv_istore_n (lv' := [(3, .int 0), (2, .int (xA σ 14 a1)), (0, .ref (ad 9)), (1, .int a1)]) hx hb dX7_writePattern_78 rfl hl (by decide) rfl (fun ls hl => ?_)
      exact w_X7_writePattern_L79 S hr hk hR _ _ _ _ _ _ _ _ X (lv_sub hl [2, 3, 1, 0] rfl) hg
    · have hg := (if_pos c47).symm.trans hg
      refine lv_aload_n hx hb dX7_writePattern_50 rfl (lv_at hl 1 rfl) ?_
      obtain ⟨hv51, hg⟩ := gq_some hg
      refine wcgR_9_2 S X mG_632 hv51 dX7_writePattern_51 ?_
      refine lv_iload_n hx hb dX7_writePattern_54 rfl (lv_at hl 0 rfl) ?_
      obtain ⟨r55, τ55, hq55, hg⟩ := bd_some hg
      refine gc_Vv (As := [.int (xA σ 14 a1)]) (rest := []) (q0 := 1) (ci := 11) S X (k2_X8_addNumber_draft l dC dI ad kc sv hq55 H.size) cw_X8_addNumber mG_1682 rfl rfl rfl rfl rfl hl.1 (Nat.le_of_ble_eq_true rfl) dX7_writePattern_55 ⟨by omega, by omega⟩ (fun H locs X => ?_)
      refine lv_goto (tgt := 122) hx hb dX7_writePattern_58 (by decide) ?_
      obtain ⟨-, rfl⟩ := fin_some hg
      exact gr_v S hr hk X dX7_writePattern_122
  · have hg := (if_pos c21).symm.trans hg
    refine lv_aload_n hx hb dX7_writePattern_24 rfl (lv_at hl 1 rfl) ?_
    obtain ⟨hv25, hg⟩ := gq_some hg
    refine wcgR_9_2 S X mG_632 hv25 dX7_writePattern_25 ?_
    refine lv_bipush (v := 95) hx hb dX7_writePattern_28 (by decide) ?_
    obtain ⟨r30, τ30, hq30, hg⟩ := bd_some hg
    refine gc_Vv (As := [.int 95]) (rest := []) (q0 := 1) (ci := 11) S X (k2_X8_add_draft l dC dI ad kc sv hq30 H.size) cw_X8_add mG_1681 rfl rfl rfl rfl rfl hl.1 (Nat.le_of_ble_eq_true rfl) dX7_writePattern_30 ⟨by omega, by omega⟩ (fun H locs X => ?_)
    refine lv_goto (tgt := 122) hx hb dX7_writePattern_33 (by decide) ?_
    obtain ⟨-, rfl⟩ := fin_some hg
    exact gr_v S hr hk X dX7_writePattern_122
end MX7_writePattern
set_option maxRecDepth 100000 in
theorem k2_X7_writePattern (l : Launch) (dC : Nat → ClassId) (dI : Nat → Nat → Nat) {ak : Nat → Nat} (ad : Nat → Nat) (kc : Nat → ClassId) (sv : Value) {σ τ : S5} {a1 : Int32} {r : Unit} (hg : f_X7_writePattern a1 σ = some (r, τ)) (sz : Nat) : Met l yX7_writePattern (Cond.code yX7_writePattern cX7_writePattern 4 none :: uG) { frames := 3, cells := 0, slots := 0, locals := 65 } (gPc (dC, dI) (tC kc) (wC ad kc sv) (zC ak) [.ref (ad 9), .int a1] σ sz) (gQv (dC, dI) (tC kc) (wC ad kc sv) (va_A (wC ad kc sv σ) sz) r τ) 0 0 (va_A (wC ad kc sv σ) sz) :=
  g_start (by decide) (Nat.le_of_ble_eq_true rfl) (fun p e s m below meth c ls S hr hk X hl => w_X7_writePattern S hr hk ⟨Nat.le_refl _, Nat.le_refl _⟩ X hl hg)
section MX7_writeRow
variable {p : Program} {l : Launch} {e : Env} {R : Room} {s : State} {m : MethodId} {args : Array Value} {below : List Frame} {meth : Method} {c : Code} {dC : Nat → ClassId} {dI : Nat → Nat → Nat} {ak : Nat → Nat} {A : Nat → Prop} {ad : Nat → Nat} {kc : Nat → ClassId} {sv : Value} {r : Unit} {τ : S5} {fE lE : Nat}
set_option maxHeartbeats 4000000 in
set_option maxRecDepth 100000 in
theorem w_X7_writeRow_b28 {σ : S5} {E : Int32 → S5 → Option (Unit × S5)} {rec4 : Int32 → Int32 → S5 → Option (Unit × S5)} {v2 : Int32} {v3 : Int32} {H : Heap} {locs : List Loc} {ls : Array Slot} (S : CallFix p m c cX7_writeRow 4 s args uG RX7) (hr : meth.sig.returnType = none) (hk : meth.locks = false) (hR : fE + 1 ≤ R.frames ∧ lE + 22 ≤ R.locals)
    (hE : ∀ (a0 : Int32) (σ τ : S5) (r : Unit), E a0 σ = some (r, τ) → ∀ sz : Nat, Met l yX7_writePart (Cond.code yX7_writePart cX7_writePart 3 none :: uG) { frames := fE, cells := 0, slots := 0, locals := lE } (gPc (dC, dI) (tC kc) (wC ad kc sv) (zC ak) [.ref (ad 9), .int a0] σ sz) (gQv (dC, dI) (tC kc) (wC ad kc sv) (va_A (wC ad kc sv σ) sz) r τ) 0 0 (va_A (wC ad kc sv σ) sz))
    (hrec4 : ∀ (v2 : Int32) (v3 : Int32) (σ : S5) (H : Heap) (locs : List Loc) (ls : Array Slot), gX (dC, dI) (tC kc) (wC ad kc sv) (zC ak) A s σ H locs → lv_has ls 4 [(0, .ref (ad 9)), (2, .int v2), (3, .int v3)] → rec4 v2 v3 σ = some (r, τ) → W p l e R s m args below meth c H locs 0 0 (MQ below (gQv (dC, dI) (tC kc) (wC ad kc sv) A r τ) args s 0 0 A) (F0 m 4 ls []))
    (X : gX (dC, dI) (tC kc) (wC ad kc sv) (zC ak) A s σ H locs) (hl : lv_has ls 4 [(0, .ref (ad 9)), (2, .int v2), (3, .int v3)]) (hg : f_X7_writeRow_b28 E rec4 v2 v3 σ = some (r, τ)) : W p l e R s m args below meth c H locs 0 0 (MQ below (gQv (dC, dI) (tC kc) (wC ad kc sv) A r τ) args s 0 0 A) (F0 m 28 ls []) := by
  have hx := S.1
  have hb := S.2.1
  have hown := S.2.2.2.1
  have hu := S.2.2.2.2
  unfold f_X7_writeRow_b28 at hg
  refine lv_aload_n hx hb dX7_writeRow_28 rfl (lv_at hl 0 rfl) ?_
  refine lv_iload_n hx hb dX7_writeRow_29 rfl (lv_at hl 2 rfl) ?_
  obtain ⟨r30, τ30, hq30, hg⟩ := bd_some hg
  refine gc_Vv (As := [.int v3]) (rest := []) (q0 := 9) (ci := 10) S X (hE _ _ _ _ hq30 H.size) cw_X7_writePart mG_1697 rfl rfl rfl rfl rfl hl.1 (Nat.le_of_ble_eq_true rfl) dX7_writeRow_30 ⟨by omega, by omega⟩ (fun H locs X => ?_)
  refine lv_iinc (v := (v2 + 1)) (lv' := [(2, .int (v2 + 1)), (0, .ref (ad 9)), (3, .int v3)]) hx hb dX7_writeRow_33 hl (k := 1) rfl (by rfl) (by decide) rfl (fun ls hl => ?_)
  refine lv_aload_n hx hb dX7_writeRow_36 rfl (lv_at hl 1 rfl) ?_
  refine wcgR_9_0 S X mG_630 dX7_writeRow_37 ?_
  refine wcgR_3_4 S X mG_401 dX7_writeRow_40 ?_
  refine lv_iload_n hx hb dX7_writeRow_43 rfl (lv_at hl 2 rfl) ?_
  obtain ⟨hi44, hg⟩ := gd_some hg
  refine wclA_17 (v := (xA τ30 17 v3)) S X hi44 rfl dX7_writeRow_44 ?_
  refine lv_istore_n (lv' := [(3, .int (xA τ30 17 v3)), (2, .int (v2 + 1)), (0, .ref (ad 9))]) hx hb dX7_writeRow_45 rfl hl (by decide) rfl (fun ls hl => ?_)
  refine lv_goto (tgt := 4) hx hb dX7_writeRow_46 (by decide) ?_
  exact hrec4 _ _ _ _ _ _ X (lv_sub hl [2, 1, 0] rfl) hg
set_option maxHeartbeats 4000000 in
set_option maxRecDepth 100000 in
theorem w_X7_writeRow_B4 {σ : S5} {E : Int32 → S5 → Option (Unit × S5)} {rec4 : Int32 → Int32 → S5 → Option (Unit × S5)} {v2 : Int32} {v3 : Int32} {H : Heap} {locs : List Loc} {ls : Array Slot} (S : CallFix p m c cX7_writeRow 4 s args uG RX7) (hr : meth.sig.returnType = none) (hk : meth.locks = false) (hR : fE + 1 ≤ R.frames ∧ lE + 22 ≤ R.locals)
    (hE : ∀ (a0 : Int32) (σ τ : S5) (r : Unit), E a0 σ = some (r, τ) → ∀ sz : Nat, Met l yX7_writePart (Cond.code yX7_writePart cX7_writePart 3 none :: uG) { frames := fE, cells := 0, slots := 0, locals := lE } (gPc (dC, dI) (tC kc) (wC ad kc sv) (zC ak) [.ref (ad 9), .int a0] σ sz) (gQv (dC, dI) (tC kc) (wC ad kc sv) (va_A (wC ad kc sv σ) sz) r τ) 0 0 (va_A (wC ad kc sv σ) sz))
    (hrec4 : ∀ (v2 : Int32) (v3 : Int32) (σ : S5) (H : Heap) (locs : List Loc) (ls : Array Slot), gX (dC, dI) (tC kc) (wC ad kc sv) (zC ak) A s σ H locs → lv_has ls 4 [(0, .ref (ad 9)), (2, .int v2), (3, .int v3)] → rec4 v2 v3 σ = some (r, τ) → W p l e R s m args below meth c H locs 0 0 (MQ below (gQv (dC, dI) (tC kc) (wC ad kc sv) A r τ) args s 0 0 A) (F0 m 4 ls []))
    (X : gX (dC, dI) (tC kc) (wC ad kc sv) (zC ak) A s σ H locs) (hl : lv_has ls 4 [(0, .ref (ad 9)), (2, .int v2), (3, .int v3)]) (hg : f_X7_writeRow_B4 E rec4 v2 v3 σ = some (r, τ)) : W p l e R s m args below meth c H locs 0 0 (MQ below (gQv (dC, dI) (tC kc) (wC ad kc sv) A r τ) args s 0 0 A) (F0 m 4 ls []) := by
  have hx := S.1
  have hb := S.2.1
  have hown := S.2.2.2.1
  have hu := S.2.2.2.2
  unfold f_X7_writeRow_B4 at hg
  refine lv_iload_n hx hb dX7_writeRow_4 rfl (lv_at hl 1 rfl) ?_
  refine lv_bipush (v := 10) hx hb dX7_writeRow_5 (by decide) ?_
  refine lv_icmp_ge (tgt := 49) hx hb dX7_writeRow_7 (by decide) (fun c7 => ?_) (fun c7 => ?_)
  · have hg := (if_pos c7).symm.trans hg
    obtain ⟨-, rfl⟩ := fin_some hg
    exact gr_v S hr hk X dX7_writeRow_49
  · have hg := (if_neg c7).symm.trans hg
    refine lv_iload_n hx hb dX7_writeRow_10 rfl (lv_at hl 2 rfl) ?_
    refine lv_iconst (v := (-1)) hx hb dX7_writeRow_11 (by decide) ?_
    refine lv_icmp_eq (tgt := 49) hx hb dX7_writeRow_12 (by decide) (fun c12 => ?_) (fun c12 => ?_)
    · have hg := (if_pos c12).symm.trans hg
      obtain ⟨-, rfl⟩ := fin_some hg
      exact gr_v S hr hk X dX7_writeRow_49
    · have hg := (if_neg c12).symm.trans hg
      refine lv_iload_n hx hb dX7_writeRow_15 rfl (lv_at hl 1 rfl) ?_
      refine lv_if_le (tgt := 28) hx hb dX7_writeRow_16 (by decide) (fun c16 => ?_) (fun c16 => ?_)
      · have hg := (if_pos c16).symm.trans hg
        exact w_X7_writeRow_b28 S hr hk hR hE hrec4 X (lv_sub hl [0, 1, 2] rfl) hg
      · have hg := (if_neg c16).symm.trans hg
        refine lv_aload_n hx hb dX7_writeRow_19 rfl (lv_at hl 0 rfl) ?_
        obtain ⟨hv20, hg⟩ := gq_some hg
        refine wcgR_9_2 S X mG_632 hv20 dX7_writeRow_20 ?_
        refine lv_bipush (v := 32) hx hb dX7_writeRow_23 (by decide) ?_
        obtain ⟨r25, τ25, hq25, hg⟩ := bd_some hg
        refine gc_Vv (As := [.int 32]) (rest := []) (q0 := 1) (ci := 11) S X (k2_X8_add_draft l dC dI ad kc sv hq25 H.size) cw_X8_add mG_1681 rfl rfl rfl rfl rfl hl.1 (Nat.le_of_ble_eq_true rfl) dX7_writeRow_25 ⟨by omega, by omega⟩ (fun H locs X => ?_)
        exact w_X7_writeRow_b28 S hr hk hR hE hrec4 X (lv_sub hl [0, 1, 2] rfl) hg
set_option maxHeartbeats 4000000 in
set_option maxRecDepth 100000 in
theorem w_X7_writeRow_L4 {E : Int32 → S5 → Option (Unit × S5)} (S : CallFix p m c cX7_writeRow 4 s args uG RX7) (hr : meth.sig.returnType = none) (hk : meth.locks = false) (hR : fE + 1 ≤ R.frames ∧ lE + 22 ≤ R.locals)
    (hE : ∀ (a0 : Int32) (σ τ : S5) (r : Unit), E a0 σ = some (r, τ) → ∀ sz : Nat, Met l yX7_writePart (Cond.code yX7_writePart cX7_writePart 3 none :: uG) { frames := fE, cells := 0, slots := 0, locals := lE } (gPc (dC, dI) (tC kc) (wC ad kc sv) (zC ak) [.ref (ad 9), .int a0] σ sz) (gQv (dC, dI) (tC kc) (wC ad kc sv) (va_A (wC ad kc sv σ) sz) r τ) 0 0 (va_A (wC ad kc sv σ) sz)) : ∀ (n : Nat) (v2 : Int32) (v3 : Int32) (σ : S5) (H : Heap) (locs : List Loc) (ls : Array Slot), gX (dC, dI) (tC kc) (wC ad kc sv) (zC ak) A s σ H locs → lv_has ls 4 [(0, .ref (ad 9)), (2, .int v2), (3, .int v3)] → f_X7_writeRow_L4 E n v2 v3 σ = some (r, τ) → W p l e R s m args below meth c H locs 0 0 (MQ below (gQv (dC, dI) (tC kc) (wC ad kc sv) A r τ) args s 0 0 A) (F0 m 4 ls []) := by
  intro n
  induction n with
  | zero => intro v2 v3 σ H locs ls X hl hg; cases hg
  | succ n ih => intro v2 v3 σ H locs ls X hl hg; exact w_X7_writeRow_B4 S hr hk hR hE ih X hl hg
set_option maxHeartbeats 4000000 in
set_option maxRecDepth 100000 in
theorem w_X7_writeRow {σ : S5} {E : Int32 → S5 → Option (Unit × S5)} {a1 : Int32} {H : Heap} {locs : List Loc} {ls : Array Slot} (S : CallFix p m c cX7_writeRow 4 s args uG RX7) (hr : meth.sig.returnType = none) (hk : meth.locks = false) (hR : fE + 1 ≤ R.frames ∧ lE + 22 ≤ R.locals)
    (hE : ∀ (a0 : Int32) (σ τ : S5) (r : Unit), E a0 σ = some (r, τ) → ∀ sz : Nat, Met l yX7_writePart (Cond.code yX7_writePart cX7_writePart 3 none :: uG) { frames := fE, cells := 0, slots := 0, locals := lE } (gPc (dC, dI) (tC kc) (wC ad kc sv) (zC ak) [.ref (ad 9), .int a0] σ sz) (gQv (dC, dI) (tC kc) (wC ad kc sv) (va_A (wC ad kc sv σ) sz) r τ) 0 0 (va_A (wC ad kc sv σ) sz))
    (X : gX (dC, dI) (tC kc) (wC ad kc sv) (zC ak) A s σ H locs) (hl : lv_has ls 4 [(0, .ref (ad 9)), (1, .int a1)]) (hg : f_X7_writeRow E a1 σ = some (r, τ)) : W p l e R s m args below meth c H locs 0 0 (MQ below (gQv (dC, dI) (tC kc) (wC ad kc sv) A r τ) args s 0 0 A) (F0 m 0 ls []) := by
  have hx := S.1
  have hb := S.2.1
  have hown := S.2.2.2.1
  have hu := S.2.2.2.2
  unfold f_X7_writeRow at hg
  refine lv_iconst (v := 0) hx hb dX7_writeRow_0 (by decide) ?_
  refine lv_istore_n (lv' := [(2, .int 0), (0, .ref (ad 9)), (1, .int a1)]) hx hb dX7_writeRow_1 rfl hl (by decide) rfl (fun ls hl => ?_)
  refine lv_iload_n hx hb dX7_writeRow_2 rfl (lv_at hl 2 rfl) ?_
  refine lv_istore_n (lv' := [(3, .int a1), (2, .int 0), (0, .ref (ad 9)), (1, .int a1)]) hx hb dX7_writeRow_3 rfl hl (by decide) rfl (fun ls hl => ?_)
  exact w_X7_writeRow_L4 S hr hk hR hE _ _ _ _ _ _ _ X (lv_sub hl [2, 1, 0] rfl) hg
end MX7_writeRow
set_option maxRecDepth 100000 in
theorem k2_X7_writeRow (l : Launch) (dC : Nat → ClassId) (dI : Nat → Nat → Nat) {ak : Nat → Nat} (ad : Nat → Nat) (kc : Nat → ClassId) (sv : Value) {E : Int32 → S5 → Option (Unit × S5)} {fE lE : Nat} {σ τ : S5} {a1 : Int32} {r : Unit} (hE : ∀ (a0 : Int32) (σ τ : S5) (r : Unit), E a0 σ = some (r, τ) → ∀ sz : Nat, Met l yX7_writePart (Cond.code yX7_writePart cX7_writePart 3 none :: uG) { frames := fE, cells := 0, slots := 0, locals := lE } (gPc (dC, dI) (tC kc) (wC ad kc sv) (zC ak) [.ref (ad 9), .int a0] σ sz) (gQv (dC, dI) (tC kc) (wC ad kc sv) (va_A (wC ad kc sv σ) sz) r τ) 0 0 (va_A (wC ad kc sv σ) sz)) (hg : f_X7_writeRow E a1 σ = some (r, τ)) (sz : Nat) : Met l yX7_writeRow (Cond.code yX7_writeRow cX7_writeRow 4 none :: uG) { frames := fE + 1, cells := 0, slots := 0, locals := lE + 22 } (gPc (dC, dI) (tC kc) (wC ad kc sv) (zC ak) [.ref (ad 9), .int a1] σ sz) (gQv (dC, dI) (tC kc) (wC ad kc sv) (va_A (wC ad kc sv σ) sz) r τ) 0 0 (va_A (wC ad kc sv σ) sz) :=
  g_start (by decide) (Nat.le_of_ble_eq_true rfl) (fun p e s m below meth c ls S hr hk X hl => w_X7_writeRow S hr hk ⟨Nat.le_refl _, Nat.le_refl _⟩ hE X hl hg)
section MX7_writeBindings
variable {p : Program} {l : Launch} {e : Env} {R : Room} {s : State} {m : MethodId} {args : Array Value} {below : List Frame} {meth : Method} {c : Code} {dC : Nat → ClassId} {dI : Nat → Nat → Nat} {ak : Nat → Nat} {A : Nat → Prop} {ad : Nat → Nat} {kc : Nat → ClassId} {sv : Value} {r : Unit} {τ : S5} {fE lE : Nat}
set_option maxHeartbeats 4000000 in
set_option maxRecDepth 100000 in
theorem w_X7_writeBindings_b28 {σ : S5} {E : Int32 → S5 → Option (Unit × S5)} {rec4 : Int32 → Int32 → S5 → Option (Unit × S5)} {v2 : Int32} {v3 : Int32} {H : Heap} {locs : List Loc} {ls : Array Slot} (S : CallFix p m c cX7_writeBindings 4 s args uG RX7) (hr : meth.sig.returnType = none) (hk : meth.locks = false) (hR : fE + 5 ≤ R.frames ∧ lE + 107 ≤ R.locals)
    (hE : ∀ (a0 : Int32) (σ τ : S5) (r : Unit), E a0 σ = some (r, τ) → ∀ sz : Nat, Met l yX7_writePart (Cond.code yX7_writePart cX7_writePart 3 none :: uG) { frames := fE, cells := 0, slots := 0, locals := lE } (gPc (dC, dI) (tC kc) (wC ad kc sv) (zC ak) [.ref (ad 9), .int a0] σ sz) (gQv (dC, dI) (tC kc) (wC ad kc sv) (va_A (wC ad kc sv σ) sz) r τ) 0 0 (va_A (wC ad kc sv σ) sz))
    (hrec4 : ∀ (v2 : Int32) (v3 : Int32) (σ : S5) (H : Heap) (locs : List Loc) (ls : Array Slot), gX (dC, dI) (tC kc) (wC ad kc sv) (zC ak) A s σ H locs → lv_has ls 4 [(0, .ref (ad 9)), (2, .int v2), (3, .int v3)] → rec4 v2 v3 σ = some (r, τ) → W p l e R s m args below meth c H locs 0 0 (MQ below (gQv (dC, dI) (tC kc) (wC ad kc sv) A r τ) args s 0 0 A) (F0 m 4 ls []))
    (X : gX (dC, dI) (tC kc) (wC ad kc sv) (zC ak) A s σ H locs) (hl : lv_has ls 4 [(0, .ref (ad 9)), (2, .int v2), (3, .int v3)]) (hg : f_X7_writeBindings_b28 E rec4 v2 v3 σ = some (r, τ)) : W p l e R s m args below meth c H locs 0 0 (MQ below (gQv (dC, dI) (tC kc) (wC ad kc sv) A r τ) args s 0 0 A) (F0 m 28 ls []) := by
  have hx := S.1
  have hb := S.2.1
  have hown := S.2.2.2.1
  have hu := S.2.2.2.2
  unfold f_X7_writeBindings_b28 at hg
  refine lv_aload_n hx hb dX7_writeBindings_28 rfl (lv_at hl 0 rfl) ?_
  refine lv_aload_n hx hb dX7_writeBindings_29 rfl (lv_at hl 0 rfl) ?_
  refine wcgR_9_0 S X mG_630 dX7_writeBindings_30 ?_
  refine wcgR_3_1 S X mG_386 dX7_writeBindings_33 ?_
  refine lv_iload_n hx hb dX7_writeBindings_36 rfl (lv_at hl 2 rfl) ?_
  obtain ⟨hi37, hg⟩ := gd_some hg
  refine wclA_14 (v := (xA σ 14 v3)) S X hi37 rfl dX7_writeBindings_37 ?_
  obtain ⟨r38, τ38, hq38, hg⟩ := bd_some hg
  refine gc_Vv (As := [.int (xA σ 14 v3)]) (rest := []) (q0 := 9) (ci := 10) S X (k2_X7_writeVariable l dC dI ad kc sv hq38 H.size) cw_X7_writeVariable mG_1692 rfl rfl rfl rfl rfl hl.1 (Nat.le_of_ble_eq_true rfl) dX7_writeBindings_38 ⟨by omega, by omega⟩ (fun H locs X => ?_)
  refine lv_aload_n hx hb dX7_writeBindings_41 rfl (lv_at hl 0 rfl) ?_
  obtain ⟨hv42, hg⟩ := gq_some hg
  refine wcgR_9_2 S X mG_632 hv42 dX7_writeBindings_42 ?_
  refine va_ldcS hx hb hown (zR_5 X) dX7_writeBindings_45 ?_
  obtain ⟨r47, τ47, hq47, hg⟩ := bd_some hg
  refine gc_Vv (As := [.ref (ak 10)]) (rest := []) (q0 := 1) (ci := 11) S X (k2_X8_addText_draft l dC dI ad kc sv hq47 H.size) cw_X8_addText mG_1652 rfl rfl rfl rfl rfl hl.1 (Nat.le_of_ble_eq_true rfl) dX7_writeBindings_47 ⟨by omega, by omega⟩ (fun H locs X => ?_)
  refine lv_aload_n hx hb dX7_writeBindings_50 rfl (lv_at hl 0 rfl) ?_
  refine lv_aload_n hx hb dX7_writeBindings_51 rfl (lv_at hl 0 rfl) ?_
  refine wcgR_9_0 S X mG_630 dX7_writeBindings_52 ?_
  refine wcgR_3_3 S X mG_397 dX7_writeBindings_55 ?_
  refine lv_iload_n hx hb dX7_writeBindings_58 rfl (lv_at hl 2 rfl) ?_
  obtain ⟨hi59, hg⟩ := gd_some hg
  refine wclA_16 (v := (xA τ47 16 v3)) S X hi59 rfl dX7_writeBindings_59 ?_
  obtain ⟨r60, τ60, hq60, hg⟩ := bd_some hg
  refine gc_Vv (As := [.int (xA τ47 16 v3)]) (rest := []) (q0 := 9) (ci := 10) S X (hE _ _ _ _ hq60 H.size) cw_X7_writePart mG_1697 rfl rfl rfl rfl rfl hl.1 (Nat.le_of_ble_eq_true rfl) dX7_writeBindings_60 ⟨by omega, by omega⟩ (fun H locs X => ?_)
  refine lv_iinc (v := (v2 + 1)) (lv' := [(2, .int (v2 + 1)), (0, .ref (ad 9)), (3, .int v3)]) hx hb dX7_writeBindings_63 hl (k := 1) rfl (by rfl) (by decide) rfl (fun ls hl => ?_)
  refine lv_aload_n hx hb dX7_writeBindings_66 rfl (lv_at hl 1 rfl) ?_
  refine wcgR_9_0 S X mG_630 dX7_writeBindings_67 ?_
  refine wcgR_3_4 S X mG_401 dX7_writeBindings_70 ?_
  refine lv_iload_n hx hb dX7_writeBindings_73 rfl (lv_at hl 2 rfl) ?_
  obtain ⟨hi74, hg⟩ := gd_some hg
  refine wclA_17 (v := (xA τ60 17 v3)) S X hi74 rfl dX7_writeBindings_74 ?_
  refine lv_istore_n (lv' := [(3, .int (xA τ60 17 v3)), (2, .int (v2 + 1)), (0, .ref (ad 9))]) hx hb dX7_writeBindings_75 rfl hl (by decide) rfl (fun ls hl => ?_)
  refine lv_goto (tgt := 4) hx hb dX7_writeBindings_76 (by decide) ?_
  exact hrec4 _ _ _ _ _ _ X (lv_sub hl [2, 1, 0] rfl) hg
set_option maxHeartbeats 4000000 in
set_option maxRecDepth 100000 in
theorem w_X7_writeBindings_B4 {σ : S5} {E : Int32 → S5 → Option (Unit × S5)} {rec4 : Int32 → Int32 → S5 → Option (Unit × S5)} {v2 : Int32} {v3 : Int32} {H : Heap} {locs : List Loc} {ls : Array Slot} (S : CallFix p m c cX7_writeBindings 4 s args uG RX7) (hr : meth.sig.returnType = none) (hk : meth.locks = false) (hR : fE + 5 ≤ R.frames ∧ lE + 107 ≤ R.locals)
    (hE : ∀ (a0 : Int32) (σ τ : S5) (r : Unit), E a0 σ = some (r, τ) → ∀ sz : Nat, Met l yX7_writePart (Cond.code yX7_writePart cX7_writePart 3 none :: uG) { frames := fE, cells := 0, slots := 0, locals := lE } (gPc (dC, dI) (tC kc) (wC ad kc sv) (zC ak) [.ref (ad 9), .int a0] σ sz) (gQv (dC, dI) (tC kc) (wC ad kc sv) (va_A (wC ad kc sv σ) sz) r τ) 0 0 (va_A (wC ad kc sv σ) sz))
    (hrec4 : ∀ (v2 : Int32) (v3 : Int32) (σ : S5) (H : Heap) (locs : List Loc) (ls : Array Slot), gX (dC, dI) (tC kc) (wC ad kc sv) (zC ak) A s σ H locs → lv_has ls 4 [(0, .ref (ad 9)), (2, .int v2), (3, .int v3)] → rec4 v2 v3 σ = some (r, τ) → W p l e R s m args below meth c H locs 0 0 (MQ below (gQv (dC, dI) (tC kc) (wC ad kc sv) A r τ) args s 0 0 A) (F0 m 4 ls []))
    (X : gX (dC, dI) (tC kc) (wC ad kc sv) (zC ak) A s σ H locs) (hl : lv_has ls 4 [(0, .ref (ad 9)), (2, .int v2), (3, .int v3)]) (hg : f_X7_writeBindings_B4 E rec4 v2 v3 σ = some (r, τ)) : W p l e R s m args below meth c H locs 0 0 (MQ below (gQv (dC, dI) (tC kc) (wC ad kc sv) A r τ) args s 0 0 A) (F0 m 4 ls []) := by
  have hx := S.1
  have hb := S.2.1
  have hown := S.2.2.2.1
  have hu := S.2.2.2.2
  unfold f_X7_writeBindings_B4 at hg
  refine lv_iload_n hx hb dX7_writeBindings_4 rfl (lv_at hl 1 rfl) ?_
  refine lv_bipush (v := 10) hx hb dX7_writeBindings_5 (by decide) ?_
  refine lv_icmp_ge (tgt := 79) hx hb dX7_writeBindings_7 (by decide) (fun c7 => ?_) (fun c7 => ?_)
  · have hg := (if_pos c7).symm.trans hg
    obtain ⟨-, rfl⟩ := fin_some hg
    exact gr_v S hr hk X dX7_writeBindings_79
  · have hg := (if_neg c7).symm.trans hg
    refine lv_iload_n hx hb dX7_writeBindings_10 rfl (lv_at hl 2 rfl) ?_
    refine lv_iconst (v := (-1)) hx hb dX7_writeBindings_11 (by decide) ?_
    refine lv_icmp_eq (tgt := 79) hx hb dX7_writeBindings_12 (by decide) (fun c12 => ?_) (fun c12 => ?_)
    · have hg := (if_pos c12).symm.trans hg
      obtain ⟨-, rfl⟩ := fin_some hg
      exact gr_v S hr hk X dX7_writeBindings_79
    · have hg := (if_neg c12).symm.trans hg
      refine lv_iload_n hx hb dX7_writeBindings_15 rfl (lv_at hl 1 rfl) ?_
      refine lv_if_le (tgt := 28) hx hb dX7_writeBindings_16 (by decide) (fun c16 => ?_) (fun c16 => ?_)
      · have hg := (if_pos c16).symm.trans hg
        exact w_X7_writeBindings_b28 S hr hk hR hE hrec4 X (lv_sub hl [0, 1, 2] rfl) hg
      · have hg := (if_neg c16).symm.trans hg
        refine lv_aload_n hx hb dX7_writeBindings_19 rfl (lv_at hl 0 rfl) ?_
        obtain ⟨hv20, hg⟩ := gq_some hg
        refine wcgR_9_2 S X mG_632 hv20 dX7_writeBindings_20 ?_
        refine va_ldcS hx hb hown (zR_14 X) dX7_writeBindings_23 ?_
        obtain ⟨r25, τ25, hq25, hg⟩ := bd_some hg
        refine gc_Vv (As := [.ref (ak 28)]) (rest := []) (q0 := 1) (ci := 11) S X (k2_X8_addText_draft l dC dI ad kc sv hq25 H.size) cw_X8_addText mG_1652 rfl rfl rfl rfl rfl hl.1 (Nat.le_of_ble_eq_true rfl) dX7_writeBindings_25 ⟨by omega, by omega⟩ (fun H locs X => ?_)
        exact w_X7_writeBindings_b28 S hr hk hR hE hrec4 X (lv_sub hl [0, 1, 2] rfl) hg
set_option maxHeartbeats 4000000 in
set_option maxRecDepth 100000 in
theorem w_X7_writeBindings_L4 {E : Int32 → S5 → Option (Unit × S5)} (S : CallFix p m c cX7_writeBindings 4 s args uG RX7) (hr : meth.sig.returnType = none) (hk : meth.locks = false) (hR : fE + 5 ≤ R.frames ∧ lE + 107 ≤ R.locals)
    (hE : ∀ (a0 : Int32) (σ τ : S5) (r : Unit), E a0 σ = some (r, τ) → ∀ sz : Nat, Met l yX7_writePart (Cond.code yX7_writePart cX7_writePart 3 none :: uG) { frames := fE, cells := 0, slots := 0, locals := lE } (gPc (dC, dI) (tC kc) (wC ad kc sv) (zC ak) [.ref (ad 9), .int a0] σ sz) (gQv (dC, dI) (tC kc) (wC ad kc sv) (va_A (wC ad kc sv σ) sz) r τ) 0 0 (va_A (wC ad kc sv σ) sz)) : ∀ (n : Nat) (v2 : Int32) (v3 : Int32) (σ : S5) (H : Heap) (locs : List Loc) (ls : Array Slot), gX (dC, dI) (tC kc) (wC ad kc sv) (zC ak) A s σ H locs → lv_has ls 4 [(0, .ref (ad 9)), (2, .int v2), (3, .int v3)] → f_X7_writeBindings_L4 E n v2 v3 σ = some (r, τ) → W p l e R s m args below meth c H locs 0 0 (MQ below (gQv (dC, dI) (tC kc) (wC ad kc sv) A r τ) args s 0 0 A) (F0 m 4 ls []) := by
  intro n
  induction n with
  | zero => intro v2 v3 σ H locs ls X hl hg; cases hg
  | succ n ih => intro v2 v3 σ H locs ls X hl hg; exact w_X7_writeBindings_B4 S hr hk hR hE ih X hl hg
set_option maxHeartbeats 4000000 in
set_option maxRecDepth 100000 in
theorem w_X7_writeBindings {σ : S5} {E : Int32 → S5 → Option (Unit × S5)} {a1 : Int32} {H : Heap} {locs : List Loc} {ls : Array Slot} (S : CallFix p m c cX7_writeBindings 4 s args uG RX7) (hr : meth.sig.returnType = none) (hk : meth.locks = false) (hR : fE + 5 ≤ R.frames ∧ lE + 107 ≤ R.locals)
    (hE : ∀ (a0 : Int32) (σ τ : S5) (r : Unit), E a0 σ = some (r, τ) → ∀ sz : Nat, Met l yX7_writePart (Cond.code yX7_writePart cX7_writePart 3 none :: uG) { frames := fE, cells := 0, slots := 0, locals := lE } (gPc (dC, dI) (tC kc) (wC ad kc sv) (zC ak) [.ref (ad 9), .int a0] σ sz) (gQv (dC, dI) (tC kc) (wC ad kc sv) (va_A (wC ad kc sv σ) sz) r τ) 0 0 (va_A (wC ad kc sv σ) sz))
    (X : gX (dC, dI) (tC kc) (wC ad kc sv) (zC ak) A s σ H locs) (hl : lv_has ls 4 [(0, .ref (ad 9)), (1, .int a1)]) (hg : f_X7_writeBindings E a1 σ = some (r, τ)) : W p l e R s m args below meth c H locs 0 0 (MQ below (gQv (dC, dI) (tC kc) (wC ad kc sv) A r τ) args s 0 0 A) (F0 m 0 ls []) := by
  have hx := S.1
  have hb := S.2.1
  have hown := S.2.2.2.1
  have hu := S.2.2.2.2
  unfold f_X7_writeBindings at hg
  refine lv_iconst (v := 0) hx hb dX7_writeBindings_0 (by decide) ?_
  refine lv_istore_n (lv' := [(2, .int 0), (0, .ref (ad 9)), (1, .int a1)]) hx hb dX7_writeBindings_1 rfl hl (by decide) rfl (fun ls hl => ?_)
  refine lv_iload_n hx hb dX7_writeBindings_2 rfl (lv_at hl 2 rfl) ?_
  refine lv_istore_n (lv' := [(3, .int a1), (2, .int 0), (0, .ref (ad 9)), (1, .int a1)]) hx hb dX7_writeBindings_3 rfl hl (by decide) rfl (fun ls hl => ?_)
  exact w_X7_writeBindings_L4 S hr hk hR hE _ _ _ _ _ _ _ X (lv_sub hl [2, 1, 0] rfl) hg
end MX7_writeBindings
set_option maxRecDepth 100000 in
theorem k2_X7_writeBindings (l : Launch) (dC : Nat → ClassId) (dI : Nat → Nat → Nat) {ak : Nat → Nat} (ad : Nat → Nat) (kc : Nat → ClassId) (sv : Value) {E : Int32 → S5 → Option (Unit × S5)} {fE lE : Nat} {σ τ : S5} {a1 : Int32} {r : Unit} (hE : ∀ (a0 : Int32) (σ τ : S5) (r : Unit), E a0 σ = some (r, τ) → ∀ sz : Nat, Met l yX7_writePart (Cond.code yX7_writePart cX7_writePart 3 none :: uG) { frames := fE, cells := 0, slots := 0, locals := lE } (gPc (dC, dI) (tC kc) (wC ad kc sv) (zC ak) [.ref (ad 9), .int a0] σ sz) (gQv (dC, dI) (tC kc) (wC ad kc sv) (va_A (wC ad kc sv σ) sz) r τ) 0 0 (va_A (wC ad kc sv σ) sz)) (hg : f_X7_writeBindings E a1 σ = some (r, τ)) (sz : Nat) : Met l yX7_writeBindings (Cond.code yX7_writeBindings cX7_writeBindings 4 none :: uG) { frames := fE + 5, cells := 0, slots := 0, locals := lE + 107 } (gPc (dC, dI) (tC kc) (wC ad kc sv) (zC ak) [.ref (ad 9), .int a1] σ sz) (gQv (dC, dI) (tC kc) (wC ad kc sv) (va_A (wC ad kc sv σ) sz) r τ) 0 0 (va_A (wC ad kc sv σ) sz) :=
  g_start (by decide) (Nat.le_of_ble_eq_true rfl) (fun p e s m below meth c ls S hr hk X hl => w_X7_writeBindings S hr hk ⟨Nat.le_refl _, Nat.le_refl _⟩ hE X hl hg)
section MX7_writeAlternatives
variable {p : Program} {l : Launch} {e : Env} {R : Room} {s : State} {m : MethodId} {args : Array Value} {below : List Frame} {meth : Method} {c : Code} {dC : Nat → ClassId} {dI : Nat → Nat → Nat} {ak : Nat → Nat} {A : Nat → Prop} {ad : Nat → Nat} {kc : Nat → ClassId} {sv : Value} {r : Unit} {τ : S5} {fE lE : Nat}
set_option maxHeartbeats 4000000 in
set_option maxRecDepth 100000 in
theorem w_X7_writeAlternatives_b28 {σ : S5} {E : Int32 → S5 → Option (Unit × S5)} {rec4 : Int32 → Int32 → S5 → Option (Unit × S5)} {v2 : Int32} {v3 : Int32} {H : Heap} {locs : List Loc} {ls : Array Slot} (S : CallFix p m c cX7_writeAlternatives 4 s args uG RX7) (hr : meth.sig.returnType = none) (hk : meth.locks = false) (hR : fE + 5 ≤ R.frames ∧ lE + 107 ≤ R.locals)
    (hE : ∀ (a0 : Int32) (σ τ : S5) (r : Unit), E a0 σ = some (r, τ) → ∀ sz : Nat, Met l yX7_writePart (Cond.code yX7_writePart cX7_writePart 3 none :: uG) { frames := fE, cells := 0, slots := 0, locals := lE } (gPc (dC, dI) (tC kc) (wC ad kc sv) (zC ak) [.ref (ad 9), .int a0] σ sz) (gQv (dC, dI) (tC kc) (wC ad kc sv) (va_A (wC ad kc sv σ) sz) r τ) 0 0 (va_A (wC ad kc sv σ) sz))
    (hrec4 : ∀ (v2 : Int32) (v3 : Int32) (σ : S5) (H : Heap) (locs : List Loc) (ls : Array Slot), gX (dC, dI) (tC kc) (wC ad kc sv) (zC ak) A s σ H locs → lv_has ls 4 [(0, .ref (ad 9)), (2, .int v2), (3, .int v3)] → rec4 v2 v3 σ = some (r, τ) → W p l e R s m args below meth c H locs 0 0 (MQ below (gQv (dC, dI) (tC kc) (wC ad kc sv) A r τ) args s 0 0 A) (F0 m 4 ls []))
    (X : gX (dC, dI) (tC kc) (wC ad kc sv) (zC ak) A s σ H locs) (hl : lv_has ls 4 [(0, .ref (ad 9)), (2, .int v2), (3, .int v3)]) (hg : f_X7_writeAlternatives_b28 E rec4 v2 v3 σ = some (r, τ)) : W p l e R s m args below meth c H locs 0 0 (MQ below (gQv (dC, dI) (tC kc) (wC ad kc sv) A r τ) args s 0 0 A) (F0 m 28 ls []) := by
  have hx := S.1
  have hb := S.2.1
  have hown := S.2.2.2.1
  have hu := S.2.2.2.2
  unfold f_X7_writeAlternatives_b28 at hg
  refine lv_aload_n hx hb dX7_writeAlternatives_28 rfl (lv_at hl 0 rfl) ?_
  refine lv_iload_n hx hb dX7_writeAlternatives_29 rfl (lv_at hl 2 rfl) ?_
  obtain ⟨r30, τ30, hq30, hg⟩ := bd_some hg
  refine gc_Vv (As := [.int v3]) (rest := []) (q0 := 9) (ci := 10) S X (k2_X7_writePattern l dC dI ad kc sv hq30 H.size) cw_X7_writePattern mG_1719 rfl rfl rfl rfl rfl hl.1 (Nat.le_of_ble_eq_true rfl) dX7_writeAlternatives_30 ⟨by omega, by omega⟩ (fun H locs X => ?_)
  refine lv_aload_n hx hb dX7_writeAlternatives_33 rfl (lv_at hl 0 rfl) ?_
  obtain ⟨hv34, hg⟩ := gq_some hg
  refine wcgR_9_2 S X mG_632 hv34 dX7_writeAlternatives_34 ?_
  refine va_ldcS hx hb hown (zR_12 X) dX7_writeAlternatives_37 ?_
  obtain ⟨r39, τ39, hq39, hg⟩ := bd_some hg
  refine gc_Vv (As := [.ref (ak 24)]) (rest := []) (q0 := 1) (ci := 11) S X (k2_X8_addText_draft l dC dI ad kc sv hq39 H.size) cw_X8_addText mG_1652 rfl rfl rfl rfl rfl hl.1 (Nat.le_of_ble_eq_true rfl) dX7_writeAlternatives_39 ⟨by omega, by omega⟩ (fun H locs X => ?_)
  refine lv_aload_n hx hb dX7_writeAlternatives_42 rfl (lv_at hl 0 rfl) ?_
  refine lv_aload_n hx hb dX7_writeAlternatives_43 rfl (lv_at hl 0 rfl) ?_
  refine wcgR_9_0 S X mG_630 dX7_writeAlternatives_44 ?_
  refine wcgR_3_3 S X mG_397 dX7_writeAlternatives_47 ?_
  refine lv_iload_n hx hb dX7_writeAlternatives_50 rfl (lv_at hl 2 rfl) ?_
  obtain ⟨hi51, hg⟩ := gd_some hg
  refine wclA_16 (v := (xA τ39 16 v3)) S X hi51 rfl dX7_writeAlternatives_51 ?_
  obtain ⟨r52, τ52, hq52, hg⟩ := bd_some hg
  refine gc_Vv (As := [.int (xA τ39 16 v3)]) (rest := []) (q0 := 9) (ci := 10) S X (hE _ _ _ _ hq52 H.size) cw_X7_writePart mG_1697 rfl rfl rfl rfl rfl hl.1 (Nat.le_of_ble_eq_true rfl) dX7_writeAlternatives_52 ⟨by omega, by omega⟩ (fun H locs X => ?_)
  refine lv_iinc (v := (v2 + 1)) (lv' := [(2, .int (v2 + 1)), (0, .ref (ad 9)), (3, .int v3)]) hx hb dX7_writeAlternatives_55 hl (k := 1) rfl (by rfl) (by decide) rfl (fun ls hl => ?_)
  refine lv_aload_n hx hb dX7_writeAlternatives_58 rfl (lv_at hl 1 rfl) ?_
  refine wcgR_9_0 S X mG_630 dX7_writeAlternatives_59 ?_
  refine wcgR_3_4 S X mG_401 dX7_writeAlternatives_62 ?_
  refine lv_iload_n hx hb dX7_writeAlternatives_65 rfl (lv_at hl 2 rfl) ?_
  obtain ⟨hi66, hg⟩ := gd_some hg
  refine wclA_17 (v := (xA τ52 17 v3)) S X hi66 rfl dX7_writeAlternatives_66 ?_
  refine lv_istore_n (lv' := [(3, .int (xA τ52 17 v3)), (2, .int (v2 + 1)), (0, .ref (ad 9))]) hx hb dX7_writeAlternatives_67 rfl hl (by decide) rfl (fun ls hl => ?_)
  refine lv_goto (tgt := 4) hx hb dX7_writeAlternatives_68 (by decide) ?_
  exact hrec4 _ _ _ _ _ _ X (lv_sub hl [2, 1, 0] rfl) hg
set_option maxHeartbeats 4000000 in
set_option maxRecDepth 100000 in
theorem w_X7_writeAlternatives_B4 {σ : S5} {E : Int32 → S5 → Option (Unit × S5)} {rec4 : Int32 → Int32 → S5 → Option (Unit × S5)} {v2 : Int32} {v3 : Int32} {H : Heap} {locs : List Loc} {ls : Array Slot} (S : CallFix p m c cX7_writeAlternatives 4 s args uG RX7) (hr : meth.sig.returnType = none) (hk : meth.locks = false) (hR : fE + 5 ≤ R.frames ∧ lE + 107 ≤ R.locals)
    (hE : ∀ (a0 : Int32) (σ τ : S5) (r : Unit), E a0 σ = some (r, τ) → ∀ sz : Nat, Met l yX7_writePart (Cond.code yX7_writePart cX7_writePart 3 none :: uG) { frames := fE, cells := 0, slots := 0, locals := lE } (gPc (dC, dI) (tC kc) (wC ad kc sv) (zC ak) [.ref (ad 9), .int a0] σ sz) (gQv (dC, dI) (tC kc) (wC ad kc sv) (va_A (wC ad kc sv σ) sz) r τ) 0 0 (va_A (wC ad kc sv σ) sz))
    (hrec4 : ∀ (v2 : Int32) (v3 : Int32) (σ : S5) (H : Heap) (locs : List Loc) (ls : Array Slot), gX (dC, dI) (tC kc) (wC ad kc sv) (zC ak) A s σ H locs → lv_has ls 4 [(0, .ref (ad 9)), (2, .int v2), (3, .int v3)] → rec4 v2 v3 σ = some (r, τ) → W p l e R s m args below meth c H locs 0 0 (MQ below (gQv (dC, dI) (tC kc) (wC ad kc sv) A r τ) args s 0 0 A) (F0 m 4 ls []))
    (X : gX (dC, dI) (tC kc) (wC ad kc sv) (zC ak) A s σ H locs) (hl : lv_has ls 4 [(0, .ref (ad 9)), (2, .int v2), (3, .int v3)]) (hg : f_X7_writeAlternatives_B4 E rec4 v2 v3 σ = some (r, τ)) : W p l e R s m args below meth c H locs 0 0 (MQ below (gQv (dC, dI) (tC kc) (wC ad kc sv) A r τ) args s 0 0 A) (F0 m 4 ls []) := by
  have hx := S.1
  have hb := S.2.1
  have hown := S.2.2.2.1
  have hu := S.2.2.2.2
  unfold f_X7_writeAlternatives_B4 at hg
  refine lv_iload_n hx hb dX7_writeAlternatives_4 rfl (lv_at hl 1 rfl) ?_
  refine lv_bipush (v := 10) hx hb dX7_writeAlternatives_5 (by decide) ?_
  refine lv_icmp_ge (tgt := 71) hx hb dX7_writeAlternatives_7 (by decide) (fun c7 => ?_) (fun c7 => ?_)
  · have hg := (if_pos c7).symm.trans hg
    obtain ⟨-, rfl⟩ := fin_some hg
    exact gr_v S hr hk X dX7_writeAlternatives_71
  · have hg := (if_neg c7).symm.trans hg
    refine lv_iload_n hx hb dX7_writeAlternatives_10 rfl (lv_at hl 2 rfl) ?_
    refine lv_iconst (v := (-1)) hx hb dX7_writeAlternatives_11 (by decide) ?_
    refine lv_icmp_eq (tgt := 71) hx hb dX7_writeAlternatives_12 (by decide) (fun c12 => ?_) (fun c12 => ?_)
    · have hg := (if_pos c12).symm.trans hg
      obtain ⟨-, rfl⟩ := fin_some hg
      exact gr_v S hr hk X dX7_writeAlternatives_71
    · have hg := (if_neg c12).symm.trans hg
      refine lv_iload_n hx hb dX7_writeAlternatives_15 rfl (lv_at hl 1 rfl) ?_
      refine lv_if_le (tgt := 28) hx hb dX7_writeAlternatives_16 (by decide) (fun c16 => ?_) (fun c16 => ?_)
      · have hg := (if_pos c16).symm.trans hg
        exact w_X7_writeAlternatives_b28 S hr hk hR hE hrec4 X (lv_sub hl [0, 1, 2] rfl) hg
      · have hg := (if_neg c16).symm.trans hg
        refine lv_aload_n hx hb dX7_writeAlternatives_19 rfl (lv_at hl 0 rfl) ?_
        obtain ⟨hv20, hg⟩ := gq_some hg
        refine wcgR_9_2 S X mG_632 hv20 dX7_writeAlternatives_20 ?_
        refine va_ldcS hx hb hown (zR_11 X) dX7_writeAlternatives_23 ?_
        obtain ⟨r25, τ25, hq25, hg⟩ := bd_some hg
        refine gc_Vv (As := [.ref (ak 22)]) (rest := []) (q0 := 1) (ci := 11) S X (k2_X8_addText_draft l dC dI ad kc sv hq25 H.size) cw_X8_addText mG_1652 rfl rfl rfl rfl rfl hl.1 (Nat.le_of_ble_eq_true rfl) dX7_writeAlternatives_25 ⟨by omega, by omega⟩ (fun H locs X => ?_)
        exact w_X7_writeAlternatives_b28 S hr hk hR hE hrec4 X (lv_sub hl [0, 1, 2] rfl) hg
set_option maxHeartbeats 4000000 in
set_option maxRecDepth 100000 in
theorem w_X7_writeAlternatives_L4 {E : Int32 → S5 → Option (Unit × S5)} (S : CallFix p m c cX7_writeAlternatives 4 s args uG RX7) (hr : meth.sig.returnType = none) (hk : meth.locks = false) (hR : fE + 5 ≤ R.frames ∧ lE + 107 ≤ R.locals)
    (hE : ∀ (a0 : Int32) (σ τ : S5) (r : Unit), E a0 σ = some (r, τ) → ∀ sz : Nat, Met l yX7_writePart (Cond.code yX7_writePart cX7_writePart 3 none :: uG) { frames := fE, cells := 0, slots := 0, locals := lE } (gPc (dC, dI) (tC kc) (wC ad kc sv) (zC ak) [.ref (ad 9), .int a0] σ sz) (gQv (dC, dI) (tC kc) (wC ad kc sv) (va_A (wC ad kc sv σ) sz) r τ) 0 0 (va_A (wC ad kc sv σ) sz)) : ∀ (n : Nat) (v2 : Int32) (v3 : Int32) (σ : S5) (H : Heap) (locs : List Loc) (ls : Array Slot), gX (dC, dI) (tC kc) (wC ad kc sv) (zC ak) A s σ H locs → lv_has ls 4 [(0, .ref (ad 9)), (2, .int v2), (3, .int v3)] → f_X7_writeAlternatives_L4 E n v2 v3 σ = some (r, τ) → W p l e R s m args below meth c H locs 0 0 (MQ below (gQv (dC, dI) (tC kc) (wC ad kc sv) A r τ) args s 0 0 A) (F0 m 4 ls []) := by
  intro n
  induction n with
  | zero => intro v2 v3 σ H locs ls X hl hg; cases hg
  | succ n ih => intro v2 v3 σ H locs ls X hl hg; exact w_X7_writeAlternatives_B4 S hr hk hR hE ih X hl hg
set_option maxHeartbeats 4000000 in
set_option maxRecDepth 100000 in
theorem w_X7_writeAlternatives {σ : S5} {E : Int32 → S5 → Option (Unit × S5)} {a1 : Int32} {H : Heap} {locs : List Loc} {ls : Array Slot} (S : CallFix p m c cX7_writeAlternatives 4 s args uG RX7) (hr : meth.sig.returnType = none) (hk : meth.locks = false) (hR : fE + 5 ≤ R.frames ∧ lE + 107 ≤ R.locals)
    (hE : ∀ (a0 : Int32) (σ τ : S5) (r : Unit), E a0 σ = some (r, τ) → ∀ sz : Nat, Met l yX7_writePart (Cond.code yX7_writePart cX7_writePart 3 none :: uG) { frames := fE, cells := 0, slots := 0, locals := lE } (gPc (dC, dI) (tC kc) (wC ad kc sv) (zC ak) [.ref (ad 9), .int a0] σ sz) (gQv (dC, dI) (tC kc) (wC ad kc sv) (va_A (wC ad kc sv σ) sz) r τ) 0 0 (va_A (wC ad kc sv σ) sz))
    (X : gX (dC, dI) (tC kc) (wC ad kc sv) (zC ak) A s σ H locs) (hl : lv_has ls 4 [(0, .ref (ad 9)), (1, .int a1)]) (hg : f_X7_writeAlternatives E a1 σ = some (r, τ)) : W p l e R s m args below meth c H locs 0 0 (MQ below (gQv (dC, dI) (tC kc) (wC ad kc sv) A r τ) args s 0 0 A) (F0 m 0 ls []) := by
  have hx := S.1
  have hb := S.2.1
  have hown := S.2.2.2.1
  have hu := S.2.2.2.2
  unfold f_X7_writeAlternatives at hg
  refine lv_iconst (v := 0) hx hb dX7_writeAlternatives_0 (by decide) ?_
  refine lv_istore_n (lv' := [(2, .int 0), (0, .ref (ad 9)), (1, .int a1)]) hx hb dX7_writeAlternatives_1 rfl hl (by decide) rfl (fun ls hl => ?_)
  refine lv_iload_n hx hb dX7_writeAlternatives_2 rfl (lv_at hl 2 rfl) ?_
  refine lv_istore_n (lv' := [(3, .int a1), (2, .int 0), (0, .ref (ad 9)), (1, .int a1)]) hx hb dX7_writeAlternatives_3 rfl hl (by decide) rfl (fun ls hl => ?_)
  exact w_X7_writeAlternatives_L4 S hr hk hR hE _ _ _ _ _ _ _ X (lv_sub hl [2, 1, 0] rfl) hg
end MX7_writeAlternatives
set_option maxRecDepth 100000 in
theorem k2_X7_writeAlternatives (l : Launch) (dC : Nat → ClassId) (dI : Nat → Nat → Nat) {ak : Nat → Nat} (ad : Nat → Nat) (kc : Nat → ClassId) (sv : Value) {E : Int32 → S5 → Option (Unit × S5)} {fE lE : Nat} {σ τ : S5} {a1 : Int32} {r : Unit} (hE : ∀ (a0 : Int32) (σ τ : S5) (r : Unit), E a0 σ = some (r, τ) → ∀ sz : Nat, Met l yX7_writePart (Cond.code yX7_writePart cX7_writePart 3 none :: uG) { frames := fE, cells := 0, slots := 0, locals := lE } (gPc (dC, dI) (tC kc) (wC ad kc sv) (zC ak) [.ref (ad 9), .int a0] σ sz) (gQv (dC, dI) (tC kc) (wC ad kc sv) (va_A (wC ad kc sv σ) sz) r τ) 0 0 (va_A (wC ad kc sv σ) sz)) (hg : f_X7_writeAlternatives E a1 σ = some (r, τ)) (sz : Nat) : Met l yX7_writeAlternatives (Cond.code yX7_writeAlternatives cX7_writeAlternatives 4 none :: uG) { frames := fE + 5, cells := 0, slots := 0, locals := lE + 107 } (gPc (dC, dI) (tC kc) (wC ad kc sv) (zC ak) [.ref (ad 9), .int a1] σ sz) (gQv (dC, dI) (tC kc) (wC ad kc sv) (va_A (wC ad kc sv σ) sz) r τ) 0 0 (va_A (wC ad kc sv σ) sz) :=
  g_start (by decide) (Nat.le_of_ble_eq_true rfl) (fun p e s m below meth c ls S hr hk X hl => w_X7_writeAlternatives S hr hk ⟨Nat.le_refl _, Nat.le_refl _⟩ hE X hl hg)
section MX7_writeInner
variable {p : Program} {l : Launch} {e : Env} {R : Room} {s : State} {m : MethodId} {args : Array Value} {below : List Frame} {meth : Method} {c : Code} {dC : Nat → ClassId} {dI : Nat → Nat → Nat} {ak : Nat → Nat} {A : Nat → Prop} {ad : Nat → Nat} {kc : Nat → ClassId} {sv : Value} {r : Unit} {τ : S5} {fE lE : Nat}
set_option maxHeartbeats 4000000 in
set_option maxRecDepth 100000 in
theorem w_X7_writeInner {σ : S5} {E : Int32 → S5 → Option (Unit × S5)} {a1 : Int32} {H : Heap} {locs : List Loc} {ls : Array Slot} (S : CallFix p m c cX7_writeInner 3 s args uG RX7) (hr : meth.sig.returnType = none) (hk : meth.locks = false) (hR : fE + 6 ≤ R.frames ∧ lE + 130 ≤ R.locals)
    (hE : ∀ (a0 : Int32) (σ τ : S5) (r : Unit), E a0 σ = some (r, τ) → ∀ sz : Nat, Met l yX7_writePart (Cond.code yX7_writePart cX7_writePart 3 none :: uG) { frames := fE, cells := 0, slots := 0, locals := lE } (gPc (dC, dI) (tC kc) (wC ad kc sv) (zC ak) [.ref (ad 9), .int a0] σ sz) (gQv (dC, dI) (tC kc) (wC ad kc sv) (va_A (wC ad kc sv σ) sz) r τ) 0 0 (va_A (wC ad kc sv σ) sz))
    (X : gX (dC, dI) (tC kc) (wC ad kc sv) (zC ak) A s σ H locs) (hl : lv_has ls 3 [(0, .ref (ad 9)), (1, .int a1)]) (hg : f_X7_writeInner E a1 σ = some (r, τ)) : W p l e R s m args below meth c H locs 0 0 (MQ below (gQv (dC, dI) (tC kc) (wC ad kc sv) A r τ) args s 0 0 A) (F0 m 0 ls []) := by
  have hx := S.1
  have hb := S.2.1
  have hown := S.2.2.2.1
  have hu := S.2.2.2.2
  unfold f_X7_writeInner at hg
  refine lv_aload_n hx hb dX7_writeInner_0 rfl (lv_at hl 0 rfl) ?_
  refine wcgR_9_0 S X mG_630 dX7_writeInner_1 ?_
  refine wcgR_3_3 S X mG_397 dX7_writeInner_4 ?_
  refine lv_iload_n hx hb dX7_writeInner_7 rfl (lv_at hl 1 rfl) ?_
  obtain ⟨hi8, hg⟩ := gd_some hg
  refine wclA_16 (v := (xA σ 16 a1)) S X hi8 rfl dX7_writeInner_8 ?_
  refine lv_istore_n (lv' := [(2, .int (xA σ 16 a1)), (0, .ref (ad 9)), (1, .int a1)]) hx hb dX7_writeInner_9 rfl hl (by decide) rfl (fun ls hl => ?_)
  refine lv_aload_n hx hb dX7_writeInner_10 rfl (lv_at hl 1 rfl) ?_
  refine wcgR_9_0 S X mG_630 dX7_writeInner_11 ?_
  refine wcgR_3_0 S X mG_382 dX7_writeInner_14 ?_
  refine lv_iload_n hx hb dX7_writeInner_17 rfl (lv_at hl 2 rfl) ?_
  obtain ⟨hi18, hg⟩ := gd_some hg
  refine wclA_13 (v := (xA σ 13 a1)) S X hi18 rfl dX7_writeInner_18 ?_
  rcases sw_5_9 ((xA σ 13 a1)) with hsw | hsw | hsw | hsw | hsw | hsw
  · refine lv_tableOut (tgt := 214) hx hb dX7_writeInner_19 hsw (by decide) ?_
    obtain ⟨hs0, hs1, hs2, hs3, hs4⟩ := swo_5_9 hsw
    have hg := (if_neg hs0).symm.trans hg
    have hg := (if_neg hs1).symm.trans hg
    have hg := (if_neg hs2).symm.trans hg
    have hg := (if_neg hs3).symm.trans hg
    have hg := (if_neg hs4).symm.trans hg
    refine lv_aload_n hx hb dX7_writeInner_214 rfl (lv_at hl 1 rfl) ?_
    refine lv_iload_n hx hb dX7_writeInner_215 rfl (lv_at hl 0 rfl) ?_
    obtain ⟨r216, τ216, hq216, hg⟩ := bd_some hg
    refine gc_Vv (As := [.int (xA σ 16 a1)]) (rest := []) (q0 := 9) (ci := 10) S X (k2_X7_writeRow l dC dI ad kc sv hE hq216 H.size) cw_X7_writeRow mG_1731 rfl rfl rfl rfl rfl hl.1 (Nat.le_of_ble_eq_true rfl) dX7_writeInner_216 ⟨by omega, by omega⟩ (fun H locs X => ?_)
    obtain ⟨-, rfl⟩ := fin_some hg
    exact gr_v S hr hk X dX7_writeInner_219
  · refine lv_tableIn (off := 33) (tgt := 52) hx hb dX7_writeInner_19 (by rw [hsw]; decide) (by rw [hsw]; decide) (by rw [hsw]; decide) (by decide) ?_
    have hg := (if_pos hsw).symm.trans hg
    refine lv_aload_n hx hb dX7_writeInner_52 rfl (lv_at hl 1 rfl) ?_
    refine lv_iload_n hx hb dX7_writeInner_53 rfl (lv_at hl 0 rfl) ?_
    obtain ⟨r54, τ54, hq54, hg⟩ := bd_some hg
    refine gc_Vv (As := [.int (xA σ 16 a1)]) (rest := []) (q0 := 9) (ci := 10) S X (hE _ _ _ _ hq54 H.size) cw_X7_writePart mG_1697 rfl rfl rfl rfl rfl hl.1 (Nat.le_of_ble_eq_true rfl) dX7_writeInner_54 ⟨by omega, by omega⟩ (fun H locs X => ?_)
    refine lv_aload_n hx hb dX7_writeInner_57 rfl (lv_at hl 1 rfl) ?_
    refine lv_aload_n hx hb dX7_writeInner_58 rfl (lv_at hl 1 rfl) ?_
    refine wcgR_9_0 S X mG_630 dX7_writeInner_59 ?_
    refine wcgR_3_1 S X mG_386 dX7_writeInner_62 ?_
    refine lv_iload_n hx hb dX7_writeInner_65 rfl (lv_at hl 2 rfl) ?_
    obtain ⟨hi66, hg⟩ := gd_some hg
    refine wclA_14 (v := (xA τ54 14 a1)) S X hi66 rfl dX7_writeInner_66 ?_
    obtain ⟨r67, τ67, hq67, hg⟩ := bd_some hg
    refine gc_Vv (As := [.int (xA τ54 14 a1)]) (rest := []) (q0 := 9) (ci := 10) S X (k2_X7_writeSign l dC dI ad kc sv hq67 H.size) cw_X7_writeSign mG_1706 rfl rfl rfl rfl rfl hl.1 (Nat.le_of_ble_eq_true rfl) dX7_writeInner_67 ⟨by omega, by omega⟩ (fun H locs X => ?_)
    refine lv_aload_n hx hb dX7_writeInner_70 rfl (lv_at hl 1 rfl) ?_
    refine lv_aload_n hx hb dX7_writeInner_71 rfl (lv_at hl 1 rfl) ?_
    refine wcgR_9_0 S X mG_630 dX7_writeInner_72 ?_
    refine wcgR_3_4 S X mG_401 dX7_writeInner_75 ?_
    refine lv_iload_n hx hb dX7_writeInner_78 rfl (lv_at hl 0 rfl) ?_
    obtain ⟨hi79, hg⟩ := gd_some hg
    refine wclA_17 (v := (xA τ67 17 (xA σ 16 a1))) S X hi79 rfl dX7_writeInner_79 ?_
    obtain ⟨r80, τ80, hq80, hg⟩ := bd_some hg
    refine gc_Vv (As := [.int (xA τ67 17 (xA σ 16 a1))]) (rest := []) (q0 := 9) (ci := 10) S X (hE _ _ _ _ hq80 H.size) cw_X7_writePart mG_1697 rfl rfl rfl rfl rfl hl.1 (Nat.le_of_ble_eq_true rfl) dX7_writeInner_80 ⟨by omega, by omega⟩ (fun H locs X => ?_)
    refine lv_goto (tgt := 219) hx hb dX7_writeInner_83 (by decide) ?_
    obtain ⟨-, rfl⟩ := fin_some hg
    exact gr_v S hr hk X dX7_writeInner_219
  · refine lv_tableIn (off := 67) (tgt := 86) hx hb dX7_writeInner_19 (by rw [hsw]; decide) (by rw [hsw]; decide) (by rw [hsw]; decide) (by decide) ?_
    have hg := (if_neg (by rw [hsw]; decide)).symm.trans hg
    have hg := (if_pos hsw).symm.trans hg
    refine lv_aload_n hx hb dX7_writeInner_86 rfl (lv_at hl 1 rfl) ?_
    obtain ⟨hv87, hg⟩ := gq_some hg
    refine wcgR_9_2 S X mG_632 hv87 dX7_writeInner_87 ?_
    refine va_ldcS hx hb hown (zR_9 X) dX7_writeInner_90 ?_
    obtain ⟨r92, τ92, hq92, hg⟩ := bd_some hg
    refine gc_Vv (As := [.ref (ak 18)]) (rest := []) (q0 := 1) (ci := 11) S X (k2_X8_addText_draft l dC dI ad kc sv hq92 H.size) cw_X8_addText mG_1652 rfl rfl rfl rfl rfl hl.1 (Nat.le_of_ble_eq_true rfl) dX7_writeInner_92 ⟨by omega, by omega⟩ (fun H locs X => ?_)
    refine lv_aload_n hx hb dX7_writeInner_95 rfl (lv_at hl 1 rfl) ?_
    refine lv_iload_n hx hb dX7_writeInner_96 rfl (lv_at hl 0 rfl) ?_
    obtain ⟨r97, τ97, hq97, hg⟩ := bd_some hg
    refine gc_Vv (As := [.int (xA σ 16 a1)]) (rest := []) (q0 := 9) (ci := 10) S X (hE _ _ _ _ hq97 H.size) cw_X7_writePart mG_1697 rfl rfl rfl rfl rfl hl.1 (Nat.le_of_ble_eq_true rfl) dX7_writeInner_97 ⟨by omega, by omega⟩ (fun H locs X => ?_)
    refine lv_aload_n hx hb dX7_writeInner_100 rfl (lv_at hl 1 rfl) ?_
    obtain ⟨hv101, hg⟩ := gq_some hg
    refine wcgR_9_2 S X mG_632 hv101 dX7_writeInner_101 ?_
    refine va_ldcS hx hb hown (zR_10 X) dX7_writeInner_104 ?_
    obtain ⟨r106, τ106, hq106, hg⟩ := bd_some hg
    refine gc_Vv (As := [.ref (ak 20)]) (rest := []) (q0 := 1) (ci := 11) S X (k2_X8_addText_draft l dC dI ad kc sv hq106 H.size) cw_X8_addText mG_1652 rfl rfl rfl rfl rfl hl.1 (Nat.le_of_ble_eq_true rfl) dX7_writeInner_106 ⟨by omega, by omega⟩ (fun H locs X => ?_)
    refine lv_aload_n hx hb dX7_writeInner_109 rfl (lv_at hl 1 rfl) ?_
    refine lv_aload_n hx hb dX7_writeInner_110 rfl (lv_at hl 1 rfl) ?_
    refine wcgR_9_0 S X mG_630 dX7_writeInner_111 ?_
    refine wcgR_3_4 S X mG_401 dX7_writeInner_114 ?_
    refine lv_iload_n hx hb dX7_writeInner_117 rfl (lv_at hl 0 rfl) ?_
    obtain ⟨hi118, hg⟩ := gd_some hg
    refine wclA_17 (v := (xA τ106 17 (xA σ 16 a1))) S X hi118 rfl dX7_writeInner_118 ?_
    obtain ⟨r119, τ119, hq119, hg⟩ := bd_some hg
    refine gc_Vv (As := [.int (xA τ106 17 (xA σ 16 a1))]) (rest := []) (q0 := 9) (ci := 10) S X (k2_X7_writeAlternatives l dC dI ad kc sv hE hq119 H.size) cw_X7_writeAlternatives mG_1714 rfl rfl rfl rfl rfl hl.1 (Nat.le_of_ble_eq_true rfl) dX7_writeInner_119 ⟨by omega, by omega⟩ (fun H locs X => ?_)
    refine lv_aload_n hx hb dX7_writeInner_122 rfl (lv_at hl 1 rfl) ?_
    obtain ⟨hv123, hg⟩ := gq_some hg
    refine wcgR_9_2 S X mG_632 hv123 dX7_writeInner_123 ?_
    refine lv_bipush (v := 125) hx hb dX7_writeInner_126 (by decide) ?_
    obtain ⟨r128, τ128, hq128, hg⟩ := bd_some hg
    refine gc_Vv (As := [.int 125]) (rest := []) (q0 := 1) (ci := 11) S X (k2_X8_add_draft l dC dI ad kc sv hq128 H.size) cw_X8_add mG_1681 rfl rfl rfl rfl rfl hl.1 (Nat.le_of_ble_eq_true rfl) dX7_writeInner_128 ⟨by omega, by omega⟩ (fun H locs X => ?_)
    refine lv_goto (tgt := 219) hx hb dX7_writeInner_131 (by decide) ?_
    obtain ⟨-, rfl⟩ := fin_some hg
    exact gr_v S hr hk X dX7_writeInner_219
  · refine lv_tableIn (off := 115) (tgt := 134) hx hb dX7_writeInner_19 (by rw [hsw]; decide) (by rw [hsw]; decide) (by rw [hsw]; decide) (by decide) ?_
    have hg := (if_neg (by rw [hsw]; decide)).symm.trans hg
    have hg := (if_neg (by rw [hsw]; decide)).symm.trans hg
    have hg := (if_pos hsw).symm.trans hg
    refine lv_aload_n hx hb dX7_writeInner_134 rfl (lv_at hl 1 rfl) ?_
    obtain ⟨hv135, hg⟩ := gq_some hg
    refine wcgR_9_2 S X mG_632 hv135 dX7_writeInner_135 ?_
    refine va_ldcS hx hb hown (zR_13 X) dX7_writeInner_138 ?_
    obtain ⟨r140, τ140, hq140, hg⟩ := bd_some hg
    refine gc_Vv (As := [.ref (ak 26)]) (rest := []) (q0 := 1) (ci := 11) S X (k2_X8_addText_draft l dC dI ad kc sv hq140 H.size) cw_X8_addText mG_1652 rfl rfl rfl rfl rfl hl.1 (Nat.le_of_ble_eq_true rfl) dX7_writeInner_140 ⟨by omega, by omega⟩ (fun H locs X => ?_)
    refine lv_aload_n hx hb dX7_writeInner_143 rfl (lv_at hl 1 rfl) ?_
    refine lv_aload_n hx hb dX7_writeInner_144 rfl (lv_at hl 1 rfl) ?_
    refine wcgR_9_0 S X mG_630 dX7_writeInner_145 ?_
    refine wcgR_3_4 S X mG_401 dX7_writeInner_148 ?_
    refine lv_iload_n hx hb dX7_writeInner_151 rfl (lv_at hl 0 rfl) ?_
    obtain ⟨hi152, hg⟩ := gd_some hg
    refine wclA_17 (v := (xA τ140 17 (xA σ 16 a1))) S X hi152 rfl dX7_writeInner_152 ?_
    obtain ⟨r153, τ153, hq153, hg⟩ := bd_some hg
    refine gc_Vv (As := [.int (xA τ140 17 (xA σ 16 a1))]) (rest := []) (q0 := 9) (ci := 10) S X (k2_X7_writeBindings l dC dI ad kc sv hE hq153 H.size) cw_X7_writeBindings mG_1725 rfl rfl rfl rfl rfl hl.1 (Nat.le_of_ble_eq_true rfl) dX7_writeInner_153 ⟨by omega, by omega⟩ (fun H locs X => ?_)
    refine lv_aload_n hx hb dX7_writeInner_156 rfl (lv_at hl 1 rfl) ?_
    obtain ⟨hv157, hg⟩ := gq_some hg
    refine wcgR_9_2 S X mG_632 hv157 dX7_writeInner_157 ?_
    refine va_ldcS hx hb hown (zR_15 X) dX7_writeInner_160 ?_
    obtain ⟨r162, τ162, hq162, hg⟩ := bd_some hg
    refine gc_Vv (As := [.ref (ak 30)]) (rest := []) (q0 := 1) (ci := 11) S X (k2_X8_addText_draft l dC dI ad kc sv hq162 H.size) cw_X8_addText mG_1652 rfl rfl rfl rfl rfl hl.1 (Nat.le_of_ble_eq_true rfl) dX7_writeInner_162 ⟨by omega, by omega⟩ (fun H locs X => ?_)
    refine lv_aload_n hx hb dX7_writeInner_165 rfl (lv_at hl 1 rfl) ?_
    refine lv_iload_n hx hb dX7_writeInner_166 rfl (lv_at hl 0 rfl) ?_
    obtain ⟨r167, τ167, hq167, hg⟩ := bd_some hg
    refine gc_Vv (As := [.int (xA σ 16 a1)]) (rest := []) (q0 := 9) (ci := 10) S X (hE _ _ _ _ hq167 H.size) cw_X7_writePart mG_1697 rfl rfl rfl rfl rfl hl.1 (Nat.le_of_ble_eq_true rfl) dX7_writeInner_167 ⟨by omega, by omega⟩ (fun H locs X => ?_)
    refine lv_goto (tgt := 219) hx hb dX7_writeInner_170 (by decide) ?_
    obtain ⟨-, rfl⟩ := fin_some hg
    exact gr_v S hr hk X dX7_writeInner_219
  · refine lv_tableIn (off := 195) (tgt := 214) hx hb dX7_writeInner_19 (by rw [hsw]; decide) (by rw [hsw]; decide) (by rw [hsw]; decide) (by decide) ?_
    have hg := (if_neg (by rw [hsw]; decide)).symm.trans hg
    have hg := (if_neg (by rw [hsw]; decide)).symm.trans hg
    have hg := (if_neg (by rw [hsw]; decide)).symm.trans hg
    have hg := (if_pos hsw).symm.trans hg
    refine lv_aload_n hx hb dX7_writeInner_214 rfl (lv_at hl 1 rfl) ?_
    refine lv_iload_n hx hb dX7_writeInner_215 rfl (lv_at hl 0 rfl) ?_
    obtain ⟨r216, τ216, hq216, hg⟩ := bd_some hg
    refine gc_Vv (As := [.int (xA σ 16 a1)]) (rest := []) (q0 := 9) (ci := 10) S X (k2_X7_writeRow l dC dI ad kc sv hE hq216 H.size) cw_X7_writeRow mG_1731 rfl rfl rfl rfl rfl hl.1 (Nat.le_of_ble_eq_true rfl) dX7_writeInner_216 ⟨by omega, by omega⟩ (fun H locs X => ?_)
    obtain ⟨-, rfl⟩ := fin_some hg
    exact gr_v S hr hk X dX7_writeInner_219
  · refine lv_tableIn (off := 154) (tgt := 173) hx hb dX7_writeInner_19 (by rw [hsw]; decide) (by rw [hsw]; decide) (by rw [hsw]; decide) (by decide) ?_
    have hg := (if_neg (by rw [hsw]; decide)).symm.trans hg
    have hg := (if_neg (by rw [hsw]; decide)).symm.trans hg
    have hg := (if_neg (by rw [hsw]; decide)).symm.trans hg
    have hg := (if_neg (by rw [hsw]; decide)).symm.trans hg
    have hg := (if_pos hsw).symm.trans hg
    refine lv_aload_n hx hb dX7_writeInner_173 rfl (lv_at hl 1 rfl) ?_
    obtain ⟨hv174, hg⟩ := gq_some hg
    refine wcgR_9_2 S X mG_632 hv174 dX7_writeInner_174 ?_
    refine lv_aload_n hx hb dX7_writeInner_177 rfl (lv_at hl 1 rfl) ?_
    refine wcgR_9_1 S X mG_631 dX7_writeInner_178 ?_
    refine wcgR_2_0 S X mG_283 dX7_writeInner_181 ?_
    refine lv_aload_n hx hb dX7_writeInner_184 rfl (lv_at hl 1 rfl) ?_
    refine wcgR_9_0 S X mG_630 dX7_writeInner_185 ?_
    refine wcgR_3_1 S X mG_386 dX7_writeInner_188 ?_
    refine lv_iload_n hx hb dX7_writeInner_191 rfl (lv_at hl 2 rfl) ?_
    obtain ⟨hi192, hg⟩ := gd_some hg
    refine wclA_14 (v := (xA σ 14 a1)) S X hi192 rfl dX7_writeInner_192 ?_
    obtain ⟨hi193, hg⟩ := gd_some hg
    refine wclB_0 (v := (xB σ 0 (xA σ 14 a1))) S X hi193 rfl dX7_writeInner_193 ?_
    obtain ⟨r194, τ194, hq194, hg⟩ := bd_some hg
    refine gc_Vv (As := [.long (xB σ 0 (xA σ 14 a1))]) (rest := []) (q0 := 1) (ci := 11) S X (k2_X8_addName_draft l dC dI ad kc sv hq194 H.size) cw_X8_addName mG_1677 rfl rfl rfl rfl rfl hl.1 (Nat.le_of_ble_eq_true rfl) dX7_writeInner_194 ⟨by omega, by omega⟩ (fun H locs X => ?_)
    refine lv_aload_n hx hb dX7_writeInner_197 rfl (lv_at hl 1 rfl) ?_
    obtain ⟨hv198, hg⟩ := gq_some hg
    refine wcgR_9_2 S X mG_632 hv198 dX7_writeInner_198 ?_
    refine lv_bipush (v := 32) hx hb dX7_writeInner_201 (by decide) ?_
    obtain ⟨r203, τ203, hq203, hg⟩ := bd_some hg
    refine gc_Vv (As := [.int 32]) (rest := []) (q0 := 1) (ci := 11) S X (k2_X8_add_draft l dC dI ad kc sv hq203 H.size) cw_X8_add mG_1681 rfl rfl rfl rfl rfl hl.1 (Nat.le_of_ble_eq_true rfl) dX7_writeInner_203 ⟨by omega, by omega⟩ (fun H locs X => ?_)
    refine lv_aload_n hx hb dX7_writeInner_206 rfl (lv_at hl 1 rfl) ?_
    refine lv_iload_n hx hb dX7_writeInner_207 rfl (lv_at hl 0 rfl) ?_
    obtain ⟨r208, τ208, hq208, hg⟩ := bd_some hg
    refine gc_Vv (As := [.int (xA σ 16 a1)]) (rest := []) (q0 := 9) (ci := 10) S X (k2_X7_writeRow l dC dI ad kc sv hE hq208 H.size) cw_X7_writeRow mG_1731 rfl rfl rfl rfl rfl hl.1 (Nat.le_of_ble_eq_true rfl) dX7_writeInner_208 ⟨by omega, by omega⟩ (fun H locs X => ?_)
    refine lv_goto (tgt := 219) hx hb dX7_writeInner_211 (by decide) ?_
    obtain ⟨-, rfl⟩ := fin_some hg
    exact gr_v S hr hk X dX7_writeInner_219
end MX7_writeInner
set_option maxRecDepth 100000 in
theorem k2_X7_writeInner (l : Launch) (dC : Nat → ClassId) (dI : Nat → Nat → Nat) {ak : Nat → Nat} (ad : Nat → Nat) (kc : Nat → ClassId) (sv : Value) {E : Int32 → S5 → Option (Unit × S5)} {fE lE : Nat} {σ τ : S5} {a1 : Int32} {r : Unit} (hE : ∀ (a0 : Int32) (σ τ : S5) (r : Unit), E a0 σ = some (r, τ) → ∀ sz : Nat, Met l yX7_writePart (Cond.code yX7_writePart cX7_writePart 3 none :: uG) { frames := fE, cells := 0, slots := 0, locals := lE } (gPc (dC, dI) (tC kc) (wC ad kc sv) (zC ak) [.ref (ad 9), .int a0] σ sz) (gQv (dC, dI) (tC kc) (wC ad kc sv) (va_A (wC ad kc sv σ) sz) r τ) 0 0 (va_A (wC ad kc sv σ) sz)) (hg : f_X7_writeInner E a1 σ = some (r, τ)) (sz : Nat) : Met l yX7_writeInner (Cond.code yX7_writeInner cX7_writeInner 3 none :: uG) { frames := fE + 6, cells := 0, slots := 0, locals := lE + 130 } (gPc (dC, dI) (tC kc) (wC ad kc sv) (zC ak) [.ref (ad 9), .int a1] σ sz) (gQv (dC, dI) (tC kc) (wC ad kc sv) (va_A (wC ad kc sv σ) sz) r τ) 0 0 (va_A (wC ad kc sv σ) sz) :=
  g_start (by decide) (Nat.le_of_ble_eq_true rfl) (fun p e s m below meth c ls S hr hk X hl => w_X7_writeInner S hr hk ⟨Nat.le_refl _, Nat.le_refl _⟩ hE X hl hg)
section MX7_writePart
variable {p : Program} {l : Launch} {e : Env} {R : Room} {s : State} {m : MethodId} {args : Array Value} {below : List Frame} {meth : Method} {c : Code} {dC : Nat → ClassId} {dI : Nat → Nat → Nat} {ak : Nat → Nat} {A : Nat → Prop} {ad : Nat → Nat} {kc : Nat → ClassId} {sv : Value} {r : Unit} {τ : S5} {fE lE : Nat}
set_option maxHeartbeats 4000000 in
set_option maxRecDepth 100000 in
theorem w_X7_writePart {σ : S5} {E : Int32 → S5 → Option (Unit × S5)} {a1 : Int32} {H : Heap} {locs : List Loc} {ls : Array Slot} (S : CallFix p m c cX7_writePart 3 s args uG RX7) (hr : meth.sig.returnType = none) (hk : meth.locks = false) (hR : fE + 7 ≤ R.frames ∧ lE + 152 ≤ R.locals)
    (hE : ∀ (a0 : Int32) (σ τ : S5) (r : Unit), E a0 σ = some (r, τ) → ∀ sz : Nat, Met l yX7_writePart (Cond.code yX7_writePart cX7_writePart 3 none :: uG) { frames := fE, cells := 0, slots := 0, locals := lE } (gPc (dC, dI) (tC kc) (wC ad kc sv) (zC ak) [.ref (ad 9), .int a0] σ sz) (gQv (dC, dI) (tC kc) (wC ad kc sv) (va_A (wC ad kc sv σ) sz) r τ) 0 0 (va_A (wC ad kc sv σ) sz))
    (X : gX (dC, dI) (tC kc) (wC ad kc sv) (zC ak) A s σ H locs) (hl : lv_has ls 3 [(0, .ref (ad 9)), (1, .int a1)]) (hg : f_X7_writePart E a1 σ = some (r, τ)) : W p l e R s m args below meth c H locs 0 0 (MQ below (gQv (dC, dI) (tC kc) (wC ad kc sv) A r τ) args s 0 0 A) (F0 m 0 ls []) := by
  have hx := S.1
  have hb := S.2.1
  have hown := S.2.2.2.1
  have hu := S.2.2.2.2
  unfold f_X7_writePart at hg
  refine lv_aload_n hx hb dX7_writePart_0 rfl (lv_at hl 0 rfl) ?_
  refine wcgR_9_0 S X mG_630 dX7_writePart_1 ?_
  refine wcgR_3_1 S X mG_386 dX7_writePart_4 ?_
  refine lv_iload_n hx hb dX7_writePart_7 rfl (lv_at hl 1 rfl) ?_
  obtain ⟨hi8, hg⟩ := gd_some hg
  refine wclA_14 (v := (xA σ 14 a1)) S X hi8 rfl dX7_writePart_8 ?_
  refine lv_istore_n (lv' := [(2, .int (xA σ 14 a1)), (0, .ref (ad 9)), (1, .int a1)]) hx hb dX7_writePart_9 rfl hl (by decide) rfl (fun ls hl => ?_)
  refine lv_aload_n hx hb dX7_writePart_10 rfl (lv_at hl 1 rfl) ?_
  refine wcgR_9_0 S X mG_630 dX7_writePart_11 ?_
  refine wcgR_3_0 S X mG_382 dX7_writePart_14 ?_
  refine lv_iload_n hx hb dX7_writePart_17 rfl (lv_at hl 2 rfl) ?_
  obtain ⟨hi18, hg⟩ := gd_some hg
  refine wclA_13 (v := (xA σ 13 a1)) S X hi18 rfl dX7_writePart_18 ?_
  rcases sw_0_4 ((xA σ 13 a1)) with hsw | hsw | hsw | hsw | hsw | hsw
  · refine lv_tableOut (tgt := 110) hx hb dX7_writePart_19 hsw (by decide) ?_
    obtain ⟨hs0, hs1, hs2, hs3, hs4⟩ := swo_0_4 hsw
    have hg := (if_neg hs0).symm.trans hg
    have hg := (if_neg hs1).symm.trans hg
    have hg := (if_neg hs2).symm.trans hg
    have hg := (if_neg hs3).symm.trans hg
    have hg := (if_neg hs4).symm.trans hg
    refine lv_aload_n hx hb dX7_writePart_110 rfl (lv_at hl 1 rfl) ?_
    obtain ⟨hv111, hg⟩ := gq_some hg
    refine wcgR_9_2 S X mG_632 hv111 dX7_writePart_111 ?_
    refine lv_bipush (v := 40) hx hb dX7_writePart_114 (by decide) ?_
    obtain ⟨r116, τ116, hq116, hg⟩ := bd_some hg
    refine gc_Vv (As := [.int 40]) (rest := []) (q0 := 1) (ci := 11) S X (k2_X8_add_draft l dC dI ad kc sv hq116 H.size) cw_X8_add mG_1681 rfl rfl rfl rfl rfl hl.1 (Nat.le_of_ble_eq_true rfl) dX7_writePart_116 ⟨by omega, by omega⟩ (fun H locs X => ?_)
    refine lv_aload_n hx hb dX7_writePart_119 rfl (lv_at hl 1 rfl) ?_
    refine lv_iload_n hx hb dX7_writePart_120 rfl (lv_at hl 2 rfl) ?_
    obtain ⟨r121, τ121, hq121, hg⟩ := bd_some hg
    refine gc_Vv (As := [.int a1]) (rest := []) (q0 := 9) (ci := 10) S X (k2_X7_writeInner l dC dI ad kc sv hE hq121 H.size) cw_X7_writeInner mG_1702 rfl rfl rfl rfl rfl hl.1 (Nat.le_of_ble_eq_true rfl) dX7_writePart_121 ⟨by omega, by omega⟩ (fun H locs X => ?_)
    refine lv_aload_n hx hb dX7_writePart_124 rfl (lv_at hl 1 rfl) ?_
    obtain ⟨hv125, hg⟩ := gq_some hg
    refine wcgR_9_2 S X mG_632 hv125 dX7_writePart_125 ?_
    refine lv_bipush (v := 41) hx hb dX7_writePart_128 (by decide) ?_
    obtain ⟨r130, τ130, hq130, hg⟩ := bd_some hg
    refine gc_Vv (As := [.int 41]) (rest := []) (q0 := 1) (ci := 11) S X (k2_X8_add_draft l dC dI ad kc sv hq130 H.size) cw_X8_add mG_1681 rfl rfl rfl rfl rfl hl.1 (Nat.le_of_ble_eq_true rfl) dX7_writePart_130 ⟨by omega, by omega⟩ (fun H locs X => ?_)
    obtain ⟨-, rfl⟩ := fin_some hg
    exact gr_v S hr hk X dX7_writePart_133
  · refine lv_tableIn (off := 33) (tgt := 52) hx hb dX7_writePart_19 (by rw [hsw]; decide) (by rw [hsw]; decide) (by rw [hsw]; decide) (by decide) ?_
    have hg := (if_pos hsw).symm.trans hg
    refine lv_aload_n hx hb dX7_writePart_52 rfl (lv_at hl 1 rfl) ?_
    obtain ⟨hv53, hg⟩ := gq_some hg
    refine wcgR_9_2 S X mG_632 hv53 dX7_writePart_53 ?_
    refine lv_iload_n hx hb dX7_writePart_56 rfl (lv_at hl 0 rfl) ?_
    obtain ⟨r57, τ57, hq57, hg⟩ := bd_some hg
    refine gc_Vv (As := [.int (xA σ 14 a1)]) (rest := []) (q0 := 1) (ci := 11) S X (k2_X8_addNumber_draft l dC dI ad kc sv hq57 H.size) cw_X8_addNumber mG_1682 rfl rfl rfl rfl rfl hl.1 (Nat.le_of_ble_eq_true rfl) dX7_writePart_57 ⟨by omega, by omega⟩ (fun H locs X => ?_)
    refine lv_goto (tgt := 133) hx hb dX7_writePart_60 (by decide) ?_
    obtain ⟨-, rfl⟩ := fin_some hg
    exact gr_v S hr hk X dX7_writePart_133
  · refine lv_tableIn (off := 44) (tgt := 63) hx hb dX7_writePart_19 (by rw [hsw]; decide) (by rw [hsw]; decide) (by rw [hsw]; decide) (by decide) ?_
    have hg := (if_neg (by rw [hsw]; decide)).symm.trans hg
    have hg := (if_pos hsw).symm.trans hg
    refine lv_aload_n hx hb dX7_writePart_63 rfl (lv_at hl 1 rfl) ?_
    obtain ⟨hv64, hg⟩ := gq_some hg
    refine wcgR_9_2 S X mG_632 hv64 dX7_writePart_64 ?_
    refine lv_aload_n hx hb dX7_writePart_67 rfl (lv_at hl 1 rfl) ?_
    refine wcgR_9_1 S X mG_631 dX7_writePart_68 ?_
    refine wcgR_2_0 S X mG_283 dX7_writePart_71 ?_
    refine lv_iload_n hx hb dX7_writePart_74 rfl (lv_at hl 0 rfl) ?_
    obtain ⟨hi75, hg⟩ := gd_some hg
    refine wclB_0 (v := (xB σ 0 (xA σ 14 a1))) S X hi75 rfl dX7_writePart_75 ?_
    obtain ⟨r76, τ76, hq76, hg⟩ := bd_some hg
    refine gc_Vv (As := [.long (xB σ 0 (xA σ 14 a1))]) (rest := []) (q0 := 1) (ci := 11) S X (k2_X8_addName_draft l dC dI ad kc sv hq76 H.size) cw_X8_addName mG_1677 rfl rfl rfl rfl rfl hl.1 (Nat.le_of_ble_eq_true rfl) dX7_writePart_76 ⟨by omega, by omega⟩ (fun H locs X => ?_)
    refine lv_goto (tgt := 133) hx hb dX7_writePart_79 (by decide) ?_
    obtain ⟨-, rfl⟩ := fin_some hg
    exact gr_v S hr hk X dX7_writePart_133
  · refine lv_tableIn (off := 63) (tgt := 82) hx hb dX7_writePart_19 (by rw [hsw]; decide) (by rw [hsw]; decide) (by rw [hsw]; decide) (by decide) ?_
    have hg := (if_neg (by rw [hsw]; decide)).symm.trans hg
    have hg := (if_neg (by rw [hsw]; decide)).symm.trans hg
    have hg := (if_pos hsw).symm.trans hg
    refine lv_aload_n hx hb dX7_writePart_82 rfl (lv_at hl 1 rfl) ?_
    refine lv_iload_n hx hb dX7_writePart_83 rfl (lv_at hl 0 rfl) ?_
    obtain ⟨r84, τ84, hq84, hg⟩ := bd_some hg
    refine gc_Vv (As := [.int (xA σ 14 a1)]) (rest := []) (q0 := 9) (ci := 10) S X (k2_X7_writeFunction l dC dI ad kc sv hq84 H.size) cw_X7_writeFunction mG_1687 rfl rfl rfl rfl rfl hl.1 (Nat.le_of_ble_eq_true rfl) dX7_writePart_84 ⟨by omega, by omega⟩ (fun H locs X => ?_)
    refine lv_goto (tgt := 133) hx hb dX7_writePart_87 (by decide) ?_
    obtain ⟨-, rfl⟩ := fin_some hg
    exact gr_v S hr hk X dX7_writePart_133
  · refine lv_tableIn (off := 71) (tgt := 90) hx hb dX7_writePart_19 (by rw [hsw]; decide) (by rw [hsw]; decide) (by rw [hsw]; decide) (by decide) ?_
    have hg := (if_neg (by rw [hsw]; decide)).symm.trans hg
    have hg := (if_neg (by rw [hsw]; decide)).symm.trans hg
    have hg := (if_neg (by rw [hsw]; decide)).symm.trans hg
    have hg := (if_pos hsw).symm.trans hg
    refine lv_aload_n hx hb dX7_writePart_90 rfl (lv_at hl 1 rfl) ?_
    refine lv_iload_n hx hb dX7_writePart_91 rfl (lv_at hl 0 rfl) ?_
    obtain ⟨r92, τ92, hq92, hg⟩ := bd_some hg
    refine gc_Vv (As := [.int (xA σ 14 a1)]) (rest := []) (q0 := 9) (ci := 10) S X (k2_X7_writeVariable l dC dI ad kc sv hq92 H.size) cw_X7_writeVariable mG_1692 rfl rfl rfl rfl rfl hl.1 (Nat.le_of_ble_eq_true rfl) dX7_writePart_92 ⟨by omega, by omega⟩ (fun H locs X => ?_)
    refine lv_goto (tgt := 133) hx hb dX7_writePart_95 (by decide) ?_
    obtain ⟨-, rfl⟩ := fin_some hg
    exact gr_v S hr hk X dX7_writePart_133
  · refine lv_tableIn (off := 79) (tgt := 98) hx hb dX7_writePart_19 (by rw [hsw]; decide) (by rw [hsw]; decide) (by rw [hsw]; decide) (by decide) ?_
    have hg := (if_neg (by rw [hsw]; decide)).symm.trans hg
    have hg := (if_neg (by rw [hsw]; decide)).symm.trans hg
    have hg := (if_neg (by rw [hsw]; decide)).symm.trans hg
    have hg := (if_neg (by rw [hsw]; decide)).symm.trans hg
    have hg := (if_pos hsw).symm.trans hg
    refine lv_aload_n hx hb dX7_writePart_98 rfl (lv_at hl 1 rfl) ?_
    obtain ⟨hv99, hg⟩ := gq_some hg
    refine wcgR_9_2 S X mG_632 hv99 dX7_writePart_99 ?_
    refine va_ldcS hx hb hown (zR_6 X) dX7_writePart_102 ?_
    obtain ⟨r104, τ104, hq104, hg⟩ := bd_some hg
    refine gc_Vv (As := [.ref (ak 12)]) (rest := []) (q0 := 1) (ci := 11) S X (k2_X8_addText_draft l dC dI ad kc sv hq104 H.size) cw_X8_addText mG_1652 rfl rfl rfl rfl rfl hl.1 (Nat.le_of_ble_eq_true rfl) dX7_writePart_104 ⟨by omega, by omega⟩ (fun H locs X => ?_)
    refine lv_goto (tgt := 133) hx hb dX7_writePart_107 (by decide) ?_
    obtain ⟨-, rfl⟩ := fin_some hg
    exact gr_v S hr hk X dX7_writePart_133
end MX7_writePart
set_option maxRecDepth 100000 in
theorem k2_X7_writePart (l : Launch) (dC : Nat → ClassId) (dI : Nat → Nat → Nat) {ak : Nat → Nat} (ad : Nat → Nat) (kc : Nat → ClassId) (sv : Value) {E : Int32 → S5 → Option (Unit × S5)} {fE lE : Nat} {σ τ : S5} {a1 : Int32} {r : Unit} (hE : ∀ (a0 : Int32) (σ τ : S5) (r : Unit), E a0 σ = some (r, τ) → ∀ sz : Nat, Met l yX7_writePart (Cond.code yX7_writePart cX7_writePart 3 none :: uG) { frames := fE, cells := 0, slots := 0, locals := lE } (gPc (dC, dI) (tC kc) (wC ad kc sv) (zC ak) [.ref (ad 9), .int a0] σ sz) (gQv (dC, dI) (tC kc) (wC ad kc sv) (va_A (wC ad kc sv σ) sz) r τ) 0 0 (va_A (wC ad kc sv σ) sz)) (hg : f_X7_writePart E a1 σ = some (r, τ)) (sz : Nat) : Met l yX7_writePart (Cond.code yX7_writePart cX7_writePart 3 none :: uG) { frames := fE + 7, cells := 0, slots := 0, locals := lE + 152 } (gPc (dC, dI) (tC kc) (wC ad kc sv) (zC ak) [.ref (ad 9), .int a1] σ sz) (gQv (dC, dI) (tC kc) (wC ad kc sv) (va_A (wC ad kc sv σ) sz) r τ) 0 0 (va_A (wC ad kc sv σ) sz) :=
  g_start (by decide) (Nat.le_of_ble_eq_true rfl) (fun p e s m below meth c ls S hr hk X hl => w_X7_writePart S hr hk ⟨Nat.le_refl _, Nat.le_refl _⟩ hE X hl hg)
section MX7_writeProgram
variable {p : Program} {l : Launch} {e : Env} {R : Room} {s : State} {m : MethodId} {args : Array Value} {below : List Frame} {meth : Method} {c : Code} {dC : Nat → ClassId} {dI : Nat → Nat → Nat} {ak : Nat → Nat} {A : Nat → Prop} {ad : Nat → Nat} {kc : Nat → ClassId} {sv : Value} {r : Unit} {τ : S5} {fE lE : Nat}
set_option maxHeartbeats 4000000 in
set_option maxRecDepth 100000 in
theorem w_X7_writeProgram_B29 {σ : S5} {E : Int32 → S5 → Option (Unit × S5)} {rec11 : Int32 → S5 → Option (Unit × S5)} {rec29 : Int32 → Int32 → S5 → Option (Unit × S5)} {v2 : Int32} {v3 : Int32} {H : Heap} {locs : List Loc} {ls : Array Slot} (S : CallFix p m c cX7_writeProgram 4 s args uG RX7) (hr : meth.sig.returnType = none) (hk : meth.locks = false) (hR : fE + 6 ≤ R.frames ∧ lE + 128 ≤ R.locals)
    (hE : ∀ (a0 : Int32) (σ τ : S5) (r : Unit), E a0 σ = some (r, τ) → ∀ sz : Nat, Met l yX7_writePart (Cond.code yX7_writePart cX7_writePart 3 none :: uG) { frames := fE, cells := 0, slots := 0, locals := lE } (gPc (dC, dI) (tC kc) (wC ad kc sv) (zC ak) [.ref (ad 9), .int a0] σ sz) (gQv (dC, dI) (tC kc) (wC ad kc sv) (va_A (wC ad kc sv σ) sz) r τ) 0 0 (va_A (wC ad kc sv σ) sz))
    (hrec11 : ∀ (v2 : Int32) (σ : S5) (H : Heap) (locs : List Loc) (ls : Array Slot), gX (dC, dI) (tC kc) (wC ad kc sv) (zC ak) A s σ H locs → lv_has ls 4 [(0, .ref (ad 9)), (2, .int v2)] → rec11 v2 σ = some (r, τ) → W p l e R s m args below meth c H locs 0 0 (MQ below (gQv (dC, dI) (tC kc) (wC ad kc sv) A r τ) args s 0 0 A) (F0 m 11 ls []))
    (hrec29 : ∀ (v2 : Int32) (v3 : Int32) (σ : S5) (H : Heap) (locs : List Loc) (ls : Array Slot), gX (dC, dI) (tC kc) (wC ad kc sv) (zC ak) A s σ H locs → lv_has ls 4 [(0, .ref (ad 9)), (2, .int v2), (3, .int v3)] → rec29 v2 v3 σ = some (r, τ) → W p l e R s m args below meth c H locs 0 0 (MQ below (gQv (dC, dI) (tC kc) (wC ad kc sv) A r τ) args s 0 0 A) (F0 m 29 ls []))
    (X : gX (dC, dI) (tC kc) (wC ad kc sv) (zC ak) A s σ H locs) (hl : lv_has ls 4 [(0, .ref (ad 9)), (2, .int v2), (3, .int v3)]) (hg : f_X7_writeProgram_B29 E rec11 rec29 v2 v3 σ = some (r, τ)) : W p l e R s m args below meth c H locs 0 0 (MQ below (gQv (dC, dI) (tC kc) (wC ad kc sv) A r τ) args s 0 0 A) (F0 m 29 ls []) := by
  have hx := S.1
  have hb := S.2.1
  have hown := S.2.2.2.1
  have hu := S.2.2.2.2
  unfold f_X7_writeProgram_B29 at hg
  refine lv_iload_n hx hb dX7_writeProgram_29 rfl (lv_at hl 2 rfl) ?_
  refine lv_aload_n hx hb dX7_writeProgram_30 rfl (lv_at hl 0 rfl) ?_
  refine wcgR_9_1 S X mG_631 dX7_writeProgram_31 ?_
  refine wcgR_2_7 S X mG_309 dX7_writeProgram_34 ?_
  refine lv_iload_n hx hb dX7_writeProgram_37 rfl (lv_at hl 1 rfl) ?_
  obtain ⟨hi38, hg⟩ := gd_some hg
  refine wclA_3 (v := (xA σ 3 v2)) S X hi38 rfl dX7_writeProgram_38 ?_
  refine lv_icmp_ge (tgt := 62) hx hb dX7_writeProgram_39 (by decide) (fun c39 => ?_) (fun c39 => ?_)
  · have hg := (if_pos c39).symm.trans hg
    refine lv_aload_n hx hb dX7_writeProgram_62 rfl (lv_at hl 0 rfl) ?_
    obtain ⟨hv63, hg⟩ := gq_some hg
    refine wcgR_9_2 S X mG_632 hv63 dX7_writeProgram_63 ?_
    refine va_ldcS hx hb hown (zR_5 X) dX7_writeProgram_66 ?_
    obtain ⟨r68, τ68, hq68, hg⟩ := bd_some hg
    refine gc_Vv (As := [.ref (ak 10)]) (rest := []) (q0 := 1) (ci := 11) S X (k2_X8_addText_draft l dC dI ad kc sv hq68 H.size) cw_X8_addText mG_1652 rfl rfl rfl rfl rfl hl.1 (Nat.le_of_ble_eq_true rfl) dX7_writeProgram_68 ⟨by omega, by omega⟩ (fun H locs X => ?_)
    refine lv_aload_n hx hb dX7_writeProgram_71 rfl (lv_at hl 0 rfl) ?_
    refine lv_aload_n hx hb dX7_writeProgram_72 rfl (lv_at hl 0 rfl) ?_
    refine wcgR_9_1 S X mG_631 dX7_writeProgram_73 ?_
    refine wcgR_2_11 S X mG_323 dX7_writeProgram_76 ?_
    refine lv_iload_n hx hb dX7_writeProgram_79 rfl (lv_at hl 1 rfl) ?_
    obtain ⟨hi80, hg⟩ := gd_some hg
    refine wclA_7 (v := (xA τ68 7 v2)) S X hi80 rfl dX7_writeProgram_80 ?_
    obtain ⟨r81, τ81, hq81, hg⟩ := bd_some hg
    refine gc_Vv (As := [.int (xA τ68 7 v2)]) (rest := []) (q0 := 9) (ci := 10) S X (hE _ _ _ _ hq81 H.size) cw_X7_writePart mG_1697 rfl rfl rfl rfl rfl hl.1 (Nat.le_of_ble_eq_true rfl) dX7_writeProgram_81 ⟨by omega, by omega⟩ (fun H locs X => ?_)
    refine lv_aload_n hx hb dX7_writeProgram_84 rfl (lv_at hl 0 rfl) ?_
    obtain ⟨hv85, hg⟩ := gq_some hg
    refine wcgR_9_2 S X mG_632 hv85 dX7_writeProgram_85 ?_
    refine va_ldcS hx hb hown (zR_3 X) dX7_writeProgram_88 ?_
    obtain ⟨r90, τ90, hq90, hg⟩ := bd_some hg
    refine gc_Vv (As := [.ref (ak 6)]) (rest := []) (q0 := 1) (ci := 11) S X (k2_X8_addText_draft l dC dI ad kc sv hq90 H.size) cw_X8_addText mG_1652 rfl rfl rfl rfl rfl hl.1 (Nat.le_of_ble_eq_true rfl) dX7_writeProgram_90 ⟨by omega, by omega⟩ (fun H locs X => ?_)
    refine lv_iinc (v := (v2 + 1)) (lv' := [(2, .int (v2 + 1)), (0, .ref (ad 9)), (3, .int v3)]) hx hb dX7_writeProgram_93 hl (k := 1) rfl (by rfl) (by decide) rfl (fun ls hl => ?_)
    refine lv_goto (tgt := 11) hx hb dX7_writeProgram_96 (by decide) ?_
    exact hrec11 _ _ _ _ _ X (lv_sub hl [1, 0] rfl) hg
  · have hg := (if_neg c39).symm.trans hg
    refine lv_aload_n hx hb dX7_writeProgram_42 rfl (lv_at hl 0 rfl) ?_
    obtain ⟨hv43, hg⟩ := gq_some hg
    refine wcgR_9_2 S X mG_632 hv43 dX7_writeProgram_43 ?_
    refine lv_bipush (v := 32) hx hb dX7_writeProgram_46 (by decide) ?_
    obtain ⟨r48, τ48, hq48, hg⟩ := bd_some hg
    refine gc_Vv (As := [.int 32]) (rest := []) (q0 := 1) (ci := 11) S X (k2_X8_add_draft l dC dI ad kc sv hq48 H.size) cw_X8_add mG_1681 rfl rfl rfl rfl rfl hl.1 (Nat.le_of_ble_eq_true rfl) dX7_writeProgram_48 ⟨by omega, by omega⟩ (fun H locs X => ?_)
    refine lv_aload_n hx hb dX7_writeProgram_51 rfl (lv_at hl 0 rfl) ?_
    refine lv_iload_n hx hb dX7_writeProgram_52 rfl (lv_at hl 2 rfl) ?_
    obtain ⟨r53, τ53, hq53, hg⟩ := bd_some hg
    refine gc_Vv (As := [.int v3]) (rest := []) (q0 := 9) (ci := 10) S X (k2_X7_writeVariable l dC dI ad kc sv hq53 H.size) cw_X7_writeVariable mG_1692 rfl rfl rfl rfl rfl hl.1 (Nat.le_of_ble_eq_true rfl) dX7_writeProgram_53 ⟨by omega, by omega⟩ (fun H locs X => ?_)
    refine lv_iinc (v := (v3 + 1)) (lv' := [(3, .int (v3 + 1)), (0, .ref (ad 9)), (2, .int v2)]) hx hb dX7_writeProgram_56 hl (k := 2) rfl (by rfl) (by decide) rfl (fun ls hl => ?_)
    refine lv_goto (tgt := 29) hx hb dX7_writeProgram_59 (by decide) ?_
    exact hrec29 _ _ _ _ _ _ X (lv_sub hl [1, 2, 0] rfl) hg
set_option maxHeartbeats 4000000 in
set_option maxRecDepth 100000 in
theorem w_X7_writeProgram_L29 {E : Int32 → S5 → Option (Unit × S5)} {rec11 : Int32 → S5 → Option (Unit × S5)} (S : CallFix p m c cX7_writeProgram 4 s args uG RX7) (hr : meth.sig.returnType = none) (hk : meth.locks = false) (hR : fE + 6 ≤ R.frames ∧ lE + 128 ≤ R.locals)
    (hE : ∀ (a0 : Int32) (σ τ : S5) (r : Unit), E a0 σ = some (r, τ) → ∀ sz : Nat, Met l yX7_writePart (Cond.code yX7_writePart cX7_writePart 3 none :: uG) { frames := fE, cells := 0, slots := 0, locals := lE } (gPc (dC, dI) (tC kc) (wC ad kc sv) (zC ak) [.ref (ad 9), .int a0] σ sz) (gQv (dC, dI) (tC kc) (wC ad kc sv) (va_A (wC ad kc sv σ) sz) r τ) 0 0 (va_A (wC ad kc sv σ) sz))
    (hrec11 : ∀ (v2 : Int32) (σ : S5) (H : Heap) (locs : List Loc) (ls : Array Slot), gX (dC, dI) (tC kc) (wC ad kc sv) (zC ak) A s σ H locs → lv_has ls 4 [(0, .ref (ad 9)), (2, .int v2)] → rec11 v2 σ = some (r, τ) → W p l e R s m args below meth c H locs 0 0 (MQ below (gQv (dC, dI) (tC kc) (wC ad kc sv) A r τ) args s 0 0 A) (F0 m 11 ls [])) : ∀ (n : Nat) (v2 : Int32) (v3 : Int32) (σ : S5) (H : Heap) (locs : List Loc) (ls : Array Slot), gX (dC, dI) (tC kc) (wC ad kc sv) (zC ak) A s σ H locs → lv_has ls 4 [(0, .ref (ad 9)), (2, .int v2), (3, .int v3)] → f_X7_writeProgram_L29 E rec11 n v2 v3 σ = some (r, τ) → W p l e R s m args below meth c H locs 0 0 (MQ below (gQv (dC, dI) (tC kc) (wC ad kc sv) A r τ) args s 0 0 A) (F0 m 29 ls []) := by
  intro n
  induction n with
  | zero => intro v2 v3 σ H locs ls X hl hg; cases hg
  | succ n ih => intro v2 v3 σ H locs ls X hl hg; exact w_X7_writeProgram_B29 S hr hk hR hE hrec11 ih X hl hg
set_option maxHeartbeats 4000000 in
set_option maxRecDepth 100000 in
theorem w_X7_writeProgram_B11 {σ : S5} {E : Int32 → S5 → Option (Unit × S5)} {rec11 : Int32 → S5 → Option (Unit × S5)} {v2 : Int32} {H : Heap} {locs : List Loc} {ls : Array Slot} (S : CallFix p m c cX7_writeProgram 4 s args uG RX7) (hr : meth.sig.returnType = none) (hk : meth.locks = false) (hR : fE + 6 ≤ R.frames ∧ lE + 128 ≤ R.locals)
    (hE : ∀ (a0 : Int32) (σ τ : S5) (r : Unit), E a0 σ = some (r, τ) → ∀ sz : Nat, Met l yX7_writePart (Cond.code yX7_writePart cX7_writePart 3 none :: uG) { frames := fE, cells := 0, slots := 0, locals := lE } (gPc (dC, dI) (tC kc) (wC ad kc sv) (zC ak) [.ref (ad 9), .int a0] σ sz) (gQv (dC, dI) (tC kc) (wC ad kc sv) (va_A (wC ad kc sv σ) sz) r τ) 0 0 (va_A (wC ad kc sv σ) sz))
    (hrec11 : ∀ (v2 : Int32) (σ : S5) (H : Heap) (locs : List Loc) (ls : Array Slot), gX (dC, dI) (tC kc) (wC ad kc sv) (zC ak) A s σ H locs → lv_has ls 4 [(0, .ref (ad 9)), (2, .int v2)] → rec11 v2 σ = some (r, τ) → W p l e R s m args below meth c H locs 0 0 (MQ below (gQv (dC, dI) (tC kc) (wC ad kc sv) A r τ) args s 0 0 A) (F0 m 11 ls []))
    (X : gX (dC, dI) (tC kc) (wC ad kc sv) (zC ak) A s σ H locs) (hl : lv_has ls 4 [(0, .ref (ad 9)), (2, .int v2)]) (hg : f_X7_writeProgram_B11 E rec11 v2 σ = some (r, τ)) : W p l e R s m args below meth c H locs 0 0 (MQ below (gQv (dC, dI) (tC kc) (wC ad kc sv) A r τ) args s 0 0 A) (F0 m 11 ls []) := by
  have hx := S.1
  have hb := S.2.1
  have hown := S.2.2.2.1
  have hu := S.2.2.2.2
  unfold f_X7_writeProgram_B11 at hg
  refine lv_iload_n hx hb dX7_writeProgram_11 rfl (lv_at hl 1 rfl) ?_
  refine lv_aload_n hx hb dX7_writeProgram_12 rfl (lv_at hl 0 rfl) ?_
  refine wcgR_9_1 S X mG_631 dX7_writeProgram_13 ?_
  refine wcgI_6 (v := (gI σ 6)) S X mG_299 rfl dX7_writeProgram_16 ?_
  refine lv_icmp_ge (tgt := 99) hx hb dX7_writeProgram_19 (by decide) (fun c19 => ?_) (fun c19 => ?_)
  · have hg := (if_pos c19).symm.trans hg
    obtain ⟨-, rfl⟩ := fin_some hg
    exact gr_v S hr hk X dX7_writeProgram_99
  · have hg := (if_neg c19).symm.trans hg
    refine lv_aload_n hx hb dX7_writeProgram_22 rfl (lv_at hl 0 rfl) ?_
    refine lv_iload_n hx hb dX7_writeProgram_23 rfl (lv_at hl 1 rfl) ?_
    obtain ⟨r24, τ24, hq24, hg⟩ := bd_some hg
    refine gc_Vv (As := [.int v2]) (rest := []) (q0 := 9) (ci := 10) S X (k2_X7_writeFunction l dC dI ad kc sv hq24 H.size) cw_X7_writeFunction mG_1687 rfl rfl rfl rfl rfl hl.1 (Nat.le_of_ble_eq_true rfl) dX7_writeProgram_24 ⟨by omega, by omega⟩ (fun H locs X => ?_)
    refine lv_iconst (v := 0) hx hb dX7_writeProgram_27 (by decide) ?_
    refine lv_istore_n (lv' := [(3, .int 0), (0, .ref (ad 9)), (2, .int v2)]) hx hb dX7_writeProgram_28 rfl hl (by decide) rfl (fun ls hl => ?_)
    exact w_X7_writeProgram_L29 S hr hk hR hE hrec11 _ _ _ _ _ _ _ X (lv_sub hl [1, 2, 0] rfl) hg
set_option maxHeartbeats 4000000 in
set_option maxRecDepth 100000 in
theorem w_X7_writeProgram_L11 {E : Int32 → S5 → Option (Unit × S5)} (S : CallFix p m c cX7_writeProgram 4 s args uG RX7) (hr : meth.sig.returnType = none) (hk : meth.locks = false) (hR : fE + 6 ≤ R.frames ∧ lE + 128 ≤ R.locals)
    (hE : ∀ (a0 : Int32) (σ τ : S5) (r : Unit), E a0 σ = some (r, τ) → ∀ sz : Nat, Met l yX7_writePart (Cond.code yX7_writePart cX7_writePart 3 none :: uG) { frames := fE, cells := 0, slots := 0, locals := lE } (gPc (dC, dI) (tC kc) (wC ad kc sv) (zC ak) [.ref (ad 9), .int a0] σ sz) (gQv (dC, dI) (tC kc) (wC ad kc sv) (va_A (wC ad kc sv σ) sz) r τ) 0 0 (va_A (wC ad kc sv σ) sz)) : ∀ (n : Nat) (v2 : Int32) (σ : S5) (H : Heap) (locs : List Loc) (ls : Array Slot), gX (dC, dI) (tC kc) (wC ad kc sv) (zC ak) A s σ H locs → lv_has ls 4 [(0, .ref (ad 9)), (2, .int v2)] → f_X7_writeProgram_L11 E n v2 σ = some (r, τ) → W p l e R s m args below meth c H locs 0 0 (MQ below (gQv (dC, dI) (tC kc) (wC ad kc sv) A r τ) args s 0 0 A) (F0 m 11 ls []) := by
  intro n
  induction n with
  | zero => intro v2 σ H locs ls X hl hg; cases hg
  | succ n ih => intro v2 σ H locs ls X hl hg; exact w_X7_writeProgram_B11 S hr hk hR hE ih X hl hg
set_option maxHeartbeats 4000000 in
set_option maxRecDepth 100000 in
theorem w_X7_writeProgram {σ : S5} {E : Int32 → S5 → Option (Unit × S5)}  {H : Heap} {locs : List Loc} {ls : Array Slot} (S : CallFix p m c cX7_writeProgram 4 s args uG RX7) (hr : meth.sig.returnType = none) (hk : meth.locks = false) (hR : fE + 6 ≤ R.frames ∧ lE + 128 ≤ R.locals)
    (hE : ∀ (a0 : Int32) (σ τ : S5) (r : Unit), E a0 σ = some (r, τ) → ∀ sz : Nat, Met l yX7_writePart (Cond.code yX7_writePart cX7_writePart 3 none :: uG) { frames := fE, cells := 0, slots := 0, locals := lE } (gPc (dC, dI) (tC kc) (wC ad kc sv) (zC ak) [.ref (ad 9), .int a0] σ sz) (gQv (dC, dI) (tC kc) (wC ad kc sv) (va_A (wC ad kc sv σ) sz) r τ) 0 0 (va_A (wC ad kc sv σ) sz))
    (X : gX (dC, dI) (tC kc) (wC ad kc sv) (zC ak) A s σ H locs) (hl : lv_has ls 4 [(0, .ref (ad 9)), (1, .ref (ad 1))]) (hg : f_X7_writeProgram E σ = some (r, τ)) : W p l e R s m args below meth c H locs 0 0 (MQ below (gQv (dC, dI) (tC kc) (wC ad kc sv) A r τ) args s 0 0 A) (F0 m 0 ls []) := by
  have hx := S.1
  have hb := S.2.1
  have hown := S.2.2.2.1
  have hu := S.2.2.2.2
  unfold f_X7_writeProgram at hg
  refine lv_aload_n hx hb dX7_writeProgram_0 rfl (lv_at hl 0 rfl) ?_
  refine lv_aload_n hx hb dX7_writeProgram_1 rfl (lv_at hl 1 rfl) ?_
  refine wcpN_9 S X mG_632 dX7_writeProgram_2 (fun H locs X => ?_)
  refine lv_aload_n hx hb dX7_writeProgram_5 rfl (lv_at hl 0 rfl) ?_
  obtain ⟨r6, τ6, hq6, hg⟩ := bd_some hg
  refine gc_Vv (As := []) (rest := []) (q0 := 9) (ci := 10) S X (k2_X7_writeConstructors l dC dI ad kc sv hq6 H.size) cw_X7_writeConstructors mG_1646 rfl rfl rfl rfl rfl hl.1 (Nat.le_of_ble_eq_true rfl) dX7_writeProgram_6 ⟨by omega, by omega⟩ (fun H locs X => ?_)
  refine lv_iconst (v := 0) hx hb dX7_writeProgram_9 (by decide) ?_
  refine lv_istore_n (lv' := [(2, .int 0), (0, .ref (ad 9)), (1, .ref (ad 1))]) hx hb dX7_writeProgram_10 rfl hl (by decide) rfl (fun ls hl => ?_)
  exact w_X7_writeProgram_L11 S hr hk hR hE _ _ _ _ _ _ X (lv_sub hl [1, 0] rfl) hg
end MX7_writeProgram
set_option maxRecDepth 100000 in
theorem k2_X7_writeProgram (l : Launch) (dC : Nat → ClassId) (dI : Nat → Nat → Nat) {ak : Nat → Nat} (ad : Nat → Nat) (kc : Nat → ClassId) (sv : Value) {E : Int32 → S5 → Option (Unit × S5)} {fE lE : Nat} {σ τ : S5}  {r : Unit} (hE : ∀ (a0 : Int32) (σ τ : S5) (r : Unit), E a0 σ = some (r, τ) → ∀ sz : Nat, Met l yX7_writePart (Cond.code yX7_writePart cX7_writePart 3 none :: uG) { frames := fE, cells := 0, slots := 0, locals := lE } (gPc (dC, dI) (tC kc) (wC ad kc sv) (zC ak) [.ref (ad 9), .int a0] σ sz) (gQv (dC, dI) (tC kc) (wC ad kc sv) (va_A (wC ad kc sv σ) sz) r τ) 0 0 (va_A (wC ad kc sv σ) sz)) (hg : f_X7_writeProgram E  σ = some (r, τ)) (sz : Nat) : Met l yX7_writeProgram (Cond.code yX7_writeProgram cX7_writeProgram 4 none :: uG) { frames := fE + 6, cells := 0, slots := 0, locals := lE + 128 } (gPc (dC, dI) (tC kc) (wC ad kc sv) (zC ak) [.ref (ad 9), .ref (ad 1)] σ sz) (gQv (dC, dI) (tC kc) (wC ad kc sv) (va_A (wC ad kc sv σ) sz) r τ) 0 0 (va_A (wC ad kc sv σ) sz) :=
  g_start (by decide) (Nat.le_of_ble_eq_true rfl) (fun p e s m below meth c ls S hr hk X hl => w_X7_writeProgram S hr hk ⟨Nat.le_refl _, Nat.le_refl _⟩ hE X hl hg)
