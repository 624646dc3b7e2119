theorem sw_0_12 (x : Int32) : (x.toInt < 0 ∨ 12 < x.toInt) ∨ x = 0 ∨ x = 1 ∨ x = 2 ∨ x = 3 ∨ x = 4 ∨ x = 5 ∨ x = 6 ∨ x = 7 ∨ x = 8 ∨ x = 9 ∨ x = 10 ∨ x = 11 ∨ x = 12 := by
  by_cases h : x.toInt < 0 ∨ 12 < x.toInt
  · exact Or.inl h
  · have h2 : x.toInt = 0 ∨ x.toInt = 1 ∨ x.toInt = 2 ∨ x.toInt = 3 ∨ x.toInt = 4 ∨ x.toInt = 5 ∨ x.toInt = 6 ∨ x.toInt = 7 ∨ x.toInt = 8 ∨ x.toInt = 9 ∨ x.toInt = 10 ∨ x.toInt = 11 ∨ x.toInt = 12 := by omega
    refine Or.inr ?_
    rcases h2 with h | h | h | h | h | h | h | h | h | h | h | h | h
    · exact Or.inl (Int32.toInt_inj.mp (h.trans (by decide)))
    · exact Or.inr (Or.inl (Int32.toInt_inj.mp (h.trans (by decide))))
    · exact Or.inr (Or.inr (Or.inl (Int32.toInt_inj.mp (h.trans (by decide)))))
    · exact Or.inr (Or.inr (Or.inr (Or.inl (Int32.toInt_inj.mp (h.trans (by decide))))))
    · exact Or.inr (Or.inr (Or.inr (Or.inr (Or.inl (Int32.toInt_inj.mp (h.trans (by decide)))))))
    · exact Or.inr (Or.inr (Or.inr (Or.inr (Or.inr (Or.inl (Int32.toInt_inj.mp (h.trans (by decide))))))))
    · exact Or.inr (Or.inr (Or.inr (Or.inr (Or.inr (Or.inr (Or.inl (Int32.toInt_inj.mp (h.trans (by decide)))))))))
    · exact Or.inr (Or.inr (Or.inr (Or.inr (Or.inr (Or.inr (Or.inr (Or.inl (Int32.toInt_inj.mp (h.trans (by decide))))))))))
    · exact Or.inr (Or.inr (Or.inr (Or.inr (Or.inr (Or.inr (Or.inr (Or.inr (Or.inl (Int32.toInt_inj.mp (h.trans (by decide)))))))))))
    · exact Or.inr (Or.inr (Or.inr (Or.inr (Or.inr (Or.inr (Or.inr (Or.inr (Or.inr (Or.inl (Int32.toInt_inj.mp (h.trans (by decide))))))))))))
    · exact Or.inr (Or.inr (Or.inr (Or.inr (Or.inr (Or.inr (Or.inr (Or.inr (Or.inr (Or.inr (Or.inl (Int32.toInt_inj.mp (h.trans (by decide)))))))))))))
    · exact Or.inr (Or.inr (Or.inr (Or.inr (Or.inr (Or.inr (Or.inr (Or.inr (Or.inr (Or.inr (Or.inr (Or.inl (Int32.toInt_inj.mp (h.trans (by decide))))))))))))))
    · exact Or.inr (Or.inr (Or.inr (Or.inr (Or.inr (Or.inr (Or.inr (Or.inr (Or.inr (Or.inr (Or.inr (Or.inr (Int32.toInt_inj.mp (h.trans (by decide))))))))))))))
theorem swo_0_12 {x : Int32} (h : x.toInt < 0 ∨ 12 < x.toInt) : ¬ x = 0 ∧ ¬ x = 1 ∧ ¬ x = 2 ∧ ¬ x = 3 ∧ ¬ x = 4 ∧ ¬ x = 5 ∧ ¬ x = 6 ∧ ¬ x = 7 ∧ ¬ x = 8 ∧ ¬ x = 9 ∧ ¬ x = 10 ∧ ¬ x = 11 ∧ ¬ x = 12 := by
  refine ⟨?_, ?_, ?_, ?_, ?_, ?_, ?_, ?_, ?_, ?_, ?_, ?_, ?_⟩ <;> (intro e; rw [e] at h; revert h; decide)


theorem mG_113 : Cond.selects "LazyForgeModel" yX12_readData yX12_readData ∈ uG := uG_at 113 (by decide +kernel) (by decide +kernel)
theorem mG_119 : Cond.selects "LazyForgeModel" yX12_readFunction yX12_readFunction ∈ uG := uG_at 119 (by decide +kernel) (by decide +kernel)
theorem mG_152 : Cond.selects "LazyForgeModel" yX12_newVariable yX12_newVariable ∈ uG := uG_at 152 (by decide +kernel) (by decide +kernel)
theorem mG_153 : Cond.selects "LazyForgeModel" yX12_use yX12_use ∈ uG := uG_at 153 (by decide +kernel) (by decide +kernel)
theorem mG_154 : Cond.selects "LazyForgeModel" yX12_addFree yX12_addFree ∈ uG := uG_at 154 (by decide +kernel) (by decide +kernel)
theorem mG_155 : Cond.selects "LazyForgeModel" yX12_giveNames yX12_giveNames ∈ uG := uG_at 155 (by decide +kernel) (by decide +kernel)
theorem mG_157 : Cond.selects "LazyForgeModel" yX12_childAt yX12_childAt ∈ uG := uG_at 157 (by decide +kernel) (by decide +kernel)
theorem mG_2096 : Cond.fieldLink "LazyForgeModel" 486 "LazyForgeModel" "named" "I" ∈ uG := uG_at 2096 (by decide +kernel) (by decide +kernel)
theorem mG_2100 : Cond.fieldLink "LazyForgeModel" 474 "LazyForgeModel" "variables" "I" ∈ uG := uG_at 2100 (by decide +kernel) (by decide +kernel)
theorem mG_2105 : Cond.fieldLink "LazyForgeModel" 480 "LazyForgeModel" "seen" "I" ∈ uG := uG_at 2105 (by decide +kernel) (by decide +kernel)
theorem mG_2108 : Cond.fieldLink "LazyForgeModel" 477 "LazyForgeModel" "around" "I" ∈ uG := uG_at 2108 (by decide +kernel) (by decide +kernel)
theorem mG_2514 : Cond.methodLink "LazyForgeModel" 468 yX12_readData ∈ uG := uG_at 2514 (by decide +kernel) (by decide +kernel)
theorem mG_2516 : Cond.instanceMethod yX12_readData ∈ uG := uG_at 2516 (by decide +kernel) (by decide +kernel)
theorem mG_2517 : Cond.code yX12_readData prog_14_method_47_code 5 none ∈ uG := uG_at 2517 (by decide +kernel) (by decide +kernel)
theorem mG_2538 : Cond.methodLink "LazyForgeModel" 471 yX12_readFunction ∈ uG := uG_at 2538 (by decide +kernel) (by decide +kernel)
theorem mG_2540 : Cond.instanceMethod yX12_readFunction ∈ uG := uG_at 2540 (by decide +kernel) (by decide +kernel)
theorem mG_2541 : Cond.code yX12_readFunction prog_14_method_48_code 3 none ∈ uG := uG_at 2541 (by decide +kernel) (by decide +kernel)
theorem mG_2669 : Cond.methodLink "LazyForgeModel" 502 yX12_hasRow ∈ uG := uG_at 2669 (by decide +kernel) (by decide +kernel)
theorem mG_2670 : Cond.static yX12_hasRow ∈ uG := uG_at 2670 (by decide +kernel) (by decide +kernel)
theorem mG_2671 : Cond.code yX12_hasRow prog_14_method_58_code 1 (some .boolean) ∈ uG := uG_at 2671 (by decide +kernel) (by decide +kernel)
theorem mG_2676 : Cond.methodLink "LazyForgeModel" 483 yX12_newVariable ∈ uG := uG_at 2676 (by decide +kernel) (by decide +kernel)
theorem mG_2678 : Cond.instanceMethod yX12_newVariable ∈ uG := uG_at 2678 (by decide +kernel) (by decide +kernel)
theorem mG_2679 : Cond.code yX12_newVariable prog_14_method_50_code 5 (some .int) ∈ uG := uG_at 2679 (by decide +kernel) (by decide +kernel)
theorem mG_2680 : Cond.methodLink "LazyForgeModel" 492 yX12_use ∈ uG := uG_at 2680 (by decide +kernel) (by decide +kernel)
theorem mG_2682 : Cond.instanceMethod yX12_use ∈ uG := uG_at 2682 (by decide +kernel) (by decide +kernel)
theorem mG_2683 : Cond.code yX12_use prog_14_method_53_code 5 none ∈ uG := uG_at 2683 (by decide +kernel) (by decide +kernel)
theorem mG_2684 : Cond.methodLink "LazyForgeModel" 489 yX12_addFree ∈ uG := uG_at 2684 (by decide +kernel) (by decide +kernel)
theorem mG_2686 : Cond.instanceMethod yX12_addFree ∈ uG := uG_at 2686 (by decide +kernel) (by decide +kernel)
theorem mG_2687 : Cond.code yX12_addFree prog_14_method_54_code 5 none ∈ uG := uG_at 2687 (by decide +kernel) (by decide +kernel)
theorem mG_2688 : Cond.methodLink "LazyForgeModel" 495 yX12_giveNames ∈ uG := uG_at 2688 (by decide +kernel) (by decide +kernel)
theorem mG_2690 : Cond.instanceMethod yX12_giveNames ∈ uG := uG_at 2690 (by decide +kernel) (by decide +kernel)
theorem mG_2691 : Cond.code yX12_giveNames prog_14_method_51_code 3 none ∈ uG := uG_at 2691 (by decide +kernel) (by decide +kernel)
theorem mG_2696 : Cond.methodLink "LazyForgeModel" 498 yX12_childAt ∈ uG := uG_at 2696 (by decide +kernel) (by decide +kernel)
theorem mG_2698 : Cond.instanceMethod yX12_childAt ∈ uG := uG_at 2698 (by decide +kernel) (by decide +kernel)
theorem mG_2699 : Cond.code yX12_childAt prog_14_method_57_code 5 (some .int) ∈ uG := uG_at 2699 (by decide +kernel) (by decide +kernel)
theorem dX12_addFree_0 : decode cX12_addFree 0 = .ok (.iconst 0, 1) := by decide +kernel
theorem dX12_addFree_1 : decode cX12_addFree 1 = .ok (.istore_n 3, 1) := by decide +kernel
theorem dX12_addFree_2 : decode cX12_addFree 2 = .ok (.iconst 0, 1) := by decide +kernel
theorem dX12_addFree_3 : decode cX12_addFree 3 = .ok (.istore 4, 2) := by decide +kernel
theorem dX12_addFree_5 : decode cX12_addFree 5 = .ok (.iload 4, 2) := by decide +kernel
theorem dX12_addFree_7 : decode cX12_addFree 7 = .ok (.aload_n 0, 1) := by decide +kernel
theorem dX12_addFree_8 : decode cX12_addFree 8 = .ok (.getfield 83, 3) := by decide +kernel
theorem dX12_addFree_11 : decode cX12_addFree 11 = .ok (.iload_n 1, 1) := by decide +kernel
theorem dX12_addFree_12 : decode cX12_addFree 12 = .ok (.iaload, 1) := by decide +kernel
theorem dX12_addFree_13 : decode cX12_addFree 13 = .ok (.if_icmp .ge 35, 3) := by decide +kernel
theorem dX12_addFree_16 : decode cX12_addFree 16 = .ok (.iload_n 3, 1) := by decide +kernel
theorem dX12_addFree_17 : decode cX12_addFree 17 = .ok (.ifCond .ne 19, 3) := by decide +kernel
theorem dX12_addFree_20 : decode cX12_addFree 20 = .ok (.aload_n 0, 1) := by decide +kernel
theorem dX12_addFree_21 : decode cX12_addFree 21 = .ok (.getfield 86, 3) := by decide +kernel
theorem dX12_addFree_24 : decode cX12_addFree 24 = .ok (.bipush 9, 2) := by decide +kernel
theorem dX12_addFree_26 : decode cX12_addFree 26 = .ok (.iload_n 1, 1) := by decide +kernel
theorem dX12_addFree_27 : decode cX12_addFree 27 = .ok (.imul, 1) := by decide +kernel
theorem dX12_addFree_28 : decode cX12_addFree 28 = .ok (.iload 4, 2) := by decide +kernel
theorem dX12_addFree_30 : decode cX12_addFree 30 = .ok (.iadd, 1) := by decide +kernel
theorem dX12_addFree_31 : decode cX12_addFree 31 = .ok (.iaload, 1) := by decide +kernel
theorem dX12_addFree_32 : decode cX12_addFree 32 = .ok (.iload_n 2, 1) := by decide +kernel
theorem dX12_addFree_33 : decode cX12_addFree 33 = .ok (.if_icmp .ne 7, 3) := by decide +kernel
theorem dX12_addFree_36 : decode cX12_addFree 36 = .ok (.iconst 1, 1) := by decide +kernel
theorem dX12_addFree_37 : decode cX12_addFree 37 = .ok (.goto 4, 3) := by decide +kernel
theorem dX12_addFree_40 : decode cX12_addFree 40 = .ok (.iconst 0, 1) := by decide +kernel
theorem dX12_addFree_41 : decode cX12_addFree 41 = .ok (.istore_n 3, 1) := by decide +kernel
theorem dX12_addFree_42 : decode cX12_addFree 42 = .ok (.iinc 4 1, 3) := by decide +kernel
theorem dX12_addFree_45 : decode cX12_addFree 45 = .ok (.goto (-40), 3) := by decide +kernel
theorem dX12_addFree_48 : decode cX12_addFree 48 = .ok (.iload_n 3, 1) := by decide +kernel
theorem dX12_addFree_49 : decode cX12_addFree 49 = .ok (.ifCond .ne 41, 3) := by decide +kernel
theorem dX12_addFree_52 : decode cX12_addFree 52 = .ok (.aload_n 0, 1) := by decide +kernel
theorem dX12_addFree_53 : decode cX12_addFree 53 = .ok (.getfield 83, 3) := by decide +kernel
theorem dX12_addFree_56 : decode cX12_addFree 56 = .ok (.iload_n 1, 1) := by decide +kernel
theorem dX12_addFree_57 : decode cX12_addFree 57 = .ok (.iaload, 1) := by decide +kernel
theorem dX12_addFree_58 : decode cX12_addFree 58 = .ok (.bipush 9, 2) := by decide +kernel
theorem dX12_addFree_60 : decode cX12_addFree 60 = .ok (.if_icmp .ge 30, 3) := by decide +kernel
theorem dX12_addFree_63 : decode cX12_addFree 63 = .ok (.aload_n 0, 1) := by decide +kernel
theorem dX12_addFree_64 : decode cX12_addFree 64 = .ok (.getfield 86, 3) := by decide +kernel
theorem dX12_addFree_67 : decode cX12_addFree 67 = .ok (.bipush 9, 2) := by decide +kernel
theorem dX12_addFree_69 : decode cX12_addFree 69 = .ok (.iload_n 1, 1) := by decide +kernel
theorem dX12_addFree_70 : decode cX12_addFree 70 = .ok (.imul, 1) := by decide +kernel
theorem dX12_addFree_71 : decode cX12_addFree 71 = .ok (.aload_n 0, 1) := by decide +kernel
theorem dX12_addFree_72 : decode cX12_addFree 72 = .ok (.getfield 83, 3) := by decide +kernel
theorem dX12_addFree_75 : decode cX12_addFree 75 = .ok (.iload_n 1, 1) := by decide +kernel
theorem dX12_addFree_76 : decode cX12_addFree 76 = .ok (.iaload, 1) := by decide +kernel
theorem dX12_addFree_77 : decode cX12_addFree 77 = .ok (.iadd, 1) := by decide +kernel
theorem dX12_addFree_78 : decode cX12_addFree 78 = .ok (.iload_n 2, 1) := by decide +kernel
theorem dX12_addFree_79 : decode cX12_addFree 79 = .ok (.iastore, 1) := by decide +kernel
theorem dX12_addFree_80 : decode cX12_addFree 80 = .ok (.aload_n 0, 1) := by decide +kernel
theorem dX12_addFree_81 : decode cX12_addFree 81 = .ok (.getfield 83, 3) := by decide +kernel
theorem dX12_addFree_84 : decode cX12_addFree 84 = .ok (.iload_n 1, 1) := by decide +kernel
theorem dX12_addFree_85 : decode cX12_addFree 85 = .ok (.dup2, 1) := by decide +kernel
theorem dX12_addFree_86 : decode cX12_addFree 86 = .ok (.iaload, 1) := by decide +kernel
theorem dX12_addFree_87 : decode cX12_addFree 87 = .ok (.iconst 1, 1) := by decide +kernel
theorem dX12_addFree_88 : decode cX12_addFree 88 = .ok (.iadd, 1) := by decide +kernel
theorem dX12_addFree_89 : decode cX12_addFree 89 = .ok (.iastore, 1) := by decide +kernel
theorem dX12_addFree_90 : decode cX12_addFree 90 = .ok (.return_, 1) := by decide +kernel
theorem dX12_beginAt_0 : decode cX12_beginAt 0 = .ok (.aload_n 0, 1) := by decide +kernel
theorem dX12_beginAt_1 : decode cX12_beginAt 1 = .ok (.getfield 110, 3) := by decide +kernel
theorem dX12_beginAt_4 : decode cX12_beginAt 4 = .ok (.iload_n 1, 1) := by decide +kernel
theorem dX12_beginAt_5 : decode cX12_beginAt 5 = .ok (.iload_n 2, 1) := by decide +kernel
theorem dX12_beginAt_6 : decode cX12_beginAt 6 = .ok (.iastore, 1) := by decide +kernel
theorem dX12_beginAt_7 : decode cX12_beginAt 7 = .ok (.aload_n 0, 1) := by decide +kernel
theorem dX12_beginAt_8 : decode cX12_beginAt 8 = .ok (.getfield 113, 3) := by decide +kernel
theorem dX12_beginAt_11 : decode cX12_beginAt 11 = .ok (.iload_n 1, 1) := by decide +kernel
theorem dX12_beginAt_12 : decode cX12_beginAt 12 = .ok (.iconst 0, 1) := by decide +kernel
theorem dX12_beginAt_13 : decode cX12_beginAt 13 = .ok (.iastore, 1) := by decide +kernel
theorem dX12_beginAt_14 : decode cX12_beginAt 14 = .ok (.aload_n 0, 1) := by decide +kernel
theorem dX12_beginAt_15 : decode cX12_beginAt 15 = .ok (.getfield 116, 3) := by decide +kernel
theorem dX12_beginAt_18 : decode cX12_beginAt 18 = .ok (.iload_n 1, 1) := by decide +kernel
theorem dX12_beginAt_19 : decode cX12_beginAt 19 = .ok (.aload_n 0, 1) := by decide +kernel
theorem dX12_beginAt_20 : decode cX12_beginAt 20 = .ok (.getfield 16, 3) := by decide +kernel
theorem dX12_beginAt_23 : decode cX12_beginAt 23 = .ok (.iload_n 2, 1) := by decide +kernel
theorem dX12_beginAt_24 : decode cX12_beginAt 24 = .ok (.iaload, 1) := by decide +kernel
theorem dX12_beginAt_25 : decode cX12_beginAt 25 = .ok (.invokestatic 502, 3) := by decide +kernel
theorem dX12_beginAt_28 : decode cX12_beginAt 28 = .ok (.ifCond .eq 12, 3) := by decide +kernel
theorem dX12_beginAt_31 : decode cX12_beginAt 31 = .ok (.aload_n 0, 1) := by decide +kernel
theorem dX12_beginAt_32 : decode cX12_beginAt 32 = .ok (.getfield 19, 3) := by decide +kernel
theorem dX12_beginAt_35 : decode cX12_beginAt 35 = .ok (.iload_n 2, 1) := by decide +kernel
theorem dX12_beginAt_36 : decode cX12_beginAt 36 = .ok (.iaload, 1) := by decide +kernel
theorem dX12_beginAt_37 : decode cX12_beginAt 37 = .ok (.goto 4, 3) := by decide +kernel
theorem dX12_beginAt_40 : decode cX12_beginAt 40 = .ok (.iconst (-1), 1) := by decide +kernel
theorem dX12_beginAt_41 : decode cX12_beginAt 41 = .ok (.iastore, 1) := by decide +kernel
theorem dX12_beginAt_42 : decode cX12_beginAt 42 = .ok (.return_, 1) := by decide +kernel
theorem dX12_childAt_0 : decode cX12_childAt 0 = .ok (.aload_n 0, 1) := by decide +kernel
theorem dX12_childAt_1 : decode cX12_childAt 1 = .ok (.getfield 16, 3) := by decide +kernel
theorem dX12_childAt_4 : decode cX12_childAt 4 = .ok (.iload_n 1, 1) := by decide +kernel
theorem dX12_childAt_5 : decode cX12_childAt 5 = .ok (.iaload, 1) := by decide +kernel
theorem dX12_childAt_6 : decode cX12_childAt 6 = .ok (.tableswitch 165 0 12 #[66, 150, 150, 66, 150, 121, 165, 165, 165, 165, 165, 165, 150], 66) := by decide +kernel
theorem dX12_childAt_72 : decode cX12_childAt 72 = .ok (.aload_n 0, 1) := by decide +kernel
theorem dX12_childAt_73 : decode cX12_childAt 73 = .ok (.getfield 16, 3) := by decide +kernel
theorem dX12_childAt_76 : decode cX12_childAt 76 = .ok (.iload_n 1, 1) := by decide +kernel
theorem dX12_childAt_77 : decode cX12_childAt 77 = .ok (.iaload, 1) := by decide +kernel
theorem dX12_childAt_78 : decode cX12_childAt 78 = .ok (.iconst 3, 1) := by decide +kernel
theorem dX12_childAt_79 : decode cX12_childAt 79 = .ok (.if_icmp .ne 15, 3) := by decide +kernel
theorem dX12_childAt_82 : decode cX12_childAt 82 = .ok (.iload_n 2, 1) := by decide +kernel
theorem dX12_childAt_83 : decode cX12_childAt 83 = .ok (.ifCond .ne 7, 3) := by decide +kernel
theorem dX12_childAt_86 : decode cX12_childAt 86 = .ok (.iconst 1, 1) := by decide +kernel
theorem dX12_childAt_87 : decode cX12_childAt 87 = .ok (.goto 22, 3) := by decide +kernel
theorem dX12_childAt_90 : decode cX12_childAt 90 = .ok (.iconst 0, 1) := by decide +kernel
theorem dX12_childAt_91 : decode cX12_childAt 91 = .ok (.goto 18, 3) := by decide +kernel
theorem dX12_childAt_94 : decode cX12_childAt 94 = .ok (.iload_n 3, 1) := by decide +kernel
theorem dX12_childAt_95 : decode cX12_childAt 95 = .ok (.ifCond .ge 13, 3) := by decide +kernel
theorem dX12_childAt_98 : decode cX12_childAt 98 = .ok (.iload_n 2, 1) := by decide +kernel
theorem dX12_childAt_99 : decode cX12_childAt 99 = .ok (.bipush 100, 2) := by decide +kernel
theorem dX12_childAt_101 : decode cX12_childAt 101 = .ok (.if_icmp .ge 7, 3) := by decide +kernel
theorem dX12_childAt_104 : decode cX12_childAt 104 = .ok (.iconst 1, 1) := by decide +kernel
theorem dX12_childAt_105 : decode cX12_childAt 105 = .ok (.goto 4, 3) := by decide +kernel
theorem dX12_childAt_108 : decode cX12_childAt 108 = .ok (.iconst 0, 1) := by decide +kernel
theorem dX12_childAt_109 : decode cX12_childAt 109 = .ok (.istore 4, 2) := by decide +kernel
theorem dX12_childAt_111 : decode cX12_childAt 111 = .ok (.iload 4, 2) := by decide +kernel
theorem dX12_childAt_113 : decode cX12_childAt 113 = .ok (.ifCond .eq 12, 3) := by decide +kernel
theorem dX12_childAt_116 : decode cX12_childAt 116 = .ok (.aload_n 0, 1) := by decide +kernel
theorem dX12_childAt_117 : decode cX12_childAt 117 = .ok (.getfield 31, 3) := by decide +kernel
theorem dX12_childAt_120 : decode cX12_childAt 120 = .ok (.iload_n 1, 1) := by decide +kernel
theorem dX12_childAt_121 : decode cX12_childAt 121 = .ok (.iaload, 1) := by decide +kernel
theorem dX12_childAt_122 : decode cX12_childAt 122 = .ok (.goto 4, 3) := by decide +kernel
theorem dX12_childAt_125 : decode cX12_childAt 125 = .ok (.iload_n 3, 1) := by decide +kernel
theorem dX12_childAt_126 : decode cX12_childAt 126 = .ok (.ireturn, 1) := by decide +kernel
theorem dX12_childAt_127 : decode cX12_childAt 127 = .ok (.iload_n 2, 1) := by decide +kernel
theorem dX12_childAt_128 : decode cX12_childAt 128 = .ok (.ifCond .ne 12, 3) := by decide +kernel
theorem dX12_childAt_131 : decode cX12_childAt 131 = .ok (.aload_n 0, 1) := by decide +kernel
theorem dX12_childAt_132 : decode cX12_childAt 132 = .ok (.getfield 19, 3) := by decide +kernel
theorem dX12_childAt_135 : decode cX12_childAt 135 = .ok (.iload_n 1, 1) := by decide +kernel
theorem dX12_childAt_136 : decode cX12_childAt 136 = .ok (.iaload, 1) := by decide +kernel
theorem dX12_childAt_137 : decode cX12_childAt 137 = .ok (.goto 18, 3) := by decide +kernel
theorem dX12_childAt_140 : decode cX12_childAt 140 = .ok (.iload_n 2, 1) := by decide +kernel
theorem dX12_childAt_141 : decode cX12_childAt 141 = .ok (.iconst 1, 1) := by decide +kernel
theorem dX12_childAt_142 : decode cX12_childAt 142 = .ok (.if_icmp .ne 12, 3) := by decide +kernel
theorem dX12_childAt_145 : decode cX12_childAt 145 = .ok (.aload_n 0, 1) := by decide +kernel
theorem dX12_childAt_146 : decode cX12_childAt 146 = .ok (.getfield 22, 3) := by decide +kernel
theorem dX12_childAt_149 : decode cX12_childAt 149 = .ok (.iload_n 1, 1) := by decide +kernel
theorem dX12_childAt_150 : decode cX12_childAt 150 = .ok (.iaload, 1) := by decide +kernel
theorem dX12_childAt_151 : decode cX12_childAt 151 = .ok (.goto 4, 3) := by decide +kernel
theorem dX12_childAt_154 : decode cX12_childAt 154 = .ok (.iconst (-1), 1) := by decide +kernel
theorem dX12_childAt_155 : decode cX12_childAt 155 = .ok (.ireturn, 1) := by decide +kernel
theorem dX12_childAt_156 : decode cX12_childAt 156 = .ok (.iload_n 2, 1) := by decide +kernel
theorem dX12_childAt_157 : decode cX12_childAt 157 = .ok (.ifCond .ne 12, 3) := by decide +kernel
theorem dX12_childAt_160 : decode cX12_childAt 160 = .ok (.aload_n 0, 1) := by decide +kernel
theorem dX12_childAt_161 : decode cX12_childAt 161 = .ok (.getfield 19, 3) := by decide +kernel
theorem dX12_childAt_164 : decode cX12_childAt 164 = .ok (.iload_n 1, 1) := by decide +kernel
theorem dX12_childAt_165 : decode cX12_childAt 165 = .ok (.iaload, 1) := by decide +kernel
theorem dX12_childAt_166 : decode cX12_childAt 166 = .ok (.goto 4, 3) := by decide +kernel
theorem dX12_childAt_169 : decode cX12_childAt 169 = .ok (.iconst (-1), 1) := by decide +kernel
theorem dX12_childAt_170 : decode cX12_childAt 170 = .ok (.ireturn, 1) := by decide +kernel
theorem dX12_childAt_171 : decode cX12_childAt 171 = .ok (.aload_n 0, 1) := by decide +kernel
theorem dX12_childAt_172 : decode cX12_childAt 172 = .ok (.getfield 16, 3) := by decide +kernel
theorem dX12_childAt_175 : decode cX12_childAt 175 = .ok (.iload_n 1, 1) := by decide +kernel
theorem dX12_childAt_176 : decode cX12_childAt 176 = .ok (.iaload, 1) := by decide +kernel
theorem dX12_childAt_177 : decode cX12_childAt 177 = .ok (.bipush 6, 2) := by decide +kernel
theorem dX12_childAt_179 : decode cX12_childAt 179 = .ok (.if_icmp .eq 14, 3) := by decide +kernel
theorem dX12_childAt_182 : decode cX12_childAt 182 = .ok (.aload_n 0, 1) := by decide +kernel
theorem dX12_childAt_183 : decode cX12_childAt 183 = .ok (.getfield 16, 3) := by decide +kernel
theorem dX12_childAt_186 : decode cX12_childAt 186 = .ok (.iload_n 1, 1) := by decide +kernel
theorem dX12_childAt_187 : decode cX12_childAt 187 = .ok (.iaload, 1) := by decide +kernel
theorem dX12_childAt_188 : decode cX12_childAt 188 = .ok (.bipush 7, 2) := by decide +kernel
theorem dX12_childAt_190 : decode cX12_childAt 190 = .ok (.if_icmp .ne 7, 3) := by decide +kernel
theorem dX12_childAt_193 : decode cX12_childAt 193 = .ok (.iload_n 3, 1) := by decide +kernel
theorem dX12_childAt_194 : decode cX12_childAt 194 = .ok (.goto 4, 3) := by decide +kernel
theorem dX12_childAt_197 : decode cX12_childAt 197 = .ok (.iconst (-1), 1) := by decide +kernel
theorem dX12_childAt_198 : decode cX12_childAt 198 = .ok (.ireturn, 1) := by decide +kernel
theorem dX12_comeInto_0 : decode cX12_comeInto 0 = .ok (.aload_n 0, 1) := by decide +kernel
theorem dX12_comeInto_1 : decode cX12_comeInto 1 = .ok (.getfield 80, 3) := by decide +kernel
theorem dX12_comeInto_4 : decode cX12_comeInto 4 = .ok (.iload_n 1, 1) := by decide +kernel
theorem dX12_comeInto_5 : decode cX12_comeInto 5 = .ok (.iaload, 1) := by decide +kernel
theorem dX12_comeInto_6 : decode cX12_comeInto 6 = .ok (.ifCond .lt 28, 3) := by decide +kernel
theorem dX12_comeInto_9 : decode cX12_comeInto 9 = .ok (.aload_n 0, 1) := by decide +kernel
theorem dX12_comeInto_10 : decode cX12_comeInto 10 = .ok (.getfield 107, 3) := by decide +kernel
theorem dX12_comeInto_13 : decode cX12_comeInto 13 = .ok (.aload_n 0, 1) := by decide +kernel
theorem dX12_comeInto_14 : decode cX12_comeInto 14 = .ok (.getfield 477, 3) := by decide +kernel
theorem dX12_comeInto_17 : decode cX12_comeInto 17 = .ok (.aload_n 0, 1) := by decide +kernel
theorem dX12_comeInto_18 : decode cX12_comeInto 18 = .ok (.getfield 80, 3) := by decide +kernel
theorem dX12_comeInto_21 : decode cX12_comeInto 21 = .ok (.iload_n 1, 1) := by decide +kernel
theorem dX12_comeInto_22 : decode cX12_comeInto 22 = .ok (.iaload, 1) := by decide +kernel
theorem dX12_comeInto_23 : decode cX12_comeInto 23 = .ok (.iastore, 1) := by decide +kernel
theorem dX12_comeInto_24 : decode cX12_comeInto 24 = .ok (.aload_n 0, 1) := by decide +kernel
theorem dX12_comeInto_25 : decode cX12_comeInto 25 = .ok (.dup, 1) := by decide +kernel
theorem dX12_comeInto_26 : decode cX12_comeInto 26 = .ok (.getfield 477, 3) := by decide +kernel
theorem dX12_comeInto_29 : decode cX12_comeInto 29 = .ok (.iconst 1, 1) := by decide +kernel
theorem dX12_comeInto_30 : decode cX12_comeInto 30 = .ok (.iadd, 1) := by decide +kernel
theorem dX12_comeInto_31 : decode cX12_comeInto 31 = .ok (.putfield 477, 3) := by decide +kernel
theorem dX12_comeInto_34 : decode cX12_comeInto 34 = .ok (.aload_n 0, 1) := by decide +kernel
theorem dX12_comeInto_35 : decode cX12_comeInto 35 = .ok (.getfield 16, 3) := by decide +kernel
theorem dX12_comeInto_38 : decode cX12_comeInto 38 = .ok (.iload_n 1, 1) := by decide +kernel
theorem dX12_comeInto_39 : decode cX12_comeInto 39 = .ok (.iaload, 1) := by decide +kernel
theorem dX12_comeInto_40 : decode cX12_comeInto 40 = .ok (.ifCond .ne 48, 3) := by decide +kernel
theorem dX12_comeInto_43 : decode cX12_comeInto 43 = .ok (.aload_n 0, 1) := by decide +kernel
theorem dX12_comeInto_44 : decode cX12_comeInto 44 = .ok (.getfield 98, 3) := by decide +kernel
theorem dX12_comeInto_47 : decode cX12_comeInto 47 = .ok (.iload_n 1, 1) := by decide +kernel
theorem dX12_comeInto_48 : decode cX12_comeInto 48 = .ok (.aload_n 0, 1) := by decide +kernel
theorem dX12_comeInto_49 : decode cX12_comeInto 49 = .ok (.getfield 474, 3) := by decide +kernel
theorem dX12_comeInto_52 : decode cX12_comeInto 52 = .ok (.iastore, 1) := by decide +kernel
theorem dX12_comeInto_53 : decode cX12_comeInto 53 = .ok (.aload_n 0, 1) := by decide +kernel
theorem dX12_comeInto_54 : decode cX12_comeInto 54 = .ok (.getfield 19, 3) := by decide +kernel
theorem dX12_comeInto_57 : decode cX12_comeInto 57 = .ok (.iload_n 1, 1) := by decide +kernel
theorem dX12_comeInto_58 : decode cX12_comeInto 58 = .ok (.iaload, 1) := by decide +kernel
theorem dX12_comeInto_59 : decode cX12_comeInto 59 = .ok (.istore_n 2, 1) := by decide +kernel
theorem dX12_comeInto_60 : decode cX12_comeInto 60 = .ok (.iload_n 2, 1) := by decide +kernel
theorem dX12_comeInto_61 : decode cX12_comeInto 61 = .ok (.ifCond .lt 24, 3) := by decide +kernel
theorem dX12_comeInto_64 : decode cX12_comeInto 64 = .ok (.aload_n 0, 1) := by decide +kernel
theorem dX12_comeInto_65 : decode cX12_comeInto 65 = .ok (.aload_n 0, 1) := by decide +kernel
theorem dX12_comeInto_66 : decode cX12_comeInto 66 = .ok (.getfield 37, 3) := by decide +kernel
theorem dX12_comeInto_69 : decode cX12_comeInto 69 = .ok (.iload_n 2, 1) := by decide +kernel
theorem dX12_comeInto_70 : decode cX12_comeInto 70 = .ok (.laload, 1) := by decide +kernel
theorem dX12_comeInto_71 : decode cX12_comeInto 71 = .ok (.invokevirtual 483, 3) := by decide +kernel
theorem dX12_comeInto_74 : decode cX12_comeInto 74 = .ok (.pop, 1) := by decide +kernel
theorem dX12_comeInto_75 : decode cX12_comeInto 75 = .ok (.aload_n 0, 1) := by decide +kernel
theorem dX12_comeInto_76 : decode cX12_comeInto 76 = .ok (.getfield 25, 3) := by decide +kernel
theorem dX12_comeInto_79 : decode cX12_comeInto 79 = .ok (.iload_n 2, 1) := by decide +kernel
theorem dX12_comeInto_80 : decode cX12_comeInto 80 = .ok (.iaload, 1) := by decide +kernel
theorem dX12_comeInto_81 : decode cX12_comeInto 81 = .ok (.istore_n 2, 1) := by decide +kernel
theorem dX12_comeInto_82 : decode cX12_comeInto 82 = .ok (.goto (-22), 3) := by decide +kernel
theorem dX12_comeInto_85 : decode cX12_comeInto 85 = .ok (.goto 27, 3) := by decide +kernel
theorem dX12_comeInto_88 : decode cX12_comeInto 88 = .ok (.aload_n 0, 1) := by decide +kernel
theorem dX12_comeInto_89 : decode cX12_comeInto 89 = .ok (.getfield 16, 3) := by decide +kernel
theorem dX12_comeInto_92 : decode cX12_comeInto 92 = .ok (.iload_n 1, 1) := by decide +kernel
theorem dX12_comeInto_93 : decode cX12_comeInto 93 = .ok (.iaload, 1) := by decide +kernel
theorem dX12_comeInto_94 : decode cX12_comeInto 94 = .ok (.bipush 8, 2) := by decide +kernel
theorem dX12_comeInto_96 : decode cX12_comeInto 96 = .ok (.if_icmp .ne 11, 3) := by decide +kernel
theorem dX12_comeInto_99 : decode cX12_comeInto 99 = .ok (.aload_n 0, 1) := by decide +kernel
theorem dX12_comeInto_100 : decode cX12_comeInto 100 = .ok (.iload_n 1, 1) := by decide +kernel
theorem dX12_comeInto_101 : decode cX12_comeInto 101 = .ok (.invokevirtual 492, 3) := by decide +kernel
theorem dX12_comeInto_104 : decode cX12_comeInto 104 = .ok (.goto 8, 3) := by decide +kernel
theorem dX12_comeInto_107 : decode cX12_comeInto 107 = .ok (.aload_n 0, 1) := by decide +kernel
theorem dX12_comeInto_108 : decode cX12_comeInto 108 = .ok (.iload_n 1, 1) := by decide +kernel
theorem dX12_comeInto_109 : decode cX12_comeInto 109 = .ok (.invokevirtual 495, 3) := by decide +kernel
theorem dX12_comeInto_112 : decode cX12_comeInto 112 = .ok (.return_, 1) := by decide +kernel
theorem dX12_giveNames_0 : decode cX12_giveNames 0 = .ok (.aload_n 0, 1) := by decide +kernel
theorem dX12_giveNames_1 : decode cX12_giveNames 1 = .ok (.getfield 98, 3) := by decide +kernel
theorem dX12_giveNames_4 : decode cX12_giveNames 4 = .ok (.iload_n 1, 1) := by decide +kernel
theorem dX12_giveNames_5 : decode cX12_giveNames 5 = .ok (.aload_n 0, 1) := by decide +kernel
theorem dX12_giveNames_6 : decode cX12_giveNames 6 = .ok (.getfield 474, 3) := by decide +kernel
theorem dX12_giveNames_9 : decode cX12_giveNames 9 = .ok (.iastore, 1) := by decide +kernel
theorem dX12_giveNames_10 : decode cX12_giveNames 10 = .ok (.iconst 0, 1) := by decide +kernel
theorem dX12_giveNames_11 : decode cX12_giveNames 11 = .ok (.istore_n 2, 1) := by decide +kernel
theorem dX12_giveNames_12 : decode cX12_giveNames 12 = .ok (.iload_n 2, 1) := by decide +kernel
theorem dX12_giveNames_13 : decode cX12_giveNames 13 = .ok (.aload_n 0, 1) := by decide +kernel
theorem dX12_giveNames_14 : decode cX12_giveNames 14 = .ok (.getfield 44, 3) := by decide +kernel
theorem dX12_giveNames_17 : decode cX12_giveNames 17 = .ok (.iload_n 1, 1) := by decide +kernel
theorem dX12_giveNames_18 : decode cX12_giveNames 18 = .ok (.iaload, 1) := by decide +kernel
theorem dX12_giveNames_19 : decode cX12_giveNames 19 = .ok (.if_icmp .ge 27, 3) := by decide +kernel
theorem dX12_giveNames_22 : decode cX12_giveNames 22 = .ok (.aload_n 0, 1) := by decide +kernel
theorem dX12_giveNames_23 : decode cX12_giveNames 23 = .ok (.aload_n 0, 1) := by decide +kernel
theorem dX12_giveNames_24 : decode cX12_giveNames 24 = .ok (.getfield 47, 3) := by decide +kernel
theorem dX12_giveNames_27 : decode cX12_giveNames 27 = .ok (.aload_n 0, 1) := by decide +kernel
theorem dX12_giveNames_28 : decode cX12_giveNames 28 = .ok (.getfield 41, 3) := by decide +kernel
theorem dX12_giveNames_31 : decode cX12_giveNames 31 = .ok (.iload_n 1, 1) := by decide +kernel
theorem dX12_giveNames_32 : decode cX12_giveNames 32 = .ok (.iaload, 1) := by decide +kernel
theorem dX12_giveNames_33 : decode cX12_giveNames 33 = .ok (.iload_n 2, 1) := by decide +kernel
theorem dX12_giveNames_34 : decode cX12_giveNames 34 = .ok (.iadd, 1) := by decide +kernel
theorem dX12_giveNames_35 : decode cX12_giveNames 35 = .ok (.laload, 1) := by decide +kernel
theorem dX12_giveNames_36 : decode cX12_giveNames 36 = .ok (.invokevirtual 483, 3) := by decide +kernel
theorem dX12_giveNames_39 : decode cX12_giveNames 39 = .ok (.pop, 1) := by decide +kernel
theorem dX12_giveNames_40 : decode cX12_giveNames 40 = .ok (.iinc 2 1, 3) := by decide +kernel
theorem dX12_giveNames_43 : decode cX12_giveNames 43 = .ok (.goto (-31), 3) := by decide +kernel
theorem dX12_giveNames_46 : decode cX12_giveNames 46 = .ok (.return_, 1) := by decide +kernel
theorem dX12_goOutOf_0 : decode cX12_goOutOf 0 = .ok (.aload_n 0, 1) := by decide +kernel
theorem dX12_goOutOf_1 : decode cX12_goOutOf 1 = .ok (.getfield 80, 3) := by decide +kernel
theorem dX12_goOutOf_4 : decode cX12_goOutOf 4 = .ok (.iload_n 1, 1) := by decide +kernel
theorem dX12_goOutOf_5 : decode cX12_goOutOf 5 = .ok (.iaload, 1) := by decide +kernel
theorem dX12_goOutOf_6 : decode cX12_goOutOf 6 = .ok (.ifCond .lt 13, 3) := by decide +kernel
theorem dX12_goOutOf_9 : decode cX12_goOutOf 9 = .ok (.aload_n 0, 1) := by decide +kernel
theorem dX12_goOutOf_10 : decode cX12_goOutOf 10 = .ok (.dup, 1) := by decide +kernel
theorem dX12_goOutOf_11 : decode cX12_goOutOf 11 = .ok (.getfield 477, 3) := by decide +kernel
theorem dX12_goOutOf_14 : decode cX12_goOutOf 14 = .ok (.iconst 1, 1) := by decide +kernel
theorem dX12_goOutOf_15 : decode cX12_goOutOf 15 = .ok (.isub, 1) := by decide +kernel
theorem dX12_goOutOf_16 : decode cX12_goOutOf 16 = .ok (.putfield 477, 3) := by decide +kernel
theorem dX12_goOutOf_19 : decode cX12_goOutOf 19 = .ok (.aload_n 0, 1) := by decide +kernel
theorem dX12_goOutOf_20 : decode cX12_goOutOf 20 = .ok (.getfield 16, 3) := by decide +kernel
theorem dX12_goOutOf_23 : decode cX12_goOutOf 23 = .ok (.iload_n 1, 1) := by decide +kernel
theorem dX12_goOutOf_24 : decode cX12_goOutOf 24 = .ok (.iaload, 1) := by decide +kernel
theorem dX12_goOutOf_25 : decode cX12_goOutOf 25 = .ok (.ifCond .ne 37, 3) := by decide +kernel
theorem dX12_goOutOf_28 : decode cX12_goOutOf 28 = .ok (.aload_n 0, 1) := by decide +kernel
theorem dX12_goOutOf_29 : decode cX12_goOutOf 29 = .ok (.getfield 19, 3) := by decide +kernel
theorem dX12_goOutOf_32 : decode cX12_goOutOf 32 = .ok (.iload_n 1, 1) := by decide +kernel
theorem dX12_goOutOf_33 : decode cX12_goOutOf 33 = .ok (.iaload, 1) := by decide +kernel
theorem dX12_goOutOf_34 : decode cX12_goOutOf 34 = .ok (.istore_n 2, 1) := by decide +kernel
theorem dX12_goOutOf_35 : decode cX12_goOutOf 35 = .ok (.iload_n 2, 1) := by decide +kernel
theorem dX12_goOutOf_36 : decode cX12_goOutOf 36 = .ok (.ifCond .lt 23, 3) := by decide +kernel
theorem dX12_goOutOf_39 : decode cX12_goOutOf 39 = .ok (.aload_n 0, 1) := by decide +kernel
theorem dX12_goOutOf_40 : decode cX12_goOutOf 40 = .ok (.dup, 1) := by decide +kernel
theorem dX12_goOutOf_41 : decode cX12_goOutOf 41 = .ok (.getfield 480, 3) := by decide +kernel
theorem dX12_goOutOf_44 : decode cX12_goOutOf 44 = .ok (.iconst 1, 1) := by decide +kernel
theorem dX12_goOutOf_45 : decode cX12_goOutOf 45 = .ok (.isub, 1) := by decide +kernel
theorem dX12_goOutOf_46 : decode cX12_goOutOf 46 = .ok (.putfield 480, 3) := by decide +kernel
theorem dX12_goOutOf_49 : decode cX12_goOutOf 49 = .ok (.aload_n 0, 1) := by decide +kernel
theorem dX12_goOutOf_50 : decode cX12_goOutOf 50 = .ok (.getfield 25, 3) := by decide +kernel
theorem dX12_goOutOf_53 : decode cX12_goOutOf 53 = .ok (.iload_n 2, 1) := by decide +kernel
theorem dX12_goOutOf_54 : decode cX12_goOutOf 54 = .ok (.iaload, 1) := by decide +kernel
theorem dX12_goOutOf_55 : decode cX12_goOutOf 55 = .ok (.istore_n 2, 1) := by decide +kernel
theorem dX12_goOutOf_56 : decode cX12_goOutOf 56 = .ok (.goto (-21), 3) := by decide +kernel
theorem dX12_goOutOf_59 : decode cX12_goOutOf 59 = .ok (.goto 18, 3) := by decide +kernel
theorem dX12_goOutOf_62 : decode cX12_goOutOf 62 = .ok (.aload_n 0, 1) := by decide +kernel
theorem dX12_goOutOf_63 : decode cX12_goOutOf 63 = .ok (.dup, 1) := by decide +kernel
theorem dX12_goOutOf_64 : decode cX12_goOutOf 64 = .ok (.getfield 480, 3) := by decide +kernel
theorem dX12_goOutOf_67 : decode cX12_goOutOf 67 = .ok (.aload_n 0, 1) := by decide +kernel
theorem dX12_goOutOf_68 : decode cX12_goOutOf 68 = .ok (.getfield 44, 3) := by decide +kernel
theorem dX12_goOutOf_71 : decode cX12_goOutOf 71 = .ok (.iload_n 1, 1) := by decide +kernel
theorem dX12_goOutOf_72 : decode cX12_goOutOf 72 = .ok (.iaload, 1) := by decide +kernel
theorem dX12_goOutOf_73 : decode cX12_goOutOf 73 = .ok (.isub, 1) := by decide +kernel
theorem dX12_goOutOf_74 : decode cX12_goOutOf 74 = .ok (.putfield 480, 3) := by decide +kernel
theorem dX12_goOutOf_77 : decode cX12_goOutOf 77 = .ok (.return_, 1) := by decide +kernel
theorem dX12_hasRow_0 : decode cX12_hasRow 0 = .ok (.iload_n 0, 1) := by decide +kernel
theorem dX12_hasRow_1 : decode cX12_hasRow 1 = .ok (.ifCond .eq 20, 3) := by decide +kernel
theorem dX12_hasRow_4 : decode cX12_hasRow 4 = .ok (.iload_n 0, 1) := by decide +kernel
theorem dX12_hasRow_5 : decode cX12_hasRow 5 = .ok (.iconst 3, 1) := by decide +kernel
theorem dX12_hasRow_6 : decode cX12_hasRow 6 = .ok (.if_icmp .eq 15, 3) := by decide +kernel
theorem dX12_hasRow_9 : decode cX12_hasRow 9 = .ok (.iload_n 0, 1) := by decide +kernel
theorem dX12_hasRow_10 : decode cX12_hasRow 10 = .ok (.bipush 6, 2) := by decide +kernel
theorem dX12_hasRow_12 : decode cX12_hasRow 12 = .ok (.if_icmp .eq 9, 3) := by decide +kernel
theorem dX12_hasRow_15 : decode cX12_hasRow 15 = .ok (.iload_n 0, 1) := by decide +kernel
theorem dX12_hasRow_16 : decode cX12_hasRow 16 = .ok (.bipush 7, 2) := by decide +kernel
theorem dX12_hasRow_18 : decode cX12_hasRow 18 = .ok (.if_icmp .ne 7, 3) := by decide +kernel
theorem dX12_hasRow_21 : decode cX12_hasRow 21 = .ok (.iconst 1, 1) := by decide +kernel
theorem dX12_hasRow_22 : decode cX12_hasRow 22 = .ok (.goto 4, 3) := by decide +kernel
theorem dX12_hasRow_25 : decode cX12_hasRow 25 = .ok (.iconst 0, 1) := by decide +kernel
theorem dX12_hasRow_26 : decode cX12_hasRow 26 = .ok (.ireturn, 1) := by decide +kernel
theorem dX12_newVariable_0 : decode cX12_newVariable 0 = .ok (.aload_n 0, 1) := by decide +kernel
theorem dX12_newVariable_1 : decode cX12_newVariable 1 = .ok (.getfield 474, 3) := by decide +kernel
theorem dX12_newVariable_4 : decode cX12_newVariable 4 = .ok (.istore_n 3, 1) := by decide +kernel
theorem dX12_newVariable_5 : decode cX12_newVariable 5 = .ok (.aload_n 0, 1) := by decide +kernel
theorem dX12_newVariable_6 : decode cX12_newVariable 6 = .ok (.dup, 1) := by decide +kernel
theorem dX12_newVariable_7 : decode cX12_newVariable 7 = .ok (.getfield 474, 3) := by decide +kernel
theorem dX12_newVariable_10 : decode cX12_newVariable 10 = .ok (.iconst 1, 1) := by decide +kernel
theorem dX12_newVariable_11 : decode cX12_newVariable 11 = .ok (.iadd, 1) := by decide +kernel
theorem dX12_newVariable_12 : decode cX12_newVariable 12 = .ok (.putfield 474, 3) := by decide +kernel
theorem dX12_newVariable_15 : decode cX12_newVariable 15 = .ok (.aload_n 0, 1) := by decide +kernel
theorem dX12_newVariable_16 : decode cX12_newVariable 16 = .ok (.getfield 107, 3) := by decide +kernel
theorem dX12_newVariable_19 : decode cX12_newVariable 19 = .ok (.aload_n 0, 1) := by decide +kernel
theorem dX12_newVariable_20 : decode cX12_newVariable 20 = .ok (.getfield 477, 3) := by decide +kernel
theorem dX12_newVariable_23 : decode cX12_newVariable 23 = .ok (.iconst 1, 1) := by decide +kernel
theorem dX12_newVariable_24 : decode cX12_newVariable 24 = .ok (.isub, 1) := by decide +kernel
theorem dX12_newVariable_25 : decode cX12_newVariable 25 = .ok (.iaload, 1) := by decide +kernel
theorem dX12_newVariable_26 : decode cX12_newVariable 26 = .ok (.istore 4, 2) := by decide +kernel
theorem dX12_newVariable_28 : decode cX12_newVariable 28 = .ok (.aload_n 0, 1) := by decide +kernel
theorem dX12_newVariable_29 : decode cX12_newVariable 29 = .ok (.getfield 89, 3) := by decide +kernel
theorem dX12_newVariable_32 : decode cX12_newVariable 32 = .ok (.iload_n 3, 1) := by decide +kernel
theorem dX12_newVariable_33 : decode cX12_newVariable 33 = .ok (.iload 4, 2) := by decide +kernel
theorem dX12_newVariable_35 : decode cX12_newVariable 35 = .ok (.iastore, 1) := by decide +kernel
theorem dX12_newVariable_36 : decode cX12_newVariable 36 = .ok (.aload_n 0, 1) := by decide +kernel
theorem dX12_newVariable_37 : decode cX12_newVariable 37 = .ok (.getfield 92, 3) := by decide +kernel
theorem dX12_newVariable_40 : decode cX12_newVariable 40 = .ok (.iload_n 3, 1) := by decide +kernel
theorem dX12_newVariable_41 : decode cX12_newVariable 41 = .ok (.aload_n 0, 1) := by decide +kernel
theorem dX12_newVariable_42 : decode cX12_newVariable 42 = .ok (.getfield 95, 3) := by decide +kernel
theorem dX12_newVariable_45 : decode cX12_newVariable 45 = .ok (.iload 4, 2) := by decide +kernel
theorem dX12_newVariable_47 : decode cX12_newVariable 47 = .ok (.iaload, 1) := by decide +kernel
theorem dX12_newVariable_48 : decode cX12_newVariable 48 = .ok (.iastore, 1) := by decide +kernel
theorem dX12_newVariable_49 : decode cX12_newVariable 49 = .ok (.aload_n 0, 1) := by decide +kernel
theorem dX12_newVariable_50 : decode cX12_newVariable 50 = .ok (.getfield 95, 3) := by decide +kernel
theorem dX12_newVariable_53 : decode cX12_newVariable 53 = .ok (.iload 4, 2) := by decide +kernel
theorem dX12_newVariable_55 : decode cX12_newVariable 55 = .ok (.dup2, 1) := by decide +kernel
theorem dX12_newVariable_56 : decode cX12_newVariable 56 = .ok (.iaload, 1) := by decide +kernel
theorem dX12_newVariable_57 : decode cX12_newVariable 57 = .ok (.iconst 1, 1) := by decide +kernel
theorem dX12_newVariable_58 : decode cX12_newVariable 58 = .ok (.iadd, 1) := by decide +kernel
theorem dX12_newVariable_59 : decode cX12_newVariable 59 = .ok (.iastore, 1) := by decide +kernel
theorem dX12_newVariable_60 : decode cX12_newVariable 60 = .ok (.aload_n 0, 1) := by decide +kernel
theorem dX12_newVariable_61 : decode cX12_newVariable 61 = .ok (.getfield 101, 3) := by decide +kernel
theorem dX12_newVariable_64 : decode cX12_newVariable 64 = .ok (.aload_n 0, 1) := by decide +kernel
theorem dX12_newVariable_65 : decode cX12_newVariable 65 = .ok (.getfield 480, 3) := by decide +kernel
theorem dX12_newVariable_68 : decode cX12_newVariable 68 = .ok (.lload_n 1, 1) := by decide +kernel
theorem dX12_newVariable_69 : decode cX12_newVariable 69 = .ok (.lastore, 1) := by decide +kernel
theorem dX12_newVariable_70 : decode cX12_newVariable 70 = .ok (.aload_n 0, 1) := by decide +kernel
theorem dX12_newVariable_71 : decode cX12_newVariable 71 = .ok (.getfield 104, 3) := by decide +kernel
theorem dX12_newVariable_74 : decode cX12_newVariable 74 = .ok (.aload_n 0, 1) := by decide +kernel
theorem dX12_newVariable_75 : decode cX12_newVariable 75 = .ok (.getfield 480, 3) := by decide +kernel
theorem dX12_newVariable_78 : decode cX12_newVariable 78 = .ok (.iload_n 3, 1) := by decide +kernel
theorem dX12_newVariable_79 : decode cX12_newVariable 79 = .ok (.iastore, 1) := by decide +kernel
theorem dX12_newVariable_80 : decode cX12_newVariable 80 = .ok (.aload_n 0, 1) := by decide +kernel
theorem dX12_newVariable_81 : decode cX12_newVariable 81 = .ok (.dup, 1) := by decide +kernel
theorem dX12_newVariable_82 : decode cX12_newVariable 82 = .ok (.getfield 480, 3) := by decide +kernel
theorem dX12_newVariable_85 : decode cX12_newVariable 85 = .ok (.iconst 1, 1) := by decide +kernel
theorem dX12_newVariable_86 : decode cX12_newVariable 86 = .ok (.iadd, 1) := by decide +kernel
theorem dX12_newVariable_87 : decode cX12_newVariable 87 = .ok (.putfield 480, 3) := by decide +kernel
theorem dX12_newVariable_90 : decode cX12_newVariable 90 = .ok (.iload_n 3, 1) := by decide +kernel
theorem dX12_newVariable_91 : decode cX12_newVariable 91 = .ok (.ireturn, 1) := by decide +kernel
theorem dX12_nextChild_0 : decode cX12_nextChild 0 = .ok (.aload_n 0, 1) := by decide +kernel
theorem dX12_nextChild_1 : decode cX12_nextChild 1 = .ok (.getfield 110, 3) := by decide +kernel
theorem dX12_nextChild_4 : decode cX12_nextChild 4 = .ok (.iload_n 1, 1) := by decide +kernel
theorem dX12_nextChild_5 : decode cX12_nextChild 5 = .ok (.iaload, 1) := by decide +kernel
theorem dX12_nextChild_6 : decode cX12_nextChild 6 = .ok (.istore_n 2, 1) := by decide +kernel
theorem dX12_nextChild_7 : decode cX12_nextChild 7 = .ok (.aload_n 0, 1) := by decide +kernel
theorem dX12_nextChild_8 : decode cX12_nextChild 8 = .ok (.getfield 113, 3) := by decide +kernel
theorem dX12_nextChild_11 : decode cX12_nextChild 11 = .ok (.iload_n 1, 1) := by decide +kernel
theorem dX12_nextChild_12 : decode cX12_nextChild 12 = .ok (.iaload, 1) := by decide +kernel
theorem dX12_nextChild_13 : decode cX12_nextChild 13 = .ok (.istore_n 3, 1) := by decide +kernel
theorem dX12_nextChild_14 : decode cX12_nextChild 14 = .ok (.aload_n 0, 1) := by decide +kernel
theorem dX12_nextChild_15 : decode cX12_nextChild 15 = .ok (.getfield 116, 3) := by decide +kernel
theorem dX12_nextChild_18 : decode cX12_nextChild 18 = .ok (.iload_n 1, 1) := by decide +kernel
theorem dX12_nextChild_19 : decode cX12_nextChild 19 = .ok (.iaload, 1) := by decide +kernel
theorem dX12_nextChild_20 : decode cX12_nextChild 20 = .ok (.istore 4, 2) := by decide +kernel
theorem dX12_nextChild_22 : decode cX12_nextChild 22 = .ok (.aload_n 0, 1) := by decide +kernel
theorem dX12_nextChild_23 : decode cX12_nextChild 23 = .ok (.iload_n 2, 1) := by decide +kernel
theorem dX12_nextChild_24 : decode cX12_nextChild 24 = .ok (.iload_n 3, 1) := by decide +kernel
theorem dX12_nextChild_25 : decode cX12_nextChild 25 = .ok (.iload 4, 2) := by decide +kernel
theorem dX12_nextChild_27 : decode cX12_nextChild 27 = .ok (.invokevirtual 498, 3) := by decide +kernel
theorem dX12_nextChild_30 : decode cX12_nextChild 30 = .ok (.istore 5, 2) := by decide +kernel
theorem dX12_nextChild_32 : decode cX12_nextChild 32 = .ok (.aload_n 0, 1) := by decide +kernel
theorem dX12_nextChild_33 : decode cX12_nextChild 33 = .ok (.getfield 16, 3) := by decide +kernel
theorem dX12_nextChild_36 : decode cX12_nextChild 36 = .ok (.iload_n 2, 1) := by decide +kernel
theorem dX12_nextChild_37 : decode cX12_nextChild 37 = .ok (.iaload, 1) := by decide +kernel
theorem dX12_nextChild_38 : decode cX12_nextChild 38 = .ok (.iconst 3, 1) := by decide +kernel
theorem dX12_nextChild_39 : decode cX12_nextChild 39 = .ok (.if_icmp .ne 15, 3) := by decide +kernel
theorem dX12_nextChild_42 : decode cX12_nextChild 42 = .ok (.iload_n 3, 1) := by decide +kernel
theorem dX12_nextChild_43 : decode cX12_nextChild 43 = .ok (.ifCond .ne 7, 3) := by decide +kernel
theorem dX12_nextChild_46 : decode cX12_nextChild 46 = .ok (.iconst 1, 1) := by decide +kernel
theorem dX12_nextChild_47 : decode cX12_nextChild 47 = .ok (.goto 26, 3) := by decide +kernel
theorem dX12_nextChild_50 : decode cX12_nextChild 50 = .ok (.iconst 0, 1) := by decide +kernel
theorem dX12_nextChild_51 : decode cX12_nextChild 51 = .ok (.goto 22, 3) := by decide +kernel
theorem dX12_nextChild_54 : decode cX12_nextChild 54 = .ok (.aload_n 0, 1) := by decide +kernel
theorem dX12_nextChild_55 : decode cX12_nextChild 55 = .ok (.getfield 16, 3) := by decide +kernel
theorem dX12_nextChild_58 : decode cX12_nextChild 58 = .ok (.iload_n 2, 1) := by decide +kernel
theorem dX12_nextChild_59 : decode cX12_nextChild 59 = .ok (.iaload, 1) := by decide +kernel
theorem dX12_nextChild_60 : decode cX12_nextChild 60 = .ok (.ifCond .ne 12, 3) := by decide +kernel
theorem dX12_nextChild_63 : decode cX12_nextChild 63 = .ok (.iload 4, 2) := by decide +kernel
theorem dX12_nextChild_65 : decode cX12_nextChild 65 = .ok (.ifCond .ge 7, 3) := by decide +kernel
theorem dX12_nextChild_68 : decode cX12_nextChild 68 = .ok (.iconst 1, 1) := by decide +kernel
theorem dX12_nextChild_69 : decode cX12_nextChild 69 = .ok (.goto 4, 3) := by decide +kernel
theorem dX12_nextChild_72 : decode cX12_nextChild 72 = .ok (.iconst 0, 1) := by decide +kernel
theorem dX12_nextChild_73 : decode cX12_nextChild 73 = .ok (.istore 6, 2) := by decide +kernel
theorem dX12_nextChild_75 : decode cX12_nextChild 75 = .ok (.aload_n 0, 1) := by decide +kernel
theorem dX12_nextChild_76 : decode cX12_nextChild 76 = .ok (.getfield 113, 3) := by decide +kernel
theorem dX12_nextChild_79 : decode cX12_nextChild 79 = .ok (.iload_n 1, 1) := by decide +kernel
theorem dX12_nextChild_80 : decode cX12_nextChild 80 = .ok (.iload 6, 2) := by decide +kernel
theorem dX12_nextChild_82 : decode cX12_nextChild 82 = .ok (.ifCond .eq 17, 3) := by decide +kernel
theorem dX12_nextChild_85 : decode cX12_nextChild 85 = .ok (.aload_n 0, 1) := by decide +kernel
theorem dX12_nextChild_86 : decode cX12_nextChild 86 = .ok (.getfield 16, 3) := by decide +kernel
theorem dX12_nextChild_89 : decode cX12_nextChild 89 = .ok (.iload_n 2, 1) := by decide +kernel
theorem dX12_nextChild_90 : decode cX12_nextChild 90 = .ok (.iaload, 1) := by decide +kernel
theorem dX12_nextChild_91 : decode cX12_nextChild 91 = .ok (.ifCond .ne 8, 3) := by decide +kernel
theorem dX12_nextChild_94 : decode cX12_nextChild 94 = .ok (.bipush 100, 2) := by decide +kernel
theorem dX12_nextChild_96 : decode cX12_nextChild 96 = .ok (.goto 6, 3) := by decide +kernel
theorem dX12_nextChild_99 : decode cX12_nextChild 99 = .ok (.iload_n 3, 1) := by decide +kernel
theorem dX12_nextChild_100 : decode cX12_nextChild 100 = .ok (.iconst 1, 1) := by decide +kernel
theorem dX12_nextChild_101 : decode cX12_nextChild 101 = .ok (.iadd, 1) := by decide +kernel
theorem dX12_nextChild_102 : decode cX12_nextChild 102 = .ok (.iastore, 1) := by decide +kernel
theorem dX12_nextChild_103 : decode cX12_nextChild 103 = .ok (.aload_n 0, 1) := by decide +kernel
theorem dX12_nextChild_104 : decode cX12_nextChild 104 = .ok (.getfield 16, 3) := by decide +kernel
theorem dX12_nextChild_107 : decode cX12_nextChild 107 = .ok (.iload_n 2, 1) := by decide +kernel
theorem dX12_nextChild_108 : decode cX12_nextChild 108 = .ok (.iaload, 1) := by decide +kernel
theorem dX12_nextChild_109 : decode cX12_nextChild 109 = .ok (.invokestatic 502, 3) := by decide +kernel
theorem dX12_nextChild_112 : decode cX12_nextChild 112 = .ok (.ifCond .eq 26, 3) := by decide +kernel
theorem dX12_nextChild_115 : decode cX12_nextChild 115 = .ok (.iload 6, 2) := by decide +kernel
theorem dX12_nextChild_117 : decode cX12_nextChild 117 = .ok (.ifCond .ne 21, 3) := by decide +kernel
theorem dX12_nextChild_120 : decode cX12_nextChild 120 = .ok (.iload 4, 2) := by decide +kernel
theorem dX12_nextChild_122 : decode cX12_nextChild 122 = .ok (.ifCond .lt 16, 3) := by decide +kernel
theorem dX12_nextChild_125 : decode cX12_nextChild 125 = .ok (.aload_n 0, 1) := by decide +kernel
theorem dX12_nextChild_126 : decode cX12_nextChild 126 = .ok (.getfield 116, 3) := by decide +kernel
theorem dX12_nextChild_129 : decode cX12_nextChild 129 = .ok (.iload_n 1, 1) := by decide +kernel
theorem dX12_nextChild_130 : decode cX12_nextChild 130 = .ok (.aload_n 0, 1) := by decide +kernel
theorem dX12_nextChild_131 : decode cX12_nextChild 131 = .ok (.getfield 25, 3) := by decide +kernel
theorem dX12_nextChild_134 : decode cX12_nextChild 134 = .ok (.iload 4, 2) := by decide +kernel
theorem dX12_nextChild_136 : decode cX12_nextChild 136 = .ok (.iaload, 1) := by decide +kernel
theorem dX12_nextChild_137 : decode cX12_nextChild 137 = .ok (.iastore, 1) := by decide +kernel
theorem dX12_nextChild_138 : decode cX12_nextChild 138 = .ok (.iload 5, 2) := by decide +kernel
theorem dX12_nextChild_140 : decode cX12_nextChild 140 = .ok (.ireturn, 1) := by decide +kernel
theorem dX12_numberAll_0 : decode cX12_numberAll 0 = .ok (.aload_n 0, 1) := by decide +kernel
theorem dX12_numberAll_1 : decode cX12_numberAll 1 = .ok (.aload_n 0, 1) := by decide +kernel
theorem dX12_numberAll_2 : decode cX12_numberAll 2 = .ok (.getfield 462, 3) := by decide +kernel
theorem dX12_numberAll_5 : decode cX12_numberAll 5 = .ok (.putfield 486, 3) := by decide +kernel
theorem dX12_numberAll_8 : decode cX12_numberAll 8 = .ok (.iconst 0, 1) := by decide +kernel
theorem dX12_numberAll_9 : decode cX12_numberAll 9 = .ok (.istore_n 1, 1) := by decide +kernel
theorem dX12_numberAll_10 : decode cX12_numberAll 10 = .ok (.iload_n 1, 1) := by decide +kernel
theorem dX12_numberAll_11 : decode cX12_numberAll 11 = .ok (.aload_n 0, 1) := by decide +kernel
theorem dX12_numberAll_12 : decode cX12_numberAll 12 = .ok (.getfield 327, 3) := by decide +kernel
theorem dX12_numberAll_15 : decode cX12_numberAll 15 = .ok (.if_icmp .ge 90, 3) := by decide +kernel
theorem dX12_numberAll_18 : decode cX12_numberAll 18 = .ok (.aload_n 0, 1) := by decide +kernel
theorem dX12_numberAll_19 : decode cX12_numberAll 19 = .ok (.getfield 80, 3) := by decide +kernel
theorem dX12_numberAll_22 : decode cX12_numberAll 22 = .ok (.iload_n 1, 1) := by decide +kernel
theorem dX12_numberAll_23 : decode cX12_numberAll 23 = .ok (.iconst (-1), 1) := by decide +kernel
theorem dX12_numberAll_24 : decode cX12_numberAll 24 = .ok (.iastore, 1) := by decide +kernel
theorem dX12_numberAll_25 : decode cX12_numberAll 25 = .ok (.aload_n 0, 1) := by decide +kernel
theorem dX12_numberAll_26 : decode cX12_numberAll 26 = .ok (.getfield 16, 3) := by decide +kernel
theorem dX12_numberAll_29 : decode cX12_numberAll 29 = .ok (.iload_n 1, 1) := by decide +kernel
theorem dX12_numberAll_30 : decode cX12_numberAll 30 = .ok (.iaload, 1) := by decide +kernel
theorem dX12_numberAll_31 : decode cX12_numberAll 31 = .ok (.iconst 2, 1) := by decide +kernel
theorem dX12_numberAll_32 : decode cX12_numberAll 32 = .ok (.if_icmp .eq 22, 3) := by decide +kernel
theorem dX12_numberAll_35 : decode cX12_numberAll 35 = .ok (.aload_n 0, 1) := by decide +kernel
theorem dX12_numberAll_36 : decode cX12_numberAll 36 = .ok (.getfield 16, 3) := by decide +kernel
theorem dX12_numberAll_39 : decode cX12_numberAll 39 = .ok (.iload_n 1, 1) := by decide +kernel
theorem dX12_numberAll_40 : decode cX12_numberAll 40 = .ok (.iaload, 1) := by decide +kernel
theorem dX12_numberAll_41 : decode cX12_numberAll 41 = .ok (.iconst 1, 1) := by decide +kernel
theorem dX12_numberAll_42 : decode cX12_numberAll 42 = .ok (.if_icmp .ne 57, 3) := by decide +kernel
theorem dX12_numberAll_45 : decode cX12_numberAll 45 = .ok (.aload_n 0, 1) := by decide +kernel
theorem dX12_numberAll_46 : decode cX12_numberAll 46 = .ok (.getfield 44, 3) := by decide +kernel
theorem dX12_numberAll_49 : decode cX12_numberAll 49 = .ok (.iload_n 1, 1) := by decide +kernel
theorem dX12_numberAll_50 : decode cX12_numberAll 50 = .ok (.iaload, 1) := by decide +kernel
theorem dX12_numberAll_51 : decode cX12_numberAll 51 = .ok (.ifCond .le 48, 3) := by decide +kernel
theorem dX12_numberAll_54 : decode cX12_numberAll 54 = .ok (.aload_n 0, 1) := by decide +kernel
theorem dX12_numberAll_55 : decode cX12_numberAll 55 = .ok (.getfield 80, 3) := by decide +kernel
theorem dX12_numberAll_58 : decode cX12_numberAll 58 = .ok (.iload_n 1, 1) := by decide +kernel
theorem dX12_numberAll_59 : decode cX12_numberAll 59 = .ok (.aload_n 0, 1) := by decide +kernel
theorem dX12_numberAll_60 : decode cX12_numberAll 60 = .ok (.getfield 486, 3) := by decide +kernel
theorem dX12_numberAll_63 : decode cX12_numberAll 63 = .ok (.iastore, 1) := by decide +kernel
theorem dX12_numberAll_64 : decode cX12_numberAll 64 = .ok (.aload_n 0, 1) := by decide +kernel
theorem dX12_numberAll_65 : decode cX12_numberAll 65 = .ok (.getfield 56, 3) := by decide +kernel
theorem dX12_numberAll_68 : decode cX12_numberAll 68 = .ok (.aload_n 0, 1) := by decide +kernel
theorem dX12_numberAll_69 : decode cX12_numberAll 69 = .ok (.getfield 486, 3) := by decide +kernel
theorem dX12_numberAll_72 : decode cX12_numberAll 72 = .ok (.iload_n 1, 1) := by decide +kernel
theorem dX12_numberAll_73 : decode cX12_numberAll 73 = .ok (.iastore, 1) := by decide +kernel
theorem dX12_numberAll_74 : decode cX12_numberAll 74 = .ok (.aload_n 0, 1) := by decide +kernel
theorem dX12_numberAll_75 : decode cX12_numberAll 75 = .ok (.getfield 53, 3) := by decide +kernel
theorem dX12_numberAll_78 : decode cX12_numberAll 78 = .ok (.aload_n 0, 1) := by decide +kernel
theorem dX12_numberAll_79 : decode cX12_numberAll 79 = .ok (.getfield 486, 3) := by decide +kernel
theorem dX12_numberAll_82 : decode cX12_numberAll 82 = .ok (.aload_n 0, 1) := by decide +kernel
theorem dX12_numberAll_83 : decode cX12_numberAll 83 = .ok (.getfield 28, 3) := by decide +kernel
theorem dX12_numberAll_86 : decode cX12_numberAll 86 = .ok (.iload_n 1, 1) := by decide +kernel
theorem dX12_numberAll_87 : decode cX12_numberAll 87 = .ok (.iaload, 1) := by decide +kernel
theorem dX12_numberAll_88 : decode cX12_numberAll 88 = .ok (.iastore, 1) := by decide +kernel
theorem dX12_numberAll_89 : decode cX12_numberAll 89 = .ok (.aload_n 0, 1) := by decide +kernel
theorem dX12_numberAll_90 : decode cX12_numberAll 90 = .ok (.dup, 1) := by decide +kernel
theorem dX12_numberAll_91 : decode cX12_numberAll 91 = .ok (.getfield 486, 3) := by decide +kernel
theorem dX12_numberAll_94 : decode cX12_numberAll 94 = .ok (.iconst 1, 1) := by decide +kernel
theorem dX12_numberAll_95 : decode cX12_numberAll 95 = .ok (.iadd, 1) := by decide +kernel
theorem dX12_numberAll_96 : decode cX12_numberAll 96 = .ok (.putfield 486, 3) := by decide +kernel
theorem dX12_numberAll_99 : decode cX12_numberAll 99 = .ok (.iinc 1 1, 3) := by decide +kernel
theorem dX12_numberAll_102 : decode cX12_numberAll 102 = .ok (.goto (-92), 3) := by decide +kernel
theorem dX12_numberAll_105 : decode cX12_numberAll 105 = .ok (.iconst 0, 1) := by decide +kernel
theorem dX12_numberAll_106 : decode cX12_numberAll 106 = .ok (.istore_n 1, 1) := by decide +kernel
theorem dX12_numberAll_107 : decode cX12_numberAll 107 = .ok (.iload_n 1, 1) := by decide +kernel
theorem dX12_numberAll_108 : decode cX12_numberAll 108 = .ok (.aload_n 0, 1) := by decide +kernel
theorem dX12_numberAll_109 : decode cX12_numberAll 109 = .ok (.getfield 486, 3) := by decide +kernel
theorem dX12_numberAll_112 : decode cX12_numberAll 112 = .ok (.if_icmp .ge 23, 3) := by decide +kernel
theorem dX12_numberAll_115 : decode cX12_numberAll 115 = .ok (.aload_n 0, 1) := by decide +kernel
theorem dX12_numberAll_116 : decode cX12_numberAll 116 = .ok (.getfield 83, 3) := by decide +kernel
theorem dX12_numberAll_119 : decode cX12_numberAll 119 = .ok (.iload_n 1, 1) := by decide +kernel
theorem dX12_numberAll_120 : decode cX12_numberAll 120 = .ok (.iconst 0, 1) := by decide +kernel
theorem dX12_numberAll_121 : decode cX12_numberAll 121 = .ok (.iastore, 1) := by decide +kernel
theorem dX12_numberAll_122 : decode cX12_numberAll 122 = .ok (.aload_n 0, 1) := by decide +kernel
theorem dX12_numberAll_123 : decode cX12_numberAll 123 = .ok (.getfield 95, 3) := by decide +kernel
theorem dX12_numberAll_126 : decode cX12_numberAll 126 = .ok (.iload_n 1, 1) := by decide +kernel
theorem dX12_numberAll_127 : decode cX12_numberAll 127 = .ok (.iconst 0, 1) := by decide +kernel
theorem dX12_numberAll_128 : decode cX12_numberAll 128 = .ok (.iastore, 1) := by decide +kernel
theorem dX12_numberAll_129 : decode cX12_numberAll 129 = .ok (.iinc 1 1, 3) := by decide +kernel
theorem dX12_numberAll_132 : decode cX12_numberAll 132 = .ok (.goto (-25), 3) := by decide +kernel
theorem dX12_numberAll_135 : decode cX12_numberAll 135 = .ok (.return_, 1) := by decide +kernel
theorem dX12_readProgram_0 : decode cX12_readProgram 0 = .ok (.aload_n 0, 1) := by decide +kernel
theorem dX12_readProgram_1 : decode cX12_readProgram 1 = .ok (.iconst 0, 1) := by decide +kernel
theorem dX12_readProgram_2 : decode cX12_readProgram 2 = .ok (.putfield 311, 3) := by decide +kernel
theorem dX12_readProgram_5 : decode cX12_readProgram 5 = .ok (.aload_n 0, 1) := by decide +kernel
theorem dX12_readProgram_6 : decode cX12_readProgram 6 = .ok (.iconst 0, 1) := by decide +kernel
theorem dX12_readProgram_7 : decode cX12_readProgram 7 = .ok (.putfield 327, 3) := by decide +kernel
theorem dX12_readProgram_10 : decode cX12_readProgram 10 = .ok (.aload_n 0, 1) := by decide +kernel
theorem dX12_readProgram_11 : decode cX12_readProgram 11 = .ok (.iconst 0, 1) := by decide +kernel
theorem dX12_readProgram_12 : decode cX12_readProgram 12 = .ok (.putfield 330, 3) := by decide +kernel
theorem dX12_readProgram_15 : decode cX12_readProgram 15 = .ok (.aload_n 0, 1) := by decide +kernel
theorem dX12_readProgram_16 : decode cX12_readProgram 16 = .ok (.iconst 0, 1) := by decide +kernel
theorem dX12_readProgram_17 : decode cX12_readProgram 17 = .ok (.putfield 333, 3) := by decide +kernel
theorem dX12_readProgram_20 : decode cX12_readProgram 20 = .ok (.aload_n 0, 1) := by decide +kernel
theorem dX12_readProgram_21 : decode cX12_readProgram 21 = .ok (.iconst 0, 1) := by decide +kernel
theorem dX12_readProgram_22 : decode cX12_readProgram 22 = .ok (.putfield 462, 3) := by decide +kernel
theorem dX12_readProgram_25 : decode cX12_readProgram 25 = .ok (.aload_n 0, 1) := by decide +kernel
theorem dX12_readProgram_26 : decode cX12_readProgram 26 = .ok (.iconst 0, 1) := by decide +kernel
theorem dX12_readProgram_27 : decode cX12_readProgram 27 = .ok (.putfield 339, 3) := by decide +kernel
theorem dX12_readProgram_30 : decode cX12_readProgram 30 = .ok (.aload_n 0, 1) := by decide +kernel
theorem dX12_readProgram_31 : decode cX12_readProgram 31 = .ok (.iconst 0, 1) := by decide +kernel
theorem dX12_readProgram_32 : decode cX12_readProgram 32 = .ok (.putfield 342, 3) := by decide +kernel
theorem dX12_readProgram_35 : decode cX12_readProgram 35 = .ok (.aload_n 0, 1) := by decide +kernel
theorem dX12_readProgram_36 : decode cX12_readProgram 36 = .ok (.iconst 0, 1) := by decide +kernel
theorem dX12_readProgram_37 : decode cX12_readProgram 37 = .ok (.putfield 345, 3) := by decide +kernel
theorem dX12_readProgram_40 : decode cX12_readProgram 40 = .ok (.aload_n 0, 1) := by decide +kernel
theorem dX12_readProgram_41 : decode cX12_readProgram 41 = .ok (.iconst 0, 1) := by decide +kernel
theorem dX12_readProgram_42 : decode cX12_readProgram 42 = .ok (.putfield 261, 3) := by decide +kernel
theorem dX12_readProgram_45 : decode cX12_readProgram 45 = .ok (.aload_n 0, 1) := by decide +kernel
theorem dX12_readProgram_46 : decode cX12_readProgram 46 = .ok (.iconst 2, 1) := by decide +kernel
theorem dX12_readProgram_47 : decode cX12_readProgram 47 = .ok (.putfield 348, 3) := by decide +kernel
theorem dX12_readProgram_50 : decode cX12_readProgram 50 = .ok (.aload_n 0, 1) := by decide +kernel
theorem dX12_readProgram_51 : decode cX12_readProgram 51 = .ok (.getfield 59, 3) := by decide +kernel
theorem dX12_readProgram_54 : decode cX12_readProgram 54 = .ok (.iconst 0, 1) := by decide +kernel
theorem dX12_readProgram_55 : decode cX12_readProgram 55 = .ok (.bipush 70, 2) := by decide +kernel
theorem dX12_readProgram_57 : decode cX12_readProgram 57 = .ok (.bipush 97, 2) := by decide +kernel
theorem dX12_readProgram_59 : decode cX12_readProgram 59 = .ok (.bipush 108, 2) := by decide +kernel
theorem dX12_readProgram_61 : decode cX12_readProgram 61 = .ok (.bipush 115, 2) := by decide +kernel
theorem dX12_readProgram_63 : decode cX12_readProgram 63 = .ok (.bipush 101, 2) := by decide +kernel
theorem dX12_readProgram_65 : decode cX12_readProgram 65 = .ok (.invokestatic 257, 3) := by decide +kernel
theorem dX12_readProgram_68 : decode cX12_readProgram 68 = .ok (.lastore, 1) := by decide +kernel
theorem dX12_readProgram_69 : decode cX12_readProgram 69 = .ok (.aload_n 0, 1) := by decide +kernel
theorem dX12_readProgram_70 : decode cX12_readProgram 70 = .ok (.getfield 59, 3) := by decide +kernel
theorem dX12_readProgram_73 : decode cX12_readProgram 73 = .ok (.iconst 1, 1) := by decide +kernel
theorem dX12_readProgram_74 : decode cX12_readProgram 74 = .ok (.bipush 84, 2) := by decide +kernel
theorem dX12_readProgram_76 : decode cX12_readProgram 76 = .ok (.bipush 114, 2) := by decide +kernel
theorem dX12_readProgram_78 : decode cX12_readProgram 78 = .ok (.bipush 117, 2) := by decide +kernel
theorem dX12_readProgram_80 : decode cX12_readProgram 80 = .ok (.bipush 101, 2) := by decide +kernel
theorem dX12_readProgram_82 : decode cX12_readProgram 82 = .ok (.iconst 0, 1) := by decide +kernel
theorem dX12_readProgram_83 : decode cX12_readProgram 83 = .ok (.invokestatic 257, 3) := by decide +kernel
theorem dX12_readProgram_86 : decode cX12_readProgram 86 = .ok (.lastore, 1) := by decide +kernel
theorem dX12_readProgram_87 : decode cX12_readProgram 87 = .ok (.aload_n 0, 1) := by decide +kernel
theorem dX12_readProgram_88 : decode cX12_readProgram 88 = .ok (.getfield 62, 3) := by decide +kernel
theorem dX12_readProgram_91 : decode cX12_readProgram 91 = .ok (.iconst 0, 1) := by decide +kernel
theorem dX12_readProgram_92 : decode cX12_readProgram 92 = .ok (.iconst 0, 1) := by decide +kernel
theorem dX12_readProgram_93 : decode cX12_readProgram 93 = .ok (.iastore, 1) := by decide +kernel
theorem dX12_readProgram_94 : decode cX12_readProgram 94 = .ok (.aload_n 0, 1) := by decide +kernel
theorem dX12_readProgram_95 : decode cX12_readProgram 95 = .ok (.getfield 62, 3) := by decide +kernel
theorem dX12_readProgram_98 : decode cX12_readProgram 98 = .ok (.iconst 1, 1) := by decide +kernel
theorem dX12_readProgram_99 : decode cX12_readProgram 99 = .ok (.iconst 0, 1) := by decide +kernel
theorem dX12_readProgram_100 : decode cX12_readProgram 100 = .ok (.iastore, 1) := by decide +kernel
theorem dX12_readProgram_101 : decode cX12_readProgram 101 = .ok (.aload_n 0, 1) := by decide +kernel
theorem dX12_readProgram_102 : decode cX12_readProgram 102 = .ok (.invokevirtual 321, 3) := by decide +kernel
theorem dX12_readProgram_105 : decode cX12_readProgram 105 = .ok (.aload_n 0, 1) := by decide +kernel
theorem dX12_readProgram_106 : decode cX12_readProgram 106 = .ok (.getfield 311, 3) := by decide +kernel
theorem dX12_readProgram_109 : decode cX12_readProgram 109 = .ok (.ifCond .ne 23, 3) := by decide +kernel
theorem dX12_readProgram_112 : decode cX12_readProgram 112 = .ok (.aload_n 0, 1) := by decide +kernel
theorem dX12_readProgram_113 : decode cX12_readProgram 113 = .ok (.getfield 286, 3) := by decide +kernel
theorem dX12_readProgram_116 : decode cX12_readProgram 116 = .ok (.bipush 10, 2) := by decide +kernel
theorem dX12_readProgram_118 : decode cX12_readProgram 118 = .ok (.if_icmp .ne 14, 3) := by decide +kernel
theorem dX12_readProgram_121 : decode cX12_readProgram 121 = .ok (.aload_n 0, 1) := by decide +kernel
theorem dX12_readProgram_122 : decode cX12_readProgram 122 = .ok (.invokevirtual 321, 3) := by decide +kernel
theorem dX12_readProgram_125 : decode cX12_readProgram 125 = .ok (.aload_n 0, 1) := by decide +kernel
theorem dX12_readProgram_126 : decode cX12_readProgram 126 = .ok (.invokevirtual 468, 3) := by decide +kernel
theorem dX12_readProgram_129 : decode cX12_readProgram 129 = .ok (.goto (-24), 3) := by decide +kernel
theorem dX12_readProgram_132 : decode cX12_readProgram 132 = .ok (.aload_n 0, 1) := by decide +kernel
theorem dX12_readProgram_133 : decode cX12_readProgram 133 = .ok (.getfield 311, 3) := by decide +kernel
theorem dX12_readProgram_136 : decode cX12_readProgram 136 = .ok (.ifCond .ne 7, 3) := by decide +kernel
theorem dX12_readProgram_139 : decode cX12_readProgram 139 = .ok (.iconst 1, 1) := by decide +kernel
theorem dX12_readProgram_140 : decode cX12_readProgram 140 = .ok (.goto 4, 3) := by decide +kernel
theorem dX12_readProgram_143 : decode cX12_readProgram 143 = .ok (.iconst 0, 1) := by decide +kernel
theorem dX12_readProgram_144 : decode cX12_readProgram 144 = .ok (.istore_n 1, 1) := by decide +kernel
theorem dX12_readProgram_145 : decode cX12_readProgram 145 = .ok (.iload_n 1, 1) := by decide +kernel
theorem dX12_readProgram_146 : decode cX12_readProgram 146 = .ok (.ifCond .eq 30, 3) := by decide +kernel
theorem dX12_readProgram_149 : decode cX12_readProgram 149 = .ok (.aload_n 0, 1) := by decide +kernel
theorem dX12_readProgram_150 : decode cX12_readProgram 150 = .ok (.invokevirtual 471, 3) := by decide +kernel
theorem dX12_readProgram_153 : decode cX12_readProgram 153 = .ok (.aload_n 0, 1) := by decide +kernel
theorem dX12_readProgram_154 : decode cX12_readProgram 154 = .ok (.getfield 311, 3) := by decide +kernel
theorem dX12_readProgram_157 : decode cX12_readProgram 157 = .ok (.ifCond .ne 14, 3) := by decide +kernel
theorem dX12_readProgram_160 : decode cX12_readProgram 160 = .ok (.aload_n 0, 1) := by decide +kernel
theorem dX12_readProgram_161 : decode cX12_readProgram 161 = .ok (.getfield 286, 3) := by decide +kernel
theorem dX12_readProgram_164 : decode cX12_readProgram 164 = .ok (.ifCond .eq 7, 3) := by decide +kernel
theorem dX12_readProgram_167 : decode cX12_readProgram 167 = .ok (.iconst 1, 1) := by decide +kernel
theorem dX12_readProgram_168 : decode cX12_readProgram 168 = .ok (.goto 4, 3) := by decide +kernel
theorem dX12_readProgram_171 : decode cX12_readProgram 171 = .ok (.iconst 0, 1) := by decide +kernel
theorem dX12_readProgram_172 : decode cX12_readProgram 172 = .ok (.istore_n 1, 1) := by decide +kernel
theorem dX12_readProgram_173 : decode cX12_readProgram 173 = .ok (.goto (-28), 3) := by decide +kernel
theorem dX12_readProgram_176 : decode cX12_readProgram 176 = .ok (.return_, 1) := by decide +kernel
theorem dX12_use_0 : decode cX12_use 0 = .ok (.aload_n 0, 1) := by decide +kernel
theorem dX12_use_1 : decode cX12_use 1 = .ok (.getfield 480, 3) := by decide +kernel
theorem dX12_use_4 : decode cX12_use 4 = .ok (.iconst 1, 1) := by decide +kernel
theorem dX12_use_5 : decode cX12_use 5 = .ok (.isub, 1) := by decide +kernel
theorem dX12_use_6 : decode cX12_use 6 = .ok (.istore_n 2, 1) := by decide +kernel
theorem dX12_use_7 : decode cX12_use 7 = .ok (.iload_n 2, 1) := by decide +kernel
theorem dX12_use_8 : decode cX12_use 8 = .ok (.ifCond .lt 25, 3) := by decide +kernel
theorem dX12_use_11 : decode cX12_use 11 = .ok (.aload_n 0, 1) := by decide +kernel
theorem dX12_use_12 : decode cX12_use 12 = .ok (.getfield 101, 3) := by decide +kernel
theorem dX12_use_15 : decode cX12_use 15 = .ok (.iload_n 2, 1) := by decide +kernel
theorem dX12_use_16 : decode cX12_use 16 = .ok (.laload, 1) := by decide +kernel
theorem dX12_use_17 : decode cX12_use 17 = .ok (.aload_n 0, 1) := by decide +kernel
theorem dX12_use_18 : decode cX12_use 18 = .ok (.getfield 37, 3) := by decide +kernel
theorem dX12_use_21 : decode cX12_use 21 = .ok (.iload_n 1, 1) := by decide +kernel
theorem dX12_use_22 : decode cX12_use 22 = .ok (.laload, 1) := by decide +kernel
theorem dX12_use_23 : decode cX12_use 23 = .ok (.lcmp, 1) := by decide +kernel
theorem dX12_use_24 : decode cX12_use 24 = .ok (.ifCond .eq 9, 3) := by decide +kernel
theorem dX12_use_27 : decode cX12_use 27 = .ok (.iinc 2 (-1), 3) := by decide +kernel
theorem dX12_use_30 : decode cX12_use 30 = .ok (.goto (-23), 3) := by decide +kernel
theorem dX12_use_33 : decode cX12_use 33 = .ok (.iload_n 2, 1) := by decide +kernel
theorem dX12_use_34 : decode cX12_use 34 = .ok (.ifCond .lt 67, 3) := by decide +kernel
theorem dX12_use_37 : decode cX12_use 37 = .ok (.aload_n 0, 1) := by decide +kernel
theorem dX12_use_38 : decode cX12_use 38 = .ok (.getfield 104, 3) := by decide +kernel
theorem dX12_use_41 : decode cX12_use 41 = .ok (.iload_n 2, 1) := by decide +kernel
theorem dX12_use_42 : decode cX12_use 42 = .ok (.iaload, 1) := by decide +kernel
theorem dX12_use_43 : decode cX12_use 43 = .ok (.istore_n 3, 1) := by decide +kernel
theorem dX12_use_44 : decode cX12_use 44 = .ok (.aload_n 0, 1) := by decide +kernel
theorem dX12_use_45 : decode cX12_use 45 = .ok (.getfield 34, 3) := by decide +kernel
theorem dX12_use_48 : decode cX12_use 48 = .ok (.iload_n 1, 1) := by decide +kernel
theorem dX12_use_49 : decode cX12_use 49 = .ok (.iconst 1, 1) := by decide +kernel
theorem dX12_use_50 : decode cX12_use 50 = .ok (.iastore, 1) := by decide +kernel
theorem dX12_use_51 : decode cX12_use 51 = .ok (.aload_n 0, 1) := by decide +kernel
theorem dX12_use_52 : decode cX12_use 52 = .ok (.getfield 31, 3) := by decide +kernel
theorem dX12_use_55 : decode cX12_use 55 = .ok (.iload_n 1, 1) := by decide +kernel
theorem dX12_use_56 : decode cX12_use 56 = .ok (.iload_n 3, 1) := by decide +kernel
theorem dX12_use_57 : decode cX12_use 57 = .ok (.iastore, 1) := by decide +kernel
theorem dX12_use_58 : decode cX12_use 58 = .ok (.aload_n 0, 1) := by decide +kernel
theorem dX12_use_59 : decode cX12_use 59 = .ok (.getfield 477, 3) := by decide +kernel
theorem dX12_use_62 : decode cX12_use 62 = .ok (.iconst 1, 1) := by decide +kernel
theorem dX12_use_63 : decode cX12_use 63 = .ok (.isub, 1) := by decide +kernel
theorem dX12_use_64 : decode cX12_use 64 = .ok (.istore 4, 2) := by decide +kernel
theorem dX12_use_66 : decode cX12_use 66 = .ok (.aload_n 0, 1) := by decide +kernel
theorem dX12_use_67 : decode cX12_use 67 = .ok (.getfield 107, 3) := by decide +kernel
theorem dX12_use_70 : decode cX12_use 70 = .ok (.iload 4, 2) := by decide +kernel
theorem dX12_use_72 : decode cX12_use 72 = .ok (.iaload, 1) := by decide +kernel
theorem dX12_use_73 : decode cX12_use 73 = .ok (.aload_n 0, 1) := by decide +kernel
theorem dX12_use_74 : decode cX12_use 74 = .ok (.getfield 89, 3) := by decide +kernel
theorem dX12_use_77 : decode cX12_use 77 = .ok (.iload_n 3, 1) := by decide +kernel
theorem dX12_use_78 : decode cX12_use 78 = .ok (.iaload, 1) := by decide +kernel
theorem dX12_use_79 : decode cX12_use 79 = .ok (.if_icmp .eq 21, 3) := by decide +kernel
theorem dX12_use_82 : decode cX12_use 82 = .ok (.aload_n 0, 1) := by decide +kernel
theorem dX12_use_83 : decode cX12_use 83 = .ok (.aload_n 0, 1) := by decide +kernel
theorem dX12_use_84 : decode cX12_use 84 = .ok (.getfield 107, 3) := by decide +kernel
theorem dX12_use_87 : decode cX12_use 87 = .ok (.iload 4, 2) := by decide +kernel
theorem dX12_use_89 : decode cX12_use 89 = .ok (.iaload, 1) := by decide +kernel
theorem dX12_use_90 : decode cX12_use 90 = .ok (.iload_n 3, 1) := by decide +kernel
theorem dX12_use_91 : decode cX12_use 91 = .ok (.invokevirtual 489, 3) := by decide +kernel
theorem dX12_use_94 : decode cX12_use 94 = .ok (.iinc 4 (-1), 3) := by decide +kernel
theorem dX12_use_97 : decode cX12_use 97 = .ok (.goto (-31), 3) := by decide +kernel
theorem dX12_use_100 : decode cX12_use 100 = .ok (.return_, 1) := by decide +kernel
theorem dX12_use_101 : decode cX12_use 101 = .ok (.iconst 0, 1) := by decide +kernel
theorem dX12_use_102 : decode cX12_use 102 = .ok (.istore_n 3, 1) := by decide +kernel
theorem dX12_use_103 : decode cX12_use 103 = .ok (.iload_n 3, 1) := by decide +kernel
theorem dX12_use_104 : decode cX12_use 104 = .ok (.aload_n 0, 1) := by decide +kernel
theorem dX12_use_105 : decode cX12_use 105 = .ok (.getfield 462, 3) := by decide +kernel
theorem dX12_use_108 : decode cX12_use 108 = .ok (.if_icmp .ge 25, 3) := by decide +kernel
theorem dX12_use_111 : decode cX12_use 111 = .ok (.aload_n 0, 1) := by decide +kernel
theorem dX12_use_112 : decode cX12_use 112 = .ok (.getfield 50, 3) := by decide +kernel
theorem dX12_use_115 : decode cX12_use 115 = .ok (.iload_n 3, 1) := by decide +kernel
theorem dX12_use_116 : decode cX12_use 116 = .ok (.laload, 1) := by decide +kernel
theorem dX12_use_117 : decode cX12_use 117 = .ok (.aload_n 0, 1) := by decide +kernel
theorem dX12_use_118 : decode cX12_use 118 = .ok (.getfield 37, 3) := by decide +kernel
theorem dX12_use_121 : decode cX12_use 121 = .ok (.iload_n 1, 1) := by decide +kernel
theorem dX12_use_122 : decode cX12_use 122 = .ok (.laload, 1) := by decide +kernel
theorem dX12_use_123 : decode cX12_use 123 = .ok (.lcmp, 1) := by decide +kernel
theorem dX12_use_124 : decode cX12_use 124 = .ok (.ifCond .eq 9, 3) := by decide +kernel
theorem dX12_use_127 : decode cX12_use 127 = .ok (.iinc 3 1, 3) := by decide +kernel
theorem dX12_use_130 : decode cX12_use 130 = .ok (.goto (-27), 3) := by decide +kernel
theorem dX12_use_133 : decode cX12_use 133 = .ok (.aload_n 0, 1) := by decide +kernel
theorem dX12_use_134 : decode cX12_use 134 = .ok (.getfield 34, 3) := by decide +kernel
theorem dX12_use_137 : decode cX12_use 137 = .ok (.iload_n 1, 1) := by decide +kernel
theorem dX12_use_138 : decode cX12_use 138 = .ok (.iconst 0, 1) := by decide +kernel
theorem dX12_use_139 : decode cX12_use 139 = .ok (.iastore, 1) := by decide +kernel
theorem dX12_use_140 : decode cX12_use 140 = .ok (.aload_n 0, 1) := by decide +kernel
theorem dX12_use_141 : decode cX12_use 141 = .ok (.getfield 31, 3) := by decide +kernel
theorem dX12_use_144 : decode cX12_use 144 = .ok (.iload_n 1, 1) := by decide +kernel
theorem dX12_use_145 : decode cX12_use 145 = .ok (.iload_n 3, 1) := by decide +kernel
theorem dX12_use_146 : decode cX12_use 146 = .ok (.iastore, 1) := by decide +kernel
theorem dX12_use_147 : decode cX12_use 147 = .ok (.iload_n 3, 1) := by decide +kernel
theorem dX12_use_148 : decode cX12_use 148 = .ok (.aload_n 0, 1) := by decide +kernel
theorem dX12_use_149 : decode cX12_use 149 = .ok (.getfield 462, 3) := by decide +kernel
theorem dX12_use_152 : decode cX12_use 152 = .ok (.if_icmp .ne 14, 3) := by decide +kernel
theorem dX12_use_155 : decode cX12_use 155 = .ok (.aload_n 0, 1) := by decide +kernel
theorem dX12_use_156 : decode cX12_use 156 = .ok (.iconst 5, 1) := by decide +kernel
theorem dX12_use_157 : decode cX12_use 157 = .ok (.aload_n 0, 1) := by decide +kernel
theorem dX12_use_158 : decode cX12_use 158 = .ok (.getfield 28, 3) := by decide +kernel
theorem dX12_use_161 : decode cX12_use 161 = .ok (.iload_n 1, 1) := by decide +kernel
theorem dX12_use_162 : decode cX12_use 162 = .ok (.iaload, 1) := by decide +kernel
theorem dX12_use_163 : decode cX12_use 163 = .ok (.invokevirtual 317, 3) := by decide +kernel
theorem dX12_use_166 : decode cX12_use 166 = .ok (.return_, 1) := by decide +kernel
theorem cw_X12_addFree : CWV yX12_addFree cX12_addFree 5 none RX12 2 := ⟨mG_2687, mG_2686, mG_154, mG_226, by decide +kernel⟩
theorem cw_X12_childAt : CWV yX12_childAt cX12_childAt 5 (some .int) RX12 3 := ⟨mG_2699, mG_2698, mG_157, mG_226, by decide +kernel⟩
theorem cw_X12_giveNames : CWV yX12_giveNames cX12_giveNames 3 none RX12 1 := ⟨mG_2691, mG_2690, mG_155, mG_226, by decide +kernel⟩
theorem cw_X12_hasRow : CWS yX12_hasRow cX12_hasRow 1 (some .boolean) RX12 1 := ⟨mG_2671, mG_2670, mG_226, by decide +kernel⟩
theorem cw_X12_newVariable : CWV yX12_newVariable cX12_newVariable 5 (some .int) RX12 1 := ⟨mG_2679, mG_2678, mG_152, mG_226, by decide +kernel⟩
theorem cw_X12_readData : CWV yX12_readData cX12_readData 5 none RX12 0 := ⟨mG_2517, mG_2516, mG_113, mG_226, by decide +kernel⟩
theorem cw_X12_readFunction : CWV yX12_readFunction cX12_readFunction 3 none RX12 0 := ⟨mG_2541, mG_2540, mG_119, mG_226, by decide +kernel⟩
theorem cw_X12_use : CWV yX12_use cX12_use 5 none RX12 1 := ⟨mG_2683, mG_2682, mG_153, mG_226, by decide +kernel⟩
section MX12_readProgram
variable {p : Program} {l : Launch} {e : Env} {R : Room} {s : State} {m : MethodId} {args : Array Value} {below : List Frame} {meth : Method} {c : Code} {dC : Nat → ClassId} {dI : Nat → Nat → Nat} {Z : ZZ} {A : Nat → Prop} {ad : Nat → Nat} {kc : Nat → ClassId} {r : Unit} {τ : S5}
set_option maxHeartbeats 4000000 in
set_option maxRecDepth 100000 in
theorem w_X12_readProgram_b172 {σ : S5} {rec145 : Int32 → S5 → Option (Unit × S5)} {u0 : Int32} {H : Heap} {locs : List Loc} {ls : Array Slot} (S : CallFix p m c cX12_readProgram 2 s args uG RX12) (hr : meth.sig.returnType = none) (hk : meth.locks = false) (hR : 11 ≤ R.frames ∧ 248 ≤ R.locals)
    (hrec145 : ∀ (v1 : Int32) (σ : S5) (H : Heap) (locs : List Loc) (ls : Array Slot), gX (dC, dI) (tM kc) (wM ad kc) Z A s σ H locs → lv_has ls 2 [(0, .ref (ad 0)), (1, .int v1)] → rec145 v1 σ = some (r, τ) → W p l e R s m args below meth c H locs 0 0 (MQ below (gQv (dC, dI) (tM kc) (wM ad kc) A r τ) args s 0 0 A) (F0 m 145 ls []))
    (X : gX (dC, dI) (tM kc) (wM ad kc) Z A s σ H locs) (hl : lv_has ls 2 [(0, .ref (ad 0))]) (hg : f_X12_readProgram_b172 rec145 u0 σ = some (r, τ)) : W p l e R s m args below meth c H locs 0 0 (MQ below (gQv (dC, dI) (tM kc) (wM ad kc) A r τ) args s 0 0 A) (F0 m 172 ls [.int u0]) := by
  have hx := S.1
  have hb := S.2.1
  have hown := S.2.2.2.1
  have hu := S.2.2.2.2
  unfold f_X12_readProgram_b172 at hg
  refine lv_istore_n (lv' := [(1, .int u0), (0, .ref (ad 0))]) hx hb dX12_readProgram_172 rfl hl (by decide) rfl (fun ls hl => ?_)
  refine lv_goto (tgt := 145) hx hb dX12_readProgram_173 (by decide) ?_
  exact hrec145 _ _ _ _ _ X (lv_sub hl [1, 0] rfl) hg
set_option maxHeartbeats 4000000 in
set_option maxRecDepth 100000 in
theorem w_X12_readProgram_b171 {σ : S5} {rec145 : Int32 → S5 → Option (Unit × S5)}  {H : Heap} {locs : List Loc} {ls : Array Slot} (S : CallFix p m c cX12_readProgram 2 s args uG RX12) (hr : meth.sig.returnType = none) (hk : meth.locks = false) (hR : 11 ≤ R.frames ∧ 248 ≤ R.locals)
    (hrec145 : ∀ (v1 : Int32) (σ : S5) (H : Heap) (locs : List Loc) (ls : Array Slot), gX (dC, dI) (tM kc) (wM ad kc) Z A s σ H locs → lv_has ls 2 [(0, .ref (ad 0)), (1, .int v1)] → rec145 v1 σ = some (r, τ) → W p l e R s m args below meth c H locs 0 0 (MQ below (gQv (dC, dI) (tM kc) (wM ad kc) A r τ) args s 0 0 A) (F0 m 145 ls []))
    (X : gX (dC, dI) (tM kc) (wM ad kc) Z A s σ H locs) (hl : lv_has ls 2 [(0, .ref (ad 0))]) (hg : f_X12_readProgram_b171 rec145 σ = some (r, τ)) : W p l e R s m args below meth c H locs 0 0 (MQ below (gQv (dC, dI) (tM kc) (wM ad kc) A r τ) args s 0 0 A) (F0 m 171 ls []) := by
  have hx := S.1
  have hb := S.2.1
  have hown := S.2.2.2.1
  have hu := S.2.2.2.2
  unfold f_X12_readProgram_b171 at hg
  refine lv_iconst (v := 0) hx hb dX12_readProgram_171 (by decide) ?_
  exact w_X12_readProgram_b172 S hr hk hR hrec145 X (lv_sub hl [0] rfl) hg
set_option maxHeartbeats 4000000 in
set_option maxRecDepth 100000 in
theorem w_X12_readProgram_B145 {σ : S5} {rec145 : Int32 → S5 → Option (Unit × S5)} {v1 : Int32} {H : Heap} {locs : List Loc} {ls : Array Slot} (S : CallFix p m c cX12_readProgram 2 s args uG RX12) (hr : meth.sig.returnType = none) (hk : meth.locks = false) (hR : 11 ≤ R.frames ∧ 248 ≤ R.locals)
    (hrec145 : ∀ (v1 : Int32) (σ : S5) (H : Heap) (locs : List Loc) (ls : Array Slot), gX (dC, dI) (tM kc) (wM ad kc) Z A s σ H locs → lv_has ls 2 [(0, .ref (ad 0)), (1, .int v1)] → rec145 v1 σ = some (r, τ) → W p l e R s m args below meth c H locs 0 0 (MQ below (gQv (dC, dI) (tM kc) (wM ad kc) A r τ) args s 0 0 A) (F0 m 145 ls []))
    (X : gX (dC, dI) (tM kc) (wM ad kc) Z A s σ H locs) (hl : lv_has ls 2 [(0, .ref (ad 0)), (1, .int v1)]) (hg : f_X12_readProgram_B145 rec145 v1 σ = some (r, τ)) : W p l e R s m args below meth c H locs 0 0 (MQ below (gQv (dC, dI) (tM kc) (wM ad kc) A r τ) args s 0 0 A) (F0 m 145 ls []) := by
  have hx := S.1
  have hb := S.2.1
  have hown := S.2.2.2.1
  have hu := S.2.2.2.2
  unfold f_X12_readProgram_B145 at hg
  refine lv_iload_n hx hb dX12_readProgram_145 rfl (lv_at hl 1 rfl) ?_
  refine lv_if_eq (tgt := 176) hx hb dX12_readProgram_146 (by decide) (fun c146 => ?_) (fun c146 => ?_)
  · have hg := (if_pos c146).symm.trans hg
    obtain ⟨-, rfl⟩ := fin_some hg
    exact gr_v S hr hk X dX12_readProgram_176
  · have hg := (if_neg c146).symm.trans hg
    refine lv_aload_n hx hb dX12_readProgram_149 rfl (lv_at hl 0 rfl) ?_
    obtain ⟨r150, τ150, hq150, hg⟩ := bd_some hg
    refine gc_Vv (As := []) (rest := []) (q0 := 0) (ci := 15) S X (k2_X12_readFunction l dC dI ad kc hq150 H.size) cw_X12_readFunction mG_2538 rfl rfl rfl rfl rfl hl.1 (Nat.le_of_ble_eq_true rfl) dX12_readProgram_150 ⟨by omega, by omega⟩ (fun H locs X => ?_)
    refine lv_aload_n hx hb dX12_readProgram_153 rfl (lv_at hl 0 rfl) ?_
    refine wmgI_7 (v := (gI τ150 7)) S X mG_2060 rfl dX12_readProgram_154 ?_
    refine lv_if_ne (tgt := 171) hx hb dX12_readProgram_157 (by decide) (fun c157 => ?_) (fun c157 => ?_)
    · have hg := (if_neg c157).symm.trans hg
      exact w_X12_readProgram_b171 S hr hk hR hrec145 X (lv_sub hl [0] rfl) hg
    · have hg := (if_pos c157).symm.trans hg
      refine lv_aload_n hx hb dX12_readProgram_160 rfl (lv_at hl 0 rfl) ?_
      refine wmgI_4 (v := (gI τ150 4)) S X mG_2056 rfl dX12_readProgram_161 ?_
      refine lv_if_eq (tgt := 171) hx hb dX12_readProgram_164 (by decide) (fun c164 => ?_) (fun c164 => ?_)
      · have hg := (if_pos c164).symm.trans hg
        exact w_X12_readProgram_b171 S hr hk hR hrec145 X (lv_sub hl [0] rfl) hg
      · have hg := (if_neg c164).symm.trans hg
        refine lv_iconst (v := 1) hx hb dX12_readProgram_167 (by decide) ?_
        refine lv_goto (tgt := 172) hx hb dX12_readProgram_168 (by decide) ?_
        exact w_X12_readProgram_b172 S hr hk hR hrec145 X (lv_sub hl [0] rfl) hg
set_option maxHeartbeats 4000000 in
set_option maxRecDepth 100000 in
theorem w_X12_readProgram_L145 (S : CallFix p m c cX12_readProgram 2 s args uG RX12) (hr : meth.sig.returnType = none) (hk : meth.locks = false) (hR : 11 ≤ R.frames ∧ 248 ≤ R.locals) : ∀ (n : Nat) (v1 : Int32) (σ : S5) (H : Heap) (locs : List Loc) (ls : Array Slot), gX (dC, dI) (tM kc) (wM ad kc) Z A s σ H locs → lv_has ls 2 [(0, .ref (ad 0)), (1, .int v1)] → f_X12_readProgram_L145  n v1 σ = some (r, τ) → W p l e R s m args below meth c H locs 0 0 (MQ below (gQv (dC, dI) (tM kc) (wM ad kc) A r τ) args s 0 0 A) (F0 m 145 ls []) := by
  intro n
  induction n with
  | zero => intro v1 σ H locs ls X hl hg; cases hg
  | succ n ih => intro v1 σ H locs ls X hl hg; exact w_X12_readProgram_B145 S hr hk hR ih X hl hg
set_option maxHeartbeats 4000000 in
set_option maxRecDepth 100000 in
theorem w_X12_readProgram_b144 {σ : S5} {u0 : Int32} {H : Heap} {locs : List Loc} {ls : Array Slot} (S : CallFix p m c cX12_readProgram 2 s args uG RX12) (hr : meth.sig.returnType = none) (hk : meth.locks = false) (hR : 11 ≤ R.frames ∧ 248 ≤ R.locals)
    (X : gX (dC, dI) (tM kc) (wM ad kc) Z A s σ H locs) (hl : lv_has ls 2 [(0, .ref (ad 0))]) (hg : f_X12_readProgram_b144 u0 σ = some (r, τ)) : W p l e R s m args below meth c H locs 0 0 (MQ below (gQv (dC, dI) (tM kc) (wM ad kc) A r τ) args s 0 0 A) (F0 m 144 ls [.int u0]) := by
  have hx := S.1
  have hb := S.2.1
  have hown := S.2.2.2.1
  have hu := S.2.2.2.2
  unfold f_X12_readProgram_b144 at hg
  refine lv_istore_n (lv' := [(1, .int u0), (0, .ref (ad 0))]) hx hb dX12_readProgram_144 rfl hl (by decide) rfl (fun ls hl => ?_)
  exact w_X12_readProgram_L145 S hr hk hR _ _ _ _ _ _ X (lv_sub hl [1, 0] rfl) hg
set_option maxHeartbeats 4000000 in
set_option maxRecDepth 100000 in
theorem w_X12_readProgram_b132 {σ : S5}  {H : Heap} {locs : List Loc} {ls : Array Slot} (S : CallFix p m c cX12_readProgram 2 s args uG RX12) (hr : meth.sig.returnType = none) (hk : meth.locks = false) (hR : 11 ≤ R.frames ∧ 248 ≤ R.locals)
    (X : gX (dC, dI) (tM kc) (wM ad kc) Z A s σ H locs) (hl : lv_has ls 2 [(0, .ref (ad 0))]) (hg : f_X12_readProgram_b132  σ = some (r, τ)) : W p l e R s m args below meth c H locs 0 0 (MQ below (gQv (dC, dI) (tM kc) (wM ad kc) A r τ) args s 0 0 A) (F0 m 132 ls []) := by
  have hx := S.1
  have hb := S.2.1
  have hown := S.2.2.2.1
  have hu := S.2.2.2.2
  unfold f_X12_readProgram_b132 at hg
  refine lv_aload_n hx hb dX12_readProgram_132 rfl (lv_at hl 0 rfl) ?_
  refine wmgI_7 (v := (gI σ 7)) S X mG_2060 rfl dX12_readProgram_133 ?_
  refine lv_if_ne (tgt := 143) hx hb dX12_readProgram_136 (by decide) (fun c136 => ?_) (fun c136 => ?_)
  · have hg := (if_neg c136).symm.trans hg
    refine lv_iconst (v := 0) hx hb dX12_readProgram_143 (by decide) ?_
    exact w_X12_readProgram_b144 S hr hk hR X (lv_sub hl [0] rfl) hg
  · have hg := (if_pos c136).symm.trans hg
    refine lv_iconst (v := 1) hx hb dX12_readProgram_139 (by decide) ?_
    refine lv_goto (tgt := 144) hx hb dX12_readProgram_140 (by decide) ?_
    exact w_X12_readProgram_b144 S hr hk hR X (lv_sub hl [0] rfl) hg
set_option maxHeartbeats 4000000 in
set_option maxRecDepth 100000 in
theorem w_X12_readProgram_B105 {σ : S5} {rec105 : S5 → Option (Unit × S5)}  {H : Heap} {locs : List Loc} {ls : Array Slot} (S : CallFix p m c cX12_readProgram 2 s args uG RX12) (hr : meth.sig.returnType = none) (hk : meth.locks = false) (hR : 11 ≤ R.frames ∧ 248 ≤ R.locals)
    (hrec105 : ∀ (σ : S5) (H : Heap) (locs : List Loc) (ls : Array Slot), gX (dC, dI) (tM kc) (wM ad kc) Z A s σ H locs → lv_has ls 2 [(0, .ref (ad 0))] → rec105 σ = some (r, τ) → W p l e R s m args below meth c H locs 0 0 (MQ below (gQv (dC, dI) (tM kc) (wM ad kc) A r τ) args s 0 0 A) (F0 m 105 ls []))
    (X : gX (dC, dI) (tM kc) (wM ad kc) Z A s σ H locs) (hl : lv_has ls 2 [(0, .ref (ad 0))]) (hg : f_X12_readProgram_B105 rec105 σ = some (r, τ)) : W p l e R s m args below meth c H locs 0 0 (MQ below (gQv (dC, dI) (tM kc) (wM ad kc) A r τ) args s 0 0 A) (F0 m 105 ls []) := by
  have hx := S.1
  have hb := S.2.1
  have hown := S.2.2.2.1
  have hu := S.2.2.2.2
  unfold f_X12_readProgram_B105 at hg
  refine lv_aload_n hx hb dX12_readProgram_105 rfl (lv_at hl 0 rfl) ?_
  refine wmgI_7 (v := (gI σ 7)) S X mG_2060 rfl dX12_readProgram_106 ?_
  refine lv_if_ne (tgt := 132) hx hb dX12_readProgram_109 (by decide) (fun c109 => ?_) (fun c109 => ?_)
  · have hg := (if_neg c109).symm.trans hg
    exact w_X12_readProgram_b132 S hr hk hR X (lv_sub hl [0] rfl) hg
  · have hg := (if_pos c109).symm.trans hg
    refine lv_aload_n hx hb dX12_readProgram_112 rfl (lv_at hl 0 rfl) ?_
    refine wmgI_4 (v := (gI σ 4)) S X mG_2056 rfl dX12_readProgram_113 ?_
    refine lv_bipush (v := 10) hx hb dX12_readProgram_116 (by decide) ?_
    refine lv_icmp_ne (tgt := 132) hx hb dX12_readProgram_118 (by decide) (fun c118 => ?_) (fun c118 => ?_)
    · have hg := (if_neg c118).symm.trans hg
      exact w_X12_readProgram_b132 S hr hk hR X (lv_sub hl [0] rfl) hg
    · have hg := (if_pos c118).symm.trans hg
      refine lv_aload_n hx hb dX12_readProgram_121 rfl (lv_at hl 0 rfl) ?_
      obtain ⟨r122, τ122, hq122, hg⟩ := bd_some hg
      refine gc_Vv (As := []) (rest := []) (q0 := 0) (ci := 15) S X (k2_X12_next l dC dI ad kc hq122 H.size) cw_X12_next mG_2479 rfl rfl rfl rfl rfl hl.1 (Nat.le_of_ble_eq_true rfl) dX12_readProgram_122 ⟨by omega, by omega⟩ (fun H locs X => ?_)
      refine lv_aload_n hx hb dX12_readProgram_125 rfl (lv_at hl 0 rfl) ?_
      obtain ⟨r126, τ126, hq126, hg⟩ := bd_some hg
      refine gc_Vv (As := []) (rest := []) (q0 := 0) (ci := 15) S X (k2_X12_readData l dC dI ad kc hq126 H.size) cw_X12_readData mG_2514 rfl rfl rfl rfl rfl hl.1 (Nat.le_of_ble_eq_true rfl) dX12_readProgram_126 ⟨by omega, by omega⟩ (fun H locs X => ?_)
      refine lv_goto (tgt := 105) hx hb dX12_readProgram_129 (by decide) ?_
      exact hrec105  _ _ _ _ X (lv_sub hl [0] rfl) hg
set_option maxHeartbeats 4000000 in
set_option maxRecDepth 100000 in
theorem w_X12_readProgram_L105 (S : CallFix p m c cX12_readProgram 2 s args uG RX12) (hr : meth.sig.returnType = none) (hk : meth.locks = false) (hR : 11 ≤ R.frames ∧ 248 ≤ R.locals) : ∀ (n : Nat) (σ : S5) (H : Heap) (locs : List Loc) (ls : Array Slot), gX (dC, dI) (tM kc) (wM ad kc) Z A s σ H locs → lv_has ls 2 [(0, .ref (ad 0))] → f_X12_readProgram_L105  n σ = some (r, τ) → W p l e R s m args below meth c H locs 0 0 (MQ below (gQv (dC, dI) (tM kc) (wM ad kc) A r τ) args s 0 0 A) (F0 m 105 ls []) := by
  intro n
  induction n with
  | zero => intro σ H locs ls X hl hg; cases hg
  | succ n ih => intro σ H locs ls X hl hg; exact w_X12_readProgram_B105 S hr hk hR ih X hl hg
set_option maxHeartbeats 4000000 in
set_option maxRecDepth 100000 in
theorem w_X12_readProgram {σ : S5}  {H : Heap} {locs : List Loc} {ls : Array Slot} (S : CallFix p m c cX12_readProgram 2 s args uG RX12) (hr : meth.sig.returnType = none) (hk : meth.locks = false) (hR : 11 ≤ R.frames ∧ 248 ≤ R.locals)
    (X : gX (dC, dI) (tM kc) (wM ad kc) Z A s σ H locs) (hl : lv_has ls 2 [(0, .ref (ad 0))]) (hg : f_X12_readProgram  σ = some (r, τ)) : W p l e R s m args below meth c H locs 0 0 (MQ below (gQv (dC, dI) (tM kc) (wM ad kc) A r τ) args s 0 0 A) (F0 m 0 ls []) := by
  have hx := S.1
  have hb := S.2.1
  have hown := S.2.2.2.1
  have hu := S.2.2.2.2
  unfold f_X12_readProgram at hg
  refine lv_aload_n hx hb dX12_readProgram_0 rfl (lv_at hl 0 rfl) ?_
  refine lv_iconst (v := 0) hx hb dX12_readProgram_1 (by decide) ?_
  refine wmpI_7 S X mG_2060 dX12_readProgram_2 (fun H locs X => ?_)
  refine lv_aload_n hx hb dX12_readProgram_5 rfl (lv_at hl 0 rfl) ?_
  refine lv_iconst (v := 0) hx hb dX12_readProgram_6 (by decide) ?_
  refine wmpI_9 S X mG_2062 dX12_readProgram_7 (fun H locs X => ?_)
  refine lv_aload_n hx hb dX12_readProgram_10 rfl (lv_at hl 0 rfl) ?_
  refine lv_iconst (v := 0) hx hb dX12_readProgram_11 (by decide) ?_
  refine wmpI_10 S X mG_2073 dX12_readProgram_12 (fun H locs X => ?_)
  refine lv_aload_n hx hb dX12_readProgram_15 rfl (lv_at hl 0 rfl) ?_
  refine lv_iconst (v := 0) hx hb dX12_readProgram_16 (by decide) ?_
  refine wmpI_11 S X mG_2075 dX12_readProgram_17 (fun H locs X => ?_)
  refine lv_aload_n hx hb dX12_readProgram_20 rfl (lv_at hl 0 rfl) ?_
  refine lv_iconst (v := 0) hx hb dX12_readProgram_21 (by decide) ?_
  refine wmpI_13 S X mG_2077 dX12_readProgram_22 (fun H locs X => ?_)
  refine lv_aload_n hx hb dX12_readProgram_25 rfl (lv_at hl 0 rfl) ?_
  refine lv_iconst (v := 0) hx hb dX12_readProgram_26 (by decide) ?_
  refine wmpI_15 S X mG_2084 dX12_readProgram_27 (fun H locs X => ?_)
  refine lv_aload_n hx hb dX12_readProgram_30 rfl (lv_at hl 0 rfl) ?_
  refine lv_iconst (v := 0) hx hb dX12_readProgram_31 (by decide) ?_
  refine wmpI_16 S X mG_2085 dX12_readProgram_32 (fun H locs X => ?_)
  refine lv_aload_n hx hb dX12_readProgram_35 rfl (lv_at hl 0 rfl) ?_
  refine lv_iconst (v := 0) hx hb dX12_readProgram_36 (by decide) ?_
  refine wmpI_17 S X mG_2090 dX12_readProgram_37 (fun H locs X => ?_)
  refine lv_aload_n hx hb dX12_readProgram_40 rfl (lv_at hl 0 rfl) ?_
  refine lv_iconst (v := 0) hx hb dX12_readProgram_41 (by decide) ?_
  refine wmpI_3 S X mG_2055 dX12_readProgram_42 (fun H locs X => ?_)
  refine lv_aload_n hx hb dX12_readProgram_45 rfl (lv_at hl 0 rfl) ?_
  refine lv_iconst (v := 2) hx hb dX12_readProgram_46 (by decide) ?_
  refine wmpI_14 S X mG_2081 dX12_readProgram_47 (fun H locs X => ?_)
  refine lv_aload_n hx hb dX12_readProgram_50 rfl (lv_at hl 0 rfl) ?_
  refine wmgR_0_32 S X mG_2082 dX12_readProgram_51 ?_
  refine lv_iconst (v := 0) hx hb dX12_readProgram_54 (by decide) ?_
  refine lv_bipush (v := 70) hx hb dX12_readProgram_55 (by decide) ?_
  refine lv_bipush (v := 97) hx hb dX12_readProgram_57 (by decide) ?_
  refine lv_bipush (v := 108) hx hb dX12_readProgram_59 (by decide) ?_
  refine lv_bipush (v := 115) hx hb dX12_readProgram_61 (by decide) ?_
  refine lv_bipush (v := 101) hx hb dX12_readProgram_63 (by decide) ?_
  obtain ⟨r65, τ65, hq65, hg⟩ := bd_some hg
  refine gc_Sl (As := [.int 70, .int 97, .int 108, .int 115, .int 101]) (rest := [.int 0, .ref (ad 17)]) S X (k2_X12_pack l dC dI ad kc hq65 H.size) cw_X12_pack mG_2476 rfl rfl hl.1 (Nat.le_of_ble_eq_true rfl) dX12_readProgram_65 ⟨by omega, by omega⟩ (fun H locs X => ?_)
  refine wmsB_3 S X (vp_in_iff.mpr (by decide)) dX12_readProgram_68 (fun H locs X => ?_)
  refine lv_aload_n hx hb dX12_readProgram_69 rfl (lv_at hl 0 rfl) ?_
  refine wmgR_0_32 S X mG_2082 dX12_readProgram_70 ?_
  refine lv_iconst (v := 1) hx hb dX12_readProgram_73 (by decide) ?_
  refine lv_bipush (v := 84) hx hb dX12_readProgram_74 (by decide) ?_
  refine lv_bipush (v := 114) hx hb dX12_readProgram_76 (by decide) ?_
  refine lv_bipush (v := 117) hx hb dX12_readProgram_78 (by decide) ?_
  refine lv_bipush (v := 101) hx hb dX12_readProgram_80 (by decide) ?_
  refine lv_iconst (v := 0) hx hb dX12_readProgram_82 (by decide) ?_
  obtain ⟨r83, τ83, hq83, hg⟩ := bd_some hg
  refine gc_Sl (As := [.int 84, .int 114, .int 117, .int 101, .int 0]) (rest := [.int 1, .ref (ad 17)]) S X (k2_X12_pack l dC dI ad kc hq83 H.size) cw_X12_pack mG_2476 rfl rfl hl.1 (Nat.le_of_ble_eq_true rfl) dX12_readProgram_83 ⟨by omega, by omega⟩ (fun H locs X => ?_)
  refine wmsB_3 S X (vp_in_iff.mpr (by decide)) dX12_readProgram_86 (fun H locs X => ?_)
  refine lv_aload_n hx hb dX12_readProgram_87 rfl (lv_at hl 0 rfl) ?_
  refine wmgR_0_33 S X mG_2083 dX12_readProgram_88 ?_
  refine lv_iconst (v := 0) hx hb dX12_readProgram_91 (by decide) ?_
  refine lv_iconst (v := 0) hx hb dX12_readProgram_92 (by decide) ?_
  refine wmsA_13 S X (vp_in_iff.mpr (by decide)) dX12_readProgram_93 (fun H locs X => ?_)
  refine lv_aload_n hx hb dX12_readProgram_94 rfl (lv_at hl 0 rfl) ?_
  refine wmgR_0_33 S X mG_2083 dX12_readProgram_95 ?_
  refine lv_iconst (v := 1) hx hb dX12_readProgram_98 (by decide) ?_
  refine lv_iconst (v := 0) hx hb dX12_readProgram_99 (by decide) ?_
  refine wmsA_13 S X (vp_in_iff.mpr (by decide)) dX12_readProgram_100 (fun H locs X => ?_)
  refine lv_aload_n hx hb dX12_readProgram_101 rfl (lv_at hl 0 rfl) ?_
  obtain ⟨r102, τ102, hq102, hg⟩ := bd_some hg
  refine gc_Vv (As := []) (rest := []) (q0 := 0) (ci := 15) S X (k2_X12_next l dC dI ad kc hq102 H.size) cw_X12_next mG_2479 rfl rfl rfl rfl rfl hl.1 (Nat.le_of_ble_eq_true rfl) dX12_readProgram_102 ⟨by omega, by omega⟩ (fun H locs X => ?_)
  exact w_X12_readProgram_L105 S hr hk hR _  _ _ _ _ X (lv_sub hl [0] rfl) hg
end MX12_readProgram
set_option maxRecDepth 100000 in
theorem k2_X12_readProgram (l : Launch) (dC : Nat → ClassId) (dI : Nat → Nat → Nat) {Z : ZZ} (ad : Nat → Nat) (kc : Nat → ClassId) {σ τ : S5}  {r : Unit} (hg : f_X12_readProgram  σ = some (r, τ)) (sz : Nat) : Met l yX12_readProgram (Cond.code yX12_readProgram cX12_readProgram 2 none :: uG) { frames := 11, cells := 0, slots := 0, locals := 248 } (gPc (dC, dI) (tM kc) (wM ad kc) Z [.ref (ad 0)] σ sz) (gQv (dC, dI) (tM kc) (wM ad kc) (va_A (wM ad kc σ) sz) r τ) 0 0 (va_A (wM ad kc σ) sz) :=
  g_start (by decide) (Nat.le_of_ble_eq_true rfl) (fun p e s m below meth c ls S hr hk X hl => w_X12_readProgram S hr hk ⟨Nat.le_refl _, Nat.le_refl _⟩ X hl hg)
section MX12_newVariable
variable {p : Program} {l : Launch} {e : Env} {R : Room} {s : State} {m : MethodId} {args : Array Value} {below : List Frame} {meth : Method} {c : Code} {dC : Nat → ClassId} {dI : Nat → Nat → Nat} {Z : ZZ} {A : Nat → Prop} {ad : Nat → Nat} {kc : Nat → ClassId} {r : Int32} {τ : S5}
set_option maxHeartbeats 4000000 in
set_option maxRecDepth 100000 in
theorem w_X12_newVariable {σ : S5} {a1 : Int64} {H : Heap} {locs : List Loc} {ls : Array Slot} (S : CallFix p m c cX12_newVariable 5 s args uG RX12) (hr : meth.sig.returnType = (some .int)) (hk : meth.locks = false) (hR : 0 ≤ R.frames ∧ 0 ≤ R.locals)
    (X : gX (dC, dI) (tM kc) (wM ad kc) Z A s σ H locs) (hl : lv_has ls 5 [(0, .ref (ad 0)), (1, .long a1)]) (hg : f_X12_newVariable a1 σ = some (r, τ)) : W p l e R s m args below meth c H locs 0 0 (MQ below (gQi (dC, dI) (tM kc) (wM ad kc) A r τ) args s 0 0 A) (F0 m 0 ls []) := by
  have hx := S.1
  have hb := S.2.1
  have hown := S.2.2.2.1
  have hu := S.2.2.2.2
  unfold f_X12_newVariable at hg
  refine lv_aload_n hx hb dX12_newVariable_0 rfl (lv_at hl 0 rfl) ?_
  refine wmgI_23 (v := (gI σ 23)) S X mG_2100 rfl dX12_newVariable_1 ?_
  refine lv_istore_n (lv' := [(3, .int (gI σ 23)), (0, .ref (ad 0)), (1, .long a1)]) hx hb dX12_newVariable_4 rfl hl (by decide) rfl (fun ls hl => ?_)
  refine lv_aload_n hx hb dX12_newVariable_5 rfl (lv_at hl 1 rfl) ?_
  refine lv_dup hx hb dX12_newVariable_6 rfl ?_
  refine wmgI_23 (v := (gI σ 23)) S X mG_2100 rfl dX12_newVariable_7 ?_
  refine lv_iconst (v := 1) hx hb dX12_newVariable_10 (by decide) ?_
  refine lv_iadd hx hb dX12_newVariable_11 ?_
  refine wmpI_23 S X mG_2100 dX12_newVariable_12 (fun H locs X => ?_)
  refine lv_aload_n hx hb dX12_newVariable_15 rfl (lv_at hl 1 rfl) ?_
  refine wmgR_0_59 S X mG_2109 dX12_newVariable_16 ?_
  refine lv_aload_n hx hb dX12_newVariable_19 rfl (lv_at hl 1 rfl) ?_
  refine wmgI_25 (v := (gI σ 25)) S X mG_2108 rfl dX12_newVariable_20 ?_
  refine lv_iconst (v := 1) hx hb dX12_newVariable_23 (by decide) ?_
  refine lv_isub hx hb dX12_newVariable_24 ?_
  obtain ⟨hi25, hg⟩ := gd_some hg
  refine wmlA_27 (v := (xA σ 27 ((gI σ 25) - 1))) S X hi25 rfl dX12_newVariable_25 ?_
  refine lv_istore (lv' := [(4, .int (xA σ 27 ((gI σ 25) - 1))), (3, .int (gI σ 23)), (0, .ref (ad 0)), (1, .long a1)]) hx hb dX12_newVariable_26 hl (by decide) rfl (fun ls hl => ?_)
  refine lv_aload_n hx hb dX12_newVariable_28 rfl (lv_at hl 2 rfl) ?_
  refine wmgR_0_51 S X mG_2101 dX12_newVariable_29 ?_
  refine lv_iload_n hx hb dX12_newVariable_32 rfl (lv_at hl 1 rfl) ?_
  refine lv_iload hx hb dX12_newVariable_33 (lv_at hl 0 rfl) ?_
  obtain ⟨hi35, hg⟩ := gd_some hg
  refine wmsA_22 S X hi35 dX12_newVariable_35 (fun H locs X => ?_)
  refine lv_aload_n hx hb dX12_newVariable_36 rfl (lv_at hl 2 rfl) ?_
  refine wmgR_0_52 S X mG_2102 dX12_newVariable_37 ?_
  refine lv_iload_n hx hb dX12_newVariable_40 rfl (lv_at hl 1 rfl) ?_
  refine lv_aload_n hx hb dX12_newVariable_41 rfl (lv_at hl 2 rfl) ?_
  refine wmgR_0_53 S X mG_2103 dX12_newVariable_42 ?_
  refine lv_iload hx hb dX12_newVariable_45 (lv_at hl 0 rfl) ?_
  obtain ⟨hi47, hg⟩ := gd_some hg
  refine wmlA_24 (v := (xA σ 24 (xA σ 27 ((gI σ 25) - 1)))) S X hi47 rfl dX12_newVariable_47 ?_
  obtain ⟨hi48, hg⟩ := gd_some hg
  refine wmsA_23 S X hi48 dX12_newVariable_48 (fun H locs X => ?_)
  refine lv_aload_n hx hb dX12_newVariable_49 rfl (lv_at hl 2 rfl) ?_
  refine wmgR_0_53 S X mG_2103 dX12_newVariable_50 ?_
  refine lv_iload hx hb dX12_newVariable_53 (lv_at hl 0 rfl) ?_
  refine lv_dup2_11 hx hb dX12_newVariable_55 rfl rfl ?_
  obtain ⟨hi56, hg⟩ := gd_some hg
  refine wmlA_24 (v := (xA σ 24 (xA σ 27 ((gI σ 25) - 1)))) S X hi56 rfl dX12_newVariable_56 ?_
  refine lv_iconst (v := 1) hx hb dX12_newVariable_57 (by decide) ?_
  refine lv_iadd hx hb dX12_newVariable_58 ?_
  obtain ⟨hi59, hg⟩ := gd_some hg
  refine wmsA_24 S X hi59 dX12_newVariable_59 (fun H locs X => ?_)
  refine lv_aload_n hx hb dX12_newVariable_60 rfl (lv_at hl 2 rfl) ?_
  refine wmgR_0_56 S X mG_2106 dX12_newVariable_61 ?_
  refine lv_aload_n hx hb dX12_newVariable_64 rfl (lv_at hl 2 rfl) ?_
  refine wmgI_24 (v := (gI σ 24)) S X mG_2105 rfl dX12_newVariable_65 ?_
  refine lv_lload_n hx hb dX12_newVariable_68 rfl (lv_at hl 3 rfl) ?_
  obtain ⟨hi69, hg⟩ := gd_some hg
  refine wmsB_4 S X hi69 dX12_newVariable_69 (fun H locs X => ?_)
  refine lv_aload_n hx hb dX12_newVariable_70 rfl (lv_at hl 2 rfl) ?_
  refine wmgR_0_57 S X mG_2107 dX12_newVariable_71 ?_
  refine lv_aload_n hx hb dX12_newVariable_74 rfl (lv_at hl 2 rfl) ?_
  refine wmgI_24 (v := (gI σ 24)) S X mG_2105 rfl dX12_newVariable_75 ?_
  refine lv_iload_n hx hb dX12_newVariable_78 rfl (lv_at hl 1 rfl) ?_
  obtain ⟨hi79, hg⟩ := gd_some hg
  refine wmsA_26 S X hi79 dX12_newVariable_79 (fun H locs X => ?_)
  refine lv_aload_n hx hb dX12_newVariable_80 rfl (lv_at hl 2 rfl) ?_
  refine lv_dup hx hb dX12_newVariable_81 rfl ?_
  refine wmgI_24 (v := (gI σ 24)) S X mG_2105 rfl dX12_newVariable_82 ?_
  refine lv_iconst (v := 1) hx hb dX12_newVariable_85 (by decide) ?_
  refine lv_iadd hx hb dX12_newVariable_86 ?_
  refine wmpI_24 S X mG_2105 dX12_newVariable_87 (fun H locs X => ?_)
  refine lv_iload_n hx hb dX12_newVariable_90 rfl (lv_at hl 1 rfl) ?_
  obtain ⟨rfl, rfl⟩ := fin_some hg
  exact gr_i S hr hk X dX12_newVariable_91
end MX12_newVariable
set_option maxRecDepth 100000 in
theorem k2_X12_newVariable (l : Launch) (dC : Nat → ClassId) (dI : Nat → Nat → Nat) {Z : ZZ} (ad : Nat → Nat) (kc : Nat → ClassId) {σ τ : S5} {a1 : Int64} {r : Int32} (hg : f_X12_newVariable a1 σ = some (r, τ)) (sz : Nat) : Met l yX12_newVariable (Cond.code yX12_newVariable cX12_newVariable 5 (some .int) :: uG) { frames := 0, cells := 0, slots := 0, locals := 0 } (gPc (dC, dI) (tM kc) (wM ad kc) Z [.ref (ad 0), .long a1] σ sz) (gQi (dC, dI) (tM kc) (wM ad kc) (va_A (wM ad kc σ) sz) r τ) 0 0 (va_A (wM ad kc σ) sz) :=
  g_start (by decide) (Nat.le_of_ble_eq_true rfl) (fun p e s m below meth c ls S hr hk X hl => w_X12_newVariable S hr hk ⟨Nat.le_refl _, Nat.le_refl _⟩ X hl hg)
section MX12_giveNames
variable {p : Program} {l : Launch} {e : Env} {R : Room} {s : State} {m : MethodId} {args : Array Value} {below : List Frame} {meth : Method} {c : Code} {dC : Nat → ClassId} {dI : Nat → Nat → Nat} {Z : ZZ} {A : Nat → Prop} {ad : Nat → Nat} {kc : Nat → ClassId} {r : Unit} {τ : S5}
set_option maxHeartbeats 4000000 in
set_option maxRecDepth 100000 in
theorem w_X12_giveNames_B12 {σ : S5} {rec12 : Int32 → Int32 → S5 → Option (Unit × S5)} {v1 : Int32} {v2 : Int32} {H : Heap} {locs : List Loc} {ls : Array Slot} (S : CallFix p m c cX12_giveNames 3 s args uG RX12) (hr : meth.sig.returnType = none) (hk : meth.locks = false) (hR : 1 ≤ R.frames ∧ 24 ≤ R.locals)
    (hrec12 : ∀ (v1 : Int32) (v2 : Int32) (σ : S5) (H : Heap) (locs : List Loc) (ls : Array Slot), gX (dC, dI) (tM kc) (wM ad kc) Z A s σ H locs → lv_has ls 3 [(0, .ref (ad 0)), (1, .int v1), (2, .int v2)] → rec12 v1 v2 σ = some (r, τ) → W p l e R s m args below meth c H locs 0 0 (MQ below (gQv (dC, dI) (tM kc) (wM ad kc) A r τ) args s 0 0 A) (F0 m 12 ls []))
    (X : gX (dC, dI) (tM kc) (wM ad kc) Z A s σ H locs) (hl : lv_has ls 3 [(0, .ref (ad 0)), (1, .int v1), (2, .int v2)]) (hg : f_X12_giveNames_B12 rec12 v1 v2 σ = some (r, τ)) : W p l e R s m args below meth c H locs 0 0 (MQ below (gQv (dC, dI) (tM kc) (wM ad kc) A r τ) args s 0 0 A) (F0 m 12 ls []) := by
  have hx := S.1
  have hb := S.2.1
  have hown := S.2.2.2.1
  have hu := S.2.2.2.2
  unfold f_X12_giveNames_B12 at hg
  refine lv_iload_n hx hb dX12_giveNames_12 rfl (lv_at hl 2 rfl) ?_
  refine lv_aload_n hx hb dX12_giveNames_13 rfl (lv_at hl 0 rfl) ?_
  refine wmgR_0_22 S X mG_2072 dX12_giveNames_14 ?_
  refine lv_iload_n hx hb dX12_giveNames_17 rfl (lv_at hl 1 rfl) ?_
  obtain ⟨hi18, hg⟩ := gd_some hg
  refine wmlA_10 (v := (xA σ 10 v1)) S X hi18 rfl dX12_giveNames_18 ?_
  refine lv_icmp_ge (tgt := 46) hx hb dX12_giveNames_19 (by decide) (fun c19 => ?_) (fun c19 => ?_)
  · have hg := (if_pos c19).symm.trans hg
    obtain ⟨-, rfl⟩ := fin_some hg
    exact gr_v S hr hk X dX12_giveNames_46
  · have hg := (if_neg c19).symm.trans hg
    refine lv_aload_n hx hb dX12_giveNames_22 rfl (lv_at hl 0 rfl) ?_
    refine lv_aload_n hx hb dX12_giveNames_23 rfl (lv_at hl 0 rfl) ?_
    refine wmgR_0_24 S X mG_2074 dX12_giveNames_24 ?_
    refine lv_aload_n hx hb dX12_giveNames_27 rfl (lv_at hl 0 rfl) ?_
    refine wmgR_0_21 S X mG_2071 dX12_giveNames_28 ?_
    refine lv_iload_n hx hb dX12_giveNames_31 rfl (lv_at hl 1 rfl) ?_
    obtain ⟨hi32, hg⟩ := gd_some hg
    refine wmlA_9 (v := (xA σ 9 v1)) S X hi32 rfl dX12_giveNames_32 ?_
    refine lv_iload_n hx hb dX12_giveNames_33 rfl (lv_at hl 2 rfl) ?_
    refine lv_iadd hx hb dX12_giveNames_34 ?_
    obtain ⟨hi35, hg⟩ := gd_some hg
    refine wmlB_1 (v := (xB σ 1 ((xA σ 9 v1) + v2))) S X hi35 rfl dX12_giveNames_35 ?_
    obtain ⟨r36, τ36, hq36, hg⟩ := bd_some hg
    refine gc_Vi (As := [.long (xB σ 1 ((xA σ 9 v1) + v2))]) (rest := []) (q0 := 0) (ci := 15) S X (k2_X12_newVariable l dC dI ad kc hq36 H.size) cw_X12_newVariable mG_2676 rfl rfl rfl rfl rfl hl.1 (Nat.le_of_ble_eq_true rfl) dX12_giveNames_36 ⟨by omega, by omega⟩ (fun H locs X => ?_)
    refine lv_pop hx hb dX12_giveNames_39 rfl ?_
    refine lv_iinc (v := (v2 + 1)) (lv' := [(2, .int (v2 + 1)), (0, .ref (ad 0)), (1, .int v1)]) hx hb dX12_giveNames_40 hl (k := 2) rfl (by rfl) (by decide) rfl (fun ls hl => ?_)
    refine lv_goto (tgt := 12) hx hb dX12_giveNames_43 (by decide) ?_
    exact hrec12 _ _ _ _ _ _ X (lv_sub hl [1, 2, 0] rfl) hg
set_option maxHeartbeats 4000000 in
set_option maxRecDepth 100000 in
theorem w_X12_giveNames_L12 (S : CallFix p m c cX12_giveNames 3 s args uG RX12) (hr : meth.sig.returnType = none) (hk : meth.locks = false) (hR : 1 ≤ R.frames ∧ 24 ≤ R.locals) : ∀ (n : Nat) (v1 : Int32) (v2 : Int32) (σ : S5) (H : Heap) (locs : List Loc) (ls : Array Slot), gX (dC, dI) (tM kc) (wM ad kc) Z A s σ H locs → lv_has ls 3 [(0, .ref (ad 0)), (1, .int v1), (2, .int v2)] → f_X12_giveNames_L12  n v1 v2 σ = some (r, τ) → W p l e R s m args below meth c H locs 0 0 (MQ below (gQv (dC, dI) (tM kc) (wM ad kc) A r τ) args s 0 0 A) (F0 m 12 ls []) := by
  intro n
  induction n with
  | zero => intro v1 v2 σ H locs ls X hl hg; cases hg
  | succ n ih => intro v1 v2 σ H locs ls X hl hg; exact w_X12_giveNames_B12 S hr hk hR ih X hl hg
set_option maxHeartbeats 4000000 in
set_option maxRecDepth 100000 in
theorem w_X12_giveNames {σ : S5} {a1 : Int32} {H : Heap} {locs : List Loc} {ls : Array Slot} (S : CallFix p m c cX12_giveNames 3 s args uG RX12) (hr : meth.sig.returnType = none) (hk : meth.locks = false) (hR : 1 ≤ R.frames ∧ 24 ≤ R.locals)
    (X : gX (dC, dI) (tM kc) (wM ad kc) Z A s σ H locs) (hl : lv_has ls 3 [(0, .ref (ad 0)), (1, .int a1)]) (hg : f_X12_giveNames a1 σ = some (r, τ)) : W p l e R s m args below meth c H locs 0 0 (MQ below (gQv (dC, dI) (tM kc) (wM ad kc) A r τ) args s 0 0 A) (F0 m 0 ls []) := by
  have hx := S.1
  have hb := S.2.1
  have hown := S.2.2.2.1
  have hu := S.2.2.2.2
  unfold f_X12_giveNames at hg
  refine lv_aload_n hx hb dX12_giveNames_0 rfl (lv_at hl 0 rfl) ?_
  refine wmgR_0_54 S X mG_2104 dX12_giveNames_1 ?_
  refine lv_iload_n hx hb dX12_giveNames_4 rfl (lv_at hl 1 rfl) ?_
  refine lv_aload_n hx hb dX12_giveNames_5 rfl (lv_at hl 0 rfl) ?_
  refine wmgI_23 (v := (gI σ 23)) S X mG_2100 rfl dX12_giveNames_6 ?_
  obtain ⟨hi9, hg⟩ := gd_some hg
  refine wmsA_25 S X hi9 dX12_giveNames_9 (fun H locs X => ?_)
  refine lv_iconst (v := 0) hx hb dX12_giveNames_10 (by decide) ?_
  refine lv_istore_n (lv' := [(2, .int 0), (0, .ref (ad 0)), (1, .int a1)]) hx hb dX12_giveNames_11 rfl hl (by decide) rfl (fun ls hl => ?_)
  exact w_X12_giveNames_L12 S hr hk hR _ _ _ _ _ _ _ X (lv_sub hl [1, 2, 0] rfl) hg
end MX12_giveNames
set_option maxRecDepth 100000 in
theorem k2_X12_giveNames (l : Launch) (dC : Nat → ClassId) (dI : Nat → Nat → Nat) {Z : ZZ} (ad : Nat → Nat) (kc : Nat → ClassId) {σ τ : S5} {a1 : Int32} {r : Unit} (hg : f_X12_giveNames a1 σ = some (r, τ)) (sz : Nat) : Met l yX12_giveNames (Cond.code yX12_giveNames cX12_giveNames 3 none :: uG) { frames := 1, cells := 0, slots := 0, locals := 24 } (gPc (dC, dI) (tM kc) (wM ad kc) Z [.ref (ad 0), .int a1] σ sz) (gQv (dC, dI) (tM kc) (wM ad kc) (va_A (wM ad kc σ) sz) r τ) 0 0 (va_A (wM ad kc σ) sz) :=
  g_start (by decide) (Nat.le_of_ble_eq_true rfl) (fun p e s m below meth c ls S hr hk X hl => w_X12_giveNames S hr hk ⟨Nat.le_refl _, Nat.le_refl _⟩ X hl hg)
section MX12_numberAll
variable {p : Program} {l : Launch} {e : Env} {R : Room} {s : State} {m : MethodId} {args : Array Value} {below : List Frame} {meth : Method} {c : Code} {dC : Nat → ClassId} {dI : Nat → Nat → Nat} {Z : ZZ} {A : Nat → Prop} {ad : Nat → Nat} {kc : Nat → ClassId} {r : Unit} {τ : S5}
set_option maxHeartbeats 4000000 in
set_option maxRecDepth 100000 in
theorem w_X12_numberAll_B107 {σ : S5} {rec107 : Int32 → S5 → Option (Unit × S5)} {v1 : Int32} {H : Heap} {locs : List Loc} {ls : Array Slot} (S : CallFix p m c cX12_numberAll 2 s args uG RX12) (hr : meth.sig.returnType = none) (hk : meth.locks = false) (hR : 0 ≤ R.frames ∧ 0 ≤ R.locals)
    (hrec107 : ∀ (v1 : Int32) (σ : S5) (H : Heap) (locs : List Loc) (ls : Array Slot), gX (dC, dI) (tM kc) (wM ad kc) Z A s σ H locs → lv_has ls 2 [(0, .ref (ad 0)), (1, .int v1)] → rec107 v1 σ = some (r, τ) → W p l e R s m args below meth c H locs 0 0 (MQ below (gQv (dC, dI) (tM kc) (wM ad kc) A r τ) args s 0 0 A) (F0 m 107 ls []))
    (X : gX (dC, dI) (tM kc) (wM ad kc) Z A s σ H locs) (hl : lv_has ls 2 [(0, .ref (ad 0)), (1, .int v1)]) (hg : f_X12_numberAll_B107 rec107 v1 σ = some (r, τ)) : W p l e R s m args below meth c H locs 0 0 (MQ below (gQv (dC, dI) (tM kc) (wM ad kc) A r τ) args s 0 0 A) (F0 m 107 ls []) := by
  have hx := S.1
  have hb := S.2.1
  have hown := S.2.2.2.1
  have hu := S.2.2.2.2
  unfold f_X12_numberAll_B107 at hg
  refine lv_iload_n hx hb dX12_numberAll_107 rfl (lv_at hl 1 rfl) ?_
  refine lv_aload_n hx hb dX12_numberAll_108 rfl (lv_at hl 0 rfl) ?_
  refine wmgI_22 (v := (gI σ 22)) S X mG_2096 rfl dX12_numberAll_109 ?_
  refine lv_icmp_ge (tgt := 135) hx hb dX12_numberAll_112 (by decide) (fun c112 => ?_) (fun c112 => ?_)
  · have hg := (if_pos c112).symm.trans hg
    obtain ⟨-, rfl⟩ := fin_some hg
    exact gr_v S hr hk X dX12_numberAll_135
  · have hg := (if_neg c112).symm.trans hg
    refine lv_aload_n hx hb dX12_numberAll_115 rfl (lv_at hl 0 rfl) ?_
    refine wmgR_0_48 S X mG_2098 dX12_numberAll_116 ?_
    refine lv_iload_n hx hb dX12_numberAll_119 rfl (lv_at hl 1 rfl) ?_
    refine lv_iconst (v := 0) hx hb dX12_numberAll_120 (by decide) ?_
    obtain ⟨hi121, hg⟩ := gd_some hg
    refine wmsA_20 S X hi121 dX12_numberAll_121 (fun H locs X => ?_)
    refine lv_aload_n hx hb dX12_numberAll_122 rfl (lv_at hl 0 rfl) ?_
    refine wmgR_0_53 S X mG_2103 dX12_numberAll_123 ?_
    refine lv_iload_n hx hb dX12_numberAll_126 rfl (lv_at hl 1 rfl) ?_
    refine lv_iconst (v := 0) hx hb dX12_numberAll_127 (by decide) ?_
    obtain ⟨hi128, hg⟩ := gd_some hg
    refine wmsA_24 S X hi128 dX12_numberAll_128 (fun H locs X => ?_)
    refine lv_iinc (v := (v1 + 1)) (lv' := [(1, .int (v1 + 1)), (0, .ref (ad 0))]) hx hb dX12_numberAll_129 hl (k := 1) rfl (by rfl) (by decide) rfl (fun ls hl => ?_)
    refine lv_goto (tgt := 107) hx hb dX12_numberAll_132 (by decide) ?_
    exact hrec107 _ _ _ _ _ X (lv_sub hl [1, 0] rfl) hg
set_option maxHeartbeats 4000000 in
set_option maxRecDepth 100000 in
theorem w_X12_numberAll_L107 (S : CallFix p m c cX12_numberAll 2 s args uG RX12) (hr : meth.sig.returnType = none) (hk : meth.locks = false) (hR : 0 ≤ R.frames ∧ 0 ≤ R.locals) : ∀ (n : Nat) (v1 : Int32) (σ : S5) (H : Heap) (locs : List Loc) (ls : Array Slot), gX (dC, dI) (tM kc) (wM ad kc) Z A s σ H locs → lv_has ls 2 [(0, .ref (ad 0)), (1, .int v1)] → f_X12_numberAll_L107  n v1 σ = some (r, τ) → W p l e R s m args below meth c H locs 0 0 (MQ below (gQv (dC, dI) (tM kc) (wM ad kc) A r τ) args s 0 0 A) (F0 m 107 ls []) := by
  intro n
  induction n with
  | zero => intro v1 σ H locs ls X hl hg; cases hg
  | succ n ih => intro v1 σ H locs ls X hl hg; exact w_X12_numberAll_B107 S hr hk hR ih X hl hg
set_option maxHeartbeats 4000000 in
set_option maxRecDepth 100000 in
theorem w_X12_numberAll_b99 {σ : S5} {rec10 : Int32 → S5 → Option (Unit × S5)} {v1 : Int32} {H : Heap} {locs : List Loc} {ls : Array Slot} (S : CallFix p m c cX12_numberAll 2 s args uG RX12) (hr : meth.sig.returnType = none) (hk : meth.locks = false) (hR : 0 ≤ R.frames ∧ 0 ≤ R.locals)
    (hrec10 : ∀ (v1 : Int32) (σ : S5) (H : Heap) (locs : List Loc) (ls : Array Slot), gX (dC, dI) (tM kc) (wM ad kc) Z A s σ H locs → lv_has ls 2 [(0, .ref (ad 0)), (1, .int v1)] → rec10 v1 σ = some (r, τ) → W p l e R s m args below meth c H locs 0 0 (MQ below (gQv (dC, dI) (tM kc) (wM ad kc) A r τ) args s 0 0 A) (F0 m 10 ls []))
    (X : gX (dC, dI) (tM kc) (wM ad kc) Z A s σ H locs) (hl : lv_has ls 2 [(0, .ref (ad 0)), (1, .int v1)]) (hg : f_X12_numberAll_b99 rec10 v1 σ = some (r, τ)) : W p l e R s m args below meth c H locs 0 0 (MQ below (gQv (dC, dI) (tM kc) (wM ad kc) A r τ) args s 0 0 A) (F0 m 99 ls []) := by
  have hx := S.1
  have hb := S.2.1
  have hown := S.2.2.2.1
  have hu := S.2.2.2.2
  unfold f_X12_numberAll_b99 at hg
  refine lv_iinc (v := (v1 + 1)) (lv' := [(1, .int (v1 + 1)), (0, .ref (ad 0))]) hx hb dX12_numberAll_99 hl (k := 1) rfl (by rfl) (by decide) rfl (fun ls hl => ?_)
  refine lv_goto (tgt := 10) hx hb dX12_numberAll_102 (by decide) ?_
  exact hrec10 _ _ _ _ _ X (lv_sub hl [1, 0] rfl) hg
set_option maxHeartbeats 4000000 in
set_option maxRecDepth 100000 in
theorem w_X12_numberAll_b54 {σ : S5} {rec10 : Int32 → S5 → Option (Unit × S5)} {v1 : Int32} {H : Heap} {locs : List Loc} {ls : Array Slot} (S : CallFix p m c cX12_numberAll 2 s args uG RX12) (hr : meth.sig.returnType = none) (hk : meth.locks = false) (hR : 0 ≤ R.frames ∧ 0 ≤ R.locals)
    (hrec10 : ∀ (v1 : Int32) (σ : S5) (H : Heap) (locs : List Loc) (ls : Array Slot), gX (dC, dI) (tM kc) (wM ad kc) Z A s σ H locs → lv_has ls 2 [(0, .ref (ad 0)), (1, .int v1)] → rec10 v1 σ = some (r, τ) → W p l e R s m args below meth c H locs 0 0 (MQ below (gQv (dC, dI) (tM kc) (wM ad kc) A r τ) args s 0 0 A) (F0 m 10 ls []))
    (X : gX (dC, dI) (tM kc) (wM ad kc) Z A s σ H locs) (hl : lv_has ls 2 [(0, .ref (ad 0)), (1, .int v1)]) (hg : f_X12_numberAll_b54 rec10 v1 σ = some (r, τ)) : W p l e R s m args below meth c H locs 0 0 (MQ below (gQv (dC, dI) (tM kc) (wM ad kc) A r τ) args s 0 0 A) (F0 m 54 ls []) := by
  have hx := S.1
  have hb := S.2.1
  have hown := S.2.2.2.1
  have hu := S.2.2.2.2
  unfold f_X12_numberAll_b54 at hg
  refine lv_aload_n hx hb dX12_numberAll_54 rfl (lv_at hl 0 rfl) ?_
  refine wmgR_0_47 S X mG_2097 dX12_numberAll_55 ?_
  refine lv_iload_n hx hb dX12_numberAll_58 rfl (lv_at hl 1 rfl) ?_
  refine lv_aload_n hx hb dX12_numberAll_59 rfl (lv_at hl 0 rfl) ?_
  refine wmgI_22 (v := (gI σ 22)) S X mG_2096 rfl dX12_numberAll_60 ?_
  obtain ⟨hi63, hg⟩ := gd_some hg
  refine wmsA_19 S X hi63 dX12_numberAll_63 (fun H locs X => ?_)
  refine lv_aload_n hx hb dX12_numberAll_64 rfl (lv_at hl 0 rfl) ?_
  refine wmgR_0_30 S X mG_2080 dX12_numberAll_65 ?_
  refine lv_aload_n hx hb dX12_numberAll_68 rfl (lv_at hl 0 rfl) ?_
  refine wmgI_22 (v := (gI σ 22)) S X mG_2096 rfl dX12_numberAll_69 ?_
  refine lv_iload_n hx hb dX12_numberAll_72 rfl (lv_at hl 1 rfl) ?_
  obtain ⟨hi73, hg⟩ := gd_some hg
  refine wmsA_12 S X hi73 dX12_numberAll_73 (fun H locs X => ?_)
  refine lv_aload_n hx hb dX12_numberAll_74 rfl (lv_at hl 0 rfl) ?_
  refine wmgR_0_29 S X mG_2079 dX12_numberAll_75 ?_
  refine lv_aload_n hx hb dX12_numberAll_78 rfl (lv_at hl 0 rfl) ?_
  refine wmgI_22 (v := (gI σ 22)) S X mG_2096 rfl dX12_numberAll_79 ?_
  refine lv_aload_n hx hb dX12_numberAll_82 rfl (lv_at hl 0 rfl) ?_
  refine wmgR_0_17 S X mG_2067 dX12_numberAll_83 ?_
  refine lv_iload_n hx hb dX12_numberAll_86 rfl (lv_at hl 1 rfl) ?_
  obtain ⟨hi87, hg⟩ := gd_some hg
  refine wmlA_6 (v := (xA σ 6 v1)) S X hi87 rfl dX12_numberAll_87 ?_
  obtain ⟨hi88, hg⟩ := gd_some hg
  refine wmsA_11 S X hi88 dX12_numberAll_88 (fun H locs X => ?_)
  refine lv_aload_n hx hb dX12_numberAll_89 rfl (lv_at hl 0 rfl) ?_
  refine lv_dup hx hb dX12_numberAll_90 rfl ?_
  refine wmgI_22 (v := (gI σ 22)) S X mG_2096 rfl dX12_numberAll_91 ?_
  refine lv_iconst (v := 1) hx hb dX12_numberAll_94 (by decide) ?_
  refine lv_iadd hx hb dX12_numberAll_95 ?_
  refine wmpI_22 S X mG_2096 dX12_numberAll_96 (fun H locs X => ?_)
  exact w_X12_numberAll_b99 S hr hk hR hrec10 X (lv_sub hl [0, 1] rfl) hg
set_option maxHeartbeats 4000000 in
set_option maxRecDepth 100000 in
theorem w_X12_numberAll_B10 {σ : S5} {rec10 : Int32 → S5 → Option (Unit × S5)} {v1 : Int32} {H : Heap} {locs : List Loc} {ls : Array Slot} (S : CallFix p m c cX12_numberAll 2 s args uG RX12) (hr : meth.sig.returnType = none) (hk : meth.locks = false) (hR : 0 ≤ R.frames ∧ 0 ≤ R.locals)
    (hrec10 : ∀ (v1 : Int32) (σ : S5) (H : Heap) (locs : List Loc) (ls : Array Slot), gX (dC, dI) (tM kc) (wM ad kc) Z A s σ H locs → lv_has ls 2 [(0, .ref (ad 0)), (1, .int v1)] → rec10 v1 σ = some (r, τ) → W p l e R s m args below meth c H locs 0 0 (MQ below (gQv (dC, dI) (tM kc) (wM ad kc) A r τ) args s 0 0 A) (F0 m 10 ls []))
    (X : gX (dC, dI) (tM kc) (wM ad kc) Z A s σ H locs) (hl : lv_has ls 2 [(0, .ref (ad 0)), (1, .int v1)]) (hg : f_X12_numberAll_B10 rec10 v1 σ = some (r, τ)) : W p l e R s m args below meth c H locs 0 0 (MQ below (gQv (dC, dI) (tM kc) (wM ad kc) A r τ) args s 0 0 A) (F0 m 10 ls []) := by
  have hx := S.1
  have hb := S.2.1
  have hown := S.2.2.2.1
  have hu := S.2.2.2.2
  unfold f_X12_numberAll_B10 at hg
  refine lv_iload_n hx hb dX12_numberAll_10 rfl (lv_at hl 1 rfl) ?_
  refine lv_aload_n hx hb dX12_numberAll_11 rfl (lv_at hl 0 rfl) ?_
  refine wmgI_9 (v := (gI σ 9)) S X mG_2062 rfl dX12_numberAll_12 ?_
  refine lv_icmp_ge (tgt := 105) hx hb dX12_numberAll_15 (by decide) (fun c15 => ?_) (fun c15 => ?_)
  · have hg := (if_pos c15).symm.trans hg
    refine lv_iconst (v := 0) hx hb dX12_numberAll_105 (by decide) ?_
    refine lv_istore_n (lv' := [(1, .int 0), (0, .ref (ad 0))]) hx hb dX12_numberAll_106 rfl hl (by decide) rfl (fun ls hl => ?_)
    exact w_X12_numberAll_L107 S hr hk hR _ _ _ _ _ _ X (lv_sub hl [1, 0] rfl) hg
  · have hg := (if_neg c15).symm.trans hg
    refine lv_aload_n hx hb dX12_numberAll_18 rfl (lv_at hl 0 rfl) ?_
    refine wmgR_0_47 S X mG_2097 dX12_numberAll_19 ?_
    refine lv_iload_n hx hb dX12_numberAll_22 rfl (lv_at hl 1 rfl) ?_
    refine lv_iconst (v := (-1)) hx hb dX12_numberAll_23 (by decide) ?_
    obtain ⟨hi24, hg⟩ := gd_some hg
    refine wmsA_19 S X hi24 dX12_numberAll_24 (fun H locs X => ?_)
    refine lv_aload_n hx hb dX12_numberAll_25 rfl (lv_at hl 0 rfl) ?_
    refine wmgR_0_13 S X mG_2063 dX12_numberAll_26 ?_
    refine lv_iload_n hx hb dX12_numberAll_29 rfl (lv_at hl 1 rfl) ?_
    obtain ⟨hi30, hg⟩ := gd_some hg
    refine wmlA_2 (v := (xA σ 2 v1)) S X hi30 rfl dX12_numberAll_30 ?_
    refine lv_iconst (v := 2) hx hb dX12_numberAll_31 (by decide) ?_
    refine lv_icmp_eq (tgt := 54) hx hb dX12_numberAll_32 (by decide) (fun c32 => ?_) (fun c32 => ?_)
    · have hg := (if_pos c32).symm.trans hg
      exact w_X12_numberAll_b54 S hr hk hR hrec10 X (lv_sub hl [0, 1] rfl) hg
    · have hg := (if_neg c32).symm.trans hg
      refine lv_aload_n hx hb dX12_numberAll_35 rfl (lv_at hl 0 rfl) ?_
      refine wmgR_0_13 S X mG_2063 dX12_numberAll_36 ?_
      refine lv_iload_n hx hb dX12_numberAll_39 rfl (lv_at hl 1 rfl) ?_
      obtain ⟨hi40, hg⟩ := gd_some hg
      refine wmlA_2 (v := (xA σ 2 v1)) S X hi40 rfl dX12_numberAll_40 ?_
      refine lv_iconst (v := 1) hx hb dX12_numberAll_41 (by decide) ?_
      refine lv_icmp_ne (tgt := 99) hx hb dX12_numberAll_42 (by decide) (fun c42 => ?_) (fun c42 => ?_)
      · have hg := (if_neg c42).symm.trans hg
        exact w_X12_numberAll_b99 S hr hk hR hrec10 X (lv_sub hl [0, 1] rfl) hg
      · have hg := (if_pos c42).symm.trans hg
        refine lv_aload_n hx hb dX12_numberAll_45 rfl (lv_at hl 0 rfl) ?_
        refine wmgR_0_22 S X mG_2072 dX12_numberAll_46 ?_
        refine lv_iload_n hx hb dX12_numberAll_49 rfl (lv_at hl 1 rfl) ?_
        obtain ⟨hi50, hg⟩ := gd_some hg
        refine wmlA_10 (v := (xA σ 10 v1)) S X hi50 rfl dX12_numberAll_50 ?_
        refine lv_if_le (tgt := 99) hx hb dX12_numberAll_51 (by decide) (fun c51 => ?_) (fun c51 => ?_)
        · have hg := (if_pos c51).symm.trans hg
          exact w_X12_numberAll_b99 S hr hk hR hrec10 X (lv_sub hl [0, 1] rfl) hg
        · have hg := (if_neg c51).symm.trans hg
          exact w_X12_numberAll_b54 S hr hk hR hrec10 X (lv_sub hl [0, 1] rfl) hg
set_option maxHeartbeats 4000000 in
set_option maxRecDepth 100000 in
theorem w_X12_numberAll_L10 (S : CallFix p m c cX12_numberAll 2 s args uG RX12) (hr : meth.sig.returnType = none) (hk : meth.locks = false) (hR : 0 ≤ R.frames ∧ 0 ≤ R.locals) : ∀ (n : Nat) (v1 : Int32) (σ : S5) (H : Heap) (locs : List Loc) (ls : Array Slot), gX (dC, dI) (tM kc) (wM ad kc) Z A s σ H locs → lv_has ls 2 [(0, .ref (ad 0)), (1, .int v1)] → f_X12_numberAll_L10  n v1 σ = some (r, τ) → W p l e R s m args below meth c H locs 0 0 (MQ below (gQv (dC, dI) (tM kc) (wM ad kc) A r τ) args s 0 0 A) (F0 m 10 ls []) := by
  intro n
  induction n with
  | zero => intro v1 σ H locs ls X hl hg; cases hg
  | succ n ih => intro v1 σ H locs ls X hl hg; exact w_X12_numberAll_B10 S hr hk hR ih X hl hg
set_option maxHeartbeats 4000000 in
set_option maxRecDepth 100000 in
theorem w_X12_numberAll {σ : S5}  {H : Heap} {locs : List Loc} {ls : Array Slot} (S : CallFix p m c cX12_numberAll 2 s args uG RX12) (hr : meth.sig.returnType = none) (hk : meth.locks = false) (hR : 0 ≤ R.frames ∧ 0 ≤ R.locals)
    (X : gX (dC, dI) (tM kc) (wM ad kc) Z A s σ H locs) (hl : lv_has ls 2 [(0, .ref (ad 0))]) (hg : f_X12_numberAll  σ = some (r, τ)) : W p l e R s m args below meth c H locs 0 0 (MQ below (gQv (dC, dI) (tM kc) (wM ad kc) A r τ) args s 0 0 A) (F0 m 0 ls []) := by
  have hx := S.1
  have hb := S.2.1
  have hown := S.2.2.2.1
  have hu := S.2.2.2.2
  unfold f_X12_numberAll at hg
  refine lv_aload_n hx hb dX12_numberAll_0 rfl (lv_at hl 0 rfl) ?_
  refine lv_aload_n hx hb dX12_numberAll_1 rfl (lv_at hl 0 rfl) ?_
  refine wmgI_13 (v := (gI σ 13)) S X mG_2077 rfl dX12_numberAll_2 ?_
  refine wmpI_22 S X mG_2096 dX12_numberAll_5 (fun H locs X => ?_)
  refine lv_iconst (v := 0) hx hb dX12_numberAll_8 (by decide) ?_
  refine lv_istore_n (lv' := [(1, .int 0), (0, .ref (ad 0))]) hx hb dX12_numberAll_9 rfl hl (by decide) rfl (fun ls hl => ?_)
  exact w_X12_numberAll_L10 S hr hk hR _ _ _ _ _ _ X (lv_sub hl [1, 0] rfl) hg
end MX12_numberAll
set_option maxRecDepth 100000 in
theorem k2_X12_numberAll (l : Launch) (dC : Nat → ClassId) (dI : Nat → Nat → Nat) {Z : ZZ} (ad : Nat → Nat) (kc : Nat → ClassId) {σ τ : S5}  {r : Unit} (hg : f_X12_numberAll  σ = some (r, τ)) (sz : Nat) : Met l yX12_numberAll (Cond.code yX12_numberAll cX12_numberAll 2 none :: uG) { frames := 0, cells := 0, slots := 0, locals := 0 } (gPc (dC, dI) (tM kc) (wM ad kc) Z [.ref (ad 0)] σ sz) (gQv (dC, dI) (tM kc) (wM ad kc) (va_A (wM ad kc σ) sz) r τ) 0 0 (va_A (wM ad kc σ) sz) :=
  g_start (by decide) (Nat.le_of_ble_eq_true rfl) (fun p e s m below meth c ls S hr hk X hl => w_X12_numberAll S hr hk ⟨Nat.le_refl _, Nat.le_refl _⟩ X hl hg)
section MX12_addFree
variable {p : Program} {l : Launch} {e : Env} {R : Room} {s : State} {m : MethodId} {args : Array Value} {below : List Frame} {meth : Method} {c : Code} {dC : Nat → ClassId} {dI : Nat → Nat → Nat} {Z : ZZ} {A : Nat → Prop} {ad : Nat → Nat} {kc : Nat → ClassId} {r : Unit} {τ : S5}
set_option maxHeartbeats 4000000 in
set_option maxRecDepth 100000 in
theorem w_X12_addFree_b41 {σ : S5} {rec5 : Int32 → Int32 → Int32 → Int32 → S5 → Option (Unit × S5)} {v1 : Int32} {v2 : Int32} {v4 : Int32} {u0 : Int32} {H : Heap} {locs : List Loc} {ls : Array Slot} (S : CallFix p m c cX12_addFree 5 s args uG RX12) (hr : meth.sig.returnType = none) (hk : meth.locks = false) (hR : 0 ≤ R.frames ∧ 0 ≤ R.locals)
    (hrec5 : ∀ (v1 : Int32) (v2 : Int32) (v3 : Int32) (v4 : Int32) (σ : S5) (H : Heap) (locs : List Loc) (ls : Array Slot), gX (dC, dI) (tM kc) (wM ad kc) Z A s σ H locs → lv_has ls 5 [(0, .ref (ad 0)), (1, .int v1), (2, .int v2), (3, .int v3), (4, .int v4)] → rec5 v1 v2 v3 v4 σ = some (r, τ) → W p l e R s m args below meth c H locs 0 0 (MQ below (gQv (dC, dI) (tM kc) (wM ad kc) A r τ) args s 0 0 A) (F0 m 5 ls []))
    (X : gX (dC, dI) (tM kc) (wM ad kc) Z A s σ H locs) (hl : lv_has ls 5 [(0, .ref (ad 0)), (1, .int v1), (2, .int v2), (4, .int v4)]) (hg : f_X12_addFree_b41 rec5 v1 v2 v4 u0 σ = some (r, τ)) : W p l e R s m args below meth c H locs 0 0 (MQ below (gQv (dC, dI) (tM kc) (wM ad kc) A r τ) args s 0 0 A) (F0 m 41 ls [.int u0]) := by
  have hx := S.1
  have hb := S.2.1
  have hown := S.2.2.2.1
  have hu := S.2.2.2.2
  unfold f_X12_addFree_b41 at hg
  refine lv_istore_n (lv' := [(3, .int u0), (0, .ref (ad 0)), (1, .int v1), (2, .int v2), (4, .int v4)]) hx hb dX12_addFree_41 rfl hl (by decide) rfl (fun ls hl => ?_)
  refine lv_iinc (v := (v4 + 1)) (lv' := [(4, .int (v4 + 1)), (3, .int u0), (0, .ref (ad 0)), (1, .int v1), (2, .int v2)]) hx hb dX12_addFree_42 hl (k := 4) rfl (by rfl) (by decide) rfl (fun ls hl => ?_)
  refine lv_goto (tgt := 5) hx hb dX12_addFree_45 (by decide) ?_
  exact hrec5 _ _ _ _ _ _ _ _ X (lv_sub hl [2, 3, 4, 1, 0] rfl) hg
set_option maxHeartbeats 4000000 in
set_option maxRecDepth 100000 in
theorem w_X12_addFree_b36 {σ : S5} {rec5 : Int32 → Int32 → Int32 → Int32 → S5 → Option (Unit × S5)} {v1 : Int32} {v2 : Int32} {v4 : Int32} {H : Heap} {locs : List Loc} {ls : Array Slot} (S : CallFix p m c cX12_addFree 5 s args uG RX12) (hr : meth.sig.returnType = none) (hk : meth.locks = false) (hR : 0 ≤ R.frames ∧ 0 ≤ R.locals)
    (hrec5 : ∀ (v1 : Int32) (v2 : Int32) (v3 : Int32) (v4 : Int32) (σ : S5) (H : Heap) (locs : List Loc) (ls : Array Slot), gX (dC, dI) (tM kc) (wM ad kc) Z A s σ H locs → lv_has ls 5 [(0, .ref (ad 0)), (1, .int v1), (2, .int v2), (3, .int v3), (4, .int v4)] → rec5 v1 v2 v3 v4 σ = some (r, τ) → W p l e R s m args below meth c H locs 0 0 (MQ below (gQv (dC, dI) (tM kc) (wM ad kc) A r τ) args s 0 0 A) (F0 m 5 ls []))
    (X : gX (dC, dI) (tM kc) (wM ad kc) Z A s σ H locs) (hl : lv_has ls 5 [(0, .ref (ad 0)), (1, .int v1), (2, .int v2), (4, .int v4)]) (hg : f_X12_addFree_b36 rec5 v1 v2 v4 σ = some (r, τ)) : W p l e R s m args below meth c H locs 0 0 (MQ below (gQv (dC, dI) (tM kc) (wM ad kc) A r τ) args s 0 0 A) (F0 m 36 ls []) := by
  have hx := S.1
  have hb := S.2.1
  have hown := S.2.2.2.1
  have hu := S.2.2.2.2
  unfold f_X12_addFree_b36 at hg
  refine lv_iconst (v := 1) hx hb dX12_addFree_36 (by decide) ?_
  refine lv_goto (tgt := 41) hx hb dX12_addFree_37 (by decide) ?_
  exact w_X12_addFree_b41 S hr hk hR hrec5 X (lv_sub hl [0, 1, 2, 3] rfl) hg
set_option maxHeartbeats 4000000 in
set_option maxRecDepth 100000 in
theorem w_X12_addFree_B5 {σ : S5} {rec5 : Int32 → Int32 → Int32 → Int32 → S5 → Option (Unit × S5)} {v1 : Int32} {v2 : Int32} {v3 : Int32} {v4 : Int32} {H : Heap} {locs : List Loc} {ls : Array Slot} (S : CallFix p m c cX12_addFree 5 s args uG RX12) (hr : meth.sig.returnType = none) (hk : meth.locks = false) (hR : 0 ≤ R.frames ∧ 0 ≤ R.locals)
    (hrec5 : ∀ (v1 : Int32) (v2 : Int32) (v3 : Int32) (v4 : Int32) (σ : S5) (H : Heap) (locs : List Loc) (ls : Array Slot), gX (dC, dI) (tM kc) (wM ad kc) Z A s σ H locs → lv_has ls 5 [(0, .ref (ad 0)), (1, .int v1), (2, .int v2), (3, .int v3), (4, .int v4)] → rec5 v1 v2 v3 v4 σ = some (r, τ) → W p l e R s m args below meth c H locs 0 0 (MQ below (gQv (dC, dI) (tM kc) (wM ad kc) A r τ) args s 0 0 A) (F0 m 5 ls []))
    (X : gX (dC, dI) (tM kc) (wM ad kc) Z A s σ H locs) (hl : lv_has ls 5 [(0, .ref (ad 0)), (1, .int v1), (2, .int v2), (3, .int v3), (4, .int v4)]) (hg : f_X12_addFree_B5 rec5 v1 v2 v3 v4 σ = some (r, τ)) : W p l e R s m args below meth c H locs 0 0 (MQ below (gQv (dC, dI) (tM kc) (wM ad kc) A r τ) args s 0 0 A) (F0 m 5 ls []) := by
  have hx := S.1
  have hb := S.2.1
  have hown := S.2.2.2.1
  have hu := S.2.2.2.2
  unfold f_X12_addFree_B5 at hg
  refine lv_iload hx hb dX12_addFree_5 (lv_at hl 4 rfl) ?_
  refine lv_aload_n hx hb dX12_addFree_7 rfl (lv_at hl 0 rfl) ?_
  refine wmgR_0_48 S X mG_2098 dX12_addFree_8 ?_
  refine lv_iload_n hx hb dX12_addFree_11 rfl (lv_at hl 1 rfl) ?_
  obtain ⟨hi12, hg⟩ := gd_some hg
  refine wmlA_20 (v := (xA σ 20 v1)) S X hi12 rfl dX12_addFree_12 ?_
  refine lv_icmp_ge (tgt := 48) hx hb dX12_addFree_13 (by decide) (fun c13 => ?_) (fun c13 => ?_)
  · have hg := (if_pos c13).symm.trans hg
    refine lv_iload_n hx hb dX12_addFree_48 rfl (lv_at hl 3 rfl) ?_
    refine lv_if_ne (tgt := 90) hx hb dX12_addFree_49 (by decide) (fun c49 => ?_) (fun c49 => ?_)
    · have hg := (if_neg c49).symm.trans hg
      obtain ⟨-, rfl⟩ := fin_some hg
      exact gr_v S hr hk X dX12_addFree_90
    · have hg := (if_pos c49).symm.trans hg
      refine lv_aload_n hx hb dX12_addFree_52 rfl (lv_at hl 0 rfl) ?_
      refine wmgR_0_48 S X mG_2098 dX12_addFree_53 ?_
      refine lv_iload_n hx hb dX12_addFree_56 rfl (lv_at hl 1 rfl) ?_
      obtain ⟨hi57, hg⟩ := gd_some hg
      refine wmlA_20 (v := (xA σ 20 v1)) S X hi57 rfl dX12_addFree_57 ?_
      refine lv_bipush (v := 9) hx hb dX12_addFree_58 (by decide) ?_
      refine lv_icmp_ge (tgt := 90) hx hb dX12_addFree_60 (by decide) (fun c60 => ?_) (fun c60 => ?_)
      · have hg := (if_pos c60).symm.trans hg
        obtain ⟨-, rfl⟩ := fin_some hg
        exact gr_v S hr hk X dX12_addFree_90
      · have hg := (if_neg c60).symm.trans hg
        refine lv_aload_n hx hb dX12_addFree_63 rfl (lv_at hl 0 rfl) ?_
        refine wmgR_0_49 S X mG_2099 dX12_addFree_64 ?_
        refine lv_bipush (v := 9) hx hb dX12_addFree_67 (by decide) ?_
        refine lv_iload_n hx hb dX12_addFree_69 rfl (lv_at hl 1 rfl) ?_
        refine lv_imul hx hb dX12_addFree_70 ?_
        refine lv_aload_n hx hb dX12_addFree_71 rfl (lv_at hl 0 rfl) ?_
        refine wmgR_0_48 S X mG_2098 dX12_addFree_72 ?_
        refine lv_iload_n hx hb dX12_addFree_75 rfl (lv_at hl 1 rfl) ?_
        obtain ⟨hi76, hg⟩ := gd_some hg
        refine wmlA_20 (v := (xA σ 20 v1)) S X hi76 rfl dX12_addFree_76 ?_
        refine lv_iadd hx hb dX12_addFree_77 ?_
        refine lv_iload_n hx hb dX12_addFree_78 rfl (lv_at hl 2 rfl) ?_
        obtain ⟨hi79, hg⟩ := gd_some hg
        refine wmsA_21 S X hi79 dX12_addFree_79 (fun H locs X => ?_)
        refine lv_aload_n hx hb dX12_addFree_80 rfl (lv_at hl 0 rfl) ?_
        refine wmgR_0_48 S X mG_2098 dX12_addFree_81 ?_
        refine lv_iload_n hx hb dX12_addFree_84 rfl (lv_at hl 1 rfl) ?_
        refine lv_dup2_11 hx hb dX12_addFree_85 rfl rfl ?_
        obtain ⟨hi86, hg⟩ := gd_some hg
        refine wmlA_20 (v := (xA σ 20 v1)) S X hi86 rfl dX12_addFree_86 ?_
        refine lv_iconst (v := 1) hx hb dX12_addFree_87 (by decide) ?_
        refine lv_iadd hx hb dX12_addFree_88 ?_
        obtain ⟨hi89, hg⟩ := gd_some hg
        refine wmsA_20 S X hi89 dX12_addFree_89 (fun H locs X => ?_)
        obtain ⟨-, rfl⟩ := fin_some hg
        exact gr_v S hr hk X dX12_addFree_90
  · have hg := (if_neg c13).symm.trans hg
    refine lv_iload_n hx hb dX12_addFree_16 rfl (lv_at hl 3 rfl) ?_
    refine lv_if_ne (tgt := 36) hx hb dX12_addFree_17 (by decide) (fun c17 => ?_) (fun c17 => ?_)
    · have hg := (if_neg c17).symm.trans hg
      exact w_X12_addFree_b36 S hr hk hR hrec5 X (lv_sub hl [0, 1, 2, 4] rfl) hg
    · have hg := (if_pos c17).symm.trans hg
      refine lv_aload_n hx hb dX12_addFree_20 rfl (lv_at hl 0 rfl) ?_
      refine wmgR_0_49 S X mG_2099 dX12_addFree_21 ?_
      refine lv_bipush (v := 9) hx hb dX12_addFree_24 (by decide) ?_
      refine lv_iload_n hx hb dX12_addFree_26 rfl (lv_at hl 1 rfl) ?_
      refine lv_imul hx hb dX12_addFree_27 ?_
      refine lv_iload hx hb dX12_addFree_28 (lv_at hl 4 rfl) ?_
      refine lv_iadd hx hb dX12_addFree_30 ?_
      obtain ⟨hi31, hg⟩ := gd_some hg
      refine wmlA_21 (v := (xA σ 21 ((9 * v1) + v4))) S X hi31 rfl dX12_addFree_31 ?_
      refine lv_iload_n hx hb dX12_addFree_32 rfl (lv_at hl 2 rfl) ?_
      refine lv_icmp_ne (tgt := 40) hx hb dX12_addFree_33 (by decide) (fun c33 => ?_) (fun c33 => ?_)
      · have hg := (if_neg c33).symm.trans hg
        refine lv_iconst (v := 0) hx hb dX12_addFree_40 (by decide) ?_
        exact w_X12_addFree_b41 S hr hk hR hrec5 X (lv_sub hl [0, 1, 2, 4] rfl) hg
      · have hg := (if_pos c33).symm.trans hg
        exact w_X12_addFree_b36 S hr hk hR hrec5 X (lv_sub hl [0, 1, 2, 4] rfl) hg
set_option maxHeartbeats 4000000 in
set_option maxRecDepth 100000 in
theorem w_X12_addFree_L5 (S : CallFix p m c cX12_addFree 5 s args uG RX12) (hr : meth.sig.returnType = none) (hk : meth.locks = false) (hR : 0 ≤ R.frames ∧ 0 ≤ R.locals) : ∀ (n : Nat) (v1 : Int32) (v2 : Int32) (v3 : Int32) (v4 : Int32) (σ : S5) (H : Heap) (locs : List Loc) (ls : Array Slot), gX (dC, dI) (tM kc) (wM ad kc) Z A s σ H locs → lv_has ls 5 [(0, .ref (ad 0)), (1, .int v1), (2, .int v2), (3, .int v3), (4, .int v4)] → f_X12_addFree_L5  n v1 v2 v3 v4 σ = some (r, τ) → W p l e R s m args below meth c H locs 0 0 (MQ below (gQv (dC, dI) (tM kc) (wM ad kc) A r τ) args s 0 0 A) (F0 m 5 ls []) := by
  intro n
  induction n with
  | zero => intro v1 v2 v3 v4 σ H locs ls X hl hg; cases hg
  | succ n ih => intro v1 v2 v3 v4 σ H locs ls X hl hg; exact w_X12_addFree_B5 S hr hk hR ih X hl hg
set_option maxHeartbeats 4000000 in
set_option maxRecDepth 100000 in
theorem w_X12_addFree {σ : S5} {a1 : Int32} {a2 : Int32} {H : Heap} {locs : List Loc} {ls : Array Slot} (S : CallFix p m c cX12_addFree 5 s args uG RX12) (hr : meth.sig.returnType = none) (hk : meth.locks = false) (hR : 0 ≤ R.frames ∧ 0 ≤ R.locals)
    (X : gX (dC, dI) (tM kc) (wM ad kc) Z A s σ H locs) (hl : lv_has ls 5 [(0, .ref (ad 0)), (1, .int a1), (2, .int a2)]) (hg : f_X12_addFree a1 a2 σ = some (r, τ)) : W p l e R s m args below meth c H locs 0 0 (MQ below (gQv (dC, dI) (tM kc) (wM ad kc) A r τ) args s 0 0 A) (F0 m 0 ls []) := by
  have hx := S.1
  have hb := S.2.1
  have hown := S.2.2.2.1
  have hu := S.2.2.2.2
  unfold f_X12_addFree at hg
  refine lv_iconst (v := 0) hx hb dX12_addFree_0 (by decide) ?_
  refine lv_istore_n (lv' := [(3, .int 0), (0, .ref (ad 0)), (1, .int a1), (2, .int a2)]) hx hb dX12_addFree_1 rfl hl (by decide) rfl (fun ls hl => ?_)
  refine lv_iconst (v := 0) hx hb dX12_addFree_2 (by decide) ?_
  refine lv_istore (lv' := [(4, .int 0), (3, .int 0), (0, .ref (ad 0)), (1, .int a1), (2, .int a2)]) hx hb dX12_addFree_3 hl (by decide) rfl (fun ls hl => ?_)
  exact w_X12_addFree_L5 S hr hk hR _ _ _ _ _ _ _ _ _ X (lv_sub hl [2, 3, 4, 1, 0] rfl) hg
end MX12_addFree
set_option maxRecDepth 100000 in
theorem k2_X12_addFree (l : Launch) (dC : Nat → ClassId) (dI : Nat → Nat → Nat) {Z : ZZ} (ad : Nat → Nat) (kc : Nat → ClassId) {σ τ : S5} {a1 : Int32} {a2 : Int32} {r : Unit} (hg : f_X12_addFree a1 a2 σ = some (r, τ)) (sz : Nat) : Met l yX12_addFree (Cond.code yX12_addFree cX12_addFree 5 none :: uG) { frames := 0, cells := 0, slots := 0, locals := 0 } (gPc (dC, dI) (tM kc) (wM ad kc) Z [.ref (ad 0), .int a1, .int a2] σ sz) (gQv (dC, dI) (tM kc) (wM ad kc) (va_A (wM ad kc σ) sz) r τ) 0 0 (va_A (wM ad kc σ) sz) :=
  g_start (by decide) (Nat.le_of_ble_eq_true rfl) (fun p e s m below meth c ls S hr hk X hl => w_X12_addFree S hr hk ⟨Nat.le_refl _, Nat.le_refl _⟩ X hl hg)
section MX12_use
variable {p : Program} {l : Launch} {e : Env} {R : Room} {s : State} {m : MethodId} {args : Array Value} {below : List Frame} {meth : Method} {c : Code} {dC : Nat → ClassId} {dI : Nat → Nat → Nat} {Z : ZZ} {A : Nat → Prop} {ad : Nat → Nat} {kc : Nat → ClassId} {r : Unit} {τ : S5}
set_option maxHeartbeats 4000000 in
set_option maxRecDepth 100000 in
theorem w_X12_use_b133 {σ : S5} {v1 : Int32} {v3 : Int32} {H : Heap} {locs : List Loc} {ls : Array Slot} (S : CallFix p m c cX12_use 5 s args uG RX12) (hr : meth.sig.returnType = none) (hk : meth.locks = false) (hR : 1 ≤ R.frames ∧ 24 ≤ R.locals)
    (X : gX (dC, dI) (tM kc) (wM ad kc) Z A s σ H locs) (hl : lv_has ls 5 [(0, .ref (ad 0)), (1, .int v1), (3, .int v3)]) (hg : f_X12_use_b133 v1 v3 σ = some (r, τ)) : W p l e R s m args below meth c H locs 0 0 (MQ below (gQv (dC, dI) (tM kc) (wM ad kc) A r τ) args s 0 0 A) (F0 m 133 ls []) := by
  have hx := S.1
  have hb := S.2.1
  have hown := S.2.2.2.1
  have hu := S.2.2.2.2
  unfold f_X12_use_b133 at hg
  refine lv_aload_n hx hb dX12_use_133 rfl (lv_at hl 0 rfl) ?_
  refine wmgR_0_19 S X mG_2069 dX12_use_134 ?_
  refine lv_iload_n hx hb dX12_use_137 rfl (lv_at hl 1 rfl) ?_
  refine lv_iconst (v := 0) hx hb dX12_use_138 (by decide) ?_
  obtain ⟨hi139, hg⟩ := gd_some hg
  refine wmsA_8 S X hi139 dX12_use_139 (fun H locs X => ?_)
  refine lv_aload_n hx hb dX12_use_140 rfl (lv_at hl 0 rfl) ?_
  refine wmgR_0_18 S X mG_2068 dX12_use_141 ?_
  refine lv_iload_n hx hb dX12_use_144 rfl (lv_at hl 1 rfl) ?_
  refine lv_iload_n hx hb dX12_use_145 rfl (lv_at hl 2 rfl) ?_
  obtain ⟨hi146, hg⟩ := gd_some hg
  refine wmsA_7 S X hi146 dX12_use_146 (fun H locs X => ?_)
  refine lv_iload_n hx hb dX12_use_147 rfl (lv_at hl 2 rfl) ?_
  refine lv_aload_n hx hb dX12_use_148 rfl (lv_at hl 0 rfl) ?_
  refine wmgI_13 (v := (gI σ 13)) S X mG_2077 rfl dX12_use_149 ?_
  refine lv_icmp_ne (tgt := 166) hx hb dX12_use_152 (by decide) (fun c152 => ?_) (fun c152 => ?_)
  · have hg := (if_neg c152).symm.trans hg
    obtain ⟨-, rfl⟩ := fin_some hg
    exact gr_v S hr hk X dX12_use_166
  · have hg := (if_pos c152).symm.trans hg
    refine lv_aload_n hx hb dX12_use_155 rfl (lv_at hl 0 rfl) ?_
    refine lv_iconst (v := 5) hx hb dX12_use_156 (by decide) ?_
    refine lv_aload_n hx hb dX12_use_157 rfl (lv_at hl 0 rfl) ?_
    refine wmgR_0_17 S X mG_2067 dX12_use_158 ?_
    refine lv_iload_n hx hb dX12_use_161 rfl (lv_at hl 1 rfl) ?_
    obtain ⟨hi162, hg⟩ := gd_some hg
    refine wmlA_6 (v := (xA σ 6 v1)) S X hi162 rfl dX12_use_162 ?_
    obtain ⟨r163, τ163, hq163, hg⟩ := bd_some hg
    refine gc_Vv (As := [.int 5, .int (xA σ 6 v1)]) (rest := []) (q0 := 0) (ci := 15) S X (k2_X12_fail l dC dI ad kc hq163 H.size) cw_X12_fail mG_2522 rfl rfl rfl rfl rfl hl.1 (Nat.le_of_ble_eq_true rfl) dX12_use_163 ⟨by omega, by omega⟩ (fun H locs X => ?_)
    obtain ⟨-, rfl⟩ := fin_some hg
    exact gr_v S hr hk X dX12_use_166
set_option maxHeartbeats 4000000 in
set_option maxRecDepth 100000 in
theorem w_X12_use_B103 {σ : S5} {rec103 : Int32 → Int32 → S5 → Option (Unit × S5)} {v1 : Int32} {v3 : Int32} {H : Heap} {locs : List Loc} {ls : Array Slot} (S : CallFix p m c cX12_use 5 s args uG RX12) (hr : meth.sig.returnType = none) (hk : meth.locks = false) (hR : 1 ≤ R.frames ∧ 24 ≤ R.locals)
    (hrec103 : ∀ (v1 : Int32) (v3 : Int32) (σ : S5) (H : Heap) (locs : List Loc) (ls : Array Slot), gX (dC, dI) (tM kc) (wM ad kc) Z A s σ H locs → lv_has ls 5 [(0, .ref (ad 0)), (1, .int v1), (3, .int v3)] → rec103 v1 v3 σ = some (r, τ) → W p l e R s m args below meth c H locs 0 0 (MQ below (gQv (dC, dI) (tM kc) (wM ad kc) A r τ) args s 0 0 A) (F0 m 103 ls []))
    (X : gX (dC, dI) (tM kc) (wM ad kc) Z A s σ H locs) (hl : lv_has ls 5 [(0, .ref (ad 0)), (1, .int v1), (3, .int v3)]) (hg : f_X12_use_B103 rec103 v1 v3 σ = some (r, τ)) : W p l e R s m args below meth c H locs 0 0 (MQ below (gQv (dC, dI) (tM kc) (wM ad kc) A r τ) args s 0 0 A) (F0 m 103 ls []) := by
  have hx := S.1
  have hb := S.2.1
  have hown := S.2.2.2.1
  have hu := S.2.2.2.2
  unfold f_X12_use_B103 at hg
  refine lv_iload_n hx hb dX12_use_103 rfl (lv_at hl 2 rfl) ?_
  refine lv_aload_n hx hb dX12_use_104 rfl (lv_at hl 0 rfl) ?_
  refine wmgI_13 (v := (gI σ 13)) S X mG_2077 rfl dX12_use_105 ?_
  refine lv_icmp_ge (tgt := 133) hx hb dX12_use_108 (by decide) (fun c108 => ?_) (fun c108 => ?_)
  · have hg := (if_pos c108).symm.trans hg
    exact w_X12_use_b133 S hr hk hR X (lv_sub hl [0, 1, 2] rfl) hg
  · have hg := (if_neg c108).symm.trans hg
    refine lv_aload_n hx hb dX12_use_111 rfl (lv_at hl 0 rfl) ?_
    refine wmgR_0_28 S X mG_2078 dX12_use_112 ?_
    refine lv_iload_n hx hb dX12_use_115 rfl (lv_at hl 2 rfl) ?_
    obtain ⟨hi116, hg⟩ := gd_some hg
    refine wmlB_2 (v := (xB σ 2 v3)) S X hi116 rfl dX12_use_116 ?_
    refine lv_aload_n hx hb dX12_use_117 rfl (lv_at hl 0 rfl) ?_
    refine wmgR_0_20 S X mG_2070 dX12_use_118 ?_
    refine lv_iload_n hx hb dX12_use_121 rfl (lv_at hl 1 rfl) ?_
    obtain ⟨hi122, hg⟩ := gd_some hg
    refine wmlB_0 (v := (xB σ 0 v1)) S X hi122 rfl dX12_use_122 ?_
    refine W.lcmp hx hb dX12_use_123 ?_
    refine lv_if_eq (tgt := 133) hx hb dX12_use_124 (by decide) (fun c124 => ?_) (fun c124 => ?_)
    · have hg := (if_pos c124).symm.trans hg
      exact w_X12_use_b133 S hr hk hR X (lv_sub hl [0, 1, 2] rfl) hg
    · have hg := (if_neg c124).symm.trans hg
      refine lv_iinc (v := (v3 + 1)) (lv' := [(3, .int (v3 + 1)), (0, .ref (ad 0)), (1, .int v1)]) hx hb dX12_use_127 hl (k := 2) rfl (by rfl) (by decide) rfl (fun ls hl => ?_)
      refine lv_goto (tgt := 103) hx hb dX12_use_130 (by decide) ?_
      exact hrec103 _ _ _ _ _ _ X (lv_sub hl [1, 2, 0] rfl) hg
set_option maxHeartbeats 4000000 in
set_option maxRecDepth 100000 in
theorem w_X12_use_L103 (S : CallFix p m c cX12_use 5 s args uG RX12) (hr : meth.sig.returnType = none) (hk : meth.locks = false) (hR : 1 ≤ R.frames ∧ 24 ≤ R.locals) : ∀ (n : Nat) (v1 : Int32) (v3 : Int32) (σ : S5) (H : Heap) (locs : List Loc) (ls : Array Slot), gX (dC, dI) (tM kc) (wM ad kc) Z A s σ H locs → lv_has ls 5 [(0, .ref (ad 0)), (1, .int v1), (3, .int v3)] → f_X12_use_L103  n v1 v3 σ = some (r, τ) → W p l e R s m args below meth c H locs 0 0 (MQ below (gQv (dC, dI) (tM kc) (wM ad kc) A r τ) args s 0 0 A) (F0 m 103 ls []) := by
  intro n
  induction n with
  | zero => intro v1 v3 σ H locs ls X hl hg; cases hg
  | succ n ih => intro v1 v3 σ H locs ls X hl hg; exact w_X12_use_B103 S hr hk hR ih X hl hg
set_option maxHeartbeats 4000000 in
set_option maxRecDepth 100000 in
theorem w_X12_use_B66 {σ : S5} {rec66 : Int32 → Int32 → S5 → Option (Unit × S5)} {v3 : Int32} {v4 : Int32} {H : Heap} {locs : List Loc} {ls : Array Slot} (S : CallFix p m c cX12_use 5 s args uG RX12) (hr : meth.sig.returnType = none) (hk : meth.locks = false) (hR : 1 ≤ R.frames ∧ 24 ≤ R.locals)
    (hrec66 : ∀ (v3 : Int32) (v4 : Int32) (σ : S5) (H : Heap) (locs : List Loc) (ls : Array Slot), gX (dC, dI) (tM kc) (wM ad kc) Z A s σ H locs → lv_has ls 5 [(0, .ref (ad 0)), (3, .int v3), (4, .int v4)] → rec66 v3 v4 σ = some (r, τ) → W p l e R s m args below meth c H locs 0 0 (MQ below (gQv (dC, dI) (tM kc) (wM ad kc) A r τ) args s 0 0 A) (F0 m 66 ls []))
    (X : gX (dC, dI) (tM kc) (wM ad kc) Z A s σ H locs) (hl : lv_has ls 5 [(0, .ref (ad 0)), (3, .int v3), (4, .int v4)]) (hg : f_X12_use_B66 rec66 v3 v4 σ = some (r, τ)) : W p l e R s m args below meth c H locs 0 0 (MQ below (gQv (dC, dI) (tM kc) (wM ad kc) A r τ) args s 0 0 A) (F0 m 66 ls []) := by
  have hx := S.1
  have hb := S.2.1
  have hown := S.2.2.2.1
  have hu := S.2.2.2.2
  unfold f_X12_use_B66 at hg
  refine lv_aload_n hx hb dX12_use_66 rfl (lv_at hl 0 rfl) ?_
  refine wmgR_0_59 S X mG_2109 dX12_use_67 ?_
  refine lv_iload hx hb dX12_use_70 (lv_at hl 2 rfl) ?_
  obtain ⟨hi72, hg⟩ := gd_some hg
  refine wmlA_27 (v := (xA σ 27 v4)) S X hi72 rfl dX12_use_72 ?_
  refine lv_aload_n hx hb dX12_use_73 rfl (lv_at hl 0 rfl) ?_
  refine wmgR_0_51 S X mG_2101 dX12_use_74 ?_
  refine lv_iload_n hx hb dX12_use_77 rfl (lv_at hl 1 rfl) ?_
  obtain ⟨hi78, hg⟩ := gd_some hg
  refine wmlA_22 (v := (xA σ 22 v3)) S X hi78 rfl dX12_use_78 ?_
  refine lv_icmp_eq (tgt := 100) hx hb dX12_use_79 (by decide) (fun c79 => ?_) (fun c79 => ?_)
  · have hg := (if_pos c79).symm.trans hg
    obtain ⟨-, rfl⟩ := fin_some hg
    exact gr_v S hr hk X dX12_use_100
  · have hg := (if_neg c79).symm.trans hg
    refine lv_aload_n hx hb dX12_use_82 rfl (lv_at hl 0 rfl) ?_
    refine lv_aload_n hx hb dX12_use_83 rfl (lv_at hl 0 rfl) ?_
    refine wmgR_0_59 S X mG_2109 dX12_use_84 ?_
    refine lv_iload hx hb dX12_use_87 (lv_at hl 2 rfl) ?_
    obtain ⟨hi89, hg⟩ := gd_some hg
    refine wmlA_27 (v := (xA σ 27 v4)) S X hi89 rfl dX12_use_89 ?_
    refine lv_iload_n hx hb dX12_use_90 rfl (lv_at hl 1 rfl) ?_
    obtain ⟨r91, τ91, hq91, hg⟩ := bd_some hg
    refine gc_Vv (As := [.int (xA σ 27 v4), .int v3]) (rest := []) (q0 := 0) (ci := 15) S X (k2_X12_addFree l dC dI ad kc hq91 H.size) cw_X12_addFree mG_2684 rfl rfl rfl rfl rfl hl.1 (Nat.le_of_ble_eq_true rfl) dX12_use_91 ⟨by omega, by omega⟩ (fun H locs X => ?_)
    refine lv_iinc (v := (v4 + (-1))) (lv' := [(4, .int (v4 + (-1))), (0, .ref (ad 0)), (3, .int v3)]) hx hb dX12_use_94 hl (k := 2) rfl (by rfl) (by decide) rfl (fun ls hl => ?_)
    refine lv_goto (tgt := 66) hx hb dX12_use_97 (by decide) ?_
    exact hrec66 _ _ _ _ _ _ X (lv_sub hl [1, 2, 0] rfl) hg
set_option maxHeartbeats 4000000 in
set_option maxRecDepth 100000 in
theorem w_X12_use_L66 (S : CallFix p m c cX12_use 5 s args uG RX12) (hr : meth.sig.returnType = none) (hk : meth.locks = false) (hR : 1 ≤ R.frames ∧ 24 ≤ R.locals) : ∀ (n : Nat) (v3 : Int32) (v4 : Int32) (σ : S5) (H : Heap) (locs : List Loc) (ls : Array Slot), gX (dC, dI) (tM kc) (wM ad kc) Z A s σ H locs → lv_has ls 5 [(0, .ref (ad 0)), (3, .int v3), (4, .int v4)] → f_X12_use_L66  n v3 v4 σ = some (r, τ) → W p l e R s m args below meth c H locs 0 0 (MQ below (gQv (dC, dI) (tM kc) (wM ad kc) A r τ) args s 0 0 A) (F0 m 66 ls []) := by
  intro n
  induction n with
  | zero => intro v3 v4 σ H locs ls X hl hg; cases hg
  | succ n ih => intro v3 v4 σ H locs ls X hl hg; exact w_X12_use_B66 S hr hk hR ih X hl hg
set_option maxHeartbeats 4000000 in
set_option maxRecDepth 100000 in
theorem w_X12_use_b33 {σ : S5} {v1 : Int32} {v2 : Int32} {H : Heap} {locs : List Loc} {ls : Array Slot} (S : CallFix p m c cX12_use 5 s args uG RX12) (hr : meth.sig.returnType = none) (hk : meth.locks = false) (hR : 1 ≤ R.frames ∧ 24 ≤ R.locals)
    (X : gX (dC, dI) (tM kc) (wM ad kc) Z A s σ H locs) (hl : lv_has ls 5 [(0, .ref (ad 0)), (1, .int v1), (2, .int v2)]) (hg : f_X12_use_b33 v1 v2 σ = some (r, τ)) : W p l e R s m args below meth c H locs 0 0 (MQ below (gQv (dC, dI) (tM kc) (wM ad kc) A r τ) args s 0 0 A) (F0 m 33 ls []) := by
  have hx := S.1
  have hb := S.2.1
  have hown := S.2.2.2.1
  have hu := S.2.2.2.2
  unfold f_X12_use_b33 at hg
  refine lv_iload_n hx hb dX12_use_33 rfl (lv_at hl 2 rfl) ?_
  refine lv_if_lt (tgt := 101) hx hb dX12_use_34 (by decide) (fun c34 => ?_) (fun c34 => ?_)
  · have hg := (if_pos c34).symm.trans hg
    refine lv_iconst (v := 0) hx hb dX12_use_101 (by decide) ?_
    refine lv_istore_n (lv' := [(3, .int 0), (0, .ref (ad 0)), (1, .int v1), (2, .int v2)]) hx hb dX12_use_102 rfl hl (by decide) rfl (fun ls hl => ?_)
    exact w_X12_use_L103 S hr hk hR _ _ _ _ _ _ _ X (lv_sub hl [1, 2, 0] rfl) hg
  · have hg := (if_neg c34).symm.trans hg
    refine lv_aload_n hx hb dX12_use_37 rfl (lv_at hl 0 rfl) ?_
    refine wmgR_0_57 S X mG_2107 dX12_use_38 ?_
    refine lv_iload_n hx hb dX12_use_41 rfl (lv_at hl 2 rfl) ?_
    obtain ⟨hi42, hg⟩ := gd_some hg
    refine wmlA_26 (v := (xA σ 26 v2)) S X hi42 rfl dX12_use_42 ?_
    refine lv_istore_n (lv' := [(3, .int (xA σ 26 v2)), (0, .ref (ad 0)), (1, .int v1), (2, .int v2)]) hx hb dX12_use_43 rfl hl (by decide) rfl (fun ls hl => ?_)
    refine lv_aload_n hx hb dX12_use_44 rfl (lv_at hl 1 rfl) ?_
    refine wmgR_0_19 S X mG_2069 dX12_use_45 ?_
    refine lv_iload_n hx hb dX12_use_48 rfl (lv_at hl 2 rfl) ?_
    refine lv_iconst (v := 1) hx hb dX12_use_49 (by decide) ?_
    obtain ⟨hi50, hg⟩ := gd_some hg
    refine wmsA_8 S X hi50 dX12_use_50 (fun H locs X => ?_)
    refine lv_aload_n hx hb dX12_use_51 rfl (lv_at hl 1 rfl) ?_
    refine wmgR_0_18 S X mG_2068 dX12_use_52 ?_
    refine lv_iload_n hx hb dX12_use_55 rfl (lv_at hl 2 rfl) ?_
    refine lv_iload_n hx hb dX12_use_56 rfl (lv_at hl 0 rfl) ?_
    obtain ⟨hi57, hg⟩ := gd_some hg
    refine wmsA_7 S X hi57 dX12_use_57 (fun H locs X => ?_)
    refine lv_aload_n hx hb dX12_use_58 rfl (lv_at hl 1 rfl) ?_
    refine wmgI_25 (v := (gI σ 25)) S X mG_2108 rfl dX12_use_59 ?_
    refine lv_iconst (v := 1) hx hb dX12_use_62 (by decide) ?_
    refine lv_isub hx hb dX12_use_63 ?_
    refine lv_istore (lv' := [(4, .int ((gI σ 25) - 1)), (3, .int (xA σ 26 v2)), (0, .ref (ad 0)), (1, .int v1), (2, .int v2)]) hx hb dX12_use_64 hl (by decide) rfl (fun ls hl => ?_)
    exact w_X12_use_L66 S hr hk hR _ _ _ _ _ _ _ X (lv_sub hl [2, 1, 0] rfl) hg
set_option maxHeartbeats 4000000 in
set_option maxRecDepth 100000 in
theorem w_X12_use_B7 {σ : S5} {rec7 : Int32 → Int32 → S5 → Option (Unit × S5)} {v1 : Int32} {v2 : Int32} {H : Heap} {locs : List Loc} {ls : Array Slot} (S : CallFix p m c cX12_use 5 s args uG RX12) (hr : meth.sig.returnType = none) (hk : meth.locks = false) (hR : 1 ≤ R.frames ∧ 24 ≤ R.locals)
    (hrec7 : ∀ (v1 : Int32) (v2 : Int32) (σ : S5) (H : Heap) (locs : List Loc) (ls : Array Slot), gX (dC, dI) (tM kc) (wM ad kc) Z A s σ H locs → lv_has ls 5 [(0, .ref (ad 0)), (1, .int v1), (2, .int v2)] → rec7 v1 v2 σ = some (r, τ) → W p l e R s m args below meth c H locs 0 0 (MQ below (gQv (dC, dI) (tM kc) (wM ad kc) A r τ) args s 0 0 A) (F0 m 7 ls []))
    (X : gX (dC, dI) (tM kc) (wM ad kc) Z A s σ H locs) (hl : lv_has ls 5 [(0, .ref (ad 0)), (1, .int v1), (2, .int v2)]) (hg : f_X12_use_B7 rec7 v1 v2 σ = some (r, τ)) : W p l e R s m args below meth c H locs 0 0 (MQ below (gQv (dC, dI) (tM kc) (wM ad kc) A r τ) args s 0 0 A) (F0 m 7 ls []) := by
  have hx := S.1
  have hb := S.2.1
  have hown := S.2.2.2.1
  have hu := S.2.2.2.2
  unfold f_X12_use_B7 at hg
  refine lv_iload_n hx hb dX12_use_7 rfl (lv_at hl 2 rfl) ?_
  refine lv_if_lt (tgt := 33) hx hb dX12_use_8 (by decide) (fun c8 => ?_) (fun c8 => ?_)
  · have hg := (if_pos c8).symm.trans hg
    exact w_X12_use_b33 S hr hk hR X (lv_sub hl [0, 1, 2] rfl) hg
  · have hg := (if_neg c8).symm.trans hg
    refine lv_aload_n hx hb dX12_use_11 rfl (lv_at hl 0 rfl) ?_
    refine wmgR_0_56 S X mG_2106 dX12_use_12 ?_
    refine lv_iload_n hx hb dX12_use_15 rfl (lv_at hl 2 rfl) ?_
    obtain ⟨hi16, hg⟩ := gd_some hg
    refine wmlB_4 (v := (xB σ 4 v2)) S X hi16 rfl dX12_use_16 ?_
    refine lv_aload_n hx hb dX12_use_17 rfl (lv_at hl 0 rfl) ?_
    refine wmgR_0_20 S X mG_2070 dX12_use_18 ?_
    refine lv_iload_n hx hb dX12_use_21 rfl (lv_at hl 1 rfl) ?_
    obtain ⟨hi22, hg⟩ := gd_some hg
    refine wmlB_0 (v := (xB σ 0 v1)) S X hi22 rfl dX12_use_22 ?_
    refine W.lcmp hx hb dX12_use_23 ?_
    refine lv_if_eq (tgt := 33) hx hb dX12_use_24 (by decide) (fun c24 => ?_) (fun c24 => ?_)
    · have hg := (if_pos c24).symm.trans hg
      exact w_X12_use_b33 S hr hk hR X (lv_sub hl [0, 1, 2] rfl) hg
    · have hg := (if_neg c24).symm.trans hg
      refine lv_iinc (v := (v2 + (-1))) (lv' := [(2, .int (v2 + (-1))), (0, .ref (ad 0)), (1, .int v1)]) hx hb dX12_use_27 hl (k := 2) rfl (by rfl) (by decide) rfl (fun ls hl => ?_)
      refine lv_goto (tgt := 7) hx hb dX12_use_30 (by decide) ?_
      exact hrec7 _ _ _ _ _ _ X (lv_sub hl [1, 2, 0] rfl) hg
set_option maxHeartbeats 4000000 in
set_option maxRecDepth 100000 in
theorem w_X12_use_L7 (S : CallFix p m c cX12_use 5 s args uG RX12) (hr : meth.sig.returnType = none) (hk : meth.locks = false) (hR : 1 ≤ R.frames ∧ 24 ≤ R.locals) : ∀ (n : Nat) (v1 : Int32) (v2 : Int32) (σ : S5) (H : Heap) (locs : List Loc) (ls : Array Slot), gX (dC, dI) (tM kc) (wM ad kc) Z A s σ H locs → lv_has ls 5 [(0, .ref (ad 0)), (1, .int v1), (2, .int v2)] → f_X12_use_L7  n v1 v2 σ = some (r, τ) → W p l e R s m args below meth c H locs 0 0 (MQ below (gQv (dC, dI) (tM kc) (wM ad kc) A r τ) args s 0 0 A) (F0 m 7 ls []) := by
  intro n
  induction n with
  | zero => intro v1 v2 σ H locs ls X hl hg; cases hg
  | succ n ih => intro v1 v2 σ H locs ls X hl hg; exact w_X12_use_B7 S hr hk hR ih X hl hg
set_option maxHeartbeats 4000000 in
set_option maxRecDepth 100000 in
theorem w_X12_use {σ : S5} {a1 : Int32} {H : Heap} {locs : List Loc} {ls : Array Slot} (S : CallFix p m c cX12_use 5 s args uG RX12) (hr : meth.sig.returnType = none) (hk : meth.locks = false) (hR : 1 ≤ R.frames ∧ 24 ≤ R.locals)
    (X : gX (dC, dI) (tM kc) (wM ad kc) Z A s σ H locs) (hl : lv_has ls 5 [(0, .ref (ad 0)), (1, .int a1)]) (hg : f_X12_use a1 σ = some (r, τ)) : W p l e R s m args below meth c H locs 0 0 (MQ below (gQv (dC, dI) (tM kc) (wM ad kc) A r τ) args s 0 0 A) (F0 m 0 ls []) := by
  have hx := S.1
  have hb := S.2.1
  have hown := S.2.2.2.1
  have hu := S.2.2.2.2
  unfold f_X12_use at hg
  refine lv_aload_n hx hb dX12_use_0 rfl (lv_at hl 0 rfl) ?_
  refine wmgI_24 (v := (gI σ 24)) S X mG_2105 rfl dX12_use_1 ?_
  refine lv_iconst (v := 1) hx hb dX12_use_4 (by decide) ?_
  refine lv_isub hx hb dX12_use_5 ?_
  refine lv_istore_n (lv' := [(2, .int ((gI σ 24) - 1)), (0, .ref (ad 0)), (1, .int a1)]) hx hb dX12_use_6 rfl hl (by decide) rfl (fun ls hl => ?_)
  exact w_X12_use_L7 S hr hk hR _ _ _ _ _ _ _ X (lv_sub hl [1, 2, 0] rfl) hg
end MX12_use
set_option maxRecDepth 100000 in
theorem k2_X12_use (l : Launch) (dC : Nat → ClassId) (dI : Nat → Nat → Nat) {Z : ZZ} (ad : Nat → Nat) (kc : Nat → ClassId) {σ τ : S5} {a1 : Int32} {r : Unit} (hg : f_X12_use a1 σ = some (r, τ)) (sz : Nat) : Met l yX12_use (Cond.code yX12_use cX12_use 5 none :: uG) { frames := 1, cells := 0, slots := 0, locals := 24 } (gPc (dC, dI) (tM kc) (wM ad kc) Z [.ref (ad 0), .int a1] σ sz) (gQv (dC, dI) (tM kc) (wM ad kc) (va_A (wM ad kc σ) sz) r τ) 0 0 (va_A (wM ad kc σ) sz) :=
  g_start (by decide) (Nat.le_of_ble_eq_true rfl) (fun p e s m below meth c ls S hr hk X hl => w_X12_use S hr hk ⟨Nat.le_refl _, Nat.le_refl _⟩ X hl hg)
section MX12_comeInto
variable {p : Program} {l : Launch} {e : Env} {R : Room} {s : State} {m : MethodId} {args : Array Value} {below : List Frame} {meth : Method} {c : Code} {dC : Nat → ClassId} {dI : Nat → Nat → Nat} {Z : ZZ} {A : Nat → Prop} {ad : Nat → Nat} {kc : Nat → ClassId} {r : Unit} {τ : S5}
set_option maxHeartbeats 4000000 in
set_option maxRecDepth 100000 in
theorem w_X12_comeInto_B60 {σ : S5} {rec60 : Int32 → S5 → Option (Unit × S5)} {v2 : Int32} {H : Heap} {locs : List Loc} {ls : Array Slot} (S : CallFix p m c cX12_comeInto 3 s args uG RX12) (hr : meth.sig.returnType = none) (hk : meth.locks = false) (hR : 2 ≤ R.frames ∧ 48 ≤ R.locals)
    (hrec60 : ∀ (v2 : Int32) (σ : S5) (H : Heap) (locs : List Loc) (ls : Array Slot), gX (dC, dI) (tM kc) (wM ad kc) Z A s σ H locs → lv_has ls 3 [(0, .ref (ad 0)), (2, .int v2)] → rec60 v2 σ = some (r, τ) → W p l e R s m args below meth c H locs 0 0 (MQ below (gQv (dC, dI) (tM kc) (wM ad kc) A r τ) args s 0 0 A) (F0 m 60 ls []))
    (X : gX (dC, dI) (tM kc) (wM ad kc) Z A s σ H locs) (hl : lv_has ls 3 [(0, .ref (ad 0)), (2, .int v2)]) (hg : f_X12_comeInto_B60 rec60 v2 σ = some (r, τ)) : W p l e R s m args below meth c H locs 0 0 (MQ below (gQv (dC, dI) (tM kc) (wM ad kc) A r τ) args s 0 0 A) (F0 m 60 ls []) := by
  have hx := S.1
  have hb := S.2.1
  have hown := S.2.2.2.1
  have hu := S.2.2.2.2
  unfold f_X12_comeInto_B60 at hg
  refine lv_iload_n hx hb dX12_comeInto_60 rfl (lv_at hl 1 rfl) ?_
  refine lv_if_lt (tgt := 85) hx hb dX12_comeInto_61 (by decide) (fun c61 => ?_) (fun c61 => ?_)
  · have hg := (if_pos c61).symm.trans hg
    refine lv_goto (tgt := 112) hx hb dX12_comeInto_85 (by decide) ?_
    obtain ⟨-, rfl⟩ := fin_some hg
    exact gr_v S hr hk X dX12_comeInto_112
  · have hg := (if_neg c61).symm.trans hg
    refine lv_aload_n hx hb dX12_comeInto_64 rfl (lv_at hl 0 rfl) ?_
    refine lv_aload_n hx hb dX12_comeInto_65 rfl (lv_at hl 0 rfl) ?_
    refine wmgR_0_20 S X mG_2070 dX12_comeInto_66 ?_
    refine lv_iload_n hx hb dX12_comeInto_69 rfl (lv_at hl 1 rfl) ?_
    obtain ⟨hi70, hg⟩ := gd_some hg
    refine wmlB_0 (v := (xB σ 0 v2)) S X hi70 rfl dX12_comeInto_70 ?_
    obtain ⟨r71, τ71, hq71, hg⟩ := bd_some hg
    refine gc_Vi (As := [.long (xB σ 0 v2)]) (rest := []) (q0 := 0) (ci := 15) S X (k2_X12_newVariable l dC dI ad kc hq71 H.size) cw_X12_newVariable mG_2676 rfl rfl rfl rfl rfl hl.1 (Nat.le_of_ble_eq_true rfl) dX12_comeInto_71 ⟨by omega, by omega⟩ (fun H locs X => ?_)
    refine lv_pop hx hb dX12_comeInto_74 rfl ?_
    refine lv_aload_n hx hb dX12_comeInto_75 rfl (lv_at hl 0 rfl) ?_
    refine wmgR_0_16 S X mG_2066 dX12_comeInto_76 ?_
    refine lv_iload_n hx hb dX12_comeInto_79 rfl (lv_at hl 1 rfl) ?_
    obtain ⟨hi80, hg⟩ := gd_some hg
    refine wmlA_5 (v := (xA τ71 5 v2)) S X hi80 rfl dX12_comeInto_80 ?_
    refine lv_istore_n (lv' := [(2, .int (xA τ71 5 v2)), (0, .ref (ad 0))]) hx hb dX12_comeInto_81 rfl hl (by decide) rfl (fun ls hl => ?_)
    refine lv_goto (tgt := 60) hx hb dX12_comeInto_82 (by decide) ?_
    exact hrec60 _ _ _ _ _ X (lv_sub hl [1, 0] rfl) hg
set_option maxHeartbeats 4000000 in
set_option maxRecDepth 100000 in
theorem w_X12_comeInto_L60 (S : CallFix p m c cX12_comeInto 3 s args uG RX12) (hr : meth.sig.returnType = none) (hk : meth.locks = false) (hR : 2 ≤ R.frames ∧ 48 ≤ R.locals) : ∀ (n : Nat) (v2 : Int32) (σ : S5) (H : Heap) (locs : List Loc) (ls : Array Slot), gX (dC, dI) (tM kc) (wM ad kc) Z A s σ H locs → lv_has ls 3 [(0, .ref (ad 0)), (2, .int v2)] → f_X12_comeInto_L60  n v2 σ = some (r, τ) → W p l e R s m args below meth c H locs 0 0 (MQ below (gQv (dC, dI) (tM kc) (wM ad kc) A r τ) args s 0 0 A) (F0 m 60 ls []) := by
  intro n
  induction n with
  | zero => intro v2 σ H locs ls X hl hg; cases hg
  | succ n ih => intro v2 σ H locs ls X hl hg; exact w_X12_comeInto_B60 S hr hk hR ih X hl hg
set_option maxHeartbeats 4000000 in
set_option maxRecDepth 100000 in
theorem w_X12_comeInto_b34 {σ : S5} {v1 : Int32} {H : Heap} {locs : List Loc} {ls : Array Slot} (S : CallFix p m c cX12_comeInto 3 s args uG RX12) (hr : meth.sig.returnType = none) (hk : meth.locks = false) (hR : 2 ≤ R.frames ∧ 48 ≤ R.locals)
    (X : gX (dC, dI) (tM kc) (wM ad kc) Z A s σ H locs) (hl : lv_has ls 3 [(0, .ref (ad 0)), (1, .int v1)]) (hg : f_X12_comeInto_b34 v1 σ = some (r, τ)) : W p l e R s m args below meth c H locs 0 0 (MQ below (gQv (dC, dI) (tM kc) (wM ad kc) A r τ) args s 0 0 A) (F0 m 34 ls []) := by
  have hx := S.1
  have hb := S.2.1
  have hown := S.2.2.2.1
  have hu := S.2.2.2.2
  unfold f_X12_comeInto_b34 at hg
  refine lv_aload_n hx hb dX12_comeInto_34 rfl (lv_at hl 0 rfl) ?_
  refine wmgR_0_13 S X mG_2063 dX12_comeInto_35 ?_
  refine lv_iload_n hx hb dX12_comeInto_38 rfl (lv_at hl 1 rfl) ?_
  obtain ⟨hi39, hg⟩ := gd_some hg
  refine wmlA_2 (v := (xA σ 2 v1)) S X hi39 rfl dX12_comeInto_39 ?_
  refine lv_if_ne (tgt := 88) hx hb dX12_comeInto_40 (by decide) (fun c40 => ?_) (fun c40 => ?_)
  · have hg := (if_neg c40).symm.trans hg
    refine lv_aload_n hx hb dX12_comeInto_88 rfl (lv_at hl 0 rfl) ?_
    refine wmgR_0_13 S X mG_2063 dX12_comeInto_89 ?_
    refine lv_iload_n hx hb dX12_comeInto_92 rfl (lv_at hl 1 rfl) ?_
    obtain ⟨hi93, hg⟩ := gd_some hg
    refine wmlA_2 (v := (xA σ 2 v1)) S X hi93 rfl dX12_comeInto_93 ?_
    refine lv_bipush (v := 8) hx hb dX12_comeInto_94 (by decide) ?_
    refine lv_icmp_ne (tgt := 107) hx hb dX12_comeInto_96 (by decide) (fun c96 => ?_) (fun c96 => ?_)
    · have hg := (if_neg c96).symm.trans hg
      refine lv_aload_n hx hb dX12_comeInto_107 rfl (lv_at hl 0 rfl) ?_
      refine lv_iload_n hx hb dX12_comeInto_108 rfl (lv_at hl 1 rfl) ?_
      obtain ⟨r109, τ109, hq109, hg⟩ := bd_some hg
      refine gc_Vv (As := [.int v1]) (rest := []) (q0 := 0) (ci := 15) S X (k2_X12_giveNames l dC dI ad kc hq109 H.size) cw_X12_giveNames mG_2688 rfl rfl rfl rfl rfl hl.1 (Nat.le_of_ble_eq_true rfl) dX12_comeInto_109 ⟨by omega, by omega⟩ (fun H locs X => ?_)
      obtain ⟨-, rfl⟩ := fin_some hg
      exact gr_v S hr hk X dX12_comeInto_112
    · have hg := (if_pos c96).symm.trans hg
      refine lv_aload_n hx hb dX12_comeInto_99 rfl (lv_at hl 0 rfl) ?_
      refine lv_iload_n hx hb dX12_comeInto_100 rfl (lv_at hl 1 rfl) ?_
      obtain ⟨r101, τ101, hq101, hg⟩ := bd_some hg
      refine gc_Vv (As := [.int v1]) (rest := []) (q0 := 0) (ci := 15) S X (k2_X12_use l dC dI ad kc hq101 H.size) cw_X12_use mG_2680 rfl rfl rfl rfl rfl hl.1 (Nat.le_of_ble_eq_true rfl) dX12_comeInto_101 ⟨by omega, by omega⟩ (fun H locs X => ?_)
      refine lv_goto (tgt := 112) hx hb dX12_comeInto_104 (by decide) ?_
      obtain ⟨-, rfl⟩ := fin_some hg
      exact gr_v S hr hk X dX12_comeInto_112
  · have hg := (if_pos c40).symm.trans hg
    refine lv_aload_n hx hb dX12_comeInto_43 rfl (lv_at hl 0 rfl) ?_
    refine wmgR_0_54 S X mG_2104 dX12_comeInto_44 ?_
    refine lv_iload_n hx hb dX12_comeInto_47 rfl (lv_at hl 1 rfl) ?_
    refine lv_aload_n hx hb dX12_comeInto_48 rfl (lv_at hl 0 rfl) ?_
    refine wmgI_23 (v := (gI σ 23)) S X mG_2100 rfl dX12_comeInto_49 ?_
    obtain ⟨hi52, hg⟩ := gd_some hg
    refine wmsA_25 S X hi52 dX12_comeInto_52 (fun H locs X => ?_)
    refine lv_aload_n hx hb dX12_comeInto_53 rfl (lv_at hl 0 rfl) ?_
    refine wmgR_0_14 S X mG_2064 dX12_comeInto_54 ?_
    refine lv_iload_n hx hb dX12_comeInto_57 rfl (lv_at hl 1 rfl) ?_
    obtain ⟨hi58, hg⟩ := gd_some hg
    refine wmlA_3 (v := (xA σ 3 v1)) S X hi58 rfl dX12_comeInto_58 ?_
    refine lv_istore_n (lv' := [(2, .int (xA σ 3 v1)), (0, .ref (ad 0)), (1, .int v1)]) hx hb dX12_comeInto_59 rfl hl (by decide) rfl (fun ls hl => ?_)
    exact w_X12_comeInto_L60 S hr hk hR _ _ _ _ _ _ X (lv_sub hl [1, 0] rfl) hg
set_option maxHeartbeats 4000000 in
set_option maxRecDepth 100000 in
theorem w_X12_comeInto {σ : S5} {a1 : Int32} {H : Heap} {locs : List Loc} {ls : Array Slot} (S : CallFix p m c cX12_comeInto 3 s args uG RX12) (hr : meth.sig.returnType = none) (hk : meth.locks = false) (hR : 2 ≤ R.frames ∧ 48 ≤ R.locals)
    (X : gX (dC, dI) (tM kc) (wM ad kc) Z A s σ H locs) (hl : lv_has ls 3 [(0, .ref (ad 0)), (1, .int a1)]) (hg : f_X12_comeInto a1 σ = some (r, τ)) : W p l e R s m args below meth c H locs 0 0 (MQ below (gQv (dC, dI) (tM kc) (wM ad kc) A r τ) args s 0 0 A) (F0 m 0 ls []) := by
  have hx := S.1
  have hb := S.2.1
  have hown := S.2.2.2.1
  have hu := S.2.2.2.2
  unfold f_X12_comeInto at hg
  refine lv_aload_n hx hb dX12_comeInto_0 rfl (lv_at hl 0 rfl) ?_
  refine wmgR_0_47 S X mG_2097 dX12_comeInto_1 ?_
  refine lv_iload_n hx hb dX12_comeInto_4 rfl (lv_at hl 1 rfl) ?_
  obtain ⟨hi5, hg⟩ := gd_some hg
  refine wmlA_19 (v := (xA σ 19 a1)) S X hi5 rfl dX12_comeInto_5 ?_
  refine lv_if_lt (tgt := 34) hx hb dX12_comeInto_6 (by decide) (fun c6 => ?_) (fun c6 => ?_)
  · have hg := (if_pos c6).symm.trans hg
    exact w_X12_comeInto_b34 S hr hk hR X (lv_sub hl [0, 1] rfl) hg
  · have hg := (if_neg c6).symm.trans hg
    refine lv_aload_n hx hb dX12_comeInto_9 rfl (lv_at hl 0 rfl) ?_
    refine wmgR_0_59 S X mG_2109 dX12_comeInto_10 ?_
    refine lv_aload_n hx hb dX12_comeInto_13 rfl (lv_at hl 0 rfl) ?_
    refine wmgI_25 (v := (gI σ 25)) S X mG_2108 rfl dX12_comeInto_14 ?_
    refine lv_aload_n hx hb dX12_comeInto_17 rfl (lv_at hl 0 rfl) ?_
    refine wmgR_0_47 S X mG_2097 dX12_comeInto_18 ?_
    refine lv_iload_n hx hb dX12_comeInto_21 rfl (lv_at hl 1 rfl) ?_
    obtain ⟨hi22, hg⟩ := gd_some hg
    refine wmlA_19 (v := (xA σ 19 a1)) S X hi22 rfl dX12_comeInto_22 ?_
    obtain ⟨hi23, hg⟩ := gd_some hg
    refine wmsA_27 S X hi23 dX12_comeInto_23 (fun H locs X => ?_)
    refine lv_aload_n hx hb dX12_comeInto_24 rfl (lv_at hl 0 rfl) ?_
    refine lv_dup hx hb dX12_comeInto_25 rfl ?_
    refine wmgI_25 (v := (gI σ 25)) S X mG_2108 rfl dX12_comeInto_26 ?_
    refine lv_iconst (v := 1) hx hb dX12_comeInto_29 (by decide) ?_
    refine lv_iadd hx hb dX12_comeInto_30 ?_
    refine wmpI_25 S X mG_2108 dX12_comeInto_31 (fun H locs X => ?_)
    exact w_X12_comeInto_b34 S hr hk hR X (lv_sub hl [0, 1] rfl) hg
end MX12_comeInto
set_option maxRecDepth 100000 in
theorem k2_X12_comeInto (l : Launch) (dC : Nat → ClassId) (dI : Nat → Nat → Nat) {Z : ZZ} (ad : Nat → Nat) (kc : Nat → ClassId) {σ τ : S5} {a1 : Int32} {r : Unit} (hg : f_X12_comeInto a1 σ = some (r, τ)) (sz : Nat) : Met l yX12_comeInto (Cond.code yX12_comeInto cX12_comeInto 3 none :: uG) { frames := 2, cells := 0, slots := 0, locals := 48 } (gPc (dC, dI) (tM kc) (wM ad kc) Z [.ref (ad 0), .int a1] σ sz) (gQv (dC, dI) (tM kc) (wM ad kc) (va_A (wM ad kc σ) sz) r τ) 0 0 (va_A (wM ad kc σ) sz) :=
  g_start (by decide) (Nat.le_of_ble_eq_true rfl) (fun p e s m below meth c ls S hr hk X hl => w_X12_comeInto S hr hk ⟨Nat.le_refl _, Nat.le_refl _⟩ X hl hg)
section MX12_goOutOf
variable {p : Program} {l : Launch} {e : Env} {R : Room} {s : State} {m : MethodId} {args : Array Value} {below : List Frame} {meth : Method} {c : Code} {dC : Nat → ClassId} {dI : Nat → Nat → Nat} {Z : ZZ} {A : Nat → Prop} {ad : Nat → Nat} {kc : Nat → ClassId} {r : Unit} {τ : S5}
set_option maxHeartbeats 4000000 in
set_option maxRecDepth 100000 in
theorem w_X12_goOutOf_B35 {σ : S5} {rec35 : Int32 → S5 → Option (Unit × S5)} {v2 : Int32} {H : Heap} {locs : List Loc} {ls : Array Slot} (S : CallFix p m c cX12_goOutOf 3 s args uG RX12) (hr : meth.sig.returnType = none) (hk : meth.locks = false) (hR : 0 ≤ R.frames ∧ 0 ≤ R.locals)
    (hrec35 : ∀ (v2 : Int32) (σ : S5) (H : Heap) (locs : List Loc) (ls : Array Slot), gX (dC, dI) (tM kc) (wM ad kc) Z A s σ H locs → lv_has ls 3 [(0, .ref (ad 0)), (2, .int v2)] → rec35 v2 σ = some (r, τ) → W p l e R s m args below meth c H locs 0 0 (MQ below (gQv (dC, dI) (tM kc) (wM ad kc) A r τ) args s 0 0 A) (F0 m 35 ls []))
    (X : gX (dC, dI) (tM kc) (wM ad kc) Z A s σ H locs) (hl : lv_has ls 3 [(0, .ref (ad 0)), (2, .int v2)]) (hg : f_X12_goOutOf_B35 rec35 v2 σ = some (r, τ)) : W p l e R s m args below meth c H locs 0 0 (MQ below (gQv (dC, dI) (tM kc) (wM ad kc) A r τ) args s 0 0 A) (F0 m 35 ls []) := by
  have hx := S.1
  have hb := S.2.1
  have hown := S.2.2.2.1
  have hu := S.2.2.2.2
  unfold f_X12_goOutOf_B35 at hg
  refine lv_iload_n hx hb dX12_goOutOf_35 rfl (lv_at hl 1 rfl) ?_
  refine lv_if_lt (tgt := 59) hx hb dX12_goOutOf_36 (by decide) (fun c36 => ?_) (fun c36 => ?_)
  · have hg := (if_pos c36).symm.trans hg
    refine lv_goto (tgt := 77) hx hb dX12_goOutOf_59 (by decide) ?_
    obtain ⟨-, rfl⟩ := fin_some hg
    exact gr_v S hr hk X dX12_goOutOf_77
  · have hg := (if_neg c36).symm.trans hg
    refine lv_aload_n hx hb dX12_goOutOf_39 rfl (lv_at hl 0 rfl) ?_
    refine lv_dup hx hb dX12_goOutOf_40 rfl ?_
    refine wmgI_24 (v := (gI σ 24)) S X mG_2105 rfl dX12_goOutOf_41 ?_
    refine lv_iconst (v := 1) hx hb dX12_goOutOf_44 (by decide) ?_
    refine lv_isub hx hb dX12_goOutOf_45 ?_
    refine wmpI_24 S X mG_2105 dX12_goOutOf_46 (fun H locs X => ?_)
    refine lv_aload_n hx hb dX12_goOutOf_49 rfl (lv_at hl 0 rfl) ?_
    refine wmgR_0_16 S X mG_2066 dX12_goOutOf_50 ?_
    refine lv_iload_n hx hb dX12_goOutOf_53 rfl (lv_at hl 1 rfl) ?_
    obtain ⟨hi54, hg⟩ := gd_some hg
    refine wmlA_5 (v := (xA σ 5 v2)) S X hi54 rfl dX12_goOutOf_54 ?_
    refine lv_istore_n (lv' := [(2, .int (xA σ 5 v2)), (0, .ref (ad 0))]) hx hb dX12_goOutOf_55 rfl hl (by decide) rfl (fun ls hl => ?_)
    refine lv_goto (tgt := 35) hx hb dX12_goOutOf_56 (by decide) ?_
    exact hrec35 _ _ _ _ _ X (lv_sub hl [1, 0] rfl) hg
set_option maxHeartbeats 4000000 in
set_option maxRecDepth 100000 in
theorem w_X12_goOutOf_L35 (S : CallFix p m c cX12_goOutOf 3 s args uG RX12) (hr : meth.sig.returnType = none) (hk : meth.locks = false) (hR : 0 ≤ R.frames ∧ 0 ≤ R.locals) : ∀ (n : Nat) (v2 : Int32) (σ : S5) (H : Heap) (locs : List Loc) (ls : Array Slot), gX (dC, dI) (tM kc) (wM ad kc) Z A s σ H locs → lv_has ls 3 [(0, .ref (ad 0)), (2, .int v2)] → f_X12_goOutOf_L35  n v2 σ = some (r, τ) → W p l e R s m args below meth c H locs 0 0 (MQ below (gQv (dC, dI) (tM kc) (wM ad kc) A r τ) args s 0 0 A) (F0 m 35 ls []) := by
  intro n
  induction n with
  | zero => intro v2 σ H locs ls X hl hg; cases hg
  | succ n ih => intro v2 σ H locs ls X hl hg; exact w_X12_goOutOf_B35 S hr hk hR ih X hl hg
set_option maxHeartbeats 4000000 in
set_option maxRecDepth 100000 in
theorem w_X12_goOutOf_b19 {σ : S5} {v1 : Int32} {H : Heap} {locs : List Loc} {ls : Array Slot} (S : CallFix p m c cX12_goOutOf 3 s args uG RX12) (hr : meth.sig.returnType = none) (hk : meth.locks = false) (hR : 0 ≤ R.frames ∧ 0 ≤ R.locals)
    (X : gX (dC, dI) (tM kc) (wM ad kc) Z A s σ H locs) (hl : lv_has ls 3 [(0, .ref (ad 0)), (1, .int v1)]) (hg : f_X12_goOutOf_b19 v1 σ = some (r, τ)) : W p l e R s m args below meth c H locs 0 0 (MQ below (gQv (dC, dI) (tM kc) (wM ad kc) A r τ) args s 0 0 A) (F0 m 19 ls []) := by
  have hx := S.1
  have hb := S.2.1
  have hown := S.2.2.2.1
  have hu := S.2.2.2.2
  unfold f_X12_goOutOf_b19 at hg
  refine lv_aload_n hx hb dX12_goOutOf_19 rfl (lv_at hl 0 rfl) ?_
  refine wmgR_0_13 S X mG_2063 dX12_goOutOf_20 ?_
  refine lv_iload_n hx hb dX12_goOutOf_23 rfl (lv_at hl 1 rfl) ?_
  obtain ⟨hi24, hg⟩ := gd_some hg
  refine wmlA_2 (v := (xA σ 2 v1)) S X hi24 rfl dX12_goOutOf_24 ?_
  refine lv_if_ne (tgt := 62) hx hb dX12_goOutOf_25 (by decide) (fun c25 => ?_) (fun c25 => ?_)
  · have hg := (if_neg c25).symm.trans hg
    refine lv_aload_n hx hb dX12_goOutOf_62 rfl (lv_at hl 0 rfl) ?_
    refine lv_dup hx hb dX12_goOutOf_63 rfl ?_
    refine wmgI_24 (v := (gI σ 24)) S X mG_2105 rfl dX12_goOutOf_64 ?_
    refine lv_aload_n hx hb dX12_goOutOf_67 rfl (lv_at hl 0 rfl) ?_
    refine wmgR_0_22 S X mG_2072 dX12_goOutOf_68 ?_
    refine lv_iload_n hx hb dX12_goOutOf_71 rfl (lv_at hl 1 rfl) ?_
    obtain ⟨hi72, hg⟩ := gd_some hg
    refine wmlA_10 (v := (xA σ 10 v1)) S X hi72 rfl dX12_goOutOf_72 ?_
    refine lv_isub hx hb dX12_goOutOf_73 ?_
    refine wmpI_24 S X mG_2105 dX12_goOutOf_74 (fun H locs X => ?_)
    obtain ⟨-, rfl⟩ := fin_some hg
    exact gr_v S hr hk X dX12_goOutOf_77
  · have hg := (if_pos c25).symm.trans hg
    refine lv_aload_n hx hb dX12_goOutOf_28 rfl (lv_at hl 0 rfl) ?_
    refine wmgR_0_14 S X mG_2064 dX12_goOutOf_29 ?_
    refine lv_iload_n hx hb dX12_goOutOf_32 rfl (lv_at hl 1 rfl) ?_
    obtain ⟨hi33, hg⟩ := gd_some hg
    refine wmlA_3 (v := (xA σ 3 v1)) S X hi33 rfl dX12_goOutOf_33 ?_
    refine lv_istore_n (lv' := [(2, .int (xA σ 3 v1)), (0, .ref (ad 0)), (1, .int v1)]) hx hb dX12_goOutOf_34 rfl hl (by decide) rfl (fun ls hl => ?_)
    exact w_X12_goOutOf_L35 S hr hk hR _ _ _ _ _ _ X (lv_sub hl [1, 0] rfl) hg
set_option maxHeartbeats 4000000 in
set_option maxRecDepth 100000 in
theorem w_X12_goOutOf {σ : S5} {a1 : Int32} {H : Heap} {locs : List Loc} {ls : Array Slot} (S : CallFix p m c cX12_goOutOf 3 s args uG RX12) (hr : meth.sig.returnType = none) (hk : meth.locks = false) (hR : 0 ≤ R.frames ∧ 0 ≤ R.locals)
    (X : gX (dC, dI) (tM kc) (wM ad kc) Z A s σ H locs) (hl : lv_has ls 3 [(0, .ref (ad 0)), (1, .int a1)]) (hg : f_X12_goOutOf a1 σ = some (r, τ)) : W p l e R s m args below meth c H locs 0 0 (MQ below (gQv (dC, dI) (tM kc) (wM ad kc) A r τ) args s 0 0 A) (F0 m 0 ls []) := by
  have hx := S.1
  have hb := S.2.1
  have hown := S.2.2.2.1
  have hu := S.2.2.2.2
  unfold f_X12_goOutOf at hg
  refine lv_aload_n hx hb dX12_goOutOf_0 rfl (lv_at hl 0 rfl) ?_
  refine wmgR_0_47 S X mG_2097 dX12_goOutOf_1 ?_
  refine lv_iload_n hx hb dX12_goOutOf_4 rfl (lv_at hl 1 rfl) ?_
  obtain ⟨hi5, hg⟩ := gd_some hg
  refine wmlA_19 (v := (xA σ 19 a1)) S X hi5 rfl dX12_goOutOf_5 ?_
  refine lv_if_lt (tgt := 19) hx hb dX12_goOutOf_6 (by decide) (fun c6 => ?_) (fun c6 => ?_)
  · have hg := (if_pos c6).symm.trans hg
    exact w_X12_goOutOf_b19 S hr hk hR X (lv_sub hl [0, 1] rfl) hg
  · have hg := (if_neg c6).symm.trans hg
    refine lv_aload_n hx hb dX12_goOutOf_9 rfl (lv_at hl 0 rfl) ?_
    refine lv_dup hx hb dX12_goOutOf_10 rfl ?_
    refine wmgI_25 (v := (gI σ 25)) S X mG_2108 rfl dX12_goOutOf_11 ?_
    refine lv_iconst (v := 1) hx hb dX12_goOutOf_14 (by decide) ?_
    refine lv_isub hx hb dX12_goOutOf_15 ?_
    refine wmpI_25 S X mG_2108 dX12_goOutOf_16 (fun H locs X => ?_)
    exact w_X12_goOutOf_b19 S hr hk hR X (lv_sub hl [0, 1] rfl) hg
end MX12_goOutOf
set_option maxRecDepth 100000 in
theorem k2_X12_goOutOf (l : Launch) (dC : Nat → ClassId) (dI : Nat → Nat → Nat) {Z : ZZ} (ad : Nat → Nat) (kc : Nat → ClassId) {σ τ : S5} {a1 : Int32} {r : Unit} (hg : f_X12_goOutOf a1 σ = some (r, τ)) (sz : Nat) : Met l yX12_goOutOf (Cond.code yX12_goOutOf cX12_goOutOf 3 none :: uG) { frames := 0, cells := 0, slots := 0, locals := 0 } (gPc (dC, dI) (tM kc) (wM ad kc) Z [.ref (ad 0), .int a1] σ sz) (gQv (dC, dI) (tM kc) (wM ad kc) (va_A (wM ad kc σ) sz) r τ) 0 0 (va_A (wM ad kc σ) sz) :=
  g_start (by decide) (Nat.le_of_ble_eq_true rfl) (fun p e s m below meth c ls S hr hk X hl => w_X12_goOutOf S hr hk ⟨Nat.le_refl _, Nat.le_refl _⟩ X hl hg)
section MX12_childAt
variable {p : Program} {l : Launch} {e : Env} {R : Room} {s : State} {m : MethodId} {args : Array Value} {below : List Frame} {meth : Method} {c : Code} {dC : Nat → ClassId} {dI : Nat → Nat → Nat} {Z : ZZ} {A : Nat → Prop} {ad : Nat → Nat} {kc : Nat → ClassId} {r : Int32} {τ : S5}
set_option maxHeartbeats 4000000 in
set_option maxRecDepth 100000 in
theorem w_X12_childAt_b193 {σ : S5} {v3 : Int32} {H : Heap} {locs : List Loc} {ls : Array Slot} (S : CallFix p m c cX12_childAt 5 s args uG RX12) (hr : meth.sig.returnType = (some .int)) (hk : meth.locks = false) (hR : 0 ≤ R.frames ∧ 0 ≤ R.locals)
    (X : gX (dC, dI) (tM kc) (wM ad kc) Z A s σ H locs) (hl : lv_has ls 5 [(3, .int v3)]) (hg : f_X12_childAt_b193 v3 σ = some (r, τ)) : W p l e R s m args below meth c H locs 0 0 (MQ below (gQi (dC, dI) (tM kc) (wM ad kc) A r τ) args s 0 0 A) (F0 m 193 ls []) := by
  have hx := S.1
  have hb := S.2.1
  have hown := S.2.2.2.1
  have hu := S.2.2.2.2
  unfold f_X12_childAt_b193 at hg
  refine lv_iload_n hx hb dX12_childAt_193 rfl (lv_at hl 0 rfl) ?_
  refine lv_goto (tgt := 198) hx hb dX12_childAt_194 (by decide) ?_
  obtain ⟨rfl, rfl⟩ := fin_some hg
  exact gr_i S hr hk X dX12_childAt_198
set_option maxHeartbeats 4000000 in
set_option maxRecDepth 100000 in
theorem w_X12_childAt_b109 {σ : S5} {v1 : Int32} {v3 : Int32} {u0 : Int32} {H : Heap} {locs : List Loc} {ls : Array Slot} (S : CallFix p m c cX12_childAt 5 s args uG RX12) (hr : meth.sig.returnType = (some .int)) (hk : meth.locks = false) (hR : 0 ≤ R.frames ∧ 0 ≤ R.locals)
    (X : gX (dC, dI) (tM kc) (wM ad kc) Z A s σ H locs) (hl : lv_has ls 5 [(0, .ref (ad 0)), (1, .int v1), (3, .int v3)]) (hg : f_X12_childAt_b109 v1 v3 u0 σ = some (r, τ)) : W p l e R s m args below meth c H locs 0 0 (MQ below (gQi (dC, dI) (tM kc) (wM ad kc) A r τ) args s 0 0 A) (F0 m 109 ls [.int u0]) := by
  have hx := S.1
  have hb := S.2.1
  have hown := S.2.2.2.1
  have hu := S.2.2.2.2
  unfold f_X12_childAt_b109 at hg
  refine lv_istore (lv' := [(4, .int u0), (0, .ref (ad 0)), (1, .int v1), (3, .int v3)]) hx hb dX12_childAt_109 hl (by decide) rfl (fun ls hl => ?_)
  refine lv_iload hx hb dX12_childAt_111 (lv_at hl 0 rfl) ?_
  refine lv_if_eq (tgt := 125) hx hb dX12_childAt_113 (by decide) (fun c113 => ?_) (fun c113 => ?_)
  · have hg := (if_pos c113).symm.trans hg
    refine lv_iload_n hx hb dX12_childAt_125 rfl (lv_at hl 3 rfl) ?_
    obtain ⟨rfl, rfl⟩ := fin_some hg
    exact gr_i S hr hk X dX12_childAt_126
  · have hg := (if_neg c113).symm.trans hg
    refine lv_aload_n hx hb dX12_childAt_116 rfl (lv_at hl 1 rfl) ?_
    refine wmgR_0_18 S X mG_2068 dX12_childAt_117 ?_
    refine lv_iload_n hx hb dX12_childAt_120 rfl (lv_at hl 2 rfl) ?_
    obtain ⟨hi121, hg⟩ := gd_some hg
    refine wmlA_7 (v := (xA σ 7 v1)) S X hi121 rfl dX12_childAt_121 ?_
    refine lv_goto (tgt := 126) hx hb dX12_childAt_122 (by decide) ?_
    obtain ⟨rfl, rfl⟩ := fin_some hg
    exact gr_i S hr hk X dX12_childAt_126
set_option maxHeartbeats 4000000 in
set_option maxRecDepth 100000 in
theorem w_X12_childAt_b108 {σ : S5} {v1 : Int32} {v3 : Int32} {H : Heap} {locs : List Loc} {ls : Array Slot} (S : CallFix p m c cX12_childAt 5 s args uG RX12) (hr : meth.sig.returnType = (some .int)) (hk : meth.locks = false) (hR : 0 ≤ R.frames ∧ 0 ≤ R.locals)
    (X : gX (dC, dI) (tM kc) (wM ad kc) Z A s σ H locs) (hl : lv_has ls 5 [(0, .ref (ad 0)), (1, .int v1), (3, .int v3)]) (hg : f_X12_childAt_b108 v1 v3 σ = some (r, τ)) : W p l e R s m args below meth c H locs 0 0 (MQ below (gQi (dC, dI) (tM kc) (wM ad kc) A r τ) args s 0 0 A) (F0 m 108 ls []) := by
  have hx := S.1
  have hb := S.2.1
  have hown := S.2.2.2.1
  have hu := S.2.2.2.2
  unfold f_X12_childAt_b108 at hg
  refine lv_iconst (v := 0) hx hb dX12_childAt_108 (by decide) ?_
  exact w_X12_childAt_b109 S hr hk hR X (lv_sub hl [0, 1, 2] rfl) hg
set_option maxHeartbeats 4000000 in
set_option maxRecDepth 100000 in
theorem w_X12_childAt {σ : S5} {a1 : Int32} {a2 : Int32} {a3 : Int32} {H : Heap} {locs : List Loc} {ls : Array Slot} (S : CallFix p m c cX12_childAt 5 s args uG RX12) (hr : meth.sig.returnType = (some .int)) (hk : meth.locks = false) (hR : 0 ≤ R.frames ∧ 0 ≤ R.locals)
    (X : gX (dC, dI) (tM kc) (wM ad kc) Z A s σ H locs) (hl : lv_has ls 5 [(0, .ref (ad 0)), (1, .int a1), (2, .int a2), (3, .int a3)]) (hg : f_X12_childAt a1 a2 a3 σ = some (r, τ)) : W p l e R s m args below meth c H locs 0 0 (MQ below (gQi (dC, dI) (tM kc) (wM ad kc) A r τ) args s 0 0 A) (F0 m 0 ls []) := by
  have hx := S.1
  have hb := S.2.1
  have hown := S.2.2.2.1
  have hu := S.2.2.2.2
  unfold f_X12_childAt at hg
  refine lv_aload_n hx hb dX12_childAt_0 rfl (lv_at hl 0 rfl) ?_
  refine wmgR_0_13 S X mG_2063 dX12_childAt_1 ?_
  refine lv_iload_n hx hb dX12_childAt_4 rfl (lv_at hl 1 rfl) ?_
  obtain ⟨hi5, hg⟩ := gd_some hg
  refine wmlA_2 (v := (xA σ 2 a1)) S X hi5 rfl dX12_childAt_5 ?_
  rcases sw_0_12 ((xA σ 2 a1)) with hsw | hsw | hsw | hsw | hsw | hsw | hsw | hsw | hsw | hsw | hsw | hsw | hsw | hsw
  · refine lv_tableOut (tgt := 171) hx hb dX12_childAt_6 hsw (by decide) ?_
    obtain ⟨hs0, hs1, hs2, hs3, hs4, hs5, hs6, hs7, hs8, hs9, hs10, hs11, hs12⟩ := swo_0_12 hsw
    have hg := (if_neg hs0).symm.trans hg
    have hg := (if_neg hs1).symm.trans hg
    have hg := (if_neg hs2).symm.trans hg
    have hg := (if_neg hs3).symm.trans hg
    have hg := (if_neg hs4).symm.trans hg
    have hg := (if_neg hs5).symm.trans hg
    have hg := (if_neg hs6).symm.trans hg
    have hg := (if_neg hs7).symm.trans hg
    have hg := (if_neg hs8).symm.trans hg
    have hg := (if_neg hs9).symm.trans hg
    have hg := (if_neg hs10).symm.trans hg
    have hg := (if_neg hs11).symm.trans hg
    have hg := (if_neg hs12).symm.trans hg
    refine lv_aload_n hx hb dX12_childAt_171 rfl (lv_at hl 0 rfl) ?_
    refine wmgR_0_13 S X mG_2063 dX12_childAt_172 ?_
    refine lv_iload_n hx hb dX12_childAt_175 rfl (lv_at hl 1 rfl) ?_
    obtain ⟨hi176, hg⟩ := gd_some hg
    refine wmlA_2 (v := (xA σ 2 a1)) S X hi176 rfl dX12_childAt_176 ?_
    refine lv_bipush (v := 6) hx hb dX12_childAt_177 (by decide) ?_
    refine lv_icmp_eq (tgt := 193) hx hb dX12_childAt_179 (by decide) (fun c179 => ?_) (fun c179 => ?_)
    · have hg := (if_pos c179).symm.trans hg
      exact w_X12_childAt_b193 S hr hk hR X (lv_sub hl [3] rfl) hg
    · have hg := (if_neg c179).symm.trans hg
      refine lv_aload_n hx hb dX12_childAt_182 rfl (lv_at hl 0 rfl) ?_
      refine wmgR_0_13 S X mG_2063 dX12_childAt_183 ?_
      refine lv_iload_n hx hb dX12_childAt_186 rfl (lv_at hl 1 rfl) ?_
      obtain ⟨hi187, hg⟩ := gd_some hg
      refine wmlA_2 (v := (xA σ 2 a1)) S X hi187 rfl dX12_childAt_187 ?_
      refine lv_bipush (v := 7) hx hb dX12_childAt_188 (by decide) ?_
      refine lv_icmp_ne (tgt := 197) hx hb dX12_childAt_190 (by decide) (fun c190 => ?_) (fun c190 => ?_)
      · have hg := (if_neg c190).symm.trans hg
        refine lv_iconst (v := (-1)) hx hb dX12_childAt_197 (by decide) ?_
        obtain ⟨rfl, rfl⟩ := fin_some hg
        exact gr_i S hr hk X dX12_childAt_198
      · have hg := (if_pos c190).symm.trans hg
        exact w_X12_childAt_b193 S hr hk hR X (lv_sub hl [3] rfl) hg
  · refine lv_tableIn (off := 66) (tgt := 72) hx hb dX12_childAt_6 (by rw [hsw]; decide) (by rw [hsw]; decide) (by rw [hsw]; decide) (by decide) ?_
    have hg := (if_pos hsw).symm.trans hg
    refine lv_aload_n hx hb dX12_childAt_72 rfl (lv_at hl 0 rfl) ?_
    refine wmgR_0_13 S X mG_2063 dX12_childAt_73 ?_
    refine lv_iload_n hx hb dX12_childAt_76 rfl (lv_at hl 1 rfl) ?_
    obtain ⟨hi77, hg⟩ := gd_some hg
    refine wmlA_2 (v := (xA σ 2 a1)) S X hi77 rfl dX12_childAt_77 ?_
    refine lv_iconst (v := 3) hx hb dX12_childAt_78 (by decide) ?_
    refine lv_icmp_ne (tgt := 94) hx hb dX12_childAt_79 (by decide) (fun c79 => ?_) (fun c79 => ?_)
    · have hg := (if_neg c79).symm.trans hg
      refine lv_iload_n hx hb dX12_childAt_94 rfl (lv_at hl 3 rfl) ?_
      refine lv_if_ge (tgt := 108) hx hb dX12_childAt_95 (by decide) (fun c95 => ?_) (fun c95 => ?_)
      · have hg := (if_pos c95).symm.trans hg
        exact w_X12_childAt_b108 S hr hk hR X (lv_sub hl [0, 1, 3] rfl) hg
      · have hg := (if_neg c95).symm.trans hg
        refine lv_iload_n hx hb dX12_childAt_98 rfl (lv_at hl 2 rfl) ?_
        refine lv_bipush (v := 100) hx hb dX12_childAt_99 (by decide) ?_
        refine lv_icmp_ge (tgt := 108) hx hb dX12_childAt_101 (by decide) (fun c101 => ?_) (fun c101 => ?_)
        · have hg := (if_pos c101).symm.trans hg
          exact w_X12_childAt_b108 S hr hk hR X (lv_sub hl [0, 1, 3] rfl) hg
        · have hg := (if_neg c101).symm.trans hg
          refine lv_iconst (v := 1) hx hb dX12_childAt_104 (by decide) ?_
          refine lv_goto (tgt := 109) hx hb dX12_childAt_105 (by decide) ?_
          exact w_X12_childAt_b109 S hr hk hR X (lv_sub hl [0, 1, 3] rfl) hg
    · have hg := (if_pos c79).symm.trans hg
      refine lv_iload_n hx hb dX12_childAt_82 rfl (lv_at hl 2 rfl) ?_
      refine lv_if_ne (tgt := 90) hx hb dX12_childAt_83 (by decide) (fun c83 => ?_) (fun c83 => ?_)
      · have hg := (if_neg c83).symm.trans hg
        refine lv_iconst (v := 0) hx hb dX12_childAt_90 (by decide) ?_
        refine lv_goto (tgt := 109) hx hb dX12_childAt_91 (by decide) ?_
        exact w_X12_childAt_b109 S hr hk hR X (lv_sub hl [0, 1, 3] rfl) hg
      · have hg := (if_pos c83).symm.trans hg
        refine lv_iconst (v := 1) hx hb dX12_childAt_86 (by decide) ?_
        refine lv_goto (tgt := 109) hx hb dX12_childAt_87 (by decide) ?_
        exact w_X12_childAt_b109 S hr hk hR X (lv_sub hl [0, 1, 3] rfl) hg
  · refine lv_tableIn (off := 150) (tgt := 156) hx hb dX12_childAt_6 (by rw [hsw]; decide) (by rw [hsw]; decide) (by rw [hsw]; decide) (by decide) ?_
    have hg := (if_neg (by rw [hsw]; decide)).symm.trans hg
    have hg := (if_pos hsw).symm.trans hg
    refine lv_iload_n hx hb dX12_childAt_156 rfl (lv_at hl 2 rfl) ?_
    refine lv_if_ne (tgt := 169) hx hb dX12_childAt_157 (by decide) (fun c157 => ?_) (fun c157 => ?_)
    · have hg := (if_neg c157).symm.trans hg
      refine lv_iconst (v := (-1)) hx hb dX12_childAt_169 (by decide) ?_
      obtain ⟨rfl, rfl⟩ := fin_some hg
      exact gr_i S hr hk X dX12_childAt_170
    · have hg := (if_pos c157).symm.trans hg
      refine lv_aload_n hx hb dX12_childAt_160 rfl (lv_at hl 0 rfl) ?_
      refine wmgR_0_14 S X mG_2064 dX12_childAt_161 ?_
      refine lv_iload_n hx hb dX12_childAt_164 rfl (lv_at hl 1 rfl) ?_
      obtain ⟨hi165, hg⟩ := gd_some hg
      refine wmlA_3 (v := (xA σ 3 a1)) S X hi165 rfl dX12_childAt_165 ?_
      refine lv_goto (tgt := 170) hx hb dX12_childAt_166 (by decide) ?_
      obtain ⟨rfl, rfl⟩ := fin_some hg
      exact gr_i S hr hk X dX12_childAt_170
  · refine lv_tableIn (off := 150) (tgt := 156) hx hb dX12_childAt_6 (by rw [hsw]; decide) (by rw [hsw]; decide) (by rw [hsw]; decide) (by decide) ?_
    have hg := (if_neg (by rw [hsw]; decide)).symm.trans hg
    have hg := (if_neg (by rw [hsw]; decide)).symm.trans hg
    have hg := (if_pos hsw).symm.trans hg
    refine lv_iload_n hx hb dX12_childAt_156 rfl (lv_at hl 2 rfl) ?_
    refine lv_if_ne (tgt := 169) hx hb dX12_childAt_157 (by decide) (fun c157 => ?_) (fun c157 => ?_)
    · have hg := (if_neg c157).symm.trans hg
      refine lv_iconst (v := (-1)) hx hb dX12_childAt_169 (by decide) ?_
      obtain ⟨rfl, rfl⟩ := fin_some hg
      exact gr_i S hr hk X dX12_childAt_170
    · have hg := (if_pos c157).symm.trans hg
      refine lv_aload_n hx hb dX12_childAt_160 rfl (lv_at hl 0 rfl) ?_
      refine wmgR_0_14 S X mG_2064 dX12_childAt_161 ?_
      refine lv_iload_n hx hb dX12_childAt_164 rfl (lv_at hl 1 rfl) ?_
      obtain ⟨hi165, hg⟩ := gd_some hg
      refine wmlA_3 (v := (xA σ 3 a1)) S X hi165 rfl dX12_childAt_165 ?_
      refine lv_goto (tgt := 170) hx hb dX12_childAt_166 (by decide) ?_
      obtain ⟨rfl, rfl⟩ := fin_some hg
      exact gr_i S hr hk X dX12_childAt_170
  · refine lv_tableIn (off := 66) (tgt := 72) hx hb dX12_childAt_6 (by rw [hsw]; decide) (by rw [hsw]; decide) (by rw [hsw]; decide) (by decide) ?_
    have hg := (if_neg (by rw [hsw]; decide)).symm.trans hg
    have hg := (if_neg (by rw [hsw]; decide)).symm.trans hg
    have hg := (if_neg (by rw [hsw]; decide)).symm.trans hg
    have hg := (if_pos hsw).symm.trans hg
    refine lv_aload_n hx hb dX12_childAt_72 rfl (lv_at hl 0 rfl) ?_
    refine wmgR_0_13 S X mG_2063 dX12_childAt_73 ?_
    refine lv_iload_n hx hb dX12_childAt_76 rfl (lv_at hl 1 rfl) ?_
    obtain ⟨hi77, hg⟩ := gd_some hg
    refine wmlA_2 (v := (xA σ 2 a1)) S X hi77 rfl dX12_childAt_77 ?_
    refine lv_iconst (v := 3) hx hb dX12_childAt_78 (by decide) ?_
    refine lv_icmp_ne (tgt := 94) hx hb dX12_childAt_79 (by decide) (fun c79 => ?_) (fun c79 => ?_)
    · have hg := (if_neg c79).symm.trans hg
      refine lv_iload_n hx hb dX12_childAt_94 rfl (lv_at hl 3 rfl) ?_
      refine lv_if_ge (tgt := 108) hx hb dX12_childAt_95 (by decide) (fun c95 => ?_) (fun c95 => ?_)
      · have hg := (if_pos c95).symm.trans hg
        exact w_X12_childAt_b108 S hr hk hR X (lv_sub hl [0, 1, 3] rfl) hg
      · have hg := (if_neg c95).symm.trans hg
        refine lv_iload_n hx hb dX12_childAt_98 rfl (lv_at hl 2 rfl) ?_
        refine lv_bipush (v := 100) hx hb dX12_childAt_99 (by decide) ?_
        refine lv_icmp_ge (tgt := 108) hx hb dX12_childAt_101 (by decide) (fun c101 => ?_) (fun c101 => ?_)
        · have hg := (if_pos c101).symm.trans hg
          exact w_X12_childAt_b108 S hr hk hR X (lv_sub hl [0, 1, 3] rfl) hg
        · have hg := (if_neg c101).symm.trans hg
          refine lv_iconst (v := 1) hx hb dX12_childAt_104 (by decide) ?_
          refine lv_goto (tgt := 109) hx hb dX12_childAt_105 (by decide) ?_
          exact w_X12_childAt_b109 S hr hk hR X (lv_sub hl [0, 1, 3] rfl) hg
    · have hg := (if_pos c79).symm.trans hg
      refine lv_iload_n hx hb dX12_childAt_82 rfl (lv_at hl 2 rfl) ?_
      refine lv_if_ne (tgt := 90) hx hb dX12_childAt_83 (by decide) (fun c83 => ?_) (fun c83 => ?_)
      · have hg := (if_neg c83).symm.trans hg
        refine lv_iconst (v := 0) hx hb dX12_childAt_90 (by decide) ?_
        refine lv_goto (tgt := 109) hx hb dX12_childAt_91 (by decide) ?_
        exact w_X12_childAt_b109 S hr hk hR X (lv_sub hl [0, 1, 3] rfl) hg
      · have hg := (if_pos c83).symm.trans hg
        refine lv_iconst (v := 1) hx hb dX12_childAt_86 (by decide) ?_
        refine lv_goto (tgt := 109) hx hb dX12_childAt_87 (by decide) ?_
        exact w_X12_childAt_b109 S hr hk hR X (lv_sub hl [0, 1, 3] rfl) hg
  · refine lv_tableIn (off := 150) (tgt := 156) hx hb dX12_childAt_6 (by rw [hsw]; decide) (by rw [hsw]; decide) (by rw [hsw]; decide) (by decide) ?_
    have hg := (if_neg (by rw [hsw]; decide)).symm.trans hg
    have hg := (if_neg (by rw [hsw]; decide)).symm.trans hg
    have hg := (if_neg (by rw [hsw]; decide)).symm.trans hg
    have hg := (if_neg (by rw [hsw]; decide)).symm.trans hg
    have hg := (if_pos hsw).symm.trans hg
    refine lv_iload_n hx hb dX12_childAt_156 rfl (lv_at hl 2 rfl) ?_
    refine lv_if_ne (tgt := 169) hx hb dX12_childAt_157 (by decide) (fun c157 => ?_) (fun c157 => ?_)
    · have hg := (if_neg c157).symm.trans hg
      refine lv_iconst (v := (-1)) hx hb dX12_childAt_169 (by decide) ?_
      obtain ⟨rfl, rfl⟩ := fin_some hg
      exact gr_i S hr hk X dX12_childAt_170
    · have hg := (if_pos c157).symm.trans hg
      refine lv_aload_n hx hb dX12_childAt_160 rfl (lv_at hl 0 rfl) ?_
      refine wmgR_0_14 S X mG_2064 dX12_childAt_161 ?_
      refine lv_iload_n hx hb dX12_childAt_164 rfl (lv_at hl 1 rfl) ?_
      obtain ⟨hi165, hg⟩ := gd_some hg
      refine wmlA_3 (v := (xA σ 3 a1)) S X hi165 rfl dX12_childAt_165 ?_
      refine lv_goto (tgt := 170) hx hb dX12_childAt_166 (by decide) ?_
      obtain ⟨rfl, rfl⟩ := fin_some hg
      exact gr_i S hr hk X dX12_childAt_170
  · refine lv_tableIn (off := 121) (tgt := 127) hx hb dX12_childAt_6 (by rw [hsw]; decide) (by rw [hsw]; decide) (by rw [hsw]; decide) (by decide) ?_
    have hg := (if_neg (by rw [hsw]; decide)).symm.trans hg
    have hg := (if_neg (by rw [hsw]; decide)).symm.trans hg
    have hg := (if_neg (by rw [hsw]; decide)).symm.trans hg
    have hg := (if_neg (by rw [hsw]; decide)).symm.trans hg
    have hg := (if_neg (by rw [hsw]; decide)).symm.trans hg
    have hg := (if_pos hsw).symm.trans hg
    refine lv_iload_n hx hb dX12_childAt_127 rfl (lv_at hl 2 rfl) ?_
    refine lv_if_ne (tgt := 140) hx hb dX12_childAt_128 (by decide) (fun c128 => ?_) (fun c128 => ?_)
    · have hg := (if_neg c128).symm.trans hg
      refine lv_iload_n hx hb dX12_childAt_140 rfl (lv_at hl 2 rfl) ?_
      refine lv_iconst (v := 1) hx hb dX12_childAt_141 (by decide) ?_
      refine lv_icmp_ne (tgt := 154) hx hb dX12_childAt_142 (by decide) (fun c142 => ?_) (fun c142 => ?_)
      · have hg := (if_neg c142).symm.trans hg
        refine lv_iconst (v := (-1)) hx hb dX12_childAt_154 (by decide) ?_
        obtain ⟨rfl, rfl⟩ := fin_some hg
        exact gr_i S hr hk X dX12_childAt_155
      · have hg := (if_pos c142).symm.trans hg
        refine lv_aload_n hx hb dX12_childAt_145 rfl (lv_at hl 0 rfl) ?_
        refine wmgR_0_15 S X mG_2065 dX12_childAt_146 ?_
        refine lv_iload_n hx hb dX12_childAt_149 rfl (lv_at hl 1 rfl) ?_
        obtain ⟨hi150, hg⟩ := gd_some hg
        refine wmlA_4 (v := (xA σ 4 a1)) S X hi150 rfl dX12_childAt_150 ?_
        refine lv_goto (tgt := 155) hx hb dX12_childAt_151 (by decide) ?_
        obtain ⟨rfl, rfl⟩ := fin_some hg
        exact gr_i S hr hk X dX12_childAt_155
    · have hg := (if_pos c128).symm.trans hg
      refine lv_aload_n hx hb dX12_childAt_131 rfl (lv_at hl 0 rfl) ?_
      refine wmgR_0_14 S X mG_2064 dX12_childAt_132 ?_
      refine lv_iload_n hx hb dX12_childAt_135 rfl (lv_at hl 1 rfl) ?_
      obtain ⟨hi136, hg⟩ := gd_some hg
      refine wmlA_3 (v := (xA σ 3 a1)) S X hi136 rfl dX12_childAt_136 ?_
      refine lv_goto (tgt := 155) hx hb dX12_childAt_137 (by decide) ?_
      obtain ⟨rfl, rfl⟩ := fin_some hg
      exact gr_i S hr hk X dX12_childAt_155
  · refine lv_tableIn (off := 165) (tgt := 171) hx hb dX12_childAt_6 (by rw [hsw]; decide) (by rw [hsw]; decide) (by rw [hsw]; decide) (by decide) ?_
    have hg := (if_neg (by rw [hsw]; decide)).symm.trans hg
    have hg := (if_neg (by rw [hsw]; decide)).symm.trans hg
    have hg := (if_neg (by rw [hsw]; decide)).symm.trans hg
    have hg := (if_neg (by rw [hsw]; decide)).symm.trans hg
    have hg := (if_neg (by rw [hsw]; decide)).symm.trans hg
    have hg := (if_neg (by rw [hsw]; decide)).symm.trans hg
    have hg := (if_pos hsw).symm.trans hg
    refine lv_aload_n hx hb dX12_childAt_171 rfl (lv_at hl 0 rfl) ?_
    refine wmgR_0_13 S X mG_2063 dX12_childAt_172 ?_
    refine lv_iload_n hx hb dX12_childAt_175 rfl (lv_at hl 1 rfl) ?_
    obtain ⟨hi176, hg⟩ := gd_some hg
    refine wmlA_2 (v := (xA σ 2 a1)) S X hi176 rfl dX12_childAt_176 ?_
    refine lv_bipush (v := 6) hx hb dX12_childAt_177 (by decide) ?_
    refine lv_icmp_eq (tgt := 193) hx hb dX12_childAt_179 (by decide) (fun c179 => ?_) (fun c179 => ?_)
    · have hg := (if_pos c179).symm.trans hg
      exact w_X12_childAt_b193 S hr hk hR X (lv_sub hl [3] rfl) hg
    · have hg := (if_neg c179).symm.trans hg
      refine lv_aload_n hx hb dX12_childAt_182 rfl (lv_at hl 0 rfl) ?_
      refine wmgR_0_13 S X mG_2063 dX12_childAt_183 ?_
      refine lv_iload_n hx hb dX12_childAt_186 rfl (lv_at hl 1 rfl) ?_
      obtain ⟨hi187, hg⟩ := gd_some hg
      refine wmlA_2 (v := (xA σ 2 a1)) S X hi187 rfl dX12_childAt_187 ?_
      refine lv_bipush (v := 7) hx hb dX12_childAt_188 (by decide) ?_
      refine lv_icmp_ne (tgt := 197) hx hb dX12_childAt_190 (by decide) (fun c190 => ?_) (fun c190 => ?_)
      · have hg := (if_neg c190).symm.trans hg
        refine lv_iconst (v := (-1)) hx hb dX12_childAt_197 (by decide) ?_
        obtain ⟨rfl, rfl⟩ := fin_some hg
        exact gr_i S hr hk X dX12_childAt_198
      · have hg := (if_pos c190).symm.trans hg
        exact w_X12_childAt_b193 S hr hk hR X (lv_sub hl [3] rfl) hg
  · refine lv_tableIn (off := 165) (tgt := 171) hx hb dX12_childAt_6 (by rw [hsw]; decide) (by rw [hsw]; decide) (by rw [hsw]; decide) (by decide) ?_
    have hg := (if_neg (by rw [hsw]; decide)).symm.trans hg
    have hg := (if_neg (by rw [hsw]; decide)).symm.trans hg
    have hg := (if_neg (by rw [hsw]; decide)).symm.trans hg
    have hg := (if_neg (by rw [hsw]; decide)).symm.trans hg
    have hg := (if_neg (by rw [hsw]; decide)).symm.trans hg
    have hg := (if_neg (by rw [hsw]; decide)).symm.trans hg
    have hg := (if_neg (by rw [hsw]; decide)).symm.trans hg
    have hg := (if_pos hsw).symm.trans hg
    refine lv_aload_n hx hb dX12_childAt_171 rfl (lv_at hl 0 rfl) ?_
    refine wmgR_0_13 S X mG_2063 dX12_childAt_172 ?_
    refine lv_iload_n hx hb dX12_childAt_175 rfl (lv_at hl 1 rfl) ?_
    obtain ⟨hi176, hg⟩ := gd_some hg
    refine wmlA_2 (v := (xA σ 2 a1)) S X hi176 rfl dX12_childAt_176 ?_
    refine lv_bipush (v := 6) hx hb dX12_childAt_177 (by decide) ?_
    refine lv_icmp_eq (tgt := 193) hx hb dX12_childAt_179 (by decide) (fun c179 => ?_) (fun c179 => ?_)
    · have hg := (if_pos c179).symm.trans hg
      exact w_X12_childAt_b193 S hr hk hR X (lv_sub hl [3] rfl) hg
    · have hg := (if_neg c179).symm.trans hg
      refine lv_aload_n hx hb dX12_childAt_182 rfl (lv_at hl 0 rfl) ?_
      refine wmgR_0_13 S X mG_2063 dX12_childAt_183 ?_
      refine lv_iload_n hx hb dX12_childAt_186 rfl (lv_at hl 1 rfl) ?_
      obtain ⟨hi187, hg⟩ := gd_some hg
      refine wmlA_2 (v := (xA σ 2 a1)) S X hi187 rfl dX12_childAt_187 ?_
      refine lv_bipush (v := 7) hx hb dX12_childAt_188 (by decide) ?_
      refine lv_icmp_ne (tgt := 197) hx hb dX12_childAt_190 (by decide) (fun c190 => ?_) (fun c190 => ?_)
      · have hg := (if_neg c190).symm.trans hg
        refine lv_iconst (v := (-1)) hx hb dX12_childAt_197 (by decide) ?_
        obtain ⟨rfl, rfl⟩ := fin_some hg
        exact gr_i S hr hk X dX12_childAt_198
      · have hg := (if_pos c190).symm.trans hg
        exact w_X12_childAt_b193 S hr hk hR X (lv_sub hl [3] rfl) hg
  · refine lv_tableIn (off := 165) (tgt := 171) hx hb dX12_childAt_6 (by rw [hsw]; decide) (by rw [hsw]; decide) (by rw [hsw]; decide) (by decide) ?_
    have hg := (if_neg (by rw [hsw]; decide)).symm.trans hg
    have hg := (if_neg (by rw [hsw]; decide)).symm.trans hg
    have hg := (if_neg (by rw [hsw]; decide)).symm.trans hg
    have hg := (if_neg (by rw [hsw]; decide)).symm.trans hg
    have hg := (if_neg (by rw [hsw]; decide)).symm.trans hg
    have hg := (if_neg (by rw [hsw]; decide)).symm.trans hg
    have hg := (if_neg (by rw [hsw]; decide)).symm.trans hg
    have hg := (if_neg (by rw [hsw]; decide)).symm.trans hg
    have hg := (if_pos hsw).symm.trans hg
    refine lv_aload_n hx hb dX12_childAt_171 rfl (lv_at hl 0 rfl) ?_
    refine wmgR_0_13 S X mG_2063 dX12_childAt_172 ?_
    refine lv_iload_n hx hb dX12_childAt_175 rfl (lv_at hl 1 rfl) ?_
    obtain ⟨hi176, hg⟩ := gd_some hg
    refine wmlA_2 (v := (xA σ 2 a1)) S X hi176 rfl dX12_childAt_176 ?_
    refine lv_bipush (v := 6) hx hb dX12_childAt_177 (by decide) ?_
    refine lv_icmp_eq (tgt := 193) hx hb dX12_childAt_179 (by decide) (fun c179 => ?_) (fun c179 => ?_)
    · have hg := (if_pos c179).symm.trans hg
      exact w_X12_childAt_b193 S hr hk hR X (lv_sub hl [3] rfl) hg
    · have hg := (if_neg c179).symm.trans hg
      refine lv_aload_n hx hb dX12_childAt_182 rfl (lv_at hl 0 rfl) ?_
      refine wmgR_0_13 S X mG_2063 dX12_childAt_183 ?_
      refine lv_iload_n hx hb dX12_childAt_186 rfl (lv_at hl 1 rfl) ?_
      obtain ⟨hi187, hg⟩ := gd_some hg
      refine wmlA_2 (v := (xA σ 2 a1)) S X hi187 rfl dX12_childAt_187 ?_
      refine lv_bipush (v := 7) hx hb dX12_childAt_188 (by decide) ?_
      refine lv_icmp_ne (tgt := 197) hx hb dX12_childAt_190 (by decide) (fun c190 => ?_) (fun c190 => ?_)
      · have hg := (if_neg c190).symm.trans hg
        refine lv_iconst (v := (-1)) hx hb dX12_childAt_197 (by decide) ?_
        obtain ⟨rfl, rfl⟩ := fin_some hg
        exact gr_i S hr hk X dX12_childAt_198
      · have hg := (if_pos c190).symm.trans hg
        exact w_X12_childAt_b193 S hr hk hR X (lv_sub hl [3] rfl) hg
  · refine lv_tableIn (off := 165) (tgt := 171) hx hb dX12_childAt_6 (by rw [hsw]; decide) (by rw [hsw]; decide) (by rw [hsw]; decide) (by decide) ?_
    have hg := (if_neg (by rw [hsw]; decide)).symm.trans hg
    have hg := (if_neg (by rw [hsw]; decide)).symm.trans hg
    have hg := (if_neg (by rw [hsw]; decide)).symm.trans hg
    have hg := (if_neg (by rw [hsw]; decide)).symm.trans hg
    have hg := (if_neg (by rw [hsw]; decide)).symm.trans hg
    have hg := (if_neg (by rw [hsw]; decide)).symm.trans hg
    have hg := (if_neg (by rw [hsw]; decide)).symm.trans hg
    have hg := (if_neg (by rw [hsw]; decide)).symm.trans hg
    have hg := (if_neg (by rw [hsw]; decide)).symm.trans hg
    have hg := (if_pos hsw).symm.trans hg
    refine lv_aload_n hx hb dX12_childAt_171 rfl (lv_at hl 0 rfl) ?_
    refine wmgR_0_13 S X mG_2063 dX12_childAt_172 ?_
    refine lv_iload_n hx hb dX12_childAt_175 rfl (lv_at hl 1 rfl) ?_
    obtain ⟨hi176, hg⟩ := gd_some hg
    refine wmlA_2 (v := (xA σ 2 a1)) S X hi176 rfl dX12_childAt_176 ?_
    refine lv_bipush (v := 6) hx hb dX12_childAt_177 (by decide) ?_
    refine lv_icmp_eq (tgt := 193) hx hb dX12_childAt_179 (by decide) (fun c179 => ?_) (fun c179 => ?_)
    · have hg := (if_pos c179).symm.trans hg
      exact w_X12_childAt_b193 S hr hk hR X (lv_sub hl [3] rfl) hg
    · have hg := (if_neg c179).symm.trans hg
      refine lv_aload_n hx hb dX12_childAt_182 rfl (lv_at hl 0 rfl) ?_
      refine wmgR_0_13 S X mG_2063 dX12_childAt_183 ?_
      refine lv_iload_n hx hb dX12_childAt_186 rfl (lv_at hl 1 rfl) ?_
      obtain ⟨hi187, hg⟩ := gd_some hg
      refine wmlA_2 (v := (xA σ 2 a1)) S X hi187 rfl dX12_childAt_187 ?_
      refine lv_bipush (v := 7) hx hb dX12_childAt_188 (by decide) ?_
      refine lv_icmp_ne (tgt := 197) hx hb dX12_childAt_190 (by decide) (fun c190 => ?_) (fun c190 => ?_)
      · have hg := (if_neg c190).symm.trans hg
        refine lv_iconst (v := (-1)) hx hb dX12_childAt_197 (by decide) ?_
        obtain ⟨rfl, rfl⟩ := fin_some hg
        exact gr_i S hr hk X dX12_childAt_198
      · have hg := (if_pos c190).symm.trans hg
        exact w_X12_childAt_b193 S hr hk hR X (lv_sub hl [3] rfl) hg
  · refine lv_tableIn (off := 165) (tgt := 171) hx hb dX12_childAt_6 (by rw [hsw]; decide) (by rw [hsw]; decide) (by rw [hsw]; decide) (by decide) ?_
    have hg := (if_neg (by rw [hsw]; decide)).symm.trans hg
    have hg := (if_neg (by rw [hsw]; decide)).symm.trans hg
    have hg := (if_neg (by rw [hsw]; decide)).symm.trans hg
    have hg := (if_neg (by rw [hsw]; decide)).symm.trans hg
    have hg := (if_neg (by rw [hsw]; decide)).symm.trans hg
    have hg := (if_neg (by rw [hsw]; decide)).symm.trans hg
    have hg := (if_neg (by rw [hsw]; decide)).symm.trans hg
    have hg := (if_neg (by rw [hsw]; decide)).symm.trans hg
    have hg := (if_neg (by rw [hsw]; decide)).symm.trans hg
    have hg := (if_neg (by rw [hsw]; decide)).symm.trans hg
    have hg := (if_pos hsw).symm.trans hg
    refine lv_aload_n hx hb dX12_childAt_171 rfl (lv_at hl 0 rfl) ?_
    refine wmgR_0_13 S X mG_2063 dX12_childAt_172 ?_
    refine lv_iload_n hx hb dX12_childAt_175 rfl (lv_at hl 1 rfl) ?_
    obtain ⟨hi176, hg⟩ := gd_some hg
    refine wmlA_2 (v := (xA σ 2 a1)) S X hi176 rfl dX12_childAt_176 ?_
    refine lv_bipush (v := 6) hx hb dX12_childAt_177 (by decide) ?_
    refine lv_icmp_eq (tgt := 193) hx hb dX12_childAt_179 (by decide) (fun c179 => ?_) (fun c179 => ?_)
    · have hg := (if_pos c179).symm.trans hg
      exact w_X12_childAt_b193 S hr hk hR X (lv_sub hl [3] rfl) hg
    · have hg := (if_neg c179).symm.trans hg
      refine lv_aload_n hx hb dX12_childAt_182 rfl (lv_at hl 0 rfl) ?_
      refine wmgR_0_13 S X mG_2063 dX12_childAt_183 ?_
      refine lv_iload_n hx hb dX12_childAt_186 rfl (lv_at hl 1 rfl) ?_
      obtain ⟨hi187, hg⟩ := gd_some hg
      refine wmlA_2 (v := (xA σ 2 a1)) S X hi187 rfl dX12_childAt_187 ?_
      refine lv_bipush (v := 7) hx hb dX12_childAt_188 (by decide) ?_
      refine lv_icmp_ne (tgt := 197) hx hb dX12_childAt_190 (by decide) (fun c190 => ?_) (fun c190 => ?_)
      · have hg := (if_neg c190).symm.trans hg
        refine lv_iconst (v := (-1)) hx hb dX12_childAt_197 (by decide) ?_
        obtain ⟨rfl, rfl⟩ := fin_some hg
        exact gr_i S hr hk X dX12_childAt_198
      · have hg := (if_pos c190).symm.trans hg
        exact w_X12_childAt_b193 S hr hk hR X (lv_sub hl [3] rfl) hg
  · refine lv_tableIn (off := 165) (tgt := 171) hx hb dX12_childAt_6 (by rw [hsw]; decide) (by rw [hsw]; decide) (by rw [hsw]; decide) (by decide) ?_
    have hg := (if_neg (by rw [hsw]; decide)).symm.trans hg
    have hg := (if_neg (by rw [hsw]; decide)).symm.trans hg
    have hg := (if_neg (by rw [hsw]; decide)).symm.trans hg
    have hg := (if_neg (by rw [hsw]; decide)).symm.trans hg
    have hg := (if_neg (by rw [hsw]; decide)).symm.trans hg
    have hg := (if_neg (by rw [hsw]; decide)).symm.trans hg
    have hg := (if_neg (by rw [hsw]; decide)).symm.trans hg
    have hg := (if_neg (by rw [hsw]; decide)).symm.trans hg
    have hg := (if_neg (by rw [hsw]; decide)).symm.trans hg
    have hg := (if_neg (by rw [hsw]; decide)).symm.trans hg
    have hg := (if_neg (by rw [hsw]; decide)).symm.trans hg
    have hg := (if_pos hsw).symm.trans hg
    refine lv_aload_n hx hb dX12_childAt_171 rfl (lv_at hl 0 rfl) ?_
    refine wmgR_0_13 S X mG_2063 dX12_childAt_172 ?_
    refine lv_iload_n hx hb dX12_childAt_175 rfl (lv_at hl 1 rfl) ?_
    obtain ⟨hi176, hg⟩ := gd_some hg
    refine wmlA_2 (v := (xA σ 2 a1)) S X hi176 rfl dX12_childAt_176 ?_
    refine lv_bipush (v := 6) hx hb dX12_childAt_177 (by decide) ?_
    refine lv_icmp_eq (tgt := 193) hx hb dX12_childAt_179 (by decide) (fun c179 => ?_) (fun c179 => ?_)
    · have hg := (if_pos c179).symm.trans hg
      exact w_X12_childAt_b193 S hr hk hR X (lv_sub hl [3] rfl) hg
    · have hg := (if_neg c179).symm.trans hg
      refine lv_aload_n hx hb dX12_childAt_182 rfl (lv_at hl 0 rfl) ?_
      refine wmgR_0_13 S X mG_2063 dX12_childAt_183 ?_
      refine lv_iload_n hx hb dX12_childAt_186 rfl (lv_at hl 1 rfl) ?_
      obtain ⟨hi187, hg⟩ := gd_some hg
      refine wmlA_2 (v := (xA σ 2 a1)) S X hi187 rfl dX12_childAt_187 ?_
      refine lv_bipush (v := 7) hx hb dX12_childAt_188 (by decide) ?_
      refine lv_icmp_ne (tgt := 197) hx hb dX12_childAt_190 (by decide) (fun c190 => ?_) (fun c190 => ?_)
      · have hg := (if_neg c190).symm.trans hg
        refine lv_iconst (v := (-1)) hx hb dX12_childAt_197 (by decide) ?_
        obtain ⟨rfl, rfl⟩ := fin_some hg
        exact gr_i S hr hk X dX12_childAt_198
      · have hg := (if_pos c190).symm.trans hg
        exact w_X12_childAt_b193 S hr hk hR X (lv_sub hl [3] rfl) hg
  · refine lv_tableIn (off := 150) (tgt := 156) hx hb dX12_childAt_6 (by rw [hsw]; decide) (by rw [hsw]; decide) (by rw [hsw]; decide) (by decide) ?_
    have hg := (if_neg (by rw [hsw]; decide)).symm.trans hg
    have hg := (if_neg (by rw [hsw]; decide)).symm.trans hg
    have hg := (if_neg (by rw [hsw]; decide)).symm.trans hg
    have hg := (if_neg (by rw [hsw]; decide)).symm.trans hg
    have hg := (if_neg (by rw [hsw]; decide)).symm.trans hg
    have hg := (if_neg (by rw [hsw]; decide)).symm.trans hg
    have hg := (if_neg (by rw [hsw]; decide)).symm.trans hg
    have hg := (if_neg (by rw [hsw]; decide)).symm.trans hg
    have hg := (if_neg (by rw [hsw]; decide)).symm.trans hg
    have hg := (if_neg (by rw [hsw]; decide)).symm.trans hg
    have hg := (if_neg (by rw [hsw]; decide)).symm.trans hg
    have hg := (if_neg (by rw [hsw]; decide)).symm.trans hg
    have hg := (if_pos hsw).symm.trans hg
    refine lv_iload_n hx hb dX12_childAt_156 rfl (lv_at hl 2 rfl) ?_
    refine lv_if_ne (tgt := 169) hx hb dX12_childAt_157 (by decide) (fun c157 => ?_) (fun c157 => ?_)
    · have hg := (if_neg c157).symm.trans hg
      refine lv_iconst (v := (-1)) hx hb dX12_childAt_169 (by decide) ?_
      obtain ⟨rfl, rfl⟩ := fin_some hg
      exact gr_i S hr hk X dX12_childAt_170
    · have hg := (if_pos c157).symm.trans hg
      refine lv_aload_n hx hb dX12_childAt_160 rfl (lv_at hl 0 rfl) ?_
      refine wmgR_0_14 S X mG_2064 dX12_childAt_161 ?_
      refine lv_iload_n hx hb dX12_childAt_164 rfl (lv_at hl 1 rfl) ?_
      obtain ⟨hi165, hg⟩ := gd_some hg
      refine wmlA_3 (v := (xA σ 3 a1)) S X hi165 rfl dX12_childAt_165 ?_
      refine lv_goto (tgt := 170) hx hb dX12_childAt_166 (by decide) ?_
      obtain ⟨rfl, rfl⟩ := fin_some hg
      exact gr_i S hr hk X dX12_childAt_170
end MX12_childAt
set_option maxRecDepth 100000 in
theorem k2_X12_childAt (l : Launch) (dC : Nat → ClassId) (dI : Nat → Nat → Nat) {Z : ZZ} (ad : Nat → Nat) (kc : Nat → ClassId) {σ τ : S5} {a1 : Int32} {a2 : Int32} {a3 : Int32} {r : Int32} (hg : f_X12_childAt a1 a2 a3 σ = some (r, τ)) (sz : Nat) : Met l yX12_childAt (Cond.code yX12_childAt cX12_childAt 5 (some .int) :: uG) { frames := 0, cells := 0, slots := 0, locals := 0 } (gPc (dC, dI) (tM kc) (wM ad kc) Z [.ref (ad 0), .int a1, .int a2, .int a3] σ sz) (gQi (dC, dI) (tM kc) (wM ad kc) (va_A (wM ad kc σ) sz) r τ) 0 0 (va_A (wM ad kc σ) sz) :=
  g_start (by decide) (Nat.le_of_ble_eq_true rfl) (fun p e s m below meth c ls S hr hk X hl => w_X12_childAt S hr hk ⟨Nat.le_refl _, Nat.le_refl _⟩ X hl hg)
section MX12_hasRow
variable {p : Program} {l : Launch} {e : Env} {R : Room} {s : State} {m : MethodId} {args : Array Value} {below : List Frame} {meth : Method} {c : Code} {dC : Nat → ClassId} {dI : Nat → Nat → Nat} {Z : ZZ} {A : Nat → Prop} {ad : Nat → Nat} {kc : Nat → ClassId} {r : Int32} {τ : S5}
set_option maxHeartbeats 4000000 in
set_option maxRecDepth 100000 in
theorem w_X12_hasRow_b21 {σ : S5}  {H : Heap} {locs : List Loc} {ls : Array Slot} (S : CallFix p m c cX12_hasRow 1 s args uG RX12) (hr : meth.sig.returnType = (some .boolean)) (hk : meth.locks = false) (hR : 0 ≤ R.frames ∧ 0 ≤ R.locals)
    (X : gX (dC, dI) (tM kc) (wM ad kc) Z A s σ H locs) (hl : lv_has ls 1 []) (hg : f_X12_hasRow_b21  σ = some (r, τ)) : W p l e R s m args below meth c H locs 0 0 (MQ below (gQi (dC, dI) (tM kc) (wM ad kc) A r τ) args s 0 0 A) (F0 m 21 ls []) := by
  have hx := S.1
  have hb := S.2.1
  have hown := S.2.2.2.1
  have hu := S.2.2.2.2
  unfold f_X12_hasRow_b21 at hg
  refine lv_iconst (v := 1) hx hb dX12_hasRow_21 (by decide) ?_
  refine lv_goto (tgt := 26) hx hb dX12_hasRow_22 (by decide) ?_
  obtain ⟨rfl, rfl⟩ := fin_some hg
  exact gr_z S hr hk X (Or.inr rfl) dX12_hasRow_26
set_option maxHeartbeats 4000000 in
set_option maxRecDepth 100000 in
theorem w_X12_hasRow {σ : S5} {a0 : Int32} {H : Heap} {locs : List Loc} {ls : Array Slot} (S : CallFix p m c cX12_hasRow 1 s args uG RX12) (hr : meth.sig.returnType = (some .boolean)) (hk : meth.locks = false) (hR : 0 ≤ R.frames ∧ 0 ≤ R.locals)
    (X : gX (dC, dI) (tM kc) (wM ad kc) Z A s σ H locs) (hl : lv_has ls 1 [(0, .int a0)]) (hg : f_X12_hasRow a0 σ = some (r, τ)) : W p l e R s m args below meth c H locs 0 0 (MQ below (gQi (dC, dI) (tM kc) (wM ad kc) A r τ) args s 0 0 A) (F0 m 0 ls []) := by
  have hx := S.1
  have hb := S.2.1
  have hown := S.2.2.2.1
  have hu := S.2.2.2.2
  unfold f_X12_hasRow at hg
  refine lv_iload_n hx hb dX12_hasRow_0 rfl (lv_at hl 0 rfl) ?_
  refine lv_if_eq (tgt := 21) hx hb dX12_hasRow_1 (by decide) (fun c1 => ?_) (fun c1 => ?_)
  · have hg := (if_pos c1).symm.trans hg
    exact w_X12_hasRow_b21 S hr hk hR X (lv_sub hl [] rfl) hg
  · have hg := (if_neg c1).symm.trans hg
    refine lv_iload_n hx hb dX12_hasRow_4 rfl (lv_at hl 0 rfl) ?_
    refine lv_iconst (v := 3) hx hb dX12_hasRow_5 (by decide) ?_
    refine lv_icmp_eq (tgt := 21) hx hb dX12_hasRow_6 (by decide) (fun c6 => ?_) (fun c6 => ?_)
    · have hg := (if_pos c6).symm.trans hg
      exact w_X12_hasRow_b21 S hr hk hR X (lv_sub hl [] rfl) hg
    · have hg := (if_neg c6).symm.trans hg
      refine lv_iload_n hx hb dX12_hasRow_9 rfl (lv_at hl 0 rfl) ?_
      refine lv_bipush (v := 6) hx hb dX12_hasRow_10 (by decide) ?_
      refine lv_icmp_eq (tgt := 21) hx hb dX12_hasRow_12 (by decide) (fun c12 => ?_) (fun c12 => ?_)
      · have hg := (if_pos c12).symm.trans hg
        exact w_X12_hasRow_b21 S hr hk hR X (lv_sub hl [] rfl) hg
      · have hg := (if_neg c12).symm.trans hg
        refine lv_iload_n hx hb dX12_hasRow_15 rfl (lv_at hl 0 rfl) ?_
        refine lv_bipush (v := 7) hx hb dX12_hasRow_16 (by decide) ?_
        refine lv_icmp_ne (tgt := 25) hx hb dX12_hasRow_18 (by decide) (fun c18 => ?_) (fun c18 => ?_)
        · have hg := (if_neg c18).symm.trans hg
          refine lv_iconst (v := 0) hx hb dX12_hasRow_25 (by decide) ?_
          obtain ⟨rfl, rfl⟩ := fin_some hg
          exact gr_z S hr hk X (Or.inl rfl) dX12_hasRow_26
        · have hg := (if_pos c18).symm.trans hg
          exact w_X12_hasRow_b21 S hr hk hR X (lv_sub hl [] rfl) hg
end MX12_hasRow
set_option maxRecDepth 100000 in
theorem k2_X12_hasRow (l : Launch) (dC : Nat → ClassId) (dI : Nat → Nat → Nat) {Z : ZZ} (ad : Nat → Nat) (kc : Nat → ClassId) {σ τ : S5} {a0 : Int32} {r : Int32} (hg : f_X12_hasRow a0 σ = some (r, τ)) (sz : Nat) : Met l yX12_hasRow (Cond.code yX12_hasRow cX12_hasRow 1 (some .boolean) :: uG) { frames := 0, cells := 0, slots := 0, locals := 0 } (gPc (dC, dI) (tM kc) (wM ad kc) Z [.int a0] σ sz) (gQi (dC, dI) (tM kc) (wM ad kc) (va_A (wM ad kc σ) sz) r τ) 0 0 (va_A (wM ad kc σ) sz) :=
  g_start (by decide) (Nat.le_of_ble_eq_true rfl) (fun p e s m below meth c ls S hr hk X hl => w_X12_hasRow S hr hk ⟨Nat.le_refl _, Nat.le_refl _⟩ X hl hg)
section MX12_nextChild
variable {p : Program} {l : Launch} {e : Env} {R : Room} {s : State} {m : MethodId} {args : Array Value} {below : List Frame} {meth : Method} {c : Code} {dC : Nat → ClassId} {dI : Nat → Nat → Nat} {Z : ZZ} {A : Nat → Prop} {ad : Nat → Nat} {kc : Nat → ClassId} {r : Int32} {τ : S5}
set_option maxHeartbeats 4000000 in
set_option maxRecDepth 100000 in
theorem w_X12_nextChild_b102 {σ : S5} {v1 : Int32} {v2 : Int32} {v4 : Int32} {v5 : Int32} {v6 : Int32} {u0 : Int32} {u1 : Int32} {H : Heap} {locs : List Loc} {ls : Array Slot} (S : CallFix p m c cX12_nextChild 7 s args uG RX12) (hr : meth.sig.returnType = (some .int)) (hk : meth.locks = false) (hR : 1 ≤ R.frames ∧ 24 ≤ R.locals)
    (X : gX (dC, dI) (tM kc) (wM ad kc) Z A s σ H locs) (hl : lv_has ls 7 [(0, .ref (ad 0)), (1, .int v1), (2, .int v2), (4, .int v4), (5, .int v5), (6, .int v6)]) (hg : f_X12_nextChild_b102 v1 v2 v4 v5 v6 u0 u1 σ = some (r, τ)) : W p l e R s m args below meth c H locs 0 0 (MQ below (gQi (dC, dI) (tM kc) (wM ad kc) A r τ) args s 0 0 A) (F0 m 102 ls [.int u0, .int u1, .ref (ad 35)]) := by
  have hx := S.1
  have hb := S.2.1
  have hown := S.2.2.2.1
  have hu := S.2.2.2.2
  unfold f_X12_nextChild_b102 at hg
  obtain ⟨hi102, hg⟩ := gd_some hg
  refine wmsA_29 S X hi102 dX12_nextChild_102 (fun H locs X => ?_)
  refine lv_aload_n hx hb dX12_nextChild_103 rfl (lv_at hl 0 rfl) ?_
  refine wmgR_0_13 S X mG_2063 dX12_nextChild_104 ?_
  refine lv_iload_n hx hb dX12_nextChild_107 rfl (lv_at hl 2 rfl) ?_
  obtain ⟨hi108, hg⟩ := gd_some hg
  refine wmlA_2 (v := (xA σ 2 v2)) S X hi108 rfl dX12_nextChild_108 ?_
  obtain ⟨r109, τ109, hq109, hg⟩ := bd_some hg
  refine gc_Si (As := [.int (xA σ 2 v2)]) (rest := []) S X (k2_X12_hasRow l dC dI ad kc hq109 H.size) cw_X12_hasRow mG_2669 rfl rfl hl.1 (Nat.le_of_ble_eq_true rfl) dX12_nextChild_109 ⟨by omega, by omega⟩ (fun H locs X => ?_)
  refine lv_if_eq (tgt := 138) hx hb dX12_nextChild_112 (by decide) (fun c112 => ?_) (fun c112 => ?_)
  · have hg := (if_pos c112).symm.trans hg
    refine lv_iload hx hb dX12_nextChild_138 (lv_at hl 4 rfl) ?_
    obtain ⟨rfl, rfl⟩ := fin_some hg
    exact gr_i S hr hk X dX12_nextChild_140
  · have hg := (if_neg c112).symm.trans hg
    refine lv_iload hx hb dX12_nextChild_115 (lv_at hl 5 rfl) ?_
    refine lv_if_ne (tgt := 138) hx hb dX12_nextChild_117 (by decide) (fun c117 => ?_) (fun c117 => ?_)
    · have hg := (if_neg c117).symm.trans hg
      refine lv_iload hx hb dX12_nextChild_138 (lv_at hl 4 rfl) ?_
      obtain ⟨rfl, rfl⟩ := fin_some hg
      exact gr_i S hr hk X dX12_nextChild_140
    · have hg := (if_pos c117).symm.trans hg
      refine lv_iload hx hb dX12_nextChild_120 (lv_at hl 3 rfl) ?_
      refine lv_if_lt (tgt := 138) hx hb dX12_nextChild_122 (by decide) (fun c122 => ?_) (fun c122 => ?_)
      · have hg := (if_pos c122).symm.trans hg
        refine lv_iload hx hb dX12_nextChild_138 (lv_at hl 4 rfl) ?_
        obtain ⟨rfl, rfl⟩ := fin_some hg
        exact gr_i S hr hk X dX12_nextChild_140
      · have hg := (if_neg c122).symm.trans hg
        refine lv_aload_n hx hb dX12_nextChild_125 rfl (lv_at hl 0 rfl) ?_
        refine wmgR_0_62 S X mG_2112 dX12_nextChild_126 ?_
        refine lv_iload_n hx hb dX12_nextChild_129 rfl (lv_at hl 1 rfl) ?_
        refine lv_aload_n hx hb dX12_nextChild_130 rfl (lv_at hl 0 rfl) ?_
        refine wmgR_0_16 S X mG_2066 dX12_nextChild_131 ?_
        refine lv_iload hx hb dX12_nextChild_134 (lv_at hl 3 rfl) ?_
        obtain ⟨hi136, hg⟩ := gd_some hg
        refine wmlA_5 (v := (xA τ109 5 v4)) S X hi136 rfl dX12_nextChild_136 ?_
        obtain ⟨hi137, hg⟩ := gd_some hg
        refine wmsA_30 S X hi137 dX12_nextChild_137 (fun H locs X => ?_)
        refine lv_iload hx hb dX12_nextChild_138 (lv_at hl 4 rfl) ?_
        obtain ⟨rfl, rfl⟩ := fin_some hg
        exact gr_i S hr hk X dX12_nextChild_140
set_option maxHeartbeats 4000000 in
set_option maxRecDepth 100000 in
theorem w_X12_nextChild_b99 {σ : S5} {v1 : Int32} {v2 : Int32} {v3 : Int32} {v4 : Int32} {v5 : Int32} {v6 : Int32} {u0 : Int32} {H : Heap} {locs : List Loc} {ls : Array Slot} (S : CallFix p m c cX12_nextChild 7 s args uG RX12) (hr : meth.sig.returnType = (some .int)) (hk : meth.locks = false) (hR : 1 ≤ R.frames ∧ 24 ≤ R.locals)
    (X : gX (dC, dI) (tM kc) (wM ad kc) Z A s σ H locs) (hl : lv_has ls 7 [(0, .ref (ad 0)), (1, .int v1), (2, .int v2), (3, .int v3), (4, .int v4), (5, .int v5), (6, .int v6)]) (hg : f_X12_nextChild_b99 v1 v2 v3 v4 v5 v6 u0 σ = some (r, τ)) : W p l e R s m args below meth c H locs 0 0 (MQ below (gQi (dC, dI) (tM kc) (wM ad kc) A r τ) args s 0 0 A) (F0 m 99 ls [.int u0, .ref (ad 35)]) := by
  have hx := S.1
  have hb := S.2.1
  have hown := S.2.2.2.1
  have hu := S.2.2.2.2
  unfold f_X12_nextChild_b99 at hg
  refine lv_iload_n hx hb dX12_nextChild_99 rfl (lv_at hl 3 rfl) ?_
  refine lv_iconst (v := 1) hx hb dX12_nextChild_100 (by decide) ?_
  refine lv_iadd hx hb dX12_nextChild_101 ?_
  exact w_X12_nextChild_b102 S hr hk hR X (lv_sub hl [0, 1, 2, 4, 5, 6] rfl) hg
set_option maxHeartbeats 4000000 in
set_option maxRecDepth 100000 in
theorem w_X12_nextChild_b73 {σ : S5} {v1 : Int32} {v2 : Int32} {v3 : Int32} {v4 : Int32} {v5 : Int32} {u0 : Int32} {H : Heap} {locs : List Loc} {ls : Array Slot} (S : CallFix p m c cX12_nextChild 7 s args uG RX12) (hr : meth.sig.returnType = (some .int)) (hk : meth.locks = false) (hR : 1 ≤ R.frames ∧ 24 ≤ R.locals)
    (X : gX (dC, dI) (tM kc) (wM ad kc) Z A s σ H locs) (hl : lv_has ls 7 [(0, .ref (ad 0)), (1, .int v1), (2, .int v2), (3, .int v3), (4, .int v4), (5, .int v5)]) (hg : f_X12_nextChild_b73 v1 v2 v3 v4 v5 u0 σ = some (r, τ)) : W p l e R s m args below meth c H locs 0 0 (MQ below (gQi (dC, dI) (tM kc) (wM ad kc) A r τ) args s 0 0 A) (F0 m 73 ls [.int u0]) := by
  have hx := S.1
  have hb := S.2.1
  have hown := S.2.2.2.1
  have hu := S.2.2.2.2
  unfold f_X12_nextChild_b73 at hg
  refine lv_istore (lv' := [(6, .int u0), (0, .ref (ad 0)), (1, .int v1), (2, .int v2), (3, .int v3), (4, .int v4), (5, .int v5)]) hx hb dX12_nextChild_73 hl (by decide) rfl (fun ls hl => ?_)
  refine lv_aload_n hx hb dX12_nextChild_75 rfl (lv_at hl 1 rfl) ?_
  refine wmgR_0_61 S X mG_2111 dX12_nextChild_76 ?_
  refine lv_iload_n hx hb dX12_nextChild_79 rfl (lv_at hl 2 rfl) ?_
  refine lv_iload hx hb dX12_nextChild_80 (lv_at hl 0 rfl) ?_
  refine lv_if_eq (tgt := 99) hx hb dX12_nextChild_82 (by decide) (fun c82 => ?_) (fun c82 => ?_)
  · have hg := (if_pos c82).symm.trans hg
    exact w_X12_nextChild_b99 S hr hk hR X (lv_sub hl [1, 2, 3, 4, 5, 6, 0] rfl) hg
  · have hg := (if_neg c82).symm.trans hg
    refine lv_aload_n hx hb dX12_nextChild_85 rfl (lv_at hl 1 rfl) ?_
    refine wmgR_0_13 S X mG_2063 dX12_nextChild_86 ?_
    refine lv_iload_n hx hb dX12_nextChild_89 rfl (lv_at hl 3 rfl) ?_
    obtain ⟨hi90, hg⟩ := gd_some hg
    refine wmlA_2 (v := (xA σ 2 v2)) S X hi90 rfl dX12_nextChild_90 ?_
    refine lv_if_ne (tgt := 99) hx hb dX12_nextChild_91 (by decide) (fun c91 => ?_) (fun c91 => ?_)
    · have hg := (if_neg c91).symm.trans hg
      exact w_X12_nextChild_b99 S hr hk hR X (lv_sub hl [1, 2, 3, 4, 5, 6, 0] rfl) hg
    · have hg := (if_pos c91).symm.trans hg
      refine lv_bipush (v := 100) hx hb dX12_nextChild_94 (by decide) ?_
      refine lv_goto (tgt := 102) hx hb dX12_nextChild_96 (by decide) ?_
      exact w_X12_nextChild_b102 S hr hk hR X (lv_sub hl [1, 2, 3, 5, 6, 0] rfl) hg
set_option maxHeartbeats 4000000 in
set_option maxRecDepth 100000 in
theorem w_X12_nextChild_b72 {σ : S5} {v1 : Int32} {v2 : Int32} {v3 : Int32} {v4 : Int32} {v5 : Int32} {H : Heap} {locs : List Loc} {ls : Array Slot} (S : CallFix p m c cX12_nextChild 7 s args uG RX12) (hr : meth.sig.returnType = (some .int)) (hk : meth.locks = false) (hR : 1 ≤ R.frames ∧ 24 ≤ R.locals)
    (X : gX (dC, dI) (tM kc) (wM ad kc) Z A s σ H locs) (hl : lv_has ls 7 [(0, .ref (ad 0)), (1, .int v1), (2, .int v2), (3, .int v3), (4, .int v4), (5, .int v5)]) (hg : f_X12_nextChild_b72 v1 v2 v3 v4 v5 σ = some (r, τ)) : W p l e R s m args below meth c H locs 0 0 (MQ below (gQi (dC, dI) (tM kc) (wM ad kc) A r τ) args s 0 0 A) (F0 m 72 ls []) := by
  have hx := S.1
  have hb := S.2.1
  have hown := S.2.2.2.1
  have hu := S.2.2.2.2
  unfold f_X12_nextChild_b72 at hg
  refine lv_iconst (v := 0) hx hb dX12_nextChild_72 (by decide) ?_
  exact w_X12_nextChild_b73 S hr hk hR X (lv_sub hl [0, 1, 2, 3, 4, 5] rfl) hg
set_option maxHeartbeats 4000000 in
set_option maxRecDepth 100000 in
theorem w_X12_nextChild {σ : S5} {a1 : Int32} {H : Heap} {locs : List Loc} {ls : Array Slot} (S : CallFix p m c cX12_nextChild 7 s args uG RX12) (hr : meth.sig.returnType = (some .int)) (hk : meth.locks = false) (hR : 1 ≤ R.frames ∧ 24 ≤ R.locals)
    (X : gX (dC, dI) (tM kc) (wM ad kc) Z A s σ H locs) (hl : lv_has ls 7 [(0, .ref (ad 0)), (1, .int a1)]) (hg : f_X12_nextChild a1 σ = some (r, τ)) : W p l e R s m args below meth c H locs 0 0 (MQ below (gQi (dC, dI) (tM kc) (wM ad kc) A r τ) args s 0 0 A) (F0 m 0 ls []) := by
  have hx := S.1
  have hb := S.2.1
  have hown := S.2.2.2.1
  have hu := S.2.2.2.2
  unfold f_X12_nextChild at hg
  refine lv_aload_n hx hb dX12_nextChild_0 rfl (lv_at hl 0 rfl) ?_
  refine wmgR_0_60 S X mG_2110 dX12_nextChild_1 ?_
  refine lv_iload_n hx hb dX12_nextChild_4 rfl (lv_at hl 1 rfl) ?_
  obtain ⟨hi5, hg⟩ := gd_some hg
  refine wmlA_28 (v := (xA σ 28 a1)) S X hi5 rfl dX12_nextChild_5 ?_
  refine lv_istore_n (lv' := [(2, .int (xA σ 28 a1)), (0, .ref (ad 0)), (1, .int a1)]) hx hb dX12_nextChild_6 rfl hl (by decide) rfl (fun ls hl => ?_)
  refine lv_aload_n hx hb dX12_nextChild_7 rfl (lv_at hl 1 rfl) ?_
  refine wmgR_0_61 S X mG_2111 dX12_nextChild_8 ?_
  refine lv_iload_n hx hb dX12_nextChild_11 rfl (lv_at hl 2 rfl) ?_
  obtain ⟨hi12, hg⟩ := gd_some hg
  refine wmlA_29 (v := (xA σ 29 a1)) S X hi12 rfl dX12_nextChild_12 ?_
  refine lv_istore_n (lv' := [(3, .int (xA σ 29 a1)), (2, .int (xA σ 28 a1)), (0, .ref (ad 0)), (1, .int a1)]) hx hb dX12_nextChild_13 rfl hl (by decide) rfl (fun ls hl => ?_)
  refine lv_aload_n hx hb dX12_nextChild_14 rfl (lv_at hl 2 rfl) ?_
  refine wmgR_0_62 S X mG_2112 dX12_nextChild_15 ?_
  refine lv_iload_n hx hb dX12_nextChild_18 rfl (lv_at hl 3 rfl) ?_
  obtain ⟨hi19, hg⟩ := gd_some hg
  refine wmlA_30 (v := (xA σ 30 a1)) S X hi19 rfl dX12_nextChild_19 ?_
  refine lv_istore (lv' := [(4, .int (xA σ 30 a1)), (3, .int (xA σ 29 a1)), (2, .int (xA σ 28 a1)), (0, .ref (ad 0)), (1, .int a1)]) hx hb dX12_nextChild_20 hl (by decide) rfl (fun ls hl => ?_)
  refine lv_aload_n hx hb dX12_nextChild_22 rfl (lv_at hl 3 rfl) ?_
  refine lv_iload_n hx hb dX12_nextChild_23 rfl (lv_at hl 2 rfl) ?_
  refine lv_iload_n hx hb dX12_nextChild_24 rfl (lv_at hl 1 rfl) ?_
  refine lv_iload hx hb dX12_nextChild_25 (lv_at hl 0 rfl) ?_
  obtain ⟨r27, τ27, hq27, hg⟩ := bd_some hg
  refine gc_Vi (As := [.int (xA σ 28 a1), .int (xA σ 29 a1), .int (xA σ 30 a1)]) (rest := []) (q0 := 0) (ci := 15) S X (k2_X12_childAt l dC dI ad kc hq27 H.size) cw_X12_childAt mG_2696 rfl rfl rfl rfl rfl hl.1 (Nat.le_of_ble_eq_true rfl) dX12_nextChild_27 ⟨by omega, by omega⟩ (fun H locs X => ?_)
  refine lv_istore (lv' := [(5, .int r27), (4, .int (xA σ 30 a1)), (3, .int (xA σ 29 a1)), (2, .int (xA σ 28 a1)), (0, .ref (ad 0)), (1, .int a1)]) hx hb dX12_nextChild_30 hl (by decide) rfl (fun ls hl => ?_)
  refine lv_aload_n hx hb dX12_nextChild_32 rfl (lv_at hl 4 rfl) ?_
  refine wmgR_0_13 S X mG_2063 dX12_nextChild_33 ?_
  refine lv_iload_n hx hb dX12_nextChild_36 rfl (lv_at hl 3 rfl) ?_
  obtain ⟨hi37, hg⟩ := gd_some hg
  refine wmlA_2 (v := (xA τ27 2 (xA σ 28 a1))) S X hi37 rfl dX12_nextChild_37 ?_
  refine lv_iconst (v := 3) hx hb dX12_nextChild_38 (by decide) ?_
  refine lv_icmp_ne (tgt := 54) hx hb dX12_nextChild_39 (by decide) (fun c39 => ?_) (fun c39 => ?_)
  · have hg := (if_neg c39).symm.trans hg
    refine lv_aload_n hx hb dX12_nextChild_54 rfl (lv_at hl 4 rfl) ?_
    refine wmgR_0_13 S X mG_2063 dX12_nextChild_55 ?_
    refine lv_iload_n hx hb dX12_nextChild_58 rfl (lv_at hl 3 rfl) ?_
    obtain ⟨hi59, hg⟩ := gd_some hg
    refine wmlA_2 (v := (xA τ27 2 (xA σ 28 a1))) S X hi59 rfl dX12_nextChild_59 ?_
    refine lv_if_ne (tgt := 72) hx hb dX12_nextChild_60 (by decide) (fun c60 => ?_) (fun c60 => ?_)
    · have hg := (if_neg c60).symm.trans hg
      exact w_X12_nextChild_b72 S hr hk hR X (lv_sub hl [4, 5, 3, 2, 1, 0] rfl) hg
    · have hg := (if_pos c60).symm.trans hg
      refine lv_iload hx hb dX12_nextChild_63 (lv_at hl 1 rfl) ?_
      refine lv_if_ge (tgt := 72) hx hb dX12_nextChild_65 (by decide) (fun c65 => ?_) (fun c65 => ?_)
      · have hg := (if_pos c65).symm.trans hg
        exact w_X12_nextChild_b72 S hr hk hR X (lv_sub hl [4, 5, 3, 2, 1, 0] rfl) hg
      · have hg := (if_neg c65).symm.trans hg
        refine lv_iconst (v := 1) hx hb dX12_nextChild_68 (by decide) ?_
        refine lv_goto (tgt := 73) hx hb dX12_nextChild_69 (by decide) ?_
        exact w_X12_nextChild_b73 S hr hk hR X (lv_sub hl [4, 5, 3, 2, 1, 0] rfl) hg
  · have hg := (if_pos c39).symm.trans hg
    refine lv_iload_n hx hb dX12_nextChild_42 rfl (lv_at hl 2 rfl) ?_
    refine lv_if_ne (tgt := 50) hx hb dX12_nextChild_43 (by decide) (fun c43 => ?_) (fun c43 => ?_)
    · have hg := (if_neg c43).symm.trans hg
      refine lv_iconst (v := 0) hx hb dX12_nextChild_50 (by decide) ?_
      refine lv_goto (tgt := 73) hx hb dX12_nextChild_51 (by decide) ?_
      exact w_X12_nextChild_b73 S hr hk hR X (lv_sub hl [4, 5, 3, 2, 1, 0] rfl) hg
    · have hg := (if_pos c43).symm.trans hg
      refine lv_iconst (v := 1) hx hb dX12_nextChild_46 (by decide) ?_
      refine lv_goto (tgt := 73) hx hb dX12_nextChild_47 (by decide) ?_
      exact w_X12_nextChild_b73 S hr hk hR X (lv_sub hl [4, 5, 3, 2, 1, 0] rfl) hg
end MX12_nextChild
set_option maxRecDepth 100000 in
theorem k2_X12_nextChild (l : Launch) (dC : Nat → ClassId) (dI : Nat → Nat → Nat) {Z : ZZ} (ad : Nat → Nat) (kc : Nat → ClassId) {σ τ : S5} {a1 : Int32} {r : Int32} (hg : f_X12_nextChild a1 σ = some (r, τ)) (sz : Nat) : Met l yX12_nextChild (Cond.code yX12_nextChild cX12_nextChild 7 (some .int) :: uG) { frames := 1, cells := 0, slots := 0, locals := 24 } (gPc (dC, dI) (tM kc) (wM ad kc) Z [.ref (ad 0), .int a1] σ sz) (gQi (dC, dI) (tM kc) (wM ad kc) (va_A (wM ad kc σ) sz) r τ) 0 0 (va_A (wM ad kc σ) sz) :=
  g_start (by decide) (Nat.le_of_ble_eq_true rfl) (fun p e s m below meth c ls S hr hk X hl => w_X12_nextChild S hr hk ⟨Nat.le_refl _, Nat.le_refl _⟩ X hl hg)
section MX12_beginAt
variable {p : Program} {l : Launch} {e : Env} {R : Room} {s : State} {m : MethodId} {args : Array Value} {below : List Frame} {meth : Method} {c : Code} {dC : Nat → ClassId} {dI : Nat → Nat → Nat} {Z : ZZ} {A : Nat → Prop} {ad : Nat → Nat} {kc : Nat → ClassId} {r : Unit} {τ : S5}
set_option maxHeartbeats 4000000 in
set_option maxRecDepth 100000 in
theorem w_X12_beginAt_b41 {σ : S5} {u0 : Int32} {u1 : Int32} {H : Heap} {locs : List Loc} {ls : Array Slot} (S : CallFix p m c cX12_beginAt 3 s args uG RX12) (hr : meth.sig.returnType = none) (hk : meth.locks = false) (hR : 1 ≤ R.frames ∧ 20 ≤ R.locals)
    (X : gX (dC, dI) (tM kc) (wM ad kc) Z A s σ H locs) (hl : lv_has ls 3 []) (hg : f_X12_beginAt_b41 u0 u1 σ = some (r, τ)) : W p l e R s m args below meth c H locs 0 0 (MQ below (gQv (dC, dI) (tM kc) (wM ad kc) A r τ) args s 0 0 A) (F0 m 41 ls [.int u0, .int u1, .ref (ad 36)]) := by
  have hx := S.1
  have hb := S.2.1
  have hown := S.2.2.2.1
  have hu := S.2.2.2.2
  unfold f_X12_beginAt_b41 at hg
  obtain ⟨hi41, hg⟩ := gd_some hg
  refine wmsA_30 S X hi41 dX12_beginAt_41 (fun H locs X => ?_)
  obtain ⟨-, rfl⟩ := fin_some hg
  exact gr_v S hr hk X dX12_beginAt_42
set_option maxHeartbeats 4000000 in
set_option maxRecDepth 100000 in
theorem w_X12_beginAt {σ : S5} {a1 : Int32} {a2 : Int32} {H : Heap} {locs : List Loc} {ls : Array Slot} (S : CallFix p m c cX12_beginAt 3 s args uG RX12) (hr : meth.sig.returnType = none) (hk : meth.locks = false) (hR : 1 ≤ R.frames ∧ 20 ≤ R.locals)
    (X : gX (dC, dI) (tM kc) (wM ad kc) Z A s σ H locs) (hl : lv_has ls 3 [(0, .ref (ad 0)), (1, .int a1), (2, .int a2)]) (hg : f_X12_beginAt a1 a2 σ = some (r, τ)) : W p l e R s m args below meth c H locs 0 0 (MQ below (gQv (dC, dI) (tM kc) (wM ad kc) A r τ) args s 0 0 A) (F0 m 0 ls []) := by
  have hx := S.1
  have hb := S.2.1
  have hown := S.2.2.2.1
  have hu := S.2.2.2.2
  unfold f_X12_beginAt at hg
  refine lv_aload_n hx hb dX12_beginAt_0 rfl (lv_at hl 0 rfl) ?_
  refine wmgR_0_60 S X mG_2110 dX12_beginAt_1 ?_
  refine lv_iload_n hx hb dX12_beginAt_4 rfl (lv_at hl 1 rfl) ?_
  refine lv_iload_n hx hb dX12_beginAt_5 rfl (lv_at hl 2 rfl) ?_
  obtain ⟨hi6, hg⟩ := gd_some hg
  refine wmsA_28 S X hi6 dX12_beginAt_6 (fun H locs X => ?_)
  refine lv_aload_n hx hb dX12_beginAt_7 rfl (lv_at hl 0 rfl) ?_
  refine wmgR_0_61 S X mG_2111 dX12_beginAt_8 ?_
  refine lv_iload_n hx hb dX12_beginAt_11 rfl (lv_at hl 1 rfl) ?_
  refine lv_iconst (v := 0) hx hb dX12_beginAt_12 (by decide) ?_
  obtain ⟨hi13, hg⟩ := gd_some hg
  refine wmsA_29 S X hi13 dX12_beginAt_13 (fun H locs X => ?_)
  refine lv_aload_n hx hb dX12_beginAt_14 rfl (lv_at hl 0 rfl) ?_
  refine wmgR_0_62 S X mG_2112 dX12_beginAt_15 ?_
  refine lv_iload_n hx hb dX12_beginAt_18 rfl (lv_at hl 1 rfl) ?_
  refine lv_aload_n hx hb dX12_beginAt_19 rfl (lv_at hl 0 rfl) ?_
  refine wmgR_0_13 S X mG_2063 dX12_beginAt_20 ?_
  refine lv_iload_n hx hb dX12_beginAt_23 rfl (lv_at hl 2 rfl) ?_
  obtain ⟨hi24, hg⟩ := gd_some hg
  refine wmlA_2 (v := (xA σ 2 a2)) S X hi24 rfl dX12_beginAt_24 ?_
  obtain ⟨r25, τ25, hq25, hg⟩ := bd_some hg
  refine gc_Si (As := [.int (xA σ 2 a2)]) (rest := [.int a1, .ref (ad 36)]) S X (k2_X12_hasRow l dC dI ad kc hq25 H.size) cw_X12_hasRow mG_2669 rfl rfl hl.1 (Nat.le_of_ble_eq_true rfl) dX12_beginAt_25 ⟨by omega, by omega⟩ (fun H locs X => ?_)
  refine lv_if_eq (tgt := 40) hx hb dX12_beginAt_28 (by decide) (fun c28 => ?_) (fun c28 => ?_)
  · have hg := (if_pos c28).symm.trans hg
    refine lv_iconst (v := (-1)) hx hb dX12_beginAt_40 (by decide) ?_
    exact w_X12_beginAt_b41 S hr hk hR X (lv_sub hl [] rfl) hg
  · have hg := (if_neg c28).symm.trans hg
    refine lv_aload_n hx hb dX12_beginAt_31 rfl (lv_at hl 0 rfl) ?_
    refine wmgR_0_14 S X mG_2064 dX12_beginAt_32 ?_
    refine lv_iload_n hx hb dX12_beginAt_35 rfl (lv_at hl 2 rfl) ?_
    obtain ⟨hi36, hg⟩ := gd_some hg
    refine wmlA_3 (v := (xA τ25 3 a2)) S X hi36 rfl dX12_beginAt_36 ?_
    refine lv_goto (tgt := 41) hx hb dX12_beginAt_37 (by decide) ?_
    exact w_X12_beginAt_b41 S hr hk hR X (lv_sub hl [] rfl) hg
end MX12_beginAt
set_option maxRecDepth 100000 in
theorem k2_X12_beginAt (l : Launch) (dC : Nat → ClassId) (dI : Nat → Nat → Nat) {Z : ZZ} (ad : Nat → Nat) (kc : Nat → ClassId) {σ τ : S5} {a1 : Int32} {a2 : Int32} {r : Unit} (hg : f_X12_beginAt a1 a2 σ = some (r, τ)) (sz : Nat) : Met l yX12_beginAt (Cond.code yX12_beginAt cX12_beginAt 3 none :: uG) { frames := 1, cells := 0, slots := 0, locals := 20 } (gPc (dC, dI) (tM kc) (wM ad kc) Z [.ref (ad 0), .int a1, .int a2] σ sz) (gQv (dC, dI) (tM kc) (wM ad kc) (va_A (wM ad kc σ) sz) r τ) 0 0 (va_A (wM ad kc σ) sz) :=
  g_start (by decide) (Nat.le_of_ble_eq_true rfl) (fun p e s m below meth c ls S hr hk X hl => w_X12_beginAt S hr hk ⟨Nat.le_refl _, Nat.le_refl _⟩ X hl hg)
