theorem sw_0_11 (x : Int32) : (x.toInt < 0 ∨ 11 < x.toInt) ∨ x = 0 ∨ x = 1 ∨ x = 2 ∨ x = 3 ∨ x = 4 ∨ x = 5 ∨ x = 6 ∨ x = 7 ∨ x = 8 ∨ x = 9 ∨ x = 10 ∨ x = 11 := by
  by_cases h : x.toInt < 0 ∨ 11 < x.toInt
  · exact Or.inl h
  · have h2 : x.toInt = 0 ∨ x.toInt = 1 ∨ x.toInt = 2 ∨ x.toInt = 3 ∨ x.toInt = 4 ∨ x.toInt = 5 ∨ x.toInt = 6 ∨ x.toInt = 7 ∨ x.toInt = 8 ∨ x.toInt = 9 ∨ x.toInt = 10 ∨ x.toInt = 11 := by omega
    refine Or.inr ?_
    rcases h2 with h | h | h | h | h | h | h | h | h | h | h | h
    · exact Or.inl (Int32.toInt_inj.mp (h.trans (by decide)))
    · exact Or.inr (Or.inl (Int32.toInt_inj.mp (h.trans (by decide))))
    · exact Or.inr (Or.inr (Or.inl (Int32.toInt_inj.mp (h.trans (by decide)))))
    · exact Or.inr (Or.inr (Or.inr (Or.inl (Int32.toInt_inj.mp (h.trans (by decide))))))
    · exact Or.inr (Or.inr (Or.inr (Or.inr (Or.inl (Int32.toInt_inj.mp (h.trans (by decide)))))))
    · exact Or.inr (Or.inr (Or.inr (Or.inr (Or.inr (Or.inl (Int32.toInt_inj.mp (h.trans (by decide))))))))
    · exact Or.inr (Or.inr (Or.inr (Or.inr (Or.inr (Or.inr (Or.inl (Int32.toInt_inj.mp (h.trans (by decide)))))))))
    · exact Or.inr (Or.inr (Or.inr (Or.inr (Or.inr (Or.inr (Or.inr (Or.inl (Int32.toInt_inj.mp (h.trans (by decide))))))))))
    · exact Or.inr (Or.inr (Or.inr (Or.inr (Or.inr (Or.inr (Or.inr (Or.inr (Or.inl (Int32.toInt_inj.mp (h.trans (by decide)))))))))))
    · exact Or.inr (Or.inr (Or.inr (Or.inr (Or.inr (Or.inr (Or.inr (Or.inr (Or.inr (Or.inl (Int32.toInt_inj.mp (h.trans (by decide))))))))))))
    · exact Or.inr (Or.inr (Or.inr (Or.inr (Or.inr (Or.inr (Or.inr (Or.inr (Or.inr (Or.inr (Or.inl (Int32.toInt_inj.mp (h.trans (by decide)))))))))))))
    · exact Or.inr (Or.inr (Or.inr (Or.inr (Or.inr (Or.inr (Or.inr (Or.inr (Or.inr (Or.inr (Or.inr (Int32.toInt_inj.mp (h.trans (by decide)))))))))))))
theorem swo_0_11 {x : Int32} (h : x.toInt < 0 ∨ 11 < x.toInt) : ¬ x = 0 ∧ ¬ x = 1 ∧ ¬ x = 2 ∧ ¬ x = 3 ∧ ¬ x = 4 ∧ ¬ x = 5 ∧ ¬ x = 6 ∧ ¬ x = 7 ∧ ¬ x = 8 ∧ ¬ x = 9 ∧ ¬ x = 10 ∧ ¬ x = 11 := by
  refine ⟨?_, ?_, ?_, ?_, ?_, ?_, ?_, ?_, ?_, ?_, ?_, ?_⟩ <;> (intro e; rw [e] at h; revert h; decide)


theorem mG_150 : Cond.selects "LazyForgeModel" yX12_beginAt yX12_beginAt ∈ uG := uG_at 150 (by decide +kernel) (by decide +kernel)
theorem mG_151 : Cond.selects "LazyForgeModel" yX12_comeInto yX12_comeInto ∈ uG := uG_at 151 (by decide +kernel) (by decide +kernel)
theorem mG_156 : Cond.selects "LazyForgeModel" yX12_nextChild yX12_nextChild ∈ uG := uG_at 156 (by decide +kernel) (by decide +kernel)
theorem mG_158 : Cond.selects "LazyForgeModel" yX12_goOutOf yX12_goOutOf ∈ uG := uG_at 158 (by decide +kernel) (by decide +kernel)
theorem mG_160 : Cond.selects "LazyForgeModel" yX12_mainFunction yX12_mainFunction ∈ uG := uG_at 160 (by decide +kernel) (by decide +kernel)
theorem mG_162 : Cond.selects "LazyForgeModel" yX12_closePart yX12_closePart ∈ uG := uG_at 162 (by decide +kernel) (by decide +kernel)
theorem mG_163 : Cond.selects "LazyForgeModel" yX12_rowCount yX12_rowCount ∈ uG := uG_at 163 (by decide +kernel) (by decide +kernel)
theorem mG_164 : Cond.selects "LazyForgeModel" yX12_lift yX12_lift ∈ uG := uG_at 164 (by decide +kernel) (by decide +kernel)
theorem mG_165 : Cond.selects "LazyForgeModel" yX12_local yX12_local ∈ uG := uG_at 165 (by decide +kernel) (by decide +kernel)
theorem mG_166 : Cond.selects "LazyForgeModel" yX12_child yX12_child ∈ uG := uG_at 166 (by decide +kernel) (by decide +kernel)
theorem mG_167 : Cond.selects "LazyForgeModel" yX12_liftFunction yX12_liftFunction ∈ uG := uG_at 167 (by decide +kernel) (by decide +kernel)
theorem mG_171 : Cond.selects "LazyForgeModel" yX12_table yX12_table ∈ uG := uG_at 171 (by decide +kernel) (by decide +kernel)
theorem mG_2113 : Cond.fieldLink "LazyForgeModel" 520 "LazyForgeModel" "lifted" "I" ∈ uG := uG_at 2113 (by decide +kernel) (by decide +kernel)
theorem mG_2123 : Cond.fieldLink "LazyForgeModel" 523 "LazyForgeModel" "childTop" "I" ∈ uG := uG_at 2123 (by decide +kernel) (by decide +kernel)
theorem mG_2133 : Cond.fieldLink "LazyForgeModel" 526 "LazyForgeModel" "held" "I" ∈ uG := uG_at 2133 (by decide +kernel) (by decide +kernel)
theorem mG_2665 : Cond.methodLink "LazyForgeModel" 505 yX12_beginAt ∈ uG := uG_at 2665 (by decide +kernel) (by decide +kernel)
theorem mG_2667 : Cond.instanceMethod yX12_beginAt ∈ uG := uG_at 2667 (by decide +kernel) (by decide +kernel)
theorem mG_2668 : Cond.code yX12_beginAt prog_14_method_60_code 3 none ∈ uG := uG_at 2668 (by decide +kernel) (by decide +kernel)
theorem mG_2672 : Cond.methodLink "LazyForgeModel" 508 yX12_comeInto ∈ uG := uG_at 2672 (by decide +kernel) (by decide +kernel)
theorem mG_2674 : Cond.instanceMethod yX12_comeInto ∈ uG := uG_at 2674 (by decide +kernel) (by decide +kernel)
theorem mG_2675 : Cond.code yX12_comeInto prog_14_method_55_code 3 none ∈ uG := uG_at 2675 (by decide +kernel) (by decide +kernel)
theorem mG_2692 : Cond.methodLink "LazyForgeModel" 511 yX12_nextChild ∈ uG := uG_at 2692 (by decide +kernel) (by decide +kernel)
theorem mG_2694 : Cond.instanceMethod yX12_nextChild ∈ uG := uG_at 2694 (by decide +kernel) (by decide +kernel)
theorem mG_2695 : Cond.code yX12_nextChild prog_14_method_59_code 7 (some .int) ∈ uG := uG_at 2695 (by decide +kernel) (by decide +kernel)
theorem mG_2700 : Cond.methodLink "LazyForgeModel" 514 yX12_goOutOf ∈ uG := uG_at 2700 (by decide +kernel) (by decide +kernel)
theorem mG_2702 : Cond.instanceMethod yX12_goOutOf ∈ uG := uG_at 2702 (by decide +kernel) (by decide +kernel)
theorem mG_2703 : Cond.code yX12_goOutOf prog_14_method_56_code 3 none ∈ uG := uG_at 2703 (by decide +kernel) (by decide +kernel)
theorem mG_2708 : Cond.methodLink "LazyForgeModel" 517 yX12_mainFunction ∈ uG := uG_at 2708 (by decide +kernel) (by decide +kernel)
theorem mG_2710 : Cond.instanceMethod yX12_mainFunction ∈ uG := uG_at 2710 (by decide +kernel) (by decide +kernel)
theorem mG_2711 : Cond.code yX12_mainFunction prog_14_method_63_code 3 (some .int) ∈ uG := uG_at 2711 (by decide +kernel) (by decide +kernel)
theorem mG_2716 : Cond.methodLink "LazyForgeModel" 548 yX12_closePart ∈ uG := uG_at 2716 (by decide +kernel) (by decide +kernel)
theorem mG_2718 : Cond.instanceMethod yX12_closePart ∈ uG := uG_at 2718 (by decide +kernel) (by decide +kernel)
theorem mG_2719 : Cond.code yX12_closePart prog_14_method_70_code 8 none ∈ uG := uG_at 2719 (by decide +kernel) (by decide +kernel)
theorem mG_2720 : Cond.methodLink "LazyForgeModel" 536 yX12_rowCount ∈ uG := uG_at 2720 (by decide +kernel) (by decide +kernel)
theorem mG_2722 : Cond.instanceMethod yX12_rowCount ∈ uG := uG_at 2722 (by decide +kernel) (by decide +kernel)
theorem mG_2723 : Cond.code yX12_rowCount prog_14_method_68_code 4 (some .int) ∈ uG := uG_at 2723 (by decide +kernel) (by decide +kernel)
theorem mG_2724 : Cond.methodLink "LazyForgeModel" 529 yX12_lift ∈ uG := uG_at 2724 (by decide +kernel) (by decide +kernel)
theorem mG_2726 : Cond.instanceMethod yX12_lift ∈ uG := uG_at 2726 (by decide +kernel) (by decide +kernel)
theorem mG_2727 : Cond.code yX12_lift prog_14_method_64_code 10 (some .int) ∈ uG := uG_at 2727 (by decide +kernel) (by decide +kernel)
theorem mG_2728 : Cond.methodLink "LazyForgeModel" 532 yX12_local ∈ uG := uG_at 2728 (by decide +kernel) (by decide +kernel)
theorem mG_2730 : Cond.instanceMethod yX12_local ∈ uG := uG_at 2730 (by decide +kernel) (by decide +kernel)
theorem mG_2731 : Cond.code yX12_local prog_14_method_66_code 4 (some .int) ∈ uG := uG_at 2731 (by decide +kernel) (by decide +kernel)
theorem mG_2732 : Cond.methodLink "LazyForgeModel" 539 yX12_bits ∈ uG := uG_at 2732 (by decide +kernel) (by decide +kernel)
theorem mG_2733 : Cond.static yX12_bits ∈ uG := uG_at 2733 (by decide +kernel) (by decide +kernel)
theorem mG_2734 : Cond.code yX12_bits prog_14_method_69_code 2 (some .long) ∈ uG := uG_at 2734 (by decide +kernel) (by decide +kernel)
theorem mG_2735 : Cond.constantLong "LazyForgeModel" 543 (-1) ∈ uG := uG_at 2735 (by decide +kernel) (by decide +kernel)
theorem mG_2736 : Cond.methodLink "LazyForgeModel" 545 yX12_child ∈ uG := uG_at 2736 (by decide +kernel) (by decide +kernel)
theorem mG_2738 : Cond.instanceMethod yX12_child ∈ uG := uG_at 2738 (by decide +kernel) (by decide +kernel)
theorem mG_2739 : Cond.code yX12_child prog_14_method_65_code 3 (some .int) ∈ uG := uG_at 2739 (by decide +kernel) (by decide +kernel)
theorem mG_2740 : Cond.methodLink "LazyForgeModel" 551 yX12_liftFunction ∈ uG := uG_at 2740 (by decide +kernel) (by decide +kernel)
theorem mG_2742 : Cond.instanceMethod yX12_liftFunction ∈ uG := uG_at 2742 (by decide +kernel) (by decide +kernel)
theorem mG_2743 : Cond.code yX12_liftFunction prog_14_method_67_code 4 none ∈ uG := uG_at 2743 (by decide +kernel) (by decide +kernel)
theorem mG_2756 : Cond.methodLink "LazyForgeModel" 554 yX12_table ∈ uG := uG_at 2756 (by decide +kernel) (by decide +kernel)
theorem mG_2758 : Cond.instanceMethod yX12_table ∈ uG := uG_at 2758 (by decide +kernel) (by decide +kernel)
theorem mG_2759 : Cond.code yX12_table prog_14_method_72_code 3 (some .boolean) ∈ uG := uG_at 2759 (by decide +kernel) (by decide +kernel)
theorem dX12_appliedBit_0 : decode cX12_appliedBit 0 = .ok (.aload_n 0, 1) := by decide +kernel
theorem dX12_appliedBit_1 : decode cX12_appliedBit 1 = .ok (.iload_n 1, 1) := by decide +kernel
theorem dX12_appliedBit_2 : decode cX12_appliedBit 2 = .ok (.iconst 0, 1) := by decide +kernel
theorem dX12_appliedBit_3 : decode cX12_appliedBit 3 = .ok (.invokevirtual 545, 3) := by decide +kernel
theorem dX12_appliedBit_6 : decode cX12_appliedBit 6 = .ok (.istore_n 2, 1) := by decide +kernel
theorem dX12_appliedBit_7 : decode cX12_appliedBit 7 = .ok (.aload_n 0, 1) := by decide +kernel
theorem dX12_appliedBit_8 : decode cX12_appliedBit 8 = .ok (.getfield 119, 3) := by decide +kernel
theorem dX12_appliedBit_11 : decode cX12_appliedBit 11 = .ok (.iload_n 2, 1) := by decide +kernel
theorem dX12_appliedBit_12 : decode cX12_appliedBit 12 = .ok (.iaload, 1) := by decide +kernel
theorem dX12_appliedBit_13 : decode cX12_appliedBit 13 = .ok (.bipush 12, 2) := by decide +kernel
theorem dX12_appliedBit_15 : decode cX12_appliedBit 15 = .ok (.if_icmp .eq 10, 3) := by decide +kernel
theorem dX12_appliedBit_18 : decode cX12_appliedBit 18 = .ok (.aload_n 0, 1) := by decide +kernel
theorem dX12_appliedBit_19 : decode cX12_appliedBit 19 = .ok (.getfield 181, 3) := by decide +kernel
theorem dX12_appliedBit_22 : decode cX12_appliedBit 22 = .ok (.iload_n 2, 1) := by decide +kernel
theorem dX12_appliedBit_23 : decode cX12_appliedBit 23 = .ok (.baload, 1) := by decide +kernel
theorem dX12_appliedBit_24 : decode cX12_appliedBit 24 = .ok (.ireturn, 1) := by decide +kernel
theorem dX12_appliedBit_25 : decode cX12_appliedBit 25 = .ok (.aload_n 0, 1) := by decide +kernel
theorem dX12_appliedBit_26 : decode cX12_appliedBit 26 = .ok (.getfield 122, 3) := by decide +kernel
theorem dX12_appliedBit_29 : decode cX12_appliedBit 29 = .ok (.iload_n 2, 1) := by decide +kernel
theorem dX12_appliedBit_30 : decode cX12_appliedBit 30 = .ok (.iaload, 1) := by decide +kernel
theorem dX12_appliedBit_31 : decode cX12_appliedBit 31 = .ok (.istore_n 3, 1) := by decide +kernel
theorem dX12_appliedBit_32 : decode cX12_appliedBit 32 = .ok (.aload_n 0, 1) := by decide +kernel
theorem dX12_appliedBit_33 : decode cX12_appliedBit 33 = .ok (.getfield 171, 3) := by decide +kernel
theorem dX12_appliedBit_36 : decode cX12_appliedBit 36 = .ok (.iload_n 3, 1) := by decide +kernel
theorem dX12_appliedBit_37 : decode cX12_appliedBit 37 = .ok (.iaload, 1) := by decide +kernel
theorem dX12_appliedBit_38 : decode cX12_appliedBit 38 = .ok (.istore 4, 2) := by decide +kernel
theorem dX12_appliedBit_40 : decode cX12_appliedBit 40 = .ok (.aload_n 0, 1) := by decide +kernel
theorem dX12_appliedBit_41 : decode cX12_appliedBit 41 = .ok (.getfield 128, 3) := by decide +kernel
theorem dX12_appliedBit_44 : decode cX12_appliedBit 44 = .ok (.iload_n 1, 1) := by decide +kernel
theorem dX12_appliedBit_45 : decode cX12_appliedBit 45 = .ok (.iaload, 1) := by decide +kernel
theorem dX12_appliedBit_46 : decode cX12_appliedBit 46 = .ok (.iconst 1, 1) := by decide +kernel
theorem dX12_appliedBit_47 : decode cX12_appliedBit 47 = .ok (.isub, 1) := by decide +kernel
theorem dX12_appliedBit_48 : decode cX12_appliedBit 48 = .ok (.iload 4, 2) := by decide +kernel
theorem dX12_appliedBit_50 : decode cX12_appliedBit 50 = .ok (.if_icmp .ge 5, 3) := by decide +kernel
theorem dX12_appliedBit_53 : decode cX12_appliedBit 53 = .ok (.iconst 1, 1) := by decide +kernel
theorem dX12_appliedBit_54 : decode cX12_appliedBit 54 = .ok (.ireturn, 1) := by decide +kernel
theorem dX12_appliedBit_55 : decode cX12_appliedBit 55 = .ok (.iconst 0, 1) := by decide +kernel
theorem dX12_appliedBit_56 : decode cX12_appliedBit 56 = .ok (.istore 5, 2) := by decide +kernel
theorem dX12_appliedBit_58 : decode cX12_appliedBit 58 = .ok (.iconst 0, 1) := by decide +kernel
theorem dX12_appliedBit_59 : decode cX12_appliedBit 59 = .ok (.istore 6, 2) := by decide +kernel
theorem dX12_appliedBit_61 : decode cX12_appliedBit 61 = .ok (.iload 6, 2) := by decide +kernel
theorem dX12_appliedBit_63 : decode cX12_appliedBit 63 = .ok (.iload 4, 2) := by decide +kernel
theorem dX12_appliedBit_65 : decode cX12_appliedBit 65 = .ok (.if_icmp .ge 39, 3) := by decide +kernel
theorem dX12_appliedBit_68 : decode cX12_appliedBit 68 = .ok (.iload 5, 2) := by decide +kernel
theorem dX12_appliedBit_70 : decode cX12_appliedBit 70 = .ok (.aload_n 0, 1) := by decide +kernel
theorem dX12_appliedBit_71 : decode cX12_appliedBit 71 = .ok (.getfield 181, 3) := by decide +kernel
theorem dX12_appliedBit_74 : decode cX12_appliedBit 74 = .ok (.aload_n 0, 1) := by decide +kernel
theorem dX12_appliedBit_75 : decode cX12_appliedBit 75 = .ok (.iload_n 1, 1) := by decide +kernel
theorem dX12_appliedBit_76 : decode cX12_appliedBit 76 = .ok (.iconst 1, 1) := by decide +kernel
theorem dX12_appliedBit_77 : decode cX12_appliedBit 77 = .ok (.iload 6, 2) := by decide +kernel
theorem dX12_appliedBit_79 : decode cX12_appliedBit 79 = .ok (.iadd, 1) := by decide +kernel
theorem dX12_appliedBit_80 : decode cX12_appliedBit 80 = .ok (.invokevirtual 545, 3) := by decide +kernel
theorem dX12_appliedBit_83 : decode cX12_appliedBit 83 = .ok (.baload, 1) := by decide +kernel
theorem dX12_appliedBit_84 : decode cX12_appliedBit 84 = .ok (.ifCond .eq 10, 3) := by decide +kernel
theorem dX12_appliedBit_87 : decode cX12_appliedBit 87 = .ok (.iconst 1, 1) := by decide +kernel
theorem dX12_appliedBit_88 : decode cX12_appliedBit 88 = .ok (.iload 6, 2) := by decide +kernel
theorem dX12_appliedBit_90 : decode cX12_appliedBit 90 = .ok (.ishl, 1) := by decide +kernel
theorem dX12_appliedBit_91 : decode cX12_appliedBit 91 = .ok (.goto 4, 3) := by decide +kernel
theorem dX12_appliedBit_94 : decode cX12_appliedBit 94 = .ok (.iconst 0, 1) := by decide +kernel
theorem dX12_appliedBit_95 : decode cX12_appliedBit 95 = .ok (.ior, 1) := by decide +kernel
theorem dX12_appliedBit_96 : decode cX12_appliedBit 96 = .ok (.istore 5, 2) := by decide +kernel
theorem dX12_appliedBit_98 : decode cX12_appliedBit 98 = .ok (.iinc 6 1, 3) := by decide +kernel
theorem dX12_appliedBit_101 : decode cX12_appliedBit 101 = .ok (.goto (-40), 3) := by decide +kernel
theorem dX12_appliedBit_104 : decode cX12_appliedBit 104 = .ok (.aload_n 0, 1) := by decide +kernel
theorem dX12_appliedBit_105 : decode cX12_appliedBit 105 = .ok (.iload_n 3, 1) := by decide +kernel
theorem dX12_appliedBit_106 : decode cX12_appliedBit 106 = .ok (.iload 5, 2) := by decide +kernel
theorem dX12_appliedBit_108 : decode cX12_appliedBit 108 = .ok (.invokevirtual 554, 3) := by decide +kernel
theorem dX12_appliedBit_111 : decode cX12_appliedBit 111 = .ok (.ireturn, 1) := by decide +kernel
theorem dX12_bits_0 : decode cX12_bits 0 = .ok (.lconst 1, 1) := by decide +kernel
theorem dX12_bits_1 : decode cX12_bits 1 = .ok (.iload_n 1, 1) := by decide +kernel
theorem dX12_bits_2 : decode cX12_bits 2 = .ok (.lshl, 1) := by decide +kernel
theorem dX12_bits_3 : decode cX12_bits 3 = .ok (.lconst 1, 1) := by decide +kernel
theorem dX12_bits_4 : decode cX12_bits 4 = .ok (.lsub, 1) := by decide +kernel
theorem dX12_bits_5 : decode cX12_bits 5 = .ok (.iload_n 0, 1) := by decide +kernel
theorem dX12_bits_6 : decode cX12_bits 6 = .ok (.lshl, 1) := by decide +kernel
theorem dX12_bits_7 : decode cX12_bits 7 = .ok (.lreturn, 1) := by decide +kernel
theorem dX12_child_0 : decode cX12_child 0 = .ok (.aload_n 0, 1) := by decide +kernel
theorem dX12_child_1 : decode cX12_child 1 = .ok (.getfield 147, 3) := by decide +kernel
theorem dX12_child_4 : decode cX12_child 4 = .ok (.aload_n 0, 1) := by decide +kernel
theorem dX12_child_5 : decode cX12_child 5 = .ok (.getfield 125, 3) := by decide +kernel
theorem dX12_child_8 : decode cX12_child 8 = .ok (.iload_n 1, 1) := by decide +kernel
theorem dX12_child_9 : decode cX12_child 9 = .ok (.iaload, 1) := by decide +kernel
theorem dX12_child_10 : decode cX12_child 10 = .ok (.iload_n 2, 1) := by decide +kernel
theorem dX12_child_11 : decode cX12_child 11 = .ok (.iadd, 1) := by decide +kernel
theorem dX12_child_12 : decode cX12_child 12 = .ok (.iaload, 1) := by decide +kernel
theorem dX12_child_13 : decode cX12_child 13 = .ok (.ireturn, 1) := by decide +kernel
theorem dX12_closePart_0 : decode cX12_closePart 0 = .ok (.aload_n 0, 1) := by decide +kernel
theorem dX12_closePart_1 : decode cX12_closePart 1 = .ok (.getfield 16, 3) := by decide +kernel
theorem dX12_closePart_4 : decode cX12_closePart 4 = .ok (.iload_n 2, 1) := by decide +kernel
theorem dX12_closePart_5 : decode cX12_closePart 5 = .ok (.iaload, 1) := by decide +kernel
theorem dX12_closePart_6 : decode cX12_closePart 6 = .ok (.tableswitch 454 0 11 #[62, 454, 454, 125, 454, 331, 347, 363, 384, 433, 433, 433], 62) := by decide +kernel
theorem dX12_closePart_68 : decode cX12_closePart 68 = .ok (.aload_n 0, 1) := by decide +kernel
theorem dX12_closePart_69 : decode cX12_closePart 69 = .ok (.iload_n 2, 1) := by decide +kernel
theorem dX12_closePart_70 : decode cX12_closePart 70 = .ok (.invokevirtual 536, 3) := by decide +kernel
theorem dX12_closePart_73 : decode cX12_closePart 73 = .ok (.istore_n 3, 1) := by decide +kernel
theorem dX12_closePart_74 : decode cX12_closePart 74 = .ok (.aload_n 0, 1) := by decide +kernel
theorem dX12_closePart_75 : decode cX12_closePart 75 = .ok (.iconst 0, 1) := by decide +kernel
theorem dX12_closePart_76 : decode cX12_closePart 76 = .ok (.iload_n 3, 1) := by decide +kernel
theorem dX12_closePart_77 : decode cX12_closePart 77 = .ok (.iload_n 3, 1) := by decide +kernel
theorem dX12_closePart_78 : decode cX12_closePart 78 = .ok (.iconst 1, 1) := by decide +kernel
theorem dX12_closePart_79 : decode cX12_closePart 79 = .ok (.iadd, 1) := by decide +kernel
theorem dX12_closePart_80 : decode cX12_closePart 80 = .ok (.invokevirtual 529, 3) := by decide +kernel
theorem dX12_closePart_83 : decode cX12_closePart 83 = .ok (.istore 4, 2) := by decide +kernel
theorem dX12_closePart_85 : decode cX12_closePart 85 = .ok (.aload_n 0, 1) := by decide +kernel
theorem dX12_closePart_86 : decode cX12_closePart 86 = .ok (.getfield 131, 3) := by decide +kernel
theorem dX12_closePart_89 : decode cX12_closePart 89 = .ok (.iload 4, 2) := by decide +kernel
theorem dX12_closePart_91 : decode cX12_closePart 91 = .ok (.aload_n 0, 1) := by decide +kernel
theorem dX12_closePart_92 : decode cX12_closePart 92 = .ok (.iload_n 1, 1) := by decide +kernel
theorem dX12_closePart_93 : decode cX12_closePart 93 = .ok (.aload_n 0, 1) := by decide +kernel
theorem dX12_closePart_94 : decode cX12_closePart 94 = .ok (.getfield 98, 3) := by decide +kernel
theorem dX12_closePart_97 : decode cX12_closePart 97 = .ok (.iload_n 2, 1) := by decide +kernel
theorem dX12_closePart_98 : decode cX12_closePart 98 = .ok (.iaload, 1) := by decide +kernel
theorem dX12_closePart_99 : decode cX12_closePart 99 = .ok (.invokevirtual 532, 3) := by decide +kernel
theorem dX12_closePart_102 : decode cX12_closePart 102 = .ok (.iastore, 1) := by decide +kernel
theorem dX12_closePart_103 : decode cX12_closePart 103 = .ok (.aload_n 0, 1) := by decide +kernel
theorem dX12_closePart_104 : decode cX12_closePart 104 = .ok (.getfield 144, 3) := by decide +kernel
theorem dX12_closePart_107 : decode cX12_closePart 107 = .ok (.iload 4, 2) := by decide +kernel
theorem dX12_closePart_109 : decode cX12_closePart 109 = .ok (.dup2, 1) := by decide +kernel
theorem dX12_closePart_110 : decode cX12_closePart 110 = .ok (.laload, 1) := by decide +kernel
theorem dX12_closePart_111 : decode cX12_closePart 111 = .ok (.aload_n 0, 1) := by decide +kernel
theorem dX12_closePart_112 : decode cX12_closePart 112 = .ok (.getfield 131, 3) := by decide +kernel
theorem dX12_closePart_115 : decode cX12_closePart 115 = .ok (.iload 4, 2) := by decide +kernel
theorem dX12_closePart_117 : decode cX12_closePart 117 = .ok (.iaload, 1) := by decide +kernel
theorem dX12_closePart_118 : decode cX12_closePart 118 = .ok (.iload_n 3, 1) := by decide +kernel
theorem dX12_closePart_119 : decode cX12_closePart 119 = .ok (.invokestatic 539, 3) := by decide +kernel
theorem dX12_closePart_122 : decode cX12_closePart 122 = .ok (.ldc2_w 543, 3) := by decide +kernel
theorem dX12_closePart_125 : decode cX12_closePart 125 = .ok (.lxor, 1) := by decide +kernel
theorem dX12_closePart_126 : decode cX12_closePart 126 = .ok (.land, 1) := by decide +kernel
theorem dX12_closePart_127 : decode cX12_closePart 127 = .ok (.lastore, 1) := by decide +kernel
theorem dX12_closePart_128 : decode cX12_closePart 128 = .ok (.goto 332, 3) := by decide +kernel
theorem dX12_closePart_131 : decode cX12_closePart 131 = .ok (.aload_n 0, 1) := by decide +kernel
theorem dX12_closePart_132 : decode cX12_closePart 132 = .ok (.iload_n 2, 1) := by decide +kernel
theorem dX12_closePart_133 : decode cX12_closePart 133 = .ok (.invokevirtual 536, 3) := by decide +kernel
theorem dX12_closePart_136 : decode cX12_closePart 136 = .ok (.istore_n 3, 1) := by decide +kernel
theorem dX12_closePart_137 : decode cX12_closePart 137 = .ok (.aload_n 0, 1) := by decide +kernel
theorem dX12_closePart_138 : decode cX12_closePart 138 = .ok (.iconst 3, 1) := by decide +kernel
theorem dX12_closePart_139 : decode cX12_closePart 139 = .ok (.iload_n 3, 1) := by decide +kernel
theorem dX12_closePart_140 : decode cX12_closePart 140 = .ok (.iload_n 3, 1) := by decide +kernel
theorem dX12_closePart_141 : decode cX12_closePart 141 = .ok (.iconst 1, 1) := by decide +kernel
theorem dX12_closePart_142 : decode cX12_closePart 142 = .ok (.iadd, 1) := by decide +kernel
theorem dX12_closePart_143 : decode cX12_closePart 143 = .ok (.invokevirtual 529, 3) := by decide +kernel
theorem dX12_closePart_146 : decode cX12_closePart 146 = .ok (.istore 4, 2) := by decide +kernel
theorem dX12_closePart_148 : decode cX12_closePart 148 = .ok (.aload_n 0, 1) := by decide +kernel
theorem dX12_closePart_149 : decode cX12_closePart 149 = .ok (.getfield 144, 3) := by decide +kernel
theorem dX12_closePart_152 : decode cX12_closePart 152 = .ok (.iload 4, 2) := by decide +kernel
theorem dX12_closePart_154 : decode cX12_closePart 154 = .ok (.aload_n 0, 1) := by decide +kernel
theorem dX12_closePart_155 : decode cX12_closePart 155 = .ok (.getfield 144, 3) := by decide +kernel
theorem dX12_closePart_158 : decode cX12_closePart 158 = .ok (.aload_n 0, 1) := by decide +kernel
theorem dX12_closePart_159 : decode cX12_closePart 159 = .ok (.iload 4, 2) := by decide +kernel
theorem dX12_closePart_161 : decode cX12_closePart 161 = .ok (.iconst 0, 1) := by decide +kernel
theorem dX12_closePart_162 : decode cX12_closePart 162 = .ok (.invokevirtual 545, 3) := by decide +kernel
theorem dX12_closePart_165 : decode cX12_closePart 165 = .ok (.laload, 1) := by decide +kernel
theorem dX12_closePart_166 : decode cX12_closePart 166 = .ok (.lastore, 1) := by decide +kernel
theorem dX12_closePart_167 : decode cX12_closePart 167 = .ok (.iconst 0, 1) := by decide +kernel
theorem dX12_closePart_168 : decode cX12_closePart 168 = .ok (.istore 5, 2) := by decide +kernel
theorem dX12_closePart_170 : decode cX12_closePart 170 = .ok (.aload_n 0, 1) := by decide +kernel
theorem dX12_closePart_171 : decode cX12_closePart 171 = .ok (.getfield 19, 3) := by decide +kernel
theorem dX12_closePart_174 : decode cX12_closePart 174 = .ok (.iload_n 2, 1) := by decide +kernel
theorem dX12_closePart_175 : decode cX12_closePart 175 = .ok (.iaload, 1) := by decide +kernel
theorem dX12_closePart_176 : decode cX12_closePart 176 = .ok (.istore 6, 2) := by decide +kernel
theorem dX12_closePart_178 : decode cX12_closePart 178 = .ok (.iload 6, 2) := by decide +kernel
theorem dX12_closePart_180 : decode cX12_closePart 180 = .ok (.ifCond .lt 154, 3) := by decide +kernel
theorem dX12_closePart_183 : decode cX12_closePart 183 = .ok (.aload_n 0, 1) := by decide +kernel
theorem dX12_closePart_184 : decode cX12_closePart 184 = .ok (.getfield 125, 3) := by decide +kernel
theorem dX12_closePart_187 : decode cX12_closePart 187 = .ok (.iload 4, 2) := by decide +kernel
theorem dX12_closePart_189 : decode cX12_closePart 189 = .ok (.iaload, 1) := by decide +kernel
theorem dX12_closePart_190 : decode cX12_closePart 190 = .ok (.iconst 1, 1) := by decide +kernel
theorem dX12_closePart_191 : decode cX12_closePart 191 = .ok (.iadd, 1) := by decide +kernel
theorem dX12_closePart_192 : decode cX12_closePart 192 = .ok (.iload 5, 2) := by decide +kernel
theorem dX12_closePart_194 : decode cX12_closePart 194 = .ok (.iadd, 1) := by decide +kernel
theorem dX12_closePart_195 : decode cX12_closePart 195 = .ok (.istore 7, 2) := by decide +kernel
theorem dX12_closePart_197 : decode cX12_closePart 197 = .ok (.aload_n 0, 1) := by decide +kernel
theorem dX12_closePart_198 : decode cX12_closePart 198 = .ok (.getfield 150, 3) := by decide +kernel
theorem dX12_closePart_201 : decode cX12_closePart 201 = .ok (.iload 7, 2) := by decide +kernel
theorem dX12_closePart_203 : decode cX12_closePart 203 = .ok (.aload_n 0, 1) := by decide +kernel
theorem dX12_closePart_204 : decode cX12_closePart 204 = .ok (.getfield 34, 3) := by decide +kernel
theorem dX12_closePart_207 : decode cX12_closePart 207 = .ok (.iload 6, 2) := by decide +kernel
theorem dX12_closePart_209 : decode cX12_closePart 209 = .ok (.iaload, 1) := by decide +kernel
theorem dX12_closePart_210 : decode cX12_closePart 210 = .ok (.iastore, 1) := by decide +kernel
theorem dX12_closePart_211 : decode cX12_closePart 211 = .ok (.aload_n 0, 1) := by decide +kernel
theorem dX12_closePart_212 : decode cX12_closePart 212 = .ok (.getfield 153, 3) := by decide +kernel
theorem dX12_closePart_215 : decode cX12_closePart 215 = .ok (.iload 7, 2) := by decide +kernel
theorem dX12_closePart_217 : decode cX12_closePart 217 = .ok (.aload_n 0, 1) := by decide +kernel
theorem dX12_closePart_218 : decode cX12_closePart 218 = .ok (.getfield 31, 3) := by decide +kernel
theorem dX12_closePart_221 : decode cX12_closePart 221 = .ok (.iload 6, 2) := by decide +kernel
theorem dX12_closePart_223 : decode cX12_closePart 223 = .ok (.iaload, 1) := by decide +kernel
theorem dX12_closePart_224 : decode cX12_closePart 224 = .ok (.iastore, 1) := by decide +kernel
theorem dX12_closePart_225 : decode cX12_closePart 225 = .ok (.aload_n 0, 1) := by decide +kernel
theorem dX12_closePart_226 : decode cX12_closePart 226 = .ok (.getfield 159, 3) := by decide +kernel
theorem dX12_closePart_229 : decode cX12_closePart 229 = .ok (.iload 7, 2) := by decide +kernel
theorem dX12_closePart_231 : decode cX12_closePart 231 = .ok (.aload_n 0, 1) := by decide +kernel
theorem dX12_closePart_232 : decode cX12_closePart 232 = .ok (.getfield 44, 3) := by decide +kernel
theorem dX12_closePart_235 : decode cX12_closePart 235 = .ok (.iload 6, 2) := by decide +kernel
theorem dX12_closePart_237 : decode cX12_closePart 237 = .ok (.iaload, 1) := by decide +kernel
theorem dX12_closePart_238 : decode cX12_closePart 238 = .ok (.iastore, 1) := by decide +kernel
theorem dX12_closePart_239 : decode cX12_closePart 239 = .ok (.aload_n 0, 1) := by decide +kernel
theorem dX12_closePart_240 : decode cX12_closePart 240 = .ok (.getfield 156, 3) := by decide +kernel
theorem dX12_closePart_243 : decode cX12_closePart 243 = .ok (.iload 7, 2) := by decide +kernel
theorem dX12_closePart_245 : decode cX12_closePart 245 = .ok (.aload_n 0, 1) := by decide +kernel
theorem dX12_closePart_246 : decode cX12_closePart 246 = .ok (.getfield 44, 3) := by decide +kernel
theorem dX12_closePart_249 : decode cX12_closePart 249 = .ok (.iload 6, 2) := by decide +kernel
theorem dX12_closePart_251 : decode cX12_closePart 251 = .ok (.iaload, 1) := by decide +kernel
theorem dX12_closePart_252 : decode cX12_closePart 252 = .ok (.ifCond .le 18, 3) := by decide +kernel
theorem dX12_closePart_255 : decode cX12_closePart 255 = .ok (.aload_n 0, 1) := by decide +kernel
theorem dX12_closePart_256 : decode cX12_closePart 256 = .ok (.iload_n 1, 1) := by decide +kernel
theorem dX12_closePart_257 : decode cX12_closePart 257 = .ok (.aload_n 0, 1) := by decide +kernel
theorem dX12_closePart_258 : decode cX12_closePart 258 = .ok (.getfield 98, 3) := by decide +kernel
theorem dX12_closePart_261 : decode cX12_closePart 261 = .ok (.iload 6, 2) := by decide +kernel
theorem dX12_closePart_263 : decode cX12_closePart 263 = .ok (.iaload, 1) := by decide +kernel
theorem dX12_closePart_264 : decode cX12_closePart 264 = .ok (.invokevirtual 532, 3) := by decide +kernel
theorem dX12_closePart_267 : decode cX12_closePart 267 = .ok (.goto 4, 3) := by decide +kernel
theorem dX12_closePart_270 : decode cX12_closePart 270 = .ok (.iconst 0, 1) := by decide +kernel
theorem dX12_closePart_271 : decode cX12_closePart 271 = .ok (.iastore, 1) := by decide +kernel
theorem dX12_closePart_272 : decode cX12_closePart 272 = .ok (.aload_n 0, 1) := by decide +kernel
theorem dX12_closePart_273 : decode cX12_closePart 273 = .ok (.getfield 144, 3) := by decide +kernel
theorem dX12_closePart_276 : decode cX12_closePart 276 = .ok (.iload 4, 2) := by decide +kernel
theorem dX12_closePart_278 : decode cX12_closePart 278 = .ok (.dup2, 1) := by decide +kernel
theorem dX12_closePart_279 : decode cX12_closePart 279 = .ok (.laload, 1) := by decide +kernel
theorem dX12_closePart_280 : decode cX12_closePart 280 = .ok (.aload_n 0, 1) := by decide +kernel
theorem dX12_closePart_281 : decode cX12_closePart 281 = .ok (.getfield 144, 3) := by decide +kernel
theorem dX12_closePart_284 : decode cX12_closePart 284 = .ok (.aload_n 0, 1) := by decide +kernel
theorem dX12_closePart_285 : decode cX12_closePart 285 = .ok (.iload 4, 2) := by decide +kernel
theorem dX12_closePart_287 : decode cX12_closePart 287 = .ok (.iconst 1, 1) := by decide +kernel
theorem dX12_closePart_288 : decode cX12_closePart 288 = .ok (.iload 5, 2) := by decide +kernel
theorem dX12_closePart_290 : decode cX12_closePart 290 = .ok (.iadd, 1) := by decide +kernel
theorem dX12_closePart_291 : decode cX12_closePart 291 = .ok (.invokevirtual 545, 3) := by decide +kernel
theorem dX12_closePart_294 : decode cX12_closePart 294 = .ok (.laload, 1) := by decide +kernel
theorem dX12_closePart_295 : decode cX12_closePart 295 = .ok (.aload_n 0, 1) := by decide +kernel
theorem dX12_closePart_296 : decode cX12_closePart 296 = .ok (.getfield 156, 3) := by decide +kernel
theorem dX12_closePart_299 : decode cX12_closePart 299 = .ok (.iload 7, 2) := by decide +kernel
theorem dX12_closePart_301 : decode cX12_closePart 301 = .ok (.iaload, 1) := by decide +kernel
theorem dX12_closePart_302 : decode cX12_closePart 302 = .ok (.aload_n 0, 1) := by decide +kernel
theorem dX12_closePart_303 : decode cX12_closePart 303 = .ok (.getfield 44, 3) := by decide +kernel
theorem dX12_closePart_306 : decode cX12_closePart 306 = .ok (.iload 6, 2) := by decide +kernel
theorem dX12_closePart_308 : decode cX12_closePart 308 = .ok (.iaload, 1) := by decide +kernel
theorem dX12_closePart_309 : decode cX12_closePart 309 = .ok (.invokestatic 539, 3) := by decide +kernel
theorem dX12_closePart_312 : decode cX12_closePart 312 = .ok (.ldc2_w 543, 3) := by decide +kernel
theorem dX12_closePart_315 : decode cX12_closePart 315 = .ok (.lxor, 1) := by decide +kernel
theorem dX12_closePart_316 : decode cX12_closePart 316 = .ok (.land, 1) := by decide +kernel
theorem dX12_closePart_317 : decode cX12_closePart 317 = .ok (.lor, 1) := by decide +kernel
theorem dX12_closePart_318 : decode cX12_closePart 318 = .ok (.lastore, 1) := by decide +kernel
theorem dX12_closePart_319 : decode cX12_closePart 319 = .ok (.iinc 5 1, 3) := by decide +kernel
theorem dX12_closePart_322 : decode cX12_closePart 322 = .ok (.aload_n 0, 1) := by decide +kernel
theorem dX12_closePart_323 : decode cX12_closePart 323 = .ok (.getfield 25, 3) := by decide +kernel
theorem dX12_closePart_326 : decode cX12_closePart 326 = .ok (.iload 6, 2) := by decide +kernel
theorem dX12_closePart_328 : decode cX12_closePart 328 = .ok (.iaload, 1) := by decide +kernel
theorem dX12_closePart_329 : decode cX12_closePart 329 = .ok (.istore 6, 2) := by decide +kernel
theorem dX12_closePart_331 : decode cX12_closePart 331 = .ok (.goto (-153), 3) := by decide +kernel
theorem dX12_closePart_334 : decode cX12_closePart 334 = .ok (.goto 126, 3) := by decide +kernel
theorem dX12_closePart_337 : decode cX12_closePart 337 = .ok (.aload_n 0, 1) := by decide +kernel
theorem dX12_closePart_338 : decode cX12_closePart 338 = .ok (.iconst 5, 1) := by decide +kernel
theorem dX12_closePart_339 : decode cX12_closePart 339 = .ok (.aload_n 0, 1) := by decide +kernel
theorem dX12_closePart_340 : decode cX12_closePart 340 = .ok (.getfield 31, 3) := by decide +kernel
theorem dX12_closePart_343 : decode cX12_closePart 343 = .ok (.iload_n 2, 1) := by decide +kernel
theorem dX12_closePart_344 : decode cX12_closePart 344 = .ok (.iaload, 1) := by decide +kernel
theorem dX12_closePart_345 : decode cX12_closePart 345 = .ok (.iconst 2, 1) := by decide +kernel
theorem dX12_closePart_346 : decode cX12_closePart 346 = .ok (.invokevirtual 529, 3) := by decide +kernel
theorem dX12_closePart_349 : decode cX12_closePart 349 = .ok (.pop, 1) := by decide +kernel
theorem dX12_closePart_350 : decode cX12_closePart 350 = .ok (.goto 110, 3) := by decide +kernel
theorem dX12_closePart_353 : decode cX12_closePart 353 = .ok (.aload_n 0, 1) := by decide +kernel
theorem dX12_closePart_354 : decode cX12_closePart 354 = .ok (.bipush 6, 2) := by decide +kernel
theorem dX12_closePart_356 : decode cX12_closePart 356 = .ok (.iconst 0, 1) := by decide +kernel
theorem dX12_closePart_357 : decode cX12_closePart 357 = .ok (.aload_n 0, 1) := by decide +kernel
theorem dX12_closePart_358 : decode cX12_closePart 358 = .ok (.iload_n 2, 1) := by decide +kernel
theorem dX12_closePart_359 : decode cX12_closePart 359 = .ok (.invokevirtual 536, 3) := by decide +kernel
theorem dX12_closePart_362 : decode cX12_closePart 362 = .ok (.invokevirtual 529, 3) := by decide +kernel
theorem dX12_closePart_365 : decode cX12_closePart 365 = .ok (.pop, 1) := by decide +kernel
theorem dX12_closePart_366 : decode cX12_closePart 366 = .ok (.goto 94, 3) := by decide +kernel
theorem dX12_closePart_369 : decode cX12_closePart 369 = .ok (.aload_n 0, 1) := by decide +kernel
theorem dX12_closePart_370 : decode cX12_closePart 370 = .ok (.bipush 7, 2) := by decide +kernel
theorem dX12_closePart_372 : decode cX12_closePart 372 = .ok (.aload_n 0, 1) := by decide +kernel
theorem dX12_closePart_373 : decode cX12_closePart 373 = .ok (.getfield 31, 3) := by decide +kernel
theorem dX12_closePart_376 : decode cX12_closePart 376 = .ok (.iload_n 2, 1) := by decide +kernel
theorem dX12_closePart_377 : decode cX12_closePart 377 = .ok (.iaload, 1) := by decide +kernel
theorem dX12_closePart_378 : decode cX12_closePart 378 = .ok (.aload_n 0, 1) := by decide +kernel
theorem dX12_closePart_379 : decode cX12_closePart 379 = .ok (.iload_n 2, 1) := by decide +kernel
theorem dX12_closePart_380 : decode cX12_closePart 380 = .ok (.invokevirtual 536, 3) := by decide +kernel
theorem dX12_closePart_383 : decode cX12_closePart 383 = .ok (.invokevirtual 529, 3) := by decide +kernel
theorem dX12_closePart_386 : decode cX12_closePart 386 = .ok (.pop, 1) := by decide +kernel
theorem dX12_closePart_387 : decode cX12_closePart 387 = .ok (.goto 73, 3) := by decide +kernel
theorem dX12_closePart_390 : decode cX12_closePart 390 = .ok (.aload_n 0, 1) := by decide +kernel
theorem dX12_closePart_391 : decode cX12_closePart 391 = .ok (.getfield 34, 3) := by decide +kernel
theorem dX12_closePart_394 : decode cX12_closePart 394 = .ok (.iload_n 2, 1) := by decide +kernel
theorem dX12_closePart_395 : decode cX12_closePart 395 = .ok (.iaload, 1) := by decide +kernel
theorem dX12_closePart_396 : decode cX12_closePart 396 = .ok (.iconst 1, 1) := by decide +kernel
theorem dX12_closePart_397 : decode cX12_closePart 397 = .ok (.if_icmp .ne 25, 3) := by decide +kernel
theorem dX12_closePart_400 : decode cX12_closePart 400 = .ok (.aload_n 0, 1) := by decide +kernel
theorem dX12_closePart_401 : decode cX12_closePart 401 = .ok (.bipush 13, 2) := by decide +kernel
theorem dX12_closePart_403 : decode cX12_closePart 403 = .ok (.aload_n 0, 1) := by decide +kernel
theorem dX12_closePart_404 : decode cX12_closePart 404 = .ok (.iload_n 1, 1) := by decide +kernel
theorem dX12_closePart_405 : decode cX12_closePart 405 = .ok (.aload_n 0, 1) := by decide +kernel
theorem dX12_closePart_406 : decode cX12_closePart 406 = .ok (.getfield 31, 3) := by decide +kernel
theorem dX12_closePart_409 : decode cX12_closePart 409 = .ok (.iload_n 2, 1) := by decide +kernel
theorem dX12_closePart_410 : decode cX12_closePart 410 = .ok (.iaload, 1) := by decide +kernel
theorem dX12_closePart_411 : decode cX12_closePart 411 = .ok (.invokevirtual 532, 3) := by decide +kernel
theorem dX12_closePart_414 : decode cX12_closePart 414 = .ok (.iconst 0, 1) := by decide +kernel
theorem dX12_closePart_415 : decode cX12_closePart 415 = .ok (.invokevirtual 529, 3) := by decide +kernel
theorem dX12_closePart_418 : decode cX12_closePart 418 = .ok (.pop, 1) := by decide +kernel
theorem dX12_closePart_419 : decode cX12_closePart 419 = .ok (.goto 41, 3) := by decide +kernel
theorem dX12_closePart_422 : decode cX12_closePart 422 = .ok (.aload_n 0, 1) := by decide +kernel
theorem dX12_closePart_423 : decode cX12_closePart 423 = .ok (.bipush 12, 2) := by decide +kernel
theorem dX12_closePart_425 : decode cX12_closePart 425 = .ok (.aload_n 0, 1) := by decide +kernel
theorem dX12_closePart_426 : decode cX12_closePart 426 = .ok (.getfield 31, 3) := by decide +kernel
theorem dX12_closePart_429 : decode cX12_closePart 429 = .ok (.iload_n 2, 1) := by decide +kernel
theorem dX12_closePart_430 : decode cX12_closePart 430 = .ok (.iaload, 1) := by decide +kernel
theorem dX12_closePart_431 : decode cX12_closePart 431 = .ok (.iconst 0, 1) := by decide +kernel
theorem dX12_closePart_432 : decode cX12_closePart 432 = .ok (.invokevirtual 529, 3) := by decide +kernel
theorem dX12_closePart_435 : decode cX12_closePart 435 = .ok (.pop, 1) := by decide +kernel
theorem dX12_closePart_436 : decode cX12_closePart 436 = .ok (.goto 24, 3) := by decide +kernel
theorem dX12_closePart_439 : decode cX12_closePart 439 = .ok (.aload_n 0, 1) := by decide +kernel
theorem dX12_closePart_440 : decode cX12_closePart 440 = .ok (.aload_n 0, 1) := by decide +kernel
theorem dX12_closePart_441 : decode cX12_closePart 441 = .ok (.getfield 16, 3) := by decide +kernel
theorem dX12_closePart_444 : decode cX12_closePart 444 = .ok (.iload_n 2, 1) := by decide +kernel
theorem dX12_closePart_445 : decode cX12_closePart 445 = .ok (.iaload, 1) := by decide +kernel
theorem dX12_closePart_446 : decode cX12_closePart 446 = .ok (.aload_n 0, 1) := by decide +kernel
theorem dX12_closePart_447 : decode cX12_closePart 447 = .ok (.getfield 31, 3) := by decide +kernel
theorem dX12_closePart_450 : decode cX12_closePart 450 = .ok (.iload_n 2, 1) := by decide +kernel
theorem dX12_closePart_451 : decode cX12_closePart 451 = .ok (.iaload, 1) := by decide +kernel
theorem dX12_closePart_452 : decode cX12_closePart 452 = .ok (.iconst 0, 1) := by decide +kernel
theorem dX12_closePart_453 : decode cX12_closePart 453 = .ok (.invokevirtual 529, 3) := by decide +kernel
theorem dX12_closePart_456 : decode cX12_closePart 456 = .ok (.pop, 1) := by decide +kernel
theorem dX12_closePart_457 : decode cX12_closePart 457 = .ok (.goto 3, 3) := by decide +kernel
theorem dX12_closePart_460 : decode cX12_closePart 460 = .ok (.return_, 1) := by decide +kernel
theorem dX12_find_0 : decode cX12_find 0 = .ok (.aload_n 0, 1) := by decide +kernel
theorem dX12_find_1 : decode cX12_find 1 = .ok (.iconst 0, 1) := by decide +kernel
theorem dX12_find_2 : decode cX12_find 2 = .ok (.putfield 474, 3) := by decide +kernel
theorem dX12_find_5 : decode cX12_find 5 = .ok (.aload_n 0, 1) := by decide +kernel
theorem dX12_find_6 : decode cX12_find 6 = .ok (.iconst 0, 1) := by decide +kernel
theorem dX12_find_7 : decode cX12_find 7 = .ok (.putfield 480, 3) := by decide +kernel
theorem dX12_find_10 : decode cX12_find 10 = .ok (.iconst 0, 1) := by decide +kernel
theorem dX12_find_11 : decode cX12_find 11 = .ok (.istore_n 1, 1) := by decide +kernel
theorem dX12_find_12 : decode cX12_find 12 = .ok (.iload_n 1, 1) := by decide +kernel
theorem dX12_find_13 : decode cX12_find 13 = .ok (.aload_n 0, 1) := by decide +kernel
theorem dX12_find_14 : decode cX12_find 14 = .ok (.getfield 462, 3) := by decide +kernel
theorem dX12_find_17 : decode cX12_find 17 = .ok (.if_icmp .ge 93, 3) := by decide +kernel
theorem dX12_find_20 : decode cX12_find 20 = .ok (.aload_n 0, 1) := by decide +kernel
theorem dX12_find_21 : decode cX12_find 21 = .ok (.iconst 1, 1) := by decide +kernel
theorem dX12_find_22 : decode cX12_find 22 = .ok (.putfield 477, 3) := by decide +kernel
theorem dX12_find_25 : decode cX12_find 25 = .ok (.aload_n 0, 1) := by decide +kernel
theorem dX12_find_26 : decode cX12_find 26 = .ok (.getfield 107, 3) := by decide +kernel
theorem dX12_find_29 : decode cX12_find 29 = .ok (.iconst 0, 1) := by decide +kernel
theorem dX12_find_30 : decode cX12_find 30 = .ok (.iload_n 1, 1) := by decide +kernel
theorem dX12_find_31 : decode cX12_find 31 = .ok (.iastore, 1) := by decide +kernel
theorem dX12_find_32 : decode cX12_find 32 = .ok (.iconst 1, 1) := by decide +kernel
theorem dX12_find_33 : decode cX12_find 33 = .ok (.istore_n 2, 1) := by decide +kernel
theorem dX12_find_34 : decode cX12_find 34 = .ok (.aload_n 0, 1) := by decide +kernel
theorem dX12_find_35 : decode cX12_find 35 = .ok (.iconst 0, 1) := by decide +kernel
theorem dX12_find_36 : decode cX12_find 36 = .ok (.aload_n 0, 1) := by decide +kernel
theorem dX12_find_37 : decode cX12_find 37 = .ok (.getfield 56, 3) := by decide +kernel
theorem dX12_find_40 : decode cX12_find 40 = .ok (.iload_n 1, 1) := by decide +kernel
theorem dX12_find_41 : decode cX12_find 41 = .ok (.iaload, 1) := by decide +kernel
theorem dX12_find_42 : decode cX12_find 42 = .ok (.invokevirtual 505, 3) := by decide +kernel
theorem dX12_find_45 : decode cX12_find 45 = .ok (.aload_n 0, 1) := by decide +kernel
theorem dX12_find_46 : decode cX12_find 46 = .ok (.aload_n 0, 1) := by decide +kernel
theorem dX12_find_47 : decode cX12_find 47 = .ok (.getfield 110, 3) := by decide +kernel
theorem dX12_find_50 : decode cX12_find 50 = .ok (.iconst 0, 1) := by decide +kernel
theorem dX12_find_51 : decode cX12_find 51 = .ok (.iaload, 1) := by decide +kernel
theorem dX12_find_52 : decode cX12_find 52 = .ok (.invokevirtual 508, 3) := by decide +kernel
theorem dX12_find_55 : decode cX12_find 55 = .ok (.iload_n 2, 1) := by decide +kernel
theorem dX12_find_56 : decode cX12_find 56 = .ok (.ifCond .le 48, 3) := by decide +kernel
theorem dX12_find_59 : decode cX12_find 59 = .ok (.aload_n 0, 1) := by decide +kernel
theorem dX12_find_60 : decode cX12_find 60 = .ok (.iload_n 2, 1) := by decide +kernel
theorem dX12_find_61 : decode cX12_find 61 = .ok (.iconst 1, 1) := by decide +kernel
theorem dX12_find_62 : decode cX12_find 62 = .ok (.isub, 1) := by decide +kernel
theorem dX12_find_63 : decode cX12_find 63 = .ok (.invokevirtual 511, 3) := by decide +kernel
theorem dX12_find_66 : decode cX12_find 66 = .ok (.istore_n 3, 1) := by decide +kernel
theorem dX12_find_67 : decode cX12_find 67 = .ok (.iload_n 3, 1) := by decide +kernel
theorem dX12_find_68 : decode cX12_find 68 = .ok (.ifCond .ge 19, 3) := by decide +kernel
theorem dX12_find_71 : decode cX12_find 71 = .ok (.iinc 2 (-1), 3) := by decide +kernel
theorem dX12_find_74 : decode cX12_find 74 = .ok (.aload_n 0, 1) := by decide +kernel
theorem dX12_find_75 : decode cX12_find 75 = .ok (.aload_n 0, 1) := by decide +kernel
theorem dX12_find_76 : decode cX12_find 76 = .ok (.getfield 110, 3) := by decide +kernel
theorem dX12_find_79 : decode cX12_find 79 = .ok (.iload_n 2, 1) := by decide +kernel
theorem dX12_find_80 : decode cX12_find 80 = .ok (.iaload, 1) := by decide +kernel
theorem dX12_find_81 : decode cX12_find 81 = .ok (.invokevirtual 514, 3) := by decide +kernel
theorem dX12_find_84 : decode cX12_find 84 = .ok (.goto 17, 3) := by decide +kernel
theorem dX12_find_87 : decode cX12_find 87 = .ok (.aload_n 0, 1) := by decide +kernel
theorem dX12_find_88 : decode cX12_find 88 = .ok (.iload_n 2, 1) := by decide +kernel
theorem dX12_find_89 : decode cX12_find 89 = .ok (.iload_n 3, 1) := by decide +kernel
theorem dX12_find_90 : decode cX12_find 90 = .ok (.invokevirtual 505, 3) := by decide +kernel
theorem dX12_find_93 : decode cX12_find 93 = .ok (.aload_n 0, 1) := by decide +kernel
theorem dX12_find_94 : decode cX12_find 94 = .ok (.iload_n 3, 1) := by decide +kernel
theorem dX12_find_95 : decode cX12_find 95 = .ok (.invokevirtual 508, 3) := by decide +kernel
theorem dX12_find_98 : decode cX12_find 98 = .ok (.iinc 2 1, 3) := by decide +kernel
theorem dX12_find_101 : decode cX12_find 101 = .ok (.goto (-46), 3) := by decide +kernel
theorem dX12_find_104 : decode cX12_find 104 = .ok (.iinc 1 1, 3) := by decide +kernel
theorem dX12_find_107 : decode cX12_find 107 = .ok (.goto (-95), 3) := by decide +kernel
theorem dX12_find_110 : decode cX12_find 110 = .ok (.return_, 1) := by decide +kernel
theorem dX12_judge_0 : decode cX12_judge 0 = .ok (.aload_n 0, 1) := by decide +kernel
theorem dX12_judge_1 : decode cX12_judge 1 = .ok (.getfield 462, 3) := by decide +kernel
theorem dX12_judge_4 : decode cX12_judge 4 = .ok (.istore_n 1, 1) := by decide +kernel
theorem dX12_judge_5 : decode cX12_judge 5 = .ok (.iload_n 1, 1) := by decide +kernel
theorem dX12_judge_6 : decode cX12_judge 6 = .ok (.aload_n 0, 1) := by decide +kernel
theorem dX12_judge_7 : decode cX12_judge 7 = .ok (.getfield 486, 3) := by decide +kernel
theorem dX12_judge_10 : decode cX12_judge 10 = .ok (.if_icmp .ge 44, 3) := by decide +kernel
theorem dX12_judge_13 : decode cX12_judge 13 = .ok (.aload_n 0, 1) := by decide +kernel
theorem dX12_judge_14 : decode cX12_judge 14 = .ok (.getfield 83, 3) := by decide +kernel
theorem dX12_judge_17 : decode cX12_judge 17 = .ok (.iload_n 1, 1) := by decide +kernel
theorem dX12_judge_18 : decode cX12_judge 18 = .ok (.iaload, 1) := by decide +kernel
theorem dX12_judge_19 : decode cX12_judge 19 = .ok (.aload_n 0, 1) := by decide +kernel
theorem dX12_judge_20 : decode cX12_judge 20 = .ok (.getfield 44, 3) := by decide +kernel
theorem dX12_judge_23 : decode cX12_judge 23 = .ok (.aload_n 0, 1) := by decide +kernel
theorem dX12_judge_24 : decode cX12_judge 24 = .ok (.getfield 56, 3) := by decide +kernel
theorem dX12_judge_27 : decode cX12_judge 27 = .ok (.iload_n 1, 1) := by decide +kernel
theorem dX12_judge_28 : decode cX12_judge 28 = .ok (.iaload, 1) := by decide +kernel
theorem dX12_judge_29 : decode cX12_judge 29 = .ok (.iaload, 1) := by decide +kernel
theorem dX12_judge_30 : decode cX12_judge 30 = .ok (.iadd, 1) := by decide +kernel
theorem dX12_judge_31 : decode cX12_judge 31 = .ok (.bipush 8, 2) := by decide +kernel
theorem dX12_judge_33 : decode cX12_judge 33 = .ok (.if_icmp .le 15, 3) := by decide +kernel
theorem dX12_judge_36 : decode cX12_judge 36 = .ok (.aload_n 0, 1) := by decide +kernel
theorem dX12_judge_37 : decode cX12_judge 37 = .ok (.bipush 6, 2) := by decide +kernel
theorem dX12_judge_39 : decode cX12_judge 39 = .ok (.aload_n 0, 1) := by decide +kernel
theorem dX12_judge_40 : decode cX12_judge 40 = .ok (.getfield 53, 3) := by decide +kernel
theorem dX12_judge_43 : decode cX12_judge 43 = .ok (.iload_n 1, 1) := by decide +kernel
theorem dX12_judge_44 : decode cX12_judge 44 = .ok (.iaload, 1) := by decide +kernel
theorem dX12_judge_45 : decode cX12_judge 45 = .ok (.invokevirtual 317, 3) := by decide +kernel
theorem dX12_judge_48 : decode cX12_judge 48 = .ok (.iinc 1 1, 3) := by decide +kernel
theorem dX12_judge_51 : decode cX12_judge 51 = .ok (.goto (-46), 3) := by decide +kernel
theorem dX12_judge_54 : decode cX12_judge 54 = .ok (.aload_n 0, 1) := by decide +kernel
theorem dX12_judge_55 : decode cX12_judge 55 = .ok (.invokevirtual 517, 3) := by decide +kernel
theorem dX12_judge_58 : decode cX12_judge 58 = .ok (.istore_n 1, 1) := by decide +kernel
theorem dX12_judge_59 : decode cX12_judge 59 = .ok (.iload_n 1, 1) := by decide +kernel
theorem dX12_judge_60 : decode cX12_judge 60 = .ok (.ifCond .lt 17, 3) := by decide +kernel
theorem dX12_judge_63 : decode cX12_judge 63 = .ok (.aload_n 0, 1) := by decide +kernel
theorem dX12_judge_64 : decode cX12_judge 64 = .ok (.getfield 44, 3) := by decide +kernel
theorem dX12_judge_67 : decode cX12_judge 67 = .ok (.aload_n 0, 1) := by decide +kernel
theorem dX12_judge_68 : decode cX12_judge 68 = .ok (.getfield 56, 3) := by decide +kernel
theorem dX12_judge_71 : decode cX12_judge 71 = .ok (.iload_n 1, 1) := by decide +kernel
theorem dX12_judge_72 : decode cX12_judge 72 = .ok (.iaload, 1) := by decide +kernel
theorem dX12_judge_73 : decode cX12_judge 73 = .ok (.iaload, 1) := by decide +kernel
theorem dX12_judge_74 : decode cX12_judge 74 = .ok (.ifCond .le 10, 3) := by decide +kernel
theorem dX12_judge_77 : decode cX12_judge 77 = .ok (.aload_n 0, 1) := by decide +kernel
theorem dX12_judge_78 : decode cX12_judge 78 = .ok (.bipush 7, 2) := by decide +kernel
theorem dX12_judge_80 : decode cX12_judge 80 = .ok (.iconst 0, 1) := by decide +kernel
theorem dX12_judge_81 : decode cX12_judge 81 = .ok (.invokevirtual 317, 3) := by decide +kernel
theorem dX12_judge_84 : decode cX12_judge 84 = .ok (.return_, 1) := by decide +kernel
theorem dX12_lift_0 : decode cX12_lift 0 = .ok (.aload_n 0, 1) := by decide +kernel
theorem dX12_lift_1 : decode cX12_lift 1 = .ok (.getfield 520, 3) := by decide +kernel
theorem dX12_lift_4 : decode cX12_lift 4 = .ok (.istore 4, 2) := by decide +kernel
theorem dX12_lift_6 : decode cX12_lift 6 = .ok (.aload_n 0, 1) := by decide +kernel
theorem dX12_lift_7 : decode cX12_lift 7 = .ok (.dup, 1) := by decide +kernel
theorem dX12_lift_8 : decode cX12_lift 8 = .ok (.getfield 520, 3) := by decide +kernel
theorem dX12_lift_11 : decode cX12_lift 11 = .ok (.iconst 1, 1) := by decide +kernel
theorem dX12_lift_12 : decode cX12_lift 12 = .ok (.iadd, 1) := by decide +kernel
theorem dX12_lift_13 : decode cX12_lift 13 = .ok (.putfield 520, 3) := by decide +kernel
theorem dX12_lift_16 : decode cX12_lift 16 = .ok (.aload_n 0, 1) := by decide +kernel
theorem dX12_lift_17 : decode cX12_lift 17 = .ok (.getfield 119, 3) := by decide +kernel
theorem dX12_lift_20 : decode cX12_lift 20 = .ok (.iload 4, 2) := by decide +kernel
theorem dX12_lift_22 : decode cX12_lift 22 = .ok (.iload_n 1, 1) := by decide +kernel
theorem dX12_lift_23 : decode cX12_lift 23 = .ok (.iastore, 1) := by decide +kernel
theorem dX12_lift_24 : decode cX12_lift 24 = .ok (.aload_n 0, 1) := by decide +kernel
theorem dX12_lift_25 : decode cX12_lift 25 = .ok (.getfield 122, 3) := by decide +kernel
theorem dX12_lift_28 : decode cX12_lift 28 = .ok (.iload 4, 2) := by decide +kernel
theorem dX12_lift_30 : decode cX12_lift 30 = .ok (.iload_n 2, 1) := by decide +kernel
theorem dX12_lift_31 : decode cX12_lift 31 = .ok (.iastore, 1) := by decide +kernel
theorem dX12_lift_32 : decode cX12_lift 32 = .ok (.aload_n 0, 1) := by decide +kernel
theorem dX12_lift_33 : decode cX12_lift 33 = .ok (.getfield 125, 3) := by decide +kernel
theorem dX12_lift_36 : decode cX12_lift 36 = .ok (.iload 4, 2) := by decide +kernel
theorem dX12_lift_38 : decode cX12_lift 38 = .ok (.aload_n 0, 1) := by decide +kernel
theorem dX12_lift_39 : decode cX12_lift 39 = .ok (.getfield 523, 3) := by decide +kernel
theorem dX12_lift_42 : decode cX12_lift 42 = .ok (.iastore, 1) := by decide +kernel
theorem dX12_lift_43 : decode cX12_lift 43 = .ok (.aload_n 0, 1) := by decide +kernel
theorem dX12_lift_44 : decode cX12_lift 44 = .ok (.getfield 128, 3) := by decide +kernel
theorem dX12_lift_47 : decode cX12_lift 47 = .ok (.iload 4, 2) := by decide +kernel
theorem dX12_lift_49 : decode cX12_lift 49 = .ok (.iload_n 3, 1) := by decide +kernel
theorem dX12_lift_50 : decode cX12_lift 50 = .ok (.iastore, 1) := by decide +kernel
theorem dX12_lift_51 : decode cX12_lift 51 = .ok (.aload_n 0, 1) := by decide +kernel
theorem dX12_lift_52 : decode cX12_lift 52 = .ok (.getfield 131, 3) := by decide +kernel
theorem dX12_lift_55 : decode cX12_lift 55 = .ok (.iload 4, 2) := by decide +kernel
theorem dX12_lift_57 : decode cX12_lift 57 = .ok (.iconst 0, 1) := by decide +kernel
theorem dX12_lift_58 : decode cX12_lift 58 = .ok (.iastore, 1) := by decide +kernel
theorem dX12_lift_59 : decode cX12_lift 59 = .ok (.aload_n 0, 1) := by decide +kernel
theorem dX12_lift_60 : decode cX12_lift 60 = .ok (.getfield 134, 3) := by decide +kernel
theorem dX12_lift_63 : decode cX12_lift 63 = .ok (.iload 4, 2) := by decide +kernel
theorem dX12_lift_65 : decode cX12_lift 65 = .ok (.iconst 0, 1) := by decide +kernel
theorem dX12_lift_66 : decode cX12_lift 66 = .ok (.bastore, 1) := by decide +kernel
theorem dX12_lift_67 : decode cX12_lift 67 = .ok (.aload_n 0, 1) := by decide +kernel
theorem dX12_lift_68 : decode cX12_lift 68 = .ok (.dup, 1) := by decide +kernel
theorem dX12_lift_69 : decode cX12_lift 69 = .ok (.getfield 523, 3) := by decide +kernel
theorem dX12_lift_72 : decode cX12_lift 72 = .ok (.iload_n 3, 1) := by decide +kernel
theorem dX12_lift_73 : decode cX12_lift 73 = .ok (.iadd, 1) := by decide +kernel
theorem dX12_lift_74 : decode cX12_lift 74 = .ok (.putfield 523, 3) := by decide +kernel
theorem dX12_lift_77 : decode cX12_lift 77 = .ok (.aload_n 0, 1) := by decide +kernel
theorem dX12_lift_78 : decode cX12_lift 78 = .ok (.dup, 1) := by decide +kernel
theorem dX12_lift_79 : decode cX12_lift 79 = .ok (.getfield 526, 3) := by decide +kernel
theorem dX12_lift_82 : decode cX12_lift 82 = .ok (.iload_n 3, 1) := by decide +kernel
theorem dX12_lift_83 : decode cX12_lift 83 = .ok (.isub, 1) := by decide +kernel
theorem dX12_lift_84 : decode cX12_lift 84 = .ok (.putfield 526, 3) := by decide +kernel
theorem dX12_lift_87 : decode cX12_lift 87 = .ok (.iconst 0, 1) := by decide +kernel
theorem dX12_lift_88 : decode cX12_lift 88 = .ok (.istore 5, 2) := by decide +kernel
theorem dX12_lift_90 : decode cX12_lift 90 = .ok (.iload_n 1, 1) := by decide +kernel
theorem dX12_lift_91 : decode cX12_lift 91 = .ok (.bipush 13, 2) := by decide +kernel
theorem dX12_lift_93 : decode cX12_lift 93 = .ok (.if_icmp .ne 9, 3) := by decide +kernel
theorem dX12_lift_96 : decode cX12_lift 96 = .ok (.lconst 1, 1) := by decide +kernel
theorem dX12_lift_97 : decode cX12_lift 97 = .ok (.iload_n 2, 1) := by decide +kernel
theorem dX12_lift_98 : decode cX12_lift 98 = .ok (.lshl, 1) := by decide +kernel
theorem dX12_lift_99 : decode cX12_lift 99 = .ok (.goto 4, 3) := by decide +kernel
theorem dX12_lift_102 : decode cX12_lift 102 = .ok (.lconst 0, 1) := by decide +kernel
theorem dX12_lift_103 : decode cX12_lift 103 = .ok (.lstore 6, 2) := by decide +kernel
theorem dX12_lift_105 : decode cX12_lift 105 = .ok (.iconst 0, 1) := by decide +kernel
theorem dX12_lift_106 : decode cX12_lift 106 = .ok (.istore 8, 2) := by decide +kernel
theorem dX12_lift_108 : decode cX12_lift 108 = .ok (.iload 8, 2) := by decide +kernel
theorem dX12_lift_110 : decode cX12_lift 110 = .ok (.iload_n 3, 1) := by decide +kernel
theorem dX12_lift_111 : decode cX12_lift 111 = .ok (.if_icmp .ge 78, 3) := by decide +kernel
theorem dX12_lift_114 : decode cX12_lift 114 = .ok (.aload_n 0, 1) := by decide +kernel
theorem dX12_lift_115 : decode cX12_lift 115 = .ok (.getfield 174, 3) := by decide +kernel
theorem dX12_lift_118 : decode cX12_lift 118 = .ok (.aload_n 0, 1) := by decide +kernel
theorem dX12_lift_119 : decode cX12_lift 119 = .ok (.getfield 526, 3) := by decide +kernel
theorem dX12_lift_122 : decode cX12_lift 122 = .ok (.iload 8, 2) := by decide +kernel
theorem dX12_lift_124 : decode cX12_lift 124 = .ok (.iadd, 1) := by decide +kernel
theorem dX12_lift_125 : decode cX12_lift 125 = .ok (.iaload, 1) := by decide +kernel
theorem dX12_lift_126 : decode cX12_lift 126 = .ok (.istore 9, 2) := by decide +kernel
theorem dX12_lift_128 : decode cX12_lift 128 = .ok (.aload_n 0, 1) := by decide +kernel
theorem dX12_lift_129 : decode cX12_lift 129 = .ok (.getfield 147, 3) := by decide +kernel
theorem dX12_lift_132 : decode cX12_lift 132 = .ok (.aload_n 0, 1) := by decide +kernel
theorem dX12_lift_133 : decode cX12_lift 133 = .ok (.getfield 125, 3) := by decide +kernel
theorem dX12_lift_136 : decode cX12_lift 136 = .ok (.iload 4, 2) := by decide +kernel
theorem dX12_lift_138 : decode cX12_lift 138 = .ok (.iaload, 1) := by decide +kernel
theorem dX12_lift_139 : decode cX12_lift 139 = .ok (.iload 8, 2) := by decide +kernel
theorem dX12_lift_141 : decode cX12_lift 141 = .ok (.iadd, 1) := by decide +kernel
theorem dX12_lift_142 : decode cX12_lift 142 = .ok (.iload 9, 2) := by decide +kernel
theorem dX12_lift_144 : decode cX12_lift 144 = .ok (.iastore, 1) := by decide +kernel
theorem dX12_lift_145 : decode cX12_lift 145 = .ok (.aload_n 0, 1) := by decide +kernel
theorem dX12_lift_146 : decode cX12_lift 146 = .ok (.getfield 138, 3) := by decide +kernel
theorem dX12_lift_149 : decode cX12_lift 149 = .ok (.iload 9, 2) := by decide +kernel
theorem dX12_lift_151 : decode cX12_lift 151 = .ok (.iaload, 1) := by decide +kernel
theorem dX12_lift_152 : decode cX12_lift 152 = .ok (.iload 5, 2) := by decide +kernel
theorem dX12_lift_154 : decode cX12_lift 154 = .ok (.if_icmp .le 13, 3) := by decide +kernel
theorem dX12_lift_157 : decode cX12_lift 157 = .ok (.aload_n 0, 1) := by decide +kernel
theorem dX12_lift_158 : decode cX12_lift 158 = .ok (.getfield 138, 3) := by decide +kernel
theorem dX12_lift_161 : decode cX12_lift 161 = .ok (.iload 9, 2) := by decide +kernel
theorem dX12_lift_163 : decode cX12_lift 163 = .ok (.iaload, 1) := by decide +kernel
theorem dX12_lift_164 : decode cX12_lift 164 = .ok (.goto 5, 3) := by decide +kernel
theorem dX12_lift_167 : decode cX12_lift 167 = .ok (.iload 5, 2) := by decide +kernel
theorem dX12_lift_169 : decode cX12_lift 169 = .ok (.istore 5, 2) := by decide +kernel
theorem dX12_lift_171 : decode cX12_lift 171 = .ok (.lload 6, 2) := by decide +kernel
theorem dX12_lift_173 : decode cX12_lift 173 = .ok (.aload_n 0, 1) := by decide +kernel
theorem dX12_lift_174 : decode cX12_lift 174 = .ok (.getfield 144, 3) := by decide +kernel
theorem dX12_lift_177 : decode cX12_lift 177 = .ok (.iload 9, 2) := by decide +kernel
theorem dX12_lift_179 : decode cX12_lift 179 = .ok (.laload, 1) := by decide +kernel
theorem dX12_lift_180 : decode cX12_lift 180 = .ok (.lor, 1) := by decide +kernel
theorem dX12_lift_181 : decode cX12_lift 181 = .ok (.lstore 6, 2) := by decide +kernel
theorem dX12_lift_183 : decode cX12_lift 183 = .ok (.iinc 8 1, 3) := by decide +kernel
theorem dX12_lift_186 : decode cX12_lift 186 = .ok (.goto (-78), 3) := by decide +kernel
theorem dX12_lift_189 : decode cX12_lift 189 = .ok (.aload_n 0, 1) := by decide +kernel
theorem dX12_lift_190 : decode cX12_lift 190 = .ok (.getfield 138, 3) := by decide +kernel
theorem dX12_lift_193 : decode cX12_lift 193 = .ok (.iload 4, 2) := by decide +kernel
theorem dX12_lift_195 : decode cX12_lift 195 = .ok (.iload 5, 2) := by decide +kernel
theorem dX12_lift_197 : decode cX12_lift 197 = .ok (.iconst 1, 1) := by decide +kernel
theorem dX12_lift_198 : decode cX12_lift 198 = .ok (.iadd, 1) := by decide +kernel
theorem dX12_lift_199 : decode cX12_lift 199 = .ok (.iastore, 1) := by decide +kernel
theorem dX12_lift_200 : decode cX12_lift 200 = .ok (.aload_n 0, 1) := by decide +kernel
theorem dX12_lift_201 : decode cX12_lift 201 = .ok (.getfield 144, 3) := by decide +kernel
theorem dX12_lift_204 : decode cX12_lift 204 = .ok (.iload 4, 2) := by decide +kernel
theorem dX12_lift_206 : decode cX12_lift 206 = .ok (.lload 6, 2) := by decide +kernel
theorem dX12_lift_208 : decode cX12_lift 208 = .ok (.lastore, 1) := by decide +kernel
theorem dX12_lift_209 : decode cX12_lift 209 = .ok (.aload_n 0, 1) := by decide +kernel
theorem dX12_lift_210 : decode cX12_lift 210 = .ok (.getfield 174, 3) := by decide +kernel
theorem dX12_lift_213 : decode cX12_lift 213 = .ok (.aload_n 0, 1) := by decide +kernel
theorem dX12_lift_214 : decode cX12_lift 214 = .ok (.getfield 526, 3) := by decide +kernel
theorem dX12_lift_217 : decode cX12_lift 217 = .ok (.iload 4, 2) := by decide +kernel
theorem dX12_lift_219 : decode cX12_lift 219 = .ok (.iastore, 1) := by decide +kernel
theorem dX12_lift_220 : decode cX12_lift 220 = .ok (.aload_n 0, 1) := by decide +kernel
theorem dX12_lift_221 : decode cX12_lift 221 = .ok (.dup, 1) := by decide +kernel
theorem dX12_lift_222 : decode cX12_lift 222 = .ok (.getfield 526, 3) := by decide +kernel
theorem dX12_lift_225 : decode cX12_lift 225 = .ok (.iconst 1, 1) := by decide +kernel
theorem dX12_lift_226 : decode cX12_lift 226 = .ok (.iadd, 1) := by decide +kernel
theorem dX12_lift_227 : decode cX12_lift 227 = .ok (.putfield 526, 3) := by decide +kernel
theorem dX12_lift_230 : decode cX12_lift 230 = .ok (.iload 4, 2) := by decide +kernel
theorem dX12_lift_232 : decode cX12_lift 232 = .ok (.ireturn, 1) := by decide +kernel
theorem dX12_liftAll_0 : decode cX12_liftAll 0 = .ok (.aload_n 0, 1) := by decide +kernel
theorem dX12_liftAll_1 : decode cX12_liftAll 1 = .ok (.iconst 0, 1) := by decide +kernel
theorem dX12_liftAll_2 : decode cX12_liftAll 2 = .ok (.putfield 520, 3) := by decide +kernel
theorem dX12_liftAll_5 : decode cX12_liftAll 5 = .ok (.aload_n 0, 1) := by decide +kernel
theorem dX12_liftAll_6 : decode cX12_liftAll 6 = .ok (.iconst 0, 1) := by decide +kernel
theorem dX12_liftAll_7 : decode cX12_liftAll 7 = .ok (.putfield 523, 3) := by decide +kernel
theorem dX12_liftAll_10 : decode cX12_liftAll 10 = .ok (.aload_n 0, 1) := by decide +kernel
theorem dX12_liftAll_11 : decode cX12_liftAll 11 = .ok (.iconst 0, 1) := by decide +kernel
theorem dX12_liftAll_12 : decode cX12_liftAll 12 = .ok (.putfield 526, 3) := by decide +kernel
theorem dX12_liftAll_15 : decode cX12_liftAll 15 = .ok (.iconst 0, 1) := by decide +kernel
theorem dX12_liftAll_16 : decode cX12_liftAll 16 = .ok (.istore_n 1, 1) := by decide +kernel
theorem dX12_liftAll_17 : decode cX12_liftAll 17 = .ok (.iload_n 1, 1) := by decide +kernel
theorem dX12_liftAll_18 : decode cX12_liftAll 18 = .ok (.aload_n 0, 1) := by decide +kernel
theorem dX12_liftAll_19 : decode cX12_liftAll 19 = .ok (.getfield 486, 3) := by decide +kernel
theorem dX12_liftAll_22 : decode cX12_liftAll 22 = .ok (.if_icmp .ge 245, 3) := by decide +kernel
theorem dX12_liftAll_25 : decode cX12_liftAll 25 = .ok (.aload_n 0, 1) := by decide +kernel
theorem dX12_liftAll_26 : decode cX12_liftAll 26 = .ok (.getfield 56, 3) := by decide +kernel
theorem dX12_liftAll_29 : decode cX12_liftAll 29 = .ok (.iload_n 1, 1) := by decide +kernel
theorem dX12_liftAll_30 : decode cX12_liftAll 30 = .ok (.iaload, 1) := by decide +kernel
theorem dX12_liftAll_31 : decode cX12_liftAll 31 = .ok (.istore_n 2, 1) := by decide +kernel
theorem dX12_liftAll_32 : decode cX12_liftAll 32 = .ok (.aload_n 0, 1) := by decide +kernel
theorem dX12_liftAll_33 : decode cX12_liftAll 33 = .ok (.getfield 162, 3) := by decide +kernel
theorem dX12_liftAll_36 : decode cX12_liftAll 36 = .ok (.iload_n 1, 1) := by decide +kernel
theorem dX12_liftAll_37 : decode cX12_liftAll 37 = .ok (.aload_n 0, 1) := by decide +kernel
theorem dX12_liftAll_38 : decode cX12_liftAll 38 = .ok (.getfield 520, 3) := by decide +kernel
theorem dX12_liftAll_41 : decode cX12_liftAll 41 = .ok (.iastore, 1) := by decide +kernel
theorem dX12_liftAll_42 : decode cX12_liftAll 42 = .ok (.aload_n 0, 1) := by decide +kernel
theorem dX12_liftAll_43 : decode cX12_liftAll 43 = .ok (.getfield 171, 3) := by decide +kernel
theorem dX12_liftAll_46 : decode cX12_liftAll 46 = .ok (.iload_n 1, 1) := by decide +kernel
theorem dX12_liftAll_47 : decode cX12_liftAll 47 = .ok (.aload_n 0, 1) := by decide +kernel
theorem dX12_liftAll_48 : decode cX12_liftAll 48 = .ok (.getfield 83, 3) := by decide +kernel
theorem dX12_liftAll_51 : decode cX12_liftAll 51 = .ok (.iload_n 1, 1) := by decide +kernel
theorem dX12_liftAll_52 : decode cX12_liftAll 52 = .ok (.iaload, 1) := by decide +kernel
theorem dX12_liftAll_53 : decode cX12_liftAll 53 = .ok (.aload_n 0, 1) := by decide +kernel
theorem dX12_liftAll_54 : decode cX12_liftAll 54 = .ok (.getfield 44, 3) := by decide +kernel
theorem dX12_liftAll_57 : decode cX12_liftAll 57 = .ok (.iload_n 2, 1) := by decide +kernel
theorem dX12_liftAll_58 : decode cX12_liftAll 58 = .ok (.iaload, 1) := by decide +kernel
theorem dX12_liftAll_59 : decode cX12_liftAll 59 = .ok (.iadd, 1) := by decide +kernel
theorem dX12_liftAll_60 : decode cX12_liftAll 60 = .ok (.iastore, 1) := by decide +kernel
theorem dX12_liftAll_61 : decode cX12_liftAll 61 = .ok (.aload_n 0, 1) := by decide +kernel
theorem dX12_liftAll_62 : decode cX12_liftAll 62 = .ok (.getfield 168, 3) := by decide +kernel
theorem dX12_liftAll_65 : decode cX12_liftAll 65 = .ok (.iload_n 1, 1) := by decide +kernel
theorem dX12_liftAll_66 : decode cX12_liftAll 66 = .ok (.aload_n 0, 1) := by decide +kernel
theorem dX12_liftAll_67 : decode cX12_liftAll 67 = .ok (.getfield 83, 3) := by decide +kernel
theorem dX12_liftAll_70 : decode cX12_liftAll 70 = .ok (.iload_n 1, 1) := by decide +kernel
theorem dX12_liftAll_71 : decode cX12_liftAll 71 = .ok (.iaload, 1) := by decide +kernel
theorem dX12_liftAll_72 : decode cX12_liftAll 72 = .ok (.aload_n 0, 1) := by decide +kernel
theorem dX12_liftAll_73 : decode cX12_liftAll 73 = .ok (.getfield 95, 3) := by decide +kernel
theorem dX12_liftAll_76 : decode cX12_liftAll 76 = .ok (.iload_n 1, 1) := by decide +kernel
theorem dX12_liftAll_77 : decode cX12_liftAll 77 = .ok (.iaload, 1) := by decide +kernel
theorem dX12_liftAll_78 : decode cX12_liftAll 78 = .ok (.iadd, 1) := by decide +kernel
theorem dX12_liftAll_79 : decode cX12_liftAll 79 = .ok (.iastore, 1) := by decide +kernel
theorem dX12_liftAll_80 : decode cX12_liftAll 80 = .ok (.iconst 1, 1) := by decide +kernel
theorem dX12_liftAll_81 : decode cX12_liftAll 81 = .ok (.istore_n 3, 1) := by decide +kernel
theorem dX12_liftAll_82 : decode cX12_liftAll 82 = .ok (.aload_n 0, 1) := by decide +kernel
theorem dX12_liftAll_83 : decode cX12_liftAll 83 = .ok (.iconst 0, 1) := by decide +kernel
theorem dX12_liftAll_84 : decode cX12_liftAll 84 = .ok (.iload_n 2, 1) := by decide +kernel
theorem dX12_liftAll_85 : decode cX12_liftAll 85 = .ok (.invokevirtual 505, 3) := by decide +kernel
theorem dX12_liftAll_88 : decode cX12_liftAll 88 = .ok (.iload_n 3, 1) := by decide +kernel
theorem dX12_liftAll_89 : decode cX12_liftAll 89 = .ok (.ifCond .le 76, 3) := by decide +kernel
theorem dX12_liftAll_92 : decode cX12_liftAll 92 = .ok (.aload_n 0, 1) := by decide +kernel
theorem dX12_liftAll_93 : decode cX12_liftAll 93 = .ok (.iload_n 3, 1) := by decide +kernel
theorem dX12_liftAll_94 : decode cX12_liftAll 94 = .ok (.iconst 1, 1) := by decide +kernel
theorem dX12_liftAll_95 : decode cX12_liftAll 95 = .ok (.isub, 1) := by decide +kernel
theorem dX12_liftAll_96 : decode cX12_liftAll 96 = .ok (.invokevirtual 511, 3) := by decide +kernel
theorem dX12_liftAll_99 : decode cX12_liftAll 99 = .ok (.istore 4, 2) := by decide +kernel
theorem dX12_liftAll_101 : decode cX12_liftAll 101 = .ok (.iload 4, 2) := by decide +kernel
theorem dX12_liftAll_103 : decode cX12_liftAll 103 = .ok (.ifCond .ge 24, 3) := by decide +kernel
theorem dX12_liftAll_106 : decode cX12_liftAll 106 = .ok (.iinc 3 (-1), 3) := by decide +kernel
theorem dX12_liftAll_109 : decode cX12_liftAll 109 = .ok (.iload_n 3, 1) := by decide +kernel
theorem dX12_liftAll_110 : decode cX12_liftAll 110 = .ok (.ifCond .le 52, 3) := by decide +kernel
theorem dX12_liftAll_113 : decode cX12_liftAll 113 = .ok (.aload_n 0, 1) := by decide +kernel
theorem dX12_liftAll_114 : decode cX12_liftAll 114 = .ok (.iload_n 1, 1) := by decide +kernel
theorem dX12_liftAll_115 : decode cX12_liftAll 115 = .ok (.aload_n 0, 1) := by decide +kernel
theorem dX12_liftAll_116 : decode cX12_liftAll 116 = .ok (.getfield 110, 3) := by decide +kernel
theorem dX12_liftAll_119 : decode cX12_liftAll 119 = .ok (.iload_n 3, 1) := by decide +kernel
theorem dX12_liftAll_120 : decode cX12_liftAll 120 = .ok (.iaload, 1) := by decide +kernel
theorem dX12_liftAll_121 : decode cX12_liftAll 121 = .ok (.invokevirtual 548, 3) := by decide +kernel
theorem dX12_liftAll_124 : decode cX12_liftAll 124 = .ok (.goto 38, 3) := by decide +kernel
theorem dX12_liftAll_127 : decode cX12_liftAll 127 = .ok (.aload_n 0, 1) := by decide +kernel
theorem dX12_liftAll_128 : decode cX12_liftAll 128 = .ok (.getfield 80, 3) := by decide +kernel
theorem dX12_liftAll_131 : decode cX12_liftAll 131 = .ok (.iload 4, 2) := by decide +kernel
theorem dX12_liftAll_133 : decode cX12_liftAll 133 = .ok (.iaload, 1) := by decide +kernel
theorem dX12_liftAll_134 : decode cX12_liftAll 134 = .ok (.ifCond .lt 18, 3) := by decide +kernel
theorem dX12_liftAll_137 : decode cX12_liftAll 137 = .ok (.aload_n 0, 1) := by decide +kernel
theorem dX12_liftAll_138 : decode cX12_liftAll 138 = .ok (.iload_n 1, 1) := by decide +kernel
theorem dX12_liftAll_139 : decode cX12_liftAll 139 = .ok (.aload_n 0, 1) := by decide +kernel
theorem dX12_liftAll_140 : decode cX12_liftAll 140 = .ok (.getfield 80, 3) := by decide +kernel
theorem dX12_liftAll_143 : decode cX12_liftAll 143 = .ok (.iload 4, 2) := by decide +kernel
theorem dX12_liftAll_145 : decode cX12_liftAll 145 = .ok (.iaload, 1) := by decide +kernel
theorem dX12_liftAll_146 : decode cX12_liftAll 146 = .ok (.invokevirtual 551, 3) := by decide +kernel
theorem dX12_liftAll_149 : decode cX12_liftAll 149 = .ok (.goto 13, 3) := by decide +kernel
theorem dX12_liftAll_152 : decode cX12_liftAll 152 = .ok (.aload_n 0, 1) := by decide +kernel
theorem dX12_liftAll_153 : decode cX12_liftAll 153 = .ok (.iload_n 3, 1) := by decide +kernel
theorem dX12_liftAll_154 : decode cX12_liftAll 154 = .ok (.iload 4, 2) := by decide +kernel
theorem dX12_liftAll_156 : decode cX12_liftAll 156 = .ok (.invokevirtual 505, 3) := by decide +kernel
theorem dX12_liftAll_159 : decode cX12_liftAll 159 = .ok (.iinc 3 1, 3) := by decide +kernel
theorem dX12_liftAll_162 : decode cX12_liftAll 162 = .ok (.goto (-74), 3) := by decide +kernel
theorem dX12_liftAll_165 : decode cX12_liftAll 165 = .ok (.aload_n 0, 1) := by decide +kernel
theorem dX12_liftAll_166 : decode cX12_liftAll 166 = .ok (.dup, 1) := by decide +kernel
theorem dX12_liftAll_167 : decode cX12_liftAll 167 = .ok (.getfield 526, 3) := by decide +kernel
theorem dX12_liftAll_170 : decode cX12_liftAll 170 = .ok (.iconst 1, 1) := by decide +kernel
theorem dX12_liftAll_171 : decode cX12_liftAll 171 = .ok (.isub, 1) := by decide +kernel
theorem dX12_liftAll_172 : decode cX12_liftAll 172 = .ok (.putfield 526, 3) := by decide +kernel
theorem dX12_liftAll_175 : decode cX12_liftAll 175 = .ok (.aload_n 0, 1) := by decide +kernel
theorem dX12_liftAll_176 : decode cX12_liftAll 176 = .ok (.getfield 165, 3) := by decide +kernel
theorem dX12_liftAll_179 : decode cX12_liftAll 179 = .ok (.iload_n 1, 1) := by decide +kernel
theorem dX12_liftAll_180 : decode cX12_liftAll 180 = .ok (.aload_n 0, 1) := by decide +kernel
theorem dX12_liftAll_181 : decode cX12_liftAll 181 = .ok (.getfield 174, 3) := by decide +kernel
theorem dX12_liftAll_184 : decode cX12_liftAll 184 = .ok (.aload_n 0, 1) := by decide +kernel
theorem dX12_liftAll_185 : decode cX12_liftAll 185 = .ok (.getfield 526, 3) := by decide +kernel
theorem dX12_liftAll_188 : decode cX12_liftAll 188 = .ok (.iaload, 1) := by decide +kernel
theorem dX12_liftAll_189 : decode cX12_liftAll 189 = .ok (.iastore, 1) := by decide +kernel
theorem dX12_liftAll_190 : decode cX12_liftAll 190 = .ok (.aload_n 0, 1) := by decide +kernel
theorem dX12_liftAll_191 : decode cX12_liftAll 191 = .ok (.getfield 162, 3) := by decide +kernel
theorem dX12_liftAll_194 : decode cX12_liftAll 194 = .ok (.iload_n 1, 1) := by decide +kernel
theorem dX12_liftAll_195 : decode cX12_liftAll 195 = .ok (.iaload, 1) := by decide +kernel
theorem dX12_liftAll_196 : decode cX12_liftAll 196 = .ok (.istore 4, 2) := by decide +kernel
theorem dX12_liftAll_198 : decode cX12_liftAll 198 = .ok (.iload 4, 2) := by decide +kernel
theorem dX12_liftAll_200 : decode cX12_liftAll 200 = .ok (.aload_n 0, 1) := by decide +kernel
theorem dX12_liftAll_201 : decode cX12_liftAll 201 = .ok (.getfield 520, 3) := by decide +kernel
theorem dX12_liftAll_204 : decode cX12_liftAll 204 = .ok (.if_icmp .ge 17, 3) := by decide +kernel
theorem dX12_liftAll_207 : decode cX12_liftAll 207 = .ok (.aload_n 0, 1) := by decide +kernel
theorem dX12_liftAll_208 : decode cX12_liftAll 208 = .ok (.getfield 141, 3) := by decide +kernel
theorem dX12_liftAll_211 : decode cX12_liftAll 211 = .ok (.iload 4, 2) := by decide +kernel
theorem dX12_liftAll_213 : decode cX12_liftAll 213 = .ok (.iload_n 1, 1) := by decide +kernel
theorem dX12_liftAll_214 : decode cX12_liftAll 214 = .ok (.iastore, 1) := by decide +kernel
theorem dX12_liftAll_215 : decode cX12_liftAll 215 = .ok (.iinc 4 1, 3) := by decide +kernel
theorem dX12_liftAll_218 : decode cX12_liftAll 218 = .ok (.goto (-20), 3) := by decide +kernel
theorem dX12_liftAll_221 : decode cX12_liftAll 221 = .ok (.aload_n 0, 1) := by decide +kernel
theorem dX12_liftAll_222 : decode cX12_liftAll 222 = .ok (.getfield 138, 3) := by decide +kernel
theorem dX12_liftAll_225 : decode cX12_liftAll 225 = .ok (.aload_n 0, 1) := by decide +kernel
theorem dX12_liftAll_226 : decode cX12_liftAll 226 = .ok (.getfield 165, 3) := by decide +kernel
theorem dX12_liftAll_229 : decode cX12_liftAll 229 = .ok (.iload_n 1, 1) := by decide +kernel
theorem dX12_liftAll_230 : decode cX12_liftAll 230 = .ok (.iaload, 1) := by decide +kernel
theorem dX12_liftAll_231 : decode cX12_liftAll 231 = .ok (.iaload, 1) := by decide +kernel
theorem dX12_liftAll_232 : decode cX12_liftAll 232 = .ok (.bipush 40, 2) := by decide +kernel
theorem dX12_liftAll_234 : decode cX12_liftAll 234 = .ok (.if_icmp .gt 14, 3) := by decide +kernel
theorem dX12_liftAll_237 : decode cX12_liftAll 237 = .ok (.aload_n 0, 1) := by decide +kernel
theorem dX12_liftAll_238 : decode cX12_liftAll 238 = .ok (.getfield 168, 3) := by decide +kernel
theorem dX12_liftAll_241 : decode cX12_liftAll 241 = .ok (.iload_n 1, 1) := by decide +kernel
theorem dX12_liftAll_242 : decode cX12_liftAll 242 = .ok (.iaload, 1) := by decide +kernel
theorem dX12_liftAll_243 : decode cX12_liftAll 243 = .ok (.bipush 40, 2) := by decide +kernel
theorem dX12_liftAll_245 : decode cX12_liftAll 245 = .ok (.if_icmp .le 16, 3) := by decide +kernel
theorem dX12_liftAll_248 : decode cX12_liftAll 248 = .ok (.aload_n 0, 1) := by decide +kernel
theorem dX12_liftAll_249 : decode cX12_liftAll 249 = .ok (.bipush 8, 2) := by decide +kernel
theorem dX12_liftAll_251 : decode cX12_liftAll 251 = .ok (.aload_n 0, 1) := by decide +kernel
theorem dX12_liftAll_252 : decode cX12_liftAll 252 = .ok (.getfield 53, 3) := by decide +kernel
theorem dX12_liftAll_255 : decode cX12_liftAll 255 = .ok (.iload_n 1, 1) := by decide +kernel
theorem dX12_liftAll_256 : decode cX12_liftAll 256 = .ok (.iaload, 1) := by decide +kernel
theorem dX12_liftAll_257 : decode cX12_liftAll 257 = .ok (.invokevirtual 317, 3) := by decide +kernel
theorem dX12_liftAll_260 : decode cX12_liftAll 260 = .ok (.return_, 1) := by decide +kernel
theorem dX12_liftAll_261 : decode cX12_liftAll 261 = .ok (.iinc 1 1, 3) := by decide +kernel
theorem dX12_liftAll_264 : decode cX12_liftAll 264 = .ok (.goto (-247), 3) := by decide +kernel
theorem dX12_liftAll_267 : decode cX12_liftAll 267 = .ok (.return_, 1) := by decide +kernel
theorem dX12_liftFunction_0 : decode cX12_liftFunction 0 = .ok (.aload_n 0, 1) := by decide +kernel
theorem dX12_liftFunction_1 : decode cX12_liftFunction 1 = .ok (.bipush 12, 2) := by decide +kernel
theorem dX12_liftFunction_3 : decode cX12_liftFunction 3 = .ok (.iload_n 2, 1) := by decide +kernel
theorem dX12_liftFunction_4 : decode cX12_liftFunction 4 = .ok (.iconst 0, 1) := by decide +kernel
theorem dX12_liftFunction_5 : decode cX12_liftFunction 5 = .ok (.invokevirtual 529, 3) := by decide +kernel
theorem dX12_liftFunction_8 : decode cX12_liftFunction 8 = .ok (.pop, 1) := by decide +kernel
theorem dX12_liftFunction_9 : decode cX12_liftFunction 9 = .ok (.iconst 0, 1) := by decide +kernel
theorem dX12_liftFunction_10 : decode cX12_liftFunction 10 = .ok (.istore_n 3, 1) := by decide +kernel
theorem dX12_liftFunction_11 : decode cX12_liftFunction 11 = .ok (.iload_n 3, 1) := by decide +kernel
theorem dX12_liftFunction_12 : decode cX12_liftFunction 12 = .ok (.aload_n 0, 1) := by decide +kernel
theorem dX12_liftFunction_13 : decode cX12_liftFunction 13 = .ok (.getfield 83, 3) := by decide +kernel
theorem dX12_liftFunction_16 : decode cX12_liftFunction 16 = .ok (.iload_n 2, 1) := by decide +kernel
theorem dX12_liftFunction_17 : decode cX12_liftFunction 17 = .ok (.iaload, 1) := by decide +kernel
theorem dX12_liftFunction_18 : decode cX12_liftFunction 18 = .ok (.if_icmp .ge 33, 3) := by decide +kernel
theorem dX12_liftFunction_21 : decode cX12_liftFunction 21 = .ok (.aload_n 0, 1) := by decide +kernel
theorem dX12_liftFunction_22 : decode cX12_liftFunction 22 = .ok (.bipush 13, 2) := by decide +kernel
theorem dX12_liftFunction_24 : decode cX12_liftFunction 24 = .ok (.aload_n 0, 1) := by decide +kernel
theorem dX12_liftFunction_25 : decode cX12_liftFunction 25 = .ok (.iload_n 1, 1) := by decide +kernel
theorem dX12_liftFunction_26 : decode cX12_liftFunction 26 = .ok (.aload_n 0, 1) := by decide +kernel
theorem dX12_liftFunction_27 : decode cX12_liftFunction 27 = .ok (.getfield 86, 3) := by decide +kernel
theorem dX12_liftFunction_30 : decode cX12_liftFunction 30 = .ok (.bipush 9, 2) := by decide +kernel
theorem dX12_liftFunction_32 : decode cX12_liftFunction 32 = .ok (.iload_n 2, 1) := by decide +kernel
theorem dX12_liftFunction_33 : decode cX12_liftFunction 33 = .ok (.imul, 1) := by decide +kernel
theorem dX12_liftFunction_34 : decode cX12_liftFunction 34 = .ok (.iload_n 3, 1) := by decide +kernel
theorem dX12_liftFunction_35 : decode cX12_liftFunction 35 = .ok (.iadd, 1) := by decide +kernel
theorem dX12_liftFunction_36 : decode cX12_liftFunction 36 = .ok (.iaload, 1) := by decide +kernel
theorem dX12_liftFunction_37 : decode cX12_liftFunction 37 = .ok (.invokevirtual 532, 3) := by decide +kernel
theorem dX12_liftFunction_40 : decode cX12_liftFunction 40 = .ok (.iconst 0, 1) := by decide +kernel
theorem dX12_liftFunction_41 : decode cX12_liftFunction 41 = .ok (.invokevirtual 529, 3) := by decide +kernel
theorem dX12_liftFunction_44 : decode cX12_liftFunction 44 = .ok (.pop, 1) := by decide +kernel
theorem dX12_liftFunction_45 : decode cX12_liftFunction 45 = .ok (.iinc 3 1, 3) := by decide +kernel
theorem dX12_liftFunction_48 : decode cX12_liftFunction 48 = .ok (.goto (-37), 3) := by decide +kernel
theorem dX12_liftFunction_51 : decode cX12_liftFunction 51 = .ok (.aload_n 0, 1) := by decide +kernel
theorem dX12_liftFunction_52 : decode cX12_liftFunction 52 = .ok (.getfield 83, 3) := by decide +kernel
theorem dX12_liftFunction_55 : decode cX12_liftFunction 55 = .ok (.iload_n 2, 1) := by decide +kernel
theorem dX12_liftFunction_56 : decode cX12_liftFunction 56 = .ok (.iaload, 1) := by decide +kernel
theorem dX12_liftFunction_57 : decode cX12_liftFunction 57 = .ok (.ifCond .le 19, 3) := by decide +kernel
theorem dX12_liftFunction_60 : decode cX12_liftFunction 60 = .ok (.aload_n 0, 1) := by decide +kernel
theorem dX12_liftFunction_61 : decode cX12_liftFunction 61 = .ok (.bipush 6, 2) := by decide +kernel
theorem dX12_liftFunction_63 : decode cX12_liftFunction 63 = .ok (.iconst 0, 1) := by decide +kernel
theorem dX12_liftFunction_64 : decode cX12_liftFunction 64 = .ok (.iconst 1, 1) := by decide +kernel
theorem dX12_liftFunction_65 : decode cX12_liftFunction 65 = .ok (.aload_n 0, 1) := by decide +kernel
theorem dX12_liftFunction_66 : decode cX12_liftFunction 66 = .ok (.getfield 83, 3) := by decide +kernel
theorem dX12_liftFunction_69 : decode cX12_liftFunction 69 = .ok (.iload_n 2, 1) := by decide +kernel
theorem dX12_liftFunction_70 : decode cX12_liftFunction 70 = .ok (.iaload, 1) := by decide +kernel
theorem dX12_liftFunction_71 : decode cX12_liftFunction 71 = .ok (.iadd, 1) := by decide +kernel
theorem dX12_liftFunction_72 : decode cX12_liftFunction 72 = .ok (.invokevirtual 529, 3) := by decide +kernel
theorem dX12_liftFunction_75 : decode cX12_liftFunction 75 = .ok (.pop, 1) := by decide +kernel
theorem dX12_liftFunction_76 : decode cX12_liftFunction 76 = .ok (.return_, 1) := by decide +kernel
theorem dX12_local_0 : decode cX12_local 0 = .ok (.aload_n 0, 1) := by decide +kernel
theorem dX12_local_1 : decode cX12_local 1 = .ok (.getfield 89, 3) := by decide +kernel
theorem dX12_local_4 : decode cX12_local 4 = .ok (.iload_n 2, 1) := by decide +kernel
theorem dX12_local_5 : decode cX12_local 5 = .ok (.iaload, 1) := by decide +kernel
theorem dX12_local_6 : decode cX12_local 6 = .ok (.iload_n 1, 1) := by decide +kernel
theorem dX12_local_7 : decode cX12_local 7 = .ok (.if_icmp .ne 17, 3) := by decide +kernel
theorem dX12_local_10 : decode cX12_local 10 = .ok (.aload_n 0, 1) := by decide +kernel
theorem dX12_local_11 : decode cX12_local 11 = .ok (.getfield 83, 3) := by decide +kernel
theorem dX12_local_14 : decode cX12_local 14 = .ok (.iload_n 1, 1) := by decide +kernel
theorem dX12_local_15 : decode cX12_local 15 = .ok (.iaload, 1) := by decide +kernel
theorem dX12_local_16 : decode cX12_local 16 = .ok (.aload_n 0, 1) := by decide +kernel
theorem dX12_local_17 : decode cX12_local 17 = .ok (.getfield 92, 3) := by decide +kernel
theorem dX12_local_20 : decode cX12_local 20 = .ok (.iload_n 2, 1) := by decide +kernel
theorem dX12_local_21 : decode cX12_local 21 = .ok (.iaload, 1) := by decide +kernel
theorem dX12_local_22 : decode cX12_local 22 = .ok (.iadd, 1) := by decide +kernel
theorem dX12_local_23 : decode cX12_local 23 = .ok (.ireturn, 1) := by decide +kernel
theorem dX12_local_24 : decode cX12_local 24 = .ok (.iconst 0, 1) := by decide +kernel
theorem dX12_local_25 : decode cX12_local 25 = .ok (.istore_n 3, 1) := by decide +kernel
theorem dX12_local_26 : decode cX12_local 26 = .ok (.aload_n 0, 1) := by decide +kernel
theorem dX12_local_27 : decode cX12_local 27 = .ok (.getfield 86, 3) := by decide +kernel
theorem dX12_local_30 : decode cX12_local 30 = .ok (.bipush 9, 2) := by decide +kernel
theorem dX12_local_32 : decode cX12_local 32 = .ok (.iload_n 1, 1) := by decide +kernel
theorem dX12_local_33 : decode cX12_local 33 = .ok (.imul, 1) := by decide +kernel
theorem dX12_local_34 : decode cX12_local 34 = .ok (.iload_n 3, 1) := by decide +kernel
theorem dX12_local_35 : decode cX12_local 35 = .ok (.iadd, 1) := by decide +kernel
theorem dX12_local_36 : decode cX12_local 36 = .ok (.iaload, 1) := by decide +kernel
theorem dX12_local_37 : decode cX12_local 37 = .ok (.iload_n 2, 1) := by decide +kernel
theorem dX12_local_38 : decode cX12_local 38 = .ok (.if_icmp .eq 9, 3) := by decide +kernel
theorem dX12_local_41 : decode cX12_local 41 = .ok (.iinc 3 1, 3) := by decide +kernel
theorem dX12_local_44 : decode cX12_local 44 = .ok (.goto (-18), 3) := by decide +kernel
theorem dX12_local_47 : decode cX12_local 47 = .ok (.iload_n 3, 1) := by decide +kernel
theorem dX12_local_48 : decode cX12_local 48 = .ok (.ireturn, 1) := by decide +kernel
theorem dX12_mainFunction_0 : decode cX12_mainFunction 0 = .ok (.iconst (-1), 1) := by decide +kernel
theorem dX12_mainFunction_1 : decode cX12_mainFunction 1 = .ok (.istore_n 1, 1) := by decide +kernel
theorem dX12_mainFunction_2 : decode cX12_mainFunction 2 = .ok (.iconst 0, 1) := by decide +kernel
theorem dX12_mainFunction_3 : decode cX12_mainFunction 3 = .ok (.istore_n 2, 1) := by decide +kernel
theorem dX12_mainFunction_4 : decode cX12_mainFunction 4 = .ok (.iload_n 2, 1) := by decide +kernel
theorem dX12_mainFunction_5 : decode cX12_mainFunction 5 = .ok (.aload_n 0, 1) := by decide +kernel
theorem dX12_mainFunction_6 : decode cX12_mainFunction 6 = .ok (.getfield 462, 3) := by decide +kernel
theorem dX12_mainFunction_9 : decode cX12_mainFunction 9 = .ok (.if_icmp .ge 37, 3) := by decide +kernel
theorem dX12_mainFunction_12 : decode cX12_mainFunction 12 = .ok (.aload_n 0, 1) := by decide +kernel
theorem dX12_mainFunction_13 : decode cX12_mainFunction 13 = .ok (.getfield 50, 3) := by decide +kernel
theorem dX12_mainFunction_16 : decode cX12_mainFunction 16 = .ok (.iload_n 2, 1) := by decide +kernel
theorem dX12_mainFunction_17 : decode cX12_mainFunction 17 = .ok (.laload, 1) := by decide +kernel
theorem dX12_mainFunction_18 : decode cX12_mainFunction 18 = .ok (.bipush 109, 2) := by decide +kernel
theorem dX12_mainFunction_20 : decode cX12_mainFunction 20 = .ok (.bipush 97, 2) := by decide +kernel
theorem dX12_mainFunction_22 : decode cX12_mainFunction 22 = .ok (.bipush 105, 2) := by decide +kernel
theorem dX12_mainFunction_24 : decode cX12_mainFunction 24 = .ok (.bipush 110, 2) := by decide +kernel
theorem dX12_mainFunction_26 : decode cX12_mainFunction 26 = .ok (.iconst 0, 1) := by decide +kernel
theorem dX12_mainFunction_27 : decode cX12_mainFunction 27 = .ok (.invokestatic 257, 3) := by decide +kernel
theorem dX12_mainFunction_30 : decode cX12_mainFunction 30 = .ok (.lcmp, 1) := by decide +kernel
theorem dX12_mainFunction_31 : decode cX12_mainFunction 31 = .ok (.ifCond .ne 7, 3) := by decide +kernel
theorem dX12_mainFunction_34 : decode cX12_mainFunction 34 = .ok (.iload_n 2, 1) := by decide +kernel
theorem dX12_mainFunction_35 : decode cX12_mainFunction 35 = .ok (.goto 4, 3) := by decide +kernel
theorem dX12_mainFunction_38 : decode cX12_mainFunction 38 = .ok (.iload_n 1, 1) := by decide +kernel
theorem dX12_mainFunction_39 : decode cX12_mainFunction 39 = .ok (.istore_n 1, 1) := by decide +kernel
theorem dX12_mainFunction_40 : decode cX12_mainFunction 40 = .ok (.iinc 2 1, 3) := by decide +kernel
theorem dX12_mainFunction_43 : decode cX12_mainFunction 43 = .ok (.goto (-39), 3) := by decide +kernel
theorem dX12_mainFunction_46 : decode cX12_mainFunction 46 = .ok (.iload_n 1, 1) := by decide +kernel
theorem dX12_mainFunction_47 : decode cX12_mainFunction 47 = .ok (.ireturn, 1) := by decide +kernel
theorem dX12_rowCount_0 : decode cX12_rowCount 0 = .ok (.iconst 0, 1) := by decide +kernel
theorem dX12_rowCount_1 : decode cX12_rowCount 1 = .ok (.istore_n 2, 1) := by decide +kernel
theorem dX12_rowCount_2 : decode cX12_rowCount 2 = .ok (.aload_n 0, 1) := by decide +kernel
theorem dX12_rowCount_3 : decode cX12_rowCount 3 = .ok (.getfield 19, 3) := by decide +kernel
theorem dX12_rowCount_6 : decode cX12_rowCount 6 = .ok (.iload_n 1, 1) := by decide +kernel
theorem dX12_rowCount_7 : decode cX12_rowCount 7 = .ok (.iaload, 1) := by decide +kernel
theorem dX12_rowCount_8 : decode cX12_rowCount 8 = .ok (.istore_n 3, 1) := by decide +kernel
theorem dX12_rowCount_9 : decode cX12_rowCount 9 = .ok (.iload_n 3, 1) := by decide +kernel
theorem dX12_rowCount_10 : decode cX12_rowCount 10 = .ok (.ifCond .lt 16, 3) := by decide +kernel
theorem dX12_rowCount_13 : decode cX12_rowCount 13 = .ok (.iinc 2 1, 3) := by decide +kernel
theorem dX12_rowCount_16 : decode cX12_rowCount 16 = .ok (.aload_n 0, 1) := by decide +kernel
theorem dX12_rowCount_17 : decode cX12_rowCount 17 = .ok (.getfield 25, 3) := by decide +kernel
theorem dX12_rowCount_20 : decode cX12_rowCount 20 = .ok (.iload_n 3, 1) := by decide +kernel
theorem dX12_rowCount_21 : decode cX12_rowCount 21 = .ok (.iaload, 1) := by decide +kernel
theorem dX12_rowCount_22 : decode cX12_rowCount 22 = .ok (.istore_n 3, 1) := by decide +kernel
theorem dX12_rowCount_23 : decode cX12_rowCount 23 = .ok (.goto (-14), 3) := by decide +kernel
theorem dX12_rowCount_26 : decode cX12_rowCount 26 = .ok (.iload_n 2, 1) := by decide +kernel
theorem dX12_rowCount_27 : decode cX12_rowCount 27 = .ok (.ireturn, 1) := by decide +kernel
theorem dX12_table_0 : decode cX12_table 0 = .ok (.aload_n 0, 1) := by decide +kernel
theorem dX12_table_1 : decode cX12_table 1 = .ok (.getfield 178, 3) := by decide +kernel
theorem dX12_table_4 : decode cX12_table 4 = .ok (.sipush 256, 3) := by decide +kernel
theorem dX12_table_7 : decode cX12_table 7 = .ok (.iload_n 1, 1) := by decide +kernel
theorem dX12_table_8 : decode cX12_table 8 = .ok (.imul, 1) := by decide +kernel
theorem dX12_table_9 : decode cX12_table 9 = .ok (.iload_n 2, 1) := by decide +kernel
theorem dX12_table_10 : decode cX12_table 10 = .ok (.iadd, 1) := by decide +kernel
theorem dX12_table_11 : decode cX12_table 11 = .ok (.baload, 1) := by decide +kernel
theorem dX12_table_12 : decode cX12_table 12 = .ok (.ireturn, 1) := by decide +kernel
theorem cw_X12_beginAt : CWV yX12_beginAt cX12_beginAt 3 none RX12 2 := ⟨mG_2668, mG_2667, mG_150, mG_226, by decide +kernel⟩
theorem cw_X12_bits : CWS yX12_bits cX12_bits 2 (some .long) RX12 2 := ⟨mG_2734, mG_2733, mG_226, by decide +kernel⟩
theorem cw_X12_child : CWV yX12_child cX12_child 3 (some .int) RX12 2 := ⟨mG_2739, mG_2738, mG_166, mG_226, by decide +kernel⟩
theorem cw_X12_closePart : CWV yX12_closePart cX12_closePart 8 none RX12 2 := ⟨mG_2719, mG_2718, mG_162, mG_226, by decide +kernel⟩
theorem cw_X12_comeInto : CWV yX12_comeInto cX12_comeInto 3 none RX12 1 := ⟨mG_2675, mG_2674, mG_151, mG_226, by decide +kernel⟩
theorem cw_X12_goOutOf : CWV yX12_goOutOf cX12_goOutOf 3 none RX12 1 := ⟨mG_2703, mG_2702, mG_158, mG_226, by decide +kernel⟩
theorem cw_X12_lift : CWV yX12_lift cX12_lift 10 (some .int) RX12 3 := ⟨mG_2727, mG_2726, mG_164, mG_226, by decide +kernel⟩
theorem cw_X12_liftFunction : CWV yX12_liftFunction cX12_liftFunction 4 none RX12 2 := ⟨mG_2743, mG_2742, mG_167, mG_226, by decide +kernel⟩
theorem cw_X12_local : CWV yX12_local cX12_local 4 (some .int) RX12 2 := ⟨mG_2731, mG_2730, mG_165, mG_226, by decide +kernel⟩
theorem cw_X12_mainFunction : CWV yX12_mainFunction cX12_mainFunction 3 (some .int) RX12 0 := ⟨mG_2711, mG_2710, mG_160, mG_226, by decide +kernel⟩
theorem cw_X12_nextChild : CWV yX12_nextChild cX12_nextChild 7 (some .int) RX12 1 := ⟨mG_2695, mG_2694, mG_156, mG_226, by decide +kernel⟩
theorem cw_X12_rowCount : CWV yX12_rowCount cX12_rowCount 4 (some .int) RX12 1 := ⟨mG_2723, mG_2722, mG_163, mG_226, by decide +kernel⟩
theorem cw_X12_table : CWV yX12_table cX12_table 3 (some .boolean) RX12 2 := ⟨mG_2759, mG_2758, mG_171, mG_226, by decide +kernel⟩
section MX12_find
variable {p : Program} {l : Launch} {e : Env} {R : Room} {s : State} {m : MethodId} {args : Array Value} {below : List Frame} {meth : Method} {c : Code} {dC : Nat → ClassId} {dI : Nat → Nat → Nat} {Z : ZZ} {A : Nat → Prop} {ad : Nat → Nat} {kc : Nat → ClassId} {r : Unit} {τ : S5}
set_option maxHeartbeats 4000000 in
set_option maxRecDepth 100000 in
theorem w_X12_find_b101 {σ : S5} {rec12 : Int32 → S5 → Option (Unit × S5)} {rec55 : Int32 → Int32 → S5 → Option (Unit × S5)} {v1 : Int32} {v2 : Int32} {H : Heap} {locs : List Loc} {ls : Array Slot} (S : CallFix p m c cX12_find 4 s args uG RX12) (hr : meth.sig.returnType = none) (hk : meth.locks = false) (hR : 3 ≤ R.frames ∧ 70 ≤ R.locals)
    (hrec12 : ∀ (v1 : Int32) (σ : S5) (H : Heap) (locs : List Loc) (ls : Array Slot), gX (dC, dI) (tM kc) (wM ad kc) Z A s σ H locs → lv_has ls 4 [(0, .ref (ad 0)), (1, .int v1)] → rec12 v1 σ = some (r, τ) → W p l e R s m args below meth c H locs 0 0 (MQ below (gQv (dC, dI) (tM kc) (wM ad kc) A r τ) args s 0 0 A) (F0 m 12 ls []))
    (hrec55 : ∀ (v1 : Int32) (v2 : Int32) (σ : S5) (H : Heap) (locs : List Loc) (ls : Array Slot), gX (dC, dI) (tM kc) (wM ad kc) Z A s σ H locs → lv_has ls 4 [(0, .ref (ad 0)), (1, .int v1), (2, .int v2)] → rec55 v1 v2 σ = some (r, τ) → W p l e R s m args below meth c H locs 0 0 (MQ below (gQv (dC, dI) (tM kc) (wM ad kc) A r τ) args s 0 0 A) (F0 m 55 ls []))
    (X : gX (dC, dI) (tM kc) (wM ad kc) Z A s σ H locs) (hl : lv_has ls 4 [(0, .ref (ad 0)), (1, .int v1), (2, .int v2)]) (hg : f_X12_find_b101 rec12 rec55 v1 v2 σ = some (r, τ)) : W p l e R s m args below meth c H locs 0 0 (MQ below (gQv (dC, dI) (tM kc) (wM ad kc) A r τ) args s 0 0 A) (F0 m 101 ls []) := by
  have hx := S.1
  have hb := S.2.1
  have hown := S.2.2.2.1
  have hu := S.2.2.2.2
  unfold f_X12_find_b101 at hg
  refine lv_goto (tgt := 55) hx hb dX12_find_101 (by decide) ?_
  exact hrec55 _ _ _ _ _ _ X (lv_sub hl [0, 1, 2] rfl) hg
set_option maxHeartbeats 4000000 in
set_option maxRecDepth 100000 in
theorem w_X12_find_B55 {σ : S5} {rec12 : Int32 → S5 → Option (Unit × S5)} {rec55 : Int32 → Int32 → S5 → Option (Unit × S5)} {v1 : Int32} {v2 : Int32} {H : Heap} {locs : List Loc} {ls : Array Slot} (S : CallFix p m c cX12_find 4 s args uG RX12) (hr : meth.sig.returnType = none) (hk : meth.locks = false) (hR : 3 ≤ R.frames ∧ 70 ≤ R.locals)
    (hrec12 : ∀ (v1 : Int32) (σ : S5) (H : Heap) (locs : List Loc) (ls : Array Slot), gX (dC, dI) (tM kc) (wM ad kc) Z A s σ H locs → lv_has ls 4 [(0, .ref (ad 0)), (1, .int v1)] → rec12 v1 σ = some (r, τ) → W p l e R s m args below meth c H locs 0 0 (MQ below (gQv (dC, dI) (tM kc) (wM ad kc) A r τ) args s 0 0 A) (F0 m 12 ls []))
    (hrec55 : ∀ (v1 : Int32) (v2 : Int32) (σ : S5) (H : Heap) (locs : List Loc) (ls : Array Slot), gX (dC, dI) (tM kc) (wM ad kc) Z A s σ H locs → lv_has ls 4 [(0, .ref (ad 0)), (1, .int v1), (2, .int v2)] → rec55 v1 v2 σ = some (r, τ) → W p l e R s m args below meth c H locs 0 0 (MQ below (gQv (dC, dI) (tM kc) (wM ad kc) A r τ) args s 0 0 A) (F0 m 55 ls []))
    (X : gX (dC, dI) (tM kc) (wM ad kc) Z A s σ H locs) (hl : lv_has ls 4 [(0, .ref (ad 0)), (1, .int v1), (2, .int v2)]) (hg : f_X12_find_B55 rec12 rec55 v1 v2 σ = some (r, τ)) : W p l e R s m args below meth c H locs 0 0 (MQ below (gQv (dC, dI) (tM kc) (wM ad kc) A r τ) args s 0 0 A) (F0 m 55 ls []) := by
  have hx := S.1
  have hb := S.2.1
  have hown := S.2.2.2.1
  have hu := S.2.2.2.2
  unfold f_X12_find_B55 at hg
  refine lv_iload_n hx hb dX12_find_55 rfl (lv_at hl 2 rfl) ?_
  refine lv_if_le (tgt := 104) hx hb dX12_find_56 (by decide) (fun c56 => ?_) (fun c56 => ?_)
  · have hg := (if_pos c56).symm.trans hg
    refine lv_iinc (v := (v1 + 1)) (lv' := [(1, .int (v1 + 1)), (0, .ref (ad 0)), (2, .int v2)]) hx hb dX12_find_104 hl (k := 1) rfl (by rfl) (by decide) rfl (fun ls hl => ?_)
    refine lv_goto (tgt := 12) hx hb dX12_find_107 (by decide) ?_
    exact hrec12 _ _ _ _ _ X (lv_sub hl [1, 0] rfl) hg
  · have hg := (if_neg c56).symm.trans hg
    refine lv_aload_n hx hb dX12_find_59 rfl (lv_at hl 0 rfl) ?_
    refine lv_iload_n hx hb dX12_find_60 rfl (lv_at hl 2 rfl) ?_
    refine lv_iconst (v := 1) hx hb dX12_find_61 (by decide) ?_
    refine lv_isub hx hb dX12_find_62 ?_
    obtain ⟨r63, τ63, hq63, hg⟩ := bd_some hg
    refine gc_Vi (As := [.int (v2 - 1)]) (rest := []) (q0 := 0) (ci := 15) S X (k2_X12_nextChild l dC dI ad kc hq63 H.size) cw_X12_nextChild mG_2692 rfl rfl rfl rfl rfl hl.1 (Nat.le_of_ble_eq_true rfl) dX12_find_63 ⟨by omega, by omega⟩ (fun H locs X => ?_)
    refine lv_istore_n (lv' := [(3, .int r63), (0, .ref (ad 0)), (1, .int v1), (2, .int v2)]) hx hb dX12_find_66 rfl hl (by decide) rfl (fun ls hl => ?_)
    refine lv_iload_n hx hb dX12_find_67 rfl (lv_at hl 0 rfl) ?_
    refine lv_if_ge (tgt := 87) hx hb dX12_find_68 (by decide) (fun c68 => ?_) (fun c68 => ?_)
    · have hg := (if_pos c68).symm.trans hg
      refine lv_aload_n hx hb dX12_find_87 rfl (lv_at hl 1 rfl) ?_
      refine lv_iload_n hx hb dX12_find_88 rfl (lv_at hl 3 rfl) ?_
      refine lv_iload_n hx hb dX12_find_89 rfl (lv_at hl 0 rfl) ?_
      obtain ⟨r90, τ90, hq90, hg⟩ := bd_some hg
      refine gc_Vv (As := [.int v2, .int r63]) (rest := []) (q0 := 0) (ci := 15) S X (k2_X12_beginAt l dC dI ad kc hq90 H.size) cw_X12_beginAt mG_2665 rfl rfl rfl rfl rfl hl.1 (Nat.le_of_ble_eq_true rfl) dX12_find_90 ⟨by omega, by omega⟩ (fun H locs X => ?_)
      refine lv_aload_n hx hb dX12_find_93 rfl (lv_at hl 1 rfl) ?_
      refine lv_iload_n hx hb dX12_find_94 rfl (lv_at hl 0 rfl) ?_
      obtain ⟨r95, τ95, hq95, hg⟩ := bd_some hg
      refine gc_Vv (As := [.int r63]) (rest := []) (q0 := 0) (ci := 15) S X (k2_X12_comeInto l dC dI ad kc hq95 H.size) cw_X12_comeInto mG_2672 rfl rfl rfl rfl rfl hl.1 (Nat.le_of_ble_eq_true rfl) dX12_find_95 ⟨by omega, by omega⟩ (fun H locs X => ?_)
      refine lv_iinc (v := (v2 + 1)) (lv' := [(2, .int (v2 + 1)), (3, .int r63), (0, .ref (ad 0)), (1, .int v1)]) hx hb dX12_find_98 hl (k := 3) rfl (by rfl) (by decide) rfl (fun ls hl => ?_)
      exact w_X12_find_b101 S hr hk hR hrec12 hrec55 X (lv_sub hl [2, 3, 0] rfl) hg
    · have hg := (if_neg c68).symm.trans hg
      refine lv_iinc (v := (v2 + (-1))) (lv' := [(2, .int (v2 + (-1))), (3, .int r63), (0, .ref (ad 0)), (1, .int v1)]) hx hb dX12_find_71 hl (k := 3) rfl (by rfl) (by decide) rfl (fun ls hl => ?_)
      refine lv_aload_n hx hb dX12_find_74 rfl (lv_at hl 2 rfl) ?_
      refine lv_aload_n hx hb dX12_find_75 rfl (lv_at hl 2 rfl) ?_
      refine wmgR_0_60 S X mG_2110 dX12_find_76 ?_
      refine lv_iload_n hx hb dX12_find_79 rfl (lv_at hl 0 rfl) ?_
      obtain ⟨hi80, hg⟩ := gd_some hg
      refine wmlA_28 (v := (xA τ63 28 (v2 + (-1)))) S X hi80 rfl dX12_find_80 ?_
      obtain ⟨r81, τ81, hq81, hg⟩ := bd_some hg
      refine gc_Vv (As := [.int (xA τ63 28 (v2 + (-1)))]) (rest := []) (q0 := 0) (ci := 15) S X (k2_X12_goOutOf l dC dI ad kc hq81 H.size) cw_X12_goOutOf mG_2700 rfl rfl rfl rfl rfl hl.1 (Nat.le_of_ble_eq_true rfl) dX12_find_81 ⟨by omega, by omega⟩ (fun H locs X => ?_)
      refine lv_goto (tgt := 101) hx hb dX12_find_84 (by decide) ?_
      exact w_X12_find_b101 S hr hk hR hrec12 hrec55 X (lv_sub hl [2, 3, 0] rfl) hg
set_option maxHeartbeats 4000000 in
set_option maxRecDepth 100000 in
theorem w_X12_find_L55 {rec12 : Int32 → S5 → Option (Unit × S5)} (S : CallFix p m c cX12_find 4 s args uG RX12) (hr : meth.sig.returnType = none) (hk : meth.locks = false) (hR : 3 ≤ R.frames ∧ 70 ≤ R.locals)
    (hrec12 : ∀ (v1 : Int32) (σ : S5) (H : Heap) (locs : List Loc) (ls : Array Slot), gX (dC, dI) (tM kc) (wM ad kc) Z A s σ H locs → lv_has ls 4 [(0, .ref (ad 0)), (1, .int v1)] → rec12 v1 σ = some (r, τ) → W p l e R s m args below meth c H locs 0 0 (MQ below (gQv (dC, dI) (tM kc) (wM ad kc) A r τ) args s 0 0 A) (F0 m 12 ls [])) : ∀ (n : Nat) (v1 : Int32) (v2 : Int32) (σ : S5) (H : Heap) (locs : List Loc) (ls : Array Slot), gX (dC, dI) (tM kc) (wM ad kc) Z A s σ H locs → lv_has ls 4 [(0, .ref (ad 0)), (1, .int v1), (2, .int v2)] → f_X12_find_L55 rec12 n v1 v2 σ = some (r, τ) → W p l e R s m args below meth c H locs 0 0 (MQ below (gQv (dC, dI) (tM kc) (wM ad kc) A r τ) args s 0 0 A) (F0 m 55 ls []) := by
  intro n
  induction n with
  | zero => intro v1 v2 σ H locs ls X hl hg; cases hg
  | succ n ih => intro v1 v2 σ H locs ls X hl hg; exact w_X12_find_B55 S hr hk hR hrec12 ih X hl hg
set_option maxHeartbeats 4000000 in
set_option maxRecDepth 100000 in
theorem w_X12_find_B12 {σ : S5} {rec12 : Int32 → S5 → Option (Unit × S5)} {v1 : Int32} {H : Heap} {locs : List Loc} {ls : Array Slot} (S : CallFix p m c cX12_find 4 s args uG RX12) (hr : meth.sig.returnType = none) (hk : meth.locks = false) (hR : 3 ≤ R.frames ∧ 70 ≤ R.locals)
    (hrec12 : ∀ (v1 : Int32) (σ : S5) (H : Heap) (locs : List Loc) (ls : Array Slot), gX (dC, dI) (tM kc) (wM ad kc) Z A s σ H locs → lv_has ls 4 [(0, .ref (ad 0)), (1, .int v1)] → rec12 v1 σ = some (r, τ) → W p l e R s m args below meth c H locs 0 0 (MQ below (gQv (dC, dI) (tM kc) (wM ad kc) A r τ) args s 0 0 A) (F0 m 12 ls []))
    (X : gX (dC, dI) (tM kc) (wM ad kc) Z A s σ H locs) (hl : lv_has ls 4 [(0, .ref (ad 0)), (1, .int v1)]) (hg : f_X12_find_B12 rec12 v1 σ = some (r, τ)) : W p l e R s m args below meth c H locs 0 0 (MQ below (gQv (dC, dI) (tM kc) (wM ad kc) A r τ) args s 0 0 A) (F0 m 12 ls []) := by
  have hx := S.1
  have hb := S.2.1
  have hown := S.2.2.2.1
  have hu := S.2.2.2.2
  unfold f_X12_find_B12 at hg
  refine lv_iload_n hx hb dX12_find_12 rfl (lv_at hl 1 rfl) ?_
  refine lv_aload_n hx hb dX12_find_13 rfl (lv_at hl 0 rfl) ?_
  refine wmgI_13 (v := (gI σ 13)) S X mG_2077 rfl dX12_find_14 ?_
  refine lv_icmp_ge (tgt := 110) hx hb dX12_find_17 (by decide) (fun c17 => ?_) (fun c17 => ?_)
  · have hg := (if_pos c17).symm.trans hg
    obtain ⟨-, rfl⟩ := fin_some hg
    exact gr_v S hr hk X dX12_find_110
  · have hg := (if_neg c17).symm.trans hg
    refine lv_aload_n hx hb dX12_find_20 rfl (lv_at hl 0 rfl) ?_
    refine lv_iconst (v := 1) hx hb dX12_find_21 (by decide) ?_
    refine wmpI_25 S X mG_2108 dX12_find_22 (fun H locs X => ?_)
    refine lv_aload_n hx hb dX12_find_25 rfl (lv_at hl 0 rfl) ?_
    refine wmgR_0_59 S X mG_2109 dX12_find_26 ?_
    refine lv_iconst (v := 0) hx hb dX12_find_29 (by decide) ?_
    refine lv_iload_n hx hb dX12_find_30 rfl (lv_at hl 1 rfl) ?_
    refine wmsA_27 S X (vp_in_iff.mpr (by decide)) dX12_find_31 (fun H locs X => ?_)
    refine lv_iconst (v := 1) hx hb dX12_find_32 (by decide) ?_
    refine lv_istore_n (lv' := [(2, .int 1), (0, .ref (ad 0)), (1, .int v1)]) hx hb dX12_find_33 rfl hl (by decide) rfl (fun ls hl => ?_)
    refine lv_aload_n hx hb dX12_find_34 rfl (lv_at hl 1 rfl) ?_
    refine lv_iconst (v := 0) hx hb dX12_find_35 (by decide) ?_
    refine lv_aload_n hx hb dX12_find_36 rfl (lv_at hl 1 rfl) ?_
    refine wmgR_0_30 S X mG_2080 dX12_find_37 ?_
    refine lv_iload_n hx hb dX12_find_40 rfl (lv_at hl 2 rfl) ?_
    obtain ⟨hi41, hg⟩ := gd_some hg
    refine wmlA_12 (v := (xA σ 12 v1)) S X hi41 rfl dX12_find_41 ?_
    obtain ⟨r42, τ42, hq42, hg⟩ := bd_some hg
    refine gc_Vv (As := [.int 0, .int (xA σ 12 v1)]) (rest := []) (q0 := 0) (ci := 15) S X (k2_X12_beginAt l dC dI ad kc hq42 H.size) cw_X12_beginAt mG_2665 rfl rfl rfl rfl rfl hl.1 (Nat.le_of_ble_eq_true rfl) dX12_find_42 ⟨by omega, by omega⟩ (fun H locs X => ?_)
    refine lv_aload_n hx hb dX12_find_45 rfl (lv_at hl 1 rfl) ?_
    refine lv_aload_n hx hb dX12_find_46 rfl (lv_at hl 1 rfl) ?_
    refine wmgR_0_60 S X mG_2110 dX12_find_47 ?_
    refine lv_iconst (v := 0) hx hb dX12_find_50 (by decide) ?_
    refine wmlA_28 (v := (xA τ42 28 0)) S X (vp_in_iff.mpr (by decide)) rfl dX12_find_51 ?_
    obtain ⟨r52, τ52, hq52, hg⟩ := bd_some hg
    refine gc_Vv (As := [.int (xA τ42 28 0)]) (rest := []) (q0 := 0) (ci := 15) S X (k2_X12_comeInto l dC dI ad kc hq52 H.size) cw_X12_comeInto mG_2672 rfl rfl rfl rfl rfl hl.1 (Nat.le_of_ble_eq_true rfl) dX12_find_52 ⟨by omega, by omega⟩ (fun H locs X => ?_)
    exact w_X12_find_L55 S hr hk hR hrec12 _ _ _ _ _ _ _ X (lv_sub hl [1, 2, 0] rfl) hg
set_option maxHeartbeats 4000000 in
set_option maxRecDepth 100000 in
theorem w_X12_find_L12 (S : CallFix p m c cX12_find 4 s args uG RX12) (hr : meth.sig.returnType = none) (hk : meth.locks = false) (hR : 3 ≤ R.frames ∧ 70 ≤ R.locals) : ∀ (n : Nat) (v1 : Int32) (σ : S5) (H : Heap) (locs : List Loc) (ls : Array Slot), gX (dC, dI) (tM kc) (wM ad kc) Z A s σ H locs → lv_has ls 4 [(0, .ref (ad 0)), (1, .int v1)] → f_X12_find_L12  n v1 σ = some (r, τ) → W p l e R s m args below meth c H locs 0 0 (MQ below (gQv (dC, dI) (tM kc) (wM ad kc) A r τ) args s 0 0 A) (F0 m 12 ls []) := by
  intro n
  induction n with
  | zero => intro v1 σ H locs ls X hl hg; cases hg
  | succ n ih => intro v1 σ H locs ls X hl hg; exact w_X12_find_B12 S hr hk hR ih X hl hg
set_option maxHeartbeats 4000000 in
set_option maxRecDepth 100000 in
theorem w_X12_find {σ : S5}  {H : Heap} {locs : List Loc} {ls : Array Slot} (S : CallFix p m c cX12_find 4 s args uG RX12) (hr : meth.sig.returnType = none) (hk : meth.locks = false) (hR : 3 ≤ R.frames ∧ 70 ≤ R.locals)
    (X : gX (dC, dI) (tM kc) (wM ad kc) Z A s σ H locs) (hl : lv_has ls 4 [(0, .ref (ad 0))]) (hg : f_X12_find  σ = some (r, τ)) : W p l e R s m args below meth c H locs 0 0 (MQ below (gQv (dC, dI) (tM kc) (wM ad kc) A r τ) args s 0 0 A) (F0 m 0 ls []) := by
  have hx := S.1
  have hb := S.2.1
  have hown := S.2.2.2.1
  have hu := S.2.2.2.2
  unfold f_X12_find at hg
  refine lv_aload_n hx hb dX12_find_0 rfl (lv_at hl 0 rfl) ?_
  refine lv_iconst (v := 0) hx hb dX12_find_1 (by decide) ?_
  refine wmpI_23 S X mG_2100 dX12_find_2 (fun H locs X => ?_)
  refine lv_aload_n hx hb dX12_find_5 rfl (lv_at hl 0 rfl) ?_
  refine lv_iconst (v := 0) hx hb dX12_find_6 (by decide) ?_
  refine wmpI_24 S X mG_2105 dX12_find_7 (fun H locs X => ?_)
  refine lv_iconst (v := 0) hx hb dX12_find_10 (by decide) ?_
  refine lv_istore_n (lv' := [(1, .int 0), (0, .ref (ad 0))]) hx hb dX12_find_11 rfl hl (by decide) rfl (fun ls hl => ?_)
  exact w_X12_find_L12 S hr hk hR _ _ _ _ _ _ X (lv_sub hl [1, 0] rfl) hg
end MX12_find
set_option maxRecDepth 100000 in
theorem k2_X12_find (l : Launch) (dC : Nat → ClassId) (dI : Nat → Nat → Nat) {Z : ZZ} (ad : Nat → Nat) (kc : Nat → ClassId) {σ τ : S5}  {r : Unit} (hg : f_X12_find  σ = some (r, τ)) (sz : Nat) : Met l yX12_find (Cond.code yX12_find cX12_find 4 none :: uG) { frames := 3, cells := 0, slots := 0, locals := 70 } (gPc (dC, dI) (tM kc) (wM ad kc) Z [.ref (ad 0)] σ sz) (gQv (dC, dI) (tM kc) (wM ad kc) (va_A (wM ad kc σ) sz) r τ) 0 0 (va_A (wM ad kc σ) sz) :=
  g_start (by decide) (Nat.le_of_ble_eq_true rfl) (fun p e s m below meth c ls S hr hk X hl => w_X12_find S hr hk ⟨Nat.le_refl _, Nat.le_refl _⟩ X hl hg)
section MX12_mainFunction
variable {p : Program} {l : Launch} {e : Env} {R : Room} {s : State} {m : MethodId} {args : Array Value} {below : List Frame} {meth : Method} {c : Code} {dC : Nat → ClassId} {dI : Nat → Nat → Nat} {Z : ZZ} {A : Nat → Prop} {ad : Nat → Nat} {kc : Nat → ClassId} {r : Int32} {τ : S5}
set_option maxHeartbeats 4000000 in
set_option maxRecDepth 100000 in
theorem w_X12_mainFunction_b39 {σ : S5} {rec4 : Int32 → Int32 → S5 → Option (Int32 × S5)} {v2 : Int32} {u0 : Int32} {H : Heap} {locs : List Loc} {ls : Array Slot} (S : CallFix p m c cX12_mainFunction 3 s args uG RX12) (hr : meth.sig.returnType = (some .int)) (hk : meth.locks = false) (hR : 1 ≤ R.frames ∧ 26 ≤ R.locals)
    (hrec4 : ∀ (v1 : Int32) (v2 : Int32) (σ : S5) (H : Heap) (locs : List Loc) (ls : Array Slot), gX (dC, dI) (tM kc) (wM ad kc) Z A s σ H locs → lv_has ls 3 [(0, .ref (ad 0)), (1, .int v1), (2, .int v2)] → rec4 v1 v2 σ = some (r, τ) → W p l e R s m args below meth c H locs 0 0 (MQ below (gQi (dC, dI) (tM kc) (wM ad kc) A r τ) args s 0 0 A) (F0 m 4 ls []))
    (X : gX (dC, dI) (tM kc) (wM ad kc) Z A s σ H locs) (hl : lv_has ls 3 [(0, .ref (ad 0)), (2, .int v2)]) (hg : f_X12_mainFunction_b39 rec4 v2 u0 σ = some (r, τ)) : W p l e R s m args below meth c H locs 0 0 (MQ below (gQi (dC, dI) (tM kc) (wM ad kc) A r τ) args s 0 0 A) (F0 m 39 ls [.int u0]) := by
  have hx := S.1
  have hb := S.2.1
  have hown := S.2.2.2.1
  have hu := S.2.2.2.2
  unfold f_X12_mainFunction_b39 at hg
  refine lv_istore_n (lv' := [(1, .int u0), (0, .ref (ad 0)), (2, .int v2)]) hx hb dX12_mainFunction_39 rfl hl (by decide) rfl (fun ls hl => ?_)
  refine lv_iinc (v := (v2 + 1)) (lv' := [(2, .int (v2 + 1)), (1, .int u0), (0, .ref (ad 0))]) hx hb dX12_mainFunction_40 hl (k := 2) rfl (by rfl) (by decide) rfl (fun ls hl => ?_)
  refine lv_goto (tgt := 4) hx hb dX12_mainFunction_43 (by decide) ?_
  exact hrec4 _ _ _ _ _ _ X (lv_sub hl [2, 1, 0] rfl) hg
set_option maxHeartbeats 4000000 in
set_option maxRecDepth 100000 in
theorem w_X12_mainFunction_B4 {σ : S5} {rec4 : Int32 → Int32 → S5 → Option (Int32 × S5)} {v1 : Int32} {v2 : Int32} {H : Heap} {locs : List Loc} {ls : Array Slot} (S : CallFix p m c cX12_mainFunction 3 s args uG RX12) (hr : meth.sig.returnType = (some .int)) (hk : meth.locks = false) (hR : 1 ≤ R.frames ∧ 26 ≤ R.locals)
    (hrec4 : ∀ (v1 : Int32) (v2 : Int32) (σ : S5) (H : Heap) (locs : List Loc) (ls : Array Slot), gX (dC, dI) (tM kc) (wM ad kc) Z A s σ H locs → lv_has ls 3 [(0, .ref (ad 0)), (1, .int v1), (2, .int v2)] → rec4 v1 v2 σ = some (r, τ) → W p l e R s m args below meth c H locs 0 0 (MQ below (gQi (dC, dI) (tM kc) (wM ad kc) A r τ) args s 0 0 A) (F0 m 4 ls []))
    (X : gX (dC, dI) (tM kc) (wM ad kc) Z A s σ H locs) (hl : lv_has ls 3 [(0, .ref (ad 0)), (1, .int v1), (2, .int v2)]) (hg : f_X12_mainFunction_B4 rec4 v1 v2 σ = some (r, τ)) : W p l e R s m args below meth c H locs 0 0 (MQ below (gQi (dC, dI) (tM kc) (wM ad kc) A r τ) args s 0 0 A) (F0 m 4 ls []) := by
  have hx := S.1
  have hb := S.2.1
  have hown := S.2.2.2.1
  have hu := S.2.2.2.2
  unfold f_X12_mainFunction_B4 at hg
  refine lv_iload_n hx hb dX12_mainFunction_4 rfl (lv_at hl 2 rfl) ?_
  refine lv_aload_n hx hb dX12_mainFunction_5 rfl (lv_at hl 0 rfl) ?_
  refine wmgI_13 (v := (gI σ 13)) S X mG_2077 rfl dX12_mainFunction_6 ?_
  refine lv_icmp_ge (tgt := 46) hx hb dX12_mainFunction_9 (by decide) (fun c9 => ?_) (fun c9 => ?_)
  · have hg := (if_pos c9).symm.trans hg
    refine lv_iload_n hx hb dX12_mainFunction_46 rfl (lv_at hl 1 rfl) ?_
    obtain ⟨rfl, rfl⟩ := fin_some hg
    exact gr_i S hr hk X dX12_mainFunction_47
  · have hg := (if_neg c9).symm.trans hg
    refine lv_aload_n hx hb dX12_mainFunction_12 rfl (lv_at hl 0 rfl) ?_
    refine wmgR_0_28 S X mG_2078 dX12_mainFunction_13 ?_
    refine lv_iload_n hx hb dX12_mainFunction_16 rfl (lv_at hl 2 rfl) ?_
    obtain ⟨hi17, hg⟩ := gd_some hg
    refine wmlB_2 (v := (xB σ 2 v2)) S X hi17 rfl dX12_mainFunction_17 ?_
    refine lv_bipush (v := 109) hx hb dX12_mainFunction_18 (by decide) ?_
    refine lv_bipush (v := 97) hx hb dX12_mainFunction_20 (by decide) ?_
    refine lv_bipush (v := 105) hx hb dX12_mainFunction_22 (by decide) ?_
    refine lv_bipush (v := 110) hx hb dX12_mainFunction_24 (by decide) ?_
    refine lv_iconst (v := 0) hx hb dX12_mainFunction_26 (by decide) ?_
    obtain ⟨r27, τ27, hq27, hg⟩ := bd_some hg
    refine gc_Sl (As := [.int 109, .int 97, .int 105, .int 110, .int 0]) (rest := [.long (xB σ 2 v2)]) S X (k2_X12_pack l dC dI ad kc hq27 H.size) cw_X12_pack mG_2476 rfl rfl hl.1 (Nat.le_of_ble_eq_true rfl) dX12_mainFunction_27 ⟨by omega, by omega⟩ (fun H locs X => ?_)
    refine W.lcmp hx hb dX12_mainFunction_30 ?_
    refine lv_if_ne (tgt := 38) hx hb dX12_mainFunction_31 (by decide) (fun c31 => ?_) (fun c31 => ?_)
    · have hg := (if_neg c31).symm.trans hg
      refine lv_iload_n hx hb dX12_mainFunction_38 rfl (lv_at hl 1 rfl) ?_
      exact w_X12_mainFunction_b39 S hr hk hR hrec4 X (lv_sub hl [0, 2] rfl) hg
    · have hg := (if_pos c31).symm.trans hg
      refine lv_iload_n hx hb dX12_mainFunction_34 rfl (lv_at hl 2 rfl) ?_
      refine lv_goto (tgt := 39) hx hb dX12_mainFunction_35 (by decide) ?_
      exact w_X12_mainFunction_b39 S hr hk hR hrec4 X (lv_sub hl [0, 2] rfl) hg
set_option maxHeartbeats 4000000 in
set_option maxRecDepth 100000 in
theorem w_X12_mainFunction_L4 (S : CallFix p m c cX12_mainFunction 3 s args uG RX12) (hr : meth.sig.returnType = (some .int)) (hk : meth.locks = false) (hR : 1 ≤ R.frames ∧ 26 ≤ R.locals) : ∀ (n : Nat) (v1 : Int32) (v2 : Int32) (σ : S5) (H : Heap) (locs : List Loc) (ls : Array Slot), gX (dC, dI) (tM kc) (wM ad kc) Z A s σ H locs → lv_has ls 3 [(0, .ref (ad 0)), (1, .int v1), (2, .int v2)] → f_X12_mainFunction_L4  n v1 v2 σ = some (r, τ) → W p l e R s m args below meth c H locs 0 0 (MQ below (gQi (dC, dI) (tM kc) (wM ad kc) A r τ) args s 0 0 A) (F0 m 4 ls []) := by
  intro n
  induction n with
  | zero => intro v1 v2 σ H locs ls X hl hg; cases hg
  | succ n ih => intro v1 v2 σ H locs ls X hl hg; exact w_X12_mainFunction_B4 S hr hk hR ih X hl hg
set_option maxHeartbeats 4000000 in
set_option maxRecDepth 100000 in
theorem w_X12_mainFunction {σ : S5}  {H : Heap} {locs : List Loc} {ls : Array Slot} (S : CallFix p m c cX12_mainFunction 3 s args uG RX12) (hr : meth.sig.returnType = (some .int)) (hk : meth.locks = false) (hR : 1 ≤ R.frames ∧ 26 ≤ R.locals)
    (X : gX (dC, dI) (tM kc) (wM ad kc) Z A s σ H locs) (hl : lv_has ls 3 [(0, .ref (ad 0))]) (hg : f_X12_mainFunction  σ = some (r, τ)) : W p l e R s m args below meth c H locs 0 0 (MQ below (gQi (dC, dI) (tM kc) (wM ad kc) A r τ) args s 0 0 A) (F0 m 0 ls []) := by
  have hx := S.1
  have hb := S.2.1
  have hown := S.2.2.2.1
  have hu := S.2.2.2.2
  unfold f_X12_mainFunction at hg
  refine lv_iconst (v := (-1)) hx hb dX12_mainFunction_0 (by decide) ?_
  refine lv_istore_n (lv' := [(1, .int (-1)), (0, .ref (ad 0))]) hx hb dX12_mainFunction_1 rfl hl (by decide) rfl (fun ls hl => ?_)
  refine lv_iconst (v := 0) hx hb dX12_mainFunction_2 (by decide) ?_
  refine lv_istore_n (lv' := [(2, .int 0), (1, .int (-1)), (0, .ref (ad 0))]) hx hb dX12_mainFunction_3 rfl hl (by decide) rfl (fun ls hl => ?_)
  exact w_X12_mainFunction_L4 S hr hk hR _ _ _ _ _ _ _ X (lv_sub hl [2, 1, 0] rfl) hg
end MX12_mainFunction
set_option maxRecDepth 100000 in
theorem k2_X12_mainFunction (l : Launch) (dC : Nat → ClassId) (dI : Nat → Nat → Nat) {Z : ZZ} (ad : Nat → Nat) (kc : Nat → ClassId) {σ τ : S5}  {r : Int32} (hg : f_X12_mainFunction  σ = some (r, τ)) (sz : Nat) : Met l yX12_mainFunction (Cond.code yX12_mainFunction cX12_mainFunction 3 (some .int) :: uG) { frames := 1, cells := 0, slots := 0, locals := 26 } (gPc (dC, dI) (tM kc) (wM ad kc) Z [.ref (ad 0)] σ sz) (gQi (dC, dI) (tM kc) (wM ad kc) (va_A (wM ad kc σ) sz) r τ) 0 0 (va_A (wM ad kc σ) sz) :=
  g_start (by decide) (Nat.le_of_ble_eq_true rfl) (fun p e s m below meth c ls S hr hk X hl => w_X12_mainFunction S hr hk ⟨Nat.le_refl _, Nat.le_refl _⟩ X hl hg)
section MX12_judge
variable {p : Program} {l : Launch} {e : Env} {R : Room} {s : State} {m : MethodId} {args : Array Value} {below : List Frame} {meth : Method} {c : Code} {dC : Nat → ClassId} {dI : Nat → Nat → Nat} {Z : ZZ} {A : Nat → Prop} {ad : Nat → Nat} {kc : Nat → ClassId} {r : Unit} {τ : S5}
set_option maxHeartbeats 4000000 in
set_option maxRecDepth 100000 in
theorem w_X12_judge_b77 {σ : S5}  {H : Heap} {locs : List Loc} {ls : Array Slot} (S : CallFix p m c cX12_judge 2 s args uG RX12) (hr : meth.sig.returnType = none) (hk : meth.locks = false) (hR : 2 ≤ R.frames ∧ 48 ≤ R.locals)
    (X : gX (dC, dI) (tM kc) (wM ad kc) Z A s σ H locs) (hl : lv_has ls 2 [(0, .ref (ad 0))]) (hg : f_X12_judge_b77  σ = some (r, τ)) : W p l e R s m args below meth c H locs 0 0 (MQ below (gQv (dC, dI) (tM kc) (wM ad kc) A r τ) args s 0 0 A) (F0 m 77 ls []) := by
  have hx := S.1
  have hb := S.2.1
  have hown := S.2.2.2.1
  have hu := S.2.2.2.2
  unfold f_X12_judge_b77 at hg
  refine lv_aload_n hx hb dX12_judge_77 rfl (lv_at hl 0 rfl) ?_
  refine lv_bipush (v := 7) hx hb dX12_judge_78 (by decide) ?_
  refine lv_iconst (v := 0) hx hb dX12_judge_80 (by decide) ?_
  obtain ⟨r81, τ81, hq81, hg⟩ := bd_some hg
  refine gc_Vv (As := [.int 7, .int 0]) (rest := []) (q0 := 0) (ci := 15) S X (k2_X12_fail l dC dI ad kc hq81 H.size) cw_X12_fail mG_2522 rfl rfl rfl rfl rfl hl.1 (Nat.le_of_ble_eq_true rfl) dX12_judge_81 ⟨by omega, by omega⟩ (fun H locs X => ?_)
  obtain ⟨-, rfl⟩ := fin_some hg
  exact gr_v S hr hk X dX12_judge_84
set_option maxHeartbeats 4000000 in
set_option maxRecDepth 100000 in
theorem w_X12_judge_b48 {σ : S5} {rec5 : Int32 → S5 → Option (Unit × S5)} {v1 : Int32} {H : Heap} {locs : List Loc} {ls : Array Slot} (S : CallFix p m c cX12_judge 2 s args uG RX12) (hr : meth.sig.returnType = none) (hk : meth.locks = false) (hR : 2 ≤ R.frames ∧ 48 ≤ R.locals)
    (hrec5 : ∀ (v1 : Int32) (σ : S5) (H : Heap) (locs : List Loc) (ls : Array Slot), gX (dC, dI) (tM kc) (wM ad kc) Z A s σ H locs → lv_has ls 2 [(0, .ref (ad 0)), (1, .int v1)] → rec5 v1 σ = some (r, τ) → W p l e R s m args below meth c H locs 0 0 (MQ below (gQv (dC, dI) (tM kc) (wM ad kc) A r τ) args s 0 0 A) (F0 m 5 ls []))
    (X : gX (dC, dI) (tM kc) (wM ad kc) Z A s σ H locs) (hl : lv_has ls 2 [(0, .ref (ad 0)), (1, .int v1)]) (hg : f_X12_judge_b48 rec5 v1 σ = some (r, τ)) : W p l e R s m args below meth c H locs 0 0 (MQ below (gQv (dC, dI) (tM kc) (wM ad kc) A r τ) args s 0 0 A) (F0 m 48 ls []) := by
  have hx := S.1
  have hb := S.2.1
  have hown := S.2.2.2.1
  have hu := S.2.2.2.2
  unfold f_X12_judge_b48 at hg
  refine lv_iinc (v := (v1 + 1)) (lv' := [(1, .int (v1 + 1)), (0, .ref (ad 0))]) hx hb dX12_judge_48 hl (k := 1) rfl (by rfl) (by decide) rfl (fun ls hl => ?_)
  refine lv_goto (tgt := 5) hx hb dX12_judge_51 (by decide) ?_
  exact hrec5 _ _ _ _ _ X (lv_sub hl [1, 0] rfl) hg
set_option maxHeartbeats 4000000 in
set_option maxRecDepth 100000 in
theorem w_X12_judge_B5 {σ : S5} {rec5 : Int32 → S5 → Option (Unit × S5)} {v1 : Int32} {H : Heap} {locs : List Loc} {ls : Array Slot} (S : CallFix p m c cX12_judge 2 s args uG RX12) (hr : meth.sig.returnType = none) (hk : meth.locks = false) (hR : 2 ≤ R.frames ∧ 48 ≤ R.locals)
    (hrec5 : ∀ (v1 : Int32) (σ : S5) (H : Heap) (locs : List Loc) (ls : Array Slot), gX (dC, dI) (tM kc) (wM ad kc) Z A s σ H locs → lv_has ls 2 [(0, .ref (ad 0)), (1, .int v1)] → rec5 v1 σ = some (r, τ) → W p l e R s m args below meth c H locs 0 0 (MQ below (gQv (dC, dI) (tM kc) (wM ad kc) A r τ) args s 0 0 A) (F0 m 5 ls []))
    (X : gX (dC, dI) (tM kc) (wM ad kc) Z A s σ H locs) (hl : lv_has ls 2 [(0, .ref (ad 0)), (1, .int v1)]) (hg : f_X12_judge_B5 rec5 v1 σ = some (r, τ)) : W p l e R s m args below meth c H locs 0 0 (MQ below (gQv (dC, dI) (tM kc) (wM ad kc) A r τ) args s 0 0 A) (F0 m 5 ls []) := by
  have hx := S.1
  have hb := S.2.1
  have hown := S.2.2.2.1
  have hu := S.2.2.2.2
  unfold f_X12_judge_B5 at hg
  refine lv_iload_n hx hb dX12_judge_5 rfl (lv_at hl 1 rfl) ?_
  refine lv_aload_n hx hb dX12_judge_6 rfl (lv_at hl 0 rfl) ?_
  refine wmgI_22 (v := (gI σ 22)) S X mG_2096 rfl dX12_judge_7 ?_
  refine lv_icmp_ge (tgt := 54) hx hb dX12_judge_10 (by decide) (fun c10 => ?_) (fun c10 => ?_)
  · have hg := (if_pos c10).symm.trans hg
    refine lv_aload_n hx hb dX12_judge_54 rfl (lv_at hl 0 rfl) ?_
    obtain ⟨r55, τ55, hq55, hg⟩ := bd_some hg
    refine gc_Vi (As := []) (rest := []) (q0 := 0) (ci := 15) S X (k2_X12_mainFunction l dC dI ad kc hq55 H.size) cw_X12_mainFunction mG_2708 rfl rfl rfl rfl rfl hl.1 (Nat.le_of_ble_eq_true rfl) dX12_judge_55 ⟨by omega, by omega⟩ (fun H locs X => ?_)
    refine lv_istore_n (lv' := [(1, .int r55), (0, .ref (ad 0))]) hx hb dX12_judge_58 rfl hl (by decide) rfl (fun ls hl => ?_)
    refine lv_iload_n hx hb dX12_judge_59 rfl (lv_at hl 0 rfl) ?_
    refine lv_if_lt (tgt := 77) hx hb dX12_judge_60 (by decide) (fun c60 => ?_) (fun c60 => ?_)
    · have hg := (if_pos c60).symm.trans hg
      exact w_X12_judge_b77 S hr hk hR X (lv_sub hl [1] rfl) hg
    · have hg := (if_neg c60).symm.trans hg
      refine lv_aload_n hx hb dX12_judge_63 rfl (lv_at hl 1 rfl) ?_
      refine wmgR_0_22 S X mG_2072 dX12_judge_64 ?_
      refine lv_aload_n hx hb dX12_judge_67 rfl (lv_at hl 1 rfl) ?_
      refine wmgR_0_30 S X mG_2080 dX12_judge_68 ?_
      refine lv_iload_n hx hb dX12_judge_71 rfl (lv_at hl 0 rfl) ?_
      obtain ⟨hi72, hg⟩ := gd_some hg
      refine wmlA_12 (v := (xA τ55 12 r55)) S X hi72 rfl dX12_judge_72 ?_
      obtain ⟨hi73, hg⟩ := gd_some hg
      refine wmlA_10 (v := (xA τ55 10 (xA τ55 12 r55))) S X hi73 rfl dX12_judge_73 ?_
      refine lv_if_le (tgt := 84) hx hb dX12_judge_74 (by decide) (fun c74 => ?_) (fun c74 => ?_)
      · have hg := (if_pos c74).symm.trans hg
        obtain ⟨-, rfl⟩ := fin_some hg
        exact gr_v S hr hk X dX12_judge_84
      · have hg := (if_neg c74).symm.trans hg
        exact w_X12_judge_b77 S hr hk hR X (lv_sub hl [1] rfl) hg
  · have hg := (if_neg c10).symm.trans hg
    refine lv_aload_n hx hb dX12_judge_13 rfl (lv_at hl 0 rfl) ?_
    refine wmgR_0_48 S X mG_2098 dX12_judge_14 ?_
    refine lv_iload_n hx hb dX12_judge_17 rfl (lv_at hl 1 rfl) ?_
    obtain ⟨hi18, hg⟩ := gd_some hg
    refine wmlA_20 (v := (xA σ 20 v1)) S X hi18 rfl dX12_judge_18 ?_
    refine lv_aload_n hx hb dX12_judge_19 rfl (lv_at hl 0 rfl) ?_
    refine wmgR_0_22 S X mG_2072 dX12_judge_20 ?_
    refine lv_aload_n hx hb dX12_judge_23 rfl (lv_at hl 0 rfl) ?_
    refine wmgR_0_30 S X mG_2080 dX12_judge_24 ?_
    refine lv_iload_n hx hb dX12_judge_27 rfl (lv_at hl 1 rfl) ?_
    obtain ⟨hi28, hg⟩ := gd_some hg
    refine wmlA_12 (v := (xA σ 12 v1)) S X hi28 rfl dX12_judge_28 ?_
    obtain ⟨hi29, hg⟩ := gd_some hg
    refine wmlA_10 (v := (xA σ 10 (xA σ 12 v1))) S X hi29 rfl dX12_judge_29 ?_
    refine lv_iadd hx hb dX12_judge_30 ?_
    refine lv_bipush (v := 8) hx hb dX12_judge_31 (by decide) ?_
    refine lv_icmp_le (tgt := 48) hx hb dX12_judge_33 (by decide) (fun c33 => ?_) (fun c33 => ?_)
    · have hg := (if_pos c33).symm.trans hg
      exact w_X12_judge_b48 S hr hk hR hrec5 X (lv_sub hl [0, 1] rfl) hg
    · have hg := (if_neg c33).symm.trans hg
      refine lv_aload_n hx hb dX12_judge_36 rfl (lv_at hl 0 rfl) ?_
      refine lv_bipush (v := 6) hx hb dX12_judge_37 (by decide) ?_
      refine lv_aload_n hx hb dX12_judge_39 rfl (lv_at hl 0 rfl) ?_
      refine wmgR_0_29 S X mG_2079 dX12_judge_40 ?_
      refine lv_iload_n hx hb dX12_judge_43 rfl (lv_at hl 1 rfl) ?_
      obtain ⟨hi44, hg⟩ := gd_some hg
      refine wmlA_11 (v := (xA σ 11 v1)) S X hi44 rfl dX12_judge_44 ?_
      obtain ⟨r45, τ45, hq45, hg⟩ := bd_some hg
      refine gc_Vv (As := [.int 6, .int (xA σ 11 v1)]) (rest := []) (q0 := 0) (ci := 15) S X (k2_X12_fail l dC dI ad kc hq45 H.size) cw_X12_fail mG_2522 rfl rfl rfl rfl rfl hl.1 (Nat.le_of_ble_eq_true rfl) dX12_judge_45 ⟨by omega, by omega⟩ (fun H locs X => ?_)
      exact w_X12_judge_b48 S hr hk hR hrec5 X (lv_sub hl [0, 1] rfl) hg
set_option maxHeartbeats 4000000 in
set_option maxRecDepth 100000 in
theorem w_X12_judge_L5 (S : CallFix p m c cX12_judge 2 s args uG RX12) (hr : meth.sig.returnType = none) (hk : meth.locks = false) (hR : 2 ≤ R.frames ∧ 48 ≤ R.locals) : ∀ (n : Nat) (v1 : Int32) (σ : S5) (H : Heap) (locs : List Loc) (ls : Array Slot), gX (dC, dI) (tM kc) (wM ad kc) Z A s σ H locs → lv_has ls 2 [(0, .ref (ad 0)), (1, .int v1)] → f_X12_judge_L5  n v1 σ = some (r, τ) → W p l e R s m args below meth c H locs 0 0 (MQ below (gQv (dC, dI) (tM kc) (wM ad kc) A r τ) args s 0 0 A) (F0 m 5 ls []) := by
  intro n
  induction n with
  | zero => intro v1 σ H locs ls X hl hg; cases hg
  | succ n ih => intro v1 σ H locs ls X hl hg; exact w_X12_judge_B5 S hr hk hR ih X hl hg
set_option maxHeartbeats 4000000 in
set_option maxRecDepth 100000 in
theorem w_X12_judge {σ : S5}  {H : Heap} {locs : List Loc} {ls : Array Slot} (S : CallFix p m c cX12_judge 2 s args uG RX12) (hr : meth.sig.returnType = none) (hk : meth.locks = false) (hR : 2 ≤ R.frames ∧ 48 ≤ R.locals)
    (X : gX (dC, dI) (tM kc) (wM ad kc) Z A s σ H locs) (hl : lv_has ls 2 [(0, .ref (ad 0))]) (hg : f_X12_judge  σ = some (r, τ)) : W p l e R s m args below meth c H locs 0 0 (MQ below (gQv (dC, dI) (tM kc) (wM ad kc) A r τ) args s 0 0 A) (F0 m 0 ls []) := by
  have hx := S.1
  have hb := S.2.1
  have hown := S.2.2.2.1
  have hu := S.2.2.2.2
  unfold f_X12_judge at hg
  refine lv_aload_n hx hb dX12_judge_0 rfl (lv_at hl 0 rfl) ?_
  refine wmgI_13 (v := (gI σ 13)) S X mG_2077 rfl dX12_judge_1 ?_
  refine lv_istore_n (lv' := [(1, .int (gI σ 13)), (0, .ref (ad 0))]) hx hb dX12_judge_4 rfl hl (by decide) rfl (fun ls hl => ?_)
  exact w_X12_judge_L5 S hr hk hR _ _ _ _ _ _ X (lv_sub hl [1, 0] rfl) hg
end MX12_judge
set_option maxRecDepth 100000 in
theorem k2_X12_judge (l : Launch) (dC : Nat → ClassId) (dI : Nat → Nat → Nat) {Z : ZZ} (ad : Nat → Nat) (kc : Nat → ClassId) {σ τ : S5}  {r : Unit} (hg : f_X12_judge  σ = some (r, τ)) (sz : Nat) : Met l yX12_judge (Cond.code yX12_judge cX12_judge 2 none :: uG) { frames := 2, cells := 0, slots := 0, locals := 48 } (gPc (dC, dI) (tM kc) (wM ad kc) Z [.ref (ad 0)] σ sz) (gQv (dC, dI) (tM kc) (wM ad kc) (va_A (wM ad kc σ) sz) r τ) 0 0 (va_A (wM ad kc σ) sz) :=
  g_start (by decide) (Nat.le_of_ble_eq_true rfl) (fun p e s m below meth c ls S hr hk X hl => w_X12_judge S hr hk ⟨Nat.le_refl _, Nat.le_refl _⟩ X hl hg)
section MX12_lift
variable {p : Program} {l : Launch} {e : Env} {R : Room} {s : State} {m : MethodId} {args : Array Value} {below : List Frame} {meth : Method} {c : Code} {dC : Nat → ClassId} {dI : Nat → Nat → Nat} {Z : ZZ} {A : Nat → Prop} {ad : Nat → Nat} {kc : Nat → ClassId} {r : Int32} {τ : S5}
set_option maxHeartbeats 4000000 in
set_option maxRecDepth 100000 in
theorem w_X12_lift_b169 {σ : S5} {rec108 : Int32 → Int32 → Int32 → Int64 → Int32 → S5 → Option (Int32 × S5)} {v3 : Int32} {v4 : Int32} {v6 : Int64} {v8 : Int32} {v9 : Int32} {u0 : Int32} {H : Heap} {locs : List Loc} {ls : Array Slot} (S : CallFix p m c cX12_lift 10 s args uG RX12) (hr : meth.sig.returnType = (some .int)) (hk : meth.locks = false) (hR : 0 ≤ R.frames ∧ 0 ≤ R.locals)
    (hrec108 : ∀ (v3 : Int32) (v4 : Int32) (v5 : Int32) (v6 : Int64) (v8 : Int32) (σ : S5) (H : Heap) (locs : List Loc) (ls : Array Slot), gX (dC, dI) (tM kc) (wM ad kc) Z A s σ H locs → lv_has ls 10 [(0, .ref (ad 0)), (3, .int v3), (4, .int v4), (5, .int v5), (6, .long v6), (8, .int v8)] → rec108 v3 v4 v5 v6 v8 σ = some (r, τ) → W p l e R s m args below meth c H locs 0 0 (MQ below (gQi (dC, dI) (tM kc) (wM ad kc) A r τ) args s 0 0 A) (F0 m 108 ls []))
    (X : gX (dC, dI) (tM kc) (wM ad kc) Z A s σ H locs) (hl : lv_has ls 10 [(0, .ref (ad 0)), (3, .int v3), (4, .int v4), (6, .long v6), (8, .int v8), (9, .int v9)]) (hg : f_X12_lift_b169 rec108 v3 v4 v6 v8 v9 u0 σ = some (r, τ)) : W p l e R s m args below meth c H locs 0 0 (MQ below (gQi (dC, dI) (tM kc) (wM ad kc) A r τ) args s 0 0 A) (F0 m 169 ls [.int u0]) := by
  have hx := S.1
  have hb := S.2.1
  have hown := S.2.2.2.1
  have hu := S.2.2.2.2
  unfold f_X12_lift_b169 at hg
  refine lv_istore (lv' := [(5, .int u0), (0, .ref (ad 0)), (3, .int v3), (4, .int v4), (6, .long v6), (8, .int v8), (9, .int v9)]) hx hb dX12_lift_169 hl (by decide) rfl (fun ls hl => ?_)
  refine lv_lload hx hb dX12_lift_171 (lv_at hl 4 rfl) ?_
  refine lv_aload_n hx hb dX12_lift_173 rfl (lv_at hl 1 rfl) ?_
  refine wmgR_0_72 S X mG_2122 dX12_lift_174 ?_
  refine lv_iload hx hb dX12_lift_177 (lv_at hl 6 rfl) ?_
  obtain ⟨hi179, hg⟩ := gd_some hg
  refine wmlB_5 (v := (xB σ 5 v9)) S X hi179 rfl dX12_lift_179 ?_
  refine lv_lor hx hb dX12_lift_180 ?_
  refine lv_lstore (lv' := [(6, .long (v6 ||| (xB σ 5 v9))), (5, .int u0), (0, .ref (ad 0)), (3, .int v3), (4, .int v4), (8, .int v8), (9, .int v9)]) hx hb dX12_lift_181 hl (by decide) rfl (fun ls hl => ?_)
  refine lv_iinc (v := (v8 + 1)) (lv' := [(8, .int (v8 + 1)), (6, .long (v6 ||| (xB σ 5 v9))), (5, .int u0), (0, .ref (ad 0)), (3, .int v3), (4, .int v4), (9, .int v9)]) hx hb dX12_lift_183 hl (k := 5) rfl (by rfl) (by decide) rfl (fun ls hl => ?_)
  refine lv_goto (tgt := 108) hx hb dX12_lift_186 (by decide) ?_
  exact hrec108 _ _ _ _ _ _ _ _ _ X (lv_sub hl [3, 4, 5, 2, 1, 0] rfl) hg
set_option maxHeartbeats 4000000 in
set_option maxRecDepth 100000 in
theorem w_X12_lift_B108 {σ : S5} {rec108 : Int32 → Int32 → Int32 → Int64 → Int32 → S5 → Option (Int32 × S5)} {v3 : Int32} {v4 : Int32} {v5 : Int32} {v6 : Int64} {v8 : Int32} {H : Heap} {locs : List Loc} {ls : Array Slot} (S : CallFix p m c cX12_lift 10 s args uG RX12) (hr : meth.sig.returnType = (some .int)) (hk : meth.locks = false) (hR : 0 ≤ R.frames ∧ 0 ≤ R.locals)
    (hrec108 : ∀ (v3 : Int32) (v4 : Int32) (v5 : Int32) (v6 : Int64) (v8 : Int32) (σ : S5) (H : Heap) (locs : List Loc) (ls : Array Slot), gX (dC, dI) (tM kc) (wM ad kc) Z A s σ H locs → lv_has ls 10 [(0, .ref (ad 0)), (3, .int v3), (4, .int v4), (5, .int v5), (6, .long v6), (8, .int v8)] → rec108 v3 v4 v5 v6 v8 σ = some (r, τ) → W p l e R s m args below meth c H locs 0 0 (MQ below (gQi (dC, dI) (tM kc) (wM ad kc) A r τ) args s 0 0 A) (F0 m 108 ls []))
    (X : gX (dC, dI) (tM kc) (wM ad kc) Z A s σ H locs) (hl : lv_has ls 10 [(0, .ref (ad 0)), (3, .int v3), (4, .int v4), (5, .int v5), (6, .long v6), (8, .int v8)]) (hg : f_X12_lift_B108 rec108 v3 v4 v5 v6 v8 σ = some (r, τ)) : W p l e R s m args below meth c H locs 0 0 (MQ below (gQi (dC, dI) (tM kc) (wM ad kc) A r τ) args s 0 0 A) (F0 m 108 ls []) := by
  have hx := S.1
  have hb := S.2.1
  have hown := S.2.2.2.1
  have hu := S.2.2.2.2
  unfold f_X12_lift_B108 at hg
  refine lv_iload hx hb dX12_lift_108 (lv_at hl 5 rfl) ?_
  refine lv_iload_n hx hb dX12_lift_110 rfl (lv_at hl 1 rfl) ?_
  refine lv_icmp_ge (tgt := 189) hx hb dX12_lift_111 (by decide) (fun c111 => ?_) (fun c111 => ?_)
  · have hg := (if_pos c111).symm.trans hg
    refine lv_aload_n hx hb dX12_lift_189 rfl (lv_at hl 0 rfl) ?_
    refine wmgR_0_70 S X mG_2120 dX12_lift_190 ?_
    refine lv_iload hx hb dX12_lift_193 (lv_at hl 2 rfl) ?_
    refine lv_iload hx hb dX12_lift_195 (lv_at hl 3 rfl) ?_
    refine lv_iconst (v := 1) hx hb dX12_lift_197 (by decide) ?_
    refine lv_iadd hx hb dX12_lift_198 ?_
    obtain ⟨hi199, hg⟩ := gd_some hg
    refine wmsA_37 S X hi199 dX12_lift_199 (fun H locs X => ?_)
    refine lv_aload_n hx hb dX12_lift_200 rfl (lv_at hl 0 rfl) ?_
    refine wmgR_0_72 S X mG_2122 dX12_lift_201 ?_
    refine lv_iload hx hb dX12_lift_204 (lv_at hl 2 rfl) ?_
    refine lv_lload hx hb dX12_lift_206 (lv_at hl 4 rfl) ?_
    obtain ⟨hi208, hg⟩ := gd_some hg
    refine wmsB_5 S X hi208 dX12_lift_208 (fun H locs X => ?_)
    refine lv_aload_n hx hb dX12_lift_209 rfl (lv_at hl 0 rfl) ?_
    refine wmgR_0_84 S X mG_2134 dX12_lift_210 ?_
    refine lv_aload_n hx hb dX12_lift_213 rfl (lv_at hl 0 rfl) ?_
    refine wmgI_28 (v := (gI σ 28)) S X mG_2133 rfl dX12_lift_214 ?_
    refine lv_iload hx hb dX12_lift_217 (lv_at hl 2 rfl) ?_
    obtain ⟨hi219, hg⟩ := gd_some hg
    refine wmsA_48 S X hi219 dX12_lift_219 (fun H locs X => ?_)
    refine lv_aload_n hx hb dX12_lift_220 rfl (lv_at hl 0 rfl) ?_
    refine lv_dup hx hb dX12_lift_221 rfl ?_
    refine wmgI_28 (v := (gI σ 28)) S X mG_2133 rfl dX12_lift_222 ?_
    refine lv_iconst (v := 1) hx hb dX12_lift_225 (by decide) ?_
    refine lv_iadd hx hb dX12_lift_226 ?_
    refine wmpI_28 S X mG_2133 dX12_lift_227 (fun H locs X => ?_)
    refine lv_iload hx hb dX12_lift_230 (lv_at hl 2 rfl) ?_
    obtain ⟨rfl, rfl⟩ := fin_some hg
    exact gr_i S hr hk X dX12_lift_232
  · have hg := (if_neg c111).symm.trans hg
    refine lv_aload_n hx hb dX12_lift_114 rfl (lv_at hl 0 rfl) ?_
    refine wmgR_0_84 S X mG_2134 dX12_lift_115 ?_
    refine lv_aload_n hx hb dX12_lift_118 rfl (lv_at hl 0 rfl) ?_
    refine wmgI_28 (v := (gI σ 28)) S X mG_2133 rfl dX12_lift_119 ?_
    refine lv_iload hx hb dX12_lift_122 (lv_at hl 5 rfl) ?_
    refine lv_iadd hx hb dX12_lift_124 ?_
    obtain ⟨hi125, hg⟩ := gd_some hg
    refine wmlA_48 (v := (xA σ 48 ((gI σ 28) + v8))) S X hi125 rfl dX12_lift_125 ?_
    refine lv_istore (lv' := [(9, .int (xA σ 48 ((gI σ 28) + v8))), (0, .ref (ad 0)), (3, .int v3), (4, .int v4), (5, .int v5), (6, .long v6), (8, .int v8)]) hx hb dX12_lift_126 hl (by decide) rfl (fun ls hl => ?_)
    refine lv_aload_n hx hb dX12_lift_128 rfl (lv_at hl 1 rfl) ?_
    refine wmgR_0_74 S X mG_2124 dX12_lift_129 ?_
    refine lv_aload_n hx hb dX12_lift_132 rfl (lv_at hl 1 rfl) ?_
    refine wmgR_0_66 S X mG_2116 dX12_lift_133 ?_
    refine lv_iload hx hb dX12_lift_136 (lv_at hl 3 rfl) ?_
    obtain ⟨hi138, hg⟩ := gd_some hg
    refine wmlA_33 (v := (xA σ 33 v4)) S X hi138 rfl dX12_lift_138 ?_
    refine lv_iload hx hb dX12_lift_139 (lv_at hl 6 rfl) ?_
    refine lv_iadd hx hb dX12_lift_141 ?_
    refine lv_iload hx hb dX12_lift_142 (lv_at hl 0 rfl) ?_
    obtain ⟨hi144, hg⟩ := gd_some hg
    refine wmsA_39 S X hi144 dX12_lift_144 (fun H locs X => ?_)
    refine lv_aload_n hx hb dX12_lift_145 rfl (lv_at hl 1 rfl) ?_
    refine wmgR_0_70 S X mG_2120 dX12_lift_146 ?_
    refine lv_iload hx hb dX12_lift_149 (lv_at hl 0 rfl) ?_
    obtain ⟨hi151, hg⟩ := gd_some hg
    refine wmlA_37 (v := (xA σ 37 (xA σ 48 ((gI σ 28) + v8)))) S X hi151 rfl dX12_lift_151 ?_
    refine lv_iload hx hb dX12_lift_152 (lv_at hl 4 rfl) ?_
    refine lv_icmp_le (tgt := 167) hx hb dX12_lift_154 (by decide) (fun c154 => ?_) (fun c154 => ?_)
    · have hg := (if_pos c154).symm.trans hg
      refine lv_iload hx hb dX12_lift_167 (lv_at hl 4 rfl) ?_
      exact w_X12_lift_b169 S hr hk hR hrec108 X (lv_sub hl [1, 2, 3, 5, 6, 0] rfl) hg
    · have hg := (if_neg c154).symm.trans hg
      refine lv_aload_n hx hb dX12_lift_157 rfl (lv_at hl 1 rfl) ?_
      refine wmgR_0_70 S X mG_2120 dX12_lift_158 ?_
      refine lv_iload hx hb dX12_lift_161 (lv_at hl 0 rfl) ?_
      obtain ⟨hi163, hg⟩ := gd_some hg
      refine wmlA_37 (v := (xA σ 37 (xA σ 48 ((gI σ 28) + v8)))) S X hi163 rfl dX12_lift_163 ?_
      refine lv_goto (tgt := 169) hx hb dX12_lift_164 (by decide) ?_
      exact w_X12_lift_b169 S hr hk hR hrec108 X (lv_sub hl [1, 2, 3, 5, 6, 0] rfl) hg
set_option maxHeartbeats 4000000 in
set_option maxRecDepth 100000 in
theorem w_X12_lift_L108 (S : CallFix p m c cX12_lift 10 s args uG RX12) (hr : meth.sig.returnType = (some .int)) (hk : meth.locks = false) (hR : 0 ≤ R.frames ∧ 0 ≤ R.locals) : ∀ (n : Nat) (v3 : Int32) (v4 : Int32) (v5 : Int32) (v6 : Int64) (v8 : Int32) (σ : S5) (H : Heap) (locs : List Loc) (ls : Array Slot), gX (dC, dI) (tM kc) (wM ad kc) Z A s σ H locs → lv_has ls 10 [(0, .ref (ad 0)), (3, .int v3), (4, .int v4), (5, .int v5), (6, .long v6), (8, .int v8)] → f_X12_lift_L108  n v3 v4 v5 v6 v8 σ = some (r, τ) → W p l e R s m args below meth c H locs 0 0 (MQ below (gQi (dC, dI) (tM kc) (wM ad kc) A r τ) args s 0 0 A) (F0 m 108 ls []) := by
  intro n
  induction n with
  | zero => intro v3 v4 v5 v6 v8 σ H locs ls X hl hg; cases hg
  | succ n ih => intro v3 v4 v5 v6 v8 σ H locs ls X hl hg; exact w_X12_lift_B108 S hr hk hR ih X hl hg
set_option maxHeartbeats 4000000 in
set_option maxRecDepth 100000 in
theorem w_X12_lift_b103 {σ : S5} {v3 : Int32} {v4 : Int32} {v5 : Int32} {u0 : Int64} {H : Heap} {locs : List Loc} {ls : Array Slot} (S : CallFix p m c cX12_lift 10 s args uG RX12) (hr : meth.sig.returnType = (some .int)) (hk : meth.locks = false) (hR : 0 ≤ R.frames ∧ 0 ≤ R.locals)
    (X : gX (dC, dI) (tM kc) (wM ad kc) Z A s σ H locs) (hl : lv_has ls 10 [(0, .ref (ad 0)), (3, .int v3), (4, .int v4), (5, .int v5)]) (hg : f_X12_lift_b103 v3 v4 v5 u0 σ = some (r, τ)) : W p l e R s m args below meth c H locs 0 0 (MQ below (gQi (dC, dI) (tM kc) (wM ad kc) A r τ) args s 0 0 A) (F0 m 103 ls [.long u0]) := by
  have hx := S.1
  have hb := S.2.1
  have hown := S.2.2.2.1
  have hu := S.2.2.2.2
  unfold f_X12_lift_b103 at hg
  refine lv_lstore (lv' := [(6, .long u0), (0, .ref (ad 0)), (3, .int v3), (4, .int v4), (5, .int v5)]) hx hb dX12_lift_103 hl (by decide) rfl (fun ls hl => ?_)
  refine lv_iconst (v := 0) hx hb dX12_lift_105 (by decide) ?_
  refine lv_istore (lv' := [(8, .int 0), (6, .long u0), (0, .ref (ad 0)), (3, .int v3), (4, .int v4), (5, .int v5)]) hx hb dX12_lift_106 hl (by decide) rfl (fun ls hl => ?_)
  exact w_X12_lift_L108 S hr hk hR _ _ _ _ _ _ _ _ _ _ X (lv_sub hl [2, 3, 4, 5, 1, 0] rfl) hg
set_option maxHeartbeats 4000000 in
set_option maxRecDepth 100000 in
theorem w_X12_lift {σ : S5} {a1 : Int32} {a2 : Int32} {a3 : Int32} {H : Heap} {locs : List Loc} {ls : Array Slot} (S : CallFix p m c cX12_lift 10 s args uG RX12) (hr : meth.sig.returnType = (some .int)) (hk : meth.locks = false) (hR : 0 ≤ R.frames ∧ 0 ≤ R.locals)
    (X : gX (dC, dI) (tM kc) (wM ad kc) Z A s σ H locs) (hl : lv_has ls 10 [(0, .ref (ad 0)), (1, .int a1), (2, .int a2), (3, .int a3)]) (hg : f_X12_lift a1 a2 a3 σ = some (r, τ)) : W p l e R s m args below meth c H locs 0 0 (MQ below (gQi (dC, dI) (tM kc) (wM ad kc) A r τ) args s 0 0 A) (F0 m 0 ls []) := by
  have hx := S.1
  have hb := S.2.1
  have hown := S.2.2.2.1
  have hu := S.2.2.2.2
  unfold f_X12_lift at hg
  refine lv_aload_n hx hb dX12_lift_0 rfl (lv_at hl 0 rfl) ?_
  refine wmgI_26 (v := (gI σ 26)) S X mG_2113 rfl dX12_lift_1 ?_
  refine lv_istore (lv' := [(4, .int (gI σ 26)), (0, .ref (ad 0)), (1, .int a1), (2, .int a2), (3, .int a3)]) hx hb dX12_lift_4 hl (by decide) rfl (fun ls hl => ?_)
  refine lv_aload_n hx hb dX12_lift_6 rfl (lv_at hl 1 rfl) ?_
  refine lv_dup hx hb dX12_lift_7 rfl ?_
  refine wmgI_26 (v := (gI σ 26)) S X mG_2113 rfl dX12_lift_8 ?_
  refine lv_iconst (v := 1) hx hb dX12_lift_11 (by decide) ?_
  refine lv_iadd hx hb dX12_lift_12 ?_
  refine wmpI_26 S X mG_2113 dX12_lift_13 (fun H locs X => ?_)
  refine lv_aload_n hx hb dX12_lift_16 rfl (lv_at hl 1 rfl) ?_
  refine wmgR_0_64 S X mG_2114 dX12_lift_17 ?_
  refine lv_iload hx hb dX12_lift_20 (lv_at hl 0 rfl) ?_
  refine lv_iload_n hx hb dX12_lift_22 rfl (lv_at hl 2 rfl) ?_
  obtain ⟨hi23, hg⟩ := gd_some hg
  refine wmsA_31 S X hi23 dX12_lift_23 (fun H locs X => ?_)
  refine lv_aload_n hx hb dX12_lift_24 rfl (lv_at hl 1 rfl) ?_
  refine wmgR_0_65 S X mG_2115 dX12_lift_25 ?_
  refine lv_iload hx hb dX12_lift_28 (lv_at hl 0 rfl) ?_
  refine lv_iload_n hx hb dX12_lift_30 rfl (lv_at hl 3 rfl) ?_
  obtain ⟨hi31, hg⟩ := gd_some hg
  refine wmsA_32 S X hi31 dX12_lift_31 (fun H locs X => ?_)
  refine lv_aload_n hx hb dX12_lift_32 rfl (lv_at hl 1 rfl) ?_
  refine wmgR_0_66 S X mG_2116 dX12_lift_33 ?_
  refine lv_iload hx hb dX12_lift_36 (lv_at hl 0 rfl) ?_
  refine lv_aload_n hx hb dX12_lift_38 rfl (lv_at hl 1 rfl) ?_
  refine wmgI_27 (v := (gI σ 27)) S X mG_2123 rfl dX12_lift_39 ?_
  obtain ⟨hi42, hg⟩ := gd_some hg
  refine wmsA_33 S X hi42 dX12_lift_42 (fun H locs X => ?_)
  refine lv_aload_n hx hb dX12_lift_43 rfl (lv_at hl 1 rfl) ?_
  refine wmgR_0_67 S X mG_2117 dX12_lift_44 ?_
  refine lv_iload hx hb dX12_lift_47 (lv_at hl 0 rfl) ?_
  refine lv_iload_n hx hb dX12_lift_49 rfl (lv_at hl 4 rfl) ?_
  obtain ⟨hi50, hg⟩ := gd_some hg
  refine wmsA_34 S X hi50 dX12_lift_50 (fun H locs X => ?_)
  refine lv_aload_n hx hb dX12_lift_51 rfl (lv_at hl 1 rfl) ?_
  refine wmgR_0_68 S X mG_2118 dX12_lift_52 ?_
  refine lv_iload hx hb dX12_lift_55 (lv_at hl 0 rfl) ?_
  refine lv_iconst (v := 0) hx hb dX12_lift_57 (by decide) ?_
  obtain ⟨hi58, hg⟩ := gd_some hg
  refine wmsA_35 S X hi58 dX12_lift_58 (fun H locs X => ?_)
  refine lv_aload_n hx hb dX12_lift_59 rfl (lv_at hl 1 rfl) ?_
  refine wmgR_0_69 S X mG_2119 dX12_lift_60 ?_
  refine lv_iload hx hb dX12_lift_63 (lv_at hl 0 rfl) ?_
  refine lv_iconst (v := 0) hx hb dX12_lift_65 (by decide) ?_
  obtain ⟨hi66, hg⟩ := gd_some hg
  refine wmsA_36 S X hi66 dX12_lift_66 (fun H locs X => ?_)
  refine lv_aload_n hx hb dX12_lift_67 rfl (lv_at hl 1 rfl) ?_
  refine lv_dup hx hb dX12_lift_68 rfl ?_
  refine wmgI_27 (v := (gI σ 27)) S X mG_2123 rfl dX12_lift_69 ?_
  refine lv_iload_n hx hb dX12_lift_72 rfl (lv_at hl 4 rfl) ?_
  refine lv_iadd hx hb dX12_lift_73 ?_
  refine wmpI_27 S X mG_2123 dX12_lift_74 (fun H locs X => ?_)
  refine lv_aload_n hx hb dX12_lift_77 rfl (lv_at hl 1 rfl) ?_
  refine lv_dup hx hb dX12_lift_78 rfl ?_
  refine wmgI_28 (v := (gI σ 28)) S X mG_2133 rfl dX12_lift_79 ?_
  refine lv_iload_n hx hb dX12_lift_82 rfl (lv_at hl 4 rfl) ?_
  refine lv_isub hx hb dX12_lift_83 ?_
  refine wmpI_28 S X mG_2133 dX12_lift_84 (fun H locs X => ?_)
  refine lv_iconst (v := 0) hx hb dX12_lift_87 (by decide) ?_
  refine lv_istore (lv' := [(5, .int 0), (4, .int (gI σ 26)), (0, .ref (ad 0)), (1, .int a1), (2, .int a2), (3, .int a3)]) hx hb dX12_lift_88 hl (by decide) rfl (fun ls hl => ?_)
  refine lv_iload_n hx hb dX12_lift_90 rfl (lv_at hl 3 rfl) ?_
  refine lv_bipush (v := 13) hx hb dX12_lift_91 (by decide) ?_
  refine lv_icmp_ne (tgt := 102) hx hb dX12_lift_93 (by decide) (fun c93 => ?_) (fun c93 => ?_)
  · have hg := (if_neg c93).symm.trans hg
    refine lv_lconst (v := 0) hx hb dX12_lift_102 rfl ?_
    exact w_X12_lift_b103 S hr hk hR X (lv_sub hl [2, 5, 1, 0] rfl) hg
  · have hg := (if_pos c93).symm.trans hg
    refine lv_lconst (v := 1) hx hb dX12_lift_96 rfl ?_
    refine lv_iload_n hx hb dX12_lift_97 rfl (lv_at hl 4 rfl) ?_
    refine lv_lshl (v := (j_lshl 1 a2)) hx hb dX12_lift_98 rfl ?_
    refine lv_goto (tgt := 103) hx hb dX12_lift_99 (by decide) ?_
    exact w_X12_lift_b103 S hr hk hR X (lv_sub hl [2, 5, 1, 0] rfl) hg
end MX12_lift
set_option maxRecDepth 100000 in
theorem k2_X12_lift (l : Launch) (dC : Nat → ClassId) (dI : Nat → Nat → Nat) {Z : ZZ} (ad : Nat → Nat) (kc : Nat → ClassId) {σ τ : S5} {a1 : Int32} {a2 : Int32} {a3 : Int32} {r : Int32} (hg : f_X12_lift a1 a2 a3 σ = some (r, τ)) (sz : Nat) : Met l yX12_lift (Cond.code yX12_lift cX12_lift 10 (some .int) :: uG) { frames := 0, cells := 0, slots := 0, locals := 0 } (gPc (dC, dI) (tM kc) (wM ad kc) Z [.ref (ad 0), .int a1, .int a2, .int a3] σ sz) (gQi (dC, dI) (tM kc) (wM ad kc) (va_A (wM ad kc σ) sz) r τ) 0 0 (va_A (wM ad kc σ) sz) :=
  g_start (by decide) (Nat.le_of_ble_eq_true rfl) (fun p e s m below meth c ls S hr hk X hl => w_X12_lift S hr hk ⟨Nat.le_refl _, Nat.le_refl _⟩ X hl hg)
section MX12_child
variable {p : Program} {l : Launch} {e : Env} {R : Room} {s : State} {m : MethodId} {args : Array Value} {below : List Frame} {meth : Method} {c : Code} {dC : Nat → ClassId} {dI : Nat → Nat → Nat} {Z : ZZ} {A : Nat → Prop} {ad : Nat → Nat} {kc : Nat → ClassId} {r : Int32} {τ : S5}
set_option maxHeartbeats 4000000 in
set_option maxRecDepth 100000 in
theorem w_X12_child {σ : S5} {a1 : Int32} {a2 : Int32} {H : Heap} {locs : List Loc} {ls : Array Slot} (S : CallFix p m c cX12_child 3 s args uG RX12) (hr : meth.sig.returnType = (some .int)) (hk : meth.locks = false) (hR : 0 ≤ R.frames ∧ 0 ≤ R.locals)
    (X : gX (dC, dI) (tM kc) (wM ad kc) Z A s σ H locs) (hl : lv_has ls 3 [(0, .ref (ad 0)), (1, .int a1), (2, .int a2)]) (hg : f_X12_child a1 a2 σ = some (r, τ)) : W p l e R s m args below meth c H locs 0 0 (MQ below (gQi (dC, dI) (tM kc) (wM ad kc) A r τ) args s 0 0 A) (F0 m 0 ls []) := by
  have hx := S.1
  have hb := S.2.1
  have hown := S.2.2.2.1
  have hu := S.2.2.2.2
  unfold f_X12_child at hg
  refine lv_aload_n hx hb dX12_child_0 rfl (lv_at hl 0 rfl) ?_
  refine wmgR_0_74 S X mG_2124 dX12_child_1 ?_
  refine lv_aload_n hx hb dX12_child_4 rfl (lv_at hl 0 rfl) ?_
  refine wmgR_0_66 S X mG_2116 dX12_child_5 ?_
  refine lv_iload_n hx hb dX12_child_8 rfl (lv_at hl 1 rfl) ?_
  obtain ⟨hi9, hg⟩ := gd_some hg
  refine wmlA_33 (v := (xA σ 33 a1)) S X hi9 rfl dX12_child_9 ?_
  refine lv_iload_n hx hb dX12_child_10 rfl (lv_at hl 2 rfl) ?_
  refine lv_iadd hx hb dX12_child_11 ?_
  obtain ⟨hi12, hg⟩ := gd_some hg
  refine wmlA_39 (v := (xA σ 39 ((xA σ 33 a1) + a2))) S X hi12 rfl dX12_child_12 ?_
  obtain ⟨rfl, rfl⟩ := fin_some hg
  exact gr_i S hr hk X dX12_child_13
end MX12_child
set_option maxRecDepth 100000 in
theorem k2_X12_child (l : Launch) (dC : Nat → ClassId) (dI : Nat → Nat → Nat) {Z : ZZ} (ad : Nat → Nat) (kc : Nat → ClassId) {σ τ : S5} {a1 : Int32} {a2 : Int32} {r : Int32} (hg : f_X12_child a1 a2 σ = some (r, τ)) (sz : Nat) : Met l yX12_child (Cond.code yX12_child cX12_child 3 (some .int) :: uG) { frames := 0, cells := 0, slots := 0, locals := 0 } (gPc (dC, dI) (tM kc) (wM ad kc) Z [.ref (ad 0), .int a1, .int a2] σ sz) (gQi (dC, dI) (tM kc) (wM ad kc) (va_A (wM ad kc σ) sz) r τ) 0 0 (va_A (wM ad kc σ) sz) :=
  g_start (by decide) (Nat.le_of_ble_eq_true rfl) (fun p e s m below meth c ls S hr hk X hl => w_X12_child S hr hk ⟨Nat.le_refl _, Nat.le_refl _⟩ X hl hg)
section MX12_local
variable {p : Program} {l : Launch} {e : Env} {R : Room} {s : State} {m : MethodId} {args : Array Value} {below : List Frame} {meth : Method} {c : Code} {dC : Nat → ClassId} {dI : Nat → Nat → Nat} {Z : ZZ} {A : Nat → Prop} {ad : Nat → Nat} {kc : Nat → ClassId} {r : Int32} {τ : S5}
set_option maxHeartbeats 4000000 in
set_option maxRecDepth 100000 in
theorem w_X12_local_B26 {σ : S5} {rec26 : Int32 → Int32 → Int32 → S5 → Option (Int32 × S5)} {v1 : Int32} {v2 : Int32} {v3 : Int32} {H : Heap} {locs : List Loc} {ls : Array Slot} (S : CallFix p m c cX12_local 4 s args uG RX12) (hr : meth.sig.returnType = (some .int)) (hk : meth.locks = false) (hR : 0 ≤ R.frames ∧ 0 ≤ R.locals)
    (hrec26 : ∀ (v1 : Int32) (v2 : Int32) (v3 : Int32) (σ : S5) (H : Heap) (locs : List Loc) (ls : Array Slot), gX (dC, dI) (tM kc) (wM ad kc) Z A s σ H locs → lv_has ls 4 [(0, .ref (ad 0)), (1, .int v1), (2, .int v2), (3, .int v3)] → rec26 v1 v2 v3 σ = some (r, τ) → W p l e R s m args below meth c H locs 0 0 (MQ below (gQi (dC, dI) (tM kc) (wM ad kc) A r τ) args s 0 0 A) (F0 m 26 ls []))
    (X : gX (dC, dI) (tM kc) (wM ad kc) Z A s σ H locs) (hl : lv_has ls 4 [(0, .ref (ad 0)), (1, .int v1), (2, .int v2), (3, .int v3)]) (hg : f_X12_local_B26 rec26 v1 v2 v3 σ = some (r, τ)) : W p l e R s m args below meth c H locs 0 0 (MQ below (gQi (dC, dI) (tM kc) (wM ad kc) A r τ) args s 0 0 A) (F0 m 26 ls []) := by
  have hx := S.1
  have hb := S.2.1
  have hown := S.2.2.2.1
  have hu := S.2.2.2.2
  unfold f_X12_local_B26 at hg
  refine lv_aload_n hx hb dX12_local_26 rfl (lv_at hl 0 rfl) ?_
  refine wmgR_0_49 S X mG_2099 dX12_local_27 ?_
  refine lv_bipush (v := 9) hx hb dX12_local_30 (by decide) ?_
  refine lv_iload_n hx hb dX12_local_32 rfl (lv_at hl 1 rfl) ?_
  refine lv_imul hx hb dX12_local_33 ?_
  refine lv_iload_n hx hb dX12_local_34 rfl (lv_at hl 3 rfl) ?_
  refine lv_iadd hx hb dX12_local_35 ?_
  obtain ⟨hi36, hg⟩ := gd_some hg
  refine wmlA_21 (v := (xA σ 21 ((9 * v1) + v3))) S X hi36 rfl dX12_local_36 ?_
  refine lv_iload_n hx hb dX12_local_37 rfl (lv_at hl 2 rfl) ?_
  refine lv_icmp_eq (tgt := 47) hx hb dX12_local_38 (by decide) (fun c38 => ?_) (fun c38 => ?_)
  · have hg := (if_pos c38).symm.trans hg
    refine lv_iload_n hx hb dX12_local_47 rfl (lv_at hl 3 rfl) ?_
    obtain ⟨rfl, rfl⟩ := fin_some hg
    exact gr_i S hr hk X dX12_local_48
  · have hg := (if_neg c38).symm.trans hg
    refine lv_iinc (v := (v3 + 1)) (lv' := [(3, .int (v3 + 1)), (0, .ref (ad 0)), (1, .int v1), (2, .int v2)]) hx hb dX12_local_41 hl (k := 3) rfl (by rfl) (by decide) rfl (fun ls hl => ?_)
    refine lv_goto (tgt := 26) hx hb dX12_local_44 (by decide) ?_
    exact hrec26 _ _ _ _ _ _ _ X (lv_sub hl [1, 2, 3, 0] rfl) hg
set_option maxHeartbeats 4000000 in
set_option maxRecDepth 100000 in
theorem w_X12_local_L26 (S : CallFix p m c cX12_local 4 s args uG RX12) (hr : meth.sig.returnType = (some .int)) (hk : meth.locks = false) (hR : 0 ≤ R.frames ∧ 0 ≤ R.locals) : ∀ (n : Nat) (v1 : Int32) (v2 : Int32) (v3 : Int32) (σ : S5) (H : Heap) (locs : List Loc) (ls : Array Slot), gX (dC, dI) (tM kc) (wM ad kc) Z A s σ H locs → lv_has ls 4 [(0, .ref (ad 0)), (1, .int v1), (2, .int v2), (3, .int v3)] → f_X12_local_L26  n v1 v2 v3 σ = some (r, τ) → W p l e R s m args below meth c H locs 0 0 (MQ below (gQi (dC, dI) (tM kc) (wM ad kc) A r τ) args s 0 0 A) (F0 m 26 ls []) := by
  intro n
  induction n with
  | zero => intro v1 v2 v3 σ H locs ls X hl hg; cases hg
  | succ n ih => intro v1 v2 v3 σ H locs ls X hl hg; exact w_X12_local_B26 S hr hk hR ih X hl hg
set_option maxHeartbeats 4000000 in
set_option maxRecDepth 100000 in
theorem w_X12_local {σ : S5} {a1 : Int32} {a2 : Int32} {H : Heap} {locs : List Loc} {ls : Array Slot} (S : CallFix p m c cX12_local 4 s args uG RX12) (hr : meth.sig.returnType = (some .int)) (hk : meth.locks = false) (hR : 0 ≤ R.frames ∧ 0 ≤ R.locals)
    (X : gX (dC, dI) (tM kc) (wM ad kc) Z A s σ H locs) (hl : lv_has ls 4 [(0, .ref (ad 0)), (1, .int a1), (2, .int a2)]) (hg : f_X12_local a1 a2 σ = some (r, τ)) : W p l e R s m args below meth c H locs 0 0 (MQ below (gQi (dC, dI) (tM kc) (wM ad kc) A r τ) args s 0 0 A) (F0 m 0 ls []) := by
  have hx := S.1
  have hb := S.2.1
  have hown := S.2.2.2.1
  have hu := S.2.2.2.2
  unfold f_X12_local at hg
  refine lv_aload_n hx hb dX12_local_0 rfl (lv_at hl 0 rfl) ?_
  refine wmgR_0_51 S X mG_2101 dX12_local_1 ?_
  refine lv_iload_n hx hb dX12_local_4 rfl (lv_at hl 2 rfl) ?_
  obtain ⟨hi5, hg⟩ := gd_some hg
  refine wmlA_22 (v := (xA σ 22 a2)) S X hi5 rfl dX12_local_5 ?_
  refine lv_iload_n hx hb dX12_local_6 rfl (lv_at hl 1 rfl) ?_
  refine lv_icmp_ne (tgt := 24) hx hb dX12_local_7 (by decide) (fun c7 => ?_) (fun c7 => ?_)
  · have hg := (if_neg c7).symm.trans hg
    refine lv_iconst (v := 0) hx hb dX12_local_24 (by decide) ?_
    refine lv_istore_n (lv' := [(3, .int 0), (0, .ref (ad 0)), (1, .int a1), (2, .int a2)]) hx hb dX12_local_25 rfl hl (by decide) rfl (fun ls hl => ?_)
    exact w_X12_local_L26 S hr hk hR _ _ _ _ _ _ _ _ X (lv_sub hl [1, 2, 3, 0] rfl) hg
  · have hg := (if_pos c7).symm.trans hg
    refine lv_aload_n hx hb dX12_local_10 rfl (lv_at hl 0 rfl) ?_
    refine wmgR_0_48 S X mG_2098 dX12_local_11 ?_
    refine lv_iload_n hx hb dX12_local_14 rfl (lv_at hl 1 rfl) ?_
    obtain ⟨hi15, hg⟩ := gd_some hg
    refine wmlA_20 (v := (xA σ 20 a1)) S X hi15 rfl dX12_local_15 ?_
    refine lv_aload_n hx hb dX12_local_16 rfl (lv_at hl 0 rfl) ?_
    refine wmgR_0_52 S X mG_2102 dX12_local_17 ?_
    refine lv_iload_n hx hb dX12_local_20 rfl (lv_at hl 2 rfl) ?_
    obtain ⟨hi21, hg⟩ := gd_some hg
    refine wmlA_23 (v := (xA σ 23 a2)) S X hi21 rfl dX12_local_21 ?_
    refine lv_iadd hx hb dX12_local_22 ?_
    obtain ⟨rfl, rfl⟩ := fin_some hg
    exact gr_i S hr hk X dX12_local_23
end MX12_local
set_option maxRecDepth 100000 in
theorem k2_X12_local (l : Launch) (dC : Nat → ClassId) (dI : Nat → Nat → Nat) {Z : ZZ} (ad : Nat → Nat) (kc : Nat → ClassId) {σ τ : S5} {a1 : Int32} {a2 : Int32} {r : Int32} (hg : f_X12_local a1 a2 σ = some (r, τ)) (sz : Nat) : Met l yX12_local (Cond.code yX12_local cX12_local 4 (some .int) :: uG) { frames := 0, cells := 0, slots := 0, locals := 0 } (gPc (dC, dI) (tM kc) (wM ad kc) Z [.ref (ad 0), .int a1, .int a2] σ sz) (gQi (dC, dI) (tM kc) (wM ad kc) (va_A (wM ad kc σ) sz) r τ) 0 0 (va_A (wM ad kc σ) sz) :=
  g_start (by decide) (Nat.le_of_ble_eq_true rfl) (fun p e s m below meth c ls S hr hk X hl => w_X12_local S hr hk ⟨Nat.le_refl _, Nat.le_refl _⟩ X hl hg)
section MX12_liftFunction
variable {p : Program} {l : Launch} {e : Env} {R : Room} {s : State} {m : MethodId} {args : Array Value} {below : List Frame} {meth : Method} {c : Code} {dC : Nat → ClassId} {dI : Nat → Nat → Nat} {Z : ZZ} {A : Nat → Prop} {ad : Nat → Nat} {kc : Nat → ClassId} {r : Unit} {τ : S5}
set_option maxHeartbeats 4000000 in
set_option maxRecDepth 100000 in
theorem w_X12_liftFunction_B11 {σ : S5} {rec11 : Int32 → Int32 → Int32 → S5 → Option (Unit × S5)} {v1 : Int32} {v2 : Int32} {v3 : Int32} {H : Heap} {locs : List Loc} {ls : Array Slot} (S : CallFix p m c cX12_liftFunction 4 s args uG RX12) (hr : meth.sig.returnType = none) (hk : meth.locks = false) (hR : 1 ≤ R.frames ∧ 29 ≤ R.locals)
    (hrec11 : ∀ (v1 : Int32) (v2 : Int32) (v3 : Int32) (σ : S5) (H : Heap) (locs : List Loc) (ls : Array Slot), gX (dC, dI) (tM kc) (wM ad kc) Z A s σ H locs → lv_has ls 4 [(0, .ref (ad 0)), (1, .int v1), (2, .int v2), (3, .int v3)] → rec11 v1 v2 v3 σ = some (r, τ) → W p l e R s m args below meth c H locs 0 0 (MQ below (gQv (dC, dI) (tM kc) (wM ad kc) A r τ) args s 0 0 A) (F0 m 11 ls []))
    (X : gX (dC, dI) (tM kc) (wM ad kc) Z A s σ H locs) (hl : lv_has ls 4 [(0, .ref (ad 0)), (1, .int v1), (2, .int v2), (3, .int v3)]) (hg : f_X12_liftFunction_B11 rec11 v1 v2 v3 σ = some (r, τ)) : W p l e R s m args below meth c H locs 0 0 (MQ below (gQv (dC, dI) (tM kc) (wM ad kc) A r τ) args s 0 0 A) (F0 m 11 ls []) := by
  have hx := S.1
  have hb := S.2.1
  have hown := S.2.2.2.1
  have hu := S.2.2.2.2
  unfold f_X12_liftFunction_B11 at hg
  refine lv_iload_n hx hb dX12_liftFunction_11 rfl (lv_at hl 3 rfl) ?_
  refine lv_aload_n hx hb dX12_liftFunction_12 rfl (lv_at hl 0 rfl) ?_
  refine wmgR_0_48 S X mG_2098 dX12_liftFunction_13 ?_
  refine lv_iload_n hx hb dX12_liftFunction_16 rfl (lv_at hl 2 rfl) ?_
  obtain ⟨hi17, hg⟩ := gd_some hg
  refine wmlA_20 (v := (xA σ 20 v2)) S X hi17 rfl dX12_liftFunction_17 ?_
  refine lv_icmp_ge (tgt := 51) hx hb dX12_liftFunction_18 (by decide) (fun c18 => ?_) (fun c18 => ?_)
  · have hg := (if_pos c18).symm.trans hg
    refine lv_aload_n hx hb dX12_liftFunction_51 rfl (lv_at hl 0 rfl) ?_
    refine wmgR_0_48 S X mG_2098 dX12_liftFunction_52 ?_
    refine lv_iload_n hx hb dX12_liftFunction_55 rfl (lv_at hl 2 rfl) ?_
    obtain ⟨hi56, hg⟩ := gd_some hg
    refine wmlA_20 (v := (xA σ 20 v2)) S X hi56 rfl dX12_liftFunction_56 ?_
    refine lv_if_le (tgt := 76) hx hb dX12_liftFunction_57 (by decide) (fun c57 => ?_) (fun c57 => ?_)
    · have hg := (if_pos c57).symm.trans hg
      obtain ⟨-, rfl⟩ := fin_some hg
      exact gr_v S hr hk X dX12_liftFunction_76
    · have hg := (if_neg c57).symm.trans hg
      refine lv_aload_n hx hb dX12_liftFunction_60 rfl (lv_at hl 0 rfl) ?_
      refine lv_bipush (v := 6) hx hb dX12_liftFunction_61 (by decide) ?_
      refine lv_iconst (v := 0) hx hb dX12_liftFunction_63 (by decide) ?_
      refine lv_iconst (v := 1) hx hb dX12_liftFunction_64 (by decide) ?_
      refine lv_aload_n hx hb dX12_liftFunction_65 rfl (lv_at hl 0 rfl) ?_
      refine wmgR_0_48 S X mG_2098 dX12_liftFunction_66 ?_
      refine lv_iload_n hx hb dX12_liftFunction_69 rfl (lv_at hl 2 rfl) ?_
      obtain ⟨hi70, hg⟩ := gd_some hg
      refine wmlA_20 (v := (xA σ 20 v2)) S X hi70 rfl dX12_liftFunction_70 ?_
      refine lv_iadd hx hb dX12_liftFunction_71 ?_
      obtain ⟨r72, τ72, hq72, hg⟩ := bd_some hg
      refine gc_Vi (As := [.int 6, .int 0, .int (1 + (xA σ 20 v2))]) (rest := []) (q0 := 0) (ci := 15) S X (k2_X12_lift l dC dI ad kc hq72 H.size) cw_X12_lift mG_2724 rfl rfl rfl rfl rfl hl.1 (Nat.le_of_ble_eq_true rfl) dX12_liftFunction_72 ⟨by omega, by omega⟩ (fun H locs X => ?_)
      refine lv_pop hx hb dX12_liftFunction_75 rfl ?_
      obtain ⟨-, rfl⟩ := fin_some hg
      exact gr_v S hr hk X dX12_liftFunction_76
  · have hg := (if_neg c18).symm.trans hg
    refine lv_aload_n hx hb dX12_liftFunction_21 rfl (lv_at hl 0 rfl) ?_
    refine lv_bipush (v := 13) hx hb dX12_liftFunction_22 (by decide) ?_
    refine lv_aload_n hx hb dX12_liftFunction_24 rfl (lv_at hl 0 rfl) ?_
    refine lv_iload_n hx hb dX12_liftFunction_25 rfl (lv_at hl 1 rfl) ?_
    refine lv_aload_n hx hb dX12_liftFunction_26 rfl (lv_at hl 0 rfl) ?_
    refine wmgR_0_49 S X mG_2099 dX12_liftFunction_27 ?_
    refine lv_bipush (v := 9) hx hb dX12_liftFunction_30 (by decide) ?_
    refine lv_iload_n hx hb dX12_liftFunction_32 rfl (lv_at hl 2 rfl) ?_
    refine lv_imul hx hb dX12_liftFunction_33 ?_
    refine lv_iload_n hx hb dX12_liftFunction_34 rfl (lv_at hl 3 rfl) ?_
    refine lv_iadd hx hb dX12_liftFunction_35 ?_
    obtain ⟨hi36, hg⟩ := gd_some hg
    refine wmlA_21 (v := (xA σ 21 ((9 * v2) + v3))) S X hi36 rfl dX12_liftFunction_36 ?_
    obtain ⟨r37, τ37, hq37, hg⟩ := bd_some hg
    refine gc_Vi (As := [.int v1, .int (xA σ 21 ((9 * v2) + v3))]) (rest := [.int 13, .ref (ad 0)]) (q0 := 0) (ci := 15) S X (k2_X12_local l dC dI ad kc hq37 H.size) cw_X12_local mG_2728 rfl rfl rfl rfl rfl hl.1 (Nat.le_of_ble_eq_true rfl) dX12_liftFunction_37 ⟨by omega, by omega⟩ (fun H locs X => ?_)
    refine lv_iconst (v := 0) hx hb dX12_liftFunction_40 (by decide) ?_
    obtain ⟨r41, τ41, hq41, hg⟩ := bd_some hg
    refine gc_Vi (As := [.int 13, .int r37, .int 0]) (rest := []) (q0 := 0) (ci := 15) S X (k2_X12_lift l dC dI ad kc hq41 H.size) cw_X12_lift mG_2724 rfl rfl rfl rfl rfl hl.1 (Nat.le_of_ble_eq_true rfl) dX12_liftFunction_41 ⟨by omega, by omega⟩ (fun H locs X => ?_)
    refine lv_pop hx hb dX12_liftFunction_44 rfl ?_
    refine lv_iinc (v := (v3 + 1)) (lv' := [(3, .int (v3 + 1)), (0, .ref (ad 0)), (1, .int v1), (2, .int v2)]) hx hb dX12_liftFunction_45 hl (k := 3) rfl (by rfl) (by decide) rfl (fun ls hl => ?_)
    refine lv_goto (tgt := 11) hx hb dX12_liftFunction_48 (by decide) ?_
    exact hrec11 _ _ _ _ _ _ _ X (lv_sub hl [1, 2, 3, 0] rfl) hg
set_option maxHeartbeats 4000000 in
set_option maxRecDepth 100000 in
theorem w_X12_liftFunction_L11 (S : CallFix p m c cX12_liftFunction 4 s args uG RX12) (hr : meth.sig.returnType = none) (hk : meth.locks = false) (hR : 1 ≤ R.frames ∧ 29 ≤ R.locals) : ∀ (n : Nat) (v1 : Int32) (v2 : Int32) (v3 : Int32) (σ : S5) (H : Heap) (locs : List Loc) (ls : Array Slot), gX (dC, dI) (tM kc) (wM ad kc) Z A s σ H locs → lv_has ls 4 [(0, .ref (ad 0)), (1, .int v1), (2, .int v2), (3, .int v3)] → f_X12_liftFunction_L11  n v1 v2 v3 σ = some (r, τ) → W p l e R s m args below meth c H locs 0 0 (MQ below (gQv (dC, dI) (tM kc) (wM ad kc) A r τ) args s 0 0 A) (F0 m 11 ls []) := by
  intro n
  induction n with
  | zero => intro v1 v2 v3 σ H locs ls X hl hg; cases hg
  | succ n ih => intro v1 v2 v3 σ H locs ls X hl hg; exact w_X12_liftFunction_B11 S hr hk hR ih X hl hg
set_option maxHeartbeats 4000000 in
set_option maxRecDepth 100000 in
theorem w_X12_liftFunction {σ : S5} {a1 : Int32} {a2 : Int32} {H : Heap} {locs : List Loc} {ls : Array Slot} (S : CallFix p m c cX12_liftFunction 4 s args uG RX12) (hr : meth.sig.returnType = none) (hk : meth.locks = false) (hR : 1 ≤ R.frames ∧ 29 ≤ R.locals)
    (X : gX (dC, dI) (tM kc) (wM ad kc) Z A s σ H locs) (hl : lv_has ls 4 [(0, .ref (ad 0)), (1, .int a1), (2, .int a2)]) (hg : f_X12_liftFunction a1 a2 σ = some (r, τ)) : W p l e R s m args below meth c H locs 0 0 (MQ below (gQv (dC, dI) (tM kc) (wM ad kc) A r τ) args s 0 0 A) (F0 m 0 ls []) := by
  have hx := S.1
  have hb := S.2.1
  have hown := S.2.2.2.1
  have hu := S.2.2.2.2
  unfold f_X12_liftFunction at hg
  refine lv_aload_n hx hb dX12_liftFunction_0 rfl (lv_at hl 0 rfl) ?_
  refine lv_bipush (v := 12) hx hb dX12_liftFunction_1 (by decide) ?_
  refine lv_iload_n hx hb dX12_liftFunction_3 rfl (lv_at hl 2 rfl) ?_
  refine lv_iconst (v := 0) hx hb dX12_liftFunction_4 (by decide) ?_
  obtain ⟨r5, τ5, hq5, hg⟩ := bd_some hg
  refine gc_Vi (As := [.int 12, .int a2, .int 0]) (rest := []) (q0 := 0) (ci := 15) S X (k2_X12_lift l dC dI ad kc hq5 H.size) cw_X12_lift mG_2724 rfl rfl rfl rfl rfl hl.1 (Nat.le_of_ble_eq_true rfl) dX12_liftFunction_5 ⟨by omega, by omega⟩ (fun H locs X => ?_)
  refine lv_pop hx hb dX12_liftFunction_8 rfl ?_
  refine lv_iconst (v := 0) hx hb dX12_liftFunction_9 (by decide) ?_
  refine lv_istore_n (lv' := [(3, .int 0), (0, .ref (ad 0)), (1, .int a1), (2, .int a2)]) hx hb dX12_liftFunction_10 rfl hl (by decide) rfl (fun ls hl => ?_)
  exact w_X12_liftFunction_L11 S hr hk hR _ _ _ _ _ _ _ _ X (lv_sub hl [1, 2, 3, 0] rfl) hg
end MX12_liftFunction
set_option maxRecDepth 100000 in
theorem k2_X12_liftFunction (l : Launch) (dC : Nat → ClassId) (dI : Nat → Nat → Nat) {Z : ZZ} (ad : Nat → Nat) (kc : Nat → ClassId) {σ τ : S5} {a1 : Int32} {a2 : Int32} {r : Unit} (hg : f_X12_liftFunction a1 a2 σ = some (r, τ)) (sz : Nat) : Met l yX12_liftFunction (Cond.code yX12_liftFunction cX12_liftFunction 4 none :: uG) { frames := 1, cells := 0, slots := 0, locals := 29 } (gPc (dC, dI) (tM kc) (wM ad kc) Z [.ref (ad 0), .int a1, .int a2] σ sz) (gQv (dC, dI) (tM kc) (wM ad kc) (va_A (wM ad kc σ) sz) r τ) 0 0 (va_A (wM ad kc σ) sz) :=
  g_start (by decide) (Nat.le_of_ble_eq_true rfl) (fun p e s m below meth c ls S hr hk X hl => w_X12_liftFunction S hr hk ⟨Nat.le_refl _, Nat.le_refl _⟩ X hl hg)
section MX12_rowCount
variable {p : Program} {l : Launch} {e : Env} {R : Room} {s : State} {m : MethodId} {args : Array Value} {below : List Frame} {meth : Method} {c : Code} {dC : Nat → ClassId} {dI : Nat → Nat → Nat} {Z : ZZ} {A : Nat → Prop} {ad : Nat → Nat} {kc : Nat → ClassId} {r : Int32} {τ : S5}
set_option maxHeartbeats 4000000 in
set_option maxRecDepth 100000 in
theorem w_X12_rowCount_B9 {σ : S5} {rec9 : Int32 → Int32 → S5 → Option (Int32 × S5)} {v2 : Int32} {v3 : Int32} {H : Heap} {locs : List Loc} {ls : Array Slot} (S : CallFix p m c cX12_rowCount 4 s args uG RX12) (hr : meth.sig.returnType = (some .int)) (hk : meth.locks = false) (hR : 0 ≤ R.frames ∧ 0 ≤ R.locals)
    (hrec9 : ∀ (v2 : Int32) (v3 : Int32) (σ : S5) (H : Heap) (locs : List Loc) (ls : Array Slot), gX (dC, dI) (tM kc) (wM ad kc) Z A s σ H locs → lv_has ls 4 [(0, .ref (ad 0)), (2, .int v2), (3, .int v3)] → rec9 v2 v3 σ = some (r, τ) → W p l e R s m args below meth c H locs 0 0 (MQ below (gQi (dC, dI) (tM kc) (wM ad kc) A r τ) args s 0 0 A) (F0 m 9 ls []))
    (X : gX (dC, dI) (tM kc) (wM ad kc) Z A s σ H locs) (hl : lv_has ls 4 [(0, .ref (ad 0)), (2, .int v2), (3, .int v3)]) (hg : f_X12_rowCount_B9 rec9 v2 v3 σ = some (r, τ)) : W p l e R s m args below meth c H locs 0 0 (MQ below (gQi (dC, dI) (tM kc) (wM ad kc) A r τ) args s 0 0 A) (F0 m 9 ls []) := by
  have hx := S.1
  have hb := S.2.1
  have hown := S.2.2.2.1
  have hu := S.2.2.2.2
  unfold f_X12_rowCount_B9 at hg
  refine lv_iload_n hx hb dX12_rowCount_9 rfl (lv_at hl 2 rfl) ?_
  refine lv_if_lt (tgt := 26) hx hb dX12_rowCount_10 (by decide) (fun c10 => ?_) (fun c10 => ?_)
  · have hg := (if_pos c10).symm.trans hg
    refine lv_iload_n hx hb dX12_rowCount_26 rfl (lv_at hl 1 rfl) ?_
    obtain ⟨rfl, rfl⟩ := fin_some hg
    exact gr_i S hr hk X dX12_rowCount_27
  · have hg := (if_neg c10).symm.trans hg
    refine lv_iinc (v := (v2 + 1)) (lv' := [(2, .int (v2 + 1)), (0, .ref (ad 0)), (3, .int v3)]) hx hb dX12_rowCount_13 hl (k := 1) rfl (by rfl) (by decide) rfl (fun ls hl => ?_)
    refine lv_aload_n hx hb dX12_rowCount_16 rfl (lv_at hl 1 rfl) ?_
    refine wmgR_0_16 S X mG_2066 dX12_rowCount_17 ?_
    refine lv_iload_n hx hb dX12_rowCount_20 rfl (lv_at hl 2 rfl) ?_
    obtain ⟨hi21, hg⟩ := gd_some hg
    refine wmlA_5 (v := (xA σ 5 v3)) S X hi21 rfl dX12_rowCount_21 ?_
    refine lv_istore_n (lv' := [(3, .int (xA σ 5 v3)), (2, .int (v2 + 1)), (0, .ref (ad 0))]) hx hb dX12_rowCount_22 rfl hl (by decide) rfl (fun ls hl => ?_)
    refine lv_goto (tgt := 9) hx hb dX12_rowCount_23 (by decide) ?_
    exact hrec9 _ _ _ _ _ _ X (lv_sub hl [2, 1, 0] rfl) hg
set_option maxHeartbeats 4000000 in
set_option maxRecDepth 100000 in
theorem w_X12_rowCount_L9 (S : CallFix p m c cX12_rowCount 4 s args uG RX12) (hr : meth.sig.returnType = (some .int)) (hk : meth.locks = false) (hR : 0 ≤ R.frames ∧ 0 ≤ R.locals) : ∀ (n : Nat) (v2 : Int32) (v3 : Int32) (σ : S5) (H : Heap) (locs : List Loc) (ls : Array Slot), gX (dC, dI) (tM kc) (wM ad kc) Z A s σ H locs → lv_has ls 4 [(0, .ref (ad 0)), (2, .int v2), (3, .int v3)] → f_X12_rowCount_L9  n v2 v3 σ = some (r, τ) → W p l e R s m args below meth c H locs 0 0 (MQ below (gQi (dC, dI) (tM kc) (wM ad kc) A r τ) args s 0 0 A) (F0 m 9 ls []) := by
  intro n
  induction n with
  | zero => intro v2 v3 σ H locs ls X hl hg; cases hg
  | succ n ih => intro v2 v3 σ H locs ls X hl hg; exact w_X12_rowCount_B9 S hr hk hR ih X hl hg
set_option maxHeartbeats 4000000 in
set_option maxRecDepth 100000 in
theorem w_X12_rowCount {σ : S5} {a1 : Int32} {H : Heap} {locs : List Loc} {ls : Array Slot} (S : CallFix p m c cX12_rowCount 4 s args uG RX12) (hr : meth.sig.returnType = (some .int)) (hk : meth.locks = false) (hR : 0 ≤ R.frames ∧ 0 ≤ R.locals)
    (X : gX (dC, dI) (tM kc) (wM ad kc) Z A s σ H locs) (hl : lv_has ls 4 [(0, .ref (ad 0)), (1, .int a1)]) (hg : f_X12_rowCount a1 σ = some (r, τ)) : W p l e R s m args below meth c H locs 0 0 (MQ below (gQi (dC, dI) (tM kc) (wM ad kc) A r τ) args s 0 0 A) (F0 m 0 ls []) := by
  have hx := S.1
  have hb := S.2.1
  have hown := S.2.2.2.1
  have hu := S.2.2.2.2
  unfold f_X12_rowCount at hg
  refine lv_iconst (v := 0) hx hb dX12_rowCount_0 (by decide) ?_
  refine lv_istore_n (lv' := [(2, .int 0), (0, .ref (ad 0)), (1, .int a1)]) hx hb dX12_rowCount_1 rfl hl (by decide) rfl (fun ls hl => ?_)
  refine lv_aload_n hx hb dX12_rowCount_2 rfl (lv_at hl 1 rfl) ?_
  refine wmgR_0_14 S X mG_2064 dX12_rowCount_3 ?_
  refine lv_iload_n hx hb dX12_rowCount_6 rfl (lv_at hl 2 rfl) ?_
  obtain ⟨hi7, hg⟩ := gd_some hg
  refine wmlA_3 (v := (xA σ 3 a1)) S X hi7 rfl dX12_rowCount_7 ?_
  refine lv_istore_n (lv' := [(3, .int (xA σ 3 a1)), (2, .int 0), (0, .ref (ad 0)), (1, .int a1)]) hx hb dX12_rowCount_8 rfl hl (by decide) rfl (fun ls hl => ?_)
  exact w_X12_rowCount_L9 S hr hk hR _ _ _ _ _ _ _ X (lv_sub hl [2, 1, 0] rfl) hg
end MX12_rowCount
set_option maxRecDepth 100000 in
theorem k2_X12_rowCount (l : Launch) (dC : Nat → ClassId) (dI : Nat → Nat → Nat) {Z : ZZ} (ad : Nat → Nat) (kc : Nat → ClassId) {σ τ : S5} {a1 : Int32} {r : Int32} (hg : f_X12_rowCount a1 σ = some (r, τ)) (sz : Nat) : Met l yX12_rowCount (Cond.code yX12_rowCount cX12_rowCount 4 (some .int) :: uG) { frames := 0, cells := 0, slots := 0, locals := 0 } (gPc (dC, dI) (tM kc) (wM ad kc) Z [.ref (ad 0), .int a1] σ sz) (gQi (dC, dI) (tM kc) (wM ad kc) (va_A (wM ad kc σ) sz) r τ) 0 0 (va_A (wM ad kc σ) sz) :=
  g_start (by decide) (Nat.le_of_ble_eq_true rfl) (fun p e s m below meth c ls S hr hk X hl => w_X12_rowCount S hr hk ⟨Nat.le_refl _, Nat.le_refl _⟩ X hl hg)
section MX12_bits
variable {p : Program} {l : Launch} {e : Env} {R : Room} {s : State} {m : MethodId} {args : Array Value} {below : List Frame} {meth : Method} {c : Code} {dC : Nat → ClassId} {dI : Nat → Nat → Nat} {Z : ZZ} {A : Nat → Prop} {ad : Nat → Nat} {kc : Nat → ClassId} {r : Int64} {τ : S5}
set_option maxHeartbeats 4000000 in
set_option maxRecDepth 100000 in
theorem w_X12_bits {σ : S5} {a0 : Int32} {a1 : Int32} {H : Heap} {locs : List Loc} {ls : Array Slot} (S : CallFix p m c cX12_bits 2 s args uG RX12) (hr : meth.sig.returnType = (some .long)) (hk : meth.locks = false) (hR : 0 ≤ R.frames ∧ 0 ≤ R.locals)
    (X : gX (dC, dI) (tM kc) (wM ad kc) Z A s σ H locs) (hl : lv_has ls 2 [(0, .int a0), (1, .int a1)]) (hg : f_X12_bits a0 a1 σ = some (r, τ)) : W p l e R s m args below meth c H locs 0 0 (MQ below (gQl (dC, dI) (tM kc) (wM ad kc) A r τ) args s 0 0 A) (F0 m 0 ls []) := by
  have hx := S.1
  have hb := S.2.1
  have hown := S.2.2.2.1
  have hu := S.2.2.2.2
  unfold f_X12_bits at hg
  refine lv_lconst (v := 1) hx hb dX12_bits_0 rfl ?_
  refine lv_iload_n hx hb dX12_bits_1 rfl (lv_at hl 1 rfl) ?_
  refine lv_lshl (v := (j_lshl 1 a1)) hx hb dX12_bits_2 rfl ?_
  refine lv_lconst (v := 1) hx hb dX12_bits_3 rfl ?_
  refine lv_lsub hx hb dX12_bits_4 ?_
  refine lv_iload_n hx hb dX12_bits_5 rfl (lv_at hl 0 rfl) ?_
  refine lv_lshl (v := (j_lshl ((j_lshl 1 a1) - 1) a0)) hx hb dX12_bits_6 rfl ?_
  obtain ⟨rfl, rfl⟩ := fin_some hg
  exact gr_l S hr hk X dX12_bits_7
end MX12_bits
set_option maxRecDepth 100000 in
theorem k2_X12_bits (l : Launch) (dC : Nat → ClassId) (dI : Nat → Nat → Nat) {Z : ZZ} (ad : Nat → Nat) (kc : Nat → ClassId) {σ τ : S5} {a0 : Int32} {a1 : Int32} {r : Int64} (hg : f_X12_bits a0 a1 σ = some (r, τ)) (sz : Nat) : Met l yX12_bits (Cond.code yX12_bits cX12_bits 2 (some .long) :: uG) { frames := 0, cells := 0, slots := 0, locals := 0 } (gPc (dC, dI) (tM kc) (wM ad kc) Z [.int a0, .int a1] σ sz) (gQl (dC, dI) (tM kc) (wM ad kc) (va_A (wM ad kc σ) sz) r τ) 0 0 (va_A (wM ad kc σ) sz) :=
  g_start (by decide) (Nat.le_of_ble_eq_true rfl) (fun p e s m below meth c ls S hr hk X hl => w_X12_bits S hr hk ⟨Nat.le_refl _, Nat.le_refl _⟩ X hl hg)
section MX12_closePart
variable {p : Program} {l : Launch} {e : Env} {R : Room} {s : State} {m : MethodId} {args : Array Value} {below : List Frame} {meth : Method} {c : Code} {dC : Nat → ClassId} {dI : Nat → Nat → Nat} {Z : ZZ} {A : Nat → Prop} {ad : Nat → Nat} {kc : Nat → ClassId} {r : Unit} {τ : S5}
set_option maxHeartbeats 4000000 in
set_option maxRecDepth 100000 in
theorem w_X12_closePart_b271 {σ : S5} {rec178 : Int32 → Int32 → Int32 → Int32 → S5 → Option (Unit × S5)} {v1 : Int32} {v4 : Int32} {v5 : Int32} {v6 : Int32} {v7 : Int32} {u0 : Int32} {u1 : Int32} {H : Heap} {locs : List Loc} {ls : Array Slot} (S : CallFix p m c cX12_closePart 8 s args uG RX12) (hr : meth.sig.returnType = none) (hk : meth.locks = false) (hR : 1 ≤ R.frames ∧ 29 ≤ R.locals)
    (hrec178 : ∀ (v1 : Int32) (v4 : Int32) (v5 : Int32) (v6 : Int32) (σ : S5) (H : Heap) (locs : List Loc) (ls : Array Slot), gX (dC, dI) (tM kc) (wM ad kc) Z A s σ H locs → lv_has ls 8 [(0, .ref (ad 0)), (1, .int v1), (4, .int v4), (5, .int v5), (6, .int v6)] → rec178 v1 v4 v5 v6 σ = some (r, τ) → W p l e R s m args below meth c H locs 0 0 (MQ below (gQv (dC, dI) (tM kc) (wM ad kc) A r τ) args s 0 0 A) (F0 m 178 ls []))
    (X : gX (dC, dI) (tM kc) (wM ad kc) Z A s σ H locs) (hl : lv_has ls 8 [(0, .ref (ad 0)), (1, .int v1), (4, .int v4), (5, .int v5), (6, .int v6), (7, .int v7)]) (hg : f_X12_closePart_b271 rec178 v1 v4 v5 v6 v7 u0 u1 σ = some (r, τ)) : W p l e R s m args below meth c H locs 0 0 (MQ below (gQv (dC, dI) (tM kc) (wM ad kc) A r τ) args s 0 0 A) (F0 m 271 ls [.int u0, .int u1, .ref (ad 49)]) := by
  have hx := S.1
  have hb := S.2.1
  have hown := S.2.2.2.1
  have hu := S.2.2.2.2
  unfold f_X12_closePart_b271 at hg
  obtain ⟨hi271, hg⟩ := gd_some hg
  refine wmsA_42 S X hi271 dX12_closePart_271 (fun H locs X => ?_)
  refine lv_aload_n hx hb dX12_closePart_272 rfl (lv_at hl 0 rfl) ?_
  refine wmgR_0_72 S X mG_2122 dX12_closePart_273 ?_
  refine lv_iload hx hb dX12_closePart_276 (lv_at hl 2 rfl) ?_
  refine lv_dup2_11 hx hb dX12_closePart_278 rfl rfl ?_
  obtain ⟨hi279, hg⟩ := gd_some hg
  refine wmlB_5 (v := (xB σ 5 v4)) S X hi279 rfl dX12_closePart_279 ?_
  refine lv_aload_n hx hb dX12_closePart_280 rfl (lv_at hl 0 rfl) ?_
  refine wmgR_0_72 S X mG_2122 dX12_closePart_281 ?_
  refine lv_aload_n hx hb dX12_closePart_284 rfl (lv_at hl 0 rfl) ?_
  refine lv_iload hx hb dX12_closePart_285 (lv_at hl 2 rfl) ?_
  refine lv_iconst (v := 1) hx hb dX12_closePart_287 (by decide) ?_
  refine lv_iload hx hb dX12_closePart_288 (lv_at hl 3 rfl) ?_
  refine lv_iadd hx hb dX12_closePart_290 ?_
  obtain ⟨r291, τ291, hq291, hg⟩ := bd_some hg
  refine gc_Vi (As := [.int v4, .int (1 + v5)]) (rest := [.ref (ad 45), .long (xB σ 5 v4), .int v4, .ref (ad 45)]) (q0 := 0) (ci := 15) S X (k2_X12_child l dC dI ad kc hq291 H.size) cw_X12_child mG_2736 rfl rfl rfl rfl rfl hl.1 (Nat.le_of_ble_eq_true rfl) dX12_closePart_291 ⟨by omega, by omega⟩ (fun H locs X => ?_)
  obtain ⟨hi294, hg⟩ := gd_some hg
  refine wmlB_5 (v := (xB τ291 5 r291)) S X hi294 rfl dX12_closePart_294 ?_
  refine lv_aload_n hx hb dX12_closePart_295 rfl (lv_at hl 0 rfl) ?_
  refine wmgR_0_77 S X mG_2127 dX12_closePart_296 ?_
  refine lv_iload hx hb dX12_closePart_299 (lv_at hl 5 rfl) ?_
  obtain ⟨hi301, hg⟩ := gd_some hg
  refine wmlA_42 (v := (xA τ291 42 v7)) S X hi301 rfl dX12_closePart_301 ?_
  refine lv_aload_n hx hb dX12_closePart_302 rfl (lv_at hl 0 rfl) ?_
  refine wmgR_0_22 S X mG_2072 dX12_closePart_303 ?_
  refine lv_iload hx hb dX12_closePart_306 (lv_at hl 4 rfl) ?_
  obtain ⟨hi308, hg⟩ := gd_some hg
  refine wmlA_10 (v := (xA τ291 10 v6)) S X hi308 rfl dX12_closePart_308 ?_
  obtain ⟨r309, τ309, hq309, hg⟩ := bd_some hg
  refine gc_Sl (As := [.int (xA τ291 42 v7), .int (xA τ291 10 v6)]) (rest := [.long (xB τ291 5 r291), .long (xB σ 5 v4), .int v4, .ref (ad 45)]) S X (k2_X12_bits l dC dI ad kc hq309 H.size) cw_X12_bits mG_2732 rfl rfl hl.1 (Nat.le_of_ble_eq_true rfl) dX12_closePart_309 ⟨by omega, by omega⟩ (fun H locs X => ?_)
  refine lv_ldc2 (own := RX12) (v := (-1)) hx hb hown (hu _ mG_2735) dX12_closePart_312 ?_
  refine lv_lxor hx hb dX12_closePart_315 ?_
  refine lv_land hx hb dX12_closePart_316 ?_
  refine lv_lor hx hb dX12_closePart_317 ?_
  obtain ⟨hi318, hg⟩ := gd_some hg
  refine wmsB_5 S X hi318 dX12_closePart_318 (fun H locs X => ?_)
  refine lv_iinc (v := (v5 + 1)) (lv' := [(5, .int (v5 + 1)), (0, .ref (ad 0)), (1, .int v1), (4, .int v4), (6, .int v6), (7, .int v7)]) hx hb dX12_closePart_319 hl (k := 3) rfl (by rfl) (by decide) rfl (fun ls hl => ?_)
  refine lv_aload_n hx hb dX12_closePart_322 rfl (lv_at hl 1 rfl) ?_
  refine wmgR_0_16 S X mG_2066 dX12_closePart_323 ?_
  refine lv_iload hx hb dX12_closePart_326 (lv_at hl 4 rfl) ?_
  obtain ⟨hi328, hg⟩ := gd_some hg
  refine wmlA_5 (v := (xA τ309 5 v6)) S X hi328 rfl dX12_closePart_328 ?_
  refine lv_istore (lv' := [(6, .int (xA τ309 5 v6)), (5, .int (v5 + 1)), (0, .ref (ad 0)), (1, .int v1), (4, .int v4), (7, .int v7)]) hx hb dX12_closePart_329 hl (by decide) rfl (fun ls hl => ?_)
  refine lv_goto (tgt := 178) hx hb dX12_closePart_331 (by decide) ?_
  exact hrec178 _ _ _ _ _ _ _ _ X (lv_sub hl [2, 3, 4, 1, 0] rfl) hg
set_option maxHeartbeats 4000000 in
set_option maxRecDepth 100000 in
theorem w_X12_closePart_B178 {σ : S5} {rec178 : Int32 → Int32 → Int32 → Int32 → S5 → Option (Unit × S5)} {v1 : Int32} {v4 : Int32} {v5 : Int32} {v6 : Int32} {H : Heap} {locs : List Loc} {ls : Array Slot} (S : CallFix p m c cX12_closePart 8 s args uG RX12) (hr : meth.sig.returnType = none) (hk : meth.locks = false) (hR : 1 ≤ R.frames ∧ 29 ≤ R.locals)
    (hrec178 : ∀ (v1 : Int32) (v4 : Int32) (v5 : Int32) (v6 : Int32) (σ : S5) (H : Heap) (locs : List Loc) (ls : Array Slot), gX (dC, dI) (tM kc) (wM ad kc) Z A s σ H locs → lv_has ls 8 [(0, .ref (ad 0)), (1, .int v1), (4, .int v4), (5, .int v5), (6, .int v6)] → rec178 v1 v4 v5 v6 σ = some (r, τ) → W p l e R s m args below meth c H locs 0 0 (MQ below (gQv (dC, dI) (tM kc) (wM ad kc) A r τ) args s 0 0 A) (F0 m 178 ls []))
    (X : gX (dC, dI) (tM kc) (wM ad kc) Z A s σ H locs) (hl : lv_has ls 8 [(0, .ref (ad 0)), (1, .int v1), (4, .int v4), (5, .int v5), (6, .int v6)]) (hg : f_X12_closePart_B178 rec178 v1 v4 v5 v6 σ = some (r, τ)) : W p l e R s m args below meth c H locs 0 0 (MQ below (gQv (dC, dI) (tM kc) (wM ad kc) A r τ) args s 0 0 A) (F0 m 178 ls []) := by
  have hx := S.1
  have hb := S.2.1
  have hown := S.2.2.2.1
  have hu := S.2.2.2.2
  unfold f_X12_closePart_B178 at hg
  refine lv_iload hx hb dX12_closePart_178 (lv_at hl 4 rfl) ?_
  refine lv_if_lt (tgt := 334) hx hb dX12_closePart_180 (by decide) (fun c180 => ?_) (fun c180 => ?_)
  · have hg := (if_pos c180).symm.trans hg
    refine lv_goto (tgt := 460) hx hb dX12_closePart_334 (by decide) ?_
    obtain ⟨-, rfl⟩ := fin_some hg
    exact gr_v S hr hk X dX12_closePart_460
  · have hg := (if_neg c180).symm.trans hg
    refine lv_aload_n hx hb dX12_closePart_183 rfl (lv_at hl 0 rfl) ?_
    refine wmgR_0_66 S X mG_2116 dX12_closePart_184 ?_
    refine lv_iload hx hb dX12_closePart_187 (lv_at hl 2 rfl) ?_
    obtain ⟨hi189, hg⟩ := gd_some hg
    refine wmlA_33 (v := (xA σ 33 v4)) S X hi189 rfl dX12_closePart_189 ?_
    refine lv_iconst (v := 1) hx hb dX12_closePart_190 (by decide) ?_
    refine lv_iadd hx hb dX12_closePart_191 ?_
    refine lv_iload hx hb dX12_closePart_192 (lv_at hl 3 rfl) ?_
    refine lv_iadd hx hb dX12_closePart_194 ?_
    refine lv_istore (lv' := [(7, .int (((xA σ 33 v4) + 1) + v5)), (0, .ref (ad 0)), (1, .int v1), (4, .int v4), (5, .int v5), (6, .int v6)]) hx hb dX12_closePart_195 hl (by decide) rfl (fun ls hl => ?_)
    refine lv_aload_n hx hb dX12_closePart_197 rfl (lv_at hl 1 rfl) ?_
    refine wmgR_0_75 S X mG_2125 dX12_closePart_198 ?_
    refine lv_iload hx hb dX12_closePart_201 (lv_at hl 0 rfl) ?_
    refine lv_aload_n hx hb dX12_closePart_203 rfl (lv_at hl 1 rfl) ?_
    refine wmgR_0_19 S X mG_2069 dX12_closePart_204 ?_
    refine lv_iload hx hb dX12_closePart_207 (lv_at hl 5 rfl) ?_
    obtain ⟨hi209, hg⟩ := gd_some hg
    refine wmlA_8 (v := (xA σ 8 v6)) S X hi209 rfl dX12_closePart_209 ?_
    obtain ⟨hi210, hg⟩ := gd_some hg
    refine wmsA_40 S X hi210 dX12_closePart_210 (fun H locs X => ?_)
    refine lv_aload_n hx hb dX12_closePart_211 rfl (lv_at hl 1 rfl) ?_
    refine wmgR_0_76 S X mG_2126 dX12_closePart_212 ?_
    refine lv_iload hx hb dX12_closePart_215 (lv_at hl 0 rfl) ?_
    refine lv_aload_n hx hb dX12_closePart_217 rfl (lv_at hl 1 rfl) ?_
    refine wmgR_0_18 S X mG_2068 dX12_closePart_218 ?_
    refine lv_iload hx hb dX12_closePart_221 (lv_at hl 5 rfl) ?_
    obtain ⟨hi223, hg⟩ := gd_some hg
    refine wmlA_7 (v := (xA σ 7 v6)) S X hi223 rfl dX12_closePart_223 ?_
    obtain ⟨hi224, hg⟩ := gd_some hg
    refine wmsA_41 S X hi224 dX12_closePart_224 (fun H locs X => ?_)
    refine lv_aload_n hx hb dX12_closePart_225 rfl (lv_at hl 1 rfl) ?_
    refine wmgR_0_78 S X mG_2128 dX12_closePart_226 ?_
    refine lv_iload hx hb dX12_closePart_229 (lv_at hl 0 rfl) ?_
    refine lv_aload_n hx hb dX12_closePart_231 rfl (lv_at hl 1 rfl) ?_
    refine wmgR_0_22 S X mG_2072 dX12_closePart_232 ?_
    refine lv_iload hx hb dX12_closePart_235 (lv_at hl 5 rfl) ?_
    obtain ⟨hi237, hg⟩ := gd_some hg
    refine wmlA_10 (v := (xA σ 10 v6)) S X hi237 rfl dX12_closePart_237 ?_
    obtain ⟨hi238, hg⟩ := gd_some hg
    refine wmsA_43 S X hi238 dX12_closePart_238 (fun H locs X => ?_)
    refine lv_aload_n hx hb dX12_closePart_239 rfl (lv_at hl 1 rfl) ?_
    refine wmgR_0_77 S X mG_2127 dX12_closePart_240 ?_
    refine lv_iload hx hb dX12_closePart_243 (lv_at hl 0 rfl) ?_
    refine lv_aload_n hx hb dX12_closePart_245 rfl (lv_at hl 1 rfl) ?_
    refine wmgR_0_22 S X mG_2072 dX12_closePart_246 ?_
    refine lv_iload hx hb dX12_closePart_249 (lv_at hl 5 rfl) ?_
    obtain ⟨hi251, hg⟩ := gd_some hg
    refine wmlA_10 (v := (xA σ 10 v6)) S X hi251 rfl dX12_closePart_251 ?_
    refine lv_if_le (tgt := 270) hx hb dX12_closePart_252 (by decide) (fun c252 => ?_) (fun c252 => ?_)
    · have hg := (if_pos c252).symm.trans hg
      refine lv_iconst (v := 0) hx hb dX12_closePart_270 (by decide) ?_
      exact w_X12_closePart_b271 S hr hk hR hrec178 X (lv_sub hl [1, 2, 3, 4, 5, 0] rfl) hg
    · have hg := (if_neg c252).symm.trans hg
      refine lv_aload_n hx hb dX12_closePart_255 rfl (lv_at hl 1 rfl) ?_
      refine lv_iload_n hx hb dX12_closePart_256 rfl (lv_at hl 2 rfl) ?_
      refine lv_aload_n hx hb dX12_closePart_257 rfl (lv_at hl 1 rfl) ?_
      refine wmgR_0_54 S X mG_2104 dX12_closePart_258 ?_
      refine lv_iload hx hb dX12_closePart_261 (lv_at hl 5 rfl) ?_
      obtain ⟨hi263, hg⟩ := gd_some hg
      refine wmlA_25 (v := (xA σ 25 v6)) S X hi263 rfl dX12_closePart_263 ?_
      obtain ⟨r264, τ264, hq264, hg⟩ := bd_some hg
      refine gc_Vi (As := [.int v1, .int (xA σ 25 v6)]) (rest := [.int (((xA σ 33 v4) + 1) + v5), .ref (ad 49)]) (q0 := 0) (ci := 15) S X (k2_X12_local l dC dI ad kc hq264 H.size) cw_X12_local mG_2728 rfl rfl rfl rfl rfl hl.1 (Nat.le_of_ble_eq_true rfl) dX12_closePart_264 ⟨by omega, by omega⟩ (fun H locs X => ?_)
      refine lv_goto (tgt := 271) hx hb dX12_closePart_267 (by decide) ?_
      exact w_X12_closePart_b271 S hr hk hR hrec178 X (lv_sub hl [1, 2, 3, 4, 5, 0] rfl) hg
set_option maxHeartbeats 4000000 in
set_option maxRecDepth 100000 in
theorem w_X12_closePart_L178 (S : CallFix p m c cX12_closePart 8 s args uG RX12) (hr : meth.sig.returnType = none) (hk : meth.locks = false) (hR : 1 ≤ R.frames ∧ 29 ≤ R.locals) : ∀ (n : Nat) (v1 : Int32) (v4 : Int32) (v5 : Int32) (v6 : Int32) (σ : S5) (H : Heap) (locs : List Loc) (ls : Array Slot), gX (dC, dI) (tM kc) (wM ad kc) Z A s σ H locs → lv_has ls 8 [(0, .ref (ad 0)), (1, .int v1), (4, .int v4), (5, .int v5), (6, .int v6)] → f_X12_closePart_L178  n v1 v4 v5 v6 σ = some (r, τ) → W p l e R s m args below meth c H locs 0 0 (MQ below (gQv (dC, dI) (tM kc) (wM ad kc) A r τ) args s 0 0 A) (F0 m 178 ls []) := by
  intro n
  induction n with
  | zero => intro v1 v4 v5 v6 σ H locs ls X hl hg; cases hg
  | succ n ih => intro v1 v4 v5 v6 σ H locs ls X hl hg; exact w_X12_closePart_B178 S hr hk hR ih X hl hg
set_option maxHeartbeats 4000000 in
set_option maxRecDepth 100000 in
theorem w_X12_closePart {σ : S5} {a1 : Int32} {a2 : Int32} {H : Heap} {locs : List Loc} {ls : Array Slot} (S : CallFix p m c cX12_closePart 8 s args uG RX12) (hr : meth.sig.returnType = none) (hk : meth.locks = false) (hR : 1 ≤ R.frames ∧ 29 ≤ R.locals)
    (X : gX (dC, dI) (tM kc) (wM ad kc) Z A s σ H locs) (hl : lv_has ls 8 [(0, .ref (ad 0)), (1, .int a1), (2, .int a2)]) (hg : f_X12_closePart a1 a2 σ = some (r, τ)) : W p l e R s m args below meth c H locs 0 0 (MQ below (gQv (dC, dI) (tM kc) (wM ad kc) A r τ) args s 0 0 A) (F0 m 0 ls []) := by
  have hx := S.1
  have hb := S.2.1
  have hown := S.2.2.2.1
  have hu := S.2.2.2.2
  unfold f_X12_closePart at hg
  refine lv_aload_n hx hb dX12_closePart_0 rfl (lv_at hl 0 rfl) ?_
  refine wmgR_0_13 S X mG_2063 dX12_closePart_1 ?_
  refine lv_iload_n hx hb dX12_closePart_4 rfl (lv_at hl 2 rfl) ?_
  obtain ⟨hi5, hg⟩ := gd_some hg
  refine wmlA_2 (v := (xA σ 2 a2)) S X hi5 rfl dX12_closePart_5 ?_
  rcases sw_0_11 ((xA σ 2 a2)) with hsw | hsw | hsw | hsw | hsw | hsw | hsw | hsw | hsw | hsw | hsw | hsw | hsw
  · refine lv_tableOut (tgt := 460) hx hb dX12_closePart_6 hsw (by decide) ?_
    obtain ⟨hs0, hs1, hs2, hs3, hs4, hs5, hs6, hs7, hs8, hs9, hs10, hs11⟩ := swo_0_11 hsw
    have hg := (if_neg hs0).symm.trans hg
    have hg := (if_neg hs1).symm.trans hg
    have hg := (if_neg hs2).symm.trans hg
    have hg := (if_neg hs3).symm.trans hg
    have hg := (if_neg hs4).symm.trans hg
    have hg := (if_neg hs5).symm.trans hg
    have hg := (if_neg hs6).symm.trans hg
    have hg := (if_neg hs7).symm.trans hg
    have hg := (if_neg hs8).symm.trans hg
    have hg := (if_neg hs9).symm.trans hg
    have hg := (if_neg hs10).symm.trans hg
    have hg := (if_neg hs11).symm.trans hg
    obtain ⟨-, rfl⟩ := fin_some hg
    exact gr_v S hr hk X dX12_closePart_460
  · refine lv_tableIn (off := 62) (tgt := 68) hx hb dX12_closePart_6 (by rw [hsw]; decide) (by rw [hsw]; decide) (by rw [hsw]; decide) (by decide) ?_
    have hg := (if_pos hsw).symm.trans hg
    refine lv_aload_n hx hb dX12_closePart_68 rfl (lv_at hl 0 rfl) ?_
    refine lv_iload_n hx hb dX12_closePart_69 rfl (lv_at hl 2 rfl) ?_
    obtain ⟨r70, τ70, hq70, hg⟩ := bd_some hg
    refine gc_Vi (As := [.int a2]) (rest := []) (q0 := 0) (ci := 15) S X (k2_X12_rowCount l dC dI ad kc hq70 H.size) cw_X12_rowCount mG_2720 rfl rfl rfl rfl rfl hl.1 (Nat.le_of_ble_eq_true rfl) dX12_closePart_70 ⟨by omega, by omega⟩ (fun H locs X => ?_)
    refine lv_istore_n (lv' := [(3, .int r70), (0, .ref (ad 0)), (1, .int a1), (2, .int a2)]) hx hb dX12_closePart_73 rfl hl (by decide) rfl (fun ls hl => ?_)
    refine lv_aload_n hx hb dX12_closePart_74 rfl (lv_at hl 1 rfl) ?_
    refine lv_iconst (v := 0) hx hb dX12_closePart_75 (by decide) ?_
    refine lv_iload_n hx hb dX12_closePart_76 rfl (lv_at hl 0 rfl) ?_
    refine lv_iload_n hx hb dX12_closePart_77 rfl (lv_at hl 0 rfl) ?_
    refine lv_iconst (v := 1) hx hb dX12_closePart_78 (by decide) ?_
    refine lv_iadd hx hb dX12_closePart_79 ?_
    obtain ⟨r80, τ80, hq80, hg⟩ := bd_some hg
    refine gc_Vi (As := [.int 0, .int r70, .int (r70 + 1)]) (rest := []) (q0 := 0) (ci := 15) S X (k2_X12_lift l dC dI ad kc hq80 H.size) cw_X12_lift mG_2724 rfl rfl rfl rfl rfl hl.1 (Nat.le_of_ble_eq_true rfl) dX12_closePart_80 ⟨by omega, by omega⟩ (fun H locs X => ?_)
    refine lv_istore (lv' := [(4, .int r80), (3, .int r70), (0, .ref (ad 0)), (1, .int a1), (2, .int a2)]) hx hb dX12_closePart_83 hl (by decide) rfl (fun ls hl => ?_)
    refine lv_aload_n hx hb dX12_closePart_85 rfl (lv_at hl 2 rfl) ?_
    refine wmgR_0_68 S X mG_2118 dX12_closePart_86 ?_
    refine lv_iload hx hb dX12_closePart_89 (lv_at hl 0 rfl) ?_
    refine lv_aload_n hx hb dX12_closePart_91 rfl (lv_at hl 2 rfl) ?_
    refine lv_iload_n hx hb dX12_closePart_92 rfl (lv_at hl 3 rfl) ?_
    refine lv_aload_n hx hb dX12_closePart_93 rfl (lv_at hl 2 rfl) ?_
    refine wmgR_0_54 S X mG_2104 dX12_closePart_94 ?_
    refine lv_iload_n hx hb dX12_closePart_97 rfl (lv_at hl 4 rfl) ?_
    obtain ⟨hi98, hg⟩ := gd_some hg
    refine wmlA_25 (v := (xA τ80 25 a2)) S X hi98 rfl dX12_closePart_98 ?_
    obtain ⟨r99, τ99, hq99, hg⟩ := bd_some hg
    refine gc_Vi (As := [.int a1, .int (xA τ80 25 a2)]) (rest := [.int r80, .ref (ad 41)]) (q0 := 0) (ci := 15) S X (k2_X12_local l dC dI ad kc hq99 H.size) cw_X12_local mG_2728 rfl rfl rfl rfl rfl hl.1 (Nat.le_of_ble_eq_true rfl) dX12_closePart_99 ⟨by omega, by omega⟩ (fun H locs X => ?_)
    obtain ⟨hi102, hg⟩ := gd_some hg
    refine wmsA_35 S X hi102 dX12_closePart_102 (fun H locs X => ?_)
    refine lv_aload_n hx hb dX12_closePart_103 rfl (lv_at hl 2 rfl) ?_
    refine wmgR_0_72 S X mG_2122 dX12_closePart_104 ?_
    refine lv_iload hx hb dX12_closePart_107 (lv_at hl 0 rfl) ?_
    refine lv_dup2_11 hx hb dX12_closePart_109 rfl rfl ?_
    obtain ⟨hi110, hg⟩ := gd_some hg
    refine wmlB_5 (v := (xB τ99 5 r80)) S X hi110 rfl dX12_closePart_110 ?_
    refine lv_aload_n hx hb dX12_closePart_111 rfl (lv_at hl 2 rfl) ?_
    refine wmgR_0_68 S X mG_2118 dX12_closePart_112 ?_
    refine lv_iload hx hb dX12_closePart_115 (lv_at hl 0 rfl) ?_
    obtain ⟨hi117, hg⟩ := gd_some hg
    refine wmlA_35 (v := (xA (pA τ99 35 r80 r99) 35 r80)) S X hi117 rfl dX12_closePart_117 ?_
    refine lv_iload_n hx hb dX12_closePart_118 rfl (lv_at hl 1 rfl) ?_
    obtain ⟨r119, τ119, hq119, hg⟩ := bd_some hg
    refine gc_Sl (As := [.int (xA (pA τ99 35 r80 r99) 35 r80), .int r70]) (rest := [.long (xB τ99 5 r80), .int r80, .ref (ad 45)]) S X (k2_X12_bits l dC dI ad kc hq119 H.size) cw_X12_bits mG_2732 rfl rfl hl.1 (Nat.le_of_ble_eq_true rfl) dX12_closePart_119 ⟨by omega, by omega⟩ (fun H locs X => ?_)
    refine lv_ldc2 (own := RX12) (v := (-1)) hx hb hown (hu _ mG_2735) dX12_closePart_122 ?_
    refine lv_lxor hx hb dX12_closePart_125 ?_
    refine lv_land hx hb dX12_closePart_126 ?_
    obtain ⟨hi127, hg⟩ := gd_some hg
    refine wmsB_5 S X hi127 dX12_closePart_127 (fun H locs X => ?_)
    refine lv_goto (tgt := 460) hx hb dX12_closePart_128 (by decide) ?_
    obtain ⟨-, rfl⟩ := fin_some hg
    exact gr_v S hr hk X dX12_closePart_460
  · refine lv_tableIn (off := 454) (tgt := 460) hx hb dX12_closePart_6 (by rw [hsw]; decide) (by rw [hsw]; decide) (by rw [hsw]; decide) (by decide) ?_
    have hg := (if_neg (by rw [hsw]; decide)).symm.trans hg
    have hg := (if_pos hsw).symm.trans hg
    obtain ⟨-, rfl⟩ := fin_some hg
    exact gr_v S hr hk X dX12_closePart_460
  · refine lv_tableIn (off := 454) (tgt := 460) hx hb dX12_closePart_6 (by rw [hsw]; decide) (by rw [hsw]; decide) (by rw [hsw]; decide) (by decide) ?_
    have hg := (if_neg (by rw [hsw]; decide)).symm.trans hg
    have hg := (if_neg (by rw [hsw]; decide)).symm.trans hg
    have hg := (if_pos hsw).symm.trans hg
    obtain ⟨-, rfl⟩ := fin_some hg
    exact gr_v S hr hk X dX12_closePart_460
  · refine lv_tableIn (off := 125) (tgt := 131) hx hb dX12_closePart_6 (by rw [hsw]; decide) (by rw [hsw]; decide) (by rw [hsw]; decide) (by decide) ?_
    have hg := (if_neg (by rw [hsw]; decide)).symm.trans hg
    have hg := (if_neg (by rw [hsw]; decide)).symm.trans hg
    have hg := (if_neg (by rw [hsw]; decide)).symm.trans hg
    have hg := (if_pos hsw).symm.trans hg
    refine lv_aload_n hx hb dX12_closePart_131 rfl (lv_at hl 0 rfl) ?_
    refine lv_iload_n hx hb dX12_closePart_132 rfl (lv_at hl 2 rfl) ?_
    obtain ⟨r133, τ133, hq133, hg⟩ := bd_some hg
    refine gc_Vi (As := [.int a2]) (rest := []) (q0 := 0) (ci := 15) S X (k2_X12_rowCount l dC dI ad kc hq133 H.size) cw_X12_rowCount mG_2720 rfl rfl rfl rfl rfl hl.1 (Nat.le_of_ble_eq_true rfl) dX12_closePart_133 ⟨by omega, by omega⟩ (fun H locs X => ?_)
    refine lv_istore_n (lv' := [(3, .int r133), (0, .ref (ad 0)), (1, .int a1), (2, .int a2)]) hx hb dX12_closePart_136 rfl hl (by decide) rfl (fun ls hl => ?_)
    refine lv_aload_n hx hb dX12_closePart_137 rfl (lv_at hl 1 rfl) ?_
    refine lv_iconst (v := 3) hx hb dX12_closePart_138 (by decide) ?_
    refine lv_iload_n hx hb dX12_closePart_139 rfl (lv_at hl 0 rfl) ?_
    refine lv_iload_n hx hb dX12_closePart_140 rfl (lv_at hl 0 rfl) ?_
    refine lv_iconst (v := 1) hx hb dX12_closePart_141 (by decide) ?_
    refine lv_iadd hx hb dX12_closePart_142 ?_
    obtain ⟨r143, τ143, hq143, hg⟩ := bd_some hg
    refine gc_Vi (As := [.int 3, .int r133, .int (r133 + 1)]) (rest := []) (q0 := 0) (ci := 15) S X (k2_X12_lift l dC dI ad kc hq143 H.size) cw_X12_lift mG_2724 rfl rfl rfl rfl rfl hl.1 (Nat.le_of_ble_eq_true rfl) dX12_closePart_143 ⟨by omega, by omega⟩ (fun H locs X => ?_)
    refine lv_istore (lv' := [(4, .int r143), (3, .int r133), (0, .ref (ad 0)), (1, .int a1), (2, .int a2)]) hx hb dX12_closePart_146 hl (by decide) rfl (fun ls hl => ?_)
    refine lv_aload_n hx hb dX12_closePart_148 rfl (lv_at hl 2 rfl) ?_
    refine wmgR_0_72 S X mG_2122 dX12_closePart_149 ?_
    refine lv_iload hx hb dX12_closePart_152 (lv_at hl 0 rfl) ?_
    refine lv_aload_n hx hb dX12_closePart_154 rfl (lv_at hl 2 rfl) ?_
    refine wmgR_0_72 S X mG_2122 dX12_closePart_155 ?_
    refine lv_aload_n hx hb dX12_closePart_158 rfl (lv_at hl 2 rfl) ?_
    refine lv_iload hx hb dX12_closePart_159 (lv_at hl 0 rfl) ?_
    refine lv_iconst (v := 0) hx hb dX12_closePart_161 (by decide) ?_
    obtain ⟨r162, τ162, hq162, hg⟩ := bd_some hg
    refine gc_Vi (As := [.int r143, .int 0]) (rest := [.ref (ad 45), .int r143, .ref (ad 45)]) (q0 := 0) (ci := 15) S X (k2_X12_child l dC dI ad kc hq162 H.size) cw_X12_child mG_2736 rfl rfl rfl rfl rfl hl.1 (Nat.le_of_ble_eq_true rfl) dX12_closePart_162 ⟨by omega, by omega⟩ (fun H locs X => ?_)
    obtain ⟨hi165, hg⟩ := gd_some hg
    refine wmlB_5 (v := (xB τ162 5 r162)) S X hi165 rfl dX12_closePart_165 ?_
    obtain ⟨hi166, hg⟩ := gd_some hg
    refine wmsB_5 S X hi166 dX12_closePart_166 (fun H locs X => ?_)
    refine lv_iconst (v := 0) hx hb dX12_closePart_167 (by decide) ?_
    refine lv_istore (lv' := [(5, .int 0), (4, .int r143), (3, .int r133), (0, .ref (ad 0)), (1, .int a1), (2, .int a2)]) hx hb dX12_closePart_168 hl (by decide) rfl (fun ls hl => ?_)
    refine lv_aload_n hx hb dX12_closePart_170 rfl (lv_at hl 3 rfl) ?_
    refine wmgR_0_14 S X mG_2064 dX12_closePart_171 ?_
    refine lv_iload_n hx hb dX12_closePart_174 rfl (lv_at hl 5 rfl) ?_
    obtain ⟨hi175, hg⟩ := gd_some hg
    refine wmlA_3 (v := (xA τ162 3 a2)) S X hi175 rfl dX12_closePart_175 ?_
    refine lv_istore (lv' := [(6, .int (xA τ162 3 a2)), (5, .int 0), (4, .int r143), (3, .int r133), (0, .ref (ad 0)), (1, .int a1), (2, .int a2)]) hx hb dX12_closePart_176 hl (by decide) rfl (fun ls hl => ?_)
    exact w_X12_closePart_L178 S hr hk hR _ _ _ _ _ _ _ _ _ X (lv_sub hl [4, 5, 2, 1, 0] rfl) hg
  · refine lv_tableIn (off := 454) (tgt := 460) hx hb dX12_closePart_6 (by rw [hsw]; decide) (by rw [hsw]; decide) (by rw [hsw]; decide) (by decide) ?_
    have hg := (if_neg (by rw [hsw]; decide)).symm.trans hg
    have hg := (if_neg (by rw [hsw]; decide)).symm.trans hg
    have hg := (if_neg (by rw [hsw]; decide)).symm.trans hg
    have hg := (if_neg (by rw [hsw]; decide)).symm.trans hg
    have hg := (if_pos hsw).symm.trans hg
    obtain ⟨-, rfl⟩ := fin_some hg
    exact gr_v S hr hk X dX12_closePart_460
  · refine lv_tableIn (off := 331) (tgt := 337) hx hb dX12_closePart_6 (by rw [hsw]; decide) (by rw [hsw]; decide) (by rw [hsw]; decide) (by decide) ?_
    have hg := (if_neg (by rw [hsw]; decide)).symm.trans hg
    have hg := (if_neg (by rw [hsw]; decide)).symm.trans hg
    have hg := (if_neg (by rw [hsw]; decide)).symm.trans hg
    have hg := (if_neg (by rw [hsw]; decide)).symm.trans hg
    have hg := (if_neg (by rw [hsw]; decide)).symm.trans hg
    have hg := (if_pos hsw).symm.trans hg
    refine lv_aload_n hx hb dX12_closePart_337 rfl (lv_at hl 0 rfl) ?_
    refine lv_iconst (v := 5) hx hb dX12_closePart_338 (by decide) ?_
    refine lv_aload_n hx hb dX12_closePart_339 rfl (lv_at hl 0 rfl) ?_
    refine wmgR_0_18 S X mG_2068 dX12_closePart_340 ?_
    refine lv_iload_n hx hb dX12_closePart_343 rfl (lv_at hl 2 rfl) ?_
    obtain ⟨hi344, hg⟩ := gd_some hg
    refine wmlA_7 (v := (xA σ 7 a2)) S X hi344 rfl dX12_closePart_344 ?_
    refine lv_iconst (v := 2) hx hb dX12_closePart_345 (by decide) ?_
    obtain ⟨r346, τ346, hq346, hg⟩ := bd_some hg
    refine gc_Vi (As := [.int 5, .int (xA σ 7 a2), .int 2]) (rest := []) (q0 := 0) (ci := 15) S X (k2_X12_lift l dC dI ad kc hq346 H.size) cw_X12_lift mG_2724 rfl rfl rfl rfl rfl hl.1 (Nat.le_of_ble_eq_true rfl) dX12_closePart_346 ⟨by omega, by omega⟩ (fun H locs X => ?_)
    refine lv_pop hx hb dX12_closePart_349 rfl ?_
    refine lv_goto (tgt := 460) hx hb dX12_closePart_350 (by decide) ?_
    obtain ⟨-, rfl⟩ := fin_some hg
    exact gr_v S hr hk X dX12_closePart_460
  · refine lv_tableIn (off := 347) (tgt := 353) hx hb dX12_closePart_6 (by rw [hsw]; decide) (by rw [hsw]; decide) (by rw [hsw]; decide) (by decide) ?_
    have hg := (if_neg (by rw [hsw]; decide)).symm.trans hg
    have hg := (if_neg (by rw [hsw]; decide)).symm.trans hg
    have hg := (if_neg (by rw [hsw]; decide)).symm.trans hg
    have hg := (if_neg (by rw [hsw]; decide)).symm.trans hg
    have hg := (if_neg (by rw [hsw]; decide)).symm.trans hg
    have hg := (if_neg (by rw [hsw]; decide)).symm.trans hg
    have hg := (if_pos hsw).symm.trans hg
    refine lv_aload_n hx hb dX12_closePart_353 rfl (lv_at hl 0 rfl) ?_
    refine lv_bipush (v := 6) hx hb dX12_closePart_354 (by decide) ?_
    refine lv_iconst (v := 0) hx hb dX12_closePart_356 (by decide) ?_
    refine lv_aload_n hx hb dX12_closePart_357 rfl (lv_at hl 0 rfl) ?_
    refine lv_iload_n hx hb dX12_closePart_358 rfl (lv_at hl 2 rfl) ?_
    obtain ⟨r359, τ359, hq359, hg⟩ := bd_some hg
    refine gc_Vi (As := [.int a2]) (rest := [.int 0, .int 6, .ref (ad 0)]) (q0 := 0) (ci := 15) S X (k2_X12_rowCount l dC dI ad kc hq359 H.size) cw_X12_rowCount mG_2720 rfl rfl rfl rfl rfl hl.1 (Nat.le_of_ble_eq_true rfl) dX12_closePart_359 ⟨by omega, by omega⟩ (fun H locs X => ?_)
    obtain ⟨r362, τ362, hq362, hg⟩ := bd_some hg
    refine gc_Vi (As := [.int 6, .int 0, .int r359]) (rest := []) (q0 := 0) (ci := 15) S X (k2_X12_lift l dC dI ad kc hq362 H.size) cw_X12_lift mG_2724 rfl rfl rfl rfl rfl hl.1 (Nat.le_of_ble_eq_true rfl) dX12_closePart_362 ⟨by omega, by omega⟩ (fun H locs X => ?_)
    refine lv_pop hx hb dX12_closePart_365 rfl ?_
    refine lv_goto (tgt := 460) hx hb dX12_closePart_366 (by decide) ?_
    obtain ⟨-, rfl⟩ := fin_some hg
    exact gr_v S hr hk X dX12_closePart_460
  · refine lv_tableIn (off := 363) (tgt := 369) hx hb dX12_closePart_6 (by rw [hsw]; decide) (by rw [hsw]; decide) (by rw [hsw]; decide) (by decide) ?_
    have hg := (if_neg (by rw [hsw]; decide)).symm.trans hg
    have hg := (if_neg (by rw [hsw]; decide)).symm.trans hg
    have hg := (if_neg (by rw [hsw]; decide)).symm.trans hg
    have hg := (if_neg (by rw [hsw]; decide)).symm.trans hg
    have hg := (if_neg (by rw [hsw]; decide)).symm.trans hg
    have hg := (if_neg (by rw [hsw]; decide)).symm.trans hg
    have hg := (if_neg (by rw [hsw]; decide)).symm.trans hg
    have hg := (if_pos hsw).symm.trans hg
    refine lv_aload_n hx hb dX12_closePart_369 rfl (lv_at hl 0 rfl) ?_
    refine lv_bipush (v := 7) hx hb dX12_closePart_370 (by decide) ?_
    refine lv_aload_n hx hb dX12_closePart_372 rfl (lv_at hl 0 rfl) ?_
    refine wmgR_0_18 S X mG_2068 dX12_closePart_373 ?_
    refine lv_iload_n hx hb dX12_closePart_376 rfl (lv_at hl 2 rfl) ?_
    obtain ⟨hi377, hg⟩ := gd_some hg
    refine wmlA_7 (v := (xA σ 7 a2)) S X hi377 rfl dX12_closePart_377 ?_
    refine lv_aload_n hx hb dX12_closePart_378 rfl (lv_at hl 0 rfl) ?_
    refine lv_iload_n hx hb dX12_closePart_379 rfl (lv_at hl 2 rfl) ?_
    obtain ⟨r380, τ380, hq380, hg⟩ := bd_some hg
    refine gc_Vi (As := [.int a2]) (rest := [.int (xA σ 7 a2), .int 7, .ref (ad 0)]) (q0 := 0) (ci := 15) S X (k2_X12_rowCount l dC dI ad kc hq380 H.size) cw_X12_rowCount mG_2720 rfl rfl rfl rfl rfl hl.1 (Nat.le_of_ble_eq_true rfl) dX12_closePart_380 ⟨by omega, by omega⟩ (fun H locs X => ?_)
    obtain ⟨r383, τ383, hq383, hg⟩ := bd_some hg
    refine gc_Vi (As := [.int 7, .int (xA σ 7 a2), .int r380]) (rest := []) (q0 := 0) (ci := 15) S X (k2_X12_lift l dC dI ad kc hq383 H.size) cw_X12_lift mG_2724 rfl rfl rfl rfl rfl hl.1 (Nat.le_of_ble_eq_true rfl) dX12_closePart_383 ⟨by omega, by omega⟩ (fun H locs X => ?_)
    refine lv_pop hx hb dX12_closePart_386 rfl ?_
    refine lv_goto (tgt := 460) hx hb dX12_closePart_387 (by decide) ?_
    obtain ⟨-, rfl⟩ := fin_some hg
    exact gr_v S hr hk X dX12_closePart_460
  · refine lv_tableIn (off := 384) (tgt := 390) hx hb dX12_closePart_6 (by rw [hsw]; decide) (by rw [hsw]; decide) (by rw [hsw]; decide) (by decide) ?_
    have hg := (if_neg (by rw [hsw]; decide)).symm.trans hg
    have hg := (if_neg (by rw [hsw]; decide)).symm.trans hg
    have hg := (if_neg (by rw [hsw]; decide)).symm.trans hg
    have hg := (if_neg (by rw [hsw]; decide)).symm.trans hg
    have hg := (if_neg (by rw [hsw]; decide)).symm.trans hg
    have hg := (if_neg (by rw [hsw]; decide)).symm.trans hg
    have hg := (if_neg (by rw [hsw]; decide)).symm.trans hg
    have hg := (if_neg (by rw [hsw]; decide)).symm.trans hg
    have hg := (if_pos hsw).symm.trans hg
    refine lv_aload_n hx hb dX12_closePart_390 rfl (lv_at hl 0 rfl) ?_
    refine wmgR_0_19 S X mG_2069 dX12_closePart_391 ?_
    refine lv_iload_n hx hb dX12_closePart_394 rfl (lv_at hl 2 rfl) ?_
    obtain ⟨hi395, hg⟩ := gd_some hg
    refine wmlA_8 (v := (xA σ 8 a2)) S X hi395 rfl dX12_closePart_395 ?_
    refine lv_iconst (v := 1) hx hb dX12_closePart_396 (by decide) ?_
    refine lv_icmp_ne (tgt := 422) hx hb dX12_closePart_397 (by decide) (fun c397 => ?_) (fun c397 => ?_)
    · have hg := (if_neg c397).symm.trans hg
      refine lv_aload_n hx hb dX12_closePart_422 rfl (lv_at hl 0 rfl) ?_
      refine lv_bipush (v := 12) hx hb dX12_closePart_423 (by decide) ?_
      refine lv_aload_n hx hb dX12_closePart_425 rfl (lv_at hl 0 rfl) ?_
      refine wmgR_0_18 S X mG_2068 dX12_closePart_426 ?_
      refine lv_iload_n hx hb dX12_closePart_429 rfl (lv_at hl 2 rfl) ?_
      obtain ⟨hi430, hg⟩ := gd_some hg
      refine wmlA_7 (v := (xA σ 7 a2)) S X hi430 rfl dX12_closePart_430 ?_
      refine lv_iconst (v := 0) hx hb dX12_closePart_431 (by decide) ?_
      obtain ⟨r432, τ432, hq432, hg⟩ := bd_some hg
      refine gc_Vi (As := [.int 12, .int (xA σ 7 a2), .int 0]) (rest := []) (q0 := 0) (ci := 15) S X (k2_X12_lift l dC dI ad kc hq432 H.size) cw_X12_lift mG_2724 rfl rfl rfl rfl rfl hl.1 (Nat.le_of_ble_eq_true rfl) dX12_closePart_432 ⟨by omega, by omega⟩ (fun H locs X => ?_)
      refine lv_pop hx hb dX12_closePart_435 rfl ?_
      refine lv_goto (tgt := 460) hx hb dX12_closePart_436 (by decide) ?_
      obtain ⟨-, rfl⟩ := fin_some hg
      exact gr_v S hr hk X dX12_closePart_460
    · have hg := (if_pos c397).symm.trans hg
      refine lv_aload_n hx hb dX12_closePart_400 rfl (lv_at hl 0 rfl) ?_
      refine lv_bipush (v := 13) hx hb dX12_closePart_401 (by decide) ?_
      refine lv_aload_n hx hb dX12_closePart_403 rfl (lv_at hl 0 rfl) ?_
      refine lv_iload_n hx hb dX12_closePart_404 rfl (lv_at hl 1 rfl) ?_
      refine lv_aload_n hx hb dX12_closePart_405 rfl (lv_at hl 0 rfl) ?_
      refine wmgR_0_18 S X mG_2068 dX12_closePart_406 ?_
      refine lv_iload_n hx hb dX12_closePart_409 rfl (lv_at hl 2 rfl) ?_
      obtain ⟨hi410, hg⟩ := gd_some hg
      refine wmlA_7 (v := (xA σ 7 a2)) S X hi410 rfl dX12_closePart_410 ?_
      obtain ⟨r411, τ411, hq411, hg⟩ := bd_some hg
      refine gc_Vi (As := [.int a1, .int (xA σ 7 a2)]) (rest := [.int 13, .ref (ad 0)]) (q0 := 0) (ci := 15) S X (k2_X12_local l dC dI ad kc hq411 H.size) cw_X12_local mG_2728 rfl rfl rfl rfl rfl hl.1 (Nat.le_of_ble_eq_true rfl) dX12_closePart_411 ⟨by omega, by omega⟩ (fun H locs X => ?_)
      refine lv_iconst (v := 0) hx hb dX12_closePart_414 (by decide) ?_
      obtain ⟨r415, τ415, hq415, hg⟩ := bd_some hg
      refine gc_Vi (As := [.int 13, .int r411, .int 0]) (rest := []) (q0 := 0) (ci := 15) S X (k2_X12_lift l dC dI ad kc hq415 H.size) cw_X12_lift mG_2724 rfl rfl rfl rfl rfl hl.1 (Nat.le_of_ble_eq_true rfl) dX12_closePart_415 ⟨by omega, by omega⟩ (fun H locs X => ?_)
      refine lv_pop hx hb dX12_closePart_418 rfl ?_
      refine lv_goto (tgt := 460) hx hb dX12_closePart_419 (by decide) ?_
      obtain ⟨-, rfl⟩ := fin_some hg
      exact gr_v S hr hk X dX12_closePart_460
  · refine lv_tableIn (off := 433) (tgt := 439) hx hb dX12_closePart_6 (by rw [hsw]; decide) (by rw [hsw]; decide) (by rw [hsw]; decide) (by decide) ?_
    have hg := (if_neg (by rw [hsw]; decide)).symm.trans hg
    have hg := (if_neg (by rw [hsw]; decide)).symm.trans hg
    have hg := (if_neg (by rw [hsw]; decide)).symm.trans hg
    have hg := (if_neg (by rw [hsw]; decide)).symm.trans hg
    have hg := (if_neg (by rw [hsw]; decide)).symm.trans hg
    have hg := (if_neg (by rw [hsw]; decide)).symm.trans hg
    have hg := (if_neg (by rw [hsw]; decide)).symm.trans hg
    have hg := (if_neg (by rw [hsw]; decide)).symm.trans hg
    have hg := (if_neg (by rw [hsw]; decide)).symm.trans hg
    have hg := (if_pos hsw).symm.trans hg
    refine lv_aload_n hx hb dX12_closePart_439 rfl (lv_at hl 0 rfl) ?_
    refine lv_aload_n hx hb dX12_closePart_440 rfl (lv_at hl 0 rfl) ?_
    refine wmgR_0_13 S X mG_2063 dX12_closePart_441 ?_
    refine lv_iload_n hx hb dX12_closePart_444 rfl (lv_at hl 2 rfl) ?_
    obtain ⟨hi445, hg⟩ := gd_some hg
    refine wmlA_2 (v := (xA σ 2 a2)) S X hi445 rfl dX12_closePart_445 ?_
    refine lv_aload_n hx hb dX12_closePart_446 rfl (lv_at hl 0 rfl) ?_
    refine wmgR_0_18 S X mG_2068 dX12_closePart_447 ?_
    refine lv_iload_n hx hb dX12_closePart_450 rfl (lv_at hl 2 rfl) ?_
    obtain ⟨hi451, hg⟩ := gd_some hg
    refine wmlA_7 (v := (xA σ 7 a2)) S X hi451 rfl dX12_closePart_451 ?_
    refine lv_iconst (v := 0) hx hb dX12_closePart_452 (by decide) ?_
    obtain ⟨r453, τ453, hq453, hg⟩ := bd_some hg
    refine gc_Vi (As := [.int (xA σ 2 a2), .int (xA σ 7 a2), .int 0]) (rest := []) (q0 := 0) (ci := 15) S X (k2_X12_lift l dC dI ad kc hq453 H.size) cw_X12_lift mG_2724 rfl rfl rfl rfl rfl hl.1 (Nat.le_of_ble_eq_true rfl) dX12_closePart_453 ⟨by omega, by omega⟩ (fun H locs X => ?_)
    refine lv_pop hx hb dX12_closePart_456 rfl ?_
    refine lv_goto (tgt := 460) hx hb dX12_closePart_457 (by decide) ?_
    obtain ⟨-, rfl⟩ := fin_some hg
    exact gr_v S hr hk X dX12_closePart_460
  · refine lv_tableIn (off := 433) (tgt := 439) hx hb dX12_closePart_6 (by rw [hsw]; decide) (by rw [hsw]; decide) (by rw [hsw]; decide) (by decide) ?_
    have hg := (if_neg (by rw [hsw]; decide)).symm.trans hg
    have hg := (if_neg (by rw [hsw]; decide)).symm.trans hg
    have hg := (if_neg (by rw [hsw]; decide)).symm.trans hg
    have hg := (if_neg (by rw [hsw]; decide)).symm.trans hg
    have hg := (if_neg (by rw [hsw]; decide)).symm.trans hg
    have hg := (if_neg (by rw [hsw]; decide)).symm.trans hg
    have hg := (if_neg (by rw [hsw]; decide)).symm.trans hg
    have hg := (if_neg (by rw [hsw]; decide)).symm.trans hg
    have hg := (if_neg (by rw [hsw]; decide)).symm.trans hg
    have hg := (if_neg (by rw [hsw]; decide)).symm.trans hg
    have hg := (if_pos hsw).symm.trans hg
    refine lv_aload_n hx hb dX12_closePart_439 rfl (lv_at hl 0 rfl) ?_
    refine lv_aload_n hx hb dX12_closePart_440 rfl (lv_at hl 0 rfl) ?_
    refine wmgR_0_13 S X mG_2063 dX12_closePart_441 ?_
    refine lv_iload_n hx hb dX12_closePart_444 rfl (lv_at hl 2 rfl) ?_
    obtain ⟨hi445, hg⟩ := gd_some hg
    refine wmlA_2 (v := (xA σ 2 a2)) S X hi445 rfl dX12_closePart_445 ?_
    refine lv_aload_n hx hb dX12_closePart_446 rfl (lv_at hl 0 rfl) ?_
    refine wmgR_0_18 S X mG_2068 dX12_closePart_447 ?_
    refine lv_iload_n hx hb dX12_closePart_450 rfl (lv_at hl 2 rfl) ?_
    obtain ⟨hi451, hg⟩ := gd_some hg
    refine wmlA_7 (v := (xA σ 7 a2)) S X hi451 rfl dX12_closePart_451 ?_
    refine lv_iconst (v := 0) hx hb dX12_closePart_452 (by decide) ?_
    obtain ⟨r453, τ453, hq453, hg⟩ := bd_some hg
    refine gc_Vi (As := [.int (xA σ 2 a2), .int (xA σ 7 a2), .int 0]) (rest := []) (q0 := 0) (ci := 15) S X (k2_X12_lift l dC dI ad kc hq453 H.size) cw_X12_lift mG_2724 rfl rfl rfl rfl rfl hl.1 (Nat.le_of_ble_eq_true rfl) dX12_closePart_453 ⟨by omega, by omega⟩ (fun H locs X => ?_)
    refine lv_pop hx hb dX12_closePart_456 rfl ?_
    refine lv_goto (tgt := 460) hx hb dX12_closePart_457 (by decide) ?_
    obtain ⟨-, rfl⟩ := fin_some hg
    exact gr_v S hr hk X dX12_closePart_460
  · refine lv_tableIn (off := 433) (tgt := 439) hx hb dX12_closePart_6 (by rw [hsw]; decide) (by rw [hsw]; decide) (by rw [hsw]; decide) (by decide) ?_
    have hg := (if_neg (by rw [hsw]; decide)).symm.trans hg
    have hg := (if_neg (by rw [hsw]; decide)).symm.trans hg
    have hg := (if_neg (by rw [hsw]; decide)).symm.trans hg
    have hg := (if_neg (by rw [hsw]; decide)).symm.trans hg
    have hg := (if_neg (by rw [hsw]; decide)).symm.trans hg
    have hg := (if_neg (by rw [hsw]; decide)).symm.trans hg
    have hg := (if_neg (by rw [hsw]; decide)).symm.trans hg
    have hg := (if_neg (by rw [hsw]; decide)).symm.trans hg
    have hg := (if_neg (by rw [hsw]; decide)).symm.trans hg
    have hg := (if_neg (by rw [hsw]; decide)).symm.trans hg
    have hg := (if_neg (by rw [hsw]; decide)).symm.trans hg
    have hg := (if_pos hsw).symm.trans hg
    refine lv_aload_n hx hb dX12_closePart_439 rfl (lv_at hl 0 rfl) ?_
    refine lv_aload_n hx hb dX12_closePart_440 rfl (lv_at hl 0 rfl) ?_
    refine wmgR_0_13 S X mG_2063 dX12_closePart_441 ?_
    refine lv_iload_n hx hb dX12_closePart_444 rfl (lv_at hl 2 rfl) ?_
    obtain ⟨hi445, hg⟩ := gd_some hg
    refine wmlA_2 (v := (xA σ 2 a2)) S X hi445 rfl dX12_closePart_445 ?_
    refine lv_aload_n hx hb dX12_closePart_446 rfl (lv_at hl 0 rfl) ?_
    refine wmgR_0_18 S X mG_2068 dX12_closePart_447 ?_
    refine lv_iload_n hx hb dX12_closePart_450 rfl (lv_at hl 2 rfl) ?_
    obtain ⟨hi451, hg⟩ := gd_some hg
    refine wmlA_7 (v := (xA σ 7 a2)) S X hi451 rfl dX12_closePart_451 ?_
    refine lv_iconst (v := 0) hx hb dX12_closePart_452 (by decide) ?_
    obtain ⟨r453, τ453, hq453, hg⟩ := bd_some hg
    refine gc_Vi (As := [.int (xA σ 2 a2), .int (xA σ 7 a2), .int 0]) (rest := []) (q0 := 0) (ci := 15) S X (k2_X12_lift l dC dI ad kc hq453 H.size) cw_X12_lift mG_2724 rfl rfl rfl rfl rfl hl.1 (Nat.le_of_ble_eq_true rfl) dX12_closePart_453 ⟨by omega, by omega⟩ (fun H locs X => ?_)
    refine lv_pop hx hb dX12_closePart_456 rfl ?_
    refine lv_goto (tgt := 460) hx hb dX12_closePart_457 (by decide) ?_
    obtain ⟨-, rfl⟩ := fin_some hg
    exact gr_v S hr hk X dX12_closePart_460
end MX12_closePart
set_option maxRecDepth 100000 in
theorem k2_X12_closePart (l : Launch) (dC : Nat → ClassId) (dI : Nat → Nat → Nat) {Z : ZZ} (ad : Nat → Nat) (kc : Nat → ClassId) {σ τ : S5} {a1 : Int32} {a2 : Int32} {r : Unit} (hg : f_X12_closePart a1 a2 σ = some (r, τ)) (sz : Nat) : Met l yX12_closePart (Cond.code yX12_closePart cX12_closePart 8 none :: uG) { frames := 1, cells := 0, slots := 0, locals := 29 } (gPc (dC, dI) (tM kc) (wM ad kc) Z [.ref (ad 0), .int a1, .int a2] σ sz) (gQv (dC, dI) (tM kc) (wM ad kc) (va_A (wM ad kc σ) sz) r τ) 0 0 (va_A (wM ad kc σ) sz) :=
  g_start (by decide) (Nat.le_of_ble_eq_true rfl) (fun p e s m below meth c ls S hr hk X hl => w_X12_closePart S hr hk ⟨Nat.le_refl _, Nat.le_refl _⟩ X hl hg)
section MX12_liftAll
variable {p : Program} {l : Launch} {e : Env} {R : Room} {s : State} {m : MethodId} {args : Array Value} {below : List Frame} {meth : Method} {c : Code} {dC : Nat → ClassId} {dI : Nat → Nat → Nat} {Z : ZZ} {A : Nat → Prop} {ad : Nat → Nat} {kc : Nat → ClassId} {r : Unit} {τ : S5}
set_option maxHeartbeats 4000000 in
set_option maxRecDepth 100000 in
theorem w_X12_liftAll_b248 {σ : S5} {v1 : Int32} {H : Heap} {locs : List Loc} {ls : Array Slot} (S : CallFix p m c cX12_liftAll 5 s args uG RX12) (hr : meth.sig.returnType = none) (hk : meth.locks = false) (hR : 2 ≤ R.frames ∧ 56 ≤ R.locals)
    (X : gX (dC, dI) (tM kc) (wM ad kc) Z A s σ H locs) (hl : lv_has ls 5 [(0, .ref (ad 0)), (1, .int v1)]) (hg : f_X12_liftAll_b248 v1 σ = some (r, τ)) : W p l e R s m args below meth c H locs 0 0 (MQ below (gQv (dC, dI) (tM kc) (wM ad kc) A r τ) args s 0 0 A) (F0 m 248 ls []) := by
  have hx := S.1
  have hb := S.2.1
  have hown := S.2.2.2.1
  have hu := S.2.2.2.2
  unfold f_X12_liftAll_b248 at hg
  refine lv_aload_n hx hb dX12_liftAll_248 rfl (lv_at hl 0 rfl) ?_
  refine lv_bipush (v := 8) hx hb dX12_liftAll_249 (by decide) ?_
  refine lv_aload_n hx hb dX12_liftAll_251 rfl (lv_at hl 0 rfl) ?_
  refine wmgR_0_29 S X mG_2079 dX12_liftAll_252 ?_
  refine lv_iload_n hx hb dX12_liftAll_255 rfl (lv_at hl 1 rfl) ?_
  obtain ⟨hi256, hg⟩ := gd_some hg
  refine wmlA_11 (v := (xA σ 11 v1)) S X hi256 rfl dX12_liftAll_256 ?_
  obtain ⟨r257, τ257, hq257, hg⟩ := bd_some hg
  refine gc_Vv (As := [.int 8, .int (xA σ 11 v1)]) (rest := []) (q0 := 0) (ci := 15) S X (k2_X12_fail l dC dI ad kc hq257 H.size) cw_X12_fail mG_2522 rfl rfl rfl rfl rfl hl.1 (Nat.le_of_ble_eq_true rfl) dX12_liftAll_257 ⟨by omega, by omega⟩ (fun H locs X => ?_)
  obtain ⟨-, rfl⟩ := fin_some hg
  exact gr_v S hr hk X dX12_liftAll_260
set_option maxHeartbeats 4000000 in
set_option maxRecDepth 100000 in
theorem w_X12_liftAll_B198 {σ : S5} {rec17 : Int32 → S5 → Option (Unit × S5)} {rec198 : Int32 → Int32 → S5 → Option (Unit × S5)} {v1 : Int32} {v4 : Int32} {H : Heap} {locs : List Loc} {ls : Array Slot} (S : CallFix p m c cX12_liftAll 5 s args uG RX12) (hr : meth.sig.returnType = none) (hk : meth.locks = false) (hR : 2 ≤ R.frames ∧ 56 ≤ R.locals)
    (hrec17 : ∀ (v1 : Int32) (σ : S5) (H : Heap) (locs : List Loc) (ls : Array Slot), gX (dC, dI) (tM kc) (wM ad kc) Z A s σ H locs → lv_has ls 5 [(0, .ref (ad 0)), (1, .int v1)] → rec17 v1 σ = some (r, τ) → W p l e R s m args below meth c H locs 0 0 (MQ below (gQv (dC, dI) (tM kc) (wM ad kc) A r τ) args s 0 0 A) (F0 m 17 ls []))
    (hrec198 : ∀ (v1 : Int32) (v4 : Int32) (σ : S5) (H : Heap) (locs : List Loc) (ls : Array Slot), gX (dC, dI) (tM kc) (wM ad kc) Z A s σ H locs → lv_has ls 5 [(0, .ref (ad 0)), (1, .int v1), (4, .int v4)] → rec198 v1 v4 σ = some (r, τ) → W p l e R s m args below meth c H locs 0 0 (MQ below (gQv (dC, dI) (tM kc) (wM ad kc) A r τ) args s 0 0 A) (F0 m 198 ls []))
    (X : gX (dC, dI) (tM kc) (wM ad kc) Z A s σ H locs) (hl : lv_has ls 5 [(0, .ref (ad 0)), (1, .int v1), (4, .int v4)]) (hg : f_X12_liftAll_B198 rec17 rec198 v1 v4 σ = some (r, τ)) : W p l e R s m args below meth c H locs 0 0 (MQ below (gQv (dC, dI) (tM kc) (wM ad kc) A r τ) args s 0 0 A) (F0 m 198 ls []) := by
  have hx := S.1
  have hb := S.2.1
  have hown := S.2.2.2.1
  have hu := S.2.2.2.2
  unfold f_X12_liftAll_B198 at hg
  refine lv_iload hx hb dX12_liftAll_198 (lv_at hl 2 rfl) ?_
  refine lv_aload_n hx hb dX12_liftAll_200 rfl (lv_at hl 0 rfl) ?_
  refine wmgI_26 (v := (gI σ 26)) S X mG_2113 rfl dX12_liftAll_201 ?_
  refine lv_icmp_ge (tgt := 221) hx hb dX12_liftAll_204 (by decide) (fun c204 => ?_) (fun c204 => ?_)
  · have hg := (if_pos c204).symm.trans hg
    refine lv_aload_n hx hb dX12_liftAll_221 rfl (lv_at hl 0 rfl) ?_
    refine wmgR_0_70 S X mG_2120 dX12_liftAll_222 ?_
    refine lv_aload_n hx hb dX12_liftAll_225 rfl (lv_at hl 0 rfl) ?_
    refine wmgR_0_80 S X mG_2130 dX12_liftAll_226 ?_
    refine lv_iload_n hx hb dX12_liftAll_229 rfl (lv_at hl 1 rfl) ?_
    obtain ⟨hi230, hg⟩ := gd_some hg
    refine wmlA_45 (v := (xA σ 45 v1)) S X hi230 rfl dX12_liftAll_230 ?_
    obtain ⟨hi231, hg⟩ := gd_some hg
    refine wmlA_37 (v := (xA σ 37 (xA σ 45 v1))) S X hi231 rfl dX12_liftAll_231 ?_
    refine lv_bipush (v := 40) hx hb dX12_liftAll_232 (by decide) ?_
    refine lv_icmp_gt (tgt := 248) hx hb dX12_liftAll_234 (by decide) (fun c234 => ?_) (fun c234 => ?_)
    · have hg := (if_pos c234).symm.trans hg
      exact w_X12_liftAll_b248 S hr hk hR X (lv_sub hl [0, 1] rfl) hg
    · have hg := (if_neg c234).symm.trans hg
      refine lv_aload_n hx hb dX12_liftAll_237 rfl (lv_at hl 0 rfl) ?_
      refine wmgR_0_81 S X mG_2131 dX12_liftAll_238 ?_
      refine lv_iload_n hx hb dX12_liftAll_241 rfl (lv_at hl 1 rfl) ?_
      obtain ⟨hi242, hg⟩ := gd_some hg
      refine wmlA_46 (v := (xA σ 46 v1)) S X hi242 rfl dX12_liftAll_242 ?_
      refine lv_bipush (v := 40) hx hb dX12_liftAll_243 (by decide) ?_
      refine lv_icmp_le (tgt := 261) hx hb dX12_liftAll_245 (by decide) (fun c245 => ?_) (fun c245 => ?_)
      · have hg := (if_pos c245).symm.trans hg
        refine lv_iinc (v := (v1 + 1)) (lv' := [(1, .int (v1 + 1)), (0, .ref (ad 0)), (4, .int v4)]) hx hb dX12_liftAll_261 hl (k := 1) rfl (by rfl) (by decide) rfl (fun ls hl => ?_)
        refine lv_goto (tgt := 17) hx hb dX12_liftAll_264 (by decide) ?_
        exact hrec17 _ _ _ _ _ X (lv_sub hl [1, 0] rfl) hg
      · have hg := (if_neg c245).symm.trans hg
        exact w_X12_liftAll_b248 S hr hk hR X (lv_sub hl [0, 1] rfl) hg
  · have hg := (if_neg c204).symm.trans hg
    refine lv_aload_n hx hb dX12_liftAll_207 rfl (lv_at hl 0 rfl) ?_
    refine wmgR_0_71 S X mG_2121 dX12_liftAll_208 ?_
    refine lv_iload hx hb dX12_liftAll_211 (lv_at hl 2 rfl) ?_
    refine lv_iload_n hx hb dX12_liftAll_213 rfl (lv_at hl 1 rfl) ?_
    obtain ⟨hi214, hg⟩ := gd_some hg
    refine wmsA_38 S X hi214 dX12_liftAll_214 (fun H locs X => ?_)
    refine lv_iinc (v := (v4 + 1)) (lv' := [(4, .int (v4 + 1)), (0, .ref (ad 0)), (1, .int v1)]) hx hb dX12_liftAll_215 hl (k := 2) rfl (by rfl) (by decide) rfl (fun ls hl => ?_)
    refine lv_goto (tgt := 198) hx hb dX12_liftAll_218 (by decide) ?_
    exact hrec198 _ _ _ _ _ _ X (lv_sub hl [1, 2, 0] rfl) hg
set_option maxHeartbeats 4000000 in
set_option maxRecDepth 100000 in
theorem w_X12_liftAll_L198 {rec17 : Int32 → S5 → Option (Unit × S5)} (S : CallFix p m c cX12_liftAll 5 s args uG RX12) (hr : meth.sig.returnType = none) (hk : meth.locks = false) (hR : 2 ≤ R.frames ∧ 56 ≤ R.locals)
    (hrec17 : ∀ (v1 : Int32) (σ : S5) (H : Heap) (locs : List Loc) (ls : Array Slot), gX (dC, dI) (tM kc) (wM ad kc) Z A s σ H locs → lv_has ls 5 [(0, .ref (ad 0)), (1, .int v1)] → rec17 v1 σ = some (r, τ) → W p l e R s m args below meth c H locs 0 0 (MQ below (gQv (dC, dI) (tM kc) (wM ad kc) A r τ) args s 0 0 A) (F0 m 17 ls [])) : ∀ (n : Nat) (v1 : Int32) (v4 : Int32) (σ : S5) (H : Heap) (locs : List Loc) (ls : Array Slot), gX (dC, dI) (tM kc) (wM ad kc) Z A s σ H locs → lv_has ls 5 [(0, .ref (ad 0)), (1, .int v1), (4, .int v4)] → f_X12_liftAll_L198 rec17 n v1 v4 σ = some (r, τ) → W p l e R s m args below meth c H locs 0 0 (MQ below (gQv (dC, dI) (tM kc) (wM ad kc) A r τ) args s 0 0 A) (F0 m 198 ls []) := by
  intro n
  induction n with
  | zero => intro v1 v4 σ H locs ls X hl hg; cases hg
  | succ n ih => intro v1 v4 σ H locs ls X hl hg; exact w_X12_liftAll_B198 S hr hk hR hrec17 ih X hl hg
set_option maxHeartbeats 4000000 in
set_option maxRecDepth 100000 in
theorem w_X12_liftAll_b162 {σ : S5} {rec17 : Int32 → S5 → Option (Unit × S5)} {rec88 : Int32 → Int32 → S5 → Option (Unit × S5)} {v1 : Int32} {v3 : Int32} {H : Heap} {locs : List Loc} {ls : Array Slot} (S : CallFix p m c cX12_liftAll 5 s args uG RX12) (hr : meth.sig.returnType = none) (hk : meth.locks = false) (hR : 2 ≤ R.frames ∧ 56 ≤ R.locals)
    (hrec17 : ∀ (v1 : Int32) (σ : S5) (H : Heap) (locs : List Loc) (ls : Array Slot), gX (dC, dI) (tM kc) (wM ad kc) Z A s σ H locs → lv_has ls 5 [(0, .ref (ad 0)), (1, .int v1)] → rec17 v1 σ = some (r, τ) → W p l e R s m args below meth c H locs 0 0 (MQ below (gQv (dC, dI) (tM kc) (wM ad kc) A r τ) args s 0 0 A) (F0 m 17 ls []))
    (hrec88 : ∀ (v1 : Int32) (v3 : Int32) (σ : S5) (H : Heap) (locs : List Loc) (ls : Array Slot), gX (dC, dI) (tM kc) (wM ad kc) Z A s σ H locs → lv_has ls 5 [(0, .ref (ad 0)), (1, .int v1), (3, .int v3)] → rec88 v1 v3 σ = some (r, τ) → W p l e R s m args below meth c H locs 0 0 (MQ below (gQv (dC, dI) (tM kc) (wM ad kc) A r τ) args s 0 0 A) (F0 m 88 ls []))
    (X : gX (dC, dI) (tM kc) (wM ad kc) Z A s σ H locs) (hl : lv_has ls 5 [(0, .ref (ad 0)), (1, .int v1), (3, .int v3)]) (hg : f_X12_liftAll_b162 rec17 rec88 v1 v3 σ = some (r, τ)) : W p l e R s m args below meth c H locs 0 0 (MQ below (gQv (dC, dI) (tM kc) (wM ad kc) A r τ) args s 0 0 A) (F0 m 162 ls []) := by
  have hx := S.1
  have hb := S.2.1
  have hown := S.2.2.2.1
  have hu := S.2.2.2.2
  unfold f_X12_liftAll_b162 at hg
  refine lv_goto (tgt := 88) hx hb dX12_liftAll_162 (by decide) ?_
  exact hrec88 _ _ _ _ _ _ X (lv_sub hl [0, 1, 2] rfl) hg
set_option maxHeartbeats 4000000 in
set_option maxRecDepth 100000 in
theorem w_X12_liftAll_B88 {σ : S5} {rec17 : Int32 → S5 → Option (Unit × S5)} {rec88 : Int32 → Int32 → S5 → Option (Unit × S5)} {v1 : Int32} {v3 : Int32} {H : Heap} {locs : List Loc} {ls : Array Slot} (S : CallFix p m c cX12_liftAll 5 s args uG RX12) (hr : meth.sig.returnType = none) (hk : meth.locks = false) (hR : 2 ≤ R.frames ∧ 56 ≤ R.locals)
    (hrec17 : ∀ (v1 : Int32) (σ : S5) (H : Heap) (locs : List Loc) (ls : Array Slot), gX (dC, dI) (tM kc) (wM ad kc) Z A s σ H locs → lv_has ls 5 [(0, .ref (ad 0)), (1, .int v1)] → rec17 v1 σ = some (r, τ) → W p l e R s m args below meth c H locs 0 0 (MQ below (gQv (dC, dI) (tM kc) (wM ad kc) A r τ) args s 0 0 A) (F0 m 17 ls []))
    (hrec88 : ∀ (v1 : Int32) (v3 : Int32) (σ : S5) (H : Heap) (locs : List Loc) (ls : Array Slot), gX (dC, dI) (tM kc) (wM ad kc) Z A s σ H locs → lv_has ls 5 [(0, .ref (ad 0)), (1, .int v1), (3, .int v3)] → rec88 v1 v3 σ = some (r, τ) → W p l e R s m args below meth c H locs 0 0 (MQ below (gQv (dC, dI) (tM kc) (wM ad kc) A r τ) args s 0 0 A) (F0 m 88 ls []))
    (X : gX (dC, dI) (tM kc) (wM ad kc) Z A s σ H locs) (hl : lv_has ls 5 [(0, .ref (ad 0)), (1, .int v1), (3, .int v3)]) (hg : f_X12_liftAll_B88 rec17 rec88 v1 v3 σ = some (r, τ)) : W p l e R s m args below meth c H locs 0 0 (MQ below (gQv (dC, dI) (tM kc) (wM ad kc) A r τ) args s 0 0 A) (F0 m 88 ls []) := by
  have hx := S.1
  have hb := S.2.1
  have hown := S.2.2.2.1
  have hu := S.2.2.2.2
  unfold f_X12_liftAll_B88 at hg
  refine lv_iload_n hx hb dX12_liftAll_88 rfl (lv_at hl 2 rfl) ?_
  refine lv_if_le (tgt := 165) hx hb dX12_liftAll_89 (by decide) (fun c89 => ?_) (fun c89 => ?_)
  · have hg := (if_pos c89).symm.trans hg
    refine lv_aload_n hx hb dX12_liftAll_165 rfl (lv_at hl 0 rfl) ?_
    refine lv_dup hx hb dX12_liftAll_166 rfl ?_
    refine wmgI_28 (v := (gI σ 28)) S X mG_2133 rfl dX12_liftAll_167 ?_
    refine lv_iconst (v := 1) hx hb dX12_liftAll_170 (by decide) ?_
    refine lv_isub hx hb dX12_liftAll_171 ?_
    refine wmpI_28 S X mG_2133 dX12_liftAll_172 (fun H locs X => ?_)
    refine lv_aload_n hx hb dX12_liftAll_175 rfl (lv_at hl 0 rfl) ?_
    refine wmgR_0_80 S X mG_2130 dX12_liftAll_176 ?_
    refine lv_iload_n hx hb dX12_liftAll_179 rfl (lv_at hl 1 rfl) ?_
    refine lv_aload_n hx hb dX12_liftAll_180 rfl (lv_at hl 0 rfl) ?_
    refine wmgR_0_84 S X mG_2134 dX12_liftAll_181 ?_
    refine lv_aload_n hx hb dX12_liftAll_184 rfl (lv_at hl 0 rfl) ?_
    refine wmgI_28 (v := ((gI σ 28) - 1)) S X mG_2133 rfl dX12_liftAll_185 ?_
    obtain ⟨hi188, hg⟩ := gd_some hg
    refine wmlA_48 (v := (xA σ 48 ((gI σ 28) - 1))) S X hi188 rfl dX12_liftAll_188 ?_
    obtain ⟨hi189, hg⟩ := gd_some hg
    refine wmsA_45 S X hi189 dX12_liftAll_189 (fun H locs X => ?_)
    refine lv_aload_n hx hb dX12_liftAll_190 rfl (lv_at hl 0 rfl) ?_
    refine wmgR_0_79 S X mG_2129 dX12_liftAll_191 ?_
    refine lv_iload_n hx hb dX12_liftAll_194 rfl (lv_at hl 1 rfl) ?_
    obtain ⟨hi195, hg⟩ := gd_some hg
    refine wmlA_44 (v := (xA σ 44 v1)) S X hi195 rfl dX12_liftAll_195 ?_
    refine lv_istore (lv' := [(4, .int (xA σ 44 v1)), (0, .ref (ad 0)), (1, .int v1), (3, .int v3)]) hx hb dX12_liftAll_196 hl (by decide) rfl (fun ls hl => ?_)
    exact w_X12_liftAll_L198 S hr hk hR hrec17 _ _ _ _ _ _ _ X (lv_sub hl [1, 2, 0] rfl) hg
  · have hg := (if_neg c89).symm.trans hg
    refine lv_aload_n hx hb dX12_liftAll_92 rfl (lv_at hl 0 rfl) ?_
    refine lv_iload_n hx hb dX12_liftAll_93 rfl (lv_at hl 2 rfl) ?_
    refine lv_iconst (v := 1) hx hb dX12_liftAll_94 (by decide) ?_
    refine lv_isub hx hb dX12_liftAll_95 ?_
    obtain ⟨r96, τ96, hq96, hg⟩ := bd_some hg
    refine gc_Vi (As := [.int (v3 - 1)]) (rest := []) (q0 := 0) (ci := 15) S X (k2_X12_nextChild l dC dI ad kc hq96 H.size) cw_X12_nextChild mG_2692 rfl rfl rfl rfl rfl hl.1 (Nat.le_of_ble_eq_true rfl) dX12_liftAll_96 ⟨by omega, by omega⟩ (fun H locs X => ?_)
    refine lv_istore (lv' := [(4, .int r96), (0, .ref (ad 0)), (1, .int v1), (3, .int v3)]) hx hb dX12_liftAll_99 hl (by decide) rfl (fun ls hl => ?_)
    refine lv_iload hx hb dX12_liftAll_101 (lv_at hl 0 rfl) ?_
    refine lv_if_ge (tgt := 127) hx hb dX12_liftAll_103 (by decide) (fun c103 => ?_) (fun c103 => ?_)
    · have hg := (if_pos c103).symm.trans hg
      refine lv_aload_n hx hb dX12_liftAll_127 rfl (lv_at hl 1 rfl) ?_
      refine wmgR_0_47 S X mG_2097 dX12_liftAll_128 ?_
      refine lv_iload hx hb dX12_liftAll_131 (lv_at hl 0 rfl) ?_
      obtain ⟨hi133, hg⟩ := gd_some hg
      refine wmlA_19 (v := (xA τ96 19 r96)) S X hi133 rfl dX12_liftAll_133 ?_
      refine lv_if_lt (tgt := 152) hx hb dX12_liftAll_134 (by decide) (fun c134 => ?_) (fun c134 => ?_)
      · have hg := (if_pos c134).symm.trans hg
        refine lv_aload_n hx hb dX12_liftAll_152 rfl (lv_at hl 1 rfl) ?_
        refine lv_iload_n hx hb dX12_liftAll_153 rfl (lv_at hl 3 rfl) ?_
        refine lv_iload hx hb dX12_liftAll_154 (lv_at hl 0 rfl) ?_
        obtain ⟨r156, τ156, hq156, hg⟩ := bd_some hg
        refine gc_Vv (As := [.int v3, .int r96]) (rest := []) (q0 := 0) (ci := 15) S X (k2_X12_beginAt l dC dI ad kc hq156 H.size) cw_X12_beginAt mG_2665 rfl rfl rfl rfl rfl hl.1 (Nat.le_of_ble_eq_true rfl) dX12_liftAll_156 ⟨by omega, by omega⟩ (fun H locs X => ?_)
        refine lv_iinc (v := (v3 + 1)) (lv' := [(3, .int (v3 + 1)), (4, .int r96), (0, .ref (ad 0)), (1, .int v1)]) hx hb dX12_liftAll_159 hl (k := 3) rfl (by rfl) (by decide) rfl (fun ls hl => ?_)
        exact w_X12_liftAll_b162 S hr hk hR hrec17 hrec88 X (lv_sub hl [2, 3, 0] rfl) hg
      · have hg := (if_neg c134).symm.trans hg
        refine lv_aload_n hx hb dX12_liftAll_137 rfl (lv_at hl 1 rfl) ?_
        refine lv_iload_n hx hb dX12_liftAll_138 rfl (lv_at hl 2 rfl) ?_
        refine lv_aload_n hx hb dX12_liftAll_139 rfl (lv_at hl 1 rfl) ?_
        refine wmgR_0_47 S X mG_2097 dX12_liftAll_140 ?_
        refine lv_iload hx hb dX12_liftAll_143 (lv_at hl 0 rfl) ?_
        obtain ⟨hi145, hg⟩ := gd_some hg
        refine wmlA_19 (v := (xA τ96 19 r96)) S X hi145 rfl dX12_liftAll_145 ?_
        obtain ⟨r146, τ146, hq146, hg⟩ := bd_some hg
        refine gc_Vv (As := [.int v1, .int (xA τ96 19 r96)]) (rest := []) (q0 := 0) (ci := 15) S X (k2_X12_liftFunction l dC dI ad kc hq146 H.size) cw_X12_liftFunction mG_2740 rfl rfl rfl rfl rfl hl.1 (Nat.le_of_ble_eq_true rfl) dX12_liftAll_146 ⟨by omega, by omega⟩ (fun H locs X => ?_)
        refine lv_goto (tgt := 162) hx hb dX12_liftAll_149 (by decide) ?_
        exact w_X12_liftAll_b162 S hr hk hR hrec17 hrec88 X (lv_sub hl [1, 2, 3] rfl) hg
    · have hg := (if_neg c103).symm.trans hg
      refine lv_iinc (v := (v3 + (-1))) (lv' := [(3, .int (v3 + (-1))), (4, .int r96), (0, .ref (ad 0)), (1, .int v1)]) hx hb dX12_liftAll_106 hl (k := 3) rfl (by rfl) (by decide) rfl (fun ls hl => ?_)
      refine lv_iload_n hx hb dX12_liftAll_109 rfl (lv_at hl 0 rfl) ?_
      refine lv_if_le (tgt := 162) hx hb dX12_liftAll_110 (by decide) (fun c110 => ?_) (fun c110 => ?_)
      · have hg := (if_pos c110).symm.trans hg
        exact w_X12_liftAll_b162 S hr hk hR hrec17 hrec88 X (lv_sub hl [2, 3, 0] rfl) hg
      · have hg := (if_neg c110).symm.trans hg
        refine lv_aload_n hx hb dX12_liftAll_113 rfl (lv_at hl 2 rfl) ?_
        refine lv_iload_n hx hb dX12_liftAll_114 rfl (lv_at hl 3 rfl) ?_
        refine lv_aload_n hx hb dX12_liftAll_115 rfl (lv_at hl 2 rfl) ?_
        refine wmgR_0_60 S X mG_2110 dX12_liftAll_116 ?_
        refine lv_iload_n hx hb dX12_liftAll_119 rfl (lv_at hl 0 rfl) ?_
        obtain ⟨hi120, hg⟩ := gd_some hg
        refine wmlA_28 (v := (xA τ96 28 (v3 + (-1)))) S X hi120 rfl dX12_liftAll_120 ?_
        obtain ⟨r121, τ121, hq121, hg⟩ := bd_some hg
        refine gc_Vv (As := [.int v1, .int (xA τ96 28 (v3 + (-1)))]) (rest := []) (q0 := 0) (ci := 15) S X (k2_X12_closePart l dC dI ad kc hq121 H.size) cw_X12_closePart mG_2716 rfl rfl rfl rfl rfl hl.1 (Nat.le_of_ble_eq_true rfl) dX12_liftAll_121 ⟨by omega, by omega⟩ (fun H locs X => ?_)
        refine lv_goto (tgt := 162) hx hb dX12_liftAll_124 (by decide) ?_
        exact w_X12_liftAll_b162 S hr hk hR hrec17 hrec88 X (lv_sub hl [2, 3, 0] rfl) hg
set_option maxHeartbeats 4000000 in
set_option maxRecDepth 100000 in
theorem w_X12_liftAll_L88 {rec17 : Int32 → S5 → Option (Unit × S5)} (S : CallFix p m c cX12_liftAll 5 s args uG RX12) (hr : meth.sig.returnType = none) (hk : meth.locks = false) (hR : 2 ≤ R.frames ∧ 56 ≤ R.locals)
    (hrec17 : ∀ (v1 : Int32) (σ : S5) (H : Heap) (locs : List Loc) (ls : Array Slot), gX (dC, dI) (tM kc) (wM ad kc) Z A s σ H locs → lv_has ls 5 [(0, .ref (ad 0)), (1, .int v1)] → rec17 v1 σ = some (r, τ) → W p l e R s m args below meth c H locs 0 0 (MQ below (gQv (dC, dI) (tM kc) (wM ad kc) A r τ) args s 0 0 A) (F0 m 17 ls [])) : ∀ (n : Nat) (v1 : Int32) (v3 : Int32) (σ : S5) (H : Heap) (locs : List Loc) (ls : Array Slot), gX (dC, dI) (tM kc) (wM ad kc) Z A s σ H locs → lv_has ls 5 [(0, .ref (ad 0)), (1, .int v1), (3, .int v3)] → f_X12_liftAll_L88 rec17 n v1 v3 σ = some (r, τ) → W p l e R s m args below meth c H locs 0 0 (MQ below (gQv (dC, dI) (tM kc) (wM ad kc) A r τ) args s 0 0 A) (F0 m 88 ls []) := by
  intro n
  induction n with
  | zero => intro v1 v3 σ H locs ls X hl hg; cases hg
  | succ n ih => intro v1 v3 σ H locs ls X hl hg; exact w_X12_liftAll_B88 S hr hk hR hrec17 ih X hl hg
set_option maxHeartbeats 4000000 in
set_option maxRecDepth 100000 in
theorem w_X12_liftAll_B17 {σ : S5} {rec17 : Int32 → S5 → Option (Unit × S5)} {v1 : Int32} {H : Heap} {locs : List Loc} {ls : Array Slot} (S : CallFix p m c cX12_liftAll 5 s args uG RX12) (hr : meth.sig.returnType = none) (hk : meth.locks = false) (hR : 2 ≤ R.frames ∧ 56 ≤ R.locals)
    (hrec17 : ∀ (v1 : Int32) (σ : S5) (H : Heap) (locs : List Loc) (ls : Array Slot), gX (dC, dI) (tM kc) (wM ad kc) Z A s σ H locs → lv_has ls 5 [(0, .ref (ad 0)), (1, .int v1)] → rec17 v1 σ = some (r, τ) → W p l e R s m args below meth c H locs 0 0 (MQ below (gQv (dC, dI) (tM kc) (wM ad kc) A r τ) args s 0 0 A) (F0 m 17 ls []))
    (X : gX (dC, dI) (tM kc) (wM ad kc) Z A s σ H locs) (hl : lv_has ls 5 [(0, .ref (ad 0)), (1, .int v1)]) (hg : f_X12_liftAll_B17 rec17 v1 σ = some (r, τ)) : W p l e R s m args below meth c H locs 0 0 (MQ below (gQv (dC, dI) (tM kc) (wM ad kc) A r τ) args s 0 0 A) (F0 m 17 ls []) := by
  have hx := S.1
  have hb := S.2.1
  have hown := S.2.2.2.1
  have hu := S.2.2.2.2
  unfold f_X12_liftAll_B17 at hg
  refine lv_iload_n hx hb dX12_liftAll_17 rfl (lv_at hl 1 rfl) ?_
  refine lv_aload_n hx hb dX12_liftAll_18 rfl (lv_at hl 0 rfl) ?_
  refine wmgI_22 (v := (gI σ 22)) S X mG_2096 rfl dX12_liftAll_19 ?_
  refine lv_icmp_ge (tgt := 267) hx hb dX12_liftAll_22 (by decide) (fun c22 => ?_) (fun c22 => ?_)
  · have hg := (if_pos c22).symm.trans hg
    obtain ⟨-, rfl⟩ := fin_some hg
    exact gr_v S hr hk X dX12_liftAll_267
  · have hg := (if_neg c22).symm.trans hg
    refine lv_aload_n hx hb dX12_liftAll_25 rfl (lv_at hl 0 rfl) ?_
    refine wmgR_0_30 S X mG_2080 dX12_liftAll_26 ?_
    refine lv_iload_n hx hb dX12_liftAll_29 rfl (lv_at hl 1 rfl) ?_
    obtain ⟨hi30, hg⟩ := gd_some hg
    refine wmlA_12 (v := (xA σ 12 v1)) S X hi30 rfl dX12_liftAll_30 ?_
    refine lv_istore_n (lv' := [(2, .int (xA σ 12 v1)), (0, .ref (ad 0)), (1, .int v1)]) hx hb dX12_liftAll_31 rfl hl (by decide) rfl (fun ls hl => ?_)
    refine lv_aload_n hx hb dX12_liftAll_32 rfl (lv_at hl 1 rfl) ?_
    refine wmgR_0_79 S X mG_2129 dX12_liftAll_33 ?_
    refine lv_iload_n hx hb dX12_liftAll_36 rfl (lv_at hl 2 rfl) ?_
    refine lv_aload_n hx hb dX12_liftAll_37 rfl (lv_at hl 1 rfl) ?_
    refine wmgI_26 (v := (gI σ 26)) S X mG_2113 rfl dX12_liftAll_38 ?_
    obtain ⟨hi41, hg⟩ := gd_some hg
    refine wmsA_44 S X hi41 dX12_liftAll_41 (fun H locs X => ?_)
    refine lv_aload_n hx hb dX12_liftAll_42 rfl (lv_at hl 1 rfl) ?_
    refine wmgR_0_82 S X mG_2132 dX12_liftAll_43 ?_
    refine lv_iload_n hx hb dX12_liftAll_46 rfl (lv_at hl 2 rfl) ?_
    refine lv_aload_n hx hb dX12_liftAll_47 rfl (lv_at hl 1 rfl) ?_
    refine wmgR_0_48 S X mG_2098 dX12_liftAll_48 ?_
    refine lv_iload_n hx hb dX12_liftAll_51 rfl (lv_at hl 2 rfl) ?_
    obtain ⟨hi52, hg⟩ := gd_some hg
    refine wmlA_20 (v := (xA σ 20 v1)) S X hi52 rfl dX12_liftAll_52 ?_
    refine lv_aload_n hx hb dX12_liftAll_53 rfl (lv_at hl 1 rfl) ?_
    refine wmgR_0_22 S X mG_2072 dX12_liftAll_54 ?_
    refine lv_iload_n hx hb dX12_liftAll_57 rfl (lv_at hl 0 rfl) ?_
    obtain ⟨hi58, hg⟩ := gd_some hg
    refine wmlA_10 (v := (xA σ 10 (xA σ 12 v1))) S X hi58 rfl dX12_liftAll_58 ?_
    refine lv_iadd hx hb dX12_liftAll_59 ?_
    obtain ⟨hi60, hg⟩ := gd_some hg
    refine wmsA_47 S X hi60 dX12_liftAll_60 (fun H locs X => ?_)
    refine lv_aload_n hx hb dX12_liftAll_61 rfl (lv_at hl 1 rfl) ?_
    refine wmgR_0_81 S X mG_2131 dX12_liftAll_62 ?_
    refine lv_iload_n hx hb dX12_liftAll_65 rfl (lv_at hl 2 rfl) ?_
    refine lv_aload_n hx hb dX12_liftAll_66 rfl (lv_at hl 1 rfl) ?_
    refine wmgR_0_48 S X mG_2098 dX12_liftAll_67 ?_
    refine lv_iload_n hx hb dX12_liftAll_70 rfl (lv_at hl 2 rfl) ?_
    obtain ⟨hi71, hg⟩ := gd_some hg
    refine wmlA_20 (v := (xA σ 20 v1)) S X hi71 rfl dX12_liftAll_71 ?_
    refine lv_aload_n hx hb dX12_liftAll_72 rfl (lv_at hl 1 rfl) ?_
    refine wmgR_0_53 S X mG_2103 dX12_liftAll_73 ?_
    refine lv_iload_n hx hb dX12_liftAll_76 rfl (lv_at hl 2 rfl) ?_
    obtain ⟨hi77, hg⟩ := gd_some hg
    refine wmlA_24 (v := (xA σ 24 v1)) S X hi77 rfl dX12_liftAll_77 ?_
    refine lv_iadd hx hb dX12_liftAll_78 ?_
    obtain ⟨hi79, hg⟩ := gd_some hg
    refine wmsA_46 S X hi79 dX12_liftAll_79 (fun H locs X => ?_)
    refine lv_iconst (v := 1) hx hb dX12_liftAll_80 (by decide) ?_
    refine lv_istore_n (lv' := [(3, .int 1), (2, .int (xA σ 12 v1)), (0, .ref (ad 0)), (1, .int v1)]) hx hb dX12_liftAll_81 rfl hl (by decide) rfl (fun ls hl => ?_)
    refine lv_aload_n hx hb dX12_liftAll_82 rfl (lv_at hl 2 rfl) ?_
    refine lv_iconst (v := 0) hx hb dX12_liftAll_83 (by decide) ?_
    refine lv_iload_n hx hb dX12_liftAll_84 rfl (lv_at hl 1 rfl) ?_
    obtain ⟨r85, τ85, hq85, hg⟩ := bd_some hg
    refine gc_Vv (As := [.int 0, .int (xA σ 12 v1)]) (rest := []) (q0 := 0) (ci := 15) S X (k2_X12_beginAt l dC dI ad kc hq85 H.size) cw_X12_beginAt mG_2665 rfl rfl rfl rfl rfl hl.1 (Nat.le_of_ble_eq_true rfl) dX12_liftAll_85 ⟨by omega, by omega⟩ (fun H locs X => ?_)
    exact w_X12_liftAll_L88 S hr hk hR hrec17 _ _ _ _ _ _ _ X (lv_sub hl [2, 3, 0] rfl) hg
set_option maxHeartbeats 4000000 in
set_option maxRecDepth 100000 in
theorem w_X12_liftAll_L17 (S : CallFix p m c cX12_liftAll 5 s args uG RX12) (hr : meth.sig.returnType = none) (hk : meth.locks = false) (hR : 2 ≤ R.frames ∧ 56 ≤ R.locals) : ∀ (n : Nat) (v1 : Int32) (σ : S5) (H : Heap) (locs : List Loc) (ls : Array Slot), gX (dC, dI) (tM kc) (wM ad kc) Z A s σ H locs → lv_has ls 5 [(0, .ref (ad 0)), (1, .int v1)] → f_X12_liftAll_L17  n v1 σ = some (r, τ) → W p l e R s m args below meth c H locs 0 0 (MQ below (gQv (dC, dI) (tM kc) (wM ad kc) A r τ) args s 0 0 A) (F0 m 17 ls []) := by
  intro n
  induction n with
  | zero => intro v1 σ H locs ls X hl hg; cases hg
  | succ n ih => intro v1 σ H locs ls X hl hg; exact w_X12_liftAll_B17 S hr hk hR ih X hl hg
set_option maxHeartbeats 4000000 in
set_option maxRecDepth 100000 in
theorem w_X12_liftAll {σ : S5}  {H : Heap} {locs : List Loc} {ls : Array Slot} (S : CallFix p m c cX12_liftAll 5 s args uG RX12) (hr : meth.sig.returnType = none) (hk : meth.locks = false) (hR : 2 ≤ R.frames ∧ 56 ≤ R.locals)
    (X : gX (dC, dI) (tM kc) (wM ad kc) Z A s σ H locs) (hl : lv_has ls 5 [(0, .ref (ad 0))]) (hg : f_X12_liftAll  σ = some (r, τ)) : W p l e R s m args below meth c H locs 0 0 (MQ below (gQv (dC, dI) (tM kc) (wM ad kc) A r τ) args s 0 0 A) (F0 m 0 ls []) := by
  have hx := S.1
  have hb := S.2.1
  have hown := S.2.2.2.1
  have hu := S.2.2.2.2
  unfold f_X12_liftAll at hg
  refine lv_aload_n hx hb dX12_liftAll_0 rfl (lv_at hl 0 rfl) ?_
  refine lv_iconst (v := 0) hx hb dX12_liftAll_1 (by decide) ?_
  refine wmpI_26 S X mG_2113 dX12_liftAll_2 (fun H locs X => ?_)
  refine lv_aload_n hx hb dX12_liftAll_5 rfl (lv_at hl 0 rfl) ?_
  refine lv_iconst (v := 0) hx hb dX12_liftAll_6 (by decide) ?_
  refine wmpI_27 S X mG_2123 dX12_liftAll_7 (fun H locs X => ?_)
  refine lv_aload_n hx hb dX12_liftAll_10 rfl (lv_at hl 0 rfl) ?_
  refine lv_iconst (v := 0) hx hb dX12_liftAll_11 (by decide) ?_
  refine wmpI_28 S X mG_2133 dX12_liftAll_12 (fun H locs X => ?_)
  refine lv_iconst (v := 0) hx hb dX12_liftAll_15 (by decide) ?_
  refine lv_istore_n (lv' := [(1, .int 0), (0, .ref (ad 0))]) hx hb dX12_liftAll_16 rfl hl (by decide) rfl (fun ls hl => ?_)
  exact w_X12_liftAll_L17 S hr hk hR _ _ _ _ _ _ X (lv_sub hl [1, 0] rfl) hg
end MX12_liftAll
set_option maxRecDepth 100000 in
theorem k2_X12_liftAll (l : Launch) (dC : Nat → ClassId) (dI : Nat → Nat → Nat) {Z : ZZ} (ad : Nat → Nat) (kc : Nat → ClassId) {σ τ : S5}  {r : Unit} (hg : f_X12_liftAll  σ = some (r, τ)) (sz : Nat) : Met l yX12_liftAll (Cond.code yX12_liftAll cX12_liftAll 5 none :: uG) { frames := 2, cells := 0, slots := 0, locals := 56 } (gPc (dC, dI) (tM kc) (wM ad kc) Z [.ref (ad 0)] σ sz) (gQv (dC, dI) (tM kc) (wM ad kc) (va_A (wM ad kc σ) sz) r τ) 0 0 (va_A (wM ad kc σ) sz) :=
  g_start (by decide) (Nat.le_of_ble_eq_true rfl) (fun p e s m below meth c ls S hr hk X hl => w_X12_liftAll S hr hk ⟨Nat.le_refl _, Nat.le_refl _⟩ X hl hg)
section MX12_table
variable {p : Program} {l : Launch} {e : Env} {R : Room} {s : State} {m : MethodId} {args : Array Value} {below : List Frame} {meth : Method} {c : Code} {dC : Nat → ClassId} {dI : Nat → Nat → Nat} {Z : ZZ} {A : Nat → Prop} {ad : Nat → Nat} {kc : Nat → ClassId} {r : Int32} {τ : S5}
set_option maxHeartbeats 4000000 in
set_option maxRecDepth 100000 in
theorem w_X12_table {σ : S5} {a1 : Int32} {a2 : Int32} {H : Heap} {locs : List Loc} {ls : Array Slot} (S : CallFix p m c cX12_table 3 s args uG RX12) (hr : meth.sig.returnType = (some .boolean)) (hk : meth.locks = false) (hR : 0 ≤ R.frames ∧ 0 ≤ R.locals)
    (X : gX (dC, dI) (tM kc) (wM ad kc) Z A s σ H locs) (hl : lv_has ls 3 [(0, .ref (ad 0)), (1, .int a1), (2, .int a2)]) (hg : f_X12_table a1 a2 σ = some (r, τ)) : W p l e R s m args below meth c H locs 0 0 (MQ below (gQi (dC, dI) (tM kc) (wM ad kc) A r τ) args s 0 0 A) (F0 m 0 ls []) := by
  have hx := S.1
  have hb := S.2.1
  have hown := S.2.2.2.1
  have hu := S.2.2.2.2
  unfold f_X12_table at hg
  refine lv_aload_n hx hb dX12_table_0 rfl (lv_at hl 0 rfl) ?_
  refine wmgR_0_85 S X mG_2135 dX12_table_1 ?_
  refine lv_sipush (v := 256) hx hb dX12_table_4 (by decide) ?_
  refine lv_iload_n hx hb dX12_table_7 rfl (lv_at hl 1 rfl) ?_
  refine lv_imul hx hb dX12_table_8 ?_
  refine lv_iload_n hx hb dX12_table_9 rfl (lv_at hl 2 rfl) ?_
  refine lv_iadd hx hb dX12_table_10 ?_
  obtain ⟨hi11, hg⟩ := gd_some hg
  refine wmlA_49 (v := (xA σ 49 ((256 * a1) + a2))) S X hi11 rfl dX12_table_11 ?_
  obtain ⟨hn12, hg⟩ := g_t_some hg
  obtain ⟨rfl, rfl⟩ := fin_some hg
  exact gr_z S hr hk X hn12 dX12_table_12
end MX12_table
set_option maxRecDepth 100000 in
theorem k2_X12_table (l : Launch) (dC : Nat → ClassId) (dI : Nat → Nat → Nat) {Z : ZZ} (ad : Nat → Nat) (kc : Nat → ClassId) {σ τ : S5} {a1 : Int32} {a2 : Int32} {r : Int32} (hg : f_X12_table a1 a2 σ = some (r, τ)) (sz : Nat) : Met l yX12_table (Cond.code yX12_table cX12_table 3 (some .boolean) :: uG) { frames := 0, cells := 0, slots := 0, locals := 0 } (gPc (dC, dI) (tM kc) (wM ad kc) Z [.ref (ad 0), .int a1, .int a2] σ sz) (gQi (dC, dI) (tM kc) (wM ad kc) (va_A (wM ad kc σ) sz) r τ) 0 0 (va_A (wM ad kc σ) sz) :=
  g_start (by decide) (Nat.le_of_ble_eq_true rfl) (fun p e s m below meth c ls S hr hk X hl => w_X12_table S hr hk ⟨Nat.le_refl _, Nat.le_refl _⟩ X hl hg)
section MX12_appliedBit
variable {p : Program} {l : Launch} {e : Env} {R : Room} {s : State} {m : MethodId} {args : Array Value} {below : List Frame} {meth : Method} {c : Code} {dC : Nat → ClassId} {dI : Nat → Nat → Nat} {Z : ZZ} {A : Nat → Prop} {ad : Nat → Nat} {kc : Nat → ClassId} {r : Int32} {τ : S5}
set_option maxHeartbeats 4000000 in
set_option maxRecDepth 100000 in
theorem w_X12_appliedBit_b95 {σ : S5} {rec61 : Int32 → Int32 → Int32 → Int32 → Int32 → S5 → Option (Int32 × S5)} {v1 : Int32} {v3 : Int32} {v4 : Int32} {v6 : Int32} {u0 : Int32} {u1 : Int32} {H : Heap} {locs : List Loc} {ls : Array Slot} (S : CallFix p m c cX12_appliedBit 7 s args uG RX12) (hr : meth.sig.returnType = (some .boolean)) (hk : meth.locks = false) (hR : 1 ≤ R.frames ∧ 22 ≤ R.locals)
    (hrec61 : ∀ (v1 : Int32) (v3 : Int32) (v4 : Int32) (v5 : Int32) (v6 : Int32) (σ : S5) (H : Heap) (locs : List Loc) (ls : Array Slot), gX (dC, dI) (tM kc) (wM ad kc) Z A s σ H locs → lv_has ls 7 [(0, .ref (ad 0)), (1, .int v1), (3, .int v3), (4, .int v4), (5, .int v5), (6, .int v6)] → rec61 v1 v3 v4 v5 v6 σ = some (r, τ) → W p l e R s m args below meth c H locs 0 0 (MQ below (gQi (dC, dI) (tM kc) (wM ad kc) A r τ) args s 0 0 A) (F0 m 61 ls []))
    (X : gX (dC, dI) (tM kc) (wM ad kc) Z A s σ H locs) (hl : lv_has ls 7 [(0, .ref (ad 0)), (1, .int v1), (3, .int v3), (4, .int v4), (6, .int v6)]) (hg : f_X12_appliedBit_b95 rec61 v1 v3 v4 v6 u0 u1 σ = some (r, τ)) : W p l e R s m args below meth c H locs 0 0 (MQ below (gQi (dC, dI) (tM kc) (wM ad kc) A r τ) args s 0 0 A) (F0 m 95 ls [.int u0, .int u1]) := by
  have hx := S.1
  have hb := S.2.1
  have hown := S.2.2.2.1
  have hu := S.2.2.2.2
  unfold f_X12_appliedBit_b95 at hg
  refine lv_ior hx hb dX12_appliedBit_95 ?_
  refine lv_istore (lv' := [(5, .int (u1 ||| u0)), (0, .ref (ad 0)), (1, .int v1), (3, .int v3), (4, .int v4), (6, .int v6)]) hx hb dX12_appliedBit_96 hl (by decide) rfl (fun ls hl => ?_)
  refine lv_iinc (v := (v6 + 1)) (lv' := [(6, .int (v6 + 1)), (5, .int (u1 ||| u0)), (0, .ref (ad 0)), (1, .int v1), (3, .int v3), (4, .int v4)]) hx hb dX12_appliedBit_98 hl (k := 5) rfl (by rfl) (by decide) rfl (fun ls hl => ?_)
  refine lv_goto (tgt := 61) hx hb dX12_appliedBit_101 (by decide) ?_
  exact hrec61 _ _ _ _ _ _ _ _ _ X (lv_sub hl [2, 3, 4, 5, 1, 0] rfl) hg
set_option maxHeartbeats 4000000 in
set_option maxRecDepth 100000 in
theorem w_X12_appliedBit_B61 {σ : S5} {rec61 : Int32 → Int32 → Int32 → Int32 → Int32 → S5 → Option (Int32 × S5)} {v1 : Int32} {v3 : Int32} {v4 : Int32} {v5 : Int32} {v6 : Int32} {H : Heap} {locs : List Loc} {ls : Array Slot} (S : CallFix p m c cX12_appliedBit 7 s args uG RX12) (hr : meth.sig.returnType = (some .boolean)) (hk : meth.locks = false) (hR : 1 ≤ R.frames ∧ 22 ≤ R.locals)
    (hrec61 : ∀ (v1 : Int32) (v3 : Int32) (v4 : Int32) (v5 : Int32) (v6 : Int32) (σ : S5) (H : Heap) (locs : List Loc) (ls : Array Slot), gX (dC, dI) (tM kc) (wM ad kc) Z A s σ H locs → lv_has ls 7 [(0, .ref (ad 0)), (1, .int v1), (3, .int v3), (4, .int v4), (5, .int v5), (6, .int v6)] → rec61 v1 v3 v4 v5 v6 σ = some (r, τ) → W p l e R s m args below meth c H locs 0 0 (MQ below (gQi (dC, dI) (tM kc) (wM ad kc) A r τ) args s 0 0 A) (F0 m 61 ls []))
    (X : gX (dC, dI) (tM kc) (wM ad kc) Z A s σ H locs) (hl : lv_has ls 7 [(0, .ref (ad 0)), (1, .int v1), (3, .int v3), (4, .int v4), (5, .int v5), (6, .int v6)]) (hg : f_X12_appliedBit_B61 rec61 v1 v3 v4 v5 v6 σ = some (r, τ)) : W p l e R s m args below meth c H locs 0 0 (MQ below (gQi (dC, dI) (tM kc) (wM ad kc) A r τ) args s 0 0 A) (F0 m 61 ls []) := by
  have hx := S.1
  have hb := S.2.1
  have hown := S.2.2.2.1
  have hu := S.2.2.2.2
  unfold f_X12_appliedBit_B61 at hg
  refine lv_iload hx hb dX12_appliedBit_61 (lv_at hl 5 rfl) ?_
  refine lv_iload hx hb dX12_appliedBit_63 (lv_at hl 3 rfl) ?_
  refine lv_icmp_ge (tgt := 104) hx hb dX12_appliedBit_65 (by decide) (fun c65 => ?_) (fun c65 => ?_)
  · have hg := (if_pos c65).symm.trans hg
    refine lv_aload_n hx hb dX12_appliedBit_104 rfl (lv_at hl 0 rfl) ?_
    refine lv_iload_n hx hb dX12_appliedBit_105 rfl (lv_at hl 2 rfl) ?_
    refine lv_iload hx hb dX12_appliedBit_106 (lv_at hl 4 rfl) ?_
    obtain ⟨r108, τ108, hq108, hg⟩ := bd_some hg
    refine gc_Vi (As := [.int v3, .int v5]) (rest := []) (q0 := 0) (ci := 15) S X (k2_X12_table l dC dI ad kc hq108 H.size) cw_X12_table mG_2756 rfl rfl rfl rfl rfl hl.1 (Nat.le_of_ble_eq_true rfl) dX12_appliedBit_108 ⟨by omega, by omega⟩ (fun H locs X => ?_)
    obtain ⟨hn111, hg⟩ := g_t_some hg
    obtain ⟨rfl, rfl⟩ := fin_some hg
    exact gr_z S hr hk X hn111 dX12_appliedBit_111
  · have hg := (if_neg c65).symm.trans hg
    refine lv_iload hx hb dX12_appliedBit_68 (lv_at hl 4 rfl) ?_
    refine lv_aload_n hx hb dX12_appliedBit_70 rfl (lv_at hl 0 rfl) ?_
    refine wmgR_0_86 S X mG_2136 dX12_appliedBit_71 ?_
    refine lv_aload_n hx hb dX12_appliedBit_74 rfl (lv_at hl 0 rfl) ?_
    refine lv_iload_n hx hb dX12_appliedBit_75 rfl (lv_at hl 1 rfl) ?_
    refine lv_iconst (v := 1) hx hb dX12_appliedBit_76 (by decide) ?_
    refine lv_iload hx hb dX12_appliedBit_77 (lv_at hl 5 rfl) ?_
    refine lv_iadd hx hb dX12_appliedBit_79 ?_
    obtain ⟨r80, τ80, hq80, hg⟩ := bd_some hg
    refine gc_Vi (As := [.int v1, .int (1 + v6)]) (rest := [.ref (ad 57), .int v5]) (q0 := 0) (ci := 15) S X (k2_X12_child l dC dI ad kc hq80 H.size) cw_X12_child mG_2736 rfl rfl rfl rfl rfl hl.1 (Nat.le_of_ble_eq_true rfl) dX12_appliedBit_80 ⟨by omega, by omega⟩ (fun H locs X => ?_)
    obtain ⟨hi83, hg⟩ := gd_some hg
    refine wmlA_50 (v := (xA τ80 50 r80)) S X hi83 rfl dX12_appliedBit_83 ?_
    refine lv_if_eq (tgt := 94) hx hb dX12_appliedBit_84 (by decide) (fun c84 => ?_) (fun c84 => ?_)
    · have hg := (if_pos c84).symm.trans hg
      refine lv_iconst (v := 0) hx hb dX12_appliedBit_94 (by decide) ?_
      exact w_X12_appliedBit_b95 S hr hk hR hrec61 X (lv_sub hl [0, 1, 2, 3, 5] rfl) hg
    · have hg := (if_neg c84).symm.trans hg
      refine lv_iconst (v := 1) hx hb dX12_appliedBit_87 (by decide) ?_
      refine lv_iload hx hb dX12_appliedBit_88 (lv_at hl 5 rfl) ?_
      refine lv_ishl hx hb dX12_appliedBit_90 ?_
      refine lv_goto (tgt := 95) hx hb dX12_appliedBit_91 (by decide) ?_
      exact w_X12_appliedBit_b95 S hr hk hR hrec61 X (lv_sub hl [0, 1, 2, 3, 5] rfl) hg
set_option maxHeartbeats 4000000 in
set_option maxRecDepth 100000 in
theorem w_X12_appliedBit_L61 (S : CallFix p m c cX12_appliedBit 7 s args uG RX12) (hr : meth.sig.returnType = (some .boolean)) (hk : meth.locks = false) (hR : 1 ≤ R.frames ∧ 22 ≤ R.locals) : ∀ (n : Nat) (v1 : Int32) (v3 : Int32) (v4 : Int32) (v5 : Int32) (v6 : Int32) (σ : S5) (H : Heap) (locs : List Loc) (ls : Array Slot), gX (dC, dI) (tM kc) (wM ad kc) Z A s σ H locs → lv_has ls 7 [(0, .ref (ad 0)), (1, .int v1), (3, .int v3), (4, .int v4), (5, .int v5), (6, .int v6)] → f_X12_appliedBit_L61  n v1 v3 v4 v5 v6 σ = some (r, τ) → W p l e R s m args below meth c H locs 0 0 (MQ below (gQi (dC, dI) (tM kc) (wM ad kc) A r τ) args s 0 0 A) (F0 m 61 ls []) := by
  intro n
  induction n with
  | zero => intro v1 v3 v4 v5 v6 σ H locs ls X hl hg; cases hg
  | succ n ih => intro v1 v3 v4 v5 v6 σ H locs ls X hl hg; exact w_X12_appliedBit_B61 S hr hk hR ih X hl hg
set_option maxHeartbeats 4000000 in
set_option maxRecDepth 100000 in
theorem w_X12_appliedBit {σ : S5} {a1 : Int32} {H : Heap} {locs : List Loc} {ls : Array Slot} (S : CallFix p m c cX12_appliedBit 7 s args uG RX12) (hr : meth.sig.returnType = (some .boolean)) (hk : meth.locks = false) (hR : 1 ≤ R.frames ∧ 22 ≤ R.locals)
    (X : gX (dC, dI) (tM kc) (wM ad kc) Z A s σ H locs) (hl : lv_has ls 7 [(0, .ref (ad 0)), (1, .int a1)]) (hg : f_X12_appliedBit a1 σ = some (r, τ)) : W p l e R s m args below meth c H locs 0 0 (MQ below (gQi (dC, dI) (tM kc) (wM ad kc) A r τ) args s 0 0 A) (F0 m 0 ls []) := by
  have hx := S.1
  have hb := S.2.1
  have hown := S.2.2.2.1
  have hu := S.2.2.2.2
  unfold f_X12_appliedBit at hg
  refine lv_aload_n hx hb dX12_appliedBit_0 rfl (lv_at hl 0 rfl) ?_
  refine lv_iload_n hx hb dX12_appliedBit_1 rfl (lv_at hl 1 rfl) ?_
  refine lv_iconst (v := 0) hx hb dX12_appliedBit_2 (by decide) ?_
  obtain ⟨r3, τ3, hq3, hg⟩ := bd_some hg
  refine gc_Vi (As := [.int a1, .int 0]) (rest := []) (q0 := 0) (ci := 15) S X (k2_X12_child l dC dI ad kc hq3 H.size) cw_X12_child mG_2736 rfl rfl rfl rfl rfl hl.1 (Nat.le_of_ble_eq_true rfl) dX12_appliedBit_3 ⟨by omega, by omega⟩ (fun H locs X => ?_)
  refine lv_istore_n (lv' := [(2, .int r3), (0, .ref (ad 0)), (1, .int a1)]) hx hb dX12_appliedBit_6 rfl hl (by decide) rfl (fun ls hl => ?_)
  refine lv_aload_n hx hb dX12_appliedBit_7 rfl (lv_at hl 1 rfl) ?_
  refine wmgR_0_64 S X mG_2114 dX12_appliedBit_8 ?_
  refine lv_iload_n hx hb dX12_appliedBit_11 rfl (lv_at hl 0 rfl) ?_
  obtain ⟨hi12, hg⟩ := gd_some hg
  refine wmlA_31 (v := (xA τ3 31 r3)) S X hi12 rfl dX12_appliedBit_12 ?_
  refine lv_bipush (v := 12) hx hb dX12_appliedBit_13 (by decide) ?_
  refine lv_icmp_eq (tgt := 25) hx hb dX12_appliedBit_15 (by decide) (fun c15 => ?_) (fun c15 => ?_)
  · have hg := (if_pos c15).symm.trans hg
    refine lv_aload_n hx hb dX12_appliedBit_25 rfl (lv_at hl 1 rfl) ?_
    refine wmgR_0_65 S X mG_2115 dX12_appliedBit_26 ?_
    refine lv_iload_n hx hb dX12_appliedBit_29 rfl (lv_at hl 0 rfl) ?_
    obtain ⟨hi30, hg⟩ := gd_some hg
    refine wmlA_32 (v := (xA τ3 32 r3)) S X hi30 rfl dX12_appliedBit_30 ?_
    refine lv_istore_n (lv' := [(3, .int (xA τ3 32 r3)), (2, .int r3), (0, .ref (ad 0)), (1, .int a1)]) hx hb dX12_appliedBit_31 rfl hl (by decide) rfl (fun ls hl => ?_)
    refine lv_aload_n hx hb dX12_appliedBit_32 rfl (lv_at hl 2 rfl) ?_
    refine wmgR_0_82 S X mG_2132 dX12_appliedBit_33 ?_
    refine lv_iload_n hx hb dX12_appliedBit_36 rfl (lv_at hl 0 rfl) ?_
    obtain ⟨hi37, hg⟩ := gd_some hg
    refine wmlA_47 (v := (xA τ3 47 (xA τ3 32 r3))) S X hi37 rfl dX12_appliedBit_37 ?_
    refine lv_istore (lv' := [(4, .int (xA τ3 47 (xA τ3 32 r3))), (3, .int (xA τ3 32 r3)), (2, .int r3), (0, .ref (ad 0)), (1, .int a1)]) hx hb dX12_appliedBit_38 hl (by decide) rfl (fun ls hl => ?_)
    refine lv_aload_n hx hb dX12_appliedBit_40 rfl (lv_at hl 3 rfl) ?_
    refine wmgR_0_67 S X mG_2117 dX12_appliedBit_41 ?_
    refine lv_iload_n hx hb dX12_appliedBit_44 rfl (lv_at hl 4 rfl) ?_
    obtain ⟨hi45, hg⟩ := gd_some hg
    refine wmlA_34 (v := (xA τ3 34 a1)) S X hi45 rfl dX12_appliedBit_45 ?_
    refine lv_iconst (v := 1) hx hb dX12_appliedBit_46 (by decide) ?_
    refine lv_isub hx hb dX12_appliedBit_47 ?_
    refine lv_iload hx hb dX12_appliedBit_48 (lv_at hl 0 rfl) ?_
    refine lv_icmp_ge (tgt := 55) hx hb dX12_appliedBit_50 (by decide) (fun c50 => ?_) (fun c50 => ?_)
    · have hg := (if_pos c50).symm.trans hg
      refine lv_iconst (v := 0) hx hb dX12_appliedBit_55 (by decide) ?_
      refine lv_istore (lv' := [(5, .int 0), (4, .int (xA τ3 47 (xA τ3 32 r3))), (3, .int (xA τ3 32 r3)), (2, .int r3), (0, .ref (ad 0)), (1, .int a1)]) hx hb dX12_appliedBit_56 hl (by decide) rfl (fun ls hl => ?_)
      refine lv_iconst (v := 0) hx hb dX12_appliedBit_58 (by decide) ?_
      refine lv_istore (lv' := [(6, .int 0), (5, .int 0), (4, .int (xA τ3 47 (xA τ3 32 r3))), (3, .int (xA τ3 32 r3)), (2, .int r3), (0, .ref (ad 0)), (1, .int a1)]) hx hb dX12_appliedBit_59 hl (by decide) rfl (fun ls hl => ?_)
      exact w_X12_appliedBit_L61 S hr hk hR _ _ _ _ _ _ _ _ _ _ X (lv_sub hl [5, 6, 3, 2, 1, 0] rfl) hg
    · have hg := (if_neg c50).symm.trans hg
      refine lv_iconst (v := 1) hx hb dX12_appliedBit_53 (by decide) ?_
      obtain ⟨rfl, rfl⟩ := fin_some hg
      exact gr_z S hr hk X (Or.inr rfl) dX12_appliedBit_54
  · have hg := (if_neg c15).symm.trans hg
    refine lv_aload_n hx hb dX12_appliedBit_18 rfl (lv_at hl 1 rfl) ?_
    refine wmgR_0_86 S X mG_2136 dX12_appliedBit_19 ?_
    refine lv_iload_n hx hb dX12_appliedBit_22 rfl (lv_at hl 0 rfl) ?_
    obtain ⟨hi23, hg⟩ := gd_some hg
    refine wmlA_50 (v := (xA τ3 50 r3)) S X hi23 rfl dX12_appliedBit_23 ?_
    obtain ⟨hn24, hg⟩ := g_t_some hg
    obtain ⟨rfl, rfl⟩ := fin_some hg
    exact gr_z S hr hk X hn24 dX12_appliedBit_24
end MX12_appliedBit
set_option maxRecDepth 100000 in
theorem k2_X12_appliedBit (l : Launch) (dC : Nat → ClassId) (dI : Nat → Nat → Nat) {Z : ZZ} (ad : Nat → Nat) (kc : Nat → ClassId) {σ τ : S5} {a1 : Int32} {r : Int32} (hg : f_X12_appliedBit a1 σ = some (r, τ)) (sz : Nat) : Met l yX12_appliedBit (Cond.code yX12_appliedBit cX12_appliedBit 7 (some .boolean) :: uG) { frames := 1, cells := 0, slots := 0, locals := 22 } (gPc (dC, dI) (tM kc) (wM ad kc) Z [.ref (ad 0), .int a1] σ sz) (gQi (dC, dI) (tM kc) (wM ad kc) (va_A (wM ad kc σ) sz) r τ) 0 0 (va_A (wM ad kc σ) sz) :=
  g_start (by decide) (Nat.le_of_ble_eq_true rfl) (fun p e s m below meth c ls S hr hk X hl => w_X12_appliedBit S hr hk ⟨Nat.le_refl _, Nat.le_refl _⟩ X hl hg)
