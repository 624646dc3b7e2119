theorem sw_2_4 (x : Int32) : (x.toInt < 2 ∨ 4 < x.toInt) ∨ x = 2 ∨ x = 3 ∨ x = 4 := by
  by_cases h : x.toInt < 2 ∨ 4 < x.toInt
  · exact Or.inl h
  · have h2 : x.toInt = 2 ∨ x.toInt = 3 ∨ x.toInt = 4 := by omega
    refine Or.inr ?_
    rcases h2 with h | h | h
    · exact Or.inl (Int32.toInt_inj.mp (h.trans (by decide)))
    · exact Or.inr (Or.inl (Int32.toInt_inj.mp (h.trans (by decide))))
    · exact Or.inr (Or.inr (Int32.toInt_inj.mp (h.trans (by decide))))
theorem swo_2_4 {x : Int32} (h : x.toInt < 2 ∨ 4 < x.toInt) : ¬ x = 2 ∧ ¬ x = 3 ∧ ¬ x = 4 := by
  refine ⟨?_, ?_, ?_⟩ <;> (intro e; rw [e] at h; revert h; decide)

theorem sw_9_13 (x : Int32) : (x.toInt < 9 ∨ 13 < x.toInt) ∨ x = 9 ∨ x = 10 ∨ x = 11 ∨ x = 12 ∨ x = 13 := by
  by_cases h : x.toInt < 9 ∨ 13 < x.toInt
  · exact Or.inl h
  · have h2 : x.toInt = 9 ∨ x.toInt = 10 ∨ x.toInt = 11 ∨ x.toInt = 12 ∨ x.toInt = 13 := by omega
    refine Or.inr ?_
    rcases h2 with h | h | h | h | h
    · exact Or.inl (Int32.toInt_inj.mp (h.trans (by decide)))
    · exact Or.inr (Or.inl (Int32.toInt_inj.mp (h.trans (by decide))))
    · exact Or.inr (Or.inr (Or.inl (Int32.toInt_inj.mp (h.trans (by decide)))))
    · exact Or.inr (Or.inr (Or.inr (Or.inl (Int32.toInt_inj.mp (h.trans (by decide))))))
    · exact Or.inr (Or.inr (Or.inr (Or.inr (Int32.toInt_inj.mp (h.trans (by decide))))))
theorem swo_9_13 {x : Int32} (h : x.toInt < 9 ∨ 13 < x.toInt) : ¬ x = 9 ∧ ¬ x = 10 ∧ ¬ x = 11 ∧ ¬ x = 12 ∧ ¬ x = 13 := by
  refine ⟨?_, ?_, ?_, ?_, ?_⟩ <;> (intro e; rw [e] at h; revert h; decide)

theorem mG_106 : Cond.selects "LazyForgeModel" yX12_clearRun yX12_clearRun ∈ uG := uG_at 106 (by decide +kernel) (by decide +kernel)
theorem mG_107 : Cond.selects "LazyForgeModel" yX12_readProgram yX12_readProgram ∈ uG := uG_at 107 (by decide +kernel) (by decide +kernel)
theorem mG_148 : Cond.selects "LazyForgeModel" yX12_numberAll yX12_numberAll ∈ uG := uG_at 148 (by decide +kernel) (by decide +kernel)
theorem mG_149 : Cond.selects "LazyForgeModel" yX12_find yX12_find ∈ uG := uG_at 149 (by decide +kernel) (by decide +kernel)
theorem mG_159 : Cond.selects "LazyForgeModel" yX12_judge yX12_judge ∈ uG := uG_at 159 (by decide +kernel) (by decide +kernel)
theorem mG_161 : Cond.selects "LazyForgeModel" yX12_liftAll yX12_liftAll ∈ uG := uG_at 161 (by decide +kernel) (by decide +kernel)
theorem mG_168 : Cond.selects "LazyForgeModel" yX12_findTables yX12_findTables ∈ uG := uG_at 168 (by decide +kernel) (by decide +kernel)
theorem mG_173 : Cond.selects "LazyForgeModel" yX12_findNeeds yX12_findNeeds ∈ uG := uG_at 173 (by decide +kernel) (by decide +kernel)
theorem mG_175 : Cond.selects "LazyForgeModel" yX12_isNeeded yX12_isNeeded ∈ uG := uG_at 175 (by decide +kernel) (by decide +kernel)
theorem mG_176 : Cond.selects "LazyForgeModel" yX12_newCell yX12_newCell ∈ uG := uG_at 176 (by decide +kernel) (by decide +kernel)
theorem mG_177 : Cond.selects "LazyForgeModel" yX12_ends yX12_ends ∈ uG := uG_at 177 (by decide +kernel) (by decide +kernel)
theorem mG_180 : Cond.selects "LazyForgeModel" yX12_gives yX12_gives ∈ uG := uG_at 180 (by decide +kernel) (by decide +kernel)
theorem mG_181 : Cond.selects "LazyForgeModel" yX12_waits yX12_waits ∈ uG := uG_at 181 (by decide +kernel) (by decide +kernel)
theorem mG_182 : Cond.selects "LazyForgeModel" yX12_frame yX12_frame ∈ uG := uG_at 182 (by decide +kernel) (by decide +kernel)
theorem mG_183 : Cond.selects "LazyForgeModel" yX12_evaluate yX12_evaluate ∈ uG := uG_at 183 (by decide +kernel) (by decide +kernel)
theorem mG_190 : Cond.selects "LazyForgeModel" yX12_plain yX12_plain ∈ uG := uG_at 190 (by decide +kernel) (by decide +kernel)
theorem mG_191 : Cond.selects "LazyForgeModel" yX12_make yX12_make ∈ uG := uG_at 191 (by decide +kernel) (by decide +kernel)
theorem mG_192 : Cond.selects "LazyForgeModel" yX12_isLess yX12_isLess ∈ uG := uG_at 192 (by decide +kernel) (by decide +kernel)
theorem mG_193 : Cond.selects "LazyForgeModel" yX12_fill yX12_fill ∈ uG := uG_at 193 (by decide +kernel) (by decide +kernel)
theorem mG_194 : Cond.selects "LazyForgeModel" yX12_doTasks yX12_doTasks ∈ uG := uG_at 194 (by decide +kernel) (by decide +kernel)
theorem mG_2138 : Cond.fieldLink "LazyForgeModel" 570 "LazyForgeModel" "hasProgram" "Z" ∈ uG := uG_at 2138 (by decide +kernel) (by decide +kernel)
theorem mG_2139 : Cond.fieldLink "LazyForgeModel" 591 "LazyForgeModel" "lastFault" "I" ∈ uG := uG_at 2139 (by decide +kernel) (by decide +kernel)
theorem mG_2147 : Cond.fieldLink "LazyForgeModel" 635 "LazyForgeModel" "cellsMade" "I" ∈ uG := uG_at 2147 (by decide +kernel) (by decide +kernel)
theorem mG_2148 : Cond.fieldLink "LazyForgeModel" 638 "LazyForgeModel" "fieldTop" "I" ∈ uG := uG_at 2148 (by decide +kernel) (by decide +kernel)
theorem mG_2150 : Cond.fieldLink "LazyForgeModel" 626 "LazyForgeModel" "cells" "I" ∈ uG := uG_at 2150 (by decide +kernel) (by decide +kernel)
theorem mG_2151 : Cond.fieldLink "LazyForgeModel" 632 "LazyForgeModel" "allCells" "I" ∈ uG := uG_at 2151 (by decide +kernel) (by decide +kernel)
theorem mG_2154 : Cond.fieldLink "LazyForgeModel" 733 "LazyForgeModel" "calls" "I" ∈ uG := uG_at 2154 (by decide +kernel) (by decide +kernel)
theorem mG_2155 : Cond.fieldLink "LazyForgeModel" 641 "LazyForgeModel" "suspensions" "I" ∈ uG := uG_at 2155 (by decide +kernel) (by decide +kernel)
theorem mG_2156 : Cond.fieldLink "LazyForgeModel" 644 "LazyForgeModel" "partials" "I" ∈ uG := uG_at 2156 (by decide +kernel) (by decide +kernel)
theorem mG_2157 : Cond.fieldLink "LazyForgeModel" 647 "LazyForgeModel" "objects" "I" ∈ uG := uG_at 2157 (by decide +kernel) (by decide +kernel)
theorem mG_2158 : Cond.fieldLink "LazyForgeModel" 740 "LazyForgeModel" "updates" "I" ∈ uG := uG_at 2158 (by decide +kernel) (by decide +kernel)
theorem mG_2159 : Cond.fieldLink "LazyForgeModel" 709 "LazyForgeModel" "atOnce" "I" ∈ uG := uG_at 2159 (by decide +kernel) (by decide +kernel)
theorem mG_2161 : Cond.fieldLink "LazyForgeModel" 605 "LazyForgeModel" "how" "I" ∈ uG := uG_at 2161 (by decide +kernel) (by decide +kernel)
theorem mG_2162 : Cond.fieldLink "LazyForgeModel" 608 "LazyForgeModel" "why" "I" ∈ uG := uG_at 2162 (by decide +kernel) (by decide +kernel)
theorem mG_2163 : Cond.fieldLink "LazyForgeModel" 760 "LazyForgeModel" "rowCounted" "I" ∈ uG := uG_at 2163 (by decide +kernel) (by decide +kernel)
theorem mG_2166 : Cond.fieldLink "LazyForgeModel" 611 "LazyForgeModel" "waiting" "I" ∈ uG := uG_at 2166 (by decide +kernel) (by decide +kernel)
theorem mG_2172 : Cond.fieldLink "LazyForgeModel" 614 "LazyForgeModel" "base" "I" ∈ uG := uG_at 2172 (by decide +kernel) (by decide +kernel)
theorem mG_2173 : Cond.fieldLink "LazyForgeModel" 682 "LazyForgeModel" "localTop" "I" ∈ uG := uG_at 2173 (by decide +kernel) (by decide +kernel)
theorem mG_2175 : Cond.fieldLink "LazyForgeModel" 617 "LazyForgeModel" "current" "I" ∈ uG := uG_at 2175 (by decide +kernel) (by decide +kernel)
theorem mG_2176 : Cond.fieldLink "LazyForgeModel" 620 "LazyForgeModel" "has0" "Z" ∈ uG := uG_at 2176 (by decide +kernel) (by decide +kernel)
theorem mG_2177 : Cond.fieldLink "LazyForgeModel" 623 "LazyForgeModel" "result" "J" ∈ uG := uG_at 2177 (by decide +kernel) (by decide +kernel)
theorem mG_2178 : Cond.fieldLink "LazyForgeModel" 663 "LazyForgeModel" "tasks" "I" ∈ uG := uG_at 2178 (by decide +kernel) (by decide +kernel)
theorem mG_2468 : Cond.methodLink "LazyForgeModel" 573 yX12_clearRun ∈ uG := uG_at 2468 (by decide +kernel) (by decide +kernel)
theorem mG_2470 : Cond.instanceMethod yX12_clearRun ∈ uG := uG_at 2470 (by decide +kernel) (by decide +kernel)
theorem mG_2471 : Cond.code yX12_clearRun prog_14_method_109_code 2 none ∈ uG := uG_at 2471 (by decide +kernel) (by decide +kernel)
theorem mG_2472 : Cond.methodLink "LazyForgeModel" 576 yX12_readProgram ∈ uG := uG_at 2472 (by decide +kernel) (by decide +kernel)
theorem mG_2474 : Cond.instanceMethod yX12_readProgram ∈ uG := uG_at 2474 (by decide +kernel) (by decide +kernel)
theorem mG_2475 : Cond.code yX12_readProgram prog_14_method_49_code 2 none ∈ uG := uG_at 2475 (by decide +kernel) (by decide +kernel)
theorem mG_2657 : Cond.methodLink "LazyForgeModel" 579 yX12_numberAll ∈ uG := uG_at 2657 (by decide +kernel) (by decide +kernel)
theorem mG_2659 : Cond.instanceMethod yX12_numberAll ∈ uG := uG_at 2659 (by decide +kernel) (by decide +kernel)
theorem mG_2660 : Cond.code yX12_numberAll prog_14_method_52_code 2 none ∈ uG := uG_at 2660 (by decide +kernel) (by decide +kernel)
theorem mG_2661 : Cond.methodLink "LazyForgeModel" 582 yX12_find ∈ uG := uG_at 2661 (by decide +kernel) (by decide +kernel)
theorem mG_2663 : Cond.instanceMethod yX12_find ∈ uG := uG_at 2663 (by decide +kernel) (by decide +kernel)
theorem mG_2664 : Cond.code yX12_find prog_14_method_61_code 4 none ∈ uG := uG_at 2664 (by decide +kernel) (by decide +kernel)
theorem mG_2704 : Cond.methodLink "LazyForgeModel" 585 yX12_judge ∈ uG := uG_at 2704 (by decide +kernel) (by decide +kernel)
theorem mG_2706 : Cond.instanceMethod yX12_judge ∈ uG := uG_at 2706 (by decide +kernel) (by decide +kernel)
theorem mG_2707 : Cond.code yX12_judge prog_14_method_62_code 2 none ∈ uG := uG_at 2707 (by decide +kernel) (by decide +kernel)
theorem mG_2712 : Cond.methodLink "LazyForgeModel" 588 yX12_liftAll ∈ uG := uG_at 2712 (by decide +kernel) (by decide +kernel)
theorem mG_2714 : Cond.instanceMethod yX12_liftAll ∈ uG := uG_at 2714 (by decide +kernel) (by decide +kernel)
theorem mG_2715 : Cond.code yX12_liftAll prog_14_method_71_code 5 none ∈ uG := uG_at 2715 (by decide +kernel) (by decide +kernel)
theorem mG_2744 : Cond.methodLink "LazyForgeModel" 594 yX12_findTables ∈ uG := uG_at 2744 (by decide +kernel) (by decide +kernel)
theorem mG_2746 : Cond.instanceMethod yX12_findTables ∈ uG := uG_at 2746 (by decide +kernel) (by decide +kernel)
theorem mG_2747 : Cond.code yX12_findTables prog_14_method_76_code 6 none ∈ uG := uG_at 2747 (by decide +kernel) (by decide +kernel)
theorem mG_2764 : Cond.methodLink "LazyForgeModel" 597 yX12_findNeeds ∈ uG := uG_at 2764 (by decide +kernel) (by decide +kernel)
theorem mG_2766 : Cond.instanceMethod yX12_findNeeds ∈ uG := uG_at 2766 (by decide +kernel) (by decide +kernel)
theorem mG_2767 : Cond.code yX12_findNeeds prog_14_method_78_code 5 none ∈ uG := uG_at 2767 (by decide +kernel) (by decide +kernel)
theorem mG_2772 : Cond.methodLink "LazyForgeModel" 600 yX12_isNeeded ∈ uG := uG_at 2772 (by decide +kernel) (by decide +kernel)
theorem mG_2774 : Cond.instanceMethod yX12_isNeeded ∈ uG := uG_at 2774 (by decide +kernel) (by decide +kernel)
theorem mG_2775 : Cond.code yX12_isNeeded prog_14_method_79_code 4 (some .boolean) ∈ uG := uG_at 2775 (by decide +kernel) (by decide +kernel)
theorem mG_2781 : Cond.methodLink "LazyForgeModel" 653 yX12_newCell ∈ uG := uG_at 2781 (by decide +kernel) (by decide +kernel)
theorem mG_2783 : Cond.instanceMethod yX12_newCell ∈ uG := uG_at 2783 (by decide +kernel) (by decide +kernel)
theorem mG_2784 : Cond.code yX12_newCell prog_14_method_88_code 6 (some .int) ∈ uG := uG_at 2784 (by decide +kernel) (by decide +kernel)
theorem mG_2785 : Cond.methodLink "LazyForgeModel" 629 yX12_ends ∈ uG := uG_at 2785 (by decide +kernel) (by decide +kernel)
theorem mG_2787 : Cond.instanceMethod yX12_ends ∈ uG := uG_at 2787 (by decide +kernel) (by decide +kernel)
theorem mG_2788 : Cond.code yX12_ends prog_14_method_84_code 3 none ∈ uG := uG_at 2788 (by decide +kernel) (by decide +kernel)
theorem mG_2789 : Cond.methodLink "LazyForgeModel" 650 yX12_value ∈ uG := uG_at 2789 (by decide +kernel) (by decide +kernel)
theorem mG_2790 : Cond.static yX12_value ∈ uG := uG_at 2790 (by decide +kernel) (by decide +kernel)
theorem mG_2791 : Cond.code yX12_value prog_14_method_81_code 2 (some .long) ∈ uG := uG_at 2791 (by decide +kernel) (by decide +kernel)
theorem mG_2792 : Cond.constantLong "LazyForgeModel" 603 4294967295 ∈ uG := uG_at 2792 (by decide +kernel) (by decide +kernel)
theorem mG_2801 : Cond.methodLink "LazyForgeModel" 688 yX12_kindOf ∈ uG := uG_at 2801 (by decide +kernel) (by decide +kernel)
theorem mG_2802 : Cond.static yX12_kindOf ∈ uG := uG_at 2802 (by decide +kernel) (by decide +kernel)
theorem mG_2803 : Cond.code yX12_kindOf prog_14_method_82_code 2 (some .int) ∈ uG := uG_at 2803 (by decide +kernel) (by decide +kernel)
theorem mG_2804 : Cond.methodLink "LazyForgeModel" 691 yX12_gives ∈ uG := uG_at 2804 (by decide +kernel) (by decide +kernel)
theorem mG_2806 : Cond.instanceMethod yX12_gives ∈ uG := uG_at 2806 (by decide +kernel) (by decide +kernel)
theorem mG_2807 : Cond.code yX12_gives prog_14_method_87_code 3 none ∈ uG := uG_at 2807 (by decide +kernel) (by decide +kernel)
theorem mG_2808 : Cond.methodLink "LazyForgeModel" 679 yX12_of ∈ uG := uG_at 2808 (by decide +kernel) (by decide +kernel)
theorem mG_2809 : Cond.static yX12_of ∈ uG := uG_at 2809 (by decide +kernel) (by decide +kernel)
theorem mG_2810 : Cond.code yX12_of prog_14_method_83_code 2 (some .int) ∈ uG := uG_at 2810 (by decide +kernel) (by decide +kernel)
theorem mG_2811 : Cond.methodLink "LazyForgeModel" 685 yX12_waits ∈ uG := uG_at 2811 (by decide +kernel) (by decide +kernel)
theorem mG_2813 : Cond.instanceMethod yX12_waits ∈ uG := uG_at 2813 (by decide +kernel) (by decide +kernel)
theorem mG_2814 : Cond.code yX12_waits prog_14_method_85_code 4 none ∈ uG := uG_at 2814 (by decide +kernel) (by decide +kernel)
theorem mG_2815 : Cond.methodLink "LazyForgeModel" 694 yX12_frame ∈ uG := uG_at 2815 (by decide +kernel) (by decide +kernel)
theorem mG_2817 : Cond.instanceMethod yX12_frame ∈ uG := uG_at 2817 (by decide +kernel) (by decide +kernel)
theorem mG_2818 : Cond.code yX12_frame prog_14_method_97_code 2 none ∈ uG := uG_at 2818 (by decide +kernel) (by decide +kernel)
theorem mG_2819 : Cond.methodLink "LazyForgeModel" 697 yX12_evaluate ∈ uG := uG_at 2819 (by decide +kernel) (by decide +kernel)
theorem mG_2821 : Cond.instanceMethod yX12_evaluate ∈ uG := uG_at 2821 (by decide +kernel) (by decide +kernel)
theorem mG_2822 : Cond.code yX12_evaluate prog_14_method_86_code 2 none ∈ uG := uG_at 2822 (by decide +kernel) (by decide +kernel)
theorem mG_2848 : Cond.methodLink "LazyForgeModel" 666 yX12_plain ∈ uG := uG_at 2848 (by decide +kernel) (by decide +kernel)
theorem mG_2850 : Cond.instanceMethod yX12_plain ∈ uG := uG_at 2850 (by decide +kernel) (by decide +kernel)
theorem mG_2851 : Cond.code yX12_plain prog_14_method_91_code 2 (some .long) ∈ uG := uG_at 2851 (by decide +kernel) (by decide +kernel)
theorem mG_2852 : Cond.methodLink "LazyForgeModel" 670 yX12_make ∈ uG := uG_at 2852 (by decide +kernel) (by decide +kernel)
theorem mG_2854 : Cond.instanceMethod yX12_make ∈ uG := uG_at 2854 (by decide +kernel) (by decide +kernel)
theorem mG_2855 : Cond.code yX12_make prog_14_method_92_code 3 (some .int) ∈ uG := uG_at 2855 (by decide +kernel) (by decide +kernel)
theorem mG_2856 : Cond.methodLink "LazyForgeModel" 657 yX12_isLess ∈ uG := uG_at 2856 (by decide +kernel) (by decide +kernel)
theorem mG_2858 : Cond.instanceMethod yX12_isLess ∈ uG := uG_at 2858 (by decide +kernel) (by decide +kernel)
theorem mG_2859 : Cond.code yX12_isLess prog_14_method_89_code 2 (some .boolean) ∈ uG := uG_at 2859 (by decide +kernel) (by decide +kernel)
theorem mG_2860 : Cond.methodLink "LazyForgeModel" 660 yX12_ones ∈ uG := uG_at 2860 (by decide +kernel) (by decide +kernel)
theorem mG_2861 : Cond.static yX12_ones ∈ uG := uG_at 2861 (by decide +kernel) (by decide +kernel)
theorem mG_2862 : Cond.code yX12_ones prog_14_method_90_code 5 (some .int) ∈ uG := uG_at 2862 (by decide +kernel) (by decide +kernel)
theorem mG_2863 : Cond.methodLink "LazyForgeModel" 673 yX12_fill ∈ uG := uG_at 2863 (by decide +kernel) (by decide +kernel)
theorem mG_2865 : Cond.instanceMethod yX12_fill ∈ uG := uG_at 2865 (by decide +kernel) (by decide +kernel)
theorem mG_2866 : Cond.code yX12_fill prog_14_method_93_code 6 none ∈ uG := uG_at 2866 (by decide +kernel) (by decide +kernel)
theorem mG_2867 : Cond.methodLink "LazyForgeModel" 676 yX12_doTasks ∈ uG := uG_at 2867 (by decide +kernel) (by decide +kernel)
theorem mG_2869 : Cond.instanceMethod yX12_doTasks ∈ uG := uG_at 2869 (by decide +kernel) (by decide +kernel)
theorem mG_2870 : Cond.code yX12_doTasks prog_14_method_94_code 6 none ∈ uG := uG_at 2870 (by decide +kernel) (by decide +kernel)
theorem dX12_clearRun_0 : decode cX12_clearRun 0 = .ok (.aload_n 0, 1) := by decide +kernel
theorem dX12_clearRun_1 : decode cX12_clearRun 1 = .ok (.iconst 0, 1) := by decide +kernel
theorem dX12_clearRun_2 : decode cX12_clearRun 2 = .ok (.putfield 605, 3) := by decide +kernel
theorem dX12_clearRun_5 : decode cX12_clearRun 5 = .ok (.aload_n 0, 1) := by decide +kernel
theorem dX12_clearRun_6 : decode cX12_clearRun 6 = .ok (.iconst 0, 1) := by decide +kernel
theorem dX12_clearRun_7 : decode cX12_clearRun 7 = .ok (.putfield 608, 3) := by decide +kernel
theorem dX12_clearRun_10 : decode cX12_clearRun 10 = .ok (.aload_n 0, 1) := by decide +kernel
theorem dX12_clearRun_11 : decode cX12_clearRun 11 = .ok (.iconst 0, 1) := by decide +kernel
theorem dX12_clearRun_12 : decode cX12_clearRun 12 = .ok (.putfield 733, 3) := by decide +kernel
theorem dX12_clearRun_15 : decode cX12_clearRun 15 = .ok (.aload_n 0, 1) := by decide +kernel
theorem dX12_clearRun_16 : decode cX12_clearRun 16 = .ok (.iconst 0, 1) := by decide +kernel
theorem dX12_clearRun_17 : decode cX12_clearRun 17 = .ok (.putfield 626, 3) := by decide +kernel
theorem dX12_clearRun_20 : decode cX12_clearRun 20 = .ok (.aload_n 0, 1) := by decide +kernel
theorem dX12_clearRun_21 : decode cX12_clearRun 21 = .ok (.iconst 0, 1) := by decide +kernel
theorem dX12_clearRun_22 : decode cX12_clearRun 22 = .ok (.putfield 641, 3) := by decide +kernel
theorem dX12_clearRun_25 : decode cX12_clearRun 25 = .ok (.aload_n 0, 1) := by decide +kernel
theorem dX12_clearRun_26 : decode cX12_clearRun 26 = .ok (.iconst 0, 1) := by decide +kernel
theorem dX12_clearRun_27 : decode cX12_clearRun 27 = .ok (.putfield 644, 3) := by decide +kernel
theorem dX12_clearRun_30 : decode cX12_clearRun 30 = .ok (.aload_n 0, 1) := by decide +kernel
theorem dX12_clearRun_31 : decode cX12_clearRun 31 = .ok (.iconst 0, 1) := by decide +kernel
theorem dX12_clearRun_32 : decode cX12_clearRun 32 = .ok (.putfield 647, 3) := by decide +kernel
theorem dX12_clearRun_35 : decode cX12_clearRun 35 = .ok (.aload_n 0, 1) := by decide +kernel
theorem dX12_clearRun_36 : decode cX12_clearRun 36 = .ok (.iconst 0, 1) := by decide +kernel
theorem dX12_clearRun_37 : decode cX12_clearRun 37 = .ok (.putfield 740, 3) := by decide +kernel
theorem dX12_clearRun_40 : decode cX12_clearRun 40 = .ok (.aload_n 0, 1) := by decide +kernel
theorem dX12_clearRun_41 : decode cX12_clearRun 41 = .ok (.iconst 0, 1) := by decide +kernel
theorem dX12_clearRun_42 : decode cX12_clearRun 42 = .ok (.putfield 709, 3) := by decide +kernel
theorem dX12_clearRun_45 : decode cX12_clearRun 45 = .ok (.aload_n 0, 1) := by decide +kernel
theorem dX12_clearRun_46 : decode cX12_clearRun 46 = .ok (.iconst 0, 1) := by decide +kernel
theorem dX12_clearRun_47 : decode cX12_clearRun 47 = .ok (.putfield 760, 3) := by decide +kernel
theorem dX12_clearRun_50 : decode cX12_clearRun 50 = .ok (.iconst 0, 1) := by decide +kernel
theorem dX12_clearRun_51 : decode cX12_clearRun 51 = .ok (.istore_n 1, 1) := by decide +kernel
theorem dX12_clearRun_52 : decode cX12_clearRun 52 = .ok (.iload_n 1, 1) := by decide +kernel
theorem dX12_clearRun_53 : decode cX12_clearRun 53 = .ok (.sipush 640, 3) := by decide +kernel
theorem dX12_clearRun_56 : decode cX12_clearRun 56 = .ok (.if_icmp .ge 16, 3) := by decide +kernel
theorem dX12_clearRun_59 : decode cX12_clearRun 59 = .ok (.aload_n 0, 1) := by decide +kernel
theorem dX12_clearRun_60 : decode cX12_clearRun 60 = .ok (.getfield 212, 3) := by decide +kernel
theorem dX12_clearRun_63 : decode cX12_clearRun 63 = .ok (.iload_n 1, 1) := by decide +kernel
theorem dX12_clearRun_64 : decode cX12_clearRun 64 = .ok (.iconst 0, 1) := by decide +kernel
theorem dX12_clearRun_65 : decode cX12_clearRun 65 = .ok (.iastore, 1) := by decide +kernel
theorem dX12_clearRun_66 : decode cX12_clearRun 66 = .ok (.iinc 1 1, 3) := by decide +kernel
theorem dX12_clearRun_69 : decode cX12_clearRun 69 = .ok (.goto (-17), 3) := by decide +kernel
theorem dX12_clearRun_72 : decode cX12_clearRun 72 = .ok (.return_, 1) := by decide +kernel
theorem dX12_doTasks_0 : decode cX12_doTasks 0 = .ok (.aload_n 0, 1) := by decide +kernel
theorem dX12_doTasks_1 : decode cX12_doTasks 1 = .ok (.getfield 663, 3) := by decide +kernel
theorem dX12_doTasks_4 : decode cX12_doTasks 4 = .ok (.ifCond .le 88, 3) := by decide +kernel
theorem dX12_doTasks_7 : decode cX12_doTasks 7 = .ok (.aload_n 0, 1) := by decide +kernel
theorem dX12_doTasks_8 : decode cX12_doTasks 8 = .ok (.getfield 605, 3) := by decide +kernel
theorem dX12_doTasks_11 : decode cX12_doTasks 11 = .ok (.ifCond .ne 81, 3) := by decide +kernel
theorem dX12_doTasks_14 : decode cX12_doTasks 14 = .ok (.aload_n 0, 1) := by decide +kernel
theorem dX12_doTasks_15 : decode cX12_doTasks 15 = .ok (.dup, 1) := by decide +kernel
theorem dX12_doTasks_16 : decode cX12_doTasks 16 = .ok (.getfield 663, 3) := by decide +kernel
theorem dX12_doTasks_19 : decode cX12_doTasks 19 = .ok (.iconst 1, 1) := by decide +kernel
theorem dX12_doTasks_20 : decode cX12_doTasks 20 = .ok (.isub, 1) := by decide +kernel
theorem dX12_doTasks_21 : decode cX12_doTasks 21 = .ok (.putfield 663, 3) := by decide +kernel
theorem dX12_doTasks_24 : decode cX12_doTasks 24 = .ok (.aload_n 0, 1) := by decide +kernel
theorem dX12_doTasks_25 : decode cX12_doTasks 25 = .ok (.getfield 236, 3) := by decide +kernel
theorem dX12_doTasks_28 : decode cX12_doTasks 28 = .ok (.aload_n 0, 1) := by decide +kernel
theorem dX12_doTasks_29 : decode cX12_doTasks 29 = .ok (.getfield 663, 3) := by decide +kernel
theorem dX12_doTasks_32 : decode cX12_doTasks 32 = .ok (.iaload, 1) := by decide +kernel
theorem dX12_doTasks_33 : decode cX12_doTasks 33 = .ok (.istore_n 1, 1) := by decide +kernel
theorem dX12_doTasks_34 : decode cX12_doTasks 34 = .ok (.aload_n 0, 1) := by decide +kernel
theorem dX12_doTasks_35 : decode cX12_doTasks 35 = .ok (.getfield 239, 3) := by decide +kernel
theorem dX12_doTasks_38 : decode cX12_doTasks 38 = .ok (.aload_n 0, 1) := by decide +kernel
theorem dX12_doTasks_39 : decode cX12_doTasks 39 = .ok (.getfield 663, 3) := by decide +kernel
theorem dX12_doTasks_42 : decode cX12_doTasks 42 = .ok (.iaload, 1) := by decide +kernel
theorem dX12_doTasks_43 : decode cX12_doTasks 43 = .ok (.istore_n 2, 1) := by decide +kernel
theorem dX12_doTasks_44 : decode cX12_doTasks 44 = .ok (.aload_n 0, 1) := by decide +kernel
theorem dX12_doTasks_45 : decode cX12_doTasks 45 = .ok (.iload_n 1, 1) := by decide +kernel
theorem dX12_doTasks_46 : decode cX12_doTasks 46 = .ok (.invokevirtual 666, 3) := by decide +kernel
theorem dX12_doTasks_49 : decode cX12_doTasks 49 = .ok (.lstore_n 3, 1) := by decide +kernel
theorem dX12_doTasks_50 : decode cX12_doTasks 50 = .ok (.lload_n 3, 1) := by decide +kernel
theorem dX12_doTasks_51 : decode cX12_doTasks 51 = .ok (.lconst 0, 1) := by decide +kernel
theorem dX12_doTasks_52 : decode cX12_doTasks 52 = .ok (.lcmp, 1) := by decide +kernel
theorem dX12_doTasks_53 : decode cX12_doTasks 53 = .ok (.ifCond .ge 29, 3) := by decide +kernel
theorem dX12_doTasks_56 : decode cX12_doTasks 56 = .ok (.aload_n 0, 1) := by decide +kernel
theorem dX12_doTasks_57 : decode cX12_doTasks 57 = .ok (.iload_n 1, 1) := by decide +kernel
theorem dX12_doTasks_58 : decode cX12_doTasks 58 = .ok (.invokevirtual 670, 3) := by decide +kernel
theorem dX12_doTasks_61 : decode cX12_doTasks 61 = .ok (.istore 5, 2) := by decide +kernel
theorem dX12_doTasks_63 : decode cX12_doTasks 63 = .ok (.iload 5, 2) := by decide +kernel
theorem dX12_doTasks_65 : decode cX12_doTasks 65 = .ok (.ifCond .lt 17, 3) := by decide +kernel
theorem dX12_doTasks_68 : decode cX12_doTasks 68 = .ok (.iconst 3, 1) := by decide +kernel
theorem dX12_doTasks_69 : decode cX12_doTasks 69 = .ok (.iload 5, 2) := by decide +kernel
theorem dX12_doTasks_71 : decode cX12_doTasks 71 = .ok (.invokestatic 650, 3) := by decide +kernel
theorem dX12_doTasks_74 : decode cX12_doTasks 74 = .ok (.lstore_n 3, 1) := by decide +kernel
theorem dX12_doTasks_75 : decode cX12_doTasks 75 = .ok (.aload_n 0, 1) := by decide +kernel
theorem dX12_doTasks_76 : decode cX12_doTasks 76 = .ok (.iload_n 1, 1) := by decide +kernel
theorem dX12_doTasks_77 : decode cX12_doTasks 77 = .ok (.iload 5, 2) := by decide +kernel
theorem dX12_doTasks_79 : decode cX12_doTasks 79 = .ok (.invokevirtual 673, 3) := by decide +kernel
theorem dX12_doTasks_82 : decode cX12_doTasks 82 = .ok (.aload_n 0, 1) := by decide +kernel
theorem dX12_doTasks_83 : decode cX12_doTasks 83 = .ok (.getfield 209, 3) := by decide +kernel
theorem dX12_doTasks_86 : decode cX12_doTasks 86 = .ok (.iload_n 2, 1) := by decide +kernel
theorem dX12_doTasks_87 : decode cX12_doTasks 87 = .ok (.lload_n 3, 1) := by decide +kernel
theorem dX12_doTasks_88 : decode cX12_doTasks 88 = .ok (.lastore, 1) := by decide +kernel
theorem dX12_doTasks_89 : decode cX12_doTasks 89 = .ok (.goto (-89), 3) := by decide +kernel
theorem dX12_doTasks_92 : decode cX12_doTasks 92 = .ok (.return_, 1) := by decide +kernel
theorem dX12_ends_0 : decode cX12_ends 0 = .ok (.aload_n 0, 1) := by decide +kernel
theorem dX12_ends_1 : decode cX12_ends 1 = .ok (.getfield 605, 3) := by decide +kernel
theorem dX12_ends_4 : decode cX12_ends 4 = .ok (.ifCond .ne 13, 3) := by decide +kernel
theorem dX12_ends_7 : decode cX12_ends 7 = .ok (.aload_n 0, 1) := by decide +kernel
theorem dX12_ends_8 : decode cX12_ends 8 = .ok (.iload_n 1, 1) := by decide +kernel
theorem dX12_ends_9 : decode cX12_ends 9 = .ok (.putfield 605, 3) := by decide +kernel
theorem dX12_ends_12 : decode cX12_ends 12 = .ok (.aload_n 0, 1) := by decide +kernel
theorem dX12_ends_13 : decode cX12_ends 13 = .ok (.iload_n 2, 1) := by decide +kernel
theorem dX12_ends_14 : decode cX12_ends 14 = .ok (.putfield 608, 3) := by decide +kernel
theorem dX12_ends_17 : decode cX12_ends 17 = .ok (.return_, 1) := by decide +kernel
theorem dX12_enter_0 : decode cX12_enter 0 = .ok (.lload_n 1, 1) := by decide +kernel
theorem dX12_enter_1 : decode cX12_enter 1 = .ok (.invokestatic 688, 3) := by decide +kernel
theorem dX12_enter_4 : decode cX12_enter 4 = .ok (.iconst 3, 1) := by decide +kernel
theorem dX12_enter_5 : decode cX12_enter 5 = .ok (.if_icmp .eq 9, 3) := by decide +kernel
theorem dX12_enter_8 : decode cX12_enter 8 = .ok (.aload_n 0, 1) := by decide +kernel
theorem dX12_enter_9 : decode cX12_enter 9 = .ok (.lload_n 1, 1) := by decide +kernel
theorem dX12_enter_10 : decode cX12_enter 10 = .ok (.invokevirtual 691, 3) := by decide +kernel
theorem dX12_enter_13 : decode cX12_enter 13 = .ok (.return_, 1) := by decide +kernel
theorem dX12_enter_14 : decode cX12_enter 14 = .ok (.lload_n 1, 1) := by decide +kernel
theorem dX12_enter_15 : decode cX12_enter 15 = .ok (.invokestatic 679, 3) := by decide +kernel
theorem dX12_enter_18 : decode cX12_enter 18 = .ok (.istore_n 3, 1) := by decide +kernel
theorem dX12_enter_19 : decode cX12_enter 19 = .ok (.aload_n 0, 1) := by decide +kernel
theorem dX12_enter_20 : decode cX12_enter 20 = .ok (.getfield 194, 3) := by decide +kernel
theorem dX12_enter_23 : decode cX12_enter 23 = .ok (.iload_n 3, 1) := by decide +kernel
theorem dX12_enter_24 : decode cX12_enter 24 = .ok (.iaload, 1) := by decide +kernel
theorem dX12_enter_25 : decode cX12_enter 25 = .ok (.tableswitch 167 2 4 #[49, 40, 27], 27) := by decide +kernel
theorem dX12_enter_52 : decode cX12_enter 52 = .ok (.aload_n 0, 1) := by decide +kernel
theorem dX12_enter_53 : decode cX12_enter 53 = .ok (.aload_n 0, 1) := by decide +kernel
theorem dX12_enter_54 : decode cX12_enter 54 = .ok (.getfield 200, 3) := by decide +kernel
theorem dX12_enter_57 : decode cX12_enter 57 = .ok (.iload_n 3, 1) := by decide +kernel
theorem dX12_enter_58 : decode cX12_enter 58 = .ok (.laload, 1) := by decide +kernel
theorem dX12_enter_59 : decode cX12_enter 59 = .ok (.invokevirtual 691, 3) := by decide +kernel
theorem dX12_enter_62 : decode cX12_enter 62 = .ok (.goto 135, 3) := by decide +kernel
theorem dX12_enter_65 : decode cX12_enter 65 = .ok (.aload_n 0, 1) := by decide +kernel
theorem dX12_enter_66 : decode cX12_enter 66 = .ok (.iconst 2, 1) := by decide +kernel
theorem dX12_enter_67 : decode cX12_enter 67 = .ok (.iconst 3, 1) := by decide +kernel
theorem dX12_enter_68 : decode cX12_enter 68 = .ok (.invokevirtual 629, 3) := by decide +kernel
theorem dX12_enter_71 : decode cX12_enter 71 = .ok (.goto 126, 3) := by decide +kernel
theorem dX12_enter_74 : decode cX12_enter 74 = .ok (.aload_n 0, 1) := by decide +kernel
theorem dX12_enter_75 : decode cX12_enter 75 = .ok (.getfield 197, 3) := by decide +kernel
theorem dX12_enter_78 : decode cX12_enter 78 = .ok (.iload_n 3, 1) := by decide +kernel
theorem dX12_enter_79 : decode cX12_enter 79 = .ok (.iaload, 1) := by decide +kernel
theorem dX12_enter_80 : decode cX12_enter 80 = .ok (.istore 4, 2) := by decide +kernel
theorem dX12_enter_82 : decode cX12_enter 82 = .ok (.aload_n 0, 1) := by decide +kernel
theorem dX12_enter_83 : decode cX12_enter 83 = .ok (.getfield 194, 3) := by decide +kernel
theorem dX12_enter_86 : decode cX12_enter 86 = .ok (.iload_n 3, 1) := by decide +kernel
theorem dX12_enter_87 : decode cX12_enter 87 = .ok (.iconst 3, 1) := by decide +kernel
theorem dX12_enter_88 : decode cX12_enter 88 = .ok (.iastore, 1) := by decide +kernel
theorem dX12_enter_89 : decode cX12_enter 89 = .ok (.aload_n 0, 1) := by decide +kernel
theorem dX12_enter_90 : decode cX12_enter 90 = .ok (.iconst 0, 1) := by decide +kernel
theorem dX12_enter_91 : decode cX12_enter 91 = .ok (.iconst 0, 1) := by decide +kernel
theorem dX12_enter_92 : decode cX12_enter 92 = .ok (.iload_n 3, 1) := by decide +kernel
theorem dX12_enter_93 : decode cX12_enter 93 = .ok (.invokevirtual 685, 3) := by decide +kernel
theorem dX12_enter_96 : decode cX12_enter 96 = .ok (.aload_n 0, 1) := by decide +kernel
theorem dX12_enter_97 : decode cX12_enter 97 = .ok (.aload_n 0, 1) := by decide +kernel
theorem dX12_enter_98 : decode cX12_enter 98 = .ok (.getfield 141, 3) := by decide +kernel
theorem dX12_enter_101 : decode cX12_enter 101 = .ok (.iload 4, 2) := by decide +kernel
theorem dX12_enter_103 : decode cX12_enter 103 = .ok (.iaload, 1) := by decide +kernel
theorem dX12_enter_104 : decode cX12_enter 104 = .ok (.invokevirtual 694, 3) := by decide +kernel
theorem dX12_enter_107 : decode cX12_enter 107 = .ok (.iconst 0, 1) := by decide +kernel
theorem dX12_enter_108 : decode cX12_enter 108 = .ok (.istore 5, 2) := by decide +kernel
theorem dX12_enter_110 : decode cX12_enter 110 = .ok (.iconst 0, 1) := by decide +kernel
theorem dX12_enter_111 : decode cX12_enter 111 = .ok (.istore 6, 2) := by decide +kernel
theorem dX12_enter_113 : decode cX12_enter 113 = .ok (.iload 6, 2) := by decide +kernel
theorem dX12_enter_115 : decode cX12_enter 115 = .ok (.bipush 40, 2) := by decide +kernel
theorem dX12_enter_117 : decode cX12_enter 117 = .ok (.if_icmp .ge 66, 3) := by decide +kernel
theorem dX12_enter_120 : decode cX12_enter 120 = .ok (.iload 5, 2) := by decide +kernel
theorem dX12_enter_122 : decode cX12_enter 122 = .ok (.aload_n 0, 1) := by decide +kernel
theorem dX12_enter_123 : decode cX12_enter 123 = .ok (.getfield 206, 3) := by decide +kernel
theorem dX12_enter_126 : decode cX12_enter 126 = .ok (.iload_n 3, 1) := by decide +kernel
theorem dX12_enter_127 : decode cX12_enter 127 = .ok (.iaload, 1) := by decide +kernel
theorem dX12_enter_128 : decode cX12_enter 128 = .ok (.if_icmp .ge 55, 3) := by decide +kernel
theorem dX12_enter_131 : decode cX12_enter 131 = .ok (.aload_n 0, 1) := by decide +kernel
theorem dX12_enter_132 : decode cX12_enter 132 = .ok (.getfield 144, 3) := by decide +kernel
theorem dX12_enter_135 : decode cX12_enter 135 = .ok (.iload 4, 2) := by decide +kernel
theorem dX12_enter_137 : decode cX12_enter 137 = .ok (.laload, 1) := by decide +kernel
theorem dX12_enter_138 : decode cX12_enter 138 = .ok (.iload 6, 2) := by decide +kernel
theorem dX12_enter_140 : decode cX12_enter 140 = .ok (.lshr, 1) := by decide +kernel
theorem dX12_enter_141 : decode cX12_enter 141 = .ok (.lconst 1, 1) := by decide +kernel
theorem dX12_enter_142 : decode cX12_enter 142 = .ok (.land, 1) := by decide +kernel
theorem dX12_enter_143 : decode cX12_enter 143 = .ok (.lconst 1, 1) := by decide +kernel
theorem dX12_enter_144 : decode cX12_enter 144 = .ok (.lcmp, 1) := by decide +kernel
theorem dX12_enter_145 : decode cX12_enter 145 = .ok (.ifCond .ne 32, 3) := by decide +kernel
theorem dX12_enter_148 : decode cX12_enter 148 = .ok (.aload_n 0, 1) := by decide +kernel
theorem dX12_enter_149 : decode cX12_enter 149 = .ok (.getfield 233, 3) := by decide +kernel
theorem dX12_enter_152 : decode cX12_enter 152 = .ok (.aload_n 0, 1) := by decide +kernel
theorem dX12_enter_153 : decode cX12_enter 153 = .ok (.getfield 614, 3) := by decide +kernel
theorem dX12_enter_156 : decode cX12_enter 156 = .ok (.iload 6, 2) := by decide +kernel
theorem dX12_enter_158 : decode cX12_enter 158 = .ok (.iadd, 1) := by decide +kernel
theorem dX12_enter_159 : decode cX12_enter 159 = .ok (.aload_n 0, 1) := by decide +kernel
theorem dX12_enter_160 : decode cX12_enter 160 = .ok (.getfield 209, 3) := by decide +kernel
theorem dX12_enter_163 : decode cX12_enter 163 = .ok (.aload_n 0, 1) := by decide +kernel
theorem dX12_enter_164 : decode cX12_enter 164 = .ok (.getfield 203, 3) := by decide +kernel
theorem dX12_enter_167 : decode cX12_enter 167 = .ok (.iload_n 3, 1) := by decide +kernel
theorem dX12_enter_168 : decode cX12_enter 168 = .ok (.iaload, 1) := by decide +kernel
theorem dX12_enter_169 : decode cX12_enter 169 = .ok (.iload 5, 2) := by decide +kernel
theorem dX12_enter_171 : decode cX12_enter 171 = .ok (.iadd, 1) := by decide +kernel
theorem dX12_enter_172 : decode cX12_enter 172 = .ok (.laload, 1) := by decide +kernel
theorem dX12_enter_173 : decode cX12_enter 173 = .ok (.lastore, 1) := by decide +kernel
theorem dX12_enter_174 : decode cX12_enter 174 = .ok (.iinc 5 1, 3) := by decide +kernel
theorem dX12_enter_177 : decode cX12_enter 177 = .ok (.iinc 6 1, 3) := by decide +kernel
theorem dX12_enter_180 : decode cX12_enter 180 = .ok (.goto (-67), 3) := by decide +kernel
theorem dX12_enter_183 : decode cX12_enter 183 = .ok (.aload_n 0, 1) := by decide +kernel
theorem dX12_enter_184 : decode cX12_enter 184 = .ok (.iload 4, 2) := by decide +kernel
theorem dX12_enter_186 : decode cX12_enter 186 = .ok (.invokevirtual 697, 3) := by decide +kernel
theorem dX12_enter_189 : decode cX12_enter 189 = .ok (.goto 8, 3) := by decide +kernel
theorem dX12_enter_192 : decode cX12_enter 192 = .ok (.aload_n 0, 1) := by decide +kernel
theorem dX12_enter_193 : decode cX12_enter 193 = .ok (.lload_n 1, 1) := by decide +kernel
theorem dX12_enter_194 : decode cX12_enter 194 = .ok (.invokevirtual 691, 3) := by decide +kernel
theorem dX12_enter_197 : decode cX12_enter 197 = .ok (.return_, 1) := by decide +kernel
theorem dX12_evaluate_0 : decode cX12_evaluate 0 = .ok (.aload_n 0, 1) := by decide +kernel
theorem dX12_evaluate_1 : decode cX12_evaluate 1 = .ok (.iload_n 1, 1) := by decide +kernel
theorem dX12_evaluate_2 : decode cX12_evaluate 2 = .ok (.putfield 617, 3) := by decide +kernel
theorem dX12_evaluate_5 : decode cX12_evaluate 5 = .ok (.aload_n 0, 1) := by decide +kernel
theorem dX12_evaluate_6 : decode cX12_evaluate 6 = .ok (.iconst 0, 1) := by decide +kernel
theorem dX12_evaluate_7 : decode cX12_evaluate 7 = .ok (.putfield 620, 3) := by decide +kernel
theorem dX12_evaluate_10 : decode cX12_evaluate 10 = .ok (.return_, 1) := by decide +kernel
theorem dX12_fill_0 : decode cX12_fill 0 = .ok (.aload_n 0, 1) := by decide +kernel
theorem dX12_fill_1 : decode cX12_fill 1 = .ok (.getfield 203, 3) := by decide +kernel
theorem dX12_fill_4 : decode cX12_fill 4 = .ok (.iload_n 2, 1) := by decide +kernel
theorem dX12_fill_5 : decode cX12_fill 5 = .ok (.iaload, 1) := by decide +kernel
theorem dX12_fill_6 : decode cX12_fill 6 = .ok (.istore_n 3, 1) := by decide +kernel
theorem dX12_fill_7 : decode cX12_fill 7 = .ok (.aload_n 0, 1) := by decide +kernel
theorem dX12_fill_8 : decode cX12_fill 8 = .ok (.getfield 194, 3) := by decide +kernel
theorem dX12_fill_11 : decode cX12_fill 11 = .ok (.iload_n 2, 1) := by decide +kernel
theorem dX12_fill_12 : decode cX12_fill 12 = .ok (.iaload, 1) := by decide +kernel
theorem dX12_fill_13 : decode cX12_fill 13 = .ok (.iconst 2, 1) := by decide +kernel
theorem dX12_fill_14 : decode cX12_fill 14 = .ok (.if_icmp .ne 63, 3) := by decide +kernel
theorem dX12_fill_17 : decode cX12_fill 17 = .ok (.iconst 0, 1) := by decide +kernel
theorem dX12_fill_18 : decode cX12_fill 18 = .ok (.istore 4, 2) := by decide +kernel
theorem dX12_fill_20 : decode cX12_fill 20 = .ok (.iconst 0, 1) := by decide +kernel
theorem dX12_fill_21 : decode cX12_fill 21 = .ok (.istore 5, 2) := by decide +kernel
theorem dX12_fill_23 : decode cX12_fill 23 = .ok (.iload 5, 2) := by decide +kernel
theorem dX12_fill_25 : decode cX12_fill 25 = .ok (.bipush 40, 2) := by decide +kernel
theorem dX12_fill_27 : decode cX12_fill 27 = .ok (.if_icmp .ge 49, 3) := by decide +kernel
theorem dX12_fill_30 : decode cX12_fill 30 = .ok (.aload_n 0, 1) := by decide +kernel
theorem dX12_fill_31 : decode cX12_fill 31 = .ok (.getfield 144, 3) := by decide +kernel
theorem dX12_fill_34 : decode cX12_fill 34 = .ok (.iload_n 1, 1) := by decide +kernel
theorem dX12_fill_35 : decode cX12_fill 35 = .ok (.laload, 1) := by decide +kernel
theorem dX12_fill_36 : decode cX12_fill 36 = .ok (.iload 5, 2) := by decide +kernel
theorem dX12_fill_38 : decode cX12_fill 38 = .ok (.lshr, 1) := by decide +kernel
theorem dX12_fill_39 : decode cX12_fill 39 = .ok (.lconst 1, 1) := by decide +kernel
theorem dX12_fill_40 : decode cX12_fill 40 = .ok (.land, 1) := by decide +kernel
theorem dX12_fill_41 : decode cX12_fill 41 = .ok (.lconst 1, 1) := by decide +kernel
theorem dX12_fill_42 : decode cX12_fill 42 = .ok (.lcmp, 1) := by decide +kernel
theorem dX12_fill_43 : decode cX12_fill 43 = .ok (.ifCond .ne 27, 3) := by decide +kernel
theorem dX12_fill_46 : decode cX12_fill 46 = .ok (.aload_n 0, 1) := by decide +kernel
theorem dX12_fill_47 : decode cX12_fill 47 = .ok (.getfield 209, 3) := by decide +kernel
theorem dX12_fill_50 : decode cX12_fill 50 = .ok (.iload_n 3, 1) := by decide +kernel
theorem dX12_fill_51 : decode cX12_fill 51 = .ok (.iload 4, 2) := by decide +kernel
theorem dX12_fill_53 : decode cX12_fill 53 = .ok (.iadd, 1) := by decide +kernel
theorem dX12_fill_54 : decode cX12_fill 54 = .ok (.aload_n 0, 1) := by decide +kernel
theorem dX12_fill_55 : decode cX12_fill 55 = .ok (.getfield 233, 3) := by decide +kernel
theorem dX12_fill_58 : decode cX12_fill 58 = .ok (.aload_n 0, 1) := by decide +kernel
theorem dX12_fill_59 : decode cX12_fill 59 = .ok (.getfield 614, 3) := by decide +kernel
theorem dX12_fill_62 : decode cX12_fill 62 = .ok (.iload 5, 2) := by decide +kernel
theorem dX12_fill_64 : decode cX12_fill 64 = .ok (.iadd, 1) := by decide +kernel
theorem dX12_fill_65 : decode cX12_fill 65 = .ok (.laload, 1) := by decide +kernel
theorem dX12_fill_66 : decode cX12_fill 66 = .ok (.lastore, 1) := by decide +kernel
theorem dX12_fill_67 : decode cX12_fill 67 = .ok (.iinc 4 1, 3) := by decide +kernel
theorem dX12_fill_70 : decode cX12_fill 70 = .ok (.iinc 5 1, 3) := by decide +kernel
theorem dX12_fill_73 : decode cX12_fill 73 = .ok (.goto (-50), 3) := by decide +kernel
theorem dX12_fill_76 : decode cX12_fill 76 = .ok (.return_, 1) := by decide +kernel
theorem dX12_fill_77 : decode cX12_fill 77 = .ok (.aload_n 0, 1) := by decide +kernel
theorem dX12_fill_78 : decode cX12_fill 78 = .ok (.getfield 194, 3) := by decide +kernel
theorem dX12_fill_81 : decode cX12_fill 81 = .ok (.iload_n 2, 1) := by decide +kernel
theorem dX12_fill_82 : decode cX12_fill 82 = .ok (.iaload, 1) := by decide +kernel
theorem dX12_fill_83 : decode cX12_fill 83 = .ok (.iconst 1, 1) := by decide +kernel
theorem dX12_fill_84 : decode cX12_fill 84 = .ok (.if_icmp .ne 7, 3) := by decide +kernel
theorem dX12_fill_87 : decode cX12_fill 87 = .ok (.iconst 1, 1) := by decide +kernel
theorem dX12_fill_88 : decode cX12_fill 88 = .ok (.goto 4, 3) := by decide +kernel
theorem dX12_fill_91 : decode cX12_fill 91 = .ok (.iconst 0, 1) := by decide +kernel
theorem dX12_fill_92 : decode cX12_fill 92 = .ok (.istore 4, 2) := by decide +kernel
theorem dX12_fill_94 : decode cX12_fill 94 = .ok (.aload_n 0, 1) := by decide +kernel
theorem dX12_fill_95 : decode cX12_fill 95 = .ok (.getfield 206, 3) := by decide +kernel
theorem dX12_fill_98 : decode cX12_fill 98 = .ok (.iload_n 2, 1) := by decide +kernel
theorem dX12_fill_99 : decode cX12_fill 99 = .ok (.iaload, 1) := by decide +kernel
theorem dX12_fill_100 : decode cX12_fill 100 = .ok (.iconst 1, 1) := by decide +kernel
theorem dX12_fill_101 : decode cX12_fill 101 = .ok (.isub, 1) := by decide +kernel
theorem dX12_fill_102 : decode cX12_fill 102 = .ok (.istore 5, 2) := by decide +kernel
theorem dX12_fill_104 : decode cX12_fill 104 = .ok (.iload 5, 2) := by decide +kernel
theorem dX12_fill_106 : decode cX12_fill 106 = .ok (.ifCond .lt 51, 3) := by decide +kernel
theorem dX12_fill_109 : decode cX12_fill 109 = .ok (.aload_n 0, 1) := by decide +kernel
theorem dX12_fill_110 : decode cX12_fill 110 = .ok (.getfield 236, 3) := by decide +kernel
theorem dX12_fill_113 : decode cX12_fill 113 = .ok (.aload_n 0, 1) := by decide +kernel
theorem dX12_fill_114 : decode cX12_fill 114 = .ok (.getfield 663, 3) := by decide +kernel
theorem dX12_fill_117 : decode cX12_fill 117 = .ok (.aload_n 0, 1) := by decide +kernel
theorem dX12_fill_118 : decode cX12_fill 118 = .ok (.iload_n 1, 1) := by decide +kernel
theorem dX12_fill_119 : decode cX12_fill 119 = .ok (.iload 4, 2) := by decide +kernel
theorem dX12_fill_121 : decode cX12_fill 121 = .ok (.iload 5, 2) := by decide +kernel
theorem dX12_fill_123 : decode cX12_fill 123 = .ok (.iadd, 1) := by decide +kernel
theorem dX12_fill_124 : decode cX12_fill 124 = .ok (.invokevirtual 545, 3) := by decide +kernel
theorem dX12_fill_127 : decode cX12_fill 127 = .ok (.iastore, 1) := by decide +kernel
theorem dX12_fill_128 : decode cX12_fill 128 = .ok (.aload_n 0, 1) := by decide +kernel
theorem dX12_fill_129 : decode cX12_fill 129 = .ok (.getfield 239, 3) := by decide +kernel
theorem dX12_fill_132 : decode cX12_fill 132 = .ok (.aload_n 0, 1) := by decide +kernel
theorem dX12_fill_133 : decode cX12_fill 133 = .ok (.getfield 663, 3) := by decide +kernel
theorem dX12_fill_136 : decode cX12_fill 136 = .ok (.iload_n 3, 1) := by decide +kernel
theorem dX12_fill_137 : decode cX12_fill 137 = .ok (.iload 5, 2) := by decide +kernel
theorem dX12_fill_139 : decode cX12_fill 139 = .ok (.iadd, 1) := by decide +kernel
theorem dX12_fill_140 : decode cX12_fill 140 = .ok (.iastore, 1) := by decide +kernel
theorem dX12_fill_141 : decode cX12_fill 141 = .ok (.aload_n 0, 1) := by decide +kernel
theorem dX12_fill_142 : decode cX12_fill 142 = .ok (.dup, 1) := by decide +kernel
theorem dX12_fill_143 : decode cX12_fill 143 = .ok (.getfield 663, 3) := by decide +kernel
theorem dX12_fill_146 : decode cX12_fill 146 = .ok (.iconst 1, 1) := by decide +kernel
theorem dX12_fill_147 : decode cX12_fill 147 = .ok (.iadd, 1) := by decide +kernel
theorem dX12_fill_148 : decode cX12_fill 148 = .ok (.putfield 663, 3) := by decide +kernel
theorem dX12_fill_151 : decode cX12_fill 151 = .ok (.iinc 5 (-1), 3) := by decide +kernel
theorem dX12_fill_154 : decode cX12_fill 154 = .ok (.goto (-50), 3) := by decide +kernel
theorem dX12_fill_157 : decode cX12_fill 157 = .ok (.return_, 1) := by decide +kernel
theorem dX12_frame_0 : decode cX12_frame 0 = .ok (.aload_n 0, 1) := by decide +kernel
theorem dX12_frame_1 : decode cX12_frame 1 = .ok (.iconst 1, 1) := by decide +kernel
theorem dX12_frame_2 : decode cX12_frame 2 = .ok (.iconst 0, 1) := by decide +kernel
theorem dX12_frame_3 : decode cX12_frame 3 = .ok (.aload_n 0, 1) := by decide +kernel
theorem dX12_frame_4 : decode cX12_frame 4 = .ok (.getfield 682, 3) := by decide +kernel
theorem dX12_frame_7 : decode cX12_frame 7 = .ok (.invokevirtual 685, 3) := by decide +kernel
theorem dX12_frame_10 : decode cX12_frame 10 = .ok (.aload_n 0, 1) := by decide +kernel
theorem dX12_frame_11 : decode cX12_frame 11 = .ok (.aload_n 0, 1) := by decide +kernel
theorem dX12_frame_12 : decode cX12_frame 12 = .ok (.getfield 682, 3) := by decide +kernel
theorem dX12_frame_15 : decode cX12_frame 15 = .ok (.putfield 614, 3) := by decide +kernel
theorem dX12_frame_18 : decode cX12_frame 18 = .ok (.aload_n 0, 1) := by decide +kernel
theorem dX12_frame_19 : decode cX12_frame 19 = .ok (.dup, 1) := by decide +kernel
theorem dX12_frame_20 : decode cX12_frame 20 = .ok (.getfield 682, 3) := by decide +kernel
theorem dX12_frame_23 : decode cX12_frame 23 = .ok (.aload_n 0, 1) := by decide +kernel
theorem dX12_frame_24 : decode cX12_frame 24 = .ok (.getfield 168, 3) := by decide +kernel
theorem dX12_frame_27 : decode cX12_frame 27 = .ok (.iload_n 1, 1) := by decide +kernel
theorem dX12_frame_28 : decode cX12_frame 28 = .ok (.iaload, 1) := by decide +kernel
theorem dX12_frame_29 : decode cX12_frame 29 = .ok (.iadd, 1) := by decide +kernel
theorem dX12_frame_30 : decode cX12_frame 30 = .ok (.putfield 682, 3) := by decide +kernel
theorem dX12_frame_33 : decode cX12_frame 33 = .ok (.return_, 1) := by decide +kernel
theorem dX12_gives_0 : decode cX12_gives 0 = .ok (.aload_n 0, 1) := by decide +kernel
theorem dX12_gives_1 : decode cX12_gives 1 = .ok (.lload_n 1, 1) := by decide +kernel
theorem dX12_gives_2 : decode cX12_gives 2 = .ok (.putfield 623, 3) := by decide +kernel
theorem dX12_gives_5 : decode cX12_gives 5 = .ok (.aload_n 0, 1) := by decide +kernel
theorem dX12_gives_6 : decode cX12_gives 6 = .ok (.iconst 1, 1) := by decide +kernel
theorem dX12_gives_7 : decode cX12_gives 7 = .ok (.putfield 620, 3) := by decide +kernel
theorem dX12_gives_10 : decode cX12_gives 10 = .ok (.return_, 1) := by decide +kernel
theorem dX12_isLess_0 : decode cX12_isLess 0 = .ok (.aload_n 0, 1) := by decide +kernel
theorem dX12_isLess_1 : decode cX12_isLess 1 = .ok (.getfield 119, 3) := by decide +kernel
theorem dX12_isLess_4 : decode cX12_isLess 4 = .ok (.iload_n 1, 1) := by decide +kernel
theorem dX12_isLess_5 : decode cX12_isLess 5 = .ok (.iaload, 1) := by decide +kernel
theorem dX12_isLess_6 : decode cX12_isLess 6 = .ok (.bipush 6, 2) := by decide +kernel
theorem dX12_isLess_8 : decode cX12_isLess 8 = .ok (.if_icmp .ne 19, 3) := by decide +kernel
theorem dX12_isLess_11 : decode cX12_isLess 11 = .ok (.aload_n 0, 1) := by decide +kernel
theorem dX12_isLess_12 : decode cX12_isLess 12 = .ok (.getfield 119, 3) := by decide +kernel
theorem dX12_isLess_15 : decode cX12_isLess 15 = .ok (.aload_n 0, 1) := by decide +kernel
theorem dX12_isLess_16 : decode cX12_isLess 16 = .ok (.iload_n 1, 1) := by decide +kernel
theorem dX12_isLess_17 : decode cX12_isLess 17 = .ok (.iconst 0, 1) := by decide +kernel
theorem dX12_isLess_18 : decode cX12_isLess 18 = .ok (.invokevirtual 545, 3) := by decide +kernel
theorem dX12_isLess_21 : decode cX12_isLess 21 = .ok (.iaload, 1) := by decide +kernel
theorem dX12_isLess_22 : decode cX12_isLess 22 = .ok (.bipush 12, 2) := by decide +kernel
theorem dX12_isLess_24 : decode cX12_isLess 24 = .ok (.if_icmp .eq 5, 3) := by decide +kernel
theorem dX12_isLess_27 : decode cX12_isLess 27 = .ok (.iconst 0, 1) := by decide +kernel
theorem dX12_isLess_28 : decode cX12_isLess 28 = .ok (.ireturn, 1) := by decide +kernel
theorem dX12_isLess_29 : decode cX12_isLess 29 = .ok (.aload_n 0, 1) := by decide +kernel
theorem dX12_isLess_30 : decode cX12_isLess 30 = .ok (.getfield 128, 3) := by decide +kernel
theorem dX12_isLess_33 : decode cX12_isLess 33 = .ok (.iload_n 1, 1) := by decide +kernel
theorem dX12_isLess_34 : decode cX12_isLess 34 = .ok (.iaload, 1) := by decide +kernel
theorem dX12_isLess_35 : decode cX12_isLess 35 = .ok (.iconst 1, 1) := by decide +kernel
theorem dX12_isLess_36 : decode cX12_isLess 36 = .ok (.isub, 1) := by decide +kernel
theorem dX12_isLess_37 : decode cX12_isLess 37 = .ok (.aload_n 0, 1) := by decide +kernel
theorem dX12_isLess_38 : decode cX12_isLess 38 = .ok (.getfield 171, 3) := by decide +kernel
theorem dX12_isLess_41 : decode cX12_isLess 41 = .ok (.aload_n 0, 1) := by decide +kernel
theorem dX12_isLess_42 : decode cX12_isLess 42 = .ok (.getfield 122, 3) := by decide +kernel
theorem dX12_isLess_45 : decode cX12_isLess 45 = .ok (.aload_n 0, 1) := by decide +kernel
theorem dX12_isLess_46 : decode cX12_isLess 46 = .ok (.iload_n 1, 1) := by decide +kernel
theorem dX12_isLess_47 : decode cX12_isLess 47 = .ok (.iconst 0, 1) := by decide +kernel
theorem dX12_isLess_48 : decode cX12_isLess 48 = .ok (.invokevirtual 545, 3) := by decide +kernel
theorem dX12_isLess_51 : decode cX12_isLess 51 = .ok (.iaload, 1) := by decide +kernel
theorem dX12_isLess_52 : decode cX12_isLess 52 = .ok (.iaload, 1) := by decide +kernel
theorem dX12_isLess_53 : decode cX12_isLess 53 = .ok (.if_icmp .ge 7, 3) := by decide +kernel
theorem dX12_isLess_56 : decode cX12_isLess 56 = .ok (.iconst 1, 1) := by decide +kernel
theorem dX12_isLess_57 : decode cX12_isLess 57 = .ok (.goto 4, 3) := by decide +kernel
theorem dX12_isLess_60 : decode cX12_isLess 60 = .ok (.iconst 0, 1) := by decide +kernel
theorem dX12_isLess_61 : decode cX12_isLess 61 = .ok (.ireturn, 1) := by decide +kernel
theorem dX12_keep_0 : decode cX12_keep 0 = .ok (.aload_n 0, 1) := by decide +kernel
theorem dX12_keep_1 : decode cX12_keep 1 = .ok (.iload_n 1, 1) := by decide +kernel
theorem dX12_keep_2 : decode cX12_keep 2 = .ok (.invokevirtual 666, 3) := by decide +kernel
theorem dX12_keep_5 : decode cX12_keep 5 = .ok (.lstore_n 2, 1) := by decide +kernel
theorem dX12_keep_6 : decode cX12_keep 6 = .ok (.lload_n 2, 1) := by decide +kernel
theorem dX12_keep_7 : decode cX12_keep 7 = .ok (.lconst 0, 1) := by decide +kernel
theorem dX12_keep_8 : decode cX12_keep 8 = .ok (.lcmp, 1) := by decide +kernel
theorem dX12_keep_9 : decode cX12_keep 9 = .ok (.ifCond .lt 5, 3) := by decide +kernel
theorem dX12_keep_12 : decode cX12_keep 12 = .ok (.lload_n 2, 1) := by decide +kernel
theorem dX12_keep_13 : decode cX12_keep 13 = .ok (.lreturn, 1) := by decide +kernel
theorem dX12_keep_14 : decode cX12_keep 14 = .ok (.aload_n 0, 1) := by decide +kernel
theorem dX12_keep_15 : decode cX12_keep 15 = .ok (.iload_n 1, 1) := by decide +kernel
theorem dX12_keep_16 : decode cX12_keep 16 = .ok (.invokevirtual 670, 3) := by decide +kernel
theorem dX12_keep_19 : decode cX12_keep 19 = .ok (.istore 4, 2) := by decide +kernel
theorem dX12_keep_21 : decode cX12_keep 21 = .ok (.iload 4, 2) := by decide +kernel
theorem dX12_keep_23 : decode cX12_keep 23 = .ok (.ifCond .ge 5, 3) := by decide +kernel
theorem dX12_keep_26 : decode cX12_keep 26 = .ok (.lconst 0, 1) := by decide +kernel
theorem dX12_keep_27 : decode cX12_keep 27 = .ok (.lreturn, 1) := by decide +kernel
theorem dX12_keep_28 : decode cX12_keep 28 = .ok (.aload_n 0, 1) := by decide +kernel
theorem dX12_keep_29 : decode cX12_keep 29 = .ok (.iconst 0, 1) := by decide +kernel
theorem dX12_keep_30 : decode cX12_keep 30 = .ok (.putfield 663, 3) := by decide +kernel
theorem dX12_keep_33 : decode cX12_keep 33 = .ok (.aload_n 0, 1) := by decide +kernel
theorem dX12_keep_34 : decode cX12_keep 34 = .ok (.iload_n 1, 1) := by decide +kernel
theorem dX12_keep_35 : decode cX12_keep 35 = .ok (.iload 4, 2) := by decide +kernel
theorem dX12_keep_37 : decode cX12_keep 37 = .ok (.invokevirtual 673, 3) := by decide +kernel
theorem dX12_keep_40 : decode cX12_keep 40 = .ok (.aload_n 0, 1) := by decide +kernel
theorem dX12_keep_41 : decode cX12_keep 41 = .ok (.invokevirtual 676, 3) := by decide +kernel
theorem dX12_keep_44 : decode cX12_keep 44 = .ok (.iconst 3, 1) := by decide +kernel
theorem dX12_keep_45 : decode cX12_keep 45 = .ok (.iload 4, 2) := by decide +kernel
theorem dX12_keep_47 : decode cX12_keep 47 = .ok (.invokestatic 650, 3) := by decide +kernel
theorem dX12_keep_50 : decode cX12_keep 50 = .ok (.lreturn, 1) := by decide +kernel
theorem dX12_keepBindings_0 : decode cX12_keepBindings 0 = .ok (.aload_n 0, 1) := by decide +kernel
theorem dX12_keepBindings_1 : decode cX12_keepBindings 1 = .ok (.getfield 122, 3) := by decide +kernel
theorem dX12_keepBindings_4 : decode cX12_keepBindings 4 = .ok (.iload_n 1, 1) := by decide +kernel
theorem dX12_keepBindings_5 : decode cX12_keepBindings 5 = .ok (.iaload, 1) := by decide +kernel
theorem dX12_keepBindings_6 : decode cX12_keepBindings 6 = .ok (.istore_n 2, 1) := by decide +kernel
theorem dX12_keepBindings_7 : decode cX12_keepBindings 7 = .ok (.aload_n 0, 1) := by decide +kernel
theorem dX12_keepBindings_8 : decode cX12_keepBindings 8 = .ok (.getfield 131, 3) := by decide +kernel
theorem dX12_keepBindings_11 : decode cX12_keepBindings 11 = .ok (.iload_n 1, 1) := by decide +kernel
theorem dX12_keepBindings_12 : decode cX12_keepBindings 12 = .ok (.iaload, 1) := by decide +kernel
theorem dX12_keepBindings_13 : decode cX12_keepBindings 13 = .ok (.istore_n 3, 1) := by decide +kernel
theorem dX12_keepBindings_14 : decode cX12_keepBindings 14 = .ok (.iconst 0, 1) := by decide +kernel
theorem dX12_keepBindings_15 : decode cX12_keepBindings 15 = .ok (.istore 4, 2) := by decide +kernel
theorem dX12_keepBindings_17 : decode cX12_keepBindings 17 = .ok (.iload 4, 2) := by decide +kernel
theorem dX12_keepBindings_19 : decode cX12_keepBindings 19 = .ok (.iload_n 2, 1) := by decide +kernel
theorem dX12_keepBindings_20 : decode cX12_keepBindings 20 = .ok (.if_icmp .ge 102, 3) := by decide +kernel
theorem dX12_keepBindings_23 : decode cX12_keepBindings 23 = .ok (.aload_n 0, 1) := by decide +kernel
theorem dX12_keepBindings_24 : decode cX12_keepBindings 24 = .ok (.getfield 605, 3) := by decide +kernel
theorem dX12_keepBindings_27 : decode cX12_keepBindings 27 = .ok (.ifCond .ne 95, 3) := by decide +kernel
theorem dX12_keepBindings_30 : decode cX12_keepBindings 30 = .ok (.aload_n 0, 1) := by decide +kernel
theorem dX12_keepBindings_31 : decode cX12_keepBindings 31 = .ok (.iload_n 1, 1) := by decide +kernel
theorem dX12_keepBindings_32 : decode cX12_keepBindings 32 = .ok (.iload 4, 2) := by decide +kernel
theorem dX12_keepBindings_34 : decode cX12_keepBindings 34 = .ok (.invokevirtual 545, 3) := by decide +kernel
theorem dX12_keepBindings_37 : decode cX12_keepBindings 37 = .ok (.istore 5, 2) := by decide +kernel
theorem dX12_keepBindings_39 : decode cX12_keepBindings 39 = .ok (.aload_n 0, 1) := by decide +kernel
theorem dX12_keepBindings_40 : decode cX12_keepBindings 40 = .ok (.getfield 119, 3) := by decide +kernel
theorem dX12_keepBindings_43 : decode cX12_keepBindings 43 = .ok (.iload 5, 2) := by decide +kernel
theorem dX12_keepBindings_45 : decode cX12_keepBindings 45 = .ok (.iaload, 1) := by decide +kernel
theorem dX12_keepBindings_46 : decode cX12_keepBindings 46 = .ok (.bipush 13, 2) := by decide +kernel
theorem dX12_keepBindings_48 : decode cX12_keepBindings 48 = .ok (.if_icmp .ne 9, 3) := by decide +kernel
theorem dX12_keepBindings_51 : decode cX12_keepBindings 51 = .ok (.ldc2_w 543, 3) := by decide +kernel
theorem dX12_keepBindings_54 : decode cX12_keepBindings 54 = .ok (.goto 9, 3) := by decide +kernel
theorem dX12_keepBindings_57 : decode cX12_keepBindings 57 = .ok (.aload_n 0, 1) := by decide +kernel
theorem dX12_keepBindings_58 : decode cX12_keepBindings 58 = .ok (.iload 5, 2) := by decide +kernel
theorem dX12_keepBindings_60 : decode cX12_keepBindings 60 = .ok (.invokevirtual 666, 3) := by decide +kernel
theorem dX12_keepBindings_63 : decode cX12_keepBindings 63 = .ok (.lstore 6, 2) := by decide +kernel
theorem dX12_keepBindings_65 : decode cX12_keepBindings 65 = .ok (.lload 6, 2) := by decide +kernel
theorem dX12_keepBindings_67 : decode cX12_keepBindings 67 = .ok (.lconst 0, 1) := by decide +kernel
theorem dX12_keepBindings_68 : decode cX12_keepBindings 68 = .ok (.lcmp, 1) := by decide +kernel
theorem dX12_keepBindings_69 : decode cX12_keepBindings 69 = .ok (.ifCond .ge 12, 3) := by decide +kernel
theorem dX12_keepBindings_72 : decode cX12_keepBindings 72 = .ok (.aload_n 0, 1) := by decide +kernel
theorem dX12_keepBindings_73 : decode cX12_keepBindings 73 = .ok (.iload 5, 2) := by decide +kernel
theorem dX12_keepBindings_75 : decode cX12_keepBindings 75 = .ok (.invokevirtual 670, 3) := by decide +kernel
theorem dX12_keepBindings_78 : decode cX12_keepBindings 78 = .ok (.goto 4, 3) := by decide +kernel
theorem dX12_keepBindings_81 : decode cX12_keepBindings 81 = .ok (.iconst 0, 1) := by decide +kernel
theorem dX12_keepBindings_82 : decode cX12_keepBindings 82 = .ok (.istore 8, 2) := by decide +kernel
theorem dX12_keepBindings_84 : decode cX12_keepBindings 84 = .ok (.aload_n 0, 1) := by decide +kernel
theorem dX12_keepBindings_85 : decode cX12_keepBindings 85 = .ok (.getfield 233, 3) := by decide +kernel
theorem dX12_keepBindings_88 : decode cX12_keepBindings 88 = .ok (.aload_n 0, 1) := by decide +kernel
theorem dX12_keepBindings_89 : decode cX12_keepBindings 89 = .ok (.getfield 614, 3) := by decide +kernel
theorem dX12_keepBindings_92 : decode cX12_keepBindings 92 = .ok (.iload_n 3, 1) := by decide +kernel
theorem dX12_keepBindings_93 : decode cX12_keepBindings 93 = .ok (.iadd, 1) := by decide +kernel
theorem dX12_keepBindings_94 : decode cX12_keepBindings 94 = .ok (.iload 4, 2) := by decide +kernel
theorem dX12_keepBindings_96 : decode cX12_keepBindings 96 = .ok (.iadd, 1) := by decide +kernel
theorem dX12_keepBindings_97 : decode cX12_keepBindings 97 = .ok (.lload 6, 2) := by decide +kernel
theorem dX12_keepBindings_99 : decode cX12_keepBindings 99 = .ok (.lconst 0, 1) := by decide +kernel
theorem dX12_keepBindings_100 : decode cX12_keepBindings 100 = .ok (.lcmp, 1) := by decide +kernel
theorem dX12_keepBindings_101 : decode cX12_keepBindings 101 = .ok (.ifCond .ge 12, 3) := by decide +kernel
theorem dX12_keepBindings_104 : decode cX12_keepBindings 104 = .ok (.iconst 3, 1) := by decide +kernel
theorem dX12_keepBindings_105 : decode cX12_keepBindings 105 = .ok (.iload 8, 2) := by decide +kernel
theorem dX12_keepBindings_107 : decode cX12_keepBindings 107 = .ok (.invokestatic 650, 3) := by decide +kernel
theorem dX12_keepBindings_110 : decode cX12_keepBindings 110 = .ok (.goto 5, 3) := by decide +kernel
theorem dX12_keepBindings_113 : decode cX12_keepBindings 113 = .ok (.lload 6, 2) := by decide +kernel
theorem dX12_keepBindings_115 : decode cX12_keepBindings 115 = .ok (.lastore, 1) := by decide +kernel
theorem dX12_keepBindings_116 : decode cX12_keepBindings 116 = .ok (.iinc 4 1, 3) := by decide +kernel
theorem dX12_keepBindings_119 : decode cX12_keepBindings 119 = .ok (.goto (-102), 3) := by decide +kernel
theorem dX12_keepBindings_122 : decode cX12_keepBindings 122 = .ok (.iconst 0, 1) := by decide +kernel
theorem dX12_keepBindings_123 : decode cX12_keepBindings 123 = .ok (.istore 4, 2) := by decide +kernel
theorem dX12_keepBindings_125 : decode cX12_keepBindings 125 = .ok (.iload 4, 2) := by decide +kernel
theorem dX12_keepBindings_127 : decode cX12_keepBindings 127 = .ok (.iload_n 2, 1) := by decide +kernel
theorem dX12_keepBindings_128 : decode cX12_keepBindings 128 = .ok (.if_icmp .ge 92, 3) := by decide +kernel
theorem dX12_keepBindings_131 : decode cX12_keepBindings 131 = .ok (.aload_n 0, 1) := by decide +kernel
theorem dX12_keepBindings_132 : decode cX12_keepBindings 132 = .ok (.getfield 605, 3) := by decide +kernel
theorem dX12_keepBindings_135 : decode cX12_keepBindings 135 = .ok (.ifCond .ne 85, 3) := by decide +kernel
theorem dX12_keepBindings_138 : decode cX12_keepBindings 138 = .ok (.aload_n 0, 1) := by decide +kernel
theorem dX12_keepBindings_139 : decode cX12_keepBindings 139 = .ok (.iload_n 1, 1) := by decide +kernel
theorem dX12_keepBindings_140 : decode cX12_keepBindings 140 = .ok (.iload 4, 2) := by decide +kernel
theorem dX12_keepBindings_142 : decode cX12_keepBindings 142 = .ok (.invokevirtual 545, 3) := by decide +kernel
theorem dX12_keepBindings_145 : decode cX12_keepBindings 145 = .ok (.istore 5, 2) := by decide +kernel
theorem dX12_keepBindings_147 : decode cX12_keepBindings 147 = .ok (.aload_n 0, 1) := by decide +kernel
theorem dX12_keepBindings_148 : decode cX12_keepBindings 148 = .ok (.getfield 119, 3) := by decide +kernel
theorem dX12_keepBindings_151 : decode cX12_keepBindings 151 = .ok (.iload 5, 2) := by decide +kernel
theorem dX12_keepBindings_153 : decode cX12_keepBindings 153 = .ok (.iaload, 1) := by decide +kernel
theorem dX12_keepBindings_154 : decode cX12_keepBindings 154 = .ok (.bipush 13, 2) := by decide +kernel
theorem dX12_keepBindings_156 : decode cX12_keepBindings 156 = .ok (.if_icmp .eq 14, 3) := by decide +kernel
theorem dX12_keepBindings_159 : decode cX12_keepBindings 159 = .ok (.aload_n 0, 1) := by decide +kernel
theorem dX12_keepBindings_160 : decode cX12_keepBindings 160 = .ok (.iload 5, 2) := by decide +kernel
theorem dX12_keepBindings_162 : decode cX12_keepBindings 162 = .ok (.invokevirtual 666, 3) := by decide +kernel
theorem dX12_keepBindings_165 : decode cX12_keepBindings 165 = .ok (.lconst 0, 1) := by decide +kernel
theorem dX12_keepBindings_166 : decode cX12_keepBindings 166 = .ok (.lcmp, 1) := by decide +kernel
theorem dX12_keepBindings_167 : decode cX12_keepBindings 167 = .ok (.ifCond .ge 7, 3) := by decide +kernel
theorem dX12_keepBindings_170 : decode cX12_keepBindings 170 = .ok (.iconst 1, 1) := by decide +kernel
theorem dX12_keepBindings_171 : decode cX12_keepBindings 171 = .ok (.goto 4, 3) := by decide +kernel
theorem dX12_keepBindings_174 : decode cX12_keepBindings 174 = .ok (.iconst 0, 1) := by decide +kernel
theorem dX12_keepBindings_175 : decode cX12_keepBindings 175 = .ok (.istore 6, 2) := by decide +kernel
theorem dX12_keepBindings_177 : decode cX12_keepBindings 177 = .ok (.iload 6, 2) := by decide +kernel
theorem dX12_keepBindings_179 : decode cX12_keepBindings 179 = .ok (.ifCond .eq 35, 3) := by decide +kernel
theorem dX12_keepBindings_182 : decode cX12_keepBindings 182 = .ok (.aload_n 0, 1) := by decide +kernel
theorem dX12_keepBindings_183 : decode cX12_keepBindings 183 = .ok (.iconst 0, 1) := by decide +kernel
theorem dX12_keepBindings_184 : decode cX12_keepBindings 184 = .ok (.putfield 663, 3) := by decide +kernel
theorem dX12_keepBindings_187 : decode cX12_keepBindings 187 = .ok (.aload_n 0, 1) := by decide +kernel
theorem dX12_keepBindings_188 : decode cX12_keepBindings 188 = .ok (.iload 5, 2) := by decide +kernel
theorem dX12_keepBindings_190 : decode cX12_keepBindings 190 = .ok (.aload_n 0, 1) := by decide +kernel
theorem dX12_keepBindings_191 : decode cX12_keepBindings 191 = .ok (.getfield 233, 3) := by decide +kernel
theorem dX12_keepBindings_194 : decode cX12_keepBindings 194 = .ok (.aload_n 0, 1) := by decide +kernel
theorem dX12_keepBindings_195 : decode cX12_keepBindings 195 = .ok (.getfield 614, 3) := by decide +kernel
theorem dX12_keepBindings_198 : decode cX12_keepBindings 198 = .ok (.iload_n 3, 1) := by decide +kernel
theorem dX12_keepBindings_199 : decode cX12_keepBindings 199 = .ok (.iadd, 1) := by decide +kernel
theorem dX12_keepBindings_200 : decode cX12_keepBindings 200 = .ok (.iload 4, 2) := by decide +kernel
theorem dX12_keepBindings_202 : decode cX12_keepBindings 202 = .ok (.iadd, 1) := by decide +kernel
theorem dX12_keepBindings_203 : decode cX12_keepBindings 203 = .ok (.laload, 1) := by decide +kernel
theorem dX12_keepBindings_204 : decode cX12_keepBindings 204 = .ok (.invokestatic 679, 3) := by decide +kernel
theorem dX12_keepBindings_207 : decode cX12_keepBindings 207 = .ok (.invokevirtual 673, 3) := by decide +kernel
theorem dX12_keepBindings_210 : decode cX12_keepBindings 210 = .ok (.aload_n 0, 1) := by decide +kernel
theorem dX12_keepBindings_211 : decode cX12_keepBindings 211 = .ok (.invokevirtual 676, 3) := by decide +kernel
theorem dX12_keepBindings_214 : decode cX12_keepBindings 214 = .ok (.iinc 4 1, 3) := by decide +kernel
theorem dX12_keepBindings_217 : decode cX12_keepBindings 217 = .ok (.goto (-92), 3) := by decide +kernel
theorem dX12_keepBindings_220 : decode cX12_keepBindings 220 = .ok (.return_, 1) := by decide +kernel
theorem dX12_kindOf_0 : decode cX12_kindOf 0 = .ok (.lload_n 0, 1) := by decide +kernel
theorem dX12_kindOf_1 : decode cX12_kindOf 1 = .ok (.bipush 32, 2) := by decide +kernel
theorem dX12_kindOf_3 : decode cX12_kindOf 3 = .ok (.lshr, 1) := by decide +kernel
theorem dX12_kindOf_4 : decode cX12_kindOf 4 = .ok (.l2i, 1) := by decide +kernel
theorem dX12_kindOf_5 : decode cX12_kindOf 5 = .ok (.ireturn, 1) := by decide +kernel
theorem dX12_make_0 : decode cX12_make 0 = .ok (.aload_n 0, 1) := by decide +kernel
theorem dX12_make_1 : decode cX12_make 1 = .ok (.getfield 119, 3) := by decide +kernel
theorem dX12_make_4 : decode cX12_make 4 = .ok (.iload_n 1, 1) := by decide +kernel
theorem dX12_make_5 : decode cX12_make 5 = .ok (.iaload, 1) := by decide +kernel
theorem dX12_make_6 : decode cX12_make 6 = .ok (.bipush 7, 2) := by decide +kernel
theorem dX12_make_8 : decode cX12_make 8 = .ok (.if_icmp .ne 29, 3) := by decide +kernel
theorem dX12_make_11 : decode cX12_make 11 = .ok (.aload_n 0, 1) := by decide +kernel
theorem dX12_make_12 : decode cX12_make 12 = .ok (.iconst 0, 1) := by decide +kernel
theorem dX12_make_13 : decode cX12_make 13 = .ok (.aload_n 0, 1) := by decide +kernel
theorem dX12_make_14 : decode cX12_make 14 = .ok (.getfield 122, 3) := by decide +kernel
theorem dX12_make_17 : decode cX12_make 17 = .ok (.iload_n 1, 1) := by decide +kernel
theorem dX12_make_18 : decode cX12_make 18 = .ok (.iaload, 1) := by decide +kernel
theorem dX12_make_19 : decode cX12_make 19 = .ok (.aload_n 0, 1) := by decide +kernel
theorem dX12_make_20 : decode cX12_make 20 = .ok (.getfield 128, 3) := by decide +kernel
theorem dX12_make_23 : decode cX12_make 23 = .ok (.iload_n 1, 1) := by decide +kernel
theorem dX12_make_24 : decode cX12_make 24 = .ok (.iaload, 1) := by decide +kernel
theorem dX12_make_25 : decode cX12_make 25 = .ok (.iconst 1, 1) := by decide +kernel
theorem dX12_make_26 : decode cX12_make 26 = .ok (.aload_n 0, 1) := by decide +kernel
theorem dX12_make_27 : decode cX12_make 27 = .ok (.getfield 128, 3) := by decide +kernel
theorem dX12_make_30 : decode cX12_make 30 = .ok (.iload_n 1, 1) := by decide +kernel
theorem dX12_make_31 : decode cX12_make 31 = .ok (.iaload, 1) := by decide +kernel
theorem dX12_make_32 : decode cX12_make 32 = .ok (.iadd, 1) := by decide +kernel
theorem dX12_make_33 : decode cX12_make 33 = .ok (.invokevirtual 653, 3) := by decide +kernel
theorem dX12_make_36 : decode cX12_make 36 = .ok (.ireturn, 1) := by decide +kernel
theorem dX12_make_37 : decode cX12_make 37 = .ok (.aload_n 0, 1) := by decide +kernel
theorem dX12_make_38 : decode cX12_make 38 = .ok (.iload_n 1, 1) := by decide +kernel
theorem dX12_make_39 : decode cX12_make 39 = .ok (.invokevirtual 657, 3) := by decide +kernel
theorem dX12_make_42 : decode cX12_make 42 = .ok (.ifCond .eq 36, 3) := by decide +kernel
theorem dX12_make_45 : decode cX12_make 45 = .ok (.aload_n 0, 1) := by decide +kernel
theorem dX12_make_46 : decode cX12_make 46 = .ok (.iconst 1, 1) := by decide +kernel
theorem dX12_make_47 : decode cX12_make 47 = .ok (.aload_n 0, 1) := by decide +kernel
theorem dX12_make_48 : decode cX12_make 48 = .ok (.getfield 122, 3) := by decide +kernel
theorem dX12_make_51 : decode cX12_make 51 = .ok (.aload_n 0, 1) := by decide +kernel
theorem dX12_make_52 : decode cX12_make 52 = .ok (.iload_n 1, 1) := by decide +kernel
theorem dX12_make_53 : decode cX12_make 53 = .ok (.iconst 0, 1) := by decide +kernel
theorem dX12_make_54 : decode cX12_make 54 = .ok (.invokevirtual 545, 3) := by decide +kernel
theorem dX12_make_57 : decode cX12_make 57 = .ok (.iaload, 1) := by decide +kernel
theorem dX12_make_58 : decode cX12_make 58 = .ok (.aload_n 0, 1) := by decide +kernel
theorem dX12_make_59 : decode cX12_make 59 = .ok (.getfield 128, 3) := by decide +kernel
theorem dX12_make_62 : decode cX12_make 62 = .ok (.iload_n 1, 1) := by decide +kernel
theorem dX12_make_63 : decode cX12_make 63 = .ok (.iaload, 1) := by decide +kernel
theorem dX12_make_64 : decode cX12_make 64 = .ok (.iconst 1, 1) := by decide +kernel
theorem dX12_make_65 : decode cX12_make 65 = .ok (.isub, 1) := by decide +kernel
theorem dX12_make_66 : decode cX12_make 66 = .ok (.iconst 1, 1) := by decide +kernel
theorem dX12_make_67 : decode cX12_make 67 = .ok (.aload_n 0, 1) := by decide +kernel
theorem dX12_make_68 : decode cX12_make 68 = .ok (.getfield 128, 3) := by decide +kernel
theorem dX12_make_71 : decode cX12_make 71 = .ok (.iload_n 1, 1) := by decide +kernel
theorem dX12_make_72 : decode cX12_make 72 = .ok (.iaload, 1) := by decide +kernel
theorem dX12_make_73 : decode cX12_make 73 = .ok (.iadd, 1) := by decide +kernel
theorem dX12_make_74 : decode cX12_make 74 = .ok (.invokevirtual 653, 3) := by decide +kernel
theorem dX12_make_77 : decode cX12_make 77 = .ok (.ireturn, 1) := by decide +kernel
theorem dX12_make_78 : decode cX12_make 78 = .ok (.aload_n 0, 1) := by decide +kernel
theorem dX12_make_79 : decode cX12_make 79 = .ok (.getfield 144, 3) := by decide +kernel
theorem dX12_make_82 : decode cX12_make 82 = .ok (.iload_n 1, 1) := by decide +kernel
theorem dX12_make_83 : decode cX12_make 83 = .ok (.laload, 1) := by decide +kernel
theorem dX12_make_84 : decode cX12_make 84 = .ok (.invokestatic 660, 3) := by decide +kernel
theorem dX12_make_87 : decode cX12_make 87 = .ok (.istore_n 2, 1) := by decide +kernel
theorem dX12_make_88 : decode cX12_make 88 = .ok (.aload_n 0, 1) := by decide +kernel
theorem dX12_make_89 : decode cX12_make 89 = .ok (.iconst 2, 1) := by decide +kernel
theorem dX12_make_90 : decode cX12_make 90 = .ok (.iload_n 1, 1) := by decide +kernel
theorem dX12_make_91 : decode cX12_make 91 = .ok (.iload_n 2, 1) := by decide +kernel
theorem dX12_make_92 : decode cX12_make 92 = .ok (.iconst 1, 1) := by decide +kernel
theorem dX12_make_93 : decode cX12_make 93 = .ok (.iload_n 2, 1) := by decide +kernel
theorem dX12_make_94 : decode cX12_make 94 = .ok (.iadd, 1) := by decide +kernel
theorem dX12_make_95 : decode cX12_make 95 = .ok (.invokevirtual 653, 3) := by decide +kernel
theorem dX12_make_98 : decode cX12_make 98 = .ok (.ireturn, 1) := by decide +kernel
theorem dX12_newCell_0 : decode cX12_newCell 0 = .ok (.aload_n 0, 1) := by decide +kernel
theorem dX12_newCell_1 : decode cX12_newCell 1 = .ok (.getfield 626, 3) := by decide +kernel
theorem dX12_newCell_4 : decode cX12_newCell 4 = .ok (.iload 4, 2) := by decide +kernel
theorem dX12_newCell_6 : decode cX12_newCell 6 = .ok (.iadd, 1) := by decide +kernel
theorem dX12_newCell_7 : decode cX12_newCell 7 = .ok (.sipush 4000, 3) := by decide +kernel
theorem dX12_newCell_10 : decode cX12_newCell 10 = .ok (.if_icmp .le 11, 3) := by decide +kernel
theorem dX12_newCell_13 : decode cX12_newCell 13 = .ok (.aload_n 0, 1) := by decide +kernel
theorem dX12_newCell_14 : decode cX12_newCell 14 = .ok (.iconst 3, 1) := by decide +kernel
theorem dX12_newCell_15 : decode cX12_newCell 15 = .ok (.iconst 2, 1) := by decide +kernel
theorem dX12_newCell_16 : decode cX12_newCell 16 = .ok (.invokevirtual 629, 3) := by decide +kernel
theorem dX12_newCell_19 : decode cX12_newCell 19 = .ok (.iconst (-1), 1) := by decide +kernel
theorem dX12_newCell_20 : decode cX12_newCell 20 = .ok (.ireturn, 1) := by decide +kernel
theorem dX12_newCell_21 : decode cX12_newCell 21 = .ok (.aload_n 0, 1) := by decide +kernel
theorem dX12_newCell_22 : decode cX12_newCell 22 = .ok (.dup, 1) := by decide +kernel
theorem dX12_newCell_23 : decode cX12_newCell 23 = .ok (.getfield 626, 3) := by decide +kernel
theorem dX12_newCell_26 : decode cX12_newCell 26 = .ok (.iload 4, 2) := by decide +kernel
theorem dX12_newCell_28 : decode cX12_newCell 28 = .ok (.iadd, 1) := by decide +kernel
theorem dX12_newCell_29 : decode cX12_newCell 29 = .ok (.putfield 626, 3) := by decide +kernel
theorem dX12_newCell_32 : decode cX12_newCell 32 = .ok (.aload_n 0, 1) := by decide +kernel
theorem dX12_newCell_33 : decode cX12_newCell 33 = .ok (.dup, 1) := by decide +kernel
theorem dX12_newCell_34 : decode cX12_newCell 34 = .ok (.getfield 632, 3) := by decide +kernel
theorem dX12_newCell_37 : decode cX12_newCell 37 = .ok (.iload 4, 2) := by decide +kernel
theorem dX12_newCell_39 : decode cX12_newCell 39 = .ok (.iadd, 1) := by decide +kernel
theorem dX12_newCell_40 : decode cX12_newCell 40 = .ok (.putfield 632, 3) := by decide +kernel
theorem dX12_newCell_43 : decode cX12_newCell 43 = .ok (.aload_n 0, 1) := by decide +kernel
theorem dX12_newCell_44 : decode cX12_newCell 44 = .ok (.getfield 635, 3) := by decide +kernel
theorem dX12_newCell_47 : decode cX12_newCell 47 = .ok (.istore 5, 2) := by decide +kernel
theorem dX12_newCell_49 : decode cX12_newCell 49 = .ok (.aload_n 0, 1) := by decide +kernel
theorem dX12_newCell_50 : decode cX12_newCell 50 = .ok (.dup, 1) := by decide +kernel
theorem dX12_newCell_51 : decode cX12_newCell 51 = .ok (.getfield 635, 3) := by decide +kernel
theorem dX12_newCell_54 : decode cX12_newCell 54 = .ok (.iconst 1, 1) := by decide +kernel
theorem dX12_newCell_55 : decode cX12_newCell 55 = .ok (.iadd, 1) := by decide +kernel
theorem dX12_newCell_56 : decode cX12_newCell 56 = .ok (.putfield 635, 3) := by decide +kernel
theorem dX12_newCell_59 : decode cX12_newCell 59 = .ok (.aload_n 0, 1) := by decide +kernel
theorem dX12_newCell_60 : decode cX12_newCell 60 = .ok (.getfield 194, 3) := by decide +kernel
theorem dX12_newCell_63 : decode cX12_newCell 63 = .ok (.iload 5, 2) := by decide +kernel
theorem dX12_newCell_65 : decode cX12_newCell 65 = .ok (.iload_n 1, 1) := by decide +kernel
theorem dX12_newCell_66 : decode cX12_newCell 66 = .ok (.iastore, 1) := by decide +kernel
theorem dX12_newCell_67 : decode cX12_newCell 67 = .ok (.aload_n 0, 1) := by decide +kernel
theorem dX12_newCell_68 : decode cX12_newCell 68 = .ok (.getfield 197, 3) := by decide +kernel
theorem dX12_newCell_71 : decode cX12_newCell 71 = .ok (.iload 5, 2) := by decide +kernel
theorem dX12_newCell_73 : decode cX12_newCell 73 = .ok (.iload_n 2, 1) := by decide +kernel
theorem dX12_newCell_74 : decode cX12_newCell 74 = .ok (.iastore, 1) := by decide +kernel
theorem dX12_newCell_75 : decode cX12_newCell 75 = .ok (.aload_n 0, 1) := by decide +kernel
theorem dX12_newCell_76 : decode cX12_newCell 76 = .ok (.getfield 203, 3) := by decide +kernel
theorem dX12_newCell_79 : decode cX12_newCell 79 = .ok (.iload 5, 2) := by decide +kernel
theorem dX12_newCell_81 : decode cX12_newCell 81 = .ok (.aload_n 0, 1) := by decide +kernel
theorem dX12_newCell_82 : decode cX12_newCell 82 = .ok (.getfield 638, 3) := by decide +kernel
theorem dX12_newCell_85 : decode cX12_newCell 85 = .ok (.iastore, 1) := by decide +kernel
theorem dX12_newCell_86 : decode cX12_newCell 86 = .ok (.aload_n 0, 1) := by decide +kernel
theorem dX12_newCell_87 : decode cX12_newCell 87 = .ok (.getfield 206, 3) := by decide +kernel
theorem dX12_newCell_90 : decode cX12_newCell 90 = .ok (.iload 5, 2) := by decide +kernel
theorem dX12_newCell_92 : decode cX12_newCell 92 = .ok (.iload_n 3, 1) := by decide +kernel
theorem dX12_newCell_93 : decode cX12_newCell 93 = .ok (.iastore, 1) := by decide +kernel
theorem dX12_newCell_94 : decode cX12_newCell 94 = .ok (.aload_n 0, 1) := by decide +kernel
theorem dX12_newCell_95 : decode cX12_newCell 95 = .ok (.dup, 1) := by decide +kernel
theorem dX12_newCell_96 : decode cX12_newCell 96 = .ok (.getfield 638, 3) := by decide +kernel
theorem dX12_newCell_99 : decode cX12_newCell 99 = .ok (.iload_n 3, 1) := by decide +kernel
theorem dX12_newCell_100 : decode cX12_newCell 100 = .ok (.iadd, 1) := by decide +kernel
theorem dX12_newCell_101 : decode cX12_newCell 101 = .ok (.putfield 638, 3) := by decide +kernel
theorem dX12_newCell_104 : decode cX12_newCell 104 = .ok (.aload_n 0, 1) := by decide +kernel
theorem dX12_newCell_105 : decode cX12_newCell 105 = .ok (.dup, 1) := by decide +kernel
theorem dX12_newCell_106 : decode cX12_newCell 106 = .ok (.getfield 641, 3) := by decide +kernel
theorem dX12_newCell_109 : decode cX12_newCell 109 = .ok (.iload_n 1, 1) := by decide +kernel
theorem dX12_newCell_110 : decode cX12_newCell 110 = .ok (.iconst 2, 1) := by decide +kernel
theorem dX12_newCell_111 : decode cX12_newCell 111 = .ok (.if_icmp .ne 7, 3) := by decide +kernel
theorem dX12_newCell_114 : decode cX12_newCell 114 = .ok (.iconst 1, 1) := by decide +kernel
theorem dX12_newCell_115 : decode cX12_newCell 115 = .ok (.goto 4, 3) := by decide +kernel
theorem dX12_newCell_118 : decode cX12_newCell 118 = .ok (.iconst 0, 1) := by decide +kernel
theorem dX12_newCell_119 : decode cX12_newCell 119 = .ok (.iadd, 1) := by decide +kernel
theorem dX12_newCell_120 : decode cX12_newCell 120 = .ok (.putfield 641, 3) := by decide +kernel
theorem dX12_newCell_123 : decode cX12_newCell 123 = .ok (.aload_n 0, 1) := by decide +kernel
theorem dX12_newCell_124 : decode cX12_newCell 124 = .ok (.dup, 1) := by decide +kernel
theorem dX12_newCell_125 : decode cX12_newCell 125 = .ok (.getfield 644, 3) := by decide +kernel
theorem dX12_newCell_128 : decode cX12_newCell 128 = .ok (.iload_n 1, 1) := by decide +kernel
theorem dX12_newCell_129 : decode cX12_newCell 129 = .ok (.iconst 1, 1) := by decide +kernel
theorem dX12_newCell_130 : decode cX12_newCell 130 = .ok (.if_icmp .ne 7, 3) := by decide +kernel
theorem dX12_newCell_133 : decode cX12_newCell 133 = .ok (.iconst 1, 1) := by decide +kernel
theorem dX12_newCell_134 : decode cX12_newCell 134 = .ok (.goto 4, 3) := by decide +kernel
theorem dX12_newCell_137 : decode cX12_newCell 137 = .ok (.iconst 0, 1) := by decide +kernel
theorem dX12_newCell_138 : decode cX12_newCell 138 = .ok (.iadd, 1) := by decide +kernel
theorem dX12_newCell_139 : decode cX12_newCell 139 = .ok (.putfield 644, 3) := by decide +kernel
theorem dX12_newCell_142 : decode cX12_newCell 142 = .ok (.aload_n 0, 1) := by decide +kernel
theorem dX12_newCell_143 : decode cX12_newCell 143 = .ok (.dup, 1) := by decide +kernel
theorem dX12_newCell_144 : decode cX12_newCell 144 = .ok (.getfield 647, 3) := by decide +kernel
theorem dX12_newCell_147 : decode cX12_newCell 147 = .ok (.iload_n 1, 1) := by decide +kernel
theorem dX12_newCell_148 : decode cX12_newCell 148 = .ok (.ifCond .ne 7, 3) := by decide +kernel
theorem dX12_newCell_151 : decode cX12_newCell 151 = .ok (.iconst 1, 1) := by decide +kernel
theorem dX12_newCell_152 : decode cX12_newCell 152 = .ok (.goto 4, 3) := by decide +kernel
theorem dX12_newCell_155 : decode cX12_newCell 155 = .ok (.iconst 0, 1) := by decide +kernel
theorem dX12_newCell_156 : decode cX12_newCell 156 = .ok (.iadd, 1) := by decide +kernel
theorem dX12_newCell_157 : decode cX12_newCell 157 = .ok (.putfield 647, 3) := by decide +kernel
theorem dX12_newCell_160 : decode cX12_newCell 160 = .ok (.iload 5, 2) := by decide +kernel
theorem dX12_newCell_162 : decode cX12_newCell 162 = .ok (.ireturn, 1) := by decide +kernel
theorem dX12_of_0 : decode cX12_of 0 = .ok (.lload_n 0, 1) := by decide +kernel
theorem dX12_of_1 : decode cX12_of 1 = .ok (.l2i, 1) := by decide +kernel
theorem dX12_of_2 : decode cX12_of 2 = .ok (.ireturn, 1) := by decide +kernel
theorem dX12_ones_0 : decode cX12_ones 0 = .ok (.iconst 0, 1) := by decide +kernel
theorem dX12_ones_1 : decode cX12_ones 1 = .ok (.istore_n 2, 1) := by decide +kernel
theorem dX12_ones_2 : decode cX12_ones 2 = .ok (.lload_n 0, 1) := by decide +kernel
theorem dX12_ones_3 : decode cX12_ones 3 = .ok (.lstore_n 3, 1) := by decide +kernel
theorem dX12_ones_4 : decode cX12_ones 4 = .ok (.lload_n 3, 1) := by decide +kernel
theorem dX12_ones_5 : decode cX12_ones 5 = .ok (.lconst 0, 1) := by decide +kernel
theorem dX12_ones_6 : decode cX12_ones 6 = .ok (.lcmp, 1) := by decide +kernel
theorem dX12_ones_7 : decode cX12_ones 7 = .ok (.ifCond .eq 15, 3) := by decide +kernel
theorem dX12_ones_10 : decode cX12_ones 10 = .ok (.iinc 2 1, 3) := by decide +kernel
theorem dX12_ones_13 : decode cX12_ones 13 = .ok (.lload_n 3, 1) := by decide +kernel
theorem dX12_ones_14 : decode cX12_ones 14 = .ok (.lload_n 3, 1) := by decide +kernel
theorem dX12_ones_15 : decode cX12_ones 15 = .ok (.lconst 1, 1) := by decide +kernel
theorem dX12_ones_16 : decode cX12_ones 16 = .ok (.lsub, 1) := by decide +kernel
theorem dX12_ones_17 : decode cX12_ones 17 = .ok (.land, 1) := by decide +kernel
theorem dX12_ones_18 : decode cX12_ones 18 = .ok (.lstore_n 3, 1) := by decide +kernel
theorem dX12_ones_19 : decode cX12_ones 19 = .ok (.goto (-15), 3) := by decide +kernel
theorem dX12_ones_22 : decode cX12_ones 22 = .ok (.iload_n 2, 1) := by decide +kernel
theorem dX12_ones_23 : decode cX12_ones 23 = .ok (.ireturn, 1) := by decide +kernel
theorem dX12_plain_0 : decode cX12_plain 0 = .ok (.aload_n 0, 1) := by decide +kernel
theorem dX12_plain_1 : decode cX12_plain 1 = .ok (.getfield 119, 3) := by decide +kernel
theorem dX12_plain_4 : decode cX12_plain 4 = .ok (.iload_n 1, 1) := by decide +kernel
theorem dX12_plain_5 : decode cX12_plain 5 = .ok (.iaload, 1) := by decide +kernel
theorem dX12_plain_6 : decode cX12_plain 6 = .ok (.tableswitch 116 9 13 #[45, 34, 116, 56, 99], 34) := by decide +kernel
theorem dX12_plain_40 : decode cX12_plain 40 = .ok (.iconst 0, 1) := by decide +kernel
theorem dX12_plain_41 : decode cX12_plain 41 = .ok (.aload_n 0, 1) := by decide +kernel
theorem dX12_plain_42 : decode cX12_plain 42 = .ok (.getfield 122, 3) := by decide +kernel
theorem dX12_plain_45 : decode cX12_plain 45 = .ok (.iload_n 1, 1) := by decide +kernel
theorem dX12_plain_46 : decode cX12_plain 46 = .ok (.iaload, 1) := by decide +kernel
theorem dX12_plain_47 : decode cX12_plain 47 = .ok (.invokestatic 650, 3) := by decide +kernel
theorem dX12_plain_50 : decode cX12_plain 50 = .ok (.lreturn, 1) := by decide +kernel
theorem dX12_plain_51 : decode cX12_plain 51 = .ok (.iconst 2, 1) := by decide +kernel
theorem dX12_plain_52 : decode cX12_plain 52 = .ok (.aload_n 0, 1) := by decide +kernel
theorem dX12_plain_53 : decode cX12_plain 53 = .ok (.getfield 122, 3) := by decide +kernel
theorem dX12_plain_56 : decode cX12_plain 56 = .ok (.iload_n 1, 1) := by decide +kernel
theorem dX12_plain_57 : decode cX12_plain 57 = .ok (.iaload, 1) := by decide +kernel
theorem dX12_plain_58 : decode cX12_plain 58 = .ok (.invokestatic 650, 3) := by decide +kernel
theorem dX12_plain_61 : decode cX12_plain 61 = .ok (.lreturn, 1) := by decide +kernel
theorem dX12_plain_62 : decode cX12_plain 62 = .ok (.aload_n 0, 1) := by decide +kernel
theorem dX12_plain_63 : decode cX12_plain 63 = .ok (.getfield 171, 3) := by decide +kernel
theorem dX12_plain_66 : decode cX12_plain 66 = .ok (.aload_n 0, 1) := by decide +kernel
theorem dX12_plain_67 : decode cX12_plain 67 = .ok (.getfield 122, 3) := by decide +kernel
theorem dX12_plain_70 : decode cX12_plain 70 = .ok (.iload_n 1, 1) := by decide +kernel
theorem dX12_plain_71 : decode cX12_plain 71 = .ok (.iaload, 1) := by decide +kernel
theorem dX12_plain_72 : decode cX12_plain 72 = .ok (.iaload, 1) := by decide +kernel
theorem dX12_plain_73 : decode cX12_plain 73 = .ok (.ifCond .le 16, 3) := by decide +kernel
theorem dX12_plain_76 : decode cX12_plain 76 = .ok (.iconst 1, 1) := by decide +kernel
theorem dX12_plain_77 : decode cX12_plain 77 = .ok (.aload_n 0, 1) := by decide +kernel
theorem dX12_plain_78 : decode cX12_plain 78 = .ok (.getfield 122, 3) := by decide +kernel
theorem dX12_plain_81 : decode cX12_plain 81 = .ok (.iload_n 1, 1) := by decide +kernel
theorem dX12_plain_82 : decode cX12_plain 82 = .ok (.iaload, 1) := by decide +kernel
theorem dX12_plain_83 : decode cX12_plain 83 = .ok (.invokestatic 650, 3) := by decide +kernel
theorem dX12_plain_86 : decode cX12_plain 86 = .ok (.goto 18, 3) := by decide +kernel
theorem dX12_plain_89 : decode cX12_plain 89 = .ok (.iconst 3, 1) := by decide +kernel
theorem dX12_plain_90 : decode cX12_plain 90 = .ok (.aload_n 0, 1) := by decide +kernel
theorem dX12_plain_91 : decode cX12_plain 91 = .ok (.getfield 242, 3) := by decide +kernel
theorem dX12_plain_94 : decode cX12_plain 94 = .ok (.aload_n 0, 1) := by decide +kernel
theorem dX12_plain_95 : decode cX12_plain 95 = .ok (.getfield 122, 3) := by decide +kernel
theorem dX12_plain_98 : decode cX12_plain 98 = .ok (.iload_n 1, 1) := by decide +kernel
theorem dX12_plain_99 : decode cX12_plain 99 = .ok (.iaload, 1) := by decide +kernel
theorem dX12_plain_100 : decode cX12_plain 100 = .ok (.iaload, 1) := by decide +kernel
theorem dX12_plain_101 : decode cX12_plain 101 = .ok (.invokestatic 650, 3) := by decide +kernel
theorem dX12_plain_104 : decode cX12_plain 104 = .ok (.lreturn, 1) := by decide +kernel
theorem dX12_plain_105 : decode cX12_plain 105 = .ok (.aload_n 0, 1) := by decide +kernel
theorem dX12_plain_106 : decode cX12_plain 106 = .ok (.getfield 233, 3) := by decide +kernel
theorem dX12_plain_109 : decode cX12_plain 109 = .ok (.aload_n 0, 1) := by decide +kernel
theorem dX12_plain_110 : decode cX12_plain 110 = .ok (.getfield 614, 3) := by decide +kernel
theorem dX12_plain_113 : decode cX12_plain 113 = .ok (.aload_n 0, 1) := by decide +kernel
theorem dX12_plain_114 : decode cX12_plain 114 = .ok (.getfield 122, 3) := by decide +kernel
theorem dX12_plain_117 : decode cX12_plain 117 = .ok (.iload_n 1, 1) := by decide +kernel
theorem dX12_plain_118 : decode cX12_plain 118 = .ok (.iaload, 1) := by decide +kernel
theorem dX12_plain_119 : decode cX12_plain 119 = .ok (.iadd, 1) := by decide +kernel
theorem dX12_plain_120 : decode cX12_plain 120 = .ok (.laload, 1) := by decide +kernel
theorem dX12_plain_121 : decode cX12_plain 121 = .ok (.lreturn, 1) := by decide +kernel
theorem dX12_plain_122 : decode cX12_plain 122 = .ok (.ldc2_w 543, 3) := by decide +kernel
theorem dX12_plain_125 : decode cX12_plain 125 = .ok (.lreturn, 1) := by decide +kernel
theorem dX12_program_0 : decode cX12_program 0 = .ok (.aload_n 0, 1) := by decide +kernel
theorem dX12_program_1 : decode cX12_program 1 = .ok (.aload_n 0, 1) := by decide +kernel
theorem dX12_program_2 : decode cX12_program 2 = .ok (.getfield 336, 3) := by decide +kernel
theorem dX12_program_5 : decode cX12_program 5 = .ok (.sipush 20000, 3) := by decide +kernel
theorem dX12_program_8 : decode cX12_program 8 = .ok (.if_icmp .lt 7, 3) := by decide +kernel
theorem dX12_program_11 : decode cX12_program 11 = .ok (.iconst 1, 1) := by decide +kernel
theorem dX12_program_12 : decode cX12_program 12 = .ok (.goto 4, 3) := by decide +kernel
theorem dX12_program_15 : decode cX12_program 15 = .ok (.iconst 0, 1) := by decide +kernel
theorem dX12_program_16 : decode cX12_program 16 = .ok (.putfield 251, 3) := by decide +kernel
theorem dX12_program_19 : decode cX12_program 19 = .ok (.aload_n 0, 1) := by decide +kernel
theorem dX12_program_20 : decode cX12_program 20 = .ok (.getfield 251, 3) := by decide +kernel
theorem dX12_program_23 : decode cX12_program 23 = .ok (.ifCond .le 5, 3) := by decide +kernel
theorem dX12_program_26 : decode cX12_program 26 = .ok (.iconst 0, 1) := by decide +kernel
theorem dX12_program_27 : decode cX12_program 27 = .ok (.ireturn, 1) := by decide +kernel
theorem dX12_program_28 : decode cX12_program 28 = .ok (.aload_n 0, 1) := by decide +kernel
theorem dX12_program_29 : decode cX12_program 29 = .ok (.iconst 0, 1) := by decide +kernel
theorem dX12_program_30 : decode cX12_program 30 = .ok (.putfield 570, 3) := by decide +kernel
theorem dX12_program_33 : decode cX12_program 33 = .ok (.aload_n 0, 1) := by decide +kernel
theorem dX12_program_34 : decode cX12_program 34 = .ok (.invokevirtual 573, 3) := by decide +kernel
theorem dX12_program_37 : decode cX12_program 37 = .ok (.aload_n 0, 1) := by decide +kernel
theorem dX12_program_38 : decode cX12_program 38 = .ok (.invokevirtual 576, 3) := by decide +kernel
theorem dX12_program_41 : decode cX12_program 41 = .ok (.aload_n 0, 1) := by decide +kernel
theorem dX12_program_42 : decode cX12_program 42 = .ok (.iconst 0, 1) := by decide +kernel
theorem dX12_program_43 : decode cX12_program 43 = .ok (.putfield 254, 3) := by decide +kernel
theorem dX12_program_46 : decode cX12_program 46 = .ok (.aload_n 0, 1) := by decide +kernel
theorem dX12_program_47 : decode cX12_program 47 = .ok (.getfield 311, 3) := by decide +kernel
theorem dX12_program_50 : decode cX12_program 50 = .ok (.ifCond .ne 11, 3) := by decide +kernel
theorem dX12_program_53 : decode cX12_program 53 = .ok (.aload_n 0, 1) := by decide +kernel
theorem dX12_program_54 : decode cX12_program 54 = .ok (.invokevirtual 579, 3) := by decide +kernel
theorem dX12_program_57 : decode cX12_program 57 = .ok (.aload_n 0, 1) := by decide +kernel
theorem dX12_program_58 : decode cX12_program 58 = .ok (.invokevirtual 582, 3) := by decide +kernel
theorem dX12_program_61 : decode cX12_program 61 = .ok (.aload_n 0, 1) := by decide +kernel
theorem dX12_program_62 : decode cX12_program 62 = .ok (.getfield 311, 3) := by decide +kernel
theorem dX12_program_65 : decode cX12_program 65 = .ok (.ifCond .ne 7, 3) := by decide +kernel
theorem dX12_program_68 : decode cX12_program 68 = .ok (.aload_n 0, 1) := by decide +kernel
theorem dX12_program_69 : decode cX12_program 69 = .ok (.invokevirtual 585, 3) := by decide +kernel
theorem dX12_program_72 : decode cX12_program 72 = .ok (.aload_n 0, 1) := by decide +kernel
theorem dX12_program_73 : decode cX12_program 73 = .ok (.getfield 311, 3) := by decide +kernel
theorem dX12_program_76 : decode cX12_program 76 = .ok (.ifCond .ne 7, 3) := by decide +kernel
theorem dX12_program_79 : decode cX12_program 79 = .ok (.aload_n 0, 1) := by decide +kernel
theorem dX12_program_80 : decode cX12_program 80 = .ok (.invokevirtual 588, 3) := by decide +kernel
theorem dX12_program_83 : decode cX12_program 83 = .ok (.aload_n 0, 1) := by decide +kernel
theorem dX12_program_84 : decode cX12_program 84 = .ok (.aload_n 0, 1) := by decide +kernel
theorem dX12_program_85 : decode cX12_program 85 = .ok (.getfield 311, 3) := by decide +kernel
theorem dX12_program_88 : decode cX12_program 88 = .ok (.putfield 591, 3) := by decide +kernel
theorem dX12_program_91 : decode cX12_program 91 = .ok (.aload_n 0, 1) := by decide +kernel
theorem dX12_program_92 : decode cX12_program 92 = .ok (.aload_n 0, 1) := by decide +kernel
theorem dX12_program_93 : decode cX12_program 93 = .ok (.getfield 311, 3) := by decide +kernel
theorem dX12_program_96 : decode cX12_program 96 = .ok (.ifCond .le 10, 3) := by decide +kernel
theorem dX12_program_99 : decode cX12_program 99 = .ok (.aload_n 0, 1) := by decide +kernel
theorem dX12_program_100 : decode cX12_program 100 = .ok (.getfield 314, 3) := by decide +kernel
theorem dX12_program_103 : decode cX12_program 103 = .ok (.goto 4, 3) := by decide +kernel
theorem dX12_program_106 : decode cX12_program 106 = .ok (.iconst (-1), 1) := by decide +kernel
theorem dX12_program_107 : decode cX12_program 107 = .ok (.putfield 187, 3) := by decide +kernel
theorem dX12_program_110 : decode cX12_program 110 = .ok (.aload_n 0, 1) := by decide +kernel
theorem dX12_program_111 : decode cX12_program 111 = .ok (.getfield 311, 3) := by decide +kernel
theorem dX12_program_114 : decode cX12_program 114 = .ok (.ifCond .le 5, 3) := by decide +kernel
theorem dX12_program_117 : decode cX12_program 117 = .ok (.iconst (-1), 1) := by decide +kernel
theorem dX12_program_118 : decode cX12_program 118 = .ok (.ireturn, 1) := by decide +kernel
theorem dX12_program_119 : decode cX12_program 119 = .ok (.aload_n 0, 1) := by decide +kernel
theorem dX12_program_120 : decode cX12_program 120 = .ok (.invokevirtual 594, 3) := by decide +kernel
theorem dX12_program_123 : decode cX12_program 123 = .ok (.aload_n 0, 1) := by decide +kernel
theorem dX12_program_124 : decode cX12_program 124 = .ok (.invokevirtual 597, 3) := by decide +kernel
theorem dX12_program_127 : decode cX12_program 127 = .ok (.iconst 0, 1) := by decide +kernel
theorem dX12_program_128 : decode cX12_program 128 = .ok (.istore_n 1, 1) := by decide +kernel
theorem dX12_program_129 : decode cX12_program 129 = .ok (.iload_n 1, 1) := by decide +kernel
theorem dX12_program_130 : decode cX12_program 130 = .ok (.aload_n 0, 1) := by decide +kernel
theorem dX12_program_131 : decode cX12_program 131 = .ok (.getfield 486, 3) := by decide +kernel
theorem dX12_program_134 : decode cX12_program 134 = .ok (.if_icmp .ge 44, 3) := by decide +kernel
theorem dX12_program_137 : decode cX12_program 137 = .ok (.iconst 0, 1) := by decide +kernel
theorem dX12_program_138 : decode cX12_program 138 = .ok (.istore_n 2, 1) := by decide +kernel
theorem dX12_program_139 : decode cX12_program 139 = .ok (.iload_n 2, 1) := by decide +kernel
theorem dX12_program_140 : decode cX12_program 140 = .ok (.aload_n 0, 1) := by decide +kernel
theorem dX12_program_141 : decode cX12_program 141 = .ok (.getfield 171, 3) := by decide +kernel
theorem dX12_program_144 : decode cX12_program 144 = .ok (.iload_n 1, 1) := by decide +kernel
theorem dX12_program_145 : decode cX12_program 145 = .ok (.iaload, 1) := by decide +kernel
theorem dX12_program_146 : decode cX12_program 146 = .ok (.if_icmp .ge 26, 3) := by decide +kernel
theorem dX12_program_149 : decode cX12_program 149 = .ok (.aload_n 0, 1) := by decide +kernel
theorem dX12_program_150 : decode cX12_program 150 = .ok (.getfield 191, 3) := by decide +kernel
theorem dX12_program_153 : decode cX12_program 153 = .ok (.bipush 8, 2) := by decide +kernel
theorem dX12_program_155 : decode cX12_program 155 = .ok (.iload_n 1, 1) := by decide +kernel
theorem dX12_program_156 : decode cX12_program 156 = .ok (.imul, 1) := by decide +kernel
theorem dX12_program_157 : decode cX12_program 157 = .ok (.iload_n 2, 1) := by decide +kernel
theorem dX12_program_158 : decode cX12_program 158 = .ok (.iadd, 1) := by decide +kernel
theorem dX12_program_159 : decode cX12_program 159 = .ok (.aload_n 0, 1) := by decide +kernel
theorem dX12_program_160 : decode cX12_program 160 = .ok (.iload_n 1, 1) := by decide +kernel
theorem dX12_program_161 : decode cX12_program 161 = .ok (.iload_n 2, 1) := by decide +kernel
theorem dX12_program_162 : decode cX12_program 162 = .ok (.invokevirtual 600, 3) := by decide +kernel
theorem dX12_program_165 : decode cX12_program 165 = .ok (.bastore, 1) := by decide +kernel
theorem dX12_program_166 : decode cX12_program 166 = .ok (.iinc 2 1, 3) := by decide +kernel
theorem dX12_program_169 : decode cX12_program 169 = .ok (.goto (-30), 3) := by decide +kernel
theorem dX12_program_172 : decode cX12_program 172 = .ok (.iinc 1 1, 3) := by decide +kernel
theorem dX12_program_175 : decode cX12_program 175 = .ok (.goto (-46), 3) := by decide +kernel
theorem dX12_program_178 : decode cX12_program 178 = .ok (.aload_n 0, 1) := by decide +kernel
theorem dX12_program_179 : decode cX12_program 179 = .ok (.iconst 1, 1) := by decide +kernel
theorem dX12_program_180 : decode cX12_program 180 = .ok (.putfield 570, 3) := by decide +kernel
theorem dX12_program_183 : decode cX12_program 183 = .ok (.aload_n 0, 1) := by decide +kernel
theorem dX12_program_184 : decode cX12_program 184 = .ok (.getfield 486, 3) := by decide +kernel
theorem dX12_program_187 : decode cX12_program 187 = .ok (.ireturn, 1) := by decide +kernel
theorem dX12_value_0 : decode cX12_value 0 = .ok (.iload_n 0, 1) := by decide +kernel
theorem dX12_value_1 : decode cX12_value 1 = .ok (.i2l, 1) := by decide +kernel
theorem dX12_value_2 : decode cX12_value 2 = .ok (.bipush 32, 2) := by decide +kernel
theorem dX12_value_4 : decode cX12_value 4 = .ok (.lshl, 1) := by decide +kernel
theorem dX12_value_5 : decode cX12_value 5 = .ok (.iload_n 1, 1) := by decide +kernel
theorem dX12_value_6 : decode cX12_value 6 = .ok (.i2l, 1) := by decide +kernel
theorem dX12_value_7 : decode cX12_value 7 = .ok (.ldc2_w 603, 3) := by decide +kernel
theorem dX12_value_10 : decode cX12_value 10 = .ok (.land, 1) := by decide +kernel
theorem dX12_value_11 : decode cX12_value 11 = .ok (.lor, 1) := by decide +kernel
theorem dX12_value_12 : decode cX12_value 12 = .ok (.lreturn, 1) := by decide +kernel
theorem dX12_waits_0 : decode cX12_waits 0 = .ok (.aload_n 0, 1) := by decide +kernel
theorem dX12_waits_1 : decode cX12_waits 1 = .ok (.getfield 219, 3) := by decide +kernel
theorem dX12_waits_4 : decode cX12_waits 4 = .ok (.aload_n 0, 1) := by decide +kernel
theorem dX12_waits_5 : decode cX12_waits 5 = .ok (.getfield 611, 3) := by decide +kernel
theorem dX12_waits_8 : decode cX12_waits 8 = .ok (.iload_n 1, 1) := by decide +kernel
theorem dX12_waits_9 : decode cX12_waits 9 = .ok (.bipush 16, 2) := by decide +kernel
theorem dX12_waits_11 : decode cX12_waits 11 = .ok (.ishl, 1) := by decide +kernel
theorem dX12_waits_12 : decode cX12_waits 12 = .ok (.iload_n 2, 1) := by decide +kernel
theorem dX12_waits_13 : decode cX12_waits 13 = .ok (.ior, 1) := by decide +kernel
theorem dX12_waits_14 : decode cX12_waits 14 = .ok (.iastore, 1) := by decide +kernel
theorem dX12_waits_15 : decode cX12_waits 15 = .ok (.aload_n 0, 1) := by decide +kernel
theorem dX12_waits_16 : decode cX12_waits 16 = .ok (.getfield 222, 3) := by decide +kernel
theorem dX12_waits_19 : decode cX12_waits 19 = .ok (.aload_n 0, 1) := by decide +kernel
theorem dX12_waits_20 : decode cX12_waits 20 = .ok (.getfield 611, 3) := by decide +kernel
theorem dX12_waits_23 : decode cX12_waits 23 = .ok (.aload_n 0, 1) := by decide +kernel
theorem dX12_waits_24 : decode cX12_waits 24 = .ok (.getfield 614, 3) := by decide +kernel
theorem dX12_waits_27 : decode cX12_waits 27 = .ok (.iastore, 1) := by decide +kernel
theorem dX12_waits_28 : decode cX12_waits 28 = .ok (.aload_n 0, 1) := by decide +kernel
theorem dX12_waits_29 : decode cX12_waits 29 = .ok (.getfield 225, 3) := by decide +kernel
theorem dX12_waits_32 : decode cX12_waits 32 = .ok (.aload_n 0, 1) := by decide +kernel
theorem dX12_waits_33 : decode cX12_waits 33 = .ok (.getfield 611, 3) := by decide +kernel
theorem dX12_waits_36 : decode cX12_waits 36 = .ok (.iload_n 3, 1) := by decide +kernel
theorem dX12_waits_37 : decode cX12_waits 37 = .ok (.iastore, 1) := by decide +kernel
theorem dX12_waits_38 : decode cX12_waits 38 = .ok (.aload_n 0, 1) := by decide +kernel
theorem dX12_waits_39 : decode cX12_waits 39 = .ok (.dup, 1) := by decide +kernel
theorem dX12_waits_40 : decode cX12_waits 40 = .ok (.getfield 611, 3) := by decide +kernel
theorem dX12_waits_43 : decode cX12_waits 43 = .ok (.iconst 1, 1) := by decide +kernel
theorem dX12_waits_44 : decode cX12_waits 44 = .ok (.iadd, 1) := by decide +kernel
theorem dX12_waits_45 : decode cX12_waits 45 = .ok (.putfield 611, 3) := by decide +kernel
theorem dX12_waits_48 : decode cX12_waits 48 = .ok (.return_, 1) := by decide +kernel
theorem cw_X12_clearRun : CWV yX12_clearRun cX12_clearRun 2 none RX12 0 := ⟨mG_2471, mG_2470, mG_106, mG_226, by decide +kernel⟩
theorem cw_X12_doTasks : CWV yX12_doTasks cX12_doTasks 6 none RX12 0 := ⟨mG_2870, mG_2869, mG_194, mG_226, by decide +kernel⟩
theorem cw_X12_ends : CWV yX12_ends cX12_ends 3 none RX12 2 := ⟨mG_2788, mG_2787, mG_177, mG_226, by decide +kernel⟩
theorem cw_X12_evaluate : CWV yX12_evaluate cX12_evaluate 2 none RX12 1 := ⟨mG_2822, mG_2821, mG_183, mG_226, by decide +kernel⟩
theorem cw_X12_fill : CWV yX12_fill cX12_fill 6 none RX12 2 := ⟨mG_2866, mG_2865, mG_193, mG_226, by decide +kernel⟩
theorem cw_X12_find : CWV yX12_find cX12_find 4 none RX12 0 := ⟨mG_2664, mG_2663, mG_149, mG_226, by decide +kernel⟩
theorem cw_X12_findNeeds : CWV yX12_findNeeds cX12_findNeeds 5 none RX12 0 := ⟨mG_2767, mG_2766, mG_173, mG_226, by decide +kernel⟩
theorem cw_X12_findTables : CWV yX12_findTables cX12_findTables 6 none RX12 0 := ⟨mG_2747, mG_2746, mG_168, mG_226, by decide +kernel⟩
theorem cw_X12_frame : CWV yX12_frame cX12_frame 2 none RX12 1 := ⟨mG_2818, mG_2817, mG_182, mG_226, by decide +kernel⟩
theorem cw_X12_gives : CWV yX12_gives cX12_gives 3 none RX12 1 := ⟨mG_2807, mG_2806, mG_180, mG_226, by decide +kernel⟩
theorem cw_X12_isLess : CWV yX12_isLess cX12_isLess 2 (some .boolean) RX12 1 := ⟨mG_2859, mG_2858, mG_192, mG_226, by decide +kernel⟩
theorem cw_X12_isNeeded : CWV yX12_isNeeded cX12_isNeeded 4 (some .boolean) RX12 2 := ⟨mG_2775, mG_2774, mG_175, mG_226, by decide +kernel⟩
theorem cw_X12_judge : CWV yX12_judge cX12_judge 2 none RX12 0 := ⟨mG_2707, mG_2706, mG_159, mG_226, by decide +kernel⟩
theorem cw_X12_kindOf : CWS yX12_kindOf cX12_kindOf 2 (some .int) RX12 1 := ⟨mG_2803, mG_2802, mG_226, by decide +kernel⟩
theorem cw_X12_liftAll : CWV yX12_liftAll cX12_liftAll 5 none RX12 0 := ⟨mG_2715, mG_2714, mG_161, mG_226, by decide +kernel⟩
theorem cw_X12_make : CWV yX12_make cX12_make 3 (some .int) RX12 1 := ⟨mG_2855, mG_2854, mG_191, mG_226, by decide +kernel⟩
theorem cw_X12_newCell : CWV yX12_newCell cX12_newCell 6 (some .int) RX12 4 := ⟨mG_2784, mG_2783, mG_176, mG_226, by decide +kernel⟩
theorem cw_X12_numberAll : CWV yX12_numberAll cX12_numberAll 2 none RX12 0 := ⟨mG_2660, mG_2659, mG_148, mG_226, by decide +kernel⟩
theorem cw_X12_of : CWS yX12_of cX12_of 2 (some .int) RX12 1 := ⟨mG_2810, mG_2809, mG_226, by decide +kernel⟩
theorem cw_X12_ones : CWS yX12_ones cX12_ones 5 (some .int) RX12 1 := ⟨mG_2862, mG_2861, mG_226, by decide +kernel⟩
theorem cw_X12_plain : CWV yX12_plain cX12_plain 2 (some .long) RX12 1 := ⟨mG_2851, mG_2850, mG_190, mG_226, by decide +kernel⟩
theorem cw_X12_readProgram : CWV yX12_readProgram cX12_readProgram 2 none RX12 0 := ⟨mG_2475, mG_2474, mG_107, mG_226, by decide +kernel⟩
theorem cw_X12_value : CWS yX12_value cX12_value 2 (some .long) RX12 2 := ⟨mG_2791, mG_2790, mG_226, by decide +kernel⟩
theorem cw_X12_waits : CWV yX12_waits cX12_waits 4 none RX12 3 := ⟨mG_2814, mG_2813, mG_181, mG_226, by decide +kernel⟩
section MX12_clearRun
variable {p : Program} {l : Launch} {e : Env} {R : Room} {s : State} {m : MethodId} {args : Array Value} {below : List Frame} {meth : Method} {c : Code} {dC : Nat → ClassId} {dI : Nat → Nat → Nat} {Z : ZZ} {A : Nat → Prop} {ad : Nat → Nat} {kc : Nat → ClassId} {r : Unit} {τ : S5}
set_option maxHeartbeats 4000000 in
set_option maxRecDepth 100000 in
theorem w_X12_clearRun_B52 {σ : S5} {rec52 : Int32 → S5 → Option (Unit × S5)} {v1 : Int32} {H : Heap} {locs : List Loc} {ls : Array Slot} (S : CallFix p m c cX12_clearRun 2 s args uG RX12) (hr : meth.sig.returnType = none) (hk : meth.locks = false) (hR : 0 ≤ R.frames ∧ 0 ≤ R.locals)
    (hrec52 : ∀ (v1 : Int32) (σ : S5) (H : Heap) (locs : List Loc) (ls : Array Slot), gX (dC, dI) (tM kc) (wM ad kc) Z A s σ H locs → lv_has ls 2 [(0, .ref (ad 0)), (1, .int v1)] → rec52 v1 σ = some (r, τ) → W p l e R s m args below meth c H locs 0 0 (MQ below (gQv (dC, dI) (tM kc) (wM ad kc) A r τ) args s 0 0 A) (F0 m 52 ls []))
    (X : gX (dC, dI) (tM kc) (wM ad kc) Z A s σ H locs) (hl : lv_has ls 2 [(0, .ref (ad 0)), (1, .int v1)]) (hg : f_X12_clearRun_B52 rec52 v1 σ = some (r, τ)) : W p l e R s m args below meth c H locs 0 0 (MQ below (gQv (dC, dI) (tM kc) (wM ad kc) A r τ) args s 0 0 A) (F0 m 52 ls []) := by
  have hx := S.1
  have hb := S.2.1
  have hown := S.2.2.2.1
  have hu := S.2.2.2.2
  unfold f_X12_clearRun_B52 at hg
  refine lv_iload_n hx hb dX12_clearRun_52 rfl (lv_at hl 1 rfl) ?_
  refine lv_sipush (v := 640) hx hb dX12_clearRun_53 (by decide) ?_
  refine lv_icmp_ge (tgt := 72) hx hb dX12_clearRun_56 (by decide) (fun c56 => ?_) (fun c56 => ?_)
  · have hg := (if_pos c56).symm.trans hg
    obtain ⟨-, rfl⟩ := fin_some hg
    exact gr_v S hr hk X dX12_clearRun_72
  · have hg := (if_neg c56).symm.trans hg
    refine lv_aload_n hx hb dX12_clearRun_59 rfl (lv_at hl 0 rfl) ?_
    refine wmgR_0_110 S X mG_2160 dX12_clearRun_60 ?_
    refine lv_iload_n hx hb dX12_clearRun_63 rfl (lv_at hl 1 rfl) ?_
    refine lv_iconst (v := 0) hx hb dX12_clearRun_64 (by decide) ?_
    obtain ⟨hi65, hg⟩ := gd_some hg
    refine wmsA_57 S X hi65 dX12_clearRun_65 (fun H locs X => ?_)
    refine lv_iinc (v := (v1 + 1)) (lv' := [(1, .int (v1 + 1)), (0, .ref (ad 0))]) hx hb dX12_clearRun_66 hl (k := 1) rfl (by rfl) (by decide) rfl (fun ls hl => ?_)
    refine lv_goto (tgt := 52) hx hb dX12_clearRun_69 (by decide) ?_
    exact hrec52 _ _ _ _ _ X (lv_sub hl [1, 0] rfl) hg
set_option maxHeartbeats 4000000 in
set_option maxRecDepth 100000 in
theorem w_X12_clearRun_L52 (S : CallFix p m c cX12_clearRun 2 s args uG RX12) (hr : meth.sig.returnType = none) (hk : meth.locks = false) (hR : 0 ≤ R.frames ∧ 0 ≤ R.locals) : ∀ (n : Nat) (v1 : Int32) (σ : S5) (H : Heap) (locs : List Loc) (ls : Array Slot), gX (dC, dI) (tM kc) (wM ad kc) Z A s σ H locs → lv_has ls 2 [(0, .ref (ad 0)), (1, .int v1)] → f_X12_clearRun_L52  n v1 σ = some (r, τ) → W p l e R s m args below meth c H locs 0 0 (MQ below (gQv (dC, dI) (tM kc) (wM ad kc) A r τ) args s 0 0 A) (F0 m 52 ls []) := by
  intro n
  induction n with
  | zero => intro v1 σ H locs ls X hl hg; cases hg
  | succ n ih => intro v1 σ H locs ls X hl hg; exact w_X12_clearRun_B52 S hr hk hR ih X hl hg
set_option maxHeartbeats 4000000 in
set_option maxRecDepth 100000 in
theorem w_X12_clearRun {σ : S5}  {H : Heap} {locs : List Loc} {ls : Array Slot} (S : CallFix p m c cX12_clearRun 2 s args uG RX12) (hr : meth.sig.returnType = none) (hk : meth.locks = false) (hR : 0 ≤ R.frames ∧ 0 ≤ R.locals)
    (X : gX (dC, dI) (tM kc) (wM ad kc) Z A s σ H locs) (hl : lv_has ls 2 [(0, .ref (ad 0))]) (hg : f_X12_clearRun  σ = some (r, τ)) : W p l e R s m args below meth c H locs 0 0 (MQ below (gQv (dC, dI) (tM kc) (wM ad kc) A r τ) args s 0 0 A) (F0 m 0 ls []) := by
  have hx := S.1
  have hb := S.2.1
  have hown := S.2.2.2.1
  have hu := S.2.2.2.2
  unfold f_X12_clearRun at hg
  refine lv_aload_n hx hb dX12_clearRun_0 rfl (lv_at hl 0 rfl) ?_
  refine lv_iconst (v := 0) hx hb dX12_clearRun_1 (by decide) ?_
  refine wmpI_44 S X mG_2161 dX12_clearRun_2 (fun H locs X => ?_)
  refine lv_aload_n hx hb dX12_clearRun_5 rfl (lv_at hl 0 rfl) ?_
  refine lv_iconst (v := 0) hx hb dX12_clearRun_6 (by decide) ?_
  refine wmpI_45 S X mG_2162 dX12_clearRun_7 (fun H locs X => ?_)
  refine lv_aload_n hx hb dX12_clearRun_10 rfl (lv_at hl 0 rfl) ?_
  refine lv_iconst (v := 0) hx hb dX12_clearRun_11 (by decide) ?_
  refine wmpI_38 S X mG_2154 dX12_clearRun_12 (fun H locs X => ?_)
  refine lv_aload_n hx hb dX12_clearRun_15 rfl (lv_at hl 0 rfl) ?_
  refine lv_iconst (v := 0) hx hb dX12_clearRun_16 (by decide) ?_
  refine wmpI_34 S X mG_2150 dX12_clearRun_17 (fun H locs X => ?_)
  refine lv_aload_n hx hb dX12_clearRun_20 rfl (lv_at hl 0 rfl) ?_
  refine lv_iconst (v := 0) hx hb dX12_clearRun_21 (by decide) ?_
  refine wmpI_39 S X mG_2155 dX12_clearRun_22 (fun H locs X => ?_)
  refine lv_aload_n hx hb dX12_clearRun_25 rfl (lv_at hl 0 rfl) ?_
  refine lv_iconst (v := 0) hx hb dX12_clearRun_26 (by decide) ?_
  refine wmpI_40 S X mG_2156 dX12_clearRun_27 (fun H locs X => ?_)
  refine lv_aload_n hx hb dX12_clearRun_30 rfl (lv_at hl 0 rfl) ?_
  refine lv_iconst (v := 0) hx hb dX12_clearRun_31 (by decide) ?_
  refine wmpI_41 S X mG_2157 dX12_clearRun_32 (fun H locs X => ?_)
  refine lv_aload_n hx hb dX12_clearRun_35 rfl (lv_at hl 0 rfl) ?_
  refine lv_iconst (v := 0) hx hb dX12_clearRun_36 (by decide) ?_
  refine wmpI_42 S X mG_2158 dX12_clearRun_37 (fun H locs X => ?_)
  refine lv_aload_n hx hb dX12_clearRun_40 rfl (lv_at hl 0 rfl) ?_
  refine lv_iconst (v := 0) hx hb dX12_clearRun_41 (by decide) ?_
  refine wmpI_43 S X mG_2159 dX12_clearRun_42 (fun H locs X => ?_)
  refine lv_aload_n hx hb dX12_clearRun_45 rfl (lv_at hl 0 rfl) ?_
  refine lv_iconst (v := 0) hx hb dX12_clearRun_46 (by decide) ?_
  refine wmpI_46 S X mG_2163 dX12_clearRun_47 (fun H locs X => ?_)
  refine lv_iconst (v := 0) hx hb dX12_clearRun_50 (by decide) ?_
  refine lv_istore_n (lv' := [(1, .int 0), (0, .ref (ad 0))]) hx hb dX12_clearRun_51 rfl hl (by decide) rfl (fun ls hl => ?_)
  exact w_X12_clearRun_L52 S hr hk hR _ _ _ _ _ _ X (lv_sub hl [1, 0] rfl) hg
end MX12_clearRun
set_option maxRecDepth 100000 in
theorem k2_X12_clearRun (l : Launch) (dC : Nat → ClassId) (dI : Nat → Nat → Nat) {Z : ZZ} (ad : Nat → Nat) (kc : Nat → ClassId) {σ τ : S5}  {r : Unit} (hg : f_X12_clearRun  σ = some (r, τ)) (sz : Nat) : Met l yX12_clearRun (Cond.code yX12_clearRun cX12_clearRun 2 none :: uG) { frames := 0, cells := 0, slots := 0, locals := 0 } (gPc (dC, dI) (tM kc) (wM ad kc) Z [.ref (ad 0)] σ sz) (gQv (dC, dI) (tM kc) (wM ad kc) (va_A (wM ad kc σ) sz) r τ) 0 0 (va_A (wM ad kc σ) sz) :=
  g_start (by decide) (Nat.le_of_ble_eq_true rfl) (fun p e s m below meth c ls S hr hk X hl => w_X12_clearRun S hr hk ⟨Nat.le_refl _, Nat.le_refl _⟩ X hl hg)
section MX12_program
variable {p : Program} {l : Launch} {e : Env} {R : Room} {s : State} {m : MethodId} {args : Array Value} {below : List Frame} {meth : Method} {c : Code} {dC : Nat → ClassId} {dI : Nat → Nat → Nat} {Z : ZZ} {A : Nat → Prop} {ad : Nat → Nat} {kc : Nat → ClassId} {r : Int32} {τ : S5}
set_option maxHeartbeats 4000000 in
set_option maxRecDepth 100000 in
theorem w_X12_program_B139 {σ : S5} {rec129 : Int32 → S5 → Option (Int32 × S5)} {rec139 : Int32 → Int32 → S5 → Option (Int32 × S5)} {v1 : Int32} {v2 : Int32} {H : Heap} {locs : List Loc} {ls : Array Slot} (S : CallFix p m c cX12_program 3 s args uG RX12) (hr : meth.sig.returnType = (some .int)) (hk : meth.locks = false) (hR : 12 ≤ R.frames ∧ 269 ≤ R.locals)
    (hrec129 : ∀ (v1 : Int32) (σ : S5) (H : Heap) (locs : List Loc) (ls : Array Slot), gX (dC, dI) (tM kc) (wM ad kc) Z A s σ H locs → lv_has ls 3 [(0, .ref (ad 0)), (1, .int v1)] → rec129 v1 σ = some (r, τ) → W p l e R s m args below meth c H locs 0 0 (MQ below (gQi (dC, dI) (tM kc) (wM ad kc) A r τ) args s 0 0 A) (F0 m 129 ls []))
    (hrec139 : ∀ (v1 : Int32) (v2 : Int32) (σ : S5) (H : Heap) (locs : List Loc) (ls : Array Slot), gX (dC, dI) (tM kc) (wM ad kc) Z A s σ H locs → lv_has ls 3 [(0, .ref (ad 0)), (1, .int v1), (2, .int v2)] → rec139 v1 v2 σ = some (r, τ) → W p l e R s m args below meth c H locs 0 0 (MQ below (gQi (dC, dI) (tM kc) (wM ad kc) A r τ) args s 0 0 A) (F0 m 139 ls []))
    (X : gX (dC, dI) (tM kc) (wM ad kc) Z A s σ H locs) (hl : lv_has ls 3 [(0, .ref (ad 0)), (1, .int v1), (2, .int v2)]) (hg : f_X12_program_B139 rec129 rec139 v1 v2 σ = some (r, τ)) : W p l e R s m args below meth c H locs 0 0 (MQ below (gQi (dC, dI) (tM kc) (wM ad kc) A r τ) args s 0 0 A) (F0 m 139 ls []) := by
  have hx := S.1
  have hb := S.2.1
  have hown := S.2.2.2.1
  have hu := S.2.2.2.2
  unfold f_X12_program_B139 at hg
  refine lv_iload_n hx hb dX12_program_139 rfl (lv_at hl 2 rfl) ?_
  refine lv_aload_n hx hb dX12_program_140 rfl (lv_at hl 0 rfl) ?_
  refine wmgR_0_82 S X mG_2132 dX12_program_141 ?_
  refine lv_iload_n hx hb dX12_program_144 rfl (lv_at hl 1 rfl) ?_
  obtain ⟨hi145, hg⟩ := gd_some hg
  refine wmlA_47 (v := (xA σ 47 v1)) S X hi145 rfl dX12_program_145 ?_
  refine lv_icmp_ge (tgt := 172) hx hb dX12_program_146 (by decide) (fun c146 => ?_) (fun c146 => ?_)
  · have hg := (if_pos c146).symm.trans hg
    refine lv_iinc (v := (v1 + 1)) (lv' := [(1, .int (v1 + 1)), (0, .ref (ad 0)), (2, .int v2)]) hx hb dX12_program_172 hl (k := 1) rfl (by rfl) (by decide) rfl (fun ls hl => ?_)
    refine lv_goto (tgt := 129) hx hb dX12_program_175 (by decide) ?_
    exact hrec129 _ _ _ _ _ X (lv_sub hl [1, 0] rfl) hg
  · have hg := (if_neg c146).symm.trans hg
    refine lv_aload_n hx hb dX12_program_149 rfl (lv_at hl 0 rfl) ?_
    refine wmgR_0_91 S X mG_2141 dX12_program_150 ?_
    refine lv_bipush (v := 8) hx hb dX12_program_153 (by decide) ?_
    refine lv_iload_n hx hb dX12_program_155 rfl (lv_at hl 1 rfl) ?_
    refine lv_imul hx hb dX12_program_156 ?_
    refine lv_iload_n hx hb dX12_program_157 rfl (lv_at hl 2 rfl) ?_
    refine lv_iadd hx hb dX12_program_158 ?_
    refine lv_aload_n hx hb dX12_program_159 rfl (lv_at hl 0 rfl) ?_
    refine lv_iload_n hx hb dX12_program_160 rfl (lv_at hl 1 rfl) ?_
    refine lv_iload_n hx hb dX12_program_161 rfl (lv_at hl 2 rfl) ?_
    obtain ⟨r162, τ162, hq162, hg⟩ := bd_some hg
    refine gc_Vi (As := [.int v1, .int v2]) (rest := [.int ((8 * v1) + v2), .ref (ad 59)]) (q0 := 0) (ci := 15) S X (k2_X12_isNeeded l dC dI ad kc hq162 H.size) cw_X12_isNeeded mG_2772 rfl rfl rfl rfl rfl hl.1 (Nat.le_of_ble_eq_true rfl) dX12_program_162 ⟨by omega, by omega⟩ (fun H locs X => ?_)
    obtain ⟨hi165, hg⟩ := gd_some hg
    refine wmsA_52 S X hi165 dX12_program_165 (fun H locs X => ?_)
    refine lv_iinc (v := (v2 + 1)) (lv' := [(2, .int (v2 + 1)), (0, .ref (ad 0)), (1, .int v1)]) hx hb dX12_program_166 hl (k := 2) rfl (by rfl) (by decide) rfl (fun ls hl => ?_)
    refine lv_goto (tgt := 139) hx hb dX12_program_169 (by decide) ?_
    exact hrec139 _ _ _ _ _ _ X (lv_sub hl [1, 2, 0] rfl) hg
set_option maxHeartbeats 4000000 in
set_option maxRecDepth 100000 in
theorem w_X12_program_L139 {rec129 : Int32 → S5 → Option (Int32 × S5)} (S : CallFix p m c cX12_program 3 s args uG RX12) (hr : meth.sig.returnType = (some .int)) (hk : meth.locks = false) (hR : 12 ≤ R.frames ∧ 269 ≤ R.locals)
    (hrec129 : ∀ (v1 : Int32) (σ : S5) (H : Heap) (locs : List Loc) (ls : Array Slot), gX (dC, dI) (tM kc) (wM ad kc) Z A s σ H locs → lv_has ls 3 [(0, .ref (ad 0)), (1, .int v1)] → rec129 v1 σ = some (r, τ) → W p l e R s m args below meth c H locs 0 0 (MQ below (gQi (dC, dI) (tM kc) (wM ad kc) A r τ) args s 0 0 A) (F0 m 129 ls [])) : ∀ (n : Nat) (v1 : Int32) (v2 : Int32) (σ : S5) (H : Heap) (locs : List Loc) (ls : Array Slot), gX (dC, dI) (tM kc) (wM ad kc) Z A s σ H locs → lv_has ls 3 [(0, .ref (ad 0)), (1, .int v1), (2, .int v2)] → f_X12_program_L139 rec129 n v1 v2 σ = some (r, τ) → W p l e R s m args below meth c H locs 0 0 (MQ below (gQi (dC, dI) (tM kc) (wM ad kc) A r τ) args s 0 0 A) (F0 m 139 ls []) := by
  intro n
  induction n with
  | zero => intro v1 v2 σ H locs ls X hl hg; cases hg
  | succ n ih => intro v1 v2 σ H locs ls X hl hg; exact w_X12_program_B139 S hr hk hR hrec129 ih X hl hg
set_option maxHeartbeats 4000000 in
set_option maxRecDepth 100000 in
theorem w_X12_program_B129 {σ : S5} {rec129 : Int32 → S5 → Option (Int32 × S5)} {v1 : Int32} {H : Heap} {locs : List Loc} {ls : Array Slot} (S : CallFix p m c cX12_program 3 s args uG RX12) (hr : meth.sig.returnType = (some .int)) (hk : meth.locks = false) (hR : 12 ≤ R.frames ∧ 269 ≤ R.locals)
    (hrec129 : ∀ (v1 : Int32) (σ : S5) (H : Heap) (locs : List Loc) (ls : Array Slot), gX (dC, dI) (tM kc) (wM ad kc) Z A s σ H locs → lv_has ls 3 [(0, .ref (ad 0)), (1, .int v1)] → rec129 v1 σ = some (r, τ) → W p l e R s m args below meth c H locs 0 0 (MQ below (gQi (dC, dI) (tM kc) (wM ad kc) A r τ) args s 0 0 A) (F0 m 129 ls []))
    (X : gX (dC, dI) (tM kc) (wM ad kc) Z A s σ H locs) (hl : lv_has ls 3 [(0, .ref (ad 0)), (1, .int v1)]) (hg : f_X12_program_B129 rec129 v1 σ = some (r, τ)) : W p l e R s m args below meth c H locs 0 0 (MQ below (gQi (dC, dI) (tM kc) (wM ad kc) A r τ) args s 0 0 A) (F0 m 129 ls []) := by
  have hx := S.1
  have hb := S.2.1
  have hown := S.2.2.2.1
  have hu := S.2.2.2.2
  unfold f_X12_program_B129 at hg
  refine lv_iload_n hx hb dX12_program_129 rfl (lv_at hl 1 rfl) ?_
  refine lv_aload_n hx hb dX12_program_130 rfl (lv_at hl 0 rfl) ?_
  refine wmgI_22 (v := (gI σ 22)) S X mG_2096 rfl dX12_program_131 ?_
  refine lv_icmp_ge (tgt := 178) hx hb dX12_program_134 (by decide) (fun c134 => ?_) (fun c134 => ?_)
  · have hg := (if_pos c134).symm.trans hg
    refine lv_aload_n hx hb dX12_program_178 rfl (lv_at hl 0 rfl) ?_
    refine lv_iconst (v := 1) hx hb dX12_program_179 (by decide) ?_
    refine wmpI_29 S X mG_2138 (Or.inr rfl) dX12_program_180 (fun H locs X => ?_)
    refine lv_aload_n hx hb dX12_program_183 rfl (lv_at hl 0 rfl) ?_
    refine wmgI_22 (v := (gI σ 22)) S X mG_2096 rfl dX12_program_184 ?_
    obtain ⟨rfl, rfl⟩ := fin_some hg
    exact gr_i S hr hk X dX12_program_187
  · have hg := (if_neg c134).symm.trans hg
    refine lv_iconst (v := 0) hx hb dX12_program_137 (by decide) ?_
    refine lv_istore_n (lv' := [(2, .int 0), (0, .ref (ad 0)), (1, .int v1)]) hx hb dX12_program_138 rfl hl (by decide) rfl (fun ls hl => ?_)
    exact w_X12_program_L139 S hr hk hR hrec129 _ _ _ _ _ _ _ X (lv_sub hl [1, 2, 0] rfl) hg
set_option maxHeartbeats 4000000 in
set_option maxRecDepth 100000 in
theorem w_X12_program_L129 (S : CallFix p m c cX12_program 3 s args uG RX12) (hr : meth.sig.returnType = (some .int)) (hk : meth.locks = false) (hR : 12 ≤ R.frames ∧ 269 ≤ R.locals) : ∀ (n : Nat) (v1 : Int32) (σ : S5) (H : Heap) (locs : List Loc) (ls : Array Slot), gX (dC, dI) (tM kc) (wM ad kc) Z A s σ H locs → lv_has ls 3 [(0, .ref (ad 0)), (1, .int v1)] → f_X12_program_L129  n v1 σ = some (r, τ) → W p l e R s m args below meth c H locs 0 0 (MQ below (gQi (dC, dI) (tM kc) (wM ad kc) A r τ) args s 0 0 A) (F0 m 129 ls []) := by
  intro n
  induction n with
  | zero => intro v1 σ H locs ls X hl hg; cases hg
  | succ n ih => intro v1 σ H locs ls X hl hg; exact w_X12_program_B129 S hr hk hR ih X hl hg
set_option maxHeartbeats 4000000 in
set_option maxRecDepth 100000 in
theorem w_X12_program_b107 {σ : S5} {u0 : Int32} {H : Heap} {locs : List Loc} {ls : Array Slot} (S : CallFix p m c cX12_program 3 s args uG RX12) (hr : meth.sig.returnType = (some .int)) (hk : meth.locks = false) (hR : 12 ≤ R.frames ∧ 269 ≤ R.locals)
    (X : gX (dC, dI) (tM kc) (wM ad kc) Z A s σ H locs) (hl : lv_has ls 3 [(0, .ref (ad 0))]) (hg : f_X12_program_b107 u0 σ = some (r, τ)) : W p l e R s m args below meth c H locs 0 0 (MQ below (gQi (dC, dI) (tM kc) (wM ad kc) A r τ) args s 0 0 A) (F0 m 107 ls [.int u0, .ref (ad 0)]) := by
  have hx := S.1
  have hb := S.2.1
  have hown := S.2.2.2.1
  have hu := S.2.2.2.2
  unfold f_X12_program_b107 at hg
  refine wmpI_31 S X mG_2140 dX12_program_107 (fun H locs X => ?_)
  refine lv_aload_n hx hb dX12_program_110 rfl (lv_at hl 0 rfl) ?_
  refine wmgI_7 (v := (gI σ 7)) S X mG_2060 rfl dX12_program_111 ?_
  refine lv_if_le (tgt := 119) hx hb dX12_program_114 (by decide) (fun c114 => ?_) (fun c114 => ?_)
  · have hg := (if_pos c114).symm.trans hg
    refine lv_aload_n hx hb dX12_program_119 rfl (lv_at hl 0 rfl) ?_
    obtain ⟨r120, τ120, hq120, hg⟩ := bd_some hg
    refine gc_Vv (As := []) (rest := []) (q0 := 0) (ci := 15) S X (k2_X12_findTables l dC dI ad kc hq120 H.size) cw_X12_findTables mG_2744 rfl rfl rfl rfl rfl hl.1 (Nat.le_of_ble_eq_true rfl) dX12_program_120 ⟨by omega, by omega⟩ (fun H locs X => ?_)
    refine lv_aload_n hx hb dX12_program_123 rfl (lv_at hl 0 rfl) ?_
    obtain ⟨r124, τ124, hq124, hg⟩ := bd_some hg
    refine gc_Vv (As := []) (rest := []) (q0 := 0) (ci := 15) S X (k2_X12_findNeeds l dC dI ad kc hq124 H.size) cw_X12_findNeeds mG_2764 rfl rfl rfl rfl rfl hl.1 (Nat.le_of_ble_eq_true rfl) dX12_program_124 ⟨by omega, by omega⟩ (fun H locs X => ?_)
    refine lv_iconst (v := 0) hx hb dX12_program_127 (by decide) ?_
    refine lv_istore_n (lv' := [(1, .int 0), (0, .ref (ad 0))]) hx hb dX12_program_128 rfl hl (by decide) rfl (fun ls hl => ?_)
    exact w_X12_program_L129 S hr hk hR _ _ _ _ _ _ X (lv_sub hl [1, 0] rfl) hg
  · have hg := (if_neg c114).symm.trans hg
    refine lv_iconst (v := (-1)) hx hb dX12_program_117 (by decide) ?_
    obtain ⟨rfl, rfl⟩ := fin_some hg
    exact gr_i S hr hk X dX12_program_118
set_option maxHeartbeats 4000000 in
set_option maxRecDepth 100000 in
theorem w_X12_program_b83 {σ : S5}  {H : Heap} {locs : List Loc} {ls : Array Slot} (S : CallFix p m c cX12_program 3 s args uG RX12) (hr : meth.sig.returnType = (some .int)) (hk : meth.locks = false) (hR : 12 ≤ R.frames ∧ 269 ≤ R.locals)
    (X : gX (dC, dI) (tM kc) (wM ad kc) Z A s σ H locs) (hl : lv_has ls 3 [(0, .ref (ad 0))]) (hg : f_X12_program_b83  σ = some (r, τ)) : W p l e R s m args below meth c H locs 0 0 (MQ below (gQi (dC, dI) (tM kc) (wM ad kc) A r τ) args s 0 0 A) (F0 m 83 ls []) := by
  have hx := S.1
  have hb := S.2.1
  have hown := S.2.2.2.1
  have hu := S.2.2.2.2
  unfold f_X12_program_b83 at hg
  refine lv_aload_n hx hb dX12_program_83 rfl (lv_at hl 0 rfl) ?_
  refine lv_aload_n hx hb dX12_program_84 rfl (lv_at hl 0 rfl) ?_
  refine wmgI_7 (v := (gI σ 7)) S X mG_2060 rfl dX12_program_85 ?_
  refine wmpI_30 S X mG_2139 dX12_program_88 (fun H locs X => ?_)
  refine lv_aload_n hx hb dX12_program_91 rfl (lv_at hl 0 rfl) ?_
  refine lv_aload_n hx hb dX12_program_92 rfl (lv_at hl 0 rfl) ?_
  refine wmgI_7 (v := (gI σ 7)) S X mG_2060 rfl dX12_program_93 ?_
  refine lv_if_le (tgt := 106) hx hb dX12_program_96 (by decide) (fun c96 => ?_) (fun c96 => ?_)
  · have hg := (if_pos c96).symm.trans hg
    refine lv_iconst (v := (-1)) hx hb dX12_program_106 (by decide) ?_
    exact w_X12_program_b107 S hr hk hR X (lv_sub hl [0] rfl) hg
  · have hg := (if_neg c96).symm.trans hg
    refine lv_aload_n hx hb dX12_program_99 rfl (lv_at hl 0 rfl) ?_
    refine wmgI_8 (v := (gI σ 8)) S X mG_2061 rfl dX12_program_100 ?_
    refine lv_goto (tgt := 107) hx hb dX12_program_103 (by decide) ?_
    exact w_X12_program_b107 S hr hk hR X (lv_sub hl [0] rfl) hg
set_option maxHeartbeats 4000000 in
set_option maxRecDepth 100000 in
theorem w_X12_program_b72 {σ : S5}  {H : Heap} {locs : List Loc} {ls : Array Slot} (S : CallFix p m c cX12_program 3 s args uG RX12) (hr : meth.sig.returnType = (some .int)) (hk : meth.locks = false) (hR : 12 ≤ R.frames ∧ 269 ≤ R.locals)
    (X : gX (dC, dI) (tM kc) (wM ad kc) Z A s σ H locs) (hl : lv_has ls 3 [(0, .ref (ad 0))]) (hg : f_X12_program_b72  σ = some (r, τ)) : W p l e R s m args below meth c H locs 0 0 (MQ below (gQi (dC, dI) (tM kc) (wM ad kc) A r τ) args s 0 0 A) (F0 m 72 ls []) := by
  have hx := S.1
  have hb := S.2.1
  have hown := S.2.2.2.1
  have hu := S.2.2.2.2
  unfold f_X12_program_b72 at hg
  refine lv_aload_n hx hb dX12_program_72 rfl (lv_at hl 0 rfl) ?_
  refine wmgI_7 (v := (gI σ 7)) S X mG_2060 rfl dX12_program_73 ?_
  refine lv_if_ne (tgt := 83) hx hb dX12_program_76 (by decide) (fun c76 => ?_) (fun c76 => ?_)
  · have hg := (if_neg c76).symm.trans hg
    exact w_X12_program_b83 S hr hk hR X (lv_sub hl [0] rfl) hg
  · have hg := (if_pos c76).symm.trans hg
    refine lv_aload_n hx hb dX12_program_79 rfl (lv_at hl 0 rfl) ?_
    obtain ⟨r80, τ80, hq80, hg⟩ := bd_some hg
    refine gc_Vv (As := []) (rest := []) (q0 := 0) (ci := 15) S X (k2_X12_liftAll l dC dI ad kc hq80 H.size) cw_X12_liftAll mG_2712 rfl rfl rfl rfl rfl hl.1 (Nat.le_of_ble_eq_true rfl) dX12_program_80 ⟨by omega, by omega⟩ (fun H locs X => ?_)
    exact w_X12_program_b83 S hr hk hR X (lv_sub hl [0] rfl) hg
set_option maxHeartbeats 4000000 in
set_option maxRecDepth 100000 in
theorem w_X12_program_b61 {σ : S5}  {H : Heap} {locs : List Loc} {ls : Array Slot} (S : CallFix p m c cX12_program 3 s args uG RX12) (hr : meth.sig.returnType = (some .int)) (hk : meth.locks = false) (hR : 12 ≤ R.frames ∧ 269 ≤ R.locals)
    (X : gX (dC, dI) (tM kc) (wM ad kc) Z A s σ H locs) (hl : lv_has ls 3 [(0, .ref (ad 0))]) (hg : f_X12_program_b61  σ = some (r, τ)) : W p l e R s m args below meth c H locs 0 0 (MQ below (gQi (dC, dI) (tM kc) (wM ad kc) A r τ) args s 0 0 A) (F0 m 61 ls []) := by
  have hx := S.1
  have hb := S.2.1
  have hown := S.2.2.2.1
  have hu := S.2.2.2.2
  unfold f_X12_program_b61 at hg
  refine lv_aload_n hx hb dX12_program_61 rfl (lv_at hl 0 rfl) ?_
  refine wmgI_7 (v := (gI σ 7)) S X mG_2060 rfl dX12_program_62 ?_
  refine lv_if_ne (tgt := 72) hx hb dX12_program_65 (by decide) (fun c65 => ?_) (fun c65 => ?_)
  · have hg := (if_neg c65).symm.trans hg
    exact w_X12_program_b72 S hr hk hR X (lv_sub hl [0] rfl) hg
  · have hg := (if_pos c65).symm.trans hg
    refine lv_aload_n hx hb dX12_program_68 rfl (lv_at hl 0 rfl) ?_
    obtain ⟨r69, τ69, hq69, hg⟩ := bd_some hg
    refine gc_Vv (As := []) (rest := []) (q0 := 0) (ci := 15) S X (k2_X12_judge l dC dI ad kc hq69 H.size) cw_X12_judge mG_2704 rfl rfl rfl rfl rfl hl.1 (Nat.le_of_ble_eq_true rfl) dX12_program_69 ⟨by omega, by omega⟩ (fun H locs X => ?_)
    exact w_X12_program_b72 S hr hk hR X (lv_sub hl [0] rfl) hg
set_option maxHeartbeats 4000000 in
set_option maxRecDepth 100000 in
theorem w_X12_program_b16 {σ : S5} {u0 : Int32} {H : Heap} {locs : List Loc} {ls : Array Slot} (S : CallFix p m c cX12_program 3 s args uG RX12) (hr : meth.sig.returnType = (some .int)) (hk : meth.locks = false) (hR : 12 ≤ R.frames ∧ 269 ≤ R.locals)
    (X : gX (dC, dI) (tM kc) (wM ad kc) Z A s σ H locs) (hl : lv_has ls 3 [(0, .ref (ad 0))]) (hg : f_X12_program_b16 u0 σ = some (r, τ)) : W p l e R s m args below meth c H locs 0 0 (MQ below (gQi (dC, dI) (tM kc) (wM ad kc) A r τ) args s 0 0 A) (F0 m 16 ls [.int u0, .ref (ad 0)]) := by
  have hx := S.1
  have hb := S.2.1
  have hown := S.2.2.2.1
  have hu := S.2.2.2.2
  unfold f_X12_program_b16 at hg
  refine wmpI_0 S X mG_2050 dX12_program_16 (fun H locs X => ?_)
  refine lv_aload_n hx hb dX12_program_19 rfl (lv_at hl 0 rfl) ?_
  refine wmgI_0 (v := u0) S X mG_2050 rfl dX12_program_20 ?_
  refine lv_if_le (tgt := 28) hx hb dX12_program_23 (by decide) (fun c23 => ?_) (fun c23 => ?_)
  · have hg := (if_pos c23).symm.trans hg
    refine lv_aload_n hx hb dX12_program_28 rfl (lv_at hl 0 rfl) ?_
    refine lv_iconst (v := 0) hx hb dX12_program_29 (by decide) ?_
    refine wmpI_29 S X mG_2138 (Or.inl rfl) dX12_program_30 (fun H locs X => ?_)
    refine lv_aload_n hx hb dX12_program_33 rfl (lv_at hl 0 rfl) ?_
    obtain ⟨r34, τ34, hq34, hg⟩ := bd_some hg
    refine gc_Vv (As := []) (rest := []) (q0 := 0) (ci := 15) S X (k2_X12_clearRun l dC dI ad kc hq34 H.size) cw_X12_clearRun mG_2468 rfl rfl rfl rfl rfl hl.1 (Nat.le_of_ble_eq_true rfl) dX12_program_34 ⟨by omega, by omega⟩ (fun H locs X => ?_)
    refine lv_aload_n hx hb dX12_program_37 rfl (lv_at hl 0 rfl) ?_
    obtain ⟨r38, τ38, hq38, hg⟩ := bd_some hg
    refine gc_Vv (As := []) (rest := []) (q0 := 0) (ci := 15) S X (k2_X12_readProgram l dC dI ad kc hq38 H.size) cw_X12_readProgram mG_2472 rfl rfl rfl rfl rfl hl.1 (Nat.le_of_ble_eq_true rfl) dX12_program_38 ⟨by omega, by omega⟩ (fun H locs X => ?_)
    refine lv_aload_n hx hb dX12_program_41 rfl (lv_at hl 0 rfl) ?_
    refine lv_iconst (v := 0) hx hb dX12_program_42 (by decide) ?_
    refine wmpI_1 S X mG_2052 dX12_program_43 (fun H locs X => ?_)
    refine lv_aload_n hx hb dX12_program_46 rfl (lv_at hl 0 rfl) ?_
    refine wmgI_7 (v := (gI τ38 7)) S X mG_2060 rfl dX12_program_47 ?_
    refine lv_if_ne (tgt := 61) hx hb dX12_program_50 (by decide) (fun c50 => ?_) (fun c50 => ?_)
    · have hg := (if_neg c50).symm.trans hg
      exact w_X12_program_b61 S hr hk hR X (lv_sub hl [0] rfl) hg
    · have hg := (if_pos c50).symm.trans hg
      refine lv_aload_n hx hb dX12_program_53 rfl (lv_at hl 0 rfl) ?_
      obtain ⟨r54, τ54, hq54, hg⟩ := bd_some hg
      refine gc_Vv (As := []) (rest := []) (q0 := 0) (ci := 15) S X (k2_X12_numberAll l dC dI ad kc hq54 H.size) cw_X12_numberAll mG_2657 rfl rfl rfl rfl rfl hl.1 (Nat.le_of_ble_eq_true rfl) dX12_program_54 ⟨by omega, by omega⟩ (fun H locs X => ?_)
      refine lv_aload_n hx hb dX12_program_57 rfl (lv_at hl 0 rfl) ?_
      obtain ⟨r58, τ58, hq58, hg⟩ := bd_some hg
      refine gc_Vv (As := []) (rest := []) (q0 := 0) (ci := 15) S X (k2_X12_find l dC dI ad kc hq58 H.size) cw_X12_find mG_2661 rfl rfl rfl rfl rfl hl.1 (Nat.le_of_ble_eq_true rfl) dX12_program_58 ⟨by omega, by omega⟩ (fun H locs X => ?_)
      exact w_X12_program_b61 S hr hk hR X (lv_sub hl [0] rfl) hg
  · have hg := (if_neg c23).symm.trans hg
    refine lv_iconst (v := 0) hx hb dX12_program_26 (by decide) ?_
    obtain ⟨rfl, rfl⟩ := fin_some hg
    exact gr_i S hr hk X dX12_program_27
set_option maxHeartbeats 4000000 in
set_option maxRecDepth 100000 in
theorem w_X12_program {σ : S5}  {H : Heap} {locs : List Loc} {ls : Array Slot} (S : CallFix p m c cX12_program 3 s args uG RX12) (hr : meth.sig.returnType = (some .int)) (hk : meth.locks = false) (hR : 12 ≤ R.frames ∧ 269 ≤ R.locals)
    (X : gX (dC, dI) (tM kc) (wM ad kc) Z A s σ H locs) (hl : lv_has ls 3 [(0, .ref (ad 0))]) (hg : f_X12_program  σ = some (r, τ)) : W p l e R s m args below meth c H locs 0 0 (MQ below (gQi (dC, dI) (tM kc) (wM ad kc) A r τ) args s 0 0 A) (F0 m 0 ls []) := by
  have hx := S.1
  have hb := S.2.1
  have hown := S.2.2.2.1
  have hu := S.2.2.2.2
  unfold f_X12_program at hg
  refine lv_aload_n hx hb dX12_program_0 rfl (lv_at hl 0 rfl) ?_
  refine lv_aload_n hx hb dX12_program_1 rfl (lv_at hl 0 rfl) ?_
  refine wmgI_12 (v := (gI σ 12)) S X mG_2076 rfl dX12_program_2 ?_
  refine lv_sipush (v := 20000) hx hb dX12_program_5 (by decide) ?_
  refine lv_icmp_lt (tgt := 15) hx hb dX12_program_8 (by decide) (fun c8 => ?_) (fun c8 => ?_)
  · have hg := (if_pos c8).symm.trans hg
    refine lv_iconst (v := 0) hx hb dX12_program_15 (by decide) ?_
    exact w_X12_program_b16 S hr hk hR X (lv_sub hl [0] rfl) hg
  · have hg := (if_neg c8).symm.trans hg
    refine lv_iconst (v := 1) hx hb dX12_program_11 (by decide) ?_
    refine lv_goto (tgt := 16) hx hb dX12_program_12 (by decide) ?_
    exact w_X12_program_b16 S hr hk hR X (lv_sub hl [0] rfl) hg
end MX12_program
set_option maxRecDepth 100000 in
theorem k2_X12_program (l : Launch) (dC : Nat → ClassId) (dI : Nat → Nat → Nat) {Z : ZZ} (ad : Nat → Nat) (kc : Nat → ClassId) {σ τ : S5}  {r : Int32} (hg : f_X12_program  σ = some (r, τ)) (sz : Nat) : Met l yX12_program (Cond.code yX12_program cX12_program 3 (some .int) :: uG) { frames := 12, cells := 0, slots := 0, locals := 269 } (gPc (dC, dI) (tM kc) (wM ad kc) Z [.ref (ad 0)] σ sz) (gQi (dC, dI) (tM kc) (wM ad kc) (va_A (wM ad kc σ) sz) r τ) 0 0 (va_A (wM ad kc σ) sz) :=
  g_start (by decide) (Nat.le_of_ble_eq_true rfl) (fun p e s m below meth c ls S hr hk X hl => w_X12_program S hr hk ⟨Nat.le_refl _, Nat.le_refl _⟩ X hl hg)
section MX12_value
variable {p : Program} {l : Launch} {e : Env} {R : Room} {s : State} {m : MethodId} {args : Array Value} {below : List Frame} {meth : Method} {c : Code} {dC : Nat → ClassId} {dI : Nat → Nat → Nat} {Z : ZZ} {A : Nat → Prop} {ad : Nat → Nat} {kc : Nat → ClassId} {r : Int64} {τ : S5}
set_option maxHeartbeats 4000000 in
set_option maxRecDepth 100000 in
theorem w_X12_value {σ : S5} {a0 : Int32} {a1 : Int32} {H : Heap} {locs : List Loc} {ls : Array Slot} (S : CallFix p m c cX12_value 2 s args uG RX12) (hr : meth.sig.returnType = (some .long)) (hk : meth.locks = false) (hR : 0 ≤ R.frames ∧ 0 ≤ R.locals)
    (X : gX (dC, dI) (tM kc) (wM ad kc) Z A s σ H locs) (hl : lv_has ls 2 [(0, .int a0), (1, .int a1)]) (hg : f_X12_value a0 a1 σ = some (r, τ)) : W p l e R s m args below meth c H locs 0 0 (MQ below (gQl (dC, dI) (tM kc) (wM ad kc) A r τ) args s 0 0 A) (F0 m 0 ls []) := by
  have hx := S.1
  have hb := S.2.1
  have hown := S.2.2.2.1
  have hu := S.2.2.2.2
  unfold f_X12_value at hg
  refine lv_iload_n hx hb dX12_value_0 rfl (lv_at hl 0 rfl) ?_
  refine lv_i2l (v := ((a0).toInt64)) hx hb dX12_value_1 rfl ?_
  refine lv_bipush (v := 32) hx hb dX12_value_2 (by decide) ?_
  refine lv_lshl (v := (j_lshl ((a0).toInt64) 32)) hx hb dX12_value_4 rfl ?_
  refine lv_iload_n hx hb dX12_value_5 rfl (lv_at hl 1 rfl) ?_
  refine lv_i2l (v := ((a1).toInt64)) hx hb dX12_value_6 rfl ?_
  refine lv_ldc2 (own := RX12) (v := 4294967295) hx hb hown (hu _ mG_2792) dX12_value_7 ?_
  refine lv_land hx hb dX12_value_10 ?_
  refine lv_lor hx hb dX12_value_11 ?_
  obtain ⟨rfl, rfl⟩ := fin_some hg
  exact gr_l S hr hk X dX12_value_12
end MX12_value
set_option maxRecDepth 100000 in
theorem k2_X12_value (l : Launch) (dC : Nat → ClassId) (dI : Nat → Nat → Nat) {Z : ZZ} (ad : Nat → Nat) (kc : Nat → ClassId) {σ τ : S5} {a0 : Int32} {a1 : Int32} {r : Int64} (hg : f_X12_value a0 a1 σ = some (r, τ)) (sz : Nat) : Met l yX12_value (Cond.code yX12_value cX12_value 2 (some .long) :: uG) { frames := 0, cells := 0, slots := 0, locals := 0 } (gPc (dC, dI) (tM kc) (wM ad kc) Z [.int a0, .int a1] σ sz) (gQl (dC, dI) (tM kc) (wM ad kc) (va_A (wM ad kc σ) sz) r τ) 0 0 (va_A (wM ad kc σ) sz) :=
  g_start (by decide) (Nat.le_of_ble_eq_true rfl) (fun p e s m below meth c ls S hr hk X hl => w_X12_value S hr hk ⟨Nat.le_refl _, Nat.le_refl _⟩ X hl hg)
section MX12_kindOf
variable {p : Program} {l : Launch} {e : Env} {R : Room} {s : State} {m : MethodId} {args : Array Value} {below : List Frame} {meth : Method} {c : Code} {dC : Nat → ClassId} {dI : Nat → Nat → Nat} {Z : ZZ} {A : Nat → Prop} {ad : Nat → Nat} {kc : Nat → ClassId} {r : Int32} {τ : S5}
set_option maxHeartbeats 4000000 in
set_option maxRecDepth 100000 in
theorem w_X12_kindOf {σ : S5} {a0 : Int64} {H : Heap} {locs : List Loc} {ls : Array Slot} (S : CallFix p m c cX12_kindOf 2 s args uG RX12) (hr : meth.sig.returnType = (some .int)) (hk : meth.locks = false) (hR : 0 ≤ R.frames ∧ 0 ≤ R.locals)
    (X : gX (dC, dI) (tM kc) (wM ad kc) Z A s σ H locs) (hl : lv_has ls 2 [(0, .long a0)]) (hg : f_X12_kindOf a0 σ = some (r, τ)) : W p l e R s m args below meth c H locs 0 0 (MQ below (gQi (dC, dI) (tM kc) (wM ad kc) A r τ) args s 0 0 A) (F0 m 0 ls []) := by
  have hx := S.1
  have hb := S.2.1
  have hown := S.2.2.2.1
  have hu := S.2.2.2.2
  unfold f_X12_kindOf at hg
  refine lv_lload_n hx hb dX12_kindOf_0 rfl (lv_at hl 0 rfl) ?_
  refine lv_bipush (v := 32) hx hb dX12_kindOf_1 (by decide) ?_
  refine lv_lshr (v := (j_lshr a0 32)) hx hb dX12_kindOf_3 rfl ?_
  refine lv_l2i (v := (((j_lshr a0 32) : Int64).toInt32)) hx hb dX12_kindOf_4 rfl ?_
  obtain ⟨rfl, rfl⟩ := fin_some hg
  exact gr_i S hr hk X dX12_kindOf_5
end MX12_kindOf
set_option maxRecDepth 100000 in
theorem k2_X12_kindOf (l : Launch) (dC : Nat → ClassId) (dI : Nat → Nat → Nat) {Z : ZZ} (ad : Nat → Nat) (kc : Nat → ClassId) {σ τ : S5} {a0 : Int64} {r : Int32} (hg : f_X12_kindOf a0 σ = some (r, τ)) (sz : Nat) : Met l yX12_kindOf (Cond.code yX12_kindOf cX12_kindOf 2 (some .int) :: uG) { frames := 0, cells := 0, slots := 0, locals := 0 } (gPc (dC, dI) (tM kc) (wM ad kc) Z [.long a0] σ sz) (gQi (dC, dI) (tM kc) (wM ad kc) (va_A (wM ad kc σ) sz) r τ) 0 0 (va_A (wM ad kc σ) sz) :=
  g_start (by decide) (Nat.le_of_ble_eq_true rfl) (fun p e s m below meth c ls S hr hk X hl => w_X12_kindOf S hr hk ⟨Nat.le_refl _, Nat.le_refl _⟩ X hl hg)
section MX12_of
variable {p : Program} {l : Launch} {e : Env} {R : Room} {s : State} {m : MethodId} {args : Array Value} {below : List Frame} {meth : Method} {c : Code} {dC : Nat → ClassId} {dI : Nat → Nat → Nat} {Z : ZZ} {A : Nat → Prop} {ad : Nat → Nat} {kc : Nat → ClassId} {r : Int32} {τ : S5}
set_option maxHeartbeats 4000000 in
set_option maxRecDepth 100000 in
theorem w_X12_of {σ : S5} {a0 : Int64} {H : Heap} {locs : List Loc} {ls : Array Slot} (S : CallFix p m c cX12_of 2 s args uG RX12) (hr : meth.sig.returnType = (some .int)) (hk : meth.locks = false) (hR : 0 ≤ R.frames ∧ 0 ≤ R.locals)
    (X : gX (dC, dI) (tM kc) (wM ad kc) Z A s σ H locs) (hl : lv_has ls 2 [(0, .long a0)]) (hg : f_X12_of a0 σ = some (r, τ)) : W p l e R s m args below meth c H locs 0 0 (MQ below (gQi (dC, dI) (tM kc) (wM ad kc) A r τ) args s 0 0 A) (F0 m 0 ls []) := by
  have hx := S.1
  have hb := S.2.1
  have hown := S.2.2.2.1
  have hu := S.2.2.2.2
  unfold f_X12_of at hg
  refine lv_lload_n hx hb dX12_of_0 rfl (lv_at hl 0 rfl) ?_
  refine lv_l2i (v := ((a0 : Int64).toInt32)) hx hb dX12_of_1 rfl ?_
  obtain ⟨rfl, rfl⟩ := fin_some hg
  exact gr_i S hr hk X dX12_of_2
end MX12_of
set_option maxRecDepth 100000 in
theorem k2_X12_of (l : Launch) (dC : Nat → ClassId) (dI : Nat → Nat → Nat) {Z : ZZ} (ad : Nat → Nat) (kc : Nat → ClassId) {σ τ : S5} {a0 : Int64} {r : Int32} (hg : f_X12_of a0 σ = some (r, τ)) (sz : Nat) : Met l yX12_of (Cond.code yX12_of cX12_of 2 (some .int) :: uG) { frames := 0, cells := 0, slots := 0, locals := 0 } (gPc (dC, dI) (tM kc) (wM ad kc) Z [.long a0] σ sz) (gQi (dC, dI) (tM kc) (wM ad kc) (va_A (wM ad kc σ) sz) r τ) 0 0 (va_A (wM ad kc σ) sz) :=
  g_start (by decide) (Nat.le_of_ble_eq_true rfl) (fun p e s m below meth c ls S hr hk X hl => w_X12_of S hr hk ⟨Nat.le_refl _, Nat.le_refl _⟩ X hl hg)
section MX12_ends
variable {p : Program} {l : Launch} {e : Env} {R : Room} {s : State} {m : MethodId} {args : Array Value} {below : List Frame} {meth : Method} {c : Code} {dC : Nat → ClassId} {dI : Nat → Nat → Nat} {Z : ZZ} {A : Nat → Prop} {ad : Nat → Nat} {kc : Nat → ClassId} {r : Unit} {τ : S5}
set_option maxHeartbeats 4000000 in
set_option maxRecDepth 100000 in
theorem w_X12_ends {σ : S5} {a1 : Int32} {a2 : Int32} {H : Heap} {locs : List Loc} {ls : Array Slot} (S : CallFix p m c cX12_ends 3 s args uG RX12) (hr : meth.sig.returnType = none) (hk : meth.locks = false) (hR : 0 ≤ R.frames ∧ 0 ≤ R.locals)
    (X : gX (dC, dI) (tM kc) (wM ad kc) Z A s σ H locs) (hl : lv_has ls 3 [(0, .ref (ad 0)), (1, .int a1), (2, .int a2)]) (hg : f_X12_ends a1 a2 σ = some (r, τ)) : W p l e R s m args below meth c H locs 0 0 (MQ below (gQv (dC, dI) (tM kc) (wM ad kc) A r τ) args s 0 0 A) (F0 m 0 ls []) := by
  have hx := S.1
  have hb := S.2.1
  have hown := S.2.2.2.1
  have hu := S.2.2.2.2
  unfold f_X12_ends at hg
  refine lv_aload_n hx hb dX12_ends_0 rfl (lv_at hl 0 rfl) ?_
  refine wmgI_44 (v := (gI σ 44)) S X mG_2161 rfl dX12_ends_1 ?_
  refine lv_if_ne (tgt := 17) hx hb dX12_ends_4 (by decide) (fun c4 => ?_) (fun c4 => ?_)
  · have hg := (if_neg c4).symm.trans hg
    obtain ⟨-, rfl⟩ := fin_some hg
    exact gr_v S hr hk X dX12_ends_17
  · have hg := (if_pos c4).symm.trans hg
    refine lv_aload_n hx hb dX12_ends_7 rfl (lv_at hl 0 rfl) ?_
    refine lv_iload_n hx hb dX12_ends_8 rfl (lv_at hl 1 rfl) ?_
    refine wmpI_44 S X mG_2161 dX12_ends_9 (fun H locs X => ?_)
    refine lv_aload_n hx hb dX12_ends_12 rfl (lv_at hl 0 rfl) ?_
    refine lv_iload_n hx hb dX12_ends_13 rfl (lv_at hl 2 rfl) ?_
    refine wmpI_45 S X mG_2162 dX12_ends_14 (fun H locs X => ?_)
    obtain ⟨-, rfl⟩ := fin_some hg
    exact gr_v S hr hk X dX12_ends_17
end MX12_ends
set_option maxRecDepth 100000 in
theorem k2_X12_ends (l : Launch) (dC : Nat → ClassId) (dI : Nat → Nat → Nat) {Z : ZZ} (ad : Nat → Nat) (kc : Nat → ClassId) {σ τ : S5} {a1 : Int32} {a2 : Int32} {r : Unit} (hg : f_X12_ends a1 a2 σ = some (r, τ)) (sz : Nat) : Met l yX12_ends (Cond.code yX12_ends cX12_ends 3 none :: uG) { frames := 0, cells := 0, slots := 0, locals := 0 } (gPc (dC, dI) (tM kc) (wM ad kc) Z [.ref (ad 0), .int a1, .int a2] σ sz) (gQv (dC, dI) (tM kc) (wM ad kc) (va_A (wM ad kc σ) sz) r τ) 0 0 (va_A (wM ad kc σ) sz) :=
  g_start (by decide) (Nat.le_of_ble_eq_true rfl) (fun p e s m below meth c ls S hr hk X hl => w_X12_ends S hr hk ⟨Nat.le_refl _, Nat.le_refl _⟩ X hl hg)
section MX12_waits
variable {p : Program} {l : Launch} {e : Env} {R : Room} {s : State} {m : MethodId} {args : Array Value} {below : List Frame} {meth : Method} {c : Code} {dC : Nat → ClassId} {dI : Nat → Nat → Nat} {Z : ZZ} {A : Nat → Prop} {ad : Nat → Nat} {kc : Nat → ClassId} {r : Unit} {τ : S5}
set_option maxHeartbeats 4000000 in
set_option maxRecDepth 100000 in
theorem w_X12_waits {σ : S5} {a1 : Int32} {a2 : Int32} {a3 : Int32} {H : Heap} {locs : List Loc} {ls : Array Slot} (S : CallFix p m c cX12_waits 4 s args uG RX12) (hr : meth.sig.returnType = none) (hk : meth.locks = false) (hR : 0 ≤ R.frames ∧ 0 ≤ R.locals)
    (X : gX (dC, dI) (tM kc) (wM ad kc) Z A s σ H locs) (hl : lv_has ls 4 [(0, .ref (ad 0)), (1, .int a1), (2, .int a2), (3, .int a3)]) (hg : f_X12_waits a1 a2 a3 σ = some (r, τ)) : W p l e R s m args below meth c H locs 0 0 (MQ below (gQv (dC, dI) (tM kc) (wM ad kc) A r τ) args s 0 0 A) (F0 m 0 ls []) := by
  have hx := S.1
  have hb := S.2.1
  have hown := S.2.2.2.1
  have hu := S.2.2.2.2
  unfold f_X12_waits at hg
  refine lv_aload_n hx hb dX12_waits_0 rfl (lv_at hl 0 rfl) ?_
  refine wmgR_0_117 S X mG_2167 dX12_waits_1 ?_
  refine lv_aload_n hx hb dX12_waits_4 rfl (lv_at hl 0 rfl) ?_
  refine wmgI_48 (v := (gI σ 48)) S X mG_2166 rfl dX12_waits_5 ?_
  refine lv_iload_n hx hb dX12_waits_8 rfl (lv_at hl 1 rfl) ?_
  refine lv_bipush (v := 16) hx hb dX12_waits_9 (by decide) ?_
  refine lv_ishl hx hb dX12_waits_11 ?_
  refine lv_iload_n hx hb dX12_waits_12 rfl (lv_at hl 2 rfl) ?_
  refine lv_ior hx hb dX12_waits_13 ?_
  obtain ⟨hi14, hg⟩ := gd_some hg
  refine wmsA_59 S X hi14 dX12_waits_14 (fun H locs X => ?_)
  refine lv_aload_n hx hb dX12_waits_15 rfl (lv_at hl 0 rfl) ?_
  refine wmgR_0_118 S X mG_2168 dX12_waits_16 ?_
  refine lv_aload_n hx hb dX12_waits_19 rfl (lv_at hl 0 rfl) ?_
  refine wmgI_48 (v := (gI σ 48)) S X mG_2166 rfl dX12_waits_20 ?_
  refine lv_aload_n hx hb dX12_waits_23 rfl (lv_at hl 0 rfl) ?_
  refine wmgI_50 (v := (gI σ 50)) S X mG_2172 rfl dX12_waits_24 ?_
  obtain ⟨hi27, hg⟩ := gd_some hg
  refine wmsA_60 S X hi27 dX12_waits_27 (fun H locs X => ?_)
  refine lv_aload_n hx hb dX12_waits_28 rfl (lv_at hl 0 rfl) ?_
  refine wmgR_0_119 S X mG_2169 dX12_waits_29 ?_
  refine lv_aload_n hx hb dX12_waits_32 rfl (lv_at hl 0 rfl) ?_
  refine wmgI_48 (v := (gI σ 48)) S X mG_2166 rfl dX12_waits_33 ?_
  refine lv_iload_n hx hb dX12_waits_36 rfl (lv_at hl 3 rfl) ?_
  obtain ⟨hi37, hg⟩ := gd_some hg
  refine wmsA_61 S X hi37 dX12_waits_37 (fun H locs X => ?_)
  refine lv_aload_n hx hb dX12_waits_38 rfl (lv_at hl 0 rfl) ?_
  refine lv_dup hx hb dX12_waits_39 rfl ?_
  refine wmgI_48 (v := (gI σ 48)) S X mG_2166 rfl dX12_waits_40 ?_
  refine lv_iconst (v := 1) hx hb dX12_waits_43 (by decide) ?_
  refine lv_iadd hx hb dX12_waits_44 ?_
  refine wmpI_48 S X mG_2166 dX12_waits_45 (fun H locs X => ?_)
  obtain ⟨-, rfl⟩ := fin_some hg
  exact gr_v S hr hk X dX12_waits_48
end MX12_waits
set_option maxRecDepth 100000 in
theorem k2_X12_waits (l : Launch) (dC : Nat → ClassId) (dI : Nat → Nat → Nat) {Z : ZZ} (ad : Nat → Nat) (kc : Nat → ClassId) {σ τ : S5} {a1 : Int32} {a2 : Int32} {a3 : Int32} {r : Unit} (hg : f_X12_waits a1 a2 a3 σ = some (r, τ)) (sz : Nat) : Met l yX12_waits (Cond.code yX12_waits cX12_waits 4 none :: uG) { frames := 0, cells := 0, slots := 0, locals := 0 } (gPc (dC, dI) (tM kc) (wM ad kc) Z [.ref (ad 0), .int a1, .int a2, .int a3] σ sz) (gQv (dC, dI) (tM kc) (wM ad kc) (va_A (wM ad kc σ) sz) r τ) 0 0 (va_A (wM ad kc σ) sz) :=
  g_start (by decide) (Nat.le_of_ble_eq_true rfl) (fun p e s m below meth c ls S hr hk X hl => w_X12_waits S hr hk ⟨Nat.le_refl _, Nat.le_refl _⟩ X hl hg)
section MX12_evaluate
variable {p : Program} {l : Launch} {e : Env} {R : Room} {s : State} {m : MethodId} {args : Array Value} {below : List Frame} {meth : Method} {c : Code} {dC : Nat → ClassId} {dI : Nat → Nat → Nat} {Z : ZZ} {A : Nat → Prop} {ad : Nat → Nat} {kc : Nat → ClassId} {r : Unit} {τ : S5}
set_option maxHeartbeats 4000000 in
set_option maxRecDepth 100000 in
theorem w_X12_evaluate {σ : S5} {a1 : Int32} {H : Heap} {locs : List Loc} {ls : Array Slot} (S : CallFix p m c cX12_evaluate 2 s args uG RX12) (hr : meth.sig.returnType = none) (hk : meth.locks = false) (hR : 0 ≤ R.frames ∧ 0 ≤ R.locals)
    (X : gX (dC, dI) (tM kc) (wM ad kc) Z A s σ H locs) (hl : lv_has ls 2 [(0, .ref (ad 0)), (1, .int a1)]) (hg : f_X12_evaluate a1 σ = some (r, τ)) : W p l e R s m args below meth c H locs 0 0 (MQ below (gQv (dC, dI) (tM kc) (wM ad kc) A r τ) args s 0 0 A) (F0 m 0 ls []) := by
  have hx := S.1
  have hb := S.2.1
  have hown := S.2.2.2.1
  have hu := S.2.2.2.2
  unfold f_X12_evaluate at hg
  refine lv_aload_n hx hb dX12_evaluate_0 rfl (lv_at hl 0 rfl) ?_
  refine lv_iload_n hx hb dX12_evaluate_1 rfl (lv_at hl 1 rfl) ?_
  refine wmpI_52 S X mG_2175 dX12_evaluate_2 (fun H locs X => ?_)
  refine lv_aload_n hx hb dX12_evaluate_5 rfl (lv_at hl 0 rfl) ?_
  refine lv_iconst (v := 0) hx hb dX12_evaluate_6 (by decide) ?_
  refine wmpI_53 S X mG_2176 (Or.inl rfl) dX12_evaluate_7 (fun H locs X => ?_)
  obtain ⟨-, rfl⟩ := fin_some hg
  exact gr_v S hr hk X dX12_evaluate_10
end MX12_evaluate
set_option maxRecDepth 100000 in
theorem k2_X12_evaluate (l : Launch) (dC : Nat → ClassId) (dI : Nat → Nat → Nat) {Z : ZZ} (ad : Nat → Nat) (kc : Nat → ClassId) {σ τ : S5} {a1 : Int32} {r : Unit} (hg : f_X12_evaluate a1 σ = some (r, τ)) (sz : Nat) : Met l yX12_evaluate (Cond.code yX12_evaluate cX12_evaluate 2 none :: uG) { frames := 0, cells := 0, slots := 0, locals := 0 } (gPc (dC, dI) (tM kc) (wM ad kc) Z [.ref (ad 0), .int a1] σ sz) (gQv (dC, dI) (tM kc) (wM ad kc) (va_A (wM ad kc σ) sz) r τ) 0 0 (va_A (wM ad kc σ) sz) :=
  g_start (by decide) (Nat.le_of_ble_eq_true rfl) (fun p e s m below meth c ls S hr hk X hl => w_X12_evaluate S hr hk ⟨Nat.le_refl _, Nat.le_refl _⟩ X hl hg)
section MX12_gives
variable {p : Program} {l : Launch} {e : Env} {R : Room} {s : State} {m : MethodId} {args : Array Value} {below : List Frame} {meth : Method} {c : Code} {dC : Nat → ClassId} {dI : Nat → Nat → Nat} {Z : ZZ} {A : Nat → Prop} {ad : Nat → Nat} {kc : Nat → ClassId} {r : Unit} {τ : S5}
set_option maxHeartbeats 4000000 in
set_option maxRecDepth 100000 in
theorem w_X12_gives {σ : S5} {a1 : Int64} {H : Heap} {locs : List Loc} {ls : Array Slot} (S : CallFix p m c cX12_gives 3 s args uG RX12) (hr : meth.sig.returnType = none) (hk : meth.locks = false) (hR : 0 ≤ R.frames ∧ 0 ≤ R.locals)
    (X : gX (dC, dI) (tM kc) (wM ad kc) Z A s σ H locs) (hl : lv_has ls 3 [(0, .ref (ad 0)), (1, .long a1)]) (hg : f_X12_gives a1 σ = some (r, τ)) : W p l e R s m args below meth c H locs 0 0 (MQ below (gQv (dC, dI) (tM kc) (wM ad kc) A r τ) args s 0 0 A) (F0 m 0 ls []) := by
  have hx := S.1
  have hb := S.2.1
  have hown := S.2.2.2.1
  have hu := S.2.2.2.2
  unfold f_X12_gives at hg
  refine lv_aload_n hx hb dX12_gives_0 rfl (lv_at hl 0 rfl) ?_
  refine lv_lload_n hx hb dX12_gives_1 rfl (lv_at hl 1 rfl) ?_
  refine wmpJ_1 S X mG_2177 dX12_gives_2 (fun H locs X => ?_)
  refine lv_aload_n hx hb dX12_gives_5 rfl (lv_at hl 0 rfl) ?_
  refine lv_iconst (v := 1) hx hb dX12_gives_6 (by decide) ?_
  refine wmpI_53 S X mG_2176 (Or.inr rfl) dX12_gives_7 (fun H locs X => ?_)
  obtain ⟨-, rfl⟩ := fin_some hg
  exact gr_v S hr hk X dX12_gives_10
end MX12_gives
set_option maxRecDepth 100000 in
theorem k2_X12_gives (l : Launch) (dC : Nat → ClassId) (dI : Nat → Nat → Nat) {Z : ZZ} (ad : Nat → Nat) (kc : Nat → ClassId) {σ τ : S5} {a1 : Int64} {r : Unit} (hg : f_X12_gives a1 σ = some (r, τ)) (sz : Nat) : Met l yX12_gives (Cond.code yX12_gives cX12_gives 3 none :: uG) { frames := 0, cells := 0, slots := 0, locals := 0 } (gPc (dC, dI) (tM kc) (wM ad kc) Z [.ref (ad 0), .long a1] σ sz) (gQv (dC, dI) (tM kc) (wM ad kc) (va_A (wM ad kc σ) sz) r τ) 0 0 (va_A (wM ad kc σ) sz) :=
  g_start (by decide) (Nat.le_of_ble_eq_true rfl) (fun p e s m below meth c ls S hr hk X hl => w_X12_gives S hr hk ⟨Nat.le_refl _, Nat.le_refl _⟩ X hl hg)
section MX12_newCell
variable {p : Program} {l : Launch} {e : Env} {R : Room} {s : State} {m : MethodId} {args : Array Value} {below : List Frame} {meth : Method} {c : Code} {dC : Nat → ClassId} {dI : Nat → Nat → Nat} {Z : ZZ} {A : Nat → Prop} {ad : Nat → Nat} {kc : Nat → ClassId} {r : Int32} {τ : S5}
set_option maxHeartbeats 4000000 in
set_option maxRecDepth 100000 in
theorem w_X12_newCell_b156 {σ : S5} {v5 : Int32} {u0 : Int32} {u1 : Int32} {H : Heap} {locs : List Loc} {ls : Array Slot} (S : CallFix p m c cX12_newCell 6 s args uG RX12) (hr : meth.sig.returnType = (some .int)) (hk : meth.locks = false) (hR : 1 ≤ R.frames ∧ 22 ≤ R.locals)
    (X : gX (dC, dI) (tM kc) (wM ad kc) Z A s σ H locs) (hl : lv_has ls 6 [(5, .int v5)]) (hg : f_X12_newCell_b156 v5 u0 u1 σ = some (r, τ)) : W p l e R s m args below meth c H locs 0 0 (MQ below (gQi (dC, dI) (tM kc) (wM ad kc) A r τ) args s 0 0 A) (F0 m 156 ls [.int u0, .int u1, .ref (ad 0)]) := by
  have hx := S.1
  have hb := S.2.1
  have hown := S.2.2.2.1
  have hu := S.2.2.2.2
  unfold f_X12_newCell_b156 at hg
  refine lv_iadd hx hb dX12_newCell_156 ?_
  refine wmpI_41 S X mG_2157 dX12_newCell_157 (fun H locs X => ?_)
  refine lv_iload hx hb dX12_newCell_160 (lv_at hl 0 rfl) ?_
  obtain ⟨rfl, rfl⟩ := fin_some hg
  exact gr_i S hr hk X dX12_newCell_162
set_option maxHeartbeats 4000000 in
set_option maxRecDepth 100000 in
theorem w_X12_newCell_b138 {σ : S5} {v1 : Int32} {v5 : Int32} {u0 : Int32} {u1 : Int32} {H : Heap} {locs : List Loc} {ls : Array Slot} (S : CallFix p m c cX12_newCell 6 s args uG RX12) (hr : meth.sig.returnType = (some .int)) (hk : meth.locks = false) (hR : 1 ≤ R.frames ∧ 22 ≤ R.locals)
    (X : gX (dC, dI) (tM kc) (wM ad kc) Z A s σ H locs) (hl : lv_has ls 6 [(0, .ref (ad 0)), (1, .int v1), (5, .int v5)]) (hg : f_X12_newCell_b138 v1 v5 u0 u1 σ = some (r, τ)) : W p l e R s m args below meth c H locs 0 0 (MQ below (gQi (dC, dI) (tM kc) (wM ad kc) A r τ) args s 0 0 A) (F0 m 138 ls [.int u0, .int u1, .ref (ad 0)]) := by
  have hx := S.1
  have hb := S.2.1
  have hown := S.2.2.2.1
  have hu := S.2.2.2.2
  unfold f_X12_newCell_b138 at hg
  refine lv_iadd hx hb dX12_newCell_138 ?_
  refine wmpI_40 S X mG_2156 dX12_newCell_139 (fun H locs X => ?_)
  refine lv_aload_n hx hb dX12_newCell_142 rfl (lv_at hl 0 rfl) ?_
  refine lv_dup hx hb dX12_newCell_143 rfl ?_
  refine wmgI_41 (v := (gI σ 41)) S X mG_2157 rfl dX12_newCell_144 ?_
  refine lv_iload_n hx hb dX12_newCell_147 rfl (lv_at hl 1 rfl) ?_
  refine lv_if_ne (tgt := 155) hx hb dX12_newCell_148 (by decide) (fun c148 => ?_) (fun c148 => ?_)
  · have hg := (if_neg c148).symm.trans hg
    refine lv_iconst (v := 0) hx hb dX12_newCell_155 (by decide) ?_
    exact w_X12_newCell_b156 S hr hk hR X (lv_sub hl [2] rfl) hg
  · have hg := (if_pos c148).symm.trans hg
    refine lv_iconst (v := 1) hx hb dX12_newCell_151 (by decide) ?_
    refine lv_goto (tgt := 156) hx hb dX12_newCell_152 (by decide) ?_
    exact w_X12_newCell_b156 S hr hk hR X (lv_sub hl [2] rfl) hg
set_option maxHeartbeats 4000000 in
set_option maxRecDepth 100000 in
theorem w_X12_newCell_b119 {σ : S5} {v1 : Int32} {v5 : Int32} {u0 : Int32} {u1 : Int32} {H : Heap} {locs : List Loc} {ls : Array Slot} (S : CallFix p m c cX12_newCell 6 s args uG RX12) (hr : meth.sig.returnType = (some .int)) (hk : meth.locks = false) (hR : 1 ≤ R.frames ∧ 22 ≤ R.locals)
    (X : gX (dC, dI) (tM kc) (wM ad kc) Z A s σ H locs) (hl : lv_has ls 6 [(0, .ref (ad 0)), (1, .int v1), (5, .int v5)]) (hg : f_X12_newCell_b119 v1 v5 u0 u1 σ = some (r, τ)) : W p l e R s m args below meth c H locs 0 0 (MQ below (gQi (dC, dI) (tM kc) (wM ad kc) A r τ) args s 0 0 A) (F0 m 119 ls [.int u0, .int u1, .ref (ad 0)]) := by
  have hx := S.1
  have hb := S.2.1
  have hown := S.2.2.2.1
  have hu := S.2.2.2.2
  unfold f_X12_newCell_b119 at hg
  refine lv_iadd hx hb dX12_newCell_119 ?_
  refine wmpI_39 S X mG_2155 dX12_newCell_120 (fun H locs X => ?_)
  refine lv_aload_n hx hb dX12_newCell_123 rfl (lv_at hl 0 rfl) ?_
  refine lv_dup hx hb dX12_newCell_124 rfl ?_
  refine wmgI_40 (v := (gI σ 40)) S X mG_2156 rfl dX12_newCell_125 ?_
  refine lv_iload_n hx hb dX12_newCell_128 rfl (lv_at hl 1 rfl) ?_
  refine lv_iconst (v := 1) hx hb dX12_newCell_129 (by decide) ?_
  refine lv_icmp_ne (tgt := 137) hx hb dX12_newCell_130 (by decide) (fun c130 => ?_) (fun c130 => ?_)
  · have hg := (if_neg c130).symm.trans hg
    refine lv_iconst (v := 0) hx hb dX12_newCell_137 (by decide) ?_
    exact w_X12_newCell_b138 S hr hk hR X (lv_sub hl [0, 1, 2] rfl) hg
  · have hg := (if_pos c130).symm.trans hg
    refine lv_iconst (v := 1) hx hb dX12_newCell_133 (by decide) ?_
    refine lv_goto (tgt := 138) hx hb dX12_newCell_134 (by decide) ?_
    exact w_X12_newCell_b138 S hr hk hR X (lv_sub hl [0, 1, 2] rfl) hg
set_option maxHeartbeats 4000000 in
set_option maxRecDepth 100000 in
theorem w_X12_newCell {σ : S5} {a1 : Int32} {a2 : Int32} {a3 : Int32} {a4 : Int32} {H : Heap} {locs : List Loc} {ls : Array Slot} (S : CallFix p m c cX12_newCell 6 s args uG RX12) (hr : meth.sig.returnType = (some .int)) (hk : meth.locks = false) (hR : 1 ≤ R.frames ∧ 22 ≤ R.locals)
    (X : gX (dC, dI) (tM kc) (wM ad kc) Z A s σ H locs) (hl : lv_has ls 6 [(0, .ref (ad 0)), (1, .int a1), (2, .int a2), (3, .int a3), (4, .int a4)]) (hg : f_X12_newCell a1 a2 a3 a4 σ = some (r, τ)) : W p l e R s m args below meth c H locs 0 0 (MQ below (gQi (dC, dI) (tM kc) (wM ad kc) A r τ) args s 0 0 A) (F0 m 0 ls []) := by
  have hx := S.1
  have hb := S.2.1
  have hown := S.2.2.2.1
  have hu := S.2.2.2.2
  unfold f_X12_newCell at hg
  refine lv_aload_n hx hb dX12_newCell_0 rfl (lv_at hl 0 rfl) ?_
  refine wmgI_34 (v := (gI σ 34)) S X mG_2150 rfl dX12_newCell_1 ?_
  refine lv_iload hx hb dX12_newCell_4 (lv_at hl 4 rfl) ?_
  refine lv_iadd hx hb dX12_newCell_6 ?_
  refine lv_sipush (v := 4000) hx hb dX12_newCell_7 (by decide) ?_
  refine lv_icmp_le (tgt := 21) hx hb dX12_newCell_10 (by decide) (fun c10 => ?_) (fun c10 => ?_)
  · have hg := (if_pos c10).symm.trans hg
    refine lv_aload_n hx hb dX12_newCell_21 rfl (lv_at hl 0 rfl) ?_
    refine lv_dup hx hb dX12_newCell_22 rfl ?_
    refine wmgI_34 (v := (gI σ 34)) S X mG_2150 rfl dX12_newCell_23 ?_
    refine lv_iload hx hb dX12_newCell_26 (lv_at hl 4 rfl) ?_
    refine lv_iadd hx hb dX12_newCell_28 ?_
    refine wmpI_34 S X mG_2150 dX12_newCell_29 (fun H locs X => ?_)
    refine lv_aload_n hx hb dX12_newCell_32 rfl (lv_at hl 0 rfl) ?_
    refine lv_dup hx hb dX12_newCell_33 rfl ?_
    refine wmgI_35 (v := (gI σ 35)) S X mG_2151 rfl dX12_newCell_34 ?_
    refine lv_iload hx hb dX12_newCell_37 (lv_at hl 4 rfl) ?_
    refine lv_iadd hx hb dX12_newCell_39 ?_
    refine wmpI_35 S X mG_2151 dX12_newCell_40 (fun H locs X => ?_)
    refine lv_aload_n hx hb dX12_newCell_43 rfl (lv_at hl 0 rfl) ?_
    refine wmgI_32 (v := (gI σ 32)) S X mG_2147 rfl dX12_newCell_44 ?_
    refine lv_istore (lv' := [(5, .int (gI σ 32)), (0, .ref (ad 0)), (1, .int a1), (2, .int a2), (3, .int a3), (4, .int a4)]) hx hb dX12_newCell_47 hl (by decide) rfl (fun ls hl => ?_)
    refine lv_aload_n hx hb dX12_newCell_49 rfl (lv_at hl 1 rfl) ?_
    refine lv_dup hx hb dX12_newCell_50 rfl ?_
    refine wmgI_32 (v := (gI σ 32)) S X mG_2147 rfl dX12_newCell_51 ?_
    refine lv_iconst (v := 1) hx hb dX12_newCell_54 (by decide) ?_
    refine lv_iadd hx hb dX12_newCell_55 ?_
    refine wmpI_32 S X mG_2147 dX12_newCell_56 (fun H locs X => ?_)
    refine lv_aload_n hx hb dX12_newCell_59 rfl (lv_at hl 1 rfl) ?_
    refine wmgR_0_92 S X mG_2142 dX12_newCell_60 ?_
    refine lv_iload hx hb dX12_newCell_63 (lv_at hl 0 rfl) ?_
    refine lv_iload_n hx hb dX12_newCell_65 rfl (lv_at hl 2 rfl) ?_
    obtain ⟨hi66, hg⟩ := gd_some hg
    refine wmsA_53 S X hi66 dX12_newCell_66 (fun H locs X => ?_)
    refine lv_aload_n hx hb dX12_newCell_67 rfl (lv_at hl 1 rfl) ?_
    refine wmgR_0_93 S X mG_2143 dX12_newCell_68 ?_
    refine lv_iload hx hb dX12_newCell_71 (lv_at hl 0 rfl) ?_
    refine lv_iload_n hx hb dX12_newCell_73 rfl (lv_at hl 3 rfl) ?_
    obtain ⟨hi74, hg⟩ := gd_some hg
    refine wmsA_54 S X hi74 dX12_newCell_74 (fun H locs X => ?_)
    refine lv_aload_n hx hb dX12_newCell_75 rfl (lv_at hl 1 rfl) ?_
    refine wmgR_0_95 S X mG_2145 dX12_newCell_76 ?_
    refine lv_iload hx hb dX12_newCell_79 (lv_at hl 0 rfl) ?_
    refine lv_aload_n hx hb dX12_newCell_81 rfl (lv_at hl 1 rfl) ?_
    refine wmgI_33 (v := (gI σ 33)) S X mG_2148 rfl dX12_newCell_82 ?_
    obtain ⟨hi85, hg⟩ := gd_some hg
    refine wmsA_55 S X hi85 dX12_newCell_85 (fun H locs X => ?_)
    refine lv_aload_n hx hb dX12_newCell_86 rfl (lv_at hl 1 rfl) ?_
    refine wmgR_0_96 S X mG_2146 dX12_newCell_87 ?_
    refine lv_iload hx hb dX12_newCell_90 (lv_at hl 0 rfl) ?_
    refine lv_iload_n hx hb dX12_newCell_92 rfl (lv_at hl 4 rfl) ?_
    obtain ⟨hi93, hg⟩ := gd_some hg
    refine wmsA_56 S X hi93 dX12_newCell_93 (fun H locs X => ?_)
    refine lv_aload_n hx hb dX12_newCell_94 rfl (lv_at hl 1 rfl) ?_
    refine lv_dup hx hb dX12_newCell_95 rfl ?_
    refine wmgI_33 (v := (gI σ 33)) S X mG_2148 rfl dX12_newCell_96 ?_
    refine lv_iload_n hx hb dX12_newCell_99 rfl (lv_at hl 4 rfl) ?_
    refine lv_iadd hx hb dX12_newCell_100 ?_
    refine wmpI_33 S X mG_2148 dX12_newCell_101 (fun H locs X => ?_)
    refine lv_aload_n hx hb dX12_newCell_104 rfl (lv_at hl 1 rfl) ?_
    refine lv_dup hx hb dX12_newCell_105 rfl ?_
    refine wmgI_39 (v := (gI σ 39)) S X mG_2155 rfl dX12_newCell_106 ?_
    refine lv_iload_n hx hb dX12_newCell_109 rfl (lv_at hl 2 rfl) ?_
    refine lv_iconst (v := 2) hx hb dX12_newCell_110 (by decide) ?_
    refine lv_icmp_ne (tgt := 118) hx hb dX12_newCell_111 (by decide) (fun c111 => ?_) (fun c111 => ?_)
    · have hg := (if_neg c111).symm.trans hg
      refine lv_iconst (v := 0) hx hb dX12_newCell_118 (by decide) ?_
      exact w_X12_newCell_b119 S hr hk hR X (lv_sub hl [1, 2, 0] rfl) hg
    · have hg := (if_pos c111).symm.trans hg
      refine lv_iconst (v := 1) hx hb dX12_newCell_114 (by decide) ?_
      refine lv_goto (tgt := 119) hx hb dX12_newCell_115 (by decide) ?_
      exact w_X12_newCell_b119 S hr hk hR X (lv_sub hl [1, 2, 0] rfl) hg
  · have hg := (if_neg c10).symm.trans hg
    refine lv_aload_n hx hb dX12_newCell_13 rfl (lv_at hl 0 rfl) ?_
    refine lv_iconst (v := 3) hx hb dX12_newCell_14 (by decide) ?_
    refine lv_iconst (v := 2) hx hb dX12_newCell_15 (by decide) ?_
    obtain ⟨r16, τ16, hq16, hg⟩ := bd_some hg
    refine gc_Vv (As := [.int 3, .int 2]) (rest := []) (q0 := 0) (ci := 15) S X (k2_X12_ends l dC dI ad kc hq16 H.size) cw_X12_ends mG_2785 rfl rfl rfl rfl rfl hl.1 (Nat.le_of_ble_eq_true rfl) dX12_newCell_16 ⟨by omega, by omega⟩ (fun H locs X => ?_)
    refine lv_iconst (v := (-1)) hx hb dX12_newCell_19 (by decide) ?_
    obtain ⟨rfl, rfl⟩ := fin_some hg
    exact gr_i S hr hk X dX12_newCell_20
end MX12_newCell
set_option maxRecDepth 100000 in
theorem k2_X12_newCell (l : Launch) (dC : Nat → ClassId) (dI : Nat → Nat → Nat) {Z : ZZ} (ad : Nat → Nat) (kc : Nat → ClassId) {σ τ : S5} {a1 : Int32} {a2 : Int32} {a3 : Int32} {a4 : Int32} {r : Int32} (hg : f_X12_newCell a1 a2 a3 a4 σ = some (r, τ)) (sz : Nat) : Met l yX12_newCell (Cond.code yX12_newCell cX12_newCell 6 (some .int) :: uG) { frames := 1, cells := 0, slots := 0, locals := 22 } (gPc (dC, dI) (tM kc) (wM ad kc) Z [.ref (ad 0), .int a1, .int a2, .int a3, .int a4] σ sz) (gQi (dC, dI) (tM kc) (wM ad kc) (va_A (wM ad kc σ) sz) r τ) 0 0 (va_A (wM ad kc σ) sz) :=
  g_start (by decide) (Nat.le_of_ble_eq_true rfl) (fun p e s m below meth c ls S hr hk X hl => w_X12_newCell S hr hk ⟨Nat.le_refl _, Nat.le_refl _⟩ X hl hg)
section MX12_isLess
variable {p : Program} {l : Launch} {e : Env} {R : Room} {s : State} {m : MethodId} {args : Array Value} {below : List Frame} {meth : Method} {c : Code} {dC : Nat → ClassId} {dI : Nat → Nat → Nat} {Z : ZZ} {A : Nat → Prop} {ad : Nat → Nat} {kc : Nat → ClassId} {r : Int32} {τ : S5}
set_option maxHeartbeats 4000000 in
set_option maxRecDepth 100000 in
theorem w_X12_isLess {σ : S5} {a1 : Int32} {H : Heap} {locs : List Loc} {ls : Array Slot} (S : CallFix p m c cX12_isLess 2 s args uG RX12) (hr : meth.sig.returnType = (some .boolean)) (hk : meth.locks = false) (hR : 1 ≤ R.frames ∧ 22 ≤ R.locals)
    (X : gX (dC, dI) (tM kc) (wM ad kc) Z A s σ H locs) (hl : lv_has ls 2 [(0, .ref (ad 0)), (1, .int a1)]) (hg : f_X12_isLess a1 σ = some (r, τ)) : W p l e R s m args below meth c H locs 0 0 (MQ below (gQi (dC, dI) (tM kc) (wM ad kc) A r τ) args s 0 0 A) (F0 m 0 ls []) := by
  have hx := S.1
  have hb := S.2.1
  have hown := S.2.2.2.1
  have hu := S.2.2.2.2
  unfold f_X12_isLess at hg
  refine lv_aload_n hx hb dX12_isLess_0 rfl (lv_at hl 0 rfl) ?_
  refine wmgR_0_64 S X mG_2114 dX12_isLess_1 ?_
  refine lv_iload_n hx hb dX12_isLess_4 rfl (lv_at hl 1 rfl) ?_
  obtain ⟨hi5, hg⟩ := gd_some hg
  refine wmlA_31 (v := (xA σ 31 a1)) S X hi5 rfl dX12_isLess_5 ?_
  refine lv_bipush (v := 6) hx hb dX12_isLess_6 (by decide) ?_
  refine lv_icmp_ne (tgt := 27) hx hb dX12_isLess_8 (by decide) (fun c8 => ?_) (fun c8 => ?_)
  · have hg := (if_neg c8).symm.trans hg
    refine lv_iconst (v := 0) hx hb dX12_isLess_27 (by decide) ?_
    obtain ⟨rfl, rfl⟩ := fin_some hg
    exact gr_z S hr hk X (Or.inl rfl) dX12_isLess_28
  · have hg := (if_pos c8).symm.trans hg
    refine lv_aload_n hx hb dX12_isLess_11 rfl (lv_at hl 0 rfl) ?_
    refine wmgR_0_64 S X mG_2114 dX12_isLess_12 ?_
    refine lv_aload_n hx hb dX12_isLess_15 rfl (lv_at hl 0 rfl) ?_
    refine lv_iload_n hx hb dX12_isLess_16 rfl (lv_at hl 1 rfl) ?_
    refine lv_iconst (v := 0) hx hb dX12_isLess_17 (by decide) ?_
    obtain ⟨r18, τ18, hq18, hg⟩ := bd_some hg
    refine gc_Vi (As := [.int a1, .int 0]) (rest := [.ref (ad 37)]) (q0 := 0) (ci := 15) S X (k2_X12_child l dC dI ad kc hq18 H.size) cw_X12_child mG_2736 rfl rfl rfl rfl rfl hl.1 (Nat.le_of_ble_eq_true rfl) dX12_isLess_18 ⟨by omega, by omega⟩ (fun H locs X => ?_)
    obtain ⟨hi21, hg⟩ := gd_some hg
    refine wmlA_31 (v := (xA τ18 31 r18)) S X hi21 rfl dX12_isLess_21 ?_
    refine lv_bipush (v := 12) hx hb dX12_isLess_22 (by decide) ?_
    refine lv_icmp_eq (tgt := 29) hx hb dX12_isLess_24 (by decide) (fun c24 => ?_) (fun c24 => ?_)
    · have hg := (if_pos c24).symm.trans hg
      refine lv_aload_n hx hb dX12_isLess_29 rfl (lv_at hl 0 rfl) ?_
      refine wmgR_0_67 S X mG_2117 dX12_isLess_30 ?_
      refine lv_iload_n hx hb dX12_isLess_33 rfl (lv_at hl 1 rfl) ?_
      obtain ⟨hi34, hg⟩ := gd_some hg
      refine wmlA_34 (v := (xA τ18 34 a1)) S X hi34 rfl dX12_isLess_34 ?_
      refine lv_iconst (v := 1) hx hb dX12_isLess_35 (by decide) ?_
      refine lv_isub hx hb dX12_isLess_36 ?_
      refine lv_aload_n hx hb dX12_isLess_37 rfl (lv_at hl 0 rfl) ?_
      refine wmgR_0_82 S X mG_2132 dX12_isLess_38 ?_
      refine lv_aload_n hx hb dX12_isLess_41 rfl (lv_at hl 0 rfl) ?_
      refine wmgR_0_65 S X mG_2115 dX12_isLess_42 ?_
      refine lv_aload_n hx hb dX12_isLess_45 rfl (lv_at hl 0 rfl) ?_
      refine lv_iload_n hx hb dX12_isLess_46 rfl (lv_at hl 1 rfl) ?_
      refine lv_iconst (v := 0) hx hb dX12_isLess_47 (by decide) ?_
      obtain ⟨r48, τ48, hq48, hg⟩ := bd_some hg
      refine gc_Vi (As := [.int a1, .int 0]) (rest := [.ref (ad 38), .ref (ad 54), .int ((xA τ18 34 a1) - 1)]) (q0 := 0) (ci := 15) S X (k2_X12_child l dC dI ad kc hq48 H.size) cw_X12_child mG_2736 rfl rfl rfl rfl rfl hl.1 (Nat.le_of_ble_eq_true rfl) dX12_isLess_48 ⟨by omega, by omega⟩ (fun H locs X => ?_)
      obtain ⟨hi51, hg⟩ := gd_some hg
      refine wmlA_32 (v := (xA τ48 32 r48)) S X hi51 rfl dX12_isLess_51 ?_
      obtain ⟨hi52, hg⟩ := gd_some hg
      refine wmlA_47 (v := (xA τ48 47 (xA τ48 32 r48))) S X hi52 rfl dX12_isLess_52 ?_
      refine lv_icmp_ge (tgt := 60) hx hb dX12_isLess_53 (by decide) (fun c53 => ?_) (fun c53 => ?_)
      · have hg := (if_pos c53).symm.trans hg
        refine lv_iconst (v := 0) hx hb dX12_isLess_60 (by decide) ?_
        obtain ⟨rfl, rfl⟩ := fin_some hg
        exact gr_z S hr hk X (Or.inl rfl) dX12_isLess_61
      · have hg := (if_neg c53).symm.trans hg
        refine lv_iconst (v := 1) hx hb dX12_isLess_56 (by decide) ?_
        refine lv_goto (tgt := 61) hx hb dX12_isLess_57 (by decide) ?_
        obtain ⟨rfl, rfl⟩ := fin_some hg
        exact gr_z S hr hk X (Or.inr rfl) dX12_isLess_61
    · have hg := (if_neg c24).symm.trans hg
      refine lv_iconst (v := 0) hx hb dX12_isLess_27 (by decide) ?_
      obtain ⟨rfl, rfl⟩ := fin_some hg
      exact gr_z S hr hk X (Or.inl rfl) dX12_isLess_28
end MX12_isLess
set_option maxRecDepth 100000 in
theorem k2_X12_isLess (l : Launch) (dC : Nat → ClassId) (dI : Nat → Nat → Nat) {Z : ZZ} (ad : Nat → Nat) (kc : Nat → ClassId) {σ τ : S5} {a1 : Int32} {r : Int32} (hg : f_X12_isLess a1 σ = some (r, τ)) (sz : Nat) : Met l yX12_isLess (Cond.code yX12_isLess cX12_isLess 2 (some .boolean) :: uG) { frames := 1, cells := 0, slots := 0, locals := 22 } (gPc (dC, dI) (tM kc) (wM ad kc) Z [.ref (ad 0), .int a1] σ sz) (gQi (dC, dI) (tM kc) (wM ad kc) (va_A (wM ad kc σ) sz) r τ) 0 0 (va_A (wM ad kc σ) sz) :=
  g_start (by decide) (Nat.le_of_ble_eq_true rfl) (fun p e s m below meth c ls S hr hk X hl => w_X12_isLess S hr hk ⟨Nat.le_refl _, Nat.le_refl _⟩ X hl hg)
section MX12_ones
variable {p : Program} {l : Launch} {e : Env} {R : Room} {s : State} {m : MethodId} {args : Array Value} {below : List Frame} {meth : Method} {c : Code} {dC : Nat → ClassId} {dI : Nat → Nat → Nat} {Z : ZZ} {A : Nat → Prop} {ad : Nat → Nat} {kc : Nat → ClassId} {r : Int32} {τ : S5}
set_option maxHeartbeats 4000000 in
set_option maxRecDepth 100000 in
theorem w_X12_ones_B4 {σ : S5} {rec4 : Int32 → Int64 → S5 → Option (Int32 × S5)} {v2 : Int32} {v3 : Int64} {H : Heap} {locs : List Loc} {ls : Array Slot} (S : CallFix p m c cX12_ones 5 s args uG RX12) (hr : meth.sig.returnType = (some .int)) (hk : meth.locks = false) (hR : 0 ≤ R.frames ∧ 0 ≤ R.locals)
    (hrec4 : ∀ (v2 : Int32) (v3 : Int64) (σ : S5) (H : Heap) (locs : List Loc) (ls : Array Slot), gX (dC, dI) (tM kc) (wM ad kc) Z A s σ H locs → lv_has ls 5 [(2, .int v2), (3, .long v3)] → rec4 v2 v3 σ = some (r, τ) → W p l e R s m args below meth c H locs 0 0 (MQ below (gQi (dC, dI) (tM kc) (wM ad kc) A r τ) args s 0 0 A) (F0 m 4 ls []))
    (X : gX (dC, dI) (tM kc) (wM ad kc) Z A s σ H locs) (hl : lv_has ls 5 [(2, .int v2), (3, .long v3)]) (hg : f_X12_ones_B4 rec4 v2 v3 σ = some (r, τ)) : W p l e R s m args below meth c H locs 0 0 (MQ below (gQi (dC, dI) (tM kc) (wM ad kc) A r τ) args s 0 0 A) (F0 m 4 ls []) := by
  have hx := S.1
  have hb := S.2.1
  have hown := S.2.2.2.1
  have hu := S.2.2.2.2
  unfold f_X12_ones_B4 at hg
  refine lv_lload_n hx hb dX12_ones_4 rfl (lv_at hl 1 rfl) ?_
  refine lv_lconst (v := 0) hx hb dX12_ones_5 rfl ?_
  refine W.lcmp hx hb dX12_ones_6 ?_
  refine lv_if_eq (tgt := 22) hx hb dX12_ones_7 (by decide) (fun c7 => ?_) (fun c7 => ?_)
  · have hg := (if_pos c7).symm.trans hg
    refine lv_iload_n hx hb dX12_ones_22 rfl (lv_at hl 0 rfl) ?_
    obtain ⟨rfl, rfl⟩ := fin_some hg
    exact gr_i S hr hk X dX12_ones_23
  · have hg := (if_neg c7).symm.trans hg
    refine lv_iinc (v := (v2 + 1)) (lv' := [(2, .int (v2 + 1)), (3, .long v3)]) hx hb dX12_ones_10 hl (k := 0) rfl (by rfl) (by decide) rfl (fun ls hl => ?_)
    refine lv_lload_n hx hb dX12_ones_13 rfl (lv_at hl 1 rfl) ?_
    refine lv_lload_n hx hb dX12_ones_14 rfl (lv_at hl 1 rfl) ?_
    refine lv_lconst (v := 1) hx hb dX12_ones_15 rfl ?_
    refine lv_lsub hx hb dX12_ones_16 ?_
    refine lv_land hx hb dX12_ones_17 ?_
    refine lv_lstore_n (lv' := [(3, .long (v3 &&& (v3 - 1))), (2, .int (v2 + 1))]) hx hb dX12_ones_18 rfl hl (by decide) rfl (fun ls hl => ?_)
    refine lv_goto (tgt := 4) hx hb dX12_ones_19 (by decide) ?_
    exact hrec4 _ _ _ _ _ _ X (lv_sub hl [1, 0] rfl) hg
set_option maxHeartbeats 4000000 in
set_option maxRecDepth 100000 in
theorem w_X12_ones_L4 (S : CallFix p m c cX12_ones 5 s args uG RX12) (hr : meth.sig.returnType = (some .int)) (hk : meth.locks = false) (hR : 0 ≤ R.frames ∧ 0 ≤ R.locals) : ∀ (n : Nat) (v2 : Int32) (v3 : Int64) (σ : S5) (H : Heap) (locs : List Loc) (ls : Array Slot), gX (dC, dI) (tM kc) (wM ad kc) Z A s σ H locs → lv_has ls 5 [(2, .int v2), (3, .long v3)] → f_X12_ones_L4  n v2 v3 σ = some (r, τ) → W p l e R s m args below meth c H locs 0 0 (MQ below (gQi (dC, dI) (tM kc) (wM ad kc) A r τ) args s 0 0 A) (F0 m 4 ls []) := by
  intro n
  induction n with
  | zero => intro v2 v3 σ H locs ls X hl hg; cases hg
  | succ n ih => intro v2 v3 σ H locs ls X hl hg; exact w_X12_ones_B4 S hr hk hR ih X hl hg
set_option maxHeartbeats 4000000 in
set_option maxRecDepth 100000 in
theorem w_X12_ones {σ : S5} {a0 : Int64} {H : Heap} {locs : List Loc} {ls : Array Slot} (S : CallFix p m c cX12_ones 5 s args uG RX12) (hr : meth.sig.returnType = (some .int)) (hk : meth.locks = false) (hR : 0 ≤ R.frames ∧ 0 ≤ R.locals)
    (X : gX (dC, dI) (tM kc) (wM ad kc) Z A s σ H locs) (hl : lv_has ls 5 [(0, .long a0)]) (hg : f_X12_ones a0 σ = some (r, τ)) : W p l e R s m args below meth c H locs 0 0 (MQ below (gQi (dC, dI) (tM kc) (wM ad kc) A r τ) args s 0 0 A) (F0 m 0 ls []) := by
  have hx := S.1
  have hb := S.2.1
  have hown := S.2.2.2.1
  have hu := S.2.2.2.2
  unfold f_X12_ones at hg
  refine lv_iconst (v := 0) hx hb dX12_ones_0 (by decide) ?_
  refine lv_istore_n (lv' := [(2, .int 0), (0, .long a0)]) hx hb dX12_ones_1 rfl hl (by decide) rfl (fun ls hl => ?_)
  refine lv_lload_n hx hb dX12_ones_2 rfl (lv_at hl 1 rfl) ?_
  refine lv_lstore_n (lv' := [(3, .long a0), (2, .int 0), (0, .long a0)]) hx hb dX12_ones_3 rfl hl (by decide) rfl (fun ls hl => ?_)
  exact w_X12_ones_L4 S hr hk hR _ _ _ _ _ _ _ X (lv_sub hl [1, 0] rfl) hg
end MX12_ones
set_option maxRecDepth 100000 in
theorem k2_X12_ones (l : Launch) (dC : Nat → ClassId) (dI : Nat → Nat → Nat) {Z : ZZ} (ad : Nat → Nat) (kc : Nat → ClassId) {σ τ : S5} {a0 : Int64} {r : Int32} (hg : f_X12_ones a0 σ = some (r, τ)) (sz : Nat) : Met l yX12_ones (Cond.code yX12_ones cX12_ones 5 (some .int) :: uG) { frames := 0, cells := 0, slots := 0, locals := 0 } (gPc (dC, dI) (tM kc) (wM ad kc) Z [.long a0] σ sz) (gQi (dC, dI) (tM kc) (wM ad kc) (va_A (wM ad kc σ) sz) r τ) 0 0 (va_A (wM ad kc σ) sz) :=
  g_start (by decide) (Nat.le_of_ble_eq_true rfl) (fun p e s m below meth c ls S hr hk X hl => w_X12_ones S hr hk ⟨Nat.le_refl _, Nat.le_refl _⟩ X hl hg)
section MX12_plain
variable {p : Program} {l : Launch} {e : Env} {R : Room} {s : State} {m : MethodId} {args : Array Value} {below : List Frame} {meth : Method} {c : Code} {dC : Nat → ClassId} {dI : Nat → Nat → Nat} {Z : ZZ} {A : Nat → Prop} {ad : Nat → Nat} {kc : Nat → ClassId} {r : Int64} {τ : S5}
set_option maxHeartbeats 4000000 in
set_option maxRecDepth 100000 in
theorem w_X12_plain {σ : S5} {a1 : Int32} {H : Heap} {locs : List Loc} {ls : Array Slot} (S : CallFix p m c cX12_plain 2 s args uG RX12) (hr : meth.sig.returnType = (some .long)) (hk : meth.locks = false) (hR : 1 ≤ R.frames ∧ 21 ≤ R.locals)
    (X : gX (dC, dI) (tM kc) (wM ad kc) Z A s σ H locs) (hl : lv_has ls 2 [(0, .ref (ad 0)), (1, .int a1)]) (hg : f_X12_plain a1 σ = some (r, τ)) : W p l e R s m args below meth c H locs 0 0 (MQ below (gQl (dC, dI) (tM kc) (wM ad kc) A r τ) args s 0 0 A) (F0 m 0 ls []) := by
  have hx := S.1
  have hb := S.2.1
  have hown := S.2.2.2.1
  have hu := S.2.2.2.2
  unfold f_X12_plain at hg
  refine lv_aload_n hx hb dX12_plain_0 rfl (lv_at hl 0 rfl) ?_
  refine wmgR_0_64 S X mG_2114 dX12_plain_1 ?_
  refine lv_iload_n hx hb dX12_plain_4 rfl (lv_at hl 1 rfl) ?_
  obtain ⟨hi5, hg⟩ := gd_some hg
  refine wmlA_31 (v := (xA σ 31 a1)) S X hi5 rfl dX12_plain_5 ?_
  rcases sw_9_13 ((xA σ 31 a1)) with hsw | hsw | hsw | hsw | hsw | hsw
  · refine lv_tableOut (tgt := 122) hx hb dX12_plain_6 hsw (by decide) ?_
    obtain ⟨hs0, hs1, hs2, hs3, hs4⟩ := swo_9_13 hsw
    have hg := (if_neg hs0).symm.trans hg
    have hg := (if_neg hs1).symm.trans hg
    have hg := (if_neg hs2).symm.trans hg
    have hg := (if_neg hs3).symm.trans hg
    have hg := (if_neg hs4).symm.trans hg
    refine lv_ldc2 (own := RX12) (v := (-1)) hx hb hown (hu _ mG_2735) dX12_plain_122 ?_
    obtain ⟨rfl, rfl⟩ := fin_some hg
    exact gr_l S hr hk X dX12_plain_125
  · refine lv_tableIn (off := 45) (tgt := 51) hx hb dX12_plain_6 (by rw [hsw]; decide) (by rw [hsw]; decide) (by rw [hsw]; decide) (by decide) ?_
    have hg := (if_pos hsw).symm.trans hg
    refine lv_iconst (v := 2) hx hb dX12_plain_51 (by decide) ?_
    refine lv_aload_n hx hb dX12_plain_52 rfl (lv_at hl 0 rfl) ?_
    refine wmgR_0_65 S X mG_2115 dX12_plain_53 ?_
    refine lv_iload_n hx hb dX12_plain_56 rfl (lv_at hl 1 rfl) ?_
    obtain ⟨hi57, hg⟩ := gd_some hg
    refine wmlA_32 (v := (xA σ 32 a1)) S X hi57 rfl dX12_plain_57 ?_
    obtain ⟨r58, τ58, hq58, hg⟩ := bd_some hg
    refine gc_Sl (As := [.int 2, .int (xA σ 32 a1)]) (rest := []) S X (k2_X12_value l dC dI ad kc hq58 H.size) cw_X12_value mG_2789 rfl rfl hl.1 (Nat.le_of_ble_eq_true rfl) dX12_plain_58 ⟨by omega, by omega⟩ (fun H locs X => ?_)
    obtain ⟨rfl, rfl⟩ := fin_some hg
    exact gr_l S hr hk X dX12_plain_61
  · refine lv_tableIn (off := 34) (tgt := 40) hx hb dX12_plain_6 (by rw [hsw]; decide) (by rw [hsw]; decide) (by rw [hsw]; decide) (by decide) ?_
    have hg := (if_neg (by rw [hsw]; decide)).symm.trans hg
    have hg := (if_pos hsw).symm.trans hg
    refine lv_iconst (v := 0) hx hb dX12_plain_40 (by decide) ?_
    refine lv_aload_n hx hb dX12_plain_41 rfl (lv_at hl 0 rfl) ?_
    refine wmgR_0_65 S X mG_2115 dX12_plain_42 ?_
    refine lv_iload_n hx hb dX12_plain_45 rfl (lv_at hl 1 rfl) ?_
    obtain ⟨hi46, hg⟩ := gd_some hg
    refine wmlA_32 (v := (xA σ 32 a1)) S X hi46 rfl dX12_plain_46 ?_
    obtain ⟨r47, τ47, hq47, hg⟩ := bd_some hg
    refine gc_Sl (As := [.int 0, .int (xA σ 32 a1)]) (rest := []) S X (k2_X12_value l dC dI ad kc hq47 H.size) cw_X12_value mG_2789 rfl rfl hl.1 (Nat.le_of_ble_eq_true rfl) dX12_plain_47 ⟨by omega, by omega⟩ (fun H locs X => ?_)
    obtain ⟨rfl, rfl⟩ := fin_some hg
    exact gr_l S hr hk X dX12_plain_50
  · refine lv_tableIn (off := 116) (tgt := 122) hx hb dX12_plain_6 (by rw [hsw]; decide) (by rw [hsw]; decide) (by rw [hsw]; decide) (by decide) ?_
    have hg := (if_neg (by rw [hsw]; decide)).symm.trans hg
    have hg := (if_neg (by rw [hsw]; decide)).symm.trans hg
    have hg := (if_pos hsw).symm.trans hg
    refine lv_ldc2 (own := RX12) (v := (-1)) hx hb hown (hu _ mG_2735) dX12_plain_122 ?_
    obtain ⟨rfl, rfl⟩ := fin_some hg
    exact gr_l S hr hk X dX12_plain_125
  · refine lv_tableIn (off := 56) (tgt := 62) hx hb dX12_plain_6 (by rw [hsw]; decide) (by rw [hsw]; decide) (by rw [hsw]; decide) (by decide) ?_
    have hg := (if_neg (by rw [hsw]; decide)).symm.trans hg
    have hg := (if_neg (by rw [hsw]; decide)).symm.trans hg
    have hg := (if_neg (by rw [hsw]; decide)).symm.trans hg
    have hg := (if_pos hsw).symm.trans hg
    refine lv_aload_n hx hb dX12_plain_62 rfl (lv_at hl 0 rfl) ?_
    refine wmgR_0_82 S X mG_2132 dX12_plain_63 ?_
    refine lv_aload_n hx hb dX12_plain_66 rfl (lv_at hl 0 rfl) ?_
    refine wmgR_0_65 S X mG_2115 dX12_plain_67 ?_
    refine lv_iload_n hx hb dX12_plain_70 rfl (lv_at hl 1 rfl) ?_
    obtain ⟨hi71, hg⟩ := gd_some hg
    refine wmlA_32 (v := (xA σ 32 a1)) S X hi71 rfl dX12_plain_71 ?_
    obtain ⟨hi72, hg⟩ := gd_some hg
    refine wmlA_47 (v := (xA σ 47 (xA σ 32 a1))) S X hi72 rfl dX12_plain_72 ?_
    refine lv_if_le (tgt := 89) hx hb dX12_plain_73 (by decide) (fun c73 => ?_) (fun c73 => ?_)
    · have hg := (if_pos c73).symm.trans hg
      refine lv_iconst (v := 3) hx hb dX12_plain_89 (by decide) ?_
      refine lv_aload_n hx hb dX12_plain_90 rfl (lv_at hl 0 rfl) ?_
      refine wmgR_0_131 S X mG_2181 dX12_plain_91 ?_
      refine lv_aload_n hx hb dX12_plain_94 rfl (lv_at hl 0 rfl) ?_
      refine wmgR_0_65 S X mG_2115 dX12_plain_95 ?_
      refine lv_iload_n hx hb dX12_plain_98 rfl (lv_at hl 1 rfl) ?_
      obtain ⟨hi99, hg⟩ := gd_some hg
      refine wmlA_32 (v := (xA σ 32 a1)) S X hi99 rfl dX12_plain_99 ?_
      obtain ⟨hi100, hg⟩ := gd_some hg
      refine wmlA_64 (v := (xA σ 64 (xA σ 32 a1))) S X hi100 rfl dX12_plain_100 ?_
      obtain ⟨r101, τ101, hq101, hg⟩ := bd_some hg
      refine gc_Sl (As := [.int 3, .int (xA σ 64 (xA σ 32 a1))]) (rest := []) S X (k2_X12_value l dC dI ad kc hq101 H.size) cw_X12_value mG_2789 rfl rfl hl.1 (Nat.le_of_ble_eq_true rfl) dX12_plain_101 ⟨by omega, by omega⟩ (fun H locs X => ?_)
      obtain ⟨rfl, rfl⟩ := fin_some hg
      exact gr_l S hr hk X dX12_plain_104
    · have hg := (if_neg c73).symm.trans hg
      refine lv_iconst (v := 1) hx hb dX12_plain_76 (by decide) ?_
      refine lv_aload_n hx hb dX12_plain_77 rfl (lv_at hl 0 rfl) ?_
      refine wmgR_0_65 S X mG_2115 dX12_plain_78 ?_
      refine lv_iload_n hx hb dX12_plain_81 rfl (lv_at hl 1 rfl) ?_
      obtain ⟨hi82, hg⟩ := gd_some hg
      refine wmlA_32 (v := (xA σ 32 a1)) S X hi82 rfl dX12_plain_82 ?_
      obtain ⟨r83, τ83, hq83, hg⟩ := bd_some hg
      refine gc_Sl (As := [.int 1, .int (xA σ 32 a1)]) (rest := []) S X (k2_X12_value l dC dI ad kc hq83 H.size) cw_X12_value mG_2789 rfl rfl hl.1 (Nat.le_of_ble_eq_true rfl) dX12_plain_83 ⟨by omega, by omega⟩ (fun H locs X => ?_)
      refine lv_goto (tgt := 104) hx hb dX12_plain_86 (by decide) ?_
      obtain ⟨rfl, rfl⟩ := fin_some hg
      exact gr_l S hr hk X dX12_plain_104
  · refine lv_tableIn (off := 99) (tgt := 105) hx hb dX12_plain_6 (by rw [hsw]; decide) (by rw [hsw]; decide) (by rw [hsw]; decide) (by decide) ?_
    have hg := (if_neg (by rw [hsw]; decide)).symm.trans hg
    have hg := (if_neg (by rw [hsw]; decide)).symm.trans hg
    have hg := (if_neg (by rw [hsw]; decide)).symm.trans hg
    have hg := (if_neg (by rw [hsw]; decide)).symm.trans hg
    have hg := (if_pos hsw).symm.trans hg
    refine lv_aload_n hx hb dX12_plain_105 rfl (lv_at hl 0 rfl) ?_
    refine wmgR_0_124 S X mG_2174 dX12_plain_106 ?_
    refine lv_aload_n hx hb dX12_plain_109 rfl (lv_at hl 0 rfl) ?_
    refine wmgI_50 (v := (gI σ 50)) S X mG_2172 rfl dX12_plain_110 ?_
    refine lv_aload_n hx hb dX12_plain_113 rfl (lv_at hl 0 rfl) ?_
    refine wmgR_0_65 S X mG_2115 dX12_plain_114 ?_
    refine lv_iload_n hx hb dX12_plain_117 rfl (lv_at hl 1 rfl) ?_
    obtain ⟨hi118, hg⟩ := gd_some hg
    refine wmlA_32 (v := (xA σ 32 a1)) S X hi118 rfl dX12_plain_118 ?_
    refine lv_iadd hx hb dX12_plain_119 ?_
    obtain ⟨hi120, hg⟩ := gd_some hg
    refine wmlB_9 (v := (xB σ 9 ((gI σ 50) + (xA σ 32 a1)))) S X hi120 rfl dX12_plain_120 ?_
    obtain ⟨rfl, rfl⟩ := fin_some hg
    exact gr_l S hr hk X dX12_plain_121
end MX12_plain
set_option maxRecDepth 100000 in
theorem k2_X12_plain (l : Launch) (dC : Nat → ClassId) (dI : Nat → Nat → Nat) {Z : ZZ} (ad : Nat → Nat) (kc : Nat → ClassId) {σ τ : S5} {a1 : Int32} {r : Int64} (hg : f_X12_plain a1 σ = some (r, τ)) (sz : Nat) : Met l yX12_plain (Cond.code yX12_plain cX12_plain 2 (some .long) :: uG) { frames := 1, cells := 0, slots := 0, locals := 21 } (gPc (dC, dI) (tM kc) (wM ad kc) Z [.ref (ad 0), .int a1] σ sz) (gQl (dC, dI) (tM kc) (wM ad kc) (va_A (wM ad kc σ) sz) r τ) 0 0 (va_A (wM ad kc σ) sz) :=
  g_start (by decide) (Nat.le_of_ble_eq_true rfl) (fun p e s m below meth c ls S hr hk X hl => w_X12_plain S hr hk ⟨Nat.le_refl _, Nat.le_refl _⟩ X hl hg)
section MX12_make
variable {p : Program} {l : Launch} {e : Env} {R : Room} {s : State} {m : MethodId} {args : Array Value} {below : List Frame} {meth : Method} {c : Code} {dC : Nat → ClassId} {dI : Nat → Nat → Nat} {Z : ZZ} {A : Nat → Prop} {ad : Nat → Nat} {kc : Nat → ClassId} {r : Int32} {τ : S5}
set_option maxHeartbeats 4000000 in
set_option maxRecDepth 100000 in
theorem w_X12_make {σ : S5} {a1 : Int32} {H : Heap} {locs : List Loc} {ls : Array Slot} (S : CallFix p m c cX12_make 3 s args uG RX12) (hr : meth.sig.returnType = (some .int)) (hk : meth.locks = false) (hR : 2 ≤ R.frames ∧ 47 ≤ R.locals)
    (X : gX (dC, dI) (tM kc) (wM ad kc) Z A s σ H locs) (hl : lv_has ls 3 [(0, .ref (ad 0)), (1, .int a1)]) (hg : f_X12_make a1 σ = some (r, τ)) : W p l e R s m args below meth c H locs 0 0 (MQ below (gQi (dC, dI) (tM kc) (wM ad kc) A r τ) args s 0 0 A) (F0 m 0 ls []) := by
  have hx := S.1
  have hb := S.2.1
  have hown := S.2.2.2.1
  have hu := S.2.2.2.2
  unfold f_X12_make at hg
  refine lv_aload_n hx hb dX12_make_0 rfl (lv_at hl 0 rfl) ?_
  refine wmgR_0_64 S X mG_2114 dX12_make_1 ?_
  refine lv_iload_n hx hb dX12_make_4 rfl (lv_at hl 1 rfl) ?_
  obtain ⟨hi5, hg⟩ := gd_some hg
  refine wmlA_31 (v := (xA σ 31 a1)) S X hi5 rfl dX12_make_5 ?_
  refine lv_bipush (v := 7) hx hb dX12_make_6 (by decide) ?_
  refine lv_icmp_ne (tgt := 37) hx hb dX12_make_8 (by decide) (fun c8 => ?_) (fun c8 => ?_)
  · have hg := (if_neg c8).symm.trans hg
    refine lv_aload_n hx hb dX12_make_37 rfl (lv_at hl 0 rfl) ?_
    refine lv_iload_n hx hb dX12_make_38 rfl (lv_at hl 1 rfl) ?_
    obtain ⟨r39, τ39, hq39, hg⟩ := bd_some hg
    refine gc_Vi (As := [.int a1]) (rest := []) (q0 := 0) (ci := 15) S X (k2_X12_isLess l dC dI ad kc hq39 H.size) cw_X12_isLess mG_2856 rfl rfl rfl rfl rfl hl.1 (Nat.le_of_ble_eq_true rfl) dX12_make_39 ⟨by omega, by omega⟩ (fun H locs X => ?_)
    refine lv_if_eq (tgt := 78) hx hb dX12_make_42 (by decide) (fun c42 => ?_) (fun c42 => ?_)
    · have hg := (if_pos c42).symm.trans hg
      refine lv_aload_n hx hb dX12_make_78 rfl (lv_at hl 0 rfl) ?_
      refine wmgR_0_72 S X mG_2122 dX12_make_79 ?_
      refine lv_iload_n hx hb dX12_make_82 rfl (lv_at hl 1 rfl) ?_
      obtain ⟨hi83, hg⟩ := gd_some hg
      refine wmlB_5 (v := (xB τ39 5 a1)) S X hi83 rfl dX12_make_83 ?_
      obtain ⟨r84, τ84, hq84, hg⟩ := bd_some hg
      refine gc_Si (As := [.long (xB τ39 5 a1)]) (rest := []) S X (k2_X12_ones l dC dI ad kc hq84 H.size) cw_X12_ones mG_2860 rfl rfl hl.1 (Nat.le_of_ble_eq_true rfl) dX12_make_84 ⟨by omega, by omega⟩ (fun H locs X => ?_)
      refine lv_istore_n (lv' := [(2, .int r84), (0, .ref (ad 0)), (1, .int a1)]) hx hb dX12_make_87 rfl hl (by decide) rfl (fun ls hl => ?_)
      refine lv_aload_n hx hb dX12_make_88 rfl (lv_at hl 1 rfl) ?_
      refine lv_iconst (v := 2) hx hb dX12_make_89 (by decide) ?_
      refine lv_iload_n hx hb dX12_make_90 rfl (lv_at hl 2 rfl) ?_
      refine lv_iload_n hx hb dX12_make_91 rfl (lv_at hl 0 rfl) ?_
      refine lv_iconst (v := 1) hx hb dX12_make_92 (by decide) ?_
      refine lv_iload_n hx hb dX12_make_93 rfl (lv_at hl 0 rfl) ?_
      refine lv_iadd hx hb dX12_make_94 ?_
      obtain ⟨r95, τ95, hq95, hg⟩ := bd_some hg
      refine gc_Vi (As := [.int 2, .int a1, .int r84, .int (1 + r84)]) (rest := []) (q0 := 0) (ci := 15) S X (k2_X12_newCell l dC dI ad kc hq95 H.size) cw_X12_newCell mG_2781 rfl rfl rfl rfl rfl hl.1 (Nat.le_of_ble_eq_true rfl) dX12_make_95 ⟨by omega, by omega⟩ (fun H locs X => ?_)
      obtain ⟨rfl, rfl⟩ := fin_some hg
      exact gr_i S hr hk X dX12_make_98
    · have hg := (if_neg c42).symm.trans hg
      refine lv_aload_n hx hb dX12_make_45 rfl (lv_at hl 0 rfl) ?_
      refine lv_iconst (v := 1) hx hb dX12_make_46 (by decide) ?_
      refine lv_aload_n hx hb dX12_make_47 rfl (lv_at hl 0 rfl) ?_
      refine wmgR_0_65 S X mG_2115 dX12_make_48 ?_
      refine lv_aload_n hx hb dX12_make_51 rfl (lv_at hl 0 rfl) ?_
      refine lv_iload_n hx hb dX12_make_52 rfl (lv_at hl 1 rfl) ?_
      refine lv_iconst (v := 0) hx hb dX12_make_53 (by decide) ?_
      obtain ⟨r54, τ54, hq54, hg⟩ := bd_some hg
      refine gc_Vi (As := [.int a1, .int 0]) (rest := [.ref (ad 38), .int 1, .ref (ad 0)]) (q0 := 0) (ci := 15) S X (k2_X12_child l dC dI ad kc hq54 H.size) cw_X12_child mG_2736 rfl rfl rfl rfl rfl hl.1 (Nat.le_of_ble_eq_true rfl) dX12_make_54 ⟨by omega, by omega⟩ (fun H locs X => ?_)
      obtain ⟨hi57, hg⟩ := gd_some hg
      refine wmlA_32 (v := (xA τ54 32 r54)) S X hi57 rfl dX12_make_57 ?_
      refine lv_aload_n hx hb dX12_make_58 rfl (lv_at hl 0 rfl) ?_
      refine wmgR_0_67 S X mG_2117 dX12_make_59 ?_
      refine lv_iload_n hx hb dX12_make_62 rfl (lv_at hl 1 rfl) ?_
      obtain ⟨hi63, hg⟩ := gd_some hg
      refine wmlA_34 (v := (xA τ54 34 a1)) S X hi63 rfl dX12_make_63 ?_
      refine lv_iconst (v := 1) hx hb dX12_make_64 (by decide) ?_
      refine lv_isub hx hb dX12_make_65 ?_
      refine lv_iconst (v := 1) hx hb dX12_make_66 (by decide) ?_
      refine lv_aload_n hx hb dX12_make_67 rfl (lv_at hl 0 rfl) ?_
      refine wmgR_0_67 S X mG_2117 dX12_make_68 ?_
      refine lv_iload_n hx hb dX12_make_71 rfl (lv_at hl 1 rfl) ?_
      obtain ⟨hi72, hg⟩ := gd_some hg
      refine wmlA_34 (v := (xA τ54 34 a1)) S X hi72 rfl dX12_make_72 ?_
      refine lv_iadd hx hb dX12_make_73 ?_
      obtain ⟨r74, τ74, hq74, hg⟩ := bd_some hg
      refine gc_Vi (As := [.int 1, .int (xA τ54 32 r54), .int ((xA τ54 34 a1) - 1), .int (1 + (xA τ54 34 a1))]) (rest := []) (q0 := 0) (ci := 15) S X (k2_X12_newCell l dC dI ad kc hq74 H.size) cw_X12_newCell mG_2781 rfl rfl rfl rfl rfl hl.1 (Nat.le_of_ble_eq_true rfl) dX12_make_74 ⟨by omega, by omega⟩ (fun H locs X => ?_)
      obtain ⟨rfl, rfl⟩ := fin_some hg
      exact gr_i S hr hk X dX12_make_77
  · have hg := (if_pos c8).symm.trans hg
    refine lv_aload_n hx hb dX12_make_11 rfl (lv_at hl 0 rfl) ?_
    refine lv_iconst (v := 0) hx hb dX12_make_12 (by decide) ?_
    refine lv_aload_n hx hb dX12_make_13 rfl (lv_at hl 0 rfl) ?_
    refine wmgR_0_65 S X mG_2115 dX12_make_14 ?_
    refine lv_iload_n hx hb dX12_make_17 rfl (lv_at hl 1 rfl) ?_
    obtain ⟨hi18, hg⟩ := gd_some hg
    refine wmlA_32 (v := (xA σ 32 a1)) S X hi18 rfl dX12_make_18 ?_
    refine lv_aload_n hx hb dX12_make_19 rfl (lv_at hl 0 rfl) ?_
    refine wmgR_0_67 S X mG_2117 dX12_make_20 ?_
    refine lv_iload_n hx hb dX12_make_23 rfl (lv_at hl 1 rfl) ?_
    obtain ⟨hi24, hg⟩ := gd_some hg
    refine wmlA_34 (v := (xA σ 34 a1)) S X hi24 rfl dX12_make_24 ?_
    refine lv_iconst (v := 1) hx hb dX12_make_25 (by decide) ?_
    refine lv_aload_n hx hb dX12_make_26 rfl (lv_at hl 0 rfl) ?_
    refine wmgR_0_67 S X mG_2117 dX12_make_27 ?_
    refine lv_iload_n hx hb dX12_make_30 rfl (lv_at hl 1 rfl) ?_
    obtain ⟨hi31, hg⟩ := gd_some hg
    refine wmlA_34 (v := (xA σ 34 a1)) S X hi31 rfl dX12_make_31 ?_
    refine lv_iadd hx hb dX12_make_32 ?_
    obtain ⟨r33, τ33, hq33, hg⟩ := bd_some hg
    refine gc_Vi (As := [.int 0, .int (xA σ 32 a1), .int (xA σ 34 a1), .int (1 + (xA σ 34 a1))]) (rest := []) (q0 := 0) (ci := 15) S X (k2_X12_newCell l dC dI ad kc hq33 H.size) cw_X12_newCell mG_2781 rfl rfl rfl rfl rfl hl.1 (Nat.le_of_ble_eq_true rfl) dX12_make_33 ⟨by omega, by omega⟩ (fun H locs X => ?_)
    obtain ⟨rfl, rfl⟩ := fin_some hg
    exact gr_i S hr hk X dX12_make_36
end MX12_make
set_option maxRecDepth 100000 in
theorem k2_X12_make (l : Launch) (dC : Nat → ClassId) (dI : Nat → Nat → Nat) {Z : ZZ} (ad : Nat → Nat) (kc : Nat → ClassId) {σ τ : S5} {a1 : Int32} {r : Int32} (hg : f_X12_make a1 σ = some (r, τ)) (sz : Nat) : Met l yX12_make (Cond.code yX12_make cX12_make 3 (some .int) :: uG) { frames := 2, cells := 0, slots := 0, locals := 47 } (gPc (dC, dI) (tM kc) (wM ad kc) Z [.ref (ad 0), .int a1] σ sz) (gQi (dC, dI) (tM kc) (wM ad kc) (va_A (wM ad kc σ) sz) r τ) 0 0 (va_A (wM ad kc σ) sz) :=
  g_start (by decide) (Nat.le_of_ble_eq_true rfl) (fun p e s m below meth c ls S hr hk X hl => w_X12_make S hr hk ⟨Nat.le_refl _, Nat.le_refl _⟩ X hl hg)
section MX12_fill
variable {p : Program} {l : Launch} {e : Env} {R : Room} {s : State} {m : MethodId} {args : Array Value} {below : List Frame} {meth : Method} {c : Code} {dC : Nat → ClassId} {dI : Nat → Nat → Nat} {Z : ZZ} {A : Nat → Prop} {ad : Nat → Nat} {kc : Nat → ClassId} {r : Unit} {τ : S5}
set_option maxHeartbeats 4000000 in
set_option maxRecDepth 100000 in
theorem w_X12_fill_B104 {σ : S5} {rec104 : Int32 → Int32 → Int32 → Int32 → S5 → Option (Unit × S5)} {v1 : Int32} {v3 : Int32} {v4 : Int32} {v5 : Int32} {H : Heap} {locs : List Loc} {ls : Array Slot} (S : CallFix p m c cX12_fill 6 s args uG RX12) (hr : meth.sig.returnType = none) (hk : meth.locks = false) (hR : 1 ≤ R.frames ∧ 22 ≤ R.locals)
    (hrec104 : ∀ (v1 : Int32) (v3 : Int32) (v4 : Int32) (v5 : Int32) (σ : S5) (H : Heap) (locs : List Loc) (ls : Array Slot), gX (dC, dI) (tM kc) (wM ad kc) Z A s σ H locs → lv_has ls 6 [(0, .ref (ad 0)), (1, .int v1), (3, .int v3), (4, .int v4), (5, .int v5)] → rec104 v1 v3 v4 v5 σ = some (r, τ) → W p l e R s m args below meth c H locs 0 0 (MQ below (gQv (dC, dI) (tM kc) (wM ad kc) A r τ) args s 0 0 A) (F0 m 104 ls []))
    (X : gX (dC, dI) (tM kc) (wM ad kc) Z A s σ H locs) (hl : lv_has ls 6 [(0, .ref (ad 0)), (1, .int v1), (3, .int v3), (4, .int v4), (5, .int v5)]) (hg : f_X12_fill_B104 rec104 v1 v3 v4 v5 σ = some (r, τ)) : W p l e R s m args below meth c H locs 0 0 (MQ below (gQv (dC, dI) (tM kc) (wM ad kc) A r τ) args s 0 0 A) (F0 m 104 ls []) := by
  have hx := S.1
  have hb := S.2.1
  have hown := S.2.2.2.1
  have hu := S.2.2.2.2
  unfold f_X12_fill_B104 at hg
  refine lv_iload hx hb dX12_fill_104 (lv_at hl 4 rfl) ?_
  refine lv_if_lt (tgt := 157) hx hb dX12_fill_106 (by decide) (fun c106 => ?_) (fun c106 => ?_)
  · have hg := (if_pos c106).symm.trans hg
    obtain ⟨-, rfl⟩ := fin_some hg
    exact gr_v S hr hk X dX12_fill_157
  · have hg := (if_neg c106).symm.trans hg
    refine lv_aload_n hx hb dX12_fill_109 rfl (lv_at hl 0 rfl) ?_
    refine wmgR_0_129 S X mG_2179 dX12_fill_110 ?_
    refine lv_aload_n hx hb dX12_fill_113 rfl (lv_at hl 0 rfl) ?_
    refine wmgI_54 (v := (gI σ 54)) S X mG_2178 rfl dX12_fill_114 ?_
    refine lv_aload_n hx hb dX12_fill_117 rfl (lv_at hl 0 rfl) ?_
    refine lv_iload_n hx hb dX12_fill_118 rfl (lv_at hl 1 rfl) ?_
    refine lv_iload hx hb dX12_fill_119 (lv_at hl 3 rfl) ?_
    refine lv_iload hx hb dX12_fill_121 (lv_at hl 4 rfl) ?_
    refine lv_iadd hx hb dX12_fill_123 ?_
    obtain ⟨r124, τ124, hq124, hg⟩ := bd_some hg
    refine gc_Vi (As := [.int v1, .int (v4 + v5)]) (rest := [.int (gI σ 54), .ref (ad 73)]) (q0 := 0) (ci := 15) S X (k2_X12_child l dC dI ad kc hq124 H.size) cw_X12_child mG_2736 rfl rfl rfl rfl rfl hl.1 (Nat.le_of_ble_eq_true rfl) dX12_fill_124 ⟨by omega, by omega⟩ (fun H locs X => ?_)
    obtain ⟨hi127, hg⟩ := gd_some hg
    refine wmsA_62 S X hi127 dX12_fill_127 (fun H locs X => ?_)
    refine lv_aload_n hx hb dX12_fill_128 rfl (lv_at hl 0 rfl) ?_
    refine wmgR_0_130 S X mG_2180 dX12_fill_129 ?_
    refine lv_aload_n hx hb dX12_fill_132 rfl (lv_at hl 0 rfl) ?_
    refine wmgI_54 (v := (gI τ124 54)) S X mG_2178 rfl dX12_fill_133 ?_
    refine lv_iload_n hx hb dX12_fill_136 rfl (lv_at hl 2 rfl) ?_
    refine lv_iload hx hb dX12_fill_137 (lv_at hl 4 rfl) ?_
    refine lv_iadd hx hb dX12_fill_139 ?_
    obtain ⟨hi140, hg⟩ := gd_some hg
    refine wmsA_63 S X hi140 dX12_fill_140 (fun H locs X => ?_)
    refine lv_aload_n hx hb dX12_fill_141 rfl (lv_at hl 0 rfl) ?_
    refine lv_dup hx hb dX12_fill_142 rfl ?_
    refine wmgI_54 (v := (gI τ124 54)) S X mG_2178 rfl dX12_fill_143 ?_
    refine lv_iconst (v := 1) hx hb dX12_fill_146 (by decide) ?_
    refine lv_iadd hx hb dX12_fill_147 ?_
    refine wmpI_54 S X mG_2178 dX12_fill_148 (fun H locs X => ?_)
    refine lv_iinc (v := (v5 + (-1))) (lv' := [(5, .int (v5 + (-1))), (0, .ref (ad 0)), (1, .int v1), (3, .int v3), (4, .int v4)]) hx hb dX12_fill_151 hl (k := 4) rfl (by rfl) (by decide) rfl (fun ls hl => ?_)
    refine lv_goto (tgt := 104) hx hb dX12_fill_154 (by decide) ?_
    exact hrec104 _ _ _ _ _ _ _ _ X (lv_sub hl [1, 2, 3, 4, 0] rfl) hg
set_option maxHeartbeats 4000000 in
set_option maxRecDepth 100000 in
theorem w_X12_fill_L104 (S : CallFix p m c cX12_fill 6 s args uG RX12) (hr : meth.sig.returnType = none) (hk : meth.locks = false) (hR : 1 ≤ R.frames ∧ 22 ≤ R.locals) : ∀ (n : Nat) (v1 : Int32) (v3 : Int32) (v4 : Int32) (v5 : Int32) (σ : S5) (H : Heap) (locs : List Loc) (ls : Array Slot), gX (dC, dI) (tM kc) (wM ad kc) Z A s σ H locs → lv_has ls 6 [(0, .ref (ad 0)), (1, .int v1), (3, .int v3), (4, .int v4), (5, .int v5)] → f_X12_fill_L104  n v1 v3 v4 v5 σ = some (r, τ) → W p l e R s m args below meth c H locs 0 0 (MQ below (gQv (dC, dI) (tM kc) (wM ad kc) A r τ) args s 0 0 A) (F0 m 104 ls []) := by
  intro n
  induction n with
  | zero => intro v1 v3 v4 v5 σ H locs ls X hl hg; cases hg
  | succ n ih => intro v1 v3 v4 v5 σ H locs ls X hl hg; exact w_X12_fill_B104 S hr hk hR ih X hl hg
set_option maxHeartbeats 4000000 in
set_option maxRecDepth 100000 in
theorem w_X12_fill_b92 {σ : S5} {v1 : Int32} {v2 : Int32} {v3 : Int32} {u0 : Int32} {H : Heap} {locs : List Loc} {ls : Array Slot} (S : CallFix p m c cX12_fill 6 s args uG RX12) (hr : meth.sig.returnType = none) (hk : meth.locks = false) (hR : 1 ≤ R.frames ∧ 22 ≤ R.locals)
    (X : gX (dC, dI) (tM kc) (wM ad kc) Z A s σ H locs) (hl : lv_has ls 6 [(0, .ref (ad 0)), (1, .int v1), (2, .int v2), (3, .int v3)]) (hg : f_X12_fill_b92 v1 v2 v3 u0 σ = some (r, τ)) : W p l e R s m args below meth c H locs 0 0 (MQ below (gQv (dC, dI) (tM kc) (wM ad kc) A r τ) args s 0 0 A) (F0 m 92 ls [.int u0]) := by
  have hx := S.1
  have hb := S.2.1
  have hown := S.2.2.2.1
  have hu := S.2.2.2.2
  unfold f_X12_fill_b92 at hg
  refine lv_istore (lv' := [(4, .int u0), (0, .ref (ad 0)), (1, .int v1), (2, .int v2), (3, .int v3)]) hx hb dX12_fill_92 hl (by decide) rfl (fun ls hl => ?_)
  refine lv_aload_n hx hb dX12_fill_94 rfl (lv_at hl 1 rfl) ?_
  refine wmgR_0_96 S X mG_2146 dX12_fill_95 ?_
  refine lv_iload_n hx hb dX12_fill_98 rfl (lv_at hl 3 rfl) ?_
  obtain ⟨hi99, hg⟩ := gd_some hg
  refine wmlA_56 (v := (xA σ 56 v2)) S X hi99 rfl dX12_fill_99 ?_
  refine lv_iconst (v := 1) hx hb dX12_fill_100 (by decide) ?_
  refine lv_isub hx hb dX12_fill_101 ?_
  refine lv_istore (lv' := [(5, .int ((xA σ 56 v2) - 1)), (4, .int u0), (0, .ref (ad 0)), (1, .int v1), (2, .int v2), (3, .int v3)]) hx hb dX12_fill_102 hl (by decide) rfl (fun ls hl => ?_)
  exact w_X12_fill_L104 S hr hk hR _ _ _ _ _ _ _ _ _ X (lv_sub hl [2, 3, 5, 1, 0] rfl) hg
set_option maxHeartbeats 4000000 in
set_option maxRecDepth 100000 in
theorem w_X12_fill_b70 {σ : S5} {rec23 : Int32 → Int32 → Int32 → Int32 → S5 → Option (Unit × S5)} {v1 : Int32} {v3 : Int32} {v4 : Int32} {v5 : Int32} {H : Heap} {locs : List Loc} {ls : Array Slot} (S : CallFix p m c cX12_fill 6 s args uG RX12) (hr : meth.sig.returnType = none) (hk : meth.locks = false) (hR : 1 ≤ R.frames ∧ 22 ≤ R.locals)
    (hrec23 : ∀ (v1 : Int32) (v3 : Int32) (v4 : Int32) (v5 : Int32) (σ : S5) (H : Heap) (locs : List Loc) (ls : Array Slot), gX (dC, dI) (tM kc) (wM ad kc) Z A s σ H locs → lv_has ls 6 [(0, .ref (ad 0)), (1, .int v1), (3, .int v3), (4, .int v4), (5, .int v5)] → rec23 v1 v3 v4 v5 σ = some (r, τ) → W p l e R s m args below meth c H locs 0 0 (MQ below (gQv (dC, dI) (tM kc) (wM ad kc) A r τ) args s 0 0 A) (F0 m 23 ls []))
    (X : gX (dC, dI) (tM kc) (wM ad kc) Z A s σ H locs) (hl : lv_has ls 6 [(0, .ref (ad 0)), (1, .int v1), (3, .int v3), (4, .int v4), (5, .int v5)]) (hg : f_X12_fill_b70 rec23 v1 v3 v4 v5 σ = some (r, τ)) : W p l e R s m args below meth c H locs 0 0 (MQ below (gQv (dC, dI) (tM kc) (wM ad kc) A r τ) args s 0 0 A) (F0 m 70 ls []) := by
  have hx := S.1
  have hb := S.2.1
  have hown := S.2.2.2.1
  have hu := S.2.2.2.2
  unfold f_X12_fill_b70 at hg
  refine lv_iinc (v := (v5 + 1)) (lv' := [(5, .int (v5 + 1)), (0, .ref (ad 0)), (1, .int v1), (3, .int v3), (4, .int v4)]) hx hb dX12_fill_70 hl (k := 4) rfl (by rfl) (by decide) rfl (fun ls hl => ?_)
  refine lv_goto (tgt := 23) hx hb dX12_fill_73 (by decide) ?_
  exact hrec23 _ _ _ _ _ _ _ _ X (lv_sub hl [1, 2, 3, 4, 0] rfl) hg
set_option maxHeartbeats 4000000 in
set_option maxRecDepth 100000 in
theorem w_X12_fill_B23 {σ : S5} {rec23 : Int32 → Int32 → Int32 → Int32 → S5 → Option (Unit × S5)} {v1 : Int32} {v3 : Int32} {v4 : Int32} {v5 : Int32} {H : Heap} {locs : List Loc} {ls : Array Slot} (S : CallFix p m c cX12_fill 6 s args uG RX12) (hr : meth.sig.returnType = none) (hk : meth.locks = false) (hR : 1 ≤ R.frames ∧ 22 ≤ R.locals)
    (hrec23 : ∀ (v1 : Int32) (v3 : Int32) (v4 : Int32) (v5 : Int32) (σ : S5) (H : Heap) (locs : List Loc) (ls : Array Slot), gX (dC, dI) (tM kc) (wM ad kc) Z A s σ H locs → lv_has ls 6 [(0, .ref (ad 0)), (1, .int v1), (3, .int v3), (4, .int v4), (5, .int v5)] → rec23 v1 v3 v4 v5 σ = some (r, τ) → W p l e R s m args below meth c H locs 0 0 (MQ below (gQv (dC, dI) (tM kc) (wM ad kc) A r τ) args s 0 0 A) (F0 m 23 ls []))
    (X : gX (dC, dI) (tM kc) (wM ad kc) Z A s σ H locs) (hl : lv_has ls 6 [(0, .ref (ad 0)), (1, .int v1), (3, .int v3), (4, .int v4), (5, .int v5)]) (hg : f_X12_fill_B23 rec23 v1 v3 v4 v5 σ = some (r, τ)) : W p l e R s m args below meth c H locs 0 0 (MQ below (gQv (dC, dI) (tM kc) (wM ad kc) A r τ) args s 0 0 A) (F0 m 23 ls []) := by
  have hx := S.1
  have hb := S.2.1
  have hown := S.2.2.2.1
  have hu := S.2.2.2.2
  unfold f_X12_fill_B23 at hg
  refine lv_iload hx hb dX12_fill_23 (lv_at hl 4 rfl) ?_
  refine lv_bipush (v := 40) hx hb dX12_fill_25 (by decide) ?_
  refine lv_icmp_ge (tgt := 76) hx hb dX12_fill_27 (by decide) (fun c27 => ?_) (fun c27 => ?_)
  · have hg := (if_pos c27).symm.trans hg
    obtain ⟨-, rfl⟩ := fin_some hg
    exact gr_v S hr hk X dX12_fill_76
  · have hg := (if_neg c27).symm.trans hg
    refine lv_aload_n hx hb dX12_fill_30 rfl (lv_at hl 0 rfl) ?_
    refine wmgR_0_72 S X mG_2122 dX12_fill_31 ?_
    refine lv_iload_n hx hb dX12_fill_34 rfl (lv_at hl 1 rfl) ?_
    obtain ⟨hi35, hg⟩ := gd_some hg
    refine wmlB_5 (v := (xB σ 5 v1)) S X hi35 rfl dX12_fill_35 ?_
    refine lv_iload hx hb dX12_fill_36 (lv_at hl 4 rfl) ?_
    refine lv_lshr (v := (j_lshr (xB σ 5 v1) v5)) hx hb dX12_fill_38 rfl ?_
    refine lv_lconst (v := 1) hx hb dX12_fill_39 rfl ?_
    refine lv_land hx hb dX12_fill_40 ?_
    refine lv_lconst (v := 1) hx hb dX12_fill_41 rfl ?_
    refine W.lcmp hx hb dX12_fill_42 ?_
    refine lv_if_ne (tgt := 70) hx hb dX12_fill_43 (by decide) (fun c43 => ?_) (fun c43 => ?_)
    · have hg := (if_neg c43).symm.trans hg
      exact w_X12_fill_b70 S hr hk hR hrec23 X (lv_sub hl [0, 1, 2, 3, 4] rfl) hg
    · have hg := (if_pos c43).symm.trans hg
      refine lv_aload_n hx hb dX12_fill_46 rfl (lv_at hl 0 rfl) ?_
      refine wmgR_0_99 S X mG_2149 dX12_fill_47 ?_
      refine lv_iload_n hx hb dX12_fill_50 rfl (lv_at hl 2 rfl) ?_
      refine lv_iload hx hb dX12_fill_51 (lv_at hl 3 rfl) ?_
      refine lv_iadd hx hb dX12_fill_53 ?_
      refine lv_aload_n hx hb dX12_fill_54 rfl (lv_at hl 0 rfl) ?_
      refine wmgR_0_124 S X mG_2174 dX12_fill_55 ?_
      refine lv_aload_n hx hb dX12_fill_58 rfl (lv_at hl 0 rfl) ?_
      refine wmgI_50 (v := (gI σ 50)) S X mG_2172 rfl dX12_fill_59 ?_
      refine lv_iload hx hb dX12_fill_62 (lv_at hl 4 rfl) ?_
      refine lv_iadd hx hb dX12_fill_64 ?_
      obtain ⟨hi65, hg⟩ := gd_some hg
      refine wmlB_9 (v := (xB σ 9 ((gI σ 50) + v5))) S X hi65 rfl dX12_fill_65 ?_
      obtain ⟨hi66, hg⟩ := gd_some hg
      refine wmsB_7 S X hi66 dX12_fill_66 (fun H locs X => ?_)
      refine lv_iinc (v := (v4 + 1)) (lv' := [(4, .int (v4 + 1)), (0, .ref (ad 0)), (1, .int v1), (3, .int v3), (5, .int v5)]) hx hb dX12_fill_67 hl (k := 3) rfl (by rfl) (by decide) rfl (fun ls hl => ?_)
      exact w_X12_fill_b70 S hr hk hR hrec23 X (lv_sub hl [1, 2, 3, 0, 4] rfl) hg
set_option maxHeartbeats 4000000 in
set_option maxRecDepth 100000 in
theorem w_X12_fill_L23 (S : CallFix p m c cX12_fill 6 s args uG RX12) (hr : meth.sig.returnType = none) (hk : meth.locks = false) (hR : 1 ≤ R.frames ∧ 22 ≤ R.locals) : ∀ (n : Nat) (v1 : Int32) (v3 : Int32) (v4 : Int32) (v5 : Int32) (σ : S5) (H : Heap) (locs : List Loc) (ls : Array Slot), gX (dC, dI) (tM kc) (wM ad kc) Z A s σ H locs → lv_has ls 6 [(0, .ref (ad 0)), (1, .int v1), (3, .int v3), (4, .int v4), (5, .int v5)] → f_X12_fill_L23  n v1 v3 v4 v5 σ = some (r, τ) → W p l e R s m args below meth c H locs 0 0 (MQ below (gQv (dC, dI) (tM kc) (wM ad kc) A r τ) args s 0 0 A) (F0 m 23 ls []) := by
  intro n
  induction n with
  | zero => intro v1 v3 v4 v5 σ H locs ls X hl hg; cases hg
  | succ n ih => intro v1 v3 v4 v5 σ H locs ls X hl hg; exact w_X12_fill_B23 S hr hk hR ih X hl hg
set_option maxHeartbeats 4000000 in
set_option maxRecDepth 100000 in
theorem w_X12_fill {σ : S5} {a1 : Int32} {a2 : Int32} {H : Heap} {locs : List Loc} {ls : Array Slot} (S : CallFix p m c cX12_fill 6 s args uG RX12) (hr : meth.sig.returnType = none) (hk : meth.locks = false) (hR : 1 ≤ R.frames ∧ 22 ≤ R.locals)
    (X : gX (dC, dI) (tM kc) (wM ad kc) Z A s σ H locs) (hl : lv_has ls 6 [(0, .ref (ad 0)), (1, .int a1), (2, .int a2)]) (hg : f_X12_fill a1 a2 σ = some (r, τ)) : W p l e R s m args below meth c H locs 0 0 (MQ below (gQv (dC, dI) (tM kc) (wM ad kc) A r τ) args s 0 0 A) (F0 m 0 ls []) := by
  have hx := S.1
  have hb := S.2.1
  have hown := S.2.2.2.1
  have hu := S.2.2.2.2
  unfold f_X12_fill at hg
  refine lv_aload_n hx hb dX12_fill_0 rfl (lv_at hl 0 rfl) ?_
  refine wmgR_0_95 S X mG_2145 dX12_fill_1 ?_
  refine lv_iload_n hx hb dX12_fill_4 rfl (lv_at hl 2 rfl) ?_
  obtain ⟨hi5, hg⟩ := gd_some hg
  refine wmlA_55 (v := (xA σ 55 a2)) S X hi5 rfl dX12_fill_5 ?_
  refine lv_istore_n (lv' := [(3, .int (xA σ 55 a2)), (0, .ref (ad 0)), (1, .int a1), (2, .int a2)]) hx hb dX12_fill_6 rfl hl (by decide) rfl (fun ls hl => ?_)
  refine lv_aload_n hx hb dX12_fill_7 rfl (lv_at hl 1 rfl) ?_
  refine wmgR_0_92 S X mG_2142 dX12_fill_8 ?_
  refine lv_iload_n hx hb dX12_fill_11 rfl (lv_at hl 3 rfl) ?_
  obtain ⟨hi12, hg⟩ := gd_some hg
  refine wmlA_53 (v := (xA σ 53 a2)) S X hi12 rfl dX12_fill_12 ?_
  refine lv_iconst (v := 2) hx hb dX12_fill_13 (by decide) ?_
  refine lv_icmp_ne (tgt := 77) hx hb dX12_fill_14 (by decide) (fun c14 => ?_) (fun c14 => ?_)
  · have hg := (if_neg c14).symm.trans hg
    refine lv_aload_n hx hb dX12_fill_77 rfl (lv_at hl 1 rfl) ?_
    refine wmgR_0_92 S X mG_2142 dX12_fill_78 ?_
    refine lv_iload_n hx hb dX12_fill_81 rfl (lv_at hl 3 rfl) ?_
    obtain ⟨hi82, hg⟩ := gd_some hg
    refine wmlA_53 (v := (xA σ 53 a2)) S X hi82 rfl dX12_fill_82 ?_
    refine lv_iconst (v := 1) hx hb dX12_fill_83 (by decide) ?_
    refine lv_icmp_ne (tgt := 91) hx hb dX12_fill_84 (by decide) (fun c84 => ?_) (fun c84 => ?_)
    · have hg := (if_neg c84).symm.trans hg
      refine lv_iconst (v := 0) hx hb dX12_fill_91 (by decide) ?_
      exact w_X12_fill_b92 S hr hk hR X (lv_sub hl [1, 2, 3, 0] rfl) hg
    · have hg := (if_pos c84).symm.trans hg
      refine lv_iconst (v := 1) hx hb dX12_fill_87 (by decide) ?_
      refine lv_goto (tgt := 92) hx hb dX12_fill_88 (by decide) ?_
      exact w_X12_fill_b92 S hr hk hR X (lv_sub hl [1, 2, 3, 0] rfl) hg
  · have hg := (if_pos c14).symm.trans hg
    refine lv_iconst (v := 0) hx hb dX12_fill_17 (by decide) ?_
    refine lv_istore (lv' := [(4, .int 0), (3, .int (xA σ 55 a2)), (0, .ref (ad 0)), (1, .int a1), (2, .int a2)]) hx hb dX12_fill_18 hl (by decide) rfl (fun ls hl => ?_)
    refine lv_iconst (v := 0) hx hb dX12_fill_20 (by decide) ?_
    refine lv_istore (lv' := [(5, .int 0), (4, .int 0), (3, .int (xA σ 55 a2)), (0, .ref (ad 0)), (1, .int a1), (2, .int a2)]) hx hb dX12_fill_21 hl (by decide) rfl (fun ls hl => ?_)
    exact w_X12_fill_L23 S hr hk hR _ _ _ _ _ _ _ _ _ X (lv_sub hl [3, 4, 2, 1, 0] rfl) hg
end MX12_fill
set_option maxRecDepth 100000 in
theorem k2_X12_fill (l : Launch) (dC : Nat → ClassId) (dI : Nat → Nat → Nat) {Z : ZZ} (ad : Nat → Nat) (kc : Nat → ClassId) {σ τ : S5} {a1 : Int32} {a2 : Int32} {r : Unit} (hg : f_X12_fill a1 a2 σ = some (r, τ)) (sz : Nat) : Met l yX12_fill (Cond.code yX12_fill cX12_fill 6 none :: uG) { frames := 1, cells := 0, slots := 0, locals := 22 } (gPc (dC, dI) (tM kc) (wM ad kc) Z [.ref (ad 0), .int a1, .int a2] σ sz) (gQv (dC, dI) (tM kc) (wM ad kc) (va_A (wM ad kc σ) sz) r τ) 0 0 (va_A (wM ad kc σ) sz) :=
  g_start (by decide) (Nat.le_of_ble_eq_true rfl) (fun p e s m below meth c ls S hr hk X hl => w_X12_fill S hr hk ⟨Nat.le_refl _, Nat.le_refl _⟩ X hl hg)
section MX12_doTasks
variable {p : Program} {l : Launch} {e : Env} {R : Room} {s : State} {m : MethodId} {args : Array Value} {below : List Frame} {meth : Method} {c : Code} {dC : Nat → ClassId} {dI : Nat → Nat → Nat} {Z : ZZ} {A : Nat → Prop} {ad : Nat → Nat} {kc : Nat → ClassId} {r : Unit} {τ : S5}
set_option maxHeartbeats 4000000 in
set_option maxRecDepth 100000 in
theorem w_X12_doTasks_b82 {σ : S5} {rec0 : S5 → Option (Unit × S5)} {v2 : Int32} {v3 : Int64} {H : Heap} {locs : List Loc} {ls : Array Slot} (S : CallFix p m c cX12_doTasks 6 s args uG RX12) (hr : meth.sig.returnType = none) (hk : meth.locks = false) (hR : 3 ≤ R.frames ∧ 69 ≤ R.locals)
    (hrec0 : ∀ (σ : S5) (H : Heap) (locs : List Loc) (ls : Array Slot), gX (dC, dI) (tM kc) (wM ad kc) Z A s σ H locs → lv_has ls 6 [(0, .ref (ad 0))] → rec0 σ = some (r, τ) → W p l e R s m args below meth c H locs 0 0 (MQ below (gQv (dC, dI) (tM kc) (wM ad kc) A r τ) args s 0 0 A) (F0 m 0 ls []))
    (X : gX (dC, dI) (tM kc) (wM ad kc) Z A s σ H locs) (hl : lv_has ls 6 [(0, .ref (ad 0)), (2, .int v2), (3, .long v3)]) (hg : f_X12_doTasks_b82 rec0 v2 v3 σ = some (r, τ)) : W p l e R s m args below meth c H locs 0 0 (MQ below (gQv (dC, dI) (tM kc) (wM ad kc) A r τ) args s 0 0 A) (F0 m 82 ls []) := by
  have hx := S.1
  have hb := S.2.1
  have hown := S.2.2.2.1
  have hu := S.2.2.2.2
  unfold f_X12_doTasks_b82 at hg
  refine lv_aload_n hx hb dX12_doTasks_82 rfl (lv_at hl 0 rfl) ?_
  refine wmgR_0_99 S X mG_2149 dX12_doTasks_83 ?_
  refine lv_iload_n hx hb dX12_doTasks_86 rfl (lv_at hl 1 rfl) ?_
  refine lv_lload_n hx hb dX12_doTasks_87 rfl (lv_at hl 2 rfl) ?_
  obtain ⟨hi88, hg⟩ := gd_some hg
  refine wmsB_7 S X hi88 dX12_doTasks_88 (fun H locs X => ?_)
  refine lv_goto (tgt := 0) hx hb dX12_doTasks_89 (by decide) ?_
  exact hrec0  _ _ _ _ X (lv_sub hl [0] rfl) hg
set_option maxHeartbeats 4000000 in
set_option maxRecDepth 100000 in
theorem w_X12_doTasks_B0 {σ : S5} {rec0 : S5 → Option (Unit × S5)}  {H : Heap} {locs : List Loc} {ls : Array Slot} (S : CallFix p m c cX12_doTasks 6 s args uG RX12) (hr : meth.sig.returnType = none) (hk : meth.locks = false) (hR : 3 ≤ R.frames ∧ 69 ≤ R.locals)
    (hrec0 : ∀ (σ : S5) (H : Heap) (locs : List Loc) (ls : Array Slot), gX (dC, dI) (tM kc) (wM ad kc) Z A s σ H locs → lv_has ls 6 [(0, .ref (ad 0))] → rec0 σ = some (r, τ) → W p l e R s m args below meth c H locs 0 0 (MQ below (gQv (dC, dI) (tM kc) (wM ad kc) A r τ) args s 0 0 A) (F0 m 0 ls []))
    (X : gX (dC, dI) (tM kc) (wM ad kc) Z A s σ H locs) (hl : lv_has ls 6 [(0, .ref (ad 0))]) (hg : f_X12_doTasks_B0 rec0 σ = some (r, τ)) : W p l e R s m args below meth c H locs 0 0 (MQ below (gQv (dC, dI) (tM kc) (wM ad kc) A r τ) args s 0 0 A) (F0 m 0 ls []) := by
  have hx := S.1
  have hb := S.2.1
  have hown := S.2.2.2.1
  have hu := S.2.2.2.2
  unfold f_X12_doTasks_B0 at hg
  refine lv_aload_n hx hb dX12_doTasks_0 rfl (lv_at hl 0 rfl) ?_
  refine wmgI_54 (v := (gI σ 54)) S X mG_2178 rfl dX12_doTasks_1 ?_
  refine lv_if_le (tgt := 92) hx hb dX12_doTasks_4 (by decide) (fun c4 => ?_) (fun c4 => ?_)
  · have hg := (if_pos c4).symm.trans hg
    obtain ⟨-, rfl⟩ := fin_some hg
    exact gr_v S hr hk X dX12_doTasks_92
  · have hg := (if_neg c4).symm.trans hg
    refine lv_aload_n hx hb dX12_doTasks_7 rfl (lv_at hl 0 rfl) ?_
    refine wmgI_44 (v := (gI σ 44)) S X mG_2161 rfl dX12_doTasks_8 ?_
    refine lv_if_ne (tgt := 92) hx hb dX12_doTasks_11 (by decide) (fun c11 => ?_) (fun c11 => ?_)
    · have hg := (if_neg c11).symm.trans hg
      obtain ⟨-, rfl⟩ := fin_some hg
      exact gr_v S hr hk X dX12_doTasks_92
    · have hg := (if_pos c11).symm.trans hg
      refine lv_aload_n hx hb dX12_doTasks_14 rfl (lv_at hl 0 rfl) ?_
      refine lv_dup hx hb dX12_doTasks_15 rfl ?_
      refine wmgI_54 (v := (gI σ 54)) S X mG_2178 rfl dX12_doTasks_16 ?_
      refine lv_iconst (v := 1) hx hb dX12_doTasks_19 (by decide) ?_
      refine lv_isub hx hb dX12_doTasks_20 ?_
      refine wmpI_54 S X mG_2178 dX12_doTasks_21 (fun H locs X => ?_)
      refine lv_aload_n hx hb dX12_doTasks_24 rfl (lv_at hl 0 rfl) ?_
      refine wmgR_0_129 S X mG_2179 dX12_doTasks_25 ?_
      refine lv_aload_n hx hb dX12_doTasks_28 rfl (lv_at hl 0 rfl) ?_
      refine wmgI_54 (v := ((gI σ 54) - 1)) S X mG_2178 rfl dX12_doTasks_29 ?_
      obtain ⟨hi32, hg⟩ := gd_some hg
      refine wmlA_62 (v := (xA σ 62 ((gI σ 54) - 1))) S X hi32 rfl dX12_doTasks_32 ?_
      refine lv_istore_n (lv' := [(1, .int (xA σ 62 ((gI σ 54) - 1))), (0, .ref (ad 0))]) hx hb dX12_doTasks_33 rfl hl (by decide) rfl (fun ls hl => ?_)
      refine lv_aload_n hx hb dX12_doTasks_34 rfl (lv_at hl 1 rfl) ?_
      refine wmgR_0_130 S X mG_2180 dX12_doTasks_35 ?_
      refine lv_aload_n hx hb dX12_doTasks_38 rfl (lv_at hl 1 rfl) ?_
      refine wmgI_54 (v := ((gI σ 54) - 1)) S X mG_2178 rfl dX12_doTasks_39 ?_
      obtain ⟨hi42, hg⟩ := gd_some hg
      refine wmlA_63 (v := (xA σ 63 ((gI σ 54) - 1))) S X hi42 rfl dX12_doTasks_42 ?_
      refine lv_istore_n (lv' := [(2, .int (xA σ 63 ((gI σ 54) - 1))), (1, .int (xA σ 62 ((gI σ 54) - 1))), (0, .ref (ad 0))]) hx hb dX12_doTasks_43 rfl hl (by decide) rfl (fun ls hl => ?_)
      refine lv_aload_n hx hb dX12_doTasks_44 rfl (lv_at hl 2 rfl) ?_
      refine lv_iload_n hx hb dX12_doTasks_45 rfl (lv_at hl 1 rfl) ?_
      obtain ⟨r46, τ46, hq46, hg⟩ := bd_some hg
      refine gc_Vl (As := [.int (xA σ 62 ((gI σ 54) - 1))]) (rest := []) (q0 := 0) (ci := 15) S X (k2_X12_plain l dC dI ad kc hq46 H.size) cw_X12_plain mG_2848 rfl rfl rfl rfl rfl hl.1 (Nat.le_of_ble_eq_true rfl) dX12_doTasks_46 ⟨by omega, by omega⟩ (fun H locs X => ?_)
      refine lv_lstore_n (lv' := [(3, .long r46), (2, .int (xA σ 63 ((gI σ 54) - 1))), (1, .int (xA σ 62 ((gI σ 54) - 1))), (0, .ref (ad 0))]) hx hb dX12_doTasks_49 rfl hl (by decide) rfl (fun ls hl => ?_)
      refine lv_lload_n hx hb dX12_doTasks_50 rfl (lv_at hl 0 rfl) ?_
      refine lv_lconst (v := 0) hx hb dX12_doTasks_51 rfl ?_
      refine W.lcmp hx hb dX12_doTasks_52 ?_
      refine lv_if_ge (tgt := 82) hx hb dX12_doTasks_53 (by decide) (fun c53 => ?_) (fun c53 => ?_)
      · have hg := (if_pos c53).symm.trans hg
        exact w_X12_doTasks_b82 S hr hk hR hrec0 X (lv_sub hl [3, 1, 0] rfl) hg
      · have hg := (if_neg c53).symm.trans hg
        refine lv_aload_n hx hb dX12_doTasks_56 rfl (lv_at hl 3 rfl) ?_
        refine lv_iload_n hx hb dX12_doTasks_57 rfl (lv_at hl 2 rfl) ?_
        obtain ⟨r58, τ58, hq58, hg⟩ := bd_some hg
        refine gc_Vi (As := [.int (xA σ 62 ((gI σ 54) - 1))]) (rest := []) (q0 := 0) (ci := 15) S X (k2_X12_make l dC dI ad kc hq58 H.size) cw_X12_make mG_2852 rfl rfl rfl rfl rfl hl.1 (Nat.le_of_ble_eq_true rfl) dX12_doTasks_58 ⟨by omega, by omega⟩ (fun H locs X => ?_)
        refine lv_istore (lv' := [(5, .int r58), (3, .long r46), (2, .int (xA σ 63 ((gI σ 54) - 1))), (1, .int (xA σ 62 ((gI σ 54) - 1))), (0, .ref (ad 0))]) hx hb dX12_doTasks_61 hl (by decide) rfl (fun ls hl => ?_)
        refine lv_iload hx hb dX12_doTasks_63 (lv_at hl 0 rfl) ?_
        refine lv_if_lt (tgt := 82) hx hb dX12_doTasks_65 (by decide) (fun c65 => ?_) (fun c65 => ?_)
        · have hg := (if_pos c65).symm.trans hg
          exact w_X12_doTasks_b82 S hr hk hR hrec0 X (lv_sub hl [4, 2, 1] rfl) hg
        · have hg := (if_neg c65).symm.trans hg
          refine lv_iconst (v := 3) hx hb dX12_doTasks_68 (by decide) ?_
          refine lv_iload hx hb dX12_doTasks_69 (lv_at hl 0 rfl) ?_
          obtain ⟨r71, τ71, hq71, hg⟩ := bd_some hg
          refine gc_Sl (As := [.int 3, .int r58]) (rest := []) S X (k2_X12_value l dC dI ad kc hq71 H.size) cw_X12_value mG_2789 rfl rfl hl.1 (Nat.le_of_ble_eq_true rfl) dX12_doTasks_71 ⟨by omega, by omega⟩ (fun H locs X => ?_)
          refine lv_lstore_n (lv' := [(3, .long r71), (5, .int r58), (2, .int (xA σ 63 ((gI σ 54) - 1))), (1, .int (xA σ 62 ((gI σ 54) - 1))), (0, .ref (ad 0))]) hx hb dX12_doTasks_74 rfl hl (by decide) rfl (fun ls hl => ?_)
          refine lv_aload_n hx hb dX12_doTasks_75 rfl (lv_at hl 4 rfl) ?_
          refine lv_iload_n hx hb dX12_doTasks_76 rfl (lv_at hl 3 rfl) ?_
          refine lv_iload hx hb dX12_doTasks_77 (lv_at hl 1 rfl) ?_
          obtain ⟨r79, τ79, hq79, hg⟩ := bd_some hg
          refine gc_Vv (As := [.int (xA σ 62 ((gI σ 54) - 1)), .int r58]) (rest := []) (q0 := 0) (ci := 15) S X (k2_X12_fill l dC dI ad kc hq79 H.size) cw_X12_fill mG_2863 rfl rfl rfl rfl rfl hl.1 (Nat.le_of_ble_eq_true rfl) dX12_doTasks_79 ⟨by omega, by omega⟩ (fun H locs X => ?_)
          exact w_X12_doTasks_b82 S hr hk hR hrec0 X (lv_sub hl [4, 2, 0] rfl) hg
set_option maxHeartbeats 4000000 in
set_option maxRecDepth 100000 in
theorem w_X12_doTasks_L0 (S : CallFix p m c cX12_doTasks 6 s args uG RX12) (hr : meth.sig.returnType = none) (hk : meth.locks = false) (hR : 3 ≤ R.frames ∧ 69 ≤ R.locals) : ∀ (n : Nat) (σ : S5) (H : Heap) (locs : List Loc) (ls : Array Slot), gX (dC, dI) (tM kc) (wM ad kc) Z A s σ H locs → lv_has ls 6 [(0, .ref (ad 0))] → f_X12_doTasks_L0  n σ = some (r, τ) → W p l e R s m args below meth c H locs 0 0 (MQ below (gQv (dC, dI) (tM kc) (wM ad kc) A r τ) args s 0 0 A) (F0 m 0 ls []) := by
  intro n
  induction n with
  | zero => intro σ H locs ls X hl hg; cases hg
  | succ n ih => intro σ H locs ls X hl hg; exact w_X12_doTasks_B0 S hr hk hR ih X hl hg
set_option maxHeartbeats 4000000 in
set_option maxRecDepth 100000 in
theorem w_X12_doTasks {σ : S5}  {H : Heap} {locs : List Loc} {ls : Array Slot} (S : CallFix p m c cX12_doTasks 6 s args uG RX12) (hr : meth.sig.returnType = none) (hk : meth.locks = false) (hR : 3 ≤ R.frames ∧ 69 ≤ R.locals)
    (X : gX (dC, dI) (tM kc) (wM ad kc) Z A s σ H locs) (hl : lv_has ls 6 [(0, .ref (ad 0))]) (hg : f_X12_doTasks  σ = some (r, τ)) : W p l e R s m args below meth c H locs 0 0 (MQ below (gQv (dC, dI) (tM kc) (wM ad kc) A r τ) args s 0 0 A) (F0 m 0 ls []) := by
  have hx := S.1
  have hb := S.2.1
  have hown := S.2.2.2.1
  have hu := S.2.2.2.2
  unfold f_X12_doTasks at hg
  exact w_X12_doTasks_L0 S hr hk hR _  _ _ _ _ X (lv_sub hl [0] rfl) hg
end MX12_doTasks
set_option maxRecDepth 100000 in
theorem k2_X12_doTasks (l : Launch) (dC : Nat → ClassId) (dI : Nat → Nat → Nat) {Z : ZZ} (ad : Nat → Nat) (kc : Nat → ClassId) {σ τ : S5}  {r : Unit} (hg : f_X12_doTasks  σ = some (r, τ)) (sz : Nat) : Met l yX12_doTasks (Cond.code yX12_doTasks cX12_doTasks 6 none :: uG) { frames := 3, cells := 0, slots := 0, locals := 69 } (gPc (dC, dI) (tM kc) (wM ad kc) Z [.ref (ad 0)] σ sz) (gQv (dC, dI) (tM kc) (wM ad kc) (va_A (wM ad kc σ) sz) r τ) 0 0 (va_A (wM ad kc σ) sz) :=
  g_start (by decide) (Nat.le_of_ble_eq_true rfl) (fun p e s m below meth c ls S hr hk X hl => w_X12_doTasks S hr hk ⟨Nat.le_refl _, Nat.le_refl _⟩ X hl hg)
section MX12_keep
variable {p : Program} {l : Launch} {e : Env} {R : Room} {s : State} {m : MethodId} {args : Array Value} {below : List Frame} {meth : Method} {c : Code} {dC : Nat → ClassId} {dI : Nat → Nat → Nat} {Z : ZZ} {A : Nat → Prop} {ad : Nat → Nat} {kc : Nat → ClassId} {r : Int64} {τ : S5}
set_option maxHeartbeats 4000000 in
set_option maxRecDepth 100000 in
theorem w_X12_keep {σ : S5} {a1 : Int32} {H : Heap} {locs : List Loc} {ls : Array Slot} (S : CallFix p m c cX12_keep 5 s args uG RX12) (hr : meth.sig.returnType = (some .long)) (hk : meth.locks = false) (hR : 4 ≤ R.frames ∧ 94 ≤ R.locals)
    (X : gX (dC, dI) (tM kc) (wM ad kc) Z A s σ H locs) (hl : lv_has ls 5 [(0, .ref (ad 0)), (1, .int a1)]) (hg : f_X12_keep a1 σ = some (r, τ)) : W p l e R s m args below meth c H locs 0 0 (MQ below (gQl (dC, dI) (tM kc) (wM ad kc) A r τ) args s 0 0 A) (F0 m 0 ls []) := by
  have hx := S.1
  have hb := S.2.1
  have hown := S.2.2.2.1
  have hu := S.2.2.2.2
  unfold f_X12_keep at hg
  refine lv_aload_n hx hb dX12_keep_0 rfl (lv_at hl 0 rfl) ?_
  refine lv_iload_n hx hb dX12_keep_1 rfl (lv_at hl 1 rfl) ?_
  obtain ⟨r2, τ2, hq2, hg⟩ := bd_some hg
  refine gc_Vl (As := [.int a1]) (rest := []) (q0 := 0) (ci := 15) S X (k2_X12_plain l dC dI ad kc hq2 H.size) cw_X12_plain mG_2848 rfl rfl rfl rfl rfl hl.1 (Nat.le_of_ble_eq_true rfl) dX12_keep_2 ⟨by omega, by omega⟩ (fun H locs X => ?_)
  refine lv_lstore_n (lv' := [(2, .long r2), (0, .ref (ad 0)), (1, .int a1)]) hx hb dX12_keep_5 rfl hl (by decide) rfl (fun ls hl => ?_)
  refine lv_lload_n hx hb dX12_keep_6 rfl (lv_at hl 0 rfl) ?_
  refine lv_lconst (v := 0) hx hb dX12_keep_7 rfl ?_
  refine W.lcmp hx hb dX12_keep_8 ?_
  refine lv_if_lt (tgt := 14) hx hb dX12_keep_9 (by decide) (fun c9 => ?_) (fun c9 => ?_)
  · have hg := (if_pos c9).symm.trans hg
    refine lv_aload_n hx hb dX12_keep_14 rfl (lv_at hl 1 rfl) ?_
    refine lv_iload_n hx hb dX12_keep_15 rfl (lv_at hl 2 rfl) ?_
    obtain ⟨r16, τ16, hq16, hg⟩ := bd_some hg
    refine gc_Vi (As := [.int a1]) (rest := []) (q0 := 0) (ci := 15) S X (k2_X12_make l dC dI ad kc hq16 H.size) cw_X12_make mG_2852 rfl rfl rfl rfl rfl hl.1 (Nat.le_of_ble_eq_true rfl) dX12_keep_16 ⟨by omega, by omega⟩ (fun H locs X => ?_)
    refine lv_istore (lv' := [(4, .int r16), (2, .long r2), (0, .ref (ad 0)), (1, .int a1)]) hx hb dX12_keep_19 hl (by decide) rfl (fun ls hl => ?_)
    refine lv_iload hx hb dX12_keep_21 (lv_at hl 0 rfl) ?_
    refine lv_if_ge (tgt := 28) hx hb dX12_keep_23 (by decide) (fun c23 => ?_) (fun c23 => ?_)
    · have hg := (if_pos c23).symm.trans hg
      refine lv_aload_n hx hb dX12_keep_28 rfl (lv_at hl 2 rfl) ?_
      refine lv_iconst (v := 0) hx hb dX12_keep_29 (by decide) ?_
      refine wmpI_54 S X mG_2178 dX12_keep_30 (fun H locs X => ?_)
      refine lv_aload_n hx hb dX12_keep_33 rfl (lv_at hl 2 rfl) ?_
      refine lv_iload_n hx hb dX12_keep_34 rfl (lv_at hl 3 rfl) ?_
      refine lv_iload hx hb dX12_keep_35 (lv_at hl 0 rfl) ?_
      obtain ⟨r37, τ37, hq37, hg⟩ := bd_some hg
      refine gc_Vv (As := [.int a1, .int r16]) (rest := []) (q0 := 0) (ci := 15) S X (k2_X12_fill l dC dI ad kc hq37 H.size) cw_X12_fill mG_2863 rfl rfl rfl rfl rfl hl.1 (Nat.le_of_ble_eq_true rfl) dX12_keep_37 ⟨by omega, by omega⟩ (fun H locs X => ?_)
      refine lv_aload_n hx hb dX12_keep_40 rfl (lv_at hl 2 rfl) ?_
      obtain ⟨r41, τ41, hq41, hg⟩ := bd_some hg
      refine gc_Vv (As := []) (rest := []) (q0 := 0) (ci := 15) S X (k2_X12_doTasks l dC dI ad kc hq41 H.size) cw_X12_doTasks mG_2867 rfl rfl rfl rfl rfl hl.1 (Nat.le_of_ble_eq_true rfl) dX12_keep_41 ⟨by omega, by omega⟩ (fun H locs X => ?_)
      refine lv_iconst (v := 3) hx hb dX12_keep_44 (by decide) ?_
      refine lv_iload hx hb dX12_keep_45 (lv_at hl 0 rfl) ?_
      obtain ⟨r47, τ47, hq47, hg⟩ := bd_some hg
      refine gc_Sl (As := [.int 3, .int r16]) (rest := []) S X (k2_X12_value l dC dI ad kc hq47 H.size) cw_X12_value mG_2789 rfl rfl hl.1 (Nat.le_of_ble_eq_true rfl) dX12_keep_47 ⟨by omega, by omega⟩ (fun H locs X => ?_)
      obtain ⟨rfl, rfl⟩ := fin_some hg
      exact gr_l S hr hk X dX12_keep_50
    · have hg := (if_neg c23).symm.trans hg
      refine lv_lconst (v := 0) hx hb dX12_keep_26 rfl ?_
      obtain ⟨rfl, rfl⟩ := fin_some hg
      exact gr_l S hr hk X dX12_keep_27
  · have hg := (if_neg c9).symm.trans hg
    refine lv_lload_n hx hb dX12_keep_12 rfl (lv_at hl 0 rfl) ?_
    obtain ⟨rfl, rfl⟩ := fin_some hg
    exact gr_l S hr hk X dX12_keep_13
end MX12_keep
set_option maxRecDepth 100000 in
theorem k2_X12_keep (l : Launch) (dC : Nat → ClassId) (dI : Nat → Nat → Nat) {Z : ZZ} (ad : Nat → Nat) (kc : Nat → ClassId) {σ τ : S5} {a1 : Int32} {r : Int64} (hg : f_X12_keep a1 σ = some (r, τ)) (sz : Nat) : Met l yX12_keep (Cond.code yX12_keep cX12_keep 5 (some .long) :: uG) { frames := 4, cells := 0, slots := 0, locals := 94 } (gPc (dC, dI) (tM kc) (wM ad kc) Z [.ref (ad 0), .int a1] σ sz) (gQl (dC, dI) (tM kc) (wM ad kc) (va_A (wM ad kc σ) sz) r τ) 0 0 (va_A (wM ad kc σ) sz) :=
  g_start (by decide) (Nat.le_of_ble_eq_true rfl) (fun p e s m below meth c ls S hr hk X hl => w_X12_keep S hr hk ⟨Nat.le_refl _, Nat.le_refl _⟩ X hl hg)
section MX12_keepBindings
variable {p : Program} {l : Launch} {e : Env} {R : Room} {s : State} {m : MethodId} {args : Array Value} {below : List Frame} {meth : Method} {c : Code} {dC : Nat → ClassId} {dI : Nat → Nat → Nat} {Z : ZZ} {A : Nat → Prop} {ad : Nat → Nat} {kc : Nat → ClassId} {r : Unit} {τ : S5}
set_option maxHeartbeats 4000000 in
set_option maxRecDepth 100000 in
theorem w_X12_keepBindings_b214 {σ : S5} {rec125 : Int32 → Int32 → Int32 → Int32 → S5 → Option (Unit × S5)} {v1 : Int32} {v2 : Int32} {v3 : Int32} {v4 : Int32} {H : Heap} {locs : List Loc} {ls : Array Slot} (S : CallFix p m c cX12_keepBindings 9 s args uG RX12) (hr : meth.sig.returnType = none) (hk : meth.locks = false) (hR : 4 ≤ R.frames ∧ 94 ≤ R.locals)
    (hrec125 : ∀ (v1 : Int32) (v2 : Int32) (v3 : Int32) (v4 : Int32) (σ : S5) (H : Heap) (locs : List Loc) (ls : Array Slot), gX (dC, dI) (tM kc) (wM ad kc) Z A s σ H locs → lv_has ls 9 [(0, .ref (ad 0)), (1, .int v1), (2, .int v2), (3, .int v3), (4, .int v4)] → rec125 v1 v2 v3 v4 σ = some (r, τ) → W p l e R s m args below meth c H locs 0 0 (MQ below (gQv (dC, dI) (tM kc) (wM ad kc) A r τ) args s 0 0 A) (F0 m 125 ls []))
    (X : gX (dC, dI) (tM kc) (wM ad kc) Z A s σ H locs) (hl : lv_has ls 9 [(0, .ref (ad 0)), (1, .int v1), (2, .int v2), (3, .int v3), (4, .int v4)]) (hg : f_X12_keepBindings_b214 rec125 v1 v2 v3 v4 σ = some (r, τ)) : W p l e R s m args below meth c H locs 0 0 (MQ below (gQv (dC, dI) (tM kc) (wM ad kc) A r τ) args s 0 0 A) (F0 m 214 ls []) := by
  have hx := S.1
  have hb := S.2.1
  have hown := S.2.2.2.1
  have hu := S.2.2.2.2
  unfold f_X12_keepBindings_b214 at hg
  refine lv_iinc (v := (v4 + 1)) (lv' := [(4, .int (v4 + 1)), (0, .ref (ad 0)), (1, .int v1), (2, .int v2), (3, .int v3)]) hx hb dX12_keepBindings_214 hl (k := 4) rfl (by rfl) (by decide) rfl (fun ls hl => ?_)
  refine lv_goto (tgt := 125) hx hb dX12_keepBindings_217 (by decide) ?_
  exact hrec125 _ _ _ _ _ _ _ _ X (lv_sub hl [1, 2, 3, 4, 0] rfl) hg
set_option maxHeartbeats 4000000 in
set_option maxRecDepth 100000 in
theorem w_X12_keepBindings_b175 {σ : S5} {rec125 : Int32 → Int32 → Int32 → Int32 → S5 → Option (Unit × S5)} {v1 : Int32} {v2 : Int32} {v3 : Int32} {v4 : Int32} {v5 : Int32} {u0 : Int32} {H : Heap} {locs : List Loc} {ls : Array Slot} (S : CallFix p m c cX12_keepBindings 9 s args uG RX12) (hr : meth.sig.returnType = none) (hk : meth.locks = false) (hR : 4 ≤ R.frames ∧ 94 ≤ R.locals)
    (hrec125 : ∀ (v1 : Int32) (v2 : Int32) (v3 : Int32) (v4 : Int32) (σ : S5) (H : Heap) (locs : List Loc) (ls : Array Slot), gX (dC, dI) (tM kc) (wM ad kc) Z A s σ H locs → lv_has ls 9 [(0, .ref (ad 0)), (1, .int v1), (2, .int v2), (3, .int v3), (4, .int v4)] → rec125 v1 v2 v3 v4 σ = some (r, τ) → W p l e R s m args below meth c H locs 0 0 (MQ below (gQv (dC, dI) (tM kc) (wM ad kc) A r τ) args s 0 0 A) (F0 m 125 ls []))
    (X : gX (dC, dI) (tM kc) (wM ad kc) Z A s σ H locs) (hl : lv_has ls 9 [(0, .ref (ad 0)), (1, .int v1), (2, .int v2), (3, .int v3), (4, .int v4), (5, .int v5)]) (hg : f_X12_keepBindings_b175 rec125 v1 v2 v3 v4 v5 u0 σ = some (r, τ)) : W p l e R s m args below meth c H locs 0 0 (MQ below (gQv (dC, dI) (tM kc) (wM ad kc) A r τ) args s 0 0 A) (F0 m 175 ls [.int u0]) := by
  have hx := S.1
  have hb := S.2.1
  have hown := S.2.2.2.1
  have hu := S.2.2.2.2
  unfold f_X12_keepBindings_b175 at hg
  refine lv_istore (lv' := [(6, .int u0), (0, .ref (ad 0)), (1, .int v1), (2, .int v2), (3, .int v3), (4, .int v4), (5, .int v5)]) hx hb dX12_keepBindings_175 hl (by decide) rfl (fun ls hl => ?_)
  refine lv_iload hx hb dX12_keepBindings_177 (lv_at hl 0 rfl) ?_
  refine lv_if_eq (tgt := 214) hx hb dX12_keepBindings_179 (by decide) (fun c179 => ?_) (fun c179 => ?_)
  · have hg := (if_pos c179).symm.trans hg
    exact w_X12_keepBindings_b214 S hr hk hR hrec125 X (lv_sub hl [1, 2, 3, 4, 5] rfl) hg
  · have hg := (if_neg c179).symm.trans hg
    refine lv_aload_n hx hb dX12_keepBindings_182 rfl (lv_at hl 1 rfl) ?_
    refine lv_iconst (v := 0) hx hb dX12_keepBindings_183 (by decide) ?_
    refine wmpI_54 S X mG_2178 dX12_keepBindings_184 (fun H locs X => ?_)
    refine lv_aload_n hx hb dX12_keepBindings_187 rfl (lv_at hl 1 rfl) ?_
    refine lv_iload hx hb dX12_keepBindings_188 (lv_at hl 6 rfl) ?_
    refine lv_aload_n hx hb dX12_keepBindings_190 rfl (lv_at hl 1 rfl) ?_
    refine wmgR_0_124 S X mG_2174 dX12_keepBindings_191 ?_
    refine lv_aload_n hx hb dX12_keepBindings_194 rfl (lv_at hl 1 rfl) ?_
    refine wmgI_50 (v := (gI σ 50)) S X mG_2172 rfl dX12_keepBindings_195 ?_
    refine lv_iload_n hx hb dX12_keepBindings_198 rfl (lv_at hl 4 rfl) ?_
    refine lv_iadd hx hb dX12_keepBindings_199 ?_
    refine lv_iload hx hb dX12_keepBindings_200 (lv_at hl 5 rfl) ?_
    refine lv_iadd hx hb dX12_keepBindings_202 ?_
    obtain ⟨hi203, hg⟩ := gd_some hg
    refine wmlB_9 (v := (xB σ 9 (((gI σ 50) + v3) + v4))) S X hi203 rfl dX12_keepBindings_203 ?_
    obtain ⟨r204, τ204, hq204, hg⟩ := bd_some hg
    refine gc_Si (As := [.long (xB σ 9 (((gI σ 50) + v3) + v4))]) (rest := [.int v5, .ref (ad 0)]) S X (k2_X12_of l dC dI ad kc hq204 H.size) cw_X12_of mG_2808 rfl rfl hl.1 (Nat.le_of_ble_eq_true rfl) dX12_keepBindings_204 ⟨by omega, by omega⟩ (fun H locs X => ?_)
    obtain ⟨r207, τ207, hq207, hg⟩ := bd_some hg
    refine gc_Vv (As := [.int v5, .int r204]) (rest := []) (q0 := 0) (ci := 15) S X (k2_X12_fill l dC dI ad kc hq207 H.size) cw_X12_fill mG_2863 rfl rfl rfl rfl rfl hl.1 (Nat.le_of_ble_eq_true rfl) dX12_keepBindings_207 ⟨by omega, by omega⟩ (fun H locs X => ?_)
    refine lv_aload_n hx hb dX12_keepBindings_210 rfl (lv_at hl 1 rfl) ?_
    obtain ⟨r211, τ211, hq211, hg⟩ := bd_some hg
    refine gc_Vv (As := []) (rest := []) (q0 := 0) (ci := 15) S X (k2_X12_doTasks l dC dI ad kc hq211 H.size) cw_X12_doTasks mG_2867 rfl rfl rfl rfl rfl hl.1 (Nat.le_of_ble_eq_true rfl) dX12_keepBindings_211 ⟨by omega, by omega⟩ (fun H locs X => ?_)
    exact w_X12_keepBindings_b214 S hr hk hR hrec125 X (lv_sub hl [1, 2, 3, 4, 5] rfl) hg
set_option maxHeartbeats 4000000 in
set_option maxRecDepth 100000 in
theorem w_X12_keepBindings_b170 {σ : S5} {rec125 : Int32 → Int32 → Int32 → Int32 → S5 → Option (Unit × S5)} {v1 : Int32} {v2 : Int32} {v3 : Int32} {v4 : Int32} {v5 : Int32} {H : Heap} {locs : List Loc} {ls : Array Slot} (S : CallFix p m c cX12_keepBindings 9 s args uG RX12) (hr : meth.sig.returnType = none) (hk : meth.locks = false) (hR : 4 ≤ R.frames ∧ 94 ≤ R.locals)
    (hrec125 : ∀ (v1 : Int32) (v2 : Int32) (v3 : Int32) (v4 : Int32) (σ : S5) (H : Heap) (locs : List Loc) (ls : Array Slot), gX (dC, dI) (tM kc) (wM ad kc) Z A s σ H locs → lv_has ls 9 [(0, .ref (ad 0)), (1, .int v1), (2, .int v2), (3, .int v3), (4, .int v4)] → rec125 v1 v2 v3 v4 σ = some (r, τ) → W p l e R s m args below meth c H locs 0 0 (MQ below (gQv (dC, dI) (tM kc) (wM ad kc) A r τ) args s 0 0 A) (F0 m 125 ls []))
    (X : gX (dC, dI) (tM kc) (wM ad kc) Z A s σ H locs) (hl : lv_has ls 9 [(0, .ref (ad 0)), (1, .int v1), (2, .int v2), (3, .int v3), (4, .int v4), (5, .int v5)]) (hg : f_X12_keepBindings_b170 rec125 v1 v2 v3 v4 v5 σ = some (r, τ)) : W p l e R s m args below meth c H locs 0 0 (MQ below (gQv (dC, dI) (tM kc) (wM ad kc) A r τ) args s 0 0 A) (F0 m 170 ls []) := by
  have hx := S.1
  have hb := S.2.1
  have hown := S.2.2.2.1
  have hu := S.2.2.2.2
  unfold f_X12_keepBindings_b170 at hg
  refine lv_iconst (v := 1) hx hb dX12_keepBindings_170 (by decide) ?_
  refine lv_goto (tgt := 175) hx hb dX12_keepBindings_171 (by decide) ?_
  exact w_X12_keepBindings_b175 S hr hk hR hrec125 X (lv_sub hl [0, 1, 2, 3, 4, 5] rfl) hg
set_option maxHeartbeats 4000000 in
set_option maxRecDepth 100000 in
theorem w_X12_keepBindings_B125 {σ : S5} {rec125 : Int32 → Int32 → Int32 → Int32 → S5 → Option (Unit × S5)} {v1 : Int32} {v2 : Int32} {v3 : Int32} {v4 : Int32} {H : Heap} {locs : List Loc} {ls : Array Slot} (S : CallFix p m c cX12_keepBindings 9 s args uG RX12) (hr : meth.sig.returnType = none) (hk : meth.locks = false) (hR : 4 ≤ R.frames ∧ 94 ≤ R.locals)
    (hrec125 : ∀ (v1 : Int32) (v2 : Int32) (v3 : Int32) (v4 : Int32) (σ : S5) (H : Heap) (locs : List Loc) (ls : Array Slot), gX (dC, dI) (tM kc) (wM ad kc) Z A s σ H locs → lv_has ls 9 [(0, .ref (ad 0)), (1, .int v1), (2, .int v2), (3, .int v3), (4, .int v4)] → rec125 v1 v2 v3 v4 σ = some (r, τ) → W p l e R s m args below meth c H locs 0 0 (MQ below (gQv (dC, dI) (tM kc) (wM ad kc) A r τ) args s 0 0 A) (F0 m 125 ls []))
    (X : gX (dC, dI) (tM kc) (wM ad kc) Z A s σ H locs) (hl : lv_has ls 9 [(0, .ref (ad 0)), (1, .int v1), (2, .int v2), (3, .int v3), (4, .int v4)]) (hg : f_X12_keepBindings_B125 rec125 v1 v2 v3 v4 σ = some (r, τ)) : W p l e R s m args below meth c H locs 0 0 (MQ below (gQv (dC, dI) (tM kc) (wM ad kc) A r τ) args s 0 0 A) (F0 m 125 ls []) := by
  have hx := S.1
  have hb := S.2.1
  have hown := S.2.2.2.1
  have hu := S.2.2.2.2
  unfold f_X12_keepBindings_B125 at hg
  refine lv_iload hx hb dX12_keepBindings_125 (lv_at hl 4 rfl) ?_
  refine lv_iload_n hx hb dX12_keepBindings_127 rfl (lv_at hl 2 rfl) ?_
  refine lv_icmp_ge (tgt := 220) hx hb dX12_keepBindings_128 (by decide) (fun c128 => ?_) (fun c128 => ?_)
  · have hg := (if_pos c128).symm.trans hg
    obtain ⟨-, rfl⟩ := fin_some hg
    exact gr_v S hr hk X dX12_keepBindings_220
  · have hg := (if_neg c128).symm.trans hg
    refine lv_aload_n hx hb dX12_keepBindings_131 rfl (lv_at hl 0 rfl) ?_
    refine wmgI_44 (v := (gI σ 44)) S X mG_2161 rfl dX12_keepBindings_132 ?_
    refine lv_if_ne (tgt := 220) hx hb dX12_keepBindings_135 (by decide) (fun c135 => ?_) (fun c135 => ?_)
    · have hg := (if_neg c135).symm.trans hg
      obtain ⟨-, rfl⟩ := fin_some hg
      exact gr_v S hr hk X dX12_keepBindings_220
    · have hg := (if_pos c135).symm.trans hg
      refine lv_aload_n hx hb dX12_keepBindings_138 rfl (lv_at hl 0 rfl) ?_
      refine lv_iload_n hx hb dX12_keepBindings_139 rfl (lv_at hl 1 rfl) ?_
      refine lv_iload hx hb dX12_keepBindings_140 (lv_at hl 4 rfl) ?_
      obtain ⟨r142, τ142, hq142, hg⟩ := bd_some hg
      refine gc_Vi (As := [.int v1, .int v4]) (rest := []) (q0 := 0) (ci := 15) S X (k2_X12_child l dC dI ad kc hq142 H.size) cw_X12_child mG_2736 rfl rfl rfl rfl rfl hl.1 (Nat.le_of_ble_eq_true rfl) dX12_keepBindings_142 ⟨by omega, by omega⟩ (fun H locs X => ?_)
      refine lv_istore (lv' := [(5, .int r142), (0, .ref (ad 0)), (1, .int v1), (2, .int v2), (3, .int v3), (4, .int v4)]) hx hb dX12_keepBindings_145 hl (by decide) rfl (fun ls hl => ?_)
      refine lv_aload_n hx hb dX12_keepBindings_147 rfl (lv_at hl 1 rfl) ?_
      refine wmgR_0_64 S X mG_2114 dX12_keepBindings_148 ?_
      refine lv_iload hx hb dX12_keepBindings_151 (lv_at hl 0 rfl) ?_
      obtain ⟨hi153, hg⟩ := gd_some hg
      refine wmlA_31 (v := (xA τ142 31 r142)) S X hi153 rfl dX12_keepBindings_153 ?_
      refine lv_bipush (v := 13) hx hb dX12_keepBindings_154 (by decide) ?_
      refine lv_icmp_eq (tgt := 170) hx hb dX12_keepBindings_156 (by decide) (fun c156 => ?_) (fun c156 => ?_)
      · have hg := (if_pos c156).symm.trans hg
        exact w_X12_keepBindings_b170 S hr hk hR hrec125 X (lv_sub hl [1, 2, 3, 4, 5, 0] rfl) hg
      · have hg := (if_neg c156).symm.trans hg
        refine lv_aload_n hx hb dX12_keepBindings_159 rfl (lv_at hl 1 rfl) ?_
        refine lv_iload hx hb dX12_keepBindings_160 (lv_at hl 0 rfl) ?_
        obtain ⟨r162, τ162, hq162, hg⟩ := bd_some hg
        refine gc_Vl (As := [.int r142]) (rest := []) (q0 := 0) (ci := 15) S X (k2_X12_plain l dC dI ad kc hq162 H.size) cw_X12_plain mG_2848 rfl rfl rfl rfl rfl hl.1 (Nat.le_of_ble_eq_true rfl) dX12_keepBindings_162 ⟨by omega, by omega⟩ (fun H locs X => ?_)
        refine lv_lconst (v := 0) hx hb dX12_keepBindings_165 rfl ?_
        refine W.lcmp hx hb dX12_keepBindings_166 ?_
        refine lv_if_ge (tgt := 174) hx hb dX12_keepBindings_167 (by decide) (fun c167 => ?_) (fun c167 => ?_)
        · have hg := (if_pos c167).symm.trans hg
          refine lv_iconst (v := 0) hx hb dX12_keepBindings_174 (by decide) ?_
          exact w_X12_keepBindings_b175 S hr hk hR hrec125 X (lv_sub hl [1, 2, 3, 4, 5, 0] rfl) hg
        · have hg := (if_neg c167).symm.trans hg
          exact w_X12_keepBindings_b170 S hr hk hR hrec125 X (lv_sub hl [1, 2, 3, 4, 5, 0] rfl) hg
set_option maxHeartbeats 4000000 in
set_option maxRecDepth 100000 in
theorem w_X12_keepBindings_L125 (S : CallFix p m c cX12_keepBindings 9 s args uG RX12) (hr : meth.sig.returnType = none) (hk : meth.locks = false) (hR : 4 ≤ R.frames ∧ 94 ≤ R.locals) : ∀ (n : Nat) (v1 : Int32) (v2 : Int32) (v3 : Int32) (v4 : Int32) (σ : S5) (H : Heap) (locs : List Loc) (ls : Array Slot), gX (dC, dI) (tM kc) (wM ad kc) Z A s σ H locs → lv_has ls 9 [(0, .ref (ad 0)), (1, .int v1), (2, .int v2), (3, .int v3), (4, .int v4)] → f_X12_keepBindings_L125  n v1 v2 v3 v4 σ = some (r, τ) → W p l e R s m args below meth c H locs 0 0 (MQ below (gQv (dC, dI) (tM kc) (wM ad kc) A r τ) args s 0 0 A) (F0 m 125 ls []) := by
  intro n
  induction n with
  | zero => intro v1 v2 v3 v4 σ H locs ls X hl hg; cases hg
  | succ n ih => intro v1 v2 v3 v4 σ H locs ls X hl hg; exact w_X12_keepBindings_B125 S hr hk hR ih X hl hg
set_option maxHeartbeats 4000000 in
set_option maxRecDepth 100000 in
theorem w_X12_keepBindings_b122 {σ : S5} {v1 : Int32} {v2 : Int32} {v3 : Int32} {H : Heap} {locs : List Loc} {ls : Array Slot} (S : CallFix p m c cX12_keepBindings 9 s args uG RX12) (hr : meth.sig.returnType = none) (hk : meth.locks = false) (hR : 4 ≤ R.frames ∧ 94 ≤ R.locals)
    (X : gX (dC, dI) (tM kc) (wM ad kc) Z A s σ H locs) (hl : lv_has ls 9 [(0, .ref (ad 0)), (1, .int v1), (2, .int v2), (3, .int v3)]) (hg : f_X12_keepBindings_b122 v1 v2 v3 σ = some (r, τ)) : W p l e R s m args below meth c H locs 0 0 (MQ below (gQv (dC, dI) (tM kc) (wM ad kc) A r τ) args s 0 0 A) (F0 m 122 ls []) := by
  have hx := S.1
  have hb := S.2.1
  have hown := S.2.2.2.1
  have hu := S.2.2.2.2
  unfold f_X12_keepBindings_b122 at hg
  refine lv_iconst (v := 0) hx hb dX12_keepBindings_122 (by decide) ?_
  refine lv_istore (lv' := [(4, .int 0), (0, .ref (ad 0)), (1, .int v1), (2, .int v2), (3, .int v3)]) hx hb dX12_keepBindings_123 hl (by decide) rfl (fun ls hl => ?_)
  exact w_X12_keepBindings_L125 S hr hk hR _ _ _ _ _ _ _ _ _ X (lv_sub hl [1, 2, 3, 4, 0] rfl) hg
set_option maxHeartbeats 4000000 in
set_option maxRecDepth 100000 in
theorem w_X12_keepBindings_b115 {σ : S5} {rec17 : Int32 → Int32 → Int32 → Int32 → S5 → Option (Unit × S5)} {v1 : Int32} {v2 : Int32} {v3 : Int32} {v4 : Int32} {u0 : Int64} {u1 : Int32} {H : Heap} {locs : List Loc} {ls : Array Slot} (S : CallFix p m c cX12_keepBindings 9 s args uG RX12) (hr : meth.sig.returnType = none) (hk : meth.locks = false) (hR : 4 ≤ R.frames ∧ 94 ≤ R.locals)
    (hrec17 : ∀ (v1 : Int32) (v2 : Int32) (v3 : Int32) (v4 : Int32) (σ : S5) (H : Heap) (locs : List Loc) (ls : Array Slot), gX (dC, dI) (tM kc) (wM ad kc) Z A s σ H locs → lv_has ls 9 [(0, .ref (ad 0)), (1, .int v1), (2, .int v2), (3, .int v3), (4, .int v4)] → rec17 v1 v2 v3 v4 σ = some (r, τ) → W p l e R s m args below meth c H locs 0 0 (MQ below (gQv (dC, dI) (tM kc) (wM ad kc) A r τ) args s 0 0 A) (F0 m 17 ls []))
    (X : gX (dC, dI) (tM kc) (wM ad kc) Z A s σ H locs) (hl : lv_has ls 9 [(0, .ref (ad 0)), (1, .int v1), (2, .int v2), (3, .int v3), (4, .int v4)]) (hg : f_X12_keepBindings_b115 rec17 v1 v2 v3 v4 u0 u1 σ = some (r, τ)) : W p l e R s m args below meth c H locs 0 0 (MQ below (gQv (dC, dI) (tM kc) (wM ad kc) A r τ) args s 0 0 A) (F0 m 115 ls [.long u0, .int u1, .ref (ad 72)]) := by
  have hx := S.1
  have hb := S.2.1
  have hown := S.2.2.2.1
  have hu := S.2.2.2.2
  unfold f_X12_keepBindings_b115 at hg
  obtain ⟨hi115, hg⟩ := gd_some hg
  refine wmsB_9 S X hi115 dX12_keepBindings_115 (fun H locs X => ?_)
  refine lv_iinc (v := (v4 + 1)) (lv' := [(4, .int (v4 + 1)), (0, .ref (ad 0)), (1, .int v1), (2, .int v2), (3, .int v3)]) hx hb dX12_keepBindings_116 hl (k := 4) rfl (by rfl) (by decide) rfl (fun ls hl => ?_)
  refine lv_goto (tgt := 17) hx hb dX12_keepBindings_119 (by decide) ?_
  exact hrec17 _ _ _ _ _ _ _ _ X (lv_sub hl [1, 2, 3, 4, 0] rfl) hg
set_option maxHeartbeats 4000000 in
set_option maxRecDepth 100000 in
theorem w_X12_keepBindings_b82 {σ : S5} {rec17 : Int32 → Int32 → Int32 → Int32 → S5 → Option (Unit × S5)} {v1 : Int32} {v2 : Int32} {v3 : Int32} {v4 : Int32} {v6 : Int64} {u0 : Int32} {H : Heap} {locs : List Loc} {ls : Array Slot} (S : CallFix p m c cX12_keepBindings 9 s args uG RX12) (hr : meth.sig.returnType = none) (hk : meth.locks = false) (hR : 4 ≤ R.frames ∧ 94 ≤ R.locals)
    (hrec17 : ∀ (v1 : Int32) (v2 : Int32) (v3 : Int32) (v4 : Int32) (σ : S5) (H : Heap) (locs : List Loc) (ls : Array Slot), gX (dC, dI) (tM kc) (wM ad kc) Z A s σ H locs → lv_has ls 9 [(0, .ref (ad 0)), (1, .int v1), (2, .int v2), (3, .int v3), (4, .int v4)] → rec17 v1 v2 v3 v4 σ = some (r, τ) → W p l e R s m args below meth c H locs 0 0 (MQ below (gQv (dC, dI) (tM kc) (wM ad kc) A r τ) args s 0 0 A) (F0 m 17 ls []))
    (X : gX (dC, dI) (tM kc) (wM ad kc) Z A s σ H locs) (hl : lv_has ls 9 [(0, .ref (ad 0)), (1, .int v1), (2, .int v2), (3, .int v3), (4, .int v4), (6, .long v6)]) (hg : f_X12_keepBindings_b82 rec17 v1 v2 v3 v4 v6 u0 σ = some (r, τ)) : W p l e R s m args below meth c H locs 0 0 (MQ below (gQv (dC, dI) (tM kc) (wM ad kc) A r τ) args s 0 0 A) (F0 m 82 ls [.int u0]) := by
  have hx := S.1
  have hb := S.2.1
  have hown := S.2.2.2.1
  have hu := S.2.2.2.2
  unfold f_X12_keepBindings_b82 at hg
  refine lv_istore (lv' := [(8, .int u0), (0, .ref (ad 0)), (1, .int v1), (2, .int v2), (3, .int v3), (4, .int v4), (6, .long v6)]) hx hb dX12_keepBindings_82 hl (by decide) rfl (fun ls hl => ?_)
  refine lv_aload_n hx hb dX12_keepBindings_84 rfl (lv_at hl 1 rfl) ?_
  refine wmgR_0_124 S X mG_2174 dX12_keepBindings_85 ?_
  refine lv_aload_n hx hb dX12_keepBindings_88 rfl (lv_at hl 1 rfl) ?_
  refine wmgI_50 (v := (gI σ 50)) S X mG_2172 rfl dX12_keepBindings_89 ?_
  refine lv_iload_n hx hb dX12_keepBindings_92 rfl (lv_at hl 4 rfl) ?_
  refine lv_iadd hx hb dX12_keepBindings_93 ?_
  refine lv_iload hx hb dX12_keepBindings_94 (lv_at hl 5 rfl) ?_
  refine lv_iadd hx hb dX12_keepBindings_96 ?_
  refine lv_lload hx hb dX12_keepBindings_97 (lv_at hl 6 rfl) ?_
  refine lv_lconst (v := 0) hx hb dX12_keepBindings_99 rfl ?_
  refine W.lcmp hx hb dX12_keepBindings_100 ?_
  refine lv_if_ge (tgt := 113) hx hb dX12_keepBindings_101 (by decide) (fun c101 => ?_) (fun c101 => ?_)
  · have hg := (if_pos c101).symm.trans hg
    refine lv_lload hx hb dX12_keepBindings_113 (lv_at hl 6 rfl) ?_
    exact w_X12_keepBindings_b115 S hr hk hR hrec17 X (lv_sub hl [1, 2, 3, 4, 5] rfl) hg
  · have hg := (if_neg c101).symm.trans hg
    refine lv_iconst (v := 3) hx hb dX12_keepBindings_104 (by decide) ?_
    refine lv_iload hx hb dX12_keepBindings_105 (lv_at hl 0 rfl) ?_
    obtain ⟨r107, τ107, hq107, hg⟩ := bd_some hg
    refine gc_Sl (As := [.int 3, .int u0]) (rest := [.int (((gI σ 50) + v3) + v4), .ref (ad 72)]) S X (k2_X12_value l dC dI ad kc hq107 H.size) cw_X12_value mG_2789 rfl rfl hl.1 (Nat.le_of_ble_eq_true rfl) dX12_keepBindings_107 ⟨by omega, by omega⟩ (fun H locs X => ?_)
    refine lv_goto (tgt := 115) hx hb dX12_keepBindings_110 (by decide) ?_
    exact w_X12_keepBindings_b115 S hr hk hR hrec17 X (lv_sub hl [1, 2, 3, 4, 5] rfl) hg
set_option maxHeartbeats 4000000 in
set_option maxRecDepth 100000 in
theorem w_X12_keepBindings_b63 {σ : S5} {rec17 : Int32 → Int32 → Int32 → Int32 → S5 → Option (Unit × S5)} {v1 : Int32} {v2 : Int32} {v3 : Int32} {v4 : Int32} {v5 : Int32} {u0 : Int64} {H : Heap} {locs : List Loc} {ls : Array Slot} (S : CallFix p m c cX12_keepBindings 9 s args uG RX12) (hr : meth.sig.returnType = none) (hk : meth.locks = false) (hR : 4 ≤ R.frames ∧ 94 ≤ R.locals)
    (hrec17 : ∀ (v1 : Int32) (v2 : Int32) (v3 : Int32) (v4 : Int32) (σ : S5) (H : Heap) (locs : List Loc) (ls : Array Slot), gX (dC, dI) (tM kc) (wM ad kc) Z A s σ H locs → lv_has ls 9 [(0, .ref (ad 0)), (1, .int v1), (2, .int v2), (3, .int v3), (4, .int v4)] → rec17 v1 v2 v3 v4 σ = some (r, τ) → W p l e R s m args below meth c H locs 0 0 (MQ below (gQv (dC, dI) (tM kc) (wM ad kc) A r τ) args s 0 0 A) (F0 m 17 ls []))
    (X : gX (dC, dI) (tM kc) (wM ad kc) Z A s σ H locs) (hl : lv_has ls 9 [(0, .ref (ad 0)), (1, .int v1), (2, .int v2), (3, .int v3), (4, .int v4), (5, .int v5)]) (hg : f_X12_keepBindings_b63 rec17 v1 v2 v3 v4 v5 u0 σ = some (r, τ)) : W p l e R s m args below meth c H locs 0 0 (MQ below (gQv (dC, dI) (tM kc) (wM ad kc) A r τ) args s 0 0 A) (F0 m 63 ls [.long u0]) := by
  have hx := S.1
  have hb := S.2.1
  have hown := S.2.2.2.1
  have hu := S.2.2.2.2
  unfold f_X12_keepBindings_b63 at hg
  refine lv_lstore (lv' := [(6, .long u0), (0, .ref (ad 0)), (1, .int v1), (2, .int v2), (3, .int v3), (4, .int v4), (5, .int v5)]) hx hb dX12_keepBindings_63 hl (by decide) rfl (fun ls hl => ?_)
  refine lv_lload hx hb dX12_keepBindings_65 (lv_at hl 0 rfl) ?_
  refine lv_lconst (v := 0) hx hb dX12_keepBindings_67 rfl ?_
  refine W.lcmp hx hb dX12_keepBindings_68 ?_
  refine lv_if_ge (tgt := 81) hx hb dX12_keepBindings_69 (by decide) (fun c69 => ?_) (fun c69 => ?_)
  · have hg := (if_pos c69).symm.trans hg
    refine lv_iconst (v := 0) hx hb dX12_keepBindings_81 (by decide) ?_
    exact w_X12_keepBindings_b82 S hr hk hR hrec17 X (lv_sub hl [1, 2, 3, 4, 5, 0] rfl) hg
  · have hg := (if_neg c69).symm.trans hg
    refine lv_aload_n hx hb dX12_keepBindings_72 rfl (lv_at hl 1 rfl) ?_
    refine lv_iload hx hb dX12_keepBindings_73 (lv_at hl 6 rfl) ?_
    obtain ⟨r75, τ75, hq75, hg⟩ := bd_some hg
    refine gc_Vi (As := [.int v5]) (rest := []) (q0 := 0) (ci := 15) S X (k2_X12_make l dC dI ad kc hq75 H.size) cw_X12_make mG_2852 rfl rfl rfl rfl rfl hl.1 (Nat.le_of_ble_eq_true rfl) dX12_keepBindings_75 ⟨by omega, by omega⟩ (fun H locs X => ?_)
    refine lv_goto (tgt := 82) hx hb dX12_keepBindings_78 (by decide) ?_
    exact w_X12_keepBindings_b82 S hr hk hR hrec17 X (lv_sub hl [1, 2, 3, 4, 5, 0] rfl) hg
set_option maxHeartbeats 4000000 in
set_option maxRecDepth 100000 in
theorem w_X12_keepBindings_B17 {σ : S5} {rec17 : Int32 → Int32 → Int32 → Int32 → S5 → Option (Unit × S5)} {v1 : Int32} {v2 : Int32} {v3 : Int32} {v4 : Int32} {H : Heap} {locs : List Loc} {ls : Array Slot} (S : CallFix p m c cX12_keepBindings 9 s args uG RX12) (hr : meth.sig.returnType = none) (hk : meth.locks = false) (hR : 4 ≤ R.frames ∧ 94 ≤ R.locals)
    (hrec17 : ∀ (v1 : Int32) (v2 : Int32) (v3 : Int32) (v4 : Int32) (σ : S5) (H : Heap) (locs : List Loc) (ls : Array Slot), gX (dC, dI) (tM kc) (wM ad kc) Z A s σ H locs → lv_has ls 9 [(0, .ref (ad 0)), (1, .int v1), (2, .int v2), (3, .int v3), (4, .int v4)] → rec17 v1 v2 v3 v4 σ = some (r, τ) → W p l e R s m args below meth c H locs 0 0 (MQ below (gQv (dC, dI) (tM kc) (wM ad kc) A r τ) args s 0 0 A) (F0 m 17 ls []))
    (X : gX (dC, dI) (tM kc) (wM ad kc) Z A s σ H locs) (hl : lv_has ls 9 [(0, .ref (ad 0)), (1, .int v1), (2, .int v2), (3, .int v3), (4, .int v4)]) (hg : f_X12_keepBindings_B17 rec17 v1 v2 v3 v4 σ = some (r, τ)) : W p l e R s m args below meth c H locs 0 0 (MQ below (gQv (dC, dI) (tM kc) (wM ad kc) A r τ) args s 0 0 A) (F0 m 17 ls []) := by
  have hx := S.1
  have hb := S.2.1
  have hown := S.2.2.2.1
  have hu := S.2.2.2.2
  unfold f_X12_keepBindings_B17 at hg
  refine lv_iload hx hb dX12_keepBindings_17 (lv_at hl 4 rfl) ?_
  refine lv_iload_n hx hb dX12_keepBindings_19 rfl (lv_at hl 2 rfl) ?_
  refine lv_icmp_ge (tgt := 122) hx hb dX12_keepBindings_20 (by decide) (fun c20 => ?_) (fun c20 => ?_)
  · have hg := (if_pos c20).symm.trans hg
    exact w_X12_keepBindings_b122 S hr hk hR X (lv_sub hl [0, 1, 2, 3] rfl) hg
  · have hg := (if_neg c20).symm.trans hg
    refine lv_aload_n hx hb dX12_keepBindings_23 rfl (lv_at hl 0 rfl) ?_
    refine wmgI_44 (v := (gI σ 44)) S X mG_2161 rfl dX12_keepBindings_24 ?_
    refine lv_if_ne (tgt := 122) hx hb dX12_keepBindings_27 (by decide) (fun c27 => ?_) (fun c27 => ?_)
    · have hg := (if_neg c27).symm.trans hg
      exact w_X12_keepBindings_b122 S hr hk hR X (lv_sub hl [0, 1, 2, 3] rfl) hg
    · have hg := (if_pos c27).symm.trans hg
      refine lv_aload_n hx hb dX12_keepBindings_30 rfl (lv_at hl 0 rfl) ?_
      refine lv_iload_n hx hb dX12_keepBindings_31 rfl (lv_at hl 1 rfl) ?_
      refine lv_iload hx hb dX12_keepBindings_32 (lv_at hl 4 rfl) ?_
      obtain ⟨r34, τ34, hq34, hg⟩ := bd_some hg
      refine gc_Vi (As := [.int v1, .int v4]) (rest := []) (q0 := 0) (ci := 15) S X (k2_X12_child l dC dI ad kc hq34 H.size) cw_X12_child mG_2736 rfl rfl rfl rfl rfl hl.1 (Nat.le_of_ble_eq_true rfl) dX12_keepBindings_34 ⟨by omega, by omega⟩ (fun H locs X => ?_)
      refine lv_istore (lv' := [(5, .int r34), (0, .ref (ad 0)), (1, .int v1), (2, .int v2), (3, .int v3), (4, .int v4)]) hx hb dX12_keepBindings_37 hl (by decide) rfl (fun ls hl => ?_)
      refine lv_aload_n hx hb dX12_keepBindings_39 rfl (lv_at hl 1 rfl) ?_
      refine wmgR_0_64 S X mG_2114 dX12_keepBindings_40 ?_
      refine lv_iload hx hb dX12_keepBindings_43 (lv_at hl 0 rfl) ?_
      obtain ⟨hi45, hg⟩ := gd_some hg
      refine wmlA_31 (v := (xA τ34 31 r34)) S X hi45 rfl dX12_keepBindings_45 ?_
      refine lv_bipush (v := 13) hx hb dX12_keepBindings_46 (by decide) ?_
      refine lv_icmp_ne (tgt := 57) hx hb dX12_keepBindings_48 (by decide) (fun c48 => ?_) (fun c48 => ?_)
      · have hg := (if_neg c48).symm.trans hg
        refine lv_aload_n hx hb dX12_keepBindings_57 rfl (lv_at hl 1 rfl) ?_
        refine lv_iload hx hb dX12_keepBindings_58 (lv_at hl 0 rfl) ?_
        obtain ⟨r60, τ60, hq60, hg⟩ := bd_some hg
        refine gc_Vl (As := [.int r34]) (rest := []) (q0 := 0) (ci := 15) S X (k2_X12_plain l dC dI ad kc hq60 H.size) cw_X12_plain mG_2848 rfl rfl rfl rfl rfl hl.1 (Nat.le_of_ble_eq_true rfl) dX12_keepBindings_60 ⟨by omega, by omega⟩ (fun H locs X => ?_)
        exact w_X12_keepBindings_b63 S hr hk hR hrec17 X (lv_sub hl [1, 2, 3, 4, 5, 0] rfl) hg
      · have hg := (if_pos c48).symm.trans hg
        refine lv_ldc2 (own := RX12) (v := (-1)) hx hb hown (hu _ mG_2735) dX12_keepBindings_51 ?_
        refine lv_goto (tgt := 63) hx hb dX12_keepBindings_54 (by decide) ?_
        exact w_X12_keepBindings_b63 S hr hk hR hrec17 X (lv_sub hl [1, 2, 3, 4, 5, 0] rfl) hg
set_option maxHeartbeats 4000000 in
set_option maxRecDepth 100000 in
theorem w_X12_keepBindings_L17 (S : CallFix p m c cX12_keepBindings 9 s args uG RX12) (hr : meth.sig.returnType = none) (hk : meth.locks = false) (hR : 4 ≤ R.frames ∧ 94 ≤ R.locals) : ∀ (n : Nat) (v1 : Int32) (v2 : Int32) (v3 : Int32) (v4 : Int32) (σ : S5) (H : Heap) (locs : List Loc) (ls : Array Slot), gX (dC, dI) (tM kc) (wM ad kc) Z A s σ H locs → lv_has ls 9 [(0, .ref (ad 0)), (1, .int v1), (2, .int v2), (3, .int v3), (4, .int v4)] → f_X12_keepBindings_L17  n v1 v2 v3 v4 σ = some (r, τ) → W p l e R s m args below meth c H locs 0 0 (MQ below (gQv (dC, dI) (tM kc) (wM ad kc) A r τ) args s 0 0 A) (F0 m 17 ls []) := by
  intro n
  induction n with
  | zero => intro v1 v2 v3 v4 σ H locs ls X hl hg; cases hg
  | succ n ih => intro v1 v2 v3 v4 σ H locs ls X hl hg; exact w_X12_keepBindings_B17 S hr hk hR ih X hl hg
set_option maxHeartbeats 4000000 in
set_option maxRecDepth 100000 in
theorem w_X12_keepBindings {σ : S5} {a1 : Int32} {H : Heap} {locs : List Loc} {ls : Array Slot} (S : CallFix p m c cX12_keepBindings 9 s args uG RX12) (hr : meth.sig.returnType = none) (hk : meth.locks = false) (hR : 4 ≤ R.frames ∧ 94 ≤ R.locals)
    (X : gX (dC, dI) (tM kc) (wM ad kc) Z A s σ H locs) (hl : lv_has ls 9 [(0, .ref (ad 0)), (1, .int a1)]) (hg : f_X12_keepBindings a1 σ = some (r, τ)) : W p l e R s m args below meth c H locs 0 0 (MQ below (gQv (dC, dI) (tM kc) (wM ad kc) A r τ) args s 0 0 A) (F0 m 0 ls []) := by
  have hx := S.1
  have hb := S.2.1
  have hown := S.2.2.2.1
  have hu := S.2.2.2.2
  unfold f_X12_keepBindings at hg
  refine lv_aload_n hx hb dX12_keepBindings_0 rfl (lv_at hl 0 rfl) ?_
  refine wmgR_0_65 S X mG_2115 dX12_keepBindings_1 ?_
  refine lv_iload_n hx hb dX12_keepBindings_4 rfl (lv_at hl 1 rfl) ?_
  obtain ⟨hi5, hg⟩ := gd_some hg
  refine wmlA_32 (v := (xA σ 32 a1)) S X hi5 rfl dX12_keepBindings_5 ?_
  refine lv_istore_n (lv' := [(2, .int (xA σ 32 a1)), (0, .ref (ad 0)), (1, .int a1)]) hx hb dX12_keepBindings_6 rfl hl (by decide) rfl (fun ls hl => ?_)
  refine lv_aload_n hx hb dX12_keepBindings_7 rfl (lv_at hl 1 rfl) ?_
  refine wmgR_0_68 S X mG_2118 dX12_keepBindings_8 ?_
  refine lv_iload_n hx hb dX12_keepBindings_11 rfl (lv_at hl 2 rfl) ?_
  obtain ⟨hi12, hg⟩ := gd_some hg
  refine wmlA_35 (v := (xA σ 35 a1)) S X hi12 rfl dX12_keepBindings_12 ?_
  refine lv_istore_n (lv' := [(3, .int (xA σ 35 a1)), (2, .int (xA σ 32 a1)), (0, .ref (ad 0)), (1, .int a1)]) hx hb dX12_keepBindings_13 rfl hl (by decide) rfl (fun ls hl => ?_)
  refine lv_iconst (v := 0) hx hb dX12_keepBindings_14 (by decide) ?_
  refine lv_istore (lv' := [(4, .int 0), (3, .int (xA σ 35 a1)), (2, .int (xA σ 32 a1)), (0, .ref (ad 0)), (1, .int a1)]) hx hb dX12_keepBindings_15 hl (by decide) rfl (fun ls hl => ?_)
  exact w_X12_keepBindings_L17 S hr hk hR _ _ _ _ _ _ _ _ _ X (lv_sub hl [3, 4, 2, 1, 0] rfl) hg
end MX12_keepBindings
set_option maxRecDepth 100000 in
theorem k2_X12_keepBindings (l : Launch) (dC : Nat → ClassId) (dI : Nat → Nat → Nat) {Z : ZZ} (ad : Nat → Nat) (kc : Nat → ClassId) {σ τ : S5} {a1 : Int32} {r : Unit} (hg : f_X12_keepBindings a1 σ = some (r, τ)) (sz : Nat) : Met l yX12_keepBindings (Cond.code yX12_keepBindings cX12_keepBindings 9 none :: uG) { frames := 4, cells := 0, slots := 0, locals := 94 } (gPc (dC, dI) (tM kc) (wM ad kc) Z [.ref (ad 0), .int a1] σ sz) (gQv (dC, dI) (tM kc) (wM ad kc) (va_A (wM ad kc σ) sz) r τ) 0 0 (va_A (wM ad kc σ) sz) :=
  g_start (by decide) (Nat.le_of_ble_eq_true rfl) (fun p e s m below meth c ls S hr hk X hl => w_X12_keepBindings S hr hk ⟨Nat.le_refl _, Nat.le_refl _⟩ X hl hg)
section MX12_frame
variable {p : Program} {l : Launch} {e : Env} {R : Room} {s : State} {m : MethodId} {args : Array Value} {below : List Frame} {meth : Method} {c : Code} {dC : Nat → ClassId} {dI : Nat → Nat → Nat} {Z : ZZ} {A : Nat → Prop} {ad : Nat → Nat} {kc : Nat → ClassId} {r : Unit} {τ : S5}
set_option maxHeartbeats 4000000 in
set_option maxRecDepth 100000 in
theorem w_X12_frame {σ : S5} {a1 : Int32} {H : Heap} {locs : List Loc} {ls : Array Slot} (S : CallFix p m c cX12_frame 2 s args uG RX12) (hr : meth.sig.returnType = none) (hk : meth.locks = false) (hR : 1 ≤ R.frames ∧ 23 ≤ R.locals)
    (X : gX (dC, dI) (tM kc) (wM ad kc) Z A s σ H locs) (hl : lv_has ls 2 [(0, .ref (ad 0)), (1, .int a1)]) (hg : f_X12_frame a1 σ = some (r, τ)) : W p l e R s m args below meth c H locs 0 0 (MQ below (gQv (dC, dI) (tM kc) (wM ad kc) A r τ) args s 0 0 A) (F0 m 0 ls []) := by
  have hx := S.1
  have hb := S.2.1
  have hown := S.2.2.2.1
  have hu := S.2.2.2.2
  unfold f_X12_frame at hg
  refine lv_aload_n hx hb dX12_frame_0 rfl (lv_at hl 0 rfl) ?_
  refine lv_iconst (v := 1) hx hb dX12_frame_1 (by decide) ?_
  refine lv_iconst (v := 0) hx hb dX12_frame_2 (by decide) ?_
  refine lv_aload_n hx hb dX12_frame_3 rfl (lv_at hl 0 rfl) ?_
  refine wmgI_51 (v := (gI σ 51)) S X mG_2173 rfl dX12_frame_4 ?_
  obtain ⟨r7, τ7, hq7, hg⟩ := bd_some hg
  refine gc_Vv (As := [.int 1, .int 0, .int (gI σ 51)]) (rest := []) (q0 := 0) (ci := 15) S X (k2_X12_waits l dC dI ad kc hq7 H.size) cw_X12_waits mG_2811 rfl rfl rfl rfl rfl hl.1 (Nat.le_of_ble_eq_true rfl) dX12_frame_7 ⟨by omega, by omega⟩ (fun H locs X => ?_)
  refine lv_aload_n hx hb dX12_frame_10 rfl (lv_at hl 0 rfl) ?_
  refine lv_aload_n hx hb dX12_frame_11 rfl (lv_at hl 0 rfl) ?_
  refine wmgI_51 (v := (gI τ7 51)) S X mG_2173 rfl dX12_frame_12 ?_
  refine wmpI_50 S X mG_2172 dX12_frame_15 (fun H locs X => ?_)
  refine lv_aload_n hx hb dX12_frame_18 rfl (lv_at hl 0 rfl) ?_
  refine lv_dup hx hb dX12_frame_19 rfl ?_
  refine wmgI_51 (v := (gI τ7 51)) S X mG_2173 rfl dX12_frame_20 ?_
  refine lv_aload_n hx hb dX12_frame_23 rfl (lv_at hl 0 rfl) ?_
  refine wmgR_0_81 S X mG_2131 dX12_frame_24 ?_
  refine lv_iload_n hx hb dX12_frame_27 rfl (lv_at hl 1 rfl) ?_
  obtain ⟨hi28, hg⟩ := gd_some hg
  refine wmlA_46 (v := (xA τ7 46 a1)) S X hi28 rfl dX12_frame_28 ?_
  refine lv_iadd hx hb dX12_frame_29 ?_
  refine wmpI_51 S X mG_2173 dX12_frame_30 (fun H locs X => ?_)
  obtain ⟨-, rfl⟩ := fin_some hg
  exact gr_v S hr hk X dX12_frame_33
end MX12_frame
set_option maxRecDepth 100000 in
theorem k2_X12_frame (l : Launch) (dC : Nat → ClassId) (dI : Nat → Nat → Nat) {Z : ZZ} (ad : Nat → Nat) (kc : Nat → ClassId) {σ τ : S5} {a1 : Int32} {r : Unit} (hg : f_X12_frame a1 σ = some (r, τ)) (sz : Nat) : Met l yX12_frame (Cond.code yX12_frame cX12_frame 2 none :: uG) { frames := 1, cells := 0, slots := 0, locals := 23 } (gPc (dC, dI) (tM kc) (wM ad kc) Z [.ref (ad 0), .int a1] σ sz) (gQv (dC, dI) (tM kc) (wM ad kc) (va_A (wM ad kc σ) sz) r τ) 0 0 (va_A (wM ad kc σ) sz) :=
  g_start (by decide) (Nat.le_of_ble_eq_true rfl) (fun p e s m below meth c ls S hr hk X hl => w_X12_frame S hr hk ⟨Nat.le_refl _, Nat.le_refl _⟩ X hl hg)
section MX12_enter
variable {p : Program} {l : Launch} {e : Env} {R : Room} {s : State} {m : MethodId} {args : Array Value} {below : List Frame} {meth : Method} {c : Code} {dC : Nat → ClassId} {dI : Nat → Nat → Nat} {Z : ZZ} {A : Nat → Prop} {ad : Nat → Nat} {kc : Nat → ClassId} {r : Unit} {τ : S5}
set_option maxHeartbeats 4000000 in
set_option maxRecDepth 100000 in
theorem w_X12_enter_b183 {σ : S5} {v4 : Int32} {H : Heap} {locs : List Loc} {ls : Array Slot} (S : CallFix p m c cX12_enter 7 s args uG RX12) (hr : meth.sig.returnType = none) (hk : meth.locks = false) (hR : 2 ≤ R.frames ∧ 44 ≤ R.locals)
    (X : gX (dC, dI) (tM kc) (wM ad kc) Z A s σ H locs) (hl : lv_has ls 7 [(0, .ref (ad 0)), (4, .int v4)]) (hg : f_X12_enter_b183 v4 σ = some (r, τ)) : W p l e R s m args below meth c H locs 0 0 (MQ below (gQv (dC, dI) (tM kc) (wM ad kc) A r τ) args s 0 0 A) (F0 m 183 ls []) := by
  have hx := S.1
  have hb := S.2.1
  have hown := S.2.2.2.1
  have hu := S.2.2.2.2
  unfold f_X12_enter_b183 at hg
  refine lv_aload_n hx hb dX12_enter_183 rfl (lv_at hl 0 rfl) ?_
  refine lv_iload hx hb dX12_enter_184 (lv_at hl 1 rfl) ?_
  obtain ⟨r186, τ186, hq186, hg⟩ := bd_some hg
  refine gc_Vv (As := [.int v4]) (rest := []) (q0 := 0) (ci := 15) S X (k2_X12_evaluate l dC dI ad kc hq186 H.size) cw_X12_evaluate mG_2819 rfl rfl rfl rfl rfl hl.1 (Nat.le_of_ble_eq_true rfl) dX12_enter_186 ⟨by omega, by omega⟩ (fun H locs X => ?_)
  refine lv_goto (tgt := 197) hx hb dX12_enter_189 (by decide) ?_
  obtain ⟨-, rfl⟩ := fin_some hg
  exact gr_v S hr hk X dX12_enter_197
set_option maxHeartbeats 4000000 in
set_option maxRecDepth 100000 in
theorem w_X12_enter_b177 {σ : S5} {rec113 : Int32 → Int32 → Int32 → Int32 → S5 → Option (Unit × S5)} {v3 : Int32} {v4 : Int32} {v5 : Int32} {v6 : Int32} {H : Heap} {locs : List Loc} {ls : Array Slot} (S : CallFix p m c cX12_enter 7 s args uG RX12) (hr : meth.sig.returnType = none) (hk : meth.locks = false) (hR : 2 ≤ R.frames ∧ 44 ≤ R.locals)
    (hrec113 : ∀ (v3 : Int32) (v4 : Int32) (v5 : Int32) (v6 : Int32) (σ : S5) (H : Heap) (locs : List Loc) (ls : Array Slot), gX (dC, dI) (tM kc) (wM ad kc) Z A s σ H locs → lv_has ls 7 [(0, .ref (ad 0)), (3, .int v3), (4, .int v4), (5, .int v5), (6, .int v6)] → rec113 v3 v4 v5 v6 σ = some (r, τ) → W p l e R s m args below meth c H locs 0 0 (MQ below (gQv (dC, dI) (tM kc) (wM ad kc) A r τ) args s 0 0 A) (F0 m 113 ls []))
    (X : gX (dC, dI) (tM kc) (wM ad kc) Z A s σ H locs) (hl : lv_has ls 7 [(0, .ref (ad 0)), (3, .int v3), (4, .int v4), (5, .int v5), (6, .int v6)]) (hg : f_X12_enter_b177 rec113 v3 v4 v5 v6 σ = some (r, τ)) : W p l e R s m args below meth c H locs 0 0 (MQ below (gQv (dC, dI) (tM kc) (wM ad kc) A r τ) args s 0 0 A) (F0 m 177 ls []) := by
  have hx := S.1
  have hb := S.2.1
  have hown := S.2.2.2.1
  have hu := S.2.2.2.2
  unfold f_X12_enter_b177 at hg
  refine lv_iinc (v := (v6 + 1)) (lv' := [(6, .int (v6 + 1)), (0, .ref (ad 0)), (3, .int v3), (4, .int v4), (5, .int v5)]) hx hb dX12_enter_177 hl (k := 4) rfl (by rfl) (by decide) rfl (fun ls hl => ?_)
  refine lv_goto (tgt := 113) hx hb dX12_enter_180 (by decide) ?_
  exact hrec113 _ _ _ _ _ _ _ _ X (lv_sub hl [1, 2, 3, 4, 0] rfl) hg
set_option maxHeartbeats 4000000 in
set_option maxRecDepth 100000 in
theorem w_X12_enter_B113 {σ : S5} {rec113 : Int32 → Int32 → Int32 → Int32 → S5 → Option (Unit × S5)} {v3 : Int32} {v4 : Int32} {v5 : Int32} {v6 : Int32} {H : Heap} {locs : List Loc} {ls : Array Slot} (S : CallFix p m c cX12_enter 7 s args uG RX12) (hr : meth.sig.returnType = none) (hk : meth.locks = false) (hR : 2 ≤ R.frames ∧ 44 ≤ R.locals)
    (hrec113 : ∀ (v3 : Int32) (v4 : Int32) (v5 : Int32) (v6 : Int32) (σ : S5) (H : Heap) (locs : List Loc) (ls : Array Slot), gX (dC, dI) (tM kc) (wM ad kc) Z A s σ H locs → lv_has ls 7 [(0, .ref (ad 0)), (3, .int v3), (4, .int v4), (5, .int v5), (6, .int v6)] → rec113 v3 v4 v5 v6 σ = some (r, τ) → W p l e R s m args below meth c H locs 0 0 (MQ below (gQv (dC, dI) (tM kc) (wM ad kc) A r τ) args s 0 0 A) (F0 m 113 ls []))
    (X : gX (dC, dI) (tM kc) (wM ad kc) Z A s σ H locs) (hl : lv_has ls 7 [(0, .ref (ad 0)), (3, .int v3), (4, .int v4), (5, .int v5), (6, .int v6)]) (hg : f_X12_enter_B113 rec113 v3 v4 v5 v6 σ = some (r, τ)) : W p l e R s m args below meth c H locs 0 0 (MQ below (gQv (dC, dI) (tM kc) (wM ad kc) A r τ) args s 0 0 A) (F0 m 113 ls []) := by
  have hx := S.1
  have hb := S.2.1
  have hown := S.2.2.2.1
  have hu := S.2.2.2.2
  unfold f_X12_enter_B113 at hg
  refine lv_iload hx hb dX12_enter_113 (lv_at hl 4 rfl) ?_
  refine lv_bipush (v := 40) hx hb dX12_enter_115 (by decide) ?_
  refine lv_icmp_ge (tgt := 183) hx hb dX12_enter_117 (by decide) (fun c117 => ?_) (fun c117 => ?_)
  · have hg := (if_pos c117).symm.trans hg
    exact w_X12_enter_b183 S hr hk hR X (lv_sub hl [0, 2] rfl) hg
  · have hg := (if_neg c117).symm.trans hg
    refine lv_iload hx hb dX12_enter_120 (lv_at hl 3 rfl) ?_
    refine lv_aload_n hx hb dX12_enter_122 rfl (lv_at hl 0 rfl) ?_
    refine wmgR_0_96 S X mG_2146 dX12_enter_123 ?_
    refine lv_iload_n hx hb dX12_enter_126 rfl (lv_at hl 1 rfl) ?_
    obtain ⟨hi127, hg⟩ := gd_some hg
    refine wmlA_56 (v := (xA σ 56 v3)) S X hi127 rfl dX12_enter_127 ?_
    refine lv_icmp_ge (tgt := 183) hx hb dX12_enter_128 (by decide) (fun c128 => ?_) (fun c128 => ?_)
    · have hg := (if_pos c128).symm.trans hg
      exact w_X12_enter_b183 S hr hk hR X (lv_sub hl [0, 2] rfl) hg
    · have hg := (if_neg c128).symm.trans hg
      refine lv_aload_n hx hb dX12_enter_131 rfl (lv_at hl 0 rfl) ?_
      refine wmgR_0_72 S X mG_2122 dX12_enter_132 ?_
      refine lv_iload hx hb dX12_enter_135 (lv_at hl 2 rfl) ?_
      obtain ⟨hi137, hg⟩ := gd_some hg
      refine wmlB_5 (v := (xB σ 5 v4)) S X hi137 rfl dX12_enter_137 ?_
      refine lv_iload hx hb dX12_enter_138 (lv_at hl 4 rfl) ?_
      refine lv_lshr (v := (j_lshr (xB σ 5 v4) v6)) hx hb dX12_enter_140 rfl ?_
      refine lv_lconst (v := 1) hx hb dX12_enter_141 rfl ?_
      refine lv_land hx hb dX12_enter_142 ?_
      refine lv_lconst (v := 1) hx hb dX12_enter_143 rfl ?_
      refine W.lcmp hx hb dX12_enter_144 ?_
      refine lv_if_ne (tgt := 177) hx hb dX12_enter_145 (by decide) (fun c145 => ?_) (fun c145 => ?_)
      · have hg := (if_neg c145).symm.trans hg
        exact w_X12_enter_b177 S hr hk hR hrec113 X (lv_sub hl [0, 1, 2, 3, 4] rfl) hg
      · have hg := (if_pos c145).symm.trans hg
        refine lv_aload_n hx hb dX12_enter_148 rfl (lv_at hl 0 rfl) ?_
        refine wmgR_0_124 S X mG_2174 dX12_enter_149 ?_
        refine lv_aload_n hx hb dX12_enter_152 rfl (lv_at hl 0 rfl) ?_
        refine wmgI_50 (v := (gI σ 50)) S X mG_2172 rfl dX12_enter_153 ?_
        refine lv_iload hx hb dX12_enter_156 (lv_at hl 4 rfl) ?_
        refine lv_iadd hx hb dX12_enter_158 ?_
        refine lv_aload_n hx hb dX12_enter_159 rfl (lv_at hl 0 rfl) ?_
        refine wmgR_0_99 S X mG_2149 dX12_enter_160 ?_
        refine lv_aload_n hx hb dX12_enter_163 rfl (lv_at hl 0 rfl) ?_
        refine wmgR_0_95 S X mG_2145 dX12_enter_164 ?_
        refine lv_iload_n hx hb dX12_enter_167 rfl (lv_at hl 1 rfl) ?_
        obtain ⟨hi168, hg⟩ := gd_some hg
        refine wmlA_55 (v := (xA σ 55 v3)) S X hi168 rfl dX12_enter_168 ?_
        refine lv_iload hx hb dX12_enter_169 (lv_at hl 3 rfl) ?_
        refine lv_iadd hx hb dX12_enter_171 ?_
        obtain ⟨hi172, hg⟩ := gd_some hg
        refine wmlB_7 (v := (xB σ 7 ((xA σ 55 v3) + v5))) S X hi172 rfl dX12_enter_172 ?_
        obtain ⟨hi173, hg⟩ := gd_some hg
        refine wmsB_9 S X hi173 dX12_enter_173 (fun H locs X => ?_)
        refine lv_iinc (v := (v5 + 1)) (lv' := [(5, .int (v5 + 1)), (0, .ref (ad 0)), (3, .int v3), (4, .int v4), (6, .int v6)]) hx hb dX12_enter_174 hl (k := 3) rfl (by rfl) (by decide) rfl (fun ls hl => ?_)
        exact w_X12_enter_b177 S hr hk hR hrec113 X (lv_sub hl [1, 2, 3, 0, 4] rfl) hg
set_option maxHeartbeats 4000000 in
set_option maxRecDepth 100000 in
theorem w_X12_enter_L113 (S : CallFix p m c cX12_enter 7 s args uG RX12) (hr : meth.sig.returnType = none) (hk : meth.locks = false) (hR : 2 ≤ R.frames ∧ 44 ≤ R.locals) : ∀ (n : Nat) (v3 : Int32) (v4 : Int32) (v5 : Int32) (v6 : Int32) (σ : S5) (H : Heap) (locs : List Loc) (ls : Array Slot), gX (dC, dI) (tM kc) (wM ad kc) Z A s σ H locs → lv_has ls 7 [(0, .ref (ad 0)), (3, .int v3), (4, .int v4), (5, .int v5), (6, .int v6)] → f_X12_enter_L113  n v3 v4 v5 v6 σ = some (r, τ) → W p l e R s m args below meth c H locs 0 0 (MQ below (gQv (dC, dI) (tM kc) (wM ad kc) A r τ) args s 0 0 A) (F0 m 113 ls []) := by
  intro n
  induction n with
  | zero => intro v3 v4 v5 v6 σ H locs ls X hl hg; cases hg
  | succ n ih => intro v3 v4 v5 v6 σ H locs ls X hl hg; exact w_X12_enter_B113 S hr hk hR ih X hl hg
set_option maxHeartbeats 4000000 in
set_option maxRecDepth 100000 in
theorem w_X12_enter {σ : S5} {a1 : Int64} {H : Heap} {locs : List Loc} {ls : Array Slot} (S : CallFix p m c cX12_enter 7 s args uG RX12) (hr : meth.sig.returnType = none) (hk : meth.locks = false) (hR : 2 ≤ R.frames ∧ 44 ≤ R.locals)
    (X : gX (dC, dI) (tM kc) (wM ad kc) Z A s σ H locs) (hl : lv_has ls 7 [(0, .ref (ad 0)), (1, .long a1)]) (hg : f_X12_enter a1 σ = some (r, τ)) : W p l e R s m args below meth c H locs 0 0 (MQ below (gQv (dC, dI) (tM kc) (wM ad kc) A r τ) args s 0 0 A) (F0 m 0 ls []) := by
  have hx := S.1
  have hb := S.2.1
  have hown := S.2.2.2.1
  have hu := S.2.2.2.2
  unfold f_X12_enter at hg
  refine lv_lload_n hx hb dX12_enter_0 rfl (lv_at hl 1 rfl) ?_
  obtain ⟨r1, τ1, hq1, hg⟩ := bd_some hg
  refine gc_Si (As := [.long a1]) (rest := []) S X (k2_X12_kindOf l dC dI ad kc hq1 H.size) cw_X12_kindOf mG_2801 rfl rfl hl.1 (Nat.le_of_ble_eq_true rfl) dX12_enter_1 ⟨by omega, by omega⟩ (fun H locs X => ?_)
  refine lv_iconst (v := 3) hx hb dX12_enter_4 (by decide) ?_
  refine lv_icmp_eq (tgt := 14) hx hb dX12_enter_5 (by decide) (fun c5 => ?_) (fun c5 => ?_)
  · have hg := (if_pos c5).symm.trans hg
    refine lv_lload_n hx hb dX12_enter_14 rfl (lv_at hl 1 rfl) ?_
    obtain ⟨r15, τ15, hq15, hg⟩ := bd_some hg
    refine gc_Si (As := [.long a1]) (rest := []) S X (k2_X12_of l dC dI ad kc hq15 H.size) cw_X12_of mG_2808 rfl rfl hl.1 (Nat.le_of_ble_eq_true rfl) dX12_enter_15 ⟨by omega, by omega⟩ (fun H locs X => ?_)
    refine lv_istore_n (lv' := [(3, .int r15), (0, .ref (ad 0)), (1, .long a1)]) hx hb dX12_enter_18 rfl hl (by decide) rfl (fun ls hl => ?_)
    refine lv_aload_n hx hb dX12_enter_19 rfl (lv_at hl 1 rfl) ?_
    refine wmgR_0_92 S X mG_2142 dX12_enter_20 ?_
    refine lv_iload_n hx hb dX12_enter_23 rfl (lv_at hl 0 rfl) ?_
    obtain ⟨hi24, hg⟩ := gd_some hg
    refine wmlA_53 (v := (xA τ15 53 r15)) S X hi24 rfl dX12_enter_24 ?_
    rcases sw_2_4 ((xA τ15 53 r15)) with hsw | hsw | hsw | hsw
    · refine lv_tableOut (tgt := 192) hx hb dX12_enter_25 hsw (by decide) ?_
      obtain ⟨hs0, hs1, hs2⟩ := swo_2_4 hsw
      have hg := (if_neg hs0).symm.trans hg
      have hg := (if_neg hs1).symm.trans hg
      have hg := (if_neg hs2).symm.trans hg
      refine lv_aload_n hx hb dX12_enter_192 rfl (lv_at hl 1 rfl) ?_
      refine lv_lload_n hx hb dX12_enter_193 rfl (lv_at hl 2 rfl) ?_
      obtain ⟨r194, τ194, hq194, hg⟩ := bd_some hg
      refine gc_Vv (As := [.long a1]) (rest := []) (q0 := 0) (ci := 15) S X (k2_X12_gives l dC dI ad kc hq194 H.size) cw_X12_gives mG_2804 rfl rfl rfl rfl rfl hl.1 (Nat.le_of_ble_eq_true rfl) dX12_enter_194 ⟨by omega, by omega⟩ (fun H locs X => ?_)
      obtain ⟨-, rfl⟩ := fin_some hg
      exact gr_v S hr hk X dX12_enter_197
    · refine lv_tableIn (off := 49) (tgt := 74) hx hb dX12_enter_25 (by rw [hsw]; decide) (by rw [hsw]; decide) (by rw [hsw]; decide) (by decide) ?_
      have hg := (if_pos hsw).symm.trans hg
      refine lv_aload_n hx hb dX12_enter_74 rfl (lv_at hl 1 rfl) ?_
      refine wmgR_0_93 S X mG_2143 dX12_enter_75 ?_
      refine lv_iload_n hx hb dX12_enter_78 rfl (lv_at hl 0 rfl) ?_
      obtain ⟨hi79, hg⟩ := gd_some hg
      refine wmlA_54 (v := (xA τ15 54 r15)) S X hi79 rfl dX12_enter_79 ?_
      refine lv_istore (lv' := [(4, .int (xA τ15 54 r15)), (3, .int r15), (0, .ref (ad 0)), (1, .long a1)]) hx hb dX12_enter_80 hl (by decide) rfl (fun ls hl => ?_)
      refine lv_aload_n hx hb dX12_enter_82 rfl (lv_at hl 2 rfl) ?_
      refine wmgR_0_92 S X mG_2142 dX12_enter_83 ?_
      refine lv_iload_n hx hb dX12_enter_86 rfl (lv_at hl 1 rfl) ?_
      refine lv_iconst (v := 3) hx hb dX12_enter_87 (by decide) ?_
      obtain ⟨hi88, hg⟩ := gd_some hg
      refine wmsA_53 S X hi88 dX12_enter_88 (fun H locs X => ?_)
      refine lv_aload_n hx hb dX12_enter_89 rfl (lv_at hl 2 rfl) ?_
      refine lv_iconst (v := 0) hx hb dX12_enter_90 (by decide) ?_
      refine lv_iconst (v := 0) hx hb dX12_enter_91 (by decide) ?_
      refine lv_iload_n hx hb dX12_enter_92 rfl (lv_at hl 1 rfl) ?_
      obtain ⟨r93, τ93, hq93, hg⟩ := bd_some hg
      refine gc_Vv (As := [.int 0, .int 0, .int r15]) (rest := []) (q0 := 0) (ci := 15) S X (k2_X12_waits l dC dI ad kc hq93 H.size) cw_X12_waits mG_2811 rfl rfl rfl rfl rfl hl.1 (Nat.le_of_ble_eq_true rfl) dX12_enter_93 ⟨by omega, by omega⟩ (fun H locs X => ?_)
      refine lv_aload_n hx hb dX12_enter_96 rfl (lv_at hl 2 rfl) ?_
      refine lv_aload_n hx hb dX12_enter_97 rfl (lv_at hl 2 rfl) ?_
      refine wmgR_0_71 S X mG_2121 dX12_enter_98 ?_
      refine lv_iload hx hb dX12_enter_101 (lv_at hl 0 rfl) ?_
      obtain ⟨hi103, hg⟩ := gd_some hg
      refine wmlA_38 (v := (xA τ93 38 (xA τ15 54 r15))) S X hi103 rfl dX12_enter_103 ?_
      obtain ⟨r104, τ104, hq104, hg⟩ := bd_some hg
      refine gc_Vv (As := [.int (xA τ93 38 (xA τ15 54 r15))]) (rest := []) (q0 := 0) (ci := 15) S X (k2_X12_frame l dC dI ad kc hq104 H.size) cw_X12_frame mG_2815 rfl rfl rfl rfl rfl hl.1 (Nat.le_of_ble_eq_true rfl) dX12_enter_104 ⟨by omega, by omega⟩ (fun H locs X => ?_)
      refine lv_iconst (v := 0) hx hb dX12_enter_107 (by decide) ?_
      refine lv_istore (lv' := [(5, .int 0), (4, .int (xA τ15 54 r15)), (3, .int r15), (0, .ref (ad 0)), (1, .long a1)]) hx hb dX12_enter_108 hl (by decide) rfl (fun ls hl => ?_)
      refine lv_iconst (v := 0) hx hb dX12_enter_110 (by decide) ?_
      refine lv_istore (lv' := [(6, .int 0), (5, .int 0), (4, .int (xA τ15 54 r15)), (3, .int r15), (0, .ref (ad 0)), (1, .long a1)]) hx hb dX12_enter_111 hl (by decide) rfl (fun ls hl => ?_)
      exact w_X12_enter_L113 S hr hk hR _ _ _ _ _ _ _ _ _ X (lv_sub hl [4, 3, 2, 1, 0] rfl) hg
    · refine lv_tableIn (off := 40) (tgt := 65) hx hb dX12_enter_25 (by rw [hsw]; decide) (by rw [hsw]; decide) (by rw [hsw]; decide) (by decide) ?_
      have hg := (if_neg (by rw [hsw]; decide)).symm.trans hg
      have hg := (if_pos hsw).symm.trans hg
      refine lv_aload_n hx hb dX12_enter_65 rfl (lv_at hl 1 rfl) ?_
      refine lv_iconst (v := 2) hx hb dX12_enter_66 (by decide) ?_
      refine lv_iconst (v := 3) hx hb dX12_enter_67 (by decide) ?_
      obtain ⟨r68, τ68, hq68, hg⟩ := bd_some hg
      refine gc_Vv (As := [.int 2, .int 3]) (rest := []) (q0 := 0) (ci := 15) S X (k2_X12_ends l dC dI ad kc hq68 H.size) cw_X12_ends mG_2785 rfl rfl rfl rfl rfl hl.1 (Nat.le_of_ble_eq_true rfl) dX12_enter_68 ⟨by omega, by omega⟩ (fun H locs X => ?_)
      refine lv_goto (tgt := 197) hx hb dX12_enter_71 (by decide) ?_
      obtain ⟨-, rfl⟩ := fin_some hg
      exact gr_v S hr hk X dX12_enter_197
    · refine lv_tableIn (off := 27) (tgt := 52) hx hb dX12_enter_25 (by rw [hsw]; decide) (by rw [hsw]; decide) (by rw [hsw]; decide) (by decide) ?_
      have hg := (if_neg (by rw [hsw]; decide)).symm.trans hg
      have hg := (if_neg (by rw [hsw]; decide)).symm.trans hg
      have hg := (if_pos hsw).symm.trans hg
      refine lv_aload_n hx hb dX12_enter_52 rfl (lv_at hl 1 rfl) ?_
      refine lv_aload_n hx hb dX12_enter_53 rfl (lv_at hl 1 rfl) ?_
      refine wmgR_0_94 S X mG_2144 dX12_enter_54 ?_
      refine lv_iload_n hx hb dX12_enter_57 rfl (lv_at hl 0 rfl) ?_
      obtain ⟨hi58, hg⟩ := gd_some hg
      refine wmlB_6 (v := (xB τ15 6 r15)) S X hi58 rfl dX12_enter_58 ?_
      obtain ⟨r59, τ59, hq59, hg⟩ := bd_some hg
      refine gc_Vv (As := [.long (xB τ15 6 r15)]) (rest := []) (q0 := 0) (ci := 15) S X (k2_X12_gives l dC dI ad kc hq59 H.size) cw_X12_gives mG_2804 rfl rfl rfl rfl rfl hl.1 (Nat.le_of_ble_eq_true rfl) dX12_enter_59 ⟨by omega, by omega⟩ (fun H locs X => ?_)
      refine lv_goto (tgt := 197) hx hb dX12_enter_62 (by decide) ?_
      obtain ⟨-, rfl⟩ := fin_some hg
      exact gr_v S hr hk X dX12_enter_197
  · have hg := (if_neg c5).symm.trans hg
    refine lv_aload_n hx hb dX12_enter_8 rfl (lv_at hl 0 rfl) ?_
    refine lv_lload_n hx hb dX12_enter_9 rfl (lv_at hl 1 rfl) ?_
    obtain ⟨r10, τ10, hq10, hg⟩ := bd_some hg
    refine gc_Vv (As := [.long a1]) (rest := []) (q0 := 0) (ci := 15) S X (k2_X12_gives l dC dI ad kc hq10 H.size) cw_X12_gives mG_2804 rfl rfl rfl rfl rfl hl.1 (Nat.le_of_ble_eq_true rfl) dX12_enter_10 ⟨by omega, by omega⟩ (fun H locs X => ?_)
    obtain ⟨-, rfl⟩ := fin_some hg
    exact gr_v S hr hk X dX12_enter_13
end MX12_enter
set_option maxRecDepth 100000 in
theorem k2_X12_enter (l : Launch) (dC : Nat → ClassId) (dI : Nat → Nat → Nat) {Z : ZZ} (ad : Nat → Nat) (kc : Nat → ClassId) {σ τ : S5} {a1 : Int64} {r : Unit} (hg : f_X12_enter a1 σ = some (r, τ)) (sz : Nat) : Met l yX12_enter (Cond.code yX12_enter cX12_enter 7 none :: uG) { frames := 2, cells := 0, slots := 0, locals := 44 } (gPc (dC, dI) (tM kc) (wM ad kc) Z [.ref (ad 0), .long a1] σ sz) (gQv (dC, dI) (tM kc) (wM ad kc) (va_A (wM ad kc σ) sz) r τ) 0 0 (va_A (wM ad kc σ) sz) :=
  g_start (by decide) (Nat.le_of_ble_eq_true rfl) (fun p e s m below meth c ls S hr hk X hl => w_X12_enter S hr hk ⟨Nat.le_refl _, Nat.le_refl _⟩ X hl hg)
