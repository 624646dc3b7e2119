theorem sw_0_6 (x : Int32) : (x.toInt < 0 ∨ 6 < x.toInt) ∨ x = 0 ∨ x = 1 ∨ x = 2 ∨ x = 3 ∨ x = 4 ∨ x = 5 ∨ x = 6 := by
  by_cases h : x.toInt < 0 ∨ 6 < x.toInt
  · exact Or.inl h
  · have h2 : x.toInt = 0 ∨ x.toInt = 1 ∨ x.toInt = 2 ∨ x.toInt = 3 ∨ x.toInt = 4 ∨ x.toInt = 5 ∨ x.toInt = 6 := by omega
    refine Or.inr ?_
    rcases h2 with h | h | h | h | h | h | h
    · exact Or.inl (Int32.toInt_inj.mp (h.trans (by decide)))
    · exact Or.inr (Or.inl (Int32.toInt_inj.mp (h.trans (by decide))))
    · exact Or.inr (Or.inr (Or.inl (Int32.toInt_inj.mp (h.trans (by decide)))))
    · exact Or.inr (Or.inr (Or.inr (Or.inl (Int32.toInt_inj.mp (h.trans (by decide))))))
    · exact Or.inr (Or.inr (Or.inr (Or.inr (Or.inl (Int32.toInt_inj.mp (h.trans (by decide)))))))
    · exact Or.inr (Or.inr (Or.inr (Or.inr (Or.inr (Or.inl (Int32.toInt_inj.mp (h.trans (by decide))))))))
    · exact Or.inr (Or.inr (Or.inr (Or.inr (Or.inr (Or.inr (Int32.toInt_inj.mp (h.trans (by decide))))))))
theorem swo_0_6 {x : Int32} (h : x.toInt < 0 ∨ 6 < x.toInt) : ¬ x = 0 ∧ ¬ x = 1 ∧ ¬ x = 2 ∧ ¬ x = 3 ∧ ¬ x = 4 ∧ ¬ x = 5 ∧ ¬ x = 6 := by
  refine ⟨?_, ?_, ?_, ?_, ?_, ?_, ?_⟩ <;> (intro e; rw [e] at h; revert h; decide)


theorem mG_178 : Cond.selects "LazyForgeModel" yX12_workOut yX12_workOut ∈ uG := uG_at 178 (by decide +kernel) (by decide +kernel)
theorem mG_184 : Cond.selects "LazyForgeModel" yX12_goOn yX12_goOn ∈ uG := uG_at 184 (by decide +kernel) (by decide +kernel)
theorem mG_186 : Cond.selects "LazyForgeModel" yX12_reckon yX12_reckon ∈ uG := uG_at 186 (by decide +kernel) (by decide +kernel)
theorem mG_187 : Cond.selects "LazyForgeModel" yX12_choose yX12_choose ∈ uG := uG_at 187 (by decide +kernel) (by decide +kernel)
theorem mG_196 : Cond.selects "LazyForgeModel" yX12_apply yX12_apply ∈ uG := uG_at 196 (by decide +kernel) (by decide +kernel)
theorem mG_197 : Cond.selects "LazyForgeModel" yX12_workPart yX12_workPart ∈ uG := uG_at 197 (by decide +kernel) (by decide +kernel)
theorem mG_200 : Cond.selects "LazyForgeModel" yX12_force yX12_force ∈ uG := uG_at 200 (by decide +kernel) (by decide +kernel)
theorem mG_201 : Cond.selects "LazyForgeModel" yX12_putRow yX12_putRow ∈ uG := uG_at 201 (by decide +kernel) (by decide +kernel)
theorem mG_202 : Cond.selects "LazyForgeModel" yX12_signs yX12_signs ∈ uG := uG_at 202 (by decide +kernel) (by decide +kernel)
theorem mG_203 : Cond.selects "LazyForgeModel" yX12_letters yX12_letters ∈ uG := uG_at 203 (by decide +kernel) (by decide +kernel)
theorem mG_204 : Cond.selects "LazyForgeModel" yX12_digits yX12_digits ∈ uG := uG_at 204 (by decide +kernel) (by decide +kernel)
theorem mG_206 : Cond.selects "LazyForgeModel" yX12_variable yX12_variable ∈ uG := uG_at 206 (by decide +kernel) (by decide +kernel)
theorem mG_2054 : Cond.fieldLink "LazyForgeModel" 777 "LazyForgeModel" "outSize" "I" ∈ uG := uG_at 2054 (by decide +kernel) (by decide +kernel)
theorem mG_2182 : Cond.fieldLink "LazyForgeModel" 767 "LazyForgeModel" "pending" "I" ∈ uG := uG_at 2182 (by decide +kernel) (by decide +kernel)
theorem mG_2184 : Cond.fieldLink "LazyForgeModel" 780 "LazyForgeModel" "drafted" "I" ∈ uG := uG_at 2184 (by decide +kernel) (by decide +kernel)
theorem mG_2780 : Cond.constant "LazyForgeModel" 770 150000 ∈ uG := uG_at 2780 (by decide +kernel) (by decide +kernel)
theorem mG_2793 : Cond.methodLink "LazyForgeModel" 771 yX12_workOut ∈ uG := uG_at 2793 (by decide +kernel) (by decide +kernel)
theorem mG_2795 : Cond.instanceMethod yX12_workOut ∈ uG := uG_at 2795 (by decide +kernel) (by decide +kernel)
theorem mG_2796 : Cond.code yX12_workOut prog_14_method_108_code 3 none ∈ uG := uG_at 2796 (by decide +kernel) (by decide +kernel)
theorem mG_2823 : Cond.methodLink "LazyForgeModel" 754 yX12_goOn ∈ uG := uG_at 2823 (by decide +kernel) (by decide +kernel)
theorem mG_2825 : Cond.instanceMethod yX12_goOn ∈ uG := uG_at 2825 (by decide +kernel) (by decide +kernel)
theorem mG_2826 : Cond.code yX12_goOn prog_14_method_105_code 6 none ∈ uG := uG_at 2826 (by decide +kernel) (by decide +kernel)
theorem mG_2827 : Cond.constant "LazyForgeModel" 739 65535 ∈ uG := uG_at 2827 (by decide +kernel) (by decide +kernel)
theorem mG_2832 : Cond.methodLink "LazyForgeModel" 743 yX12_reckon ∈ uG := uG_at 2832 (by decide +kernel) (by decide +kernel)
theorem mG_2834 : Cond.instanceMethod yX12_reckon ∈ uG := uG_at 2834 (by decide +kernel) (by decide +kernel)
theorem mG_2835 : Cond.code yX12_reckon prog_14_method_106_code 8 none ∈ uG := uG_at 2835 (by decide +kernel) (by decide +kernel)
theorem mG_2836 : Cond.methodLink "LazyForgeModel" 747 yX12_choose ∈ uG := uG_at 2836 (by decide +kernel) (by decide +kernel)
theorem mG_2838 : Cond.instanceMethod yX12_choose ∈ uG := uG_at 2838 (by decide +kernel) (by decide +kernel)
theorem mG_2839 : Cond.code yX12_choose prog_14_method_107_code 9 none ∈ uG := uG_at 2839 (by decide +kernel) (by decide +kernel)
theorem mG_2875 : Cond.methodLink "LazyForgeModel" 750 yX12_apply ∈ uG := uG_at 2875 (by decide +kernel) (by decide +kernel)
theorem mG_2877 : Cond.instanceMethod yX12_apply ∈ uG := uG_at 2877 (by decide +kernel) (by decide +kernel)
theorem mG_2878 : Cond.code yX12_apply prog_14_method_104_code 10 none ∈ uG := uG_at 2878 (by decide +kernel) (by decide +kernel)
theorem mG_2879 : Cond.methodLink "LazyForgeModel" 757 yX12_workPart ∈ uG := uG_at 2879 (by decide +kernel) (by decide +kernel)
theorem mG_2881 : Cond.instanceMethod yX12_workPart ∈ uG := uG_at 2881 (by decide +kernel) (by decide +kernel)
theorem mG_2882 : Cond.code yX12_workPart prog_14_method_99_code 2 none ∈ uG := uG_at 2882 (by decide +kernel) (by decide +kernel)
theorem mG_2891 : Cond.methodLink "LazyForgeModel" 774 yX12_force ∈ uG := uG_at 2891 (by decide +kernel) (by decide +kernel)
theorem mG_2893 : Cond.instanceMethod yX12_force ∈ uG := uG_at 2893 (by decide +kernel) (by decide +kernel)
theorem mG_2894 : Cond.code yX12_force prog_14_method_111_code 5 none ∈ uG := uG_at 2894 (by decide +kernel) (by decide +kernel)
theorem mG_2895 : Cond.methodLink "LazyForgeModel" 763 yX12_putRow ∈ uG := uG_at 2895 (by decide +kernel) (by decide +kernel)
theorem mG_2897 : Cond.instanceMethod yX12_putRow ∈ uG := uG_at 2897 (by decide +kernel) (by decide +kernel)
theorem mG_2898 : Cond.code yX12_putRow prog_14_method_110_code 4 (some .boolean) ∈ uG := uG_at 2898 (by decide +kernel) (by decide +kernel)
theorem mG_2919 : Cond.methodLink "LazyForgeModel" 789 yX12_signs ∈ uG := uG_at 2919 (by decide +kernel) (by decide +kernel)
theorem mG_2921 : Cond.instanceMethod yX12_signs ∈ uG := uG_at 2921 (by decide +kernel) (by decide +kernel)
theorem mG_2922 : Cond.code yX12_signs prog_14_method_118_code 5 none ∈ uG := uG_at 2922 (by decide +kernel) (by decide +kernel)
theorem mG_2923 : Cond.methodLink "LazyForgeModel" 783 yX12_letters ∈ uG := uG_at 2923 (by decide +kernel) (by decide +kernel)
theorem mG_2925 : Cond.instanceMethod yX12_letters ∈ uG := uG_at 2925 (by decide +kernel) (by decide +kernel)
theorem mG_2926 : Cond.code yX12_letters prog_14_method_117_code 2 none ∈ uG := uG_at 2926 (by decide +kernel) (by decide +kernel)
theorem mG_2927 : Cond.methodLink "LazyForgeModel" 786 yX12_digits ∈ uG := uG_at 2927 (by decide +kernel) (by decide +kernel)
theorem mG_2929 : Cond.instanceMethod yX12_digits ∈ uG := uG_at 2929 (by decide +kernel) (by decide +kernel)
theorem mG_2930 : Cond.code yX12_digits prog_14_method_119_code 4 none ∈ uG := uG_at 2930 (by decide +kernel) (by decide +kernel)
theorem mG_2935 : Cond.methodLink "LazyForgeModel" 792 yX12_variable ∈ uG := uG_at 2935 (by decide +kernel) (by decide +kernel)
theorem mG_2937 : Cond.instanceMethod yX12_variable ∈ uG := uG_at 2937 (by decide +kernel) (by decide +kernel)
theorem mG_2938 : Cond.code yX12_variable prog_14_method_120_code 2 none ∈ uG := uG_at 2938 (by decide +kernel) (by decide +kernel)
theorem dX12_digits_0 : decode cX12_digits 0 = .ok (.iconst 1, 1) := by decide +kernel
theorem dX12_digits_1 : decode cX12_digits 1 = .ok (.istore_n 2, 1) := by decide +kernel
theorem dX12_digits_2 : decode cX12_digits 2 = .ok (.iload_n 1, 1) := by decide +kernel
theorem dX12_digits_3 : decode cX12_digits 3 = .ok (.iload_n 2, 1) := by decide +kernel
theorem dX12_digits_4 : decode cX12_digits 4 = .ok (.idiv, 1) := by decide +kernel
theorem dX12_digits_5 : decode cX12_digits 5 = .ok (.bipush 9, 2) := by decide +kernel
theorem dX12_digits_7 : decode cX12_digits 7 = .ok (.if_icmp .le 11, 3) := by decide +kernel
theorem dX12_digits_10 : decode cX12_digits 10 = .ok (.iload_n 2, 1) := by decide +kernel
theorem dX12_digits_11 : decode cX12_digits 11 = .ok (.bipush 10, 2) := by decide +kernel
theorem dX12_digits_13 : decode cX12_digits 13 = .ok (.imul, 1) := by decide +kernel
theorem dX12_digits_14 : decode cX12_digits 14 = .ok (.istore_n 2, 1) := by decide +kernel
theorem dX12_digits_15 : decode cX12_digits 15 = .ok (.goto (-13), 3) := by decide +kernel
theorem dX12_digits_18 : decode cX12_digits 18 = .ok (.iload_n 2, 1) := by decide +kernel
theorem dX12_digits_19 : decode cX12_digits 19 = .ok (.istore_n 3, 1) := by decide +kernel
theorem dX12_digits_20 : decode cX12_digits 20 = .ok (.iload_n 3, 1) := by decide +kernel
theorem dX12_digits_21 : decode cX12_digits 21 = .ok (.ifCond .le 24, 3) := by decide +kernel
theorem dX12_digits_24 : decode cX12_digits 24 = .ok (.aload_n 0, 1) := by decide +kernel
theorem dX12_digits_25 : decode cX12_digits 25 = .ok (.bipush 48, 2) := by decide +kernel
theorem dX12_digits_27 : decode cX12_digits 27 = .ok (.iload_n 1, 1) := by decide +kernel
theorem dX12_digits_28 : decode cX12_digits 28 = .ok (.iload_n 3, 1) := by decide +kernel
theorem dX12_digits_29 : decode cX12_digits 29 = .ok (.idiv, 1) := by decide +kernel
theorem dX12_digits_30 : decode cX12_digits 30 = .ok (.bipush 10, 2) := by decide +kernel
theorem dX12_digits_32 : decode cX12_digits 32 = .ok (.irem, 1) := by decide +kernel
theorem dX12_digits_33 : decode cX12_digits 33 = .ok (.iadd, 1) := by decide +kernel
theorem dX12_digits_34 : decode cX12_digits 34 = .ok (.invokevirtual 783, 3) := by decide +kernel
theorem dX12_digits_37 : decode cX12_digits 37 = .ok (.iload_n 3, 1) := by decide +kernel
theorem dX12_digits_38 : decode cX12_digits 38 = .ok (.bipush 10, 2) := by decide +kernel
theorem dX12_digits_40 : decode cX12_digits 40 = .ok (.idiv, 1) := by decide +kernel
theorem dX12_digits_41 : decode cX12_digits 41 = .ok (.istore_n 3, 1) := by decide +kernel
theorem dX12_digits_42 : decode cX12_digits 42 = .ok (.goto (-22), 3) := by decide +kernel
theorem dX12_digits_45 : decode cX12_digits 45 = .ok (.return_, 1) := by decide +kernel
theorem dX12_end_0 : decode cX12_end 0 = .ok (.aload_n 0, 1) := by decide +kernel
theorem dX12_end_1 : decode cX12_end 1 = .ok (.iload_n 1, 1) := by decide +kernel
theorem dX12_end_2 : decode cX12_end 2 = .ok (.ifCond .lt 11, 3) := by decide +kernel
theorem dX12_end_5 : decode cX12_end 5 = .ok (.iload_n 1, 1) := by decide +kernel
theorem dX12_end_6 : decode cX12_end 6 = .ok (.aload_n 0, 1) := by decide +kernel
theorem dX12_end_7 : decode cX12_end 7 = .ok (.getfield 254, 3) := by decide +kernel
theorem dX12_end_10 : decode cX12_end 10 = .ok (.if_icmp .le 7, 3) := by decide +kernel
theorem dX12_end_13 : decode cX12_end 13 = .ok (.iconst 1, 1) := by decide +kernel
theorem dX12_end_14 : decode cX12_end 14 = .ok (.goto 4, 3) := by decide +kernel
theorem dX12_end_17 : decode cX12_end 17 = .ok (.iconst 0, 1) := by decide +kernel
theorem dX12_end_18 : decode cX12_end 18 = .ok (.putfield 251, 3) := by decide +kernel
theorem dX12_end_21 : decode cX12_end 21 = .ok (.aload_n 0, 1) := by decide +kernel
theorem dX12_end_22 : decode cX12_end 22 = .ok (.getfield 251, 3) := by decide +kernel
theorem dX12_end_25 : decode cX12_end 25 = .ok (.ifCond .ne 8, 3) := by decide +kernel
theorem dX12_end_28 : decode cX12_end 28 = .ok (.aload_n 0, 1) := by decide +kernel
theorem dX12_end_29 : decode cX12_end 29 = .ok (.iload_n 1, 1) := by decide +kernel
theorem dX12_end_30 : decode cX12_end 30 = .ok (.putfield 254, 3) := by decide +kernel
theorem dX12_end_33 : decode cX12_end 33 = .ok (.return_, 1) := by decide +kernel
theorem dX12_fault_0 : decode cX12_fault 0 = .ok (.aload_n 0, 1) := by decide +kernel
theorem dX12_fault_1 : decode cX12_fault 1 = .ok (.iload_n 1, 1) := by decide +kernel
theorem dX12_fault_2 : decode cX12_fault 2 = .ok (.ifCond .lt 8, 3) := by decide +kernel
theorem dX12_fault_5 : decode cX12_fault 5 = .ok (.iload_n 1, 1) := by decide +kernel
theorem dX12_fault_6 : decode cX12_fault 6 = .ok (.iconst 1, 1) := by decide +kernel
theorem dX12_fault_7 : decode cX12_fault 7 = .ok (.if_icmp .le 7, 3) := by decide +kernel
theorem dX12_fault_10 : decode cX12_fault 10 = .ok (.iconst 1, 1) := by decide +kernel
theorem dX12_fault_11 : decode cX12_fault 11 = .ok (.goto 4, 3) := by decide +kernel
theorem dX12_fault_14 : decode cX12_fault 14 = .ok (.iconst 0, 1) := by decide +kernel
theorem dX12_fault_15 : decode cX12_fault 15 = .ok (.putfield 251, 3) := by decide +kernel
theorem dX12_fault_18 : decode cX12_fault 18 = .ok (.aload_n 0, 1) := by decide +kernel
theorem dX12_fault_19 : decode cX12_fault 19 = .ok (.getfield 251, 3) := by decide +kernel
theorem dX12_fault_22 : decode cX12_fault 22 = .ok (.ifCond .le 7, 3) := by decide +kernel
theorem dX12_fault_25 : decode cX12_fault 25 = .ok (.iconst 0, 1) := by decide +kernel
theorem dX12_fault_26 : decode cX12_fault 26 = .ok (.goto 18, 3) := by decide +kernel
theorem dX12_fault_29 : decode cX12_fault 29 = .ok (.iload_n 1, 1) := by decide +kernel
theorem dX12_fault_30 : decode cX12_fault 30 = .ok (.ifCond .ne 10, 3) := by decide +kernel
theorem dX12_fault_33 : decode cX12_fault 33 = .ok (.aload_n 0, 1) := by decide +kernel
theorem dX12_fault_34 : decode cX12_fault 34 = .ok (.getfield 591, 3) := by decide +kernel
theorem dX12_fault_37 : decode cX12_fault 37 = .ok (.goto 7, 3) := by decide +kernel
theorem dX12_fault_40 : decode cX12_fault 40 = .ok (.aload_n 0, 1) := by decide +kernel
theorem dX12_fault_41 : decode cX12_fault 41 = .ok (.getfield 187, 3) := by decide +kernel
theorem dX12_fault_44 : decode cX12_fault 44 = .ok (.ireturn, 1) := by decide +kernel
theorem dX12_force_0 : decode cX12_force 0 = .ok (.lload_n 1, 1) := by decide +kernel
theorem dX12_force_1 : decode cX12_force 1 = .ok (.invokestatic 688, 3) := by decide +kernel
theorem dX12_force_4 : decode cX12_force 4 = .ok (.iconst 3, 1) := by decide +kernel
theorem dX12_force_5 : decode cX12_force 5 = .ok (.if_icmp .ne 19, 3) := by decide +kernel
theorem dX12_force_8 : decode cX12_force 8 = .ok (.aload_n 0, 1) := by decide +kernel
theorem dX12_force_9 : decode cX12_force 9 = .ok (.getfield 194, 3) := by decide +kernel
theorem dX12_force_12 : decode cX12_force 12 = .ok (.lload_n 1, 1) := by decide +kernel
theorem dX12_force_13 : decode cX12_force 13 = .ok (.invokestatic 679, 3) := by decide +kernel
theorem dX12_force_16 : decode cX12_force 16 = .ok (.iaload, 1) := by decide +kernel
theorem dX12_force_17 : decode cX12_force 17 = .ok (.ifCond .ne 7, 3) := by decide +kernel
theorem dX12_force_20 : decode cX12_force 20 = .ok (.iconst 1, 1) := by decide +kernel
theorem dX12_force_21 : decode cX12_force 21 = .ok (.goto 4, 3) := by decide +kernel
theorem dX12_force_24 : decode cX12_force 24 = .ok (.iconst 0, 1) := by decide +kernel
theorem dX12_force_25 : decode cX12_force 25 = .ok (.istore_n 3, 1) := by decide +kernel
theorem dX12_force_26 : decode cX12_force 26 = .ok (.lload_n 1, 1) := by decide +kernel
theorem dX12_force_27 : decode cX12_force 27 = .ok (.invokestatic 688, 3) := by decide +kernel
theorem dX12_force_30 : decode cX12_force 30 = .ok (.ifCond .ne 17, 3) := by decide +kernel
theorem dX12_force_33 : decode cX12_force 33 = .ok (.aload_n 0, 1) := by decide +kernel
theorem dX12_force_34 : decode cX12_force 34 = .ok (.iconst 1, 1) := by decide +kernel
theorem dX12_force_35 : decode cX12_force 35 = .ok (.lload_n 1, 1) := by decide +kernel
theorem dX12_force_36 : decode cX12_force 36 = .ok (.invokestatic 679, 3) := by decide +kernel
theorem dX12_force_39 : decode cX12_force 39 = .ok (.iconst 2, 1) := by decide +kernel
theorem dX12_force_40 : decode cX12_force 40 = .ok (.invokevirtual 763, 3) := by decide +kernel
theorem dX12_force_43 : decode cX12_force 43 = .ok (.pop, 1) := by decide +kernel
theorem dX12_force_44 : decode cX12_force 44 = .ok (.goto 118, 3) := by decide +kernel
theorem dX12_force_47 : decode cX12_force 47 = .ok (.lload_n 1, 1) := by decide +kernel
theorem dX12_force_48 : decode cX12_force 48 = .ok (.invokestatic 688, 3) := by decide +kernel
theorem dX12_force_51 : decode cX12_force 51 = .ok (.iconst 2, 1) := by decide +kernel
theorem dX12_force_52 : decode cX12_force 52 = .ok (.if_icmp .ne 17, 3) := by decide +kernel
theorem dX12_force_55 : decode cX12_force 55 = .ok (.aload_n 0, 1) := by decide +kernel
theorem dX12_force_56 : decode cX12_force 56 = .ok (.iconst 2, 1) := by decide +kernel
theorem dX12_force_57 : decode cX12_force 57 = .ok (.lload_n 1, 1) := by decide +kernel
theorem dX12_force_58 : decode cX12_force 58 = .ok (.invokestatic 679, 3) := by decide +kernel
theorem dX12_force_61 : decode cX12_force 61 = .ok (.iconst 2, 1) := by decide +kernel
theorem dX12_force_62 : decode cX12_force 62 = .ok (.invokevirtual 763, 3) := by decide +kernel
theorem dX12_force_65 : decode cX12_force 65 = .ok (.pop, 1) := by decide +kernel
theorem dX12_force_66 : decode cX12_force 66 = .ok (.goto 96, 3) := by decide +kernel
theorem dX12_force_69 : decode cX12_force 69 = .ok (.iload_n 3, 1) := by decide +kernel
theorem dX12_force_70 : decode cX12_force 70 = .ok (.ifCond .ne 14, 3) := by decide +kernel
theorem dX12_force_73 : decode cX12_force 73 = .ok (.aload_n 0, 1) := by decide +kernel
theorem dX12_force_74 : decode cX12_force 74 = .ok (.iconst 3, 1) := by decide +kernel
theorem dX12_force_75 : decode cX12_force 75 = .ok (.iconst 0, 1) := by decide +kernel
theorem dX12_force_76 : decode cX12_force 76 = .ok (.iconst 1, 1) := by decide +kernel
theorem dX12_force_77 : decode cX12_force 77 = .ok (.invokevirtual 763, 3) := by decide +kernel
theorem dX12_force_80 : decode cX12_force 80 = .ok (.pop, 1) := by decide +kernel
theorem dX12_force_81 : decode cX12_force 81 = .ok (.goto 81, 3) := by decide +kernel
theorem dX12_force_84 : decode cX12_force 84 = .ok (.aload_n 0, 1) := by decide +kernel
theorem dX12_force_85 : decode cX12_force 85 = .ok (.iconst 2, 1) := by decide +kernel
theorem dX12_force_86 : decode cX12_force 86 = .ok (.aload_n 0, 1) := by decide +kernel
theorem dX12_force_87 : decode cX12_force 87 = .ok (.getfield 197, 3) := by decide +kernel
theorem dX12_force_90 : decode cX12_force 90 = .ok (.lload_n 1, 1) := by decide +kernel
theorem dX12_force_91 : decode cX12_force 91 = .ok (.invokestatic 679, 3) := by decide +kernel
theorem dX12_force_94 : decode cX12_force 94 = .ok (.iaload, 1) := by decide +kernel
theorem dX12_force_95 : decode cX12_force 95 = .ok (.iconst 2, 1) := by decide +kernel
theorem dX12_force_96 : decode cX12_force 96 = .ok (.invokevirtual 763, 3) := by decide +kernel
theorem dX12_force_99 : decode cX12_force 99 = .ok (.ifCond .eq 63, 3) := by decide +kernel
theorem dX12_force_102 : decode cX12_force 102 = .ok (.aload_n 0, 1) := by decide +kernel
theorem dX12_force_103 : decode cX12_force 103 = .ok (.getfield 206, 3) := by decide +kernel
theorem dX12_force_106 : decode cX12_force 106 = .ok (.lload_n 1, 1) := by decide +kernel
theorem dX12_force_107 : decode cX12_force 107 = .ok (.invokestatic 679, 3) := by decide +kernel
theorem dX12_force_110 : decode cX12_force 110 = .ok (.iaload, 1) := by decide +kernel
theorem dX12_force_111 : decode cX12_force 111 = .ok (.iconst 1, 1) := by decide +kernel
theorem dX12_force_112 : decode cX12_force 112 = .ok (.isub, 1) := by decide +kernel
theorem dX12_force_113 : decode cX12_force 113 = .ok (.istore 4, 2) := by decide +kernel
theorem dX12_force_115 : decode cX12_force 115 = .ok (.iload 4, 2) := by decide +kernel
theorem dX12_force_117 : decode cX12_force 117 = .ok (.ifCond .lt 45, 3) := by decide +kernel
theorem dX12_force_120 : decode cX12_force 120 = .ok (.aload_n 0, 1) := by decide +kernel
theorem dX12_force_121 : decode cX12_force 121 = .ok (.getfield 245, 3) := by decide +kernel
theorem dX12_force_124 : decode cX12_force 124 = .ok (.aload_n 0, 1) := by decide +kernel
theorem dX12_force_125 : decode cX12_force 125 = .ok (.getfield 767, 3) := by decide +kernel
theorem dX12_force_128 : decode cX12_force 128 = .ok (.aload_n 0, 1) := by decide +kernel
theorem dX12_force_129 : decode cX12_force 129 = .ok (.getfield 209, 3) := by decide +kernel
theorem dX12_force_132 : decode cX12_force 132 = .ok (.aload_n 0, 1) := by decide +kernel
theorem dX12_force_133 : decode cX12_force 133 = .ok (.getfield 203, 3) := by decide +kernel
theorem dX12_force_136 : decode cX12_force 136 = .ok (.lload_n 1, 1) := by decide +kernel
theorem dX12_force_137 : decode cX12_force 137 = .ok (.invokestatic 679, 3) := by decide +kernel
theorem dX12_force_140 : decode cX12_force 140 = .ok (.iaload, 1) := by decide +kernel
theorem dX12_force_141 : decode cX12_force 141 = .ok (.iload 4, 2) := by decide +kernel
theorem dX12_force_143 : decode cX12_force 143 = .ok (.iadd, 1) := by decide +kernel
theorem dX12_force_144 : decode cX12_force 144 = .ok (.laload, 1) := by decide +kernel
theorem dX12_force_145 : decode cX12_force 145 = .ok (.lastore, 1) := by decide +kernel
theorem dX12_force_146 : decode cX12_force 146 = .ok (.aload_n 0, 1) := by decide +kernel
theorem dX12_force_147 : decode cX12_force 147 = .ok (.dup, 1) := by decide +kernel
theorem dX12_force_148 : decode cX12_force 148 = .ok (.getfield 767, 3) := by decide +kernel
theorem dX12_force_151 : decode cX12_force 151 = .ok (.iconst 1, 1) := by decide +kernel
theorem dX12_force_152 : decode cX12_force 152 = .ok (.iadd, 1) := by decide +kernel
theorem dX12_force_153 : decode cX12_force 153 = .ok (.putfield 767, 3) := by decide +kernel
theorem dX12_force_156 : decode cX12_force 156 = .ok (.iinc 4 (-1), 3) := by decide +kernel
theorem dX12_force_159 : decode cX12_force 159 = .ok (.goto (-44), 3) := by decide +kernel
theorem dX12_force_162 : decode cX12_force 162 = .ok (.return_, 1) := by decide +kernel
theorem dX12_functionName_0 : decode cX12_functionName 0 = .ok (.iload_n 1, 1) := by decide +kernel
theorem dX12_functionName_1 : decode cX12_functionName 1 = .ok (.aload_n 0, 1) := by decide +kernel
theorem dX12_functionName_2 : decode cX12_functionName 2 = .ok (.invokevirtual 517, 3) := by decide +kernel
theorem dX12_functionName_5 : decode cX12_functionName 5 = .ok (.if_icmp .ne 22, 3) := by decide +kernel
theorem dX12_functionName_8 : decode cX12_functionName 8 = .ok (.aload_n 0, 1) := by decide +kernel
theorem dX12_functionName_9 : decode cX12_functionName 9 = .ok (.bipush 109, 2) := by decide +kernel
theorem dX12_functionName_11 : decode cX12_functionName 11 = .ok (.bipush 97, 2) := by decide +kernel
theorem dX12_functionName_13 : decode cX12_functionName 13 = .ok (.bipush 105, 2) := by decide +kernel
theorem dX12_functionName_15 : decode cX12_functionName 15 = .ok (.bipush 110, 2) := by decide +kernel
theorem dX12_functionName_17 : decode cX12_functionName 17 = .ok (.iconst 0, 1) := by decide +kernel
theorem dX12_functionName_18 : decode cX12_functionName 18 = .ok (.invokestatic 257, 3) := by decide +kernel
theorem dX12_functionName_21 : decode cX12_functionName 21 = .ok (.invokevirtual 789, 3) := by decide +kernel
theorem dX12_functionName_24 : decode cX12_functionName 24 = .ok (.goto 14, 3) := by decide +kernel
theorem dX12_functionName_27 : decode cX12_functionName 27 = .ok (.aload_n 0, 1) := by decide +kernel
theorem dX12_functionName_28 : decode cX12_functionName 28 = .ok (.bipush 102, 2) := by decide +kernel
theorem dX12_functionName_30 : decode cX12_functionName 30 = .ok (.invokevirtual 783, 3) := by decide +kernel
theorem dX12_functionName_33 : decode cX12_functionName 33 = .ok (.aload_n 0, 1) := by decide +kernel
theorem dX12_functionName_34 : decode cX12_functionName 34 = .ok (.iload_n 1, 1) := by decide +kernel
theorem dX12_functionName_35 : decode cX12_functionName 35 = .ok (.invokevirtual 786, 3) := by decide +kernel
theorem dX12_functionName_38 : decode cX12_functionName 38 = .ok (.return_, 1) := by decide +kernel
theorem dX12_goOn_0 : decode cX12_goOn 0 = .ok (.aload_n 0, 1) := by decide +kernel
theorem dX12_goOn_1 : decode cX12_goOn 1 = .ok (.dup, 1) := by decide +kernel
theorem dX12_goOn_2 : decode cX12_goOn 2 = .ok (.getfield 611, 3) := by decide +kernel
theorem dX12_goOn_5 : decode cX12_goOn 5 = .ok (.iconst 1, 1) := by decide +kernel
theorem dX12_goOn_6 : decode cX12_goOn 6 = .ok (.isub, 1) := by decide +kernel
theorem dX12_goOn_7 : decode cX12_goOn 7 = .ok (.putfield 611, 3) := by decide +kernel
theorem dX12_goOn_10 : decode cX12_goOn 10 = .ok (.aload_n 0, 1) := by decide +kernel
theorem dX12_goOn_11 : decode cX12_goOn 11 = .ok (.getfield 219, 3) := by decide +kernel
theorem dX12_goOn_14 : decode cX12_goOn 14 = .ok (.aload_n 0, 1) := by decide +kernel
theorem dX12_goOn_15 : decode cX12_goOn 15 = .ok (.getfield 611, 3) := by decide +kernel
theorem dX12_goOn_18 : decode cX12_goOn 18 = .ok (.iaload, 1) := by decide +kernel
theorem dX12_goOn_19 : decode cX12_goOn 19 = .ok (.bipush 16, 2) := by decide +kernel
theorem dX12_goOn_21 : decode cX12_goOn 21 = .ok (.ishr, 1) := by decide +kernel
theorem dX12_goOn_22 : decode cX12_goOn 22 = .ok (.istore_n 1, 1) := by decide +kernel
theorem dX12_goOn_23 : decode cX12_goOn 23 = .ok (.aload_n 0, 1) := by decide +kernel
theorem dX12_goOn_24 : decode cX12_goOn 24 = .ok (.getfield 219, 3) := by decide +kernel
theorem dX12_goOn_27 : decode cX12_goOn 27 = .ok (.aload_n 0, 1) := by decide +kernel
theorem dX12_goOn_28 : decode cX12_goOn 28 = .ok (.getfield 611, 3) := by decide +kernel
theorem dX12_goOn_31 : decode cX12_goOn 31 = .ok (.iaload, 1) := by decide +kernel
theorem dX12_goOn_32 : decode cX12_goOn 32 = .ok (.ldc_w 739, 3) := by decide +kernel
theorem dX12_goOn_35 : decode cX12_goOn 35 = .ok (.iand, 1) := by decide +kernel
theorem dX12_goOn_36 : decode cX12_goOn 36 = .ok (.istore_n 2, 1) := by decide +kernel
theorem dX12_goOn_37 : decode cX12_goOn 37 = .ok (.aload_n 0, 1) := by decide +kernel
theorem dX12_goOn_38 : decode cX12_goOn 38 = .ok (.getfield 225, 3) := by decide +kernel
theorem dX12_goOn_41 : decode cX12_goOn 41 = .ok (.aload_n 0, 1) := by decide +kernel
theorem dX12_goOn_42 : decode cX12_goOn 42 = .ok (.getfield 611, 3) := by decide +kernel
theorem dX12_goOn_45 : decode cX12_goOn 45 = .ok (.iaload, 1) := by decide +kernel
theorem dX12_goOn_46 : decode cX12_goOn 46 = .ok (.istore_n 3, 1) := by decide +kernel
theorem dX12_goOn_47 : decode cX12_goOn 47 = .ok (.aload_n 0, 1) := by decide +kernel
theorem dX12_goOn_48 : decode cX12_goOn 48 = .ok (.getfield 623, 3) := by decide +kernel
theorem dX12_goOn_51 : decode cX12_goOn 51 = .ok (.lstore 4, 2) := by decide +kernel
theorem dX12_goOn_53 : decode cX12_goOn 53 = .ok (.iload_n 1, 1) := by decide +kernel
theorem dX12_goOn_54 : decode cX12_goOn 54 = .ok (.tableswitch 209 0 6 #[42, 70, 91, 117, 151, 161, 192], 42) := by decide +kernel
theorem dX12_goOn_96 : decode cX12_goOn 96 = .ok (.aload_n 0, 1) := by decide +kernel
theorem dX12_goOn_97 : decode cX12_goOn 97 = .ok (.getfield 194, 3) := by decide +kernel
theorem dX12_goOn_100 : decode cX12_goOn 100 = .ok (.iload_n 3, 1) := by decide +kernel
theorem dX12_goOn_101 : decode cX12_goOn 101 = .ok (.iconst 4, 1) := by decide +kernel
theorem dX12_goOn_102 : decode cX12_goOn 102 = .ok (.iastore, 1) := by decide +kernel
theorem dX12_goOn_103 : decode cX12_goOn 103 = .ok (.aload_n 0, 1) := by decide +kernel
theorem dX12_goOn_104 : decode cX12_goOn 104 = .ok (.getfield 200, 3) := by decide +kernel
theorem dX12_goOn_107 : decode cX12_goOn 107 = .ok (.iload_n 3, 1) := by decide +kernel
theorem dX12_goOn_108 : decode cX12_goOn 108 = .ok (.lload 4, 2) := by decide +kernel
theorem dX12_goOn_110 : decode cX12_goOn 110 = .ok (.lastore, 1) := by decide +kernel
theorem dX12_goOn_111 : decode cX12_goOn 111 = .ok (.aload_n 0, 1) := by decide +kernel
theorem dX12_goOn_112 : decode cX12_goOn 112 = .ok (.dup, 1) := by decide +kernel
theorem dX12_goOn_113 : decode cX12_goOn 113 = .ok (.getfield 740, 3) := by decide +kernel
theorem dX12_goOn_116 : decode cX12_goOn 116 = .ok (.iconst 1, 1) := by decide +kernel
theorem dX12_goOn_117 : decode cX12_goOn 117 = .ok (.iadd, 1) := by decide +kernel
theorem dX12_goOn_118 : decode cX12_goOn 118 = .ok (.putfield 740, 3) := by decide +kernel
theorem dX12_goOn_121 : decode cX12_goOn 121 = .ok (.goto 149, 3) := by decide +kernel
theorem dX12_goOn_124 : decode cX12_goOn 124 = .ok (.aload_n 0, 1) := by decide +kernel
theorem dX12_goOn_125 : decode cX12_goOn 125 = .ok (.aload_n 0, 1) := by decide +kernel
theorem dX12_goOn_126 : decode cX12_goOn 126 = .ok (.getfield 222, 3) := by decide +kernel
theorem dX12_goOn_129 : decode cX12_goOn 129 = .ok (.aload_n 0, 1) := by decide +kernel
theorem dX12_goOn_130 : decode cX12_goOn 130 = .ok (.getfield 611, 3) := by decide +kernel
theorem dX12_goOn_133 : decode cX12_goOn 133 = .ok (.iaload, 1) := by decide +kernel
theorem dX12_goOn_134 : decode cX12_goOn 134 = .ok (.putfield 614, 3) := by decide +kernel
theorem dX12_goOn_137 : decode cX12_goOn 137 = .ok (.aload_n 0, 1) := by decide +kernel
theorem dX12_goOn_138 : decode cX12_goOn 138 = .ok (.iload_n 3, 1) := by decide +kernel
theorem dX12_goOn_139 : decode cX12_goOn 139 = .ok (.putfield 682, 3) := by decide +kernel
theorem dX12_goOn_142 : decode cX12_goOn 142 = .ok (.goto 128, 3) := by decide +kernel
theorem dX12_goOn_145 : decode cX12_goOn 145 = .ok (.aload_n 0, 1) := by decide +kernel
theorem dX12_goOn_146 : decode cX12_goOn 146 = .ok (.lload 4, 2) := by decide +kernel
theorem dX12_goOn_148 : decode cX12_goOn 148 = .ok (.invokevirtual 721, 3) := by decide +kernel
theorem dX12_goOn_151 : decode cX12_goOn 151 = .ok (.aload_n 0, 1) := by decide +kernel
theorem dX12_goOn_152 : decode cX12_goOn 152 = .ok (.iconst 3, 1) := by decide +kernel
theorem dX12_goOn_153 : decode cX12_goOn 153 = .ok (.iload_n 2, 1) := by decide +kernel
theorem dX12_goOn_154 : decode cX12_goOn 154 = .ok (.iconst 0, 1) := by decide +kernel
theorem dX12_goOn_155 : decode cX12_goOn 155 = .ok (.invokevirtual 685, 3) := by decide +kernel
theorem dX12_goOn_158 : decode cX12_goOn 158 = .ok (.aload_n 0, 1) := by decide +kernel
theorem dX12_goOn_159 : decode cX12_goOn 159 = .ok (.aload_n 0, 1) := by decide +kernel
theorem dX12_goOn_160 : decode cX12_goOn 160 = .ok (.iload_n 2, 1) := by decide +kernel
theorem dX12_goOn_161 : decode cX12_goOn 161 = .ok (.iconst 1, 1) := by decide +kernel
theorem dX12_goOn_162 : decode cX12_goOn 162 = .ok (.invokevirtual 545, 3) := by decide +kernel
theorem dX12_goOn_165 : decode cX12_goOn 165 = .ok (.invokevirtual 697, 3) := by decide +kernel
theorem dX12_goOn_168 : decode cX12_goOn 168 = .ok (.goto 102, 3) := by decide +kernel
theorem dX12_goOn_171 : decode cX12_goOn 171 = .ok (.aload_n 0, 1) := by decide +kernel
theorem dX12_goOn_172 : decode cX12_goOn 172 = .ok (.dup, 1) := by decide +kernel
theorem dX12_goOn_173 : decode cX12_goOn 173 = .ok (.getfield 724, 3) := by decide +kernel
theorem dX12_goOn_176 : decode cX12_goOn 176 = .ok (.iconst 1, 1) := by decide +kernel
theorem dX12_goOn_177 : decode cX12_goOn 177 = .ok (.isub, 1) := by decide +kernel
theorem dX12_goOn_178 : decode cX12_goOn 178 = .ok (.putfield 724, 3) := by decide +kernel
theorem dX12_goOn_181 : decode cX12_goOn 181 = .ok (.aload_n 0, 1) := by decide +kernel
theorem dX12_goOn_182 : decode cX12_goOn 182 = .ok (.aload_n 0, 1) := by decide +kernel
theorem dX12_goOn_183 : decode cX12_goOn 183 = .ok (.getfield 122, 3) := by decide +kernel
theorem dX12_goOn_186 : decode cX12_goOn 186 = .ok (.iload_n 2, 1) := by decide +kernel
theorem dX12_goOn_187 : decode cX12_goOn 187 = .ok (.iaload, 1) := by decide +kernel
theorem dX12_goOn_188 : decode cX12_goOn 188 = .ok (.aload_n 0, 1) := by decide +kernel
theorem dX12_goOn_189 : decode cX12_goOn 189 = .ok (.getfield 229, 3) := by decide +kernel
theorem dX12_goOn_192 : decode cX12_goOn 192 = .ok (.aload_n 0, 1) := by decide +kernel
theorem dX12_goOn_193 : decode cX12_goOn 193 = .ok (.getfield 724, 3) := by decide +kernel
theorem dX12_goOn_196 : decode cX12_goOn 196 = .ok (.laload, 1) := by decide +kernel
theorem dX12_goOn_197 : decode cX12_goOn 197 = .ok (.lload 4, 2) := by decide +kernel
theorem dX12_goOn_199 : decode cX12_goOn 199 = .ok (.invokevirtual 743, 3) := by decide +kernel
theorem dX12_goOn_202 : decode cX12_goOn 202 = .ok (.goto 68, 3) := by decide +kernel
theorem dX12_goOn_205 : decode cX12_goOn 205 = .ok (.aload_n 0, 1) := by decide +kernel
theorem dX12_goOn_206 : decode cX12_goOn 206 = .ok (.iload_n 2, 1) := by decide +kernel
theorem dX12_goOn_207 : decode cX12_goOn 207 = .ok (.lload 4, 2) := by decide +kernel
theorem dX12_goOn_209 : decode cX12_goOn 209 = .ok (.invokevirtual 747, 3) := by decide +kernel
theorem dX12_goOn_212 : decode cX12_goOn 212 = .ok (.goto 58, 3) := by decide +kernel
theorem dX12_goOn_215 : decode cX12_goOn 215 = .ok (.aload_n 0, 1) := by decide +kernel
theorem dX12_goOn_216 : decode cX12_goOn 216 = .ok (.getfield 233, 3) := by decide +kernel
theorem dX12_goOn_219 : decode cX12_goOn 219 = .ok (.aload_n 0, 1) := by decide +kernel
theorem dX12_goOn_220 : decode cX12_goOn 220 = .ok (.getfield 614, 3) := by decide +kernel
theorem dX12_goOn_223 : decode cX12_goOn 223 = .ok (.aload_n 0, 1) := by decide +kernel
theorem dX12_goOn_224 : decode cX12_goOn 224 = .ok (.getfield 131, 3) := by decide +kernel
theorem dX12_goOn_227 : decode cX12_goOn 227 = .ok (.iload_n 2, 1) := by decide +kernel
theorem dX12_goOn_228 : decode cX12_goOn 228 = .ok (.iaload, 1) := by decide +kernel
theorem dX12_goOn_229 : decode cX12_goOn 229 = .ok (.iadd, 1) := by decide +kernel
theorem dX12_goOn_230 : decode cX12_goOn 230 = .ok (.lload 4, 2) := by decide +kernel
theorem dX12_goOn_232 : decode cX12_goOn 232 = .ok (.lastore, 1) := by decide +kernel
theorem dX12_goOn_233 : decode cX12_goOn 233 = .ok (.aload_n 0, 1) := by decide +kernel
theorem dX12_goOn_234 : decode cX12_goOn 234 = .ok (.aload_n 0, 1) := by decide +kernel
theorem dX12_goOn_235 : decode cX12_goOn 235 = .ok (.iload_n 2, 1) := by decide +kernel
theorem dX12_goOn_236 : decode cX12_goOn 236 = .ok (.iconst 1, 1) := by decide +kernel
theorem dX12_goOn_237 : decode cX12_goOn 237 = .ok (.invokevirtual 545, 3) := by decide +kernel
theorem dX12_goOn_240 : decode cX12_goOn 240 = .ok (.invokevirtual 697, 3) := by decide +kernel
theorem dX12_goOn_243 : decode cX12_goOn 243 = .ok (.goto 27, 3) := by decide +kernel
theorem dX12_goOn_246 : decode cX12_goOn 246 = .ok (.aload_n 0, 1) := by decide +kernel
theorem dX12_goOn_247 : decode cX12_goOn 247 = .ok (.lload 4, 2) := by decide +kernel
theorem dX12_goOn_249 : decode cX12_goOn 249 = .ok (.invokevirtual 721, 3) := by decide +kernel
theorem dX12_goOn_252 : decode cX12_goOn 252 = .ok (.aload_n 0, 1) := by decide +kernel
theorem dX12_goOn_253 : decode cX12_goOn 253 = .ok (.iload_n 2, 1) := by decide +kernel
theorem dX12_goOn_254 : decode cX12_goOn 254 = .ok (.iload_n 3, 1) := by decide +kernel
theorem dX12_goOn_255 : decode cX12_goOn 255 = .ok (.iconst 1, 1) := by decide +kernel
theorem dX12_goOn_256 : decode cX12_goOn 256 = .ok (.iadd, 1) := by decide +kernel
theorem dX12_goOn_257 : decode cX12_goOn 257 = .ok (.invokevirtual 718, 3) := by decide +kernel
theorem dX12_goOn_260 : decode cX12_goOn 260 = .ok (.goto 10, 3) := by decide +kernel
theorem dX12_goOn_263 : decode cX12_goOn 263 = .ok (.aload_n 0, 1) := by decide +kernel
theorem dX12_goOn_264 : decode cX12_goOn 264 = .ok (.lload 4, 2) := by decide +kernel
theorem dX12_goOn_266 : decode cX12_goOn 266 = .ok (.iload_n 3, 1) := by decide +kernel
theorem dX12_goOn_267 : decode cX12_goOn 267 = .ok (.invokevirtual 750, 3) := by decide +kernel
theorem dX12_goOn_270 : decode cX12_goOn 270 = .ok (.return_, 1) := by decide +kernel
theorem dX12_letters_0 : decode cX12_letters 0 = .ok (.aload_n 0, 1) := by decide +kernel
theorem dX12_letters_1 : decode cX12_letters 1 = .ok (.getfield 780, 3) := by decide +kernel
theorem dX12_letters_4 : decode cX12_letters 4 = .ok (.sipush 12001, 3) := by decide +kernel
theorem dX12_letters_7 : decode cX12_letters 7 = .ok (.if_icmp .ge 23, 3) := by decide +kernel
theorem dX12_letters_10 : decode cX12_letters 10 = .ok (.aload_n 0, 1) := by decide +kernel
theorem dX12_letters_11 : decode cX12_letters 11 = .ok (.getfield 248, 3) := by decide +kernel
theorem dX12_letters_14 : decode cX12_letters 14 = .ok (.aload_n 0, 1) := by decide +kernel
theorem dX12_letters_15 : decode cX12_letters 15 = .ok (.getfield 780, 3) := by decide +kernel
theorem dX12_letters_18 : decode cX12_letters 18 = .ok (.iload_n 1, 1) := by decide +kernel
theorem dX12_letters_19 : decode cX12_letters 19 = .ok (.iastore, 1) := by decide +kernel
theorem dX12_letters_20 : decode cX12_letters 20 = .ok (.aload_n 0, 1) := by decide +kernel
theorem dX12_letters_21 : decode cX12_letters 21 = .ok (.dup, 1) := by decide +kernel
theorem dX12_letters_22 : decode cX12_letters 22 = .ok (.getfield 780, 3) := by decide +kernel
theorem dX12_letters_25 : decode cX12_letters 25 = .ok (.iconst 1, 1) := by decide +kernel
theorem dX12_letters_26 : decode cX12_letters 26 = .ok (.iadd, 1) := by decide +kernel
theorem dX12_letters_27 : decode cX12_letters 27 = .ok (.putfield 780, 3) := by decide +kernel
theorem dX12_letters_30 : decode cX12_letters 30 = .ok (.return_, 1) := by decide +kernel
theorem dX12_operation_0 : decode cX12_operation 0 = .ok (.aload_n 0, 1) := by decide +kernel
theorem dX12_operation_1 : decode cX12_operation 1 = .ok (.bipush 32, 2) := by decide +kernel
theorem dX12_operation_3 : decode cX12_operation 3 = .ok (.invokevirtual 783, 3) := by decide +kernel
theorem dX12_operation_6 : decode cX12_operation 6 = .ok (.iload_n 1, 1) := by decide +kernel
theorem dX12_operation_7 : decode cX12_operation 7 = .ok (.bipush 21, 2) := by decide +kernel
theorem dX12_operation_9 : decode cX12_operation 9 = .ok (.if_icmp .ne 20, 3) := by decide +kernel
theorem dX12_operation_12 : decode cX12_operation 12 = .ok (.aload_n 0, 1) := by decide +kernel
theorem dX12_operation_13 : decode cX12_operation 13 = .ok (.bipush 61, 2) := by decide +kernel
theorem dX12_operation_15 : decode cX12_operation 15 = .ok (.bipush 61, 2) := by decide +kernel
theorem dX12_operation_17 : decode cX12_operation 17 = .ok (.iconst 0, 1) := by decide +kernel
theorem dX12_operation_18 : decode cX12_operation 18 = .ok (.iconst 0, 1) := by decide +kernel
theorem dX12_operation_19 : decode cX12_operation 19 = .ok (.iconst 0, 1) := by decide +kernel
theorem dX12_operation_20 : decode cX12_operation 20 = .ok (.invokestatic 257, 3) := by decide +kernel
theorem dX12_operation_23 : decode cX12_operation 23 = .ok (.invokevirtual 789, 3) := by decide +kernel
theorem dX12_operation_26 : decode cX12_operation 26 = .ok (.goto 34, 3) := by decide +kernel
theorem dX12_operation_29 : decode cX12_operation 29 = .ok (.iload_n 1, 1) := by decide +kernel
theorem dX12_operation_30 : decode cX12_operation 30 = .ok (.bipush 22, 2) := by decide +kernel
theorem dX12_operation_32 : decode cX12_operation 32 = .ok (.if_icmp .ne 20, 3) := by decide +kernel
theorem dX12_operation_35 : decode cX12_operation 35 = .ok (.aload_n 0, 1) := by decide +kernel
theorem dX12_operation_36 : decode cX12_operation 36 = .ok (.bipush 60, 2) := by decide +kernel
theorem dX12_operation_38 : decode cX12_operation 38 = .ok (.bipush 61, 2) := by decide +kernel
theorem dX12_operation_40 : decode cX12_operation 40 = .ok (.iconst 0, 1) := by decide +kernel
theorem dX12_operation_41 : decode cX12_operation 41 = .ok (.iconst 0, 1) := by decide +kernel
theorem dX12_operation_42 : decode cX12_operation 42 = .ok (.iconst 0, 1) := by decide +kernel
theorem dX12_operation_43 : decode cX12_operation 43 = .ok (.invokestatic 257, 3) := by decide +kernel
theorem dX12_operation_46 : decode cX12_operation 46 = .ok (.invokevirtual 789, 3) := by decide +kernel
theorem dX12_operation_49 : decode cX12_operation 49 = .ok (.goto 11, 3) := by decide +kernel
theorem dX12_operation_52 : decode cX12_operation 52 = .ok (.aload_n 0, 1) := by decide +kernel
theorem dX12_operation_53 : decode cX12_operation 53 = .ok (.iload_n 1, 1) := by decide +kernel
theorem dX12_operation_54 : decode cX12_operation 54 = .ok (.bipush 100, 2) := by decide +kernel
theorem dX12_operation_56 : decode cX12_operation 56 = .ok (.isub, 1) := by decide +kernel
theorem dX12_operation_57 : decode cX12_operation 57 = .ok (.invokevirtual 783, 3) := by decide +kernel
theorem dX12_operation_60 : decode cX12_operation 60 = .ok (.aload_n 0, 1) := by decide +kernel
theorem dX12_operation_61 : decode cX12_operation 61 = .ok (.bipush 32, 2) := by decide +kernel
theorem dX12_operation_63 : decode cX12_operation 63 = .ok (.invokevirtual 783, 3) := by decide +kernel
theorem dX12_operation_66 : decode cX12_operation 66 = .ok (.return_, 1) := by decide +kernel
theorem dX12_pattern_0 : decode cX12_pattern 0 = .ok (.aload_n 0, 1) := by decide +kernel
theorem dX12_pattern_1 : decode cX12_pattern 1 = .ok (.getfield 150, 3) := by decide +kernel
theorem dX12_pattern_4 : decode cX12_pattern 4 = .ok (.iload_n 1, 1) := by decide +kernel
theorem dX12_pattern_5 : decode cX12_pattern 5 = .ok (.iaload, 1) := by decide +kernel
theorem dX12_pattern_6 : decode cX12_pattern 6 = .ok (.iconst 2, 1) := by decide +kernel
theorem dX12_pattern_7 : decode cX12_pattern 7 = .ok (.if_icmp .ne 12, 3) := by decide +kernel
theorem dX12_pattern_10 : decode cX12_pattern 10 = .ok (.aload_n 0, 1) := by decide +kernel
theorem dX12_pattern_11 : decode cX12_pattern 11 = .ok (.bipush 95, 2) := by decide +kernel
theorem dX12_pattern_13 : decode cX12_pattern 13 = .ok (.invokevirtual 783, 3) := by decide +kernel
theorem dX12_pattern_16 : decode cX12_pattern 16 = .ok (.goto 41, 3) := by decide +kernel
theorem dX12_pattern_19 : decode cX12_pattern 19 = .ok (.aload_n 0, 1) := by decide +kernel
theorem dX12_pattern_20 : decode cX12_pattern 20 = .ok (.getfield 150, 3) := by decide +kernel
theorem dX12_pattern_23 : decode cX12_pattern 23 = .ok (.iload_n 1, 1) := by decide +kernel
theorem dX12_pattern_24 : decode cX12_pattern 24 = .ok (.iaload, 1) := by decide +kernel
theorem dX12_pattern_25 : decode cX12_pattern 25 = .ok (.iconst 1, 1) := by decide +kernel
theorem dX12_pattern_26 : decode cX12_pattern 26 = .ok (.if_icmp .ne 16, 3) := by decide +kernel
theorem dX12_pattern_29 : decode cX12_pattern 29 = .ok (.aload_n 0, 1) := by decide +kernel
theorem dX12_pattern_30 : decode cX12_pattern 30 = .ok (.aload_n 0, 1) := by decide +kernel
theorem dX12_pattern_31 : decode cX12_pattern 31 = .ok (.getfield 153, 3) := by decide +kernel
theorem dX12_pattern_34 : decode cX12_pattern 34 = .ok (.iload_n 1, 1) := by decide +kernel
theorem dX12_pattern_35 : decode cX12_pattern 35 = .ok (.iaload, 1) := by decide +kernel
theorem dX12_pattern_36 : decode cX12_pattern 36 = .ok (.invokevirtual 786, 3) := by decide +kernel
theorem dX12_pattern_39 : decode cX12_pattern 39 = .ok (.goto 18, 3) := by decide +kernel
theorem dX12_pattern_42 : decode cX12_pattern 42 = .ok (.aload_n 0, 1) := by decide +kernel
theorem dX12_pattern_43 : decode cX12_pattern 43 = .ok (.aload_n 0, 1) := by decide +kernel
theorem dX12_pattern_44 : decode cX12_pattern 44 = .ok (.getfield 59, 3) := by decide +kernel
theorem dX12_pattern_47 : decode cX12_pattern 47 = .ok (.aload_n 0, 1) := by decide +kernel
theorem dX12_pattern_48 : decode cX12_pattern 48 = .ok (.getfield 153, 3) := by decide +kernel
theorem dX12_pattern_51 : decode cX12_pattern 51 = .ok (.iload_n 1, 1) := by decide +kernel
theorem dX12_pattern_52 : decode cX12_pattern 52 = .ok (.iaload, 1) := by decide +kernel
theorem dX12_pattern_53 : decode cX12_pattern 53 = .ok (.laload, 1) := by decide +kernel
theorem dX12_pattern_54 : decode cX12_pattern 54 = .ok (.invokevirtual 789, 3) := by decide +kernel
theorem dX12_pattern_57 : decode cX12_pattern 57 = .ok (.iconst 0, 1) := by decide +kernel
theorem dX12_pattern_58 : decode cX12_pattern 58 = .ok (.istore_n 2, 1) := by decide +kernel
theorem dX12_pattern_59 : decode cX12_pattern 59 = .ok (.iload_n 2, 1) := by decide +kernel
theorem dX12_pattern_60 : decode cX12_pattern 60 = .ok (.aload_n 0, 1) := by decide +kernel
theorem dX12_pattern_61 : decode cX12_pattern 61 = .ok (.getfield 159, 3) := by decide +kernel
theorem dX12_pattern_64 : decode cX12_pattern 64 = .ok (.iload_n 1, 1) := by decide +kernel
theorem dX12_pattern_65 : decode cX12_pattern 65 = .ok (.iaload, 1) := by decide +kernel
theorem dX12_pattern_66 : decode cX12_pattern 66 = .ok (.if_icmp .ge 27, 3) := by decide +kernel
theorem dX12_pattern_69 : decode cX12_pattern 69 = .ok (.aload_n 0, 1) := by decide +kernel
theorem dX12_pattern_70 : decode cX12_pattern 70 = .ok (.bipush 32, 2) := by decide +kernel
theorem dX12_pattern_72 : decode cX12_pattern 72 = .ok (.invokevirtual 783, 3) := by decide +kernel
theorem dX12_pattern_75 : decode cX12_pattern 75 = .ok (.aload_n 0, 1) := by decide +kernel
theorem dX12_pattern_76 : decode cX12_pattern 76 = .ok (.aload_n 0, 1) := by decide +kernel
theorem dX12_pattern_77 : decode cX12_pattern 77 = .ok (.getfield 156, 3) := by decide +kernel
theorem dX12_pattern_80 : decode cX12_pattern 80 = .ok (.iload_n 1, 1) := by decide +kernel
theorem dX12_pattern_81 : decode cX12_pattern 81 = .ok (.iaload, 1) := by decide +kernel
theorem dX12_pattern_82 : decode cX12_pattern 82 = .ok (.iload_n 2, 1) := by decide +kernel
theorem dX12_pattern_83 : decode cX12_pattern 83 = .ok (.iadd, 1) := by decide +kernel
theorem dX12_pattern_84 : decode cX12_pattern 84 = .ok (.invokevirtual 792, 3) := by decide +kernel
theorem dX12_pattern_87 : decode cX12_pattern 87 = .ok (.iinc 2 1, 3) := by decide +kernel
theorem dX12_pattern_90 : decode cX12_pattern 90 = .ok (.goto (-31), 3) := by decide +kernel
theorem dX12_pattern_93 : decode cX12_pattern 93 = .ok (.aload_n 0, 1) := by decide +kernel
theorem dX12_pattern_94 : decode cX12_pattern 94 = .ok (.bipush 32, 2) := by decide +kernel
theorem dX12_pattern_96 : decode cX12_pattern 96 = .ok (.bipush 45, 2) := by decide +kernel
theorem dX12_pattern_98 : decode cX12_pattern 98 = .ok (.bipush 62, 2) := by decide +kernel
theorem dX12_pattern_100 : decode cX12_pattern 100 = .ok (.bipush 32, 2) := by decide +kernel
theorem dX12_pattern_102 : decode cX12_pattern 102 = .ok (.iconst 0, 1) := by decide +kernel
theorem dX12_pattern_103 : decode cX12_pattern 103 = .ok (.invokestatic 257, 3) := by decide +kernel
theorem dX12_pattern_106 : decode cX12_pattern 106 = .ok (.invokevirtual 789, 3) := by decide +kernel
theorem dX12_pattern_109 : decode cX12_pattern 109 = .ok (.return_, 1) := by decide +kernel
theorem dX12_put_0 : decode cX12_put 0 = .ok (.iconst 0, 1) := by decide +kernel
theorem dX12_put_1 : decode cX12_put 1 = .ok (.istore_n 2, 1) := by decide +kernel
theorem dX12_put_2 : decode cX12_put 2 = .ok (.iconst 1, 1) := by decide +kernel
theorem dX12_put_3 : decode cX12_put 3 = .ok (.istore_n 3, 1) := by decide +kernel
theorem dX12_put_4 : decode cX12_put 4 = .ok (.iconst 0, 1) := by decide +kernel
theorem dX12_put_5 : decode cX12_put 5 = .ok (.istore 4, 2) := by decide +kernel
theorem dX12_put_7 : decode cX12_put 7 = .ok (.iload 4, 2) := by decide +kernel
theorem dX12_put_9 : decode cX12_put 9 = .ok (.bipush 32, 2) := by decide +kernel
theorem dX12_put_11 : decode cX12_put 11 = .ok (.if_icmp .ge 68, 3) := by decide +kernel
theorem dX12_put_14 : decode cX12_put 14 = .ok (.iload_n 1, 1) := by decide +kernel
theorem dX12_put_15 : decode cX12_put 15 = .ok (.iload 4, 2) := by decide +kernel
theorem dX12_put_17 : decode cX12_put 17 = .ok (.ishr, 1) := by decide +kernel
theorem dX12_put_18 : decode cX12_put 18 = .ok (.sipush 255, 3) := by decide +kernel
theorem dX12_put_21 : decode cX12_put 21 = .ok (.iand, 1) := by decide +kernel
theorem dX12_put_22 : decode cX12_put 22 = .ok (.istore 5, 2) := by decide +kernel
theorem dX12_put_24 : decode cX12_put 24 = .ok (.iload_n 3, 1) := by decide +kernel
theorem dX12_put_25 : decode cX12_put 25 = .ok (.ifCond .eq 33, 3) := by decide +kernel
theorem dX12_put_28 : decode cX12_put 28 = .ok (.iload 5, 2) := by decide +kernel
theorem dX12_put_30 : decode cX12_put 30 = .ok (.ifCond .eq 24, 3) := by decide +kernel
theorem dX12_put_33 : decode cX12_put 33 = .ok (.iload 5, 2) := by decide +kernel
theorem dX12_put_35 : decode cX12_put 35 = .ok (.bipush 10, 2) := by decide +kernel
theorem dX12_put_37 : decode cX12_put 37 = .ok (.if_icmp .eq 17, 3) := by decide +kernel
theorem dX12_put_40 : decode cX12_put 40 = .ok (.iload 5, 2) := by decide +kernel
theorem dX12_put_42 : decode cX12_put 42 = .ok (.bipush 32, 2) := by decide +kernel
theorem dX12_put_44 : decode cX12_put 44 = .ok (.if_icmp .lt 14, 3) := by decide +kernel
theorem dX12_put_47 : decode cX12_put 47 = .ok (.iload 5, 2) := by decide +kernel
theorem dX12_put_49 : decode cX12_put 49 = .ok (.bipush 126, 2) := by decide +kernel
theorem dX12_put_51 : decode cX12_put 51 = .ok (.if_icmp .gt 7, 3) := by decide +kernel
theorem dX12_put_54 : decode cX12_put 54 = .ok (.iconst 1, 1) := by decide +kernel
theorem dX12_put_55 : decode cX12_put 55 = .ok (.goto 4, 3) := by decide +kernel
theorem dX12_put_58 : decode cX12_put 58 = .ok (.iconst 0, 1) := by decide +kernel
theorem dX12_put_59 : decode cX12_put 59 = .ok (.istore_n 3, 1) := by decide +kernel
theorem dX12_put_60 : decode cX12_put 60 = .ok (.iload_n 2, 1) := by decide +kernel
theorem dX12_put_61 : decode cX12_put 61 = .ok (.iload 5, 2) := by decide +kernel
theorem dX12_put_63 : decode cX12_put 63 = .ok (.ifCond .ne 7, 3) := by decide +kernel
theorem dX12_put_66 : decode cX12_put 66 = .ok (.iconst 0, 1) := by decide +kernel
theorem dX12_put_67 : decode cX12_put 67 = .ok (.goto 4, 3) := by decide +kernel
theorem dX12_put_70 : decode cX12_put 70 = .ok (.iconst 1, 1) := by decide +kernel
theorem dX12_put_71 : decode cX12_put 71 = .ok (.iadd, 1) := by decide +kernel
theorem dX12_put_72 : decode cX12_put 72 = .ok (.istore_n 2, 1) := by decide +kernel
theorem dX12_put_73 : decode cX12_put 73 = .ok (.iinc 4 8, 3) := by decide +kernel
theorem dX12_put_76 : decode cX12_put 76 = .ok (.goto (-69), 3) := by decide +kernel
theorem dX12_put_79 : decode cX12_put 79 = .ok (.aload_n 0, 1) := by decide +kernel
theorem dX12_put_80 : decode cX12_put 80 = .ok (.iload_n 3, 1) := by decide +kernel
theorem dX12_put_81 : decode cX12_put 81 = .ok (.ifCond .ne 7, 3) := by decide +kernel
theorem dX12_put_84 : decode cX12_put 84 = .ok (.iconst 1, 1) := by decide +kernel
theorem dX12_put_85 : decode cX12_put 85 = .ok (.goto 20, 3) := by decide +kernel
theorem dX12_put_88 : decode cX12_put 88 = .ok (.aload_n 0, 1) := by decide +kernel
theorem dX12_put_89 : decode cX12_put 89 = .ok (.getfield 254, 3) := by decide +kernel
theorem dX12_put_92 : decode cX12_put 92 = .ok (.iload_n 2, 1) := by decide +kernel
theorem dX12_put_93 : decode cX12_put 93 = .ok (.iadd, 1) := by decide +kernel
theorem dX12_put_94 : decode cX12_put 94 = .ok (.sipush 3000, 3) := by decide +kernel
theorem dX12_put_97 : decode cX12_put 97 = .ok (.if_icmp .le 7, 3) := by decide +kernel
theorem dX12_put_100 : decode cX12_put 100 = .ok (.iconst 2, 1) := by decide +kernel
theorem dX12_put_101 : decode cX12_put 101 = .ok (.goto 4, 3) := by decide +kernel
theorem dX12_put_104 : decode cX12_put 104 = .ok (.iconst 0, 1) := by decide +kernel
theorem dX12_put_105 : decode cX12_put 105 = .ok (.putfield 251, 3) := by decide +kernel
theorem dX12_put_108 : decode cX12_put 108 = .ok (.aload_n 0, 1) := by decide +kernel
theorem dX12_put_109 : decode cX12_put 109 = .ok (.getfield 251, 3) := by decide +kernel
theorem dX12_put_112 : decode cX12_put 112 = .ok (.ifCond .le 5, 3) := by decide +kernel
theorem dX12_put_115 : decode cX12_put 115 = .ok (.iconst 0, 1) := by decide +kernel
theorem dX12_put_116 : decode cX12_put 116 = .ok (.ireturn, 1) := by decide +kernel
theorem dX12_put_117 : decode cX12_put 117 = .ok (.iconst 0, 1) := by decide +kernel
theorem dX12_put_118 : decode cX12_put 118 = .ok (.istore 4, 2) := by decide +kernel
theorem dX12_put_120 : decode cX12_put 120 = .ok (.iload 4, 2) := by decide +kernel
theorem dX12_put_122 : decode cX12_put 122 = .ok (.bipush 32, 2) := by decide +kernel
theorem dX12_put_124 : decode cX12_put 124 = .ok (.if_icmp .ge 45, 3) := by decide +kernel
theorem dX12_put_127 : decode cX12_put 127 = .ok (.iload_n 1, 1) := by decide +kernel
theorem dX12_put_128 : decode cX12_put 128 = .ok (.iload 4, 2) := by decide +kernel
theorem dX12_put_130 : decode cX12_put 130 = .ok (.ishr, 1) := by decide +kernel
theorem dX12_put_131 : decode cX12_put 131 = .ok (.sipush 255, 3) := by decide +kernel
theorem dX12_put_134 : decode cX12_put 134 = .ok (.iand, 1) := by decide +kernel
theorem dX12_put_135 : decode cX12_put 135 = .ok (.istore 5, 2) := by decide +kernel
theorem dX12_put_137 : decode cX12_put 137 = .ok (.iload 5, 2) := by decide +kernel
theorem dX12_put_139 : decode cX12_put 139 = .ok (.ifCond .eq 24, 3) := by decide +kernel
theorem dX12_put_142 : decode cX12_put 142 = .ok (.aload_n 0, 1) := by decide +kernel
theorem dX12_put_143 : decode cX12_put 143 = .ok (.getfield 7, 3) := by decide +kernel
theorem dX12_put_146 : decode cX12_put 146 = .ok (.aload_n 0, 1) := by decide +kernel
theorem dX12_put_147 : decode cX12_put 147 = .ok (.getfield 254, 3) := by decide +kernel
theorem dX12_put_150 : decode cX12_put 150 = .ok (.iload 5, 2) := by decide +kernel
theorem dX12_put_152 : decode cX12_put 152 = .ok (.iastore, 1) := by decide +kernel
theorem dX12_put_153 : decode cX12_put 153 = .ok (.aload_n 0, 1) := by decide +kernel
theorem dX12_put_154 : decode cX12_put 154 = .ok (.dup, 1) := by decide +kernel
theorem dX12_put_155 : decode cX12_put 155 = .ok (.getfield 254, 3) := by decide +kernel
theorem dX12_put_158 : decode cX12_put 158 = .ok (.iconst 1, 1) := by decide +kernel
theorem dX12_put_159 : decode cX12_put 159 = .ok (.iadd, 1) := by decide +kernel
theorem dX12_put_160 : decode cX12_put 160 = .ok (.putfield 254, 3) := by decide +kernel
theorem dX12_put_163 : decode cX12_put 163 = .ok (.iinc 4 8, 3) := by decide +kernel
theorem dX12_put_166 : decode cX12_put 166 = .ok (.goto (-46), 3) := by decide +kernel
theorem dX12_put_169 : decode cX12_put 169 = .ok (.aload_n 0, 1) := by decide +kernel
theorem dX12_put_170 : decode cX12_put 170 = .ok (.getfield 254, 3) := by decide +kernel
theorem dX12_put_173 : decode cX12_put 173 = .ok (.ireturn, 1) := by decide +kernel
theorem dX12_putRow_0 : decode cX12_putRow 0 = .ok (.aload_n 0, 1) := by decide +kernel
theorem dX12_putRow_1 : decode cX12_putRow 1 = .ok (.getfield 760, 3) := by decide +kernel
theorem dX12_putRow_4 : decode cX12_putRow 4 = .ok (.iload_n 3, 1) := by decide +kernel
theorem dX12_putRow_5 : decode cX12_putRow 5 = .ok (.iadd, 1) := by decide +kernel
theorem dX12_putRow_6 : decode cX12_putRow 6 = .ok (.sipush 1000, 3) := by decide +kernel
theorem dX12_putRow_9 : decode cX12_putRow 9 = .ok (.if_icmp .le 11, 3) := by decide +kernel
theorem dX12_putRow_12 : decode cX12_putRow 12 = .ok (.aload_n 0, 1) := by decide +kernel
theorem dX12_putRow_13 : decode cX12_putRow 13 = .ok (.iconst 3, 1) := by decide +kernel
theorem dX12_putRow_14 : decode cX12_putRow 14 = .ok (.iconst 3, 1) := by decide +kernel
theorem dX12_putRow_15 : decode cX12_putRow 15 = .ok (.invokevirtual 629, 3) := by decide +kernel
theorem dX12_putRow_18 : decode cX12_putRow 18 = .ok (.iconst 0, 1) := by decide +kernel
theorem dX12_putRow_19 : decode cX12_putRow 19 = .ok (.ireturn, 1) := by decide +kernel
theorem dX12_putRow_20 : decode cX12_putRow 20 = .ok (.aload_n 0, 1) := by decide +kernel
theorem dX12_putRow_21 : decode cX12_putRow 21 = .ok (.getfield 215, 3) := by decide +kernel
theorem dX12_putRow_24 : decode cX12_putRow 24 = .ok (.aload_n 0, 1) := by decide +kernel
theorem dX12_putRow_25 : decode cX12_putRow 25 = .ok (.getfield 760, 3) := by decide +kernel
theorem dX12_putRow_28 : decode cX12_putRow 28 = .ok (.iload_n 1, 1) := by decide +kernel
theorem dX12_putRow_29 : decode cX12_putRow 29 = .ok (.iastore, 1) := by decide +kernel
theorem dX12_putRow_30 : decode cX12_putRow 30 = .ok (.aload_n 0, 1) := by decide +kernel
theorem dX12_putRow_31 : decode cX12_putRow 31 = .ok (.dup, 1) := by decide +kernel
theorem dX12_putRow_32 : decode cX12_putRow 32 = .ok (.getfield 760, 3) := by decide +kernel
theorem dX12_putRow_35 : decode cX12_putRow 35 = .ok (.iconst 1, 1) := by decide +kernel
theorem dX12_putRow_36 : decode cX12_putRow 36 = .ok (.iadd, 1) := by decide +kernel
theorem dX12_putRow_37 : decode cX12_putRow 37 = .ok (.putfield 760, 3) := by decide +kernel
theorem dX12_putRow_40 : decode cX12_putRow 40 = .ok (.iload_n 3, 1) := by decide +kernel
theorem dX12_putRow_41 : decode cX12_putRow 41 = .ok (.iconst 1, 1) := by decide +kernel
theorem dX12_putRow_42 : decode cX12_putRow 42 = .ok (.if_icmp .le 23, 3) := by decide +kernel
theorem dX12_putRow_45 : decode cX12_putRow 45 = .ok (.aload_n 0, 1) := by decide +kernel
theorem dX12_putRow_46 : decode cX12_putRow 46 = .ok (.getfield 215, 3) := by decide +kernel
theorem dX12_putRow_49 : decode cX12_putRow 49 = .ok (.aload_n 0, 1) := by decide +kernel
theorem dX12_putRow_50 : decode cX12_putRow 50 = .ok (.getfield 760, 3) := by decide +kernel
theorem dX12_putRow_53 : decode cX12_putRow 53 = .ok (.iload_n 2, 1) := by decide +kernel
theorem dX12_putRow_54 : decode cX12_putRow 54 = .ok (.iastore, 1) := by decide +kernel
theorem dX12_putRow_55 : decode cX12_putRow 55 = .ok (.aload_n 0, 1) := by decide +kernel
theorem dX12_putRow_56 : decode cX12_putRow 56 = .ok (.dup, 1) := by decide +kernel
theorem dX12_putRow_57 : decode cX12_putRow 57 = .ok (.getfield 760, 3) := by decide +kernel
theorem dX12_putRow_60 : decode cX12_putRow 60 = .ok (.iconst 1, 1) := by decide +kernel
theorem dX12_putRow_61 : decode cX12_putRow 61 = .ok (.iadd, 1) := by decide +kernel
theorem dX12_putRow_62 : decode cX12_putRow 62 = .ok (.putfield 760, 3) := by decide +kernel
theorem dX12_putRow_65 : decode cX12_putRow 65 = .ok (.iconst 1, 1) := by decide +kernel
theorem dX12_putRow_66 : decode cX12_putRow 66 = .ok (.ireturn, 1) := by decide +kernel
theorem dX12_run_0 : decode cX12_run 0 = .ok (.aload_n 0, 1) := by decide +kernel
theorem dX12_run_1 : decode cX12_run 1 = .ok (.getfield 736, 3) := by decide +kernel
theorem dX12_run_4 : decode cX12_run 4 = .ok (.ldc_w 770, 3) := by decide +kernel
theorem dX12_run_7 : decode cX12_run 7 = .ok (.if_icmp .ge 13, 3) := by decide +kernel
theorem dX12_run_10 : decode cX12_run 10 = .ok (.aload_n 0, 1) := by decide +kernel
theorem dX12_run_11 : decode cX12_run 11 = .ok (.getfield 632, 3) := by decide +kernel
theorem dX12_run_14 : decode cX12_run 14 = .ok (.ldc_w 770, 3) := by decide +kernel
theorem dX12_run_17 : decode cX12_run 17 = .ok (.if_icmp .lt 7, 3) := by decide +kernel
theorem dX12_run_20 : decode cX12_run 20 = .ok (.iconst 1, 1) := by decide +kernel
theorem dX12_run_21 : decode cX12_run 21 = .ok (.goto 4, 3) := by decide +kernel
theorem dX12_run_24 : decode cX12_run 24 = .ok (.iconst 0, 1) := by decide +kernel
theorem dX12_run_25 : decode cX12_run 25 = .ok (.istore_n 3, 1) := by decide +kernel
theorem dX12_run_26 : decode cX12_run 26 = .ok (.aload_n 0, 1) := by decide +kernel
theorem dX12_run_27 : decode cX12_run 27 = .ok (.aload_n 0, 1) := by decide +kernel
theorem dX12_run_28 : decode cX12_run 28 = .ok (.getfield 570, 3) := by decide +kernel
theorem dX12_run_31 : decode cX12_run 31 = .ok (.ifCond .ne 7, 3) := by decide +kernel
theorem dX12_run_34 : decode cX12_run 34 = .ok (.iconst 1, 1) := by decide +kernel
theorem dX12_run_35 : decode cX12_run 35 = .ok (.goto 27, 3) := by decide +kernel
theorem dX12_run_38 : decode cX12_run 38 = .ok (.iload_n 2, 1) := by decide +kernel
theorem dX12_run_39 : decode cX12_run 39 = .ok (.ifCond .lt 10, 3) := by decide +kernel
theorem dX12_run_42 : decode cX12_run 42 = .ok (.iload_n 2, 1) := by decide +kernel
theorem dX12_run_43 : decode cX12_run 43 = .ok (.sipush 800, 3) := by decide +kernel
theorem dX12_run_46 : decode cX12_run 46 = .ok (.if_icmp .le 7, 3) := by decide +kernel
theorem dX12_run_49 : decode cX12_run 49 = .ok (.iconst 2, 1) := by decide +kernel
theorem dX12_run_50 : decode cX12_run 50 = .ok (.goto 12, 3) := by decide +kernel
theorem dX12_run_53 : decode cX12_run 53 = .ok (.iload_n 3, 1) := by decide +kernel
theorem dX12_run_54 : decode cX12_run 54 = .ok (.ifCond .eq 7, 3) := by decide +kernel
theorem dX12_run_57 : decode cX12_run 57 = .ok (.iconst 3, 1) := by decide +kernel
theorem dX12_run_58 : decode cX12_run 58 = .ok (.goto 4, 3) := by decide +kernel
theorem dX12_run_61 : decode cX12_run 61 = .ok (.iconst 0, 1) := by decide +kernel
theorem dX12_run_62 : decode cX12_run 62 = .ok (.putfield 251, 3) := by decide +kernel
theorem dX12_run_65 : decode cX12_run 65 = .ok (.aload_n 0, 1) := by decide +kernel
theorem dX12_run_66 : decode cX12_run 66 = .ok (.getfield 251, 3) := by decide +kernel
theorem dX12_run_69 : decode cX12_run 69 = .ok (.ifCond .le 5, 3) := by decide +kernel
theorem dX12_run_72 : decode cX12_run 72 = .ok (.iconst 0, 1) := by decide +kernel
theorem dX12_run_73 : decode cX12_run 73 = .ok (.ireturn, 1) := by decide +kernel
theorem dX12_run_74 : decode cX12_run 74 = .ok (.aload_n 0, 1) := by decide +kernel
theorem dX12_run_75 : decode cX12_run 75 = .ok (.invokevirtual 573, 3) := by decide +kernel
theorem dX12_run_78 : decode cX12_run 78 = .ok (.aload_n 0, 1) := by decide +kernel
theorem dX12_run_79 : decode cX12_run 79 = .ok (.iload_n 1, 1) := by decide +kernel
theorem dX12_run_80 : decode cX12_run 80 = .ok (.putfield 706, 3) := by decide +kernel
theorem dX12_run_83 : decode cX12_run 83 = .ok (.aload_n 0, 1) := by decide +kernel
theorem dX12_run_84 : decode cX12_run 84 = .ok (.iload_n 2, 1) := by decide +kernel
theorem dX12_run_85 : decode cX12_run 85 = .ok (.putfield 730, 3) := by decide +kernel
theorem dX12_run_88 : decode cX12_run 88 = .ok (.aload_n 0, 1) := by decide +kernel
theorem dX12_run_89 : decode cX12_run 89 = .ok (.iconst 0, 1) := by decide +kernel
theorem dX12_run_90 : decode cX12_run 90 = .ok (.putfield 635, 3) := by decide +kernel
theorem dX12_run_93 : decode cX12_run 93 = .ok (.aload_n 0, 1) := by decide +kernel
theorem dX12_run_94 : decode cX12_run 94 = .ok (.iconst 0, 1) := by decide +kernel
theorem dX12_run_95 : decode cX12_run 95 = .ok (.putfield 638, 3) := by decide +kernel
theorem dX12_run_98 : decode cX12_run 98 = .ok (.iconst 0, 1) := by decide +kernel
theorem dX12_run_99 : decode cX12_run 99 = .ok (.istore 4, 2) := by decide +kernel
theorem dX12_run_101 : decode cX12_run 101 = .ok (.iload 4, 2) := by decide +kernel
theorem dX12_run_103 : decode cX12_run 103 = .ok (.aload_n 0, 1) := by decide +kernel
theorem dX12_run_104 : decode cX12_run 104 = .ok (.getfield 486, 3) := by decide +kernel
theorem dX12_run_107 : decode cX12_run 107 = .ok (.if_icmp .ge 40, 3) := by decide +kernel
theorem dX12_run_110 : decode cX12_run 110 = .ok (.aload_n 0, 1) := by decide +kernel
theorem dX12_run_111 : decode cX12_run 111 = .ok (.getfield 171, 3) := by decide +kernel
theorem dX12_run_114 : decode cX12_run 114 = .ok (.iload 4, 2) := by decide +kernel
theorem dX12_run_116 : decode cX12_run 116 = .ok (.iaload, 1) := by decide +kernel
theorem dX12_run_117 : decode cX12_run 117 = .ok (.ifCond .ne 24, 3) := by decide +kernel
theorem dX12_run_120 : decode cX12_run 120 = .ok (.aload_n 0, 1) := by decide +kernel
theorem dX12_run_121 : decode cX12_run 121 = .ok (.getfield 242, 3) := by decide +kernel
theorem dX12_run_124 : decode cX12_run 124 = .ok (.iload 4, 2) := by decide +kernel
theorem dX12_run_126 : decode cX12_run 126 = .ok (.aload_n 0, 1) := by decide +kernel
theorem dX12_run_127 : decode cX12_run 127 = .ok (.iconst 2, 1) := by decide +kernel
theorem dX12_run_128 : decode cX12_run 128 = .ok (.aload_n 0, 1) := by decide +kernel
theorem dX12_run_129 : decode cX12_run 129 = .ok (.getfield 165, 3) := by decide +kernel
theorem dX12_run_132 : decode cX12_run 132 = .ok (.iload 4, 2) := by decide +kernel
theorem dX12_run_134 : decode cX12_run 134 = .ok (.iaload, 1) := by decide +kernel
theorem dX12_run_135 : decode cX12_run 135 = .ok (.iconst 0, 1) := by decide +kernel
theorem dX12_run_136 : decode cX12_run 136 = .ok (.iconst 1, 1) := by decide +kernel
theorem dX12_run_137 : decode cX12_run 137 = .ok (.invokevirtual 653, 3) := by decide +kernel
theorem dX12_run_140 : decode cX12_run 140 = .ok (.iastore, 1) := by decide +kernel
theorem dX12_run_141 : decode cX12_run 141 = .ok (.iinc 4 1, 3) := by decide +kernel
theorem dX12_run_144 : decode cX12_run 144 = .ok (.goto (-43), 3) := by decide +kernel
theorem dX12_run_147 : decode cX12_run 147 = .ok (.aload_n 0, 1) := by decide +kernel
theorem dX12_run_148 : decode cX12_run 148 = .ok (.iconst 1, 1) := by decide +kernel
theorem dX12_run_149 : decode cX12_run 149 = .ok (.putfield 767, 3) := by decide +kernel
theorem dX12_run_152 : decode cX12_run 152 = .ok (.aload_n 0, 1) := by decide +kernel
theorem dX12_run_153 : decode cX12_run 153 = .ok (.getfield 245, 3) := by decide +kernel
theorem dX12_run_156 : decode cX12_run 156 = .ok (.iconst 0, 1) := by decide +kernel
theorem dX12_run_157 : decode cX12_run 157 = .ok (.iconst 3, 1) := by decide +kernel
theorem dX12_run_158 : decode cX12_run 158 = .ok (.aload_n 0, 1) := by decide +kernel
theorem dX12_run_159 : decode cX12_run 159 = .ok (.getfield 242, 3) := by decide +kernel
theorem dX12_run_162 : decode cX12_run 162 = .ok (.aload_n 0, 1) := by decide +kernel
theorem dX12_run_163 : decode cX12_run 163 = .ok (.invokevirtual 517, 3) := by decide +kernel
theorem dX12_run_166 : decode cX12_run 166 = .ok (.iaload, 1) := by decide +kernel
theorem dX12_run_167 : decode cX12_run 167 = .ok (.invokestatic 650, 3) := by decide +kernel
theorem dX12_run_170 : decode cX12_run 170 = .ok (.lastore, 1) := by decide +kernel
theorem dX12_run_171 : decode cX12_run 171 = .ok (.aload_n 0, 1) := by decide +kernel
theorem dX12_run_172 : decode cX12_run 172 = .ok (.getfield 605, 3) := by decide +kernel
theorem dX12_run_175 : decode cX12_run 175 = .ok (.ifCond .ne 51, 3) := by decide +kernel
theorem dX12_run_178 : decode cX12_run 178 = .ok (.aload_n 0, 1) := by decide +kernel
theorem dX12_run_179 : decode cX12_run 179 = .ok (.getfield 767, 3) := by decide +kernel
theorem dX12_run_182 : decode cX12_run 182 = .ok (.ifCond .le 44, 3) := by decide +kernel
theorem dX12_run_185 : decode cX12_run 185 = .ok (.aload_n 0, 1) := by decide +kernel
theorem dX12_run_186 : decode cX12_run 186 = .ok (.dup, 1) := by decide +kernel
theorem dX12_run_187 : decode cX12_run 187 = .ok (.getfield 767, 3) := by decide +kernel
theorem dX12_run_190 : decode cX12_run 190 = .ok (.iconst 1, 1) := by decide +kernel
theorem dX12_run_191 : decode cX12_run 191 = .ok (.isub, 1) := by decide +kernel
theorem dX12_run_192 : decode cX12_run 192 = .ok (.putfield 767, 3) := by decide +kernel
theorem dX12_run_195 : decode cX12_run 195 = .ok (.aload_n 0, 1) := by decide +kernel
theorem dX12_run_196 : decode cX12_run 196 = .ok (.aload_n 0, 1) := by decide +kernel
theorem dX12_run_197 : decode cX12_run 197 = .ok (.getfield 245, 3) := by decide +kernel
theorem dX12_run_200 : decode cX12_run 200 = .ok (.aload_n 0, 1) := by decide +kernel
theorem dX12_run_201 : decode cX12_run 201 = .ok (.getfield 767, 3) := by decide +kernel
theorem dX12_run_204 : decode cX12_run 204 = .ok (.laload, 1) := by decide +kernel
theorem dX12_run_205 : decode cX12_run 205 = .ok (.invokevirtual 771, 3) := by decide +kernel
theorem dX12_run_208 : decode cX12_run 208 = .ok (.aload_n 0, 1) := by decide +kernel
theorem dX12_run_209 : decode cX12_run 209 = .ok (.getfield 605, 3) := by decide +kernel
theorem dX12_run_212 : decode cX12_run 212 = .ok (.ifCond .ne (-41), 3) := by decide +kernel
theorem dX12_run_215 : decode cX12_run 215 = .ok (.aload_n 0, 1) := by decide +kernel
theorem dX12_run_216 : decode cX12_run 216 = .ok (.aload_n 0, 1) := by decide +kernel
theorem dX12_run_217 : decode cX12_run 217 = .ok (.getfield 623, 3) := by decide +kernel
theorem dX12_run_220 : decode cX12_run 220 = .ok (.invokevirtual 774, 3) := by decide +kernel
theorem dX12_run_223 : decode cX12_run 223 = .ok (.goto (-52), 3) := by decide +kernel
theorem dX12_run_226 : decode cX12_run 226 = .ok (.aload_n 0, 1) := by decide +kernel
theorem dX12_run_227 : decode cX12_run 227 = .ok (.iconst 1, 1) := by decide +kernel
theorem dX12_run_228 : decode cX12_run 228 = .ok (.iconst 0, 1) := by decide +kernel
theorem dX12_run_229 : decode cX12_run 229 = .ok (.invokevirtual 629, 3) := by decide +kernel
theorem dX12_run_232 : decode cX12_run 232 = .ok (.aload_n 0, 1) := by decide +kernel
theorem dX12_run_233 : decode cX12_run 233 = .ok (.getfield 605, 3) := by decide +kernel
theorem dX12_run_236 : decode cX12_run 236 = .ok (.ireturn, 1) := by decide +kernel
theorem dX12_signs_0 : decode cX12_signs 0 = .ok (.bipush 56, 2) := by decide +kernel
theorem dX12_signs_2 : decode cX12_signs 2 = .ok (.istore_n 3, 1) := by decide +kernel
theorem dX12_signs_3 : decode cX12_signs 3 = .ok (.iload_n 3, 1) := by decide +kernel
theorem dX12_signs_4 : decode cX12_signs 4 = .ok (.ifCond .lt 30, 3) := by decide +kernel
theorem dX12_signs_7 : decode cX12_signs 7 = .ok (.lload_n 1, 1) := by decide +kernel
theorem dX12_signs_8 : decode cX12_signs 8 = .ok (.iload_n 3, 1) := by decide +kernel
theorem dX12_signs_9 : decode cX12_signs 9 = .ok (.lshr, 1) := by decide +kernel
theorem dX12_signs_10 : decode cX12_signs 10 = .ok (.l2i, 1) := by decide +kernel
theorem dX12_signs_11 : decode cX12_signs 11 = .ok (.sipush 255, 3) := by decide +kernel
theorem dX12_signs_14 : decode cX12_signs 14 = .ok (.iand, 1) := by decide +kernel
theorem dX12_signs_15 : decode cX12_signs 15 = .ok (.istore 4, 2) := by decide +kernel
theorem dX12_signs_17 : decode cX12_signs 17 = .ok (.iload 4, 2) := by decide +kernel
theorem dX12_signs_19 : decode cX12_signs 19 = .ok (.ifCond .eq 9, 3) := by decide +kernel
theorem dX12_signs_22 : decode cX12_signs 22 = .ok (.aload_n 0, 1) := by decide +kernel
theorem dX12_signs_23 : decode cX12_signs 23 = .ok (.iload 4, 2) := by decide +kernel
theorem dX12_signs_25 : decode cX12_signs 25 = .ok (.invokevirtual 783, 3) := by decide +kernel
theorem dX12_signs_28 : decode cX12_signs 28 = .ok (.iinc 3 (-8), 3) := by decide +kernel
theorem dX12_signs_31 : decode cX12_signs 31 = .ok (.goto (-28), 3) := by decide +kernel
theorem dX12_signs_34 : decode cX12_signs 34 = .ok (.return_, 1) := by decide +kernel
theorem dX12_take_0 : decode cX12_take 0 = .ok (.aload_n 0, 1) := by decide +kernel
theorem dX12_take_1 : decode cX12_take 1 = .ok (.iconst 0, 1) := by decide +kernel
theorem dX12_take_2 : decode cX12_take 2 = .ok (.putfield 251, 3) := by decide +kernel
theorem dX12_take_5 : decode cX12_take 5 = .ok (.aload_n 0, 1) := by decide +kernel
theorem dX12_take_6 : decode cX12_take 6 = .ok (.getfield 777, 3) := by decide +kernel
theorem dX12_take_9 : decode cX12_take 9 = .ok (.sipush 3000, 3) := by decide +kernel
theorem dX12_take_12 : decode cX12_take 12 = .ok (.if_icmp .le 5, 3) := by decide +kernel
theorem dX12_take_15 : decode cX12_take 15 = .ok (.iconst (-1), 1) := by decide +kernel
theorem dX12_take_16 : decode cX12_take 16 = .ok (.ireturn, 1) := by decide +kernel
theorem dX12_take_17 : decode cX12_take 17 = .ok (.iconst 0, 1) := by decide +kernel
theorem dX12_take_18 : decode cX12_take 18 = .ok (.istore_n 1, 1) := by decide +kernel
theorem dX12_take_19 : decode cX12_take 19 = .ok (.iload_n 1, 1) := by decide +kernel
theorem dX12_take_20 : decode cX12_take 20 = .ok (.aload_n 0, 1) := by decide +kernel
theorem dX12_take_21 : decode cX12_take 21 = .ok (.getfield 777, 3) := by decide +kernel
theorem dX12_take_24 : decode cX12_take 24 = .ok (.if_icmp .ge 21, 3) := by decide +kernel
theorem dX12_take_27 : decode cX12_take 27 = .ok (.aload_n 0, 1) := by decide +kernel
theorem dX12_take_28 : decode cX12_take 28 = .ok (.getfield 7, 3) := by decide +kernel
theorem dX12_take_31 : decode cX12_take 31 = .ok (.iload_n 1, 1) := by decide +kernel
theorem dX12_take_32 : decode cX12_take 32 = .ok (.aload_n 0, 1) := by decide +kernel
theorem dX12_take_33 : decode cX12_take 33 = .ok (.getfield 13, 3) := by decide +kernel
theorem dX12_take_36 : decode cX12_take 36 = .ok (.iload_n 1, 1) := by decide +kernel
theorem dX12_take_37 : decode cX12_take 37 = .ok (.iaload, 1) := by decide +kernel
theorem dX12_take_38 : decode cX12_take 38 = .ok (.iastore, 1) := by decide +kernel
theorem dX12_take_39 : decode cX12_take 39 = .ok (.iinc 1 1, 3) := by decide +kernel
theorem dX12_take_42 : decode cX12_take 42 = .ok (.goto (-23), 3) := by decide +kernel
theorem dX12_take_45 : decode cX12_take 45 = .ok (.aload_n 0, 1) := by decide +kernel
theorem dX12_take_46 : decode cX12_take 46 = .ok (.aload_n 0, 1) := by decide +kernel
theorem dX12_take_47 : decode cX12_take 47 = .ok (.getfield 777, 3) := by decide +kernel
theorem dX12_take_50 : decode cX12_take 50 = .ok (.putfield 254, 3) := by decide +kernel
theorem dX12_take_53 : decode cX12_take 53 = .ok (.aload_n 0, 1) := by decide +kernel
theorem dX12_take_54 : decode cX12_take 54 = .ok (.getfield 254, 3) := by decide +kernel
theorem dX12_take_57 : decode cX12_take 57 = .ok (.ireturn, 1) := by decide +kernel
theorem dX12_variable_0 : decode cX12_variable 0 = .ok (.aload_n 0, 1) := by decide +kernel
theorem dX12_variable_1 : decode cX12_variable 1 = .ok (.bipush 118, 2) := by decide +kernel
theorem dX12_variable_3 : decode cX12_variable 3 = .ok (.invokevirtual 783, 3) := by decide +kernel
theorem dX12_variable_6 : decode cX12_variable 6 = .ok (.aload_n 0, 1) := by decide +kernel
theorem dX12_variable_7 : decode cX12_variable 7 = .ok (.iload_n 1, 1) := by decide +kernel
theorem dX12_variable_8 : decode cX12_variable 8 = .ok (.invokevirtual 786, 3) := by decide +kernel
theorem dX12_variable_11 : decode cX12_variable 11 = .ok (.return_, 1) := by decide +kernel
theorem dX12_workOut_0 : decode cX12_workOut 0 = .ok (.aload_n 0, 1) := by decide +kernel
theorem dX12_workOut_1 : decode cX12_workOut 1 = .ok (.iconst 0, 1) := by decide +kernel
theorem dX12_workOut_2 : decode cX12_workOut 2 = .ok (.putfield 611, 3) := by decide +kernel
theorem dX12_workOut_5 : decode cX12_workOut 5 = .ok (.aload_n 0, 1) := by decide +kernel
theorem dX12_workOut_6 : decode cX12_workOut 6 = .ok (.iconst 0, 1) := by decide +kernel
theorem dX12_workOut_7 : decode cX12_workOut 7 = .ok (.putfield 724, 3) := by decide +kernel
theorem dX12_workOut_10 : decode cX12_workOut 10 = .ok (.aload_n 0, 1) := by decide +kernel
theorem dX12_workOut_11 : decode cX12_workOut 11 = .ok (.iconst 0, 1) := by decide +kernel
theorem dX12_workOut_12 : decode cX12_workOut 12 = .ok (.putfield 614, 3) := by decide +kernel
theorem dX12_workOut_15 : decode cX12_workOut 15 = .ok (.aload_n 0, 1) := by decide +kernel
theorem dX12_workOut_16 : decode cX12_workOut 16 = .ok (.iconst 0, 1) := by decide +kernel
theorem dX12_workOut_17 : decode cX12_workOut 17 = .ok (.putfield 682, 3) := by decide +kernel
theorem dX12_workOut_20 : decode cX12_workOut 20 = .ok (.aload_n 0, 1) := by decide +kernel
theorem dX12_workOut_21 : decode cX12_workOut 21 = .ok (.lload_n 1, 1) := by decide +kernel
theorem dX12_workOut_22 : decode cX12_workOut 22 = .ok (.invokevirtual 700, 3) := by decide +kernel
theorem dX12_workOut_25 : decode cX12_workOut 25 = .ok (.aload_n 0, 1) := by decide +kernel
theorem dX12_workOut_26 : decode cX12_workOut 26 = .ok (.getfield 605, 3) := by decide +kernel
theorem dX12_workOut_29 : decode cX12_workOut 29 = .ok (.ifCond .ne 38, 3) := by decide +kernel
theorem dX12_workOut_32 : decode cX12_workOut 32 = .ok (.aload_n 0, 1) := by decide +kernel
theorem dX12_workOut_33 : decode cX12_workOut 33 = .ok (.getfield 620, 3) := by decide +kernel
theorem dX12_workOut_36 : decode cX12_workOut 36 = .ok (.ifCond .eq 10, 3) := by decide +kernel
theorem dX12_workOut_39 : decode cX12_workOut 39 = .ok (.aload_n 0, 1) := by decide +kernel
theorem dX12_workOut_40 : decode cX12_workOut 40 = .ok (.getfield 611, 3) := by decide +kernel
theorem dX12_workOut_43 : decode cX12_workOut 43 = .ok (.ifCond .le 24, 3) := by decide +kernel
theorem dX12_workOut_46 : decode cX12_workOut 46 = .ok (.aload_n 0, 1) := by decide +kernel
theorem dX12_workOut_47 : decode cX12_workOut 47 = .ok (.getfield 620, 3) := by decide +kernel
theorem dX12_workOut_50 : decode cX12_workOut 50 = .ok (.ifCond .eq 10, 3) := by decide +kernel
theorem dX12_workOut_53 : decode cX12_workOut 53 = .ok (.aload_n 0, 1) := by decide +kernel
theorem dX12_workOut_54 : decode cX12_workOut 54 = .ok (.invokevirtual 754, 3) := by decide +kernel
theorem dX12_workOut_57 : decode cX12_workOut 57 = .ok (.goto (-32), 3) := by decide +kernel
theorem dX12_workOut_60 : decode cX12_workOut 60 = .ok (.aload_n 0, 1) := by decide +kernel
theorem dX12_workOut_61 : decode cX12_workOut 61 = .ok (.invokevirtual 757, 3) := by decide +kernel
theorem dX12_workOut_64 : decode cX12_workOut 64 = .ok (.goto (-39), 3) := by decide +kernel
theorem dX12_workOut_67 : decode cX12_workOut 67 = .ok (.return_, 1) := by decide +kernel
theorem cw_X12_apply : CWV yX12_apply cX12_apply 10 none RX12 2 := ⟨mG_2878, mG_2877, mG_196, mG_226, by decide +kernel⟩
theorem cw_X12_choose : CWV yX12_choose cX12_choose 9 none RX12 2 := ⟨mG_2839, mG_2838, mG_187, mG_226, by decide +kernel⟩
theorem cw_X12_digits : CWV yX12_digits cX12_digits 4 none RX12 1 := ⟨mG_2930, mG_2929, mG_204, mG_226, by decide +kernel⟩
theorem cw_X12_force : CWV yX12_force cX12_force 5 none RX12 1 := ⟨mG_2894, mG_2893, mG_200, mG_226, by decide +kernel⟩
theorem cw_X12_goOn : CWV yX12_goOn cX12_goOn 6 none RX12 0 := ⟨mG_2826, mG_2825, mG_184, mG_226, by decide +kernel⟩
theorem cw_X12_letters : CWV yX12_letters cX12_letters 2 none RX12 1 := ⟨mG_2926, mG_2925, mG_203, mG_226, by decide +kernel⟩
theorem cw_X12_putRow : CWV yX12_putRow cX12_putRow 4 (some .boolean) RX12 3 := ⟨mG_2898, mG_2897, mG_201, mG_226, by decide +kernel⟩
theorem cw_X12_reckon : CWV yX12_reckon cX12_reckon 8 none RX12 3 := ⟨mG_2835, mG_2834, mG_186, mG_226, by decide +kernel⟩
theorem cw_X12_signs : CWV yX12_signs cX12_signs 5 none RX12 1 := ⟨mG_2922, mG_2921, mG_202, mG_226, by decide +kernel⟩
theorem cw_X12_variable : CWV yX12_variable cX12_variable 2 none RX12 1 := ⟨mG_2938, mG_2937, mG_206, mG_226, by decide +kernel⟩
theorem cw_X12_workOut : CWV yX12_workOut cX12_workOut 3 none RX12 1 := ⟨mG_2796, mG_2795, mG_178, mG_226, by decide +kernel⟩
theorem cw_X12_workPart : CWV yX12_workPart cX12_workPart 2 none RX12 0 := ⟨mG_2882, mG_2881, mG_197, mG_226, by decide +kernel⟩
section MX12_goOn
variable {p : Program} {l : Launch} {e : Env} {R : Room} {s : State} {m : MethodId} {args : Array Value} {below : List Frame} {meth : Method} {c : Code} {dC : Nat → ClassId} {dI : Nat → Nat → Nat} {Z : ZZ} {A : Nat → Prop} {ad : Nat → Nat} {kc : Nat → ClassId} {r : Unit} {τ : S5}
set_option maxHeartbeats 4000000 in
set_option maxRecDepth 100000 in
theorem w_X12_goOn {σ : S5}  {H : Heap} {locs : List Loc} {ls : Array Slot} (S : CallFix p m c cX12_goOn 6 s args uG RX12) (hr : meth.sig.returnType = none) (hk : meth.locks = false) (hR : 6 ≤ R.frames ∧ 144 ≤ R.locals)
    (X : gX (dC, dI) (tM kc) (wM ad kc) Z A s σ H locs) (hl : lv_has ls 6 [(0, .ref (ad 0))]) (hg : f_X12_goOn  σ = some (r, τ)) : W p l e R s m args below meth c H locs 0 0 (MQ below (gQv (dC, dI) (tM kc) (wM ad kc) A r τ) args s 0 0 A) (F0 m 0 ls []) := by
  have hx := S.1
  have hb := S.2.1
  have hown := S.2.2.2.1
  have hu := S.2.2.2.2
  unfold f_X12_goOn at hg
  refine lv_aload_n hx hb dX12_goOn_0 rfl (lv_at hl 0 rfl) ?_
  refine lv_dup hx hb dX12_goOn_1 rfl ?_
  refine wmgI_48 (v := (gI σ 48)) S X mG_2166 rfl dX12_goOn_2 ?_
  refine lv_iconst (v := 1) hx hb dX12_goOn_5 (by decide) ?_
  refine lv_isub hx hb dX12_goOn_6 ?_
  refine wmpI_48 S X mG_2166 dX12_goOn_7 (fun H locs X => ?_)
  refine lv_aload_n hx hb dX12_goOn_10 rfl (lv_at hl 0 rfl) ?_
  refine wmgR_0_117 S X mG_2167 dX12_goOn_11 ?_
  refine lv_aload_n hx hb dX12_goOn_14 rfl (lv_at hl 0 rfl) ?_
  refine wmgI_48 (v := ((gI σ 48) - 1)) S X mG_2166 rfl dX12_goOn_15 ?_
  obtain ⟨hi18, hg⟩ := gd_some hg
  refine wmlA_59 (v := (xA σ 59 ((gI σ 48) - 1))) S X hi18 rfl dX12_goOn_18 ?_
  refine lv_bipush (v := 16) hx hb dX12_goOn_19 (by decide) ?_
  refine lv_ishr hx hb dX12_goOn_21 ?_
  refine lv_istore_n (lv' := [(1, .int ((xA σ 59 ((gI σ 48) - 1)) >>> ((16 : Int32) &&& 31))), (0, .ref (ad 0))]) hx hb dX12_goOn_22 rfl hl (by decide) rfl (fun ls hl => ?_)
  refine lv_aload_n hx hb dX12_goOn_23 rfl (lv_at hl 1 rfl) ?_
  refine wmgR_0_117 S X mG_2167 dX12_goOn_24 ?_
  refine lv_aload_n hx hb dX12_goOn_27 rfl (lv_at hl 1 rfl) ?_
  refine wmgI_48 (v := ((gI σ 48) - 1)) S X mG_2166 rfl dX12_goOn_28 ?_
  obtain ⟨hi31, hg⟩ := gd_some hg
  refine wmlA_59 (v := (xA σ 59 ((gI σ 48) - 1))) S X hi31 rfl dX12_goOn_31 ?_
  refine lv_ldcw (own := RX12) (v := 65535) hx hb hown (hu _ mG_2827) dX12_goOn_32 ?_
  refine lv_iand hx hb dX12_goOn_35 ?_
  refine lv_istore_n (lv' := [(2, .int ((xA σ 59 ((gI σ 48) - 1)) &&& 65535)), (1, .int ((xA σ 59 ((gI σ 48) - 1)) >>> ((16 : Int32) &&& 31))), (0, .ref (ad 0))]) hx hb dX12_goOn_36 rfl hl (by decide) rfl (fun ls hl => ?_)
  refine lv_aload_n hx hb dX12_goOn_37 rfl (lv_at hl 2 rfl) ?_
  refine wmgR_0_119 S X mG_2169 dX12_goOn_38 ?_
  refine lv_aload_n hx hb dX12_goOn_41 rfl (lv_at hl 2 rfl) ?_
  refine wmgI_48 (v := ((gI σ 48) - 1)) S X mG_2166 rfl dX12_goOn_42 ?_
  obtain ⟨hi45, hg⟩ := gd_some hg
  refine wmlA_61 (v := (xA σ 61 ((gI σ 48) - 1))) S X hi45 rfl dX12_goOn_45 ?_
  refine lv_istore_n (lv' := [(3, .int (xA σ 61 ((gI σ 48) - 1))), (2, .int ((xA σ 59 ((gI σ 48) - 1)) &&& 65535)), (1, .int ((xA σ 59 ((gI σ 48) - 1)) >>> ((16 : Int32) &&& 31))), (0, .ref (ad 0))]) hx hb dX12_goOn_46 rfl hl (by decide) rfl (fun ls hl => ?_)
  refine lv_aload_n hx hb dX12_goOn_47 rfl (lv_at hl 3 rfl) ?_
  refine wmgJ_1 (v := (gJ σ 1)) S X mG_2177 rfl dX12_goOn_48 ?_
  refine lv_lstore (lv' := [(4, .long (gJ σ 1)), (3, .int (xA σ 61 ((gI σ 48) - 1))), (2, .int ((xA σ 59 ((gI σ 48) - 1)) &&& 65535)), (1, .int ((xA σ 59 ((gI σ 48) - 1)) >>> ((16 : Int32) &&& 31))), (0, .ref (ad 0))]) hx hb dX12_goOn_51 hl (by decide) rfl (fun ls hl => ?_)
  refine lv_iload_n hx hb dX12_goOn_53 rfl (lv_at hl 3 rfl) ?_
  rcases sw_0_6 (((xA σ 59 ((gI σ 48) - 1)) >>> ((16 : Int32) &&& 31))) with hsw | hsw | hsw | hsw | hsw | hsw | hsw | hsw
  · refine lv_tableOut (tgt := 263) hx hb dX12_goOn_54 hsw (by decide) ?_
    obtain ⟨hs0, hs1, hs2, hs3, hs4, hs5, hs6⟩ := swo_0_6 hsw
    have hg := (if_neg hs0).symm.trans hg
    have hg := (if_neg hs1).symm.trans hg
    have hg := (if_neg hs2).symm.trans hg
    have hg := (if_neg hs3).symm.trans hg
    have hg := (if_neg hs4).symm.trans hg
    have hg := (if_neg hs5).symm.trans hg
    have hg := (if_neg hs6).symm.trans hg
    refine lv_aload_n hx hb dX12_goOn_263 rfl (lv_at hl 4 rfl) ?_
    refine lv_lload hx hb dX12_goOn_264 (lv_at hl 0 rfl) ?_
    refine lv_iload_n hx hb dX12_goOn_266 rfl (lv_at hl 1 rfl) ?_
    obtain ⟨r267, τ267, hq267, hg⟩ := bd_some hg
    refine gc_Vv (As := [.long (gJ σ 1), .int (xA σ 61 ((gI σ 48) - 1))]) (rest := []) (q0 := 0) (ci := 15) S X (k2_X12_apply l dC dI ad kc hq267 H.size) cw_X12_apply mG_2875 rfl rfl rfl rfl rfl hl.1 (Nat.le_of_ble_eq_true rfl) dX12_goOn_267 ⟨by omega, by omega⟩ (fun H locs X => ?_)
    obtain ⟨-, rfl⟩ := fin_some hg
    exact gr_v S hr hk X dX12_goOn_270
  · refine lv_tableIn (off := 42) (tgt := 96) hx hb dX12_goOn_54 (by rw [hsw]; decide) (by rw [hsw]; decide) (by rw [hsw]; decide) (by decide) ?_
    have hg := (if_pos hsw).symm.trans hg
    refine lv_aload_n hx hb dX12_goOn_96 rfl (lv_at hl 4 rfl) ?_
    refine wmgR_0_92 S X mG_2142 dX12_goOn_97 ?_
    refine lv_iload_n hx hb dX12_goOn_100 rfl (lv_at hl 1 rfl) ?_
    refine lv_iconst (v := 4) hx hb dX12_goOn_101 (by decide) ?_
    obtain ⟨hi102, hg⟩ := gd_some hg
    refine wmsA_53 S X hi102 dX12_goOn_102 (fun H locs X => ?_)
    refine lv_aload_n hx hb dX12_goOn_103 rfl (lv_at hl 4 rfl) ?_
    refine wmgR_0_94 S X mG_2144 dX12_goOn_104 ?_
    refine lv_iload_n hx hb dX12_goOn_107 rfl (lv_at hl 1 rfl) ?_
    refine lv_lload hx hb dX12_goOn_108 (lv_at hl 0 rfl) ?_
    obtain ⟨hi110, hg⟩ := gd_some hg
    refine wmsB_6 S X hi110 dX12_goOn_110 (fun H locs X => ?_)
    refine lv_aload_n hx hb dX12_goOn_111 rfl (lv_at hl 4 rfl) ?_
    refine lv_dup hx hb dX12_goOn_112 rfl ?_
    refine wmgI_42 (v := (gI σ 42)) S X mG_2158 rfl dX12_goOn_113 ?_
    refine lv_iconst (v := 1) hx hb dX12_goOn_116 (by decide) ?_
    refine lv_iadd hx hb dX12_goOn_117 ?_
    refine wmpI_42 S X mG_2158 dX12_goOn_118 (fun H locs X => ?_)
    refine lv_goto (tgt := 270) hx hb dX12_goOn_121 (by decide) ?_
    obtain ⟨-, rfl⟩ := fin_some hg
    exact gr_v S hr hk X dX12_goOn_270
  · refine lv_tableIn (off := 70) (tgt := 124) hx hb dX12_goOn_54 (by rw [hsw]; decide) (by rw [hsw]; decide) (by rw [hsw]; decide) (by decide) ?_
    have hg := (if_neg (by rw [hsw]; decide)).symm.trans hg
    have hg := (if_pos hsw).symm.trans hg
    refine lv_aload_n hx hb dX12_goOn_124 rfl (lv_at hl 4 rfl) ?_
    refine lv_aload_n hx hb dX12_goOn_125 rfl (lv_at hl 4 rfl) ?_
    refine wmgR_0_118 S X mG_2168 dX12_goOn_126 ?_
    refine lv_aload_n hx hb dX12_goOn_129 rfl (lv_at hl 4 rfl) ?_
    refine wmgI_48 (v := ((gI σ 48) - 1)) S X mG_2166 rfl dX12_goOn_130 ?_
    obtain ⟨hi133, hg⟩ := gd_some hg
    refine wmlA_60 (v := (xA σ 60 ((gI σ 48) - 1))) S X hi133 rfl dX12_goOn_133 ?_
    refine wmpI_50 S X mG_2172 dX12_goOn_134 (fun H locs X => ?_)
    refine lv_aload_n hx hb dX12_goOn_137 rfl (lv_at hl 4 rfl) ?_
    refine lv_iload_n hx hb dX12_goOn_138 rfl (lv_at hl 1 rfl) ?_
    refine wmpI_51 S X mG_2173 dX12_goOn_139 (fun H locs X => ?_)
    refine lv_goto (tgt := 270) hx hb dX12_goOn_142 (by decide) ?_
    obtain ⟨-, rfl⟩ := fin_some hg
    exact gr_v S hr hk X dX12_goOn_270
  · refine lv_tableIn (off := 91) (tgt := 145) hx hb dX12_goOn_54 (by rw [hsw]; decide) (by rw [hsw]; decide) (by rw [hsw]; decide) (by decide) ?_
    have hg := (if_neg (by rw [hsw]; decide)).symm.trans hg
    have hg := (if_neg (by rw [hsw]; decide)).symm.trans hg
    have hg := (if_pos hsw).symm.trans hg
    refine lv_aload_n hx hb dX12_goOn_145 rfl (lv_at hl 4 rfl) ?_
    refine lv_lload hx hb dX12_goOn_146 (lv_at hl 0 rfl) ?_
    obtain ⟨r148, τ148, hq148, hg⟩ := bd_some hg
    refine gc_Vv (As := [.long (gJ σ 1)]) (rest := []) (q0 := 0) (ci := 15) S X (k2_X12_push l dC dI ad kc hq148 H.size) cw_X12_push mG_2828 rfl rfl rfl rfl rfl hl.1 (Nat.le_of_ble_eq_true rfl) dX12_goOn_148 ⟨by omega, by omega⟩ (fun H locs X => ?_)
    refine lv_aload_n hx hb dX12_goOn_151 rfl (lv_at hl 4 rfl) ?_
    refine lv_iconst (v := 3) hx hb dX12_goOn_152 (by decide) ?_
    refine lv_iload_n hx hb dX12_goOn_153 rfl (lv_at hl 2 rfl) ?_
    refine lv_iconst (v := 0) hx hb dX12_goOn_154 (by decide) ?_
    obtain ⟨r155, τ155, hq155, hg⟩ := bd_some hg
    refine gc_Vv (As := [.int 3, .int ((xA σ 59 ((gI σ 48) - 1)) &&& 65535), .int 0]) (rest := []) (q0 := 0) (ci := 15) S X (k2_X12_waits l dC dI ad kc hq155 H.size) cw_X12_waits mG_2811 rfl rfl rfl rfl rfl hl.1 (Nat.le_of_ble_eq_true rfl) dX12_goOn_155 ⟨by omega, by omega⟩ (fun H locs X => ?_)
    refine lv_aload_n hx hb dX12_goOn_158 rfl (lv_at hl 4 rfl) ?_
    refine lv_aload_n hx hb dX12_goOn_159 rfl (lv_at hl 4 rfl) ?_
    refine lv_iload_n hx hb dX12_goOn_160 rfl (lv_at hl 2 rfl) ?_
    refine lv_iconst (v := 1) hx hb dX12_goOn_161 (by decide) ?_
    obtain ⟨r162, τ162, hq162, hg⟩ := bd_some hg
    refine gc_Vi (As := [.int ((xA σ 59 ((gI σ 48) - 1)) &&& 65535), .int 1]) (rest := [.ref (ad 0)]) (q0 := 0) (ci := 15) S X (k2_X12_child l dC dI ad kc hq162 H.size) cw_X12_child mG_2736 rfl rfl rfl rfl rfl hl.1 (Nat.le_of_ble_eq_true rfl) dX12_goOn_162 ⟨by omega, by omega⟩ (fun H locs X => ?_)
    obtain ⟨r165, τ165, hq165, hg⟩ := bd_some hg
    refine gc_Vv (As := [.int r162]) (rest := []) (q0 := 0) (ci := 15) S X (k2_X12_evaluate l dC dI ad kc hq165 H.size) cw_X12_evaluate mG_2819 rfl rfl rfl rfl rfl hl.1 (Nat.le_of_ble_eq_true rfl) dX12_goOn_165 ⟨by omega, by omega⟩ (fun H locs X => ?_)
    refine lv_goto (tgt := 270) hx hb dX12_goOn_168 (by decide) ?_
    obtain ⟨-, rfl⟩ := fin_some hg
    exact gr_v S hr hk X dX12_goOn_270
  · refine lv_tableIn (off := 117) (tgt := 171) hx hb dX12_goOn_54 (by rw [hsw]; decide) (by rw [hsw]; decide) (by rw [hsw]; decide) (by decide) ?_
    have hg := (if_neg (by rw [hsw]; decide)).symm.trans hg
    have hg := (if_neg (by rw [hsw]; decide)).symm.trans hg
    have hg := (if_neg (by rw [hsw]; decide)).symm.trans hg
    have hg := (if_pos hsw).symm.trans hg
    refine lv_aload_n hx hb dX12_goOn_171 rfl (lv_at hl 4 rfl) ?_
    refine lv_dup hx hb dX12_goOn_172 rfl ?_
    refine wmgI_49 (v := (gI σ 49)) S X mG_2170 rfl dX12_goOn_173 ?_
    refine lv_iconst (v := 1) hx hb dX12_goOn_176 (by decide) ?_
    refine lv_isub hx hb dX12_goOn_177 ?_
    refine wmpI_49 S X mG_2170 dX12_goOn_178 (fun H locs X => ?_)
    refine lv_aload_n hx hb dX12_goOn_181 rfl (lv_at hl 4 rfl) ?_
    refine lv_aload_n hx hb dX12_goOn_182 rfl (lv_at hl 4 rfl) ?_
    refine wmgR_0_65 S X mG_2115 dX12_goOn_183 ?_
    refine lv_iload_n hx hb dX12_goOn_186 rfl (lv_at hl 2 rfl) ?_
    obtain ⟨hi187, hg⟩ := gd_some hg
    refine wmlA_32 (v := (xA σ 32 ((xA σ 59 ((gI σ 48) - 1)) &&& 65535))) S X hi187 rfl dX12_goOn_187 ?_
    refine lv_aload_n hx hb dX12_goOn_188 rfl (lv_at hl 4 rfl) ?_
    refine wmgR_0_121 S X mG_2171 dX12_goOn_189 ?_
    refine lv_aload_n hx hb dX12_goOn_192 rfl (lv_at hl 4 rfl) ?_
    refine wmgI_49 (v := ((gI σ 49) - 1)) S X mG_2170 rfl dX12_goOn_193 ?_
    obtain ⟨hi196, hg⟩ := gd_some hg
    refine wmlB_8 (v := (xB σ 8 ((gI σ 49) - 1))) S X hi196 rfl dX12_goOn_196 ?_
    refine lv_lload hx hb dX12_goOn_197 (lv_at hl 0 rfl) ?_
    obtain ⟨r199, τ199, hq199, hg⟩ := bd_some hg
    refine gc_Vv (As := [.int (xA σ 32 ((xA σ 59 ((gI σ 48) - 1)) &&& 65535)), .long (xB σ 8 ((gI σ 49) - 1)), .long (gJ σ 1)]) (rest := []) (q0 := 0) (ci := 15) S X (k2_X12_reckon l dC dI ad kc hq199 H.size) cw_X12_reckon mG_2832 rfl rfl rfl rfl rfl hl.1 (Nat.le_of_ble_eq_true rfl) dX12_goOn_199 ⟨by omega, by omega⟩ (fun H locs X => ?_)
    refine lv_goto (tgt := 270) hx hb dX12_goOn_202 (by decide) ?_
    obtain ⟨-, rfl⟩ := fin_some hg
    exact gr_v S hr hk X dX12_goOn_270
  · refine lv_tableIn (off := 151) (tgt := 205) hx hb dX12_goOn_54 (by rw [hsw]; decide) (by rw [hsw]; decide) (by rw [hsw]; decide) (by decide) ?_
    have hg := (if_neg (by rw [hsw]; decide)).symm.trans hg
    have hg := (if_neg (by rw [hsw]; decide)).symm.trans hg
    have hg := (if_neg (by rw [hsw]; decide)).symm.trans hg
    have hg := (if_neg (by rw [hsw]; decide)).symm.trans hg
    have hg := (if_pos hsw).symm.trans hg
    refine lv_aload_n hx hb dX12_goOn_205 rfl (lv_at hl 4 rfl) ?_
    refine lv_iload_n hx hb dX12_goOn_206 rfl (lv_at hl 2 rfl) ?_
    refine lv_lload hx hb dX12_goOn_207 (lv_at hl 0 rfl) ?_
    obtain ⟨r209, τ209, hq209, hg⟩ := bd_some hg
    refine gc_Vv (As := [.int ((xA σ 59 ((gI σ 48) - 1)) &&& 65535), .long (gJ σ 1)]) (rest := []) (q0 := 0) (ci := 15) S X (k2_X12_choose l dC dI ad kc hq209 H.size) cw_X12_choose mG_2836 rfl rfl rfl rfl rfl hl.1 (Nat.le_of_ble_eq_true rfl) dX12_goOn_209 ⟨by omega, by omega⟩ (fun H locs X => ?_)
    refine lv_goto (tgt := 270) hx hb dX12_goOn_212 (by decide) ?_
    obtain ⟨-, rfl⟩ := fin_some hg
    exact gr_v S hr hk X dX12_goOn_270
  · refine lv_tableIn (off := 161) (tgt := 215) hx hb dX12_goOn_54 (by rw [hsw]; decide) (by rw [hsw]; decide) (by rw [hsw]; decide) (by decide) ?_
    have hg := (if_neg (by rw [hsw]; decide)).symm.trans hg
    have hg := (if_neg (by rw [hsw]; decide)).symm.trans hg
    have hg := (if_neg (by rw [hsw]; decide)).symm.trans hg
    have hg := (if_neg (by rw [hsw]; decide)).symm.trans hg
    have hg := (if_neg (by rw [hsw]; decide)).symm.trans hg
    have hg := (if_pos hsw).symm.trans hg
    refine lv_aload_n hx hb dX12_goOn_215 rfl (lv_at hl 4 rfl) ?_
    refine wmgR_0_124 S X mG_2174 dX12_goOn_216 ?_
    refine lv_aload_n hx hb dX12_goOn_219 rfl (lv_at hl 4 rfl) ?_
    refine wmgI_50 (v := (gI σ 50)) S X mG_2172 rfl dX12_goOn_220 ?_
    refine lv_aload_n hx hb dX12_goOn_223 rfl (lv_at hl 4 rfl) ?_
    refine wmgR_0_68 S X mG_2118 dX12_goOn_224 ?_
    refine lv_iload_n hx hb dX12_goOn_227 rfl (lv_at hl 2 rfl) ?_
    obtain ⟨hi228, hg⟩ := gd_some hg
    refine wmlA_35 (v := (xA σ 35 ((xA σ 59 ((gI σ 48) - 1)) &&& 65535))) S X hi228 rfl dX12_goOn_228 ?_
    refine lv_iadd hx hb dX12_goOn_229 ?_
    refine lv_lload hx hb dX12_goOn_230 (lv_at hl 0 rfl) ?_
    obtain ⟨hi232, hg⟩ := gd_some hg
    refine wmsB_9 S X hi232 dX12_goOn_232 (fun H locs X => ?_)
    refine lv_aload_n hx hb dX12_goOn_233 rfl (lv_at hl 4 rfl) ?_
    refine lv_aload_n hx hb dX12_goOn_234 rfl (lv_at hl 4 rfl) ?_
    refine lv_iload_n hx hb dX12_goOn_235 rfl (lv_at hl 2 rfl) ?_
    refine lv_iconst (v := 1) hx hb dX12_goOn_236 (by decide) ?_
    obtain ⟨r237, τ237, hq237, hg⟩ := bd_some hg
    refine gc_Vi (As := [.int ((xA σ 59 ((gI σ 48) - 1)) &&& 65535), .int 1]) (rest := [.ref (ad 0)]) (q0 := 0) (ci := 15) S X (k2_X12_child l dC dI ad kc hq237 H.size) cw_X12_child mG_2736 rfl rfl rfl rfl rfl hl.1 (Nat.le_of_ble_eq_true rfl) dX12_goOn_237 ⟨by omega, by omega⟩ (fun H locs X => ?_)
    obtain ⟨r240, τ240, hq240, hg⟩ := bd_some hg
    refine gc_Vv (As := [.int r237]) (rest := []) (q0 := 0) (ci := 15) S X (k2_X12_evaluate l dC dI ad kc hq240 H.size) cw_X12_evaluate mG_2819 rfl rfl rfl rfl rfl hl.1 (Nat.le_of_ble_eq_true rfl) dX12_goOn_240 ⟨by omega, by omega⟩ (fun H locs X => ?_)
    refine lv_goto (tgt := 270) hx hb dX12_goOn_243 (by decide) ?_
    obtain ⟨-, rfl⟩ := fin_some hg
    exact gr_v S hr hk X dX12_goOn_270
  · refine lv_tableIn (off := 192) (tgt := 246) hx hb dX12_goOn_54 (by rw [hsw]; decide) (by rw [hsw]; decide) (by rw [hsw]; decide) (by decide) ?_
    have hg := (if_neg (by rw [hsw]; decide)).symm.trans hg
    have hg := (if_neg (by rw [hsw]; decide)).symm.trans hg
    have hg := (if_neg (by rw [hsw]; decide)).symm.trans hg
    have hg := (if_neg (by rw [hsw]; decide)).symm.trans hg
    have hg := (if_neg (by rw [hsw]; decide)).symm.trans hg
    have hg := (if_neg (by rw [hsw]; decide)).symm.trans hg
    have hg := (if_pos hsw).symm.trans hg
    refine lv_aload_n hx hb dX12_goOn_246 rfl (lv_at hl 4 rfl) ?_
    refine lv_lload hx hb dX12_goOn_247 (lv_at hl 0 rfl) ?_
    obtain ⟨r249, τ249, hq249, hg⟩ := bd_some hg
    refine gc_Vv (As := [.long (gJ σ 1)]) (rest := []) (q0 := 0) (ci := 15) S X (k2_X12_push l dC dI ad kc hq249 H.size) cw_X12_push mG_2828 rfl rfl rfl rfl rfl hl.1 (Nat.le_of_ble_eq_true rfl) dX12_goOn_249 ⟨by omega, by omega⟩ (fun H locs X => ?_)
    refine lv_aload_n hx hb dX12_goOn_252 rfl (lv_at hl 4 rfl) ?_
    refine lv_iload_n hx hb dX12_goOn_253 rfl (lv_at hl 2 rfl) ?_
    refine lv_iload_n hx hb dX12_goOn_254 rfl (lv_at hl 1 rfl) ?_
    refine lv_iconst (v := 1) hx hb dX12_goOn_255 (by decide) ?_
    refine lv_iadd hx hb dX12_goOn_256 ?_
    obtain ⟨r257, τ257, hq257, hg⟩ := bd_some hg
    refine gc_Vv (As := [.int ((xA σ 59 ((gI σ 48) - 1)) &&& 65535), .int ((xA σ 61 ((gI σ 48) - 1)) + 1)]) (rest := []) (q0 := 0) (ci := 15) S X (k2_X12_arguments l dC dI ad kc hq257 H.size) cw_X12_arguments mG_2840 rfl rfl rfl rfl rfl hl.1 (Nat.le_of_ble_eq_true rfl) dX12_goOn_257 ⟨by omega, by omega⟩ (fun H locs X => ?_)
    refine lv_goto (tgt := 270) hx hb dX12_goOn_260 (by decide) ?_
    obtain ⟨-, rfl⟩ := fin_some hg
    exact gr_v S hr hk X dX12_goOn_270
end MX12_goOn
set_option maxRecDepth 100000 in
theorem k2_X12_goOn (l : Launch) (dC : Nat → ClassId) (dI : Nat → Nat → Nat) {Z : ZZ} (ad : Nat → Nat) (kc : Nat → ClassId) {σ τ : S5}  {r : Unit} (hg : f_X12_goOn  σ = some (r, τ)) (sz : Nat) : Met l yX12_goOn (Cond.code yX12_goOn cX12_goOn 6 none :: uG) { frames := 6, cells := 0, slots := 0, locals := 144 } (gPc (dC, dI) (tM kc) (wM ad kc) Z [.ref (ad 0)] σ sz) (gQv (dC, dI) (tM kc) (wM ad kc) (va_A (wM ad kc σ) sz) r τ) 0 0 (va_A (wM ad kc σ) sz) :=
  g_start (by decide) (Nat.le_of_ble_eq_true rfl) (fun p e s m below meth c ls S hr hk X hl => w_X12_goOn S hr hk ⟨Nat.le_refl _, Nat.le_refl _⟩ X hl hg)
section MX12_workOut
variable {p : Program} {l : Launch} {e : Env} {R : Room} {s : State} {m : MethodId} {args : Array Value} {below : List Frame} {meth : Method} {c : Code} {dC : Nat → ClassId} {dI : Nat → Nat → Nat} {Z : ZZ} {A : Nat → Prop} {ad : Nat → Nat} {kc : Nat → ClassId} {r : Unit} {τ : S5}
set_option maxHeartbeats 4000000 in
set_option maxRecDepth 100000 in
theorem w_X12_workOut_b46 {σ : S5} {rec25 : S5 → Option (Unit × S5)}  {H : Heap} {locs : List Loc} {ls : Array Slot} (S : CallFix p m c cX12_workOut 3 s args uG RX12) (hr : meth.sig.returnType = none) (hk : meth.locks = false) (hR : 8 ≤ R.frames ∧ 190 ≤ R.locals)
    (hrec25 : ∀ (σ : S5) (H : Heap) (locs : List Loc) (ls : Array Slot), gX (dC, dI) (tM kc) (wM ad kc) Z A s σ H locs → lv_has ls 3 [(0, .ref (ad 0))] → rec25 σ = some (r, τ) → W p l e R s m args below meth c H locs 0 0 (MQ below (gQv (dC, dI) (tM kc) (wM ad kc) A r τ) args s 0 0 A) (F0 m 25 ls []))
    (X : gX (dC, dI) (tM kc) (wM ad kc) Z A s σ H locs) (hl : lv_has ls 3 [(0, .ref (ad 0))]) (hg : f_X12_workOut_b46 rec25 σ = some (r, τ)) : W p l e R s m args below meth c H locs 0 0 (MQ below (gQv (dC, dI) (tM kc) (wM ad kc) A r τ) args s 0 0 A) (F0 m 46 ls []) := by
  have hx := S.1
  have hb := S.2.1
  have hown := S.2.2.2.1
  have hu := S.2.2.2.2
  unfold f_X12_workOut_b46 at hg
  refine lv_aload_n hx hb dX12_workOut_46 rfl (lv_at hl 0 rfl) ?_
  refine wmgI_53 (v := (gI σ 53)) S X mG_2176 rfl dX12_workOut_47 ?_
  refine lv_if_eq (tgt := 60) hx hb dX12_workOut_50 (by decide) (fun c50 => ?_) (fun c50 => ?_)
  · have hg := (if_pos c50).symm.trans hg
    refine lv_aload_n hx hb dX12_workOut_60 rfl (lv_at hl 0 rfl) ?_
    obtain ⟨r61, τ61, hq61, hg⟩ := bd_some hg
    refine gc_Vv (As := []) (rest := []) (q0 := 0) (ci := 15) S X (k2_X12_workPart l dC dI ad kc hq61 H.size) cw_X12_workPart mG_2879 rfl rfl rfl rfl rfl hl.1 (Nat.le_of_ble_eq_true rfl) dX12_workOut_61 ⟨by omega, by omega⟩ (fun H locs X => ?_)
    refine lv_goto (tgt := 25) hx hb dX12_workOut_64 (by decide) ?_
    exact hrec25  _ _ _ _ X (lv_sub hl [0] rfl) hg
  · have hg := (if_neg c50).symm.trans hg
    refine lv_aload_n hx hb dX12_workOut_53 rfl (lv_at hl 0 rfl) ?_
    obtain ⟨r54, τ54, hq54, hg⟩ := bd_some hg
    refine gc_Vv (As := []) (rest := []) (q0 := 0) (ci := 15) S X (k2_X12_goOn l dC dI ad kc hq54 H.size) cw_X12_goOn mG_2823 rfl rfl rfl rfl rfl hl.1 (Nat.le_of_ble_eq_true rfl) dX12_workOut_54 ⟨by omega, by omega⟩ (fun H locs X => ?_)
    refine lv_goto (tgt := 25) hx hb dX12_workOut_57 (by decide) ?_
    exact hrec25  _ _ _ _ X (lv_sub hl [0] rfl) hg
set_option maxHeartbeats 4000000 in
set_option maxRecDepth 100000 in
theorem w_X12_workOut_B25 {σ : S5} {rec25 : S5 → Option (Unit × S5)}  {H : Heap} {locs : List Loc} {ls : Array Slot} (S : CallFix p m c cX12_workOut 3 s args uG RX12) (hr : meth.sig.returnType = none) (hk : meth.locks = false) (hR : 8 ≤ R.frames ∧ 190 ≤ R.locals)
    (hrec25 : ∀ (σ : S5) (H : Heap) (locs : List Loc) (ls : Array Slot), gX (dC, dI) (tM kc) (wM ad kc) Z A s σ H locs → lv_has ls 3 [(0, .ref (ad 0))] → rec25 σ = some (r, τ) → W p l e R s m args below meth c H locs 0 0 (MQ below (gQv (dC, dI) (tM kc) (wM ad kc) A r τ) args s 0 0 A) (F0 m 25 ls []))
    (X : gX (dC, dI) (tM kc) (wM ad kc) Z A s σ H locs) (hl : lv_has ls 3 [(0, .ref (ad 0))]) (hg : f_X12_workOut_B25 rec25 σ = some (r, τ)) : W p l e R s m args below meth c H locs 0 0 (MQ below (gQv (dC, dI) (tM kc) (wM ad kc) A r τ) args s 0 0 A) (F0 m 25 ls []) := by
  have hx := S.1
  have hb := S.2.1
  have hown := S.2.2.2.1
  have hu := S.2.2.2.2
  unfold f_X12_workOut_B25 at hg
  refine lv_aload_n hx hb dX12_workOut_25 rfl (lv_at hl 0 rfl) ?_
  refine wmgI_44 (v := (gI σ 44)) S X mG_2161 rfl dX12_workOut_26 ?_
  refine lv_if_ne (tgt := 67) hx hb dX12_workOut_29 (by decide) (fun c29 => ?_) (fun c29 => ?_)
  · have hg := (if_neg c29).symm.trans hg
    obtain ⟨-, rfl⟩ := fin_some hg
    exact gr_v S hr hk X dX12_workOut_67
  · have hg := (if_pos c29).symm.trans hg
    refine lv_aload_n hx hb dX12_workOut_32 rfl (lv_at hl 0 rfl) ?_
    refine wmgI_53 (v := (gI σ 53)) S X mG_2176 rfl dX12_workOut_33 ?_
    refine lv_if_eq (tgt := 46) hx hb dX12_workOut_36 (by decide) (fun c36 => ?_) (fun c36 => ?_)
    · have hg := (if_pos c36).symm.trans hg
      exact w_X12_workOut_b46 S hr hk hR hrec25 X (lv_sub hl [0] rfl) hg
    · have hg := (if_neg c36).symm.trans hg
      refine lv_aload_n hx hb dX12_workOut_39 rfl (lv_at hl 0 rfl) ?_
      refine wmgI_48 (v := (gI σ 48)) S X mG_2166 rfl dX12_workOut_40 ?_
      refine lv_if_le (tgt := 67) hx hb dX12_workOut_43 (by decide) (fun c43 => ?_) (fun c43 => ?_)
      · have hg := (if_pos c43).symm.trans hg
        obtain ⟨-, rfl⟩ := fin_some hg
        exact gr_v S hr hk X dX12_workOut_67
      · have hg := (if_neg c43).symm.trans hg
        exact w_X12_workOut_b46 S hr hk hR hrec25 X (lv_sub hl [0] rfl) hg
set_option maxHeartbeats 4000000 in
set_option maxRecDepth 100000 in
theorem w_X12_workOut_L25 (S : CallFix p m c cX12_workOut 3 s args uG RX12) (hr : meth.sig.returnType = none) (hk : meth.locks = false) (hR : 8 ≤ R.frames ∧ 190 ≤ R.locals) : ∀ (n : Nat) (σ : S5) (H : Heap) (locs : List Loc) (ls : Array Slot), gX (dC, dI) (tM kc) (wM ad kc) Z A s σ H locs → lv_has ls 3 [(0, .ref (ad 0))] → f_X12_workOut_L25  n σ = some (r, τ) → W p l e R s m args below meth c H locs 0 0 (MQ below (gQv (dC, dI) (tM kc) (wM ad kc) A r τ) args s 0 0 A) (F0 m 25 ls []) := by
  intro n
  induction n with
  | zero => intro σ H locs ls X hl hg; cases hg
  | succ n ih => intro σ H locs ls X hl hg; exact w_X12_workOut_B25 S hr hk hR ih X hl hg
set_option maxHeartbeats 4000000 in
set_option maxRecDepth 100000 in
theorem w_X12_workOut {σ : S5} {a1 : Int64} {H : Heap} {locs : List Loc} {ls : Array Slot} (S : CallFix p m c cX12_workOut 3 s args uG RX12) (hr : meth.sig.returnType = none) (hk : meth.locks = false) (hR : 8 ≤ R.frames ∧ 190 ≤ R.locals)
    (X : gX (dC, dI) (tM kc) (wM ad kc) Z A s σ H locs) (hl : lv_has ls 3 [(0, .ref (ad 0)), (1, .long a1)]) (hg : f_X12_workOut a1 σ = some (r, τ)) : W p l e R s m args below meth c H locs 0 0 (MQ below (gQv (dC, dI) (tM kc) (wM ad kc) A r τ) args s 0 0 A) (F0 m 0 ls []) := by
  have hx := S.1
  have hb := S.2.1
  have hown := S.2.2.2.1
  have hu := S.2.2.2.2
  unfold f_X12_workOut at hg
  refine lv_aload_n hx hb dX12_workOut_0 rfl (lv_at hl 0 rfl) ?_
  refine lv_iconst (v := 0) hx hb dX12_workOut_1 (by decide) ?_
  refine wmpI_48 S X mG_2166 dX12_workOut_2 (fun H locs X => ?_)
  refine lv_aload_n hx hb dX12_workOut_5 rfl (lv_at hl 0 rfl) ?_
  refine lv_iconst (v := 0) hx hb dX12_workOut_6 (by decide) ?_
  refine wmpI_49 S X mG_2170 dX12_workOut_7 (fun H locs X => ?_)
  refine lv_aload_n hx hb dX12_workOut_10 rfl (lv_at hl 0 rfl) ?_
  refine lv_iconst (v := 0) hx hb dX12_workOut_11 (by decide) ?_
  refine wmpI_50 S X mG_2172 dX12_workOut_12 (fun H locs X => ?_)
  refine lv_aload_n hx hb dX12_workOut_15 rfl (lv_at hl 0 rfl) ?_
  refine lv_iconst (v := 0) hx hb dX12_workOut_16 (by decide) ?_
  refine wmpI_51 S X mG_2173 dX12_workOut_17 (fun H locs X => ?_)
  refine lv_aload_n hx hb dX12_workOut_20 rfl (lv_at hl 0 rfl) ?_
  refine lv_lload_n hx hb dX12_workOut_21 rfl (lv_at hl 1 rfl) ?_
  obtain ⟨r22, τ22, hq22, hg⟩ := bd_some hg
  refine gc_Vv (As := [.long a1]) (rest := []) (q0 := 0) (ci := 15) S X (k2_X12_enter l dC dI ad kc hq22 H.size) cw_X12_enter mG_2797 rfl rfl rfl rfl rfl hl.1 (Nat.le_of_ble_eq_true rfl) dX12_workOut_22 ⟨by omega, by omega⟩ (fun H locs X => ?_)
  exact w_X12_workOut_L25 S hr hk hR _  _ _ _ _ X (lv_sub hl [0] rfl) hg
end MX12_workOut
set_option maxRecDepth 100000 in
theorem k2_X12_workOut (l : Launch) (dC : Nat → ClassId) (dI : Nat → Nat → Nat) {Z : ZZ} (ad : Nat → Nat) (kc : Nat → ClassId) {σ τ : S5} {a1 : Int64} {r : Unit} (hg : f_X12_workOut a1 σ = some (r, τ)) (sz : Nat) : Met l yX12_workOut (Cond.code yX12_workOut cX12_workOut 3 none :: uG) { frames := 8, cells := 0, slots := 0, locals := 190 } (gPc (dC, dI) (tM kc) (wM ad kc) Z [.ref (ad 0), .long a1] σ sz) (gQv (dC, dI) (tM kc) (wM ad kc) (va_A (wM ad kc σ) sz) r τ) 0 0 (va_A (wM ad kc σ) sz) :=
  g_start (by decide) (Nat.le_of_ble_eq_true rfl) (fun p e s m below meth c ls S hr hk X hl => w_X12_workOut S hr hk ⟨Nat.le_refl _, Nat.le_refl _⟩ X hl hg)
section MX12_putRow
variable {p : Program} {l : Launch} {e : Env} {R : Room} {s : State} {m : MethodId} {args : Array Value} {below : List Frame} {meth : Method} {c : Code} {dC : Nat → ClassId} {dI : Nat → Nat → Nat} {Z : ZZ} {A : Nat → Prop} {ad : Nat → Nat} {kc : Nat → ClassId} {r : Int32} {τ : S5}
set_option maxHeartbeats 4000000 in
set_option maxRecDepth 100000 in
theorem w_X12_putRow {σ : S5} {a1 : Int32} {a2 : Int32} {a3 : Int32} {H : Heap} {locs : List Loc} {ls : Array Slot} (S : CallFix p m c cX12_putRow 4 s args uG RX12) (hr : meth.sig.returnType = (some .boolean)) (hk : meth.locks = false) (hR : 1 ≤ R.frames ∧ 22 ≤ R.locals)
    (X : gX (dC, dI) (tM kc) (wM ad kc) Z A s σ H locs) (hl : lv_has ls 4 [(0, .ref (ad 0)), (1, .int a1), (2, .int a2), (3, .int a3)]) (hg : f_X12_putRow a1 a2 a3 σ = some (r, τ)) : W p l e R s m args below meth c H locs 0 0 (MQ below (gQi (dC, dI) (tM kc) (wM ad kc) A r τ) args s 0 0 A) (F0 m 0 ls []) := by
  have hx := S.1
  have hb := S.2.1
  have hown := S.2.2.2.1
  have hu := S.2.2.2.2
  unfold f_X12_putRow at hg
  refine lv_aload_n hx hb dX12_putRow_0 rfl (lv_at hl 0 rfl) ?_
  refine wmgI_46 (v := (gI σ 46)) S X mG_2163 rfl dX12_putRow_1 ?_
  refine lv_iload_n hx hb dX12_putRow_4 rfl (lv_at hl 3 rfl) ?_
  refine lv_iadd hx hb dX12_putRow_5 ?_
  refine lv_sipush (v := 1000) hx hb dX12_putRow_6 (by decide) ?_
  refine lv_icmp_le (tgt := 20) hx hb dX12_putRow_9 (by decide) (fun c9 => ?_) (fun c9 => ?_)
  · have hg := (if_pos c9).symm.trans hg
    refine lv_aload_n hx hb dX12_putRow_20 rfl (lv_at hl 0 rfl) ?_
    refine wmgR_0_114 S X mG_2164 dX12_putRow_21 ?_
    refine lv_aload_n hx hb dX12_putRow_24 rfl (lv_at hl 0 rfl) ?_
    refine wmgI_46 (v := (gI σ 46)) S X mG_2163 rfl dX12_putRow_25 ?_
    refine lv_iload_n hx hb dX12_putRow_28 rfl (lv_at hl 1 rfl) ?_
    obtain ⟨hi29, hg⟩ := gd_some hg
    refine wmsA_58 S X hi29 dX12_putRow_29 (fun H locs X => ?_)
    refine lv_aload_n hx hb dX12_putRow_30 rfl (lv_at hl 0 rfl) ?_
    refine lv_dup hx hb dX12_putRow_31 rfl ?_
    refine wmgI_46 (v := (gI σ 46)) S X mG_2163 rfl dX12_putRow_32 ?_
    refine lv_iconst (v := 1) hx hb dX12_putRow_35 (by decide) ?_
    refine lv_iadd hx hb dX12_putRow_36 ?_
    refine wmpI_46 S X mG_2163 dX12_putRow_37 (fun H locs X => ?_)
    refine lv_iload_n hx hb dX12_putRow_40 rfl (lv_at hl 3 rfl) ?_
    refine lv_iconst (v := 1) hx hb dX12_putRow_41 (by decide) ?_
    refine lv_icmp_le (tgt := 65) hx hb dX12_putRow_42 (by decide) (fun c42 => ?_) (fun c42 => ?_)
    · have hg := (if_pos c42).symm.trans hg
      refine lv_iconst (v := 1) hx hb dX12_putRow_65 (by decide) ?_
      obtain ⟨rfl, rfl⟩ := fin_some hg
      exact gr_z S hr hk X (Or.inr rfl) dX12_putRow_66
    · have hg := (if_neg c42).symm.trans hg
      refine lv_aload_n hx hb dX12_putRow_45 rfl (lv_at hl 0 rfl) ?_
      refine wmgR_0_114 S X mG_2164 dX12_putRow_46 ?_
      refine lv_aload_n hx hb dX12_putRow_49 rfl (lv_at hl 0 rfl) ?_
      refine wmgI_46 (v := ((gI σ 46) + 1)) S X mG_2163 rfl dX12_putRow_50 ?_
      refine lv_iload_n hx hb dX12_putRow_53 rfl (lv_at hl 2 rfl) ?_
      obtain ⟨hi54, hg⟩ := gd_some hg
      refine wmsA_58 S X hi54 dX12_putRow_54 (fun H locs X => ?_)
      refine lv_aload_n hx hb dX12_putRow_55 rfl (lv_at hl 0 rfl) ?_
      refine lv_dup hx hb dX12_putRow_56 rfl ?_
      refine wmgI_46 (v := ((gI σ 46) + 1)) S X mG_2163 rfl dX12_putRow_57 ?_
      refine lv_iconst (v := 1) hx hb dX12_putRow_60 (by decide) ?_
      refine lv_iadd hx hb dX12_putRow_61 ?_
      refine wmpI_46 S X mG_2163 dX12_putRow_62 (fun H locs X => ?_)
      refine lv_iconst (v := 1) hx hb dX12_putRow_65 (by decide) ?_
      obtain ⟨rfl, rfl⟩ := fin_some hg
      exact gr_z S hr hk X (Or.inr rfl) dX12_putRow_66
  · have hg := (if_neg c9).symm.trans hg
    refine lv_aload_n hx hb dX12_putRow_12 rfl (lv_at hl 0 rfl) ?_
    refine lv_iconst (v := 3) hx hb dX12_putRow_13 (by decide) ?_
    refine lv_iconst (v := 3) hx hb dX12_putRow_14 (by decide) ?_
    obtain ⟨r15, τ15, hq15, hg⟩ := bd_some hg
    refine gc_Vv (As := [.int 3, .int 3]) (rest := []) (q0 := 0) (ci := 15) S X (k2_X12_ends l dC dI ad kc hq15 H.size) cw_X12_ends mG_2785 rfl rfl rfl rfl rfl hl.1 (Nat.le_of_ble_eq_true rfl) dX12_putRow_15 ⟨by omega, by omega⟩ (fun H locs X => ?_)
    refine lv_iconst (v := 0) hx hb dX12_putRow_18 (by decide) ?_
    obtain ⟨rfl, rfl⟩ := fin_some hg
    exact gr_z S hr hk X (Or.inl rfl) dX12_putRow_19
end MX12_putRow
set_option maxRecDepth 100000 in
theorem k2_X12_putRow (l : Launch) (dC : Nat → ClassId) (dI : Nat → Nat → Nat) {Z : ZZ} (ad : Nat → Nat) (kc : Nat → ClassId) {σ τ : S5} {a1 : Int32} {a2 : Int32} {a3 : Int32} {r : Int32} (hg : f_X12_putRow a1 a2 a3 σ = some (r, τ)) (sz : Nat) : Met l yX12_putRow (Cond.code yX12_putRow cX12_putRow 4 (some .boolean) :: uG) { frames := 1, cells := 0, slots := 0, locals := 22 } (gPc (dC, dI) (tM kc) (wM ad kc) Z [.ref (ad 0), .int a1, .int a2, .int a3] σ sz) (gQi (dC, dI) (tM kc) (wM ad kc) (va_A (wM ad kc σ) sz) r τ) 0 0 (va_A (wM ad kc σ) sz) :=
  g_start (by decide) (Nat.le_of_ble_eq_true rfl) (fun p e s m below meth c ls S hr hk X hl => w_X12_putRow S hr hk ⟨Nat.le_refl _, Nat.le_refl _⟩ X hl hg)
section MX12_force
variable {p : Program} {l : Launch} {e : Env} {R : Room} {s : State} {m : MethodId} {args : Array Value} {below : List Frame} {meth : Method} {c : Code} {dC : Nat → ClassId} {dI : Nat → Nat → Nat} {Z : ZZ} {A : Nat → Prop} {ad : Nat → Nat} {kc : Nat → ClassId} {r : Unit} {τ : S5}
set_option maxHeartbeats 4000000 in
set_option maxRecDepth 100000 in
theorem w_X12_force_B115 {σ : S5} {rec115 : Int64 → Int32 → S5 → Option (Unit × S5)} {v1 : Int64} {v4 : Int32} {H : Heap} {locs : List Loc} {ls : Array Slot} (S : CallFix p m c cX12_force 5 s args uG RX12) (hr : meth.sig.returnType = none) (hk : meth.locks = false) (hR : 2 ≤ R.frames ∧ 45 ≤ R.locals)
    (hrec115 : ∀ (v1 : Int64) (v4 : Int32) (σ : S5) (H : Heap) (locs : List Loc) (ls : Array Slot), gX (dC, dI) (tM kc) (wM ad kc) Z A s σ H locs → lv_has ls 5 [(0, .ref (ad 0)), (1, .long v1), (4, .int v4)] → rec115 v1 v4 σ = some (r, τ) → W p l e R s m args below meth c H locs 0 0 (MQ below (gQv (dC, dI) (tM kc) (wM ad kc) A r τ) args s 0 0 A) (F0 m 115 ls []))
    (X : gX (dC, dI) (tM kc) (wM ad kc) Z A s σ H locs) (hl : lv_has ls 5 [(0, .ref (ad 0)), (1, .long v1), (4, .int v4)]) (hg : f_X12_force_B115 rec115 v1 v4 σ = some (r, τ)) : W p l e R s m args below meth c H locs 0 0 (MQ below (gQv (dC, dI) (tM kc) (wM ad kc) A r τ) args s 0 0 A) (F0 m 115 ls []) := by
  have hx := S.1
  have hb := S.2.1
  have hown := S.2.2.2.1
  have hu := S.2.2.2.2
  unfold f_X12_force_B115 at hg
  refine lv_iload hx hb dX12_force_115 (lv_at hl 2 rfl) ?_
  refine lv_if_lt (tgt := 162) hx hb dX12_force_117 (by decide) (fun c117 => ?_) (fun c117 => ?_)
  · have hg := (if_pos c117).symm.trans hg
    obtain ⟨-, rfl⟩ := fin_some hg
    exact gr_v S hr hk X dX12_force_162
  · have hg := (if_neg c117).symm.trans hg
    refine lv_aload_n hx hb dX12_force_120 rfl (lv_at hl 0 rfl) ?_
    refine wmgR_0_133 S X mG_2183 dX12_force_121 ?_
    refine lv_aload_n hx hb dX12_force_124 rfl (lv_at hl 0 rfl) ?_
    refine wmgI_55 (v := (gI σ 55)) S X mG_2182 rfl dX12_force_125 ?_
    refine lv_aload_n hx hb dX12_force_128 rfl (lv_at hl 0 rfl) ?_
    refine wmgR_0_99 S X mG_2149 dX12_force_129 ?_
    refine lv_aload_n hx hb dX12_force_132 rfl (lv_at hl 0 rfl) ?_
    refine wmgR_0_95 S X mG_2145 dX12_force_133 ?_
    refine lv_lload_n hx hb dX12_force_136 rfl (lv_at hl 1 rfl) ?_
    obtain ⟨r137, τ137, hq137, hg⟩ := bd_some hg
    refine gc_Si (As := [.long v1]) (rest := [.ref (ad 63), .ref (ad 65), .int (gI σ 55), .ref (ad 76)]) S X (k2_X12_of l dC dI ad kc hq137 H.size) cw_X12_of mG_2808 rfl rfl hl.1 (Nat.le_of_ble_eq_true rfl) dX12_force_137 ⟨by omega, by omega⟩ (fun H locs X => ?_)
    obtain ⟨hi140, hg⟩ := gd_some hg
    refine wmlA_55 (v := (xA τ137 55 r137)) S X hi140 rfl dX12_force_140 ?_
    refine lv_iload hx hb dX12_force_141 (lv_at hl 2 rfl) ?_
    refine lv_iadd hx hb dX12_force_143 ?_
    obtain ⟨hi144, hg⟩ := gd_some hg
    refine wmlB_7 (v := (xB τ137 7 ((xA τ137 55 r137) + v4))) S X hi144 rfl dX12_force_144 ?_
    obtain ⟨hi145, hg⟩ := gd_some hg
    refine wmsB_10 S X hi145 dX12_force_145 (fun H locs X => ?_)
    refine lv_aload_n hx hb dX12_force_146 rfl (lv_at hl 0 rfl) ?_
    refine lv_dup hx hb dX12_force_147 rfl ?_
    refine wmgI_55 (v := (gI τ137 55)) S X mG_2182 rfl dX12_force_148 ?_
    refine lv_iconst (v := 1) hx hb dX12_force_151 (by decide) ?_
    refine lv_iadd hx hb dX12_force_152 ?_
    refine wmpI_55 S X mG_2182 dX12_force_153 (fun H locs X => ?_)
    refine lv_iinc (v := (v4 + (-1))) (lv' := [(4, .int (v4 + (-1))), (0, .ref (ad 0)), (1, .long v1)]) hx hb dX12_force_156 hl (k := 2) rfl (by rfl) (by decide) rfl (fun ls hl => ?_)
    refine lv_goto (tgt := 115) hx hb dX12_force_159 (by decide) ?_
    exact hrec115 _ _ _ _ _ _ X (lv_sub hl [1, 2, 0] rfl) hg
set_option maxHeartbeats 4000000 in
set_option maxRecDepth 100000 in
theorem w_X12_force_L115 (S : CallFix p m c cX12_force 5 s args uG RX12) (hr : meth.sig.returnType = none) (hk : meth.locks = false) (hR : 2 ≤ R.frames ∧ 45 ≤ R.locals) : ∀ (n : Nat) (v1 : Int64) (v4 : Int32) (σ : S5) (H : Heap) (locs : List Loc) (ls : Array Slot), gX (dC, dI) (tM kc) (wM ad kc) Z A s σ H locs → lv_has ls 5 [(0, .ref (ad 0)), (1, .long v1), (4, .int v4)] → f_X12_force_L115  n v1 v4 σ = some (r, τ) → W p l e R s m args below meth c H locs 0 0 (MQ below (gQv (dC, dI) (tM kc) (wM ad kc) A r τ) args s 0 0 A) (F0 m 115 ls []) := by
  intro n
  induction n with
  | zero => intro v1 v4 σ H locs ls X hl hg; cases hg
  | succ n ih => intro v1 v4 σ H locs ls X hl hg; exact w_X12_force_B115 S hr hk hR ih X hl hg
set_option maxHeartbeats 4000000 in
set_option maxRecDepth 100000 in
theorem w_X12_force_b25 {σ : S5} {v1 : Int64} {u0 : Int32} {H : Heap} {locs : List Loc} {ls : Array Slot} (S : CallFix p m c cX12_force 5 s args uG RX12) (hr : meth.sig.returnType = none) (hk : meth.locks = false) (hR : 2 ≤ R.frames ∧ 45 ≤ R.locals)
    (X : gX (dC, dI) (tM kc) (wM ad kc) Z A s σ H locs) (hl : lv_has ls 5 [(0, .ref (ad 0)), (1, .long v1)]) (hg : f_X12_force_b25 v1 u0 σ = some (r, τ)) : W p l e R s m args below meth c H locs 0 0 (MQ below (gQv (dC, dI) (tM kc) (wM ad kc) A r τ) args s 0 0 A) (F0 m 25 ls [.int u0]) := by
  have hx := S.1
  have hb := S.2.1
  have hown := S.2.2.2.1
  have hu := S.2.2.2.2
  unfold f_X12_force_b25 at hg
  refine lv_istore_n (lv' := [(3, .int u0), (0, .ref (ad 0)), (1, .long v1)]) hx hb dX12_force_25 rfl hl (by decide) rfl (fun ls hl => ?_)
  refine lv_lload_n hx hb dX12_force_26 rfl (lv_at hl 2 rfl) ?_
  obtain ⟨r27, τ27, hq27, hg⟩ := bd_some hg
  refine gc_Si (As := [.long v1]) (rest := []) S X (k2_X12_kindOf l dC dI ad kc hq27 H.size) cw_X12_kindOf mG_2801 rfl rfl hl.1 (Nat.le_of_ble_eq_true rfl) dX12_force_27 ⟨by omega, by omega⟩ (fun H locs X => ?_)
  refine lv_if_ne (tgt := 47) hx hb dX12_force_30 (by decide) (fun c30 => ?_) (fun c30 => ?_)
  · have hg := (if_neg c30).symm.trans hg
    refine lv_lload_n hx hb dX12_force_47 rfl (lv_at hl 2 rfl) ?_
    obtain ⟨r48, τ48, hq48, hg⟩ := bd_some hg
    refine gc_Si (As := [.long v1]) (rest := []) S X (k2_X12_kindOf l dC dI ad kc hq48 H.size) cw_X12_kindOf mG_2801 rfl rfl hl.1 (Nat.le_of_ble_eq_true rfl) dX12_force_48 ⟨by omega, by omega⟩ (fun H locs X => ?_)
    refine lv_iconst (v := 2) hx hb dX12_force_51 (by decide) ?_
    refine lv_icmp_ne (tgt := 69) hx hb dX12_force_52 (by decide) (fun c52 => ?_) (fun c52 => ?_)
    · have hg := (if_neg c52).symm.trans hg
      refine lv_iload_n hx hb dX12_force_69 rfl (lv_at hl 0 rfl) ?_
      refine lv_if_ne (tgt := 84) hx hb dX12_force_70 (by decide) (fun c70 => ?_) (fun c70 => ?_)
      · have hg := (if_neg c70).symm.trans hg
        refine lv_aload_n hx hb dX12_force_84 rfl (lv_at hl 1 rfl) ?_
        refine lv_iconst (v := 2) hx hb dX12_force_85 (by decide) ?_
        refine lv_aload_n hx hb dX12_force_86 rfl (lv_at hl 1 rfl) ?_
        refine wmgR_0_93 S X mG_2143 dX12_force_87 ?_
        refine lv_lload_n hx hb dX12_force_90 rfl (lv_at hl 2 rfl) ?_
        obtain ⟨r91, τ91, hq91, hg⟩ := bd_some hg
        refine gc_Si (As := [.long v1]) (rest := [.ref (ad 61), .int 2, .ref (ad 0)]) S X (k2_X12_of l dC dI ad kc hq91 H.size) cw_X12_of mG_2808 rfl rfl hl.1 (Nat.le_of_ble_eq_true rfl) dX12_force_91 ⟨by omega, by omega⟩ (fun H locs X => ?_)
        obtain ⟨hi94, hg⟩ := gd_some hg
        refine wmlA_54 (v := (xA τ91 54 r91)) S X hi94 rfl dX12_force_94 ?_
        refine lv_iconst (v := 2) hx hb dX12_force_95 (by decide) ?_
        obtain ⟨r96, τ96, hq96, hg⟩ := bd_some hg
        refine gc_Vi (As := [.int 2, .int (xA τ91 54 r91), .int 2]) (rest := []) (q0 := 0) (ci := 15) S X (k2_X12_putRow l dC dI ad kc hq96 H.size) cw_X12_putRow mG_2895 rfl rfl rfl rfl rfl hl.1 (Nat.le_of_ble_eq_true rfl) dX12_force_96 ⟨by omega, by omega⟩ (fun H locs X => ?_)
        refine lv_if_eq (tgt := 162) hx hb dX12_force_99 (by decide) (fun c99 => ?_) (fun c99 => ?_)
        · have hg := (if_pos c99).symm.trans hg
          obtain ⟨-, rfl⟩ := fin_some hg
          exact gr_v S hr hk X dX12_force_162
        · have hg := (if_neg c99).symm.trans hg
          refine lv_aload_n hx hb dX12_force_102 rfl (lv_at hl 1 rfl) ?_
          refine wmgR_0_96 S X mG_2146 dX12_force_103 ?_
          refine lv_lload_n hx hb dX12_force_106 rfl (lv_at hl 2 rfl) ?_
          obtain ⟨r107, τ107, hq107, hg⟩ := bd_some hg
          refine gc_Si (As := [.long v1]) (rest := [.ref (ad 64)]) S X (k2_X12_of l dC dI ad kc hq107 H.size) cw_X12_of mG_2808 rfl rfl hl.1 (Nat.le_of_ble_eq_true rfl) dX12_force_107 ⟨by omega, by omega⟩ (fun H locs X => ?_)
          obtain ⟨hi110, hg⟩ := gd_some hg
          refine wmlA_56 (v := (xA τ107 56 r107)) S X hi110 rfl dX12_force_110 ?_
          refine lv_iconst (v := 1) hx hb dX12_force_111 (by decide) ?_
          refine lv_isub hx hb dX12_force_112 ?_
          refine lv_istore (lv' := [(4, .int ((xA τ107 56 r107) - 1)), (3, .int u0), (0, .ref (ad 0)), (1, .long v1)]) hx hb dX12_force_113 hl (by decide) rfl (fun ls hl => ?_)
          exact w_X12_force_L115 S hr hk hR _ _ _ _ _ _ _ X (lv_sub hl [2, 3, 0] rfl) hg
      · have hg := (if_pos c70).symm.trans hg
        refine lv_aload_n hx hb dX12_force_73 rfl (lv_at hl 1 rfl) ?_
        refine lv_iconst (v := 3) hx hb dX12_force_74 (by decide) ?_
        refine lv_iconst (v := 0) hx hb dX12_force_75 (by decide) ?_
        refine lv_iconst (v := 1) hx hb dX12_force_76 (by decide) ?_
        obtain ⟨r77, τ77, hq77, hg⟩ := bd_some hg
        refine gc_Vi (As := [.int 3, .int 0, .int 1]) (rest := []) (q0 := 0) (ci := 15) S X (k2_X12_putRow l dC dI ad kc hq77 H.size) cw_X12_putRow mG_2895 rfl rfl rfl rfl rfl hl.1 (Nat.le_of_ble_eq_true rfl) dX12_force_77 ⟨by omega, by omega⟩ (fun H locs X => ?_)
        refine lv_pop hx hb dX12_force_80 rfl ?_
        refine lv_goto (tgt := 162) hx hb dX12_force_81 (by decide) ?_
        obtain ⟨-, rfl⟩ := fin_some hg
        exact gr_v S hr hk X dX12_force_162
    · have hg := (if_pos c52).symm.trans hg
      refine lv_aload_n hx hb dX12_force_55 rfl (lv_at hl 1 rfl) ?_
      refine lv_iconst (v := 2) hx hb dX12_force_56 (by decide) ?_
      refine lv_lload_n hx hb dX12_force_57 rfl (lv_at hl 2 rfl) ?_
      obtain ⟨r58, τ58, hq58, hg⟩ := bd_some hg
      refine gc_Si (As := [.long v1]) (rest := [.int 2, .ref (ad 0)]) S X (k2_X12_of l dC dI ad kc hq58 H.size) cw_X12_of mG_2808 rfl rfl hl.1 (Nat.le_of_ble_eq_true rfl) dX12_force_58 ⟨by omega, by omega⟩ (fun H locs X => ?_)
      refine lv_iconst (v := 2) hx hb dX12_force_61 (by decide) ?_
      obtain ⟨r62, τ62, hq62, hg⟩ := bd_some hg
      refine gc_Vi (As := [.int 2, .int r58, .int 2]) (rest := []) (q0 := 0) (ci := 15) S X (k2_X12_putRow l dC dI ad kc hq62 H.size) cw_X12_putRow mG_2895 rfl rfl rfl rfl rfl hl.1 (Nat.le_of_ble_eq_true rfl) dX12_force_62 ⟨by omega, by omega⟩ (fun H locs X => ?_)
      refine lv_pop hx hb dX12_force_65 rfl ?_
      refine lv_goto (tgt := 162) hx hb dX12_force_66 (by decide) ?_
      obtain ⟨-, rfl⟩ := fin_some hg
      exact gr_v S hr hk X dX12_force_162
  · have hg := (if_pos c30).symm.trans hg
    refine lv_aload_n hx hb dX12_force_33 rfl (lv_at hl 1 rfl) ?_
    refine lv_iconst (v := 1) hx hb dX12_force_34 (by decide) ?_
    refine lv_lload_n hx hb dX12_force_35 rfl (lv_at hl 2 rfl) ?_
    obtain ⟨r36, τ36, hq36, hg⟩ := bd_some hg
    refine gc_Si (As := [.long v1]) (rest := [.int 1, .ref (ad 0)]) S X (k2_X12_of l dC dI ad kc hq36 H.size) cw_X12_of mG_2808 rfl rfl hl.1 (Nat.le_of_ble_eq_true rfl) dX12_force_36 ⟨by omega, by omega⟩ (fun H locs X => ?_)
    refine lv_iconst (v := 2) hx hb dX12_force_39 (by decide) ?_
    obtain ⟨r40, τ40, hq40, hg⟩ := bd_some hg
    refine gc_Vi (As := [.int 1, .int r36, .int 2]) (rest := []) (q0 := 0) (ci := 15) S X (k2_X12_putRow l dC dI ad kc hq40 H.size) cw_X12_putRow mG_2895 rfl rfl rfl rfl rfl hl.1 (Nat.le_of_ble_eq_true rfl) dX12_force_40 ⟨by omega, by omega⟩ (fun H locs X => ?_)
    refine lv_pop hx hb dX12_force_43 rfl ?_
    refine lv_goto (tgt := 162) hx hb dX12_force_44 (by decide) ?_
    obtain ⟨-, rfl⟩ := fin_some hg
    exact gr_v S hr hk X dX12_force_162
set_option maxHeartbeats 4000000 in
set_option maxRecDepth 100000 in
theorem w_X12_force_b24 {σ : S5} {v1 : Int64} {H : Heap} {locs : List Loc} {ls : Array Slot} (S : CallFix p m c cX12_force 5 s args uG RX12) (hr : meth.sig.returnType = none) (hk : meth.locks = false) (hR : 2 ≤ R.frames ∧ 45 ≤ R.locals)
    (X : gX (dC, dI) (tM kc) (wM ad kc) Z A s σ H locs) (hl : lv_has ls 5 [(0, .ref (ad 0)), (1, .long v1)]) (hg : f_X12_force_b24 v1 σ = some (r, τ)) : W p l e R s m args below meth c H locs 0 0 (MQ below (gQv (dC, dI) (tM kc) (wM ad kc) A r τ) args s 0 0 A) (F0 m 24 ls []) := by
  have hx := S.1
  have hb := S.2.1
  have hown := S.2.2.2.1
  have hu := S.2.2.2.2
  unfold f_X12_force_b24 at hg
  refine lv_iconst (v := 0) hx hb dX12_force_24 (by decide) ?_
  exact w_X12_force_b25 S hr hk hR X (lv_sub hl [0, 1] rfl) hg
set_option maxHeartbeats 4000000 in
set_option maxRecDepth 100000 in
theorem w_X12_force {σ : S5} {a1 : Int64} {H : Heap} {locs : List Loc} {ls : Array Slot} (S : CallFix p m c cX12_force 5 s args uG RX12) (hr : meth.sig.returnType = none) (hk : meth.locks = false) (hR : 2 ≤ R.frames ∧ 45 ≤ R.locals)
    (X : gX (dC, dI) (tM kc) (wM ad kc) Z A s σ H locs) (hl : lv_has ls 5 [(0, .ref (ad 0)), (1, .long a1)]) (hg : f_X12_force a1 σ = some (r, τ)) : W p l e R s m args below meth c H locs 0 0 (MQ below (gQv (dC, dI) (tM kc) (wM ad kc) A r τ) args s 0 0 A) (F0 m 0 ls []) := by
  have hx := S.1
  have hb := S.2.1
  have hown := S.2.2.2.1
  have hu := S.2.2.2.2
  unfold f_X12_force at hg
  refine lv_lload_n hx hb dX12_force_0 rfl (lv_at hl 1 rfl) ?_
  obtain ⟨r1, τ1, hq1, hg⟩ := bd_some hg
  refine gc_Si (As := [.long a1]) (rest := []) S X (k2_X12_kindOf l dC dI ad kc hq1 H.size) cw_X12_kindOf mG_2801 rfl rfl hl.1 (Nat.le_of_ble_eq_true rfl) dX12_force_1 ⟨by omega, by omega⟩ (fun H locs X => ?_)
  refine lv_iconst (v := 3) hx hb dX12_force_4 (by decide) ?_
  refine lv_icmp_ne (tgt := 24) hx hb dX12_force_5 (by decide) (fun c5 => ?_) (fun c5 => ?_)
  · have hg := (if_neg c5).symm.trans hg
    exact w_X12_force_b24 S hr hk hR X (lv_sub hl [0, 1] rfl) hg
  · have hg := (if_pos c5).symm.trans hg
    refine lv_aload_n hx hb dX12_force_8 rfl (lv_at hl 0 rfl) ?_
    refine wmgR_0_92 S X mG_2142 dX12_force_9 ?_
    refine lv_lload_n hx hb dX12_force_12 rfl (lv_at hl 1 rfl) ?_
    obtain ⟨r13, τ13, hq13, hg⟩ := bd_some hg
    refine gc_Si (As := [.long a1]) (rest := [.ref (ad 60)]) S X (k2_X12_of l dC dI ad kc hq13 H.size) cw_X12_of mG_2808 rfl rfl hl.1 (Nat.le_of_ble_eq_true rfl) dX12_force_13 ⟨by omega, by omega⟩ (fun H locs X => ?_)
    obtain ⟨hi16, hg⟩ := gd_some hg
    refine wmlA_53 (v := (xA τ13 53 r13)) S X hi16 rfl dX12_force_16 ?_
    refine lv_if_ne (tgt := 24) hx hb dX12_force_17 (by decide) (fun c17 => ?_) (fun c17 => ?_)
    · have hg := (if_neg c17).symm.trans hg
      exact w_X12_force_b24 S hr hk hR X (lv_sub hl [0, 1] rfl) hg
    · have hg := (if_pos c17).symm.trans hg
      refine lv_iconst (v := 1) hx hb dX12_force_20 (by decide) ?_
      refine lv_goto (tgt := 25) hx hb dX12_force_21 (by decide) ?_
      exact w_X12_force_b25 S hr hk hR X (lv_sub hl [0, 1] rfl) hg
end MX12_force
set_option maxRecDepth 100000 in
theorem k2_X12_force (l : Launch) (dC : Nat → ClassId) (dI : Nat → Nat → Nat) {Z : ZZ} (ad : Nat → Nat) (kc : Nat → ClassId) {σ τ : S5} {a1 : Int64} {r : Unit} (hg : f_X12_force a1 σ = some (r, τ)) (sz : Nat) : Met l yX12_force (Cond.code yX12_force cX12_force 5 none :: uG) { frames := 2, cells := 0, slots := 0, locals := 45 } (gPc (dC, dI) (tM kc) (wM ad kc) Z [.ref (ad 0), .long a1] σ sz) (gQv (dC, dI) (tM kc) (wM ad kc) (va_A (wM ad kc σ) sz) r τ) 0 0 (va_A (wM ad kc σ) sz) :=
  g_start (by decide) (Nat.le_of_ble_eq_true rfl) (fun p e s m below meth c ls S hr hk X hl => w_X12_force S hr hk ⟨Nat.le_refl _, Nat.le_refl _⟩ X hl hg)
section MX12_run
variable {p : Program} {l : Launch} {e : Env} {R : Room} {s : State} {m : MethodId} {args : Array Value} {below : List Frame} {meth : Method} {c : Code} {dC : Nat → ClassId} {dI : Nat → Nat → Nat} {Z : ZZ} {A : Nat → Prop} {ad : Nat → Nat} {kc : Nat → ClassId} {r : Int32} {τ : S5}
set_option maxHeartbeats 4000000 in
set_option maxRecDepth 100000 in
theorem w_X12_run_b226 {σ : S5}  {H : Heap} {locs : List Loc} {ls : Array Slot} (S : CallFix p m c cX12_run 5 s args uG RX12) (hr : meth.sig.returnType = (some .int)) (hk : meth.locks = false) (hR : 9 ≤ R.frames ∧ 212 ≤ R.locals)
    (X : gX (dC, dI) (tM kc) (wM ad kc) Z A s σ H locs) (hl : lv_has ls 5 [(0, .ref (ad 0))]) (hg : f_X12_run_b226  σ = some (r, τ)) : W p l e R s m args below meth c H locs 0 0 (MQ below (gQi (dC, dI) (tM kc) (wM ad kc) A r τ) args s 0 0 A) (F0 m 226 ls []) := by
  have hx := S.1
  have hb := S.2.1
  have hown := S.2.2.2.1
  have hu := S.2.2.2.2
  unfold f_X12_run_b226 at hg
  refine lv_aload_n hx hb dX12_run_226 rfl (lv_at hl 0 rfl) ?_
  refine lv_iconst (v := 1) hx hb dX12_run_227 (by decide) ?_
  refine lv_iconst (v := 0) hx hb dX12_run_228 (by decide) ?_
  obtain ⟨r229, τ229, hq229, hg⟩ := bd_some hg
  refine gc_Vv (As := [.int 1, .int 0]) (rest := []) (q0 := 0) (ci := 15) S X (k2_X12_ends l dC dI ad kc hq229 H.size) cw_X12_ends mG_2785 rfl rfl rfl rfl rfl hl.1 (Nat.le_of_ble_eq_true rfl) dX12_run_229 ⟨by omega, by omega⟩ (fun H locs X => ?_)
  refine lv_aload_n hx hb dX12_run_232 rfl (lv_at hl 0 rfl) ?_
  refine wmgI_44 (v := (gI τ229 44)) S X mG_2161 rfl dX12_run_233 ?_
  obtain ⟨rfl, rfl⟩ := fin_some hg
  exact gr_i S hr hk X dX12_run_236
set_option maxHeartbeats 4000000 in
set_option maxRecDepth 100000 in
theorem w_X12_run_B171 {σ : S5} {rec171 : S5 → Option (Int32 × S5)}  {H : Heap} {locs : List Loc} {ls : Array Slot} (S : CallFix p m c cX12_run 5 s args uG RX12) (hr : meth.sig.returnType = (some .int)) (hk : meth.locks = false) (hR : 9 ≤ R.frames ∧ 212 ≤ R.locals)
    (hrec171 : ∀ (σ : S5) (H : Heap) (locs : List Loc) (ls : Array Slot), gX (dC, dI) (tM kc) (wM ad kc) Z A s σ H locs → lv_has ls 5 [(0, .ref (ad 0))] → rec171 σ = some (r, τ) → W p l e R s m args below meth c H locs 0 0 (MQ below (gQi (dC, dI) (tM kc) (wM ad kc) A r τ) args s 0 0 A) (F0 m 171 ls []))
    (X : gX (dC, dI) (tM kc) (wM ad kc) Z A s σ H locs) (hl : lv_has ls 5 [(0, .ref (ad 0))]) (hg : f_X12_run_B171 rec171 σ = some (r, τ)) : W p l e R s m args below meth c H locs 0 0 (MQ below (gQi (dC, dI) (tM kc) (wM ad kc) A r τ) args s 0 0 A) (F0 m 171 ls []) := by
  have hx := S.1
  have hb := S.2.1
  have hown := S.2.2.2.1
  have hu := S.2.2.2.2
  unfold f_X12_run_B171 at hg
  refine lv_aload_n hx hb dX12_run_171 rfl (lv_at hl 0 rfl) ?_
  refine wmgI_44 (v := (gI σ 44)) S X mG_2161 rfl dX12_run_172 ?_
  refine lv_if_ne (tgt := 226) hx hb dX12_run_175 (by decide) (fun c175 => ?_) (fun c175 => ?_)
  · have hg := (if_neg c175).symm.trans hg
    exact w_X12_run_b226 S hr hk hR X (lv_sub hl [0] rfl) hg
  · have hg := (if_pos c175).symm.trans hg
    refine lv_aload_n hx hb dX12_run_178 rfl (lv_at hl 0 rfl) ?_
    refine wmgI_55 (v := (gI σ 55)) S X mG_2182 rfl dX12_run_179 ?_
    refine lv_if_le (tgt := 226) hx hb dX12_run_182 (by decide) (fun c182 => ?_) (fun c182 => ?_)
    · have hg := (if_pos c182).symm.trans hg
      exact w_X12_run_b226 S hr hk hR X (lv_sub hl [0] rfl) hg
    · have hg := (if_neg c182).symm.trans hg
      refine lv_aload_n hx hb dX12_run_185 rfl (lv_at hl 0 rfl) ?_
      refine lv_dup hx hb dX12_run_186 rfl ?_
      refine wmgI_55 (v := (gI σ 55)) S X mG_2182 rfl dX12_run_187 ?_
      refine lv_iconst (v := 1) hx hb dX12_run_190 (by decide) ?_
      refine lv_isub hx hb dX12_run_191 ?_
      refine wmpI_55 S X mG_2182 dX12_run_192 (fun H locs X => ?_)
      refine lv_aload_n hx hb dX12_run_195 rfl (lv_at hl 0 rfl) ?_
      refine lv_aload_n hx hb dX12_run_196 rfl (lv_at hl 0 rfl) ?_
      refine wmgR_0_133 S X mG_2183 dX12_run_197 ?_
      refine lv_aload_n hx hb dX12_run_200 rfl (lv_at hl 0 rfl) ?_
      refine wmgI_55 (v := ((gI σ 55) - 1)) S X mG_2182 rfl dX12_run_201 ?_
      obtain ⟨hi204, hg⟩ := gd_some hg
      refine wmlB_10 (v := (xB σ 10 ((gI σ 55) - 1))) S X hi204 rfl dX12_run_204 ?_
      obtain ⟨r205, τ205, hq205, hg⟩ := bd_some hg
      refine gc_Vv (As := [.long (xB σ 10 ((gI σ 55) - 1))]) (rest := []) (q0 := 0) (ci := 15) S X (k2_X12_workOut l dC dI ad kc hq205 H.size) cw_X12_workOut mG_2793 rfl rfl rfl rfl rfl hl.1 (Nat.le_of_ble_eq_true rfl) dX12_run_205 ⟨by omega, by omega⟩ (fun H locs X => ?_)
      refine lv_aload_n hx hb dX12_run_208 rfl (lv_at hl 0 rfl) ?_
      refine wmgI_44 (v := (gI τ205 44)) S X mG_2161 rfl dX12_run_209 ?_
      refine lv_if_ne (tgt := 171) hx hb dX12_run_212 (by decide) (fun c212 => ?_) (fun c212 => ?_)
      · have hg := (if_neg c212).symm.trans hg
        exact hrec171  _ _ _ _ X (lv_sub hl [0] rfl) hg
      · have hg := (if_pos c212).symm.trans hg
        refine lv_aload_n hx hb dX12_run_215 rfl (lv_at hl 0 rfl) ?_
        refine lv_aload_n hx hb dX12_run_216 rfl (lv_at hl 0 rfl) ?_
        refine wmgJ_1 (v := (gJ τ205 1)) S X mG_2177 rfl dX12_run_217 ?_
        obtain ⟨r220, τ220, hq220, hg⟩ := bd_some hg
        refine gc_Vv (As := [.long (gJ τ205 1)]) (rest := []) (q0 := 0) (ci := 15) S X (k2_X12_force l dC dI ad kc hq220 H.size) cw_X12_force mG_2891 rfl rfl rfl rfl rfl hl.1 (Nat.le_of_ble_eq_true rfl) dX12_run_220 ⟨by omega, by omega⟩ (fun H locs X => ?_)
        refine lv_goto (tgt := 171) hx hb dX12_run_223 (by decide) ?_
        exact hrec171  _ _ _ _ X (lv_sub hl [0] rfl) hg
set_option maxHeartbeats 4000000 in
set_option maxRecDepth 100000 in
theorem w_X12_run_L171 (S : CallFix p m c cX12_run 5 s args uG RX12) (hr : meth.sig.returnType = (some .int)) (hk : meth.locks = false) (hR : 9 ≤ R.frames ∧ 212 ≤ R.locals) : ∀ (n : Nat) (σ : S5) (H : Heap) (locs : List Loc) (ls : Array Slot), gX (dC, dI) (tM kc) (wM ad kc) Z A s σ H locs → lv_has ls 5 [(0, .ref (ad 0))] → f_X12_run_L171  n σ = some (r, τ) → W p l e R s m args below meth c H locs 0 0 (MQ below (gQi (dC, dI) (tM kc) (wM ad kc) A r τ) args s 0 0 A) (F0 m 171 ls []) := by
  intro n
  induction n with
  | zero => intro σ H locs ls X hl hg; cases hg
  | succ n ih => intro σ H locs ls X hl hg; exact w_X12_run_B171 S hr hk hR ih X hl hg
set_option maxHeartbeats 4000000 in
set_option maxRecDepth 100000 in
theorem w_X12_run_b141 {σ : S5} {rec101 : Int32 → S5 → Option (Int32 × S5)} {v4 : Int32} {H : Heap} {locs : List Loc} {ls : Array Slot} (S : CallFix p m c cX12_run 5 s args uG RX12) (hr : meth.sig.returnType = (some .int)) (hk : meth.locks = false) (hR : 9 ≤ R.frames ∧ 212 ≤ R.locals)
    (hrec101 : ∀ (v4 : Int32) (σ : S5) (H : Heap) (locs : List Loc) (ls : Array Slot), gX (dC, dI) (tM kc) (wM ad kc) Z A s σ H locs → lv_has ls 5 [(0, .ref (ad 0)), (4, .int v4)] → rec101 v4 σ = some (r, τ) → W p l e R s m args below meth c H locs 0 0 (MQ below (gQi (dC, dI) (tM kc) (wM ad kc) A r τ) args s 0 0 A) (F0 m 101 ls []))
    (X : gX (dC, dI) (tM kc) (wM ad kc) Z A s σ H locs) (hl : lv_has ls 5 [(0, .ref (ad 0)), (4, .int v4)]) (hg : f_X12_run_b141 rec101 v4 σ = some (r, τ)) : W p l e R s m args below meth c H locs 0 0 (MQ below (gQi (dC, dI) (tM kc) (wM ad kc) A r τ) args s 0 0 A) (F0 m 141 ls []) := by
  have hx := S.1
  have hb := S.2.1
  have hown := S.2.2.2.1
  have hu := S.2.2.2.2
  unfold f_X12_run_b141 at hg
  refine lv_iinc (v := (v4 + 1)) (lv' := [(4, .int (v4 + 1)), (0, .ref (ad 0))]) hx hb dX12_run_141 hl (k := 1) rfl (by rfl) (by decide) rfl (fun ls hl => ?_)
  refine lv_goto (tgt := 101) hx hb dX12_run_144 (by decide) ?_
  exact hrec101 _ _ _ _ _ X (lv_sub hl [1, 0] rfl) hg
set_option maxHeartbeats 4000000 in
set_option maxRecDepth 100000 in
theorem w_X12_run_B101 {σ : S5} {rec101 : Int32 → S5 → Option (Int32 × S5)} {v4 : Int32} {H : Heap} {locs : List Loc} {ls : Array Slot} (S : CallFix p m c cX12_run 5 s args uG RX12) (hr : meth.sig.returnType = (some .int)) (hk : meth.locks = false) (hR : 9 ≤ R.frames ∧ 212 ≤ R.locals)
    (hrec101 : ∀ (v4 : Int32) (σ : S5) (H : Heap) (locs : List Loc) (ls : Array Slot), gX (dC, dI) (tM kc) (wM ad kc) Z A s σ H locs → lv_has ls 5 [(0, .ref (ad 0)), (4, .int v4)] → rec101 v4 σ = some (r, τ) → W p l e R s m args below meth c H locs 0 0 (MQ below (gQi (dC, dI) (tM kc) (wM ad kc) A r τ) args s 0 0 A) (F0 m 101 ls []))
    (X : gX (dC, dI) (tM kc) (wM ad kc) Z A s σ H locs) (hl : lv_has ls 5 [(0, .ref (ad 0)), (4, .int v4)]) (hg : f_X12_run_B101 rec101 v4 σ = some (r, τ)) : W p l e R s m args below meth c H locs 0 0 (MQ below (gQi (dC, dI) (tM kc) (wM ad kc) A r τ) args s 0 0 A) (F0 m 101 ls []) := by
  have hx := S.1
  have hb := S.2.1
  have hown := S.2.2.2.1
  have hu := S.2.2.2.2
  unfold f_X12_run_B101 at hg
  refine lv_iload hx hb dX12_run_101 (lv_at hl 1 rfl) ?_
  refine lv_aload_n hx hb dX12_run_103 rfl (lv_at hl 0 rfl) ?_
  refine wmgI_22 (v := (gI σ 22)) S X mG_2096 rfl dX12_run_104 ?_
  refine lv_icmp_ge (tgt := 147) hx hb dX12_run_107 (by decide) (fun c107 => ?_) (fun c107 => ?_)
  · have hg := (if_pos c107).symm.trans hg
    refine lv_aload_n hx hb dX12_run_147 rfl (lv_at hl 0 rfl) ?_
    refine lv_iconst (v := 1) hx hb dX12_run_148 (by decide) ?_
    refine wmpI_55 S X mG_2182 dX12_run_149 (fun H locs X => ?_)
    refine lv_aload_n hx hb dX12_run_152 rfl (lv_at hl 0 rfl) ?_
    refine wmgR_0_133 S X mG_2183 dX12_run_153 ?_
    refine lv_iconst (v := 0) hx hb dX12_run_156 (by decide) ?_
    refine lv_iconst (v := 3) hx hb dX12_run_157 (by decide) ?_
    refine lv_aload_n hx hb dX12_run_158 rfl (lv_at hl 0 rfl) ?_
    refine wmgR_0_131 S X mG_2181 dX12_run_159 ?_
    refine lv_aload_n hx hb dX12_run_162 rfl (lv_at hl 0 rfl) ?_
    obtain ⟨r163, τ163, hq163, hg⟩ := bd_some hg
    refine gc_Vi (As := []) (rest := [.ref (ad 75), .int 3, .int 0, .ref (ad 76)]) (q0 := 0) (ci := 15) S X (k2_X12_mainFunction l dC dI ad kc hq163 H.size) cw_X12_mainFunction mG_2708 rfl rfl rfl rfl rfl hl.1 (Nat.le_of_ble_eq_true rfl) dX12_run_163 ⟨by omega, by omega⟩ (fun H locs X => ?_)
    obtain ⟨hi166, hg⟩ := gd_some hg
    refine wmlA_64 (v := (xA τ163 64 r163)) S X hi166 rfl dX12_run_166 ?_
    obtain ⟨r167, τ167, hq167, hg⟩ := bd_some hg
    refine gc_Sl (As := [.int 3, .int (xA τ163 64 r163)]) (rest := [.int 0, .ref (ad 76)]) S X (k2_X12_value l dC dI ad kc hq167 H.size) cw_X12_value mG_2789 rfl rfl hl.1 (Nat.le_of_ble_eq_true rfl) dX12_run_167 ⟨by omega, by omega⟩ (fun H locs X => ?_)
    refine wmsB_10 S X (vp_in_iff.mpr (by decide)) dX12_run_170 (fun H locs X => ?_)
    exact w_X12_run_L171 S hr hk hR _  _ _ _ _ X (lv_sub hl [0] rfl) hg
  · have hg := (if_neg c107).symm.trans hg
    refine lv_aload_n hx hb dX12_run_110 rfl (lv_at hl 0 rfl) ?_
    refine wmgR_0_82 S X mG_2132 dX12_run_111 ?_
    refine lv_iload hx hb dX12_run_114 (lv_at hl 1 rfl) ?_
    obtain ⟨hi116, hg⟩ := gd_some hg
    refine wmlA_47 (v := (xA σ 47 v4)) S X hi116 rfl dX12_run_116 ?_
    refine lv_if_ne (tgt := 141) hx hb dX12_run_117 (by decide) (fun c117 => ?_) (fun c117 => ?_)
    · have hg := (if_neg c117).symm.trans hg
      exact w_X12_run_b141 S hr hk hR hrec101 X (lv_sub hl [0, 1] rfl) hg
    · have hg := (if_pos c117).symm.trans hg
      refine lv_aload_n hx hb dX12_run_120 rfl (lv_at hl 0 rfl) ?_
      refine wmgR_0_131 S X mG_2181 dX12_run_121 ?_
      refine lv_iload hx hb dX12_run_124 (lv_at hl 1 rfl) ?_
      refine lv_aload_n hx hb dX12_run_126 rfl (lv_at hl 0 rfl) ?_
      refine lv_iconst (v := 2) hx hb dX12_run_127 (by decide) ?_
      refine lv_aload_n hx hb dX12_run_128 rfl (lv_at hl 0 rfl) ?_
      refine wmgR_0_80 S X mG_2130 dX12_run_129 ?_
      refine lv_iload hx hb dX12_run_132 (lv_at hl 1 rfl) ?_
      obtain ⟨hi134, hg⟩ := gd_some hg
      refine wmlA_45 (v := (xA σ 45 v4)) S X hi134 rfl dX12_run_134 ?_
      refine lv_iconst (v := 0) hx hb dX12_run_135 (by decide) ?_
      refine lv_iconst (v := 1) hx hb dX12_run_136 (by decide) ?_
      obtain ⟨r137, τ137, hq137, hg⟩ := bd_some hg
      refine gc_Vi (As := [.int 2, .int (xA σ 45 v4), .int 0, .int 1]) (rest := [.int v4, .ref (ad 75)]) (q0 := 0) (ci := 15) S X (k2_X12_newCell l dC dI ad kc hq137 H.size) cw_X12_newCell mG_2781 rfl rfl rfl rfl rfl hl.1 (Nat.le_of_ble_eq_true rfl) dX12_run_137 ⟨by omega, by omega⟩ (fun H locs X => ?_)
      obtain ⟨hi140, hg⟩ := gd_some hg
      refine wmsA_64 S X hi140 dX12_run_140 (fun H locs X => ?_)
      exact w_X12_run_b141 S hr hk hR hrec101 X (lv_sub hl [0, 1] rfl) hg
set_option maxHeartbeats 4000000 in
set_option maxRecDepth 100000 in
theorem w_X12_run_L101 (S : CallFix p m c cX12_run 5 s args uG RX12) (hr : meth.sig.returnType = (some .int)) (hk : meth.locks = false) (hR : 9 ≤ R.frames ∧ 212 ≤ R.locals) : ∀ (n : Nat) (v4 : Int32) (σ : S5) (H : Heap) (locs : List Loc) (ls : Array Slot), gX (dC, dI) (tM kc) (wM ad kc) Z A s σ H locs → lv_has ls 5 [(0, .ref (ad 0)), (4, .int v4)] → f_X12_run_L101  n v4 σ = some (r, τ) → W p l e R s m args below meth c H locs 0 0 (MQ below (gQi (dC, dI) (tM kc) (wM ad kc) A r τ) args s 0 0 A) (F0 m 101 ls []) := by
  intro n
  induction n with
  | zero => intro v4 σ H locs ls X hl hg; cases hg
  | succ n ih => intro v4 σ H locs ls X hl hg; exact w_X12_run_B101 S hr hk hR ih X hl hg
set_option maxHeartbeats 4000000 in
set_option maxRecDepth 100000 in
theorem w_X12_run_b62 {σ : S5} {v1 : Int32} {v2 : Int32} {u0 : Int32} {H : Heap} {locs : List Loc} {ls : Array Slot} (S : CallFix p m c cX12_run 5 s args uG RX12) (hr : meth.sig.returnType = (some .int)) (hk : meth.locks = false) (hR : 9 ≤ R.frames ∧ 212 ≤ R.locals)
    (X : gX (dC, dI) (tM kc) (wM ad kc) Z A s σ H locs) (hl : lv_has ls 5 [(0, .ref (ad 0)), (1, .int v1), (2, .int v2)]) (hg : f_X12_run_b62 v1 v2 u0 σ = some (r, τ)) : W p l e R s m args below meth c H locs 0 0 (MQ below (gQi (dC, dI) (tM kc) (wM ad kc) A r τ) args s 0 0 A) (F0 m 62 ls [.int u0, .ref (ad 0)]) := by
  have hx := S.1
  have hb := S.2.1
  have hown := S.2.2.2.1
  have hu := S.2.2.2.2
  unfold f_X12_run_b62 at hg
  refine wmpI_0 S X mG_2050 dX12_run_62 (fun H locs X => ?_)
  refine lv_aload_n hx hb dX12_run_65 rfl (lv_at hl 0 rfl) ?_
  refine wmgI_0 (v := u0) S X mG_2050 rfl dX12_run_66 ?_
  refine lv_if_le (tgt := 74) hx hb dX12_run_69 (by decide) (fun c69 => ?_) (fun c69 => ?_)
  · have hg := (if_pos c69).symm.trans hg
    refine lv_aload_n hx hb dX12_run_74 rfl (lv_at hl 0 rfl) ?_
    obtain ⟨r75, τ75, hq75, hg⟩ := bd_some hg
    refine gc_Vv (As := []) (rest := []) (q0 := 0) (ci := 15) S X (k2_X12_clearRun l dC dI ad kc hq75 H.size) cw_X12_clearRun mG_2468 rfl rfl rfl rfl rfl hl.1 (Nat.le_of_ble_eq_true rfl) dX12_run_75 ⟨by omega, by omega⟩ (fun H locs X => ?_)
    refine lv_aload_n hx hb dX12_run_78 rfl (lv_at hl 0 rfl) ?_
    refine lv_iload_n hx hb dX12_run_79 rfl (lv_at hl 1 rfl) ?_
    obtain ⟨hn80, hg⟩ := g_t_some hg
    refine wmpI_47 S X mG_2165 hn80 dX12_run_80 (fun H locs X => ?_)
    refine lv_aload_n hx hb dX12_run_83 rfl (lv_at hl 0 rfl) ?_
    refine lv_iload_n hx hb dX12_run_84 rfl (lv_at hl 2 rfl) ?_
    refine wmpI_37 S X mG_2153 dX12_run_85 (fun H locs X => ?_)
    refine lv_aload_n hx hb dX12_run_88 rfl (lv_at hl 0 rfl) ?_
    refine lv_iconst (v := 0) hx hb dX12_run_89 (by decide) ?_
    refine wmpI_32 S X mG_2147 dX12_run_90 (fun H locs X => ?_)
    refine lv_aload_n hx hb dX12_run_93 rfl (lv_at hl 0 rfl) ?_
    refine lv_iconst (v := 0) hx hb dX12_run_94 (by decide) ?_
    refine wmpI_33 S X mG_2148 dX12_run_95 (fun H locs X => ?_)
    refine lv_iconst (v := 0) hx hb dX12_run_98 (by decide) ?_
    refine lv_istore (lv' := [(4, .int 0), (0, .ref (ad 0)), (1, .int v1), (2, .int v2)]) hx hb dX12_run_99 hl (by decide) rfl (fun ls hl => ?_)
    exact w_X12_run_L101 S hr hk hR _ _ _ _ _ _ X (lv_sub hl [1, 0] rfl) hg
  · have hg := (if_neg c69).symm.trans hg
    refine lv_iconst (v := 0) hx hb dX12_run_72 (by decide) ?_
    obtain ⟨rfl, rfl⟩ := fin_some hg
    exact gr_i S hr hk X dX12_run_73
set_option maxHeartbeats 4000000 in
set_option maxRecDepth 100000 in
theorem w_X12_run_b49 {σ : S5} {v1 : Int32} {v2 : Int32} {H : Heap} {locs : List Loc} {ls : Array Slot} (S : CallFix p m c cX12_run 5 s args uG RX12) (hr : meth.sig.returnType = (some .int)) (hk : meth.locks = false) (hR : 9 ≤ R.frames ∧ 212 ≤ R.locals)
    (X : gX (dC, dI) (tM kc) (wM ad kc) Z A s σ H locs) (hl : lv_has ls 5 [(0, .ref (ad 0)), (1, .int v1), (2, .int v2)]) (hg : f_X12_run_b49 v1 v2 σ = some (r, τ)) : W p l e R s m args below meth c H locs 0 0 (MQ below (gQi (dC, dI) (tM kc) (wM ad kc) A r τ) args s 0 0 A) (F0 m 49 ls [.ref (ad 0)]) := by
  have hx := S.1
  have hb := S.2.1
  have hown := S.2.2.2.1
  have hu := S.2.2.2.2
  unfold f_X12_run_b49 at hg
  refine lv_iconst (v := 2) hx hb dX12_run_49 (by decide) ?_
  refine lv_goto (tgt := 62) hx hb dX12_run_50 (by decide) ?_
  exact w_X12_run_b62 S hr hk hR X (lv_sub hl [0, 1, 2] rfl) hg
set_option maxHeartbeats 4000000 in
set_option maxRecDepth 100000 in
theorem w_X12_run_b25 {σ : S5} {v1 : Int32} {v2 : Int32} {u0 : Int32} {H : Heap} {locs : List Loc} {ls : Array Slot} (S : CallFix p m c cX12_run 5 s args uG RX12) (hr : meth.sig.returnType = (some .int)) (hk : meth.locks = false) (hR : 9 ≤ R.frames ∧ 212 ≤ R.locals)
    (X : gX (dC, dI) (tM kc) (wM ad kc) Z A s σ H locs) (hl : lv_has ls 5 [(0, .ref (ad 0)), (1, .int v1), (2, .int v2)]) (hg : f_X12_run_b25 v1 v2 u0 σ = some (r, τ)) : W p l e R s m args below meth c H locs 0 0 (MQ below (gQi (dC, dI) (tM kc) (wM ad kc) A r τ) args s 0 0 A) (F0 m 25 ls [.int u0]) := by
  have hx := S.1
  have hb := S.2.1
  have hown := S.2.2.2.1
  have hu := S.2.2.2.2
  unfold f_X12_run_b25 at hg
  refine lv_istore_n (lv' := [(3, .int u0), (0, .ref (ad 0)), (1, .int v1), (2, .int v2)]) hx hb dX12_run_25 rfl hl (by decide) rfl (fun ls hl => ?_)
  refine lv_aload_n hx hb dX12_run_26 rfl (lv_at hl 1 rfl) ?_
  refine lv_aload_n hx hb dX12_run_27 rfl (lv_at hl 1 rfl) ?_
  refine wmgI_29 (v := (gI σ 29)) S X mG_2138 rfl dX12_run_28 ?_
  refine lv_if_ne (tgt := 38) hx hb dX12_run_31 (by decide) (fun c31 => ?_) (fun c31 => ?_)
  · have hg := (if_neg c31).symm.trans hg
    refine lv_iload_n hx hb dX12_run_38 rfl (lv_at hl 3 rfl) ?_
    refine lv_if_lt (tgt := 49) hx hb dX12_run_39 (by decide) (fun c39 => ?_) (fun c39 => ?_)
    · have hg := (if_pos c39).symm.trans hg
      exact w_X12_run_b49 S hr hk hR X (lv_sub hl [1, 2, 3] rfl) hg
    · have hg := (if_neg c39).symm.trans hg
      refine lv_iload_n hx hb dX12_run_42 rfl (lv_at hl 3 rfl) ?_
      refine lv_sipush (v := 800) hx hb dX12_run_43 (by decide) ?_
      refine lv_icmp_le (tgt := 53) hx hb dX12_run_46 (by decide) (fun c46 => ?_) (fun c46 => ?_)
      · have hg := (if_pos c46).symm.trans hg
        refine lv_iload_n hx hb dX12_run_53 rfl (lv_at hl 0 rfl) ?_
        refine lv_if_eq (tgt := 61) hx hb dX12_run_54 (by decide) (fun c54 => ?_) (fun c54 => ?_)
        · have hg := (if_pos c54).symm.trans hg
          refine lv_iconst (v := 0) hx hb dX12_run_61 (by decide) ?_
          exact w_X12_run_b62 S hr hk hR X (lv_sub hl [1, 2, 3] rfl) hg
        · have hg := (if_neg c54).symm.trans hg
          refine lv_iconst (v := 3) hx hb dX12_run_57 (by decide) ?_
          refine lv_goto (tgt := 62) hx hb dX12_run_58 (by decide) ?_
          exact w_X12_run_b62 S hr hk hR X (lv_sub hl [1, 2, 3] rfl) hg
      · have hg := (if_neg c46).symm.trans hg
        exact w_X12_run_b49 S hr hk hR X (lv_sub hl [1, 2, 3] rfl) hg
  · have hg := (if_pos c31).symm.trans hg
    refine lv_iconst (v := 1) hx hb dX12_run_34 (by decide) ?_
    refine lv_goto (tgt := 62) hx hb dX12_run_35 (by decide) ?_
    exact w_X12_run_b62 S hr hk hR X (lv_sub hl [1, 2, 3] rfl) hg
set_option maxHeartbeats 4000000 in
set_option maxRecDepth 100000 in
theorem w_X12_run_b20 {σ : S5} {v1 : Int32} {v2 : Int32} {H : Heap} {locs : List Loc} {ls : Array Slot} (S : CallFix p m c cX12_run 5 s args uG RX12) (hr : meth.sig.returnType = (some .int)) (hk : meth.locks = false) (hR : 9 ≤ R.frames ∧ 212 ≤ R.locals)
    (X : gX (dC, dI) (tM kc) (wM ad kc) Z A s σ H locs) (hl : lv_has ls 5 [(0, .ref (ad 0)), (1, .int v1), (2, .int v2)]) (hg : f_X12_run_b20 v1 v2 σ = some (r, τ)) : W p l e R s m args below meth c H locs 0 0 (MQ below (gQi (dC, dI) (tM kc) (wM ad kc) A r τ) args s 0 0 A) (F0 m 20 ls []) := by
  have hx := S.1
  have hb := S.2.1
  have hown := S.2.2.2.1
  have hu := S.2.2.2.2
  unfold f_X12_run_b20 at hg
  refine lv_iconst (v := 1) hx hb dX12_run_20 (by decide) ?_
  refine lv_goto (tgt := 25) hx hb dX12_run_21 (by decide) ?_
  exact w_X12_run_b25 S hr hk hR X (lv_sub hl [0, 1, 2] rfl) hg
set_option maxHeartbeats 4000000 in
set_option maxRecDepth 100000 in
theorem w_X12_run {σ : S5} {a1 : Int32} {a2 : Int32} {H : Heap} {locs : List Loc} {ls : Array Slot} (S : CallFix p m c cX12_run 5 s args uG RX12) (hr : meth.sig.returnType = (some .int)) (hk : meth.locks = false) (hR : 9 ≤ R.frames ∧ 212 ≤ R.locals)
    (X : gX (dC, dI) (tM kc) (wM ad kc) Z A s σ H locs) (hl : lv_has ls 5 [(0, .ref (ad 0)), (1, .int a1), (2, .int a2)]) (hg : f_X12_run a1 a2 σ = some (r, τ)) : W p l e R s m args below meth c H locs 0 0 (MQ below (gQi (dC, dI) (tM kc) (wM ad kc) A r τ) args s 0 0 A) (F0 m 0 ls []) := by
  have hx := S.1
  have hb := S.2.1
  have hown := S.2.2.2.1
  have hu := S.2.2.2.2
  unfold f_X12_run at hg
  refine lv_aload_n hx hb dX12_run_0 rfl (lv_at hl 0 rfl) ?_
  refine wmgI_36 (v := (gI σ 36)) S X mG_2152 rfl dX12_run_1 ?_
  refine lv_ldcw (own := RX12) (v := 150000) hx hb hown (hu _ mG_2780) dX12_run_4 ?_
  refine lv_icmp_ge (tgt := 20) hx hb dX12_run_7 (by decide) (fun c7 => ?_) (fun c7 => ?_)
  · have hg := (if_pos c7).symm.trans hg
    exact w_X12_run_b20 S hr hk hR X (lv_sub hl [0, 1, 2] rfl) hg
  · have hg := (if_neg c7).symm.trans hg
    refine lv_aload_n hx hb dX12_run_10 rfl (lv_at hl 0 rfl) ?_
    refine wmgI_35 (v := (gI σ 35)) S X mG_2151 rfl dX12_run_11 ?_
    refine lv_ldcw (own := RX12) (v := 150000) hx hb hown (hu _ mG_2780) dX12_run_14 ?_
    refine lv_icmp_lt (tgt := 24) hx hb dX12_run_17 (by decide) (fun c17 => ?_) (fun c17 => ?_)
    · have hg := (if_pos c17).symm.trans hg
      refine lv_iconst (v := 0) hx hb dX12_run_24 (by decide) ?_
      exact w_X12_run_b25 S hr hk hR X (lv_sub hl [0, 1, 2] rfl) hg
    · have hg := (if_neg c17).symm.trans hg
      exact w_X12_run_b20 S hr hk hR X (lv_sub hl [0, 1, 2] rfl) hg
end MX12_run
set_option maxRecDepth 100000 in
theorem k2_X12_run (l : Launch) (dC : Nat → ClassId) (dI : Nat → Nat → Nat) {Z : ZZ} (ad : Nat → Nat) (kc : Nat → ClassId) {σ τ : S5} {a1 : Int32} {a2 : Int32} {r : Int32} (hg : f_X12_run a1 a2 σ = some (r, τ)) (sz : Nat) : Met l yX12_run (Cond.code yX12_run cX12_run 5 (some .int) :: uG) { frames := 9, cells := 0, slots := 0, locals := 212 } (gPc (dC, dI) (tM kc) (wM ad kc) Z [.ref (ad 0), .int a1, .int a2] σ sz) (gQi (dC, dI) (tM kc) (wM ad kc) (va_A (wM ad kc σ) sz) r τ) 0 0 (va_A (wM ad kc σ) sz) :=
  g_start (by decide) (Nat.le_of_ble_eq_true rfl) (fun p e s m below meth c ls S hr hk X hl => w_X12_run S hr hk ⟨Nat.le_refl _, Nat.le_refl _⟩ X hl hg)
section MX12_put
variable {p : Program} {l : Launch} {e : Env} {R : Room} {s : State} {m : MethodId} {args : Array Value} {below : List Frame} {meth : Method} {c : Code} {dC : Nat → ClassId} {dI : Nat → Nat → Nat} {Z : ZZ} {A : Nat → Prop} {ad : Nat → Nat} {kc : Nat → ClassId} {r : Int32} {τ : S5}
set_option maxHeartbeats 4000000 in
set_option maxRecDepth 100000 in
theorem w_X12_put_b163 {σ : S5} {rec120 : Int32 → Int32 → S5 → Option (Int32 × S5)} {v1 : Int32} {v4 : Int32} {H : Heap} {locs : List Loc} {ls : Array Slot} (S : CallFix p m c cX12_put 6 s args uG RX12) (hr : meth.sig.returnType = (some .int)) (hk : meth.locks = false) (hR : 0 ≤ R.frames ∧ 0 ≤ R.locals)
    (hrec120 : ∀ (v1 : Int32) (v4 : Int32) (σ : S5) (H : Heap) (locs : List Loc) (ls : Array Slot), gX (dC, dI) (tM kc) (wM ad kc) Z A s σ H locs → lv_has ls 6 [(0, .ref (ad 0)), (1, .int v1), (4, .int v4)] → rec120 v1 v4 σ = some (r, τ) → W p l e R s m args below meth c H locs 0 0 (MQ below (gQi (dC, dI) (tM kc) (wM ad kc) A r τ) args s 0 0 A) (F0 m 120 ls []))
    (X : gX (dC, dI) (tM kc) (wM ad kc) Z A s σ H locs) (hl : lv_has ls 6 [(0, .ref (ad 0)), (1, .int v1), (4, .int v4)]) (hg : f_X12_put_b163 rec120 v1 v4 σ = some (r, τ)) : W p l e R s m args below meth c H locs 0 0 (MQ below (gQi (dC, dI) (tM kc) (wM ad kc) A r τ) args s 0 0 A) (F0 m 163 ls []) := by
  have hx := S.1
  have hb := S.2.1
  have hown := S.2.2.2.1
  have hu := S.2.2.2.2
  unfold f_X12_put_b163 at hg
  refine lv_iinc (v := (v4 + 8)) (lv' := [(4, .int (v4 + 8)), (0, .ref (ad 0)), (1, .int v1)]) hx hb dX12_put_163 hl (k := 2) rfl (by rfl) (by decide) rfl (fun ls hl => ?_)
  refine lv_goto (tgt := 120) hx hb dX12_put_166 (by decide) ?_
  exact hrec120 _ _ _ _ _ _ X (lv_sub hl [1, 2, 0] rfl) hg
set_option maxHeartbeats 4000000 in
set_option maxRecDepth 100000 in
theorem w_X12_put_B120 {σ : S5} {rec120 : Int32 → Int32 → S5 → Option (Int32 × S5)} {v1 : Int32} {v4 : Int32} {H : Heap} {locs : List Loc} {ls : Array Slot} (S : CallFix p m c cX12_put 6 s args uG RX12) (hr : meth.sig.returnType = (some .int)) (hk : meth.locks = false) (hR : 0 ≤ R.frames ∧ 0 ≤ R.locals)
    (hrec120 : ∀ (v1 : Int32) (v4 : Int32) (σ : S5) (H : Heap) (locs : List Loc) (ls : Array Slot), gX (dC, dI) (tM kc) (wM ad kc) Z A s σ H locs → lv_has ls 6 [(0, .ref (ad 0)), (1, .int v1), (4, .int v4)] → rec120 v1 v4 σ = some (r, τ) → W p l e R s m args below meth c H locs 0 0 (MQ below (gQi (dC, dI) (tM kc) (wM ad kc) A r τ) args s 0 0 A) (F0 m 120 ls []))
    (X : gX (dC, dI) (tM kc) (wM ad kc) Z A s σ H locs) (hl : lv_has ls 6 [(0, .ref (ad 0)), (1, .int v1), (4, .int v4)]) (hg : f_X12_put_B120 rec120 v1 v4 σ = some (r, τ)) : W p l e R s m args below meth c H locs 0 0 (MQ below (gQi (dC, dI) (tM kc) (wM ad kc) A r τ) args s 0 0 A) (F0 m 120 ls []) := by
  have hx := S.1
  have hb := S.2.1
  have hown := S.2.2.2.1
  have hu := S.2.2.2.2
  unfold f_X12_put_B120 at hg
  refine lv_iload hx hb dX12_put_120 (lv_at hl 2 rfl) ?_
  refine lv_bipush (v := 32) hx hb dX12_put_122 (by decide) ?_
  refine lv_icmp_ge (tgt := 169) hx hb dX12_put_124 (by decide) (fun c124 => ?_) (fun c124 => ?_)
  · have hg := (if_pos c124).symm.trans hg
    refine lv_aload_n hx hb dX12_put_169 rfl (lv_at hl 0 rfl) ?_
    refine wmgI_1 (v := (gI σ 1)) S X mG_2052 rfl dX12_put_170 ?_
    obtain ⟨rfl, rfl⟩ := fin_some hg
    exact gr_i S hr hk X dX12_put_173
  · have hg := (if_neg c124).symm.trans hg
    refine lv_iload_n hx hb dX12_put_127 rfl (lv_at hl 1 rfl) ?_
    refine lv_iload hx hb dX12_put_128 (lv_at hl 2 rfl) ?_
    refine lv_ishr hx hb dX12_put_130 ?_
    refine lv_sipush (v := 255) hx hb dX12_put_131 (by decide) ?_
    refine lv_iand hx hb dX12_put_134 ?_
    refine lv_istore (lv' := [(5, .int ((v1 >>> (v4 &&& 31)) &&& 255)), (0, .ref (ad 0)), (1, .int v1), (4, .int v4)]) hx hb dX12_put_135 hl (by decide) rfl (fun ls hl => ?_)
    refine lv_iload hx hb dX12_put_137 (lv_at hl 0 rfl) ?_
    refine lv_if_eq (tgt := 163) hx hb dX12_put_139 (by decide) (fun c139 => ?_) (fun c139 => ?_)
    · have hg := (if_pos c139).symm.trans hg
      exact w_X12_put_b163 S hr hk hR hrec120 X (lv_sub hl [1, 2, 3] rfl) hg
    · have hg := (if_neg c139).symm.trans hg
      refine lv_aload_n hx hb dX12_put_142 rfl (lv_at hl 1 rfl) ?_
      refine wmgR_0_1 S X mG_2051 dX12_put_143 ?_
      refine lv_aload_n hx hb dX12_put_146 rfl (lv_at hl 1 rfl) ?_
      refine wmgI_1 (v := (gI σ 1)) S X mG_2052 rfl dX12_put_147 ?_
      refine lv_iload hx hb dX12_put_150 (lv_at hl 0 rfl) ?_
      obtain ⟨hi152, hg⟩ := gd_some hg
      refine wmsA_0 S X hi152 dX12_put_152 (fun H locs X => ?_)
      refine lv_aload_n hx hb dX12_put_153 rfl (lv_at hl 1 rfl) ?_
      refine lv_dup hx hb dX12_put_154 rfl ?_
      refine wmgI_1 (v := (gI σ 1)) S X mG_2052 rfl dX12_put_155 ?_
      refine lv_iconst (v := 1) hx hb dX12_put_158 (by decide) ?_
      refine lv_iadd hx hb dX12_put_159 ?_
      refine wmpI_1 S X mG_2052 dX12_put_160 (fun H locs X => ?_)
      exact w_X12_put_b163 S hr hk hR hrec120 X (lv_sub hl [1, 2, 3] rfl) hg
set_option maxHeartbeats 4000000 in
set_option maxRecDepth 100000 in
theorem w_X12_put_L120 (S : CallFix p m c cX12_put 6 s args uG RX12) (hr : meth.sig.returnType = (some .int)) (hk : meth.locks = false) (hR : 0 ≤ R.frames ∧ 0 ≤ R.locals) : ∀ (n : Nat) (v1 : Int32) (v4 : Int32) (σ : S5) (H : Heap) (locs : List Loc) (ls : Array Slot), gX (dC, dI) (tM kc) (wM ad kc) Z A s σ H locs → lv_has ls 6 [(0, .ref (ad 0)), (1, .int v1), (4, .int v4)] → f_X12_put_L120  n v1 v4 σ = some (r, τ) → W p l e R s m args below meth c H locs 0 0 (MQ below (gQi (dC, dI) (tM kc) (wM ad kc) A r τ) args s 0 0 A) (F0 m 120 ls []) := by
  intro n
  induction n with
  | zero => intro v1 v4 σ H locs ls X hl hg; cases hg
  | succ n ih => intro v1 v4 σ H locs ls X hl hg; exact w_X12_put_B120 S hr hk hR ih X hl hg
set_option maxHeartbeats 4000000 in
set_option maxRecDepth 100000 in
theorem w_X12_put_b105 {σ : S5} {v1 : Int32} {u0 : Int32} {H : Heap} {locs : List Loc} {ls : Array Slot} (S : CallFix p m c cX12_put 6 s args uG RX12) (hr : meth.sig.returnType = (some .int)) (hk : meth.locks = false) (hR : 0 ≤ R.frames ∧ 0 ≤ R.locals)
    (X : gX (dC, dI) (tM kc) (wM ad kc) Z A s σ H locs) (hl : lv_has ls 6 [(0, .ref (ad 0)), (1, .int v1)]) (hg : f_X12_put_b105 v1 u0 σ = some (r, τ)) : W p l e R s m args below meth c H locs 0 0 (MQ below (gQi (dC, dI) (tM kc) (wM ad kc) A r τ) args s 0 0 A) (F0 m 105 ls [.int u0, .ref (ad 0)]) := by
  have hx := S.1
  have hb := S.2.1
  have hown := S.2.2.2.1
  have hu := S.2.2.2.2
  unfold f_X12_put_b105 at hg
  refine wmpI_0 S X mG_2050 dX12_put_105 (fun H locs X => ?_)
  refine lv_aload_n hx hb dX12_put_108 rfl (lv_at hl 0 rfl) ?_
  refine wmgI_0 (v := u0) S X mG_2050 rfl dX12_put_109 ?_
  refine lv_if_le (tgt := 117) hx hb dX12_put_112 (by decide) (fun c112 => ?_) (fun c112 => ?_)
  · have hg := (if_pos c112).symm.trans hg
    refine lv_iconst (v := 0) hx hb dX12_put_117 (by decide) ?_
    refine lv_istore (lv' := [(4, .int 0), (0, .ref (ad 0)), (1, .int v1)]) hx hb dX12_put_118 hl (by decide) rfl (fun ls hl => ?_)
    exact w_X12_put_L120 S hr hk hR _ _ _ _ _ _ _ X (lv_sub hl [1, 2, 0] rfl) hg
  · have hg := (if_neg c112).symm.trans hg
    refine lv_iconst (v := 0) hx hb dX12_put_115 (by decide) ?_
    obtain ⟨rfl, rfl⟩ := fin_some hg
    exact gr_i S hr hk X dX12_put_116
set_option maxHeartbeats 4000000 in
set_option maxRecDepth 100000 in
theorem w_X12_put_b71 {σ : S5} {rec7 : Int32 → Int32 → Int32 → Int32 → S5 → Option (Int32 × S5)} {v1 : Int32} {v3 : Int32} {v4 : Int32} {u0 : Int32} {u1 : Int32} {H : Heap} {locs : List Loc} {ls : Array Slot} (S : CallFix p m c cX12_put 6 s args uG RX12) (hr : meth.sig.returnType = (some .int)) (hk : meth.locks = false) (hR : 0 ≤ R.frames ∧ 0 ≤ R.locals)
    (hrec7 : ∀ (v1 : Int32) (v2 : Int32) (v3 : Int32) (v4 : Int32) (σ : S5) (H : Heap) (locs : List Loc) (ls : Array Slot), gX (dC, dI) (tM kc) (wM ad kc) Z A s σ H locs → lv_has ls 6 [(0, .ref (ad 0)), (1, .int v1), (2, .int v2), (3, .int v3), (4, .int v4)] → rec7 v1 v2 v3 v4 σ = some (r, τ) → W p l e R s m args below meth c H locs 0 0 (MQ below (gQi (dC, dI) (tM kc) (wM ad kc) A r τ) args s 0 0 A) (F0 m 7 ls []))
    (X : gX (dC, dI) (tM kc) (wM ad kc) Z A s σ H locs) (hl : lv_has ls 6 [(0, .ref (ad 0)), (1, .int v1), (3, .int v3), (4, .int v4)]) (hg : f_X12_put_b71 rec7 v1 v3 v4 u0 u1 σ = some (r, τ)) : W p l e R s m args below meth c H locs 0 0 (MQ below (gQi (dC, dI) (tM kc) (wM ad kc) A r τ) args s 0 0 A) (F0 m 71 ls [.int u0, .int u1]) := by
  have hx := S.1
  have hb := S.2.1
  have hown := S.2.2.2.1
  have hu := S.2.2.2.2
  unfold f_X12_put_b71 at hg
  refine lv_iadd hx hb dX12_put_71 ?_
  refine lv_istore_n (lv' := [(2, .int (u1 + u0)), (0, .ref (ad 0)), (1, .int v1), (3, .int v3), (4, .int v4)]) hx hb dX12_put_72 rfl hl (by decide) rfl (fun ls hl => ?_)
  refine lv_iinc (v := (v4 + 8)) (lv' := [(4, .int (v4 + 8)), (2, .int (u1 + u0)), (0, .ref (ad 0)), (1, .int v1), (3, .int v3)]) hx hb dX12_put_73 hl (k := 4) rfl (by rfl) (by decide) rfl (fun ls hl => ?_)
  refine lv_goto (tgt := 7) hx hb dX12_put_76 (by decide) ?_
  exact hrec7 _ _ _ _ _ _ _ _ X (lv_sub hl [2, 3, 1, 4, 0] rfl) hg
set_option maxHeartbeats 4000000 in
set_option maxRecDepth 100000 in
theorem w_X12_put_b59 {σ : S5} {rec7 : Int32 → Int32 → Int32 → Int32 → S5 → Option (Int32 × S5)} {v1 : Int32} {v2 : Int32} {v4 : Int32} {v5 : Int32} {u0 : Int32} {H : Heap} {locs : List Loc} {ls : Array Slot} (S : CallFix p m c cX12_put 6 s args uG RX12) (hr : meth.sig.returnType = (some .int)) (hk : meth.locks = false) (hR : 0 ≤ R.frames ∧ 0 ≤ R.locals)
    (hrec7 : ∀ (v1 : Int32) (v2 : Int32) (v3 : Int32) (v4 : Int32) (σ : S5) (H : Heap) (locs : List Loc) (ls : Array Slot), gX (dC, dI) (tM kc) (wM ad kc) Z A s σ H locs → lv_has ls 6 [(0, .ref (ad 0)), (1, .int v1), (2, .int v2), (3, .int v3), (4, .int v4)] → rec7 v1 v2 v3 v4 σ = some (r, τ) → W p l e R s m args below meth c H locs 0 0 (MQ below (gQi (dC, dI) (tM kc) (wM ad kc) A r τ) args s 0 0 A) (F0 m 7 ls []))
    (X : gX (dC, dI) (tM kc) (wM ad kc) Z A s σ H locs) (hl : lv_has ls 6 [(0, .ref (ad 0)), (1, .int v1), (2, .int v2), (4, .int v4), (5, .int v5)]) (hg : f_X12_put_b59 rec7 v1 v2 v4 v5 u0 σ = some (r, τ)) : W p l e R s m args below meth c H locs 0 0 (MQ below (gQi (dC, dI) (tM kc) (wM ad kc) A r τ) args s 0 0 A) (F0 m 59 ls [.int u0]) := by
  have hx := S.1
  have hb := S.2.1
  have hown := S.2.2.2.1
  have hu := S.2.2.2.2
  unfold f_X12_put_b59 at hg
  refine lv_istore_n (lv' := [(3, .int u0), (0, .ref (ad 0)), (1, .int v1), (2, .int v2), (4, .int v4), (5, .int v5)]) hx hb dX12_put_59 rfl hl (by decide) rfl (fun ls hl => ?_)
  refine lv_iload_n hx hb dX12_put_60 rfl (lv_at hl 3 rfl) ?_
  refine lv_iload hx hb dX12_put_61 (lv_at hl 5 rfl) ?_
  refine lv_if_ne (tgt := 70) hx hb dX12_put_63 (by decide) (fun c63 => ?_) (fun c63 => ?_)
  · have hg := (if_neg c63).symm.trans hg
    refine lv_iconst (v := 1) hx hb dX12_put_70 (by decide) ?_
    exact w_X12_put_b71 S hr hk hR hrec7 X (lv_sub hl [1, 2, 0, 4] rfl) hg
  · have hg := (if_pos c63).symm.trans hg
    refine lv_iconst (v := 0) hx hb dX12_put_66 (by decide) ?_
    refine lv_goto (tgt := 71) hx hb dX12_put_67 (by decide) ?_
    exact w_X12_put_b71 S hr hk hR hrec7 X (lv_sub hl [1, 2, 0, 4] rfl) hg
set_option maxHeartbeats 4000000 in
set_option maxRecDepth 100000 in
theorem w_X12_put_b58 {σ : S5} {rec7 : Int32 → Int32 → Int32 → Int32 → S5 → Option (Int32 × S5)} {v1 : Int32} {v2 : Int32} {v4 : Int32} {v5 : Int32} {H : Heap} {locs : List Loc} {ls : Array Slot} (S : CallFix p m c cX12_put 6 s args uG RX12) (hr : meth.sig.returnType = (some .int)) (hk : meth.locks = false) (hR : 0 ≤ R.frames ∧ 0 ≤ R.locals)
    (hrec7 : ∀ (v1 : Int32) (v2 : Int32) (v3 : Int32) (v4 : Int32) (σ : S5) (H : Heap) (locs : List Loc) (ls : Array Slot), gX (dC, dI) (tM kc) (wM ad kc) Z A s σ H locs → lv_has ls 6 [(0, .ref (ad 0)), (1, .int v1), (2, .int v2), (3, .int v3), (4, .int v4)] → rec7 v1 v2 v3 v4 σ = some (r, τ) → W p l e R s m args below meth c H locs 0 0 (MQ below (gQi (dC, dI) (tM kc) (wM ad kc) A r τ) args s 0 0 A) (F0 m 7 ls []))
    (X : gX (dC, dI) (tM kc) (wM ad kc) Z A s σ H locs) (hl : lv_has ls 6 [(0, .ref (ad 0)), (1, .int v1), (2, .int v2), (4, .int v4), (5, .int v5)]) (hg : f_X12_put_b58 rec7 v1 v2 v4 v5 σ = some (r, τ)) : W p l e R s m args below meth c H locs 0 0 (MQ below (gQi (dC, dI) (tM kc) (wM ad kc) A r τ) args s 0 0 A) (F0 m 58 ls []) := by
  have hx := S.1
  have hb := S.2.1
  have hown := S.2.2.2.1
  have hu := S.2.2.2.2
  unfold f_X12_put_b58 at hg
  refine lv_iconst (v := 0) hx hb dX12_put_58 (by decide) ?_
  exact w_X12_put_b59 S hr hk hR hrec7 X (lv_sub hl [0, 1, 2, 3, 4] rfl) hg
set_option maxHeartbeats 4000000 in
set_option maxRecDepth 100000 in
theorem w_X12_put_b54 {σ : S5} {rec7 : Int32 → Int32 → Int32 → Int32 → S5 → Option (Int32 × S5)} {v1 : Int32} {v2 : Int32} {v4 : Int32} {v5 : Int32} {H : Heap} {locs : List Loc} {ls : Array Slot} (S : CallFix p m c cX12_put 6 s args uG RX12) (hr : meth.sig.returnType = (some .int)) (hk : meth.locks = false) (hR : 0 ≤ R.frames ∧ 0 ≤ R.locals)
    (hrec7 : ∀ (v1 : Int32) (v2 : Int32) (v3 : Int32) (v4 : Int32) (σ : S5) (H : Heap) (locs : List Loc) (ls : Array Slot), gX (dC, dI) (tM kc) (wM ad kc) Z A s σ H locs → lv_has ls 6 [(0, .ref (ad 0)), (1, .int v1), (2, .int v2), (3, .int v3), (4, .int v4)] → rec7 v1 v2 v3 v4 σ = some (r, τ) → W p l e R s m args below meth c H locs 0 0 (MQ below (gQi (dC, dI) (tM kc) (wM ad kc) A r τ) args s 0 0 A) (F0 m 7 ls []))
    (X : gX (dC, dI) (tM kc) (wM ad kc) Z A s σ H locs) (hl : lv_has ls 6 [(0, .ref (ad 0)), (1, .int v1), (2, .int v2), (4, .int v4), (5, .int v5)]) (hg : f_X12_put_b54 rec7 v1 v2 v4 v5 σ = some (r, τ)) : W p l e R s m args below meth c H locs 0 0 (MQ below (gQi (dC, dI) (tM kc) (wM ad kc) A r τ) args s 0 0 A) (F0 m 54 ls []) := by
  have hx := S.1
  have hb := S.2.1
  have hown := S.2.2.2.1
  have hu := S.2.2.2.2
  unfold f_X12_put_b54 at hg
  refine lv_iconst (v := 1) hx hb dX12_put_54 (by decide) ?_
  refine lv_goto (tgt := 59) hx hb dX12_put_55 (by decide) ?_
  exact w_X12_put_b59 S hr hk hR hrec7 X (lv_sub hl [0, 1, 2, 3, 4] rfl) hg
set_option maxHeartbeats 4000000 in
set_option maxRecDepth 100000 in
theorem w_X12_put_B7 {σ : S5} {rec7 : Int32 → Int32 → Int32 → Int32 → S5 → Option (Int32 × S5)} {v1 : Int32} {v2 : Int32} {v3 : Int32} {v4 : Int32} {H : Heap} {locs : List Loc} {ls : Array Slot} (S : CallFix p m c cX12_put 6 s args uG RX12) (hr : meth.sig.returnType = (some .int)) (hk : meth.locks = false) (hR : 0 ≤ R.frames ∧ 0 ≤ R.locals)
    (hrec7 : ∀ (v1 : Int32) (v2 : Int32) (v3 : Int32) (v4 : Int32) (σ : S5) (H : Heap) (locs : List Loc) (ls : Array Slot), gX (dC, dI) (tM kc) (wM ad kc) Z A s σ H locs → lv_has ls 6 [(0, .ref (ad 0)), (1, .int v1), (2, .int v2), (3, .int v3), (4, .int v4)] → rec7 v1 v2 v3 v4 σ = some (r, τ) → W p l e R s m args below meth c H locs 0 0 (MQ below (gQi (dC, dI) (tM kc) (wM ad kc) A r τ) args s 0 0 A) (F0 m 7 ls []))
    (X : gX (dC, dI) (tM kc) (wM ad kc) Z A s σ H locs) (hl : lv_has ls 6 [(0, .ref (ad 0)), (1, .int v1), (2, .int v2), (3, .int v3), (4, .int v4)]) (hg : f_X12_put_B7 rec7 v1 v2 v3 v4 σ = some (r, τ)) : W p l e R s m args below meth c H locs 0 0 (MQ below (gQi (dC, dI) (tM kc) (wM ad kc) A r τ) args s 0 0 A) (F0 m 7 ls []) := by
  have hx := S.1
  have hb := S.2.1
  have hown := S.2.2.2.1
  have hu := S.2.2.2.2
  unfold f_X12_put_B7 at hg
  refine lv_iload hx hb dX12_put_7 (lv_at hl 4 rfl) ?_
  refine lv_bipush (v := 32) hx hb dX12_put_9 (by decide) ?_
  refine lv_icmp_ge (tgt := 79) hx hb dX12_put_11 (by decide) (fun c11 => ?_) (fun c11 => ?_)
  · have hg := (if_pos c11).symm.trans hg
    refine lv_aload_n hx hb dX12_put_79 rfl (lv_at hl 0 rfl) ?_
    refine lv_iload_n hx hb dX12_put_80 rfl (lv_at hl 3 rfl) ?_
    refine lv_if_ne (tgt := 88) hx hb dX12_put_81 (by decide) (fun c81 => ?_) (fun c81 => ?_)
    · have hg := (if_neg c81).symm.trans hg
      refine lv_aload_n hx hb dX12_put_88 rfl (lv_at hl 0 rfl) ?_
      refine wmgI_1 (v := (gI σ 1)) S X mG_2052 rfl dX12_put_89 ?_
      refine lv_iload_n hx hb dX12_put_92 rfl (lv_at hl 2 rfl) ?_
      refine lv_iadd hx hb dX12_put_93 ?_
      refine lv_sipush (v := 3000) hx hb dX12_put_94 (by decide) ?_
      refine lv_icmp_le (tgt := 104) hx hb dX12_put_97 (by decide) (fun c97 => ?_) (fun c97 => ?_)
      · have hg := (if_pos c97).symm.trans hg
        refine lv_iconst (v := 0) hx hb dX12_put_104 (by decide) ?_
        exact w_X12_put_b105 S hr hk hR X (lv_sub hl [0, 1] rfl) hg
      · have hg := (if_neg c97).symm.trans hg
        refine lv_iconst (v := 2) hx hb dX12_put_100 (by decide) ?_
        refine lv_goto (tgt := 105) hx hb dX12_put_101 (by decide) ?_
        exact w_X12_put_b105 S hr hk hR X (lv_sub hl [0, 1] rfl) hg
    · have hg := (if_pos c81).symm.trans hg
      refine lv_iconst (v := 1) hx hb dX12_put_84 (by decide) ?_
      refine lv_goto (tgt := 105) hx hb dX12_put_85 (by decide) ?_
      exact w_X12_put_b105 S hr hk hR X (lv_sub hl [0, 1] rfl) hg
  · have hg := (if_neg c11).symm.trans hg
    refine lv_iload_n hx hb dX12_put_14 rfl (lv_at hl 1 rfl) ?_
    refine lv_iload hx hb dX12_put_15 (lv_at hl 4 rfl) ?_
    refine lv_ishr hx hb dX12_put_17 ?_
    refine lv_sipush (v := 255) hx hb dX12_put_18 (by decide) ?_
    refine lv_iand hx hb dX12_put_21 ?_
    refine lv_istore (lv' := [(5, .int ((v1 >>> (v4 &&& 31)) &&& 255)), (0, .ref (ad 0)), (1, .int v1), (2, .int v2), (3, .int v3), (4, .int v4)]) hx hb dX12_put_22 hl (by decide) rfl (fun ls hl => ?_)
    refine lv_iload_n hx hb dX12_put_24 rfl (lv_at hl 4 rfl) ?_
    refine lv_if_eq (tgt := 58) hx hb dX12_put_25 (by decide) (fun c25 => ?_) (fun c25 => ?_)
    · have hg := (if_pos c25).symm.trans hg
      exact w_X12_put_b58 S hr hk hR hrec7 X (lv_sub hl [1, 2, 3, 5, 0] rfl) hg
    · have hg := (if_neg c25).symm.trans hg
      refine lv_iload hx hb dX12_put_28 (lv_at hl 0 rfl) ?_
      refine lv_if_eq (tgt := 54) hx hb dX12_put_30 (by decide) (fun c30 => ?_) (fun c30 => ?_)
      · have hg := (if_pos c30).symm.trans hg
        exact w_X12_put_b54 S hr hk hR hrec7 X (lv_sub hl [1, 2, 3, 5, 0] rfl) hg
      · have hg := (if_neg c30).symm.trans hg
        refine lv_iload hx hb dX12_put_33 (lv_at hl 0 rfl) ?_
        refine lv_bipush (v := 10) hx hb dX12_put_35 (by decide) ?_
        refine lv_icmp_eq (tgt := 54) hx hb dX12_put_37 (by decide) (fun c37 => ?_) (fun c37 => ?_)
        · have hg := (if_pos c37).symm.trans hg
          exact w_X12_put_b54 S hr hk hR hrec7 X (lv_sub hl [1, 2, 3, 5, 0] rfl) hg
        · have hg := (if_neg c37).symm.trans hg
          refine lv_iload hx hb dX12_put_40 (lv_at hl 0 rfl) ?_
          refine lv_bipush (v := 32) hx hb dX12_put_42 (by decide) ?_
          refine lv_icmp_lt (tgt := 58) hx hb dX12_put_44 (by decide) (fun c44 => ?_) (fun c44 => ?_)
          · have hg := (if_pos c44).symm.trans hg
            exact w_X12_put_b58 S hr hk hR hrec7 X (lv_sub hl [1, 2, 3, 5, 0] rfl) hg
          · have hg := (if_neg c44).symm.trans hg
            refine lv_iload hx hb dX12_put_47 (lv_at hl 0 rfl) ?_
            refine lv_bipush (v := 126) hx hb dX12_put_49 (by decide) ?_
            refine lv_icmp_gt (tgt := 58) hx hb dX12_put_51 (by decide) (fun c51 => ?_) (fun c51 => ?_)
            · have hg := (if_pos c51).symm.trans hg
              exact w_X12_put_b58 S hr hk hR hrec7 X (lv_sub hl [1, 2, 3, 5, 0] rfl) hg
            · have hg := (if_neg c51).symm.trans hg
              exact w_X12_put_b54 S hr hk hR hrec7 X (lv_sub hl [1, 2, 3, 5, 0] rfl) hg
set_option maxHeartbeats 4000000 in
set_option maxRecDepth 100000 in
theorem w_X12_put_L7 (S : CallFix p m c cX12_put 6 s args uG RX12) (hr : meth.sig.returnType = (some .int)) (hk : meth.locks = false) (hR : 0 ≤ R.frames ∧ 0 ≤ R.locals) : ∀ (n : Nat) (v1 : Int32) (v2 : Int32) (v3 : Int32) (v4 : Int32) (σ : S5) (H : Heap) (locs : List Loc) (ls : Array Slot), gX (dC, dI) (tM kc) (wM ad kc) Z A s σ H locs → lv_has ls 6 [(0, .ref (ad 0)), (1, .int v1), (2, .int v2), (3, .int v3), (4, .int v4)] → f_X12_put_L7  n v1 v2 v3 v4 σ = some (r, τ) → W p l e R s m args below meth c H locs 0 0 (MQ below (gQi (dC, dI) (tM kc) (wM ad kc) A r τ) args s 0 0 A) (F0 m 7 ls []) := by
  intro n
  induction n with
  | zero => intro v1 v2 v3 v4 σ H locs ls X hl hg; cases hg
  | succ n ih => intro v1 v2 v3 v4 σ H locs ls X hl hg; exact w_X12_put_B7 S hr hk hR ih X hl hg
set_option maxHeartbeats 4000000 in
set_option maxRecDepth 100000 in
theorem w_X12_put {σ : S5} {a1 : Int32} {H : Heap} {locs : List Loc} {ls : Array Slot} (S : CallFix p m c cX12_put 6 s args uG RX12) (hr : meth.sig.returnType = (some .int)) (hk : meth.locks = false) (hR : 0 ≤ R.frames ∧ 0 ≤ R.locals)
    (X : gX (dC, dI) (tM kc) (wM ad kc) Z A s σ H locs) (hl : lv_has ls 6 [(0, .ref (ad 0)), (1, .int a1)]) (hg : f_X12_put a1 σ = some (r, τ)) : W p l e R s m args below meth c H locs 0 0 (MQ below (gQi (dC, dI) (tM kc) (wM ad kc) A r τ) args s 0 0 A) (F0 m 0 ls []) := by
  have hx := S.1
  have hb := S.2.1
  have hown := S.2.2.2.1
  have hu := S.2.2.2.2
  unfold f_X12_put at hg
  refine lv_iconst (v := 0) hx hb dX12_put_0 (by decide) ?_
  refine lv_istore_n (lv' := [(2, .int 0), (0, .ref (ad 0)), (1, .int a1)]) hx hb dX12_put_1 rfl hl (by decide) rfl (fun ls hl => ?_)
  refine lv_iconst (v := 1) hx hb dX12_put_2 (by decide) ?_
  refine lv_istore_n (lv' := [(3, .int 1), (2, .int 0), (0, .ref (ad 0)), (1, .int a1)]) hx hb dX12_put_3 rfl hl (by decide) rfl (fun ls hl => ?_)
  refine lv_iconst (v := 0) hx hb dX12_put_4 (by decide) ?_
  refine lv_istore (lv' := [(4, .int 0), (3, .int 1), (2, .int 0), (0, .ref (ad 0)), (1, .int a1)]) hx hb dX12_put_5 hl (by decide) rfl (fun ls hl => ?_)
  exact w_X12_put_L7 S hr hk hR _ _ _ _ _ _ _ _ _ X (lv_sub hl [3, 4, 2, 1, 0] rfl) hg
end MX12_put
set_option maxRecDepth 100000 in
theorem k2_X12_put (l : Launch) (dC : Nat → ClassId) (dI : Nat → Nat → Nat) {Z : ZZ} (ad : Nat → Nat) (kc : Nat → ClassId) {σ τ : S5} {a1 : Int32} {r : Int32} (hg : f_X12_put a1 σ = some (r, τ)) (sz : Nat) : Met l yX12_put (Cond.code yX12_put cX12_put 6 (some .int) :: uG) { frames := 0, cells := 0, slots := 0, locals := 0 } (gPc (dC, dI) (tM kc) (wM ad kc) Z [.ref (ad 0), .int a1] σ sz) (gQi (dC, dI) (tM kc) (wM ad kc) (va_A (wM ad kc σ) sz) r τ) 0 0 (va_A (wM ad kc σ) sz) :=
  g_start (by decide) (Nat.le_of_ble_eq_true rfl) (fun p e s m below meth c ls S hr hk X hl => w_X12_put S hr hk ⟨Nat.le_refl _, Nat.le_refl _⟩ X hl hg)
section MX12_end
variable {p : Program} {l : Launch} {e : Env} {R : Room} {s : State} {m : MethodId} {args : Array Value} {below : List Frame} {meth : Method} {c : Code} {dC : Nat → ClassId} {dI : Nat → Nat → Nat} {Z : ZZ} {A : Nat → Prop} {ad : Nat → Nat} {kc : Nat → ClassId} {r : Unit} {τ : S5}
set_option maxHeartbeats 4000000 in
set_option maxRecDepth 100000 in
theorem w_X12_end_b18 {σ : S5} {v1 : Int32} {u0 : Int32} {H : Heap} {locs : List Loc} {ls : Array Slot} (S : CallFix p m c cX12_end 2 s args uG RX12) (hr : meth.sig.returnType = none) (hk : meth.locks = false) (hR : 0 ≤ R.frames ∧ 0 ≤ R.locals)
    (X : gX (dC, dI) (tM kc) (wM ad kc) Z A s σ H locs) (hl : lv_has ls 2 [(0, .ref (ad 0)), (1, .int v1)]) (hg : f_X12_end_b18 v1 u0 σ = some (r, τ)) : W p l e R s m args below meth c H locs 0 0 (MQ below (gQv (dC, dI) (tM kc) (wM ad kc) A r τ) args s 0 0 A) (F0 m 18 ls [.int u0, .ref (ad 0)]) := by
  have hx := S.1
  have hb := S.2.1
  have hown := S.2.2.2.1
  have hu := S.2.2.2.2
  unfold f_X12_end_b18 at hg
  refine wmpI_0 S X mG_2050 dX12_end_18 (fun H locs X => ?_)
  refine lv_aload_n hx hb dX12_end_21 rfl (lv_at hl 0 rfl) ?_
  refine wmgI_0 (v := u0) S X mG_2050 rfl dX12_end_22 ?_
  refine lv_if_ne (tgt := 33) hx hb dX12_end_25 (by decide) (fun c25 => ?_) (fun c25 => ?_)
  · have hg := (if_neg c25).symm.trans hg
    obtain ⟨-, rfl⟩ := fin_some hg
    exact gr_v S hr hk X dX12_end_33
  · have hg := (if_pos c25).symm.trans hg
    refine lv_aload_n hx hb dX12_end_28 rfl (lv_at hl 0 rfl) ?_
    refine lv_iload_n hx hb dX12_end_29 rfl (lv_at hl 1 rfl) ?_
    refine wmpI_1 S X mG_2052 dX12_end_30 (fun H locs X => ?_)
    obtain ⟨-, rfl⟩ := fin_some hg
    exact gr_v S hr hk X dX12_end_33
set_option maxHeartbeats 4000000 in
set_option maxRecDepth 100000 in
theorem w_X12_end_b13 {σ : S5} {v1 : Int32} {H : Heap} {locs : List Loc} {ls : Array Slot} (S : CallFix p m c cX12_end 2 s args uG RX12) (hr : meth.sig.returnType = none) (hk : meth.locks = false) (hR : 0 ≤ R.frames ∧ 0 ≤ R.locals)
    (X : gX (dC, dI) (tM kc) (wM ad kc) Z A s σ H locs) (hl : lv_has ls 2 [(0, .ref (ad 0)), (1, .int v1)]) (hg : f_X12_end_b13 v1 σ = some (r, τ)) : W p l e R s m args below meth c H locs 0 0 (MQ below (gQv (dC, dI) (tM kc) (wM ad kc) A r τ) args s 0 0 A) (F0 m 13 ls [.ref (ad 0)]) := by
  have hx := S.1
  have hb := S.2.1
  have hown := S.2.2.2.1
  have hu := S.2.2.2.2
  unfold f_X12_end_b13 at hg
  refine lv_iconst (v := 1) hx hb dX12_end_13 (by decide) ?_
  refine lv_goto (tgt := 18) hx hb dX12_end_14 (by decide) ?_
  exact w_X12_end_b18 S hr hk hR X (lv_sub hl [0, 1] rfl) hg
set_option maxHeartbeats 4000000 in
set_option maxRecDepth 100000 in
theorem w_X12_end {σ : S5} {a1 : Int32} {H : Heap} {locs : List Loc} {ls : Array Slot} (S : CallFix p m c cX12_end 2 s args uG RX12) (hr : meth.sig.returnType = none) (hk : meth.locks = false) (hR : 0 ≤ R.frames ∧ 0 ≤ R.locals)
    (X : gX (dC, dI) (tM kc) (wM ad kc) Z A s σ H locs) (hl : lv_has ls 2 [(0, .ref (ad 0)), (1, .int a1)]) (hg : f_X12_end a1 σ = some (r, τ)) : W p l e R s m args below meth c H locs 0 0 (MQ below (gQv (dC, dI) (tM kc) (wM ad kc) A r τ) args s 0 0 A) (F0 m 0 ls []) := by
  have hx := S.1
  have hb := S.2.1
  have hown := S.2.2.2.1
  have hu := S.2.2.2.2
  unfold f_X12_end at hg
  refine lv_aload_n hx hb dX12_end_0 rfl (lv_at hl 0 rfl) ?_
  refine lv_iload_n hx hb dX12_end_1 rfl (lv_at hl 1 rfl) ?_
  refine lv_if_lt (tgt := 13) hx hb dX12_end_2 (by decide) (fun c2 => ?_) (fun c2 => ?_)
  · have hg := (if_pos c2).symm.trans hg
    exact w_X12_end_b13 S hr hk hR X (lv_sub hl [0, 1] rfl) hg
  · have hg := (if_neg c2).symm.trans hg
    refine lv_iload_n hx hb dX12_end_5 rfl (lv_at hl 1 rfl) ?_
    refine lv_aload_n hx hb dX12_end_6 rfl (lv_at hl 0 rfl) ?_
    refine wmgI_1 (v := (gI σ 1)) S X mG_2052 rfl dX12_end_7 ?_
    refine lv_icmp_le (tgt := 17) hx hb dX12_end_10 (by decide) (fun c10 => ?_) (fun c10 => ?_)
    · have hg := (if_pos c10).symm.trans hg
      refine lv_iconst (v := 0) hx hb dX12_end_17 (by decide) ?_
      exact w_X12_end_b18 S hr hk hR X (lv_sub hl [0, 1] rfl) hg
    · have hg := (if_neg c10).symm.trans hg
      exact w_X12_end_b13 S hr hk hR X (lv_sub hl [0, 1] rfl) hg
end MX12_end
set_option maxRecDepth 100000 in
theorem k2_X12_end (l : Launch) (dC : Nat → ClassId) (dI : Nat → Nat → Nat) {Z : ZZ} (ad : Nat → Nat) (kc : Nat → ClassId) {σ τ : S5} {a1 : Int32} {r : Unit} (hg : f_X12_end a1 σ = some (r, τ)) (sz : Nat) : Met l yX12_end (Cond.code yX12_end cX12_end 2 none :: uG) { frames := 0, cells := 0, slots := 0, locals := 0 } (gPc (dC, dI) (tM kc) (wM ad kc) Z [.ref (ad 0), .int a1] σ sz) (gQv (dC, dI) (tM kc) (wM ad kc) (va_A (wM ad kc σ) sz) r τ) 0 0 (va_A (wM ad kc σ) sz) :=
  g_start (by decide) (Nat.le_of_ble_eq_true rfl) (fun p e s m below meth c ls S hr hk X hl => w_X12_end S hr hk ⟨Nat.le_refl _, Nat.le_refl _⟩ X hl hg)
section MX12_take
variable {p : Program} {l : Launch} {e : Env} {R : Room} {s : State} {m : MethodId} {args : Array Value} {below : List Frame} {meth : Method} {c : Code} {dC : Nat → ClassId} {dI : Nat → Nat → Nat} {Z : ZZ} {A : Nat → Prop} {ad : Nat → Nat} {kc : Nat → ClassId} {r : Int32} {τ : S5}
set_option maxHeartbeats 4000000 in
set_option maxRecDepth 100000 in
theorem w_X12_take_B19 {σ : S5} {rec19 : Int32 → S5 → Option (Int32 × S5)} {v1 : Int32} {H : Heap} {locs : List Loc} {ls : Array Slot} (S : CallFix p m c cX12_take 2 s args uG RX12) (hr : meth.sig.returnType = (some .int)) (hk : meth.locks = false) (hR : 0 ≤ R.frames ∧ 0 ≤ R.locals)
    (hrec19 : ∀ (v1 : Int32) (σ : S5) (H : Heap) (locs : List Loc) (ls : Array Slot), gX (dC, dI) (tM kc) (wM ad kc) Z A s σ H locs → lv_has ls 2 [(0, .ref (ad 0)), (1, .int v1)] → rec19 v1 σ = some (r, τ) → W p l e R s m args below meth c H locs 0 0 (MQ below (gQi (dC, dI) (tM kc) (wM ad kc) A r τ) args s 0 0 A) (F0 m 19 ls []))
    (X : gX (dC, dI) (tM kc) (wM ad kc) Z A s σ H locs) (hl : lv_has ls 2 [(0, .ref (ad 0)), (1, .int v1)]) (hg : f_X12_take_B19 rec19 v1 σ = some (r, τ)) : W p l e R s m args below meth c H locs 0 0 (MQ below (gQi (dC, dI) (tM kc) (wM ad kc) A r τ) args s 0 0 A) (F0 m 19 ls []) := by
  have hx := S.1
  have hb := S.2.1
  have hown := S.2.2.2.1
  have hu := S.2.2.2.2
  unfold f_X12_take_B19 at hg
  refine lv_iload_n hx hb dX12_take_19 rfl (lv_at hl 1 rfl) ?_
  refine lv_aload_n hx hb dX12_take_20 rfl (lv_at hl 0 rfl) ?_
  refine wmgI_2 (v := (gI σ 2)) S X mG_2054 rfl dX12_take_21 ?_
  refine lv_icmp_ge (tgt := 45) hx hb dX12_take_24 (by decide) (fun c24 => ?_) (fun c24 => ?_)
  · have hg := (if_pos c24).symm.trans hg
    refine lv_aload_n hx hb dX12_take_45 rfl (lv_at hl 0 rfl) ?_
    refine lv_aload_n hx hb dX12_take_46 rfl (lv_at hl 0 rfl) ?_
    refine wmgI_2 (v := (gI σ 2)) S X mG_2054 rfl dX12_take_47 ?_
    refine wmpI_1 S X mG_2052 dX12_take_50 (fun H locs X => ?_)
    refine lv_aload_n hx hb dX12_take_53 rfl (lv_at hl 0 rfl) ?_
    refine wmgI_1 (v := (gI σ 2)) S X mG_2052 rfl dX12_take_54 ?_
    obtain ⟨rfl, rfl⟩ := fin_some hg
    exact gr_i S hr hk X dX12_take_57
  · have hg := (if_neg c24).symm.trans hg
    refine lv_aload_n hx hb dX12_take_27 rfl (lv_at hl 0 rfl) ?_
    refine wmgR_0_1 S X mG_2051 dX12_take_28 ?_
    refine lv_iload_n hx hb dX12_take_31 rfl (lv_at hl 1 rfl) ?_
    refine lv_aload_n hx hb dX12_take_32 rfl (lv_at hl 0 rfl) ?_
    refine wmgR_0_3 S X mG_2053 dX12_take_33 ?_
    refine lv_iload_n hx hb dX12_take_36 rfl (lv_at hl 1 rfl) ?_
    obtain ⟨hi37, hg⟩ := gd_some hg
    refine wmlA_1 (v := (xA σ 1 v1)) S X hi37 rfl dX12_take_37 ?_
    obtain ⟨hi38, hg⟩ := gd_some hg
    refine wmsA_0 S X hi38 dX12_take_38 (fun H locs X => ?_)
    refine lv_iinc (v := (v1 + 1)) (lv' := [(1, .int (v1 + 1)), (0, .ref (ad 0))]) hx hb dX12_take_39 hl (k := 1) rfl (by rfl) (by decide) rfl (fun ls hl => ?_)
    refine lv_goto (tgt := 19) hx hb dX12_take_42 (by decide) ?_
    exact hrec19 _ _ _ _ _ X (lv_sub hl [1, 0] rfl) hg
set_option maxHeartbeats 4000000 in
set_option maxRecDepth 100000 in
theorem w_X12_take_L19 (S : CallFix p m c cX12_take 2 s args uG RX12) (hr : meth.sig.returnType = (some .int)) (hk : meth.locks = false) (hR : 0 ≤ R.frames ∧ 0 ≤ R.locals) : ∀ (n : Nat) (v1 : Int32) (σ : S5) (H : Heap) (locs : List Loc) (ls : Array Slot), gX (dC, dI) (tM kc) (wM ad kc) Z A s σ H locs → lv_has ls 2 [(0, .ref (ad 0)), (1, .int v1)] → f_X12_take_L19  n v1 σ = some (r, τ) → W p l e R s m args below meth c H locs 0 0 (MQ below (gQi (dC, dI) (tM kc) (wM ad kc) A r τ) args s 0 0 A) (F0 m 19 ls []) := by
  intro n
  induction n with
  | zero => intro v1 σ H locs ls X hl hg; cases hg
  | succ n ih => intro v1 σ H locs ls X hl hg; exact w_X12_take_B19 S hr hk hR ih X hl hg
set_option maxHeartbeats 4000000 in
set_option maxRecDepth 100000 in
theorem w_X12_take {σ : S5}  {H : Heap} {locs : List Loc} {ls : Array Slot} (S : CallFix p m c cX12_take 2 s args uG RX12) (hr : meth.sig.returnType = (some .int)) (hk : meth.locks = false) (hR : 0 ≤ R.frames ∧ 0 ≤ R.locals)
    (X : gX (dC, dI) (tM kc) (wM ad kc) Z A s σ H locs) (hl : lv_has ls 2 [(0, .ref (ad 0))]) (hg : f_X12_take  σ = some (r, τ)) : W p l e R s m args below meth c H locs 0 0 (MQ below (gQi (dC, dI) (tM kc) (wM ad kc) A r τ) args s 0 0 A) (F0 m 0 ls []) := by
  have hx := S.1
  have hb := S.2.1
  have hown := S.2.2.2.1
  have hu := S.2.2.2.2
  unfold f_X12_take at hg
  refine lv_aload_n hx hb dX12_take_0 rfl (lv_at hl 0 rfl) ?_
  refine lv_iconst (v := 0) hx hb dX12_take_1 (by decide) ?_
  refine wmpI_0 S X mG_2050 dX12_take_2 (fun H locs X => ?_)
  refine lv_aload_n hx hb dX12_take_5 rfl (lv_at hl 0 rfl) ?_
  refine wmgI_2 (v := (gI σ 2)) S X mG_2054 rfl dX12_take_6 ?_
  refine lv_sipush (v := 3000) hx hb dX12_take_9 (by decide) ?_
  refine lv_icmp_le (tgt := 17) hx hb dX12_take_12 (by decide) (fun c12 => ?_) (fun c12 => ?_)
  · have hg := (if_pos c12).symm.trans hg
    refine lv_iconst (v := 0) hx hb dX12_take_17 (by decide) ?_
    refine lv_istore_n (lv' := [(1, .int 0), (0, .ref (ad 0))]) hx hb dX12_take_18 rfl hl (by decide) rfl (fun ls hl => ?_)
    exact w_X12_take_L19 S hr hk hR _ _ _ _ _ _ X (lv_sub hl [1, 0] rfl) hg
  · have hg := (if_neg c12).symm.trans hg
    refine lv_iconst (v := (-1)) hx hb dX12_take_15 (by decide) ?_
    obtain ⟨rfl, rfl⟩ := fin_some hg
    exact gr_i S hr hk X dX12_take_16
end MX12_take
set_option maxRecDepth 100000 in
theorem k2_X12_take (l : Launch) (dC : Nat → ClassId) (dI : Nat → Nat → Nat) {Z : ZZ} (ad : Nat → Nat) (kc : Nat → ClassId) {σ τ : S5}  {r : Int32} (hg : f_X12_take  σ = some (r, τ)) (sz : Nat) : Met l yX12_take (Cond.code yX12_take cX12_take 2 (some .int) :: uG) { frames := 0, cells := 0, slots := 0, locals := 0 } (gPc (dC, dI) (tM kc) (wM ad kc) Z [.ref (ad 0)] σ sz) (gQi (dC, dI) (tM kc) (wM ad kc) (va_A (wM ad kc σ) sz) r τ) 0 0 (va_A (wM ad kc σ) sz) :=
  g_start (by decide) (Nat.le_of_ble_eq_true rfl) (fun p e s m below meth c ls S hr hk X hl => w_X12_take S hr hk ⟨Nat.le_refl _, Nat.le_refl _⟩ X hl hg)
section MX12_fault
variable {p : Program} {l : Launch} {e : Env} {R : Room} {s : State} {m : MethodId} {args : Array Value} {below : List Frame} {meth : Method} {c : Code} {dC : Nat → ClassId} {dI : Nat → Nat → Nat} {Z : ZZ} {A : Nat → Prop} {ad : Nat → Nat} {kc : Nat → ClassId} {r : Int32} {τ : S5}
set_option maxHeartbeats 4000000 in
set_option maxRecDepth 100000 in
theorem w_X12_fault_b15 {σ : S5} {v1 : Int32} {u0 : Int32} {H : Heap} {locs : List Loc} {ls : Array Slot} (S : CallFix p m c cX12_fault 2 s args uG RX12) (hr : meth.sig.returnType = (some .int)) (hk : meth.locks = false) (hR : 0 ≤ R.frames ∧ 0 ≤ R.locals)
    (X : gX (dC, dI) (tM kc) (wM ad kc) Z A s σ H locs) (hl : lv_has ls 2 [(0, .ref (ad 0)), (1, .int v1)]) (hg : f_X12_fault_b15 v1 u0 σ = some (r, τ)) : W p l e R s m args below meth c H locs 0 0 (MQ below (gQi (dC, dI) (tM kc) (wM ad kc) A r τ) args s 0 0 A) (F0 m 15 ls [.int u0, .ref (ad 0)]) := by
  have hx := S.1
  have hb := S.2.1
  have hown := S.2.2.2.1
  have hu := S.2.2.2.2
  unfold f_X12_fault_b15 at hg
  refine wmpI_0 S X mG_2050 dX12_fault_15 (fun H locs X => ?_)
  refine lv_aload_n hx hb dX12_fault_18 rfl (lv_at hl 0 rfl) ?_
  refine wmgI_0 (v := u0) S X mG_2050 rfl dX12_fault_19 ?_
  refine lv_if_le (tgt := 29) hx hb dX12_fault_22 (by decide) (fun c22 => ?_) (fun c22 => ?_)
  · have hg := (if_pos c22).symm.trans hg
    refine lv_iload_n hx hb dX12_fault_29 rfl (lv_at hl 1 rfl) ?_
    refine lv_if_ne (tgt := 40) hx hb dX12_fault_30 (by decide) (fun c30 => ?_) (fun c30 => ?_)
    · have hg := (if_neg c30).symm.trans hg
      refine lv_aload_n hx hb dX12_fault_40 rfl (lv_at hl 0 rfl) ?_
      refine wmgI_31 (v := (gI σ 31)) S X mG_2140 rfl dX12_fault_41 ?_
      obtain ⟨rfl, rfl⟩ := fin_some hg
      exact gr_i S hr hk X dX12_fault_44
    · have hg := (if_pos c30).symm.trans hg
      refine lv_aload_n hx hb dX12_fault_33 rfl (lv_at hl 0 rfl) ?_
      refine wmgI_30 (v := (gI σ 30)) S X mG_2139 rfl dX12_fault_34 ?_
      refine lv_goto (tgt := 44) hx hb dX12_fault_37 (by decide) ?_
      obtain ⟨rfl, rfl⟩ := fin_some hg
      exact gr_i S hr hk X dX12_fault_44
  · have hg := (if_neg c22).symm.trans hg
    refine lv_iconst (v := 0) hx hb dX12_fault_25 (by decide) ?_
    refine lv_goto (tgt := 44) hx hb dX12_fault_26 (by decide) ?_
    obtain ⟨rfl, rfl⟩ := fin_some hg
    exact gr_i S hr hk X dX12_fault_44
set_option maxHeartbeats 4000000 in
set_option maxRecDepth 100000 in
theorem w_X12_fault_b10 {σ : S5} {v1 : Int32} {H : Heap} {locs : List Loc} {ls : Array Slot} (S : CallFix p m c cX12_fault 2 s args uG RX12) (hr : meth.sig.returnType = (some .int)) (hk : meth.locks = false) (hR : 0 ≤ R.frames ∧ 0 ≤ R.locals)
    (X : gX (dC, dI) (tM kc) (wM ad kc) Z A s σ H locs) (hl : lv_has ls 2 [(0, .ref (ad 0)), (1, .int v1)]) (hg : f_X12_fault_b10 v1 σ = some (r, τ)) : W p l e R s m args below meth c H locs 0 0 (MQ below (gQi (dC, dI) (tM kc) (wM ad kc) A r τ) args s 0 0 A) (F0 m 10 ls [.ref (ad 0)]) := by
  have hx := S.1
  have hb := S.2.1
  have hown := S.2.2.2.1
  have hu := S.2.2.2.2
  unfold f_X12_fault_b10 at hg
  refine lv_iconst (v := 1) hx hb dX12_fault_10 (by decide) ?_
  refine lv_goto (tgt := 15) hx hb dX12_fault_11 (by decide) ?_
  exact w_X12_fault_b15 S hr hk hR X (lv_sub hl [0, 1] rfl) hg
set_option maxHeartbeats 4000000 in
set_option maxRecDepth 100000 in
theorem w_X12_fault {σ : S5} {a1 : Int32} {H : Heap} {locs : List Loc} {ls : Array Slot} (S : CallFix p m c cX12_fault 2 s args uG RX12) (hr : meth.sig.returnType = (some .int)) (hk : meth.locks = false) (hR : 0 ≤ R.frames ∧ 0 ≤ R.locals)
    (X : gX (dC, dI) (tM kc) (wM ad kc) Z A s σ H locs) (hl : lv_has ls 2 [(0, .ref (ad 0)), (1, .int a1)]) (hg : f_X12_fault a1 σ = some (r, τ)) : W p l e R s m args below meth c H locs 0 0 (MQ below (gQi (dC, dI) (tM kc) (wM ad kc) A r τ) args s 0 0 A) (F0 m 0 ls []) := by
  have hx := S.1
  have hb := S.2.1
  have hown := S.2.2.2.1
  have hu := S.2.2.2.2
  unfold f_X12_fault at hg
  refine lv_aload_n hx hb dX12_fault_0 rfl (lv_at hl 0 rfl) ?_
  refine lv_iload_n hx hb dX12_fault_1 rfl (lv_at hl 1 rfl) ?_
  refine lv_if_lt (tgt := 10) hx hb dX12_fault_2 (by decide) (fun c2 => ?_) (fun c2 => ?_)
  · have hg := (if_pos c2).symm.trans hg
    exact w_X12_fault_b10 S hr hk hR X (lv_sub hl [0, 1] rfl) hg
  · have hg := (if_neg c2).symm.trans hg
    refine lv_iload_n hx hb dX12_fault_5 rfl (lv_at hl 1 rfl) ?_
    refine lv_iconst (v := 1) hx hb dX12_fault_6 (by decide) ?_
    refine lv_icmp_le (tgt := 14) hx hb dX12_fault_7 (by decide) (fun c7 => ?_) (fun c7 => ?_)
    · have hg := (if_pos c7).symm.trans hg
      refine lv_iconst (v := 0) hx hb dX12_fault_14 (by decide) ?_
      exact w_X12_fault_b15 S hr hk hR X (lv_sub hl [0, 1] rfl) hg
    · have hg := (if_neg c7).symm.trans hg
      exact w_X12_fault_b10 S hr hk hR X (lv_sub hl [0, 1] rfl) hg
end MX12_fault
set_option maxRecDepth 100000 in
theorem k2_X12_fault (l : Launch) (dC : Nat → ClassId) (dI : Nat → Nat → Nat) {Z : ZZ} (ad : Nat → Nat) (kc : Nat → ClassId) {σ τ : S5} {a1 : Int32} {r : Int32} (hg : f_X12_fault a1 σ = some (r, τ)) (sz : Nat) : Met l yX12_fault (Cond.code yX12_fault cX12_fault 2 (some .int) :: uG) { frames := 0, cells := 0, slots := 0, locals := 0 } (gPc (dC, dI) (tM kc) (wM ad kc) Z [.ref (ad 0), .int a1] σ sz) (gQi (dC, dI) (tM kc) (wM ad kc) (va_A (wM ad kc σ) sz) r τ) 0 0 (va_A (wM ad kc σ) sz) :=
  g_start (by decide) (Nat.le_of_ble_eq_true rfl) (fun p e s m below meth c ls S hr hk X hl => w_X12_fault S hr hk ⟨Nat.le_refl _, Nat.le_refl _⟩ X hl hg)
section MX12_letters
variable {p : Program} {l : Launch} {e : Env} {R : Room} {s : State} {m : MethodId} {args : Array Value} {below : List Frame} {meth : Method} {c : Code} {dC : Nat → ClassId} {dI : Nat → Nat → Nat} {Z : ZZ} {A : Nat → Prop} {ad : Nat → Nat} {kc : Nat → ClassId} {r : Unit} {τ : S5}
set_option maxHeartbeats 4000000 in
set_option maxRecDepth 100000 in
theorem w_X12_letters {σ : S5} {a1 : Int32} {H : Heap} {locs : List Loc} {ls : Array Slot} (S : CallFix p m c cX12_letters 2 s args uG RX12) (hr : meth.sig.returnType = none) (hk : meth.locks = false) (hR : 0 ≤ R.frames ∧ 0 ≤ R.locals)
    (X : gX (dC, dI) (tM kc) (wM ad kc) Z A s σ H locs) (hl : lv_has ls 2 [(0, .ref (ad 0)), (1, .int a1)]) (hg : f_X12_letters a1 σ = some (r, τ)) : W p l e R s m args below meth c H locs 0 0 (MQ below (gQv (dC, dI) (tM kc) (wM ad kc) A r τ) args s 0 0 A) (F0 m 0 ls []) := by
  have hx := S.1
  have hb := S.2.1
  have hown := S.2.2.2.1
  have hu := S.2.2.2.2
  unfold f_X12_letters at hg
  refine lv_aload_n hx hb dX12_letters_0 rfl (lv_at hl 0 rfl) ?_
  refine wmgI_56 (v := (gI σ 56)) S X mG_2184 rfl dX12_letters_1 ?_
  refine lv_sipush (v := 12001) hx hb dX12_letters_4 (by decide) ?_
  refine lv_icmp_ge (tgt := 30) hx hb dX12_letters_7 (by decide) (fun c7 => ?_) (fun c7 => ?_)
  · have hg := (if_pos c7).symm.trans hg
    obtain ⟨-, rfl⟩ := fin_some hg
    exact gr_v S hr hk X dX12_letters_30
  · have hg := (if_neg c7).symm.trans hg
    refine lv_aload_n hx hb dX12_letters_10 rfl (lv_at hl 0 rfl) ?_
    refine wmgR_0_135 S X mG_2185 dX12_letters_11 ?_
    refine lv_aload_n hx hb dX12_letters_14 rfl (lv_at hl 0 rfl) ?_
    refine wmgI_56 (v := (gI σ 56)) S X mG_2184 rfl dX12_letters_15 ?_
    refine lv_iload_n hx hb dX12_letters_18 rfl (lv_at hl 1 rfl) ?_
    obtain ⟨hi19, hg⟩ := gd_some hg
    refine wmsA_65 S X hi19 dX12_letters_19 (fun H locs X => ?_)
    refine lv_aload_n hx hb dX12_letters_20 rfl (lv_at hl 0 rfl) ?_
    refine lv_dup hx hb dX12_letters_21 rfl ?_
    refine wmgI_56 (v := (gI σ 56)) S X mG_2184 rfl dX12_letters_22 ?_
    refine lv_iconst (v := 1) hx hb dX12_letters_25 (by decide) ?_
    refine lv_iadd hx hb dX12_letters_26 ?_
    refine wmpI_56 S X mG_2184 dX12_letters_27 (fun H locs X => ?_)
    obtain ⟨-, rfl⟩ := fin_some hg
    exact gr_v S hr hk X dX12_letters_30
end MX12_letters
set_option maxRecDepth 100000 in
theorem k2_X12_letters (l : Launch) (dC : Nat → ClassId) (dI : Nat → Nat → Nat) {Z : ZZ} (ad : Nat → Nat) (kc : Nat → ClassId) {σ τ : S5} {a1 : Int32} {r : Unit} (hg : f_X12_letters a1 σ = some (r, τ)) (sz : Nat) : Met l yX12_letters (Cond.code yX12_letters cX12_letters 2 none :: uG) { frames := 0, cells := 0, slots := 0, locals := 0 } (gPc (dC, dI) (tM kc) (wM ad kc) Z [.ref (ad 0), .int a1] σ sz) (gQv (dC, dI) (tM kc) (wM ad kc) (va_A (wM ad kc σ) sz) r τ) 0 0 (va_A (wM ad kc σ) sz) :=
  g_start (by decide) (Nat.le_of_ble_eq_true rfl) (fun p e s m below meth c ls S hr hk X hl => w_X12_letters S hr hk ⟨Nat.le_refl _, Nat.le_refl _⟩ X hl hg)
section MX12_signs
variable {p : Program} {l : Launch} {e : Env} {R : Room} {s : State} {m : MethodId} {args : Array Value} {below : List Frame} {meth : Method} {c : Code} {dC : Nat → ClassId} {dI : Nat → Nat → Nat} {Z : ZZ} {A : Nat → Prop} {ad : Nat → Nat} {kc : Nat → ClassId} {r : Unit} {τ : S5}
set_option maxHeartbeats 4000000 in
set_option maxRecDepth 100000 in
theorem w_X12_signs_b28 {σ : S5} {rec3 : Int64 → Int32 → S5 → Option (Unit × S5)} {v1 : Int64} {v3 : Int32} {H : Heap} {locs : List Loc} {ls : Array Slot} (S : CallFix p m c cX12_signs 5 s args uG RX12) (hr : meth.sig.returnType = none) (hk : meth.locks = false) (hR : 1 ≤ R.frames ∧ 21 ≤ R.locals)
    (hrec3 : ∀ (v1 : Int64) (v3 : Int32) (σ : S5) (H : Heap) (locs : List Loc) (ls : Array Slot), gX (dC, dI) (tM kc) (wM ad kc) Z A s σ H locs → lv_has ls 5 [(0, .ref (ad 0)), (1, .long v1), (3, .int v3)] → rec3 v1 v3 σ = some (r, τ) → W p l e R s m args below meth c H locs 0 0 (MQ below (gQv (dC, dI) (tM kc) (wM ad kc) A r τ) args s 0 0 A) (F0 m 3 ls []))
    (X : gX (dC, dI) (tM kc) (wM ad kc) Z A s σ H locs) (hl : lv_has ls 5 [(0, .ref (ad 0)), (1, .long v1), (3, .int v3)]) (hg : f_X12_signs_b28 rec3 v1 v3 σ = some (r, τ)) : W p l e R s m args below meth c H locs 0 0 (MQ below (gQv (dC, dI) (tM kc) (wM ad kc) A r τ) args s 0 0 A) (F0 m 28 ls []) := by
  have hx := S.1
  have hb := S.2.1
  have hown := S.2.2.2.1
  have hu := S.2.2.2.2
  unfold f_X12_signs_b28 at hg
  refine lv_iinc (v := (v3 + (-8))) (lv' := [(3, .int (v3 + (-8))), (0, .ref (ad 0)), (1, .long v1)]) hx hb dX12_signs_28 hl (k := 2) rfl (by rfl) (by decide) rfl (fun ls hl => ?_)
  refine lv_goto (tgt := 3) hx hb dX12_signs_31 (by decide) ?_
  exact hrec3 _ _ _ _ _ _ X (lv_sub hl [1, 2, 0] rfl) hg
set_option maxHeartbeats 4000000 in
set_option maxRecDepth 100000 in
theorem w_X12_signs_B3 {σ : S5} {rec3 : Int64 → Int32 → S5 → Option (Unit × S5)} {v1 : Int64} {v3 : Int32} {H : Heap} {locs : List Loc} {ls : Array Slot} (S : CallFix p m c cX12_signs 5 s args uG RX12) (hr : meth.sig.returnType = none) (hk : meth.locks = false) (hR : 1 ≤ R.frames ∧ 21 ≤ R.locals)
    (hrec3 : ∀ (v1 : Int64) (v3 : Int32) (σ : S5) (H : Heap) (locs : List Loc) (ls : Array Slot), gX (dC, dI) (tM kc) (wM ad kc) Z A s σ H locs → lv_has ls 5 [(0, .ref (ad 0)), (1, .long v1), (3, .int v3)] → rec3 v1 v3 σ = some (r, τ) → W p l e R s m args below meth c H locs 0 0 (MQ below (gQv (dC, dI) (tM kc) (wM ad kc) A r τ) args s 0 0 A) (F0 m 3 ls []))
    (X : gX (dC, dI) (tM kc) (wM ad kc) Z A s σ H locs) (hl : lv_has ls 5 [(0, .ref (ad 0)), (1, .long v1), (3, .int v3)]) (hg : f_X12_signs_B3 rec3 v1 v3 σ = some (r, τ)) : W p l e R s m args below meth c H locs 0 0 (MQ below (gQv (dC, dI) (tM kc) (wM ad kc) A r τ) args s 0 0 A) (F0 m 3 ls []) := by
  have hx := S.1
  have hb := S.2.1
  have hown := S.2.2.2.1
  have hu := S.2.2.2.2
  unfold f_X12_signs_B3 at hg
  refine lv_iload_n hx hb dX12_signs_3 rfl (lv_at hl 2 rfl) ?_
  refine lv_if_lt (tgt := 34) hx hb dX12_signs_4 (by decide) (fun c4 => ?_) (fun c4 => ?_)
  · have hg := (if_pos c4).symm.trans hg
    obtain ⟨-, rfl⟩ := fin_some hg
    exact gr_v S hr hk X dX12_signs_34
  · have hg := (if_neg c4).symm.trans hg
    refine lv_lload_n hx hb dX12_signs_7 rfl (lv_at hl 1 rfl) ?_
    refine lv_iload_n hx hb dX12_signs_8 rfl (lv_at hl 2 rfl) ?_
    refine lv_lshr (v := (j_lshr v1 v3)) hx hb dX12_signs_9 rfl ?_
    refine lv_l2i (v := (((j_lshr v1 v3) : Int64).toInt32)) hx hb dX12_signs_10 rfl ?_
    refine lv_sipush (v := 255) hx hb dX12_signs_11 (by decide) ?_
    refine lv_iand hx hb dX12_signs_14 ?_
    refine lv_istore (lv' := [(4, .int ((((j_lshr v1 v3) : Int64).toInt32) &&& 255)), (0, .ref (ad 0)), (1, .long v1), (3, .int v3)]) hx hb dX12_signs_15 hl (by decide) rfl (fun ls hl => ?_)
    refine lv_iload hx hb dX12_signs_17 (lv_at hl 0 rfl) ?_
    refine lv_if_eq (tgt := 28) hx hb dX12_signs_19 (by decide) (fun c19 => ?_) (fun c19 => ?_)
    · have hg := (if_pos c19).symm.trans hg
      exact w_X12_signs_b28 S hr hk hR hrec3 X (lv_sub hl [1, 2, 3] rfl) hg
    · have hg := (if_neg c19).symm.trans hg
      refine lv_aload_n hx hb dX12_signs_22 rfl (lv_at hl 1 rfl) ?_
      refine lv_iload hx hb dX12_signs_23 (lv_at hl 0 rfl) ?_
      obtain ⟨r25, τ25, hq25, hg⟩ := bd_some hg
      refine gc_Vv (As := [.int ((((j_lshr v1 v3) : Int64).toInt32) &&& 255)]) (rest := []) (q0 := 0) (ci := 15) S X (k2_X12_letters l dC dI ad kc hq25 H.size) cw_X12_letters mG_2923 rfl rfl rfl rfl rfl hl.1 (Nat.le_of_ble_eq_true rfl) dX12_signs_25 ⟨by omega, by omega⟩ (fun H locs X => ?_)
      exact w_X12_signs_b28 S hr hk hR hrec3 X (lv_sub hl [1, 2, 3] rfl) hg
set_option maxHeartbeats 4000000 in
set_option maxRecDepth 100000 in
theorem w_X12_signs_L3 (S : CallFix p m c cX12_signs 5 s args uG RX12) (hr : meth.sig.returnType = none) (hk : meth.locks = false) (hR : 1 ≤ R.frames ∧ 21 ≤ R.locals) : ∀ (n : Nat) (v1 : Int64) (v3 : Int32) (σ : S5) (H : Heap) (locs : List Loc) (ls : Array Slot), gX (dC, dI) (tM kc) (wM ad kc) Z A s σ H locs → lv_has ls 5 [(0, .ref (ad 0)), (1, .long v1), (3, .int v3)] → f_X12_signs_L3  n v1 v3 σ = some (r, τ) → W p l e R s m args below meth c H locs 0 0 (MQ below (gQv (dC, dI) (tM kc) (wM ad kc) A r τ) args s 0 0 A) (F0 m 3 ls []) := by
  intro n
  induction n with
  | zero => intro v1 v3 σ H locs ls X hl hg; cases hg
  | succ n ih => intro v1 v3 σ H locs ls X hl hg; exact w_X12_signs_B3 S hr hk hR ih X hl hg
set_option maxHeartbeats 4000000 in
set_option maxRecDepth 100000 in
theorem w_X12_signs {σ : S5} {a1 : Int64} {H : Heap} {locs : List Loc} {ls : Array Slot} (S : CallFix p m c cX12_signs 5 s args uG RX12) (hr : meth.sig.returnType = none) (hk : meth.locks = false) (hR : 1 ≤ R.frames ∧ 21 ≤ R.locals)
    (X : gX (dC, dI) (tM kc) (wM ad kc) Z A s σ H locs) (hl : lv_has ls 5 [(0, .ref (ad 0)), (1, .long a1)]) (hg : f_X12_signs a1 σ = some (r, τ)) : W p l e R s m args below meth c H locs 0 0 (MQ below (gQv (dC, dI) (tM kc) (wM ad kc) A r τ) args s 0 0 A) (F0 m 0 ls []) := by
  have hx := S.1
  have hb := S.2.1
  have hown := S.2.2.2.1
  have hu := S.2.2.2.2
  unfold f_X12_signs at hg
  refine lv_bipush (v := 56) hx hb dX12_signs_0 (by decide) ?_
  refine lv_istore_n (lv' := [(3, .int 56), (0, .ref (ad 0)), (1, .long a1)]) hx hb dX12_signs_2 rfl hl (by decide) rfl (fun ls hl => ?_)
  exact w_X12_signs_L3 S hr hk hR _ _ _ _ _ _ _ X (lv_sub hl [1, 2, 0] rfl) hg
end MX12_signs
set_option maxRecDepth 100000 in
theorem k2_X12_signs (l : Launch) (dC : Nat → ClassId) (dI : Nat → Nat → Nat) {Z : ZZ} (ad : Nat → Nat) (kc : Nat → ClassId) {σ τ : S5} {a1 : Int64} {r : Unit} (hg : f_X12_signs a1 σ = some (r, τ)) (sz : Nat) : Met l yX12_signs (Cond.code yX12_signs cX12_signs 5 none :: uG) { frames := 1, cells := 0, slots := 0, locals := 21 } (gPc (dC, dI) (tM kc) (wM ad kc) Z [.ref (ad 0), .long a1] σ sz) (gQv (dC, dI) (tM kc) (wM ad kc) (va_A (wM ad kc σ) sz) r τ) 0 0 (va_A (wM ad kc σ) sz) :=
  g_start (by decide) (Nat.le_of_ble_eq_true rfl) (fun p e s m below meth c ls S hr hk X hl => w_X12_signs S hr hk ⟨Nat.le_refl _, Nat.le_refl _⟩ X hl hg)
section MX12_digits
variable {p : Program} {l : Launch} {e : Env} {R : Room} {s : State} {m : MethodId} {args : Array Value} {below : List Frame} {meth : Method} {c : Code} {dC : Nat → ClassId} {dI : Nat → Nat → Nat} {Z : ZZ} {A : Nat → Prop} {ad : Nat → Nat} {kc : Nat → ClassId} {r : Unit} {τ : S5}
set_option maxHeartbeats 4000000 in
set_option maxRecDepth 100000 in
theorem w_X12_digits_B20 {σ : S5} {rec20 : Int32 → Int32 → S5 → Option (Unit × S5)} {v1 : Int32} {v3 : Int32} {H : Heap} {locs : List Loc} {ls : Array Slot} (S : CallFix p m c cX12_digits 4 s args uG RX12) (hr : meth.sig.returnType = none) (hk : meth.locks = false) (hR : 1 ≤ R.frames ∧ 21 ≤ R.locals)
    (hrec20 : ∀ (v1 : Int32) (v3 : Int32) (σ : S5) (H : Heap) (locs : List Loc) (ls : Array Slot), gX (dC, dI) (tM kc) (wM ad kc) Z A s σ H locs → lv_has ls 4 [(0, .ref (ad 0)), (1, .int v1), (3, .int v3)] → rec20 v1 v3 σ = some (r, τ) → W p l e R s m args below meth c H locs 0 0 (MQ below (gQv (dC, dI) (tM kc) (wM ad kc) A r τ) args s 0 0 A) (F0 m 20 ls []))
    (X : gX (dC, dI) (tM kc) (wM ad kc) Z A s σ H locs) (hl : lv_has ls 4 [(0, .ref (ad 0)), (1, .int v1), (3, .int v3)]) (hg : f_X12_digits_B20 rec20 v1 v3 σ = some (r, τ)) : W p l e R s m args below meth c H locs 0 0 (MQ below (gQv (dC, dI) (tM kc) (wM ad kc) A r τ) args s 0 0 A) (F0 m 20 ls []) := by
  have hx := S.1
  have hb := S.2.1
  have hown := S.2.2.2.1
  have hu := S.2.2.2.2
  unfold f_X12_digits_B20 at hg
  refine lv_iload_n hx hb dX12_digits_20 rfl (lv_at hl 2 rfl) ?_
  refine lv_if_le (tgt := 45) hx hb dX12_digits_21 (by decide) (fun c21 => ?_) (fun c21 => ?_)
  · have hg := (if_pos c21).symm.trans hg
    obtain ⟨-, rfl⟩ := fin_some hg
    exact gr_v S hr hk X dX12_digits_45
  · have hg := (if_neg c21).symm.trans hg
    refine lv_aload_n hx hb dX12_digits_24 rfl (lv_at hl 0 rfl) ?_
    refine lv_bipush (v := 48) hx hb dX12_digits_25 (by decide) ?_
    refine lv_iload_n hx hb dX12_digits_27 rfl (lv_at hl 1 rfl) ?_
    refine lv_iload_n hx hb dX12_digits_28 rfl (lv_at hl 2 rfl) ?_
    obtain ⟨hz29, hg⟩ := gz_some hg
    refine lv_idiv hx hb dX12_digits_29 (hz29) ?_
    refine lv_bipush (v := 10) hx hb dX12_digits_30 (by decide) ?_
    refine lv_irem hx hb dX12_digits_32 (by decide) ?_
    refine lv_iadd hx hb dX12_digits_33 ?_
    obtain ⟨r34, τ34, hq34, hg⟩ := bd_some hg
    refine gc_Vv (As := [.int (48 + ((v1 / v3) - (v1 / v3) / 10 * 10))]) (rest := []) (q0 := 0) (ci := 15) S X (k2_X12_letters l dC dI ad kc hq34 H.size) cw_X12_letters mG_2923 rfl rfl rfl rfl rfl hl.1 (Nat.le_of_ble_eq_true rfl) dX12_digits_34 ⟨by omega, by omega⟩ (fun H locs X => ?_)
    refine lv_iload_n hx hb dX12_digits_37 rfl (lv_at hl 2 rfl) ?_
    refine lv_bipush (v := 10) hx hb dX12_digits_38 (by decide) ?_
    refine lv_idiv hx hb dX12_digits_40 (by decide) ?_
    refine lv_istore_n (lv' := [(3, .int (v3 / 10)), (0, .ref (ad 0)), (1, .int v1)]) hx hb dX12_digits_41 rfl hl (by decide) rfl (fun ls hl => ?_)
    refine lv_goto (tgt := 20) hx hb dX12_digits_42 (by decide) ?_
    exact hrec20 _ _ _ _ _ _ X (lv_sub hl [1, 2, 0] rfl) hg
set_option maxHeartbeats 4000000 in
set_option maxRecDepth 100000 in
theorem w_X12_digits_L20 (S : CallFix p m c cX12_digits 4 s args uG RX12) (hr : meth.sig.returnType = none) (hk : meth.locks = false) (hR : 1 ≤ R.frames ∧ 21 ≤ R.locals) : ∀ (n : Nat) (v1 : Int32) (v3 : Int32) (σ : S5) (H : Heap) (locs : List Loc) (ls : Array Slot), gX (dC, dI) (tM kc) (wM ad kc) Z A s σ H locs → lv_has ls 4 [(0, .ref (ad 0)), (1, .int v1), (3, .int v3)] → f_X12_digits_L20  n v1 v3 σ = some (r, τ) → W p l e R s m args below meth c H locs 0 0 (MQ below (gQv (dC, dI) (tM kc) (wM ad kc) A r τ) args s 0 0 A) (F0 m 20 ls []) := by
  intro n
  induction n with
  | zero => intro v1 v3 σ H locs ls X hl hg; cases hg
  | succ n ih => intro v1 v3 σ H locs ls X hl hg; exact w_X12_digits_B20 S hr hk hR ih X hl hg
set_option maxHeartbeats 4000000 in
set_option maxRecDepth 100000 in
theorem w_X12_digits_B2 {σ : S5} {rec2 : Int32 → Int32 → S5 → Option (Unit × S5)} {v1 : Int32} {v2 : Int32} {H : Heap} {locs : List Loc} {ls : Array Slot} (S : CallFix p m c cX12_digits 4 s args uG RX12) (hr : meth.sig.returnType = none) (hk : meth.locks = false) (hR : 1 ≤ R.frames ∧ 21 ≤ R.locals)
    (hrec2 : ∀ (v1 : Int32) (v2 : Int32) (σ : S5) (H : Heap) (locs : List Loc) (ls : Array Slot), gX (dC, dI) (tM kc) (wM ad kc) Z A s σ H locs → lv_has ls 4 [(0, .ref (ad 0)), (1, .int v1), (2, .int v2)] → rec2 v1 v2 σ = some (r, τ) → W p l e R s m args below meth c H locs 0 0 (MQ below (gQv (dC, dI) (tM kc) (wM ad kc) A r τ) args s 0 0 A) (F0 m 2 ls []))
    (X : gX (dC, dI) (tM kc) (wM ad kc) Z A s σ H locs) (hl : lv_has ls 4 [(0, .ref (ad 0)), (1, .int v1), (2, .int v2)]) (hg : f_X12_digits_B2 rec2 v1 v2 σ = some (r, τ)) : W p l e R s m args below meth c H locs 0 0 (MQ below (gQv (dC, dI) (tM kc) (wM ad kc) A r τ) args s 0 0 A) (F0 m 2 ls []) := by
  have hx := S.1
  have hb := S.2.1
  have hown := S.2.2.2.1
  have hu := S.2.2.2.2
  unfold f_X12_digits_B2 at hg
  refine lv_iload_n hx hb dX12_digits_2 rfl (lv_at hl 1 rfl) ?_
  refine lv_iload_n hx hb dX12_digits_3 rfl (lv_at hl 2 rfl) ?_
  obtain ⟨hz4, hg⟩ := gz_some hg
  refine lv_idiv hx hb dX12_digits_4 (hz4) ?_
  refine lv_bipush (v := 9) hx hb dX12_digits_5 (by decide) ?_
  refine lv_icmp_le (tgt := 18) hx hb dX12_digits_7 (by decide) (fun c7 => ?_) (fun c7 => ?_)
  · have hg := (if_pos c7).symm.trans hg
    refine lv_iload_n hx hb dX12_digits_18 rfl (lv_at hl 2 rfl) ?_
    refine lv_istore_n (lv' := [(3, .int v2), (0, .ref (ad 0)), (1, .int v1), (2, .int v2)]) hx hb dX12_digits_19 rfl hl (by decide) rfl (fun ls hl => ?_)
    exact w_X12_digits_L20 S hr hk hR _ _ _ _ _ _ _ X (lv_sub hl [1, 2, 0] rfl) hg
  · have hg := (if_neg c7).symm.trans hg
    refine lv_iload_n hx hb dX12_digits_10 rfl (lv_at hl 2 rfl) ?_
    refine lv_bipush (v := 10) hx hb dX12_digits_11 (by decide) ?_
    refine lv_imul hx hb dX12_digits_13 ?_
    refine lv_istore_n (lv' := [(2, .int (v2 * 10)), (0, .ref (ad 0)), (1, .int v1)]) hx hb dX12_digits_14 rfl hl (by decide) rfl (fun ls hl => ?_)
    refine lv_goto (tgt := 2) hx hb dX12_digits_15 (by decide) ?_
    exact hrec2 _ _ _ _ _ _ X (lv_sub hl [1, 2, 0] rfl) hg
set_option maxHeartbeats 4000000 in
set_option maxRecDepth 100000 in
theorem w_X12_digits_L2 (S : CallFix p m c cX12_digits 4 s args uG RX12) (hr : meth.sig.returnType = none) (hk : meth.locks = false) (hR : 1 ≤ R.frames ∧ 21 ≤ R.locals) : ∀ (n : Nat) (v1 : Int32) (v2 : Int32) (σ : S5) (H : Heap) (locs : List Loc) (ls : Array Slot), gX (dC, dI) (tM kc) (wM ad kc) Z A s σ H locs → lv_has ls 4 [(0, .ref (ad 0)), (1, .int v1), (2, .int v2)] → f_X12_digits_L2  n v1 v2 σ = some (r, τ) → W p l e R s m args below meth c H locs 0 0 (MQ below (gQv (dC, dI) (tM kc) (wM ad kc) A r τ) args s 0 0 A) (F0 m 2 ls []) := by
  intro n
  induction n with
  | zero => intro v1 v2 σ H locs ls X hl hg; cases hg
  | succ n ih => intro v1 v2 σ H locs ls X hl hg; exact w_X12_digits_B2 S hr hk hR ih X hl hg
set_option maxHeartbeats 4000000 in
set_option maxRecDepth 100000 in
theorem w_X12_digits {σ : S5} {a1 : Int32} {H : Heap} {locs : List Loc} {ls : Array Slot} (S : CallFix p m c cX12_digits 4 s args uG RX12) (hr : meth.sig.returnType = none) (hk : meth.locks = false) (hR : 1 ≤ R.frames ∧ 21 ≤ R.locals)
    (X : gX (dC, dI) (tM kc) (wM ad kc) Z A s σ H locs) (hl : lv_has ls 4 [(0, .ref (ad 0)), (1, .int a1)]) (hg : f_X12_digits a1 σ = some (r, τ)) : W p l e R s m args below meth c H locs 0 0 (MQ below (gQv (dC, dI) (tM kc) (wM ad kc) A r τ) args s 0 0 A) (F0 m 0 ls []) := by
  have hx := S.1
  have hb := S.2.1
  have hown := S.2.2.2.1
  have hu := S.2.2.2.2
  unfold f_X12_digits at hg
  refine lv_iconst (v := 1) hx hb dX12_digits_0 (by decide) ?_
  refine lv_istore_n (lv' := [(2, .int 1), (0, .ref (ad 0)), (1, .int a1)]) hx hb dX12_digits_1 rfl hl (by decide) rfl (fun ls hl => ?_)
  exact w_X12_digits_L2 S hr hk hR _ _ _ _ _ _ _ X (lv_sub hl [1, 2, 0] rfl) hg
end MX12_digits
set_option maxRecDepth 100000 in
theorem k2_X12_digits (l : Launch) (dC : Nat → ClassId) (dI : Nat → Nat → Nat) {Z : ZZ} (ad : Nat → Nat) (kc : Nat → ClassId) {σ τ : S5} {a1 : Int32} {r : Unit} (hg : f_X12_digits a1 σ = some (r, τ)) (sz : Nat) : Met l yX12_digits (Cond.code yX12_digits cX12_digits 4 none :: uG) { frames := 1, cells := 0, slots := 0, locals := 21 } (gPc (dC, dI) (tM kc) (wM ad kc) Z [.ref (ad 0), .int a1] σ sz) (gQv (dC, dI) (tM kc) (wM ad kc) (va_A (wM ad kc σ) sz) r τ) 0 0 (va_A (wM ad kc σ) sz) :=
  g_start (by decide) (Nat.le_of_ble_eq_true rfl) (fun p e s m below meth c ls S hr hk X hl => w_X12_digits S hr hk ⟨Nat.le_refl _, Nat.le_refl _⟩ X hl hg)
section MX12_variable
variable {p : Program} {l : Launch} {e : Env} {R : Room} {s : State} {m : MethodId} {args : Array Value} {below : List Frame} {meth : Method} {c : Code} {dC : Nat → ClassId} {dI : Nat → Nat → Nat} {Z : ZZ} {A : Nat → Prop} {ad : Nat → Nat} {kc : Nat → ClassId} {r : Unit} {τ : S5}
set_option maxHeartbeats 4000000 in
set_option maxRecDepth 100000 in
theorem w_X12_variable {σ : S5} {a1 : Int32} {H : Heap} {locs : List Loc} {ls : Array Slot} (S : CallFix p m c cX12_variable 2 s args uG RX12) (hr : meth.sig.returnType = none) (hk : meth.locks = false) (hR : 2 ≤ R.frames ∧ 44 ≤ R.locals)
    (X : gX (dC, dI) (tM kc) (wM ad kc) Z A s σ H locs) (hl : lv_has ls 2 [(0, .ref (ad 0)), (1, .int a1)]) (hg : f_X12_variable a1 σ = some (r, τ)) : W p l e R s m args below meth c H locs 0 0 (MQ below (gQv (dC, dI) (tM kc) (wM ad kc) A r τ) args s 0 0 A) (F0 m 0 ls []) := by
  have hx := S.1
  have hb := S.2.1
  have hown := S.2.2.2.1
  have hu := S.2.2.2.2
  unfold f_X12_variable at hg
  refine lv_aload_n hx hb dX12_variable_0 rfl (lv_at hl 0 rfl) ?_
  refine lv_bipush (v := 118) hx hb dX12_variable_1 (by decide) ?_
  obtain ⟨r3, τ3, hq3, hg⟩ := bd_some hg
  refine gc_Vv (As := [.int 118]) (rest := []) (q0 := 0) (ci := 15) S X (k2_X12_letters l dC dI ad kc hq3 H.size) cw_X12_letters mG_2923 rfl rfl rfl rfl rfl hl.1 (Nat.le_of_ble_eq_true rfl) dX12_variable_3 ⟨by omega, by omega⟩ (fun H locs X => ?_)
  refine lv_aload_n hx hb dX12_variable_6 rfl (lv_at hl 0 rfl) ?_
  refine lv_iload_n hx hb dX12_variable_7 rfl (lv_at hl 1 rfl) ?_
  obtain ⟨r8, τ8, hq8, hg⟩ := bd_some hg
  refine gc_Vv (As := [.int a1]) (rest := []) (q0 := 0) (ci := 15) S X (k2_X12_digits l dC dI ad kc hq8 H.size) cw_X12_digits mG_2927 rfl rfl rfl rfl rfl hl.1 (Nat.le_of_ble_eq_true rfl) dX12_variable_8 ⟨by omega, by omega⟩ (fun H locs X => ?_)
  obtain ⟨-, rfl⟩ := fin_some hg
  exact gr_v S hr hk X dX12_variable_11
end MX12_variable
set_option maxRecDepth 100000 in
theorem k2_X12_variable (l : Launch) (dC : Nat → ClassId) (dI : Nat → Nat → Nat) {Z : ZZ} (ad : Nat → Nat) (kc : Nat → ClassId) {σ τ : S5} {a1 : Int32} {r : Unit} (hg : f_X12_variable a1 σ = some (r, τ)) (sz : Nat) : Met l yX12_variable (Cond.code yX12_variable cX12_variable 2 none :: uG) { frames := 2, cells := 0, slots := 0, locals := 44 } (gPc (dC, dI) (tM kc) (wM ad kc) Z [.ref (ad 0), .int a1] σ sz) (gQv (dC, dI) (tM kc) (wM ad kc) (va_A (wM ad kc σ) sz) r τ) 0 0 (va_A (wM ad kc σ) sz) :=
  g_start (by decide) (Nat.le_of_ble_eq_true rfl) (fun p e s m below meth c ls S hr hk X hl => w_X12_variable S hr hk ⟨Nat.le_refl _, Nat.le_refl _⟩ X hl hg)
section MX12_functionName
variable {p : Program} {l : Launch} {e : Env} {R : Room} {s : State} {m : MethodId} {args : Array Value} {below : List Frame} {meth : Method} {c : Code} {dC : Nat → ClassId} {dI : Nat → Nat → Nat} {Z : ZZ} {A : Nat → Prop} {ad : Nat → Nat} {kc : Nat → ClassId} {r : Unit} {τ : S5}
set_option maxHeartbeats 4000000 in
set_option maxRecDepth 100000 in
theorem w_X12_functionName {σ : S5} {a1 : Int32} {H : Heap} {locs : List Loc} {ls : Array Slot} (S : CallFix p m c cX12_functionName 2 s args uG RX12) (hr : meth.sig.returnType = none) (hk : meth.locks = false) (hR : 2 ≤ R.frames ∧ 48 ≤ R.locals)
    (X : gX (dC, dI) (tM kc) (wM ad kc) Z A s σ H locs) (hl : lv_has ls 2 [(0, .ref (ad 0)), (1, .int a1)]) (hg : f_X12_functionName a1 σ = some (r, τ)) : W p l e R s m args below meth c H locs 0 0 (MQ below (gQv (dC, dI) (tM kc) (wM ad kc) A r τ) args s 0 0 A) (F0 m 0 ls []) := by
  have hx := S.1
  have hb := S.2.1
  have hown := S.2.2.2.1
  have hu := S.2.2.2.2
  unfold f_X12_functionName at hg
  refine lv_iload_n hx hb dX12_functionName_0 rfl (lv_at hl 1 rfl) ?_
  refine lv_aload_n hx hb dX12_functionName_1 rfl (lv_at hl 0 rfl) ?_
  obtain ⟨r2, τ2, hq2, hg⟩ := bd_some hg
  refine gc_Vi (As := []) (rest := [.int a1]) (q0 := 0) (ci := 15) S X (k2_X12_mainFunction l dC dI ad kc hq2 H.size) cw_X12_mainFunction mG_2708 rfl rfl rfl rfl rfl hl.1 (Nat.le_of_ble_eq_true rfl) dX12_functionName_2 ⟨by omega, by omega⟩ (fun H locs X => ?_)
  refine lv_icmp_ne (tgt := 27) hx hb dX12_functionName_5 (by decide) (fun c5 => ?_) (fun c5 => ?_)
  · have hg := (if_neg c5).symm.trans hg
    refine lv_aload_n hx hb dX12_functionName_27 rfl (lv_at hl 0 rfl) ?_
    refine lv_bipush (v := 102) hx hb dX12_functionName_28 (by decide) ?_
    obtain ⟨r30, τ30, hq30, hg⟩ := bd_some hg
    refine gc_Vv (As := [.int 102]) (rest := []) (q0 := 0) (ci := 15) S X (k2_X12_letters l dC dI ad kc hq30 H.size) cw_X12_letters mG_2923 rfl rfl rfl rfl rfl hl.1 (Nat.le_of_ble_eq_true rfl) dX12_functionName_30 ⟨by omega, by omega⟩ (fun H locs X => ?_)
    refine lv_aload_n hx hb dX12_functionName_33 rfl (lv_at hl 0 rfl) ?_
    refine lv_iload_n hx hb dX12_functionName_34 rfl (lv_at hl 1 rfl) ?_
    obtain ⟨r35, τ35, hq35, hg⟩ := bd_some hg
    refine gc_Vv (As := [.int a1]) (rest := []) (q0 := 0) (ci := 15) S X (k2_X12_digits l dC dI ad kc hq35 H.size) cw_X12_digits mG_2927 rfl rfl rfl rfl rfl hl.1 (Nat.le_of_ble_eq_true rfl) dX12_functionName_35 ⟨by omega, by omega⟩ (fun H locs X => ?_)
    obtain ⟨-, rfl⟩ := fin_some hg
    exact gr_v S hr hk X dX12_functionName_38
  · have hg := (if_pos c5).symm.trans hg
    refine lv_aload_n hx hb dX12_functionName_8 rfl (lv_at hl 0 rfl) ?_
    refine lv_bipush (v := 109) hx hb dX12_functionName_9 (by decide) ?_
    refine lv_bipush (v := 97) hx hb dX12_functionName_11 (by decide) ?_
    refine lv_bipush (v := 105) hx hb dX12_functionName_13 (by decide) ?_
    refine lv_bipush (v := 110) hx hb dX12_functionName_15 (by decide) ?_
    refine lv_iconst (v := 0) hx hb dX12_functionName_17 (by decide) ?_
    obtain ⟨r18, τ18, hq18, hg⟩ := bd_some hg
    refine gc_Sl (As := [.int 109, .int 97, .int 105, .int 110, .int 0]) (rest := [.ref (ad 0)]) S X (k2_X12_pack l dC dI ad kc hq18 H.size) cw_X12_pack mG_2476 rfl rfl hl.1 (Nat.le_of_ble_eq_true rfl) dX12_functionName_18 ⟨by omega, by omega⟩ (fun H locs X => ?_)
    obtain ⟨r21, τ21, hq21, hg⟩ := bd_some hg
    refine gc_Vv (As := [.long r18]) (rest := []) (q0 := 0) (ci := 15) S X (k2_X12_signs l dC dI ad kc hq21 H.size) cw_X12_signs mG_2919 rfl rfl rfl rfl rfl hl.1 (Nat.le_of_ble_eq_true rfl) dX12_functionName_21 ⟨by omega, by omega⟩ (fun H locs X => ?_)
    refine lv_goto (tgt := 38) hx hb dX12_functionName_24 (by decide) ?_
    obtain ⟨-, rfl⟩ := fin_some hg
    exact gr_v S hr hk X dX12_functionName_38
end MX12_functionName
set_option maxRecDepth 100000 in
theorem k2_X12_functionName (l : Launch) (dC : Nat → ClassId) (dI : Nat → Nat → Nat) {Z : ZZ} (ad : Nat → Nat) (kc : Nat → ClassId) {σ τ : S5} {a1 : Int32} {r : Unit} (hg : f_X12_functionName a1 σ = some (r, τ)) (sz : Nat) : Met l yX12_functionName (Cond.code yX12_functionName cX12_functionName 2 none :: uG) { frames := 2, cells := 0, slots := 0, locals := 48 } (gPc (dC, dI) (tM kc) (wM ad kc) Z [.ref (ad 0), .int a1] σ sz) (gQv (dC, dI) (tM kc) (wM ad kc) (va_A (wM ad kc σ) sz) r τ) 0 0 (va_A (wM ad kc σ) sz) :=
  g_start (by decide) (Nat.le_of_ble_eq_true rfl) (fun p e s m below meth c ls S hr hk X hl => w_X12_functionName S hr hk ⟨Nat.le_refl _, Nat.le_refl _⟩ X hl hg)
section MX12_operation
variable {p : Program} {l : Launch} {e : Env} {R : Room} {s : State} {m : MethodId} {args : Array Value} {below : List Frame} {meth : Method} {c : Code} {dC : Nat → ClassId} {dI : Nat → Nat → Nat} {Z : ZZ} {A : Nat → Prop} {ad : Nat → Nat} {kc : Nat → ClassId} {r : Unit} {τ : S5}
set_option maxHeartbeats 4000000 in
set_option maxRecDepth 100000 in
theorem w_X12_operation_b60 {σ : S5}  {H : Heap} {locs : List Loc} {ls : Array Slot} (S : CallFix p m c cX12_operation 2 s args uG RX12) (hr : meth.sig.returnType = none) (hk : meth.locks = false) (hR : 2 ≤ R.frames ∧ 45 ≤ R.locals)
    (X : gX (dC, dI) (tM kc) (wM ad kc) Z A s σ H locs) (hl : lv_has ls 2 [(0, .ref (ad 0))]) (hg : f_X12_operation_b60  σ = some (r, τ)) : W p l e R s m args below meth c H locs 0 0 (MQ below (gQv (dC, dI) (tM kc) (wM ad kc) A r τ) args s 0 0 A) (F0 m 60 ls []) := by
  have hx := S.1
  have hb := S.2.1
  have hown := S.2.2.2.1
  have hu := S.2.2.2.2
  unfold f_X12_operation_b60 at hg
  refine lv_aload_n hx hb dX12_operation_60 rfl (lv_at hl 0 rfl) ?_
  refine lv_bipush (v := 32) hx hb dX12_operation_61 (by decide) ?_
  obtain ⟨r63, τ63, hq63, hg⟩ := bd_some hg
  refine gc_Vv (As := [.int 32]) (rest := []) (q0 := 0) (ci := 15) S X (k2_X12_letters l dC dI ad kc hq63 H.size) cw_X12_letters mG_2923 rfl rfl rfl rfl rfl hl.1 (Nat.le_of_ble_eq_true rfl) dX12_operation_63 ⟨by omega, by omega⟩ (fun H locs X => ?_)
  obtain ⟨-, rfl⟩ := fin_some hg
  exact gr_v S hr hk X dX12_operation_66
set_option maxHeartbeats 4000000 in
set_option maxRecDepth 100000 in
theorem w_X12_operation {σ : S5} {a1 : Int32} {H : Heap} {locs : List Loc} {ls : Array Slot} (S : CallFix p m c cX12_operation 2 s args uG RX12) (hr : meth.sig.returnType = none) (hk : meth.locks = false) (hR : 2 ≤ R.frames ∧ 45 ≤ R.locals)
    (X : gX (dC, dI) (tM kc) (wM ad kc) Z A s σ H locs) (hl : lv_has ls 2 [(0, .ref (ad 0)), (1, .int a1)]) (hg : f_X12_operation a1 σ = some (r, τ)) : W p l e R s m args below meth c H locs 0 0 (MQ below (gQv (dC, dI) (tM kc) (wM ad kc) A r τ) args s 0 0 A) (F0 m 0 ls []) := by
  have hx := S.1
  have hb := S.2.1
  have hown := S.2.2.2.1
  have hu := S.2.2.2.2
  unfold f_X12_operation at hg
  refine lv_aload_n hx hb dX12_operation_0 rfl (lv_at hl 0 rfl) ?_
  refine lv_bipush (v := 32) hx hb dX12_operation_1 (by decide) ?_
  obtain ⟨r3, τ3, hq3, hg⟩ := bd_some hg
  refine gc_Vv (As := [.int 32]) (rest := []) (q0 := 0) (ci := 15) S X (k2_X12_letters l dC dI ad kc hq3 H.size) cw_X12_letters mG_2923 rfl rfl rfl rfl rfl hl.1 (Nat.le_of_ble_eq_true rfl) dX12_operation_3 ⟨by omega, by omega⟩ (fun H locs X => ?_)
  refine lv_iload_n hx hb dX12_operation_6 rfl (lv_at hl 1 rfl) ?_
  refine lv_bipush (v := 21) hx hb dX12_operation_7 (by decide) ?_
  refine lv_icmp_ne (tgt := 29) hx hb dX12_operation_9 (by decide) (fun c9 => ?_) (fun c9 => ?_)
  · have hg := (if_neg c9).symm.trans hg
    refine lv_iload_n hx hb dX12_operation_29 rfl (lv_at hl 1 rfl) ?_
    refine lv_bipush (v := 22) hx hb dX12_operation_30 (by decide) ?_
    refine lv_icmp_ne (tgt := 52) hx hb dX12_operation_32 (by decide) (fun c32 => ?_) (fun c32 => ?_)
    · have hg := (if_neg c32).symm.trans hg
      refine lv_aload_n hx hb dX12_operation_52 rfl (lv_at hl 0 rfl) ?_
      refine lv_iload_n hx hb dX12_operation_53 rfl (lv_at hl 1 rfl) ?_
      refine lv_bipush (v := 100) hx hb dX12_operation_54 (by decide) ?_
      refine lv_isub hx hb dX12_operation_56 ?_
      obtain ⟨r57, τ57, hq57, hg⟩ := bd_some hg
      refine gc_Vv (As := [.int (a1 - 100)]) (rest := []) (q0 := 0) (ci := 15) S X (k2_X12_letters l dC dI ad kc hq57 H.size) cw_X12_letters mG_2923 rfl rfl rfl rfl rfl hl.1 (Nat.le_of_ble_eq_true rfl) dX12_operation_57 ⟨by omega, by omega⟩ (fun H locs X => ?_)
      exact w_X12_operation_b60 S hr hk hR X (lv_sub hl [0] rfl) hg
    · have hg := (if_pos c32).symm.trans hg
      refine lv_aload_n hx hb dX12_operation_35 rfl (lv_at hl 0 rfl) ?_
      refine lv_bipush (v := 60) hx hb dX12_operation_36 (by decide) ?_
      refine lv_bipush (v := 61) hx hb dX12_operation_38 (by decide) ?_
      refine lv_iconst (v := 0) hx hb dX12_operation_40 (by decide) ?_
      refine lv_iconst (v := 0) hx hb dX12_operation_41 (by decide) ?_
      refine lv_iconst (v := 0) hx hb dX12_operation_42 (by decide) ?_
      obtain ⟨r43, τ43, hq43, hg⟩ := bd_some hg
      refine gc_Sl (As := [.int 60, .int 61, .int 0, .int 0, .int 0]) (rest := [.ref (ad 0)]) S X (k2_X12_pack l dC dI ad kc hq43 H.size) cw_X12_pack mG_2476 rfl rfl hl.1 (Nat.le_of_ble_eq_true rfl) dX12_operation_43 ⟨by omega, by omega⟩ (fun H locs X => ?_)
      obtain ⟨r46, τ46, hq46, hg⟩ := bd_some hg
      refine gc_Vv (As := [.long r43]) (rest := []) (q0 := 0) (ci := 15) S X (k2_X12_signs l dC dI ad kc hq46 H.size) cw_X12_signs mG_2919 rfl rfl rfl rfl rfl hl.1 (Nat.le_of_ble_eq_true rfl) dX12_operation_46 ⟨by omega, by omega⟩ (fun H locs X => ?_)
      refine lv_goto (tgt := 60) hx hb dX12_operation_49 (by decide) ?_
      exact w_X12_operation_b60 S hr hk hR X (lv_sub hl [0] rfl) hg
  · have hg := (if_pos c9).symm.trans hg
    refine lv_aload_n hx hb dX12_operation_12 rfl (lv_at hl 0 rfl) ?_
    refine lv_bipush (v := 61) hx hb dX12_operation_13 (by decide) ?_
    refine lv_bipush (v := 61) hx hb dX12_operation_15 (by decide) ?_
    refine lv_iconst (v := 0) hx hb dX12_operation_17 (by decide) ?_
    refine lv_iconst (v := 0) hx hb dX12_operation_18 (by decide) ?_
    refine lv_iconst (v := 0) hx hb dX12_operation_19 (by decide) ?_
    obtain ⟨r20, τ20, hq20, hg⟩ := bd_some hg
    refine gc_Sl (As := [.int 61, .int 61, .int 0, .int 0, .int 0]) (rest := [.ref (ad 0)]) S X (k2_X12_pack l dC dI ad kc hq20 H.size) cw_X12_pack mG_2476 rfl rfl hl.1 (Nat.le_of_ble_eq_true rfl) dX12_operation_20 ⟨by omega, by omega⟩ (fun H locs X => ?_)
    obtain ⟨r23, τ23, hq23, hg⟩ := bd_some hg
    refine gc_Vv (As := [.long r20]) (rest := []) (q0 := 0) (ci := 15) S X (k2_X12_signs l dC dI ad kc hq23 H.size) cw_X12_signs mG_2919 rfl rfl rfl rfl rfl hl.1 (Nat.le_of_ble_eq_true rfl) dX12_operation_23 ⟨by omega, by omega⟩ (fun H locs X => ?_)
    refine lv_goto (tgt := 60) hx hb dX12_operation_26 (by decide) ?_
    exact w_X12_operation_b60 S hr hk hR X (lv_sub hl [0] rfl) hg
end MX12_operation
set_option maxRecDepth 100000 in
theorem k2_X12_operation (l : Launch) (dC : Nat → ClassId) (dI : Nat → Nat → Nat) {Z : ZZ} (ad : Nat → Nat) (kc : Nat → ClassId) {σ τ : S5} {a1 : Int32} {r : Unit} (hg : f_X12_operation a1 σ = some (r, τ)) (sz : Nat) : Met l yX12_operation (Cond.code yX12_operation cX12_operation 2 none :: uG) { frames := 2, cells := 0, slots := 0, locals := 45 } (gPc (dC, dI) (tM kc) (wM ad kc) Z [.ref (ad 0), .int a1] σ sz) (gQv (dC, dI) (tM kc) (wM ad kc) (va_A (wM ad kc σ) sz) r τ) 0 0 (va_A (wM ad kc σ) sz) :=
  g_start (by decide) (Nat.le_of_ble_eq_true rfl) (fun p e s m below meth c ls S hr hk X hl => w_X12_operation S hr hk ⟨Nat.le_refl _, Nat.le_refl _⟩ X hl hg)
section MX12_pattern
variable {p : Program} {l : Launch} {e : Env} {R : Room} {s : State} {m : MethodId} {args : Array Value} {below : List Frame} {meth : Method} {c : Code} {dC : Nat → ClassId} {dI : Nat → Nat → Nat} {Z : ZZ} {A : Nat → Prop} {ad : Nat → Nat} {kc : Nat → ClassId} {r : Unit} {τ : S5}
set_option maxHeartbeats 4000000 in
set_option maxRecDepth 100000 in
theorem w_X12_pattern_B59 {σ : S5} {rec59 : Int32 → Int32 → S5 → Option (Unit × S5)} {v1 : Int32} {v2 : Int32} {H : Heap} {locs : List Loc} {ls : Array Slot} (S : CallFix p m c cX12_pattern 3 s args uG RX12) (hr : meth.sig.returnType = none) (hk : meth.locks = false) (hR : 3 ≤ R.frames ∧ 65 ≤ R.locals)
    (hrec59 : ∀ (v1 : Int32) (v2 : Int32) (σ : S5) (H : Heap) (locs : List Loc) (ls : Array Slot), gX (dC, dI) (tM kc) (wM ad kc) Z A s σ H locs → lv_has ls 3 [(0, .ref (ad 0)), (1, .int v1), (2, .int v2)] → rec59 v1 v2 σ = some (r, τ) → W p l e R s m args below meth c H locs 0 0 (MQ below (gQv (dC, dI) (tM kc) (wM ad kc) A r τ) args s 0 0 A) (F0 m 59 ls []))
    (X : gX (dC, dI) (tM kc) (wM ad kc) Z A s σ H locs) (hl : lv_has ls 3 [(0, .ref (ad 0)), (1, .int v1), (2, .int v2)]) (hg : f_X12_pattern_B59 rec59 v1 v2 σ = some (r, τ)) : W p l e R s m args below meth c H locs 0 0 (MQ below (gQv (dC, dI) (tM kc) (wM ad kc) A r τ) args s 0 0 A) (F0 m 59 ls []) := by
  have hx := S.1
  have hb := S.2.1
  have hown := S.2.2.2.1
  have hu := S.2.2.2.2
  unfold f_X12_pattern_B59 at hg
  refine lv_iload_n hx hb dX12_pattern_59 rfl (lv_at hl 2 rfl) ?_
  refine lv_aload_n hx hb dX12_pattern_60 rfl (lv_at hl 0 rfl) ?_
  refine wmgR_0_78 S X mG_2128 dX12_pattern_61 ?_
  refine lv_iload_n hx hb dX12_pattern_64 rfl (lv_at hl 1 rfl) ?_
  obtain ⟨hi65, hg⟩ := gd_some hg
  refine wmlA_43 (v := (xA σ 43 v1)) S X hi65 rfl dX12_pattern_65 ?_
  refine lv_icmp_ge (tgt := 93) hx hb dX12_pattern_66 (by decide) (fun c66 => ?_) (fun c66 => ?_)
  · have hg := (if_pos c66).symm.trans hg
    refine lv_aload_n hx hb dX12_pattern_93 rfl (lv_at hl 0 rfl) ?_
    refine lv_bipush (v := 32) hx hb dX12_pattern_94 (by decide) ?_
    refine lv_bipush (v := 45) hx hb dX12_pattern_96 (by decide) ?_
    refine lv_bipush (v := 62) hx hb dX12_pattern_98 (by decide) ?_
    refine lv_bipush (v := 32) hx hb dX12_pattern_100 (by decide) ?_
    refine lv_iconst (v := 0) hx hb dX12_pattern_102 (by decide) ?_
    obtain ⟨r103, τ103, hq103, hg⟩ := bd_some hg
    refine gc_Sl (As := [.int 32, .int 45, .int 62, .int 32, .int 0]) (rest := [.ref (ad 0)]) S X (k2_X12_pack l dC dI ad kc hq103 H.size) cw_X12_pack mG_2476 rfl rfl hl.1 (Nat.le_of_ble_eq_true rfl) dX12_pattern_103 ⟨by omega, by omega⟩ (fun H locs X => ?_)
    obtain ⟨r106, τ106, hq106, hg⟩ := bd_some hg
    refine gc_Vv (As := [.long r103]) (rest := []) (q0 := 0) (ci := 15) S X (k2_X12_signs l dC dI ad kc hq106 H.size) cw_X12_signs mG_2919 rfl rfl rfl rfl rfl hl.1 (Nat.le_of_ble_eq_true rfl) dX12_pattern_106 ⟨by omega, by omega⟩ (fun H locs X => ?_)
    obtain ⟨-, rfl⟩ := fin_some hg
    exact gr_v S hr hk X dX12_pattern_109
  · have hg := (if_neg c66).symm.trans hg
    refine lv_aload_n hx hb dX12_pattern_69 rfl (lv_at hl 0 rfl) ?_
    refine lv_bipush (v := 32) hx hb dX12_pattern_70 (by decide) ?_
    obtain ⟨r72, τ72, hq72, hg⟩ := bd_some hg
    refine gc_Vv (As := [.int 32]) (rest := []) (q0 := 0) (ci := 15) S X (k2_X12_letters l dC dI ad kc hq72 H.size) cw_X12_letters mG_2923 rfl rfl rfl rfl rfl hl.1 (Nat.le_of_ble_eq_true rfl) dX12_pattern_72 ⟨by omega, by omega⟩ (fun H locs X => ?_)
    refine lv_aload_n hx hb dX12_pattern_75 rfl (lv_at hl 0 rfl) ?_
    refine lv_aload_n hx hb dX12_pattern_76 rfl (lv_at hl 0 rfl) ?_
    refine wmgR_0_77 S X mG_2127 dX12_pattern_77 ?_
    refine lv_iload_n hx hb dX12_pattern_80 rfl (lv_at hl 1 rfl) ?_
    obtain ⟨hi81, hg⟩ := gd_some hg
    refine wmlA_42 (v := (xA τ72 42 v1)) S X hi81 rfl dX12_pattern_81 ?_
    refine lv_iload_n hx hb dX12_pattern_82 rfl (lv_at hl 2 rfl) ?_
    refine lv_iadd hx hb dX12_pattern_83 ?_
    obtain ⟨r84, τ84, hq84, hg⟩ := bd_some hg
    refine gc_Vv (As := [.int ((xA τ72 42 v1) + v2)]) (rest := []) (q0 := 0) (ci := 15) S X (k2_X12_variable l dC dI ad kc hq84 H.size) cw_X12_variable mG_2935 rfl rfl rfl rfl rfl hl.1 (Nat.le_of_ble_eq_true rfl) dX12_pattern_84 ⟨by omega, by omega⟩ (fun H locs X => ?_)
    refine lv_iinc (v := (v2 + 1)) (lv' := [(2, .int (v2 + 1)), (0, .ref (ad 0)), (1, .int v1)]) hx hb dX12_pattern_87 hl (k := 2) rfl (by rfl) (by decide) rfl (fun ls hl => ?_)
    refine lv_goto (tgt := 59) hx hb dX12_pattern_90 (by decide) ?_
    exact hrec59 _ _ _ _ _ _ X (lv_sub hl [1, 2, 0] rfl) hg
set_option maxHeartbeats 4000000 in
set_option maxRecDepth 100000 in
theorem w_X12_pattern_L59 (S : CallFix p m c cX12_pattern 3 s args uG RX12) (hr : meth.sig.returnType = none) (hk : meth.locks = false) (hR : 3 ≤ R.frames ∧ 65 ≤ R.locals) : ∀ (n : Nat) (v1 : Int32) (v2 : Int32) (σ : S5) (H : Heap) (locs : List Loc) (ls : Array Slot), gX (dC, dI) (tM kc) (wM ad kc) Z A s σ H locs → lv_has ls 3 [(0, .ref (ad 0)), (1, .int v1), (2, .int v2)] → f_X12_pattern_L59  n v1 v2 σ = some (r, τ) → W p l e R s m args below meth c H locs 0 0 (MQ below (gQv (dC, dI) (tM kc) (wM ad kc) A r τ) args s 0 0 A) (F0 m 59 ls []) := by
  intro n
  induction n with
  | zero => intro v1 v2 σ H locs ls X hl hg; cases hg
  | succ n ih => intro v1 v2 σ H locs ls X hl hg; exact w_X12_pattern_B59 S hr hk hR ih X hl hg
set_option maxHeartbeats 4000000 in
set_option maxRecDepth 100000 in
theorem w_X12_pattern_b57 {σ : S5} {v1 : Int32} {H : Heap} {locs : List Loc} {ls : Array Slot} (S : CallFix p m c cX12_pattern 3 s args uG RX12) (hr : meth.sig.returnType = none) (hk : meth.locks = false) (hR : 3 ≤ R.frames ∧ 65 ≤ R.locals)
    (X : gX (dC, dI) (tM kc) (wM ad kc) Z A s σ H locs) (hl : lv_has ls 3 [(0, .ref (ad 0)), (1, .int v1)]) (hg : f_X12_pattern_b57 v1 σ = some (r, τ)) : W p l e R s m args below meth c H locs 0 0 (MQ below (gQv (dC, dI) (tM kc) (wM ad kc) A r τ) args s 0 0 A) (F0 m 57 ls []) := by
  have hx := S.1
  have hb := S.2.1
  have hown := S.2.2.2.1
  have hu := S.2.2.2.2
  unfold f_X12_pattern_b57 at hg
  refine lv_iconst (v := 0) hx hb dX12_pattern_57 (by decide) ?_
  refine lv_istore_n (lv' := [(2, .int 0), (0, .ref (ad 0)), (1, .int v1)]) hx hb dX12_pattern_58 rfl hl (by decide) rfl (fun ls hl => ?_)
  exact w_X12_pattern_L59 S hr hk hR _ _ _ _ _ _ _ X (lv_sub hl [1, 2, 0] rfl) hg
set_option maxHeartbeats 4000000 in
set_option maxRecDepth 100000 in
theorem w_X12_pattern {σ : S5} {a1 : Int32} {H : Heap} {locs : List Loc} {ls : Array Slot} (S : CallFix p m c cX12_pattern 3 s args uG RX12) (hr : meth.sig.returnType = none) (hk : meth.locks = false) (hR : 3 ≤ R.frames ∧ 65 ≤ R.locals)
    (X : gX (dC, dI) (tM kc) (wM ad kc) Z A s σ H locs) (hl : lv_has ls 3 [(0, .ref (ad 0)), (1, .int a1)]) (hg : f_X12_pattern a1 σ = some (r, τ)) : W p l e R s m args below meth c H locs 0 0 (MQ below (gQv (dC, dI) (tM kc) (wM ad kc) A r τ) args s 0 0 A) (F0 m 0 ls []) := by
  have hx := S.1
  have hb := S.2.1
  have hown := S.2.2.2.1
  have hu := S.2.2.2.2
  unfold f_X12_pattern at hg
  refine lv_aload_n hx hb dX12_pattern_0 rfl (lv_at hl 0 rfl) ?_
  refine wmgR_0_75 S X mG_2125 dX12_pattern_1 ?_
  refine lv_iload_n hx hb dX12_pattern_4 rfl (lv_at hl 1 rfl) ?_
  obtain ⟨hi5, hg⟩ := gd_some hg
  refine wmlA_40 (v := (xA σ 40 a1)) S X hi5 rfl dX12_pattern_5 ?_
  refine lv_iconst (v := 2) hx hb dX12_pattern_6 (by decide) ?_
  refine lv_icmp_ne (tgt := 19) hx hb dX12_pattern_7 (by decide) (fun c7 => ?_) (fun c7 => ?_)
  · have hg := (if_neg c7).symm.trans hg
    refine lv_aload_n hx hb dX12_pattern_19 rfl (lv_at hl 0 rfl) ?_
    refine wmgR_0_75 S X mG_2125 dX12_pattern_20 ?_
    refine lv_iload_n hx hb dX12_pattern_23 rfl (lv_at hl 1 rfl) ?_
    obtain ⟨hi24, hg⟩ := gd_some hg
    refine wmlA_40 (v := (xA σ 40 a1)) S X hi24 rfl dX12_pattern_24 ?_
    refine lv_iconst (v := 1) hx hb dX12_pattern_25 (by decide) ?_
    refine lv_icmp_ne (tgt := 42) hx hb dX12_pattern_26 (by decide) (fun c26 => ?_) (fun c26 => ?_)
    · have hg := (if_neg c26).symm.trans hg
      refine lv_aload_n hx hb dX12_pattern_42 rfl (lv_at hl 0 rfl) ?_
      refine lv_aload_n hx hb dX12_pattern_43 rfl (lv_at hl 0 rfl) ?_
      refine wmgR_0_32 S X mG_2082 dX12_pattern_44 ?_
      refine lv_aload_n hx hb dX12_pattern_47 rfl (lv_at hl 0 rfl) ?_
      refine wmgR_0_76 S X mG_2126 dX12_pattern_48 ?_
      refine lv_iload_n hx hb dX12_pattern_51 rfl (lv_at hl 1 rfl) ?_
      obtain ⟨hi52, hg⟩ := gd_some hg
      refine wmlA_41 (v := (xA σ 41 a1)) S X hi52 rfl dX12_pattern_52 ?_
      obtain ⟨hi53, hg⟩ := gd_some hg
      refine wmlB_3 (v := (xB σ 3 (xA σ 41 a1))) S X hi53 rfl dX12_pattern_53 ?_
      obtain ⟨r54, τ54, hq54, hg⟩ := bd_some hg
      refine gc_Vv (As := [.long (xB σ 3 (xA σ 41 a1))]) (rest := []) (q0 := 0) (ci := 15) S X (k2_X12_signs l dC dI ad kc hq54 H.size) cw_X12_signs mG_2919 rfl rfl rfl rfl rfl hl.1 (Nat.le_of_ble_eq_true rfl) dX12_pattern_54 ⟨by omega, by omega⟩ (fun H locs X => ?_)
      exact w_X12_pattern_b57 S hr hk hR X (lv_sub hl [0, 1] rfl) hg
    · have hg := (if_pos c26).symm.trans hg
      refine lv_aload_n hx hb dX12_pattern_29 rfl (lv_at hl 0 rfl) ?_
      refine lv_aload_n hx hb dX12_pattern_30 rfl (lv_at hl 0 rfl) ?_
      refine wmgR_0_76 S X mG_2126 dX12_pattern_31 ?_
      refine lv_iload_n hx hb dX12_pattern_34 rfl (lv_at hl 1 rfl) ?_
      obtain ⟨hi35, hg⟩ := gd_some hg
      refine wmlA_41 (v := (xA σ 41 a1)) S X hi35 rfl dX12_pattern_35 ?_
      obtain ⟨r36, τ36, hq36, hg⟩ := bd_some hg
      refine gc_Vv (As := [.int (xA σ 41 a1)]) (rest := []) (q0 := 0) (ci := 15) S X (k2_X12_digits l dC dI ad kc hq36 H.size) cw_X12_digits mG_2927 rfl rfl rfl rfl rfl hl.1 (Nat.le_of_ble_eq_true rfl) dX12_pattern_36 ⟨by omega, by omega⟩ (fun H locs X => ?_)
      refine lv_goto (tgt := 57) hx hb dX12_pattern_39 (by decide) ?_
      exact w_X12_pattern_b57 S hr hk hR X (lv_sub hl [0, 1] rfl) hg
  · have hg := (if_pos c7).symm.trans hg
    refine lv_aload_n hx hb dX12_pattern_10 rfl (lv_at hl 0 rfl) ?_
    refine lv_bipush (v := 95) hx hb dX12_pattern_11 (by decide) ?_
    obtain ⟨r13, τ13, hq13, hg⟩ := bd_some hg
    refine gc_Vv (As := [.int 95]) (rest := []) (q0 := 0) (ci := 15) S X (k2_X12_letters l dC dI ad kc hq13 H.size) cw_X12_letters mG_2923 rfl rfl rfl rfl rfl hl.1 (Nat.le_of_ble_eq_true rfl) dX12_pattern_13 ⟨by omega, by omega⟩ (fun H locs X => ?_)
    refine lv_goto (tgt := 57) hx hb dX12_pattern_16 (by decide) ?_
    exact w_X12_pattern_b57 S hr hk hR X (lv_sub hl [0, 1] rfl) hg
end MX12_pattern
set_option maxRecDepth 100000 in
theorem k2_X12_pattern (l : Launch) (dC : Nat → ClassId) (dI : Nat → Nat → Nat) {Z : ZZ} (ad : Nat → Nat) (kc : Nat → ClassId) {σ τ : S5} {a1 : Int32} {r : Unit} (hg : f_X12_pattern a1 σ = some (r, τ)) (sz : Nat) : Met l yX12_pattern (Cond.code yX12_pattern cX12_pattern 3 none :: uG) { frames := 3, cells := 0, slots := 0, locals := 65 } (gPc (dC, dI) (tM kc) (wM ad kc) Z [.ref (ad 0), .int a1] σ sz) (gQv (dC, dI) (tM kc) (wM ad kc) (va_A (wM ad kc σ) sz) r τ) 0 0 (va_A (wM ad kc σ) sz) :=
  g_start (by decide) (Nat.le_of_ble_eq_true rfl) (fun p e s m below meth c ls S hr hk X hl => w_X12_pattern S hr hk ⟨Nat.le_refl _, Nat.le_refl _⟩ X hl hg)
